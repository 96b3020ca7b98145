/-! new int[n][k] over the machine's own words: the states on the way, one state a row -/
section
/-- the outer array with i rows hung in -/
def z_go (cA : ClassId) (N h i : Nat) : Cell := arrV cA N (fun j => va_rf (if j < i then some (h + 1 + j) else none))
/-- the state with i rows made -/
def z_gs (s : State) (cA cR : ClassId) (N M : Nat) : Nat → State
  | 0 => s.pushCell (z_go cA N s.heap.size 0)
  | i + 1 => ((z_gs s cA cR N M i).pushCell (arrV cR M (fun _ => .int 0))).setCell s.heap.size (z_go cA N s.heap.size (i + 1))
theorem z_go_zero (cA : ClassId) (N h : Nat) : z_go cA N h 0 = arrV cA N (fun _ => .null) :=
  congrArg (arrV cA N) (funext fun j => by simp [va_rf])
theorem z_go_hang (cA : ClassId) (N h i : Nat) : (z_go cA N h i).setSlot i (.ref (h + 1 + i)) = z_go cA N h (i + 1) := by
  unfold z_go
  rw [arrV_store]
  refine congrArg (arrV cA N) (funext fun j => ?_)
  rcases Nat.lt_trichotomy j i with h1 | h1 | h1
  · simp [updV, Nat.ne_of_lt h1, h1, Nat.lt_succ_of_lt h1]
  · subst h1
    simp [updV, va_rf]
  · simp [updV, Nat.ne_of_gt h1, Nat.not_lt.mpr (Nat.le_of_lt h1), show ¬ j < i + 1 by omega]
/-- what such a state holds -/
theorem z_gs_is (s : State) (cA cR : ClassId) (N M : Nat) (i : Nat) : (z_gs s cA cR N M i).vm = s.vm ∧ (z_gs s cA cR N M i).heap.size = s.heap.size + 1 + i ∧ (z_gs s cA cR N M i).slotsUsed = s.slotsUsed + N + i * M ∧ (z_gs s cA cR N M i).heap[s.heap.size]? = some (z_go cA N s.heap.size i) ∧ (∀ x : Nat, x < s.heap.size → (z_gs s cA cR N M i).heap[x]? = s.heap[x]?) ∧ ∀ j : Nat, j < i → (z_gs s cA cR N M i).heap[s.heap.size + 1 + j]? = some (arrV cR M (fun _ => .int 0)) := by
  induction i with
  | zero => exact ⟨rfl, by simp [z_gs], by simp [z_gs, z_go, arrV_size], by simp [z_gs], fun x hx => State.heap_pushCell_of_lt _ _ hx, fun j hj => absurd hj (Nat.not_lt_zero j)⟩
  | succ i ih =>
    obtain ⟨i1, i2, i3, i4, i5, i6⟩ := ih
    have old : ∀ x : Nat, x < s.heap.size + 1 + i → ((z_gs s cA cR N M i).pushCell (arrV cR M (fun _ => .int 0))).heap[x]? = (z_gs s cA cR N M i).heap[x]? := fun x hx => State.heap_pushCell_of_lt _ _ (i2.symm ▸ hx)
    have far : ∀ x : Nat, s.heap.size ≠ x → (z_gs s cA cR N M (i + 1)).heap[x]? = ((z_gs s cA cR N M i).pushCell (arrV cR M (fun _ => .int 0))).heap[x]? := fun x hx => State.heap_setCell_other hx
    refine ⟨by simp [z_gs, i1], by simp [z_gs, State.setCell, i2]; omega, by simp [z_gs, i3, arrV_size, Nat.succ_mul]; omega, ?_, fun x hx => ?_, fun j hj => ?_⟩
    · exact State.heap_setCell_self ((old _ (by omega)).trans i4)
    · rw [far x (by omega), old x (by omega)]
      exact i5 x hx
    · rw [far _ (by omega)]
      rcases Nat.lt_or_ge j i with h | h
      · rw [old _ (by omega)]
        exact i6 j h
      · have e1 : s.heap.size + 1 + j = (z_gs s cA cR N M i).heap.size := by omega
        rw [e1]
        exact State.heap_pushCell_size _ _
theorem z_gs_top (s : State) (g : JFrame) (cA cR : ClassId) (N M i : Nat) : z_gs (s.setTop g) cA cR N M i = (z_gs s cA cR N M i).setTop g := by
  induction i with
  | zero => rfl
  | succ i ih =>
    unfold z_gs
    rw [ih, State.heap_setTop, State.pushCell_setTop, State.setCell_setTop]
end
section
variable {E : CtlPost} {e : Env} {d : Bool} {acts : List Action} {s : State}
/-- a loop over 0 .. N - 1 whose states have a name each -/
theorem z_for {G : Nat → State} {N : Nat} {f : Nat → PUnit → Sem (ForInStep PUnit)} (hf : ∀ i : Nat, i < N → ∀ (d1 : Bool) (a1 : List Action) (Q1 : ForInStep PUnit → Pre), (∀ d2 a2, Q1 (.yield PUnit.unit) d2 a2 (G (i + 1))) → wp (f i PUnit.unit) Q1 E e d1 a1 (G i)) {Q : PUnit → Pre} (hQ : ∀ d2 a2, Q PUnit.unit d2 a2 (G N)) (j : Nat) : ∀ (i : Nat) (d1 : Bool) (a1 : List Action), i + j = N → wp (forIn (List.range' i j 1) PUnit.unit f) Q E e d1 a1 (G i) := by
  induction j with
  | zero =>
    intro i d1 a1 h
    rw [List.range'_zero, List.forIn_nil, wp_pure']
    have : i = N := by omega
    subst this
    exact hQ d1 a1
  | succ j ih =>
    intro i d1 a1 h
    rw [List.range'_succ, List.forIn_cons, wp_bind']
    exact hf i (by omega) d1 a1 _ (fun d2 a2 => ih (i + 1) d2 a2 (by omega))
/-- one new array, its slots all at their first value -/
theorem z_wnew {cA cR : ClassId} {k : Class} {ty : FieldType} {n : Nat} {x : Value} (hk : s.vm.classes[cA]? = some k) (hd : k.kind = .array cR ty) (hx : fits ty x = true) (hl : n ≤ e.platform.arrayLengthLimit) (hb : n * componentBytes ty ≤ e.platform.maxHeapBytes) (hc : s.heap.size < e.platform.maxCells) (hs : s.slotsUsed + n ≤ e.platform.maxSlots) {Q : Addr → Pre} (hQ : ∀ a2, Q s.heap.size d a2 (s.pushCell (arrV cA n (fun _ => x)))) : wp (Jvm.newArray cA n x) Q E e d acts s := by
  have g1 : ¬ n > e.platform.arrayLengthLimit := Nat.not_lt.mpr hl
  have g2 : ¬ n * componentBytes ty > e.platform.maxHeapBytes := Nat.not_lt.mpr hb
  have g3 : ¬ n > e.platform.maxSlots := by omega
  simp only [Jvm.newArray, Jvm.arrayFits, wp_bind', W.ask, W.ite, g1, if_false, wp_pure', W.theClass, hk, hd, g2, g3, W.alloc, W.stop, Option.some.injEq, exists_eq_left', Array.size_replicate]
  refine ⟨hc, hs, fun i v hv => ?_, ?_⟩
  · rw [Array.getElem?_replicate] at hv
    by_cases hi : i < n
    · rw [if_pos hi] at hv
      cases hv
      simp [State.fitsSlot, State.slotType?, hk, hd, hx]
    · rw [if_neg hi] at hv
      cases hv
  · rw [arrV_new]
    exact hQ _
end
section
variable {E : CtlPost} {e : Env} {d : Bool} {acts : List Action} {s : State}
/-- a row: the machine's way to an array of one length -/
theorem z_wrow {cR cI : ClassId} {kR : Class} {k : Int32} (hR : s.vm.classes[cR]? = some kR) (hr : kR.kind = .array cI .int) (hk : ¬ k < 0) (hl : k.toNatClampNeg ≤ e.platform.arrayLengthLimit) (hb : k.toNatClampNeg * 4 ≤ e.platform.maxHeapBytes) (hc : s.heap.size < e.platform.maxCells) (hs : s.slotsUsed + k.toNatClampNeg ≤ e.platform.maxSlots) {Q : Addr → Pre} (hQ : ∀ a2, Q s.heap.size d a2 (s.pushCell (arrV cR k.toNatClampNeg (fun _ => .int 0)))) : wp (multianewarray.make cR [k]) Q E e d acts s := by
  unfold multianewarray.make
  simp only [wp_bind', W.ite, hk, if_false, wp_pure', W.theClass, hR, hr, Option.some.injEq, exists_eq_left']
  exact z_wnew (ty := .int) hR hr rfl hl hb hc hs hQ
/-- the grid: the outer array, then row after row, each hung in as it is made -/
theorem z_wgrid {cA cR cI : ClassId} {kA kR : Class} {n k : Int32} (hA : s.vm.classes[cA]? = some kA) (ha : kA.kind = .array cR (.array .int)) (hR : s.vm.classes[cR]? = some kR) (hr : kR.kind = .array cI .int) (hn : ¬ n < 0) (hk : ¬ k < 0) (hl : n.toNatClampNeg ≤ e.platform.arrayLengthLimit) (hb : n.toNatClampNeg * 4 ≤ e.platform.maxHeapBytes) (hl2 : k.toNatClampNeg ≤ e.platform.arrayLengthLimit) (hb2 : k.toNatClampNeg * 4 ≤ e.platform.maxHeapBytes) (hc : s.heap.size + (1 + n.toNatClampNeg) ≤ e.platform.maxCells) (hs : s.slotsUsed + (n.toNatClampNeg + n.toNatClampNeg * k.toNatClampNeg) ≤ e.platform.maxSlots) {Q : Addr → Pre} (hQ : ∀ d2 a2, Q s.heap.size d2 a2 (z_gs s cA cR n.toNatClampNeg k.toNatClampNeg n.toNatClampNeg)) : wp (multianewarray.make cA [n, k]) Q E e d acts s := by
  have hnone : [k].find? (· < 0) = none := by simp [hk]
  unfold multianewarray.make
  simp only [wp_bind', W.ite, hn, if_false, wp_pure', W.theClass, hA, ha, Option.some.injEq, exists_eq_left']
  refine z_wnew (ty := .array .int) hA ha rfl hl hb (by omega) (by omega) (fun a2 => ?_)
  simp only [hnone]
  rw [ite_self, wp_bind', Std.Legacy.Range.forIn_eq_forIn_range']
  have hz : ([:n.toNatClampNeg] : Std.Legacy.Range).size = n.toNatClampNeg := by simp [Std.Legacy.Range.size]
  rw [hz, ← z_go_zero cA n.toNatClampNeg s.heap.size]
  refine z_for (G := z_gs s cA cR n.toNatClampNeg k.toNatClampNeg) (N := n.toNatClampNeg) (fun i hi d1 a1 Q1 h1 => ?_) (fun d2 a3 => ?_) n.toNatClampNeg 0 d a2 (Nat.zero_add _)
  · obtain ⟨i1, i2, i3, i4, -, -⟩ := z_gs_is s cA cR n.toNatClampNeg k.toNatClampNeg i
    have hmul : i * k.toNatClampNeg + k.toNatClampNeg ≤ n.toNatClampNeg * k.toNatClampNeg := by
      rw [← Nat.succ_mul]
      exact Nat.mul_le_mul_right _ hi
    simp only [wp_bind']
    refine z_wrow (by rw [i1]; exact hR) hr hk hl2 hb2 (by omega) (by omega) (fun a4 => ?_)
    simp only [wp_bind', W.writeLoc, wp_pure']
    have hlt : s.heap.size < (z_gs s cA cR n.toNatClampNeg k.toNatClampNeg i).heap.size := by omega
    refine ⟨z_go cA n.toNatClampNeg s.heap.size i, (State.heap_pushCell_of_lt _ _ hlt).trans i4, by simp [z_go, arrV], by simp [z_go, arrV_size, hi], ?_, ?_⟩
    · simp [z_go, arrV, State.fitsSlot, State.slotType?, i1, hA, ha, fits]
    · rw [i2, z_go_hang]
      exact h1 _ _
  · simp only [wp_pure']
    exact hQ _ _
end
section
variable {p : Program} {l : Launch} {e : Env} {R : Room} {s : State} {m : MethodId} {args : Array Value} {below : List Frame} {meth : Method} {c : Code} {T : State} {locs : List Loc} {cells slots : Nat}
theorem z_gs_st (X : Stand p l e R s m args below meth c T locs cells slots) (cA cR : ClassId) (N M i : Nat) : Stand p l e R s m args below meth c (z_gs T cA cR N M i) locs (cells + 1 + i) (slots + N + i * M) := by
  induction i with
  | zero =>
    have h := X.pushed (z_go cA N T.heap.size 0)
    rw [show (z_go cA N T.heap.size 0).slots.size = N from arrV_size _ _ _] at h
    rw [Nat.zero_mul]
    exact h
  | succ i ih =>
    obtain ⟨-, i2, -, i4, -, -⟩ := z_gs_is T cA cR N M i
    have hlt : T.heap.size < (z_gs T cA cR N M i).heap.size := by omega
    have h := (ih.pushed (arrV cR M (fun _ => .int 0))).stored ((State.heap_pushCell_of_lt _ _ hlt).trans i4) i (.ref (T.heap.size + 1 + i))
    rw [arrV_size, z_go_hang] at h
    have h2 := h.dropFresh (fun x hx => by cases List.mem_singleton.mp hx; exact X.heapGrown)
    rw [Nat.succ_mul, ← Nat.add_assoc (slots + N), ← Nat.add_assoc (cells + 1)]
    exact h2
/-- THE INSTRUCTION, of int[n][k] -/
theorem z_mna0 (X : Stand p l e R s m args below meth c T locs cells slots) (hx : p.tables.exec = Jvm.exec) {own : String} {idx : Nat} (hown : s.vm.findClass own = some m.cls) (hcl : (Cond.classLink own idx ("[" ++ (FieldType.array .int).toString)).before args s = true) (hov : (Cond.arrayOver (.array .int)).before args s = true) (har : (Cond.arrayClass .int).before args s = true) {g : JFrame} (hg : g.method = m) (hd : decode c.code g.pc = .ok (.multianewarray idx 2, 4)) {n k : Int32} {rest : List Value} (hst : g.stack = .int k :: .int n :: rest) (hn : ¬ n < 0) (hk : ¬ k < 0) (hb1 : n.toNatClampNeg * 4 ≤ 536870912) (hb2 : k.toNatClampNeg * 4 ≤ 536870912) (hu : cells + (1 + n.toNatClampNeg) ≤ R.cells) (hv : slots + (n.toNatClampNeg + n.toNatClampNeg * k.toNatClampNeg) ≤ R.slots) : ∃ (vm₁ : Vm) (cA cR : ClassId), s.vm.findClass ("[" ++ (FieldType.array .int).toString) = some cA ∧ s.vm.findClass (FieldType.array .int).toString = some cR ∧ Stand p l e R s m args below meth c (z_gs (T.setVm vm₁) cA cR n.toNatClampNeg k.toNatClampNeg n.toNatClampNeg) locs (cells + 1 + n.toNatClampNeg) (slots + n.toNatClampNeg + n.toNatClampNeg * k.toNatClampNeg) ∧ ∀ t, Steps p.tables e below ((z_gs (T.setVm vm₁) cA cR n.toNatClampNeg k.toNatClampNeg n.toNatClampNeg).setTop { g with pc := g.pc + 4, stack := .ref T.heap.size :: rest }) t → Steps p.tables e below (T.setTop g) t := by
  subst hg
  obtain ⟨cR, cA, kA, fR, -, hA, ha, fA⟩ := arrayOverA_spec hov
  obtain ⟨cR', kR, cI, fR', hR, hr⟩ := Cond.arrayClass_spec har
  cases fR.symm.trans fR'
  obtain ⟨cA', fA', hlk⟩ := Cond.classLink_spec hown hcl e.platform (by rw [X.admits.platform])
  cases fA.symm.trans fA'
  obtain ⟨hgive, hwarm, -⟩ := State.classEntry (e := e) X.warmed hlk
  generalize T.vm.noted g.method.cls idx (.cls cA) = vm₁ at hgive hwarm
  obtain ⟨kA1, hA1, eA⟩ := hwarm.alike.2.2 _ _ hA
  obtain ⟨kR1, hR1, eR⟩ := hwarm.alike.2.2 _ _ hR
  have X2 := z_gs_st (X.noted hwarm) cA cR n.toNatClampNeg k.toNatClampNeg n.toNatClampNeg
  obtain ⟨hrc, hrs⟩ := X.roomAbove hu hv
  refine ⟨vm₁, cA, cR, fA, fR, X2, fun t ht => ?_⟩
  have lim := Launch.admits_arrayLengthLimit X.admits
  have byt := Launch.admits_maxHeapBytes X.admits
  jvm_step X.here [hx, hd]
  simp only [multianewarray.sem, wp_bind', W.resolveClassAt_links (State.method?_setTop g X.here.top) hgive]
  rw [W.popN, if_neg (by decide)]
  refine ⟨g, State.topJava?_setTop' (s := T.setVm vm₁) g X.here.top, [.int n, .int k], rest, rfl, hst, ?_⟩
  simp only [List.mapM_cons, List.mapM_nil, wp_bind', wp_pure']
  refine z_wgrid (s := ((T.setTop g).setVm vm₁).setTop { g with stack := rest }) (kA := kA1) (kR := kR1) (cI := cI) hA1 (by rw [eA]; exact ha) hR1 (by rw [eR]; exact hr) hn hk (by omega) (by omega) (by omega) (by omega) hrc hrs (fun d2 a2 => ?_)
  have e1 : ((T.setTop g).setVm vm₁).setTop { g with stack := rest } = (T.setVm vm₁).setTop { g with stack := rest } := State.setTop_setTop (T.setVm vm₁) g { g with stack := rest }
  rw [e1, z_gs_top]
  simp only [wp_bind', W.mark, W.pushRef, State.topJava?_setTop' _ X2.here.top, Option.some.injEq, exists_eq_left', State.setTop_setTop, State.heap_setTop]
  intro a3
  simp [jvm, X2.here.top]
  exact ht
end
