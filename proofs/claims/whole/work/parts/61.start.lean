/-! THE START: what the tables say; new objects; the law's walk -/
theorem ar_cls {s : State} {A : Array Value} {t : FieldType} (h : (Cond.arrayClass t).before A s = true) (hv : ∀ c, s.vm.findClass ("[" ++ t.toString) = some c → va_RA s c t) : ∃ c : ClassId, ArrOfT s c t ∧ va_RA s c t := by
  obtain ⟨c, k, comp, h1, h2, h3⟩ := Cond.arrayClass_spec h
  exact ⟨c, fun n z => ⟨fun k h => (by cases h), k, h2, comp, h3⟩, hv c h1⟩
theorem z_ins : ∀ (ci : Nat) (r : vw_C), z_cl[ci]? = some r → Cond.instantiable r.1 r.2.2 ∈ z_T := by
  intro ci r h
  match ci, h with
  | 0, h => cases h; exact wn_0
  | 1, h => cases h; exact wn_1
  | 2, h => cases h; exact wn_2
  | 3, h => cases h; exact wn_3
  | 4, h => cases h; exact wn_4
  | 5, h => cases h; exact wn_5
  | 6, h => cases h; exact wn_6
  | 7, h => cases h; exact wn_7
  | 8, h => cases h; exact wn_8
  | k + 9, h => simp [z_cl] at h
theorem z_known {s : State} {A : Array Value} (hts : ∀ w ∈ lw_tbl, w.before A s = true) : ∃ (D : va_G) (cy : Nat → ClassId), z_Kn D cy s := by
  have hT : ∀ w ∈ z_T, w.before A s = true := fun w hw => hts w (List.mem_filter.mp hw).1
  have h1 : ∀ ci : Nat, ∃ p : ClassId × (Nat → Nat), ∀ r : vw_C, z_cl[ci]? = some r → u_Kn s r.1 r.2.1 r.2.2 p.1 p.2 := fun ci => by
    cases e : z_cl[ci]? with
    | none => exact ⟨(0, fun _ => 0), fun r h => by cases h⟩
    | some r =>
      obtain ⟨cC, iS, hk⟩ := u_known (C := r.1) (T := r.2.1) (N := r.2.2) (n := r.2.2) hT (z_wT ci r e) (hT _ (z_ins ci r e))
      exact ⟨(cC, iS), fun r' h => by cases h; exact hk⟩
  obtain ⟨f, hf⟩ := Classical.axiomOfChoice h1
  obtain ⟨c0, a0⟩ := ar_cls (hT _ wa_int) (fun c h => h)
  obtain ⟨c1, a1⟩ := ar_cls (hT _ wa_long) (fun c h => h)
  obtain ⟨c2, a2⟩ := ar_cls (hT _ wa_byte) (fun c h => h)
  obtain ⟨c3, a3⟩ := ar_cls (hT _ wa_boolean) (fun c h => h)
  have w4 : (Cond.arrayOver (.object "RoadCounts$Road")).before A s = true := hts _ (List.mem_append_right _ (List.mem_of_getElem? (i := 55) (by decide +kernel)))
  have w5 : (Cond.arrayOver (.array .int)).before A s = true := hts _ (List.mem_append_right _ (List.mem_of_getElem? (i := 27) (by decide +kernel)))
  obtain ⟨comp4, c4, k4, q1, q2, q3, q4, q5⟩ := Cond.arrayOver_spec w4
  obtain ⟨comp5, c5, k5, r1, -, r2, r3, r4⟩ := arrayOverA_spec w5
  refine ⟨(fun c => (f c).1, fun c => (f c).2), fun k => if k = 0 then c0 else if k = 1 then c1 else if k = 2 then c2 else if k = 3 then c3 else if k = 4 then c4 else c5, ⟨fun c q h => hf c q h, fun k q h => ?_⟩, w4, w5, fun w hw => ?_⟩
  · match k, h with
    | 0, h => cases h; exact a0
    | 1, h => cases h; exact a1
    | 2, h => cases h; exact a2
    | 3, h => cases h; exact a3
    | 4, h => cases h; exact ⟨fun n z => ⟨fun k h => (by cases h), k4, q3, comp4, q4⟩, k4, comp4, q3, q4, q1, q5⟩
    | 5, h => cases h; exact ⟨fun n z => ⟨fun k h => (by cases h), k5, r2, comp5, r3⟩, r4⟩
    | k + 6, h => simp at h
  · have h2 := (List.mem_filter.mp hw).2
    have h3 := hts w (List.mem_filter.mp hw).1
    cases w <;> first | (cases h2; done) | exact va_Nw.of rfl h3
/-- a new class object and a new model -/
def cS0 (wd mo : Nat → Nat → Int32) : cS := cS.mk wd mo (fun _ => false) (fun _ => 0) (fun _ => 0) 0 (fun _ => none) (fun _ => 0) (fun _ => 0) (fun _ => 0) (fun _ => 0) (fun _ => 0) 0 0 0 0 (fun _ => 0) (fun _ => 0) (fun _ => 0) (fun _ => 0) (fun _ => 0) (fun _ => 0) (fun _ => 0) (fun _ _ => 0) (fun _ _ => 0) (fun _ _ => 0) (fun _ _ => 0) (fun _ => 0) 0 0 0 0 24 47 (fun _ => 0) (fun _ => 0) (fun _ => 0) (fun _ _ => 0) (fun _ _ => 0) 0 (fun _ => 0) (fun _ => 0) (fun _ _ => 0) (fun _ _ => 0) 0
theorem cS0_C {wd mo : Nat → Nat → Int32} {f g e : Nat → Int32} (h1 : ∀ s d, s < 4 → d < 7 → wd s d = 1) (h2 : ∀ s d, s < 4 → d < 13 → mo s d = 1) (f1 : ∀ i, i < 28 → f i = 1) (g1 : ∀ i, i < 52 → g i = 1) (e1 : ∀ i, i < 4368 → e i = -1) : cC (cS0 wd mo) (fun _ => 0) (fun _ => false) (va_up (va_up (va_up (fun _ _ => 0) 73 f) 74 g) 79 e) := by
  have no : ∀ {α : Prop} {i : Nat}, i < 0 → α := fun h => absurd h (Nat.not_lt_zero _)
  refine ⟨⟨Or.inl ⟨rfl, rfl⟩, ⟨Nat.zero_le 12, fun r h => no h⟩, ⟨Nat.zero_le 12, fun j => Nat.two_pow_pos 0, fun j hj => rfl⟩, ⟨Nat.zero_le 20, fun i h => no h⟩, fun r h => no h, fun r h => no h, fun i => by show 0 < 256; decide, Nat.zero_le 120, Nat.zero_le 9, fun c h => no h, fun c h => no h⟩, rfl, fun s d hs hd => ?_, fun s d hs hd => ?_, rfl, fun i j h => no h, fun d hd => ?_, rfl, fun r h => no h, fun r _ _ => rfl, fun j => rfl, fun r h => no h, fun r _ hr => ⟨rfl, fun d hd => ?_⟩, fun r h => no h, fun r _ _ j _ => rfl, rfl, ⟨fun i => by show 0 < 256; decide, fun i hi => rfl⟩, rfl, fun c h => no h⟩
  · show wd s d = f (7 * s + d) ∧ 1 ≤ (wd s d).toInt ∧ (wd s d).toInt ≤ 99
    rw [h1 s d hs hd, f1 _ (by omega)]
    exact ⟨rfl, by decide, by decide⟩
  · show mo s d = g (13 * s + d) ∧ 1 ≤ (mo s d).toInt ∧ (mo s d).toInt ≤ 99
    rw [h2 s d hs hd, g1 _ (by omega)]
    exact ⟨rfl, by decide, by decide⟩
  · constructor
    · intro h; cases h
    · rintro ⟨i, hi, -⟩; exact no hi
  · show e (364 * r + d) = -1
    exact e1 _ (by omega)
theorem law_begin {X : z_X} {l : Launch} (hX : z_is X l ML_law room_1) {L : Nat} {xs : Nat → Int32} (hsc : z_scr X L xs) (hL : L ≤ 3072) (hend : ∀ (lv : List (Option Value)) (P : z_H) (nx u v : Nat), u ≤ 600000 → v ≤ 7302250 → z_W X 814 lv [.int 1] P nx u v) : z_W X 0 [some (.ref 0), none, none, none] [] (fun _ => none) 1 0 0 := by
  refine z_new hX (ci := 7) rfl lc_L_7 wn_7 wi_7 (by decide) (by decide) dL_law_0 ?_
  refine z_dup hX rfl dL_law_3 ?_
  refine z_callI0 hX (sp7_init l) lm_L_9 ⟨by decide, by decide, by decide, by decide⟩ (Nat.le_of_ble_eq_true rfl) dL_law_4 ?_
  refine ⟨rfl, rfl, z_up_s, fun wd mo P' w1 w2 o hA hN t1 t2 t3 hu hv => ?_⟩
  dsimp only [Option.toList, List.cons_append, List.nil_append]
  refine z_astore_n hX 1 rfl (by decide) dL_law_7 ?_
  dsimp only [z_p1, z_p2, z_k, List.headD, List.tail]
  refine z_new hX (ci := 8) rfl lc_L_10 wn_8 wi_8 (by decide) (by decide) dL_law_8 ?_
  refine z_dup hX rfl dL_law_11 ?_
  refine z_callI0 hX (sp8_init l) lm_L_12 ⟨by decide, by decide, by decide, by decide⟩ (Nat.le_of_ble_eq_true rfl) dL_law_12 ?_
  refine ⟨rfl, rfl, z_up_s, fun f g e P2 f1 g1 e1 hM hO => ?_⟩
  dsimp only [Option.toList, List.cons_append, List.nil_append]
  refine z_astore_n hX 2 rfl (by decide) dL_law_15 ?_
  dsimp only [z_p1, z_p2, z_k, List.headD, List.tail]
  refine z_iconst hX (0) dL_law_16 (by decide) ?_
  refine z_istore_n hX 3 rfl (by decide) dL_law_17 ?_
  dsimp only [z_p1, z_p2, z_k, List.headD, List.tail]
  have hO2 : z_out zDm P' P2 := (z_out.rf.up (dm := zDm) (k := 70) rfl).tr hO
  have C0 := cS0_C w1 w2 f1 g1 e1
  have hC : zCl (cS0 wd mo) P' := ⟨o, hA, hN, fun r h => absurd h (Nat.not_lt_zero r), fun k c h => ?_, hu, hv⟩
  · exact law_loop hX hsc hL hend 513 0 P2 90 _ _ rfl (by decide) (by decide) ⟨_, _, _, _, _, hC.dm C0.I hO2, hM, C0, rfl⟩
  · obtain ⟨k1, k2⟩ := zT_dom h
    rcases (show k = 21 ∨ k = 22 ∨ k = 23 by omega) with q | q | q <;> subst q
    · exact t1.trans h
    · exact t2.trans h
    · exact t3.trans h
/-! THE CLAIM OUT OF ONE WALK OF THE LAW'S BODY -/
def R_law : String := "RoadCountsLaw"
def lw_P (b : Addr) (xs : List Int32) (args : Array Value) (s : State) : Prop := args = #[.ref b] ∧ s.IntsAt b xs ∧ xs.length ≤ 3072 ∧ (Jvm.Cond.and given_1 narrow_1).before args s = true
def lw_Q (_ : Array Value) (s : State) (o : Outcome) (t : State) : Prop := o = .returned (some (.int 1)) ∧ Framed s o t [] 600000 7302250
def lw_Z (below : List Frame) (a : Array Value) (s : State) : State → Prop := fun t => ∃ o, t.status = .running ∧ Ended t below o ∧ lw_Q a s o t
/-- the law's own end, with 1 on the stack, nothing written that was there before, its room as the claim has it -/
theorem lw_ret {p : Program} {l : Launch} {e : Env} {s : State} {m : MethodId} {below : List Frame} {meth : Method} {c : Code} {b : Nat} (hx : p.tables.exec = Jvm.exec) (hb : c.code = code) (hr : meth.sig.returnType = ret) (hlocks : meth.locks = false) {pc : Nat} {H : Heap} {ls : Array Slot} (hdg : decode code pc = .ok (.ireturn, 1)) : W p l e room_1 s m #[Value.ref b] below meth c H [] 600000 7302250 (lw_Z below #[Value.ref b] s) (F0 m pc ls [.int 1]) := by
  intro T hT X
  obtain ⟨fs, hret, hrun, hended, hW, hframe⟩ := X.leave (v := some (.int 1)) (hlocks := hlocks) (fun h => by rw [hr] at h; cases h)
  have hmeth' : T.vm.method? m = some meth := X.method'
  refine ⟨T.setFrames fs, ?_, .returned (some (.int 1)), hrun, hended, rfl, ⟨_, rfl⟩, hW, hframe⟩
  jvm_step X.here [X.here.top, hx, hb, hdg, hmeth', hr, ret, narrow_b1]
  (try refine ⟨rfl, ?_⟩); (try refine ⟨rfl, ?_⟩)
  first | (intro acts; rw [hret _ acts rfl rfl rfl]) | rw [hret _ _ rfl rfl rfl]
  exact Steps.refl _
/-- what holds at the law's entry: the machine, the code, the tables' words (any of lw_tbl by 'hts w (by decide +kernel)'), the script of L ints xs at the cell b, what the Statement gives of the start (any of its parts by flat_of_before) -/
def lw_At (p : Program) (s : State) (m : MethodId) (meth : Method) (c : Code) (b L : Nat) (xs : Nat → Int32) : Prop :=
  p.tables.exec = Jvm.exec ∧ c.code = code ∧ meth.sig.returnType = ret ∧ c.maxLocals = 4 ∧ s.vm.findClass R_law = some m.cls ∧ (∀ w ∈ lw_tbl, w.before #[Value.ref b] s = true) ∧ va_X b L xs s s.heap ∧ b < s.heap.size ∧ meth.locks = false ∧ (Jvm.Cond.and given_1 narrow_1).before #[Value.ref b] s = true
theorem whole_start {p : Program} {e : Env} {s : State} {m : MethodId} {below : List Frame} {meth : Method} {c : Code} (l : Launch) {b L : Nat} {xs : Nat → Int32} (hL : L ≤ 3072) (C0 : lw_At p s m meth c b L xs) : W p l e room_1 s m #[Value.ref b] below meth c s.heap [] 0 0 (lw_Z below #[Value.ref b] s) (entryFrame m ([Value.ref b] : List Value).toArray 4) := by
  obtain ⟨hx, hb, hr, hml, hown, hts, hX, hbl, hlocks, hgv⟩ := C0
  obtain ⟨D, cy, hK⟩ := z_known hts
  have hl := lv_entry ([.ref b]) (n := 4) (Nat.le_of_ble_eq_true rfl)
  rw [lg_entry_eq]
  generalize (lg_sl ([.ref b]) ++ List.replicate (4 - (lg_sl ([.ref b])).length) Slot.unset).toArray = ls at hl ⊢
  have hl : lv_has ls 4 [(0, .ref b)] := hl
  have hXs : z_is (p, l, e, room_1, s, m, #[Value.ref b], below, meth, c, code, 4, R_law, D, cy, b, s.heap.size, lw_Z below #[Value.ref b] s) l ML_law room_1 := ⟨⟨hx, hb, hml, hown, fun w hw => hts w (List.mem_filter.mp hw).1, hK, Nat.le_refl _⟩, rfl, rfl, rfl, rfl, rfl⟩
  have hsc : z_scr (p, l, e, room_1, s, m, #[Value.ref b], below, meth, c, code, 4, R_law, D, cy, b, s.heap.size, lw_Z below #[Value.ref b] s) L xs := ⟨hX, hbl, hbl⟩
  have hend : ∀ (lv : List (Option Value)) (P : z_H) (nx u v : Nat), u ≤ 600000 → v ≤ 7302250 → z_W (p, l, e, room_1, s, m, #[Value.ref b], below, meth, c, code, 4, R_law, D, cy, b, s.heap.size, lw_Z below #[Value.ref b] s) 814 lv [.int 1] P nx u v := by
    intro lv P nx u v hu hv H locs ls hR hS hL
    exact va_forget (fun q hq => hS.2.2 q hq) (W.widen hu hv (lw_ret hx hb hr hlocks dL_law_814))
  refine law_begin hXs hsc hL hend s.heap [] ls ⟨rfl, by decide, rfl, fun k c h => by cases h⟩ va_S.rf ⟨hl.1, hl.2.1, fun i v hg => ?_⟩
  match i, hg with
  | 0, hg => cases hg; exact hl.2.2 (0, .ref b) List.mem_cons_self
  | 1, hg => cases hg
  | 2, hg => cases hg
  | 3, hg => cases hg
  | k + 4, hg => rw [show z_g [some (.ref 0), none, none, none] (k + 4) = z_g [] k from rfl, z_g_nil] at hg; cases hg
