/-! calls, returns, contracts -/
def z_Pc (D : va_G) (cy : Nat → ClassId) (b B : Nat) (as : List Value) (P : z_H) (nx : Nat) : Array Value → State → Prop := fun a U => a = (as.map (z_V b B)).toArray ∧ z_Kn D cy U ∧ z_R D cy b B P nx U.heap ∧ B ≤ U.heap.size
def z_Qc (D : va_G) (cy : Nat → ClassId) (b B : Nat) (K : Option Value → z_H → Nat → Prop) : Array Value → State → Outcome → State → Prop := fun _ s o t => ∃ (w : Option Value) (P : z_H) (nx : Nat), o = .returned (w.map (z_V b B)) ∧ z_R D cy b B P nx t.heap ∧ K w P nx ∧ va_F (fun q => B ≤ q) s t
abbrev z_PT : Type := List Value → z_H → Nat → (Option Value → z_H → Nat → Prop) → Prop
def z_ws (y : z_M) : List Cond := Cond.code y.1 y.2.1 y.2.2.1 y.2.2.2 :: z_T
/-- THE CONTRACT of a method, as a predicate transformer S -/
def z_Sp (l : Launch) (y : z_M) (rm : Room) (S : z_PT) : Prop := ∀ (D : va_G) (cy : Nat → ClassId) (b B : Nat) (as : List Value) (P : z_H) (nx : Nat) (K : Option Value → z_H → Nat → Prop), S as P nx K → Met l y.1 (z_ws y) rm (z_Pc D cy b B as P nx) (z_Qc D cy b B K) rm.cells rm.slots (fun q => B ≤ q)
theorem z_Kn.warm {D : va_G} {cy : Nat → ClassId} {s U : State} (h : z_Kn D cy s) (hW : s.WarmedH U.vm) : z_Kn D cy U := by
  refine ⟨va_K.moved hW.alike h.1, va_AO.moved hW.alike h.2.1, over_moved hW.alike h.2.2.1, fun w hw => ?_⟩
  have h1 := h.2.2.2 w hw
  have h2 := (List.mem_filter.mp hw).2
  cases w <;> first | (cases h2; done) | exact va_Nw.warmF hW h1 | exact va_Nw.warmM hW h1
theorem z_Pc.blind {D : va_G} {cy : Nat → ClassId} {b B : Nat} {as : List Value} {P : z_H} {nx : Nat} : FrameBlind (z_Pc D cy b B as P nx) := by
  intro a U g mk h
  obtain ⟨h1, h2, h3, h4⟩ := h
  refine ⟨h1, ⟨va_K.moved (u := U) (U := U.calling g mk a) (Vm.Alike.refl U.vm) h2.1, va_AO.moved (u := U) (U := U.calling g mk a) (Vm.Alike.refl U.vm) h2.2.1, over_moved (u := U) (E := U.calling g mk a) (Vm.Alike.refl U.vm) h2.2.2.1, fun w hw => ?_⟩, h3, h4⟩
  have h5 := (List.mem_filter.mp hw).2
  have h6 := h2.2.2.2 w hw
  cases w <;> first | (cases h5; done) | exact va_Nw.same (u := U) (U := U.calling g mk a) rfl rfl h6
/-- a method's link -/
def z_Ml (own : String) (idx : Nat) (y : z_M) (n : Nat) : Prop := Cond.code y.1 y.2.1 y.2.2.1 y.2.2.2 ∈ z_T ∧ Cond.initialized y.1.cls ∈ z_T ∧ (y.1.cls ≠ "java/lang/invoke/MethodHandle" ∧ y.1.cls ≠ "java/lang/invoke/VarHandle") ∧ (parseMethodDescriptor y.1.desc).map (fun d => d.parameters.length) = some n ∧ (Cond.methodLink own idx y.1 ∈ z_T ∨ ∃ host, Cond.methodLinkNest own idx y.1 host ∈ z_N)
def z_MV (own : String) (idx : Nat) (y : z_M) (n ci : Nat) : Prop := z_Ml own idx y n ∧ Cond.instanceMethod y.1 ∈ z_T ∧ Cond.selects y.1.cls y.1 y.1 ∈ z_T ∧ ∃ r : vw_C, z_cl[ci]? = some r ∧ r.1 = y.1.cls
def z_MS (own : String) (idx : Nat) (y : z_M) (n : Nat) : Prop := z_Ml own idx y n ∧ Cond.static y.1 ∈ z_T
def z_MI (own : String) (idx : Nat) (y : z_M) (n : Nat) : Prop := z_Ml own idx y n ∧ Cond.instanceMethod y.1 ∈ z_T ∧ y.1.name = "<init>" ∧ y.2.2.2 = none
def z_fitR (y2 : z_M) (rm2 rm : Room) (u v : Nat) : Prop := rm2.frames + 1 ≤ rm.frames ∧ 8 + (y2.2.2.1 + 11) + rm2.locals ≤ rm.locals ∧ u + rm2.cells ≤ rm.cells ∧ v + rm2.slots ≤ rm.slots
section ZC
variable {X : z_X} {l : Launch} {me : z_M} {rm : Room} {pc nx u v : Nat} {lv : List (Option Value)} {st : List Value} {P : z_H}
theorem z_catsum (b B : Nat) (st : List Value) : ((st.map (z_V b B)).map fun v => v.category).sum = (st.map Value.category).sum := by
  rw [List.map_map]
  congr 1
  refine List.map_congr_left (fun w _ => ?_)
  exact z_V_cat b B w
theorem z_lenP {y : z_M} {n : Nat} (h : (parseMethodDescriptor y.1.desc).map (fun d => d.parameters.length) = some n) : ∀ sig, parseMethodDescriptor y.1.desc = some sig → n = sig.parameters.length := fun sig q => by
  rw [q] at h
  exact (Option.some.inj h).symm
theorem z_goodW {y : z_M} (h : Cond.code y.1 y.2.1 y.2.2.1 y.2.2.2 ∈ z_T) : GoodIn z_T (z_ws y) := fun w hw => by
  rcases List.mem_cons.mp hw with e | e
  · rw [e]; exact z_goodT _ h
  · exact z_goodT _ e
/-- behind a call -/
theorem z_back {p : Program} {e : Env} {R : Room} {s : State} {m : MethodId} {args : Array Value} {below : List Frame} {meth : Method} {c : Code} {nL : Nat} {D : va_G} {cy : Nat → ClassId} {b B : Nat} {Q : State → Prop} {H : Heap} {locs : List Loc} {ls : Array Slot} {mc ms : Nat} {K : Option Value → z_H → Nat → Prop} {st0 : List Value} {a0 : Array Value}
    (hr : va_Run p l e R s m args below meth c H locs u v mc ms (F0 m pc ls st0) (st.map (z_V b B)) (z_Qc D cy b B K a0) (fun q => B ≤ q)) (hS : va_S (fun q => B ≤ q) s.heap H locs) (hL : z_L b B ls nL lv)
    (kk : ∀ w P' nx', K w P' nx' → ∀ (H1 : Heap) (locs1 : List Loc), z_R D cy b B P' nx' H1 → va_S (fun q => B ≤ q) s.heap H1 locs1 → W p l e R s m args below meth c H1 locs1 (u + mc) (v + ms) Q (F0 m (pc + 3) ls ((w.toList ++ st).map (z_V b B)))) : W p l e R s m args below meth c H locs u v Q (F0 m pc ls st0) := by
  intro T hT X
  obtain ⟨w0, st₀, t, T', L, h0, X', hLc, e1, e2, ⟨w, P', nx', hw, hR1, hK1, hz, hk⟩, stp⟩ := hr T hT X
  cases Outcome.returned.inj hw
  rw [h0] at hz hk
  obtain ⟨t2, a1, b1⟩ := kk w P' nx' hK1 T'.heap (locs ++ L) (by rw [e1]; exact hR1) ⟨Nat.le_trans hS.1 (by rw [e1]; exact hz), fun q h1 h2 => by rw [e1, hk q (Nat.lt_of_lt_of_le h1 hS.1) h2]; exact hS.2.1 q h1 h2, fun q hq => by
      rcases List.mem_append.mp hq with h | h
      · exact hS.2.2 q h
      · exact hLc q h⟩ T' rfl X'
  refine ⟨t2, stp t2 ?_, b1⟩
  have : (w.toList ++ st).map (z_V b B) = (w.map (z_V b B)).toList ++ st.map (z_V b B) := by
    rw [List.map_append]
    cases w <;> rfl
  rw [← this]
  exact a1
theorem z_callV (hX : z_is X l me rm) {y2 : z_M} {rm2 : Room} {S : z_PT} {idx n a ci : Nat} {As fs : List Value} (hS : z_Sp l y2 rm2 S) (hl : z_MV me.1.cls idx y2 n ci) (hP : P a = some (.inr (ci, fs))) (hn : As.length = n) (hrm : z_fitR y2 rm2 rm u v) (hst : (st.map Value.category).sum ≤ 8) (hd : decode me.2.1 pc = .ok (.invokevirtual idx, 3)) (kk : S (.ref a :: As) P nx (fun w P' nx' => z_W X (pc + 3) lv (w.toList ++ st) P' nx' (u + rm2.cells) (v + rm2.slots))) : z_W X pc lv (As.reverse ++ .ref a :: st) P nx u v := by
  obtain ⟨p, l, e, R, s, m, args, below, meth, c, cc, nL, own, D, cy, b, B, Q⟩ := X
  obtain ⟨yn, yc, yL, yr⟩ := me
  obtain ⟨⟨hx, hb, hml, hown, hts, hK, hB⟩, rfl, rfl, rfl, rfl, rfl⟩ := hX
  obtain ⟨⟨w1, w2, w3, w4, w5⟩, w6, w7, r, hc, hrc⟩ := hl
  obtain ⟨f1, f2, f3, f4⟩ := hrm
  intro H locs ls hR hS0 hL
  have hpV : PreV s H y2.1.cls (z_ad b B a) (z_Pc D cy b B (.ref a :: As) P nx) (As.map (z_V b B)) := by
    refine ⟨z_Pc.blind, ?_, fun U hU hW => ⟨rfl, hK.warm hW, by rw [hU]; exact hR, by rw [hU]; exact Nat.le_trans hB hS0.1⟩⟩
    have := va_recv (q0 := 0) hK.1 (z_one (hR.at hP).1) hc rfl
    rw [hrc] at this
    exact this
  have hst' : ((st.map (z_V b B)).map fun v => v.category).sum ≤ 8 := by rw [z_catsum]; exact hst
  rw [List.map_append, List.map_reverse]
  rcases w5 with w5 | ⟨host, w5⟩
  · exact z_back (va_runV (n := n) ⟨hx, hb, hml, hown, hts⟩ (hS D cy b B _ P nx _ kk) ⟨⟨rfl, rfl, f1, f2, pay_in hts (z_goodW w1), List.mem_cons_self, hts _ w1, hts _ w2, w3, z_lenP w4, hts _ w5⟩, hts _ w6, hts _ w7⟩ hpV rfl (by rw [List.length_map]; exact hn) hL.1 rfl (lv_room hst') hd ⟨f3, f4⟩) hS0 hL (fun w P' nx' hk H1 locs1 hR1 hS1 => hk H1 locs1 ls hR1 hS1 hL)
  · exact z_back (va_runVN (n := n) ⟨hx, hb, hml, hown, hts⟩ (hS D cy b B _ P nx _ kk) ⟨⟨⟨rfl, rfl, f1, f2, pay_in hts (z_goodW w1), List.mem_cons_self⟩, hts _ w1, hts _ w2, w3, z_lenP w4, va_Nw.use rfl (hK.2.2.2 _ w5)⟩, hts _ w6, hts _ w7⟩ hpV rfl (by rw [List.length_map]; exact hn) hL.1 rfl (lv_room hst') hd ⟨f3, f4⟩) hS0 hL (fun w P' nx' hk H1 locs1 hR1 hS1 => hk H1 locs1 ls hR1 hS1 hL)
theorem z_callS (hX : z_is X l me rm) {y2 : z_M} {rm2 : Room} {S : z_PT} {idx n : Nat} {As : List Value} (hS : z_Sp l y2 rm2 S) (hl : z_MS me.1.cls idx y2 n) (hn : As.length = n) (hrm : z_fitR y2 rm2 rm u v) (hst : (st.map Value.category).sum ≤ 8) (hd : decode me.2.1 pc = .ok (.invokestatic idx, 3)) (kk : S As P nx (fun w P' nx' => z_W X (pc + 3) lv (w.toList ++ st) P' nx' (u + rm2.cells) (v + rm2.slots))) : z_W X pc lv (As.reverse ++ st) P nx u v := by
  obtain ⟨p, l, e, R, s, m, args, below, meth, c, cc, nL, own, D, cy, b, B, Q⟩ := X
  obtain ⟨yn, yc, yL, yr⟩ := me
  obtain ⟨⟨hx, hb, hml, hown, hts, hK, hB⟩, rfl, rfl, rfl, rfl, rfl⟩ := hX
  obtain ⟨⟨w1, w2, w3, w4, w5⟩, w6⟩ := hl
  obtain ⟨f1, f2, f3, f4⟩ := hrm
  intro H locs ls hR hS0 hL
  have hpV : PreS s H (z_Pc D cy b B As P nx) (As.map (z_V b B)) := ⟨z_Pc.blind, fun U hU hW => ⟨rfl, hK.warm hW, by rw [hU]; exact hR, by rw [hU]; exact Nat.le_trans hB hS0.1⟩⟩
  have hst' : ((st.map (z_V b B)).map fun v => v.category).sum ≤ 8 := by rw [z_catsum]; exact hst
  rw [List.map_append, List.map_reverse]
  rcases w5 with w5 | ⟨host, w5⟩
  · exact z_back (va_runS (n := n) ⟨hx, hb, hml, hown, hts⟩ (hS D cy b B _ P nx _ kk) ⟨⟨rfl, rfl, f1, f2, pay_in hts (z_goodW w1), List.mem_cons_self, hts _ w1, hts _ w2, w3, z_lenP w4, hts _ w5⟩, hts _ w6⟩ hpV rfl (by rw [List.length_map]; exact hn) hL.1 rfl (lv_room hst') hd ⟨f3, f4⟩) hS0 hL (fun w P' nx' hk H1 locs1 hR1 hS1 => hk H1 locs1 ls hR1 hS1 hL)
  · exact z_back (va_runSN (n := n) ⟨hx, hb, hml, hown, hts⟩ (hS D cy b B _ P nx _ kk) ⟨⟨⟨rfl, rfl, f1, f2, pay_in hts (z_goodW w1), List.mem_cons_self⟩, hts _ w1, hts _ w2, w3, z_lenP w4, va_Nw.use rfl (hK.2.2.2 _ w5)⟩, hts _ w6, trivial⟩ hpV rfl (by rw [List.length_map]; exact hn) hL.1 rfl (lv_room hst') hd ⟨f3, f4⟩) hS0 hL (fun w P' nx' hk H1 locs1 hR1 hS1 => hk H1 locs1 ls hR1 hS1 hL)
theorem z_callI (hX : z_is X l me rm) {y2 : z_M} {rm2 : Room} {S : z_PT} {idx n a : Nat} {As : List Value} (hS : z_Sp l y2 rm2 S) (hl : z_MI me.1.cls idx y2 n) (hn : As.length = n) (hrm : z_fitR y2 rm2 rm u v) (hst : (st.map Value.category).sum ≤ 8) (hd : decode me.2.1 pc = .ok (.invokespecial idx, 3)) (kk : S (.ref a :: As) P nx (fun w P' nx' => z_W X (pc + 3) lv (w.toList ++ st) P' nx' (u + rm2.cells) (v + rm2.slots))) : z_W X pc lv (As.reverse ++ .ref a :: st) P nx u v := by
  obtain ⟨p, l, e, R, s, m, args, below, meth, c, cc, nL, own, D, cy, b, B, Q⟩ := X
  obtain ⟨yn, yc, yL, yr⟩ := me
  obtain ⟨⟨hx, hb, hml, hown, hts, hK, hB⟩, rfl, rfl, rfl, rfl, rfl⟩ := hX
  obtain ⟨⟨w1, w2, w3, w4, w5⟩, w6, w7, w8⟩ := hl
  obtain ⟨f1, f2, f3, f4⟩ := hrm
  intro H locs ls hR hS0 hL
  have hpV : PreS s H (z_Pc D cy b B (.ref a :: As) P nx) (.ref (z_ad b B a) :: As.map (z_V b B)) := ⟨z_Pc.blind, fun U hU hW => ⟨rfl, hK.warm hW, by rw [hU]; exact hR, by rw [hU]; exact Nat.le_trans hB hS0.1⟩⟩
  have hst' : ((st.map (z_V b B)).map fun v => v.category).sum ≤ 8 := by rw [z_catsum]; exact hst
  have w1' : Cond.code y2.1 y2.2.1 y2.2.2.1 none ∈ z_T := by rw [← w8]; exact w1
  have w9 : Cond.code y2.1 y2.2.1 y2.2.2.1 none ∈ z_ws y2 := by rw [← w8]; exact List.mem_cons_self
  rw [List.map_append, List.map_reverse]
  rcases w5 with w5 | ⟨host, w5⟩
  · exact z_back (va_runI (n := n) ⟨hx, hb, hml, hown, hts⟩ (hS D cy b B _ P nx _ kk) ⟨⟨rfl, rfl, f1, f2, pay_in hts (z_goodW w1), w9, hts _ w1', hts _ w2, w3, z_lenP w4, hts _ w5⟩, w7, hts _ w6⟩ hpV rfl (by rw [List.length_map]; exact hn) hL.1 rfl (lv_room hst') hd ⟨f3, f4⟩) hS0 hL (fun w P' nx' hk H1 locs1 hR1 hS1 => hk H1 locs1 ls hR1 hS1 hL)
  · exact z_back (va_runIN (n := n) ⟨hx, hb, hml, hown, hts⟩ (hS D cy b B _ P nx _ kk) ⟨⟨⟨rfl, rfl, f1, f2, pay_in hts (z_goodW w1), w9⟩, hts _ w1', hts _ w2, w3, z_lenP w4, va_Nw.use rfl (hK.2.2.2 _ w5)⟩, w7, hts _ w6⟩ hpV rfl (by rw [List.length_map]; exact hn) hL.1 rfl (lv_room hst') hd ⟨f3, f4⟩) hS0 hL (fun w P' nx' hk H1 locs1 hR1 hS1 => hk H1 locs1 ls hR1 hS1 hL)
/-- Object's constructor -/
theorem z_objI (hX : z_is X l me rm) {idx a : Nat} (h1 : Cond.methodLink me.1.cls idx objectInit ∈ z_T) (h2 : Cond.instanceMethod objectInit ∈ z_T) (h3 : Cond.code objectInit ⟨#[0xb1]⟩ 1 none ∈ z_T) (hf : 1 ≤ rm.frames) (hlo : (st.map Value.category).sum + 12 ≤ rm.locals) (hd : decode me.2.1 pc = .ok (.invokespecial idx, 3)) (kk : z_W X (pc + 3) lv st P nx u v) : z_W X pc lv (.ref a :: st) P nx u v := by
  obtain ⟨p, l, e, R, s, m, args, below, meth, c, cc, nL, own, D, cy, b, B, Q⟩ := X
  obtain ⟨yn, yc, yL, yr⟩ := me
  obtain ⟨⟨hx, hb, hml, hown, hts, hK, hB⟩, rfl, rfl, rfl, rfl, rfl⟩ := hX
  intro H locs ls hR hS hL
  refine W.objInit hx hb hown (hts _ h1) (hts _ h2) (hts _ h3) rfl (by rw [hml]; exact hL.1) (a := z_ad b B a) (rest := st.map (z_V b B)) rfl hd hf ?_ (kk H locs ls hR hS hL)
  show 2 * 0 + ((st.map (z_V b B)).map fun v => v.category).sum + 12 ≤ R.locals
  rw [z_catsum]
  omega
end ZC
