/-! returns; entry; calls by the number of their arguments -/
def z_end : z_X → (Option Value → z_H → Nat → Prop) → Option FieldType → Prop := fun (p, l, e, R, s, m, args, below, meth, c, cc, nL, own, D, cy, b, B, Q) K ret => Q = MQ below (z_Qc D cy b B K) args s R.cells R.slots (fun q => B ≤ q) ∧ meth.sig.returnType = ret ∧ meth.locks = false
section ZE
variable {X : z_X} {l : Launch} {me : z_M} {rm : Room} {pc nx u v : Nat} {lv : List (Option Value)} {st : List Value} {P : z_H} {K : Option Value → z_H → Nat → Prop}
theorem z_iret (hX : z_is X l me rm) {x : Int32} (hE : z_end X K (some .int)) (hu : u ≤ rm.cells) (hv : v ≤ rm.slots) (hd : decode me.2.1 pc = .ok (.ireturn, 1)) (kk : K (some (.int x)) P nx) : z_W X pc lv [.int x] P nx u v := by
  obtain ⟨p, l, e, R, s, m, args, below, meth, c, cc, nL, own, D, cy, b, B, Q⟩ := X
  obtain ⟨yn, yc, yL, yr⟩ := me
  obtain ⟨⟨hx, hb, hml, hown, hts, hK, hB⟩, rfl, rfl, rfl, rfl, rfl⟩ := hX
  obtain ⟨rfl, hr, hlo⟩ := hE
  intro H locs ls hR hS hL
  refine W.widen hu hv ?_
  exact W.iret hx hb hr (fun t ht hW => ⟨(some (.int x)), P, nx, rfl, by rw [ht]; exact hR, kk, hS.F ht⟩) (fun q hq => hS.2.2 q hq) hd hlo
theorem z_lret (hX : z_is X l me rm) {x : Int64} (hE : z_end X K (some .long)) (hu : u ≤ rm.cells) (hv : v ≤ rm.slots) (hd : decode me.2.1 pc = .ok (.lreturn, 1)) (kk : K (some (.long x)) P nx) : z_W X pc lv [.long x] P nx u v := by
  obtain ⟨p, l, e, R, s, m, args, below, meth, c, cc, nL, own, D, cy, b, B, Q⟩ := X
  obtain ⟨yn, yc, yL, yr⟩ := me
  obtain ⟨⟨hx, hb, hml, hown, hts, hK, hB⟩, rfl, rfl, rfl, rfl, rfl⟩ := hX
  obtain ⟨rfl, hr, hlo⟩ := hE
  intro H locs ls hR hS hL
  refine W.widen hu hv ?_
  exact W.lret hx hb hr (fun t ht hW => ⟨(some (.long x)), P, nx, rfl, by rw [ht]; exact hR, kk, hS.F ht⟩) (fun q hq => hS.2.2 q hq) hd hlo
theorem z_vret (hX : z_is X l me rm) (hE : z_end X K none) (hu : u ≤ rm.cells) (hv : v ≤ rm.slots) (hd : decode me.2.1 pc = .ok (.return_, 1)) (kk : K none P nx) : z_W X pc lv [] P nx u v := by
  obtain ⟨p, l, e, R, s, m, args, below, meth, c, cc, nL, own, D, cy, b, B, Q⟩ := X
  obtain ⟨yn, yc, yL, yr⟩ := me
  obtain ⟨⟨hx, hb, hml, hown, hts, hK, hB⟩, rfl, rfl, rfl, rfl, rfl⟩ := hX
  obtain ⟨rfl, hr, hlo⟩ := hE
  intro H locs ls hR hS hL
  refine W.widen hu hv ?_
  exact W.vret hx hb hr (fun t ht hW => ⟨none, P, nx, rfl, by rw [ht]; exact hR, kk, hS.F ht⟩) (fun q hq => hS.2.2 q hq) hd hlo
theorem z_zret (hX : z_is X l me rm) {x : Int32} (hE : z_end X K (some .boolean)) (hb1 : x = 0 ∨ x = 1) (hu : u ≤ rm.cells) (hv : v ≤ rm.slots) (hd : decode me.2.1 pc = .ok (.ireturn, 1)) (kk : K (some (.int x)) P nx) : z_W X pc lv [.int x] P nx u v := by
  obtain ⟨p, l, e, R, s, m, args, below, meth, c, cc, nL, own, D, cy, b, B, Q⟩ := X
  obtain ⟨yn, yc, yL, yr⟩ := me
  obtain ⟨⟨hx, hb, hml, hown, hts, hK, hB⟩, rfl, rfl, rfl, rfl, rfl⟩ := hX
  obtain ⟨rfl, hr, hlo⟩ := hE
  intro H locs ls hR hS hL
  refine W.widen hu hv ?_
  exact W.zret hx hb hr (by rcases hb1 with rfl | rfl <;> rfl) (fun t ht hW => ⟨(some (.int x)), P, nx, rfl, by rw [ht]; exact hR, kk, hS.F ht⟩) (fun q hq => hS.2.2 q hq) hd hlo
theorem z_aret (hX : z_is X l me rm) {a : Nat} {C : String} (hE : z_end X K (some (.object C))) (hu : u ≤ rm.cells) (hv : v ≤ rm.slots) (hd : decode me.2.1 pc = .ok (.areturn, 1)) (kk : K (some (.ref a)) P nx) : z_W X pc lv [.ref a] P nx u v := by
  obtain ⟨p, l, e, R, s, m, args, below, meth, c, cc, nL, own, D, cy, b, B, Q⟩ := X
  obtain ⟨yn, yc, yL, yr⟩ := me
  obtain ⟨⟨hx, hb, hml, hown, hts, hK, hB⟩, rfl, rfl, rfl, rfl, rfl⟩ := hX
  obtain ⟨rfl, hr, hlo⟩ := hE
  intro H locs ls hR hS hL
  refine W.widen hu hv ?_
  exact W.aret hx hb hr (Or.inl ⟨_, rfl⟩) (Or.inr ⟨_, rfl⟩) (fun t ht hW => ⟨some (.ref a), P, nx, rfl, by rw [ht]; exact hR, kk, hS.F ht⟩) (fun q hq => hS.2.2 q hq) hd hlo
theorem z_aretN (hX : z_is X l me rm) {C : String} (hE : z_end X K (some (.object C))) (hu : u ≤ rm.cells) (hv : v ≤ rm.slots) (hd : decode me.2.1 pc = .ok (.areturn, 1)) (kk : K (some .null) P nx) : z_W X pc lv [.null] P nx u v := by
  obtain ⟨p, l, e, R, s, m, args, below, meth, c, cc, nL, own, D, cy, b, B, Q⟩ := X
  obtain ⟨yn, yc, yL, yr⟩ := me
  obtain ⟨⟨hx, hb, hml, hown, hts, hK, hB⟩, rfl, rfl, rfl, rfl, rfl⟩ := hX
  obtain ⟨rfl, hr, hlo⟩ := hE
  intro H locs ls hR hS hL
  refine W.widen hu hv ?_
  exact W.aret hx hb hr (Or.inl ⟨_, rfl⟩) (Or.inl rfl) (fun t ht hW => ⟨some .null, P, nx, rfl, by rw [ht]; exact hR, kk, hS.F ht⟩) (fun q hq => hS.2.2 q hq) hd hlo
theorem z_callV0 (hX : z_is X l me rm) {y2 : z_M} {rm2 : Room} {S : z_PT} {idx a ci : Nat} {fs : List Value} (hS : z_Sp l y2 rm2 S) (hl : z_MV me.1.cls idx y2 0 ci) (hP : P a = some (.inr (ci, fs))) (hrm : z_fitR y2 rm2 rm u v) (hst : (st.map Value.category).sum ≤ 8) (hd : decode me.2.1 pc = .ok (.invokevirtual idx, 3)) (kk : S (.ref a :: []) P nx (fun w P' nx' => z_W X (pc + 3) lv (w.toList ++ st) P' nx' (u + rm2.cells) (v + rm2.slots))) : z_W X pc lv (.ref a :: st) P nx u v := z_callV (As := []) hX hS hl hP rfl hrm hst hd kk
theorem z_callI0 (hX : z_is X l me rm) {y2 : z_M} {rm2 : Room} {S : z_PT} {idx a : Nat} (hS : z_Sp l y2 rm2 S) (hl : z_MI me.1.cls idx y2 0) (hrm : z_fitR y2 rm2 rm u v) (hst : (st.map Value.category).sum ≤ 8) (hd : decode me.2.1 pc = .ok (.invokespecial idx, 3)) (kk : S (.ref a :: []) P nx (fun w P' nx' => z_W X (pc + 3) lv (w.toList ++ st) P' nx' (u + rm2.cells) (v + rm2.slots))) : z_W X pc lv (.ref a :: st) P nx u v := z_callI (As := []) hX hS hl rfl hrm hst hd kk
theorem z_callV1 (hX : z_is X l me rm) {y2 : z_M} {rm2 : Room} {S : z_PT} {idx a ci : Nat} {fs : List Value} {w1 : Value} (hS : z_Sp l y2 rm2 S) (hl : z_MV me.1.cls idx y2 1 ci) (hP : P a = some (.inr (ci, fs))) (hrm : z_fitR y2 rm2 rm u v) (hst : (st.map Value.category).sum ≤ 8) (hd : decode me.2.1 pc = .ok (.invokevirtual idx, 3)) (kk : S (.ref a :: [w1]) P nx (fun w P' nx' => z_W X (pc + 3) lv (w.toList ++ st) P' nx' (u + rm2.cells) (v + rm2.slots))) : z_W X pc lv (w1 :: .ref a :: st) P nx u v := z_callV (As := [w1]) hX hS hl hP rfl hrm hst hd kk
theorem z_callS1 (hX : z_is X l me rm) {y2 : z_M} {rm2 : Room} {S : z_PT} {idx : Nat} {w1 : Value} (hS : z_Sp l y2 rm2 S) (hl : z_MS me.1.cls idx y2 1) (hrm : z_fitR y2 rm2 rm u v) (hst : (st.map Value.category).sum ≤ 8) (hd : decode me.2.1 pc = .ok (.invokestatic idx, 3)) (kk : S [w1] P nx (fun w P' nx' => z_W X (pc + 3) lv (w.toList ++ st) P' nx' (u + rm2.cells) (v + rm2.slots))) : z_W X pc lv (w1 :: st) P nx u v := z_callS (As := [w1]) hX hS hl rfl hrm hst hd kk
theorem z_callI1 (hX : z_is X l me rm) {y2 : z_M} {rm2 : Room} {S : z_PT} {idx a : Nat} {w1 : Value} (hS : z_Sp l y2 rm2 S) (hl : z_MI me.1.cls idx y2 1) (hrm : z_fitR y2 rm2 rm u v) (hst : (st.map Value.category).sum ≤ 8) (hd : decode me.2.1 pc = .ok (.invokespecial idx, 3)) (kk : S (.ref a :: [w1]) P nx (fun w P' nx' => z_W X (pc + 3) lv (w.toList ++ st) P' nx' (u + rm2.cells) (v + rm2.slots))) : z_W X pc lv (w1 :: .ref a :: st) P nx u v := z_callI (As := [w1]) hX hS hl rfl hrm hst hd kk
theorem z_callV2 (hX : z_is X l me rm) {y2 : z_M} {rm2 : Room} {S : z_PT} {idx a ci : Nat} {fs : List Value} {w1 w2 : Value} (hS : z_Sp l y2 rm2 S) (hl : z_MV me.1.cls idx y2 2 ci) (hP : P a = some (.inr (ci, fs))) (hrm : z_fitR y2 rm2 rm u v) (hst : (st.map Value.category).sum ≤ 8) (hd : decode me.2.1 pc = .ok (.invokevirtual idx, 3)) (kk : S (.ref a :: [w1, w2]) P nx (fun w P' nx' => z_W X (pc + 3) lv (w.toList ++ st) P' nx' (u + rm2.cells) (v + rm2.slots))) : z_W X pc lv (w2 :: w1 :: .ref a :: st) P nx u v := z_callV (As := [w1, w2]) hX hS hl hP rfl hrm hst hd kk
theorem z_callS2 (hX : z_is X l me rm) {y2 : z_M} {rm2 : Room} {S : z_PT} {idx : Nat} {w1 w2 : Value} (hS : z_Sp l y2 rm2 S) (hl : z_MS me.1.cls idx y2 2) (hrm : z_fitR y2 rm2 rm u v) (hst : (st.map Value.category).sum ≤ 8) (hd : decode me.2.1 pc = .ok (.invokestatic idx, 3)) (kk : S [w1, w2] P nx (fun w P' nx' => z_W X (pc + 3) lv (w.toList ++ st) P' nx' (u + rm2.cells) (v + rm2.slots))) : z_W X pc lv (w2 :: w1 :: st) P nx u v := z_callS (As := [w1, w2]) hX hS hl rfl hrm hst hd kk
theorem z_callI2 (hX : z_is X l me rm) {y2 : z_M} {rm2 : Room} {S : z_PT} {idx a : Nat} {w1 w2 : Value} (hS : z_Sp l y2 rm2 S) (hl : z_MI me.1.cls idx y2 2) (hrm : z_fitR y2 rm2 rm u v) (hst : (st.map Value.category).sum ≤ 8) (hd : decode me.2.1 pc = .ok (.invokespecial idx, 3)) (kk : S (.ref a :: [w1, w2]) P nx (fun w P' nx' => z_W X (pc + 3) lv (w.toList ++ st) P' nx' (u + rm2.cells) (v + rm2.slots))) : z_W X pc lv (w2 :: w1 :: .ref a :: st) P nx u v := z_callI (As := [w1, w2]) hX hS hl rfl hrm hst hd kk
theorem z_callV3 (hX : z_is X l me rm) {y2 : z_M} {rm2 : Room} {S : z_PT} {idx a ci : Nat} {fs : List Value} {w1 w2 w3 : Value} (hS : z_Sp l y2 rm2 S) (hl : z_MV me.1.cls idx y2 3 ci) (hP : P a = some (.inr (ci, fs))) (hrm : z_fitR y2 rm2 rm u v) (hst : (st.map Value.category).sum ≤ 8) (hd : decode me.2.1 pc = .ok (.invokevirtual idx, 3)) (kk : S (.ref a :: [w1, w2, w3]) P nx (fun w P' nx' => z_W X (pc + 3) lv (w.toList ++ st) P' nx' (u + rm2.cells) (v + rm2.slots))) : z_W X pc lv (w3 :: w2 :: w1 :: .ref a :: st) P nx u v := z_callV (As := [w1, w2, w3]) hX hS hl hP rfl hrm hst hd kk
theorem z_callS3 (hX : z_is X l me rm) {y2 : z_M} {rm2 : Room} {S : z_PT} {idx : Nat} {w1 w2 w3 : Value} (hS : z_Sp l y2 rm2 S) (hl : z_MS me.1.cls idx y2 3) (hrm : z_fitR y2 rm2 rm u v) (hst : (st.map Value.category).sum ≤ 8) (hd : decode me.2.1 pc = .ok (.invokestatic idx, 3)) (kk : S [w1, w2, w3] P nx (fun w P' nx' => z_W X (pc + 3) lv (w.toList ++ st) P' nx' (u + rm2.cells) (v + rm2.slots))) : z_W X pc lv (w3 :: w2 :: w1 :: st) P nx u v := z_callS (As := [w1, w2, w3]) hX hS hl rfl hrm hst hd kk
theorem z_callI3 (hX : z_is X l me rm) {y2 : z_M} {rm2 : Room} {S : z_PT} {idx a : Nat} {w1 w2 w3 : Value} (hS : z_Sp l y2 rm2 S) (hl : z_MI me.1.cls idx y2 3) (hrm : z_fitR y2 rm2 rm u v) (hst : (st.map Value.category).sum ≤ 8) (hd : decode me.2.1 pc = .ok (.invokespecial idx, 3)) (kk : S (.ref a :: [w1, w2, w3]) P nx (fun w P' nx' => z_W X (pc + 3) lv (w.toList ++ st) P' nx' (u + rm2.cells) (v + rm2.slots))) : z_W X pc lv (w3 :: w2 :: w1 :: .ref a :: st) P nx u v := z_callI (As := [w1, w2, w3]) hX hS hl rfl hrm hst hd kk
theorem z_callV4 (hX : z_is X l me rm) {y2 : z_M} {rm2 : Room} {S : z_PT} {idx a ci : Nat} {fs : List Value} {w1 w2 w3 w4 : Value} (hS : z_Sp l y2 rm2 S) (hl : z_MV me.1.cls idx y2 4 ci) (hP : P a = some (.inr (ci, fs))) (hrm : z_fitR y2 rm2 rm u v) (hst : (st.map Value.category).sum ≤ 8) (hd : decode me.2.1 pc = .ok (.invokevirtual idx, 3)) (kk : S (.ref a :: [w1, w2, w3, w4]) P nx (fun w P' nx' => z_W X (pc + 3) lv (w.toList ++ st) P' nx' (u + rm2.cells) (v + rm2.slots))) : z_W X pc lv (w4 :: w3 :: w2 :: w1 :: .ref a :: st) P nx u v := z_callV (As := [w1, w2, w3, w4]) hX hS hl hP rfl hrm hst hd kk
theorem z_callS4 (hX : z_is X l me rm) {y2 : z_M} {rm2 : Room} {S : z_PT} {idx : Nat} {w1 w2 w3 w4 : Value} (hS : z_Sp l y2 rm2 S) (hl : z_MS me.1.cls idx y2 4) (hrm : z_fitR y2 rm2 rm u v) (hst : (st.map Value.category).sum ≤ 8) (hd : decode me.2.1 pc = .ok (.invokestatic idx, 3)) (kk : S [w1, w2, w3, w4] P nx (fun w P' nx' => z_W X (pc + 3) lv (w.toList ++ st) P' nx' (u + rm2.cells) (v + rm2.slots))) : z_W X pc lv (w4 :: w3 :: w2 :: w1 :: st) P nx u v := z_callS (As := [w1, w2, w3, w4]) hX hS hl rfl hrm hst hd kk
theorem z_callI4 (hX : z_is X l me rm) {y2 : z_M} {rm2 : Room} {S : z_PT} {idx a : Nat} {w1 w2 w3 w4 : Value} (hS : z_Sp l y2 rm2 S) (hl : z_MI me.1.cls idx y2 4) (hrm : z_fitR y2 rm2 rm u v) (hst : (st.map Value.category).sum ≤ 8) (hd : decode me.2.1 pc = .ok (.invokespecial idx, 3)) (kk : S (.ref a :: [w1, w2, w3, w4]) P nx (fun w P' nx' => z_W X (pc + 3) lv (w.toList ++ st) P' nx' (u + rm2.cells) (v + rm2.slots))) : z_W X pc lv (w4 :: w3 :: w2 :: w1 :: .ref a :: st) P nx u v := z_callI (As := [w1, w2, w3, w4]) hX hS hl rfl hrm hst hd kk
theorem z_callV5 (hX : z_is X l me rm) {y2 : z_M} {rm2 : Room} {S : z_PT} {idx a ci : Nat} {fs : List Value} {w1 w2 w3 w4 w5 : Value} (hS : z_Sp l y2 rm2 S) (hl : z_MV me.1.cls idx y2 5 ci) (hP : P a = some (.inr (ci, fs))) (hrm : z_fitR y2 rm2 rm u v) (hst : (st.map Value.category).sum ≤ 8) (hd : decode me.2.1 pc = .ok (.invokevirtual idx, 3)) (kk : S (.ref a :: [w1, w2, w3, w4, w5]) P nx (fun w P' nx' => z_W X (pc + 3) lv (w.toList ++ st) P' nx' (u + rm2.cells) (v + rm2.slots))) : z_W X pc lv (w5 :: w4 :: w3 :: w2 :: w1 :: .ref a :: st) P nx u v := z_callV (As := [w1, w2, w3, w4, w5]) hX hS hl hP rfl hrm hst hd kk
theorem z_callS5 (hX : z_is X l me rm) {y2 : z_M} {rm2 : Room} {S : z_PT} {idx : Nat} {w1 w2 w3 w4 w5 : Value} (hS : z_Sp l y2 rm2 S) (hl : z_MS me.1.cls idx y2 5) (hrm : z_fitR y2 rm2 rm u v) (hst : (st.map Value.category).sum ≤ 8) (hd : decode me.2.1 pc = .ok (.invokestatic idx, 3)) (kk : S [w1, w2, w3, w4, w5] P nx (fun w P' nx' => z_W X (pc + 3) lv (w.toList ++ st) P' nx' (u + rm2.cells) (v + rm2.slots))) : z_W X pc lv (w5 :: w4 :: w3 :: w2 :: w1 :: st) P nx u v := z_callS (As := [w1, w2, w3, w4, w5]) hX hS hl rfl hrm hst hd kk
theorem z_callI5 (hX : z_is X l me rm) {y2 : z_M} {rm2 : Room} {S : z_PT} {idx a : Nat} {w1 w2 w3 w4 w5 : Value} (hS : z_Sp l y2 rm2 S) (hl : z_MI me.1.cls idx y2 5) (hrm : z_fitR y2 rm2 rm u v) (hst : (st.map Value.category).sum ≤ 8) (hd : decode me.2.1 pc = .ok (.invokespecial idx, 3)) (kk : S (.ref a :: [w1, w2, w3, w4, w5]) P nx (fun w P' nx' => z_W X (pc + 3) lv (w.toList ++ st) P' nx' (u + rm2.cells) (v + rm2.slots))) : z_W X pc lv (w5 :: w4 :: w3 :: w2 :: w1 :: .ref a :: st) P nx u v := z_callI (As := [w1, w2, w3, w4, w5]) hX hS hl rfl hrm hst hd kk
end ZE
theorem z_sl_len (b B : Nat) : ∀ as : List Value, (lg_sl (as.map (z_V b B))).length = (z_args as).length
  | [] => rfl
  | a :: as => by
    have ih := z_sl_len b B as
    have e : lg_sl ((a :: as).map (z_V b B)) = (if a.category = 2 then [.val (z_V b B a), .second] else [.val (z_V b B a)]) ++ lg_sl (as.map (z_V b B)) := by
      show List.flatMap _ (z_V b B a :: as.map (z_V b B)) = _
      rw [List.flatMap_cons, z_V_cat]
      rfl
    rw [e, List.length_append, ih]
    show _ = (if a.category = 2 then some a :: none :: z_args as else some a :: z_args as).length
    by_cases h : a.category = 2
    · rw [if_pos h, if_pos h]
      simp only [List.length_cons, List.length_nil]
      omega
    · rw [if_neg h, if_neg h]
      simp only [List.length_cons, List.length_nil]
      omega
/-- A METHOD IS PROVED BY A WALK OF ITS BODY -/
theorem z_enter {l : Launch} {me : z_M} {rm : Room} {S : z_PT} (hy : plainName me.1.cls = true) (hfit : ∀ as P nx K, S as P nx K → (z_args as).length ≤ me.2.2.1)
    (body : ∀ (X : z_X) (K : Option Value → z_H → Nat → Prop) (as : List Value) (P : z_H) (nx : Nat), z_is X l me rm → z_end X K me.2.2.2 → (me.1.name = "<init>" → z_ini X) → S as P nx K → z_W X 0 (z_args as) [] P nx 0 0) : z_Sp l me rm S := by
  intro D cy b B as P nx K hS
  refine Met.ofW (cc := me.2.1) (maxL := me.2.2.1) (ret := me.2.2.2) hy rfl ?_
  intro p e s m args below meth c s₁ Bd hml hv
  obtain ⟨rfl, hK, hR, hB⟩ := hv
  have hts := atoms_spec (ws := z_ws me) Bd.pre
  have hown : s.vm.findClass me.1.cls = some m.cls := findClass_of_methodNamed Bd.named
  have hl := lv_entry (as.map (z_V b B)) (n := me.2.2.1) (by rw [z_sl_len]; exact hfit as P nx K hS)
  rw [lg_entry_eq]
  have hL : z_L b B ((lg_sl (as.map (z_V b B)) ++ List.replicate (me.2.2.1 - (lg_sl (as.map (z_V b B))).length) Slot.unset).toArray) me.2.2.1 (z_args as) := by
    refine ⟨hl.1, hl.2.1, fun i w hg => ?_⟩
    have := z_args_g b B as 0 i w hg
    rw [Nat.zero_add] at this
    exact hl.2.2 _ this
  obtain ⟨yn, yc, yL, yr⟩ := me
  exact body (p, l, e, rm, s, m, (as.map (z_V b B)).toArray, below, meth, c, yc, yL, yn.cls, D, cy, b, B, MQ below (z_Qc D cy b B K) (as.map (z_V b B)).toArray s rm.cells rm.slots (fun q => B ≤ q)) K as P nx
    ⟨⟨Bd.exec, Bd.bytes, hml, hown, fun w hw => hts w (List.mem_cons_of_mem _ hw), hK, hB⟩, rfl, rfl, rfl, rfl, rfl⟩ ⟨rfl, Bd.returns, Bd.notSynchronized⟩ (fun hn => (name_of_methodNamed Bd.named Bd.method).1.trans hn) hS s.heap [] _ hR va_S.rf hL
