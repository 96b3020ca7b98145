/-! the model's tape, kinds, look, tell -/
def mB (v : Int32) (k : Nat) : Int32 := (v >>> (nI k &&& 31)).toInt8.toInt32
theorem mB_nar (v : Int32) (k : Nat) : vp_nar .byte (mB v k) = mB v k := pk_vb _
def pushF (f : Nat → Int32) (t : Nat) (v : Int32) : Nat → Int32 := upd (upd (upd (upd f t (mB v 24)) (t + 1) (mB v 16)) (t + 2) (mB v 8)) (t + 3) (mB v 0)
theorem iv_upup {iv : Nat → Int32} {x y : Int32} {k : Nat} : va_up (va_up iv k x) k y = va_up iv k y := by
  funext j
  by_cases e : j = k <;> simp [va_up, e]
def S8_push : z_PT := fun as P nx K => ∃ (iv : Nat → Int32) (h : Nat → Bool) (a : Nat → Nat → Int32) (ld : Nat → Int64) (t : Nat) (v : Int32), as = [.ref 70, .int v] ∧ z_in (zM iv h a ld) P ∧ (iv 1 = nI t) ∧ (t + 4 ≤ 120) ∧ (∀ P' : z_H, z_in (zM (va_up iv 1 (nI (t + 4))) h (va_up a 71 (pushF (a 71) t v)) ld) P' → z_out zDm P P' → K none P' nx)
set_option maxRecDepth 4000 in
theorem sp8_push (l : Launch) : z_Sp l M8_push rM8_push S8_push := by
  refine z_enter (by decide) (fun as P nx K h => ?_) (fun X K as P nx hX hE hin0 hS => ?_)
  · obtain ⟨iv, h, a, ld, t, v, rfl, -⟩ := h
    exact Nat.le_of_ble_eq_true rfl
  obtain ⟨iv, h, a, ld, t, v, rfl, hM, p1, p2, hK⟩ := hS
  refine z_pad 1 ?_
  show z_W X 0 [some (.ref 70), some (.int v), none] [] P nx 0 0
  have hO : z_out zDm P P := z_out.rf
  obtain ⟨P0, hP0⟩ : ∃ P0, P0 = P := ⟨_, rfl⟩
  rw [← hP0] at hK
  have hO : z_out zDm P0 P := by rw [hP0]; exact z_out.rf
  have step : ∀ (kk t : Nat) (f : Nat → Int32) (P : z_H), kk ≤ 24 → t < 120 → z_in (zM (va_up iv 1 (nI t)) h (va_up a 71 f) ld) P → z_out zDm P0 P → (∀ P' : z_H, z_in (zM (va_up iv 1 (nI (t + 1))) h (va_up a 71 (upd f t (mB v kk))) ld) P' → z_out zDm P0 P' → z_W X 3 [some (.ref 70), some (.int v), some (.int (nI kk + (-8)))] [] P' nx 0 0) → z_W X 3 [some (.ref 70), some (.int v), some (.int (nI kk))] [] P nx 0 0 := by
    intro kk t f P hkk ht hM hO cont
    refine z_iload_n hX d8_push_3 rfl ?_
    refine z_if_lt hX 36 d8_push_4 (by decide) (fun h4 => ?_) (fun h4 => ?_)
    · exact absurd h4 (nI_pos (by omega))
    refine z_aload_n hX d8_push_7 rfl ?_
    refine z_get hX lf_8_7 (hM _ _ rfl) rfl d8_push_8 ?_
    refine z_aload_n hX d8_push_11 rfl ?_
    refine z_get hX lf_8_172 (hM _ _ rfl) rfl d8_push_12 ?_
    refine z_iload_n hX d8_push_15 rfl ?_
    refine z_iload_n hX d8_push_16 rfl ?_
    rw [show (va_up iv 1 (nI t)) 1 = nI t from rfl]
    refine z_ishr hX d8_push_17 ?_
    refine z_i2b hX d8_push_18 ?_
    refine z_bast hX (hM _ _ rfl) (vp_in_nI (by omega) (by decide)) d8_push_19 ?_
    rw [nI_clamp (show t < 2 ^ 31 by omega), show vp_nar .byte (v >>> (nI kk &&& 31)).toInt8.toInt32 = mB v kk from mB_nar v kk]
    refine z_gen hM hO rfl (fun P hM hO => ?_)
    have hM := zM_s71 hM
    rw [va_upup] at hM
    refine z_aload_n hX d8_push_20 rfl ?_
    refine z_dup hX rfl d8_push_21 ?_
    refine z_get hX lf_8_172 (hM _ _ rfl) rfl d8_push_22 ?_
    refine z_iconst hX (1) d8_push_25 (by decide) ?_
    refine z_iadd hX d8_push_26 ?_
    refine z_puti hX lf_8_172 rfl rfl (hM _ _ rfl) (Nat.le_of_ble_eq_true rfl) d8_push_27 ?_
    refine z_gen hM hO rfl (fun P hM hO => ?_)
    have hM := zM_i1 hM
    rw [iv_upup, show (va_up iv 1 (nI t)) 1 + 1 = nI (t + 1) from nI_1 t] at hM
    refine z_iinc hX (-8) (by decide) rfl (by decide) d8_push_30 ?_
    dsimp only [z_p1, z_p2, z_k, List.headD, List.tail]
    refine z_goto hX 3 d8_push_33 (by decide) ?_
    exact cont P hM hO
  refine z_bipush hX (24) d8_push_0 (by decide) ?_
  refine z_istore_n hX 2 rfl (by decide) d8_push_2 ?_
  dsimp only [z_p1, z_p2, z_k, List.headD, List.tail]
  refine step 24 t (a 71) P (by omega) (by omega) (by rw [show va_up iv 1 (nI t) = iv from by rw [← p1]; funext j; by_cases e : j = 1 <;> simp [va_up, e], show va_up a 71 (a 71) = a from by funext j; by_cases e : j = 71 <;> simp [va_up, e]]; exact hM) hO (fun P hM hO => ?_)
  refine step 16 (t + 1) _ P (by omega) (by omega) hM hO (fun P hM hO => ?_)
  refine step 8 (t + 1 + 1) _ P (by omega) (by omega) hM hO (fun P hM hO => ?_)
  refine step 0 (t + 1 + 1 + 1) _ P (by omega) (by omega) hM hO (fun P hM hO => ?_)
  refine z_iload_n hX d8_push_3 rfl ?_
  refine z_if_lt hX 36 d8_push_4 (by decide) (fun h4 => ?_) (fun h4 => ?_)
  rotate_left
  · exact absurd (by decide) h4
  refine z_vret hX hE (by decide) (by decide) d8_push_36 ?_
  exact hK P hM hO
def feedF (f : Nat → Int32) (t : Nat) (a b c d e : Int32) : Nat → Int32 := pushF (pushF (pushF (pushF (pushF f t a) (t + 4) b) (t + 8) c) (t + 12) d) (t + 16) e
def S8_feed : z_PT := fun as P nx K => ∃ (iv : Nat → Int32) (h : Nat → Bool) (a : Nat → Nat → Int32) (ld : Nat → Int64) (t : Nat) (v1 v2 v3 v4 v5 : Int32), as = [.ref 70, .int v1, .int v2, .int v3, .int v4, .int v5] ∧ z_in (zM iv h a ld) P ∧ (iv 1 = nI t) ∧ (t ≤ 120) ∧ (∀ P' : z_H, z_in (zM (if t ≤ 100 then va_up iv 1 (nI (t + 20)) else iv) h (if t ≤ 100 then va_up a 71 (feedF (a 71) t v1 v2 v3 v4 v5) else a) ld) P' → z_out zDm P P' → K (some (.int (if t ≤ 100 then nI (t + 20) else -1))) P' nx)
set_option maxRecDepth 4000 in
theorem sp8_feed (l : Launch) : z_Sp l M8_feed rM8_feed S8_feed := by
  refine z_enter (by decide) (fun as P nx K h => ?_) (fun X K as P nx hX hE hin0 hS => ?_)
  · obtain ⟨iv, h, a, ld, t, v1, v2, v3, v4, v5, rfl, -⟩ := h
    exact Nat.le_of_ble_eq_true rfl
  obtain ⟨iv, h, a, ld, t, v1, v2, v3, v4, v5, rfl, hM, p1, p2, hK⟩ := hS
  show z_W X 0 [some (.ref 70), some (.int v1), some (.int v2), some (.int v3), some (.int v4), some (.int v5)] [] P nx 0 0
  have hO : z_out zDm P P := z_out.rf
  refine z_aload_n hX d8_feed_0 rfl ?_
  refine z_get hX lf_8_172 (hM _ _ rfl) rfl d8_feed_1 ?_
  refine z_bipush hX (20) d8_feed_4 (by decide) ?_
  refine z_iadd hX d8_feed_6 ?_
  refine z_bipush hX (120) d8_feed_7 (by decide) ?_
  rw [p1, show nI t + 20 = nI (t + 20) from nI_add t 20]
  refine z_icmp_le hX 14 d8_feed_9 (by decide) (fun h9 => ?_) (fun h9 => ?_)
  · skip
    rw [i_le, nI_toInt (by omega), show (120 : Int32).toInt = 120 from rfl] at h9
    simp only [if_pos (show t ≤ 100 by omega)] at hK
    refine z_aload_n hX d8_feed_14 rfl ?_
    refine z_iload_n hX d8_feed_15 rfl ?_
    refine z_callV1 hX (sp8_push l) lm_8_175 (hM _ _ rfl) ⟨by decide, by decide, by decide, by decide⟩ (Nat.le_of_ble_eq_true rfl) d8_feed_16 ?_
    refine ⟨iv, h, a, ld, t, v1, rfl, hM, p1, by omega, fun P hM hO1 => ?_⟩
    have hO := hO.tr hO1
    dsimp only [Option.toList, List.cons_append, List.nil_append]
    refine z_aload_n hX d8_feed_19 rfl ?_
    refine z_iload_n hX d8_feed_20 rfl ?_
    refine z_callV1 hX (sp8_push l) lm_8_175 (hM _ _ rfl) ⟨by decide, by decide, by decide, by decide⟩ (Nat.le_of_ble_eq_true rfl) d8_feed_21 ?_
    refine ⟨_, h, _, ld, t + 4, v2, rfl, hM, rfl, by omega, fun P hM hO1 => ?_⟩
    have hO := hO.tr hO1
    rw [iv_upup, va_upup] at hM
    dsimp only [Option.toList, List.cons_append, List.nil_append]
    refine z_aload_n hX d8_feed_24 rfl ?_
    refine z_iload_n hX d8_feed_25 rfl ?_
    refine z_callV1 hX (sp8_push l) lm_8_175 (hM _ _ rfl) ⟨by decide, by decide, by decide, by decide⟩ (Nat.le_of_ble_eq_true rfl) d8_feed_26 ?_
    refine ⟨_, h, _, ld, t + 4 + 4, v3, rfl, hM, rfl, by omega, fun P hM hO1 => ?_⟩
    have hO := hO.tr hO1
    rw [iv_upup, va_upup] at hM
    dsimp only [Option.toList, List.cons_append, List.nil_append]
    refine z_aload_n hX d8_feed_29 rfl ?_
    refine z_iload hX d8_feed_30 rfl ?_
    refine z_callV1 hX (sp8_push l) lm_8_175 (hM _ _ rfl) ⟨by decide, by decide, by decide, by decide⟩ (Nat.le_of_ble_eq_true rfl) d8_feed_32 ?_
    refine ⟨_, h, _, ld, t + 4 + 4 + 4, v4, rfl, hM, rfl, by omega, fun P hM hO1 => ?_⟩
    have hO := hO.tr hO1
    rw [iv_upup, va_upup] at hM
    dsimp only [Option.toList, List.cons_append, List.nil_append]
    refine z_aload_n hX d8_feed_35 rfl ?_
    refine z_iload hX d8_feed_36 rfl ?_
    refine z_callV1 hX (sp8_push l) lm_8_175 (hM _ _ rfl) ⟨by decide, by decide, by decide, by decide⟩ (Nat.le_of_ble_eq_true rfl) d8_feed_38 ?_
    refine ⟨_, h, _, ld, t + 4 + 4 + 4 + 4, v5, rfl, hM, rfl, by omega, fun P hM hO1 => ?_⟩
    have hO := hO.tr hO1
    rw [iv_upup, va_upup] at hM
    dsimp only [Option.toList, List.cons_append, List.nil_append]
    refine z_aload_n hX d8_feed_41 rfl ?_
    refine z_get hX lf_8_172 (hM _ _ rfl) rfl d8_feed_42 ?_
    refine z_iret hX hE (by decide) (by decide) d8_feed_45 ?_
    exact hK P hM hO
  · skip
    rw [i_le, nI_toInt (by omega), show (120 : Int32).toInt = 120 from rfl] at h9
    simp only [if_neg (show ¬ t ≤ 100 by omega)] at hK
    refine z_iconst hX (-1) d8_feed_12 (by decide) ?_
    refine z_iret hX hE (by decide) (by decide) d8_feed_13 ?_
    exact hK P hM hO
def mKinds (a : Nat → Nat → Int32) (n : Nat) (r k : Int32) : Int32 := if 0 ≤ r.toInt ∧ r.toInt < n ∧ 0 ≤ k.toInt ∧ k.toInt ≤ 9 then a 81 (10 * r.toInt.toNat + k.toInt.toNat) else -1
def S8_kinds : z_PT := fun as P nx K => ∃ (iv : Nat → Int32) (h : Nat → Bool) (a : Nat → Nat → Int32) (ld : Nat → Int64) (n : Nat) (r k : Int32), as = [.ref 70, .int r, .int k] ∧ z_in (zM iv h a ld) P ∧ (iv 2 = nI n) ∧ (n ≤ 12) ∧ K (some (.int (mKinds a n r k))) P nx
set_option maxRecDepth 4000 in
theorem sp8_kinds (l : Launch) : z_Sp l M8_kinds rM8_kinds S8_kinds := by
  refine z_enter (by decide) (fun as P nx K h => ?_) (fun X K as P nx hX hE hin0 hS => ?_)
  · obtain ⟨iv, h, a, ld, n, r, k, rfl, -⟩ := h
    exact Nat.le_of_ble_eq_true rfl
  obtain ⟨iv, h, a, ld, n, r, k, rfl, hM, p1, p2, hK⟩ := hS
  show z_W X 0 [some (.ref 70), some (.int r), some (.int k)] [] P nx 0 0
  refine z_aload_n hX d8_kinds_0 rfl ?_
  refine z_iload_n hX d8_kinds_1 rfl ?_
  refine z_callV1 hX (sp8_isRoad l) lm_8_112 (hM _ _ rfl) ⟨by decide, by decide, by decide, by decide⟩ (Nat.le_of_ble_eq_true rfl) d8_kinds_2 ?_
  refine ⟨iv, h, a, ld, n, r, rfl, hM, p1, p2, ?_⟩
  dsimp only [Option.toList, List.cons_append, List.nil_append]
  refine z_ifb_eq hX 34 d8_kinds_5 (by decide) (fun h5 => ?_) (fun h5 => ?_)
  · skip
    rw [decide_eq_false_iff_not] at h5
    rw [show mKinds a n r k = -1 from if_neg (fun q => h5 ⟨q.1, q.2.1⟩)] at hK
    refine z_iconst hX (-1) d8_kinds_34 (by decide) ?_
    refine z_iret hX hE (by decide) (by decide) d8_kinds_35 ?_
    exact hK
  · skip
    refine z_iload_n hX d8_kinds_8 rfl ?_
    refine z_i2l hX d8_kinds_9 ?_
    refine z_lconst hX 0 d8_kinds_10 (by decide) ?_
    refine z_ldc2 hX (9) d8_kinds_11 lk_8_222 ?_
    refine z_callS3 hX (sp8_lies l) lm_8_74 ⟨by decide, by decide, by decide, by decide⟩ (Nat.le_of_ble_eq_true rfl) d8_kinds_14 ?_
    refine ⟨_, _, _, rfl, ?_⟩
    rw [i2l_t, show (0 : Int64).toInt = 0 from rfl, show (9 : Int64).toInt = 9 from rfl]
    dsimp only [Option.toList, List.cons_append, List.nil_append]
    refine z_ifb_eq hX 34 d8_kinds_17 (by decide) (fun h17 => ?_) (fun h17 => ?_)
    · skip
      rw [decide_eq_false_iff_not] at h17
      rw [show mKinds a n r k = -1 from if_neg (fun q => h17 q.2.2)] at hK
      refine z_iconst hX (-1) d8_kinds_34 (by decide) ?_
      refine z_iret hX hE (by decide) (by decide) d8_kinds_35 ?_
      exact hK
    · skip
      rw [decide_eq_true_eq] at h5 h17
      rw [show mKinds a n r k = a 81 (10 * r.toInt.toNat + k.toInt.toNat) from if_pos ⟨h5.1, h5.2, h17⟩] at hK
      obtain ⟨j, hj, rfl⟩ := nI_rng h5.1 h5.2
      obtain ⟨k', k1, k2, rfl, k4, k5⟩ := nI_r h17 (by omega)
      rw [tN (n := 12) (by omega) (by decide), k4] at hK
      have e1 : (10 : Int32) * nI j + nI k' = nI (10 * j + k') := nI_ml 10 j k'
      refine z_aload_n hX d8_kinds_20 rfl ?_
      refine z_get hX lf_8_42 (hM _ _ rfl) rfl d8_kinds_21 ?_
      refine z_bipush hX (10) d8_kinds_24 (by decide) ?_
      refine z_iload_n hX d8_kinds_26 rfl ?_
      refine z_imul hX d8_kinds_27 ?_
      refine z_iload_n hX d8_kinds_28 rfl ?_
      refine z_iadd hX d8_kinds_29 ?_
      refine z_iald hX (hM _ _ rfl) (ix_in e1 (by omega) (by decide)) d8_kinds_30 ?_
      rw [ix_c e1 (by omega)]
      refine z_goto hX 35 d8_kinds_31 (by decide) ?_
      refine z_iret hX hE (by decide) (by decide) d8_kinds_35 ?_
      exact hK
def mLook (h : Nat → Bool) (a : Nat → Nat → Int32) (n : Nat) (r w : Int32) : Int32 :=
  if 0 ≤ r.toInt ∧ r.toInt < n then
    (if 100 ≤ w.toInt ∧ w.toInt ≤ 463 then a 79 (364 * r.toInt.toNat + (w.toInt.toNat - 100))
    else if w.toInt = 0 then a 75 r.toInt.toNat else if w.toInt = 1 then a 76 r.toInt.toNat else if w.toInt = 2 then a 77 r.toInt.toNat else if w.toInt = 3 then a 78 r.toInt.toNat else if w.toInt = 4 then a 80 r.toInt.toNat else if w.toInt = 5 then nI (zC (mUsed h a r.toInt.toNat) 364) else -1)
  else -1
def S8_look : z_PT := fun as P nx K => ∃ (iv : Nat → Int32) (h : Nat → Bool) (a : Nat → Nat → Int32) (ld : Nat → Int64) (n : Nat) (r w : Int32), as = [.ref 70, .int r, .int w] ∧ z_in (zM iv h a ld) P ∧ (iv 2 = nI n) ∧ (n ≤ 12) ∧ K (some (.int (mLook h a n r w))) P nx
set_option maxRecDepth 4000 in
theorem sp8_look (l : Launch) : z_Sp l M8_look rM8_look S8_look := by
  refine z_enter (by decide) (fun as P nx K h => ?_) (fun X K as P nx hX hE hin0 hS => ?_)
  · obtain ⟨iv, h, a, ld, n, r, w, rfl, -⟩ := h
    exact Nat.le_of_ble_eq_true rfl
  obtain ⟨iv, h, a, ld, n, r, w, rfl, hM, p1, p2, hK⟩ := hS
  show z_W X 0 [some (.ref 70), some (.int r), some (.int w)] [] P nx 0 0
  unfold mLook at hK
  refine z_aload_n hX d8_look_0 rfl ?_
  refine z_iload_n hX d8_look_1 rfl ?_
  refine z_callV1 hX (sp8_isRoad l) lm_8_112 (hM _ _ rfl) ⟨by decide, by decide, by decide, by decide⟩ (Nat.le_of_ble_eq_true rfl) d8_look_2 ?_
  refine ⟨iv, h, a, ld, n, r, rfl, hM, p1, p2, ?_⟩
  dsimp only [Option.toList, List.cons_append, List.nil_append]
  refine z_ifb_ne hX 10 d8_look_5 (by decide) (fun h5 => ?_) (fun h5 => ?_)
  · skip
    rw [decide_eq_true_eq] at h5
    rw [if_pos h5] at hK
    obtain ⟨j, hj, rfl⟩ := nI_rng h5.1 h5.2
    rw [tN (n := 12) (by omega) (by decide)] at hK
    refine z_iload_n hX d8_look_10 rfl ?_
    refine z_i2l hX d8_look_11 ?_
    refine z_ldc2 hX (100) d8_look_12 lk_8_224 ?_
    refine z_ldc2 hX (463) d8_look_15 lk_8_226 ?_
    refine z_callS3 hX (sp8_lies l) lm_8_74 ⟨by decide, by decide, by decide, by decide⟩ (Nat.le_of_ble_eq_true rfl) d8_look_18 ?_
    refine ⟨_, _, _, rfl, ?_⟩
    rw [i2l_t, show (100 : Int64).toInt = 100 from rfl, show (463 : Int64).toInt = 463 from rfl]
    dsimp only [Option.toList, List.cons_append, List.nil_append]
    refine z_ifb_eq hX 40 d8_look_21 (by decide) (fun h21 => ?_) (fun h21 => ?_)
    · skip
      rw [decide_eq_false_iff_not] at h21
      rw [if_neg h21] at hK
      refine z_iload_n hX d8_look_40 rfl ?_
      rcases (show w.toInt = 0 ∨ w.toInt = 1 ∨ w.toInt = 2 ∨ w.toInt = 3 ∨ w.toInt = 4 ∨ w.toInt = 5 ∨ (w.toInt < 0 ∨ 5 < w.toInt) by omega) with e | e | e | e | e | e | e
      · refine z_tabIn hX 80 d8_look_41 (by omega) (by omega) (by rw [e]; rfl) (by decide) ?_
        rw [if_pos e] at hK
        refine z_aload_n hX d8_look_80 rfl ?_
        refine z_get hX lf_8_24 (hM _ _ rfl) rfl d8_look_81 ?_
        refine z_iload_n hX d8_look_84 rfl ?_
        refine z_iald hX (hM _ _ rfl) (vp_in_nI (by omega) (by decide)) d8_look_85 ?_
        rw [nI_clamp (show j < 2 ^ 31 by omega)]
        refine z_iret hX hE (by decide) (by decide) d8_look_86 ?_
        exact hK
      · refine z_tabIn hX 87 d8_look_41 (by omega) (by omega) (by rw [e]; rfl) (by decide) ?_
        rw [if_neg (by omega), if_pos e] at hK
        refine z_aload_n hX d8_look_87 rfl ?_
        refine z_get hX lf_8_27 (hM _ _ rfl) rfl d8_look_88 ?_
        refine z_iload_n hX d8_look_91 rfl ?_
        refine z_iald hX (hM _ _ rfl) (vp_in_nI (by omega) (by decide)) d8_look_92 ?_
        rw [nI_clamp (show j < 2 ^ 31 by omega)]
        refine z_iret hX hE (by decide) (by decide) d8_look_93 ?_
        exact hK
      · refine z_tabIn hX 94 d8_look_41 (by omega) (by omega) (by rw [e]; rfl) (by decide) ?_
        rw [if_neg (by omega), if_neg (by omega), if_pos e] at hK
        refine z_aload_n hX d8_look_94 rfl ?_
        refine z_get hX lf_8_30 (hM _ _ rfl) rfl d8_look_95 ?_
        refine z_iload_n hX d8_look_98 rfl ?_
        refine z_iald hX (hM _ _ rfl) (vp_in_nI (by omega) (by decide)) d8_look_99 ?_
        rw [nI_clamp (show j < 2 ^ 31 by omega)]
        refine z_iret hX hE (by decide) (by decide) d8_look_100 ?_
        exact hK
      · refine z_tabIn hX 101 d8_look_41 (by omega) (by omega) (by rw [e]; rfl) (by decide) ?_
        rw [if_neg (by omega), if_neg (by omega), if_neg (by omega), if_pos e] at hK
        refine z_aload_n hX d8_look_101 rfl ?_
        refine z_get hX lf_8_33 (hM _ _ rfl) rfl d8_look_102 ?_
        refine z_iload_n hX d8_look_105 rfl ?_
        refine z_iald hX (hM _ _ rfl) (vp_in_nI (by omega) (by decide)) d8_look_106 ?_
        rw [nI_clamp (show j < 2 ^ 31 by omega)]
        refine z_iret hX hE (by decide) (by decide) d8_look_107 ?_
        exact hK
      · refine z_tabIn hX 108 d8_look_41 (by omega) (by omega) (by rw [e]; rfl) (by decide) ?_
        rw [if_neg (by omega), if_neg (by omega), if_neg (by omega), if_neg (by omega), if_pos e] at hK
        refine z_aload_n hX d8_look_108 rfl ?_
        refine z_get hX lf_8_39 (hM _ _ rfl) rfl d8_look_109 ?_
        refine z_iload_n hX d8_look_112 rfl ?_
        refine z_iald hX (hM _ _ rfl) (vp_in_nI (by omega) (by decide)) d8_look_113 ?_
        rw [nI_clamp (show j < 2 ^ 31 by omega)]
        refine z_iret hX hE (by decide) (by decide) d8_look_114 ?_
        exact hK
      · refine z_tabIn hX 115 d8_look_41 (by omega) (by omega) (by rw [e]; rfl) (by decide) ?_
        rw [if_neg (by omega), if_neg (by omega), if_neg (by omega), if_neg (by omega), if_neg (by omega), if_pos e] at hK
        refine z_aload_n hX d8_look_115 rfl ?_
        refine z_iload_n hX d8_look_116 rfl ?_
        refine z_callV1 hX (sp8_usedOf l) lm_8_127 (hM _ _ rfl) ⟨by decide, by decide, by decide, by decide⟩ (Nat.le_of_ble_eq_true rfl) d8_look_117 ?_
        refine ⟨iv, h, a, ld, j, rfl, hM, by omega, ?_⟩
        dsimp only [Option.toList, List.cons_append, List.nil_append]
        refine z_iret hX hE (by decide) (by decide) d8_look_120 ?_
        exact hK
      · refine z_tabOut hX 121 d8_look_41 e (by decide) ?_
        rw [if_neg (by omega), if_neg (by omega), if_neg (by omega), if_neg (by omega), if_neg (by omega), if_neg (by omega)] at hK
        refine z_iconst hX (-1) d8_look_121 (by decide) ?_
        refine z_iret hX hE (by decide) (by decide) d8_look_122 ?_
        exact hK
    · skip
      rw [decide_eq_true_eq] at h21
      rw [if_pos h21] at hK
      obtain ⟨k', k1, k2, rfl, k4, k5⟩ := nI_r h21 (by omega)
      rw [k4] at hK
      have e1 : (364 : Int32) * nI j + nI k' - 100 = nI (364 * j + (k' - 100)) := by rw [show (364 : Int32) * nI j + nI k' = nI (364 * j + k') from nI_ml 364 j k', show (100 : Int32) = nI 100 from rfl, pk_sub (by omega)]; congr 1; omega
      refine z_aload_n hX d8_look_24 rfl ?_
      refine z_get hX lf_8_36 (hM _ _ rfl) rfl d8_look_25 ?_
      refine z_sipush hX (364) d8_look_28 (by decide) ?_
      refine z_iload_n hX d8_look_31 rfl ?_
      refine z_imul hX d8_look_32 ?_
      refine z_iload_n hX d8_look_33 rfl ?_
      refine z_iadd hX d8_look_34 ?_
      refine z_bipush hX (100) d8_look_35 (by decide) ?_
      refine z_isub hX d8_look_37 ?_
      refine z_iald hX (hM _ _ rfl) (ix_in e1 (by omega) (by decide)) d8_look_38 ?_
      rw [ix_c e1 (by omega)]
      refine z_iret hX hE (by decide) (by decide) d8_look_39 ?_
      exact hK
  · skip
    rw [decide_eq_false_iff_not] at h5
    rw [if_neg h5] at hK
    refine z_iconst hX (-1) d8_look_8 (by decide) ?_
    refine z_iret hX hE (by decide) (by decide) d8_look_9 ?_
    exact hK
def mTell (iv : Nat → Int32) (h : Nat → Bool) (a : Nat → Nat → Int32) (n : Nat) (sh : Nat → Nat) (ld : Nat → Int64) (w : Int32) : Int32 :=
  if w.toInt = 0 then iv 2 else if w.toInt = 1 then iv 3 else if w.toInt = 2 then iv 14 else if w.toInt = 3 then iv 1 else if w.toInt = 4 then nI (zpop (mKn h a n)) else if w.toInt = 5 then nI (zpop (zsd (mW h a n sh ld).1 (mKn h a n))) else -1
def S8_tell : z_PT := fun as P nx K => ∃ (iv : Nat → Int32) (h : Nat → Bool) (a : Nat → Nat → Int32) (ld : Nat → Int64) (n : Nat) (sh : Nat → Nat) (w : Int32), as = [.ref 70, .int w] ∧ z_in (zM iv h a ld) P ∧ (mWf iv h a n sh) ∧ (∀ (ld2 : Nat → Int64) (P' : z_H), z_in (zM iv h a ld2) P' → z_out zDm P P' → K (some (.int (mTell iv h a n sh ld w))) P' nx)
set_option maxRecDepth 4000 in
theorem sp8_tell (l : Launch) : z_Sp l M8_tell rM8_tell S8_tell := by
  refine z_enter (by decide) (fun as P nx K h => ?_) (fun X K as P nx hX hE hin0 hS => ?_)
  · obtain ⟨iv, h, a, ld, n, sh, w, rfl, -⟩ := h
    exact Nat.le_of_ble_eq_true rfl
  obtain ⟨iv, h, a, ld, n, sh, w, rfl, hM, p1, hK⟩ := hS
  show z_W X 0 [some (.ref 70), some (.int w)] [] P nx 0 0
  have hO : z_out zDm P P := z_out.rf
  have pw := p1
  obtain ⟨w1, w2, w3, w4, w5⟩ := p1
  have hk4 := mKn_lt (h := h) (a := a) w2
  have hw4 := mW_lt (h := h) (a := a) (sh := sh) (ld := ld) w2
  unfold mTell at hK
  refine z_iload_n hX d8_tell_0 rfl ?_
  rcases (show w.toInt = 0 ∨ w.toInt = 1 ∨ w.toInt = 2 ∨ w.toInt = 3 ∨ w.toInt = 4 ∨ w.toInt = 5 ∨ (w.toInt < 0 ∨ 5 < w.toInt) by omega) with e | e | e | e | e | e | e
  · refine z_tabIn hX 40 d8_tell_1 (by omega) (by omega) (by rw [e]; rfl) (by decide) ?_
    rw [if_pos e] at hK
    refine z_aload_n hX d8_tell_40 rfl ?_
    refine z_get hX lf_8_70 (hM _ _ rfl) rfl d8_tell_41 ?_
    refine z_iret hX hE (by decide) (by decide) d8_tell_44 ?_
    exact hK _ P hM hO
  · refine z_tabIn hX 45 d8_tell_1 (by omega) (by omega) (by rw [e]; rfl) (by decide) ?_
    rw [if_neg (by omega), if_pos e] at hK
    refine z_aload_n hX d8_tell_45 rfl ?_
    refine z_get hX lf_8_92 (hM _ _ rfl) rfl d8_tell_46 ?_
    refine z_iret hX hE (by decide) (by decide) d8_tell_49 ?_
    exact hK _ P hM hO
  · refine z_tabIn hX 50 d8_tell_1 (by omega) (by omega) (by rw [e]; rfl) (by decide) ?_
    rw [if_neg (by omega), if_neg (by omega), if_pos e] at hK
    refine z_aload_n hX d8_tell_50 rfl ?_
    refine z_get hX lf_8_215 (hM _ _ rfl) rfl d8_tell_51 ?_
    refine z_iret hX hE (by decide) (by decide) d8_tell_54 ?_
    exact hK _ P hM hO
  · refine z_tabIn hX 55 d8_tell_1 (by omega) (by omega) (by rw [e]; rfl) (by decide) ?_
    rw [if_neg (by omega), if_neg (by omega), if_neg (by omega), if_pos e] at hK
    refine z_aload_n hX d8_tell_55 rfl ?_
    refine z_get hX lf_8_172 (hM _ _ rfl) rfl d8_tell_56 ?_
    refine z_iret hX hE (by decide) (by decide) d8_tell_59 ?_
    exact hK _ P hM hO
  · refine z_tabIn hX 60 d8_tell_1 (by omega) (by omega) (by rw [e]; rfl) (by decide) ?_
    rw [if_neg (by omega), if_neg (by omega), if_neg (by omega), if_neg (by omega), if_pos e] at hK
    refine z_aload_n hX d8_tell_60 rfl ?_
    refine z_callV0 hX (sp8_knownRoads l) lm_8_153 (hM _ _ rfl) ⟨by decide, by decide, by decide, by decide⟩ (Nat.le_of_ble_eq_true rfl) d8_tell_61 ?_
    refine ⟨iv, h, a, ld, n, rfl, hM, w1, w2, ?_⟩
    dsimp only [Option.toList, List.cons_append, List.nil_append]
    refine z_callS1 hX (sp8_sizeOf l) lm_8_147 ⟨by decide, by decide, by decide, by decide⟩ (Nat.le_of_ble_eq_true rfl) d8_tell_64 ?_
    refine ⟨_, rfl, hk4, ?_⟩
    dsimp only [Option.toList, List.cons_append, List.nil_append]
    refine z_iret hX hE (by decide) (by decide) d8_tell_67 ?_
    exact hK _ P hM hO
  · refine z_tabIn hX 68 d8_tell_1 (by omega) (by omega) (by rw [e]; rfl) (by decide) ?_
    rw [if_neg (by omega), if_neg (by omega), if_neg (by omega), if_neg (by omega), if_neg (by omega), if_pos e] at hK
    refine z_aload_n hX d8_tell_68 rfl ?_
    refine z_callV0 hX (sp8_works l) lm_8_160 (hM _ _ rfl) ⟨by decide, by decide, by decide, by decide⟩ (Nat.le_of_ble_eq_true rfl) d8_tell_69 ?_
    refine ⟨iv, h, a, ld, n, sh, rfl, hM, pw, fun P hM hO1 => ?_⟩
    have hO := hO.tr hO1
    dsimp only [Option.toList, List.cons_append, List.nil_append]
    refine z_aload_n hX d8_tell_72 rfl ?_
    refine z_callV0 hX (sp8_knownRoads l) lm_8_153 (hM _ _ rfl) ⟨by decide, by decide, by decide, by decide⟩ (Nat.le_of_ble_eq_true rfl) d8_tell_73 ?_
    refine ⟨iv, h, a, _, n, rfl, hM, w1, w2, ?_⟩
    dsimp only [Option.toList, List.cons_append, List.nil_append]
    refine z_iconst hX (-1) d8_tell_76 (by decide) ?_
    refine z_ixor hX d8_tell_77 ?_
    refine z_iand hX d8_tell_78 ?_
    rw [fa_sd]
    refine z_callS1 hX (sp8_sizeOf l) lm_8_147 ⟨by decide, by decide, by decide, by decide⟩ (Nat.le_of_ble_eq_true rfl) d8_tell_79 ?_
    refine ⟨_, rfl, zsd_lt hw4, ?_⟩
    dsimp only [Option.toList, List.cons_append, List.nil_append]
    refine z_iret hX hE (by decide) (by decide) d8_tell_82 ?_
    exact hK _ P hM hO
  · refine z_tabOut hX 83 d8_tell_1 e (by decide) ?_
    rw [if_neg (by omega), if_neg (by omega), if_neg (by omega), if_neg (by omega), if_neg (by omega), if_neg (by omega)] at hK
    refine z_iconst hX (-1) d8_tell_83 (by decide) ?_
    refine z_iret hX hE (by decide) (by decide) d8_tell_84 ?_
    exact hK _ P hM hO
