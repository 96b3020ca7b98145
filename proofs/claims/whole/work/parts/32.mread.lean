/-! THE READER OF THE MODEL -/
def mT (tb : Nat → Nat) (a : Nat → Nat → Int32) : Prop := (∀ i, tb i < 256) ∧ ∀ i, i < 120 → a 71 i = (nI (tb i)).toInt8.toInt32
theorem by8 : ∀ b : Fin 256, (nI b.1).toInt8.toInt32 &&& 255 = nI b.1 ∧ ((nI b.1).toInt8.toInt32 = 0 ↔ b.1 = 0) := by decide +kernel
theorem mT_b {tb : Nat → Nat} {a : Nat → Nat → Int32} (h : mT tb a) {i : Nat} (hi : i < 120) : a 71 i &&& 255 = nI (tb i) := by
  rw [h.2 i hi]
  exact (by8 ⟨tb i, h.1 i⟩).1
theorem mT_0 {tb : Nat → Nat} {a : Nat → Nat → Int32} (h : mT tb a) {i : Nat} (hi : i < 120) : a 71 i = 0 ↔ tb i = 0 := by
  rw [h.2 i hi]
  exact (by8 ⟨tb i, h.1 i⟩).2
def S8_here : z_PT := fun as P nx K => ∃ (iv : Nat → Int32) (h : Nat → Bool) (a : Nat → Nat → Int32) (ld : Nat → Int64) (tb : Nat → Nat) (e p : Nat), as = [.ref 70] ∧ z_in (zM iv h a ld) P ∧ (iv 24 = nI p) ∧ (iv 25 = nI e) ∧ (p < 2 ^ 30) ∧ (e ≤ 120) ∧ (mT tb a) ∧ K (some (.int (nI (hr tb e p)))) P nx
set_option maxRecDepth 4000 in
theorem sp8_here (l : Launch) : z_Sp l M8_here rM8_here S8_here := by
  refine z_enter (by decide) (fun as P nx K h => ?_) (fun X K as P nx hX hE hin0 hS => ?_)
  · obtain ⟨iv, h, a, ld, tb, e, p, rfl, -⟩ := h
    exact Nat.le_of_ble_eq_true rfl
  obtain ⟨iv, h, a, ld, tb, e, p, rfl, hM, p1, p2, p3, p4, p5, hK⟩ := hS
  show z_W X 0 [some (.ref 70)] [] P nx 0 0
  unfold hr at hK
  refine z_aload_n hX d8_here_0 rfl ?_
  refine z_get hX lf_8_179 (hM _ _ rfl) rfl d8_here_1 ?_
  refine z_aload_n hX d8_here_4 rfl ?_
  refine z_get hX lf_8_182 (hM _ _ rfl) rfl d8_here_5 ?_
  rw [p1, p2]
  refine z_icmp_ge hX 27 d8_here_8 (by decide) (fun h8 => ?_) (fun h8 => ?_)
  · skip
    rw [nI_leI (by omega) (by omega)] at h8
    rw [if_neg (by omega)] at hK
    refine z_iconst hX (0) d8_here_27 (by decide) ?_
    refine z_iret hX hE (by decide) (by decide) d8_here_28 ?_
    exact hK
  · skip
    rw [nI_leI (by omega) (by omega)] at h8
    rw [if_pos (by omega)] at hK
    refine z_aload_n hX d8_here_11 rfl ?_
    refine z_get hX lf_8_7 (hM _ _ rfl) rfl d8_here_12 ?_
    refine z_aload_n hX d8_here_15 rfl ?_
    refine z_get hX lf_8_179 (hM _ _ rfl) rfl d8_here_16 ?_
    rw [p1]
    refine z_bald hX (hM _ _ rfl) (vp_in_nI (by omega) (by decide)) d8_here_19 ?_
    rw [nI_clamp (show p < 2 ^ 31 by omega)]
    refine z_sipush hX (255) d8_here_20 (by decide) ?_
    refine z_iand hX d8_here_23 ?_
    rw [mT_b p5 (by omega)]
    refine z_goto hX 28 d8_here_24 (by decide) ?_
    refine z_iret hX hE (by decide) (by decide) d8_here_28 ?_
    exact hK
def S8_fails : z_PT := fun as P nx K => ∃ (iv : Nat → Int32) (h : Nat → Bool) (a : Nat → Nat → Int32) (ld : Nat → Int64) (b f p : Nat), as = [.ref 70, .int (nI f), .int (nI p)] ∧ z_in (zM iv h a ld) P ∧ (iv 26 = nI b) ∧ (b < 2 ^ 30) ∧ (∀ P' : z_H, z_in (zM (va_up iv 26 (nI (if b = 0 then 100 * f + p else b))) h a ld) P' → z_out zDm P P' → K none P' nx)
set_option maxRecDepth 4000 in
theorem sp8_fails (l : Launch) : z_Sp l M8_fails rM8_fails S8_fails := by
  refine z_enter (by decide) (fun as P nx K h => ?_) (fun X K as P nx hX hE hin0 hS => ?_)
  · obtain ⟨iv, h, a, ld, b, f, p, rfl, -⟩ := h
    exact Nat.le_of_ble_eq_true rfl
  obtain ⟨iv, h, a, ld, b, f, p, rfl, hM, p1, p2, hK⟩ := hS
  show z_W X 0 [some (.ref 70), some (.int (nI f)), some (.int (nI p))] [] P nx 0 0
  have hO : z_out zDm P P := z_out.rf
  refine z_aload_n hX d8_fails_0 rfl ?_
  refine z_aload_n hX d8_fails_1 rfl ?_
  refine z_get hX lf_8_185 (hM _ _ rfl) rfl d8_fails_2 ?_
  rw [p1]
  refine z_if_le hX 15 d8_fails_5 (by decide) (fun h5 => ?_) (fun h5 => ?_)
  · skip
    rw [i_le, nI_toInt (by omega), show (0 : Int32).toInt = 0 from rfl] at h5
    rw [if_pos (by omega)] at hK
    refine z_bipush hX (100) d8_fails_15 (by decide) ?_
    refine z_iload_n hX d8_fails_17 rfl ?_
    refine z_imul hX d8_fails_18 ?_
    refine z_iload_n hX d8_fails_19 rfl ?_
    refine z_iadd hX d8_fails_20 ?_
    refine z_puti hX lf_8_185 rfl rfl (hM _ _ rfl) (Nat.le_of_ble_eq_true rfl) d8_fails_21 ?_
    refine z_gen hM hO rfl (fun P hM hO => ?_)
    have hM := zM_i26 hM
    refine z_vret hX hE (by decide) (by decide) d8_fails_24 ?_
    first | exact hK P hM hO | (rw [p1] at hM; exact hK P hM hO) | (rw [show (100 : Int32) = nI 100 from rfl, nI_ml] at hM; exact hK P hM hO)
  · skip
    rw [i_le, nI_toInt (by omega), show (0 : Int32).toInt = 0 from rfl] at h5
    rw [if_neg (by omega)] at hK
    refine z_aload_n hX d8_fails_8 rfl ?_
    refine z_get hX lf_8_185 (hM _ _ rfl) rfl d8_fails_9 ?_
    refine z_goto hX 21 d8_fails_12 (by decide) ?_
    refine z_puti hX lf_8_185 rfl rfl (hM _ _ rfl) (Nat.le_of_ble_eq_true rfl) d8_fails_21 ?_
    refine z_gen hM hO rfl (fun P hM hO => ?_)
    have hM := zM_i26 hM
    refine z_vret hX hE (by decide) (by decide) d8_fails_24 ?_
    first | exact hK P hM hO | (rw [p1] at hM; exact hK P hM hO) | (rw [show (100 : Int32) = nI 100 from rfl, nI_ml] at hM; exact hK P hM hO)
def S8_seesDigit : z_PT := fun as P nx K => ∃ (iv : Nat → Int32) (h : Nat → Bool) (a : Nat → Nat → Int32) (ld : Nat → Int64) (tb : Nat → Nat) (e p : Nat), as = [.ref 70] ∧ z_in (zM iv h a ld) P ∧ (iv 24 = nI p) ∧ (iv 25 = nI e) ∧ (p < 2 ^ 30) ∧ (e ≤ 120) ∧ (mT tb a) ∧ K (some (.int (zb (dg tb e p)))) P nx
set_option maxRecDepth 4000 in
theorem sp8_seesDigit (l : Launch) : z_Sp l M8_seesDigit rM8_seesDigit S8_seesDigit := by
  refine z_enter (by decide) (fun as P nx K h => ?_) (fun X K as P nx hX hE hin0 hS => ?_)
  · obtain ⟨iv, h, a, ld, tb, e, p, rfl, -⟩ := h
    exact Nat.le_of_ble_eq_true rfl
  obtain ⟨iv, h, a, ld, tb, e, p, rfl, hM, p1, p2, p3, p4, p5, hK⟩ := hS
  show z_W X 0 [some (.ref 70)] [] P nx 0 0
  refine z_aload_n hX d8_seesDigit_0 rfl ?_
  refine z_callV0 hX (sp8_here l) lm_8_188 (hM _ _ rfl) ⟨by decide, by decide, by decide, by decide⟩ (Nat.le_of_ble_eq_true rfl) d8_seesDigit_1 ?_
  refine ⟨iv, h, a, ld, tb, e, p, rfl, hM, p1, p2, p3, p4, p5, ?_⟩
  dsimp only [Option.toList, List.cons_append, List.nil_append]
  refine z_i2l hX d8_seesDigit_4 ?_
  refine z_ldc2 hX (48) d8_seesDigit_5 lk_8_191 ?_
  refine z_ldc2 hX (57) d8_seesDigit_8 lk_8_193 ?_
  refine z_callS3 hX (sp8_lies l) lm_8_74 ⟨by decide, by decide, by decide, by decide⟩ (Nat.le_of_ble_eq_true rfl) d8_seesDigit_11 ?_
  refine ⟨_, _, _, rfl, ?_⟩
  have := hr_lt p5.1 e p
  rw [i2l_t, nI_toInt (by omega), show (48 : Int64).toInt = 48 from rfl, show (57 : Int64).toInt = 57 from rfl, show decide ((48 : Int) ≤ (hr tb e p : Int) ∧ (hr tb e p : Int) ≤ 57) = dg tb e p from decide_eq_decide.mpr (by omega)]
  dsimp only [Option.toList, List.cons_append, List.nil_append]
  refine z_zret hX hE (zb_01 _) (by decide) (by decide) d8_seesDigit_14 ?_
  exact hK
def ivx (iv iv' : Nat → Int32) : Prop := ∀ k, k ≠ 24 → k ≠ 26 → iv' k = iv k
theorem ivx.rf {iv : Nat → Int32} : ivx iv iv := fun _ _ _ => rfl
theorem ivx.p {iv iv' : Nat → Int32} (h : ivx iv iv') (x : Int32) : ivx iv (va_up iv' 24 x) := fun k h1 h2 => by rw [← h k h1 h2]; simp [va_up, h1]
theorem ivx.b {iv iv' : Nat → Int32} (h : ivx iv iv') (x : Int32) : ivx iv (va_up iv' 26 x) := fun k h1 h2 => by rw [← h k h1 h2]; simp [va_up, h2]
theorem ivx.tr {iv iv' iv2 : Nat → Int32} (h : ivx iv iv') (g : ivx iv' iv2) : ivx iv iv2 := fun k h1 h2 => (g k h1 h2).trans (h k h1 h2)
def S8_number : z_PT := fun as P nx K => ∃ (iv : Nat → Int32) (h : Nat → Bool) (a : Nat → Nat → Int32) (ld : Nat → Int64) (tb : Nat → Nat) (e s lo : Nat), as = [.ref 70, .int (nI lo)] ∧ z_in (zM iv h a ld) P ∧ iv 24 = nI s ∧ iv 25 = nI e ∧ iv 26 = 0 ∧ s < 1000 ∧ e ≤ 120 ∧ mT tb a ∧ lo < 1000 ∧ ∀ (iv' : Nat → Int32) (v : Nat) (P' : z_H), ivx iv iv' → iv' 26 = nI (numF tb e s lo) → (numF tb e s lo = 0 → iv' 24 = nI (s + nK tb e s) ∧ v = nN tb e s) → z_in (zM iv' h a ld) P' → z_out zDm P P' → K (some (.int (nI v))) P' nx
theorem sp8_number (l : Launch) : z_Sp l M8_number rM8_number S8_number := by
  refine z_enter (by decide) (fun as P nx K h => ?_) (fun X K as P nx hX hE hin0 hS => ?_)
  · obtain ⟨iv, h, a, ld, tb, e, s, lo, rfl, -⟩ := h
    exact Nat.le_of_ble_eq_true rfl
  obtain ⟨iv, h, a, ld, tb, e, s, lo, rfl, hM, p2, p3, p4, p5, p6, p7, p8, hK⟩ := hS
  refine z_pad 2 ?_
  show z_W X 0 [some (.ref 70), some (.int (nI lo)), none, none] [] P nx 0 0
  obtain ⟨P0, hP0⟩ : ∃ P0, P0 = P := ⟨_, rfl⟩
  rw [← hP0] at hK
  have hO : z_out zDm P0 P := by rw [hP0]; exact z_out.rf
  have hnl := numF_lt (tb := tb) (e := e) (s := s) (lo := lo) (by omega)
  have f100 : ∀ (iv' : Nat → Int32) (v b : Nat) (P : z_H), ivx iv iv' → iv' 26 = nI b → (b = 0 → ¬ (v < lo ∨ 255 < v)) → (b = 0 → iv' 24 = nI (s + nK tb e s) ∧ v = nN tb e s ∧ 0 < nK tb e s ∧ nK tb e s < 4) → (b ≠ 0 → numF tb e s lo = b) → z_in (zM iv' h a ld) P → z_out zDm P0 P → z_W X 100 [some (.ref 70), some (.int (nI lo)), some (.int (nI s)), some (.int (nI v))] [] P nx 0 0 := by
    intro iv' v b P hx hb hv h0 hn0 hM hO
    have hf : numF tb e s lo = b := by
      by_cases hb0 : b = 0
      · obtain ⟨q1, q2, q3, q4⟩ := h0 hb0
        unfold numF
        rw [if_neg (by omega), if_neg (by omega), ← q2, if_neg (hv hb0)]
        exact hb0.symm
      · exact hn0 hb0
    refine z_iload_n hX d8_number_100 rfl ?_
    refine z_iret hX hE (by decide) (by decide) d8_number_101 ?_
    exact hK iv' v P hx (by rw [hf]; exact hb) (fun z => ⟨(h0 (by omega)).1, (h0 (by omega)).2.1⟩) hM hO
  have f94 : ∀ (iv' : Nat → Int32) (v b : Nat) (P : z_H), ivx iv iv' → iv' 26 = nI b → b < 2 ^ 30 → (v < lo ∨ 255 < v) → (b = 0 → iv' 24 = nI (s + nK tb e s) ∧ v = nN tb e s ∧ 0 < nK tb e s ∧ nK tb e s < 4) → (b ≠ 0 → numF tb e s lo = b) → z_in (zM iv' h a ld) P → z_out zDm P0 P → z_W X 94 [some (.ref 70), some (.int (nI lo)), some (.int (nI s)), some (.int (nI v))] [] P nx 0 0 := by
    intro iv' v b P hx hb hbl hv h0 hn0 hM hO
    refine z_aload_n hX d8_number_94 rfl ?_
    refine z_iconst hX (3) d8_number_95 (by decide) ?_
    refine z_iload_n hX d8_number_96 rfl ?_
    refine z_callV2 hX (sp8_fails l) lm_8_199 (hM _ _ rfl) ⟨by decide, by decide, by decide, by decide⟩ (Nat.le_of_ble_eq_true rfl) d8_number_97 ?_
    refine ⟨iv', h, a, ld, b, 3, s, rfl, hM, hb, hbl, fun P hM hO1 => ?_⟩
    have hO := hO.tr hO1
    dsimp only [Option.toList, List.cons_append, List.nil_append]
    refine f100 _ v (if b = 0 then 100 * 3 + s else b) P (hx.b _) rfl (fun z => ?_) (fun z => ?_) (fun z => ?_) hM hO
    · split at z <;> omega
    · split at z <;> omega
    · by_cases hb0 : b = 0
      · obtain ⟨q1, q2, q3, q4⟩ := h0 hb0
        unfold numF
        rw [if_neg (by omega), if_neg (by omega), ← q2, if_pos hv, if_pos hb0]
      · rw [if_neg hb0]; exact hn0 hb0
  have fin : ∀ (iv' : Nat → Int32) (v b : Nat) (P : z_H), ivx iv iv' → iv' 26 = nI b → b < 2 ^ 30 → v < 1000000 → (b = 0 → iv' 24 = nI (s + nK tb e s) ∧ v = nN tb e s ∧ 0 < nK tb e s ∧ nK tb e s < 4) → (b ≠ 0 → numF tb e s lo = b) → z_in (zM iv' h a ld) P → z_out zDm P0 P → z_W X 82 [some (.ref 70), some (.int (nI lo)), some (.int (nI s)), some (.int (nI v))] [] P nx 0 0 := by
    intro iv' v b P hx hb hbl hvl h0 hn0 hM hO
    refine z_iload_n hX d8_number_82 rfl ?_
    refine z_sipush hX (255) d8_number_83 (by decide) ?_
    refine z_icmp_gt hX 94 d8_number_86 (by decide) (fun h86 => ?_) (fun h86 => ?_)
    · skip
      rw [i_lt, nI_toInt (by omega), show (255 : Int32).toInt = 255 from rfl] at h86
      exact f94 iv' v b P hx hb hbl (by omega) h0 hn0 hM hO
    · skip
      rw [i_lt, nI_toInt (by omega), show (255 : Int32).toInt = 255 from rfl] at h86
      refine z_iload_n hX d8_number_89 rfl ?_
      refine z_iload_n hX d8_number_90 rfl ?_
      refine z_icmp_ge hX 100 d8_number_91 (by decide) (fun h91 => ?_) (fun h91 => ?_)
      · skip
        rw [i_le, nI_toInt (by omega), nI_toInt (by omega)] at h91
        exact f100 iv' v b P hx hb (by omega) h0 hn0 hM hO
      · skip
        rw [i_le, nI_toInt (by omega), nI_toInt (by omega)] at h91
        exact f94 iv' v b P hx hb hbl (by omega) h0 hn0 hM hO
  have ext : ∀ (iv' : Nat → Int32) (v b : Nat) (P : z_H), ivx iv iv' → iv' 26 = nI b → b ≠ 0 → b < 2 ^ 30 → v < 1000000 → numF tb e s lo = b → z_in (zM iv' h a ld) P → z_out zDm P0 P → z_W X 23 [some (.ref 70), some (.int (nI lo)), some (.int (nI s)), some (.int (nI v))] [] P nx 0 0 := by
    intro iv' v b P hx hb hb0 hbl hvl hf hM hO
    refine z_aload_n hX d8_number_23 rfl ?_
    refine z_get hX lf_8_185 (hM _ _ rfl) rfl d8_number_24 ?_
    rw [hb]
    refine z_if_ne hX 82 d8_number_27 (by decide) (fun h27 => ?_) (fun h27 => ?_)
    rotate_left
    · exact absurd ((nI_n0 (by omega)).mp h27) hb0
    exact fin iv' v b P hx hb hbl hvl (fun z => absurd z hb0) (fun _ => hf) hM hO
  have loop : ∀ (k i : Nat) (iv' : Nat → Int32) (P : z_H), i + k = 3 → (0 < i ∨ dg tb e s = true) → (∀ j, j < i → dg tb e (s + j) = true) → ivx iv iv' → iv' 26 = 0 → iv' 24 = nI (s + i) → z_in (zM iv' h a ld) P → z_out zDm P0 P → z_W X 23 [some (.ref 70), some (.int (nI lo)), some (.int (nI s)), some (.int (nI (nV tb e s i)))] [] P nx 0 0 := by
    intro k
    induction k with
    | zero =>
      intro i iv' P hi h1 hd hx hb hpl hM hO
      refine z_aload_n hX d8_number_23 rfl ?_
      refine z_get hX lf_8_185 (hM _ _ rfl) rfl d8_number_24 ?_
      rw [hb]
      refine z_if_ne hX 82 d8_number_27 (by decide) (fun h27 => ?_) (fun h27 => ?_)
      · exact absurd rfl h27
      refine z_aload_n hX d8_number_30 rfl ?_
      refine z_callV0 hX (sp8_seesDigit l) lm_8_195 (hM _ _ rfl) ⟨by decide, by decide, by decide, by decide⟩ (Nat.le_of_ble_eq_true rfl) d8_number_31 ?_
      refine ⟨iv', h, a, ld, tb, e, s + i, rfl, hM, hpl, (hx 25 (by decide) (by decide)).trans p3, by omega, p6, p7, ?_⟩
      dsimp only [Option.toList, List.cons_append, List.nil_append]
      refine z_ifb_eq hX 82 d8_number_34 (by decide) (fun h34 => ?_) (fun h34 => ?_)
      · skip
        refine fin iv' (nV tb e s i) 0 P hx hb (by omega) (nV_lt p7.1 e s i (by omega)) (fun _ => ?_) (fun z => absurd rfl z) hM hO
        have hk := nK_of (by omega) hd h34
        have hi0 : 0 < i := by
          rcases h1 with z | z
          · exact z
          · exact Nat.pos_of_ne_zero (fun r => by rw [r, show s + 0 = s from rfl, z] at h34; cases h34)
        exact ⟨by rw [hk]; exact hpl, by unfold nN; rw [hk], by omega, by omega⟩
      · skip
        refine z_aload_n hX d8_number_37 rfl ?_
        refine z_get hX lf_8_179 (hM _ _ rfl) rfl d8_number_38 ?_
        refine z_iload_n hX d8_number_41 rfl ?_
        refine z_iconst hX (3) d8_number_42 (by decide) ?_
        refine z_iadd hX d8_number_43 ?_
        rw [hpl, show nI s + 3 = nI (s + 3) from nI_add s 3]
        refine z_icmp_ne hX 56 d8_number_44 (by decide) (fun h44 => ?_) (fun h44 => ?_)
        · skip
          rw [nI_eq (by omega) (by omega)] at h44
          refine z_bipush hX (10) d8_number_56 (by decide) ?_
          refine z_iload_n hX d8_number_58 rfl ?_
          refine z_imul hX d8_number_59 ?_
          refine z_aload_n hX d8_number_60 rfl ?_
          refine z_callV0 hX (sp8_here l) lm_8_188 (hM _ _ rfl) ⟨by decide, by decide, by decide, by decide⟩ (Nat.le_of_ble_eq_true rfl) d8_number_61 ?_
          first | refine ⟨iv', h, a, ld, tb, e, s + i, rfl, hM, hpl, (hx 25 (by decide) (by decide)).trans p3, by omega, p6, p7, ?_⟩ | refine ⟨_, h, a, ld, tb, e, s + i, rfl, hM, hpl, (hx 25 (by decide) (by decide)).trans p3, by omega, p6, p7, ?_⟩
          dsimp only [Option.toList, List.cons_append, List.nil_append]
          refine z_iadd hX d8_number_64 ?_
          refine z_bipush hX (48) d8_number_65 (by decide) ?_
          refine z_isub hX d8_number_67 ?_
          have hg := dg_e.mp h34
          rw [show (10 : Int32) = nI 10 from rfl, pk_mul, nI_add, show (48 : Int32) = nI 48 from rfl, pk_sub (by omega)]
          refine z_istore_n hX 3 rfl (by decide) d8_number_68 ?_
          dsimp only [z_p1, z_p2, z_k, List.headD, List.tail]
          refine z_aload_n hX d8_number_69 rfl ?_
          refine z_dup hX rfl d8_number_70 ?_
          refine z_get hX lf_8_179 (hM _ _ rfl) rfl d8_number_71 ?_
          refine z_iconst hX (1) d8_number_74 (by decide) ?_
          refine z_iadd hX d8_number_75 ?_
          refine z_puti hX lf_8_179 rfl rfl (hM _ _ rfl) (Nat.le_of_ble_eq_true rfl) d8_number_76 ?_
          refine z_gen hM hO rfl (fun P hM hO => ?_)
          have hM := zM_i24 hM
          refine z_goto hX 23 d8_number_79 (by decide) ?_
          have hd' : ∀ j, j < i + 1 → dg tb e (s + j) = true := fun j hj => by
            by_cases r : j = i
            · rw [r]; exact h34
            · exact hd j (by omega)
          first
            | (exfalso; omega)
            | (exact ih (i + 1) _ P (by omega) (by omega) hd' (hx.p _) hb (by show iv' 24 + 1 = nI (s + i + 1); rw [hpl, nI_1]) hM hO)
            | (have hk := nK_4 (tb := tb) (e := e) (s := s) (fun j hj => hd' j (by omega))
               exact ext _ (nV tb e s (i + 1)) (100 * 1 + (s + i)) P ((hx.b _).p _) rfl (by omega) (by omega) (nV_lt p7.1 e s (i + 1) (by omega)) (by unfold numF; rw [hk]; simp; omega) hM hO)
        · skip
          rw [nI_eq (by omega) (by omega)] at h44
          refine z_aload_n hX d8_number_47 rfl ?_
          refine z_iconst hX (1) d8_number_48 (by decide) ?_
          refine z_aload_n hX d8_number_49 rfl ?_
          refine z_get hX lf_8_179 (hM _ _ rfl) rfl d8_number_50 ?_
          rw [hpl]
          refine z_callV2 hX (sp8_fails l) lm_8_199 (hM _ _ rfl) ⟨by decide, by decide, by decide, by decide⟩ (Nat.le_of_ble_eq_true rfl) d8_number_53 ?_
          refine ⟨iv', h, a, ld, 0, 1, s + i, rfl, hM, hb, by decide, fun P hM hO1 => ?_⟩
          have hO := hO.tr hO1
          dsimp only [Option.toList, List.cons_append, List.nil_append]
          refine z_bipush hX (10) d8_number_56 (by decide) ?_
          refine z_iload_n hX d8_number_58 rfl ?_
          refine z_imul hX d8_number_59 ?_
          refine z_aload_n hX d8_number_60 rfl ?_
          refine z_callV0 hX (sp8_here l) lm_8_188 (hM _ _ rfl) ⟨by decide, by decide, by decide, by decide⟩ (Nat.le_of_ble_eq_true rfl) d8_number_61 ?_
          first | refine ⟨iv', h, a, ld, tb, e, s + i, rfl, hM, hpl, (hx 25 (by decide) (by decide)).trans p3, by omega, p6, p7, ?_⟩ | refine ⟨_, h, a, ld, tb, e, s + i, rfl, hM, hpl, (hx 25 (by decide) (by decide)).trans p3, by omega, p6, p7, ?_⟩
          dsimp only [Option.toList, List.cons_append, List.nil_append]
          refine z_iadd hX d8_number_64 ?_
          refine z_bipush hX (48) d8_number_65 (by decide) ?_
          refine z_isub hX d8_number_67 ?_
          have hg := dg_e.mp h34
          rw [show (10 : Int32) = nI 10 from rfl, pk_mul, nI_add, show (48 : Int32) = nI 48 from rfl, pk_sub (by omega)]
          refine z_istore_n hX 3 rfl (by decide) d8_number_68 ?_
          dsimp only [z_p1, z_p2, z_k, List.headD, List.tail]
          refine z_aload_n hX d8_number_69 rfl ?_
          refine z_dup hX rfl d8_number_70 ?_
          refine z_get hX lf_8_179 (hM _ _ rfl) rfl d8_number_71 ?_
          refine z_iconst hX (1) d8_number_74 (by decide) ?_
          refine z_iadd hX d8_number_75 ?_
          refine z_puti hX lf_8_179 rfl rfl (hM _ _ rfl) (Nat.le_of_ble_eq_true rfl) d8_number_76 ?_
          refine z_gen hM hO rfl (fun P hM hO => ?_)
          have hM := zM_i24 hM
          refine z_goto hX 23 d8_number_79 (by decide) ?_
          have hd' : ∀ j, j < i + 1 → dg tb e (s + j) = true := fun j hj => by
            by_cases r : j = i
            · rw [r]; exact h34
            · exact hd j (by omega)
          first
            | (exfalso; omega)
            | (exact ih (i + 1) _ P (by omega) (by omega) hd' (hx.p _) hb (by show iv' 24 + 1 = nI (s + i + 1); rw [hpl, nI_1]) hM hO)
            | (have hk := nK_4 (tb := tb) (e := e) (s := s) (fun j hj => hd' j (by omega))
               exact ext _ (nV tb e s (i + 1)) (100 * 1 + (s + i)) P ((hx.b _).p _) rfl (by omega) (by omega) (nV_lt p7.1 e s (i + 1) (by omega)) (by unfold numF; rw [hk]; simp; omega) hM hO)
    | succ k ih =>
      intro i iv' P hi h1 hd hx hb hpl hM hO
      refine z_aload_n hX d8_number_23 rfl ?_
      refine z_get hX lf_8_185 (hM _ _ rfl) rfl d8_number_24 ?_
      rw [hb]
      refine z_if_ne hX 82 d8_number_27 (by decide) (fun h27 => ?_) (fun h27 => ?_)
      · exact absurd rfl h27
      refine z_aload_n hX d8_number_30 rfl ?_
      refine z_callV0 hX (sp8_seesDigit l) lm_8_195 (hM _ _ rfl) ⟨by decide, by decide, by decide, by decide⟩ (Nat.le_of_ble_eq_true rfl) d8_number_31 ?_
      refine ⟨iv', h, a, ld, tb, e, s + i, rfl, hM, hpl, (hx 25 (by decide) (by decide)).trans p3, by omega, p6, p7, ?_⟩
      dsimp only [Option.toList, List.cons_append, List.nil_append]
      refine z_ifb_eq hX 82 d8_number_34 (by decide) (fun h34 => ?_) (fun h34 => ?_)
      · skip
        refine fin iv' (nV tb e s i) 0 P hx hb (by omega) (nV_lt p7.1 e s i (by omega)) (fun _ => ?_) (fun z => absurd rfl z) hM hO
        have hk := nK_of (by omega) hd h34
        have hi0 : 0 < i := by
          rcases h1 with z | z
          · exact z
          · exact Nat.pos_of_ne_zero (fun r => by rw [r, show s + 0 = s from rfl, z] at h34; cases h34)
        exact ⟨by rw [hk]; exact hpl, by unfold nN; rw [hk], by omega, by omega⟩
      · skip
        refine z_aload_n hX d8_number_37 rfl ?_
        refine z_get hX lf_8_179 (hM _ _ rfl) rfl d8_number_38 ?_
        refine z_iload_n hX d8_number_41 rfl ?_
        refine z_iconst hX (3) d8_number_42 (by decide) ?_
        refine z_iadd hX d8_number_43 ?_
        rw [hpl, show nI s + 3 = nI (s + 3) from nI_add s 3]
        refine z_icmp_ne hX 56 d8_number_44 (by decide) (fun h44 => ?_) (fun h44 => ?_)
        · skip
          rw [nI_eq (by omega) (by omega)] at h44
          refine z_bipush hX (10) d8_number_56 (by decide) ?_
          refine z_iload_n hX d8_number_58 rfl ?_
          refine z_imul hX d8_number_59 ?_
          refine z_aload_n hX d8_number_60 rfl ?_
          refine z_callV0 hX (sp8_here l) lm_8_188 (hM _ _ rfl) ⟨by decide, by decide, by decide, by decide⟩ (Nat.le_of_ble_eq_true rfl) d8_number_61 ?_
          first | refine ⟨iv', h, a, ld, tb, e, s + i, rfl, hM, hpl, (hx 25 (by decide) (by decide)).trans p3, by omega, p6, p7, ?_⟩ | refine ⟨_, h, a, ld, tb, e, s + i, rfl, hM, hpl, (hx 25 (by decide) (by decide)).trans p3, by omega, p6, p7, ?_⟩
          dsimp only [Option.toList, List.cons_append, List.nil_append]
          refine z_iadd hX d8_number_64 ?_
          refine z_bipush hX (48) d8_number_65 (by decide) ?_
          refine z_isub hX d8_number_67 ?_
          have hg := dg_e.mp h34
          rw [show (10 : Int32) = nI 10 from rfl, pk_mul, nI_add, show (48 : Int32) = nI 48 from rfl, pk_sub (by omega)]
          refine z_istore_n hX 3 rfl (by decide) d8_number_68 ?_
          dsimp only [z_p1, z_p2, z_k, List.headD, List.tail]
          refine z_aload_n hX d8_number_69 rfl ?_
          refine z_dup hX rfl d8_number_70 ?_
          refine z_get hX lf_8_179 (hM _ _ rfl) rfl d8_number_71 ?_
          refine z_iconst hX (1) d8_number_74 (by decide) ?_
          refine z_iadd hX d8_number_75 ?_
          refine z_puti hX lf_8_179 rfl rfl (hM _ _ rfl) (Nat.le_of_ble_eq_true rfl) d8_number_76 ?_
          refine z_gen hM hO rfl (fun P hM hO => ?_)
          have hM := zM_i24 hM
          refine z_goto hX 23 d8_number_79 (by decide) ?_
          have hd' : ∀ j, j < i + 1 → dg tb e (s + j) = true := fun j hj => by
            by_cases r : j = i
            · rw [r]; exact h34
            · exact hd j (by omega)
          first
            | (exfalso; omega)
            | (exact ih (i + 1) _ P (by omega) (by omega) hd' (hx.p _) hb (by show iv' 24 + 1 = nI (s + i + 1); rw [hpl, nI_1]) hM hO)
            | (have hk := nK_4 (tb := tb) (e := e) (s := s) (fun j hj => hd' j (by omega))
               exact ext _ (nV tb e s (i + 1)) (100 * 1 + (s + i)) P ((hx.b _).p _) rfl (by omega) (by omega) (nV_lt p7.1 e s (i + 1) (by omega)) (by unfold numF; rw [hk]; simp; omega) hM hO)
        · skip
          rw [nI_eq (by omega) (by omega)] at h44
          refine z_aload_n hX d8_number_47 rfl ?_
          refine z_iconst hX (1) d8_number_48 (by decide) ?_
          refine z_aload_n hX d8_number_49 rfl ?_
          refine z_get hX lf_8_179 (hM _ _ rfl) rfl d8_number_50 ?_
          rw [hpl]
          refine z_callV2 hX (sp8_fails l) lm_8_199 (hM _ _ rfl) ⟨by decide, by decide, by decide, by decide⟩ (Nat.le_of_ble_eq_true rfl) d8_number_53 ?_
          refine ⟨iv', h, a, ld, 0, 1, s + i, rfl, hM, hb, by decide, fun P hM hO1 => ?_⟩
          have hO := hO.tr hO1
          dsimp only [Option.toList, List.cons_append, List.nil_append]
          refine z_bipush hX (10) d8_number_56 (by decide) ?_
          refine z_iload_n hX d8_number_58 rfl ?_
          refine z_imul hX d8_number_59 ?_
          refine z_aload_n hX d8_number_60 rfl ?_
          refine z_callV0 hX (sp8_here l) lm_8_188 (hM _ _ rfl) ⟨by decide, by decide, by decide, by decide⟩ (Nat.le_of_ble_eq_true rfl) d8_number_61 ?_
          first | refine ⟨iv', h, a, ld, tb, e, s + i, rfl, hM, hpl, (hx 25 (by decide) (by decide)).trans p3, by omega, p6, p7, ?_⟩ | refine ⟨_, h, a, ld, tb, e, s + i, rfl, hM, hpl, (hx 25 (by decide) (by decide)).trans p3, by omega, p6, p7, ?_⟩
          dsimp only [Option.toList, List.cons_append, List.nil_append]
          refine z_iadd hX d8_number_64 ?_
          refine z_bipush hX (48) d8_number_65 (by decide) ?_
          refine z_isub hX d8_number_67 ?_
          have hg := dg_e.mp h34
          rw [show (10 : Int32) = nI 10 from rfl, pk_mul, nI_add, show (48 : Int32) = nI 48 from rfl, pk_sub (by omega)]
          refine z_istore_n hX 3 rfl (by decide) d8_number_68 ?_
          dsimp only [z_p1, z_p2, z_k, List.headD, List.tail]
          refine z_aload_n hX d8_number_69 rfl ?_
          refine z_dup hX rfl d8_number_70 ?_
          refine z_get hX lf_8_179 (hM _ _ rfl) rfl d8_number_71 ?_
          refine z_iconst hX (1) d8_number_74 (by decide) ?_
          refine z_iadd hX d8_number_75 ?_
          refine z_puti hX lf_8_179 rfl rfl (hM _ _ rfl) (Nat.le_of_ble_eq_true rfl) d8_number_76 ?_
          refine z_gen hM hO rfl (fun P hM hO => ?_)
          have hM := zM_i24 hM
          refine z_goto hX 23 d8_number_79 (by decide) ?_
          have hd' : ∀ j, j < i + 1 → dg tb e (s + j) = true := fun j hj => by
            by_cases r : j = i
            · rw [r]; exact h34
            · exact hd j (by omega)
          first
            | (exfalso; omega)
            | (exact ih (i + 1) _ P (by omega) (by omega) hd' (hx.p _) hb (by show iv' 24 + 1 = nI (s + i + 1); rw [hpl, nI_1]) hM hO)
            | (have hk := nK_4 (tb := tb) (e := e) (s := s) (fun j hj => hd' j (by omega))
               exact ext _ (nV tb e s (i + 1)) (100 * 1 + (s + i)) P ((hx.b _).p _) rfl (by omega) (by omega) (nV_lt p7.1 e s (i + 1) (by omega)) (by unfold numF; rw [hk]; simp; omega) hM hO)
  refine z_aload_n hX d8_number_0 rfl ?_
  refine z_get hX lf_8_179 (hM _ _ rfl) rfl d8_number_1 ?_
  rw [p2]
  refine z_istore_n hX 2 rfl (by decide) d8_number_4 ?_
  dsimp only [z_p1, z_p2, z_k, List.headD, List.tail]
  refine z_iconst hX (0) d8_number_5 (by decide) ?_
  refine z_istore_n hX 3 rfl (by decide) d8_number_6 ?_
  dsimp only [z_p1, z_p2, z_k, List.headD, List.tail]
  refine z_aload_n hX d8_number_7 rfl ?_
  refine z_callV0 hX (sp8_seesDigit l) lm_8_195 (hM _ _ rfl) ⟨by decide, by decide, by decide, by decide⟩ (Nat.le_of_ble_eq_true rfl) d8_number_8 ?_
  refine ⟨iv, h, a, ld, tb, e, s, rfl, hM, p2, p3, by omega, p6, p7, ?_⟩
  dsimp only [Option.toList, List.cons_append, List.nil_append]
  refine z_ifb_ne hX 23 d8_number_11 (by decide) (fun h11 => ?_) (fun h11 => ?_)
  · skip
    first
      | exact loop 3 0 iv P (by omega) (Or.inr h11) (fun j hj => absurd hj (Nat.not_lt_zero j)) ivx.rf p4 p2 hM hO
      | (have hk : nK tb e s = 0 := nK_of (i := 0) (by omega) (fun j hj => absurd hj (Nat.not_lt_zero j)) h11
         exact ext _ 0 (100 * 1 + s) P (ivx.rf.b _) rfl (by omega) (by omega) (by decide) (by unfold numF; rw [hk]; simp) hM hO)
  · skip
    refine z_aload_n hX d8_number_14 rfl ?_
    refine z_iconst hX (1) d8_number_15 (by decide) ?_
    refine z_aload_n hX d8_number_16 rfl ?_
    refine z_get hX lf_8_179 (hM _ _ rfl) rfl d8_number_17 ?_
    rw [p2]
    refine z_callV2 hX (sp8_fails l) lm_8_199 (hM _ _ rfl) ⟨by decide, by decide, by decide, by decide⟩ (Nat.le_of_ble_eq_true rfl) d8_number_20 ?_
    refine ⟨iv, h, a, ld, 0, 1, s, rfl, hM, p4, by decide, fun P hM hO1 => ?_⟩
    have hO := hO.tr hO1
    dsimp only [Option.toList, List.cons_append, List.nil_append]
    first
      | exact loop 3 0 iv P (by omega) (Or.inr h11) (fun j hj => absurd hj (Nat.not_lt_zero j)) ivx.rf p4 p2 hM hO
      | (have hk : nK tb e s = 0 := nK_of (i := 0) (by omega) (fun j hj => absurd hj (Nat.not_lt_zero j)) h11
         exact ext _ 0 (100 * 1 + s) P (ivx.rf.b _) rfl (by omega) (by omega) (by decide) (by unfold numF; rw [hk]; simp) hM hO)
def muF (tb : Nat → Nat) (e p c : Nat) : Nat := if hr tb e p = c then 0 else 100 + p
def S8_must : z_PT := fun as P nx K => ∃ (iv : Nat → Int32) (h : Nat → Bool) (a : Nat → Nat → Int32) (ld : Nat → Int64) (tb : Nat → Nat) (e p c : Nat), as = [.ref 70, .int (nI c)] ∧ z_in (zM iv h a ld) P ∧ iv 24 = nI p ∧ iv 25 = nI e ∧ iv 26 = 0 ∧ p < 1000 ∧ e ≤ 120 ∧ mT tb a ∧ c < 256 ∧ ∀ (iv' : Nat → Int32) (P' : z_H), ivx iv iv' → iv' 26 = nI (muF tb e p c) → iv' 24 = nI (p + 1) → z_in (zM iv' h a ld) P' → z_out zDm P P' → K none P' nx
theorem sp8_must (l : Launch) : z_Sp l M8_must rM8_must S8_must := by
  refine z_enter (by decide) (fun as P nx K h => ?_) (fun X K as P nx hX hE hin0 hS => ?_)
  · obtain ⟨iv, h, a, ld, tb, e, p, c, rfl, -⟩ := h
    exact Nat.le_of_ble_eq_true rfl
  obtain ⟨iv, h, a, ld, tb, e, p, c, rfl, hM, p2, p3, p4, p5, p6, p7, p8, hK⟩ := hS
  show z_W X 0 [some (.ref 70), some (.int (nI c))] [] P nx 0 0
  have hO : z_out zDm P P := z_out.rf
  have hh := hr_lt p7.1 e p
  refine z_aload_n hX d8_must_0 rfl ?_
  refine z_callV0 hX (sp8_here l) lm_8_188 (hM _ _ rfl) ⟨by decide, by decide, by decide, by decide⟩ (Nat.le_of_ble_eq_true rfl) d8_must_1 ?_
  refine ⟨iv, h, a, ld, tb, e, p, rfl, hM, p2, p3, by omega, p6, p7, ?_⟩
  dsimp only [Option.toList, List.cons_append, List.nil_append]
  refine z_iload_n hX d8_must_4 rfl ?_
  refine z_icmp_eq hX 17 d8_must_5 (by decide) (fun h5 => ?_) (fun h5 => ?_)
  · skip
    rw [nI_eq (by omega) (by omega)] at h5
    refine z_aload_n hX d8_must_17 rfl ?_
    refine z_dup hX rfl d8_must_18 ?_
    refine z_get hX lf_8_179 (hM _ _ rfl) rfl d8_must_19 ?_
    refine z_iconst hX (1) d8_must_22 (by decide) ?_
    refine z_iadd hX d8_must_23 ?_
    refine z_puti hX lf_8_179 rfl rfl (hM _ _ rfl) (Nat.le_of_ble_eq_true rfl) d8_must_24 ?_
    refine z_gen hM hO rfl (fun P hM hO => ?_)
    have hM := zM_i24 hM
    refine z_vret hX hE (by decide) (by decide) d8_must_27 ?_
    have e1 : iv 24 + 1 = nI (p + 1) := by rw [p2, nI_1]
    first
      | exact hK _ P (ivx.rf.p _) (by unfold muF; rw [if_pos h5]; exact p4) e1 hM hO
      | exact hK _ P ((ivx.rf.b _).p _) (by unfold muF; rw [if_neg h5]; rfl) e1 hM hO
  · skip
    rw [nI_eq (by omega) (by omega)] at h5
    refine z_aload_n hX d8_must_8 rfl ?_
    refine z_iconst hX (1) d8_must_9 (by decide) ?_
    refine z_aload_n hX d8_must_10 rfl ?_
    refine z_get hX lf_8_179 (hM _ _ rfl) rfl d8_must_11 ?_
    rw [p2]
    refine z_callV2 hX (sp8_fails l) lm_8_199 (hM _ _ rfl) ⟨by decide, by decide, by decide, by decide⟩ (Nat.le_of_ble_eq_true rfl) d8_must_14 ?_
    refine ⟨iv, h, a, ld, 0, 1, p, rfl, hM, p4, by decide, fun P hM hO1 => ?_⟩
    have hO := hO.tr hO1
    dsimp only [Option.toList, List.cons_append, List.nil_append]
    refine z_aload_n hX d8_must_17 rfl ?_
    refine z_dup hX rfl d8_must_18 ?_
    refine z_get hX lf_8_179 (hM _ _ rfl) rfl d8_must_19 ?_
    refine z_iconst hX (1) d8_must_22 (by decide) ?_
    refine z_iadd hX d8_must_23 ?_
    refine z_puti hX lf_8_179 rfl rfl (hM _ _ rfl) (Nat.le_of_ble_eq_true rfl) d8_must_24 ?_
    refine z_gen hM hO rfl (fun P hM hO => ?_)
    have hM := zM_i24 hM
    refine z_vret hX hE (by decide) (by decide) d8_must_27 ?_
    have e1 : iv 24 + 1 = nI (p + 1) := by rw [p2, nI_1]
    first
      | exact hK _ P (ivx.rf.p _) (by unfold muF; rw [if_pos h5]; exact p4) e1 hM hO
      | exact hK _ P ((ivx.rf.b _).p _) (by unfold muF; rw [if_neg h5]; rfl) e1 hM hO
/-- the model's read clause m: as the text at p says -/
def gM (tb : Nat → Nat) (e p m : Nat) (a : Nat → Nat → Int32) : Prop := gC tb e p (a 85 m) (a 86 m) (fun j => a 87 (8 * m + 2 * j)) (fun j => a 87 (8 * m + 2 * j + 1))
def axr (a a' : Nat → Nat → Int32) : Prop := ∀ k, k ≠ 85 → k ≠ 86 → k ≠ 87 → a' k = a k
def ivr (iv iv' : Nat → Int32) : Prop := ∀ k, k ≠ 15 → k ≠ 24 → k ≠ 26 → iv' k = iv k
def S8_clause : z_PT := fun as P nx K => ∃ (iv : Nat → Int32) (h : Nat → Bool) (a : Nat → Nat → Int32) (ld : Nat → Int64) (tb : Nat → Nat) (e p m : Nat), as = [.ref 70] ∧ z_in (zM iv h a ld) P ∧ iv 24 = nI p ∧ iv 25 = nI e ∧ iv 26 = 0 ∧ iv 15 = nI m ∧ m ≤ 9 ∧ p < 700 ∧ e ≤ 120 ∧ mT tb a ∧ ∀ (iv' : Nat → Int32) (a' : Nat → Nat → Int32) (P' : z_H), ivr iv iv' → axr a a' → iv' 26 = nI (clF tb e p m) → (clF tb e p m = 0 → iv' 24 = nI (clQ tb e p) ∧ iv' 15 = nI (m + 1) ∧ gM tb e p m a' ∧ (∀ i, i < m → a' 85 i = a 85 i ∧ a' 86 i = a 86 i) ∧ ∀ i, i < 8 * m → a' 87 i = a 87 i) → z_in (zM iv' h a' ld) P' → z_out zDm P P' → K none P' nx
/-- the ends while a clause is read -/
def gE (tb : Nat → Nat) (e c m i : Nat) (f g : Nat → Int32) : Prop := (∀ j, j < i → g (8 * m + 2 * j) = nI (spA tb e (cp tb e c j + 1)) ∧ g (8 * m + 2 * j + 1) = nI (spB tb e (cp tb e c j + 1))) ∧ ∀ j, j < 8 * m → g j = f j
theorem gE_s {tb : Nat → Nat} {e c m i s : Nat} {f g : Nat → Int32} (h : gE tb e c m i f g) (hs : s = cp tb e c i + 1) : gE tb e c m (i + 1) f (upd (upd g (8 * m + 2 * i) (nI (spA tb e s))) (8 * m + 2 * i + 1) (nI (spB tb e s))) := by
  obtain ⟨h1, h2⟩ := h
  refine ⟨fun j hj => ?_, fun j hj => ?_⟩
  · by_cases r : j = i
    · subst r
      rw [hs]
      simp [upd]
    · have := h1 j (by omega)
      simp only [upd, if_neg (show ¬ 8 * m + 2 * j = 8 * m + 2 * i by omega), if_neg (show ¬ 8 * m + 2 * j = 8 * m + 2 * i + 1 by omega), if_neg (show ¬ 8 * m + 2 * j + 1 = 8 * m + 2 * i by omega), if_neg (show ¬ 8 * m + 2 * j + 1 = 8 * m + 2 * i + 1 by omega)]
      exact this
  · simp only [upd, if_neg (show ¬ j = 8 * m + 2 * i by omega), if_neg (show ¬ j = 8 * m + 2 * i + 1 by omega)]
    exact h2 j hj
theorem ivx.r {iv iv' : Nat → Int32} (h : ivx iv iv') : ivr iv iv' := fun k _ h1 h2 => h k h1 h2
theorem mT.x {tb : Nat → Nat} {a a' : Nat → Nat → Int32} (h : mT tb a) (g : a' 71 = a 71) : mT tb a' := ⟨h.1, by rw [g]; exact h.2⟩
theorem nI_8 (m n : Nat) : (8 : Int32) * nI m + (2 : Int32) * nI n = nI (8 * m + 2 * n) := by rw [show (8 : Int32) = nI 8 from rfl, show (2 : Int32) = nI 2 from rfl, pk_mul, pk_mul, nI_add]
theorem ssF_1 {tb : Nat → Nat} {e k c : Nat} : ssF tb e (k + 1) c = if spF tb e (c + 1) ≠ 0 then spF tb e (c + 1) else if hr tb e (spP tb e (c + 1)) = 44 then ssF tb e k (spP tb e (c + 1)) else 0 := rfl
theorem sp8_clause (l : Launch) : z_Sp l M8_clause rM8_clause S8_clause := by
  refine z_enter (by decide) (fun as P nx K h => ?_) (fun X K as P nx hX hE hin0 hS => ?_)
  · obtain ⟨iv, h, a, ld, tb, e, p, m, rfl, -⟩ := h
    exact Nat.le_of_ble_eq_true rfl
  obtain ⟨iv, h, a, ld, tb, e, p, m, rfl, hM, p2, p3, p4, p5, p6, p7, p8, p9, hK⟩ := hS
  refine z_pad 4 ?_
  show z_W X 0 [some (.ref 70), none, none, none, none] [] P nx 0 0
  obtain ⟨P0, hP0⟩ : ∃ P0, P0 = P := ⟨_, rfl⟩
  rw [← hP0] at hK
  have hO : z_out zDm P0 P := by rw [hP0]; exact z_out.rf
  have hh0 := hr_lt p9.1 e p
  have hgo : m < 9 → dg tb e p = true → hr tb e p ≠ 57 → ∀ P, z_in (zM iv h a ld) P → z_out zDm P0 P → z_W X 58 [some (.ref 70), none, none, none, none] [] P nx 0 0 := by
    intro hm9 hdg h57 P hM hO
    have fin : ∀ (n : Nat) (iv' : Nat → Int32) (g : Nat → Int32) (P : z_H), ivx iv iv' → iv' 26 = nI (clF tb e p m) → iv' 15 = nI m → (clF tb e p m = 0 → iv' 24 = nI (clQ tb e p) ∧ n = ssN tb e 4 (p + 1) ∧ gE tb e (p + 1) m n (a 87) g) → z_in (zM iv' h (va_up (va_up a 85 (upd (a 85) m (nI (hr tb e p - 48)))) 87 g) ld) P → z_out zDm P0 P → z_W X 248 [some (.ref 70), some (.int (nI n)), none, none, none] [] P nx 0 0 := by
      intro n iv' g P hx hb hrd h0 hM hO
      refine z_aload_n hX d8_clause_248 rfl ?_
      refine z_get hX lf_8_57 (hM _ _ rfl) rfl d8_clause_249 ?_
      refine z_aload_n hX d8_clause_252 rfl ?_
      refine z_get hX lf_8_203 (hM _ _ rfl) rfl d8_clause_253 ?_
      refine z_iload_n hX d8_clause_256 rfl ?_
      rw [hrd]
      refine z_iast hX (hM _ _ rfl) (vp_in_nI (by omega) (by decide)) d8_clause_257 ?_
      rw [nI_clamp (show m < 2 ^ 31 by omega)]
      refine z_gen hM hO rfl (fun P hM hO => ?_)
      have hM := zM_s86 hM
      refine z_aload_n hX d8_clause_258 rfl ?_
      refine z_dup hX rfl d8_clause_259 ?_
      refine z_get hX lf_8_203 (hM _ _ rfl) rfl d8_clause_260 ?_
      refine z_iconst hX (1) d8_clause_263 (by decide) ?_
      refine z_iadd hX d8_clause_264 ?_
      refine z_puti hX lf_8_203 rfl rfl (hM _ _ rfl) (Nat.le_of_ble_eq_true rfl) d8_clause_265 ?_
      refine z_gen hM hO rfl (fun P hM hO => ?_)
      have hM := zM_i15 hM
      rw [hrd, nI_1] at hM
      refine z_vret hX hE (by decide) (by decide) d8_clause_268 ?_
      refine hK (va_up iv' 15 (nI (m + 1))) _ P (fun k h1 h2 h3 => ?_) (fun k h1 h2 h3 => ?_) hb (fun z => ?_) hM hO
      · simp only [va_up, if_neg h1]; exact hx k h2 h3
      · simp only [va_up, if_neg h1, if_neg h2, if_neg h3]
      · obtain ⟨z1, z2, z3⟩ := h0 z
        refine ⟨z1, rfl, ⟨by simp [va_up, upd], by simp [va_up, upd, z2], fun j hj => ?_⟩, fun i hi => ⟨by simp [va_up, upd, show i ≠ m by omega], by simp [va_up, upd, show i ≠ m by omega]⟩, fun i hi => ?_⟩
        · have := z3.1 j (by rw [z2]; exact hj)
          simp only [va_up]
          exact this
        · have := z3.2 i hi
          simp only [va_up]
          exact this
    have bad : ∀ (n : Nat) (iv' : Nat → Int32) (g : Nat → Int32) (P : z_H) (b : Nat), ivx iv iv' → b ≠ 0 → b < 2 ^ 30 → clF tb e p m = b → iv' 26 = nI b → z_in (zM iv' h (va_up (va_up a 85 (upd (a 85) m (nI (hr tb e p - 48)))) 87 g) ld) P → z_out zDm P0 P → z_W X 132 [some (.ref 70), some (.int (nI n)), none, none, none] [] P nx 0 0 := by
      intro n iv' g P b hx hb0 hbl hf hb hM hO
      refine z_aload_n hX d8_clause_132 rfl ?_
      refine z_get hX lf_8_185 (hM _ _ rfl) rfl d8_clause_133 ?_
      rw [hb]
      refine z_if_ne hX 147 d8_clause_136 (by decide) (fun h136 => ?_) (fun h136 => ?_)
      rotate_left
      · exact absurd ((nI_n0 (by omega)).mp h136) hb0
      refine z_iconst hX (0) d8_clause_147 (by decide) ?_
      refine z_istore hX (by decide) d8_clause_148 ?_
      dsimp only [z_p1, z_p2, z_k, List.headD, List.tail]
      refine z_aload_n hX d8_clause_150 rfl ?_
      refine z_get hX lf_8_185 (hM _ _ rfl) rfl d8_clause_151 ?_
      rw [hb]
      refine z_if_le hX 158 d8_clause_154 (by decide) (fun h154 => ?_) (fun h154 => ?_)
      · rw [i_le, nI_toInt (by omega), show (0 : Int32).toInt = 0 from rfl] at h154
        omega
      refine z_vret hX hE (by decide) (by decide) d8_clause_157 ?_
      exact hK _ _ P hx.r (fun k h1 h2 h3 => by simp only [va_up, if_neg h1, if_neg h3]) (by rw [hf]; exact hb) (fun z => absurd (hf.symm.trans z) hb0) hM hO
    have mo0 : ∀ (n : Nat) (iv' : Nat → Int32) (g : Nat → Int32) (P : z_H), ivx iv iv' → iv' 26 = 0 → iv' 24 = nI (clQ tb e p) → iv' 15 = nI m → clF tb e p m = 0 → n = ssN tb e 4 (p + 1) → gE tb e (p + 1) m n (a 87) g → z_in (zM iv' h (va_up (va_up a 85 (upd (a 85) m (nI (hr tb e p - 48)))) 87 g) ld) P → z_out zDm P0 P → z_W X 213 [some (.ref 70), some (.int (nI n)), some (.int 0), none, none] [] P nx 0 0 := by
      intro n iv' g P hx hb hpl hrd hcl hn hg hM hO
      have fin := fun n iv' g P a1 a2 a3 a4 a5 a6 => z_sub (fin n iv' g P a1 a2 a3 a4 a5 a6) (show z_lt [some (.ref 70), some (.int (nI n)), none, none, none] [some (.ref 70), some (.int (nI n)), some (.int 0), none, none] from ⟨rfl, rfl, trivial⟩)
      refine z_iload_n hX d8_clause_213 rfl ?_
      refine z_if_eq hX 231 d8_clause_214 (by decide) (fun h214 => ?_) (fun h214 => ?_)
      rotate_left
      · exact absurd rfl h214
      refine z_iload_n hX d8_clause_231 rfl ?_
      refine z_if_eq hX 245 d8_clause_232 (by decide) (fun h232 => ?_) (fun h232 => ?_)
      rotate_left
      · exact absurd rfl h232
      refine z_goto hX 102 d8_clause_245 (by decide) ?_
      refine z_iload_n hX d8_clause_102 rfl ?_
      refine z_if_eq hX 248 d8_clause_103 (by decide) (fun h103 => ?_) (fun h103 => ?_)
      rotate_left
      · exact absurd rfl h103
      exact fin n iv' g P hx (by rw [hb, hcl]; rfl) hrd (fun _ => ⟨hpl, hn, hg⟩) hM hO
    have mo1b : ∀ (q : Nat) (iv' : Nat → Int32) (g : Nat → Int32) (P : z_H), q < 1000 → ivx iv iv' → iv' 26 = 0 → iv' 24 = nI q → iv' 15 = nI m → clF tb e p m = 100 + q → z_in (zM iv' h (va_up (va_up a 85 (upd (a 85) m (nI (hr tb e p - 48)))) 87 g) ld) P → z_out zDm P0 P → z_W X 213 [some (.ref 70), some (.int (nI 4)), some (.int 1), none, none] [] P nx 0 0 := by
      intro q iv' g P hq hx hb hpl hrd hcl hM hO
      have fin := fun n iv' g P a1 a2 a3 a4 a5 a6 => z_sub (fin n iv' g P a1 a2 a3 a4 a5 a6) (show z_lt [some (.ref 70), some (.int (nI n)), none, none, none] [some (.ref 70), some (.int (nI n)), some (.int 1), none, none] from ⟨rfl, rfl, trivial⟩)
      refine z_iload_n hX d8_clause_213 rfl ?_
      refine z_if_eq hX 231 d8_clause_214 (by decide) (fun h214 => ?_) (fun h214 => ?_)
      · exact absurd h214 (by decide)
      refine z_iload_n hX d8_clause_217 rfl ?_
      refine z_iconst hX (4) d8_clause_218 (by decide) ?_
      refine z_icmp_ne hX 231 d8_clause_219 (by decide) (fun h219 => ?_) (fun h219 => ?_)
      · exact absurd rfl h219
      refine z_aload_n hX d8_clause_222 rfl ?_
      refine z_iconst hX (1) d8_clause_223 (by decide) ?_
      refine z_aload_n hX d8_clause_224 rfl ?_
      refine z_get hX lf_8_179 (hM _ _ rfl) rfl d8_clause_225 ?_
      rw [hpl]
      refine z_callV2 hX (sp8_fails l) lm_8_199 (hM _ _ rfl) ⟨by decide, by decide, by decide, by decide⟩ (Nat.le_of_ble_eq_true rfl) d8_clause_228 ?_
      refine ⟨iv', h, _, ld, 0, 1, q, rfl, hM, hb, by decide, fun P hM hO1 => ?_⟩
      have hO := hO.tr hO1
      dsimp only [Option.toList, List.cons_append, List.nil_append]
      refine z_iload_n hX d8_clause_231 rfl ?_
      refine z_if_eq hX 245 d8_clause_232 (by decide) (fun h232 => ?_) (fun h232 => ?_)
      · exact absurd h232 (by decide)
      refine z_aload_n hX d8_clause_235 rfl ?_
      refine z_dup hX rfl d8_clause_236 ?_
      refine z_get hX lf_8_179 (hM _ _ rfl) rfl d8_clause_237 ?_
      refine z_iconst hX (1) d8_clause_240 (by decide) ?_
      refine z_iadd hX d8_clause_241 ?_
      refine z_puti hX lf_8_179 rfl rfl (hM _ _ rfl) (Nat.le_of_ble_eq_true rfl) d8_clause_242 ?_
      refine z_gen hM hO rfl (fun P hM hO => ?_)
      have hM := zM_i24 hM
      refine z_goto hX 102 d8_clause_245 (by decide) ?_
      refine z_iload_n hX d8_clause_102 rfl ?_
      refine z_if_eq hX 248 d8_clause_103 (by decide) (fun h103 => ?_) (fun h103 => ?_)
      · exact absurd h103 (by decide)
      refine z_aload_n hX d8_clause_106 rfl ?_
      refine z_get hX lf_8_185 (hM _ _ rfl) rfl d8_clause_107 ?_
      refine z_if_ne hX 248 d8_clause_110 (by decide) (fun h110 => ?_) (fun h110 => ?_)
      rotate_left
      · exact absurd ((nI_n0 (by omega)).mp (show nI (100 * 1 + q) = 0 from h110)) (by omega)
      exact fin 4 _ g P ((hx.b _).p _) (by rw [hcl]; rfl) hrd (fun z => absurd (hcl.symm.trans z) (by omega)) hM hO
    have mo1a : ∀ (n q : Nat) (iv' : Nat → Int32) (g : Nat → Int32) (P : z_H), n < 4 → ivx iv iv' → iv' 26 = 0 → iv' 24 = nI q → iv' 15 = nI m → z_in (zM iv' h (va_up (va_up a 85 (upd (a 85) m (nI (hr tb e p - 48)))) 87 g) ld) P → z_out zDm P0 P → (∀ (iv2 : Nat → Int32) (P : z_H), ivx iv iv2 → iv2 26 = 0 → iv2 24 = nI (q + 1) → iv2 15 = nI m → z_in (zM iv2 h (va_up (va_up a 85 (upd (a 85) m (nI (hr tb e p - 48)))) 87 g) ld) P → z_out zDm P0 P → z_W X 102 [some (.ref 70), some (.int (nI n)), some (.int 1), none, none] [] P nx 0 0) → z_W X 213 [some (.ref 70), some (.int (nI n)), some (.int 1), none, none] [] P nx 0 0 := by
      intro n q iv' g P hn hx hb hpl hrd hM hO cont
      refine z_iload_n hX d8_clause_213 rfl ?_
      refine z_if_eq hX 231 d8_clause_214 (by decide) (fun h214 => ?_) (fun h214 => ?_)
      · exact absurd h214 (by decide)
      refine z_iload_n hX d8_clause_217 rfl ?_
      refine z_iconst hX (4) d8_clause_218 (by decide) ?_
      refine z_icmp_ne hX 231 d8_clause_219 (by decide) (fun h219 => ?_) (fun h219 => ?_)
      rotate_left
      · exact absurd ((nI_eq (b := 4) (by omega) (by omega)).mp h219) (by omega)
      refine z_iload_n hX d8_clause_231 rfl ?_
      refine z_if_eq hX 245 d8_clause_232 (by decide) (fun h232 => ?_) (fun h232 => ?_)
      · exact absurd h232 (by decide)
      refine z_aload_n hX d8_clause_235 rfl ?_
      refine z_dup hX rfl d8_clause_236 ?_
      refine z_get hX lf_8_179 (hM _ _ rfl) rfl d8_clause_237 ?_
      refine z_iconst hX (1) d8_clause_240 (by decide) ?_
      refine z_iadd hX d8_clause_241 ?_
      refine z_puti hX lf_8_179 rfl rfl (hM _ _ rfl) (Nat.le_of_ble_eq_true rfl) d8_clause_242 ?_
      refine z_gen hM hO rfl (fun P hM hO => ?_)
      have hM := zM_i24 hM
      refine z_goto hX 102 d8_clause_245 (by decide) ?_
      exact cont _ P (hx.p _) hb (by show iv' 24 + 1 = _; rw [hpl, nI_1]) hrd hM hO
    by_cases h58 : hr tb e (p + 1) = 58
    · have hcs : clF tb e p m = ssF tb e 4 (p + 1) := by
        unfold clF
        rw [if_neg (by rw [hdg]; decide), if_neg (by omega), if_neg h57, if_neg (fun z => z h58)]
      have ok : ∀ (k : Nat), (∀ (k' : Nat), k' < k → ∀ (i : Nat) (iv' : Nat → Int32) (f : Nat → Int32) (P : z_H), i + k' = 3 → cp tb e (p + 1) i < 800 → ssF tb e 4 (p + 1) = ssF tb e (k' + 1) (cp tb e (p + 1) i) → ssN tb e 4 (p + 1) = i + ssN tb e (k' + 1) (cp tb e (p + 1) i) → ssQ tb e 4 (p + 1) = ssQ tb e (k' + 1) (cp tb e (p + 1) i) → ivx iv iv' → iv' 26 = 0 → iv' 24 = nI (cp tb e (p + 1) i + 1) → iv' 15 = nI m → gE tb e (p + 1) m i (a 87) f → z_in (zM iv' h (va_up (va_up a 85 (upd (a 85) m (nI (hr tb e p - 48)))) 87 f) ld) P → z_out zDm P0 P → z_W X 102 [some (.ref 70), some (.int (nI i)), some (.int 1), none, none] [] P nx 0 0) → ∀ (i s : Nat) (iv' : Nat → Int32) (f : Nat → Int32) (P : z_H), s = cp tb e (p + 1) i + 1 → i + k = 3 → cp tb e (p + 1) i < 800 → ssF tb e 4 (p + 1) = ssF tb e (k + 1) (cp tb e (p + 1) i) → ssN tb e 4 (p + 1) = i + ssN tb e (k + 1) (cp tb e (p + 1) i) → ssQ tb e 4 (p + 1) = ssQ tb e (k + 1) (cp tb e (p + 1) i) → ivx iv iv' → iv' 26 = 0 → iv' 24 = nI (spM tb e s + 1) → iv' 15 = nI m → numF tb e s 0 = 0 → spF tb e s = numF tb e (spM tb e s + 1) (nN tb e s) → gE tb e (p + 1) m i (a 87) f → z_in (zM iv' h (va_up (va_up a 85 (upd (a 85) m (nI (hr tb e p - 48)))) 87 f) ld) P → z_out zDm P0 P → z_W X 132 [some (.ref 70), some (.int (nI i)), none, some (.int (nI (nN tb e s))), none] [] P nx 0 0 := by
        intro k ih i s iv' f P hs hi hp t1 t2 t3 hx hb hpl hrd hn0 hsf hE2 hM hO
        have g1 := numF_0 hn0
        have hsm : spM tb e s = s + nK tb e s := rfl
        have hnl := numF_lt (tb := tb) (e := e) (lo := nN tb e s) (show spM tb e s + 1 < 1000 by omega)
        refine z_aload_n hX d8_clause_132 rfl ?_
        refine z_get hX lf_8_185 (hM _ _ rfl) rfl d8_clause_133 ?_
        rw [hb]
        refine z_if_ne hX 147 d8_clause_136 (by decide) (fun h136 => ?_) (fun h136 => ?_)
        · exact absurd rfl h136
        refine z_aload_n hX d8_clause_139 rfl ?_
        refine z_iload_n hX d8_clause_140 rfl ?_
        refine z_callV1 hX (sp8_number l) lm_8_209 (hM _ _ rfl) ⟨by decide, by decide, by decide, by decide⟩ (Nat.le_of_ble_eq_true rfl) d8_clause_141 ?_
        refine ⟨iv', h, _, ld, tb, e, spM tb e s + 1, nN tb e s, rfl, hM, hpl, (hx 25 (by decide) (by decide)).trans p3, hb, by omega, p8, p9.x rfl, by omega, fun iv2 v2 P hx2 hb2 hr1 hM hO1 => ?_⟩
        have hx := hx.tr hx2
        have hO := hO.tr hO1
        have hrd := (hx2 15 (by decide) (by decide)).trans hrd
        dsimp only [Option.toList, List.cons_append, List.nil_append]
        refine z_goto hX 148 d8_clause_144 (by decide) ?_
        refine z_istore hX (by decide) d8_clause_148 ?_
        dsimp only [z_p1, z_p2, z_k, List.headD, List.tail]
        refine z_aload_n hX d8_clause_150 rfl ?_
        refine z_get hX lf_8_185 (hM _ _ rfl) rfl d8_clause_151 ?_
        rw [hb2]
        refine z_if_le hX 158 d8_clause_154 (by decide) (fun h154 => ?_) (fun h154 => ?_)
        · skip
          rw [i_le, nI_toInt (by omega), show (0 : Int32).toInt = 0 from rfl] at h154
          have hz : numF tb e (spM tb e s + 1) (nN tb e s) = 0 := by omega
          obtain ⟨hpl2, rfl⟩ := hr1 hz
          have g2 := numF_0 hz
          rw [hz] at hb2
          have u0 : spF tb e s = 0 := hsf.trans hz
          have u1 : ssF tb e 4 (p + 1) = if hr tb e (spP tb e s) = 44 then ssF tb e k (spP tb e s) else 0 := by rw [t1, ssF_1, ← hs, if_neg (fun z => z u0)]
          have u2 : ssN tb e 4 (p + 1) = i + if hr tb e (spP tb e s) = 44 then ssN tb e k (spP tb e s) + 1 else 1 := by rw [t2, hs]; rfl
          have u3 : ssQ tb e 4 (p + 1) = if hr tb e (spP tb e s) = 44 then ssQ tb e k (spP tb e s) else spP tb e s := by rw [t3, hs]; rfl
          refine z_aload_n hX d8_clause_158 rfl ?_
          refine z_get hX lf_8_60 (hM _ _ rfl) rfl d8_clause_159 ?_
          refine z_bipush hX (8) d8_clause_162 (by decide) ?_
          refine z_aload_n hX d8_clause_164 rfl ?_
          refine z_get hX lf_8_203 (hM _ _ rfl) rfl d8_clause_165 ?_
          refine z_imul hX d8_clause_168 ?_
          refine z_iconst hX (2) d8_clause_169 (by decide) ?_
          refine z_iload_n hX d8_clause_170 rfl ?_
          refine z_imul hX d8_clause_171 ?_
          refine z_iadd hX d8_clause_172 ?_
          refine z_iload_n hX d8_clause_173 rfl ?_
          rw [hrd, nI_8]
          refine z_iast hX (hM _ _ rfl) (vp_in_nI (by omega) (by decide)) d8_clause_174 ?_
          rw [nI_clamp (show 8 * m + 2 * i < 2 ^ 31 by omega)]
          refine z_gen hM hO rfl (fun P hM hO => ?_)
          have hM := zM_s87 hM
          rw [va_upup] at hM
          refine z_aload_n hX d8_clause_175 rfl ?_
          refine z_get hX lf_8_60 (hM _ _ rfl) rfl d8_clause_176 ?_
          refine z_bipush hX (8) d8_clause_179 (by decide) ?_
          refine z_aload_n hX d8_clause_181 rfl ?_
          refine z_get hX lf_8_203 (hM _ _ rfl) rfl d8_clause_182 ?_
          refine z_imul hX d8_clause_185 ?_
          refine z_iconst hX (2) d8_clause_186 (by decide) ?_
          refine z_iload_n hX d8_clause_187 rfl ?_
          refine z_imul hX d8_clause_188 ?_
          refine z_iadd hX d8_clause_189 ?_
          refine z_iconst hX (1) d8_clause_190 (by decide) ?_
          refine z_iadd hX d8_clause_191 ?_
          refine z_iload hX d8_clause_192 rfl ?_
          rw [hrd, nI_8, nI_1]
          refine z_iast hX (hM _ _ rfl) (vp_in_nI (by omega) (by decide)) d8_clause_194 ?_
          rw [nI_clamp (show 8 * m + 2 * i + 1 < 2 ^ 31 by omega)]
          refine z_gen hM hO rfl (fun P hM hO => ?_)
          have hM := zM_s87 hM
          rw [va_upup] at hM
          have hM : z_in (zM iv2 h (va_up (va_up a 85 (upd (a 85) m (nI (hr tb e p - 48)))) 87 (upd (upd f (8 * m + 2 * i) (nI (spA tb e s))) (8 * m + 2 * i + 1) (nI (spB tb e s)))) ld) P := hM
          have hE2 := gE_s hE2 hs
          refine z_iinc hX (1) (by decide) rfl (by decide) d8_clause_195 ?_
          dsimp only [z_p1, z_p2, z_k, List.headD, List.tail]
          refine z_aload_n hX d8_clause_198 rfl ?_
          refine z_callV0 hX (sp8_here l) lm_8_188 (hM _ _ rfl) ⟨by decide, by decide, by decide, by decide⟩ (Nat.le_of_ble_eq_true rfl) d8_clause_199 ?_
          refine ⟨iv2, h, _, ld, tb, e, spP tb e s, rfl, hM, hpl2, (hx 25 (by decide) (by decide)).trans p3, by unfold spP; omega, p8, p9.x rfl, ?_⟩
          have hh := hr_lt p9.1 e (spP tb e s)
          dsimp only [Option.toList, List.cons_append, List.nil_append]
          refine z_bipush hX (44) d8_clause_202 (by decide) ?_
          refine z_icmp_ne hX 211 d8_clause_204 (by decide) (fun h204 => ?_) (fun h204 => ?_)
          · skip
            rw [show (44 : Int32) = nI 44 from rfl, nI_eq (by omega) (by omega)] at h204
            rw [if_neg h204] at u1 u2 u3
            have fin213 : z_W X 213 [some (.ref 70), some (.int (nI (i + 1))), some (.int 0), none, none] [] P nx 0 0 := mo0 (i + 1) iv2 _ P hx hb2 (by rw [hpl2]; exact congrArg nI u3.symm) hrd (hcs.trans u1) u2.symm hE2 hM hO
            refine z_iconst hX (0) d8_clause_211 (by decide) ?_
            refine z_istore_n hX 2 rfl (by decide) d8_clause_212 ?_
            dsimp only [z_p1, z_p2, z_k, List.headD, List.tail]
            rw [nI_1]
            exact z_sub fin213 (by repeat' (first | exact trivial | refine ⟨rfl, ?_⟩))
          · skip
            rw [show (44 : Int32) = nI 44 from rfl, nI_eq (by omega) (by omega)] at h204
            rw [if_pos h204] at u1 u2 u3
            have fin213 : z_W X 213 [some (.ref 70), some (.int (nI (i + 1))), some (.int 1), none, none] [] P nx 0 0 := by
              cases k with
              | zero =>
                have h4 : i + 1 = 4 := by omega
                rw [h4]
                exact mo1b (spP tb e s) iv2 _ P (by unfold spP; omega) hx hb2 hpl2 hrd (hcs.trans u1) hM hO
              | succ k =>
                exact mo1a (i + 1) (spP tb e s) iv2 _ P (by omega) hx hb2 hpl2 hrd hM hO (fun iv3 P hx hb hpl hrd hM hO => ih k (by omega) (i + 1) iv3 _ P (by omega) (by show spP tb e (cp tb e (p + 1) i + 1) < 800; rw [← hs]; unfold spP; omega) (by rw [u1, hs]; rfl) (by rw [u2, hs]; show _ = i + 1 + ssN tb e (k + 1) (spP tb e (cp tb e (p + 1) i + 1)); omega) (by rw [u3, hs]; rfl) hx hb (by rw [hpl, hs]; rfl) hrd hE2 hM hO)
            refine z_iconst hX (1) d8_clause_207 (by decide) ?_
            refine z_goto hX 212 d8_clause_208 (by decide) ?_
            refine z_istore_n hX 2 rfl (by decide) d8_clause_212 ?_
            dsimp only [z_p1, z_p2, z_k, List.headD, List.tail]
            rw [nI_1]
            exact z_sub fin213 (by repeat' (first | exact trivial | refine ⟨rfl, ?_⟩))
        · skip
          rw [i_le, nI_toInt (by omega), show (0 : Int32).toInt = 0 from rfl] at h154
          have hf : clF tb e p m = numF tb e (spM tb e s + 1) (nN tb e s) := by
            rw [hcs, t1, ssF_1, ← hs, hsf, if_pos (by omega)]
          refine z_vret hX hE (by decide) (by decide) d8_clause_157 ?_
          exact hK _ _ P hx.r (fun k h1 h2 h3 => by simp only [va_up, if_neg h1, if_neg h3]) (by rw [hf]; exact hb2) (fun z => by omega) hM hO
      have loop : ∀ (k i : Nat) (iv' : Nat → Int32) (f : Nat → Int32) (P : z_H), i + k = 3 → cp tb e (p + 1) i < 800 → ssF tb e 4 (p + 1) = ssF tb e (k + 1) (cp tb e (p + 1) i) → ssN tb e 4 (p + 1) = i + ssN tb e (k + 1) (cp tb e (p + 1) i) → ssQ tb e 4 (p + 1) = ssQ tb e (k + 1) (cp tb e (p + 1) i) → ivx iv iv' → iv' 26 = 0 → iv' 24 = nI (cp tb e (p + 1) i + 1) → iv' 15 = nI m → gE tb e (p + 1) m i (a 87) f → z_in (zM iv' h (va_up (va_up a 85 (upd (a 85) m (nI (hr tb e p - 48)))) 87 f) ld) P → z_out zDm P0 P → z_W X 102 [some (.ref 70), some (.int (nI i)), some (.int 1), none, none] [] P nx 0 0 := by
        intro k
        induction k using Nat.strongRecOn with
        | ind k ih =>
          intro i iv' f P hi hp t1 t2 t3 hx hb hpl hrd hE2 hM hO
          have hnl := numF_lt (tb := tb) (e := e) (lo := 0) (show cp tb e (p + 1) i + 1 < 1000 by omega)
          refine z_iload_n hX d8_clause_102 rfl ?_
          refine z_if_eq hX 248 d8_clause_103 (by decide) (fun h103 => ?_) (fun h103 => ?_)
          · exact absurd h103 (by decide)
          refine z_aload_n hX d8_clause_106 rfl ?_
          refine z_get hX lf_8_185 (hM _ _ rfl) rfl d8_clause_107 ?_
          rw [hb]
          refine z_if_ne hX 248 d8_clause_110 (by decide) (fun h110 => ?_) (fun h110 => ?_)
          · exact absurd rfl h110
          refine z_aload_n hX d8_clause_113 rfl ?_
          refine z_iconst hX (0) d8_clause_114 (by decide) ?_
          refine z_callV1 hX (sp8_number l) lm_8_209 (hM _ _ rfl) ⟨by decide, by decide, by decide, by decide⟩ (Nat.le_of_ble_eq_true rfl) d8_clause_115 ?_
          refine ⟨iv', h, _, ld, tb, e, cp tb e (p + 1) i + 1, 0, rfl, hM, hpl, (hx 25 (by decide) (by decide)).trans p3, hb, by omega, p8, p9.x rfl, by decide, fun iv2 v2 P hx2 hb2 hr1 hM hO1 => ?_⟩
          have hx := hx.tr hx2
          have hO := hO.tr hO1
          have hrd := (hx2 15 (by decide) (by decide)).trans hrd
          dsimp only [Option.toList, List.cons_append, List.nil_append]
          refine z_istore_n hX 3 rfl (by decide) d8_clause_118 ?_
          dsimp only [z_p1, z_p2, z_k, List.headD, List.tail]
          refine z_aload_n hX d8_clause_119 rfl ?_
          refine z_get hX lf_8_185 (hM _ _ rfl) rfl d8_clause_120 ?_
          rw [hb2]
          refine z_if_ne hX 132 d8_clause_123 (by decide) (fun h123 => ?_) (fun h123 => ?_)
          · skip
            rw [nI_n0 (by omega)] at h123
            exact z_sub (bad i iv2 f P _ hx h123 (by omega) (by rw [hcs, t1, ssF_1, show spF tb e (cp tb e (p + 1) i + 1) = numF tb e (cp tb e (p + 1) i + 1) 0 from if_pos h123, if_pos h123]) hb2 hM hO) (by repeat' (first | exact trivial | refine ⟨rfl, ?_⟩))
          · skip
            rw [nI_n0 (by omega)] at h123
            obtain ⟨hpl2, rfl⟩ := hr1 h123
            have g1 := numF_0 h123
            refine z_aload_n hX d8_clause_126 rfl ?_
            refine z_bipush hX (45) d8_clause_127 (by decide) ?_
            refine z_callV1 hX (sp8_must l) lm_8_206 (hM _ _ rfl) ⟨by decide, by decide, by decide, by decide⟩ (Nat.le_of_ble_eq_true rfl) d8_clause_129 ?_
            refine ⟨iv2, h, _, ld, tb, e, spM tb e (cp tb e (p + 1) i + 1), 45, rfl, hM, hpl2, (hx 25 (by decide) (by decide)).trans p3, by rw [hb2, h123]; rfl, by unfold spM; omega, p8, p9.x rfl, by decide, fun iv3 P hx3 hb3 hpl3 hM hO1 => ?_⟩
            have hx := hx.tr hx3
            have hO := hO.tr hO1
            have hrd := (hx3 15 (by decide) (by decide)).trans hrd
            dsimp only [Option.toList, List.cons_append, List.nil_append]
            by_cases h45 : hr tb e (spM tb e (cp tb e (p + 1) i + 1)) = 45
            · refine z_sub (ok k ih i _ iv3 f P rfl hi hp t1 t2 t3 hx (by rw [hb3, show muF tb e (spM tb e (cp tb e (p + 1) i + 1)) 45 = 0 from if_pos h45]; rfl) hpl3 hrd h123 ?_ hE2 hM hO) (by repeat' (first | exact trivial | refine ⟨rfl, ?_⟩))
              unfold spF
              rw [if_neg (fun z => z h123), if_neg (fun z => z h45)]
            · have hm : muF tb e (spM tb e (cp tb e (p + 1) i + 1)) 45 = 100 + spM tb e (cp tb e (p + 1) i + 1) := if_neg h45
              rw [hm] at hb3
              exact z_sub (bad i iv3 f P _ hx (by omega) (by unfold spM; omega) (by rw [hcs, t1, ssF_1, show spF tb e (cp tb e (p + 1) i + 1) = 100 + spM tb e (cp tb e (p + 1) i + 1) from (by unfold spF; rw [if_neg (fun z => z h123), if_pos h45]), if_pos (by omega)]) hb3 hM hO) (by repeat' (first | exact trivial | refine ⟨rfl, ?_⟩))
      refine z_aload_n hX d8_clause_58 rfl ?_
      refine z_get hX lf_8_185 (hM _ _ rfl) rfl d8_clause_59 ?_
      rw [p4]
      refine z_if_le hX 66 d8_clause_62 (by decide) (fun h62 => ?_) (fun h62 => ?_)
      rotate_left
      · exact absurd (Int32.le_refl 0) h62
      refine z_aload_n hX d8_clause_66 rfl ?_
      refine z_get hX lf_8_54 (hM _ _ rfl) rfl d8_clause_67 ?_
      refine z_aload_n hX d8_clause_70 rfl ?_
      refine z_get hX lf_8_203 (hM _ _ rfl) rfl d8_clause_71 ?_
      refine z_aload_n hX d8_clause_74 rfl ?_
      refine z_callV0 hX (sp8_here l) lm_8_188 (hM _ _ rfl) ⟨by decide, by decide, by decide, by decide⟩ (Nat.le_of_ble_eq_true rfl) d8_clause_75 ?_
      refine ⟨iv, h, a, ld, tb, e, p, rfl, hM, p2, p3, by omega, p8, p9, ?_⟩
      dsimp only [Option.toList, List.cons_append, List.nil_append]
      refine z_bipush hX (48) d8_clause_78 (by decide) ?_
      refine z_isub hX d8_clause_80 ?_
      rw [p5, show (48 : Int32) = nI 48 from rfl, pk_sub (dg_e.mp hdg).1]
      refine z_iast hX (hM _ _ rfl) (vp_in_nI (by omega) (by decide)) d8_clause_81 ?_
      rw [nI_clamp (show m < 2 ^ 31 by omega)]
      refine z_gen hM hO rfl (fun P hM hO => ?_)
      have hM := zM_s85 hM
      refine z_aload_n hX d8_clause_82 rfl ?_
      refine z_dup hX rfl d8_clause_83 ?_
      refine z_get hX lf_8_179 (hM _ _ rfl) rfl d8_clause_84 ?_
      refine z_iconst hX (1) d8_clause_87 (by decide) ?_
      refine z_iadd hX d8_clause_88 ?_
      refine z_puti hX lf_8_179 rfl rfl (hM _ _ rfl) (Nat.le_of_ble_eq_true rfl) d8_clause_89 ?_
      refine z_gen hM hO rfl (fun P hM hO => ?_)
      have hM := zM_i24 hM
      rw [p2, nI_1] at hM
      refine z_aload_n hX d8_clause_92 rfl ?_
      refine z_bipush hX (58) d8_clause_93 (by decide) ?_
      refine z_callV1 hX (sp8_must l) lm_8_206 (hM _ _ rfl) ⟨by decide, by decide, by decide, by decide⟩ (Nat.le_of_ble_eq_true rfl) d8_clause_95 ?_
      refine ⟨_, h, _, ld, tb, e, p + 1, 58, rfl, hM, rfl, p3, p4, by omega, p8, p9.x rfl, by decide, fun iv3 P hx3 hb3 hpl3 hM hO1 => ?_⟩
      have hO := hO.tr hO1
      rw [show muF tb e (p + 1) 58 = 0 from if_pos h58] at hb3
      dsimp only [Option.toList, List.cons_append, List.nil_append]
      refine z_iconst hX (0) d8_clause_98 (by decide) ?_
      refine z_istore_n hX 1 rfl (by decide) d8_clause_99 ?_
      dsimp only [z_p1, z_p2, z_k, List.headD, List.tail]
      refine z_iconst hX (1) d8_clause_100 (by decide) ?_
      refine z_istore_n hX 2 rfl (by decide) d8_clause_101 ?_
      dsimp only [z_p1, z_p2, z_k, List.headD, List.tail]
      refine loop 3 0 iv3 (a 87) P rfl (show p + 1 < 800 by omega) rfl (Nat.zero_add _).symm rfl ((ivx.rf.p _).tr hx3) hb3 hpl3 ((hx3 15 (by decide) (by decide)).trans p5) ⟨fun j hj => absurd hj (Nat.not_lt_zero j), fun j hj => rfl⟩ ?_ hO
      rw [show va_up (va_up a 85 (upd (a 85) m (nI (hr tb e p - 48)))) 87 (a 87) = va_up a 85 (upd (a 85) m (nI (hr tb e p - 48))) from by funext j; by_cases z : j = 87 <;> simp [va_up, z]]
      exact hM
    · have hcs : clF tb e p m = 100 + (p + 1) := by
        unfold clF
        rw [if_neg (by rw [hdg]; decide), if_neg (by omega), if_neg h57, if_pos h58]
      refine z_aload_n hX d8_clause_58 rfl ?_
      refine z_get hX lf_8_185 (hM _ _ rfl) rfl d8_clause_59 ?_
      rw [p4]
      refine z_if_le hX 66 d8_clause_62 (by decide) (fun h62 => ?_) (fun h62 => ?_)
      rotate_left
      · exact absurd (Int32.le_refl 0) h62
      refine z_aload_n hX d8_clause_66 rfl ?_
      refine z_get hX lf_8_54 (hM _ _ rfl) rfl d8_clause_67 ?_
      refine z_aload_n hX d8_clause_70 rfl ?_
      refine z_get hX lf_8_203 (hM _ _ rfl) rfl d8_clause_71 ?_
      refine z_aload_n hX d8_clause_74 rfl ?_
      refine z_callV0 hX (sp8_here l) lm_8_188 (hM _ _ rfl) ⟨by decide, by decide, by decide, by decide⟩ (Nat.le_of_ble_eq_true rfl) d8_clause_75 ?_
      refine ⟨iv, h, a, ld, tb, e, p, rfl, hM, p2, p3, by omega, p8, p9, ?_⟩
      dsimp only [Option.toList, List.cons_append, List.nil_append]
      refine z_bipush hX (48) d8_clause_78 (by decide) ?_
      refine z_isub hX d8_clause_80 ?_
      rw [p5, show (48 : Int32) = nI 48 from rfl, pk_sub (dg_e.mp hdg).1]
      refine z_iast hX (hM _ _ rfl) (vp_in_nI (by omega) (by decide)) d8_clause_81 ?_
      rw [nI_clamp (show m < 2 ^ 31 by omega)]
      refine z_gen hM hO rfl (fun P hM hO => ?_)
      have hM := zM_s85 hM
      refine z_aload_n hX d8_clause_82 rfl ?_
      refine z_dup hX rfl d8_clause_83 ?_
      refine z_get hX lf_8_179 (hM _ _ rfl) rfl d8_clause_84 ?_
      refine z_iconst hX (1) d8_clause_87 (by decide) ?_
      refine z_iadd hX d8_clause_88 ?_
      refine z_puti hX lf_8_179 rfl rfl (hM _ _ rfl) (Nat.le_of_ble_eq_true rfl) d8_clause_89 ?_
      refine z_gen hM hO rfl (fun P hM hO => ?_)
      have hM := zM_i24 hM
      rw [p2, nI_1] at hM
      refine z_aload_n hX d8_clause_92 rfl ?_
      refine z_bipush hX (58) d8_clause_93 (by decide) ?_
      refine z_callV1 hX (sp8_must l) lm_8_206 (hM _ _ rfl) ⟨by decide, by decide, by decide, by decide⟩ (Nat.le_of_ble_eq_true rfl) d8_clause_95 ?_
      refine ⟨_, h, _, ld, tb, e, p + 1, 58, rfl, hM, rfl, p3, p4, by omega, p8, p9.x rfl, by decide, fun iv3 P hx3 hb3 hpl3 hM hO1 => ?_⟩
      have hO := hO.tr hO1
      rw [show muF tb e (p + 1) 58 = 100 + (p + 1) from if_neg h58] at hb3
      dsimp only [Option.toList, List.cons_append, List.nil_append]
      refine z_iconst hX (0) d8_clause_98 (by decide) ?_
      refine z_istore_n hX 1 rfl (by decide) d8_clause_99 ?_
      dsimp only [z_p1, z_p2, z_k, List.headD, List.tail]
      refine z_iconst hX (1) d8_clause_100 (by decide) ?_
      refine z_istore_n hX 2 rfl (by decide) d8_clause_101 ?_
      dsimp only [z_p1, z_p2, z_k, List.headD, List.tail]
      refine z_iload_n hX d8_clause_102 rfl ?_
      refine z_if_eq hX 248 d8_clause_103 (by decide) (fun h103 => ?_) (fun h103 => ?_)
      · exact absurd h103 (by decide)
      refine z_aload_n hX d8_clause_106 rfl ?_
      refine z_get hX lf_8_185 (hM _ _ rfl) rfl d8_clause_107 ?_
      rw [hb3]
      refine z_if_ne hX 248 d8_clause_110 (by decide) (fun h110 => ?_) (fun h110 => ?_)
      rotate_left
      · exact absurd ((nI_n0 (by omega)).mp h110) (by omega)
      refine z_sub (fin 0 iv3 (a 87) P ((ivx.rf.p _).tr hx3) (by rw [hcs]; exact hb3) ((hx3 15 (by decide) (by decide)).trans p5) (fun z => absurd (hcs.symm.trans z) (by omega)) ?_ hO) (by repeat' (first | exact trivial | refine ⟨rfl, ?_⟩))
      rw [show va_up (va_up a 85 (upd (a 85) m (nI (hr tb e p - 48)))) 87 (a 87) = va_up a 85 (upd (a 85) m (nI (hr tb e p - 48))) from by funext j; by_cases z : j = 87 <;> simp [va_up, z]]
      exact hM
  have stop : ∀ (f b : Nat) (P : z_H), clF tb e p m = b → b ≠ 0 → b < 2 ^ 30 → z_in (zM (va_up iv 26 (nI b)) h a ld) P → z_out zDm P0 P → z_W X 58 [some (.ref 70), none, none, none, none] [] P nx 0 0 := by
    intro f b P hcl hb0 hbl hM hO
    refine z_aload_n hX d8_clause_58 rfl ?_
    refine z_get hX lf_8_185 (hM _ _ rfl) rfl d8_clause_59 ?_
    refine z_if_le hX 66 d8_clause_62 (by decide) (fun h62 => ?_) (fun h62 => ?_)
    · rw [show va_up iv 26 (nI b) 26 = nI b from rfl, i_le, nI_toInt (by omega), show (0 : Int32).toInt = 0 from rfl] at h62
      omega
    refine z_vret hX hE (by decide) (by decide) d8_clause_65 ?_
    exact hK _ _ P (ivx.rf.b _).r (fun _ _ _ _ => rfl) (by rw [hcl]; rfl) (fun z => absurd (hcl.symm.trans z) hb0) hM hO
  refine z_aload_n hX d8_clause_0 rfl ?_
  refine z_callV0 hX (sp8_seesDigit l) lm_8_195 (hM _ _ rfl) ⟨by decide, by decide, by decide, by decide⟩ (Nat.le_of_ble_eq_true rfl) d8_clause_1 ?_
  refine ⟨iv, h, a, ld, tb, e, p, rfl, hM, p2, p3, by omega, p8, p9, ?_⟩
  dsimp only [Option.toList, List.cons_append, List.nil_append]
  refine z_ifb_ne hX 19 d8_clause_4 (by decide) (fun h4 => ?_) (fun h4 => ?_)
  · skip
    refine z_aload_n hX d8_clause_19 rfl ?_
    refine z_get hX lf_8_203 (hM _ _ rfl) rfl d8_clause_20 ?_
    refine z_bipush hX (9) d8_clause_23 (by decide) ?_
    rw [p5]
    refine z_icmp_ne hX 40 d8_clause_25 (by decide) (fun h25 => ?_) (fun h25 => ?_)
    · skip
      rw [show (9 : Int32) = nI 9 from rfl, nI_eq (by omega) (by omega)] at h25
      refine z_aload_n hX d8_clause_40 rfl ?_
      refine z_callV0 hX (sp8_here l) lm_8_188 (hM _ _ rfl) ⟨by decide, by decide, by decide, by decide⟩ (Nat.le_of_ble_eq_true rfl) d8_clause_41 ?_
      refine ⟨iv, h, a, ld, tb, e, p, rfl, hM, p2, p3, by omega, p8, p9, ?_⟩
      dsimp only [Option.toList, List.cons_append, List.nil_append]
      refine z_bipush hX (57) d8_clause_44 (by decide) ?_
      refine z_icmp_ne hX 58 d8_clause_46 (by decide) (fun h46 => ?_) (fun h46 => ?_)
      · skip
        rw [show (57 : Int32) = nI 57 from rfl, nI_eq (by omega) (by omega)] at h46
        have fin58 := hgo (by omega) h4 h46 P hM hO
        exact fin58
      · skip
        rw [show (57 : Int32) = nI 57 from rfl, nI_eq (by omega) (by omega)] at h46
        refine z_aload_n hX d8_clause_49 rfl ?_
        refine z_iconst hX (2) d8_clause_50 (by decide) ?_
        refine z_aload_n hX d8_clause_51 rfl ?_
        refine z_get hX lf_8_179 (hM _ _ rfl) rfl d8_clause_52 ?_
        rw [p2]
        refine z_callV2 hX (sp8_fails l) lm_8_199 (hM _ _ rfl) ⟨by decide, by decide, by decide, by decide⟩ (Nat.le_of_ble_eq_true rfl) d8_clause_55 ?_
        refine ⟨iv, h, a, ld, 0, 2, p, rfl, hM, p4, by decide, fun P hM hO1 => ?_⟩
        have hO := hO.tr hO1
        have hcl : clF tb e p m = 100 * 2 + p := by unfold clF; rw [if_neg (by rw [h4]; decide), if_neg (by omega), if_pos h46]
        have fin58 := stop 0 _ P hcl (by omega) (by omega) hM hO
        dsimp only [Option.toList, List.cons_append, List.nil_append]
        exact fin58
    · skip
      rw [show (9 : Int32) = nI 9 from rfl, nI_eq (by omega) (by omega)] at h25
      refine z_aload_n hX d8_clause_28 rfl ?_
      refine z_iconst hX (4) d8_clause_29 (by decide) ?_
      refine z_aload_n hX d8_clause_30 rfl ?_
      refine z_get hX lf_8_179 (hM _ _ rfl) rfl d8_clause_31 ?_
      rw [p2]
      refine z_callV2 hX (sp8_fails l) lm_8_199 (hM _ _ rfl) ⟨by decide, by decide, by decide, by decide⟩ (Nat.le_of_ble_eq_true rfl) d8_clause_34 ?_
      refine ⟨iv, h, a, ld, 0, 4, p, rfl, hM, p4, by decide, fun P hM hO1 => ?_⟩
      have hO := hO.tr hO1
      have hcl : clF tb e p m = 100 * 4 + p := by unfold clF; rw [if_neg (by rw [h4]; decide), if_pos (by omega)]
      have fin58 := stop 0 _ P hcl (by omega) (by omega) hM hO
      dsimp only [Option.toList, List.cons_append, List.nil_append]
      refine z_goto hX 58 d8_clause_37 (by decide) ?_
      exact fin58
  · skip
    refine z_aload_n hX d8_clause_7 rfl ?_
    refine z_iconst hX (1) d8_clause_8 (by decide) ?_
    refine z_aload_n hX d8_clause_9 rfl ?_
    refine z_get hX lf_8_179 (hM _ _ rfl) rfl d8_clause_10 ?_
    rw [p2]
    refine z_callV2 hX (sp8_fails l) lm_8_199 (hM _ _ rfl) ⟨by decide, by decide, by decide, by decide⟩ (Nat.le_of_ble_eq_true rfl) d8_clause_13 ?_
    refine ⟨iv, h, a, ld, 0, 1, p, rfl, hM, p4, by decide, fun P hM hO1 => ?_⟩
    have hO := hO.tr hO1
    have hcl : clF tb e p m = 100 * 1 + p := by unfold clF; rw [if_pos h4]
    have fin58 := stop 0 _ P hcl (by omega) (by omega) hM hO
    dsimp only [Option.toList, List.cons_append, List.nil_append]
    refine z_goto hX 58 d8_clause_16 (by decide) ?_
    exact fin58
