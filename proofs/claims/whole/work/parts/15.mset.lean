/-! the model's setters, span, best -/
def mRng (x : Int32) (lo hi : Int) : Prop := lo ≤ x.toInt ∧ x.toInt ≤ hi
theorem tN {j n : Nat} (h : j < n) (hn : n < 2 ^ 31) : (nI j).toInt.toNat = j := by rw [nI_toInt (by omega)]; rfl
theorem nI_r {x : Int32} {lo hi : Int} (h : lo ≤ x.toInt ∧ x.toInt ≤ hi) (h0 : 0 ≤ lo) : ∃ j : Nat, (j : Int) ≤ hi ∧ lo ≤ (j : Int) ∧ x = nI j ∧ x.toInt.toNat = j ∧ x.toInt = j := by
  have := z32 x
  refine ⟨x.toInt.toNat, by omega, by omega, Int32.toInt_inj.mp ?_, rfl, by omega⟩
  rw [nI_toInt (by omega)]
  omega
def mOkW (s d n : Int32) : Bool := decide (0 ≤ s.toInt ∧ s.toInt < 4) && (decide (0 ≤ d.toInt ∧ d.toInt ≤ 6) && decide (1 ≤ n.toInt ∧ n.toInt ≤ 99))
def mWd (a : Nat → Nat → Int32) (s d n : Int32) : Nat → Nat → Int32 := if mOkW s d n then va_up a 73 (upd (a 73) (7 * s.toInt.toNat + d.toInt.toNat) n) else a
def S8_weekday : z_PT := fun as P nx K => ∃ (iv : Nat → Int32) (h : Nat → Bool) (a : Nat → Nat → Int32) (ld : Nat → Int64) (s d n : Int32), as = [.ref 70, .int s, .int d, .int n] ∧ z_in (zM iv h a ld) P ∧ (∀ P' : z_H, z_in (zM iv h (mWd a s d n) ld) P' → z_out zDm P P' → K (some (.int (zb (mOkW s d n)))) P' nx)
set_option maxRecDepth 4000 in
theorem sp8_weekday (l : Launch) : z_Sp l M8_weekday rM8_weekday S8_weekday := by
  refine z_enter (by decide) (fun as P nx K h => ?_) (fun X K as P nx hX hE hin0 hS => ?_)
  · obtain ⟨iv, h, a, ld, s, d, n, rfl, -⟩ := h
    exact Nat.le_of_ble_eq_true rfl
  obtain ⟨iv, h, a, ld, s, d, n, rfl, hM, hK⟩ := hS
  show z_W X 0 [some (.ref 70), some (.int s), some (.int d), some (.int n)] [] P nx 0 0
  have hO : z_out zDm P P := z_out.rf
  refine z_iload_n hX d8_weekday_0 rfl ?_
  refine z_callS1 hX (sp8_isShape l) lm_8_80 ⟨by decide, by decide, by decide, by decide⟩ (Nat.le_of_ble_eq_true rfl) d8_weekday_1 ?_
  refine ⟨_, rfl, ?_⟩
  dsimp only [Option.toList, List.cons_append, List.nil_append]
  refine z_ifb_eq hX 31 d8_weekday_4 (by decide) (fun h4 => ?_) (fun h4 => ?_)
  · skip
    refine z_iconst hX (0) d8_weekday_31 (by decide) ?_
    refine z_zret hX hE (by decide) (by decide) (by decide) d8_weekday_32 ?_
    have e : mOkW s d n = false := by unfold mOkW; first | (rw [h4]; rfl) | (rw [h16]; simp; done) | (rw [h28]; simp; done)
    exact zK0 (hK P (by unfold mWd; rw [e]; exact hM) hO) e
  · skip
    refine z_iload_n hX d8_weekday_7 rfl ?_
    refine z_i2l hX d8_weekday_8 ?_
    refine z_lconst hX 0 d8_weekday_9 (by decide) ?_
    refine z_ldc2 hX (6) d8_weekday_10 lk_8_84 ?_
    refine z_callS3 hX (sp8_lies l) lm_8_74 ⟨by decide, by decide, by decide, by decide⟩ (Nat.le_of_ble_eq_true rfl) d8_weekday_13 ?_
    refine ⟨_, _, _, rfl, ?_⟩
    rw [i2l_t, show (0 : Int64).toInt = 0 from rfl, show (6 : Int64).toInt = 6 from rfl]
    dsimp only [Option.toList, List.cons_append, List.nil_append]
    refine z_ifb_eq hX 31 d8_weekday_16 (by decide) (fun h16 => ?_) (fun h16 => ?_)
    · skip
      refine z_iconst hX (0) d8_weekday_31 (by decide) ?_
      refine z_zret hX hE (by decide) (by decide) (by decide) d8_weekday_32 ?_
      have e : mOkW s d n = false := by unfold mOkW; first | (rw [h4]; rfl) | (rw [h16]; simp; done) | (rw [h28]; simp; done)
      exact zK0 (hK P (by unfold mWd; rw [e]; exact hM) hO) e
    · skip
      refine z_iload_n hX d8_weekday_19 rfl ?_
      refine z_i2l hX d8_weekday_20 ?_
      refine z_lconst hX 1 d8_weekday_21 (by decide) ?_
      refine z_ldc2 hX (99) d8_weekday_22 lk_8_86 ?_
      refine z_callS3 hX (sp8_lies l) lm_8_74 ⟨by decide, by decide, by decide, by decide⟩ (Nat.le_of_ble_eq_true rfl) d8_weekday_25 ?_
      refine ⟨_, _, _, rfl, ?_⟩
      rw [i2l_t, show (1 : Int64).toInt = 1 from rfl, show (99 : Int64).toInt = 99 from rfl]
      dsimp only [Option.toList, List.cons_append, List.nil_append]
      refine z_ifb_ne hX 33 d8_weekday_28 (by decide) (fun h28 => ?_) (fun h28 => ?_)
      · skip
        have e : mOkW s d n = true := by unfold mOkW; rw [h4, h16, h28]; rfl
        rw [decide_eq_true_eq] at h4 h16 h28
        obtain ⟨s', s1, s2, s3, s4, s5⟩ := nI_r (x := s) (lo := 0) (hi := 3) (by omega) (by omega)
        obtain ⟨d', d1, d2, d3, d4, d5⟩ := nI_r (x := d) (lo := 0) (hi := 6) (by omega) (by omega)
        have e1 : (7 : Int32) * s + d = nI (7 * s' + d') := by rw [s3, d3]; exact nI_ml 7 s' d'
        have g : mWd a s d n = va_up a 73 (upd (a 73) (7 * s' + d') n) := by unfold mWd; rw [e, s4, d4]; rfl
        refine z_aload_n hX d8_weekday_33 rfl ?_
        refine z_get hX lf_8_17 (hM _ _ rfl) rfl d8_weekday_34 ?_
        refine z_bipush hX (7) d8_weekday_37 (by decide) ?_
        refine z_iload_n hX d8_weekday_39 rfl ?_
        refine z_imul hX d8_weekday_40 ?_
        refine z_iload_n hX d8_weekday_41 rfl ?_
        refine z_iadd hX d8_weekday_42 ?_
        refine z_iload_n hX d8_weekday_43 rfl ?_
        refine z_iast hX (hM _ _ rfl) (ix_in e1 (by omega) (by decide)) d8_weekday_44 ?_
        rw [ix_c e1 (by omega)]
        refine z_gen hM hO rfl (fun P hM hO => ?_)
        have hM := zM_s73 hM
        refine z_iconst hX (1) d8_weekday_45 (by decide) ?_
        refine z_zret hX hE (by decide) (by decide) (by decide) d8_weekday_46 ?_
        exact zK1 (hK P (by rw [g]; exact hM) hO) e
      · skip
        refine z_iconst hX (0) d8_weekday_31 (by decide) ?_
        refine z_zret hX hE (by decide) (by decide) (by decide) d8_weekday_32 ?_
        have e : mOkW s d n = false := by unfold mOkW; first | (rw [h4]; rfl) | (rw [h16]; simp; done) | (rw [h28]; simp; done)
        exact zK0 (hK P (by unfold mWd; rw [e]; exact hM) hO) e
def mOkM (s d n : Int32) : Bool := decide (0 ≤ s.toInt ∧ s.toInt < 4) && (decide (0 ≤ d.toInt ∧ d.toInt ≤ 12) && decide (1 ≤ n.toInt ∧ n.toInt ≤ 99))
def mMo (a : Nat → Nat → Int32) (s d n : Int32) : Nat → Nat → Int32 := if mOkM s d n then va_up a 74 (upd (a 74) (13 * s.toInt.toNat + d.toInt.toNat) n) else a
def S8_month : z_PT := fun as P nx K => ∃ (iv : Nat → Int32) (h : Nat → Bool) (a : Nat → Nat → Int32) (ld : Nat → Int64) (s d n : Int32), as = [.ref 70, .int s, .int d, .int n] ∧ z_in (zM iv h a ld) P ∧ (∀ P' : z_H, z_in (zM iv h (mMo a s d n) ld) P' → z_out zDm P P' → K (some (.int (zb (mOkM s d n)))) P' nx)
set_option maxRecDepth 4000 in
theorem sp8_month (l : Launch) : z_Sp l M8_month rM8_month S8_month := by
  refine z_enter (by decide) (fun as P nx K h => ?_) (fun X K as P nx hX hE hin0 hS => ?_)
  · obtain ⟨iv, h, a, ld, s, d, n, rfl, -⟩ := h
    exact Nat.le_of_ble_eq_true rfl
  obtain ⟨iv, h, a, ld, s, d, n, rfl, hM, hK⟩ := hS
  show z_W X 0 [some (.ref 70), some (.int s), some (.int d), some (.int n)] [] P nx 0 0
  have hO : z_out zDm P P := z_out.rf
  refine z_iload_n hX d8_month_0 rfl ?_
  refine z_callS1 hX (sp8_isShape l) lm_8_80 ⟨by decide, by decide, by decide, by decide⟩ (Nat.le_of_ble_eq_true rfl) d8_month_1 ?_
  refine ⟨_, rfl, ?_⟩
  dsimp only [Option.toList, List.cons_append, List.nil_append]
  refine z_ifb_eq hX 31 d8_month_4 (by decide) (fun h4 => ?_) (fun h4 => ?_)
  · skip
    refine z_iconst hX (0) d8_month_31 (by decide) ?_
    refine z_zret hX hE (by decide) (by decide) (by decide) d8_month_32 ?_
    have e : mOkM s d n = false := by unfold mOkM; first | (rw [h4]; rfl) | (rw [h16]; simp; done) | (rw [h28]; simp; done)
    exact zK0 (hK P (by unfold mMo; rw [e]; exact hM) hO) e
  · skip
    refine z_iload_n hX d8_month_7 rfl ?_
    refine z_i2l hX d8_month_8 ?_
    refine z_lconst hX 0 d8_month_9 (by decide) ?_
    refine z_ldc2 hX (12) d8_month_10 lk_8_88 ?_
    refine z_callS3 hX (sp8_lies l) lm_8_74 ⟨by decide, by decide, by decide, by decide⟩ (Nat.le_of_ble_eq_true rfl) d8_month_13 ?_
    refine ⟨_, _, _, rfl, ?_⟩
    rw [i2l_t, show (0 : Int64).toInt = 0 from rfl, show (12 : Int64).toInt = 12 from rfl]
    dsimp only [Option.toList, List.cons_append, List.nil_append]
    refine z_ifb_eq hX 31 d8_month_16 (by decide) (fun h16 => ?_) (fun h16 => ?_)
    · skip
      refine z_iconst hX (0) d8_month_31 (by decide) ?_
      refine z_zret hX hE (by decide) (by decide) (by decide) d8_month_32 ?_
      have e : mOkM s d n = false := by unfold mOkM; first | (rw [h4]; rfl) | (rw [h16]; simp; done) | (rw [h28]; simp; done)
      exact zK0 (hK P (by unfold mMo; rw [e]; exact hM) hO) e
    · skip
      refine z_iload_n hX d8_month_19 rfl ?_
      refine z_i2l hX d8_month_20 ?_
      refine z_lconst hX 1 d8_month_21 (by decide) ?_
      refine z_ldc2 hX (99) d8_month_22 lk_8_86 ?_
      refine z_callS3 hX (sp8_lies l) lm_8_74 ⟨by decide, by decide, by decide, by decide⟩ (Nat.le_of_ble_eq_true rfl) d8_month_25 ?_
      refine ⟨_, _, _, rfl, ?_⟩
      rw [i2l_t, show (1 : Int64).toInt = 1 from rfl, show (99 : Int64).toInt = 99 from rfl]
      dsimp only [Option.toList, List.cons_append, List.nil_append]
      refine z_ifb_ne hX 33 d8_month_28 (by decide) (fun h28 => ?_) (fun h28 => ?_)
      · skip
        have e : mOkM s d n = true := by unfold mOkM; rw [h4, h16, h28]; rfl
        rw [decide_eq_true_eq] at h4 h16 h28
        obtain ⟨s', s1, s2, s3, s4, s5⟩ := nI_r (x := s) (lo := 0) (hi := 3) (by omega) (by omega)
        obtain ⟨d', d1, d2, d3, d4, d5⟩ := nI_r (x := d) (lo := 0) (hi := 12) (by omega) (by omega)
        have e1 : (13 : Int32) * s + d = nI (13 * s' + d') := by rw [s3, d3]; exact nI_ml 13 s' d'
        have g : mMo a s d n = va_up a 74 (upd (a 74) (13 * s' + d') n) := by unfold mMo; rw [e, s4, d4]; rfl
        refine z_aload_n hX d8_month_33 rfl ?_
        refine z_get hX lf_8_21 (hM _ _ rfl) rfl d8_month_34 ?_
        refine z_bipush hX (13) d8_month_37 (by decide) ?_
        refine z_iload_n hX d8_month_39 rfl ?_
        refine z_imul hX d8_month_40 ?_
        refine z_iload_n hX d8_month_41 rfl ?_
        refine z_iadd hX d8_month_42 ?_
        refine z_iload_n hX d8_month_43 rfl ?_
        refine z_iast hX (hM _ _ rfl) (ix_in e1 (by omega) (by decide)) d8_month_44 ?_
        rw [ix_c e1 (by omega)]
        refine z_gen hM hO rfl (fun P hM hO => ?_)
        have hM := zM_s74 hM
        refine z_iconst hX (1) d8_month_45 (by decide) ?_
        refine z_zret hX hE (by decide) (by decide) (by decide) d8_month_46 ?_
        exact zK1 (hK P (by rw [g]; exact hM) hO) e
      · skip
        refine z_iconst hX (0) d8_month_31 (by decide) ?_
        refine z_zret hX hE (by decide) (by decide) (by decide) d8_month_32 ?_
        have e : mOkM s d n = false := by unfold mOkM; first | (rw [h4]; rfl) | (rw [h16]; simp; done) | (rw [h28]; simp; done)
        exact zK0 (hK P (by unfold mMo; rw [e]; exact hM) hO) e
def mOkH (iv : Nat → Int32) (h : Nat → Bool) (d : Int32) : Bool := decide (0 ≤ d.toInt ∧ d.toInt ≤ 363) && (!h d.toInt.toNat && !decide (iv 3 = 20))
def S8_holiday : z_PT := fun as P nx K => ∃ (iv : Nat → Int32) (h : Nat → Bool) (a : Nat → Nat → Int32) (ld : Nat → Int64) (d : Int32), as = [.ref 70, .int d] ∧ z_in (zM iv h a ld) P ∧ (∀ P' : z_H, z_in (zM (if mOkH iv h d then va_up iv 3 (iv 3 + 1) else iv) (if mOkH iv h d then va_up h d.toInt.toNat true else h) a ld) P' → z_out zDm P P' → K (some (.int (zb (mOkH iv h d)))) P' nx)
set_option maxRecDepth 4000 in
theorem sp8_holiday (l : Launch) : z_Sp l M8_holiday rM8_holiday S8_holiday := by
  refine z_enter (by decide) (fun as P nx K h => ?_) (fun X K as P nx hX hE hin0 hS => ?_)
  · obtain ⟨iv, h, a, ld, d, rfl, -⟩ := h
    exact Nat.le_of_ble_eq_true rfl
  obtain ⟨iv, h, a, ld, d, rfl, hM, hK⟩ := hS
  show z_W X 0 [some (.ref 70), some (.int d)] [] P nx 0 0
  have hO : z_out zDm P P := z_out.rf
  refine z_iload_n hX d8_holiday_0 rfl ?_
  refine z_i2l hX d8_holiday_1 ?_
  refine z_lconst hX 0 d8_holiday_2 (by decide) ?_
  refine z_ldc2 hX (363) d8_holiday_3 lk_8_90 ?_
  refine z_callS3 hX (sp8_lies l) lm_8_74 ⟨by decide, by decide, by decide, by decide⟩ (Nat.le_of_ble_eq_true rfl) d8_holiday_6 ?_
  refine ⟨_, _, _, rfl, ?_⟩
  rw [i2l_t, show (0 : Int64).toInt = 0 from rfl, show (363 : Int64).toInt = 363 from rfl]
  dsimp only [Option.toList, List.cons_append, List.nil_append]
  refine z_ifb_eq hX 30 d8_holiday_9 (by decide) (fun h9 => ?_) (fun h9 => ?_)
  · skip
    have e : mOkH iv h d = false := by unfold mOkH; rw [h9]; rfl
    rw [e] at hK
    refine z_iconst hX (0) d8_holiday_30 (by decide) ?_
    refine z_zret hX hE (by decide) (by decide) (by decide) d8_holiday_31 ?_
    exact hK P hM hO
  · skip
    have h9' := of_decide_eq_true h9
    obtain ⟨d', d1, d2, d3, d4, d5⟩ := nI_r (x := d) (lo := 0) (hi := 363) h9' (by omega)
    subst d3
    rw [d4] at hK
    refine z_aload_n hX d8_holiday_12 rfl ?_
    refine z_get hX lf_8_13 (hM _ _ rfl) rfl d8_holiday_13 ?_
    refine z_iload_n hX d8_holiday_16 rfl ?_
    refine z_zald hX (hM _ _ rfl) (vp_in_nI (by omega) (by decide)) d8_holiday_17 ?_
    rw [nI_clamp (by omega)]
    refine z_ifb_ne hX 30 d8_holiday_18 (by decide) (fun h18 => ?_) (fun h18 => ?_)
    · skip
      have e : mOkH iv h (nI d') = false := by unfold mOkH; rw [d4, h18]; simp
      rw [e] at hK
      refine z_iconst hX (0) d8_holiday_30 (by decide) ?_
      refine z_zret hX hE (by decide) (by decide) (by decide) d8_holiday_31 ?_
      exact hK P hM hO
    · skip
      refine z_aload_n hX d8_holiday_21 rfl ?_
      refine z_get hX lf_8_92 (hM _ _ rfl) rfl d8_holiday_22 ?_
      refine z_bipush hX (20) d8_holiday_25 (by decide) ?_
      refine z_icmp_ne hX 32 d8_holiday_27 (by decide) (fun h27 => ?_) (fun h27 => ?_)
      · skip
        have e : mOkH iv h (nI d') = true := by unfold mOkH; rw [h9, d4, h18, decide_eq_false h27]; rfl
        rw [e] at hK
        refine z_aload_n hX d8_holiday_32 rfl ?_
        refine z_get hX lf_8_13 (hM _ _ rfl) rfl d8_holiday_33 ?_
        refine z_iload_n hX d8_holiday_36 rfl ?_
        refine z_iconst hX (1) d8_holiday_37 (by decide) ?_
        refine z_zast hX (hM _ _ rfl) (vp_in_nI (by omega) (by decide)) d8_holiday_38 ?_
        rw [nI_clamp (by omega)]
        refine z_gen hM hO rfl (fun P hM hO => ?_)
        have hM := zM_s72 hM zHol
        refine z_aload_n hX d8_holiday_39 rfl ?_
        refine z_dup hX rfl d8_holiday_40 ?_
        refine z_get hX lf_8_92 (hM _ _ rfl) rfl d8_holiday_41 ?_
        refine z_iconst hX (1) d8_holiday_44 (by decide) ?_
        refine z_iadd hX d8_holiday_45 ?_
        refine z_puti hX lf_8_92 rfl rfl (hM _ _ rfl) (Nat.le_of_ble_eq_true rfl) d8_holiday_46 ?_
        refine z_gen hM hO rfl (fun P hM hO => ?_)
        have hM := zM_i3 hM
        refine z_iconst hX (1) d8_holiday_49 (by decide) ?_
        refine z_zret hX hE (by decide) (by decide) (by decide) d8_holiday_50 ?_
        exact hK P hM hO
      · skip
        have e : mOkH iv h (nI d') = false := by unfold mOkH; rw [decide_eq_true h27]; simp
        rw [e] at hK
        refine z_iconst hX (0) d8_holiday_30 (by decide) ?_
        refine z_zret hX hE (by decide) (by decide) (by decide) d8_holiday_31 ?_
        exact hK P hM hO
def mOkR (iv : Nat → Int32) (f t p : Int32) : Bool := decide (-1 ≤ f.toInt ∧ f.toInt < 8) && (decide (-1 ≤ t.toInt ∧ t.toInt < 8) && (!decide (f = t) && (decide (0 ≤ p.toInt ∧ p.toInt ≤ 9999) && !decide (iv 2 = 12))))
def mRdA (a : Nat → Nat → Int32) (n : Nat) (f t p : Int32) : Nat → Nat → Int32 := va_up (va_up (va_up a 75 (upd (a 75) n f)) 76 (upd (a 76) n t)) 77 (upd (a 77) n p)
def S8_road : z_PT := fun as P nx K => ∃ (iv : Nat → Int32) (h : Nat → Bool) (a : Nat → Nat → Int32) (ld : Nat → Int64) (n : Nat) (f t p : Int32), as = [.ref 70, .int f, .int t, .int p] ∧ z_in (zM iv h a ld) P ∧ (iv 2 = nI n) ∧ (n ≤ 12) ∧ (∀ P' : z_H, z_in (zM (if mOkR iv f t p then va_up iv 2 (nI (n + 1)) else iv) h (if mOkR iv f t p then mRdA a n f t p else a) ld) P' → z_out zDm P P' → K (some (.int (if mOkR iv f t p then nI n else -1))) P' nx)
set_option maxRecDepth 4000 in
theorem sp8_road (l : Launch) : z_Sp l M8_road rM8_road S8_road := by
  refine z_enter (by decide) (fun as P nx K h => ?_) (fun X K as P nx hX hE hin0 hS => ?_)
  · obtain ⟨iv, h, a, ld, n, f, t, p, rfl, -⟩ := h
    exact Nat.le_of_ble_eq_true rfl
  obtain ⟨iv, h, a, ld, n, f, t, p, rfl, hM, p1, p2, hK⟩ := hS
  show z_W X 0 [some (.ref 70), some (.int f), some (.int t), some (.int p)] [] P nx 0 0
  have hO : z_out zDm P P := z_out.rf
  refine z_iload_n hX d8_road_0 rfl ?_
  refine z_callS1 hX (sp8_isEnd l) lm_8_107 ⟨by decide, by decide, by decide, by decide⟩ (Nat.le_of_ble_eq_true rfl) d8_road_1 ?_
  refine ⟨_, rfl, ?_⟩
  dsimp only [Option.toList, List.cons_append, List.nil_append]
  refine z_ifb_eq hX 40 d8_road_4 (by decide) (fun h4 => ?_) (fun h4 => ?_)
  · skip
    refine z_iconst hX (-1) d8_road_40 (by decide) ?_
    refine z_iret hX hE (by decide) (by decide) d8_road_41 ?_
    have e : mOkR iv f t p = false := by
      unfold mOkR
      first | (rw [h4]; rfl) | (rw [h11]; simp; done) | (rw [h16]; simp; done) | (rw [h28]; simp; done) | (rw [h37]; simp; done)
    rw [e] at hK
    exact hK P hM hO
  · skip
    refine z_iload_n hX d8_road_7 rfl ?_
    refine z_callS1 hX (sp8_isEnd l) lm_8_107 ⟨by decide, by decide, by decide, by decide⟩ (Nat.le_of_ble_eq_true rfl) d8_road_8 ?_
    refine ⟨_, rfl, ?_⟩
    dsimp only [Option.toList, List.cons_append, List.nil_append]
    refine z_ifb_eq hX 40 d8_road_11 (by decide) (fun h11 => ?_) (fun h11 => ?_)
    · skip
      refine z_iconst hX (-1) d8_road_40 (by decide) ?_
      refine z_iret hX hE (by decide) (by decide) d8_road_41 ?_
      have e : mOkR iv f t p = false := by
        unfold mOkR
        first | (rw [h4]; rfl) | (rw [h11]; simp; done) | (rw [h16]; simp; done) | (rw [h28]; simp; done) | (rw [h37]; simp; done)
      rw [e] at hK
      exact hK P hM hO
    · skip
      refine z_iload_n hX d8_road_14 rfl ?_
      refine z_iload_n hX d8_road_15 rfl ?_
      refine z_icmp_eq hX 40 d8_road_16 (by decide) (fun h16 => ?_) (fun h16 => ?_)
      · skip
        refine z_iconst hX (-1) d8_road_40 (by decide) ?_
        refine z_iret hX hE (by decide) (by decide) d8_road_41 ?_
        have e : mOkR iv f t p = false := by
          unfold mOkR
          first | (rw [h4]; rfl) | (rw [h11]; simp; done) | (rw [h16]; simp; done) | (rw [h28]; simp; done) | (rw [h37]; simp; done)
        rw [e] at hK
        exact hK P hM hO
      · skip
        refine z_iload_n hX d8_road_19 rfl ?_
        refine z_i2l hX d8_road_20 ?_
        refine z_lconst hX 0 d8_road_21 (by decide) ?_
        refine z_ldc2 hX (9999) d8_road_22 lk_8_110 ?_
        refine z_callS3 hX (sp8_lies l) lm_8_74 ⟨by decide, by decide, by decide, by decide⟩ (Nat.le_of_ble_eq_true rfl) d8_road_25 ?_
        refine ⟨_, _, _, rfl, ?_⟩
        rw [i2l_t, show (0 : Int64).toInt = 0 from rfl, show (9999 : Int64).toInt = 9999 from rfl]
        dsimp only [Option.toList, List.cons_append, List.nil_append]
        refine z_ifb_eq hX 40 d8_road_28 (by decide) (fun h28 => ?_) (fun h28 => ?_)
        · skip
          refine z_iconst hX (-1) d8_road_40 (by decide) ?_
          refine z_iret hX hE (by decide) (by decide) d8_road_41 ?_
          have e : mOkR iv f t p = false := by
            unfold mOkR
            first | (rw [h4]; rfl) | (rw [h11]; simp; done) | (rw [h16]; simp; done) | (rw [h28]; simp; done) | (rw [h37]; simp; done)
          rw [e] at hK
          exact hK P hM hO
        · skip
          refine z_aload_n hX d8_road_31 rfl ?_
          refine z_get hX lf_8_70 (hM _ _ rfl) rfl d8_road_32 ?_
          refine z_bipush hX (12) d8_road_35 (by decide) ?_
          refine z_icmp_ne hX 42 d8_road_37 (by decide) (fun h37 => ?_) (fun h37 => ?_)
          · skip
            have e : mOkR iv f t p = true := by unfold mOkR; rw [h4, h11, h28, decide_eq_false h16, decide_eq_false h37]; rfl
            rw [e] at hK
            have hn : n < 12 := by
              rcases Nat.lt_or_ge n 12 with q | q
              · exact q
              · exact absurd (by rw [p1, show n = 12 by omega]; rfl) h37
            refine z_aload_n hX d8_road_42 rfl ?_
            refine z_get hX lf_8_24 (hM _ _ rfl) rfl d8_road_43 ?_
            refine z_aload_n hX d8_road_46 rfl ?_
            refine z_get hX lf_8_70 (hM _ _ rfl) rfl d8_road_47 ?_
            refine z_iload_n hX d8_road_50 rfl ?_
            refine z_iast hX (hM _ _ rfl) (ix_in p1 hn (by decide)) d8_road_51 ?_
            rw [ix_c p1 (by omega)]
            refine z_gen hM hO rfl (fun P hM hO => ?_)
            have hM := zM_s75 hM
            refine z_aload_n hX d8_road_52 rfl ?_
            refine z_get hX lf_8_27 (hM _ _ rfl) rfl d8_road_53 ?_
            refine z_aload_n hX d8_road_56 rfl ?_
            refine z_get hX lf_8_70 (hM _ _ rfl) rfl d8_road_57 ?_
            refine z_iload_n hX d8_road_60 rfl ?_
            refine z_iast hX (hM _ _ rfl) (ix_in p1 hn (by decide)) d8_road_61 ?_
            rw [ix_c p1 (by omega)]
            refine z_gen hM hO rfl (fun P hM hO => ?_)
            have hM := zM_s76 hM
            refine z_aload_n hX d8_road_62 rfl ?_
            refine z_get hX lf_8_30 (hM _ _ rfl) rfl d8_road_63 ?_
            refine z_aload_n hX d8_road_66 rfl ?_
            refine z_get hX lf_8_70 (hM _ _ rfl) rfl d8_road_67 ?_
            refine z_iload_n hX d8_road_70 rfl ?_
            refine z_iast hX (hM _ _ rfl) (ix_in p1 hn (by decide)) d8_road_71 ?_
            rw [ix_c p1 (by omega)]
            refine z_gen hM hO rfl (fun P hM hO => ?_)
            have hM := zM_s77 hM
            refine z_aload_n hX d8_road_72 rfl ?_
            refine z_dup hX rfl d8_road_73 ?_
            refine z_get hX lf_8_70 (hM _ _ rfl) rfl d8_road_74 ?_
            refine z_iconst hX (1) d8_road_77 (by decide) ?_
            refine z_iadd hX d8_road_78 ?_
            rw [p1, nI_1]
            refine z_puti hX lf_8_70 rfl rfl (hM _ _ rfl) (Nat.le_of_ble_eq_true rfl) d8_road_79 ?_
            refine z_gen hM hO rfl (fun P hM hO => ?_)
            have hM := zM_i2 hM
            refine z_aload_n hX d8_road_82 rfl ?_
            refine z_get hX lf_8_70 (hM _ _ rfl) rfl d8_road_83 ?_
            refine z_iconst hX (1) d8_road_86 (by decide) ?_
            refine z_isub hX d8_road_87 ?_
            refine z_iret hX hE (by decide) (by decide) d8_road_88 ?_
            have g := hK P hM hO
            refine zKe g ?_
            show some (Value.int (nI (n + 1) - 1)) = some (Value.int (nI n))
            rw [nI_pred]
          · skip
            refine z_iconst hX (-1) d8_road_40 (by decide) ?_
            refine z_iret hX hE (by decide) (by decide) d8_road_41 ?_
            have e : mOkR iv f t p = false := by
              unfold mOkR
              first | (rw [h4]; rfl) | (rw [h11]; simp; done) | (rw [h16]; simp; done) | (rw [h28]; simp; done) | (rw [h37]; simp; done)
            rw [e] at hK
            exact hK P hM hO
def mOkS (n : Nat) (r s : Int32) : Bool := decide (0 ≤ r.toInt ∧ r.toInt < n) && decide (0 ≤ s.toInt ∧ s.toInt < 4)
def S8_shape : z_PT := fun as P nx K => ∃ (iv : Nat → Int32) (h : Nat → Bool) (a : Nat → Nat → Int32) (ld : Nat → Int64) (n : Nat) (r s : Int32), as = [.ref 70, .int r, .int s] ∧ z_in (zM iv h a ld) P ∧ (iv 2 = nI n) ∧ (n ≤ 12) ∧ (∀ P' : z_H, z_in (zM iv h (if mOkS n r s then va_up a 78 (upd (a 78) r.toInt.toNat s) else a) ld) P' → z_out zDm P P' → K (some (.int (zb (mOkS n r s)))) P' nx)
set_option maxRecDepth 4000 in
theorem sp8_shape (l : Launch) : z_Sp l M8_shape rM8_shape S8_shape := by
  refine z_enter (by decide) (fun as P nx K h => ?_) (fun X K as P nx hX hE hin0 hS => ?_)
  · obtain ⟨iv, h, a, ld, n, r, s, rfl, -⟩ := h
    exact Nat.le_of_ble_eq_true rfl
  obtain ⟨iv, h, a, ld, n, r, s, rfl, hM, p1, p2, hK⟩ := hS
  show z_W X 0 [some (.ref 70), some (.int r), some (.int s)] [] P nx 0 0
  have hO : z_out zDm P P := z_out.rf
  refine z_aload_n hX d8_shape_0 rfl ?_
  refine z_iload_n hX d8_shape_1 rfl ?_
  refine z_callV1 hX (sp8_isRoad l) lm_8_112 (hM _ _ rfl) ⟨by decide, by decide, by decide, by decide⟩ (Nat.le_of_ble_eq_true rfl) d8_shape_2 ?_
  refine ⟨iv, h, a, ld, n, r, rfl, hM, p1, p2, ?_⟩
  dsimp only [Option.toList, List.cons_append, List.nil_append]
  refine z_ifb_eq hX 15 d8_shape_5 (by decide) (fun h5 => ?_) (fun h5 => ?_)
  · skip
    refine z_iconst hX (0) d8_shape_15 (by decide) ?_
    refine z_zret hX hE (by decide) (by decide) (by decide) d8_shape_16 ?_
    have e : mOkS n r s = false := by
      unfold mOkS
      first | (rw [h5]; rfl) | (rw [h12]; simp; done)
    rw [e] at hK
    exact hK P hM hO
  · skip
    refine z_iload_n hX d8_shape_8 rfl ?_
    refine z_callS1 hX (sp8_isShape l) lm_8_80 ⟨by decide, by decide, by decide, by decide⟩ (Nat.le_of_ble_eq_true rfl) d8_shape_9 ?_
    refine ⟨_, rfl, ?_⟩
    dsimp only [Option.toList, List.cons_append, List.nil_append]
    refine z_ifb_ne hX 17 d8_shape_12 (by decide) (fun h12 => ?_) (fun h12 => ?_)
    · skip
      have e : mOkS n r s = true := by unfold mOkS; rw [h5, h12]; rfl
      rw [e] at hK
      obtain ⟨r', r1, rfl⟩ := nI_rng (of_decide_eq_true h5).1 (of_decide_eq_true h5).2
      rw [tN (n := 12) (by omega) (by decide)] at hK
      refine z_aload_n hX d8_shape_17 rfl ?_
      refine z_get hX lf_8_33 (hM _ _ rfl) rfl d8_shape_18 ?_
      refine z_iload_n hX d8_shape_21 rfl ?_
      refine z_iload_n hX d8_shape_22 rfl ?_
      refine z_iast hX (hM _ _ rfl) (vp_in_nI (by omega) (by decide)) d8_shape_23 ?_
      rw [nI_clamp (by omega)]
      refine z_gen hM hO rfl (fun P hM hO => ?_)
      have hM := zM_s78 hM
      refine z_iconst hX (1) d8_shape_24 (by decide) ?_
      refine z_zret hX hE (by decide) (by decide) (by decide) d8_shape_25 ?_
      exact hK P hM hO
    · skip
      refine z_iconst hX (0) d8_shape_15 (by decide) ?_
      refine z_zret hX hE (by decide) (by decide) (by decide) d8_shape_16 ?_
      have e : mOkS n r s = false := by
        unfold mOkS
        first | (rw [h5]; rfl) | (rw [h12]; simp; done)
      rw [e] at hK
      exact hK P hM hO
def mOkC (n : Nat) (r d c : Int32) : Bool := decide (0 ≤ r.toInt ∧ r.toInt < n) && (decide (0 ≤ d.toInt ∧ d.toInt ≤ 363) && decide (0 ≤ c.toInt ∧ c.toInt ≤ 100000))
/-- is the count taken; is it a new one -/
def mNew (a : Nat → Nat → Int32) (r d : Nat) : Bool := decide (a 79 (364 * r + d) = -1)
def mTak (a : Nat → Nat → Int32) (r d : Nat) : Bool := !(mNew a r d && decide (a 80 r = 14))
def mCoA (a : Nat → Nat → Int32) (r d : Nat) (c : Int32) : Nat → Nat → Int32 := va_up (if mNew a r d then va_up a 80 (upd (a 80) r (a 80 r + 1)) else a) 79 (upd (a 79) (364 * r + d) c)
def S8_count : z_PT := fun as P nx K => ∃ (iv : Nat → Int32) (h : Nat → Bool) (a : Nat → Nat → Int32) (ld : Nat → Int64) (n : Nat) (r d c : Int32), as = [.ref 70, .int r, .int d, .int c] ∧ z_in (zM iv h a ld) P ∧ (iv 2 = nI n) ∧ (n ≤ 12) ∧ (∀ P' : z_H, z_in (zM iv h (if mOkC n r d c && mTak a r.toInt.toNat d.toInt.toNat then mCoA a r.toInt.toNat d.toInt.toNat c else a) ld) P' → z_out zDm P P' → K (some (.int (zb (mOkC n r d c && mTak a r.toInt.toNat d.toInt.toNat)))) P' nx)
set_option maxRecDepth 4000 in
theorem sp8_count (l : Launch) : z_Sp l M8_count rM8_count S8_count := by
  refine z_enter (by decide) (fun as P nx K h => ?_) (fun X K as P nx hX hE hin0 hS => ?_)
  · obtain ⟨iv, h, a, ld, n, r, d, c, rfl, -⟩ := h
    exact Nat.le_of_ble_eq_true rfl
  obtain ⟨iv, h, a, ld, n, r, d, c, rfl, hM, p1, p2, hK⟩ := hS
  show z_W X 0 [some (.ref 70), some (.int r), some (.int d), some (.int c)] [] P nx 0 0
  have hO : z_out zDm P P := z_out.rf
  refine z_aload_n hX d8_count_0 rfl ?_
  refine z_iload_n hX d8_count_1 rfl ?_
  refine z_callV1 hX (sp8_isRoad l) lm_8_112 (hM _ _ rfl) ⟨by decide, by decide, by decide, by decide⟩ (Nat.le_of_ble_eq_true rfl) d8_count_2 ?_
  refine ⟨iv, h, a, ld, n, r, rfl, hM, p1, p2, ?_⟩
  dsimp only [Option.toList, List.cons_append, List.nil_append]
  refine z_ifb_eq hX 32 d8_count_5 (by decide) (fun h5 => ?_) (fun h5 => ?_)
  · skip
    refine z_iconst hX (0) d8_count_32 (by decide) ?_
    refine z_zret hX hE (by decide) (by decide) (by decide) d8_count_33 ?_
    have e : mOkC n r d c = false := by
      unfold mOkC
      first | (rw [h5]; rfl) | (rw [h17]; simp; done) | (rw [h29]; simp; done)
    rw [e] at hK
    exact hK P hM hO
  · skip
    refine z_iload_n hX d8_count_8 rfl ?_
    refine z_i2l hX d8_count_9 ?_
    refine z_lconst hX 0 d8_count_10 (by decide) ?_
    refine z_ldc2 hX (363) d8_count_11 lk_8_90 ?_
    refine z_callS3 hX (sp8_lies l) lm_8_74 ⟨by decide, by decide, by decide, by decide⟩ (Nat.le_of_ble_eq_true rfl) d8_count_14 ?_
    refine ⟨_, _, _, rfl, ?_⟩
    rw [i2l_t, show (0 : Int64).toInt = 0 from rfl, show (363 : Int64).toInt = 363 from rfl]
    dsimp only [Option.toList, List.cons_append, List.nil_append]
    refine z_ifb_eq hX 32 d8_count_17 (by decide) (fun h17 => ?_) (fun h17 => ?_)
    · skip
      refine z_iconst hX (0) d8_count_32 (by decide) ?_
      refine z_zret hX hE (by decide) (by decide) (by decide) d8_count_33 ?_
      have e : mOkC n r d c = false := by
        unfold mOkC
        first | (rw [h5]; rfl) | (rw [h17]; simp; done) | (rw [h29]; simp; done)
      rw [e] at hK
      exact hK P hM hO
    · skip
      refine z_iload_n hX d8_count_20 rfl ?_
      refine z_i2l hX d8_count_21 ?_
      refine z_lconst hX 0 d8_count_22 (by decide) ?_
      refine z_ldc2 hX (100000) d8_count_23 lk_8_115 ?_
      refine z_callS3 hX (sp8_lies l) lm_8_74 ⟨by decide, by decide, by decide, by decide⟩ (Nat.le_of_ble_eq_true rfl) d8_count_26 ?_
      refine ⟨_, _, _, rfl, ?_⟩
      rw [i2l_t, show (0 : Int64).toInt = 0 from rfl, show (100000 : Int64).toInt = 100000 from rfl]
      dsimp only [Option.toList, List.cons_append, List.nil_append]
      refine z_ifb_ne hX 34 d8_count_29 (by decide) (fun h29 => ?_) (fun h29 => ?_)
      · skip
        have e : mOkC n r d c = true := by unfold mOkC; rw [h5, h17, h29]; rfl
        rw [e] at hK
        obtain ⟨r', r1, rfl⟩ := nI_rng (of_decide_eq_true h5).1 (of_decide_eq_true h5).2
        obtain ⟨d', d1, d2, rfl, d4, d5⟩ := nI_r (of_decide_eq_true h17) (by omega)
        rw [tN (n := 12) (by omega) (by decide), d4] at hK
        have e1 : (364 : Int32) * nI r' + nI d' = nI (364 * r' + d') := nI_ml 364 r' d'
        refine z_aload_n hX d8_count_34 rfl ?_
        refine z_get hX lf_8_36 (hM _ _ rfl) rfl d8_count_35 ?_
        refine z_sipush hX (364) d8_count_38 (by decide) ?_
        refine z_iload_n hX d8_count_41 rfl ?_
        refine z_imul hX d8_count_42 ?_
        refine z_iload_n hX d8_count_43 rfl ?_
        refine z_iadd hX d8_count_44 ?_
        refine z_iald hX (hM _ _ rfl) (ix_in e1 (by omega) (by decide)) d8_count_45 ?_
        rw [ix_c e1 (by omega)]
        refine z_iconst hX (-1) d8_count_46 (by decide) ?_
        refine z_icmp_ne hX 73 d8_count_47 (by decide) (fun h47 => ?_) (fun h47 => ?_)
        · skip
          have f : mNew a r' d' = false := decide_eq_false h47
          have g : mTak a r' d' = true := by unfold mTak; rw [f]; rfl
          rw [g] at hK
          unfold mCoA at hK
          rw [f] at hK
          refine z_aload_n hX d8_count_73 rfl ?_
          refine z_get hX lf_8_36 (hM _ _ rfl) rfl d8_count_74 ?_
          refine z_sipush hX (364) d8_count_77 (by decide) ?_
          refine z_iload_n hX d8_count_80 rfl ?_
          refine z_imul hX d8_count_81 ?_
          refine z_iload_n hX d8_count_82 rfl ?_
          refine z_iadd hX d8_count_83 ?_
          refine z_iload_n hX d8_count_84 rfl ?_
          refine z_iast hX (hM _ _ rfl) (ix_in e1 (by omega) (by decide)) d8_count_85 ?_
          rw [ix_c e1 (by omega)]
          refine z_gen hM hO rfl (fun P hM hO => ?_)
          have hM := zM_s79 hM
          refine z_iconst hX (1) d8_count_86 (by decide) ?_
          refine z_zret hX hE (by decide) (by decide) (by decide) d8_count_87 ?_
          exact hK P hM hO
        · skip
          have f : mNew a r' d' = true := decide_eq_true h47
          refine z_aload_n hX d8_count_50 rfl ?_
          refine z_get hX lf_8_39 (hM _ _ rfl) rfl d8_count_51 ?_
          refine z_iload_n hX d8_count_54 rfl ?_
          refine z_iald hX (hM _ _ rfl) (vp_in_nI (by omega) (by decide)) d8_count_55 ?_
          rw [nI_clamp (show r' < 2 ^ 31 by omega)]
          refine z_bipush hX (14) d8_count_56 (by decide) ?_
          refine z_icmp_ne hX 63 d8_count_58 (by decide) (fun h58 => ?_) (fun h58 => ?_)
          · skip
            have g : mTak a r' d' = true := by unfold mTak; rw [f, decide_eq_false h58]; rfl
            rw [g] at hK
            unfold mCoA at hK
            rw [f] at hK
            refine z_aload_n hX d8_count_63 rfl ?_
            refine z_get hX lf_8_39 (hM _ _ rfl) rfl d8_count_64 ?_
            refine z_iload_n hX d8_count_67 rfl ?_
            refine z_dup2 hX rfl rfl d8_count_68 ?_
            refine z_iald hX (hM _ _ rfl) (vp_in_nI (by omega) (by decide)) d8_count_69 ?_
            rw [nI_clamp (show r' < 2 ^ 31 by omega)]
            refine z_iconst hX (1) d8_count_70 (by decide) ?_
            refine z_iadd hX d8_count_71 ?_
            refine z_iast hX (hM _ _ rfl) (vp_in_nI (by omega) (by decide)) d8_count_72 ?_
            rw [nI_clamp (by omega)]
            refine z_gen hM hO rfl (fun P hM hO => ?_)
            have hM := zM_s80 hM
            refine z_aload_n hX d8_count_73 rfl ?_
            refine z_get hX lf_8_36 (hM _ _ rfl) rfl d8_count_74 ?_
            refine z_sipush hX (364) d8_count_77 (by decide) ?_
            refine z_iload_n hX d8_count_80 rfl ?_
            refine z_imul hX d8_count_81 ?_
            refine z_iload_n hX d8_count_82 rfl ?_
            refine z_iadd hX d8_count_83 ?_
            refine z_iload_n hX d8_count_84 rfl ?_
            refine z_iast hX (hM _ _ rfl) (ix_in e1 (by omega) (by decide)) d8_count_85 ?_
            rw [ix_c e1 (by omega)]
            refine z_gen hM hO rfl (fun P hM hO => ?_)
            have hM := zM_s79 hM
            refine z_iconst hX (1) d8_count_86 (by decide) ?_
            refine z_zret hX hE (by decide) (by decide) (by decide) d8_count_87 ?_
            exact hK P hM hO
          · skip
            have g : mTak a r' d' = false := by unfold mTak; rw [f, decide_eq_true h58]; rfl
            rw [g] at hK
            refine z_iconst hX (0) d8_count_61 (by decide) ?_
            refine z_zret hX hE (by decide) (by decide) (by decide) d8_count_62 ?_
            exact hK P hM hO
      · skip
        refine z_iconst hX (0) d8_count_32 (by decide) ?_
        refine z_zret hX hE (by decide) (by decide) (by decide) d8_count_33 ?_
        have e : mOkC n r d c = false := by
          unfold mOkC
          first | (rw [h5]; rfl) | (rw [h17]; simp; done) | (rw [h29]; simp; done)
        rw [e] at hK
        exact hK P hM hO
