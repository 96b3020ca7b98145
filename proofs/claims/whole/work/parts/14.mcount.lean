/-! the model's answers by counts -/
def mOff (h : Nat → Bool) (a : Nat → Nat → Int32) (r s d : Nat) : Int64 := (a 79 (364 * r + d)).toInt64 * mShares h a r s - mShare h a s d * mCounts h a r
def mMisfit (h : Nat → Bool) (a : Nat → Nat → Int32) (r s : Nat) : Int64 := zS (fun d => if mUsed h a r d then (if mOff h a r s d < 0 then -mOff h a r s d else mOff h a r s d) else 0) 364
def S8_misfit : z_PT := fun as P nx K => ∃ (iv : Nat → Int32) (h : Nat → Bool) (a : Nat → Nat → Int32) (ld : Nat → Int64) (r s : Nat), as = [.ref 70, .int (nI r), .int (nI s)] ∧ z_in (zM iv h a ld) P ∧ (r < 12) ∧ (s < 4) ∧ K (some (.long (mMisfit h a r s))) P nx
set_option maxRecDepth 4000 in
theorem sp8_misfit (l : Launch) : z_Sp l M8_misfit rM8_misfit S8_misfit := by
  refine z_enter (by decide) (fun as P nx K h => ?_) (fun X K as P nx hX hE hin0 hS => ?_)
  · obtain ⟨iv, h, a, ld, r, s, rfl, -⟩ := h
    exact Nat.le_of_ble_eq_true rfl
  obtain ⟨iv, h, a, ld, r, s, rfl, hM, p1, p2, hK⟩ := hS
  refine z_pad 7 ?_
  show z_W X 0 [some (.ref 70), some (.int (nI r)), some (.int (nI s)), none, none, none, none, none, none, none] [] P nx 0 0
  have loop : ∀ (k i : Nat), i + k = 364 → z_W X 20 [some (.ref 70), some (.int (nI r)), some (.int (nI s)), some (.long (mShares h a r s)), none, some (.long (mCounts h a r)), none, some (.long (zS (fun d => if mUsed h a r d then (if mOff h a r s d < 0 then -mOff h a r s d else mOff h a r s d) else 0) i)), none, some (.int (nI i))] [] P nx 0 0 := by
    intro k
    induction k with
    | zero =>
      intro i hi
      have hi : i = 364 := by omega
      subst hi
      refine z_iload hX d8_misfit_20 rfl ?_
      refine z_sipush hX (364) d8_misfit_22 (by decide) ?_
      refine z_icmp_ge hX 83 d8_misfit_25 (by decide) (fun h25 => ?_) (fun h25 => ?_)
      rotate_left
      · exact absurd (by decide) h25
      refine z_lload hX d8_misfit_83 rfl ?_
      refine z_lret hX hE (by decide) (by decide) d8_misfit_85 ?_
      exact hK
    | succ k ih =>
      intro i hi
      have e1 : (364 : Int32) * nI r + nI i = nI (364 * r + i) := nI_ml 364 r i
      have := ih (i + 1) (by omega)
      unfold zS at this
      refine z_iload hX d8_misfit_20 rfl ?_
      refine z_sipush hX (364) d8_misfit_22 (by decide) ?_
      refine z_icmp_ge hX 83 d8_misfit_25 (by decide) (fun h25 => ?_) (fun h25 => ?_)
      · exact absurd h25 (nI_ge (b := 364) (by omega) (by decide))
      refine z_lload hX d8_misfit_28 rfl ?_
      refine z_aload_n hX d8_misfit_30 rfl ?_
      refine z_iload_n hX d8_misfit_31 rfl ?_
      refine z_iload hX d8_misfit_32 rfl ?_
      refine z_callV2 hX (sp8_isUsed l) lm_8_117 (hM _ _ rfl) ⟨by decide, by decide, by decide, by decide⟩ (Nat.le_of_ble_eq_true rfl) d8_misfit_34 ?_
      refine ⟨iv, h, a, ld, r, i, rfl, hM, p1, by omega, ?_⟩
      dsimp only [Option.toList, List.cons_append, List.nil_append]
      refine z_ifb_eq hX 73 d8_misfit_37 (by decide) (fun h37 => ?_) (fun h37 => ?_)
      · skip
        rw [if_neg (by rw [h37]; decide)] at this
        refine z_lconst hX 0 d8_misfit_73 (by decide) ?_
        refine z_ladd hX d8_misfit_74 ?_
        refine z_lstore hX (by decide) d8_misfit_75 ?_
        dsimp only [z_p1, z_p2, z_k, List.headD, List.tail]
        refine z_iinc hX (1) (by decide) rfl (by decide) d8_misfit_77 ?_
        dsimp only [z_p1, z_p2, z_k, List.headD, List.tail]
        refine z_goto hX 20 d8_misfit_80 (by decide) ?_
        rw [nI_1]
        exact this
      · skip
        rw [if_pos h37] at this
        refine z_aload_n hX d8_misfit_40 rfl ?_
        refine z_get hX lf_8_36 (hM _ _ rfl) rfl d8_misfit_41 ?_
        refine z_sipush hX (364) d8_misfit_44 (by decide) ?_
        refine z_iload_n hX d8_misfit_47 rfl ?_
        refine z_imul hX d8_misfit_48 ?_
        refine z_iload hX d8_misfit_49 rfl ?_
        refine z_iadd hX d8_misfit_51 ?_
        refine z_iald hX (hM _ _ rfl) (ix_in e1 (by omega) (by decide)) d8_misfit_52 ?_
        rw [ix_c e1 (by omega)]
        refine z_i2l hX d8_misfit_53 ?_
        refine z_lload_n hX d8_misfit_54 rfl ?_
        refine z_lmul hX d8_misfit_55 ?_
        refine z_aload_n hX d8_misfit_56 rfl ?_
        refine z_iload_n hX d8_misfit_57 rfl ?_
        refine z_iload hX d8_misfit_58 rfl ?_
        refine z_callV2 hX (sp8_share l) lm_8_95 (hM _ _ rfl) ⟨by decide, by decide, by decide, by decide⟩ (Nat.le_of_ble_eq_true rfl) d8_misfit_60 ?_
        refine ⟨iv, h, a, ld, s, i, rfl, hM, p2, by omega, ?_⟩
        dsimp only [Option.toList, List.cons_append, List.nil_append]
        refine z_lload hX d8_misfit_63 rfl ?_
        refine z_lmul hX d8_misfit_65 ?_
        refine z_lsub hX d8_misfit_66 ?_
        refine z_callS1 hX (sp8_size l) lm_8_134 ⟨by decide, by decide, by decide, by decide⟩ (Nat.le_of_ble_eq_true rfl) d8_misfit_67 ?_
        refine ⟨_, rfl, ?_⟩
        dsimp only [Option.toList, List.cons_append, List.nil_append]
        refine z_goto hX 74 d8_misfit_70 (by decide) ?_
        refine z_ladd hX d8_misfit_74 ?_
        refine z_lstore hX (by decide) d8_misfit_75 ?_
        dsimp only [z_p1, z_p2, z_k, List.headD, List.tail]
        refine z_iinc hX (1) (by decide) rfl (by decide) d8_misfit_77 ?_
        dsimp only [z_p1, z_p2, z_k, List.headD, List.tail]
        refine z_goto hX 20 d8_misfit_80 (by decide) ?_
        rw [nI_1]
        exact this
  refine z_aload_n hX d8_misfit_0 rfl ?_
  refine z_iload_n hX d8_misfit_1 rfl ?_
  refine z_iload_n hX d8_misfit_2 rfl ?_
  refine z_callV2 hX (sp8_sharesOf l) lm_8_124 (hM _ _ rfl) ⟨by decide, by decide, by decide, by decide⟩ (Nat.le_of_ble_eq_true rfl) d8_misfit_3 ?_
  refine ⟨iv, h, a, ld, r, s, rfl, hM, p1, p2, ?_⟩
  dsimp only [Option.toList, List.cons_append, List.nil_append]
  refine z_lstore_n hX 3 rfl (by decide) d8_misfit_6 ?_
  dsimp only [z_p1, z_p2, z_k, List.headD, List.tail]
  refine z_aload_n hX d8_misfit_7 rfl ?_
  refine z_iload_n hX d8_misfit_8 rfl ?_
  refine z_callV1 hX (sp8_countsOf l) lm_8_121 (hM _ _ rfl) ⟨by decide, by decide, by decide, by decide⟩ (Nat.le_of_ble_eq_true rfl) d8_misfit_9 ?_
  refine ⟨iv, h, a, ld, r, rfl, hM, p1, ?_⟩
  dsimp only [Option.toList, List.cons_append, List.nil_append]
  refine z_lstore hX (by decide) d8_misfit_12 ?_
  dsimp only [z_p1, z_p2, z_k, List.headD, List.tail]
  refine z_lconst hX 0 d8_misfit_14 (by decide) ?_
  refine z_lstore hX (by decide) d8_misfit_15 ?_
  dsimp only [z_p1, z_p2, z_k, List.headD, List.tail]
  refine z_iconst hX (0) d8_misfit_17 (by decide) ?_
  refine z_istore hX (by decide) d8_misfit_18 ?_
  dsimp only [z_p1, z_p2, z_k, List.headD, List.tail]
  exact loop 364 0 (by omega)
/-- a number of roads, and each road's shape is one -/
def mWf (iv : Nat → Int32) (h : Nat → Bool) (a : Nat → Nat → Int32) (n : Nat) (sh : Nat → Nat) : Prop := iv 2 = nI n ∧ n ≤ 12 ∧ (∀ r, r < 12 → a 78 r = nI (sh r) ∧ sh r < 4) ∧ (∀ r s, r < n → s < 4 → 0 < zC (mUsed h a r) 364 → ¬ mShares h a r s = 0) ∧ ∀ s d, s < 4 → d < 364 → ¬ mShare h a s d = 0
def S8_whole : z_PT := fun as P nx K => ∃ (iv : Nat → Int32) (h : Nat → Bool) (a : Nat → Nat → Int32) (ld : Nat → Int64) (s : Int32), as = [.ref 70, .int s] ∧ z_in (zM iv h a ld) P ∧ K (some (.long (if 0 ≤ s.toInt ∧ s.toInt < 4 then mWhole h a s.toInt.toNat else -1))) P nx
set_option maxRecDepth 4000 in
theorem sp8_whole (l : Launch) : z_Sp l M8_whole rM8_whole S8_whole := by
  refine z_enter (by decide) (fun as P nx K h => ?_) (fun X K as P nx hX hE hin0 hS => ?_)
  · obtain ⟨iv, h, a, ld, s, rfl, -⟩ := h
    exact Nat.le_of_ble_eq_true rfl
  obtain ⟨iv, h, a, ld, s, rfl, hM, hK⟩ := hS
  show z_W X 0 [some (.ref 70), some (.int s)] [] P nx 0 0
  refine z_iload_n hX d8_whole_0 rfl ?_
  refine z_callS1 hX (sp8_isShape l) lm_8_80 ⟨by decide, by decide, by decide, by decide⟩ (Nat.le_of_ble_eq_true rfl) d8_whole_1 ?_
  refine ⟨_, rfl, ?_⟩
  dsimp only [Option.toList, List.cons_append, List.nil_append]
  refine z_ifb_eq hX 15 d8_whole_4 (by decide) (fun h4 => ?_) (fun h4 => ?_)
  · skip
    rw [decide_eq_false_iff_not] at h4
    rw [if_neg h4] at hK
    refine z_ldc2 hX (-1) d8_whole_15 lk_8_103 ?_
    refine z_lret hX hE (by decide) (by decide) d8_whole_18 ?_
    exact hK
  · skip
    rw [decide_eq_true_eq] at h4
    rw [if_pos h4] at hK
    obtain ⟨j, hj, rfl⟩ := nI_rng (n := 4) h4.1 h4.2
    rw [show (nI j).toInt.toNat = j by rw [nI_toInt (by omega)]; rfl] at hK
    refine z_aload_n hX d8_whole_7 rfl ?_
    refine z_iload_n hX d8_whole_8 rfl ?_
    refine z_callV1 hX (sp8_wholeOf l) lm_8_99 (hM _ _ rfl) ⟨by decide, by decide, by decide, by decide⟩ (Nat.le_of_ble_eq_true rfl) d8_whole_9 ?_
    refine ⟨iv, h, a, ld, j, rfl, hM, hj, ?_⟩
    dsimp only [Option.toList, List.cons_append, List.nil_append]
    refine z_goto hX 18 d8_whole_12 (by decide) ?_
    refine z_lret hX hE (by decide) (by decide) d8_whole_18 ?_
    exact hK
def S8_year : z_PT := fun as P nx K => ∃ (iv : Nat → Int32) (h : Nat → Bool) (a : Nat → Nat → Int32) (ld : Nat → Int64) (n : Nat) (sh : Nat → Nat) (r : Int32), as = [.ref 70, .int r] ∧ z_in (zM iv h a ld) P ∧ (mWf iv h a n sh) ∧ K (some (.long (if 0 ≤ r.toInt ∧ r.toInt < n ∧ 0 < zC (mUsed h a r.toInt.toNat) 364 then mYear h a r.toInt.toNat (sh r.toInt.toNat) else -1))) P nx
set_option maxRecDepth 4000 in
theorem sp8_year (l : Launch) : z_Sp l M8_year rM8_year S8_year := by
  refine z_enter (by decide) (fun as P nx K h => ?_) (fun X K as P nx hX hE hin0 hS => ?_)
  · obtain ⟨iv, h, a, ld, n, sh, r, rfl, -⟩ := h
    exact Nat.le_of_ble_eq_true rfl
  obtain ⟨iv, h, a, ld, n, sh, r, rfl, hM, p1, hK⟩ := hS
  show z_W X 0 [some (.ref 70), some (.int r)] [] P nx 0 0
  obtain ⟨w1, w2, w3, w4, w5⟩ := p1
  refine z_aload_n hX d8_year_0 rfl ?_
  refine z_iload_n hX d8_year_1 rfl ?_
  refine z_callV1 hX (sp8_isRoad l) lm_8_112 (hM _ _ rfl) ⟨by decide, by decide, by decide, by decide⟩ (Nat.le_of_ble_eq_true rfl) d8_year_2 ?_
  refine ⟨iv, h, a, ld, n, r, rfl, hM, w1, w2, ?_⟩
  dsimp only [Option.toList, List.cons_append, List.nil_append]
  refine z_ifb_eq hX 24 d8_year_5 (by decide) (fun h5 => ?_) (fun h5 => ?_)
  · skip
    rw [decide_eq_false_iff_not] at h5
    rw [if_neg (fun q => h5 ⟨q.1, q.2.1⟩)] at hK
    refine z_ldc2 hX (-1) d8_year_24 lk_8_103 ?_
    refine z_lret hX hE (by decide) (by decide) d8_year_27 ?_
    exact hK
  · skip
    rw [decide_eq_true_eq] at h5
    obtain ⟨j, hj, rfl⟩ := nI_rng (n := n) h5.1 h5.2
    rw [show (nI j).toInt.toNat = j by rw [nI_toInt (by omega)]; rfl] at hK
    refine z_aload_n hX d8_year_8 rfl ?_
    refine z_iload_n hX d8_year_9 rfl ?_
    refine z_callV1 hX (sp8_usedOf l) lm_8_127 (hM _ _ rfl) ⟨by decide, by decide, by decide, by decide⟩ (Nat.le_of_ble_eq_true rfl) d8_year_10 ?_
    refine ⟨iv, h, a, ld, j, rfl, hM, by omega, ?_⟩
    dsimp only [Option.toList, List.cons_append, List.nil_append]
    refine z_if_le hX 24 d8_year_13 (by decide) (fun h13 => ?_) (fun h13 => ?_)
    · skip
      have hc := zC_le (mUsed h a j) 364
      rw [i_le, nI_toInt (by omega), show (0 : Int32).toInt = 0 from rfl] at h13
      rw [if_neg (by omega)] at hK
      refine z_ldc2 hX (-1) d8_year_24 lk_8_103 ?_
      refine z_lret hX hE (by decide) (by decide) d8_year_27 ?_
      exact hK
    · skip
      have hc := zC_le (mUsed h a j) 364
      rw [i_le, nI_toInt (by omega), show (0 : Int32).toInt = 0 from rfl] at h13
      rw [if_pos ⟨h5.1, h5.2, by omega⟩] at hK
      refine z_aload_n hX d8_year_16 rfl ?_
      refine z_iload_n hX d8_year_17 rfl ?_
      refine z_callV1 hX (sp8_yearOf l) lm_8_131 (hM _ _ rfl) ⟨by decide, by decide, by decide, by decide⟩ (Nat.le_of_ble_eq_true rfl) d8_year_18 ?_
      refine ⟨iv, h, a, ld, j, sh j, rfl, hM, by omega, (w3 j (by omega)).2, (w3 j (by omega)).1, w4 j (sh j) hj (w3 j (by omega)).2 (by omega), ?_⟩
      dsimp only [Option.toList, List.cons_append, List.nil_append]
      refine z_goto hX 27 d8_year_21 (by decide) ?_
      refine z_lret hX hE (by decide) (by decide) d8_year_27 ?_
      exact hK
