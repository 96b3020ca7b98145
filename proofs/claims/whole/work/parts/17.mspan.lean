/-! the model's span, best; which roads; what comes in -/
def mSpanV (h : Nat → Bool) (a : Nat → Nat → Int32) (r s d : Nat) : Int64 := (a 79 (364 * r + d)).toInt64 * mWhole h a s / mShare h a s d
def mSpanS (g : Bool) (b v : Int64) : Int64 := if b = -1 then v else if g then (if b < v then v else b) else (if v < b then v else b)
def mSpanF (h : Nat → Bool) (a : Nat → Nat → Int32) (r s : Nat) (g : Bool) : Nat → Int64
  | 0 => -1
  | d + 1 => if mUsed h a r d then mSpanS g (mSpanF h a r s g d) (mSpanV h a r s d) else mSpanF h a r s g d
def mSpan (h : Nat → Bool) (a : Nat → Nat → Int32) (n : Nat) (sh : Nat → Nat) (r w : Int32) : Int64 := if 0 ≤ r.toInt ∧ r.toInt < n ∧ 0 ≤ w.toInt ∧ w.toInt ≤ 1 then mSpanF h a r.toInt.toNat (sh r.toInt.toNat) (decide (w = 1)) 364 else -1
def S8_span : z_PT := fun as P nx K => ∃ (iv : Nat → Int32) (h : Nat → Bool) (a : Nat → Nat → Int32) (ld : Nat → Int64) (n : Nat) (sh : Nat → Nat) (r w : Int32), as = [.ref 70, .int r, .int w] ∧ z_in (zM iv h a ld) P ∧ (mWf iv h a n sh) ∧ K (some (.long (mSpan h a n sh r w))) P nx
set_option maxRecDepth 4000 in
theorem sp8_span (l : Launch) : z_Sp l M8_span rM8_span S8_span := by
  refine z_enter (by decide) (fun as P nx K h => ?_) (fun X K as P nx hX hE hin0 hS => ?_)
  · obtain ⟨iv, h, a, ld, n, sh, r, w, rfl, -⟩ := h
    exact Nat.le_of_ble_eq_true rfl
  obtain ⟨iv, h, a, ld, n, sh, r, w, rfl, hM, p1, hK⟩ := hS
  refine z_pad 5 ?_
  show z_W X 0 [some (.ref 70), some (.int r), some (.int w), none, none, none, none, none] [] P nx 0 0
  obtain ⟨w1, w2, w3, w4, w5⟩ := p1
  refine z_aload_n hX d8_span_0 rfl ?_
  refine z_iload_n hX d8_span_1 rfl ?_
  refine z_callV1 hX (sp8_isRoad l) lm_8_112 (hM _ _ rfl) ⟨by decide, by decide, by decide, by decide⟩ (Nat.le_of_ble_eq_true rfl) d8_span_2 ?_
  refine ⟨iv, h, a, ld, n, r, rfl, hM, w1, w2, ?_⟩
  dsimp only [Option.toList, List.cons_append, List.nil_append]
  refine z_ifb_eq hX 18 d8_span_5 (by decide) (fun h5 => ?_) (fun h5 => ?_)
  · skip
    rw [decide_eq_false_iff_not] at h5
    have e : mSpan h a n sh r w = -1 := if_neg (fun q => h5 ⟨q.1, q.2.1⟩)
    rw [e] at hK
    refine z_ldc2 hX (-1) d8_span_18 lk_8_103 ?_
    refine z_lret hX hE (by decide) (by decide) d8_span_21 ?_
    exact hK
  · skip
    refine z_iload_n hX d8_span_8 rfl ?_
    refine z_i2l hX d8_span_9 ?_
    refine z_lconst hX 0 d8_span_10 (by decide) ?_
    refine z_lconst hX 1 d8_span_11 (by decide) ?_
    refine z_callS3 hX (sp8_lies l) lm_8_74 ⟨by decide, by decide, by decide, by decide⟩ (Nat.le_of_ble_eq_true rfl) d8_span_12 ?_
    refine ⟨_, _, _, rfl, ?_⟩
    rw [i2l_t, show (0 : Int64).toInt = 0 from rfl, show (1 : Int64).toInt = 1 from rfl]
    dsimp only [Option.toList, List.cons_append, List.nil_append]
    refine z_ifb_ne hX 22 d8_span_15 (by decide) (fun h15 => ?_) (fun h15 => ?_)
    · skip
      rw [decide_eq_true_eq] at h5 h15
      have e : mSpan h a n sh r w = mSpanF h a r.toInt.toNat (sh r.toInt.toNat) (decide (w = 1)) 364 := if_pos ⟨h5.1, h5.2, h15.1, h15.2⟩
      rw [e] at hK
      obtain ⟨j, hj, rfl⟩ := nI_rng h5.1 h5.2
      rw [tN (n := 12) (by omega) (by decide)] at hK
      have s1 := (w3 j (by omega)).1
      have s2 := (w3 j (by omega)).2
      have ew : ∀ g, decide (w = 1) = g → (w = 0 ↔ g = false) := by
        intro g hg
        have : (0 : Int32).toInt = 0 := rfl
        have : (1 : Int32).toInt = 1 := rfl
        rw [← hg, decide_eq_false_iff_not, i_eq, i_eq]
        omega
      obtain ⟨g, hg⟩ : ∃ g, decide (w = 1) = g := ⟨_, rfl⟩
      have ew := ew g hg
      rw [hg] at hK
      have loop : ∀ (k i : Nat), i + k = 364 → z_W X 29 [some (.ref 70), some (.int (nI j)), some (.int w), some (.long (mSpanF h a j (sh j) g i)), none, some (.int (nI i)), none, none] [] P nx 0 0 := by
        intro k
        induction k with
        | zero =>
          intro i hi
          have hi : i = 364 := by omega
          subst hi
          refine z_iload hX d8_span_29 rfl ?_
          refine z_sipush hX (364) d8_span_31 (by decide) ?_
          refine z_icmp_ge hX 132 d8_span_34 (by decide) (fun h34 => ?_) (fun h34 => ?_)
          rotate_left
          · exact absurd (by decide) h34
          refine z_lload_n hX d8_span_132 rfl ?_
          refine z_lret hX hE (by decide) (by decide) d8_span_133 ?_
          exact hK
        | succ k ih =>
          intro i hi
          have e1 : (364 : Int32) * nI j + nI i = nI (364 * j + i) := nI_ml 364 j i
          have := ih (i + 1) (by omega)
          unfold mSpanF at this
          refine z_iload hX d8_span_29 rfl ?_
          refine z_sipush hX (364) d8_span_31 (by decide) ?_
          refine z_icmp_ge hX 132 d8_span_34 (by decide) (fun h34 => ?_) (fun h34 => ?_)
          · exact absurd h34 (nI_ge (b := 364) (by omega) (by decide))
          refine z_aload_n hX d8_span_37 rfl ?_
          refine z_iload_n hX d8_span_38 rfl ?_
          refine z_iload hX d8_span_39 rfl ?_
          refine z_callV2 hX (sp8_isUsed l) lm_8_117 (hM _ _ rfl) ⟨by decide, by decide, by decide, by decide⟩ (Nat.le_of_ble_eq_true rfl) d8_span_41 ?_
          refine ⟨iv, h, a, ld, j, i, rfl, hM, by omega, by omega, ?_⟩
          dsimp only [Option.toList, List.cons_append, List.nil_append]
          refine z_ifb_ne hX 50 d8_span_44 (by decide) (fun h44 => ?_) (fun h44 => ?_)
          · skip
            rw [if_pos h44] at this
            refine z_aload_n hX d8_span_50 rfl ?_
            refine z_get hX lf_8_36 (hM _ _ rfl) rfl d8_span_51 ?_
            refine z_sipush hX (364) d8_span_54 (by decide) ?_
            refine z_iload_n hX d8_span_57 rfl ?_
            refine z_imul hX d8_span_58 ?_
            refine z_iload hX d8_span_59 rfl ?_
            refine z_iadd hX d8_span_61 ?_
            refine z_iald hX (hM _ _ rfl) (ix_in e1 (by omega) (by decide)) d8_span_62 ?_
            rw [ix_c e1 (by omega)]
            refine z_i2l hX d8_span_63 ?_
            refine z_aload_n hX d8_span_64 rfl ?_
            refine z_aload_n hX d8_span_65 rfl ?_
            refine z_get hX lf_8_33 (hM _ _ rfl) rfl d8_span_66 ?_
            refine z_iload_n hX d8_span_69 rfl ?_
            refine z_iald hX (hM _ _ rfl) (vp_in_nI (by omega) (by decide)) d8_span_70 ?_
            rw [nI_clamp (show j < 2 ^ 31 by omega), s1]
            refine z_callV1 hX (sp8_wholeOf l) lm_8_99 (hM _ _ rfl) ⟨by decide, by decide, by decide, by decide⟩ (Nat.le_of_ble_eq_true rfl) d8_span_71 ?_
            refine ⟨iv, h, a, ld, sh j, rfl, hM, s2, ?_⟩
            dsimp only [Option.toList, List.cons_append, List.nil_append]
            refine z_lmul hX d8_span_74 ?_
            refine z_aload_n hX d8_span_75 rfl ?_
            refine z_aload_n hX d8_span_76 rfl ?_
            refine z_get hX lf_8_33 (hM _ _ rfl) rfl d8_span_77 ?_
            refine z_iload_n hX d8_span_80 rfl ?_
            refine z_iald hX (hM _ _ rfl) (vp_in_nI (by omega) (by decide)) d8_span_81 ?_
            rw [nI_clamp (show j < 2 ^ 31 by omega), s1]
            refine z_iload hX d8_span_82 rfl ?_
            refine z_callV2 hX (sp8_share l) lm_8_95 (hM _ _ rfl) ⟨by decide, by decide, by decide, by decide⟩ (Nat.le_of_ble_eq_true rfl) d8_span_84 ?_
            refine ⟨iv, h, a, ld, sh j, i, rfl, hM, s2, by omega, ?_⟩
            dsimp only [Option.toList, List.cons_append, List.nil_append]
            refine z_ldiv hX d8_span_87 (w5 (sh j) i s2 (by omega)) ?_
            refine z_lstore hX (by decide) d8_span_88 ?_
            dsimp only [z_p1, z_p2, z_k, List.headD, List.tail]
            have this : z_W X 29 [some (.ref 70), some (.int (nI j)), some (.int w), some (.long (mSpanS g (mSpanF h a j (sh j) g i) ((a 79 (364 * j + i)).toInt64 * mWhole h a (sh j) / mShare h a (sh j) i))), none, some (.int (nI (i + 1))), none, none] [] P nx 0 0 := this
            unfold mSpanS at this
            refine z_lload_n hX d8_span_90 rfl ?_
            refine z_ldc2 hX (-1) d8_span_91 lk_8_103 ?_
            refine z_lcmp hX d8_span_94 ?_
            refine z_if_eq hX 119 d8_span_95 (by decide) (fun h95 => ?_) (fun h95 => ?_)
            · skip
              rw [lg_cmp_eq] at h95
              rw [if_pos h95] at this
              refine z_lload hX d8_span_119 rfl ?_
              refine z_goto hX 125 d8_span_121 (by decide) ?_
              refine z_lstore_n hX 3 rfl (by decide) d8_span_125 ?_
              dsimp only [z_p1, z_p2, z_k, List.headD, List.tail]
              refine z_iinc hX (1) (by decide) rfl (by decide) d8_span_126 ?_
              dsimp only [z_p1, z_p2, z_k, List.headD, List.tail]
              refine z_goto hX 29 d8_span_129 (by decide) ?_
              rw [nI_1]
              exact z_sub this (by repeat' (first | exact trivial | refine ⟨rfl, ?_⟩))
            · skip
              rw [lg_cmp_eq] at h95
              rw [if_neg h95] at this
              refine z_iload_n hX d8_span_98 rfl ?_
              refine z_if_ne hX 112 d8_span_99 (by decide) (fun h99 => ?_) (fun h99 => ?_)
              · skip
                rw [if_pos (by cases g with | false => exact absurd (ew.mpr rfl) h99 | true => rfl)] at this
                refine z_lload hX d8_span_112 rfl ?_
                refine z_lload_n hX d8_span_114 rfl ?_
                refine z_lcmp hX d8_span_115 ?_
                refine z_if_le hX 124 d8_span_116 (by decide) (fun h116 => ?_) (fun h116 => ?_)
                · skip
                  rw [lg_cmp_le] at h116
                  rw [if_neg (Int64.not_lt.mpr h116)] at this
                  refine z_lload_n hX d8_span_124 rfl ?_
                  refine z_lstore_n hX 3 rfl (by decide) d8_span_125 ?_
                  dsimp only [z_p1, z_p2, z_k, List.headD, List.tail]
                  refine z_iinc hX (1) (by decide) rfl (by decide) d8_span_126 ?_
                  dsimp only [z_p1, z_p2, z_k, List.headD, List.tail]
                  refine z_goto hX 29 d8_span_129 (by decide) ?_
                  rw [nI_1]
                  exact z_sub this (by repeat' (first | exact trivial | refine ⟨rfl, ?_⟩))
                · skip
                  rw [lg_cmp_le] at h116
                  rw [if_pos (Int64.not_le.mp h116)] at this
                  refine z_lload hX d8_span_119 rfl ?_
                  refine z_goto hX 125 d8_span_121 (by decide) ?_
                  refine z_lstore_n hX 3 rfl (by decide) d8_span_125 ?_
                  dsimp only [z_p1, z_p2, z_k, List.headD, List.tail]
                  refine z_iinc hX (1) (by decide) rfl (by decide) d8_span_126 ?_
                  dsimp only [z_p1, z_p2, z_k, List.headD, List.tail]
                  refine z_goto hX 29 d8_span_129 (by decide) ?_
                  rw [nI_1]
                  exact z_sub this (by repeat' (first | exact trivial | refine ⟨rfl, ?_⟩))
              · skip
                rw [if_neg (by rw [ew.mp h99]; decide)] at this
                refine z_lload hX d8_span_102 rfl ?_
                refine z_lload_n hX d8_span_104 rfl ?_
                refine z_lcmp hX d8_span_105 ?_
                refine z_if_ge hX 124 d8_span_106 (by decide) (fun h106 => ?_) (fun h106 => ?_)
                · skip
                  rw [lg_cmp_ge] at h106
                  rw [if_neg (Int64.not_lt.mpr h106)] at this
                  refine z_lload_n hX d8_span_124 rfl ?_
                  refine z_lstore_n hX 3 rfl (by decide) d8_span_125 ?_
                  dsimp only [z_p1, z_p2, z_k, List.headD, List.tail]
                  refine z_iinc hX (1) (by decide) rfl (by decide) d8_span_126 ?_
                  dsimp only [z_p1, z_p2, z_k, List.headD, List.tail]
                  refine z_goto hX 29 d8_span_129 (by decide) ?_
                  rw [nI_1]
                  exact z_sub this (by repeat' (first | exact trivial | refine ⟨rfl, ?_⟩))
                · skip
                  rw [lg_cmp_ge] at h106
                  rw [if_pos (Int64.not_le.mp h106)] at this
                  refine z_goto hX 119 d8_span_109 (by decide) ?_
                  refine z_lload hX d8_span_119 rfl ?_
                  refine z_goto hX 125 d8_span_121 (by decide) ?_
                  refine z_lstore_n hX 3 rfl (by decide) d8_span_125 ?_
                  dsimp only [z_p1, z_p2, z_k, List.headD, List.tail]
                  refine z_iinc hX (1) (by decide) rfl (by decide) d8_span_126 ?_
                  dsimp only [z_p1, z_p2, z_k, List.headD, List.tail]
                  refine z_goto hX 29 d8_span_129 (by decide) ?_
                  rw [nI_1]
                  exact z_sub this (by repeat' (first | exact trivial | refine ⟨rfl, ?_⟩))
          · skip
            rw [if_neg (by rw [h44]; decide)] at this
            refine z_goto hX 126 d8_span_47 (by decide) ?_
            refine z_iinc hX (1) (by decide) rfl (by decide) d8_span_126 ?_
            dsimp only [z_p1, z_p2, z_k, List.headD, List.tail]
            refine z_goto hX 29 d8_span_129 (by decide) ?_
            rw [nI_1]
            exact z_sub this (by repeat' (first | exact trivial | refine ⟨rfl, ?_⟩))
      refine z_ldc2 hX (-1) d8_span_22 lk_8_103 ?_
      refine z_lstore_n hX 3 rfl (by decide) d8_span_25 ?_
      dsimp only [z_p1, z_p2, z_k, List.headD, List.tail]
      refine z_iconst hX (0) d8_span_26 (by decide) ?_
      refine z_istore hX (by decide) d8_span_27 ?_
      dsimp only [z_p1, z_p2, z_k, List.headD, List.tail]
      exact loop 364 0 (by omega)
    · skip
      rw [decide_eq_false_iff_not] at h15
      have e : mSpan h a n sh r w = -1 := if_neg (fun q => h15 ⟨q.2.2.1, q.2.2.2⟩)
      rw [e] at hK
      refine z_ldc2 hX (-1) d8_span_18 lk_8_103 ?_
      refine z_lret hX hE (by decide) (by decide) d8_span_21 ?_
      exact hK
def mBestC (h : Nat → Bool) (a : Nat → Nat → Int32) (r s b : Nat) : Bool := decide (mMisfit h a r s * mShares h a r b < mMisfit h a r b * mShares h a r s)
def mBestF (h : Nat → Bool) (a : Nat → Nat → Int32) (r : Nat) : Nat → Nat
  | 0 => 0
  | k + 1 => if mBestC h a r (k + 1) (mBestF h a r k) then k + 1 else mBestF h a r k
theorem mBestF_le (h : Nat → Bool) (a : Nat → Nat → Int32) (r : Nat) : ∀ k, mBestF h a r k ≤ k
  | 0 => Nat.le_refl 0
  | k + 1 => by
    have := mBestF_le h a r k
    unfold mBestF
    split <;> omega
def mBest (h : Nat → Bool) (a : Nat → Nat → Int32) (n : Nat) (r : Int32) : Int32 := if 0 ≤ r.toInt ∧ r.toInt < n ∧ 0 < zC (mUsed h a r.toInt.toNat) 364 then nI (mBestF h a r.toInt.toNat 3) else -1
def S8_best : z_PT := fun as P nx K => ∃ (iv : Nat → Int32) (h : Nat → Bool) (a : Nat → Nat → Int32) (ld : Nat → Int64) (n : Nat) (sh : Nat → Nat) (r : Int32), as = [.ref 70, .int r] ∧ z_in (zM iv h a ld) P ∧ (mWf iv h a n sh) ∧ K (some (.int (mBest h a n r))) P nx
set_option maxRecDepth 4000 in
theorem sp8_best (l : Launch) : z_Sp l M8_best rM8_best S8_best := by
  refine z_enter (by decide) (fun as P nx K h => ?_) (fun X K as P nx hX hE hin0 hS => ?_)
  · obtain ⟨iv, h, a, ld, n, sh, r, rfl, -⟩ := h
    exact Nat.le_of_ble_eq_true rfl
  obtain ⟨iv, h, a, ld, n, sh, r, rfl, hM, p1, hK⟩ := hS
  refine z_pad 2 ?_
  show z_W X 0 [some (.ref 70), some (.int r), none, none] [] P nx 0 0
  obtain ⟨w1, w2, w3, w4, w5⟩ := p1
  refine z_aload_n hX d8_best_0 rfl ?_
  refine z_iload_n hX d8_best_1 rfl ?_
  refine z_callV1 hX (sp8_isRoad l) lm_8_112 (hM _ _ rfl) ⟨by decide, by decide, by decide, by decide⟩ (Nat.le_of_ble_eq_true rfl) d8_best_2 ?_
  refine ⟨iv, h, a, ld, n, r, rfl, hM, w1, w2, ?_⟩
  dsimp only [Option.toList, List.cons_append, List.nil_append]
  refine z_ifb_eq hX 16 d8_best_5 (by decide) (fun h5 => ?_) (fun h5 => ?_)
  · skip
    rw [decide_eq_false_iff_not] at h5
    rw [show mBest h a n r = -1 from if_neg (fun q => h5 ⟨q.1, q.2.1⟩)] at hK
    refine z_iconst hX (-1) d8_best_16 (by decide) ?_
    refine z_iret hX hE (by decide) (by decide) d8_best_17 ?_
    exact hK
  · skip
    rw [decide_eq_true_eq] at h5
    obtain ⟨j, hj, rfl⟩ := nI_rng h5.1 h5.2
    unfold mBest at hK
    rw [tN (n := 12) (by omega) (by decide)] at hK
    have hc := zC_le (mUsed h a j) 364
    refine z_aload_n hX d8_best_8 rfl ?_
    refine z_iload_n hX d8_best_9 rfl ?_
    refine z_callV1 hX (sp8_usedOf l) lm_8_127 (hM _ _ rfl) ⟨by decide, by decide, by decide, by decide⟩ (Nat.le_of_ble_eq_true rfl) d8_best_10 ?_
    refine ⟨iv, h, a, ld, j, rfl, hM, by omega, ?_⟩
    dsimp only [Option.toList, List.cons_append, List.nil_append]
    refine z_if_ne hX 18 d8_best_13 (by decide) (fun h13 => ?_) (fun h13 => ?_)
    · skip
      rw [i_eq, nI_toInt (by omega), show (0 : Int32).toInt = 0 from rfl] at h13
      rw [if_pos ⟨h5.1, h5.2, by omega⟩] at hK
      have loop : ∀ (k i : Nat), i + k = 3 → z_W X 22 [some (.ref 70), some (.int (nI j)), some (.int (nI (mBestF h a j i))), some (.int (nI (i + 1)))] [] P nx 0 0 := by
        intro k
        induction k with
        | zero =>
          intro i hi
          have hi : i = 3 := by omega
          subst hi
          refine z_iload_n hX d8_best_22 rfl ?_
          refine z_iconst hX (4) d8_best_23 (by decide) ?_
          refine z_icmp_ge hX 65 d8_best_24 (by decide) (fun h24 => ?_) (fun h24 => ?_)
          rotate_left
          · exact absurd (by decide) h24
          refine z_iload_n hX d8_best_65 rfl ?_
          refine z_iret hX hE (by decide) (by decide) d8_best_66 ?_
          exact hK
        | succ k ih =>
          intro i hi
          have := ih (i + 1) (by omega)
          have hb := mBestF_le h a j i
          unfold mBestF at this
          refine z_iload_n hX d8_best_22 rfl ?_
          refine z_iconst hX (4) d8_best_23 (by decide) ?_
          refine z_icmp_ge hX 65 d8_best_24 (by decide) (fun h24 => ?_) (fun h24 => ?_)
          · exact absurd h24 (nI_ge (b := 4) (by omega) (by decide))
          refine z_aload_n hX d8_best_27 rfl ?_
          refine z_iload_n hX d8_best_28 rfl ?_
          refine z_iload_n hX d8_best_29 rfl ?_
          refine z_callV2 hX (sp8_misfit l) lm_8_138 (hM _ _ rfl) ⟨by decide, by decide, by decide, by decide⟩ (Nat.le_of_ble_eq_true rfl) d8_best_30 ?_
          refine ⟨iv, h, a, ld, j, i + 1, rfl, hM, by omega, by omega, ?_⟩
          dsimp only [Option.toList, List.cons_append, List.nil_append]
          refine z_aload_n hX d8_best_33 rfl ?_
          refine z_iload_n hX d8_best_34 rfl ?_
          refine z_iload_n hX d8_best_35 rfl ?_
          refine z_callV2 hX (sp8_sharesOf l) lm_8_124 (hM _ _ rfl) ⟨by decide, by decide, by decide, by decide⟩ (Nat.le_of_ble_eq_true rfl) d8_best_36 ?_
          refine ⟨iv, h, a, ld, j, _, rfl, hM, by omega, by omega, ?_⟩
          dsimp only [Option.toList, List.cons_append, List.nil_append]
          refine z_lmul hX d8_best_39 ?_
          refine z_aload_n hX d8_best_40 rfl ?_
          refine z_iload_n hX d8_best_41 rfl ?_
          refine z_iload_n hX d8_best_42 rfl ?_
          refine z_callV2 hX (sp8_misfit l) lm_8_138 (hM _ _ rfl) ⟨by decide, by decide, by decide, by decide⟩ (Nat.le_of_ble_eq_true rfl) d8_best_43 ?_
          refine ⟨iv, h, a, ld, j, _, rfl, hM, by omega, by omega, ?_⟩
          dsimp only [Option.toList, List.cons_append, List.nil_append]
          refine z_aload_n hX d8_best_46 rfl ?_
          refine z_iload_n hX d8_best_47 rfl ?_
          refine z_iload_n hX d8_best_48 rfl ?_
          refine z_callV2 hX (sp8_sharesOf l) lm_8_124 (hM _ _ rfl) ⟨by decide, by decide, by decide, by decide⟩ (Nat.le_of_ble_eq_true rfl) d8_best_49 ?_
          refine ⟨iv, h, a, ld, j, i + 1, rfl, hM, by omega, by omega, ?_⟩
          dsimp only [Option.toList, List.cons_append, List.nil_append]
          refine z_lmul hX d8_best_52 ?_
          refine z_lcmp hX d8_best_53 ?_
          refine z_if_ge hX 59 d8_best_54 (by decide) (fun h54 => ?_) (fun h54 => ?_)
          · skip
            rw [lg_cmp_ge] at h54
            rw [if_neg (by unfold mBestC; rw [decide_eq_true_eq]; exact Int64.not_lt.mpr h54)] at this
            refine z_iinc hX (1) (by decide) rfl (by decide) d8_best_59 ?_
            dsimp only [z_p1, z_p2, z_k, List.headD, List.tail]
            refine z_goto hX 22 d8_best_62 (by decide) ?_
            rw [nI_1]
            exact this
          · skip
            rw [lg_cmp_ge] at h54
            rw [if_pos (by unfold mBestC; rw [decide_eq_true_eq]; exact Int64.not_le.mp h54)] at this
            refine z_iload_n hX d8_best_57 rfl ?_
            refine z_istore_n hX 2 rfl (by decide) d8_best_58 ?_
            dsimp only [z_p1, z_p2, z_k, List.headD, List.tail]
            refine z_iinc hX (1) (by decide) rfl (by decide) d8_best_59 ?_
            dsimp only [z_p1, z_p2, z_k, List.headD, List.tail]
            refine z_goto hX 22 d8_best_62 (by decide) ?_
            rw [nI_1]
            exact this
      refine z_iconst hX (0) d8_best_18 (by decide) ?_
      refine z_istore_n hX 2 rfl (by decide) d8_best_19 ?_
      dsimp only [z_p1, z_p2, z_k, List.headD, List.tail]
      refine z_iconst hX (1) d8_best_20 (by decide) ?_
      refine z_istore_n hX 3 rfl (by decide) d8_best_21 ?_
      dsimp only [z_p1, z_p2, z_k, List.headD, List.tail]
      exact loop 3 0 (by omega)
    · skip
      rw [i_eq, nI_toInt (by omega), show (0 : Int32).toInt = 0 from rfl] at h13
      rw [if_neg (by omega)] at hK
      refine z_iconst hX (-1) d8_best_16 (by decide) ?_
      refine z_iret hX hE (by decide) (by decide) d8_best_17 ?_
      exact hK
/-- the roads at a junction -/
def mAt (a : Nat → Nat → Int32) (n : Nat) (j : Int32) : Nat := zbt (fun r => decide (a 75 r = j ∨ a 76 r = j)) n
def S8_roadsAt : z_PT := fun as P nx K => ∃ (iv : Nat → Int32) (h : Nat → Bool) (a : Nat → Nat → Int32) (ld : Nat → Int64) (n : Nat) (j : Int32), as = [.ref 70, .int j] ∧ z_in (zM iv h a ld) P ∧ (iv 2 = nI n) ∧ (n ≤ 12) ∧ K (some (.int (nI (mAt a n j)))) P nx
set_option maxRecDepth 4000 in
theorem sp8_roadsAt (l : Launch) : z_Sp l M8_roadsAt rM8_roadsAt S8_roadsAt := by
  refine z_enter (by decide) (fun as P nx K h => ?_) (fun X K as P nx hX hE hin0 hS => ?_)
  · obtain ⟨iv, h, a, ld, n, j, rfl, -⟩ := h
    exact Nat.le_of_ble_eq_true rfl
  obtain ⟨iv, h, a, ld, n, j, rfl, hM, p1, p2, hK⟩ := hS
  refine z_pad 2 ?_
  show z_W X 0 [some (.ref 70), some (.int j), none, none] [] P nx 0 0
  have loop : ∀ (k i : Nat), i + k = n → z_W X 4 [some (.ref 70), some (.int j), some (.int (nI (zbt (fun r => decide (a 75 r = j ∨ a 76 r = j)) i))), some (.int (nI i))] [] P nx 0 0 := by
    intro k
    induction k with
    | zero =>
      intro i hi
      have hi : i = n := by omega
      subst hi
      refine z_iload_n hX d8_roadsAt_4 rfl ?_
      refine z_aload_n hX d8_roadsAt_5 rfl ?_
      refine z_get hX lf_8_70 (hM _ _ rfl) rfl d8_roadsAt_6 ?_
      rw [p1]
      refine z_icmp_ge hX 48 d8_roadsAt_9 (by decide) (fun h9 => ?_) (fun h9 => ?_)
      rotate_left
      · exact absurd (Int32.le_refl _) h9
      refine z_iload_n hX d8_roadsAt_48 rfl ?_
      refine z_iret hX hE (by decide) (by decide) d8_roadsAt_49 ?_
      exact hK
    | succ k ih =>
      intro i hi
      have := ih (i + 1) (by omega)
      unfold zbt at this
      refine z_iload_n hX d8_roadsAt_4 rfl ?_
      refine z_aload_n hX d8_roadsAt_5 rfl ?_
      refine z_get hX lf_8_70 (hM _ _ rfl) rfl d8_roadsAt_6 ?_
      rw [p1]
      refine z_icmp_ge hX 48 d8_roadsAt_9 (by decide) (fun h9 => ?_) (fun h9 => ?_)
      · exact absurd h9 (nI_ge (by omega) (by omega))
      refine z_iload_n hX d8_roadsAt_12 rfl ?_
      refine z_aload_n hX d8_roadsAt_13 rfl ?_
      refine z_get hX lf_8_24 (hM _ _ rfl) rfl d8_roadsAt_14 ?_
      refine z_iload_n hX d8_roadsAt_17 rfl ?_
      refine z_iald hX (hM _ _ rfl) (vp_in_nI (by omega) (by decide)) d8_roadsAt_18 ?_
      rw [nI_clamp (show i < 2 ^ 31 by omega)]
      refine z_iload_n hX d8_roadsAt_19 rfl ?_
      refine z_icmp_eq hX 33 d8_roadsAt_20 (by decide) (fun h20 => ?_) (fun h20 => ?_)
      · skip
        rw [if_pos (decide_eq_true (Or.inl h20))] at this
        refine z_iconst hX (1) d8_roadsAt_33 (by decide) ?_
        refine z_iload_n hX d8_roadsAt_34 rfl ?_
        refine z_ishl hX d8_roadsAt_35 ?_
        rw [sh1 (by omega)]
        refine z_goto hX 40 d8_roadsAt_36 (by decide) ?_
        refine z_ior hX d8_roadsAt_40 ?_
        try rw [show ∀ z : Nat, nI z ||| 0 = nI z ||| nI 0 from fun _ => rfl]
        refine z_istore_n hX 2 rfl (by decide) d8_roadsAt_41 ?_
        dsimp only [z_p1, z_p2, z_k, List.headD, List.tail]
        refine z_iinc hX (1) (by decide) rfl (by decide) d8_roadsAt_42 ?_
        dsimp only [z_p1, z_p2, z_k, List.headD, List.tail]
        refine z_goto hX 4 d8_roadsAt_45 (by decide) ?_
        rw [nI_1, fa_or]
        exact this
      · skip
        refine z_aload_n hX d8_roadsAt_23 rfl ?_
        refine z_get hX lf_8_27 (hM _ _ rfl) rfl d8_roadsAt_24 ?_
        refine z_iload_n hX d8_roadsAt_27 rfl ?_
        refine z_iald hX (hM _ _ rfl) (vp_in_nI (by omega) (by decide)) d8_roadsAt_28 ?_
        rw [nI_clamp (show i < 2 ^ 31 by omega)]
        refine z_iload_n hX d8_roadsAt_29 rfl ?_
        refine z_icmp_ne hX 39 d8_roadsAt_30 (by decide) (fun h30 => ?_) (fun h30 => ?_)
        · skip
          rw [if_neg (by rw [decide_eq_true_eq]; exact fun q => q.elim h20 h30)] at this
          refine z_iconst hX (0) d8_roadsAt_39 (by decide) ?_
          refine z_ior hX d8_roadsAt_40 ?_
          try rw [show ∀ z : Nat, nI z ||| 0 = nI z ||| nI 0 from fun _ => rfl]
          refine z_istore_n hX 2 rfl (by decide) d8_roadsAt_41 ?_
          dsimp only [z_p1, z_p2, z_k, List.headD, List.tail]
          refine z_iinc hX (1) (by decide) rfl (by decide) d8_roadsAt_42 ?_
          dsimp only [z_p1, z_p2, z_k, List.headD, List.tail]
          refine z_goto hX 4 d8_roadsAt_45 (by decide) ?_
          rw [nI_1, fa_or]
          exact this
        · skip
          rw [if_pos (decide_eq_true (Or.inr h30))] at this
          refine z_iconst hX (1) d8_roadsAt_33 (by decide) ?_
          refine z_iload_n hX d8_roadsAt_34 rfl ?_
          refine z_ishl hX d8_roadsAt_35 ?_
          rw [sh1 (by omega)]
          refine z_goto hX 40 d8_roadsAt_36 (by decide) ?_
          refine z_ior hX d8_roadsAt_40 ?_
          try rw [show ∀ z : Nat, nI z ||| 0 = nI z ||| nI 0 from fun _ => rfl]
          refine z_istore_n hX 2 rfl (by decide) d8_roadsAt_41 ?_
          dsimp only [z_p1, z_p2, z_k, List.headD, List.tail]
          refine z_iinc hX (1) (by decide) rfl (by decide) d8_roadsAt_42 ?_
          dsimp only [z_p1, z_p2, z_k, List.headD, List.tail]
          refine z_goto hX 4 d8_roadsAt_45 (by decide) ?_
          rw [nI_1, fa_or]
          exact this
  refine z_iconst hX (0) d8_roadsAt_0 (by decide) ?_
  refine z_istore_n hX 2 rfl (by decide) d8_roadsAt_1 ?_
  dsimp only [z_p1, z_p2, z_k, List.headD, List.tail]
  refine z_iconst hX (0) d8_roadsAt_2 (by decide) ?_
  refine z_istore_n hX 3 rfl (by decide) d8_roadsAt_3 ?_
  dsimp only [z_p1, z_p2, z_k, List.headD, List.tail]
  exact loop n 0 (by omega)
def mKn (h : Nat → Bool) (a : Nat → Nat → Int32) (n : Nat) : Nat := zbt (fun r => decide (0 < zC (mUsed h a r) 364)) n
def S8_knownRoads : z_PT := fun as P nx K => ∃ (iv : Nat → Int32) (h : Nat → Bool) (a : Nat → Nat → Int32) (ld : Nat → Int64) (n : Nat), as = [.ref 70] ∧ z_in (zM iv h a ld) P ∧ (iv 2 = nI n) ∧ (n ≤ 12) ∧ K (some (.int (nI (mKn h a n)))) P nx
set_option maxRecDepth 4000 in
theorem sp8_knownRoads (l : Launch) : z_Sp l M8_knownRoads rM8_knownRoads S8_knownRoads := by
  refine z_enter (by decide) (fun as P nx K h => ?_) (fun X K as P nx hX hE hin0 hS => ?_)
  · obtain ⟨iv, h, a, ld, n, rfl, -⟩ := h
    exact Nat.le_of_ble_eq_true rfl
  obtain ⟨iv, h, a, ld, n, rfl, hM, p1, p2, hK⟩ := hS
  refine z_pad 2 ?_
  show z_W X 0 [some (.ref 70), none, none] [] P nx 0 0
  have loop : ∀ (k i : Nat), i + k = n → z_W X 4 [some (.ref 70), some (.int (nI (zbt (fun r => decide (0 < zC (mUsed h a r) 364)) i))), some (.int (nI i))] [] P nx 0 0 := by
    intro k
    induction k with
    | zero =>
      intro i hi
      have hi : i = n := by omega
      subst hi
      refine z_iload_n hX d8_knownRoads_4 rfl ?_
      refine z_aload_n hX d8_knownRoads_5 rfl ?_
      refine z_get hX lf_8_70 (hM _ _ rfl) rfl d8_knownRoads_6 ?_
      rw [p1]
      refine z_icmp_ge hX 36 d8_knownRoads_9 (by decide) (fun h9 => ?_) (fun h9 => ?_)
      rotate_left
      · exact absurd (Int32.le_refl _) h9
      refine z_iload_n hX d8_knownRoads_36 rfl ?_
      refine z_iret hX hE (by decide) (by decide) d8_knownRoads_37 ?_
      exact hK
    | succ k ih =>
      intro i hi
      have := ih (i + 1) (by omega)
      unfold zbt at this
      have hc := zC_le (mUsed h a i) 364
      refine z_iload_n hX d8_knownRoads_4 rfl ?_
      refine z_aload_n hX d8_knownRoads_5 rfl ?_
      refine z_get hX lf_8_70 (hM _ _ rfl) rfl d8_knownRoads_6 ?_
      rw [p1]
      refine z_icmp_ge hX 36 d8_knownRoads_9 (by decide) (fun h9 => ?_) (fun h9 => ?_)
      · exact absurd h9 (nI_ge (by omega) (by omega))
      refine z_iload_n hX d8_knownRoads_12 rfl ?_
      refine z_aload_n hX d8_knownRoads_13 rfl ?_
      refine z_iload_n hX d8_knownRoads_14 rfl ?_
      refine z_callV1 hX (sp8_usedOf l) lm_8_127 (hM _ _ rfl) ⟨by decide, by decide, by decide, by decide⟩ (Nat.le_of_ble_eq_true rfl) d8_knownRoads_15 ?_
      refine ⟨iv, h, a, ld, i, rfl, hM, by omega, ?_⟩
      dsimp only [Option.toList, List.cons_append, List.nil_append]
      refine z_if_le hX 27 d8_knownRoads_18 (by decide) (fun h18 => ?_) (fun h18 => ?_)
      · skip
        rw [i_le, nI_toInt (by omega), show (0 : Int32).toInt = 0 from rfl] at h18
        rw [if_neg (by rw [decide_eq_true_eq]; omega)] at this
        refine z_iconst hX (0) d8_knownRoads_27 (by decide) ?_
        refine z_ior hX d8_knownRoads_28 ?_
        try rw [show ∀ z : Nat, nI z ||| 0 = nI z ||| nI 0 from fun _ => rfl]
        refine z_istore_n hX 1 rfl (by decide) d8_knownRoads_29 ?_
        dsimp only [z_p1, z_p2, z_k, List.headD, List.tail]
        refine z_iinc hX (1) (by decide) rfl (by decide) d8_knownRoads_30 ?_
        dsimp only [z_p1, z_p2, z_k, List.headD, List.tail]
        refine z_goto hX 4 d8_knownRoads_33 (by decide) ?_
        rw [nI_1, fa_or]
        exact this
      · skip
        rw [i_le, nI_toInt (by omega), show (0 : Int32).toInt = 0 from rfl] at h18
        rw [if_pos (by rw [decide_eq_true_eq]; omega)] at this
        refine z_iconst hX (1) d8_knownRoads_21 (by decide) ?_
        refine z_iload_n hX d8_knownRoads_22 rfl ?_
        refine z_ishl hX d8_knownRoads_23 ?_
        rw [sh1 (by omega)]
        refine z_goto hX 28 d8_knownRoads_24 (by decide) ?_
        refine z_ior hX d8_knownRoads_28 ?_
        try rw [show ∀ z : Nat, nI z ||| 0 = nI z ||| nI 0 from fun _ => rfl]
        refine z_istore_n hX 1 rfl (by decide) d8_knownRoads_29 ?_
        dsimp only [z_p1, z_p2, z_k, List.headD, List.tail]
        refine z_iinc hX (1) (by decide) rfl (by decide) d8_knownRoads_30 ?_
        dsimp only [z_p1, z_p2, z_k, List.headD, List.tail]
        refine z_goto hX 4 d8_knownRoads_33 (by decide) ?_
        rw [nI_1, fa_or]
        exact this
  refine z_iconst hX (0) d8_knownRoads_0 (by decide) ?_
  refine z_istore_n hX 1 rfl (by decide) d8_knownRoads_1 ?_
  dsimp only [z_p1, z_p2, z_k, List.headD, List.tail]
  refine z_iconst hX (0) d8_knownRoads_2 (by decide) ?_
  refine z_istore_n hX 2 rfl (by decide) d8_knownRoads_3 ?_
  dsimp only [z_p1, z_p2, z_k, List.headD, List.tail]
  exact loop n 0 (by omega)
def mExT (a : Nat → Nat → Int32) (ld : Nat → Int64) (j : Int32) (set r : Nat) : Int64 := if a 76 r = j then ld r else if a 75 r = j then -ld r else 0
def mEx (a : Nat → Nat → Int32) (ld : Nat → Int64) (j : Int32) (set : Nat) : Nat → Int64
  | 0 => 0
  | r + 1 => if set.testBit r then mEx a ld j set r + mExT a ld j set r else mEx a ld j set r
def S8_excess : z_PT := fun as P nx K => ∃ (iv : Nat → Int32) (h : Nat → Bool) (a : Nat → Nat → Int32) (ld : Nat → Int64) (n : Nat) (j : Int32) (set : Nat), as = [.ref 70, .int j, .int (nI set)] ∧ z_in (zM iv h a ld) P ∧ (iv 2 = nI n) ∧ (n ≤ 12) ∧ (set < 4096) ∧ K (some (.long (mEx a ld j set n))) P nx
set_option maxRecDepth 4000 in
theorem sp8_excess (l : Launch) : z_Sp l M8_excess rM8_excess S8_excess := by
  refine z_enter (by decide) (fun as P nx K h => ?_) (fun X K as P nx hX hE hin0 hS => ?_)
  · obtain ⟨iv, h, a, ld, n, j, set, rfl, -⟩ := h
    exact Nat.le_of_ble_eq_true rfl
  obtain ⟨iv, h, a, ld, n, j, set, rfl, hM, p1, p2, p3, hK⟩ := hS
  refine z_pad 3 ?_
  show z_W X 0 [some (.ref 70), some (.int j), some (.int (nI set)), none, none, none] [] P nx 0 0
  have loop : ∀ (k i : Nat), i + k = n → z_W X 5 [some (.ref 70), some (.int j), some (.int (nI set)), some (.long (mEx a ld j set i)), none, some (.int (nI i))] [] P nx 0 0 := by
    intro k
    induction k with
    | zero =>
      intro i hi
      have hi : i = n := by omega
      subst hi
      refine z_iload hX d8_excess_5 rfl ?_
      refine z_aload_n hX d8_excess_7 rfl ?_
      refine z_get hX lf_8_70 (hM _ _ rfl) rfl d8_excess_8 ?_
      rw [p1]
      refine z_icmp_ge hX 79 d8_excess_11 (by decide) (fun h11 => ?_) (fun h11 => ?_)
      rotate_left
      · exact absurd (Int32.le_refl _) h11
      refine z_lload_n hX d8_excess_79 rfl ?_
      refine z_lret hX hE (by decide) (by decide) d8_excess_80 ?_
      exact hK
    | succ k ih =>
      intro i hi
      have := ih (i + 1) (by omega)
      unfold mEx at this
      refine z_iload hX d8_excess_5 rfl ?_
      refine z_aload_n hX d8_excess_7 rfl ?_
      refine z_get hX lf_8_70 (hM _ _ rfl) rfl d8_excess_8 ?_
      rw [p1]
      refine z_icmp_ge hX 79 d8_excess_11 (by decide) (fun h11 => ?_) (fun h11 => ?_)
      · exact absurd h11 (nI_ge (by omega) (by omega))
      refine z_iload_n hX d8_excess_14 rfl ?_
      refine z_iload hX d8_excess_15 rfl ?_
      refine z_callS2 hX (sp8_has l) lm_8_141 ⟨by decide, by decide, by decide, by decide⟩ (Nat.le_of_ble_eq_true rfl) d8_excess_17 ?_
      refine ⟨set, i, rfl, by omega, by omega, ?_⟩
      dsimp only [Option.toList, List.cons_append, List.nil_append]
      refine z_ifb_ne hX 26 d8_excess_20 (by decide) (fun h20 => ?_) (fun h20 => ?_)
      · skip
        rw [if_pos h20] at this
        unfold mExT at this
        refine z_lload_n hX d8_excess_26 rfl ?_
        refine z_aload_n hX d8_excess_27 rfl ?_
        refine z_get hX lf_8_27 (hM _ _ rfl) rfl d8_excess_28 ?_
        refine z_iload hX d8_excess_31 rfl ?_
        refine z_iald hX (hM _ _ rfl) (vp_in_nI (by omega) (by decide)) d8_excess_33 ?_
        rw [nI_clamp (show i < 2 ^ 31 by omega)]
        refine z_iload_n hX d8_excess_34 rfl ?_
        refine z_icmp_ne hX 48 d8_excess_35 (by decide) (fun h35 => ?_) (fun h35 => ?_)
        · skip
          rw [if_neg h35] at this
          refine z_aload_n hX d8_excess_48 rfl ?_
          refine z_get hX lf_8_24 (hM _ _ rfl) rfl d8_excess_49 ?_
          refine z_iload hX d8_excess_52 rfl ?_
          refine z_iald hX (hM _ _ rfl) (vp_in_nI (by omega) (by decide)) d8_excess_54 ?_
          rw [nI_clamp (show i < 2 ^ 31 by omega)]
          refine z_iload_n hX d8_excess_55 rfl ?_
          refine z_icmp_ne hX 70 d8_excess_56 (by decide) (fun h56 => ?_) (fun h56 => ?_)
          · skip
            rw [if_neg h56] at this
            refine z_lconst hX 0 d8_excess_70 (by decide) ?_
            refine z_ladd hX d8_excess_71 ?_
            refine z_lstore_n hX 3 rfl (by decide) d8_excess_72 ?_
            dsimp only [z_p1, z_p2, z_k, List.headD, List.tail]
            refine z_iinc hX (1) (by decide) rfl (by decide) d8_excess_73 ?_
            dsimp only [z_p1, z_p2, z_k, List.headD, List.tail]
            refine z_goto hX 5 d8_excess_76 (by decide) ?_
            rw [nI_1]
            exact this
          · skip
            rw [if_pos h56] at this
            refine z_aload_n hX d8_excess_59 rfl ?_
            refine z_get hX lf_8_63 (hM _ _ rfl) rfl d8_excess_60 ?_
            refine z_iload hX d8_excess_63 rfl ?_
            refine z_lald hX (hM _ _ rfl) (vp_in_nI (by omega) (by decide)) d8_excess_65 ?_
            rw [nI_clamp (show i < 2 ^ 31 by omega)]
            refine z_lneg hX d8_excess_66 ?_
            refine z_goto hX 71 d8_excess_67 (by decide) ?_
            refine z_ladd hX d8_excess_71 ?_
            refine z_lstore_n hX 3 rfl (by decide) d8_excess_72 ?_
            dsimp only [z_p1, z_p2, z_k, List.headD, List.tail]
            refine z_iinc hX (1) (by decide) rfl (by decide) d8_excess_73 ?_
            dsimp only [z_p1, z_p2, z_k, List.headD, List.tail]
            refine z_goto hX 5 d8_excess_76 (by decide) ?_
            rw [nI_1]
            exact this
        · skip
          rw [if_pos h35] at this
          refine z_aload_n hX d8_excess_38 rfl ?_
          refine z_get hX lf_8_63 (hM _ _ rfl) rfl d8_excess_39 ?_
          refine z_iload hX d8_excess_42 rfl ?_
          refine z_lald hX (hM _ _ rfl) (vp_in_nI (by omega) (by decide)) d8_excess_44 ?_
          rw [nI_clamp (show i < 2 ^ 31 by omega)]
          refine z_goto hX 71 d8_excess_45 (by decide) ?_
          refine z_ladd hX d8_excess_71 ?_
          refine z_lstore_n hX 3 rfl (by decide) d8_excess_72 ?_
          dsimp only [z_p1, z_p2, z_k, List.headD, List.tail]
          refine z_iinc hX (1) (by decide) rfl (by decide) d8_excess_73 ?_
          dsimp only [z_p1, z_p2, z_k, List.headD, List.tail]
          refine z_goto hX 5 d8_excess_76 (by decide) ?_
          rw [nI_1]
          exact this
      · skip
        rw [if_neg (by rw [h20]; decide)] at this
        refine z_goto hX 73 d8_excess_23 (by decide) ?_
        refine z_iinc hX (1) (by decide) rfl (by decide) d8_excess_73 ?_
        dsimp only [z_p1, z_p2, z_k, List.headD, List.tail]
        refine z_goto hX 5 d8_excess_76 (by decide) ?_
        rw [nI_1]
        exact this
  refine z_lconst hX 0 d8_excess_0 (by decide) ?_
  refine z_lstore_n hX 3 rfl (by decide) d8_excess_1 ?_
  dsimp only [z_p1, z_p2, z_k, List.headD, List.tail]
  refine z_iconst hX (0) d8_excess_2 (by decide) ?_
  refine z_istore hX (by decide) d8_excess_3 ?_
  dsimp only [z_p1, z_p2, z_k, List.headD, List.tail]
  exact loop n 0 (by omega)
