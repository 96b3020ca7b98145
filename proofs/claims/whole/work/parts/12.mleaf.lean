/-! the model's small methods -/
def S8_lies : z_PT := fun as P nx K => ∃ v lo hi : Int64, as = [.long v, .long lo, .long hi] ∧ K (some (.int (zb (decide (lo.toInt ≤ v.toInt ∧ v.toInt ≤ hi.toInt))))) P nx
theorem sp8_lies (l : Launch) : z_Sp l M8_lies rM8_lies S8_lies := by
  refine z_enter (by decide) (fun as P nx K h => ?_) (fun X K as P nx hX hE _ hS => ?_)
  · obtain ⟨v, lo, hi, rfl, -⟩ := h
    exact Nat.le_refl _
  · obtain ⟨v, lo, hi, rfl, hK⟩ := hS
    show z_W X 0 [some (.long v), none, some (.long lo), none, some (.long hi), none] [] P nx 0 0
    refine z_lload_n hX d8_lies_0 rfl ?_
    refine z_lload_n hX d8_lies_1 rfl ?_
    refine z_lcmp hX d8_lies_2 ?_
    refine z_if_lt hX 17 d8_lies_3 (by decide) (fun h3 => ?_) (fun h3 => ?_)
    · skip
      rw [lg_cmp_lt, l_lt] at h3
      refine z_iconst hX (0) d8_lies_17 (by decide) ?_
      refine z_zret hX hE (by decide) (by decide) (by decide) d8_lies_18 ?_
      first | exact zK0 hK (decide_eq_false (by omega)) | exact zK1 hK (decide_eq_true (by omega))
    · skip
      rw [lg_cmp_lt, l_lt] at h3
      refine z_lload_n hX d8_lies_6 rfl ?_
      refine z_lload hX d8_lies_7 rfl ?_
      refine z_lcmp hX d8_lies_9 ?_
      refine z_if_gt hX 17 d8_lies_10 (by decide) (fun h10 => ?_) (fun h10 => ?_)
      · skip
        rw [lg_cmp_gt, l_lt] at h10
        refine z_iconst hX (0) d8_lies_17 (by decide) ?_
        refine z_zret hX hE (by decide) (by decide) (by decide) d8_lies_18 ?_
        first | exact zK0 hK (decide_eq_false (by omega)) | exact zK1 hK (decide_eq_true (by omega))
      · skip
        rw [lg_cmp_gt, l_lt] at h10
        refine z_iconst hX (1) d8_lies_13 (by decide) ?_
        refine z_goto hX 18 d8_lies_14 (by decide) ?_
        refine z_zret hX hE (by decide) (by decide) (by decide) d8_lies_18 ?_
        first | exact zK0 hK (decide_eq_false (by omega)) | exact zK1 hK (decide_eq_true (by omega))
def S8_isShape : z_PT := fun as P nx K => ∃ s : Int32, as = [.int s] ∧ K (some (.int (zb (decide (0 ≤ s.toInt ∧ s.toInt < 4))))) P nx
theorem sp8_isShape (l : Launch) : z_Sp l M8_isShape rM8_isShape S8_isShape := by
  refine z_enter (by decide) (fun as P nx K h => ?_) (fun X K as P nx hX hE _ hS => ?_)
  · obtain ⟨s, rfl, -⟩ := h
    exact Nat.le_refl _
  · obtain ⟨s, rfl, hK⟩ := hS
    show z_W X 0 [some (.int s)] [] P nx 0 0
    refine z_iload_n hX d8_isShape_0 rfl ?_
    refine z_i2l hX d8_isShape_1 ?_
    refine z_lconst hX 0 d8_isShape_2 (by decide) ?_
    refine z_ldc2 hX (3) d8_isShape_3 lk_8_78 ?_
    refine z_callS3 hX (sp8_lies l) lm_8_74 ⟨by decide, by decide, by decide, by decide⟩ (by decide) d8_isShape_6 ?_
    refine ⟨_, _, _, rfl, ?_⟩
    dsimp only [Option.toList, List.cons_append, List.nil_append]
    refine z_zret hX hE (zb_01 _) (by decide) (by decide) d8_isShape_9 ?_
    refine zKe hK ?_
    rw [i2l_t]
    congr 4
    simp only [eq_iff_iff]
    rw [show (0 : Int64).toInt = 0 from rfl, show (3 : Int64).toInt = 3 from rfl]
    omega
def S8_isEnd : z_PT := fun as P nx K => ∃ s : Int32, as = [.int s] ∧ K (some (.int (zb (decide (-1 ≤ s.toInt ∧ s.toInt < 8))))) P nx
theorem sp8_isEnd (l : Launch) : z_Sp l M8_isEnd rM8_isEnd S8_isEnd := by
  refine z_enter (by decide) (fun as P nx K h => ?_) (fun X K as P nx hX hE _ hS => ?_)
  · obtain ⟨s, rfl, -⟩ := h
    exact Nat.le_refl _
  · obtain ⟨s, rfl, hK⟩ := hS
    show z_W X 0 [some (.int s)] [] P nx 0 0
    refine z_iload_n hX d8_isEnd_0 rfl ?_
    refine z_i2l hX d8_isEnd_1 ?_
    refine z_ldc2 hX (-1) d8_isEnd_2 lk_8_103 ?_
    refine z_ldc2 hX (7) d8_isEnd_5 lk_8_105 ?_
    refine z_callS3 hX (sp8_lies l) lm_8_74 ⟨by decide, by decide, by decide, by decide⟩ (by decide) d8_isEnd_8 ?_
    refine ⟨_, _, _, rfl, ?_⟩
    dsimp only [Option.toList, List.cons_append, List.nil_append]
    refine z_zret hX hE (zb_01 _) (by decide) (by decide) d8_isEnd_11 ?_
    refine zKe hK ?_
    rw [i2l_t]
    congr 4
    simp only [eq_iff_iff]
    rw [show (-1 : Int64).toInt = -1 from rfl, show (7 : Int64).toInt = 7 from rfl]
    omega
def S8_isRoad : z_PT := fun as P nx K => ∃ (iv : Nat → Int32) (h : Nat → Bool) (a : Nat → Nat → Int32) (ld : Nat → Int64) (n : Nat) (r : Int32), as = [.ref 70, .int r] ∧ z_in (zM iv h a ld) P ∧ iv 2 = nI n ∧ n ≤ 12 ∧ K (some (.int (zb (decide (0 ≤ r.toInt ∧ r.toInt < n))))) P nx
theorem sp8_isRoad (l : Launch) : z_Sp l M8_isRoad rM8_isRoad S8_isRoad := by
  refine z_enter (by decide) (fun as P nx K h => ?_) (fun X K as P nx hX hE _ hS => ?_)
  · obtain ⟨iv, h, a, ld, n, r, rfl, -⟩ := h
    exact Nat.le_refl _
  · obtain ⟨iv, h, a, ld, n, r, rfl, hM, hn, hn12, hK⟩ := hS
    show z_W X 0 [some (.ref 70), some (.int r)] [] P nx 0 0
    refine z_iload_n hX d8_isRoad_0 rfl ?_
    refine z_i2l hX d8_isRoad_1 ?_
    refine z_lconst hX 0 d8_isRoad_2 (by decide) ?_
    refine z_aload_n hX d8_isRoad_3 rfl ?_
    refine z_get hX lf_8_70 (hM _ _ rfl) rfl d8_isRoad_4 ?_
    refine z_iconst hX (1) d8_isRoad_7 (by decide) ?_
    refine z_isub hX d8_isRoad_8 ?_
    refine z_i2l hX d8_isRoad_9 ?_
    refine z_callS3 hX (sp8_lies l) lm_8_74 ⟨by decide, by decide, by decide, by decide⟩ (by decide) d8_isRoad_10 ?_
    refine ⟨_, _, _, rfl, ?_⟩
    dsimp only [Option.toList, List.cons_append, List.nil_append]
    refine z_zret hX hE (zb_01 _) (by decide) (by decide) d8_isRoad_13 ?_
    refine zKe hK ?_
    rw [i2l_t, i2l_t, hn]
    congr 4
    simp only [eq_iff_iff]
    have h1 : (nI n).toInt = n := nI_toInt (by omega)
    have h2 : (1 : Int32).toInt = 1 := rfl
    rw [i_sub (by omega) (by omega), h1, h2, show (0 : Int64).toInt = 0 from rfl]
    omega
def S8_size : z_PT := fun as P nx K => ∃ v : Int64, as = [.long v] ∧ K (some (.long (if v < 0 then -v else v))) P nx
theorem sp8_size (l : Launch) : z_Sp l M8_size rM8_size S8_size := by
  refine z_enter (by decide) (fun as P nx K h => ?_) (fun X K as P nx hX hE _ hS => ?_)
  · obtain ⟨s, rfl, -⟩ := h
    exact Nat.le_refl _
  · obtain ⟨v, rfl, hK⟩ := hS
    show z_W X 0 [some (.long v), none] [] P nx 0 0
    refine z_lload_n hX d8_size_0 rfl ?_
    refine z_lconst hX 0 d8_size_1 (by decide) ?_
    refine z_lcmp hX d8_size_2 ?_
    refine z_if_ge hX 11 d8_size_3 (by decide) (fun h3 => ?_) (fun h3 => ?_)
    · skip
      rw [lg_cmp_ge] at h3
      refine z_lload_n hX d8_size_11 rfl ?_
      refine z_lret hX hE (by decide) (by decide) d8_size_12 ?_
      first | exact zKe hK (by rw [if_neg (Int64.not_lt.mpr h3)]) | exact zKe hK (by rw [if_pos (Int64.not_le.mp h3)])
    · skip
      rw [lg_cmp_ge] at h3
      refine z_lload_n hX d8_size_6 rfl ?_
      refine z_lneg hX d8_size_7 ?_
      refine z_goto hX 12 d8_size_8 (by decide) ?_
      refine z_lret hX hE (by decide) (by decide) d8_size_12 ?_
      first | exact zKe hK (by rw [if_neg (Int64.not_lt.mpr h3)]) | exact zKe hK (by rw [if_pos (Int64.not_le.mp h3)])
