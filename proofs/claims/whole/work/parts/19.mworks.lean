/-! the model's loads, balances, sets that do -/
def wLd (h : Nat → Bool) (a : Nat → Nat → Int32) (sh : Nat → Nat) (n : Nat) (ld : Nat → Int64) : Nat → Nat → Int64
  | 0 => ld
  | i + 1 => vp_updL (wLd h a sh n ld i) i (if (mKn h a n).testBit i then mYear h a i (sh i) else 0)
def mW (h : Nat → Bool) (a : Nat → Nat → Int32) (n : Nat) (sh : Nat → Nat) (ld : Nat → Int64) : Nat × (Nat → Int64) := gL a n 13 (mKn h a n, wLd h a sh n ld n)
theorem mKn_lt {h : Nat → Bool} {a : Nat → Nat → Int32} {n : Nat} (hn : n ≤ 12) : mKn h a n < 4096 := zbt_lt12 _ hn
theorem mKn_t {h : Nat → Bool} {a : Nat → Nat → Int32} {n i : Nat} (hi : i < n) : (mKn h a n).testBit i = decide (0 < zC (mUsed h a i) 364) := by
  unfold mKn
  rw [zbt_t, decide_eq_true hi, Bool.true_and]
theorem aL_lt {A : Nat → Nat} (hA : ∀ j, A j < 4096) : ∀ f {all : Nat}, all < 4096 → aL A f all < 4096
  | 0, all, h => h
  | f + 1, all, h => by
    unfold aL
    split
    · exact aF_lt hA 8 0 h
    · exact aL_lt hA f (aF_lt hA 8 0 h)
theorem mW_lt {h : Nat → Bool} {a : Nat → Nat → Int32} {n : Nat} {sh : Nat → Nat} {ld : Nat → Int64} (hn : n ≤ 12) : (mW h a n sh ld).1 < 4096 := by
  unfold mW
  rw [gL_1]
  exact aL_lt (fun _ => mAt_lt hn _) 13 (mKn_lt hn)
def S8_works : z_PT := fun as P nx K => ∃ (iv : Nat → Int32) (h : Nat → Bool) (a : Nat → Nat → Int32) (ld : Nat → Int64) (n : Nat) (sh : Nat → Nat), as = [.ref 70] ∧ z_in (zM iv h a ld) P ∧ (mWf iv h a n sh) ∧ (∀ P' : z_H, z_in (zM iv h a (mW h a n sh ld).2) P' → z_out zDm P P' → K (some (.int (nI (mW h a n sh ld).1))) P' nx)
set_option maxRecDepth 4000 in
theorem sp8_works (l : Launch) : z_Sp l M8_works rM8_works S8_works := by
  refine z_enter (by decide) (fun as P nx K h => ?_) (fun X K as P nx hX hE hin0 hS => ?_)
  · obtain ⟨iv, h, a, ld, n, sh, rfl, -⟩ := h
    exact Nat.le_of_ble_eq_true rfl
  obtain ⟨iv, h, a, ld, n, sh, rfl, hM, p1, hK⟩ := hS
  refine z_pad 2 ?_
  show z_W X 0 [some (.ref 70), none, none] [] P nx 0 0
  have hO : z_out zDm P P := z_out.rf
  obtain ⟨w1, w2, w3, w4, w5⟩ := p1
  have hk4 := mKn_lt (h := h) (a := a) w2
  obtain ⟨P0, hP0⟩ : ∃ P0, P0 = P := ⟨_, rfl⟩
  rw [← hP0] at hK
  have hO : z_out zDm P0 P := by rw [hP0]; exact z_out.rf
  have loop : ∀ (k i : Nat) (P : z_H), i + k = n → z_in (zM iv h a (wLd h a sh n ld i)) P → z_out zDm P0 P → z_W X 7 [some (.ref 70), some (.int (nI (mKn h a n))), some (.int (nI i))] [] P nx 0 0 := by
    intro k
    induction k with
    | zero =>
      intro i P hi hM hO
      have hi : i = n := by omega
      subst hi
      refine z_iload_n hX d8_works_7 rfl ?_
      refine z_aload_n hX d8_works_8 rfl ?_
      refine z_get hX lf_8_70 (hM _ _ rfl) rfl d8_works_9 ?_
      rw [w1]
      refine z_icmp_ge hX 44 d8_works_12 (by decide) (fun h12 => ?_) (fun h12 => ?_)
      rotate_left
      · exact absurd (Int32.le_refl _) h12
      refine z_aload_n hX d8_works_44 rfl ?_
      refine z_iload_n hX d8_works_45 rfl ?_
      refine z_callV1 hX (sp8_grows l) lm_8_157 (hM _ _ rfl) ⟨by decide, by decide, by decide, by decide⟩ (Nat.le_of_ble_eq_true rfl) d8_works_46 ?_
      refine ⟨iv, h, a, _, i, mKn h a i, rfl, hM, w1, w2, hk4, fun P' g1 g2 => ?_⟩
      dsimp only [Option.toList, List.cons_append, List.nil_append]
      refine z_iret hX hE (by decide) (by decide) d8_works_49 ?_
      exact hK P' g1 (hO.tr g2)
    | succ k ih =>
      intro i P hi hM hO
      have hkt := mKn_t (h := h) (a := a) (show i < n by omega)
      refine z_iload_n hX d8_works_7 rfl ?_
      refine z_aload_n hX d8_works_8 rfl ?_
      refine z_get hX lf_8_70 (hM _ _ rfl) rfl d8_works_9 ?_
      rw [w1]
      refine z_icmp_ge hX 44 d8_works_12 (by decide) (fun h12 => ?_) (fun h12 => ?_)
      · exact absurd h12 (nI_ge (by omega) (by omega))
      refine z_aload_n hX d8_works_15 rfl ?_
      refine z_get hX lf_8_63 (hM _ _ rfl) rfl d8_works_16 ?_
      refine z_iload_n hX d8_works_19 rfl ?_
      refine z_iload_n hX d8_works_20 rfl ?_
      refine z_iload_n hX d8_works_21 rfl ?_
      refine z_callS2 hX (sp8_has l) lm_8_141 ⟨by decide, by decide, by decide, by decide⟩ (Nat.le_of_ble_eq_true rfl) d8_works_22 ?_
      refine ⟨_, i, rfl, by omega, by omega, ?_⟩
      dsimp only [Option.toList, List.cons_append, List.nil_append]
      refine z_ifb_eq hX 36 d8_works_25 (by decide) (fun h25 => ?_) (fun h25 => ?_)
      · skip
        refine z_lconst hX 0 d8_works_36 (by decide) ?_
        refine z_last hX (hM _ _ rfl) (vp_in_nI (by omega) (by decide)) d8_works_37 ?_
        rw [nI_clamp (show i < 2 ^ 31 by omega)]
        refine z_gen hM hO rfl (fun P hM hO => ?_)
        have hM := zM_s88 hM
        refine z_iinc hX (1) (by decide) rfl (by decide) d8_works_38 ?_
        dsimp only [z_p1, z_p2, z_k, List.headD, List.tail]
        refine z_goto hX 7 d8_works_41 (by decide) ?_
        rw [nI_1]
        refine ih (i + 1) P (by omega) ?_ hO
        unfold wLd
        rw [h25]
        exact hM
      · skip
        refine z_aload_n hX d8_works_28 rfl ?_
        refine z_iload_n hX d8_works_29 rfl ?_
        refine z_callV1 hX (sp8_yearOf l) lm_8_131 (hM _ _ rfl) ⟨by decide, by decide, by decide, by decide⟩ (Nat.le_of_ble_eq_true rfl) d8_works_30 ?_
        refine ⟨iv, h, a, _, i, sh i, rfl, hM, by omega, (w3 i (by omega)).2, (w3 i (by omega)).1, w4 i (sh i) (by omega) (w3 i (by omega)).2 (by rw [hkt, decide_eq_true_eq] at h25; exact h25), ?_⟩
        dsimp only [Option.toList, List.cons_append, List.nil_append]
        refine z_goto hX 37 d8_works_33 (by decide) ?_
        refine z_last hX (hM _ _ rfl) (vp_in_nI (by omega) (by decide)) d8_works_37 ?_
        rw [nI_clamp (show i < 2 ^ 31 by omega)]
        refine z_gen hM hO rfl (fun P hM hO => ?_)
        have hM := zM_s88 hM
        refine z_iinc hX (1) (by decide) rfl (by decide) d8_works_38 ?_
        dsimp only [z_p1, z_p2, z_k, List.headD, List.tail]
        refine z_goto hX 7 d8_works_41 (by decide) ?_
        rw [nI_1]
        refine ih (i + 1) P (by omega) ?_ hO
        unfold wLd
        rw [h25]
        exact hM
  refine z_aload_n hX d8_works_0 rfl ?_
  refine z_callV0 hX (sp8_knownRoads l) lm_8_153 (hM _ _ rfl) ⟨by decide, by decide, by decide, by decide⟩ (Nat.le_of_ble_eq_true rfl) d8_works_1 ?_
  refine ⟨iv, h, a, ld, n, rfl, hM, w1, w2, ?_⟩
  dsimp only [Option.toList, List.cons_append, List.nil_append]
  refine z_istore_n hX 1 rfl (by decide) d8_works_4 ?_
  dsimp only [z_p1, z_p2, z_k, List.headD, List.tail]
  refine z_iconst hX (0) d8_works_5 (by decide) ?_
  refine z_istore_n hX 2 rfl (by decide) d8_works_6 ?_
  dsimp only [z_p1, z_p2, z_k, List.headD, List.tail]
  exact loop n 0 P (by omega) hM hO
def mHow (h : Nat → Bool) (a : Nat → Nat → Int32) (n : Nat) (sh : Nat → Nat) (ld : Nat → Int64) (r : Int32) : Int32 := if 0 ≤ r.toInt ∧ r.toInt < n then (if (mKn h a n).testBit r.toInt.toNat then 0 else if (mW h a n sh ld).1.testBit r.toInt.toNat then 1 else 2) else -1
def S8_how : z_PT := fun as P nx K => ∃ (iv : Nat → Int32) (h : Nat → Bool) (a : Nat → Nat → Int32) (ld : Nat → Int64) (n : Nat) (sh : Nat → Nat) (r : Int32), as = [.ref 70, .int r] ∧ z_in (zM iv h a ld) P ∧ (mWf iv h a n sh) ∧ (∀ (ld2 : Nat → Int64) (P' : z_H), z_in (zM iv h a ld2) P' → z_out zDm P P' → K (some (.int (mHow h a n sh ld r))) P' nx)
set_option maxRecDepth 4000 in
theorem sp8_how (l : Launch) : z_Sp l M8_how rM8_how S8_how := by
  refine z_enter (by decide) (fun as P nx K h => ?_) (fun X K as P nx hX hE hin0 hS => ?_)
  · obtain ⟨iv, h, a, ld, n, sh, r, rfl, -⟩ := h
    exact Nat.le_of_ble_eq_true rfl
  obtain ⟨iv, h, a, ld, n, sh, r, rfl, hM, p1, hK⟩ := hS
  show z_W X 0 [some (.ref 70), some (.int r)] [] P nx 0 0
  have hO : z_out zDm P P := z_out.rf
  have pw := p1
  obtain ⟨w1, w2, w3, w4, w5⟩ := p1
  have hk4 := mKn_lt (h := h) (a := a) w2
  have hw4 := mW_lt (h := h) (a := a) (sh := sh) (ld := ld) w2
  unfold mHow at hK
  refine z_aload_n hX d8_how_0 rfl ?_
  refine z_iload_n hX d8_how_1 rfl ?_
  refine z_callV1 hX (sp8_isRoad l) lm_8_112 (hM _ _ rfl) ⟨by decide, by decide, by decide, by decide⟩ (Nat.le_of_ble_eq_true rfl) d8_how_2 ?_
  refine ⟨iv, h, a, ld, n, r, rfl, hM, w1, w2, ?_⟩
  dsimp only [Option.toList, List.cons_append, List.nil_append]
  refine z_ifb_ne hX 10 d8_how_5 (by decide) (fun h5 => ?_) (fun h5 => ?_)
  · skip
    rw [decide_eq_true_eq] at h5
    rw [if_pos h5] at hK
    obtain ⟨j, hj, rfl⟩ := nI_rng h5.1 h5.2
    rw [tN (n := 12) (by omega) (by decide)] at hK
    refine z_aload_n hX d8_how_10 rfl ?_
    refine z_callV0 hX (sp8_knownRoads l) lm_8_153 (hM _ _ rfl) ⟨by decide, by decide, by decide, by decide⟩ (Nat.le_of_ble_eq_true rfl) d8_how_11 ?_
    refine ⟨iv, h, a, ld, n, rfl, hM, w1, w2, ?_⟩
    dsimp only [Option.toList, List.cons_append, List.nil_append]
    refine z_iload_n hX d8_how_14 rfl ?_
    refine z_callS2 hX (sp8_has l) lm_8_141 ⟨by decide, by decide, by decide, by decide⟩ (Nat.le_of_ble_eq_true rfl) d8_how_15 ?_
    refine ⟨_, j, rfl, by omega, by omega, ?_⟩
    dsimp only [Option.toList, List.cons_append, List.nil_append]
    refine z_ifb_eq hX 25 d8_how_18 (by decide) (fun h18 => ?_) (fun h18 => ?_)
    · skip
      rw [if_neg (by rw [h18]; decide)] at hK
      refine z_aload_n hX d8_how_25 rfl ?_
      refine z_callV0 hX (sp8_works l) lm_8_160 (hM _ _ rfl) ⟨by decide, by decide, by decide, by decide⟩ (Nat.le_of_ble_eq_true rfl) d8_how_26 ?_
      refine ⟨iv, h, a, ld, n, sh, rfl, hM, pw, fun P' g1 g2 => ?_⟩
      dsimp only [Option.toList, List.cons_append, List.nil_append]
      refine z_iload_n hX d8_how_29 rfl ?_
      refine z_callS2 hX (sp8_has l) lm_8_141 ⟨by decide, by decide, by decide, by decide⟩ (Nat.le_of_ble_eq_true rfl) d8_how_30 ?_
      refine ⟨_, j, rfl, by omega, by omega, ?_⟩
      dsimp only [Option.toList, List.cons_append, List.nil_append]
      refine z_ifb_eq hX 40 d8_how_33 (by decide) (fun h33 => ?_) (fun h33 => ?_)
      · skip
        rw [if_neg (by rw [h33]; decide)] at hK
        refine z_iconst hX (2) d8_how_40 (by decide) ?_
        refine z_iret hX hE (by decide) (by decide) d8_how_41 ?_
        first | exact hK _ P' g1 g2 | exact hK ld P hM hO
      · skip
        rw [if_pos h33] at hK
        refine z_iconst hX (1) d8_how_36 (by decide) ?_
        refine z_goto hX 41 d8_how_37 (by decide) ?_
        refine z_iret hX hE (by decide) (by decide) d8_how_41 ?_
        first | exact hK _ P' g1 g2 | exact hK ld P hM hO
    · skip
      rw [if_pos h18] at hK
      refine z_iconst hX (0) d8_how_21 (by decide) ?_
      refine z_goto hX 41 d8_how_22 (by decide) ?_
      refine z_iret hX hE (by decide) (by decide) d8_how_41 ?_
      first | exact hK _ P' g1 g2 | exact hK ld P hM hO
  · skip
    rw [decide_eq_false_iff_not] at h5
    rw [if_neg h5] at hK
    refine z_iconst hX (-1) d8_how_8 (by decide) ?_
    refine z_iret hX hE (by decide) (by decide) d8_how_9 ?_
    exact hK ld P hM hO
def mLoad (h : Nat → Bool) (a : Nat → Nat → Int32) (n : Nat) (sh : Nat → Nat) (ld : Nat → Int64) (r : Int32) : Int64 := if 0 ≤ r.toInt ∧ r.toInt < n then (if (mW h a n sh ld).1.testBit r.toInt.toNat then (mW h a n sh ld).2 r.toInt.toNat else 0) else 0
def S8_load : z_PT := fun as P nx K => ∃ (iv : Nat → Int32) (h : Nat → Bool) (a : Nat → Nat → Int32) (ld : Nat → Int64) (n : Nat) (sh : Nat → Nat) (r : Int32), as = [.ref 70, .int r] ∧ z_in (zM iv h a ld) P ∧ (mWf iv h a n sh) ∧ (∀ (ld2 : Nat → Int64) (P' : z_H), z_in (zM iv h a ld2) P' → z_out zDm P P' → K (some (.long (mLoad h a n sh ld r))) P' nx)
set_option maxRecDepth 4000 in
theorem sp8_load (l : Launch) : z_Sp l M8_load rM8_load S8_load := by
  refine z_enter (by decide) (fun as P nx K h => ?_) (fun X K as P nx hX hE hin0 hS => ?_)
  · obtain ⟨iv, h, a, ld, n, sh, r, rfl, -⟩ := h
    exact Nat.le_of_ble_eq_true rfl
  obtain ⟨iv, h, a, ld, n, sh, r, rfl, hM, p1, hK⟩ := hS
  show z_W X 0 [some (.ref 70), some (.int r)] [] P nx 0 0
  have hO : z_out zDm P P := z_out.rf
  have pw := p1
  obtain ⟨w1, w2, w3, w4, w5⟩ := p1
  have hw4 := mW_lt (h := h) (a := a) (sh := sh) (ld := ld) w2
  unfold mLoad at hK
  refine z_aload_n hX d8_load_0 rfl ?_
  refine z_iload_n hX d8_load_1 rfl ?_
  refine z_callV1 hX (sp8_isRoad l) lm_8_112 (hM _ _ rfl) ⟨by decide, by decide, by decide, by decide⟩ (Nat.le_of_ble_eq_true rfl) d8_load_2 ?_
  refine ⟨iv, h, a, ld, n, r, rfl, hM, w1, w2, ?_⟩
  dsimp only [Option.toList, List.cons_append, List.nil_append]
  refine z_ifb_eq hX 28 d8_load_5 (by decide) (fun h5 => ?_) (fun h5 => ?_)
  · skip
    rw [decide_eq_false_iff_not] at h5
    rw [if_neg h5] at hK
    refine z_lconst hX 0 d8_load_28 (by decide) ?_
    refine z_lret hX hE (by decide) (by decide) d8_load_29 ?_
    first | exact hK _ P' g1 g2 | exact hK ld P hM hO
  · skip
    rw [decide_eq_true_eq] at h5
    rw [if_pos h5] at hK
    obtain ⟨j, hj, rfl⟩ := nI_rng h5.1 h5.2
    rw [tN (n := 12) (by omega) (by decide)] at hK
    refine z_aload_n hX d8_load_8 rfl ?_
    refine z_callV0 hX (sp8_works l) lm_8_160 (hM _ _ rfl) ⟨by decide, by decide, by decide, by decide⟩ (Nat.le_of_ble_eq_true rfl) d8_load_9 ?_
    refine ⟨iv, h, a, ld, n, sh, rfl, hM, pw, fun P' g1 g2 => ?_⟩
    dsimp only [Option.toList, List.cons_append, List.nil_append]
    refine z_iload_n hX d8_load_12 rfl ?_
    refine z_callS2 hX (sp8_has l) lm_8_141 ⟨by decide, by decide, by decide, by decide⟩ (Nat.le_of_ble_eq_true rfl) d8_load_13 ?_
    refine ⟨_, j, rfl, by omega, by omega, ?_⟩
    dsimp only [Option.toList, List.cons_append, List.nil_append]
    refine z_ifb_eq hX 28 d8_load_16 (by decide) (fun h16 => ?_) (fun h16 => ?_)
    · skip
      rw [if_neg (by rw [h16]; decide)] at hK
      refine z_lconst hX 0 d8_load_28 (by decide) ?_
      refine z_lret hX hE (by decide) (by decide) d8_load_29 ?_
      first | exact hK _ P' g1 g2 | exact hK ld P hM hO
    · skip
      rw [if_pos h16] at hK
      refine z_aload_n hX d8_load_19 rfl ?_
      refine z_get hX lf_8_63 (g1 _ _ rfl) rfl d8_load_20 ?_
      refine z_iload_n hX d8_load_23 rfl ?_
      refine z_lald hX (g1 _ _ rfl) (vp_in_nI (by omega) (by decide)) d8_load_24 ?_
      rw [nI_clamp (show j < 2 ^ 31 by omega)]
      refine z_goto hX 29 d8_load_25 (by decide) ?_
      refine z_lret hX hE (by decide) (by decide) d8_load_29 ?_
      first | exact hK _ P' g1 g2 | exact hK ld P hM hO
def mBd (a : Nat → Nat → Int32) (n : Nat) (j : Int32) (all : Nat) : Bool := decide (0 ≤ j.toInt ∧ j.toInt ≤ 7) && decide (zsd (mAt a n j) all = 0)
def S8_isBalanced : z_PT := fun as P nx K => ∃ (iv : Nat → Int32) (h : Nat → Bool) (a : Nat → Nat → Int32) (ld : Nat → Int64) (n : Nat) (j : Int32) (all : Nat), as = [.ref 70, .int j, .int (nI all)] ∧ z_in (zM iv h a ld) P ∧ (iv 2 = nI n) ∧ (n ≤ 12) ∧ K (some (.int (zb (mBd a n j all)))) P nx
set_option maxRecDepth 4000 in
theorem sp8_isBalanced (l : Launch) : z_Sp l M8_isBalanced rM8_isBalanced S8_isBalanced := by
  refine z_enter (by decide) (fun as P nx K h => ?_) (fun X K as P nx hX hE hin0 hS => ?_)
  · obtain ⟨iv, h, a, ld, n, j, all, rfl, -⟩ := h
    exact Nat.le_of_ble_eq_true rfl
  obtain ⟨iv, h, a, ld, n, j, all, rfl, hM, p1, p2, hK⟩ := hS
  show z_W X 0 [some (.ref 70), some (.int j), some (.int (nI all))] [] P nx 0 0
  refine z_iload_n hX d8_isBalanced_0 rfl ?_
  refine z_i2l hX d8_isBalanced_1 ?_
  refine z_lconst hX 0 d8_isBalanced_2 (by decide) ?_
  refine z_ldc2 hX (7) d8_isBalanced_3 lk_8_105 ?_
  refine z_callS3 hX (sp8_lies l) lm_8_74 ⟨by decide, by decide, by decide, by decide⟩ (Nat.le_of_ble_eq_true rfl) d8_isBalanced_6 ?_
  refine ⟨_, _, _, rfl, ?_⟩
  rw [i2l_t, show (0 : Int64).toInt = 0 from rfl, show (7 : Int64).toInt = 7 from rfl]
  dsimp only [Option.toList, List.cons_append, List.nil_append]
  refine z_ifb_eq hX 28 d8_isBalanced_9 (by decide) (fun h9 => ?_) (fun h9 => ?_)
  · skip
    have e : mBd a n j all = false := by unfold mBd; rw [h9]; rfl
    rw [e] at hK
    refine z_iconst hX (0) d8_isBalanced_28 (by decide) ?_
    refine z_zret hX hE (by decide) (by decide) (by decide) d8_isBalanced_29 ?_
    exact hK
  · skip
    refine z_aload_n hX d8_isBalanced_12 rfl ?_
    refine z_iload_n hX d8_isBalanced_13 rfl ?_
    refine z_callV1 hX (sp8_roadsAt l) lm_8_144 (hM _ _ rfl) ⟨by decide, by decide, by decide, by decide⟩ (Nat.le_of_ble_eq_true rfl) d8_isBalanced_14 ?_
    refine ⟨iv, h, a, ld, n, j, rfl, hM, p1, p2, ?_⟩
    dsimp only [Option.toList, List.cons_append, List.nil_append]
    refine z_iload_n hX d8_isBalanced_17 rfl ?_
    refine z_iconst hX (-1) d8_isBalanced_18 (by decide) ?_
    refine z_ixor hX d8_isBalanced_19 ?_
    refine z_iand hX d8_isBalanced_20 ?_
    rw [fa_sd]
    have h4 : zsd (mAt a n j) all < 4096 := zsd_lt (mAt_lt p2 _)
    refine z_if_ne hX 28 d8_isBalanced_21 (by decide) (fun h21 => ?_) (fun h21 => ?_)
    · skip
      have e : mBd a n j all = false := by unfold mBd; rw [h9, decide_eq_false (fun z => h21 (by rw [z]; rfl))]; rfl
      rw [e] at hK
      refine z_iconst hX (0) d8_isBalanced_28 (by decide) ?_
      refine z_zret hX hE (by decide) (by decide) (by decide) d8_isBalanced_29 ?_
      exact hK
    · skip
      have e : mBd a n j all = true := by unfold mBd; rw [h9, decide_eq_true ((nI_eq (b := 0) (by omega) (by decide)).mp h21)]; rfl
      rw [e] at hK
      refine z_iconst hX (1) d8_isBalanced_24 (by decide) ?_
      refine z_goto hX 29 d8_isBalanced_25 (by decide) ?_
      refine z_zret hX hE (by decide) (by decide) (by decide) d8_isBalanced_29 ?_
      exact hK
def mBals (h : Nat → Bool) (a : Nat → Nat → Int32) (n : Nat) (sh : Nat → Nat) (ld : Nat → Int64) (j : Int32) : Int32 := if 0 ≤ j.toInt ∧ j.toInt ≤ 7 then zb (mBd a n j (mW h a n sh ld).1) else -1
def S8_balances : z_PT := fun as P nx K => ∃ (iv : Nat → Int32) (h : Nat → Bool) (a : Nat → Nat → Int32) (ld : Nat → Int64) (n : Nat) (sh : Nat → Nat) (j : Int32), as = [.ref 70, .int j] ∧ z_in (zM iv h a ld) P ∧ (mWf iv h a n sh) ∧ (∀ (ld2 : Nat → Int64) (P' : z_H), z_in (zM iv h a ld2) P' → z_out zDm P P' → K (some (.int (mBals h a n sh ld j))) P' nx)
set_option maxRecDepth 4000 in
theorem sp8_balances (l : Launch) : z_Sp l M8_balances rM8_balances S8_balances := by
  refine z_enter (by decide) (fun as P nx K h => ?_) (fun X K as P nx hX hE hin0 hS => ?_)
  · obtain ⟨iv, h, a, ld, n, sh, j, rfl, -⟩ := h
    exact Nat.le_of_ble_eq_true rfl
  obtain ⟨iv, h, a, ld, n, sh, j, rfl, hM, p1, hK⟩ := hS
  show z_W X 0 [some (.ref 70), some (.int j)] [] P nx 0 0
  have hO : z_out zDm P P := z_out.rf
  have pw := p1
  obtain ⟨w1, w2, w3, w4, w5⟩ := p1
  have hw4 := mW_lt (h := h) (a := a) (sh := sh) (ld := ld) w2
  unfold mBals at hK
  refine z_iload_n hX d8_balances_0 rfl ?_
  refine z_i2l hX d8_balances_1 ?_
  refine z_lconst hX 0 d8_balances_2 (by decide) ?_
  refine z_ldc2 hX (7) d8_balances_3 lk_8_105 ?_
  refine z_callS3 hX (sp8_lies l) lm_8_74 ⟨by decide, by decide, by decide, by decide⟩ (Nat.le_of_ble_eq_true rfl) d8_balances_6 ?_
  refine ⟨_, _, _, rfl, ?_⟩
  rw [i2l_t, show (0 : Int64).toInt = 0 from rfl, show (7 : Int64).toInt = 7 from rfl]
  dsimp only [Option.toList, List.cons_append, List.nil_append]
  refine z_ifb_ne hX 16 d8_balances_9 (by decide) (fun h9 => ?_) (fun h9 => ?_)
  · skip
    rw [decide_eq_true_eq] at h9
    rw [if_pos h9] at hK
    refine z_aload_n hX d8_balances_16 rfl ?_
    refine z_iload_n hX d8_balances_17 rfl ?_
    refine z_aload_n hX d8_balances_18 rfl ?_
    refine z_callV0 hX (sp8_works l) lm_8_160 (hM _ _ rfl) ⟨by decide, by decide, by decide, by decide⟩ (Nat.le_of_ble_eq_true rfl) d8_balances_19 ?_
    refine ⟨iv, h, a, ld, n, sh, rfl, hM, pw, fun P' g1 g2 => ?_⟩
    dsimp only [Option.toList, List.cons_append, List.nil_append]
    refine z_callV2 hX (sp8_isBalanced l) lm_8_163 (g1 _ _ rfl) ⟨by decide, by decide, by decide, by decide⟩ (Nat.le_of_ble_eq_true rfl) d8_balances_22 ?_
    refine ⟨iv, h, a, _, n, j, _, rfl, g1, w1, w2, ?_⟩
    dsimp only [Option.toList, List.cons_append, List.nil_append]
    refine z_ifb_eq hX 32 d8_balances_25 (by decide) (fun h25 => ?_) (fun h25 => ?_)
    · skip
      rw [h25] at hK
      refine z_iconst hX (0) d8_balances_32 (by decide) ?_
      refine z_iret hX hE (by decide) (by decide) d8_balances_33 ?_
      first | exact hK _ P' g1 g2 | exact hK ld P hM hO
    · skip
      rw [h25] at hK
      refine z_iconst hX (1) d8_balances_28 (by decide) ?_
      refine z_goto hX 33 d8_balances_29 (by decide) ?_
      refine z_iret hX hE (by decide) (by decide) d8_balances_33 ?_
      first | exact hK _ P' g1 g2 | exact hK ld P hM hO
  · skip
    rw [decide_eq_false_iff_not] at h9
    rw [if_neg h9] at hK
    refine z_iconst hX (-1) d8_balances_12 (by decide) ?_
    refine z_goto hX 33 d8_balances_13 (by decide) ?_
    refine z_iret hX hE (by decide) (by decide) d8_balances_33 ?_
    first | exact hK _ P' g1 g2 | exact hK ld P hM hO
def mBal (h : Nat → Bool) (a : Nat → Nat → Int32) (n : Nat) (sh : Nat → Nat) (ld : Nat → Int64) (j : Int32) : Int64 := if mBd a n j (mW h a n sh ld).1 then mEx a (mW h a n sh ld).2 j (mW h a n sh ld).1 n else 0
def S8_balance : z_PT := fun as P nx K => ∃ (iv : Nat → Int32) (h : Nat → Bool) (a : Nat → Nat → Int32) (ld : Nat → Int64) (n : Nat) (sh : Nat → Nat) (j : Int32), as = [.ref 70, .int j] ∧ z_in (zM iv h a ld) P ∧ (mWf iv h a n sh) ∧ (∀ (ld2 : Nat → Int64) (P' : z_H), z_in (zM iv h a ld2) P' → z_out zDm P P' → K (some (.long (mBal h a n sh ld j))) P' nx)
set_option maxRecDepth 4000 in
theorem sp8_balance (l : Launch) : z_Sp l M8_balance rM8_balance S8_balance := by
  refine z_enter (by decide) (fun as P nx K h => ?_) (fun X K as P nx hX hE hin0 hS => ?_)
  · obtain ⟨iv, h, a, ld, n, sh, j, rfl, -⟩ := h
    exact Nat.le_of_ble_eq_true rfl
  obtain ⟨iv, h, a, ld, n, sh, j, rfl, hM, p1, hK⟩ := hS
  refine z_pad 1 ?_
  show z_W X 0 [some (.ref 70), some (.int j), none] [] P nx 0 0
  have hO : z_out zDm P P := z_out.rf
  have pw := p1
  obtain ⟨w1, w2, w3, w4, w5⟩ := p1
  have hw4 := mW_lt (h := h) (a := a) (sh := sh) (ld := ld) w2
  unfold mBal at hK
  refine z_aload_n hX d8_balance_0 rfl ?_
  refine z_callV0 hX (sp8_works l) lm_8_160 (hM _ _ rfl) ⟨by decide, by decide, by decide, by decide⟩ (Nat.le_of_ble_eq_true rfl) d8_balance_1 ?_
  refine ⟨iv, h, a, ld, n, sh, rfl, hM, pw, fun P' g1 g2 => ?_⟩
  dsimp only [Option.toList, List.cons_append, List.nil_append]
  refine z_istore_n hX 2 rfl (by decide) d8_balance_4 ?_
  dsimp only [z_p1, z_p2, z_k, List.headD, List.tail]
  refine z_aload_n hX d8_balance_5 rfl ?_
  refine z_iload_n hX d8_balance_6 rfl ?_
  refine z_iload_n hX d8_balance_7 rfl ?_
  refine z_callV2 hX (sp8_isBalanced l) lm_8_163 (g1 _ _ rfl) ⟨by decide, by decide, by decide, by decide⟩ (Nat.le_of_ble_eq_true rfl) d8_balance_8 ?_
  refine ⟨iv, h, a, _, n, j, _, rfl, g1, w1, w2, ?_⟩
  dsimp only [Option.toList, List.cons_append, List.nil_append]
  refine z_ifb_eq hX 23 d8_balance_11 (by decide) (fun h11 => ?_) (fun h11 => ?_)
  · skip
    rw [if_neg (by rw [h11]; decide)] at hK
    refine z_lconst hX 0 d8_balance_23 (by decide) ?_
    refine z_lret hX hE (by decide) (by decide) d8_balance_24 ?_
    exact hK _ P' g1 g2
  · skip
    rw [if_pos h11] at hK
    refine z_aload_n hX d8_balance_14 rfl ?_
    refine z_iload_n hX d8_balance_15 rfl ?_
    refine z_iload_n hX d8_balance_16 rfl ?_
    refine z_callV2 hX (sp8_excess l) lm_8_150 (g1 _ _ rfl) ⟨by decide, by decide, by decide, by decide⟩ (Nat.le_of_ble_eq_true rfl) d8_balance_17 ?_
    refine ⟨iv, h, a, _, n, j, _, rfl, g1, w1, w2, hw4, ?_⟩
    dsimp only [Option.toList, List.cons_append, List.nil_append]
    refine z_goto hX 24 d8_balance_20 (by decide) ?_
    refine z_lret hX hE (by decide) (by decide) d8_balance_24 ?_
    exact hK _ P' g1 g2
