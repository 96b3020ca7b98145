/-! the model's sets that do, and its plan -/
theorem mA_89 {a : Nat → Nat → Int32} {f : Nat → Int32} {n : Nat} : mA (va_up a 89 f) n = mA a n := rfl
theorem zpop_or0 {A : Nat → Nat} {j all : Nat} (hA : A j < 4096) (h : zpop (zsd (A j) all) ≤ 1) : all ||| zsd (A j) all = aS A j all := by
  unfold aS
  split
  · rfl
  · have : zsd (A j) all = 0 := (zpop_z _ (zsd_lt hA)).mp (by omega)
    rw [this, Nat.or_zero]
theorem aS_no {A : Nat → Nat} {j all : Nat} (h : ¬ zpop (zsd (A j) all) ≤ 1) : aS A j all = all := by
  unfold aS
  rw [if_neg (by omega)]
theorem pw_le {n : Nat} (h : n ≤ 12) : 2 ^ n ≤ 4096 := show 2 ^ n ≤ 2 ^ 12 from Nat.pow_le_pow_right (by decide) h
theorem pw_s {n : Nat} (h : n ≤ 12) : (1 : Int32) <<< (nI n &&& 31) - 1 = nI (2 ^ n - 1) := by
  rw [sh1 (by omega)]
  have := Nat.two_pow_pos n
  rw [show nI (2 ^ n) - 1 = nI ((2 ^ n - 1) + 1) - 1 from by rw [show 2 ^ n - 1 + 1 = 2 ^ n by omega], nI_pred]
/-- do meters on a set do? -/
def pOk (A : Nat → Nat) (n set : Nat) : Bool := decide (aL A 13 set = 2 ^ n - 1)
def S8_doAll : z_PT := fun as P nx K => ∃ (iv : Nat → Int32) (h : Nat → Bool) (a : Nat → Nat → Int32) (ld : Nat → Int64) (n set : Nat), as = [.ref 70, .int (nI set)] ∧ z_in (zM iv h a ld) P ∧ (iv 2 = nI n) ∧ (n ≤ 12) ∧ (set < 4096) ∧ (∀ j, j < 8 → a 89 j = nI (mA a n j)) ∧ K (some (.int (zb (pOk (mA a n) n set)))) P nx
set_option maxRecDepth 4000 in
theorem sp8_doAll (l : Launch) : z_Sp l M8_doAll rM8_doAll S8_doAll := by
  refine z_enter (by decide) (fun as P nx K h => ?_) (fun X K as P nx hX hE hin0 hS => ?_)
  · obtain ⟨iv, h, a, ld, n, set, rfl, -⟩ := h
    exact Nat.le_of_ble_eq_true rfl
  obtain ⟨iv, h, a, ld, n, set, rfl, hM, p1, p2, p3, p4, hK⟩ := hS
  refine z_pad 4 ?_
  show z_W X 0 [some (.ref 70), some (.int (nI set)), none, none, none, none] [] P nx 0 0
  have hA : ∀ j, mA a n j < 4096 := fun _ => mAt_lt p2 _
  have hpw := pw_le p2
  have inner : ∀ (hd : Int32) (k j all : Nat), j + k = 8 → all < 4096 → z_W X 4 [some (.ref 70), some (.int (nI set)), some (.int (nI (aF (mA a n) k j all))), some (.int hd), none, none] [] P nx 0 0 → z_W X 14 [some (.ref 70), some (.int (nI set)), some (.int (nI all)), some (.int hd), some (.int (nI j)), none] [] P nx 0 0 := by
    intro hd k
    induction k with
    | zero =>
      intro j all hj hq cont
      have hj : j = 8 := by omega
      subst hj
      have cont : z_W X 4 [some (.ref 70), some (.int (nI set)), some (.int (nI all)), some (.int hd), some (.int (nI 8)), none] [] P nx 0 0 := z_sub cont (by repeat' (first | exact trivial | refine ⟨rfl, ?_⟩))
      refine z_iload hX d8_doAll_14 rfl ?_
      refine z_bipush hX (8) d8_doAll_16 (by decide) ?_
      refine z_icmp_ge hX 55 d8_doAll_18 (by decide) (fun h18 => ?_) (fun h18 => ?_)
      rotate_left
      · exact absurd (by decide) h18
      refine z_goto hX 4 d8_doAll_55 (by decide) ?_
      exact cont
    | succ k ih =>
      intro j all hj hq cont
      have cont : z_W X 4 [some (.ref 70), some (.int (nI set)), some (.int (nI (aF (mA a n) k (j + 1) (aS (mA a n) j all)))), some (.int hd), none, none] [] P nx 0 0 := cont
      have nxt := ih (j + 1) (aS (mA a n) j all) (by omega) (aS_lt hA hq) cont
      have ho4 : zsd (mA a n j) all < 4096 := zsd_lt (hA j)
      refine z_iload hX d8_doAll_14 rfl ?_
      refine z_bipush hX (8) d8_doAll_16 (by decide) ?_
      refine z_icmp_ge hX 55 d8_doAll_18 (by decide) (fun h18 => ?_) (fun h18 => ?_)
      · exact absurd h18 (nI_ge (b := 8) (by omega) (by decide))
      refine z_aload_n hX d8_doAll_21 rfl ?_
      refine z_get hX lf_8_67 (hM _ _ rfl) rfl d8_doAll_22 ?_
      refine z_iload hX d8_doAll_25 rfl ?_
      refine z_iald hX (hM _ _ rfl) (vp_in_nI (by omega) (by decide)) d8_doAll_27 ?_
      rw [nI_clamp (show j < 2 ^ 31 by omega), p4 j (by omega)]
      refine z_iload_n hX d8_doAll_28 rfl ?_
      refine z_iconst hX (-1) d8_doAll_29 (by decide) ?_
      refine z_ixor hX d8_doAll_30 ?_
      refine z_iand hX d8_doAll_31 ?_
      rw [fa_sd]
      refine z_istore hX (by decide) d8_doAll_32 ?_
      dsimp only [z_p1, z_p2, z_k, List.headD, List.tail]
      refine z_iload hX d8_doAll_34 rfl ?_
      refine z_iload hX d8_doAll_36 rfl ?_
      refine z_iconst hX (1) d8_doAll_38 (by decide) ?_
      refine z_isub hX d8_doAll_39 ?_
      refine z_iand hX d8_doAll_40 ?_
      rw [show nI (zsd (mA a n j) all) &&& (nI (zsd (mA a n j) all) - 1) = nI (zsd (mA a n j) all &&& (zsd (mA a n j) all - 1)) from by
        by_cases z : zsd (mA a n j) all = 0
        · rw [z]; rfl
        · rw [show nI (zsd (mA a n j) all) - 1 = nI (zsd (mA a n j) all - 1) from by rw [show zsd (mA a n j) all = (zsd (mA a n j) all - 1) + 1 by omega, nI_pred]; rfl, fa_and]]
      have hz := zpop_1 _ ho4
      have hle : zsd (mA a n j) all &&& (zsd (mA a n j) all - 1) ≤ zsd (mA a n j) all := Nat.and_le_left
      refine z_if_ne hX 49 d8_doAll_41 (by decide) (fun h41 => ?_) (fun h41 => ?_)
      · skip
        rw [aS_no (fun q => h41 (by rw [hz.mpr q]; rfl))] at nxt
        refine z_iinc hX (1) (by decide) rfl (by decide) d8_doAll_49 ?_
        dsimp only [z_p1, z_p2, z_k, List.headD, List.tail]
        refine z_goto hX 14 d8_doAll_52 (by decide) ?_
        rw [nI_1]
        exact z_sub nxt (by repeat' (first | exact trivial | refine ⟨rfl, ?_⟩))
      · skip
        rw [← zpop_or0 (hA j) (hz.mp ((nI_eq (b := 0) (by omega) (by decide)).mp h41)), ← fa_or] at nxt
        refine z_iload_n hX d8_doAll_44 rfl ?_
        refine z_iload hX d8_doAll_45 rfl ?_
        refine z_ior hX d8_doAll_47 ?_
        refine z_istore_n hX 2 rfl (by decide) d8_doAll_48 ?_
        dsimp only [z_p1, z_p2, z_k, List.headD, List.tail]
        refine z_iinc hX (1) (by decide) rfl (by decide) d8_doAll_49 ?_
        dsimp only [z_p1, z_p2, z_k, List.headD, List.tail]
        refine z_goto hX 14 d8_doAll_52 (by decide) ?_
        rw [nI_1]
        exact z_sub nxt (by repeat' (first | exact trivial | refine ⟨rfl, ?_⟩))
  have outer : ∀ (f all : Nat) (hd : Int32), 12 < f + zpop all → all < 4096 → ¬ hd = nI all → aL (mA a n) f all = aL (mA a n) 13 set → z_W X 4 [some (.ref 70), some (.int (nI set)), some (.int (nI all)), some (.int hd), none, none] [] P nx 0 0 := by
    intro f
    induction f with
    | zero =>
      intro all hd h1 hq
      have := zpop_le all
      omega
    | succ f ih =>
      intro all hd h1 hq hne cont
      have cont : (if aF (mA a n) 8 0 all = all then aF (mA a n) 8 0 all else aL (mA a n) f (aF (mA a n) 8 0 all)) = aL (mA a n) 13 set := cont
      have l1 : aF (mA a n) 8 0 all < 4096 := aF_lt hA 8 0 hq
      refine z_iload_n hX d8_doAll_4 rfl ?_
      refine z_iload_n hX d8_doAll_5 rfl ?_
      refine z_icmp_eq hX 58 d8_doAll_6 (by decide) (fun h6 => ?_) (fun h6 => ?_)
      · exact absurd h6 hne
      refine z_iload_n hX d8_doAll_9 rfl ?_
      refine z_istore_n hX 3 rfl (by decide) d8_doAll_10 ?_
      dsimp only [z_p1, z_p2, z_k, List.headD, List.tail]
      refine z_iconst hX (0) d8_doAll_11 (by decide) ?_
      refine z_istore hX (by decide) d8_doAll_12 ?_
      dsimp only [z_p1, z_p2, z_k, List.headD, List.tail]
      refine inner (nI all) 8 0 all rfl hq ?_
      by_cases e : aF (mA a n) 8 0 all = all
      · rw [if_pos e] at cont
        refine z_iload_n hX d8_doAll_4 rfl ?_
        refine z_iload_n hX d8_doAll_5 rfl ?_
        refine z_icmp_eq hX 58 d8_doAll_6 (by decide) (fun h6 => ?_) (fun h6 => ?_)
        rotate_left
        · exact absurd (by rw [e]) h6
        refine z_iload_n hX d8_doAll_58 rfl ?_
        refine z_iconst hX (1) d8_doAll_59 (by decide) ?_
        refine z_aload_n hX d8_doAll_60 rfl ?_
        refine z_get hX lf_8_70 (hM _ _ rfl) rfl d8_doAll_61 ?_
        refine z_ishl hX d8_doAll_64 ?_
        refine z_iconst hX (1) d8_doAll_65 (by decide) ?_
        refine z_isub hX d8_doAll_66 ?_
        rw [p1, pw_s p2]
        refine z_icmp_ne hX 74 d8_doAll_67 (by decide) (fun h67 => ?_) (fun h67 => ?_)
        · skip
          rw [show pOk (mA a n) n set = false from decide_eq_false (fun z => h67 (by rw [cont, z]))] at hK
          refine z_iconst hX (0) d8_doAll_74 (by decide) ?_
          refine z_zret hX hE (by decide) (by decide) (by decide) d8_doAll_75 ?_
          exact hK
        · skip
          rw [show pOk (mA a n) n set = true from decide_eq_true (by rw [← cont]; exact (nI_eq (by omega) (by omega)).mp h67)] at hK
          refine z_iconst hX (1) d8_doAll_70 (by decide) ?_
          refine z_goto hX 75 d8_doAll_71 (by decide) ?_
          refine z_zret hX hE (by decide) (by decide) (by decide) d8_doAll_75 ?_
          exact hK
      · rw [if_neg e] at cont
        have l2 : zpop all < zpop (aF (mA a n) 8 0 all) := zpop_lt l1 (aF_sub _ 8 0 all) e
        exact ih _ (nI all) (by omega) l1 (fun z => e ((nI_eq (by omega) (by omega)).mp z).symm) cont
  refine z_iload_n hX d8_doAll_0 rfl ?_
  refine z_istore_n hX 2 rfl (by decide) d8_doAll_1 ?_
  dsimp only [z_p1, z_p2, z_k, List.headD, List.tail]
  refine z_iconst hX (-1) d8_doAll_2 (by decide) ?_
  refine z_istore_n hX 3 rfl (by decide) d8_doAll_3 ?_
  dsimp only [z_p1, z_p2, z_k, List.headD, List.tail]
  exact outer 13 set (-1) (by omega) p3 (fun z => by rw [i_eq, nI_toInt (show set < 2 ^ 31 by omega), show (-1 : Int32).toInt = -1 from rfl] at z; omega) rfl
def S8_lists : z_PT := fun as P nx K => ∃ (iv : Nat → Int32) (h : Nat → Bool) (a : Nat → Nat → Int32) (ld : Nat → Int64) (n : Nat), as = [.ref 70] ∧ z_in (zM iv h a ld) P ∧ iv 2 = nI n ∧ n ≤ 12 ∧ ∀ (f : Nat → Int32) (P' : z_H), (∀ j, j < 8 → f j = nI (mA a n j)) → z_in (zM iv h (va_up a 89 f) ld) P' → z_out zDm P P' → K none P' nx
theorem va_upup {a : Nat → Nat → Int32} {f g : Nat → Int32} {k : Nat} : va_up (va_up a k f) k g = va_up a k g := by
  funext j
  by_cases e : j = k
  · simp [va_up, e]
  · simp [va_up, e]
theorem sp8_lists (l : Launch) : z_Sp l M8_lists rM8_lists S8_lists := by
  refine z_enter (by decide) (fun as P nx K h => ?_) (fun X K as P nx hX hE hin0 hS => ?_)
  · obtain ⟨iv, h, a, ld, n, rfl, -⟩ := h
    exact Nat.le_of_ble_eq_true rfl
  obtain ⟨iv, h, a, ld, n, rfl, hM, p1, p2, hK⟩ := hS
  refine z_pad 1 ?_
  show z_W X 0 [some (.ref 70), none] [] P nx 0 0
  obtain ⟨P0, hP0⟩ : ∃ P0, P0 = P := ⟨_, rfl⟩
  rw [← hP0] at hK
  have hO : z_out zDm P0 P := by rw [hP0]; exact z_out.rf
  have loop : ∀ (k i : Nat) (f : Nat → Int32) (P : z_H), i + k = 8 → (∀ j, j < i → f j = nI (mA a n j)) → z_in (zM iv h (va_up a 89 f) ld) P → z_out zDm P0 P → z_W X 2 [some (.ref 70), some (.int (nI i))] [] P nx 0 0 := by
    intro k
    induction k with
    | zero =>
      intro i f P hi hf hM hO
      have hi : i = 8 := by omega
      subst hi
      refine z_iload_n hX d8_lists_2 rfl ?_
      refine z_bipush hX (8) d8_lists_3 (by decide) ?_
      refine z_icmp_ge hX 25 d8_lists_5 (by decide) (fun h5 => ?_) (fun h5 => ?_)
      rotate_left
      · exact absurd (by decide) h5
      refine z_vret hX hE (by decide) (by decide) d8_lists_25 ?_
      exact hK f P hf hM hO
    | succ k ih =>
      intro i f P hi hf hM hO
      refine z_iload_n hX d8_lists_2 rfl ?_
      refine z_bipush hX (8) d8_lists_3 (by decide) ?_
      refine z_icmp_ge hX 25 d8_lists_5 (by decide) (fun h5 => ?_) (fun h5 => ?_)
      · exact absurd h5 (nI_ge (b := 8) (by omega) (by decide))
      refine z_aload_n hX d8_lists_8 rfl ?_
      refine z_get hX lf_8_67 (hM _ _ rfl) rfl d8_lists_9 ?_
      refine z_iload_n hX d8_lists_12 rfl ?_
      refine z_aload_n hX d8_lists_13 rfl ?_
      refine z_iload_n hX d8_lists_14 rfl ?_
      refine z_callV1 hX (sp8_roadsAt l) lm_8_144 (hM _ _ rfl) ⟨by decide, by decide, by decide, by decide⟩ (Nat.le_of_ble_eq_true rfl) d8_lists_15 ?_
      refine ⟨iv, h, _, ld, n, nI i, rfl, hM, p1, p2, ?_⟩
      dsimp only [Option.toList, List.cons_append, List.nil_append]
      refine z_iast hX (hM _ _ rfl) (vp_in_nI (by omega) (by decide)) d8_lists_18 ?_
      rw [nI_clamp (show i < 2 ^ 31 by omega)]
      refine z_gen hM hO rfl (fun P hM hO => ?_)
      have hM := zM_s89 hM
      rw [va_upup] at hM
      refine z_iinc hX (1) (by decide) rfl (by decide) d8_lists_19 ?_
      dsimp only [z_p1, z_p2, z_k, List.headD, List.tail]
      refine z_goto hX 2 d8_lists_22 (by decide) ?_
      rw [nI_1]
      refine ih (i + 1) _ P (by omega) (fun j hj => ?_) hM hO
      by_cases e : j = i
      · subst e
        rw [pk_us]
        rfl
      · rw [pk_un e]
        exact hf j (by omega)
  refine z_iconst hX (0) d8_lists_0 (by decide) ?_
  refine z_istore_n hX 1 rfl (by decide) d8_lists_1 ?_
  dsimp only [z_p1, z_p2, z_k, List.headD, List.tail]
  exact loop 8 0 (a 89) P (by omega) (fun j hj => absurd hj (Nat.not_lt_zero j)) (by rw [show va_up a 89 (a 89) = a from by funext j; by_cases e : j = 89 <;> simp [va_up, e]]; exact hM) hO
def mDoes (a : Nat → Nat → Int32) (n : Nat) (s : Int32) : Int32 := if 0 ≤ s.toInt ∧ s.toInt < (2 ^ n : Nat) then zb (pOk (mA a n) n s.toInt.toNat) else -1
def S8_does : z_PT := fun as P nx K => ∃ (iv : Nat → Int32) (h : Nat → Bool) (a : Nat → Nat → Int32) (ld : Nat → Int64) (n : Nat) (s : Int32), as = [.ref 70, .int s] ∧ z_in (zM iv h a ld) P ∧ (iv 2 = nI n) ∧ (n ≤ 12) ∧ (∀ (f : Nat → Int32) (P' : z_H), z_in (zM iv h (va_up a 89 f) ld) P' → z_out zDm P P' → K (some (.int (mDoes a n s))) P' nx)
set_option maxRecDepth 4000 in
theorem sp8_does (l : Launch) : z_Sp l M8_does rM8_does S8_does := by
  refine z_enter (by decide) (fun as P nx K h => ?_) (fun X K as P nx hX hE hin0 hS => ?_)
  · obtain ⟨iv, h, a, ld, n, s, rfl, -⟩ := h
    exact Nat.le_of_ble_eq_true rfl
  obtain ⟨iv, h, a, ld, n, s, rfl, hM, p1, p2, hK⟩ := hS
  show z_W X 0 [some (.ref 70), some (.int s)] [] P nx 0 0
  have hO : z_out zDm P P := z_out.rf
  have hpw := pw_le p2
  have hp2 := Nat.two_pow_pos n
  unfold mDoes at hK
  refine z_iload_n hX d8_does_0 rfl ?_
  refine z_i2l hX d8_does_1 ?_
  refine z_lconst hX 0 d8_does_2 (by decide) ?_
  refine z_iconst hX (1) d8_does_3 (by decide) ?_
  refine z_aload_n hX d8_does_4 rfl ?_
  refine z_get hX lf_8_70 (hM _ _ rfl) rfl d8_does_5 ?_
  refine z_ishl hX d8_does_8 ?_
  refine z_iconst hX (1) d8_does_9 (by decide) ?_
  refine z_isub hX d8_does_10 ?_
  rw [p1, pw_s p2]
  refine z_i2l hX d8_does_11 ?_
  refine z_callS3 hX (sp8_lies l) lm_8_74 ⟨by decide, by decide, by decide, by decide⟩ (Nat.le_of_ble_eq_true rfl) d8_does_12 ?_
  refine ⟨_, _, _, rfl, ?_⟩
  rw [i2l_t, i2l_t, nI_toInt (by omega), show (0 : Int64).toInt = 0 from rfl]
  dsimp only [Option.toList, List.cons_append, List.nil_append]
  refine z_ifb_ne hX 20 d8_does_15 (by decide) (fun h15 => ?_) (fun h15 => ?_)
  · skip
    rw [decide_eq_true_eq] at h15
    rw [if_pos (by omega)] at hK
    obtain ⟨j, hj, rfl⟩ := nI_rng (n := 2 ^ n) h15.1 (by omega)
    rw [tN (n := 4096) (by omega) (by decide)] at hK
    refine z_aload_n hX d8_does_20 rfl ?_
    refine z_callV0 hX (sp8_lists l) lm_8_166 (hM _ _ rfl) ⟨by decide, by decide, by decide, by decide⟩ (Nat.le_of_ble_eq_true rfl) d8_does_21 ?_
    refine ⟨iv, h, a, ld, n, rfl, hM, p1, p2, fun f P' hf g1 g2 => ?_⟩
    dsimp only [Option.toList, List.cons_append, List.nil_append]
    refine z_aload_n hX d8_does_24 rfl ?_
    refine z_iload_n hX d8_does_25 rfl ?_
    refine z_callV1 hX (sp8_doAll l) lm_8_169 (g1 _ _ rfl) ⟨by decide, by decide, by decide, by decide⟩ (Nat.le_of_ble_eq_true rfl) d8_does_26 ?_
    refine ⟨iv, h, _, ld, n, j, rfl, g1, p1, p2, by omega, hf, ?_⟩
    dsimp only [Option.toList, List.cons_append, List.nil_append]
    refine z_ifb_eq hX 36 d8_does_29 (by decide) (fun h29 => ?_) (fun h29 => ?_)
    · skip
      rw [mA_89] at h29
      rw [h29] at hK
      refine z_iconst hX (0) d8_does_36 (by decide) ?_
      refine z_iret hX hE (by decide) (by decide) d8_does_37 ?_
      exact hK f P' g1 g2
    · skip
      rw [mA_89] at h29
      rw [h29] at hK
      refine z_iconst hX (1) d8_does_32 (by decide) ?_
      refine z_goto hX 37 d8_does_33 (by decide) ?_
      refine z_iret hX hE (by decide) (by decide) d8_does_37 ?_
      exact hK f P' g1 g2
  · skip
    rw [decide_eq_false_iff_not] at h15
    rw [if_neg (by omega)] at hK
    refine z_iconst hX (-1) d8_does_18 (by decide) ?_
    refine z_iret hX hE (by decide) (by decide) d8_does_19 ?_
    exact hK (a 89) P (by rw [show va_up a 89 (a 89) = a from by funext j; by_cases e : j = 89 <;> simp [va_up, e]]; exact hM) hO
def pPr (pr : Nat → Nat) (set : Nat) : Nat → Nat
  | 0 => 0
  | r + 1 => pPr pr set r + (if set.testBit r then pr r else 0)
theorem pPr_le {pr : Nat → Nat} {set : Nat} : ∀ {n : Nat}, (∀ r, r < n → pr r ≤ 9999) → pPr pr set n ≤ 9999 * n
  | 0, _ => Nat.le_refl _
  | n + 1, h => by
    have := pPr_le (set := set) (fun r hr => h r (Nat.lt_succ_of_lt hr))
    have := h n (Nat.lt_succ_self n)
    unfold pPr
    split <;> omega
def pSt (A : Nat → Nat) (n : Nat) (pr : Nat → Nat) (set : Nat) (b : Option (Nat × Nat)) : Option (Nat × Nat) := match b with
  | none => if pOk A n set then some (set, pPr pr set n) else none
  | some q => if q.2 < pPr pr set n ∨ (pPr pr set n = q.2 ∧ zpop q.1 ≤ zpop set) then some q else if pOk A n set then some (set, pPr pr set n) else some q
def pFd (A : Nat → Nat) (n : Nat) (pr : Nat → Nat) : Nat → Option (Nat × Nat)
  | 0 => none
  | s + 1 => pSt A n pr s (pFd A n pr s)
def pB (b : Option (Nat × Nat)) : Int32 := match b with
  | none => -1
  | some q => nI q.1
def pC (b : Option (Nat × Nat)) : Int32 := match b with
  | none => 0
  | some q => nI q.2
theorem pFd_lt {A : Nat → Nat} {n : Nat} {pr : Nat → Nat} (hp : ∀ r, r < n → pr r ≤ 9999) : ∀ s q, pFd A n pr s = some q → q.1 < s ∧ q.2 ≤ 9999 * n
  | 0, q, h => by cases h
  | s + 1, q, h => by
    unfold pFd at h
    have hl := pPr_le (set := s) hp
    cases hb : pFd A n pr s with
    | none =>
      rw [hb] at h
      unfold pSt at h
      dsimp only at h
      split at h
      · cases h; exact ⟨Nat.lt_succ_self s, hl⟩
      · cases h
    | some q' =>
      obtain ⟨h1, h2⟩ := pFd_lt hp s q' hb
      rw [hb] at h
      unfold pSt at h
      dsimp only at h
      split at h
      · cases h; exact ⟨by omega, h2⟩
      · split at h
        · cases h; exact ⟨Nat.lt_succ_self s, hl⟩
        · cases h; exact ⟨by omega, h2⟩
def S8_plan : z_PT := fun as P nx K => ∃ (iv : Nat → Int32) (h : Nat → Bool) (a : Nat → Nat → Int32) (ld : Nat → Int64) (n : Nat) (pr : Nat → Nat), as = [.ref 70] ∧ z_in (zM iv h a ld) P ∧ (iv 2 = nI n) ∧ (n ≤ 12) ∧ (∀ r, r < n → a 77 r = nI (pr r) ∧ pr r ≤ 9999) ∧ (∀ (f : Nat → Int32) (P' : z_H), z_in (zM iv h (va_up a 89 f) ld) P' → z_out zDm P P' → K (some (.int (pB (pFd (mA a n) n pr (2 ^ n))))) P' nx)
set_option maxRecDepth 4000 in
theorem sp8_plan (l : Launch) : z_Sp l M8_plan rM8_plan S8_plan := by
  refine z_enter (by decide) (fun as P nx K h => ?_) (fun X K as P nx hX hE hin0 hS => ?_)
  · obtain ⟨iv, h, a, ld, n, pr, rfl, -⟩ := h
    exact Nat.le_of_ble_eq_true rfl
  obtain ⟨iv, h, a, ld, n, pr, rfl, hM, p1, p2, p3, hK⟩ := hS
  refine z_pad 5 ?_
  show z_W X 0 [some (.ref 70), none, none, none, none, none] [] P nx 0 0
  have hO : z_out zDm P P := z_out.rf
  have hpw := pw_le p2
  have hp2 := Nat.two_pow_pos n
  have hpr : ∀ r, r < n → pr r ≤ 9999 := fun r hr => (p3 r hr).2
  refine z_aload_n hX d8_plan_0 rfl ?_
  refine z_callV0 hX (sp8_lists l) lm_8_166 (hM _ _ rfl) ⟨by decide, by decide, by decide, by decide⟩ (Nat.le_of_ble_eq_true rfl) d8_plan_1 ?_
  refine ⟨iv, h, a, ld, n, rfl, hM, p1, p2, fun f P' hf g1 g2 => ?_⟩
  dsimp only [Option.toList, List.cons_append, List.nil_append]
  refine z_iconst hX (-1) d8_plan_4 (by decide) ?_
  refine z_istore_n hX 1 rfl (by decide) d8_plan_5 ?_
  dsimp only [z_p1, z_p2, z_k, List.headD, List.tail]
  refine z_iconst hX (0) d8_plan_6 (by decide) ?_
  refine z_istore_n hX 2 rfl (by decide) d8_plan_7 ?_
  dsimp only [z_p1, z_p2, z_k, List.headD, List.tail]
  refine z_iconst hX (0) d8_plan_8 (by decide) ?_
  refine z_istore_n hX 3 rfl (by decide) d8_plan_9 ?_
  dsimp only [z_p1, z_p2, z_k, List.headD, List.tail]
  have hK := hK f P' g1 g2
  have hM := g1
  have price : ∀ (s : Nat) (b c : Int32), s < 4096 → z_W X 66 [some (.ref 70), some (.int b), some (.int c), some (.int (nI s)), some (.int (nI (pPr pr s n))), some (.int (nI n))] [] P' nx 0 0 → ∀ (k i : Nat), i + k = n → z_W X 26 [some (.ref 70), some (.int b), some (.int c), some (.int (nI s)), some (.int (nI (pPr pr s i))), some (.int (nI i))] [] P' nx 0 0 := by
    intro s b c hs cont k
    induction k with
    | zero =>
      intro i hi
      have hi : i = n := by omega
      subst hi
      refine z_iload hX d8_plan_26 rfl ?_
      skip
      refine z_aload_n hX d8_plan_28 rfl ?_
      refine z_get hX lf_8_70 (hM _ _ rfl) rfl d8_plan_29 ?_
      rw [p1]
      refine z_icmp_ge hX 66 d8_plan_32 (by decide) (fun h32 => ?_) (fun h32 => ?_)
      rotate_left
      · exact absurd (Int32.le_refl _) h32
      exact cont
    | succ k ih =>
      intro i hi
      have := ih (i + 1) (by omega)
      unfold pPr at this
      refine z_iload hX d8_plan_26 rfl ?_
      refine z_aload_n hX d8_plan_28 rfl ?_
      refine z_get hX lf_8_70 (hM _ _ rfl) rfl d8_plan_29 ?_
      rw [p1]
      refine z_icmp_ge hX 66 d8_plan_32 (by decide) (fun h32 => ?_) (fun h32 => ?_)
      · exact absurd h32 (nI_ge (by omega) (by omega))
      refine z_iload hX d8_plan_35 rfl ?_
      refine z_iload_n hX d8_plan_37 rfl ?_
      refine z_iload hX d8_plan_38 rfl ?_
      refine z_callS2 hX (sp8_has l) lm_8_141 ⟨by decide, by decide, by decide, by decide⟩ (Nat.le_of_ble_eq_true rfl) d8_plan_40 ?_
      refine ⟨s, i, rfl, by omega, by omega, ?_⟩
      dsimp only [Option.toList, List.cons_append, List.nil_append]
      refine z_ifb_eq hX 56 d8_plan_43 (by decide) (fun h43 => ?_) (fun h43 => ?_)
      · skip
        rw [if_neg (by rw [h43]; decide)] at this
        refine z_iconst hX (0) d8_plan_56 (by decide) ?_
        refine z_iadd hX d8_plan_57 ?_
        try rw [nI_add]
        refine z_istore hX (by decide) d8_plan_58 ?_
        dsimp only [z_p1, z_p2, z_k, List.headD, List.tail]
        refine z_iinc hX (1) (by decide) rfl (by decide) d8_plan_60 ?_
        dsimp only [z_p1, z_p2, z_k, List.headD, List.tail]
        refine z_goto hX 26 d8_plan_63 (by decide) ?_
        rw [nI_1]
        first | exact this | (rw [Int32.add_zero]; exact this)
      · skip
        rw [if_pos h43] at this
        refine z_aload_n hX d8_plan_46 rfl ?_
        refine z_get hX lf_8_30 (hM _ _ rfl) rfl d8_plan_47 ?_
        refine z_iload hX d8_plan_50 rfl ?_
        refine z_iald hX (hM _ _ rfl) (vp_in_nI (by omega) (by decide)) d8_plan_52 ?_
        rw [nI_clamp (show i < 2 ^ 31 by omega), show (va_up a 89 f) 77 i = nI (pr i) from (p3 i (by omega)).1]
        refine z_goto hX 57 d8_plan_53 (by decide) ?_
        refine z_iadd hX d8_plan_57 ?_
        try rw [nI_add]
        refine z_istore hX (by decide) d8_plan_58 ?_
        dsimp only [z_p1, z_p2, z_k, List.headD, List.tail]
        refine z_iinc hX (1) (by decide) rfl (by decide) d8_plan_60 ?_
        dsimp only [z_p1, z_p2, z_k, List.headD, List.tail]
        refine z_goto hX 26 d8_plan_63 (by decide) ?_
        rw [nI_1]
        first | exact this | (rw [Int32.add_zero]; exact this)
  have loop : ∀ (k s : Nat), s + k = 2 ^ n → z_W X 10 [some (.ref 70), some (.int (pB (pFd (mA a n) n pr s))), some (.int (pC (pFd (mA a n) n pr s))), some (.int (nI s)), none, none] [] P' nx 0 0 := by
    intro k
    induction k with
    | zero =>
      intro s hs
      have hs : s = 2 ^ n := by omega
      subst hs
      refine z_iload_n hX d8_plan_10 rfl ?_
      refine z_iconst hX (1) d8_plan_11 (by decide) ?_
      refine z_aload_n hX d8_plan_12 rfl ?_
      refine z_get hX lf_8_70 (hM _ _ rfl) rfl d8_plan_13 ?_
      refine z_ishl hX d8_plan_16 ?_
      rw [p1, sh1 (by omega)]
      refine z_icmp_ge hX 116 d8_plan_17 (by decide) (fun h17 => ?_) (fun h17 => ?_)
      rotate_left
      · exact absurd (Int32.le_refl _) h17
      refine z_iload_n hX d8_plan_116 rfl ?_
      refine z_iret hX hE (by decide) (by decide) d8_plan_117 ?_
      exact hK
    | succ k ih =>
      intro s hs
      have nxt := ih (s + 1) (by omega)
      unfold pFd at nxt
      have hl := pPr_le (set := s) hpr
      have two : z_W X 66 [some (.ref 70), some (.int (pB (pFd (mA a n) n pr s))), some (.int (pC (pFd (mA a n) n pr s))), some (.int (nI s)), some (.int (nI (pPr pr s n))), some (.int (nI n))] [] P' nx 0 0 := by
        refine z_iload_n hX d8_plan_66 rfl ?_
        refine z_iconst hX (-1) d8_plan_67 (by decide) ?_
        refine z_icmp_eq hX 94 d8_plan_68 (by decide) (fun h68 => ?_) (fun h68 => ?_)
        · skip
          have hb : pFd (mA a n) n pr s = none := by
            cases hb : pFd (mA a n) n pr s with
            | none => rfl
            | some q =>
              rw [hb] at h68
              have h68 : nI q.1 = -1 := h68
              obtain ⟨q1, q2⟩ := pFd_lt hpr s q hb
              rw [i_eq, nI_toInt (by omega), show (-1 : Int32).toInt = -1 from rfl] at h68
              omega
          rw [hb] at nxt ⊢
          show z_W X 94 [some (.ref 70), some (.int (-1)), some (.int 0), some (.int (nI s)), some (.int (nI (pPr pr s n))), some (.int (nI n))] [] P' nx 0 0
          unfold pSt at nxt
          dsimp only at nxt
          refine z_aload_n hX d8_plan_94 rfl ?_
          refine z_iload_n hX d8_plan_95 rfl ?_
          refine z_callV1 hX (sp8_doAll l) lm_8_169 (hM _ _ rfl) ⟨by decide, by decide, by decide, by decide⟩ (Nat.le_of_ble_eq_true rfl) d8_plan_96 ?_
          refine ⟨iv, h, _, ld, n, s, rfl, hM, p1, p2, by omega, hf, ?_⟩
          rw [mA_89]
          dsimp only [Option.toList, List.cons_append, List.nil_append]
          refine z_ifb_ne hX 105 d8_plan_99 (by decide) (fun h99 => ?_) (fun h99 => ?_)
          · skip
            rw [if_pos h99] at nxt
            refine z_iload_n hX d8_plan_105 rfl ?_
            refine z_istore_n hX 1 rfl (by decide) d8_plan_106 ?_
            dsimp only [z_p1, z_p2, z_k, List.headD, List.tail]
            refine z_iload hX d8_plan_107 rfl ?_
            refine z_istore_n hX 2 rfl (by decide) d8_plan_109 ?_
            dsimp only [z_p1, z_p2, z_k, List.headD, List.tail]
            refine z_iinc hX (1) (by decide) rfl (by decide) d8_plan_110 ?_
            dsimp only [z_p1, z_p2, z_k, List.headD, List.tail]
            refine z_goto hX 10 d8_plan_113 (by decide) ?_
            rw [nI_1]
            exact z_sub nxt (by repeat' (first | exact trivial | refine ⟨rfl, ?_⟩))
          · skip
            rw [if_neg (by rw [h99]; decide)] at nxt
            refine z_goto hX 110 d8_plan_102 (by decide) ?_
            refine z_iinc hX (1) (by decide) rfl (by decide) d8_plan_110 ?_
            dsimp only [z_p1, z_p2, z_k, List.headD, List.tail]
            refine z_goto hX 10 d8_plan_113 (by decide) ?_
            rw [nI_1]
            exact z_sub nxt (by repeat' (first | exact trivial | refine ⟨rfl, ?_⟩))
        · skip
          have hne : ∃ q, pFd (mA a n) n pr s = some q := by
            cases hb : pFd (mA a n) n pr s with
            | none => rw [hb] at h68; exact absurd rfl h68
            | some q => exact ⟨q, rfl⟩
          obtain ⟨q, hb⟩ := hne
          obtain ⟨q1, q2⟩ := pFd_lt hpr s q hb
          rw [hb] at nxt ⊢
          show z_W X 71 [some (.ref 70), some (.int (nI q.1)), some (.int (nI q.2)), some (.int (nI s)), some (.int (nI (pPr pr s n))), some (.int (nI n))] [] P' nx 0 0
          unfold pSt at nxt
          dsimp only at nxt
          refine z_iload hX d8_plan_71 rfl ?_
          refine z_iload_n hX d8_plan_73 rfl ?_
          refine z_icmp_gt hX 110 d8_plan_74 (by decide) (fun h74 => ?_) (fun h74 => ?_)
          · skip
            rw [i_lt, nI_toInt (by omega), nI_toInt (by omega)] at h74
            rw [if_pos (Or.inl (by omega))] at nxt
            refine z_iinc hX (1) (by decide) rfl (by decide) d8_plan_110 ?_
            dsimp only [z_p1, z_p2, z_k, List.headD, List.tail]
            refine z_goto hX 10 d8_plan_113 (by decide) ?_
            rw [nI_1]
            exact z_sub nxt (by repeat' (first | exact trivial | refine ⟨rfl, ?_⟩))
          · skip
            rw [i_lt, nI_toInt (by omega), nI_toInt (by omega)] at h74
            refine z_iload hX d8_plan_77 rfl ?_
            refine z_iload_n hX d8_plan_79 rfl ?_
            refine z_icmp_ne hX 94 d8_plan_80 (by decide) (fun h80 => ?_) (fun h80 => ?_)
            · skip
              rw [nI_eq (by omega) (by omega)] at h80
              rw [if_neg (by omega)] at nxt
              refine z_aload_n hX d8_plan_94 rfl ?_
              refine z_iload_n hX d8_plan_95 rfl ?_
              refine z_callV1 hX (sp8_doAll l) lm_8_169 (hM _ _ rfl) ⟨by decide, by decide, by decide, by decide⟩ (Nat.le_of_ble_eq_true rfl) d8_plan_96 ?_
              refine ⟨iv, h, _, ld, n, s, rfl, hM, p1, p2, by omega, hf, ?_⟩
              rw [mA_89]
              dsimp only [Option.toList, List.cons_append, List.nil_append]
              refine z_ifb_ne hX 105 d8_plan_99 (by decide) (fun h99 => ?_) (fun h99 => ?_)
              · skip
                rw [if_pos h99] at nxt
                refine z_iload_n hX d8_plan_105 rfl ?_
                refine z_istore_n hX 1 rfl (by decide) d8_plan_106 ?_
                dsimp only [z_p1, z_p2, z_k, List.headD, List.tail]
                refine z_iload hX d8_plan_107 rfl ?_
                refine z_istore_n hX 2 rfl (by decide) d8_plan_109 ?_
                dsimp only [z_p1, z_p2, z_k, List.headD, List.tail]
                refine z_iinc hX (1) (by decide) rfl (by decide) d8_plan_110 ?_
                dsimp only [z_p1, z_p2, z_k, List.headD, List.tail]
                refine z_goto hX 10 d8_plan_113 (by decide) ?_
                rw [nI_1]
                exact z_sub nxt (by repeat' (first | exact trivial | refine ⟨rfl, ?_⟩))
              · skip
                rw [if_neg (by rw [h99]; decide)] at nxt
                refine z_goto hX 110 d8_plan_102 (by decide) ?_
                refine z_iinc hX (1) (by decide) rfl (by decide) d8_plan_110 ?_
                dsimp only [z_p1, z_p2, z_k, List.headD, List.tail]
                refine z_goto hX 10 d8_plan_113 (by decide) ?_
                rw [nI_1]
                exact z_sub nxt (by repeat' (first | exact trivial | refine ⟨rfl, ?_⟩))
            · skip
              rw [nI_eq (by omega) (by omega)] at h80
              refine z_iload_n hX d8_plan_83 rfl ?_
              refine z_callS1 hX (sp8_sizeOf l) lm_8_147 ⟨by decide, by decide, by decide, by decide⟩ (Nat.le_of_ble_eq_true rfl) d8_plan_84 ?_
              refine ⟨s, rfl, by omega, ?_⟩
              dsimp only [Option.toList, List.cons_append, List.nil_append]
              refine z_iload_n hX d8_plan_87 rfl ?_
              refine z_callS1 hX (sp8_sizeOf l) lm_8_147 ⟨by decide, by decide, by decide, by decide⟩ (Nat.le_of_ble_eq_true rfl) d8_plan_88 ?_
              refine ⟨q.1, rfl, by omega, ?_⟩
              dsimp only [Option.toList, List.cons_append, List.nil_append]
              refine z_icmp_ge hX 110 d8_plan_91 (by decide) (fun h91 => ?_) (fun h91 => ?_)
              · skip
                have z1 := zpop_le s
                have z2 := zpop_le q.1
                rw [nI_leI (by omega) (by omega)] at h91
                rw [if_pos (Or.inr ⟨by omega, h91⟩)] at nxt
                refine z_iinc hX (1) (by decide) rfl (by decide) d8_plan_110 ?_
                dsimp only [z_p1, z_p2, z_k, List.headD, List.tail]
                refine z_goto hX 10 d8_plan_113 (by decide) ?_
                rw [nI_1]
                exact z_sub nxt (by repeat' (first | exact trivial | refine ⟨rfl, ?_⟩))
              · skip
                have z1 := zpop_le s
                have z2 := zpop_le q.1
                rw [nI_leI (by omega) (by omega)] at h91
                rw [if_neg (by omega)] at nxt
                refine z_aload_n hX d8_plan_94 rfl ?_
                refine z_iload_n hX d8_plan_95 rfl ?_
                refine z_callV1 hX (sp8_doAll l) lm_8_169 (hM _ _ rfl) ⟨by decide, by decide, by decide, by decide⟩ (Nat.le_of_ble_eq_true rfl) d8_plan_96 ?_
                refine ⟨iv, h, _, ld, n, s, rfl, hM, p1, p2, by omega, hf, ?_⟩
                rw [mA_89]
                dsimp only [Option.toList, List.cons_append, List.nil_append]
                refine z_ifb_ne hX 105 d8_plan_99 (by decide) (fun h99 => ?_) (fun h99 => ?_)
                · skip
                  rw [if_pos h99] at nxt
                  refine z_iload_n hX d8_plan_105 rfl ?_
                  refine z_istore_n hX 1 rfl (by decide) d8_plan_106 ?_
                  dsimp only [z_p1, z_p2, z_k, List.headD, List.tail]
                  refine z_iload hX d8_plan_107 rfl ?_
                  refine z_istore_n hX 2 rfl (by decide) d8_plan_109 ?_
                  dsimp only [z_p1, z_p2, z_k, List.headD, List.tail]
                  refine z_iinc hX (1) (by decide) rfl (by decide) d8_plan_110 ?_
                  dsimp only [z_p1, z_p2, z_k, List.headD, List.tail]
                  refine z_goto hX 10 d8_plan_113 (by decide) ?_
                  rw [nI_1]
                  exact z_sub nxt (by repeat' (first | exact trivial | refine ⟨rfl, ?_⟩))
                · skip
                  rw [if_neg (by rw [h99]; decide)] at nxt
                  refine z_goto hX 110 d8_plan_102 (by decide) ?_
                  refine z_iinc hX (1) (by decide) rfl (by decide) d8_plan_110 ?_
                  dsimp only [z_p1, z_p2, z_k, List.headD, List.tail]
                  refine z_goto hX 10 d8_plan_113 (by decide) ?_
                  rw [nI_1]
                  exact z_sub nxt (by repeat' (first | exact trivial | refine ⟨rfl, ?_⟩))
      have one := price s _ _ (by omega) two n 0 (by omega)
      refine z_iload_n hX d8_plan_10 rfl ?_
      refine z_iconst hX (1) d8_plan_11 (by decide) ?_
      refine z_aload_n hX d8_plan_12 rfl ?_
      refine z_get hX lf_8_70 (hM _ _ rfl) rfl d8_plan_13 ?_
      refine z_ishl hX d8_plan_16 ?_
      rw [p1, sh1 (by omega)]
      refine z_icmp_ge hX 116 d8_plan_17 (by decide) (fun h17 => ?_) (fun h17 => ?_)
      · exact absurd h17 (nI_ge (by omega) (by omega))
      refine z_iconst hX (0) d8_plan_20 (by decide) ?_
      refine z_istore hX (by decide) d8_plan_21 ?_
      dsimp only [z_p1, z_p2, z_k, List.headD, List.tail]
      refine z_iconst hX (0) d8_plan_23 (by decide) ?_
      refine z_istore hX (by decide) d8_plan_24 ?_
      dsimp only [z_p1, z_p2, z_k, List.headD, List.tail]
      exact one
  exact loop (2 ^ n) 0 (by omega)
