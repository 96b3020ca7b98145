/-! what follows: pure, and the model's walk -/
/-- one junction's turn over a set; turns j .. j + k - 1; rounds till nothing changes -/
def aS (A : Nat → Nat) (j all : Nat) : Nat := if zpop (zsd (A j) all) = 1 then all ||| zsd (A j) all else all
def aF (A : Nat → Nat) : Nat → Nat → Nat → Nat
  | 0, _, all => all
  | k + 1, j, all => aF A k (j + 1) (aS A j all)
def aL (A : Nat → Nat) : Nat → Nat → Nat
  | 0, all => all
  | f + 1, all => if aF A 8 0 all = all then aF A 8 0 all else aL A f (aF A 8 0 all)
def mA (a : Nat → Nat → Int32) (n : Nat) : Nat → Nat := fun j => mAt a n (nI j)
def gS (a : Nat → Nat → Int32) (n j : Nat) (q : Nat × (Nat → Int64)) : Nat × (Nat → Int64) :=
  if zpop (zsd (mA a n j) q.1) = 1 then (q.1 ||| zsd (mA a n j) q.1, vp_updL q.2 (Nat.log2 (zsd (mA a n j) q.1)) (if a 76 (Nat.log2 (zsd (mA a n j) q.1)) = nI j then -mEx a q.2 (nI j) q.1 n else mEx a q.2 (nI j) q.1 n)) else q
def gF (a : Nat → Nat → Int32) (n : Nat) : Nat → Nat → Nat × (Nat → Int64) → Nat × (Nat → Int64)
  | 0, _, q => q
  | k + 1, j, q => gF a n k (j + 1) (gS a n j q)
def gL (a : Nat → Nat → Int32) (n : Nat) : Nat → Nat × (Nat → Int64) → Nat × (Nat → Int64)
  | 0, q => q
  | f + 1, q => if (gF a n 8 0 q).1 = q.1 then gF a n 8 0 q else gL a n f (gF a n 8 0 q)
theorem gS_1 (a : Nat → Nat → Int32) (n j : Nat) (q : Nat × (Nat → Int64)) : (gS a n j q).1 = aS (mA a n) j q.1 := by
  unfold gS aS
  split <;> rfl
theorem gF_1 (a : Nat → Nat → Int32) (n : Nat) : ∀ k j q, (gF a n k j q).1 = aF (mA a n) k j q.1
  | 0, j, q => rfl
  | k + 1, j, q => by
    unfold gF aF
    rw [gF_1 a n k (j + 1), gS_1]
theorem gL_1 (a : Nat → Nat → Int32) (n : Nat) : ∀ f q, (gL a n f q).1 = aL (mA a n) f q.1
  | 0, q => rfl
  | f + 1, q => by
    unfold gL aL
    rw [gF_1]
    split
    · rw [gF_1]
    · rw [gL_1 a n f, gF_1]
/-- a set's bits -/
def zsub (a b : Nat) : Prop := ∀ i, a.testBit i = true → b.testBit i = true
theorem lt4096_t {m i : Nat} (h : m < 4096) (hi : 12 ≤ i) : m.testBit i = false := Nat.testBit_lt_two_pow (Nat.lt_of_lt_of_le h (show 2 ^ 12 ≤ 2 ^ i from Nat.pow_le_pow_right (by decide) hi))
theorem zC_mono {p q : Nat → Bool} (h : ∀ i, p i = true → q i = true) : ∀ n, zC p n ≤ zC q n
  | 0 => Nat.le_refl _
  | n + 1 => by
    have ih := zC_mono h n
    unfold zC
    cases hp : p n with
    | false => simp; omega
    | true => rw [h n hp]; simp; omega
theorem zC_lt {p q : Nat → Bool} (h : ∀ i, p i = true → q i = true) : ∀ {n k : Nat}, k < n → p k = false → q k = true → zC p n < zC q n
  | 0, k, hk, _, _ => absurd hk (Nat.not_lt_zero k)
  | n + 1, k, hk, h1, h2 => by
    unfold zC
    by_cases e : k = n
    · subst e
      have := zC_mono h k
      rw [h1, h2]
      simp
      omega
    · have := zC_lt h (show k < n by omega) h1 h2
      cases hp : p n with
      | false => simp; omega
      | true => rw [h n hp]; simp; omega
theorem zpop_lt {a b : Nat} (hb : b < 4096) (h : zsub a b) (hne : ¬ b = a) : zpop a < zpop b := by
  have : ∃ k, k < 12 ∧ a.testBit k = false ∧ b.testBit k = true := by
    refine Classical.byContradiction fun q => hne ?_
    apply Nat.eq_of_testBit_eq
    intro i
    cases hbi : b.testBit i with
    | false =>
      cases hai : a.testBit i with
      | false => rfl
      | true => rw [h i hai] at hbi; cases hbi
    | true =>
      cases hai : a.testBit i with
      | true => rfl
      | false =>
        rcases Nat.lt_or_ge i 12 with z | z
        · exact absurd ⟨i, z, hai, hbi⟩ q
        · rw [lt4096_t hb z] at hbi; cases hbi
  obtain ⟨k, h1, h2, h3⟩ := this
  exact zC_lt h h1 h2 h3
theorem or_lt4096 {a b : Nat} (ha : a < 4096) (hb : b < 4096) : a ||| b < 4096 := Nat.or_lt_two_pow (n := 12) ha hb
theorem zsd_lt {a b : Nat} (ha : a < 4096) : zsd a b < 4096 := Nat.xor_lt_two_pow (n := 12) ha (Nat.lt_of_le_of_lt Nat.and_le_left ha)
theorem aS_lt {A : Nat → Nat} (hA : ∀ j, A j < 4096) {j all : Nat} (h : all < 4096) : aS A j all < 4096 := by
  unfold aS
  split
  · exact or_lt4096 h (zsd_lt (hA j))
  · exact h
theorem aS_sub (A : Nat → Nat) (j all : Nat) : zsub all (aS A j all) := by
  intro i hi
  unfold aS
  split
  · rw [Nat.testBit_or, hi]; rfl
  · exact hi
theorem aF_lt {A : Nat → Nat} (hA : ∀ j, A j < 4096) : ∀ k j {all : Nat}, all < 4096 → aF A k j all < 4096
  | 0, j, all, h => h
  | k + 1, j, all, h => aF_lt hA k (j + 1) (aS_lt hA h)
theorem aF_sub (A : Nat → Nat) : ∀ k j all, zsub all (aF A k j all)
  | 0, j, all => fun _ h => h
  | k + 1, j, all => fun i hi => aF_sub A k (j + 1) (aS A j all) i (aS_sub A j all i hi)
theorem mAt_lt {a : Nat → Nat → Int32} {n : Nat} (hn : n ≤ 12) (j : Int32) : mAt a n j < 4096 := zbt_lt12 _ hn
theorem one_log : ∀ m, m < 4096 → zpop m = 1 → m = 2 ^ Nat.log2 m ∧ Nat.log2 m < 12 := z4096 (by decide +kernel)
def S8_grows : z_PT := fun as P nx K => ∃ (iv : Nat → Int32) (h : Nat → Bool) (a : Nat → Nat → Int32) (ld : Nat → Int64) (n set : Nat), as = [.ref 70, .int (nI set)] ∧ z_in (zM iv h a ld) P ∧ (iv 2 = nI n) ∧ (n ≤ 12) ∧ (set < 4096) ∧ (∀ P' : z_H, z_in (zM iv h a (gL a n 13 (set, ld)).2) P' → z_out zDm P P' → K (some (.int (nI (gL a n 13 (set, ld)).1))) P' nx)
set_option maxRecDepth 4000 in
theorem sp8_grows (l : Launch) : z_Sp l M8_grows rM8_grows S8_grows := by
  refine z_enter (by decide) (fun as P nx K h => ?_) (fun X K as P nx hX hE hin0 hS => ?_)
  · obtain ⟨iv, h, a, ld, n, set, rfl, -⟩ := h
    exact Nat.le_of_ble_eq_true rfl
  obtain ⟨iv, h, a, ld, n, set, rfl, hM, p1, p2, p3, hK⟩ := hS
  refine z_pad 5 ?_
  show z_W X 0 [some (.ref 70), some (.int (nI set)), none, none, none, none, none] [] P nx 0 0
  have hO : z_out zDm P P := z_out.rf
  obtain ⟨P0, hP0⟩ : ∃ P0, P0 = P := ⟨_, rfl⟩
  rw [← hP0] at hK
  have hO : z_out zDm P0 P := by rw [hP0]; exact z_out.rf
  have inner : ∀ (hd : Int32) (k j : Nat) (q : Nat × (Nat → Int64)) (P : z_H), j + k = 8 → q.1 < 4096 → z_in (zM iv h a q.2) P → z_out zDm P0 P → (∀ P' : z_H, z_in (zM iv h a (gF a n k j q).2) P' → z_out zDm P0 P' → z_W X 4 [some (.ref 70), some (.int (nI set)), some (.int (nI (gF a n k j q).1)), some (.int hd), none, none, none] [] P' nx 0 0) → z_W X 14 [some (.ref 70), some (.int (nI set)), some (.int (nI q.1)), some (.int hd), some (.int (nI j)), none, none] [] P nx 0 0 := by
    intro hd k
    induction k with
    | zero =>
      intro j q P hj hq hM hO cont
      have hj : j = 8 := by omega
      subst hj
      refine z_sub (lv' := [some (.ref 70), some (.int (nI set)), some (.int (nI q.1)), some (.int hd), some (.int (nI 8)), none, none]) ?_ (by repeat' (first | exact trivial | refine ⟨rfl, ?_⟩))
      have cont : ∀ P' : z_H, z_in (zM iv h a q.2) P' → z_out zDm P0 P' → z_W X 4 [some (.ref 70), some (.int (nI set)), some (.int (nI q.1)), some (.int hd), some (.int (nI 8)), none, none] [] P' nx 0 0 := fun P' h1 h2 => z_sub (cont P' h1 h2) (by repeat' (first | exact trivial | refine ⟨rfl, ?_⟩))
      refine z_iload hX d8_grows_14 rfl ?_
      refine z_bipush hX (8) d8_grows_16 (by decide) ?_
      refine z_icmp_ge hX 112 d8_grows_18 (by decide) (fun h18 => ?_) (fun h18 => ?_)
      rotate_left
      · exact absurd (by decide) h18
      refine z_goto hX 4 d8_grows_112 (by decide) ?_
      exact cont P hM hO
    | succ k ih =>
      intro j q P hj hq hM hO cont
      have cont : ∀ P' : z_H, z_in (zM iv h a (gF a n k (j + 1) (gS a n j q)).2) P' → z_out zDm P0 P' → z_W X 4 [some (.ref 70), some (.int (nI set)), some (.int (nI (gF a n k (j + 1) (gS a n j q)).1)), some (.int hd), none, none, none] [] P' nx 0 0 := cont
      refine z_iload hX d8_grows_14 rfl ?_
      refine z_bipush hX (8) d8_grows_16 (by decide) ?_
      refine z_icmp_ge hX 112 d8_grows_18 (by decide) (fun h18 => ?_) (fun h18 => ?_)
      · exact absurd h18 (nI_ge (b := 8) (by omega) (by decide))
      refine z_aload_n hX d8_grows_21 rfl ?_
      refine z_iload hX d8_grows_22 rfl ?_
      refine z_callV1 hX (sp8_roadsAt l) lm_8_144 (hM _ _ rfl) ⟨by decide, by decide, by decide, by decide⟩ (Nat.le_of_ble_eq_true rfl) d8_grows_24 ?_
      refine ⟨iv, h, a, q.2, n, nI j, rfl, hM, p1, p2, ?_⟩
      dsimp only [Option.toList, List.cons_append, List.nil_append]
      refine z_iload_n hX d8_grows_27 rfl ?_
      refine z_iconst hX (-1) d8_grows_28 (by decide) ?_
      refine z_ixor hX d8_grows_29 ?_
      refine z_iand hX d8_grows_30 ?_
      rw [fa_sd]
      obtain ⟨o, ho⟩ : ∃ o, o = zsd (mAt a n (nI j)) q.1 := ⟨_, rfl⟩
      rw [← ho]
      have ho4 : o < 4096 := by rw [ho]; exact zsd_lt (mAt_lt p2 _)
      have hpo := zpop_le o
      refine z_istore hX (by decide) d8_grows_31 ?_
      dsimp only [z_p1, z_p2, z_k, List.headD, List.tail]
      refine z_iload hX d8_grows_33 rfl ?_
      refine z_callS1 hX (sp8_sizeOf l) lm_8_147 ⟨by decide, by decide, by decide, by decide⟩ (Nat.le_of_ble_eq_true rfl) d8_grows_35 ?_
      refine ⟨o, rfl, ho4, ?_⟩
      dsimp only [Option.toList, List.cons_append, List.nil_append]
      refine z_iconst hX (1) d8_grows_38 (by decide) ?_
      refine z_icmp_eq hX 45 d8_grows_39 (by decide) (fun h39 => ?_) (fun h39 => ?_)
      · skip
        have e1 : zpop o = 1 := (nI_eq (b := 1) (by omega) (by decide)).mp h39
        obtain ⟨g1, g2⟩ := one_log o ho4 e1
        have es : gS a n j q = (q.1 ||| o, vp_updL q.2 (Nat.log2 o) (if a 76 (Nat.log2 o) = nI j then -mEx a q.2 (nI j) q.1 n else mEx a q.2 (nI j) q.1 n)) := by
          unfold gS
          rw [show zsd (mA a n j) q.1 = o from ho.symm, if_pos e1]
        have hbit : ∀ i, o.testBit i = decide (Nat.log2 o = i) := fun i => by
          have := Nat.testBit_two_pow (n := Nat.log2 o) (m := i)
          rw [← g1] at this
          exact this
        have low : ∀ (k2 i : Nat), i + k2 = Nat.log2 o → z_W X 48 [some (.ref 70), some (.int (nI set)), some (.int (nI q.1)), some (.int hd), some (.int (nI j)), some (.int (nI o)), some (.int (nI i))] [] P nx 0 0 := by
          intro k2
          induction k2 with
          | zero =>
            intro i hi
            have hi : i = Nat.log2 o := by omega
            rw [← hi] at es g2 hbit
            refine z_iload hX d8_grows_48 rfl ?_
            refine z_iload hX d8_grows_50 rfl ?_
            refine z_callS2 hX (sp8_has l) lm_8_141 ⟨by decide, by decide, by decide, by decide⟩ (Nat.le_of_ble_eq_true rfl) d8_grows_52 ?_
            refine ⟨_, _, rfl, by omega, by omega, ?_⟩
            dsimp only [Option.toList, List.cons_append, List.nil_append]
            refine z_ifb_ne hX 64 d8_grows_55 (by decide) (fun h55 => ?_) (fun h55 => ?_)
            rotate_left
            · rw [hbit, decide_eq_false_iff_not] at h55
              exact absurd rfl h55
            refine z_aload_n hX d8_grows_64 rfl ?_
            refine z_get hX lf_8_63 (hM _ _ rfl) rfl d8_grows_65 ?_
            refine z_iload hX d8_grows_68 rfl ?_
            refine z_aload_n hX d8_grows_70 rfl ?_
            refine z_get hX lf_8_27 (hM _ _ rfl) rfl d8_grows_71 ?_
            refine z_iload hX d8_grows_74 rfl ?_
            refine z_iald hX (hM _ _ rfl) (vp_in_nI (by omega) (by decide)) d8_grows_76 ?_
            rw [nI_clamp (show i < 2 ^ 31 by omega)]
            refine z_iload hX d8_grows_77 rfl ?_
            refine z_icmp_ne hX 93 d8_grows_79 (by decide) (fun h79 => ?_) (fun h79 => ?_)
            · skip
              rw [if_neg h79] at es
              refine z_aload_n hX d8_grows_93 rfl ?_
              refine z_iload hX d8_grows_94 rfl ?_
              refine z_iload_n hX d8_grows_96 rfl ?_
              refine z_callV2 hX (sp8_excess l) lm_8_150 (hM _ _ rfl) ⟨by decide, by decide, by decide, by decide⟩ (Nat.le_of_ble_eq_true rfl) d8_grows_97 ?_
              refine ⟨iv, h, a, q.2, n, nI j, q.1, rfl, hM, p1, p2, hq, ?_⟩
              dsimp only [Option.toList, List.cons_append, List.nil_append]
              refine z_last hX (hM _ _ rfl) (vp_in_nI (by omega) (by decide)) d8_grows_100 ?_
              rw [nI_clamp (show i < 2 ^ 31 by omega)]
              refine z_gen hM hO rfl (fun P hM hO => ?_)
              have hM := zM_s88 hM
              refine z_iload_n hX d8_grows_101 rfl ?_
              refine z_iload hX d8_grows_102 rfl ?_
              refine z_ior hX d8_grows_104 ?_
              refine z_istore_n hX 2 rfl (by decide) d8_grows_105 ?_
              dsimp only [z_p1, z_p2, z_k, List.headD, List.tail]
              refine z_iinc hX (1) (by decide) rfl (by decide) d8_grows_106 ?_
              dsimp only [z_p1, z_p2, z_k, List.headD, List.tail]
              refine z_goto hX 14 d8_grows_109 (by decide) ?_
              rw [nI_1, fa_or]
              refine z_sub (ih (j + 1) (gS a n j q) P (by omega) (by rw [gS_1]; exact aS_lt (fun _ => mAt_lt p2 _) hq) (by rw [es]; exact hM) hO cont) ?_
              rw [es]
              repeat' (first | exact trivial | refine ⟨rfl, ?_⟩)
            · skip
              rw [if_pos h79] at es
              refine z_aload_n hX d8_grows_82 rfl ?_
              refine z_iload hX d8_grows_83 rfl ?_
              refine z_iload_n hX d8_grows_85 rfl ?_
              refine z_callV2 hX (sp8_excess l) lm_8_150 (hM _ _ rfl) ⟨by decide, by decide, by decide, by decide⟩ (Nat.le_of_ble_eq_true rfl) d8_grows_86 ?_
              refine ⟨iv, h, a, q.2, n, nI j, q.1, rfl, hM, p1, p2, hq, ?_⟩
              dsimp only [Option.toList, List.cons_append, List.nil_append]
              refine z_lneg hX d8_grows_89 ?_
              refine z_goto hX 100 d8_grows_90 (by decide) ?_
              refine z_last hX (hM _ _ rfl) (vp_in_nI (by omega) (by decide)) d8_grows_100 ?_
              rw [nI_clamp (show i < 2 ^ 31 by omega)]
              refine z_gen hM hO rfl (fun P hM hO => ?_)
              have hM := zM_s88 hM
              refine z_iload_n hX d8_grows_101 rfl ?_
              refine z_iload hX d8_grows_102 rfl ?_
              refine z_ior hX d8_grows_104 ?_
              refine z_istore_n hX 2 rfl (by decide) d8_grows_105 ?_
              dsimp only [z_p1, z_p2, z_k, List.headD, List.tail]
              refine z_iinc hX (1) (by decide) rfl (by decide) d8_grows_106 ?_
              dsimp only [z_p1, z_p2, z_k, List.headD, List.tail]
              refine z_goto hX 14 d8_grows_109 (by decide) ?_
              rw [nI_1, fa_or]
              refine z_sub (ih (j + 1) (gS a n j q) P (by omega) (by rw [gS_1]; exact aS_lt (fun _ => mAt_lt p2 _) hq) (by rw [es]; exact hM) hO cont) ?_
              rw [es]
              repeat' (first | exact trivial | refine ⟨rfl, ?_⟩)
          | succ k2 low =>
            intro i hi
            refine z_iload hX d8_grows_48 rfl ?_
            refine z_iload hX d8_grows_50 rfl ?_
            refine z_callS2 hX (sp8_has l) lm_8_141 ⟨by decide, by decide, by decide, by decide⟩ (Nat.le_of_ble_eq_true rfl) d8_grows_52 ?_
            refine ⟨_, _, rfl, by omega, by omega, ?_⟩
            dsimp only [Option.toList, List.cons_append, List.nil_append]
            refine z_ifb_ne hX 64 d8_grows_55 (by decide) (fun h55 => ?_) (fun h55 => ?_)
            · rw [hbit, decide_eq_true_eq] at h55
              omega
            refine z_iinc hX (1) (by decide) rfl (by decide) d8_grows_58 ?_
            dsimp only [z_p1, z_p2, z_k, List.headD, List.tail]
            refine z_goto hX 48 d8_grows_61 (by decide) ?_
            rw [nI_1]
            exact low (i + 1) (by omega)
        refine z_iconst hX (0) d8_grows_45 (by decide) ?_
        refine z_istore hX (by decide) d8_grows_46 ?_
        dsimp only [z_p1, z_p2, z_k, List.headD, List.tail]
        exact low (Nat.log2 o) 0 (by omega)
      · skip
        have e1 : ¬ zpop o = 1 := fun z => h39 (by rw [z]; rfl)
        have es : gS a n j q = q := if_neg (by rw [show zsd (mA a n j) q.1 = o from ho.symm]; exact e1)
        refine z_goto hX 106 d8_grows_42 (by decide) ?_
        refine z_iinc hX (1) (by decide) rfl (by decide) d8_grows_106 ?_
        dsimp only [z_p1, z_p2, z_k, List.headD, List.tail]
        refine z_goto hX 14 d8_grows_109 (by decide) ?_
        rw [nI_1]
        refine z_sub (ih (j + 1) (gS a n j q) P (by omega) (by rw [es]; exact hq) (by rw [es]; exact hM) hO cont) ?_
        rw [es]
        repeat' (first | exact trivial | refine ⟨rfl, ?_⟩)
  have outer : ∀ (f : Nat) (q : Nat × (Nat → Int64)) (hd : Int32) (P : z_H), 12 < f + zpop q.1 → q.1 < 4096 → ¬ hd = nI q.1 → z_in (zM iv h a q.2) P → z_out zDm P0 P → (∀ P' : z_H, z_in (zM iv h a (gL a n f q).2) P' → z_out zDm P0 P' → K (some (.int (nI (gL a n f q).1))) P' nx) → z_W X 4 [some (.ref 70), some (.int (nI set)), some (.int (nI q.1)), some (.int hd), none, none, none] [] P nx 0 0 := by
    intro f
    induction f with
    | zero =>
      intro q hd P h1 hq
      have := zpop_le q.1
      omega
    | succ f ih =>
      intro q hd P h1 hq hne hM hO cont
      unfold gL at cont
      refine z_iload_n hX d8_grows_4 rfl ?_
      refine z_iload_n hX d8_grows_5 rfl ?_
      refine z_icmp_eq hX 115 d8_grows_6 (by decide) (fun h6 => ?_) (fun h6 => ?_)
      · exact absurd h6 hne
      refine z_iload_n hX d8_grows_9 rfl ?_
      refine z_istore_n hX 3 rfl (by decide) d8_grows_10 ?_
      dsimp only [z_p1, z_p2, z_k, List.headD, List.tail]
      refine z_iconst hX (0) d8_grows_11 (by decide) ?_
      refine z_istore hX (by decide) d8_grows_12 ?_
      dsimp only [z_p1, z_p2, z_k, List.headD, List.tail]
      refine inner (nI q.1) 8 0 q P rfl hq hM hO (fun P' g1 g2 => ?_)
      by_cases e : (gF a n 8 0 q).1 = q.1
      · rw [if_pos e] at cont
        refine z_iload_n hX d8_grows_4 rfl ?_
        refine z_iload_n hX d8_grows_5 rfl ?_
        refine z_icmp_eq hX 115 d8_grows_6 (by decide) (fun h6 => ?_) (fun h6 => ?_)
        rotate_left
        · exact absurd (by rw [e]) h6
        refine z_iload_n hX d8_grows_115 rfl ?_
        refine z_iret hX hE (by decide) (by decide) d8_grows_116 ?_
        exact cont P' g1 g2
      · rw [if_neg e] at cont
        have l1 : (gF a n 8 0 q).1 < 4096 := by rw [gF_1]; exact aF_lt (fun _ => mAt_lt p2 _) 8 0 hq
        have l2 : zpop q.1 < zpop (gF a n 8 0 q).1 := zpop_lt l1 (by rw [gF_1]; exact aF_sub _ 8 0 q.1) e
        exact ih (gF a n 8 0 q) (nI q.1) P' (by omega) l1 (fun z => e ((nI_eq (by omega) (by omega)).mp z).symm) g1 g2 cont
  refine z_iload_n hX d8_grows_0 rfl ?_
  refine z_istore_n hX 2 rfl (by decide) d8_grows_1 ?_
  dsimp only [z_p1, z_p2, z_k, List.headD, List.tail]
  refine z_iconst hX (-1) d8_grows_2 (by decide) ?_
  refine z_istore_n hX 3 rfl (by decide) d8_grows_3 ?_
  dsimp only [z_p1, z_p2, z_k, List.headD, List.tail]
  exact outer 13 (set, ld) (-1) P (by omega) p3 (fun z => by rw [i_eq, nI_toInt (show set < 2 ^ 31 by omega), show (-1 : Int32).toInt = -1 from rfl] at z; omega) hM hO hK
