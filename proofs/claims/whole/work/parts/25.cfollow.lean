/-! THE CLASS: what follows -/
def fS (A : Nat → Nat) (j : Nat) (q : Nat × List (Nat × Nat)) : Nat × List (Nat × Nat) := if zpop (zsd (A j) q.1) = 1 then (q.1 ||| zsd (A j) q.1, q.2 ++ [(Nat.log2 (zsd (A j) q.1), j)]) else q
def fF (A : Nat → Nat) : Nat → Nat → Nat × List (Nat × Nat) → Nat × List (Nat × Nat)
  | 0, _, q => q
  | k + 1, j, q => fF A k (j + 1) (fS A j q)
def fL (A : Nat → Nat) : Nat → Nat × List (Nat × Nat) → Nat × List (Nat × Nat)
  | 0, q => q
  | f + 1, q => if (fF A 8 0 q).1 = q.1 then fF A 8 0 q else fL A f (fF A 8 0 q)
theorem fS_1 (A : Nat → Nat) (j : Nat) (q : Nat × List (Nat × Nat)) : (fS A j q).1 = aS A j q.1 := by
  unfold fS aS
  split <;> rfl
theorem fF_1 (A : Nat → Nat) : ∀ k j q, (fF A k j q).1 = aF A k j q.1
  | 0, j, q => rfl
  | k + 1, j, q => by
    unfold fF aF
    rw [fF_1 A k (j + 1), fS_1]
theorem fL_1 (A : Nat → Nat) : ∀ f q, (fL A f q).1 = aL A f q.1
  | 0, q => rfl
  | f + 1, q => by
    unfold fL aL
    rw [fF_1]
    split
    · rw [fF_1]
    · rw [fL_1 A f, fF_1]
theorem zC_or {p q : Nat → Bool} (h : ∀ i, p i = true → q i = true → False) : ∀ n, zC (fun i => p i || q i) n = zC p n + zC q n
  | 0 => rfl
  | n + 1 => by
    have ih := zC_or h n
    unfold zC
    rw [ih]
    cases hp : p n with
    | false => cases hq : q n <;> simp <;> omega
    | true => cases hq : q n with
      | false => simp; omega
      | true => exact (h n hp hq).elim
theorem zpop_or {a b : Nat} (h : ∀ i, a.testBit i = true → b.testBit i = true → False) : zpop (a ||| b) = zpop a + zpop b := by
  unfold zpop
  rw [← zC_or h]
  congr 1
  funext i
  rw [Nat.testBit_or]
theorem zpop_or1 {x all : Nat} (h : zpop (zsd x all) = 1) : zpop (all ||| zsd x all) = zpop all + 1 := by
  rw [zpop_or, h]
  intro i h1 h2
  rw [zsd_t, h1] at h2
  simp at h2
theorem zC_bd {p : Nat → Bool} {n : Nat} (h : ∀ i, n ≤ i → p i = false) : ∀ N, zC p N ≤ n
  | 0 => Nat.zero_le _
  | N + 1 => by
    have ih := zC_bd h N
    have l := zC_le p N
    unfold zC
    rcases Nat.lt_or_ge N n with z | z
    · split <;> omega
    · rw [h N z]
      simp
      exact ih
theorem zpop_n {m n : Nat} (h : m < 2 ^ n) : zpop m ≤ n := zC_bd (fun i hi => Nat.testBit_lt_two_pow (Nat.lt_of_lt_of_le h (Nat.pow_le_pow_right (by decide) hi))) 12
theorem zpop_mono {a b : Nat} (h : zsub a b) : zpop a ≤ zpop b := zC_mono h 12
theorem aF_ne {A : Nat → Nat} {k j all : Nat} (h : zpop (zsd (A j) all) = 1) : aF A k (j + 1) (aS A j all) ≠ all := by
  intro q
  have h1 := zpop_mono (aF_sub A k (j + 1) (aS A j all))
  rw [q, show aS A j all = all ||| zsd (A j) all from if_pos h, zpop_or1 h] at h1
  omega
theorem or_ltn {a b n : Nat} (ha : a < 2 ^ n) (hb : b < 2 ^ n) : a ||| b < 2 ^ n := Nat.or_lt_two_pow ha hb
theorem zsd_ltn {a b n : Nat} (ha : a < 2 ^ n) : zsd a b < 2 ^ n := Nat.xor_lt_two_pow ha (Nat.lt_of_le_of_lt Nat.and_le_left ha)
theorem aS_ltn {A : Nat → Nat} {n : Nat} (hA : ∀ j, A j < 2 ^ n) {j all : Nat} (h : all < 2 ^ n) : aS A j all < 2 ^ n := by
  unfold aS
  split
  · exact or_ltn h (zsd_ltn (hA j))
  · exact h
theorem aF_ltn {A : Nat → Nat} {n : Nat} (hA : ∀ j, A j < 2 ^ n) : ∀ k j {all : Nat}, all < 2 ^ n → aF A k j all < 2 ^ n
  | 0, j, all, h => h
  | k + 1, j, all, h => aF_ltn hA k (j + 1) (aS_ltn hA h)
/-- the steps in their arrays -/
def zRel (L : List (Nat × Nat)) (fo fa : Nat → Int32) : Prop := ∀ (i : Nat) (e : Nat × Nat), L[i]? = some e → fo i = nI e.1 ∧ fa i = nI e.2
theorem zRel.add {L : List (Nat × Nat)} {fo fa : Nat → Int32} {r j : Nat} (h : zRel L fo fa) : zRel (L ++ [(r, j)]) (upd fo L.length (nI r)) (upd fa L.length (nI j)) := by
  intro i e he
  by_cases hl : i < L.length
  · rw [List.getElem?_append_left hl] at he
    rw [pk_un (by omega), pk_un (by omega)]
    exact h i e he
  · rw [List.getElem?_append_right (by omega)] at he
    have h0 : i - L.length < 1 := (List.getElem?_eq_some_iff.mp he).1
    have hi : i = L.length := by omega
    subst hi
    rw [Nat.sub_self] at he
    cases he
    rw [pk_us, pk_us]
    exact ⟨rfl, rfl⟩
theorem fF_len (A : Nat → Nat) : ∀ k j q, q.2.length ≤ zpop q.1 → (fF A k j q).2.length ≤ zpop (fF A k j q).1
  | 0, j, q, h => h
  | k + 1, j, q, h => by
    refine fF_len A k (j + 1) (fS A j q) ?_
    unfold fS
    split
    · rename_i e
      rw [zpop_or1 e, List.length_append]
      show q.2.length + 1 ≤ _
      omega
    · exact h
def S2_follow : z_PT := fun as P nx K => ∃ (rf : Nat → Option Nat) (ra : Nat → Int32) (ld : Nat → Int64) (fo fa : Nat → Int32) (st n kn to : Nat) (A : Nat → Nat) (set : Nat), as = [.ref 15, .int (nI set)] ∧ z_in (zN rf ra ld fo fa st n kn to) P ∧ zRa ra A n ∧ set < 2 ^ n ∧ ∀ (fo2 fa2 : Nat → Int32) (P' : z_H), zRel (fL A 13 (set, [])).2 fo2 fa2 → z_in (zN rf ra ld fo2 fa2 (fL A 13 (set, [])).2.length n kn to) P' → z_out zDn P P' → K (some (.int (nI (fL A 13 (set, [])).1))) P' nx
set_option maxRecDepth 4000 in
theorem sp2_follow (l : Launch) : z_Sp l M2_follow rM2_follow S2_follow := by
  refine z_enter (by decide) (fun as P nx K h => ?_) (fun X K as P nx hX hE hin0 hS => ?_)
  · obtain ⟨rf, ra, ld, fo, fa, st, n, kn, to, A, set, rfl, -⟩ := h
    exact Nat.le_of_ble_eq_true rfl
  obtain ⟨rf, ra, ld, fo, fa, st, n, kn, to, A, set, rfl, hM, ⟨w0, w1, w2⟩, p2, hK⟩ := hS
  refine z_pad 5 ?_
  show z_W X 0 [some (.ref 15), some (.int (nI set)), none, none, none, none, none] [] P nx 0 0
  have hpw := pw_le w0
  have hA4 : ∀ j, A j < 4096 := fun j => Nat.lt_of_lt_of_le (w1 j) hpw
  obtain ⟨P0, hP0⟩ : ∃ P0, P0 = P := ⟨_, rfl⟩
  rw [← hP0] at hK
  have hO : z_out zDn P0 P := by rw [hP0]; exact z_out.rf
  have inner : ∀ (rd k j : Nat) (m : Bool) (q : Nat × List (Nat × Nat)) (fo fa : Nat → Int32) (P : z_H), j + k = 8 → q.1 < 2 ^ n → q.2.length ≤ zpop q.1 → z_in (zN rf ra ld fo fa q.2.length n kn to) P → z_out zDn P0 P → zRel q.2 fo fa → (∀ (fo2 fa2 : Nat → Int32) (P' : z_H), zRel (fF A k j q).2 fo2 fa2 → z_in (zN rf ra ld fo2 fa2 (fF A k j q).2.length n kn to) P' → z_out zDn P0 P' → z_W X 116 [some (.ref 15), some (.int (nI set)), some (.int (nI (fF A k j q).1)), some (.int (zb (m || decide (¬ aF A k j q.1 = q.1)))), some (.int (nI rd)), none, none] [] P' nx 0 0) → z_W X 30 [some (.ref 15), some (.int (nI set)), some (.int (nI q.1)), some (.int (zb m)), some (.int (nI rd)), some (.int (nI j)), none] [] P nx 0 0 := by
    intro rd k
    induction k with
    | zero =>
      intro j m q fo fa P hj hq hI hM hO hR cont
      have hj : j = 8 := by omega
      subst hj
      have cont : ∀ (fo2 fa2 : Nat → Int32) (P' : z_H), zRel q.2 fo2 fa2 → z_in (zN rf ra ld fo2 fa2 q.2.length n kn to) P' → z_out zDn P0 P' → z_W X 116 [some (.ref 15), some (.int (nI set)), some (.int (nI q.1)), some (.int (zb m)), some (.int (nI rd)), some (.int (nI 8)), none] [] P' nx 0 0 := fun fo2 fa2 P' g1 g2 g3 => by
        have c2 := cont fo2 fa2 P' g1 g2 g3
        rw [show (m || decide (¬ aF A 0 8 q.1 = q.1)) = m from by rw [decide_eq_false (fun z => z rfl)]; exact Bool.or_false m] at c2
        exact z_sub c2 (by repeat' (first | exact trivial | refine ⟨rfl, ?_⟩))
      refine z_iload hX d2_follow_30 rfl ?_
      refine z_bipush hX (8) d2_follow_32 (by decide) ?_
      refine z_icmp_ge hX 116 d2_follow_34 (by decide) (fun h34 => ?_) (fun h34 => ?_)
      rotate_left
      · exact absurd (by decide) h34
      exact cont fo fa P hR hM hO
    | succ k ih =>
      intro j m q fo fa P hj hq hI hM hO hR cont
      refine z_iload hX d2_follow_30 rfl ?_
      refine z_bipush hX (8) d2_follow_32 (by decide) ?_
      refine z_icmp_ge hX 116 d2_follow_34 (by decide) (fun h34 => ?_) (fun h34 => ?_)
      · exact absurd h34 (nI_ge (b := 8) (by omega) (by decide))
      refine z_aload_n hX d2_follow_37 rfl ?_
      refine z_get hX lf_2_17 (hM _ _ rfl) rfl d2_follow_38 ?_
      refine z_iload hX d2_follow_41 rfl ?_
      refine z_iald hX (hM _ _ rfl) (vp_in_nI (by omega) (by decide)) d2_follow_43 ?_
      rw [nI_clamp (show j < 2 ^ 31 by omega), w2 j (by omega)]
      refine z_iload_n hX d2_follow_44 rfl ?_
      refine z_iconst hX (-1) d2_follow_45 (by decide) ?_
      refine z_ixor hX d2_follow_46 ?_
      refine z_iand hX d2_follow_47 ?_
      rw [fa_sd]
      obtain ⟨o, ho⟩ : ∃ o, o = zsd (A j) q.1 := ⟨_, rfl⟩
      rw [← ho]
      have ho4 : o < 4096 := by rw [ho]; exact zsd_lt (hA4 j)
      have hpo := zpop_le o
      refine z_istore hX (by decide) d2_follow_48 ?_
      dsimp only [z_p1, z_p2, z_k, List.headD, List.tail]
      refine z_iload hX d2_follow_50 rfl ?_
      refine z_callS1 hX (spI_bitCount l) lm_2_90 ⟨by decide, by decide, by decide, by decide⟩ (Nat.le_of_ble_eq_true rfl) d2_follow_52 ?_
      refine ⟨o, rfl, ho4, ?_⟩
      dsimp only [Option.toList, List.cons_append, List.nil_append]
      refine z_iconst hX (1) d2_follow_55 (by decide) ?_
      refine z_icmp_ne hX 110 d2_follow_56 (by decide) (fun h56 => ?_) (fun h56 => ?_)
      · skip
        have e1 : ¬ zpop o = 1 := fun z => h56 (by rw [z]; rfl)
        have es : fS A j q = q := if_neg (by rw [← ho]; exact e1)
        have ea : aS A j q.1 = q.1 := if_neg (by rw [← ho]; exact e1)
        have nxt := ih (j + 1) m q fo fa P (by omega) hq hI hM hO hR (by
          have c2 := cont
          rw [show fF A (k + 1) j q = fF A k (j + 1) q from by show fF A k (j + 1) (fS A j q) = _; rw [es], show aF A (k + 1) j q.1 = aF A k (j + 1) q.1 from by show aF A k (j + 1) (aS A j q.1) = _; rw [ea]] at c2
          exact c2)
        refine z_iinc hX (1) (by decide) rfl (by decide) d2_follow_110 ?_
        dsimp only [z_p1, z_p2, z_k, List.headD, List.tail]
        refine z_goto hX 30 d2_follow_113 (by decide) ?_
        rw [nI_1]
        try rw [fa_or]
        exact z_sub nxt (by repeat' (first | exact trivial | refine ⟨rfl, ?_⟩))
      · skip
        have e1 : zpop o = 1 := (nI_eq (b := 1) (by omega) (by decide)).mp h56
        obtain ⟨g1, g2⟩ := one_log o ho4 e1
        have e1' : zpop (zsd (A j) q.1) = 1 := by rw [← ho]; exact e1
        have es : fS A j q = (q.1 ||| o, q.2 ++ [(Nat.log2 o, j)]) := by unfold fS; rw [← ho, if_pos e1]
        have hor : zpop (q.1 ||| o) = zpop q.1 + 1 := by rw [ho]; exact zpop_or1 e1'
        have hor2 := zpop_le (q.1 ||| o)
        have hlen : q.2.length < 12 := by omega
        refine z_aload_n hX d2_follow_59 rfl ?_
        refine z_get hX lf_2_74 (hM _ _ rfl) rfl d2_follow_60 ?_
        refine z_bipush hX (12) d2_follow_63 (by decide) ?_
        refine z_icmp_ge hX 110 d2_follow_65 (by decide) (fun h65 => ?_) (fun h65 => ?_)
        · exact absurd h65 (nI_ge (b := 12) (by omega) (by decide))
        refine z_aload_n hX d2_follow_68 rfl ?_
        refine z_get hX lf_2_25 (hM _ _ rfl) rfl d2_follow_69 ?_
        refine z_aload_n hX d2_follow_72 rfl ?_
        refine z_get hX lf_2_74 (hM _ _ rfl) rfl d2_follow_73 ?_
        refine z_iload hX d2_follow_76 rfl ?_
        rw [show nI o = nI (2 ^ Nat.log2 o) from by rw [← g1]]
        refine z_callS1 hX (spI_numberOfTrailingZeros l) lm_2_95 ⟨by decide, by decide, by decide, by decide⟩ (Nat.le_of_ble_eq_true rfl) d2_follow_78 ?_
        refine ⟨Nat.log2 o, rfl, g2, ?_⟩
        dsimp only [Option.toList, List.cons_append, List.nil_append]
        rw [← g1]
        refine z_iast hX (hM _ _ rfl) (vp_in_nI hlen (by decide)) d2_follow_81 ?_
        rw [nI_clamp (show q.2.length < 2 ^ 31 by omega)]
        refine z_gen hM hO rfl (fun P hM hO => ?_)
        have hM := zN_fo hM
        refine z_aload_n hX d2_follow_82 rfl ?_
        refine z_get hX lf_2_28 (hM _ _ rfl) rfl d2_follow_83 ?_
        refine z_aload_n hX d2_follow_86 rfl ?_
        refine z_get hX lf_2_74 (hM _ _ rfl) rfl d2_follow_87 ?_
        refine z_iload hX d2_follow_90 rfl ?_
        refine z_iast hX (hM _ _ rfl) (vp_in_nI hlen (by decide)) d2_follow_92 ?_
        rw [nI_clamp (show q.2.length < 2 ^ 31 by omega)]
        refine z_gen hM hO rfl (fun P hM hO => ?_)
        have hM := zN_fa hM
        refine z_aload_n hX d2_follow_93 rfl ?_
        refine z_dup hX rfl d2_follow_94 ?_
        refine z_get hX lf_2_74 (hM _ _ rfl) rfl d2_follow_95 ?_
        refine z_iconst hX (1) d2_follow_98 (by decide) ?_
        refine z_iadd hX d2_follow_99 ?_
        rw [nI_1]
        refine z_puti hX lf_2_74 rfl rfl (hM _ _ rfl) (Nat.le_of_ble_eq_true rfl) d2_follow_100 ?_
        refine z_gen hM hO rfl (fun P hM hO => ?_)
        have hM := zN_st hM
        have nxt := ih (j + 1) true (fS A j q) (upd fo q.2.length (nI (Nat.log2 o))) (upd fa q.2.length (nI j)) P (by omega) (by rw [fS_1]; exact aS_ltn w1 hq) (by rw [es]; show (q.2 ++ [(Nat.log2 o, j)]).length ≤ zpop (q.1 ||| o); rw [List.length_append, hor]; show q.2.length + 1 ≤ _; omega) (by rw [es]; show z_in (zN rf ra ld _ _ (q.2 ++ [(Nat.log2 o, j)]).length n kn to) P; rw [List.length_append]; exact hM) hO (by rw [es]; exact hR.add) (by
          have c2 := cont
          rw [show (m || decide (¬ aF A (k + 1) j q.1 = q.1)) = true from by rw [decide_eq_true (show ¬ aF A (k + 1) j q.1 = q.1 from aF_ne e1')]; exact Bool.or_true m] at c2
          rw [Bool.true_or]
          exact c2)
        rw [es] at nxt
        refine z_iload_n hX d2_follow_103 rfl ?_
        refine z_iload hX d2_follow_104 rfl ?_
        refine z_ior hX d2_follow_106 ?_
        refine z_istore_n hX 2 rfl (by decide) d2_follow_107 ?_
        dsimp only [z_p1, z_p2, z_k, List.headD, List.tail]
        refine z_iconst hX (1) d2_follow_108 (by decide) ?_
        refine z_istore_n hX 3 rfl (by decide) d2_follow_109 ?_
        dsimp only [z_p1, z_p2, z_k, List.headD, List.tail]
        refine z_iinc hX (1) (by decide) rfl (by decide) d2_follow_110 ?_
        dsimp only [z_p1, z_p2, z_k, List.headD, List.tail]
        refine z_goto hX 30 d2_follow_113 (by decide) ?_
        rw [nI_1]
        try rw [fa_or]
        exact z_sub nxt (by repeat' (first | exact trivial | refine ⟨rfl, ?_⟩))
  have outer : ∀ (f rd : Nat) (q : Nat × List (Nat × Nat)) (fo fa : Nat → Int32) (P : z_H), 12 < f + zpop q.1 → rd ≤ zpop q.1 → q.1 < 2 ^ n → q.2.length ≤ zpop q.1 → z_in (zN rf ra ld fo fa q.2.length n kn to) P → z_out zDn P0 P → zRel q.2 fo fa → (∀ (fo2 fa2 : Nat → Int32) (P' : z_H), zRel (fL A f q).2 fo2 fa2 → z_in (zN rf ra ld fo2 fa2 (fL A f q).2.length n kn to) P' → z_out zDn P0 P' → K (some (.int (nI (fL A f q).1))) P' nx) → z_W X 12 [some (.ref 15), some (.int (nI set)), some (.int (nI q.1)), some (.int 1), some (.int (nI rd)), none, none] [] P nx 0 0 := by
    intro f
    induction f with
    | zero =>
      intro rd q fo fa P h1
      have := zpop_le q.1
      omega
    | succ f ih =>
      intro rd q fo fa P h1 hrd hq hI hM hO hR cont
      have hpn := zpop_n hq
      have cont2 : ∀ (fo2 fa2 : Nat → Int32) (P' : z_H), zRel (fF A 8 0 q).2 fo2 fa2 → z_in (zN rf ra ld fo2 fa2 (fF A 8 0 q).2.length n kn to) P' → z_out zDn P0 P' → z_W X 116 [some (.ref 15), some (.int (nI set)), some (.int (nI (fF A 8 0 q).1)), some (.int (zb (false || decide (¬ aF A 8 0 q.1 = q.1)))), some (.int (nI rd)), none, none] [] P' nx 0 0 := by
        intro fo fa P hR hM hO
        by_cases e : (fF A 8 0 q).1 = q.1
        · rw [show fL A (f + 1) q = fF A 8 0 q from if_pos e] at cont
          rw [show (false || decide (¬ aF A 8 0 q.1 = q.1)) = false from by rw [decide_eq_false (fun z => z (by rw [← fF_1]; exact e))]; rfl]
          refine z_iinc hX (1) (by decide) rfl (by decide) d2_follow_116 ?_
          dsimp only [z_p1, z_p2, z_k, List.headD, List.tail]
          refine z_goto hX 12 d2_follow_119 (by decide) ?_
          refine z_iload_n hX d2_follow_12 rfl ?_
          refine z_if_eq hX 122 d2_follow_13 (by decide) (fun h13 => ?_) (fun h13 => ?_)
          rotate_left
          · exact absurd rfl h13
          refine z_iload_n hX d2_follow_122 rfl ?_
          refine z_iret hX hE (by decide) (by decide) d2_follow_123 ?_
          exact cont fo fa P hR hM hO
        · rw [show fL A (f + 1) q = fL A f (fF A 8 0 q) from if_neg e] at cont
          rw [show (false || decide (¬ aF A 8 0 q.1 = q.1)) = true from by rw [decide_eq_true (show ¬ aF A 8 0 q.1 = q.1 from fun z => e (by rw [fF_1]; exact z))]; rfl]
          have l1 : (fF A 8 0 q).1 < 2 ^ n := by rw [fF_1]; exact aF_ltn w1 8 0 hq
          have l2 : zpop q.1 < zpop (fF A 8 0 q).1 := zpop_lt (by omega) (by rw [fF_1]; exact aF_sub _ 8 0 q.1) e
          have nxt := ih (rd + 1) (fF A 8 0 q) fo fa P (by omega) (by omega) l1 (fF_len A 8 0 q hI) hM hO hR cont
          refine z_iinc hX (1) (by decide) rfl (by decide) d2_follow_116 ?_
          dsimp only [z_p1, z_p2, z_k, List.headD, List.tail]
          refine z_goto hX 12 d2_follow_119 (by decide) ?_
          rw [nI_1]
          exact nxt
      refine z_iload_n hX d2_follow_12 rfl ?_
      refine z_if_eq hX 122 d2_follow_13 (by decide) (fun h13 => ?_) (fun h13 => ?_)
      · exact absurd h13 (by decide)
      refine z_iload hX d2_follow_16 rfl ?_
      refine z_aload_n hX d2_follow_18 rfl ?_
      refine z_get hX lf_2_31 (hM _ _ rfl) rfl d2_follow_19 ?_
      refine z_icmp_gt hX 122 d2_follow_22 (by decide) (fun h22 => ?_) (fun h22 => ?_)
      · rw [i_lt, nI_toInt (by omega), nI_toInt (by omega)] at h22
        omega
      refine z_iconst hX (0) d2_follow_25 (by decide) ?_
      refine z_istore_n hX 3 rfl (by decide) d2_follow_26 ?_
      dsimp only [z_p1, z_p2, z_k, List.headD, List.tail]
      refine z_iconst hX (0) d2_follow_27 (by decide) ?_
      refine z_istore hX (by decide) d2_follow_28 ?_
      dsimp only [z_p1, z_p2, z_k, List.headD, List.tail]
      exact inner rd 8 0 false q fo fa P rfl hq hI hM hO hR cont2
  refine z_iload_n hX d2_follow_0 rfl ?_
  refine z_istore_n hX 2 rfl (by decide) d2_follow_1 ?_
  dsimp only [z_p1, z_p2, z_k, List.headD, List.tail]
  refine z_aload_n hX d2_follow_2 rfl ?_
  refine z_iconst hX (0) d2_follow_3 (by decide) ?_
  refine z_puti hX lf_2_74 rfl rfl (hM _ _ rfl) (Nat.le_of_ble_eq_true rfl) d2_follow_4 ?_
  refine z_gen hM hO rfl (fun P hM hO => ?_)
  have hM := zN_st (m := 0) hM
  refine z_iconst hX (1) d2_follow_7 (by decide) ?_
  refine z_istore_n hX 3 rfl (by decide) d2_follow_8 ?_
  dsimp only [z_p1, z_p2, z_k, List.headD, List.tail]
  refine z_iconst hX (0) d2_follow_9 (by decide) ?_
  refine z_istore hX (by decide) d2_follow_10 ?_
  dsimp only [z_p1, z_p2, z_k, List.headD, List.tail]
  exact outer 13 0 (set, []) fo fa P (by omega) (Nat.zero_le _) p2 (Nat.zero_le _) hM hO (fun i e he => by simp at he) hK
def S2_isEnough : z_PT := fun as P nx K => ∃ (rf : Nat → Option Nat) (ra : Nat → Int32) (ld : Nat → Int64) (fo fa : Nat → Int32) (st n kn to : Nat) (A : Nat → Nat) (set : Nat), as = [.ref 15, .int (nI set)] ∧ z_in (zN rf ra ld fo fa st n kn to) P ∧ zRa ra A n ∧ set < 2 ^ n ∧ ∀ (fo2 fa2 : Nat → Int32) (st2 : Nat) (P' : z_H), z_in (zN rf ra ld fo2 fa2 st2 n kn to) P' → z_out zDn P P' → K (some (.int (zb (pOk A n set)))) P' nx
theorem sp2_isEnough (l : Launch) : z_Sp l M2_isEnough rM2_isEnough S2_isEnough := by
  refine z_enter (by decide) (fun as P nx K h => ?_) (fun X K as P nx hX hE hin0 hS => ?_)
  · obtain ⟨rf, ra, ld, fo, fa, st, n, kn, to, A, set, rfl, -⟩ := h
    exact Nat.le_of_ble_eq_true rfl
  obtain ⟨rf, ra, ld, fo, fa, st, n, kn, to, A, set, rfl, hM, pA, p2, hK⟩ := hS
  show z_W X 0 [some (.ref 15), some (.int (nI set))] [] P nx 0 0
  have hpw := pw_le pA.1
  have h4 : aL A 13 set < 4096 := aL_lt (fun j => Nat.lt_of_lt_of_le (pA.2.1 j) hpw) 13 (by omega)
  refine z_aload_n hX d2_isEnough_0 rfl ?_
  refine z_iload_n hX d2_isEnough_1 rfl ?_
  refine z_callV1 hX (sp2_follow l) lm_2_70 (hM _ _ rfl) ⟨by decide, by decide, by decide, by decide⟩ (Nat.le_of_ble_eq_true rfl) d2_isEnough_2 ?_
  refine ⟨rf, ra, ld, fo, fa, st, n, kn, to, A, set, rfl, hM, pA, p2, fun fo2 fa2 P hR hM hO => ?_⟩
  rw [fL_1]
  dsimp only [Option.toList, List.cons_append, List.nil_append]
  refine z_iconst hX (1) d2_isEnough_5 (by decide) ?_
  refine z_aload_n hX d2_isEnough_6 rfl ?_
  refine z_get hX lf_2_31 (hM _ _ rfl) rfl d2_isEnough_7 ?_
  refine z_ishl hX d2_isEnough_10 ?_
  refine z_iconst hX (1) d2_isEnough_11 (by decide) ?_
  refine z_isub hX d2_isEnough_12 ?_
  rw [pw_s pA.1]
  refine z_icmp_ne hX 20 d2_isEnough_13 (by decide) (fun h13 => ?_) (fun h13 => ?_)
  · skip
    rw [show pOk A n set = false from decide_eq_false (fun z => h13 (by rw [z]))] at hK
    refine z_iconst hX (0) d2_isEnough_20 (by decide) ?_
    refine z_zret hX hE (by decide) (by decide) (by decide) d2_isEnough_21 ?_
    exact hK _ _ _ P hM hO
  · skip
    rw [nI_eq (by omega) (by omega)] at h13
    rw [show pOk A n set = true from decide_eq_true h13] at hK
    refine z_iconst hX (1) d2_isEnough_16 (by decide) ?_
    refine z_goto hX 21 d2_isEnough_17 (by decide) ?_
    refine z_zret hX hE (by decide) (by decide) (by decide) d2_isEnough_21 ?_
    exact hK _ _ _ P hM hO
