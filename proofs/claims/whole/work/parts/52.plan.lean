/-! THE PLAN: taking meters off, the dearest first, leaves the cheapest set that does -/
theorem span_x {B : Nat → Nat} {n P G : Nat} (hs : ∀ e, e < n → P.testBit e = true → ∃ Y, Y < 2 ^ n ∧ zsub Y G ∧ px B n Y = ve B e) {X : Nat} (hX : zsub X P) : ∀ b, b ≤ n → ∃ Y, Y < 2 ^ n ∧ zsub Y G ∧ px B n Y = px B b X
  | 0, _ => ⟨0, Nat.two_pow_pos n, fun i hi => by simp at hi, px_0 n⟩
  | b + 1, hb => by
    obtain ⟨Y, y1, y2, y3⟩ := span_x hs hX b (by omega)
    cases e : X.testBit b with
    | false =>
      refine ⟨Y, y1, y2, ?_⟩
      rw [y3]
      show _ = px B b X ^^^ (if X.testBit b = true then ve B b else 0)
      rw [e]
      simp
    | true =>
      obtain ⟨Z, z1, z2, z3⟩ := hs b (by omega) (hX b e)
      refine ⟨Y ^^^ Z, Nat.xor_lt_two_pow y1 z1, zsub_x y2 z2, ?_⟩
      rw [px_x, y3, z3]
      show _ = px B b X ^^^ (if X.testBit b = true then ve B b else 0)
      rw [e, if_pos rfl]
theorem rank {B : Nat → Nat} {n P G I : Nat} (hs : ∀ e, e < n → P.testBit e = true → ∃ Y, Y < 2 ^ n ∧ zsub Y G ∧ px B n Y = ve B e) (hI : ind B n I) (hIP : zsub I P) : zC (fun i => I.testBit i) n ≤ zC (fun i => G.testBit i) n := by
  have h1 : ∀ X : Nat, ∃ Y : Nat, zsub X I → Y < 2 ^ n ∧ zsub Y G ∧ px B n Y = px B n X := fun X => by
    by_cases h : zsub X I
    · obtain ⟨Y, hY⟩ := span_x hs (fun i hi => hIP i (h i hi)) n (Nat.le_refl n)
      exact ⟨Y, fun _ => hY⟩
    · exact ⟨0, fun z => absurd z h⟩
  obtain ⟨f, hf⟩ := Classical.axiomOfChoice h1
  refine pop_inj (f := f) (fun X _ h => ⟨(hf X h).1, (hf X h).2.1⟩) (fun X Y x1 x2 y1 y2 hXY => ?_)
  refine xor_0 (hI _ (Nat.xor_lt_two_pow x1 y1) (zsub_x x2 y2) ?_)
  rw [px_x, ← (hf X x2).2.2, ← (hf Y y2).2.2, hXY, Nat.xor_self]
theorem dep_span {B : Nat → Nat} {n G e : Nat} (he : e < n) (hG : ind B n G) (hd : ¬ ind B n (G ||| 2 ^ e)) : ∃ Y, Y < 2 ^ n ∧ zsub Y G ∧ px B n Y = ve B e := by
  refine Classical.byContradiction (fun hno => hd (fun D h1 h2 h3 => ?_))
  by_cases hb : D.testBit e = true
  · exfalso
    refine hno ⟨zsd D (2 ^ e), zsd_ltn h1, fun i hi => ?_, ?_⟩
    · rw [zsd_t, Bool.and_eq_true, Nat.testBit_two_pow] at hi
      have := h2 i hi.1
      rw [Nat.testBit_or, Nat.testBit_two_pow, Bool.or_eq_true] at this
      rcases this with q | q
      · exact q
      · rw [q] at hi
        exact absurd hi.2 (by decide)
    · have eD : D = zsd D (2 ^ e) ^^^ 2 ^ e := by
        refine Nat.eq_of_testBit_eq (fun i => ?_)
        rw [Nat.testBit_xor, zsd_t, Nat.testBit_two_pow]
        by_cases q : e = i
        · subst q; simp [hb]
        · simp [q]
      rw [eD, px_x, px_1, if_pos he] at h3
      exact xor_0 h3
  · refine hG D h1 (fun i hi => ?_) h3
    have := h2 i hi
    rw [Nat.testBit_or, Nat.testBit_two_pow, Bool.or_eq_true, decide_eq_true_eq] at this
    rcases this with q | q
    · exact q
    · subst q; exact absurd hi hb
/-! what follows, and rings -/
theorem aS_dis {A : Nat → Nat} {D j all : Nat} (hA : A j < 4096) (hne : zpop (D &&& A j) ≠ 1) (h : ∀ i, D.testBit i = true → all.testBit i = false) : ∀ i, D.testBit i = true → (aS A j all).testBit i = false := fun i hi => by
  unfold aS
  split
  · rename_i h1
    rw [Nat.testBit_or, h i hi, Bool.false_or]
    cases e : (zsd (A j) all).testBit i with
    | false => rfl
    | true =>
      exfalso
      have hsub : zsub (D &&& A j) (zsd (A j) all) := fun k hk => by
        rw [Nat.testBit_and, Bool.and_eq_true] at hk
        rw [zsd_t, hk.2, h k hk.1]
        rfl
      have h2 := zpop_mono hsub
      have h3 : 0 < zpop (D &&& A j) := by
        refine zC_pos (k := i) 12 ?_ ?_
        · refine Decidable.byContradiction (fun z => ?_)
          rw [zsd_t, lt4096_t hA (by omega)] at e
          cases e
        · rw [zsd_t, Bool.and_eq_true] at e
          show (D &&& A j).testBit i = true
          rw [Nat.testBit_and, hi, e.1]
          rfl
      omega
  · exact h i hi
theorem aF_dis {A : Nat → Nat} {D : Nat} (hA : ∀ j, A j < 4096) (hne : ∀ j, j < 8 → zpop (D &&& A j) ≠ 1) : ∀ k j {all : Nat}, j + k ≤ 8 → (∀ i, D.testBit i = true → all.testBit i = false) → ∀ i, D.testBit i = true → (aF A k j all).testBit i = false
  | 0, j, all, _, h => h
  | k + 1, j, all, hj, h => by
    unfold aF
    exact aF_dis hA hne k (j + 1) (by omega) (aS_dis (hA j) (hne j (by omega)) h)
theorem aL_dis {A : Nat → Nat} {D : Nat} (hA : ∀ j, A j < 4096) (hne : ∀ j, j < 8 → zpop (D &&& A j) ≠ 1) : ∀ f {all : Nat}, (∀ i, D.testBit i = true → all.testBit i = false) → ∀ i, D.testBit i = true → (aL A f all).testBit i = false
  | 0, all, h => h
  | f + 1, all, h => by
    unfold aL
    have := aF_dis hA hne 8 0 (by omega) h
    split
    · exact this
    · exact aL_dis hA hne f this
theorem aF_fix {A : Nat → Nat} {all : Nat} : ∀ k j i, j ≤ i → i < j + k → zpop (zsd (A i) all) = 1 → aF A k j all ≠ all
  | 0, j, i, h1, h2, _ => absurd h1 (by omega)
  | k + 1, j, i, h1, h2, h3 => by
    unfold aF
    by_cases e : zpop (zsd (A j) all) = 1
    · exact aF_ne e
    · rw [show aS A j all = all from if_neg e]
      exact aF_fix k (j + 1) i (by
        refine Nat.lt_of_le_of_ne h1 (fun z => e ?_)
        rw [z]; exact h3) (by omega) h3
theorem aL_fix {A : Nat → Nat} (hA : ∀ j, A j < 4096) : ∀ f all, all < 4096 → aF A 8 0 (aL A f all) = aL A f all ∨ zpop all + f ≤ zpop (aL A f all)
  | 0, all, _ => Or.inr (Nat.le_refl _)
  | f + 1, all, h => by
    unfold aL
    split
    · rename_i e
      rw [e]
      exact Or.inl e
    · rename_i e
      have h1 := aF_lt hA 8 0 h
      have h2 := zpop_lt h1 (aF_sub A 8 0 all) e
      rcases aL_fix hA f (aF A 8 0 all) h1 with q | q
      · exact Or.inl q
      · exact Or.inr (by omega)
theorem aL_13 {A : Nat → Nat} (hA : ∀ j, A j < 4096) {all : Nat} (h : all < 4096) : ∀ j, j < 8 → zpop (zsd (A j) (aL A 13 all)) ≠ 1 := fun j hj z => by
  rcases aL_fix hA 13 all h with q | q
  · exact aF_fix 8 0 j (by omega) (by omega) z q
  · have := zpop_le (aL A 13 all)
    omega
theorem aL_ltn {A : Nat → Nat} {n : Nat} (hA : ∀ j, A j < 2 ^ n) : ∀ f {all : Nat}, all < 2 ^ n → aL A f all < 2 ^ n
  | 0, all, h => h
  | f + 1, all, h => by
    unfold aL
    split
    · exact aF_ltn hA 8 0 h
    · exact aL_ltn hA f (aF_ltn hA 8 0 h)
theorem full_t (n i : Nat) : (2 ^ n - 1).testBit i = decide (i < n) := Nat.testBit_two_pow_sub_one n i
theorem pk_ok {A B : Nat → Nat} {n S : Nat} (hn : n ≤ 12) (hA : ∀ j, A j < 2 ^ n) (hAB : ∀ j, j < 8 → A j = B j) (hB : ∀ r, r < n → zC (fun v => (B v).testBit r) 9 = 2) (hS : S < 2 ^ n) : pOk A n S = true ↔ ind B n (zsd (2 ^ n - 1) S) := by
  have hA4 : ∀ j, A j < 4096 := fun j => Nat.lt_of_lt_of_le (hA j) (pw_le hn)
  have hcnt : ∀ D j, D < 2 ^ n → j < 8 → zpop (D &&& A j) = zC (fun r => D.testBit r && (B j).testBit r) n := fun D j hD hj => by
    rw [zpop_e (Nat.lt_of_le_of_lt Nat.and_le_left hD) hn, ← hAB j hj]
    exact zC_ext n (fun i _ => Nat.testBit_and D (A j) i)
  unfold pOk
  rw [decide_eq_true_eq]
  constructor
  · intro hfull D h1 h2 h3
    refine Decidable.byContradiction (fun h0 => ?_)
    have hne : ∀ j, j < 8 → zpop (D &&& A j) ≠ 1 := fun j hj z => by
      rw [hcnt D j h1 hj] at z
      have q := px_t (B := B) (X := D) (show j < 9 by omega) n
      rw [h3, z] at q
      simp at q
    obtain ⟨i, hi⟩ := Nat.exists_testBit_of_ne_zero h0
    have q := aL_dis hA4 hne 13 (all := S) (fun k hk => by
      have := h2 k hk
      rw [zsd_t, Bool.and_eq_true] at this
      simpa using this.2) i hi
    have q2 := h2 i hi
    rw [zsd_t, Bool.and_eq_true] at q2
    rw [hfull, q2.1] at q
    cases q
  · intro hi
    refine Nat.eq_of_testBit_eq (fun i => ?_)
    have hlt := aL_ltn hA 13 hS
    obtain ⟨D, hDe⟩ : ∃ D, D = zsd (2 ^ n - 1) (aL A 13 S) := ⟨_, rfl⟩
    have hD : D < 2 ^ n := by rw [hDe]; exact zsd_ltn (by have := Nat.two_pow_pos n; omega)
    have hDs : zsub D (zsd (2 ^ n - 1) S) := fun k hk => by
      rw [hDe, zsd_t, Bool.and_eq_true] at hk
      rw [zsd_t, hk.1]
      cases e : S.testBit k with
      | false => rfl
      | true =>
        have := zsub_aL A 13 S k e
        rw [this] at hk
        exact absurd hk.2 (by decide)
    by_cases h0 : D = 0
    · have q := congrArg (fun w => w.testBit i) (hDe.symm.trans h0)
      simp only [zsd_t, Nat.zero_testBit] at q
      rw [full_t] at q ⊢
      by_cases e : i < n
      · rw [decide_eq_true e] at q ⊢
        simpa using q
      · rw [decide_eq_false e]
        exact Nat.testBit_lt_two_pow (Nat.lt_of_lt_of_le hlt (Nat.pow_le_pow_right (by decide) (by omega)))
    · obtain ⟨j, hj, hc⟩ := leaf hB hD h0 (hi.sub hDs)
      rw [← hcnt D j hD hj] at hc
      have ee : D &&& A j = zsd (A j) (aL A 13 S) := by
        refine Nat.eq_of_testBit_eq (fun k => ?_)
        rw [Nat.testBit_and, hDe, zsd_t, zsd_t, full_t]
        by_cases e : k < n
        · rw [decide_eq_true e, Bool.true_and, Bool.and_comm]
        · rw [Nat.testBit_lt_two_pow (Nat.lt_of_lt_of_le (hA j) (Nat.pow_le_pow_right (by decide) (show n ≤ k by omega)))]
          simp
      rw [ee] at hc
      exact absurd hc (aL_13 hA4 (Nat.lt_of_lt_of_le hS (pw_le hn)) j hj)
