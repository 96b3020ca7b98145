/-! SUMS over days, in any order -/
theorem zS_ext {f g : Nat → Int64} : ∀ n, (∀ i, i < n → f i = g i) → zS f n = zS g n
  | 0, _ => rfl
  | n + 1, h => by
    unfold zS
    rw [zS_ext n (fun i hi => h i (by omega)), h n (by omega)]
theorem zS_one {f g : Nat → Int64} {k : Nat} : ∀ n, k < n → (∀ i, i < n → i ≠ k → g i = f i) → f k = 0 → zS g n = zS f n + g k
  | 0, h, _, _ => absurd h (Nat.not_lt_zero k)
  | n + 1, h, he, h0 => by
    unfold zS
    by_cases e : k = n
    · subst e
      rw [zS_ext k (fun i hi => he i (by omega) (by omega)), h0]
      grind
    · rw [zS_one n (by omega) (fun i hi hk => he i (by omega) hk) h0, he n (by omega) (fun z => e z.symm)]
      grind
theorem zS_add (f : Nat → Int64) (a : Nat) : ∀ b, zS f (a + b) = zS f a + zS (fun i => f (a + i)) b
  | 0 => by show zS f a = zS f a + 0; grind
  | b + 1 => by
    show zS f (a + b) + f (a + b) = zS f a + (zS (fun i => f (a + i)) b + f (a + b))
    rw [zS_add f a b]
    grind
theorem zS_mulr (f : Nat → Int64) (c : Int64) : ∀ n, zS (fun i => f i * c) n = zS f n * c
  | 0 => by show (0 : Int64) = 0 * c; grind
  | n + 1 => by
    show zS (fun i => f i * c) n + f n * c = (zS f n + f n) * c
    rw [zS_mulr f c n]
    grind
theorem zS_zero : ∀ n, zS (fun _ => 0) n = 0
  | 0 => rfl
  | n + 1 => by
    show zS (fun _ => 0) n + 0 = 0
    rw [zS_zero n]
    rfl
def inD (dl : Nat → Nat) (d : Nat) : Nat → Bool
  | 0 => false
  | k + 1 => inD dl d k || decide (dl k = d)
theorem inD_t {dl : Nat → Nat} {d : Nat} : ∀ {k : Nat}, inD dl d k = true ↔ ∃ i, i < k ∧ dl i = d
  | 0 => by
    constructor
    · intro h
      cases h
    · rintro ⟨i, h, -⟩
      exact absurd h (Nat.not_lt_zero i)
  | k + 1 => by
    unfold inD
    rw [Bool.or_eq_true, inD_t, decide_eq_true_iff]
    constructor
    · rintro (⟨i, h1, h2⟩ | h)
      · exact ⟨i, by omega, h2⟩
      · exact ⟨k, by omega, h⟩
    · rintro ⟨i, h1, h2⟩
      by_cases e : i = k
      · exact Or.inr (e ▸ h2)
      · exact Or.inl ⟨i, by omega, h2⟩
theorem inD_new {dl : Nat → Nat} {k : Nat} (hi : ∀ i j, i < k + 1 → j < k + 1 → dl i = dl j → i = j) : inD dl (dl k) k = false := by
  cases h : inD dl (dl k) k with
  | false => rfl
  | true =>
    obtain ⟨i, h1, h2⟩ := inD_t.mp h
    have := hi i k (by omega) (by omega) h2
    omega
/-- a sum over a list of days is one over the year -/
theorem zS_perm {h : Nat → Bool} {dl : Nat → Nat} {f g : Nat → Int64} {N : Nat} : ∀ k, (∀ i j, i < k → j < k → dl i = dl j → i = j) → (∀ i, i < k → dl i < N) → (∀ i, i < k → f i = g (dl i)) → zSi (cU h dl) f k = zS (fun d => if (inD dl d k && !h d) = true then g d else 0) N
  | 0, _, _, _ => by
    rw [zS_ext (f := fun d => if (inD dl d 0 && !h d) = true then g d else 0) (g := fun _ => 0) N (fun i _ => rfl), zS_zero]
    rfl
  | k + 1, hi, hd, hf => by
    have ih := zS_perm (h := h) (N := N) k (fun i j h1 h2 => hi i j (by omega) (by omega)) (fun i h1 => hd i (by omega)) (fun i h1 => hf i (by omega))
    have hnew := inD_new hi
    rw [zS_one (f := fun d => if (inD dl d k && !h d) = true then g d else 0) (k := dl k) N (hd k (by omega)) (fun i _ hk => by
      show (if ((inD dl i k || decide (dl k = i)) && !h i) = true then g i else 0) = _
      rw [decide_eq_false (fun z => hk z.symm), Bool.or_false]) (by rw [hnew]; rfl), ← ih]
    show (if (!h (dl k)) = true then zSi (cU h dl) f k + f k else zSi (cU h dl) f k) = zSi (cU h dl) f k + (if ((inD dl (dl k) k || decide (dl k = dl k)) && !h (dl k)) = true then g (dl k) else 0)
    rw [hnew, decide_eq_true rfl, Bool.false_or, Bool.true_and, hf k (by omega)]
    split <;> grind
theorem zC_ext {p q : Nat → Bool} : ∀ n, (∀ i, i < n → p i = q i) → zC p n = zC q n
  | 0, _ => rfl
  | n + 1, h => by
    unfold zC
    rw [zC_ext n (fun i hi => h i (by omega)), h n (by omega)]
theorem zC_one {p q : Nat → Bool} {k : Nat} : ∀ n, k < n → (∀ i, i < n → i ≠ k → q i = p i) → p k = false → zC q n = zC p n + (if q k then 1 else 0)
  | 0, h, _, _ => absurd h (Nat.not_lt_zero k)
  | n + 1, h, he, h0 => by
    unfold zC
    by_cases e : k = n
    · subst e
      rw [zC_ext k (fun i hi => he i (by omega) (by omega)), h0]
      simp
    · rw [zC_one n (by omega) (fun i hi hk => he i (by omega) hk) h0, he n (by omega) (fun z => e z.symm)]
      omega
theorem zC_zero : ∀ n, zC (fun _ => false) n = 0
  | 0 => rfl
  | n + 1 => by
    show zC (fun _ => false) n + 0 = 0
    rw [zC_zero n]
theorem zC_perm {h : Nat → Bool} {dl : Nat → Nat} {N : Nat} : ∀ k, (∀ i j, i < k → j < k → dl i = dl j → i = j) → (∀ i, i < k → dl i < N) → zC (cU h dl) k = zC (fun d => inD dl d k && !h d) N
  | 0, _, _ => by
    rw [zC_ext (p := fun d => inD dl d 0 && !h d) (q := fun _ => false) N (fun i _ => rfl), zC_zero]
    rfl
  | k + 1, hi, hd => by
    have ih := zC_perm (h := h) (N := N) k (fun i j h1 h2 => hi i j (by omega) (by omega)) (fun i h1 => hd i (by omega))
    have hnew := inD_new hi
    rw [zC_one (p := fun d => inD dl d k && !h d) (k := dl k) N (hd k (by omega)) (fun i _ hk => by
      show ((inD dl i k || decide (dl k = i)) && !h i) = _
      rw [decide_eq_false (fun z => hk z.symm), Bool.or_false]) (by rw [hnew]; rfl), ← ih]
    show zC (cU h dl) k + (if (!h (dl k)) = true then 1 else 0) = zC (cU h dl) k + (if ((inD dl (dl k) k || decide (dl k = dl k)) && !h (dl k)) = true then 1 else 0)
    rw [hnew, decide_eq_true rfl, Bool.false_or, Bool.true_and]
/-- bounds -/
theorem zS_rng {f : Nat → Int64} {lo hi : Int} (h0 : lo ≤ 0) (h1 : 0 ≤ hi) : ∀ n, (∀ i, i < n → lo ≤ (f i).toInt ∧ (f i).toInt ≤ hi) → n * (hi - lo) < 9000000000000000000 → n * lo ≤ (zS f n).toInt ∧ (zS f n).toInt ≤ n * hi
  | 0, _, _ => by simp [zS]
  | n + 1, h, hb => by
    have hn := h n (by omega)
    have e1 : ((n + 1 : Nat) : Int) * (hi - lo) = n * (hi - lo) + (hi - lo) := by rw [Int.natCast_add, Int.add_mul]; simp
    have e2 : ((n + 1 : Nat) : Int) * lo = n * lo + lo := by rw [Int.natCast_add, Int.add_mul]; simp
    have e3 : ((n + 1 : Nat) : Int) * hi = n * hi + hi := by rw [Int.natCast_add, Int.add_mul]; simp
    have e4 : (n : Int) * (hi - lo) = n * hi - n * lo := Int.mul_sub _ _ _
    have h4 : (0 : Int) ≤ n * hi := Int.mul_nonneg (by omega) h1
    have h5 : (n : Int) * lo ≤ 0 := Int.mul_nonpos_of_nonneg_of_nonpos (by omega) h0
    have ih := zS_rng h0 h1 n (fun i hi => h i (by omega)) (by omega)
    unfold zS
    rw [l_add (by omega) (by omega)]
    omega
theorem zSi_rng {p : Nat → Bool} {f : Nat → Int64} {hi : Int} (h1 : 0 ≤ hi) : ∀ n, (∀ i, i < n → p i = true → 0 ≤ (f i).toInt ∧ (f i).toInt ≤ hi) → n * hi < 9000000000000000000 → 0 ≤ (zSi p f n).toInt ∧ (zSi p f n).toInt ≤ n * hi
  | 0, _, _ => by simp [zSi]
  | n + 1, h, hb => by
    have e3 : ((n + 1 : Nat) : Int) * hi = n * hi + hi := by rw [Int.natCast_add, Int.add_mul]; simp
    have h4 : (0 : Int) ≤ n * hi := Int.mul_nonneg (by omega) h1
    have ih := zSi_rng h1 n (fun i hi => h i (by omega)) (by omega)
    unfold zSi
    split
    · rename_i hp
      have hn := h n (by omega) hp
      rw [l_add (by omega) (by omega)]
      omega
    · omega
/-- .. and with at least one, at least lo -/
theorem zSi_pos {p : Nat → Bool} {f : Nat → Int64} {hi : Int} (h1 : 0 ≤ hi) : ∀ n, (∀ i, i < n → p i = true → 1 ≤ (f i).toInt ∧ (f i).toInt ≤ hi) → n * hi < 9000000000000000000 → 0 < zC p n → 0 < (zSi p f n).toInt
  | 0, _, _, h => by cases h
  | n + 1, h, hb, hc => by
    have e3 : ((n + 1 : Nat) : Int) * hi = n * hi + hi := by rw [Int.natCast_add, Int.add_mul]; simp
    have h4 : (0 : Int) ≤ n * hi := Int.mul_nonneg (by omega) h1
    have h0 := zSi_rng h1 n (fun i hi hp => ⟨by have := h i (by omega) hp; omega, (h i (by omega) hp).2⟩) (by omega)
    unfold zC at hc
    unfold zSi
    split
    · rename_i hp
      have hn := h n (by omega) hp
      rw [l_add (by omega) (by omega)]
      omega
    · rename_i hp
      rw [if_neg hp] at hc
      exact zSi_pos h1 n (fun i hi => h i (by omega)) (by omega) hc
theorem zSi_none {p : Nat → Bool} {f : Nat → Int64} : ∀ n, zC p n = 0 → zSi p f n = 0
  | 0, _ => rfl
  | n + 1, h => by
    unfold zC at h
    unfold zSi
    by_cases hp : p n = true
    · rw [if_pos hp] at h; omega
    · rw [if_neg hp] at h ⊢
      exact zSi_none n (by omega)
theorem zSi_ext {p : Nat → Bool} {f g : Nat → Int64} : ∀ n, (∀ i, i < n → p i = true → f i = g i) → zSi p f n = zSi p g n
  | 0, _ => rfl
  | n + 1, h => by
    unfold zSi
    rw [zSi_ext n (fun i hi => h i (by omega))]
    split
    · rename_i hp; rw [h n (by omega) hp]
    · rfl
