/-! SETS as numbers: how many subsets, and what cannot be told apart -/
def subs : Nat → Nat → List Nat
  | 0, _ => [0]
  | b + 1, M => subs b M ++ (if M.testBit b then (subs b M).map (fun x => x ||| 2 ^ b) else [])
theorem subs_lt {M : Nat} : ∀ b x, x ∈ subs b M → x < 2 ^ b
  | 0, x, h => by
    have : x = 0 := by simpa [subs] using h
    subst this; decide
  | b + 1, x, h => by
    unfold subs at h
    have hp : 2 ^ b < 2 ^ (b + 1) := Nat.pow_lt_pow_right (by decide) (by omega)
    rcases List.mem_append.mp h with h | h
    · exact Nat.lt_trans (subs_lt b x h) hp
    · split at h
      · obtain ⟨y, hy, rfl⟩ := List.mem_map.mp h
        exact Nat.or_lt_two_pow (Nat.lt_trans (subs_lt b y hy) hp) hp
      · cases h
theorem subs_mem {M : Nat} : ∀ b x, x < 2 ^ b → zsub x M → x ∈ subs b M
  | 0, x, h, _ => by
    have : x = 0 := by have : x < 1 := h; omega
    subst this
    exact List.mem_cons_self
  | b + 1, x, h, hs => by
    unfold subs
    refine List.mem_append.mpr ?_
    cases hb : x.testBit b with
    | false =>
      refine Or.inl (subs_mem b x ?_ hs)
      refine Nat.lt_pow_two_of_testBit x (fun i hi => ?_)
      by_cases e : i = b
      · subst e; exact hb
      · exact Nat.testBit_lt_two_pow (Nat.lt_of_lt_of_le h (Nat.pow_le_pow_right (by decide) (by omega)))
    | true =>
      refine Or.inr ?_
      rw [if_pos (hs b hb)]
      refine List.mem_map.mpr ⟨zsd x (2 ^ b), subs_mem b _ (Nat.lt_pow_two_of_testBit _ (fun i hi => ?_)) (fun i hi => ?_), ?_⟩
      · rw [zsd_t, Nat.testBit_two_pow]
        by_cases e : i = b
        · subst e; simp
        · rw [Nat.testBit_lt_two_pow (Nat.lt_of_lt_of_le h (Nat.pow_le_pow_right (by decide) (by omega)))]
          rfl
      · rw [zsd_t, Bool.and_eq_true] at hi
        exact hs i hi.1
      · refine Nat.eq_of_testBit_eq (fun i => ?_)
        rw [Nat.testBit_or, zsd_t, Nat.testBit_two_pow]
        by_cases e : b = i
        · subst e; simp [hb]
        · simp [e]
theorem subs_sub {M : Nat} : ∀ b x, x ∈ subs b M → zsub x M
  | 0, x, h, i, hi => by
    have : x = 0 := by simpa [subs] using h
    subst this
    simp at hi
  | b + 1, x, h, i, hi => by
    unfold subs at h
    rcases List.mem_append.mp h with h | h
    · exact subs_sub b x h i hi
    · split at h
      · rename_i hb
        obtain ⟨y, hy, rfl⟩ := List.mem_map.mp h
        rw [Nat.testBit_or, Bool.or_eq_true] at hi
        rcases hi with hi | hi
        · exact subs_sub b y hy i hi
        · rw [Nat.testBit_two_pow, decide_eq_true_eq] at hi
          subst hi
          exact hb
      · cases h
theorem subs_len (M : Nat) : ∀ b, (subs b M).length = 2 ^ zC (fun i => M.testBit i) b
  | 0 => rfl
  | b + 1 => by
    unfold subs zC
    rw [List.length_append, subs_len M b]
    split
    · rename_i h
      rw [List.length_map, subs_len M b, Nat.pow_succ]
      omega
    · rfl
theorem subs_nd (M : Nat) : ∀ b, (subs b M).Nodup
  | 0 => by simp [subs]
  | b + 1 => by
    unfold subs
    rw [List.nodup_append]
    refine ⟨subs_nd M b, ?_, fun x hx y hy => ?_⟩
    · split
      · refine List.Pairwise.map _ (fun x y hxy => ?_) (List.Pairwise.imp_of_mem (fun hx hy hne => (⟨hx, hy, hne⟩ : _ ∈ subs b M ∧ _ ∈ subs b M ∧ _ ≠ _)) (subs_nd M b))
        obtain ⟨hx, hy, hne⟩ := hxy
        intro z
        refine hne (Nat.eq_of_testBit_eq (fun i => ?_))
        have q := congrArg (fun w => w.testBit i) z
        rw [Nat.testBit_or, Nat.testBit_or, Nat.testBit_two_pow] at q
        by_cases e : b = i
        · subst e
          rw [Nat.testBit_lt_two_pow (subs_lt b x hx), Nat.testBit_lt_two_pow (subs_lt b y hy)]
        · simpa [e] using q
      · exact List.nodup_nil
    · split at hy
      · obtain ⟨w, hw, rfl⟩ := List.mem_map.mp hy
        intro z
        have := subs_lt b x hx
        have q := congrArg (fun w => w.testBit b) z
        rw [Nat.testBit_or, Nat.testBit_two_pow_self, Bool.or_true, Nat.testBit_lt_two_pow this] at q
        cases q
      · cases hy
theorem nd_len : ∀ (L M : List Nat), L.Nodup → (∀ x, x ∈ L → x ∈ M) → L.length ≤ M.length
  | [], M, _, _ => Nat.zero_le _
  | x :: L, M, hn, hs => by
    rw [List.nodup_cons] at hn
    have hx := hs x List.mem_cons_self
    have := nd_len L (M.erase x) hn.2 (fun y hy => (List.mem_erase_of_ne (fun e => hn.1 (by rw [← e]; exact hy))).mpr (hs y (List.mem_cons_of_mem x hy)))
    rw [List.length_erase_of_mem hx] at this
    have h0 := List.length_pos_of_mem hx
    show L.length + 1 ≤ M.length
    omega
/-- an injection of subsets -/
theorem pop_inj {b c M N : Nat} {f : Nat → Nat} (hf : ∀ x, x < 2 ^ b → zsub x M → f x < 2 ^ c ∧ zsub (f x) N) (hi : ∀ x y, x < 2 ^ b → zsub x M → y < 2 ^ b → zsub y M → f x = f y → x = y) : zC (fun i => M.testBit i) b ≤ zC (fun i => N.testBit i) c := by
  have h1 : ((subs b M).map f).length ≤ (subs c N).length := by
    refine nd_len _ _ ?_ (fun y hy => ?_)
    · refine List.Pairwise.map _ (fun x y hxy => ?_) (List.Pairwise.imp_of_mem (fun hx hy hne => (⟨hx, hy, hne⟩ : _ ∈ subs b M ∧ _ ∈ subs b M ∧ _ ≠ _)) (subs_nd M b))
      obtain ⟨hx, hy, hne⟩ := hxy
      exact fun z => hne (hi x y (subs_lt b x hx) (subs_sub b x hx) (subs_lt b y hy) (subs_sub b y hy) z)
    · obtain ⟨x, hx, rfl⟩ := List.mem_map.mp hy
      obtain ⟨h1, h2⟩ := hf x (subs_lt b x hx) (subs_sub b x hx)
      exact subs_mem c _ h1 h2
  rw [List.length_map, subs_len, subs_len] at h1
  exact (Nat.pow_le_pow_iff_right (by decide)).mp h1
/-! counts -/
theorem zC_tail {p : Nat → Bool} {n : Nat} (h : ∀ i, n ≤ i → p i = false) : ∀ k, zC p (n + k) = zC p n
  | 0 => rfl
  | k + 1 => by
    show zC p (n + k) + (if p (n + k) then 1 else 0) = zC p n
    rw [zC_tail h k, h (n + k) (by omega)]
    rfl
theorem zpop_e {X n : Nat} (hX : X < 2 ^ n) (hn : n ≤ 12) : zpop X = zC (fun i => X.testBit i) n := by
  unfold zpop
  rw [show 12 = n + (12 - n) by omega]
  exact zC_tail (fun i hi => Nat.testBit_lt_two_pow (Nat.lt_of_lt_of_le hX (Nat.pow_le_pow_right (by decide) hi))) _
theorem zC_pos {p : Nat → Bool} {k : Nat} : ∀ n, k < n → p k = true → 0 < zC p n
  | 0, h, _ => absurd h (Nat.not_lt_zero k)
  | n + 1, h, hp => by
    unfold zC
    by_cases e : k = n
    · subst e; rw [hp]; simp
    · have := zC_pos n (by omega) hp
      omega
theorem zC_x {p q : Nat → Bool} : ∀ n, zC (fun i => p i ^^ q i) n % 2 = (zC p n + zC q n) % 2
  | 0 => rfl
  | n + 1 => by
    have := zC_x (p := p) (q := q) n
    unfold zC
    cases h1 : p n <;> cases h2 : q n <;> simp <;> omega
def nS (f : Nat → Nat) : Nat → Nat
  | 0 => 0
  | n + 1 => nS f n + f n
theorem nS_add (f g : Nat → Nat) : ∀ n, nS (fun i => f i + g i) n = nS f n + nS g n
  | 0 => rfl
  | n + 1 => by
    show nS (fun i => f i + g i) n + (f n + g n) = nS f n + f n + (nS g n + g n)
    rw [nS_add f g n]
    omega
theorem nS_zC (p : Nat → Bool) : ∀ n, nS (fun i => if p i then 1 else 0) n = zC p n
  | 0 => rfl
  | n + 1 => by
    show nS (fun i => if p i then 1 else 0) n + (if p n then 1 else 0) = zC p n + (if p n then 1 else 0)
    rw [nS_zC p n]
theorem nS_0 : ∀ n, nS (fun _ => 0) n = 0
  | 0 => rfl
  | n + 1 => nS_0 n
/-- both ends of every road of X are counted -/
theorem dbl {X : Nat} {B : Nat → Nat} : ∀ n, (∀ r, r < n → zC (fun v => (B v).testBit r) 9 = 2) → nS (fun v => zC (fun r => X.testBit r && (B v).testBit r) n) 9 = 2 * zC (fun r => X.testBit r) n
  | 0, _ => nS_0 9
  | n + 1, h => by
    have ih := dbl (X := X) (B := B) n (fun r hr => h r (by omega))
    show nS (fun v => zC (fun r => X.testBit r && (B v).testBit r) n + (if (X.testBit n && (B v).testBit n) = true then 1 else 0)) 9 = 2 * (zC (fun r => X.testBit r) n + (if X.testBit n then 1 else 0))
    rw [nS_add, ih]
    cases hx : X.testBit n with
    | true =>
      have e : nS (fun v => if (true && (B v).testBit n) = true then 1 else 0) 9 = 2 := by
        simp only [Bool.true_and]
        rw [nS_zC (fun v => (B v).testBit n) 9]
        exact h n (by omega)
      rw [e]
      simp
      omega
    | false =>
      have e : nS (fun v => if (false && (B v).testBit n) = true then 1 else 0) 9 = 0 := nS_0 9
      rw [e]
      simp
theorem nS_ge {d : Nat → Nat} : ∀ n, (∀ j, j < n → d j ≠ 1) → 2 * zC (fun v => decide (0 < d v)) n ≤ nS d n
  | 0, _ => Nat.le_refl 0
  | n + 1, h => by
    have ih := nS_ge n (fun j hj => h j (by omega))
    have hn := h n (by omega)
    unfold nS zC
    by_cases e : 0 < d n
    · rw [decide_eq_true e]; simp; omega
    · rw [decide_eq_false e]; simp; omega
