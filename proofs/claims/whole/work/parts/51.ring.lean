/-! RINGS: sets of roads that meet every place evenly -/
def ve (B : Nat → Nat) (r : Nat) : Nat := zbt (fun v => (B v).testBit r) 9
def px (B : Nat → Nat) : Nat → Nat → Nat
  | 0, _ => 0
  | r + 1, X => px B r X ^^^ (if X.testBit r then ve B r else 0)
theorem px_x {B : Nat → Nat} {X Y : Nat} : ∀ b, px B b (X ^^^ Y) = px B b X ^^^ px B b Y
  | 0 => by simp [px]
  | b + 1 => by
    unfold px
    rw [px_x b, Nat.testBit_xor]
    refine Nat.eq_of_testBit_eq (fun i => ?_)
    simp only [Nat.testBit_xor]
    cases X.testBit b <;> cases Y.testBit b <;> simp <;> cases (px B b X).testBit i <;> cases (px B b Y).testBit i <;> simp
theorem px_0 {B : Nat → Nat} : ∀ b, px B b 0 = 0
  | 0 => rfl
  | b + 1 => by
    unfold px
    rw [px_0 b]
    simp
theorem px_t {B : Nat → Nat} {X v : Nat} (hv : v < 9) : ∀ b, (px B b X).testBit v = decide (zC (fun r => X.testBit r && (B v).testBit r) b % 2 = 1)
  | 0 => by simp [px, zC]
  | b + 1 => by
    unfold px zC
    rw [Nat.testBit_xor, px_t hv b]
    have e : (if X.testBit b = true then ve B b else 0).testBit v = (X.testBit b && (B v).testBit b) := by
      cases X.testBit b with
      | true =>
        show (ve B b).testBit v = _
        unfold ve
        rw [zbt_t, decide_eq_true hv]
      | false => simp
    rw [e]
    have h2 : zC (fun r => X.testBit r && (B v).testBit r) b % 2 < 2 := Nat.mod_lt _ (by decide)
    cases X.testBit b && (B v).testBit b with
    | true =>
      by_cases h : zC (fun r => X.testBit r && (B v).testBit r) b % 2 = 1
      · rw [decide_eq_true h, decide_eq_false (by simp; omega)]; rfl
      · rw [decide_eq_false h, decide_eq_true (by simp; omega)]; rfl
    | false =>
      rw [Bool.xor_false]
      exact decide_eq_decide.mpr (by simp)
theorem px_lt {B : Nat → Nat} {X : Nat} : ∀ b, px B b X < 2 ^ 9
  | 0 => by show 0 < 2 ^ 9; decide
  | b + 1 => by
    unfold px
    refine Nat.xor_lt_two_pow (px_lt b) ?_
    split
    · exact zbt_lt _ 9
    · decide
/-- an even number of places is met oddly -/
theorem px_ev {B : Nat → Nat} {X : Nat} : ∀ b, (∀ r, r < b → zC (fun v => (B v).testBit r) 9 = 2) → zC (fun v => (px B b X).testBit v) 9 % 2 = 0
  | 0, _ => by
    rw [zC_ext (p := fun v => (px B 0 X).testBit v) (q := fun _ => false) 9 (fun i _ => Nat.zero_testBit i), zC_zero]
  | b + 1, h => by
    have ih := px_ev (X := X) b (fun r hr => h r (by omega))
    rw [zC_ext (p := fun v => (px B (b + 1) X).testBit v) (q := fun v => (px B b X).testBit v ^^ (if X.testBit b then ve B b else 0).testBit v) 9 (fun i _ => Nat.testBit_xor _ _ _), zC_x (p := fun v => (px B b X).testBit v) (q := fun v => (if X.testBit b then ve B b else 0).testBit v)]
    have e : zC (fun v => (if X.testBit b = true then ve B b else 0).testBit v) 9 % 2 = 0 := by
      cases X.testBit b with
      | true =>
        rw [zC_ext (q := fun v => (B v).testBit b) 9 (fun i hi => by
          show (ve B b).testBit i = _
          unfold ve
          rw [zbt_t, decide_eq_true hi, Bool.true_and]), h b (by omega)]
      | false =>
        rw [zC_ext (q := fun _ => false) 9 (fun i _ => by simp), zC_zero]
    omega
theorem px_1 {B : Nat → Nat} {e : Nat} : ∀ b, px B b (2 ^ e) = if e < b then ve B e else 0
  | 0 => rfl
  | b + 1 => by
    unfold px
    rw [px_1 b, Nat.testBit_two_pow]
    by_cases h : e = b
    · subst h
      rw [if_neg (by omega), decide_eq_true rfl, if_pos rfl, if_pos (by omega), Nat.zero_xor]
    · rw [decide_eq_false h]
      by_cases h2 : e < b
      · simp [h2, show e < b + 1 by omega]
      · simp [h2, show ¬ e < b + 1 by omega]
/-- no ring in U -/
def ind (B : Nat → Nat) (n U : Nat) : Prop := ∀ D, D < 2 ^ n → zsub D U → px B n D = 0 → D = 0
theorem ind.sub {B : Nat → Nat} {n U V : Nat} (h : ind B n U) (hs : zsub V U) : ind B n V := fun D h1 h2 h3 => h D h1 (fun i hi => hs i (h2 i hi)) h3
theorem zsub_x {X Y U : Nat} (h1 : zsub X U) (h2 : zsub Y U) : zsub (X ^^^ Y) U := fun i hi => by
  rw [Nat.testBit_xor] at hi
  cases hx : X.testBit i with
  | true => exact h1 i hx
  | false =>
    rw [hx, Bool.false_xor] at hi
    exact h2 i hi
theorem xor_0 {X Y : Nat} (h : X ^^^ Y = 0) : X = Y := by
  refine Nat.eq_of_testBit_eq (fun i => ?_)
  have := congrArg (fun w => w.testBit i) h
  simp at this
  exact this
/-- the places of a set without a ring: one of the junctions has one road alone -/
theorem leaf {B : Nat → Nat} {n D : Nat} (hB : ∀ r, r < n → zC (fun v => (B v).testBit r) 9 = 2) (hD : D < 2 ^ n) (h0 : D ≠ 0) (hi : ind B n D) : ∃ j, j < 8 ∧ zC (fun r => D.testBit r && (B j).testBit r) n = 1 := by
  refine Decidable.byContradiction (fun hno => ?_)
  have hne : ∀ j, j < 8 → zC (fun r => D.testBit r && (B j).testBit r) n ≠ 1 := fun j hj z => hno ⟨j, hj, z⟩
  obtain ⟨d, hd⟩ : ∃ d : Nat → Nat, d = fun v => zC (fun r => D.testBit r && (B v).testBit r) n := ⟨_, rfl⟩
  have hne' : ∀ j, j < 8 → d j ≠ 1 := fun j hj => by rw [hd]; exact hne j hj
  have hsum : nS d 9 = 2 * zC (fun r => D.testBit r) n := by rw [hd]; exact dbl n hB
  have h8 := nS_ge 8 hne'
  have hs9 : nS d 9 = nS d 8 + d 8 := rfl
  have hk9 : zC (fun v => decide (0 < d v)) 9 = zC (fun v => decide (0 < d v)) 8 + (if decide (0 < d 8) = true then 1 else 0) := rfl
  have hk : zC (fun v => decide (0 < d v)) 9 ≤ zC (fun r => D.testBit r) n := by
    by_cases e : 0 < d 8
    · rw [decide_eq_true e, if_pos rfl] at hk9
      omega
    · rw [decide_eq_false e] at hk9
      simp only [Bool.false_eq_true, if_false] at hk9
      omega
  -- a place that is met
  obtain ⟨r, hr, hrb⟩ : ∃ r, r < n ∧ D.testBit r = true := by
    obtain ⟨r, hr⟩ := Nat.exists_testBit_of_ne_zero h0
    refine ⟨r, ?_, hr⟩
    refine Decidable.byContradiction (fun z => ?_)
    rw [Nat.testBit_lt_two_pow (Nat.lt_of_lt_of_le hD (Nat.pow_le_pow_right (by decide) (by omega)))] at hr
    cases hr
  obtain ⟨t, ht9, ht⟩ : ∃ t, t < 9 ∧ 0 < d t := by
    refine Decidable.byContradiction (fun z => ?_)
    have hz : ∀ v, v < 9 → (B v).testBit r = false := fun v hv => by
      cases e : (B v).testBit r with
      | false => rfl
      | true =>
        refine absurd ⟨v, hv, ?_⟩ z
        rw [hd]
        exact zC_pos n hr (by rw [hrb, e]; rfl)
    have := hB r hr
    rw [zC_ext (q := fun _ => false) 9 (fun v hv => hz v hv), zC_zero] at this
    omega
  obtain ⟨T, hT⟩ : ∃ T, T = zbt (fun v => decide (0 < d v)) 9 := ⟨_, rfl⟩
  have hTb : ∀ v, T.testBit v = (decide (v < 9) && decide (0 < d v)) := fun v => by rw [hT]; exact zbt_t _ 9 v
  have hpop : zC (fun v => (zsd T (2 ^ t)).testBit v) 9 + 1 = zC (fun v => decide (0 < d v)) 9 := by
    have := zC_one (p := fun v => (zsd T (2 ^ t)).testBit v) (q := fun v => decide (0 < d v)) (k := t) 9 ht9 (fun i hi9 hit => by
      rw [zsd_t, hTb, Nat.testBit_two_pow, decide_eq_true hi9, show decide (t = i) = false from decide_eq_false (fun z => hit z.symm)]
      simp) (by rw [zsd_t, Nat.testBit_two_pow_self]; simp)
    rw [this, decide_eq_true ht]
    rfl
  have hpx : ∀ X, zsub X D → zsub (px B n X) T := fun X hX v hv => by
    have hv9 : v < 9 := by
      refine Decidable.byContradiction (fun z => ?_)
      rw [Nat.testBit_lt_two_pow (Nat.lt_of_lt_of_le (px_lt n) (Nat.pow_le_pow_right (by decide) (by omega)))] at hv
      cases hv
    rw [hTb, decide_eq_true hv9, Bool.true_and, decide_eq_true_eq]
    rw [px_t hv9, decide_eq_true_eq] at hv
    have : zC (fun r => X.testBit r && (B v).testBit r) n ≤ d v := by
      rw [hd]
      refine zC_mono (fun i hi => ?_) n
      rw [Bool.and_eq_true] at hi ⊢
      exact ⟨hX i hi.1, hi.2⟩
    omega
  have hle := pop_inj (b := n) (c := 9) (M := D) (N := zsd T (2 ^ t)) (f := fun X => zsd (px B n X) (2 ^ t)) (fun X h1 h2 => ⟨zsd_ltn (px_lt n), fun i hi => ?_⟩) (fun X Y h1 h2 h3 h4 hXY => ?_)
  · omega
  · have hi : (zsd (px B n X) (2 ^ t)).testBit i = true := hi
    rw [zsd_t, Bool.and_eq_true] at hi ⊢
    exact ⟨hpx X h2 i hi.1, hi.2⟩
  · have hXY : zsd (px B n X) (2 ^ t) = zsd (px B n Y) (2 ^ t) := hXY
    refine xor_0 (hi _ (Nat.xor_lt_two_pow h1 h3) (zsub_x h2 h4) ?_)
    have hev := px_ev (X := X ^^^ Y) n hB
    have hz : ∀ v, v ≠ t → (px B n (X ^^^ Y)).testBit v = false := fun v hv => by
      rw [px_x, Nat.testBit_xor]
      have q := congrArg (fun w => w.testBit v) hXY
      simp only [zsd_t, Nat.testBit_two_pow, show decide (t = v) = false from decide_eq_false (fun z => hv z.symm), Bool.not_false, Bool.and_true] at q
      rw [q, Bool.xor_self]
    have hzt : (px B n (X ^^^ Y)).testBit t = false := by
      cases e : (px B n (X ^^^ Y)).testBit t with
      | false => rfl
      | true =>
        rw [zC_one (p := fun _ => false) (k := t) 9 ht9 (fun i _ hit => hz i hit) rfl, zC_zero, e] at hev
        simp at hev
    refine Nat.eq_of_testBit_eq (fun v => ?_)
    rw [Nat.zero_testBit]
    by_cases e : v = t
    · subst e; exact hzt
    · exact hz v e
