/-! weights: price first, then how many, then the bits -/
def wr (pw : Nat → Nat) (r : Nat) : Nat := pw r * 65536 + 4096 + 2 ^ r
def wS (pw : Nat → Nat) (X : Nat) : Nat → Nat
  | 0 => 0
  | r + 1 => wS pw X r + (if X.testBit r then wr pw r else 0)
theorem wS_e {pw : Nat → Nat} {X : Nat} : ∀ n, wS pw X n = pPr pw X n * 65536 + zC (fun i => X.testBit i) n * 4096 + X % 2 ^ n
  | 0 => by simp [wS, pPr, zC, Nat.mod_one]
  | n + 1 => by
    unfold wS pPr zC
    rw [wS_e n, Nat.mod_pow_succ, Nat.testBit_eq_decide_div_mod_eq]
    have h2 : X / 2 ^ n % 2 < 2 := Nat.mod_lt _ (by decide)
    by_cases e : X / 2 ^ n % 2 = 1
    · rw [e, decide_eq_true rfl]
      simp only [if_true, wr, Nat.mul_one]
      omega
    · rw [decide_eq_false e, show X / 2 ^ n % 2 = 0 by omega]
      simp
theorem wS_or {pw : Nat → Nat} {X r : Nat} (h : X.testBit r = false) : ∀ n, wS pw (X ||| 2 ^ r) n = wS pw X n + (if r < n then wr pw r else 0)
  | 0 => rfl
  | n + 1 => by
    unfold wS
    rw [wS_or h n, Nat.testBit_or, Nat.testBit_two_pow]
    by_cases e : r = n
    · subst e
      simp [h]
    · by_cases e2 : r < n
      · simp [e, e2, show r < n + 1 by omega]
        omega
      · simp [e, e2, show ¬ r < n + 1 by omega]
theorem wS_ext {pw : Nat → Nat} {X Y : Nat} : ∀ n, (∀ i, i < n → X.testBit i = Y.testBit i) → wS pw X n = wS pw Y n
  | 0, _ => rfl
  | n + 1, h => by
    unfold wS
    rw [wS_ext n (fun i hi => h i (by omega)), h n (by omega)]
theorem wS_cmp {pw : Nat → Nat} {X n : Nat} : ∀ b, b ≤ n → wS pw X b + wS pw (zsd (2 ^ n - 1) X) b = wS pw (2 ^ n - 1) b
  | 0, _ => rfl
  | b + 1, hb => by
    have ih := wS_cmp (pw := pw) (X := X) (n := n) b (by omega)
    unfold wS
    rw [zsd_t, full_t, decide_eq_true (show b < n by omega)]
    cases X.testBit b with
    | true => simp; omega
    | false => simp; omega
theorem zC_or1 {X r n : Nat} (hr : r < n) (h : X.testBit r = false) : zC (fun i => (X ||| 2 ^ r).testBit i) n = zC (fun i => X.testBit i) n + 1 := by
  rw [zC_one (p := fun i => X.testBit i) (q := fun i => (X ||| 2 ^ r).testBit i) (k := r) n hr (fun i _ hi => by
    rw [Nat.testBit_or, Nat.testBit_two_pow, show decide (r = i) = false from decide_eq_false (fun z => hi z.symm), Bool.or_false]) h]
  rw [Nat.testBit_or, Nat.testBit_two_pow_self, Bool.or_true]
  rfl
theorem zC_all {p : Nat → Bool} : ∀ n, zC p n = n → ∀ i, i < n → p i = true
  | 0, _, i, hi => absurd hi (Nat.not_lt_zero i)
  | n + 1, h, i, hi => by
    have := zC_le p n
    unfold zC at h
    cases e : p n with
    | true =>
      rw [e] at h
      simp at h
      by_cases q : i = n
      · rw [q]; exact e
      · exact zC_all n h i (by omega)
    | false =>
      rw [e] at h
      simp at h
      omega
/-- the dearest road that isn't in the set -/
theorem dOF_s {pw : Nat → Nat} {set : Nat} : ∀ k, match dOF pw set k with
    | none => ∀ r, r < k → set.testBit r = true
    | some d => d < k ∧ set.testBit d = false ∧ ∀ r, r < k → set.testBit r = false → pw r < pw d ∨ (pw r = pw d ∧ r ≤ d)
  | 0 => fun r hr => absurd hr (Nat.not_lt_zero r)
  | k + 1 => by
    have ih := dOF_s (pw := pw) (set := set) k
    unfold dOF
    cases hb : set.testBit k with
    | true =>
      have hc : dOc pw set (dOF pw set k) k = false := by unfold dOc; rw [hb]; rfl
      rw [hc, if_neg (by decide)]
      cases e : dOF pw set k with
      | none =>
        rw [e] at ih
        intro r hr
        by_cases q : r = k
        · rw [q]; exact hb
        · exact ih r (by omega)
      | some d =>
        rw [e] at ih
        obtain ⟨i1, i2, i3⟩ := ih
        refine ⟨by omega, i2, fun r hr hz => ?_⟩
        by_cases q : r = k
        · rw [q, hb] at hz; cases hz
        · exact i3 r (by omega) hz
    | false =>
      cases e : dOF pw set k with
      | none =>
        rw [e] at ih
        have hc : dOc pw set none k = true := by unfold dOc; rw [hb]; rfl
        rw [hc, if_pos rfl]
        refine ⟨by omega, hb, fun r hr hz => ?_⟩
        by_cases q : r = k
        · rw [q]; omega
        · rw [ih r (by omega)] at hz; cases hz
      | some d =>
        rw [e] at ih
        obtain ⟨i1, i2, i3⟩ := ih
        by_cases hp : pw d ≤ pw k
        · have hc : dOc pw set (some d) k = true := by unfold dOc; rw [hb]; exact decide_eq_true hp
          rw [hc, if_pos rfl]
          refine ⟨by omega, hb, fun r hr hz => ?_⟩
          by_cases q : r = k
          · rw [q]; omega
          · have := i3 r (by omega) hz
            omega
        · have hc : dOc pw set (some d) k = false := by unfold dOc; rw [hb]; exact decide_eq_false hp
          rw [hc, if_neg (by decide)]
          refine ⟨by omega, i2, fun r hr hz => ?_⟩
          by_cases q : r = k
          · rw [q]; omega
          · exact i3 r (by omega) hz
theorem p2_le {a b : Nat} (h : a ≤ b) : 2 ^ a ≤ 2 ^ b := Nat.pow_le_pow_right (by decide) h
theorem wr_le {pw : Nat → Nat} {s d : Nat} (hs : s < 12) (h : pw s < pw d ∨ (pw s = pw d ∧ s ≤ d)) : wr pw s ≤ wr pw d := by
  unfold wr
  have h1 := p2_le (show s ≤ 11 by omega)
  rw [show 2 ^ 11 = 2048 from rfl] at h1
  have h0 := Nat.two_pow_pos d
  rcases h with h | ⟨h, h2⟩
  · omega
  · have := p2_le h2
    rw [h]
    omega
/-- how far the meters are taken off: M is left, Q is asked; U: any set without a ring -/
theorem greedy {A B : Nat → Nat} {n : Nat} {pw : Nat → Nat} (hn : n ≤ 12) (hA : ∀ j, A j < 2 ^ n) (hAB : ∀ j, j < 8 → A j = B j) (hB : ∀ r, r < n → zC (fun v => (B v).testBit r) 9 = 2) : ∀ i, i ≤ n → pOk A n (cE A n pw i).1 = true ∧ zC (fun k => (cE A n pw i).2.testBit k) n = i ∧ zsub (zsd (2 ^ n - 1) (cE A n pw i).1) (cE A n pw i).2 ∧ (∀ e, e < n → (cE A n pw i).2.testBit e = true → ∃ Y, Y < 2 ^ n ∧ zsub Y (zsd (2 ^ n - 1) (cE A n pw i).1) ∧ px B n Y = ve B e) ∧ (∀ r s, r < n → s < n → (cE A n pw i).2.testBit r = true → (cE A n pw i).2.testBit s = false → wr pw s ≤ wr pw r) ∧ ∀ U, U < 2 ^ n → ind B n U → ∃ d, zC (fun k => (zsd (2 ^ n - 1) (cE A n pw i).1).testBit k) n = zC (fun k => (U &&& (cE A n pw i).2).testBit k) n + d ∧ ∀ c, (∀ r, r < n → (cE A n pw i).2.testBit r = true → c ≤ wr pw r) → wS pw (U &&& (cE A n pw i).2) n + d * c ≤ wS pw (zsd (2 ^ n - 1) (cE A n pw i).1) n
  | 0, _ => by
    have hfull : 2 ^ n - 1 < 2 ^ n := by have := Nat.two_pow_pos n; omega
    have hG0 : zsd (2 ^ n - 1) (2 ^ n - 1) = 0 := by
      refine Nat.eq_of_testBit_eq (fun k => ?_)
      rw [zsd_t, Nat.zero_testBit]
      cases (2 ^ n - 1).testBit k <;> rfl
    have hz : ∀ k, (0 : Nat).testBit k = false := Nat.zero_testBit
    show pOk A n (2 ^ n - 1) = true ∧ zC (fun k => (0 : Nat).testBit k) n = 0 ∧ zsub (zsd (2 ^ n - 1) (2 ^ n - 1)) 0 ∧ (∀ e, e < n → (0 : Nat).testBit e = true → ∃ Y, Y < 2 ^ n ∧ zsub Y (zsd (2 ^ n - 1) (2 ^ n - 1)) ∧ px B n Y = ve B e) ∧ (∀ r s, r < n → s < n → (0 : Nat).testBit r = true → (0 : Nat).testBit s = false → wr pw s ≤ wr pw r) ∧ ∀ U, U < 2 ^ n → ind B n U → ∃ d, zC (fun k => (zsd (2 ^ n - 1) (2 ^ n - 1)).testBit k) n = zC (fun k => (U &&& 0).testBit k) n + d ∧ ∀ c, (∀ r, r < n → (0 : Nat).testBit r = true → c ≤ wr pw r) → wS pw (U &&& 0) n + d * c ≤ wS pw (zsd (2 ^ n - 1) (2 ^ n - 1)) n
    rw [hG0]
    refine ⟨(pk_ok hn hA hAB hB hfull).mpr ?_, ?_, fun k hk => hk, fun e _ h => ?_, fun r s _ _ h => ?_, fun U _ _ => ⟨0, ?_, fun c _ => ?_⟩⟩
    · rw [hG0]
      intro D _ h2 _
      refine Nat.eq_of_testBit_eq (fun k => ?_)
      rw [hz k]
      cases e : D.testBit k with
      | false => rfl
      | true => have := h2 k e; rw [hz k] at this; cases this
    · rw [zC_ext (p := fun k => (0 : Nat).testBit k) (q := fun _ => false) n (fun k _ => hz k), zC_zero]
    · rw [hz e] at h; cases h
    · rw [hz r] at h; cases h
    · rw [Nat.and_zero]; rfl
    · rw [Nat.and_zero, Nat.zero_mul]; exact Nat.le_refl _
  | i + 1, hi => by
    obtain ⟨g1, g2, g3, g4, g5, g6⟩ := greedy (pw := pw) hn hA hAB hB i (by omega)
    obtain ⟨m1, q1⟩ := cE_lt (A := A) (n := n) (pw := pw) i (by omega)
    show pOk A n (if pOk A n (zsd (cE A n pw i).1 (2 ^ (dOF pw (cE A n pw i).2 n).getD 0)) = true then zsd (cE A n pw i).1 (2 ^ (dOF pw (cE A n pw i).2 n).getD 0) else (cE A n pw i).1) = true ∧ zC (fun k => ((cE A n pw i).2 ||| 2 ^ (dOF pw (cE A n pw i).2 n).getD 0).testBit k) n = i + 1 ∧ zsub (zsd (2 ^ n - 1) (if pOk A n (zsd (cE A n pw i).1 (2 ^ (dOF pw (cE A n pw i).2 n).getD 0)) = true then zsd (cE A n pw i).1 (2 ^ (dOF pw (cE A n pw i).2 n).getD 0) else (cE A n pw i).1)) ((cE A n pw i).2 ||| 2 ^ (dOF pw (cE A n pw i).2 n).getD 0) ∧ (∀ e, e < n → ((cE A n pw i).2 ||| 2 ^ (dOF pw (cE A n pw i).2 n).getD 0).testBit e = true → ∃ Y, Y < 2 ^ n ∧ zsub Y (zsd (2 ^ n - 1) (if pOk A n (zsd (cE A n pw i).1 (2 ^ (dOF pw (cE A n pw i).2 n).getD 0)) = true then zsd (cE A n pw i).1 (2 ^ (dOF pw (cE A n pw i).2 n).getD 0) else (cE A n pw i).1)) ∧ px B n Y = ve B e) ∧ (∀ r s, r < n → s < n → ((cE A n pw i).2 ||| 2 ^ (dOF pw (cE A n pw i).2 n).getD 0).testBit r = true → ((cE A n pw i).2 ||| 2 ^ (dOF pw (cE A n pw i).2 n).getD 0).testBit s = false → wr pw s ≤ wr pw r) ∧ ∀ U, U < 2 ^ n → ind B n U → ∃ d, zC (fun k => (zsd (2 ^ n - 1) (if pOk A n (zsd (cE A n pw i).1 (2 ^ (dOF pw (cE A n pw i).2 n).getD 0)) = true then zsd (cE A n pw i).1 (2 ^ (dOF pw (cE A n pw i).2 n).getD 0) else (cE A n pw i).1)).testBit k) n = zC (fun k => (U &&& ((cE A n pw i).2 ||| 2 ^ (dOF pw (cE A n pw i).2 n).getD 0)).testBit k) n + d ∧ ∀ c, (∀ r, r < n → ((cE A n pw i).2 ||| 2 ^ (dOF pw (cE A n pw i).2 n).getD 0).testBit r = true → c ≤ wr pw r) → wS pw (U &&& ((cE A n pw i).2 ||| 2 ^ (dOF pw (cE A n pw i).2 n).getD 0)) n + d * c ≤ wS pw (zsd (2 ^ n - 1) (if pOk A n (zsd (cE A n pw i).1 (2 ^ (dOF pw (cE A n pw i).2 n).getD 0)) = true then zsd (cE A n pw i).1 (2 ^ (dOF pw (cE A n pw i).2 n).getD 0) else (cE A n pw i).1)) n
    have hd := dOF_s (pw := pw) (set := (cE A n pw i).2) n
    revert g1 g2 g3 g4 g5 g6 m1 q1 hd
    generalize (cE A n pw i).1 = M
    generalize (cE A n pw i).2 = Q
    intro g1 g2 g3 g4 g5 g6 m1 q1 hd
    cases hdo : dOF pw Q n with
    | none =>
      rw [hdo] at hd
      have : zC (fun k => Q.testBit k) n = n := by
        have hall : ∀ b, b ≤ n → zC (fun k => Q.testBit k) b = b := by
          intro b
          induction b with
          | zero => intro _; rfl
          | succ b ihb =>
            intro hb
            show zC (fun k => Q.testBit k) b + (if Q.testBit b then 1 else 0) = b + 1
            rw [ihb (by omega), hd b (by omega)]
            rfl
        exact hall n (Nat.le_refl n)
      omega
    | some r =>
      rw [hdo] at hd
      obtain ⟨d1, d2, d3⟩ := hd
      show pOk A n (if pOk A n (zsd M (2 ^ r)) = true then zsd M (2 ^ r) else M) = true ∧ zC (fun k => (Q ||| 2 ^ r).testBit k) n = i + 1 ∧ zsub (zsd (2 ^ n - 1) (if pOk A n (zsd M (2 ^ r)) = true then zsd M (2 ^ r) else M)) (Q ||| 2 ^ r) ∧ (∀ e, e < n → (Q ||| 2 ^ r).testBit e = true → ∃ Y, Y < 2 ^ n ∧ zsub Y (zsd (2 ^ n - 1) (if pOk A n (zsd M (2 ^ r)) = true then zsd M (2 ^ r) else M)) ∧ px B n Y = ve B e) ∧ (∀ x s, x < n → s < n → (Q ||| 2 ^ r).testBit x = true → (Q ||| 2 ^ r).testBit s = false → wr pw s ≤ wr pw x) ∧ ∀ U, U < 2 ^ n → ind B n U → ∃ d, zC (fun k => (zsd (2 ^ n - 1) (if pOk A n (zsd M (2 ^ r)) = true then zsd M (2 ^ r) else M)).testBit k) n = zC (fun k => (U &&& (Q ||| 2 ^ r)).testBit k) n + d ∧ ∀ c, (∀ x, x < n → (Q ||| 2 ^ r).testBit x = true → c ≤ wr pw x) → wS pw (U &&& (Q ||| 2 ^ r)) n + d * c ≤ wS pw (zsd (2 ^ n - 1) (if pOk A n (zsd M (2 ^ r)) = true then zsd M (2 ^ r) else M)) n
      have hQt : ∀ x, (Q ||| 2 ^ r).testBit x = (Q.testBit x || decide (r = x)) := fun x => by rw [Nat.testBit_or, Nat.testBit_two_pow]
      have hGr : (zsd (2 ^ n - 1) M).testBit r = false := by
        cases e : (zsd (2 ^ n - 1) M).testBit r with
        | false => rfl
        | true => have := g3 r e; rw [d2] at this; cases this
      have hMr : M.testBit r = true := by
        rw [zsd_t, full_t, decide_eq_true d1, Bool.true_and] at hGr
        simpa using hGr
      -- the set that is off, with r
      have hoff : zsd (2 ^ n - 1) (zsd M (2 ^ r)) = zsd (2 ^ n - 1) M ||| 2 ^ r := by
        refine Nat.eq_of_testBit_eq (fun x => ?_)
        rw [Nat.testBit_or, zsd_t, zsd_t, zsd_t, full_t, Nat.testBit_two_pow]
        by_cases e : r = x
        · subst e; rw [decide_eq_true d1]; simp
        · simp [e]
      have hiG := (pk_ok hn hA hAB hB m1).mp g1
      have hupper : ∀ x, x < n → Q.testBit x = true → wr pw r ≤ wr pw x := fun x hx hq => g5 x r hx d1 hq d2
      have hcnt : zC (fun k => (Q ||| 2 ^ r).testBit k) n = i + 1 := by rw [zC_or1 d1 d2, g2]
      have hup : ∀ x s, x < n → s < n → (Q ||| 2 ^ r).testBit x = true → (Q ||| 2 ^ r).testBit s = false → wr pw s ≤ wr pw x := fun x s hx hs h1 h2 => by
        rw [hQt, Bool.or_eq_false_iff] at h2
        rw [hQt, Bool.or_eq_true, decide_eq_true_eq] at h1
        rcases h1 with h1 | h1
        · exact g5 x s hx hs h1 h2.1
        · subst h1
          exact wr_le (by omega) (d3 s hs h2.1)
      have hUr : ∀ U, U.testBit r = true → U &&& (Q ||| 2 ^ r) = (U &&& Q) ||| 2 ^ r := fun U hU => by
        refine Nat.eq_of_testBit_eq (fun x => ?_)
        rw [Nat.testBit_and, hQt, Nat.testBit_or, Nat.testBit_and, Nat.testBit_two_pow]
        by_cases e : r = x
        · subst e; simp [hU]
        · simp [e]
      have hUn : ∀ U, U.testBit r = false → U &&& (Q ||| 2 ^ r) = U &&& Q := fun U hU => by
        refine Nat.eq_of_testBit_eq (fun x => ?_)
        rw [Nat.testBit_and, hQt, Nat.testBit_and]
        by_cases e : r = x
        · subst e; simp [hU, d2]
        · simp [e]
      have hUq : ∀ U, (U &&& Q).testBit r = false := fun U => by rw [Nat.testBit_and, d2, Bool.and_false]
      by_cases hok : pOk A n (zsd M (2 ^ r)) = true
      · simp only [if_pos hok, hoff]
        refine ⟨hok, hcnt, fun x hx => ?_, fun e he hq => ?_, hup, fun U hU hUi => ?_⟩
        · rw [Nat.testBit_or, Nat.testBit_two_pow, Bool.or_eq_true] at hx
          rw [hQt, Bool.or_eq_true]
          exact hx.imp (g3 x) id
        · rw [hQt, Bool.or_eq_true, decide_eq_true_eq] at hq
          rcases hq with hq | hq
          · obtain ⟨Y, y1, y2, y3⟩ := g4 e he hq
            exact ⟨Y, y1, fun x hx => by rw [Nat.testBit_or, y2 x hx]; rfl, y3⟩
          · subst hq
            refine ⟨2 ^ r, Nat.pow_lt_pow_right (by decide) d1, fun x hx => by rw [Nat.testBit_or, hx, Bool.or_true], ?_⟩
            rw [px_1, if_pos d1]
        · obtain ⟨d, e1, e2⟩ := g6 U hU hUi
          have e2 := e2 (wr pw r) hupper
          cases hUb : U.testBit r with
          | true =>
            rw [hUr U hUb]
            refine ⟨d, by rw [zC_or1 d1 hGr, zC_or1 d1 (hUq U), e1]; omega, fun c hc => ?_⟩
            have hcr := hc r d1 (by rw [hQt, decide_eq_true rfl, Bool.or_true])
            have := Nat.mul_le_mul_left d hcr
            rw [wS_or hGr, wS_or (hUq U), if_pos d1]
            omega
          | false =>
            rw [hUn U hUb]
            refine ⟨d + 1, by rw [zC_or1 d1 hGr, e1]; omega, fun c hc => ?_⟩
            have hcr := hc r d1 (by rw [hQt, decide_eq_true rfl, Bool.or_true])
            have := Nat.mul_le_mul_left d hcr
            rw [wS_or hGr, if_pos d1, Nat.add_mul, Nat.one_mul]
            omega
      · simp only [if_neg hok]
        have hsp : ∃ Y, Y < 2 ^ n ∧ zsub Y (zsd (2 ^ n - 1) M) ∧ px B n Y = ve B r := by
          refine dep_span d1 hiG (fun z => hok ?_)
          rw [pk_ok hn hA hAB hB (zsd_ltn m1), hoff]
          exact z
        have hspan : ∀ e, e < n → (Q ||| 2 ^ r).testBit e = true → ∃ Y, Y < 2 ^ n ∧ zsub Y (zsd (2 ^ n - 1) M) ∧ px B n Y = ve B e := fun e he hq => by
          rw [hQt, Bool.or_eq_true, decide_eq_true_eq] at hq
          rcases hq with hq | hq
          · exact g4 e he hq
          · subst hq; exact hsp
        refine ⟨g1, hcnt, fun x hx => by rw [hQt, g3 x hx]; rfl, hspan, hup, fun U hU hUi => ?_⟩
        obtain ⟨d, e1, e2⟩ := g6 U hU hUi
        have e2 := e2 (wr pw r) hupper
        cases hUb : U.testBit r with
        | true =>
          have hrk := rank hspan (hUi.sub (V := U &&& (Q ||| 2 ^ r)) (fun x hx => by rw [Nat.testBit_and, Bool.and_eq_true] at hx; exact hx.1)) (fun x hx => by rw [Nat.testBit_and, Bool.and_eq_true] at hx; exact hx.2)
          rw [hUr U hUb] at hrk ⊢
          rw [zC_or1 d1 (hUq U), e1] at hrk
          obtain ⟨d', rfl⟩ : ∃ d', d = d' + 1 := ⟨d - 1, by omega⟩
          refine ⟨d', by rw [zC_or1 d1 (hUq U), e1]; omega, fun c hc => ?_⟩
          have hcr := hc r d1 (by rw [hQt, decide_eq_true rfl, Bool.or_true])
          have := Nat.mul_le_mul_left d' hcr
          rw [wS_or (hUq U), if_pos d1]
          rw [Nat.add_mul, Nat.one_mul] at e2
          omega
        | false =>
          rw [hUn U hUb]
          refine ⟨d, e1, fun c hc => ?_⟩
          have hcr := hc r d1 (by rw [hQt, decide_eq_true rfl, Bool.or_true])
          have := Nat.mul_le_mul_left d hcr
          omega
/-- the sets are tried one by one -/
theorem pFd_s {A : Nat → Nat} {n : Nat} {pw : Nat → Nat} (hn : n ≤ 12) : ∀ s, s ≤ 2 ^ n → match pFd A n pw s with
    | none => ∀ X, X < s → pOk A n X = false
    | some q => q.1 < s ∧ q.2 = pPr pw q.1 n ∧ pOk A n q.1 = true ∧ ∀ X, X < s → pOk A n X = true → wS pw q.1 n ≤ wS pw X n
  | 0, _ => fun X hX => absurd hX (Nat.not_lt_zero X)
  | s + 1, hs => by
    have ih := pFd_s (A := A) (pw := pw) hn s (by omega)
    have hp := pw_le hn
    have hw : ∀ X, X < 2 ^ n → wS pw X n = pPr pw X n * 65536 + zpop X * 4096 + X := fun X hX => by rw [wS_e, ← zpop_e hX hn, Nat.mod_eq_of_lt hX]
    have hpl := zpop_le s
    unfold pFd
    cases e : pFd A n pw s with
    | none =>
      rw [e] at ih
      unfold pSt
      dsimp only
      by_cases hok : pOk A n s = true
      · rw [if_pos hok]
        refine ⟨by show s < s + 1; omega, rfl, hok, fun X hX hX2 => ?_⟩
        by_cases q : X = s
        · rw [q]; exact Nat.le_refl _
        · rw [ih X (by omega)] at hX2; cases hX2
      · rw [if_neg hok]
        intro X hX
        by_cases q : X = s
        · rw [q]; simpa using hok
        · exact ih X (by omega)
    | some q =>
      rw [e] at ih
      obtain ⟨i1, i2, i3, i4⟩ := ih
      have hwq := hw q.1 (by omega)
      have hws := hw s (by omega)
      have hpq := zpop_le q.1
      unfold pSt
      dsimp only
      by_cases hc : q.2 < pPr pw s n ∨ (pPr pw s n = q.2 ∧ zpop q.1 ≤ zpop s)
      · rw [if_pos hc]
        refine ⟨by show q.1 < s + 1; omega, i2, i3, fun X hX hX2 => ?_⟩
        by_cases z : X = s
        · rw [z, hwq, hws]
          rw [i2] at hc
          rcases hc with hc | ⟨hc, hc2⟩
          · omega
          · rw [hc]; omega
        · exact i4 X (by omega) hX2
      · rw [if_neg hc]
        by_cases hok : pOk A n s = true
        · rw [if_pos hok]
          refine ⟨by show s < s + 1; omega, rfl, hok, fun X hX hX2 => ?_⟩
          by_cases z : X = s
          · rw [z]; exact Nat.le_refl _
          · refine Nat.le_trans ?_ (i4 X (by omega) hX2)
            rw [i2] at hc
            show wS pw s n ≤ wS pw q.1 n
            rw [hwq, hws]
            by_cases h1 : pPr pw s n = pPr pw q.1 n
            · rw [h1]; omega
            · omega
        · rw [if_neg hok]
          refine ⟨by show q.1 < s + 1; omega, i2, i3, fun X hX hX2 => ?_⟩
          by_cases z : X = s
          · rw [z] at hX2; exact absurd hX2 hok
          · exact i4 X (by omega) hX2
theorem plan_ok {A B : Nat → Nat} {n : Nat} {pw : Nat → Nat} (hn : n ≤ 12) (hA : ∀ j, A j < 2 ^ n) (hAB : ∀ j, j < 8 → A j = B j) (hB : ∀ r, r < n → zC (fun v => (B v).testBit r) 9 = 2) : pB (pFd A n pw (2 ^ n)) = nI (cE A n pw n).1 := by
  obtain ⟨g1, g2, g3, g4, g5, g6⟩ := greedy (pw := pw) hn hA hAB hB n (Nat.le_refl n)
  obtain ⟨m1, q1⟩ := cE_lt (A := A) (n := n) (pw := pw) n (Nat.le_refl n)
  have hs := pFd_s (A := A) (pw := pw) hn (2 ^ n) (Nat.le_refl _)
  have hfull : ∀ x, x < n → (cE A n pw n).2.testBit x = true := zC_all n g2
  cases e : pFd A n pw (2 ^ n) with
  | none =>
    rw [e] at hs
    rw [hs _ m1] at g1
    cases g1
  | some q =>
    rw [e] at hs
    obtain ⟨s1, s2, s3, s4⟩ := hs
    have h1 := s4 _ m1 g1
    have hUi := (pk_ok hn hA hAB hB s1).mp s3
    have hUl : zsd (2 ^ n - 1) q.1 < 2 ^ n := zsd_ltn (by have := Nat.two_pow_pos n; omega)
    obtain ⟨d, e1, e2⟩ := g6 _ hUl hUi
    have e2 := e2 0 (fun _ _ _ => Nat.zero_le _)
    have hUe : wS pw (zsd (2 ^ n - 1) q.1 &&& (cE A n pw n).2) n = wS pw (zsd (2 ^ n - 1) q.1) n := wS_ext n (fun x hx => by rw [Nat.testBit_and, hfull x hx, Bool.and_true])
    rw [hUe, Nat.mul_zero, Nat.add_zero] at e2
    have c1 := wS_cmp (pw := pw) (X := q.1) (n := n) n (Nat.le_refl n)
    have c2 := wS_cmp (pw := pw) (X := (cE A n pw n).1) (n := n) n (Nat.le_refl n)
    have heq : wS pw q.1 n = wS pw (cE A n pw n).1 n := by omega
    rw [wS_e, wS_e, Nat.mod_eq_of_lt s1, Nat.mod_eq_of_lt m1] at heq
    have hp := pw_le hn
    show nI q.1 = _
    congr 1
    omega
