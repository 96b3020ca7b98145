/-! LOADS: the class's steps tell what the model's turns tell -/
theorem cC.Ab {S : cS} {iv : Nat → Int32} {h : Nat → Bool} {a : Nat → Nat → Int32} (C : cC S iv h a) {j r : Nat} (hr : r < S.n) : (S.A j).testBit r = decide (S.fr r = nI j ∨ S.tw r = nI j) := by
  obtain ⟨r1, r2, -⟩ := C.rd r hr
  rw [C.A j]
  unfold mA mAt
  rw [zbt_t, decide_eq_true hr, Bool.true_and, r1, r2]
theorem cC.ex {S : cS} {iv : Nat → Int32} {h : Nat → Bool} {a : Nat → Nat → Int32} (C : cC S iv h a) {ldm ldc : Nat → Int64} {j set : Nat} (hl : ∀ r, r < S.n → set.testBit r = true → ldm r = ldc r) : ∀ k, k ≤ S.n → mEx a ldm (nI j) set k = cSu S.tw ldc S.A j set k
  | 0, _ => rfl
  | k + 1, hk => by
    obtain ⟨r1, r2, -⟩ := C.rd k (by omega)
    unfold mEx cSu mExT
    rw [cC.ex C hl k (by omega), C.Ab (show k < S.n by omega), r1, r2]
    cases hs : set.testBit k with
    | false => simp
    | true =>
      rw [hl k (by omega) hs]
      by_cases h1 : S.tw k = nI j
      · simp [h1]
      · by_cases h2 : S.fr k = nI j
        · simp [h1, h2]
        · simp [h1, h2]
theorem cC.A2 {S : cS} {iv : Nat → Int32} {h : Nat → Bool} {a : Nat → Nat → Int32} (C : cC S iv h a) (j : Nat) : S.A j < 4096 := Nat.lt_of_lt_of_le (C.I.ra.2.1 j) (pw_le C.I.rf.1)
/-- the same set is told, with the same loads -/
def ldR (n : Nat) (q p : Nat × (Nat → Int64)) : Prop := p.1 = q.1 ∧ ∀ r, r < n → q.1.testBit r = true → q.2 r = p.2 r
theorem cC.gs {S : cS} {iv : Nat → Int32} {h : Nat → Bool} {a : Nat → Nat → Int32} (C : cC S iv h a) {p0 q : Nat × (Nat → Int64)} {cs : Nat × List (Nat × Nat)} {j : Nat} (h1 : cs.1 = q.1) (h2 : ldR S.n q (cs.2.foldl (sS S.tw S.A S.n) p0)) : (fS S.A j cs).1 = (gS a S.n j q).1 ∧ ldR S.n (gS a S.n j q) ((fS S.A j cs).2.foldl (sS S.tw S.A S.n) p0) := by
  unfold fS gS
  rw [h1, ← C.A j]
  by_cases hz : zpop (zsd (S.A j) q.1) = 1
  · rw [if_pos hz, if_pos hz]
    obtain ⟨o1, o2⟩ := one_log _ (zsd_lt (C.A2 j)) hz
    have hb : (zsd (S.A j) q.1).testBit (Nat.log2 (zsd (S.A j) q.1)) = true := by
      conv => lhs; arg 1; rw [o1]
      exact Nat.testBit_two_pow_self
    rw [zsd_t, Bool.and_eq_true] at hb
    have hrn : Nat.log2 (zsd (S.A j) q.1) < S.n := by
      refine Decidable.byContradiction (fun z => ?_)
      rw [Nat.testBit_lt_two_pow (Nat.lt_of_lt_of_le (C.I.ra.2.1 j) (Nat.pow_le_pow_right (by decide) (by omega)))] at hb
      cases hb.1
    obtain ⟨g1, g2⟩ := h2
    refine ⟨rfl, ?_⟩
    rw [List.foldl_append]
    show ldR S.n _ (sS S.tw S.A S.n (cs.2.foldl (sS S.tw S.A S.n) p0) (Nat.log2 (zsd (S.A j) q.1), j))
    generalize cs.2.foldl (sS S.tw S.A S.n) p0 = T at g1 g2 ⊢
    unfold sS
    dsimp only
    rw [g1, ← C.ex (fun r hr hb => g2 r hr hb) S.n (Nat.le_refl _), (C.rd _ hrn).2.1]
    refine ⟨by show q.1 ||| 2 ^ _ = _; rw [← o1], fun r hr hbit => ?_⟩
    show vp_updL q.2 _ _ r = vp_updL _ _ _ r
    unfold vp_updL
    by_cases e : r = Nat.log2 (zsd (S.A j) q.1)
    · rw [if_pos e, if_pos e]
    · rw [if_neg e, if_neg e]
      refine g2 r hr ?_
      have hbit : (q.1 ||| zsd (S.A j) q.1).testBit r = true := hbit
      rw [Nat.testBit_or, Bool.or_eq_true] at hbit
      rcases hbit with hbit | hbit
      · exact hbit
      · rw [o1, Nat.testBit_two_pow, decide_eq_true_eq] at hbit
        exact absurd hbit.symm e
  · rw [if_neg hz, if_neg hz]
    exact ⟨h1, h2⟩
theorem cC.gf {S : cS} {iv : Nat → Int32} {h : Nat → Bool} {a : Nat → Nat → Int32} (C : cC S iv h a) {p0 : Nat × (Nat → Int64)} : ∀ (k j : Nat) {q : Nat × (Nat → Int64)} {cs : Nat × List (Nat × Nat)}, cs.1 = q.1 → ldR S.n q (cs.2.foldl (sS S.tw S.A S.n) p0) → (fF S.A k j cs).1 = (gF a S.n k j q).1 ∧ ldR S.n (gF a S.n k j q) ((fF S.A k j cs).2.foldl (sS S.tw S.A S.n) p0)
  | 0, j, q, cs, h1, h2 => ⟨h1, h2⟩
  | k + 1, j, q, cs, h1, h2 => by
    unfold fF gF
    obtain ⟨g1, g2⟩ := C.gs (j := j) h1 h2
    exact cC.gf C k (j + 1) g1 g2
theorem cC.gl {S : cS} {iv : Nat → Int32} {h : Nat → Bool} {a : Nat → Nat → Int32} (C : cC S iv h a) {p0 : Nat × (Nat → Int64)} : ∀ (f : Nat) {q : Nat × (Nat → Int64)} {cs : Nat × List (Nat × Nat)}, cs.1 = q.1 → ldR S.n q (cs.2.foldl (sS S.tw S.A S.n) p0) → (fL S.A f cs).1 = (gL a S.n f q).1 ∧ ldR S.n (gL a S.n f q) ((fL S.A f cs).2.foldl (sS S.tw S.A S.n) p0)
  | 0, q, cs, h1, h2 => ⟨h1, h2⟩
  | f + 1, q, cs, h1, h2 => by
    unfold fL gL
    obtain ⟨g1, g2⟩ := C.gf 8 0 h1 h2
    rw [g1, h1]
    split
    · exact ⟨g1, g2⟩
    · exact cC.gl C f g1 g2
theorem cC.kn {S : cS} {iv : Nat → Int32} {h : Nat → Bool} {a : Nat → Nat → Int32} (C : cC S iv h a) : sKn (cLo S) S.n = mKn h a S.n := by
  unfold sKn mKn
  refine Nat.eq_of_testBit_eq (fun i => ?_)
  rw [zbt_t, zbt_t]
  by_cases hi : i < S.n
  · rw [decide_eq_true hi, Bool.true_and, Bool.true_and]
    refine decide_eq_decide.mpr ?_
    rw [(C.lo hi).2]
    exact Decidable.not_not
  · rw [decide_eq_false hi, Bool.false_and, Bool.false_and]
theorem sLd_e {lo ld : Nat → Int64} : ∀ n r, r < n → ¬ lo r = -1 → sLd lo ld n r = lo r
  | 0, r, h, _ => absurd h (Nat.not_lt_zero r)
  | n + 1, r, h, h1 => by
    unfold sLd
    by_cases e : r = n
    · subst e
      rw [if_neg h1]
      simp [vp_updL]
    · split
      · exact sLd_e n r (by omega) h1
      · simp only [vp_updL, if_neg e]
        exact sLd_e n r (by omega) h1
theorem wLd_e {h : Nat → Bool} {a : Nat → Nat → Int32} {sh : Nat → Nat} {n : Nat} {ld : Nat → Int64} : ∀ k r, r < k → wLd h a sh n ld k r = if (mKn h a n).testBit r then mYear h a r (sh r) else 0
  | 0, r, h => absurd h (Nat.not_lt_zero r)
  | k + 1, r, h1 => by
    unfold wLd
    by_cases e : r = k
    · subst e
      simp [vp_updL]
    · simp only [vp_updL, if_neg e]
      exact wLd_e k r (by omega)
theorem cC.to {S : cS} {iv : Nat → Int32} {h : Nat → Bool} {a : Nat → Nat → Int32} (C : cC S iv h a) (ld : Nat → Int64) : ldR S.n (mW h a S.n (mSh S) ld) (cTo S) := by
  have h0 : ldR S.n (mKn h a S.n, wLd h a (mSh S) S.n ld S.n) (([] : List (Nat × Nat)).foldl (sS S.tw S.A S.n) (sKn (cLo S) S.n, sLd (cLo S) S.ld S.n)) := by
    refine ⟨C.kn, fun r hr hb => ?_⟩
    show wLd h a (mSh S) S.n ld S.n r = sLd (cLo S) S.ld S.n r
    have hb : (mKn h a S.n).testBit r = true := hb
    have hu : 0 < zC (mUsed h a r) 364 := by
      rw [mKn_t hr, decide_eq_true_eq] at hb
      exact hb
    rw [wLd_e S.n r hr, if_pos hb, mSh_e hr, sLd_e S.n r hr (fun z => (C.lo hr).2.mp z hu), (C.lo hr).1, if_pos hu]
  exact (C.gl 13 (cs := (sKn (cLo S) S.n, [])) C.kn h0).2
theorem zsub_aL (A : Nat → Nat) : ∀ f all, zsub all (aL A f all)
  | 0, all, i, hi => hi
  | f + 1, all, i, hi => by
    unfold aL
    split
    · exact aF_sub A 8 0 all i hi
    · exact zsub_aL A f _ i (aF_sub A 8 0 all i hi)
theorem cC.tell5 {S : cS} {iv : Nat → Int32} {h : Nat → Bool} {a : Nat → Nat → Int32} (C : cC S iv h a) (ld : Nat → Int64) : nI (zpop (cTo S).1) - nI (zpop (sKn (cLo S) S.n)) = nI (zpop (zsd (mW h a S.n (mSh S) ld).1 (mKn h a S.n))) := by
  rw [(C.to ld).1, C.kn]
  have hsub : zsub (mKn h a S.n) (mW h a S.n (mSh S) ld).1 := by
    unfold mW
    rw [gL_1]
    exact zsub_aL _ _ _
  have hor : (mW h a S.n (mSh S) ld).1 = mKn h a S.n ||| zsd (mW h a S.n (mSh S) ld).1 (mKn h a S.n) := by
    refine Nat.eq_of_testBit_eq (fun i => ?_)
    rw [Nat.testBit_or, zsd_t]
    cases e : (mKn h a S.n).testBit i with
    | true => rw [hsub i e]; rfl
    | false => simp
  have hp : zpop (mW h a S.n (mSh S) ld).1 = zpop (mKn h a S.n) + zpop (zsd (mW h a S.n (mSh S) ld).1 (mKn h a S.n)) := by
    rw [← zpop_or (fun i h1 h2 => by rw [zsd_t, h1] at h2; simp at h2), ← hor]
  rw [pk_sub (by omega)]
  congr 1
  omega
