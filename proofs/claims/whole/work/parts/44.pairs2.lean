/-! roads: added, shaped, counted -/
theorem zbt_ext {p q : Nat → Bool} : ∀ n, (∀ i, i < n → p i = q i) → zbt p n = zbt q n
  | 0, _ => rfl
  | n + 1, h => by
    unfold zbt
    rw [zbt_ext n (fun i hi => h i (by omega)), h n (by omega)]
theorem zbt_s (p : Nat → Bool) (n : Nat) : zbt p (n + 1) = zbt p n ||| (if p n then 2 ^ n else 0) := rfl
theorem cAd1_j {ra : Nat → Int32} {n j : Nat} {x : Int32} (hx : -1 ≤ x.toInt ∧ x.toInt < 8) (hj : j < 8) : cAd1 ra n x j = if x = nI j then ra j ||| nI (2 ^ n) else ra j := by
  unfold cAd1
  by_cases e : x = -1
  · rw [if_pos e, if_neg (fun z => ?_)]
    have : (nI j).toInt = -1 := by rw [← z, e]; rfl
    rw [nI_toInt (by omega)] at this
    omega
  · rw [if_neg e]
    have h0 : 0 ≤ x.toInt := by
      refine Decidable.byContradiction (fun z => e ?_)
      rw [i_eq, show (-1 : Int32).toInt = -1 from rfl]
      omega
    obtain ⟨k, hk, rfl⟩ := nI_rng (n := 8) h0 hx.2
    rw [tN (n := 8) hk (by decide)]
    by_cases e2 : j = k
    · subst e2
      rw [upd_s, if_pos rfl]
    · rw [upd_n e2, if_neg (fun z => e2 ?_)]
      rw [nI_eq (by omega) (by omega)] at z
      exact z.symm
/-- the model's arrays with a road more, and what the class holds then -/
def cAddG (S : cS) (f t p : Int32) (A : Nat → Nat) : cS := (cS.mk S.wd S.mo S.h S.hl S.hd S.hn (va_up S.rf S.n (some (90 + 5 * S.n))) (cAd1 (cAd1 S.ra S.n f) S.n t) (A) S.ld S.fo S.fa S.st (S.n + 1) S.kn S.to (upd S.fr S.n f) (upd S.tw S.n t) (upd S.pr S.n p) (va_up S.pw S.n p.toInt.toNat) (upd S.fm S.n 0) (va_up S.sh S.n 0) (va_up S.sz S.n 0) (va_up S.dy S.n (fun _ => 0)) S.dl (va_up S.ct S.n (fun _ => 0)) (va_up S.pa S.n (fun _ => 0)) S.tb S.tl S.e S.p S.x S.qa S.qb S.kc S.sc S.N S.le S.gr S.cn S.kd S.sd S.lf S.gf S.dn)
theorem cAddG_C {S : cS} {f t p : Int32} {A : Nat → Nat} {P : z_H} (h : zCl (cAdd S f t p) P) : zCl (cAddG S f t p A) P := ⟨h.o, h.a, h.n, h.r, h.t, h.u, h.v⟩
theorem cC.ur {S : cS} {iv : Nat → Int32} {h : Nat → Bool} {a : Nat → Nat → Int32} (C : cC S iv h a) {f t p : Int32} (hok : cOkR f t p = true) (hn : S.n < 12) : cC (cAddG S f t p (mA (mRdA a S.n f t p) (S.n + 1))) (va_up iv 2 (nI (S.n + 1))) h (mRdA a S.n f t p) := by
  unfold cOkR at hok
  simp only [Bool.and_eq_true, decide_eq_true_eq, Bool.not_eq_true', decide_eq_false_iff_not] at hok
  obtain ⟨o1, o2, o3, o4⟩ := hok
  have hA : ∀ j, j < 8 → mA (mRdA a S.n f t p) (S.n + 1) j = S.A j ||| (if f = nI j ∨ t = nI j then 2 ^ S.n else 0) := fun j hj => by
    rw [C.A j]
    unfold mA mAt
    rw [zbt_s]
    congr 1
    · refine zbt_ext S.n (fun r hr => ?_)
      show decide (upd (a 75) S.n f r = nI j ∨ upd (a 76) S.n t r = nI j) = _
      rw [upd_n (by omega), upd_n (by omega)]
    · show (if decide (upd (a 75) S.n f S.n = nI j ∨ upd (a 76) S.n t S.n = nI j) = true then _ else _) = _
      rw [upd_s, upd_s]
      simp only [decide_eq_true_eq]
  refine ⟨⟨C.I.q, ⟨hn, fun r hr => ?_⟩, ⟨hn, fun j => zbt_lt _ _, fun j hj => ?_⟩, C.I.hl, fun r hr => ?_, fun r hr => ?_, C.I.tb, C.I.tl, C.I.cn, C.I.sc, C.I.kc⟩, C.hh, C.wd, C.mo, C.h3, C.hi, C.hc, rfl, fun r hr => ?_, fun r h1 h2 => C.fm0 r (Nat.le_of_succ_le h1) h2, fun j => rfl, fun r hr => ?_, fun r h1 h2 => C.ct0 r (Nat.le_of_succ_le h1) h2, fun r hr j hj => ?_, fun r h1 h2 => C.pa0 r (Nat.le_of_succ_le h1) h2, C.t, C.tb, C.cn, C.ru⟩
  · have hr : r < S.n + 1 := hr
    show va_up S.rf S.n (some (90 + 5 * S.n)) r = some (90 + 5 * r)
    by_cases e : r = S.n
    · subst e; rw [vau_s]
    · rw [vau_n e]; exact C.I.rf.2 r (by omega)
  · show cAd1 (cAd1 S.ra S.n f) S.n t j = nI (mA (mRdA a S.n f t p) (S.n + 1) j)
    rw [hA j hj, cAd1_j o2 hj, cAd1_j o1 hj, C.I.ra.2.2 j hj]
    by_cases e1 : t = nI j
    · rw [if_pos e1, if_neg (fun z => o3 (z.trans e1.symm)), if_pos (Or.inr e1), fa_or]
    · rw [if_neg e1]
      by_cases e2 : f = nI j
      · rw [if_pos e2, if_pos (Or.inl e2), fa_or]
      · rw [if_neg e2, if_neg (fun z => z.elim e2 e1), Nat.or_zero]
  · have hr : r < S.n + 1 := hr
    show upd S.fm S.n 0 r = nI (va_up S.sh S.n 0 r) ∧ va_up S.sh S.n 0 r < 4 ∧ cDl (va_up S.dy S.n (fun _ => 0) r) (S.dl r) (va_up S.sz S.n 0 r)
    by_cases e : r = S.n
    · subst e
      rw [upd_s, vau_s, vau_s, vau_s]
      exact ⟨rfl, by decide, by decide, fun i hi => absurd hi (Nat.not_lt_zero i)⟩
    · rw [upd_n e, vau_n e, vau_n e, vau_n e]
      exact C.I.ro r (by omega)
  · have hr : r < S.n + 1 := hr
    show upd S.pr S.n p r = nI (va_up S.pw S.n p.toInt.toNat r) ∧ va_up S.pw S.n p.toInt.toNat r ≤ 9999
    by_cases e : r = S.n
    · subst e
      rw [upd_s, vau_s]
      obtain ⟨k, hk, rfl⟩ := nI_rng (n := 10000) o4.1 (by omega)
      rw [tN (n := 10000) hk (by decide)]
      exact ⟨rfl, by omega⟩
    · rw [upd_n e, vau_n e]
      exact C.I.pr r (by omega)
  · have hr : r < S.n + 1 := hr
    show upd (a 75) S.n f r = upd S.fr S.n f r ∧ upd (a 76) S.n t r = upd S.tw S.n t r ∧ upd (a 77) S.n p r = upd S.pr S.n p r ∧ a 78 r = upd S.fm S.n 0 r ∧ upd S.fr S.n f r ≠ upd S.tw S.n t r ∧ (-1 ≤ (upd S.fr S.n f r).toInt ∧ (upd S.fr S.n f r).toInt < 8) ∧ -1 ≤ (upd S.tw S.n t r).toInt ∧ (upd S.tw S.n t r).toInt < 8
    by_cases e : r = S.n
    · subst e
      rw [upd_s, upd_s, upd_s, upd_s, upd_s, upd_s, upd_s]
      exact ⟨rfl, rfl, rfl, C.fm0 S.n (Nat.le_refl _) hn, o3, o1, o2⟩
    · rw [upd_n e, upd_n e, upd_n e, upd_n e, upd_n e, upd_n e, upd_n e]
      exact C.rd r (by omega)
  · have hr : r < S.n + 1 := hr
    show a 80 r = nI (va_up S.sz S.n 0 r) ∧ (∀ i j, i < va_up S.sz S.n 0 r → j < va_up S.sz S.n 0 r → S.dl r i = S.dl r j → i = j) ∧ (∀ i, i < va_up S.sz S.n 0 r → a 79 (364 * r + S.dl r i) = va_up S.ct S.n (fun _ => 0) r i ∧ 0 ≤ (va_up S.ct S.n (fun _ => 0) r i).toInt ∧ (va_up S.ct S.n (fun _ => 0) r i).toInt ≤ 100000) ∧ ∀ d, d < 364 → (∀ i, i < va_up S.sz S.n 0 r → S.dl r i ≠ d) → a 79 (364 * r + d) = -1
    by_cases e : r = S.n
    · subst e
      rw [vau_s, vau_s]
      exact ⟨(C.ct0 S.n (Nat.le_refl _) hn).1, fun i j hi => absurd hi (Nat.not_lt_zero i), fun i hi => absurd hi (Nat.not_lt_zero i), fun d hd _ => (C.ct0 S.n (Nat.le_refl _) hn).2 d hd⟩
    · rw [vau_n e, vau_n e]
      exact C.ct r (by omega)
  · have hr : r < S.n + 1 := hr
    show a 81 (10 * r + j) = va_up S.pa S.n (fun _ => 0) r j
    by_cases e : r = S.n
    · subst e
      rw [vau_s]
      exact C.pa0 S.n (Nat.le_refl _) hn j hj
    · rw [vau_n e]
      exact C.pa r (by omega) j hj
theorem cC.okr {S : cS} {iv : Nat → Int32} {h : Nat → Bool} {a : Nat → Nat → Int32} (C : cC S iv h a) (f t p : Int32) : mOkR iv f t p = (cOkR f t p && decide (S.n < 12)) := by
  have hn := C.I.rf.1
  have e : (!decide (iv 2 = 12)) = decide (S.n < 12) := by
    rw [C.n]
    by_cases e : S.n < 12
    · rw [decide_eq_true e, decide_eq_false (fun z => by rw [show (12 : Int32) = nI 12 from rfl, nI_eq (by omega) (by omega)] at z; omega)]
      rfl
    · rw [decide_eq_false e, show S.n = 12 by omega]
      rfl
  unfold mOkR cOkR
  rw [e]
  simp only [Bool.and_assoc]
theorem pr_road (f t p : Int32) : pI S7_road S8_road [.int f, .int t, .int p] := by
  rintro P nx ⟨S, iv, h, a, ld, hC, hM, C, hx⟩ K1 hK
  refine ⟨S, f, t, p, rfl, hC, C.I, hx, fun hok => hK _ P nx ⟨_, hM 70 _ rfl⟩ (fun K2 h2 => ⟨iv, h, a, ld, S.n, f, t, p, rfl, hM, C.n, C.I.rf.1, fun P' hM' hO => ?_⟩), fun hok P1 hC1 hO1 => hK _ P1 _ ⟨_, zM_c hM hO1 70 _ rfl⟩ (fun K2 h2 => ⟨iv, h, a, ld, S.n, f, t, p, rfl, zM_c hM hO1, C.n, C.I.rf.1, fun P' hM' hO => ?_⟩)⟩
  · rw [C.okr, hok] at hM' ⊢
    exact h2 P' nx ⟨S, iv, h, a, ld, hC.dm C.I hO, hM', C, hx⟩
  · rw [C.okr, hok, if_pos rfl, if_pos rfl] at hM'
    rw [C.okr, hok, if_pos rfl]
    rw [Bool.and_eq_true, decide_eq_true_eq] at hok
    have C' := C.ur hok.1 hok.2
    exact h2 P' _ ⟨_, _, h, _, ld, (cAddG_C hC1).dm C'.I hO, hM', C', by show 90 + 5 * S.n + 5 = 90 + 5 * (S.n + 1); omega⟩
theorem cC.us2 {S : cS} {iv : Nat → Int32} {h : Nat → Bool} {a : Nat → Nat → Int32} (C : cC S iv h a) {r s : Nat} (hr : r < S.n) (hs : s < 4) : cC (cShp S r (nI s)) iv h (va_up a 78 (upd (a 78) r (nI s))) := by
  refine ⟨⟨C.I.q, C.I.rf, C.I.ra, C.I.hl, fun k hk => ?_, C.I.pr, C.I.tb, C.I.tl, C.I.cn, C.I.sc, C.I.kc⟩, C.hh, C.wd, C.mo, C.h3, C.hi, C.hc, C.n, fun k hk => ?_, fun k h1 h2 => ?_, C.A, C.ct, C.ct0, C.pa, C.pa0, C.t, C.tb, C.cn, C.ru⟩
  · show upd S.fm r (nI s) k = nI (va_up S.sh r (nI s).toInt.toNat k) ∧ va_up S.sh r (nI s).toInt.toNat k < 4 ∧ cDl (S.dy k) (S.dl k) (S.sz k)
    rw [tN (n := 4) hs (by decide)]
    by_cases e : k = r
    · subst e
      rw [upd_s, vau_s]
      exact ⟨rfl, hs, (C.I.ro k hk).2.2⟩
    · rw [upd_n e, vau_n e]
      exact C.I.ro k hk
  · show a 75 k = S.fr k ∧ a 76 k = S.tw k ∧ a 77 k = S.pr k ∧ upd (a 78) r (nI s) k = upd S.fm r (nI s) k ∧ _
    obtain ⟨c1, c2, c3, c4, c5⟩ := C.rd k hk
    refine ⟨c1, c2, c3, ?_, c5⟩
    by_cases e : k = r
    · subst e; rw [upd_s, upd_s]
    · rw [upd_n e, upd_n e]; exact c4
  · have h1 : S.n ≤ k := h1
    show upd (a 78) r (nI s) k = 0
    rw [upd_n (by omega)]
    exact C.fm0 k h1 h2
theorem pr_shape (r s : Int32) : pI S7_shape S8_shape [.int r, .int s] := by
  rintro P nx ⟨S, iv, h, a, ld, hC, hM, C, hx⟩ K1 hK
  refine ⟨S, r, s, rfl, hC, C.I, fun hok => hK _ P nx ⟨_, hM 70 _ rfl⟩ (fun K2 h2 => ⟨iv, h, a, ld, S.n, r, s, rfl, hM, C.n, C.I.rf.1, fun P' hM' hO => ?_⟩), fun hok P1 hC1 hO1 => hK _ P1 nx ⟨_, zM_c hM hO1 70 _ rfl⟩ (fun K2 h2 => ⟨iv, h, a, ld, S.n, r, s, rfl, zM_c hM hO1, C.n, C.I.rf.1, fun P' hM' hO => ?_⟩)⟩
  · rw [hok] at hM' ⊢
    exact h2 P' nx ⟨S, iv, h, a, ld, hC.dm C.I hO, hM', C, hx⟩
  · rw [hok, if_pos rfl] at hM'
    rw [hok]
    unfold mOkS at hok
    simp only [Bool.and_eq_true, decide_eq_true_eq] at hok
    obtain ⟨j, hj, rfl⟩ := nI_rng hok.1.1 hok.1.2
    obtain ⟨k, hk, rfl⟩ := nI_rng (n := 4) hok.2.1 hok.2.2
    rw [tN (n := 12) (Nat.lt_of_lt_of_le hj C.I.rf.1) (by decide)] at hM' hC1
    have C' := C.us2 hj hk
    exact h2 P' nx ⟨_, iv, h, _, ld, hC1.dm C'.I hO, hM', C', hx⟩
/-! counts -/
theorem zF_some {p : Nat → Bool} : ∀ k i j, zF p k i = some j → p j = true
  | 0, i, j, h => by cases h
  | k + 1, i, j, h => by
    unfold zF at h
    split at h
    · cases h; assumption
    · exact zF_some k (i + 1) j h
theorem zF_none {p : Nat → Bool} : ∀ k i, zF p k i = none → ∀ j, i ≤ j → j < i + k → p j = false
  | 0, i, h, j, h1, h2 => absurd h1 (by omega)
  | k + 1, i, h, j, h1, h2 => by
    unfold zF at h
    split at h
    · cases h
    · rename_i hp
      by_cases e : j = i
      · subst e; simpa using hp
      · exact zF_none k (i + 1) h j (by omega) (by omega)
theorem cPl_s {dy : Nat → Int32} {dl : Nat → Nat} {sz d i : Nat} (hD : cDl dy dl sz) (hd : d < 364) (h : cPl dy sz (nI d) = some i) : i < sz ∧ dl i = d := by
  have h1 := zF_lt sz 0 i h
  have h2 := zF_some sz 0 i h
  rw [decide_eq_true_eq, (hD.2 i (by omega)).1, nI_eq (by have := (hD.2 i (by omega)).2; omega) (by omega)] at h2
  exact ⟨by omega, h2⟩
theorem cPl_n {dy : Nat → Int32} {dl : Nat → Nat} {sz d : Nat} (hD : cDl dy dl sz) (hd : d < 364) (h : cPl dy sz (nI d) = none) : ∀ i, i < sz → dl i ≠ d := fun i hi z => by
  have h2 := zF_none sz 0 h i (by omega) (by omega)
  rw [decide_eq_false_iff_not, (hD.2 i hi).1, z] at h2
  exact h2 rfl
theorem c79_i {r d r' d' : Nat} (h1 : d < 364) (h2 : d' < 364) : 364 * r + d = 364 * r' + d' ↔ r = r' ∧ d = d' := by omega
theorem cC.uc {S : cS} {iv : Nat → Int32} {h : Nat → Bool} {a : Nat → Nat → Int32} (C : cC S iv h a) {r d i : Nat} {c : Int32} (hr : r < S.n) (hd : d < 364) (hc : 0 ≤ c.toInt ∧ c.toInt ≤ 100000) (hp : cPut (S.dy r) (S.sz r) (nI d) = some i) : mTak a r d = true ∧ cC (cCou S r i (nI d) c) iv h (mCoA a r d c) := by
  obtain ⟨f1, f2, f3⟩ := C.I.ro r hr
  obtain ⟨c1, c2, c3, c4⟩ := C.ct r hr
  -- where it goes, how many there are then, whether it is new
  have key : i < cSz (S.dy r) (S.sz r) (nI d) ∧ cSz (S.dy r) (S.sz r) (nI d) ≤ 14 ∧ (∀ k, k < cSz (S.dy r) (S.sz r) (nI d) → k ≠ i → k < S.sz r ∧ S.dl r k ≠ d) ∧ (∀ k, k < S.sz r → k < cSz (S.dy r) (S.sz r) (nI d)) ∧ (mNew a r d = true ∧ S.sz r < 14 ∧ i = S.sz r ∧ cSz (S.dy r) (S.sz r) (nI d) = S.sz r + 1 ∨ mNew a r d = false ∧ cSz (S.dy r) (S.sz r) (nI d) = S.sz r ∧ i < S.sz r ∧ S.dl r i = d) := by
    unfold cPut at hp
    unfold cSz mNew
    cases e : cPl (S.dy r) (S.sz r) (nI d) with
    | none =>
      rw [e] at hp
      dsimp only at hp ⊢
      have hn := cPl_n f3 hd e
      by_cases e2 : S.sz r < 14
      · rw [if_pos e2] at hp ⊢
        cases hp
        exact ⟨by omega, by omega, fun k h1 h2 => ⟨by omega, hn k (by omega)⟩, fun k hk => by omega, Or.inl ⟨decide_eq_true (c4 d hd hn), e2, rfl, rfl⟩⟩
      · rw [if_neg e2] at hp
        cases hp
    | some k =>
      rw [e] at hp
      dsimp only at hp ⊢
      cases hp
      obtain ⟨h1, h2⟩ := cPl_s f3 hd e
      have := f3.1
      refine ⟨h1, f3.1, fun k hk hne => ⟨hk, fun z => hne (c2 k i hk h1 (z.trans h2.symm))⟩, fun k hk => hk, Or.inr ⟨decide_eq_false (fun z => ?_), rfl, h1, h2⟩⟩
      obtain ⟨g1, g2, g3⟩ := c3 i h1
      rw [h2] at g1
      rw [g1] at z
      rw [z] at g2
      exact absurd g2 (by decide)
  obtain ⟨k1, k2, k3, k4, k5⟩ := key
  have hi14 : S.sz r ≤ 14 := f3.1
  have a80 : ∀ q, (mCoA a r d c) 80 q = if q = r then nI (cSz (S.dy r) (S.sz r) (nI d)) else a 80 q := fun q => by
    show (va_up (if mNew a r d = true then va_up a 80 (upd (a 80) r (a 80 r + 1)) else a) 79 (upd (a 79) (364 * r + d) c)) 80 q = _
    rcases k5 with ⟨m1, m2, m3, m4⟩ | ⟨m1, m2, m3, m4⟩
    · rw [if_pos m1]
      show upd (a 80) r (a 80 r + 1) q = _
      by_cases e : q = r
      · subst e; rw [upd_s, if_pos rfl, c1, nI_1, m4]
      · rw [upd_n e, if_neg e]
    · rw [if_neg (by rw [m1]; decide)]
      show a 80 q = _
      by_cases e : q = r
      · subst e; rw [if_pos rfl, m2, c1]
      · rw [if_neg e]
  have a79 : ∀ q, (mCoA a r d c) 79 q = upd (a 79) (364 * r + d) c q := fun q => rfl
  have arest : ∀ k, k ≠ 79 → k ≠ 80 → (mCoA a r d c) k = a k := fun k h1 h2 => by
    unfold mCoA
    rw [vau_n h1]
    split
    · rw [vau_n h2]
    · rfl
  refine ⟨?_, ?_⟩
  · unfold mTak
    rcases k5 with ⟨m1, m2, -⟩ | ⟨m1, -⟩
    · rw [m1, c1, decide_eq_false (fun z => by rw [show (14 : Int32) = nI 14 from rfl, nI_eq (by omega) (by omega)] at z; omega)]
      rfl
    · rw [m1]; rfl
  refine ⟨⟨C.I.q, C.I.rf, C.I.ra, C.I.hl, fun k hk => ?_, C.I.pr, C.I.tb, C.I.tl, C.I.cn, C.I.sc, C.I.kc⟩, C.hh, ?_, ?_, C.h3, C.hi, C.hc, C.n, ?_, ?_, ?_, fun k hk => ?_, fun k h1 h2 => ?_, ?_, ?_, C.t, ?_, C.cn, ?_⟩
  · show S.fm k = nI (S.sh k) ∧ S.sh k < 4 ∧ cDl (va_up S.dy r (upd (S.dy r) i (nI d)) k) (va_up S.dl r (va_up (S.dl r) i (nI d).toInt.toNat) k) (va_up S.sz r (cSz (S.dy r) (S.sz r) (nI d)) k)
    rw [tN (n := 364) hd (by decide)]
    by_cases e : k = r
    · subst e
      rw [vau_s, vau_s, vau_s]
      refine ⟨f1, f2, k2, fun j hj => ?_⟩
      by_cases e2 : j = i
      · subst e2
        rw [upd_s, vau_s]
        exact ⟨rfl, hd⟩
      · rw [upd_n e2, vau_n e2]
        exact f3.2 j (k3 j hj e2).1
    · rw [vau_n e, vau_n e, vau_n e]
      exact C.I.ro k hk
  · rw [arest 73 (by decide) (by decide)]; exact C.wd
  · rw [arest 74 (by decide) (by decide)]; exact C.mo
  · rw [arest 75 (by decide) (by decide), arest 76 (by decide) (by decide), arest 77 (by decide) (by decide), arest 78 (by decide) (by decide)]; exact C.rd
  · rw [arest 78 (by decide) (by decide)]; exact C.fm0
  · intro j
    show S.A j = mA (mCoA a r d c) S.n j
    unfold mA mAt
    rw [arest 75 (by decide) (by decide), arest 76 (by decide) (by decide)]
    exact C.A j
  · have hk : k < S.n := hk
    show (mCoA a r d c) 80 k = nI (va_up S.sz r (cSz (S.dy r) (S.sz r) (nI d)) k) ∧ (∀ i' j, i' < va_up S.sz r (cSz (S.dy r) (S.sz r) (nI d)) k → j < va_up S.sz r (cSz (S.dy r) (S.sz r) (nI d)) k → va_up S.dl r (va_up (S.dl r) i (nI d).toInt.toNat) k i' = va_up S.dl r (va_up (S.dl r) i (nI d).toInt.toNat) k j → i' = j) ∧ (∀ i', i' < va_up S.sz r (cSz (S.dy r) (S.sz r) (nI d)) k → (mCoA a r d c) 79 (364 * k + va_up S.dl r (va_up (S.dl r) i (nI d).toInt.toNat) k i') = va_up S.ct r (upd (S.ct r) i c) k i' ∧ 0 ≤ (va_up S.ct r (upd (S.ct r) i c) k i').toInt ∧ (va_up S.ct r (upd (S.ct r) i c) k i').toInt ≤ 100000) ∧ ∀ e, e < 364 → (∀ i', i' < va_up S.sz r (cSz (S.dy r) (S.sz r) (nI d)) k → va_up S.dl r (va_up (S.dl r) i (nI d).toInt.toNat) k i' ≠ e) → (mCoA a r d c) 79 (364 * k + e) = -1
    rw [tN (n := 364) hd (by decide), a80]
    by_cases e : k = r
    · subst e
      rw [vau_s, vau_s, vau_s, if_pos rfl]
      refine ⟨rfl, fun i' j h1 h2 hij => ?_, fun i' h1 => ?_, fun e he hno => ?_⟩
      · by_cases e1 : i' = i
        · by_cases e2 : j = i
          · omega
          · subst e1
            rw [vau_s, vau_n e2] at hij
            exact absurd hij.symm (k3 j h2 e2).2
        · by_cases e2 : j = i
          · subst e2
            rw [vau_s, vau_n e1] at hij
            exact absurd hij (k3 i' h1 e1).2
          · rw [vau_n e1, vau_n e2] at hij
            exact c2 i' j (k3 i' h1 e1).1 (k3 j h2 e2).1 hij
      · rw [a79]
        by_cases e1 : i' = i
        · subst e1
          rw [vau_s, upd_s, upd_s]
          exact ⟨rfl, hc⟩
        · obtain ⟨q1, q2⟩ := k3 i' h1 e1
          have := (f3.2 i' q1).2
          rw [vau_n e1, upd_n e1, upd_n (by omega)]
          exact c3 i' q1
      · rw [a79, upd_n]
        · refine c4 e he (fun i' h1 h2 => ?_)
          by_cases e1 : i' = i
          · subst e1
            rcases k5 with ⟨-, -, m3, -⟩ | ⟨-, -, -, m4⟩
            · omega
            · exact hno i' (k4 i' h1) (by rw [vau_s, ← m4]; exact h2)
          · exact hno i' (k4 i' h1) (by rw [vau_n e1]; exact h2)
        · have := hno i k1
          rw [vau_s] at this
          omega
    · rw [vau_n e, vau_n e, vau_n e, if_neg e]
      obtain ⟨q1, q2, q3, q4⟩ := C.ct k hk
      refine ⟨q1, q2, fun i' h1 => ?_, fun e' he hno => ?_⟩
      · have := ((C.I.ro k hk).2.2.2 i' h1).2
        rw [a79, upd_n (by omega)]
        exact q3 i' h1
      · rw [a79, upd_n (by omega)]
        exact q4 e' he hno
  · have h1 : S.n ≤ k := h1
    obtain ⟨q1, q2⟩ := C.ct0 k h1 h2
    refine ⟨?_, fun e he => ?_⟩
    · rw [a80, if_neg (by omega)]; exact q1
    · rw [a79, upd_n (by omega)]; exact q2 e he
  · rw [arest 81 (by decide) (by decide)]; exact C.pa
  · rw [arest 81 (by decide) (by decide)]; exact C.pa0
  · exact C.tb.x (arest 71 (by decide) (by decide))
  · rw [arest 82 (by decide) (by decide), arest 83 (by decide) (by decide), arest 84 (by decide) (by decide)]; exact C.ru
theorem cC.un {S : cS} {iv : Nat → Int32} {h : Nat → Bool} {a : Nat → Nat → Int32} (C : cC S iv h a) {r d : Nat} (hr : r < S.n) (hd : d < 364) (hp : cPut (S.dy r) (S.sz r) (nI d) = none) : mTak a r d = false := by
  obtain ⟨f1, f2, f3⟩ := C.I.ro r hr
  obtain ⟨c1, c2, c3, c4⟩ := C.ct r hr
  unfold cPut at hp
  cases e : cPl (S.dy r) (S.sz r) (nI d) with
  | none =>
    rw [e] at hp
    dsimp only at hp
    have h14 : S.sz r = 14 := by
      have := f3.1
      by_cases e2 : S.sz r < 14
      · rw [if_pos e2] at hp; cases hp
      · omega
    unfold mTak mNew
    rw [decide_eq_true (c4 d hd (cPl_n f3 hd e)), c1, h14]
    rfl
  | some k =>
    rw [e] at hp
    cases hp
theorem pr_count (r d c : Int32) : pI S7_count S8_count [.int r, .int d, .int c] := by
  rintro P nx ⟨S, iv, h, a, ld, hC, hM, C, hx⟩ K1 hK
  refine ⟨S, r, d, c, rfl, hC, C.I, fun hok => hK _ P nx ⟨_, hM 70 _ rfl⟩ (fun K2 h2 => ⟨iv, h, a, ld, S.n, r, d, c, rfl, hM, C.n, C.I.rf.1, fun P' hM' hO => ?_⟩), fun hok hp => hK _ P nx ⟨_, hM 70 _ rfl⟩ (fun K2 h2 => ⟨iv, h, a, ld, S.n, r, d, c, rfl, hM, C.n, C.I.rf.1, fun P' hM' hO => ?_⟩), fun hok i hp P1 hC1 hO1 => hK _ P1 nx ⟨_, zM_c hM hO1 70 _ rfl⟩ (fun K2 h2 => ⟨iv, h, a, ld, S.n, r, d, c, rfl, zM_c hM hO1, C.n, C.I.rf.1, fun P' hM' hO => ?_⟩)⟩
  · rw [hok, Bool.false_and] at hM' ⊢
    exact h2 P' nx ⟨S, iv, h, a, ld, hC.dm C.I hO, hM', C, hx⟩
  · have hok2 := hok
    unfold mOkC at hok2
    simp only [Bool.and_eq_true, decide_eq_true_eq] at hok2
    obtain ⟨j, hj, rfl⟩ := nI_rng hok2.1.1 hok2.1.2
    obtain ⟨k, hk, rfl⟩ := nI_rng (n := 364) hok2.2.1.1 (by omega)
    have hjN := tN (n := 12) (Nat.lt_of_lt_of_le hj C.I.rf.1) (by decide)
    have hkN := tN (n := 364) hk (by decide)
    rw [hjN] at hp
    rw [hok, hjN, hkN, C.un hj hk hp] at hM' ⊢
    exact h2 P' nx ⟨S, iv, h, a, ld, hC.dm C.I hO, hM', C, hx⟩
  · have hok2 := hok
    unfold mOkC at hok2
    simp only [Bool.and_eq_true, decide_eq_true_eq] at hok2
    obtain ⟨j, hj, rfl⟩ := nI_rng hok2.1.1 hok2.1.2
    obtain ⟨k, hk, rfl⟩ := nI_rng (n := 364) hok2.2.1.1 (by omega)
    have hjN := tN (n := 12) (Nat.lt_of_lt_of_le hj C.I.rf.1) (by decide)
    have hkN := tN (n := 364) hk (by decide)
    rw [hjN] at hp hC1
    obtain ⟨q1, C'⟩ := C.uc hj hk hok2.2.2 hp
    rw [hok, hjN, hkN, q1] at hM' ⊢
    exact h2 P' nx ⟨_, iv, h, _, ld, hC1.dm C'.I hO, hM', C', hx⟩
