/-! THE CLASS AND THE MODEL, held together -/
abbrev cC (S : cS) (iv : Nat → Int32) (h : Nat → Bool) (a : Nat → Nat → Int32) : Prop := (cIv S) ∧ (S.h = h) ∧ (∀ s d, s < 4 → d < 7 → S.wd s d = a 73 (7 * s + d) ∧ 1 ≤ (S.wd s d).toInt ∧ (S.wd s d).toInt ≤ 99) ∧ (∀ s d, s < 4 → d < 13 → S.mo s d = a 74 (13 * s + d) ∧ 1 ≤ (S.mo s d).toInt ∧ (S.mo s d).toInt ≤ 99) ∧ (iv 3 = nI S.hn) ∧ (∀ i j, i < S.hn → j < S.hn → S.hd i = S.hd j → i = j) ∧ (∀ d, d < 364 → (h d = true ↔ ∃ i, i < S.hn ∧ S.hd i = d)) ∧ (iv 2 = nI S.n) ∧ (∀ r, r < S.n → a 75 r = S.fr r ∧ a 76 r = S.tw r ∧ a 77 r = S.pr r ∧ a 78 r = S.fm r ∧ S.fr r ≠ S.tw r ∧ (-1 ≤ (S.fr r).toInt ∧ (S.fr r).toInt < 8) ∧ -1 ≤ (S.tw r).toInt ∧ (S.tw r).toInt < 8) ∧ (∀ r, S.n ≤ r → r < 12 → a 78 r = 0) ∧ (∀ j, S.A j = mA a S.n j) ∧ (∀ r, r < S.n → a 80 r = nI (S.sz r) ∧ (∀ i j, i < S.sz r → j < S.sz r → S.dl r i = S.dl r j → i = j) ∧ (∀ i, i < S.sz r → a 79 (364 * r + S.dl r i) = S.ct r i ∧ 0 ≤ (S.ct r i).toInt ∧ (S.ct r i).toInt ≤ 100000) ∧ ∀ d, d < 364 → (∀ i, i < S.sz r → S.dl r i ≠ d) → a 79 (364 * r + d) = -1) ∧ (∀ r, S.n ≤ r → r < 12 → a 80 r = 0 ∧ ∀ d, d < 364 → a 79 (364 * r + d) = -1) ∧ (∀ r, r < S.n → ∀ j, j < 10 → a 81 (10 * r + j) = S.pa r j) ∧ (∀ r, S.n ≤ r → r < 12 → ∀ j, j < 10 → a 81 (10 * r + j) = 0) ∧ (iv 1 = nI S.tl) ∧ (mT S.tb a) ∧ (iv 14 = nI S.cn) ∧ (∀ c, c < S.cn → a 82 c = S.kc c ∧ a 83 c = S.sc c ∧ ∀ j, j < S.N c → S.le c j = a 84 (8 * c + 2 * j) ∧ S.gr c j = a 84 (8 * c + 2 * j + 1))
theorem cC.I {S : cS} {iv : Nat → Int32} {h : Nat → Bool} {a : Nat → Nat → Int32} (q : cC S iv h a) : cIv S := q.1
theorem cC.hh {S : cS} {iv : Nat → Int32} {h : Nat → Bool} {a : Nat → Nat → Int32} (q : cC S iv h a) : S.h = h := q.2.1
theorem cC.wd {S : cS} {iv : Nat → Int32} {h : Nat → Bool} {a : Nat → Nat → Int32} (q : cC S iv h a) : ∀ s d, s < 4 → d < 7 → S.wd s d = a 73 (7 * s + d) ∧ 1 ≤ (S.wd s d).toInt ∧ (S.wd s d).toInt ≤ 99 := q.2.2.1
theorem cC.mo {S : cS} {iv : Nat → Int32} {h : Nat → Bool} {a : Nat → Nat → Int32} (q : cC S iv h a) : ∀ s d, s < 4 → d < 13 → S.mo s d = a 74 (13 * s + d) ∧ 1 ≤ (S.mo s d).toInt ∧ (S.mo s d).toInt ≤ 99 := q.2.2.2.1
theorem cC.h3 {S : cS} {iv : Nat → Int32} {h : Nat → Bool} {a : Nat → Nat → Int32} (q : cC S iv h a) : iv 3 = nI S.hn := q.2.2.2.2.1
theorem cC.hi {S : cS} {iv : Nat → Int32} {h : Nat → Bool} {a : Nat → Nat → Int32} (q : cC S iv h a) : ∀ i j, i < S.hn → j < S.hn → S.hd i = S.hd j → i = j := q.2.2.2.2.2.1
theorem cC.hc {S : cS} {iv : Nat → Int32} {h : Nat → Bool} {a : Nat → Nat → Int32} (q : cC S iv h a) : ∀ d, d < 364 → (h d = true ↔ ∃ i, i < S.hn ∧ S.hd i = d) := q.2.2.2.2.2.2.1
theorem cC.n {S : cS} {iv : Nat → Int32} {h : Nat → Bool} {a : Nat → Nat → Int32} (q : cC S iv h a) : iv 2 = nI S.n := q.2.2.2.2.2.2.2.1
theorem cC.rd {S : cS} {iv : Nat → Int32} {h : Nat → Bool} {a : Nat → Nat → Int32} (q : cC S iv h a) : ∀ r, r < S.n → a 75 r = S.fr r ∧ a 76 r = S.tw r ∧ a 77 r = S.pr r ∧ a 78 r = S.fm r ∧ S.fr r ≠ S.tw r ∧ (-1 ≤ (S.fr r).toInt ∧ (S.fr r).toInt < 8) ∧ -1 ≤ (S.tw r).toInt ∧ (S.tw r).toInt < 8 := q.2.2.2.2.2.2.2.2.1
theorem cC.fm0 {S : cS} {iv : Nat → Int32} {h : Nat → Bool} {a : Nat → Nat → Int32} (q : cC S iv h a) : ∀ r, S.n ≤ r → r < 12 → a 78 r = 0 := q.2.2.2.2.2.2.2.2.2.1
theorem cC.A {S : cS} {iv : Nat → Int32} {h : Nat → Bool} {a : Nat → Nat → Int32} (q : cC S iv h a) : ∀ j, S.A j = mA a S.n j := q.2.2.2.2.2.2.2.2.2.2.1
theorem cC.ct {S : cS} {iv : Nat → Int32} {h : Nat → Bool} {a : Nat → Nat → Int32} (q : cC S iv h a) : ∀ r, r < S.n → a 80 r = nI (S.sz r) ∧ (∀ i j, i < S.sz r → j < S.sz r → S.dl r i = S.dl r j → i = j) ∧ (∀ i, i < S.sz r → a 79 (364 * r + S.dl r i) = S.ct r i ∧ 0 ≤ (S.ct r i).toInt ∧ (S.ct r i).toInt ≤ 100000) ∧ ∀ d, d < 364 → (∀ i, i < S.sz r → S.dl r i ≠ d) → a 79 (364 * r + d) = -1 := q.2.2.2.2.2.2.2.2.2.2.2.1
theorem cC.ct0 {S : cS} {iv : Nat → Int32} {h : Nat → Bool} {a : Nat → Nat → Int32} (q : cC S iv h a) : ∀ r, S.n ≤ r → r < 12 → a 80 r = 0 ∧ ∀ d, d < 364 → a 79 (364 * r + d) = -1 := q.2.2.2.2.2.2.2.2.2.2.2.2.1
theorem cC.pa {S : cS} {iv : Nat → Int32} {h : Nat → Bool} {a : Nat → Nat → Int32} (q : cC S iv h a) : ∀ r, r < S.n → ∀ j, j < 10 → a 81 (10 * r + j) = S.pa r j := q.2.2.2.2.2.2.2.2.2.2.2.2.2.1
theorem cC.pa0 {S : cS} {iv : Nat → Int32} {h : Nat → Bool} {a : Nat → Nat → Int32} (q : cC S iv h a) : ∀ r, S.n ≤ r → r < 12 → ∀ j, j < 10 → a 81 (10 * r + j) = 0 := q.2.2.2.2.2.2.2.2.2.2.2.2.2.2.1
theorem cC.t {S : cS} {iv : Nat → Int32} {h : Nat → Bool} {a : Nat → Nat → Int32} (q : cC S iv h a) : iv 1 = nI S.tl := q.2.2.2.2.2.2.2.2.2.2.2.2.2.2.2.1
theorem cC.tb {S : cS} {iv : Nat → Int32} {h : Nat → Bool} {a : Nat → Nat → Int32} (q : cC S iv h a) : mT S.tb a := q.2.2.2.2.2.2.2.2.2.2.2.2.2.2.2.2.1
theorem cC.cn {S : cS} {iv : Nat → Int32} {h : Nat → Bool} {a : Nat → Nat → Int32} (q : cC S iv h a) : iv 14 = nI S.cn := q.2.2.2.2.2.2.2.2.2.2.2.2.2.2.2.2.2.1
theorem cC.ru {S : cS} {iv : Nat → Int32} {h : Nat → Bool} {a : Nat → Nat → Int32} (q : cC S iv h a) : ∀ c, c < S.cn → a 82 c = S.kc c ∧ a 83 c = S.sc c ∧ ∀ j, j < S.N c → S.le c j = a 84 (8 * c + 2 * j) ∧ S.gr c j = a 84 (8 * c + 2 * j + 1) := q.2.2.2.2.2.2.2.2.2.2.2.2.2.2.2.2.2.2
theorem mul99 {x y : Int} (h1 : 1 ≤ x) (h2 : x ≤ 99) (h3 : 1 ≤ y) (h4 : y ≤ 99) : 1 ≤ x * y ∧ x * y ≤ 9801 := by
  have a : 1 * 1 ≤ x * y := Int.mul_le_mul h1 h3 (by omega) (by omega)
  have b : x * y ≤ 99 * 99 := Int.mul_le_mul h2 h4 (by omega) (by omega)
  omega
theorem w_mul {x y : Int32} (hx : 1 ≤ x.toInt ∧ x.toInt ≤ 99) (hy : 1 ≤ y.toInt ∧ y.toInt ≤ 99) : (x * y).toInt64 = x.toInt64 * y.toInt64 ∧ 1 ≤ (x.toInt64 * y.toInt64).toInt ∧ (x.toInt64 * y.toInt64).toInt ≤ 9801 := by
  have m := mul99 hx.1 hx.2 hy.1 hy.2
  have e : (x.toInt64 * y.toInt64).toInt = x.toInt * y.toInt := by rw [l_mul (by rw [i2l_t, i2l_t]; omega) (by rw [i2l_t, i2l_t]; omega), i2l_t, i2l_t]
  refine ⟨?_, by omega, by omega⟩
  rw [l_eq, e, i2l_t, i_mul (by omega) (by omega)]
theorem cC.sh {S : cS} {iv : Nat → Int32} {h : Nat → Bool} {a : Nat → Nat → Int32} (C : cC S iv h a) {s d : Nat} (hs : s < 4) (hd : d < 364) : cShare S.wd S.mo S.h s d = mShare h a s d ∧ 1 ≤ (mShare h a s d).toInt ∧ (mShare h a s d).toInt ≤ 9801 := by
  unfold cShare mShare
  rw [C.hh]
  have hk : (if h d = true then 6 else d % 7) < 7 := by split <;> omega
  obtain ⟨w1, w2⟩ := C.wd s _ hs hk
  obtain ⟨m1, m2⟩ := C.mo s (d / 28) hs (by omega)
  have := w_mul w2 m2
  rw [w1, m1] at this ⊢
  exact this
theorem cC.ord {S : cS} {iv : Nat → Int32} {h : Nat → Bool} {a : Nat → Nat → Int32} (C : cC S iv h a) {s d : Nat} (hs : s < 4) (hd : d < 364) : cOrd S.wd S.mo s d = (S.wd s (d % 7)).toInt64 * (S.mo s (d / 28)).toInt64 := (w_mul (C.wd s _ hs (by omega)).2 (C.mo s _ hs (by omega)).2).1
theorem cC.hl {S : cS} {iv : Nat → Int32} {h : Nat → Bool} {a : Nat → Nat → Int32} (C : cC S iv h a) {d : Nat} (hd : d < 364) : inD S.hd d S.hn = h d := by
  cases e : h d with
  | true => exact inD_t.mpr ((C.hc d hd).mp e)
  | false =>
    cases q : inD S.hd d S.hn with
    | false => rfl
    | true =>
      have := (C.hc d hd).mpr (inD_t.mp q)
      rw [e] at this
      cases this
theorem zSb_e (b : Int64) (f : Nat → Int64) : ∀ n, zSb b f n = b + zS f n
  | 0 => by show b = b + 0; grind
  | n + 1 => by
    show zSb b f n + f n = b + (zS f n + f n)
    rw [zSb_e b f n]
    grind
theorem zSi_all (h : Nat → Bool) (dl : Nat → Nat) (f : Nat → Int64) (hh : ∀ d, h d = false) : ∀ n, zSi (cU h dl) f n = zS f n
  | 0 => rfl
  | n + 1 => by
    unfold zSi zS
    rw [show cU h dl n = true from by unfold cU; rw [hh]; rfl, if_pos rfl, zSi_all h dl f hh n]
theorem zS_plus (f g : Nat → Int64) : ∀ n, zS (fun i => f i + g i) n = zS f n + zS g n
  | 0 => by show (0 : Int64) = 0 + 0; rfl
  | n + 1 => by
    show zS (fun i => f i + g i) n + (f n + g n) = zS f n + f n + (zS g n + g n)
    rw [zS_plus f g n]
    grind
/-- four weeks -/
theorem zS_28 (W : Nat → Int64) (c : Int64) : zS (fun i => W (i % 7) * c) 28 = 4 * zS W 7 * c := by
  rw [zS_mulr (fun i => W (i % 7)) c 28]
  have : zS (fun i => W (i % 7)) 28 = 4 * zS W 7 := by
    simp only [zS, show (0 % 7) = 0 from rfl]
    simp only [Nat.reduceMod]
    grind
  rw [this]
theorem zS_year (W M : Nat → Int64) : ∀ m, zS (fun d => W (d % 7) * M (d / 28)) (28 * m) = 4 * zS W 7 * zS M m
  | 0 => by show (0 : Int64) = 4 * zS W 7 * 0; grind
  | m + 1 => by
    rw [show 28 * (m + 1) = 28 * m + 28 by omega, zS_add, zS_year W M m, zS_ext 28 (g := fun i => W (i % 7) * M m) (fun i hi => by
      show W ((28 * m + i) % 7) * M ((28 * m + i) / 28) = _
      rw [show (28 * m + i) % 7 = i % 7 by omega, show (28 * m + i) / 28 = m by omega]), zS_28]
    show 4 * zS W 7 * zS M m + 4 * zS W 7 * M m = 4 * zS W 7 * (zS M m + M m)
    grind
theorem cC.wh {S : cS} {iv : Nat → Int32} {h : Nat → Bool} {a : Nat → Nat → Int32} (C : cC S iv h a) {s : Nat} (hs : s < 4) : cWhole S.wd S.mo S.h S.hd S.hn s = mWhole h a s := by
  have hp := zS_perm (h := fun _ => false) (dl := S.hd) (N := 364) (f := fun i => cShare S.wd S.mo S.h s (S.hd i) - cOrd S.wd S.mo s (S.hd i)) (g := fun d => mShare h a s d - (S.wd s (d % 7)).toInt64 * (S.mo s (d / 28)).toInt64) S.hn C.hi (fun i hi => (C.I.hl.2 i hi).2) (fun i hi => by
    have := (C.I.hl.2 i hi).2
    show cShare S.wd S.mo S.h s (S.hd i) - cOrd S.wd S.mo s (S.hd i) = _
    rw [(C.sh hs this).1, C.ord hs this])
  rw [zSi_all _ _ _ (fun _ => rfl)] at hp
  unfold cWhole mWhole
  rw [zSb_e, hp, show cBase S.wd S.mo s = zS (fun d => (S.wd s (d % 7)).toInt64 * (S.mo s (d / 28)).toInt64) 364 from (zS_year (fun i => (S.wd s i).toInt64) (fun i => (S.mo s i).toInt64) 13).symm, ← zS_plus]
  refine zS_ext 364 (fun d hd => ?_)
  rw [C.hl hd]
  show _ + (if (h d && !false) = true then _ else _) = _
  cases e : h d with
  | true =>
    show _ + (mShare h a s d - _) = _
    grind
  | false =>
    show (S.wd s (d % 7)).toInt64 * (S.mo s (d / 28)).toInt64 + 0 = mShare h a s d
    unfold mShare
    rw [e, (C.wd s (d % 7) hs (by omega)).1, (C.mo s (d / 28) hs (by omega)).1]
    simp
theorem cC.us {S : cS} {iv : Nat → Int32} {h : Nat → Bool} {a : Nat → Nat → Int32} (C : cC S iv h a) {r d : Nat} (hr : r < S.n) (hd : d < 364) : mUsed h a r d = (inD (S.dl r) d (S.sz r) && !h d) := by
  obtain ⟨c1, c2, c3, c4⟩ := C.ct r hr
  unfold mUsed
  congr 1
  cases e : inD (S.dl r) d (S.sz r) with
  | true =>
    obtain ⟨i, h1, h2⟩ := inD_t.mp e
    obtain ⟨g1, g2, g3⟩ := c3 i h1
    rw [h2] at g1
    refine decide_eq_true (fun z => ?_)
    rw [g1] at z
    rw [z] at g2
    exact absurd g2 (by decide)
  | false =>
    refine decide_eq_false (fun z => z (c4 d hd (fun i h1 h2 => ?_)))
    rw [inD_t.mpr ⟨i, h1, h2⟩] at e
    cases e
theorem cC.zc {S : cS} {iv : Nat → Int32} {h : Nat → Bool} {a : Nat → Nat → Int32} (C : cC S iv h a) {r : Nat} (hr : r < S.n) : zC (cU S.h (S.dl r)) (S.sz r) = zC (mUsed h a r) 364 := by
  rw [C.hh, zC_perm (h := h) (N := 364) (S.sz r) (C.ct r hr).2.1 (fun i hi => ((C.I.ro r hr).2.2.2 i hi).2)]
  exact zC_ext 364 (fun d hd => (C.us hr hd).symm)
theorem cC.sum {S : cS} {iv : Nat → Int32} {h : Nat → Bool} {a : Nat → Nat → Int32} (C : cC S iv h a) {r : Nat} (hr : r < S.n) {f g : Nat → Int64} (hf : ∀ i, i < S.sz r → f i = g (S.dl r i)) : zSi (cU S.h (S.dl r)) f (S.sz r) = zS (fun d => if mUsed h a r d then g d else 0) 364 := by
  rw [C.hh, zS_perm (h := h) (N := 364) (S.sz r) (C.ct r hr).2.1 (fun i hi => ((C.I.ro r hr).2.2.2 i hi).2) hf]
  exact zS_ext 364 (fun d hd => by rw [C.us hr hd])
theorem cC.tot {S : cS} {iv : Nat → Int32} {h : Nat → Bool} {a : Nat → Nat → Int32} (C : cC S iv h a) {r : Nat} (hr : r < S.n) : cTot S.h (S.dl r) (S.ct r) (S.sz r) = mCounts h a r := C.sum hr (fun i hi => by
  rw [((C.ct r hr).2.2.1 i hi).1])
theorem cC.shs {S : cS} {iv : Nat → Int32} {h : Nat → Bool} {a : Nat → Nat → Int32} (C : cC S iv h a) {r s : Nat} (hr : r < S.n) (hs : s < 4) : cShs S.wd S.mo S.h (S.dl r) (S.sz r) s = mShares h a r s := C.sum hr (fun i hi => (C.sh hs ((C.I.ro r hr).2.2.2 i hi).2).1)
theorem cC.mis {S : cS} {iv : Nat → Int32} {h : Nat → Bool} {a : Nat → Nat → Int32} (C : cC S iv h a) {r s : Nat} (hr : r < S.n) (hs : s < 4) : cM S.wd S.mo S.h (S.dl r) (S.ct r) (S.sz r) s = mMisfit h a r s := C.sum hr (fun i hi => by
  unfold cAb mOff
  rw [((C.ct r hr).2.2.1 i hi).1, (C.sh hs ((C.I.ro r hr).2.2.2 i hi).2).1, C.tot hr, C.shs hr hs])
theorem cC.shr {S : cS} {iv : Nat → Int32} {h : Nat → Bool} {a : Nat → Nat → Int32} (C : cC S iv h a) {r s : Nat} (hr : r < S.n) (hs : s < 4) : 0 ≤ (mShares h a r s).toInt ∧ (mShares h a r s).toInt ≤ 137214 ∧ (0 < zC (mUsed h a r) 364 → 0 < (mShares h a r s).toInt) ∧ (¬ 0 < zC (mUsed h a r) 364 → mShares h a r s = 0) := by
  have hz := (C.I.ro r hr).2.2.1
  have hk : ∀ i, i < S.sz r → cU S.h (S.dl r) i = true → 1 ≤ (cShare S.wd S.mo S.h s (S.dl r i)).toInt ∧ (cShare S.wd S.mo S.h s (S.dl r i)).toInt ≤ 9801 := fun i hi _ => by
    have := C.sh hs ((C.I.ro r hr).2.2.2 i hi).2
    rw [this.1]
    exact this.2
  have h1 := zSi_rng (hi := 9801) (by decide) (S.sz r) (fun i hi hp => ⟨by have := hk i hi hp; omega, (hk i hi hp).2⟩) (by omega)
  rw [← C.shs hr hs, ← C.zc hr]
  refine ⟨h1.1, by unfold cShs; omega, fun hc => zSi_pos (hi := 9801) (by decide) (S.sz r) hk (by omega) hc, fun hc => zSi_none _ (by omega)⟩
theorem cC.wr {S : cS} {iv : Nat → Int32} {h : Nat → Bool} {a : Nat → Nat → Int32} (C : cC S iv h a) {s : Nat} (hs : s < 4) : 0 ≤ (mWhole h a s).toInt ∧ (mWhole h a s).toInt ≤ 3567564 := by
  have := zS_rng (f := mShare h a s) (lo := 0) (hi := 9801) (by decide) (by decide) 364 (fun d hd => ⟨by have := C.sh hs hd; omega, (C.sh hs hd).2.2⟩) (by omega)
  unfold mWhole
  omega
theorem cC.cr {S : cS} {iv : Nat → Int32} {h : Nat → Bool} {a : Nat → Nat → Int32} (C : cC S iv h a) {r : Nat} (hr : r < S.n) : 0 ≤ (mCounts h a r).toInt ∧ (mCounts h a r).toInt ≤ 1400000 := by
  have hz := (C.I.ro r hr).2.2.1
  have h1 := zSi_rng (p := cU S.h (S.dl r)) (f := fun i => (S.ct r i).toInt64) (hi := 100000) (by decide) (S.sz r) (fun i hi _ => by
    have := ((C.ct r hr).2.2.1 i hi).2
    rw [i2l_t]
    exact this) (by omega)
  rw [← C.tot hr]
  unfold cTot
  omega
theorem l_div {x y : Int64} (h0 : 0 ≤ x.toInt) (h1 : 0 < y.toInt) : 0 ≤ (x / y).toInt := by
  rw [Int64.toInt_div_of_ne_right _ _ (fun z => by rw [z] at h1; exact absurd h1 (by decide))]
  exact Int.tdiv_nonneg h0 (by omega)
theorem l_n1 {x : Int64} (h : 0 ≤ x.toInt) : ¬ x = -1 := fun z => by
  rw [z] at h
  exact absurd h (by decide)
theorem l_mulr {x y : Int64} {a b : Int} (h1 : 0 ≤ x.toInt) (h2 : x.toInt ≤ a) (h3 : 0 ≤ y.toInt) (h4 : y.toInt ≤ b) (hab : a * b < 9000000000000000000) : 0 ≤ (x * y).toInt ∧ (x * y).toInt ≤ a * b := by
  have e1 : 0 ≤ x.toInt * y.toInt := Int.mul_nonneg h1 h3
  have e2 : x.toInt * y.toInt ≤ a * b := Int.mul_le_mul h2 h4 h3 (by omega)
  rw [l_mul (by omega) (by omega)]
  omega
theorem cC.lo {S : cS} {iv : Nat → Int32} {h : Nat → Bool} {a : Nat → Nat → Int32} (C : cC S iv h a) {r : Nat} (hr : r < S.n) : cLo S r = (if 0 < zC (mUsed h a r) 364 then mYear h a r (S.sh r) else -1) ∧ (cLo S r = -1 ↔ ¬ 0 < zC (mUsed h a r) 364) := by
  obtain ⟨-, r2, -⟩ := C.I.ro r hr
  obtain ⟨s1, s2, s3, s4⟩ := C.shr hr r2
  have w := C.wr r2
  have c := C.cr hr
  have e : cLo S r = if 0 < mShares h a r (S.sh r) then mCounts h a r * mWhole h a (S.sh r) / mShares h a r (S.sh r) else -1 := by
    unfold cLo cLoad
    rw [C.shs hr r2, C.tot hr, C.wh r2]
  by_cases hz : 0 < zC (mUsed h a r) 364
  · have hp : 0 < mShares h a r (S.sh r) := l_lt.mpr (by rw [show (0 : Int64).toInt = 0 from rfl]; exact s3 hz)
    rw [if_pos hp] at e
    rw [if_pos hz]
    refine ⟨e, fun z => ?_, fun z => absurd hz z⟩
    have := l_n1 (l_div (l_mulr c.1 c.2 w.1 w.2 (by decide)).1 (s3 hz))
    exact absurd (e.symm.trans z) this
  · have hp : ¬ 0 < mShares h a r (S.sh r) := by rw [s4 hz]; decide
    rw [if_neg hp] at e
    rw [if_neg hz]
    exact ⟨e, fun _ => hz, fun _ => e⟩
/-- the model's shapes -/
def mSh (S : cS) (r : Nat) : Nat := if r < S.n then S.sh r else 0
theorem cC.wf {S : cS} {iv : Nat → Int32} {h : Nat → Bool} {a : Nat → Nat → Int32} (C : cC S iv h a) : mWf iv h a S.n (mSh S) := by
  refine ⟨C.n, C.I.rf.1, fun r hr => ?_, fun r s hr hs hz q => ?_, fun s d hs hd q => ?_⟩
  · unfold mSh
    by_cases e : r < S.n
    · rw [if_pos e, (C.rd r e).2.2.2.1]
      exact ⟨(C.I.ro r e).1, (C.I.ro r e).2.1⟩
    · rw [if_neg e, C.fm0 r (by omega) hr]
      exact ⟨rfl, by decide⟩
  · have := (C.shr hr hs).2.2.1 hz
    rw [q] at this
    exact absurd this (by decide)
  · have := (C.sh hs hd).2.1
    rw [q] at this
    exact absurd this (by decide)
theorem mSh_e {S : cS} {r : Nat} (hr : r < S.n) : mSh S r = S.sh r := if_pos hr
/-! the ends of a span -/
theorem endS {g : Bool} {U V : Nat → Prop} {v : Nat → Int64} {b : Int64} {x : Nat} (hv : 0 ≤ (v x).toInt) (hV : ∀ y, V y ↔ U y ∨ y = x) (hb : (b = -1 ∧ ∀ y, ¬ U y) ∨ (∃ y, U y ∧ b = v y) ∧ ¬ b = -1 ∧ ∀ y, U y → if g then (v y).toInt ≤ b.toInt else b.toInt ≤ (v y).toInt) : (mSpanS g b (v x) = -1 ∧ ∀ y, ¬ V y) ∨ (∃ y, V y ∧ mSpanS g b (v x) = v y) ∧ ¬ mSpanS g b (v x) = -1 ∧ ∀ y, V y → if g then (v y).toInt ≤ (mSpanS g b (v x)).toInt else (mSpanS g b (v x)).toInt ≤ (v y).toInt := by
  right
  unfold mSpanS
  rcases hb with ⟨hb, hu⟩ | ⟨⟨z, hz, hbz⟩, hn, hall⟩
  · rw [if_pos hb]
    refine ⟨⟨x, (hV x).mpr (Or.inr rfl), rfl⟩, l_n1 hv, fun y hy => ?_⟩
    rcases (hV y).mp hy with q | q
    · exact absurd q (hu y)
    · subst q
      cases g <;> exact Int.le_refl _
  · rw [if_neg hn]
    cases g with
    | true =>
      simp only [if_true] at hall ⊢
      by_cases hlt : b < v x
      · rw [if_pos hlt]
        rw [l_lt] at hlt
        refine ⟨⟨x, (hV x).mpr (Or.inr rfl), rfl⟩, l_n1 hv, fun y hy => ?_⟩
        rcases (hV y).mp hy with q | q
        · have := hall y q; omega
        · subst q; exact Int.le_refl _
      · rw [if_neg hlt]
        rw [l_lt] at hlt
        refine ⟨⟨z, (hV z).mpr (Or.inl hz), hbz⟩, hn, fun y hy => ?_⟩
        rcases (hV y).mp hy with q | q
        · exact hall y q
        · subst q; omega
    | false =>
      simp only [Bool.false_eq_true, if_false] at hall ⊢
      by_cases hlt : v x < b
      · rw [if_pos hlt]
        rw [l_lt] at hlt
        refine ⟨⟨x, (hV x).mpr (Or.inr rfl), rfl⟩, l_n1 hv, fun y hy => ?_⟩
        rcases (hV y).mp hy with q | q
        · have := hall y q; omega
        · subst q; exact Int.le_refl _
      · rw [if_neg hlt]
        rw [l_lt] at hlt
        refine ⟨⟨z, (hV z).mpr (Or.inl hz), hbz⟩, hn, fun y hy => ?_⟩
        rcases (hV y).mp hy with q | q
        · exact hall y q
        · subst q; omega
theorem endU {g : Bool} {U : Nat → Prop} {v : Nat → Int64} {b c : Int64} (hb : (b = -1 ∧ ∀ y, ¬ U y) ∨ (∃ y, U y ∧ b = v y) ∧ ¬ b = -1 ∧ ∀ y, U y → if g then (v y).toInt ≤ b.toInt else b.toInt ≤ (v y).toInt) (hc : (c = -1 ∧ ∀ y, ¬ U y) ∨ (∃ y, U y ∧ c = v y) ∧ ¬ c = -1 ∧ ∀ y, U y → if g then (v y).toInt ≤ c.toInt else c.toInt ≤ (v y).toInt) : b = c := by
  rcases hb with ⟨hb, hu⟩ | ⟨⟨y, hy, hby⟩, -, hba⟩
  · rcases hc with ⟨hc, -⟩ | ⟨⟨z, hz, -⟩, -, -⟩
    · rw [hb, hc]
    · exact absurd hz (hu z)
  · rcases hc with ⟨-, hu⟩ | ⟨⟨z, hz, hcz⟩, -, hca⟩
    · exact absurd hy (hu y)
    · have h1 := hba z hz
      have h2 := hca y hy
      rw [← hcz] at h1
      rw [← hby] at h2
      rw [l_eq]
      cases g with
      | true => simp only [if_true] at h1 h2; omega
      | false => simp only [Bool.false_eq_true, if_false] at h1 h2; omega
theorem cC.sv {S : cS} {iv : Nat → Int32} {h : Nat → Bool} {a : Nat → Nat → Int32} (C : cC S iv h a) {r s d : Nat} (hr : r < S.n) (hs : s < 4) (hd : d < 364) (hu : mUsed h a r d = true) : 0 ≤ (mSpanV h a r s d).toInt := by
  rw [C.us hr hd, Bool.and_eq_true] at hu
  obtain ⟨i, h1, h2⟩ := inD_t.mp hu.1
  obtain ⟨g1, g2, g3⟩ := (C.ct r hr).2.2.1 i h1
  rw [h2] at g1
  have w := C.wr hs
  unfold mSpanV
  rw [g1]
  exact l_div (l_mulr (by rw [i2l_t]; exact g2) (by rw [i2l_t]; exact g3) w.1 w.2 (by decide)).1 (by have := (C.sh hs hd).2.1; omega)
theorem cC.sp {S : cS} {iv : Nat → Int32} {h : Nat → Bool} {a : Nat → Nat → Int32} (C : cC S iv h a) {r : Nat} (hr : r < S.n) (g : Bool) : cEndF S.wd S.mo S.h (cWhole S.wd S.mo S.h S.hd S.hn (S.sh r)) (S.dl r) (S.ct r) (S.sh r) g (S.sz r) = mSpanF h a r (S.sh r) g 364 := by
  obtain ⟨-, r2, -, r3⟩ := C.I.ro r hr
  obtain ⟨c1, c2, c3, c4⟩ := C.ct r hr
  have hm : ∀ k, k ≤ 364 → (mSpanF h a r (S.sh r) g k = -1 ∧ ∀ y, ¬ (y < k ∧ mUsed h a r y = true)) ∨ (∃ y, (y < k ∧ mUsed h a r y = true) ∧ mSpanF h a r (S.sh r) g k = mSpanV h a r (S.sh r) y) ∧ ¬ mSpanF h a r (S.sh r) g k = -1 ∧ ∀ y, (y < k ∧ mUsed h a r y = true) → if g then (mSpanV h a r (S.sh r) y).toInt ≤ (mSpanF h a r (S.sh r) g k).toInt else (mSpanF h a r (S.sh r) g k).toInt ≤ (mSpanV h a r (S.sh r) y).toInt := by
    intro k
    induction k with
    | zero => intro _; exact Or.inl ⟨rfl, fun y hy => absurd hy.1 (Nat.not_lt_zero y)⟩
    | succ k ih =>
      intro hk
      have ih := ih (by omega)
      unfold mSpanF
      by_cases hu : mUsed h a r k = true
      · rw [if_pos hu]
        refine endS (C.sv hr r2 (by omega) hu) (fun y => ?_) ih
        constructor
        · rintro ⟨y1, y2⟩
          by_cases e : y = k
          · exact Or.inr e
          · exact Or.inl ⟨by omega, y2⟩
        · rintro (⟨y1, y2⟩ | e)
          · exact ⟨by omega, y2⟩
          · subst e; exact ⟨by omega, hu⟩
      · rw [if_neg hu]
        have hE : ∀ y, (y < k + 1 ∧ mUsed h a r y = true) ↔ (y < k ∧ mUsed h a r y = true) := fun y => by
          constructor
          · rintro ⟨y1, y2⟩
            refine ⟨?_, y2⟩
            by_cases e : y = k
            · subst e; exact absurd y2 hu
            · omega
          · rintro ⟨y1, y2⟩
            exact ⟨by omega, y2⟩
        simp only [hE]
        exact ih
  have hcl : ∀ k, k ≤ S.sz r → (cEndF S.wd S.mo S.h (cWhole S.wd S.mo S.h S.hd S.hn (S.sh r)) (S.dl r) (S.ct r) (S.sh r) g k = -1 ∧ ∀ y, ¬ (inD (S.dl r) y k = true ∧ h y = false)) ∨ (∃ y, (inD (S.dl r) y k = true ∧ h y = false) ∧ cEndF S.wd S.mo S.h (cWhole S.wd S.mo S.h S.hd S.hn (S.sh r)) (S.dl r) (S.ct r) (S.sh r) g k = mSpanV h a r (S.sh r) y) ∧ ¬ cEndF S.wd S.mo S.h (cWhole S.wd S.mo S.h S.hd S.hn (S.sh r)) (S.dl r) (S.ct r) (S.sh r) g k = -1 ∧ ∀ y, (inD (S.dl r) y k = true ∧ h y = false) → if g then (mSpanV h a r (S.sh r) y).toInt ≤ (cEndF S.wd S.mo S.h (cWhole S.wd S.mo S.h S.hd S.hn (S.sh r)) (S.dl r) (S.ct r) (S.sh r) g k).toInt else (cEndF S.wd S.mo S.h (cWhole S.wd S.mo S.h S.hd S.hn (S.sh r)) (S.dl r) (S.ct r) (S.sh r) g k).toInt ≤ (mSpanV h a r (S.sh r) y).toInt := by
    intro k
    induction k with
    | zero => intro _; exact Or.inl ⟨rfl, fun y hy => by cases hy.1⟩
    | succ k ih =>
      intro hk
      have ih := ih (by omega)
      have hd := (r3 k (by omega)).2
      have hs := C.sh r2 hd
      unfold cEndF
      by_cases hu : h (S.dl r k) = false
      · have hp : (!S.h (S.dl r k) && decide (0 < cShare S.wd S.mo S.h (S.sh r) (S.dl r k))) = true := by
          rw [C.hh, hu, ← C.hh, hs.1]
          exact decide_eq_true (l_lt.mpr (by rw [show (0 : Int64).toInt = 0 from rfl]; omega))
        rw [if_pos hp]
        have hv : (S.ct r k).toInt64 * cWhole S.wd S.mo S.h S.hd S.hn (S.sh r) / cShare S.wd S.mo S.h (S.sh r) (S.dl r k) = mSpanV h a r (S.sh r) (S.dl r k) := by
          unfold mSpanV
          rw [hs.1, C.wh r2, (c3 k (by omega)).1]
        rw [hv]
        have huse : mUsed h a r (S.dl r k) = true := by
          rw [C.us hr hd, hu, inD_t.mpr ⟨k, by omega, rfl⟩]
          rfl
        refine endS (C.sv hr r2 hd huse) (fun y => ?_) ih
        show ((inD (S.dl r) y k || decide (S.dl r k = y)) = true ∧ h y = false) ↔ _
        rw [Bool.or_eq_true, decide_eq_true_eq]
        constructor
        · rintro ⟨y1 | y1, y2⟩
          · exact Or.inl ⟨y1, y2⟩
          · exact Or.inr y1.symm
        · rintro (⟨y1, y2⟩ | e)
          · exact ⟨Or.inl y1, y2⟩
          · subst e; exact ⟨Or.inr rfl, hu⟩
      · have hu : h (S.dl r k) = true := by simpa using hu
        have hp : ¬ (!S.h (S.dl r k) && decide (0 < cShare S.wd S.mo S.h (S.sh r) (S.dl r k))) = true := by
          rw [C.hh, hu]
          simp
        rw [if_neg hp]
        have hE : ∀ y, (inD (S.dl r) y (k + 1) = true ∧ h y = false) ↔ (inD (S.dl r) y k = true ∧ h y = false) := fun y => by
          show ((inD (S.dl r) y k || decide (S.dl r k = y)) = true ∧ h y = false) ↔ _
          rw [Bool.or_eq_true, decide_eq_true_eq]
          constructor
          · rintro ⟨y1 | y1, y2⟩
            · exact ⟨y1, y2⟩
            · subst y1; rw [hu] at y2; cases y2
          · rintro ⟨y1, y2⟩
            exact ⟨Or.inl y1, y2⟩
        simp only [hE]
        exact ih
  have hE : ∀ y, (inD (S.dl r) y (S.sz r) = true ∧ h y = false) ↔ (y < 364 ∧ mUsed h a r y = true) := fun y => by
    constructor
    · rintro ⟨y1, y2⟩
      obtain ⟨i, i1, i2⟩ := inD_t.mp y1
      have hy : y < 364 := by rw [← i2]; exact (r3 i i1).2
      exact ⟨hy, by rw [C.us hr hy, y1, y2]; rfl⟩
    · rintro ⟨y1, y2⟩
      rw [C.us hr y1, Bool.and_eq_true] at y2
      exact ⟨y2.1, by simpa using y2.2⟩
  have q1 := hcl (S.sz r) (Nat.le_refl _)
  simp only [hE] at q1
  exact endU q1 (hm 364 (Nat.le_refl _))
theorem cC.be {S : cS} {iv : Nat → Int32} {h : Nat → Bool} {a : Nat → Nat → Int32} (C : cC S iv h a) {r : Nat} (hr : r < S.n) : cBest S.wd S.mo S.h (S.dl r) (S.ct r) (S.sz r) = if 0 < zC (mUsed h a r) 364 then nI (mBestF h a r 3) else -1 := by
  have hb : ∀ k, k ≤ 3 → cBestF S.wd S.mo S.h (S.dl r) (S.ct r) (S.sz r) k = mBestF h a r k := by
    intro k
    induction k with
    | zero => intro _; rfl
    | succ k ih =>
      intro hk
      have ih := ih (by omega)
      have hl := mBestF_le h a r k
      unfold cBestF mBestF mBestC
      rw [ih, C.mis hr (by omega), C.mis hr (show mBestF h a r k < 4 by omega), C.shs hr (show mBestF h a r k < 4 by omega), C.shs hr (show k + 1 < 4 by omega)]
      simp only [decide_eq_true_eq]
  unfold cBest
  rw [C.zc hr, hb 3 (by omega)]
  by_cases hz : 0 < zC (mUsed h a r) 364
  · rw [if_neg (by omega), if_pos hz]
  · rw [if_pos (by omega), if_neg hz]
