/-! A CALL OF THE CLASS AND THE SAME CALL OF THE MODEL: one answer, and they stay together -/
abbrev zJ (S : cS) (iv : Nat → Int32) (h : Nat → Bool) (a : Nat → Nat → Int32) (ld : Nat → Int64) (P : z_H) (nx : Nat) : Prop := zCl S P ∧ z_in (zM iv h a ld) P ∧ cC S iv h a ∧ nx = 90 + 5 * S.n
def zJJ (P : z_H) (nx : Nat) : Prop := ∃ (S : cS) (iv : Nat → Int32) (h : Nat → Bool) (a : Nat → Nat → Int32) (ld : Nat → Int64), zJ S iv h a ld P nx
def pI (S7 S8 : z_PT) (as : List Value) : Prop := ∀ (P : z_H) (nx : Nat), zJJ P nx → ∀ K1 : Option Value → z_H → Nat → Prop, (∀ (w : Int32) (P' : z_H) (nx' : Nat), (∃ fs, P' 70 = some (.inr (8, fs))) → (∀ K2 : Option Value → z_H → Nat → Prop, (∀ (P'' : z_H) (nx'' : Nat), zJJ P'' nx'' → K2 (some (.int w)) P'' nx'') → S8 (.ref 70 :: as) P' nx' K2) → K1 (some (.int w)) P' nx') → S7 (.ref 1 :: as) P nx K1
def pL (S7 S8 : z_PT) (as : List Value) : Prop := ∀ (P : z_H) (nx : Nat), zJJ P nx → ∀ K1 : Option Value → z_H → Nat → Prop, (∀ (w : Int64) (P' : z_H) (nx' : Nat), (∃ fs, P' 70 = some (.inr (8, fs))) → (∀ K2 : Option Value → z_H → Nat → Prop, (∀ (P'' : z_H) (nx'' : Nat), zJJ P'' nx'' → K2 (some (.long w)) P'' nx'') → S8 (.ref 70 :: as) P' nx' K2) → K1 (some (.long w)) P' nx') → S7 (.ref 1 :: as) P nx K1
theorem upd_s {f : Nat → Int32} {k : Nat} {x : Int32} : upd f k x k = x := by simp [upd]
theorem upd_n {f : Nat → Int32} {k j : Nat} {x : Int32} (h : j ≠ k) : upd f k x j = f j := by simp [upd, h]
theorem vau_s {α : Type} {f : Nat → α} {k : Nat} {x : α} : va_up f k x k = x := by simp [va_up]
theorem vau_n {α : Type} {f : Nat → α} {k j : Nat} {x : α} (h : j ≠ k) : va_up f k x j = f j := by simp [va_up, h]
theorem cC.uw {S : cS} {iv : Nat → Int32} {h : Nat → Bool} {a : Nat → Nat → Int32} (C : cC S iv h a) {s d : Nat} {w : Int32} (hs : s < 4) (hd : d < 7) (hw : 1 ≤ w.toInt ∧ w.toInt ≤ 99) : cC (cS.mk (va_up S.wd s (upd (S.wd s) d w)) S.mo S.h S.hl S.hd S.hn S.rf S.ra S.A S.ld S.fo S.fa S.st S.n S.kn S.to S.fr S.tw S.pr S.pw S.fm S.sh S.sz S.dy S.dl S.ct S.pa S.tb S.tl S.e S.p S.x S.qa S.qb S.kc S.sc S.N S.le S.gr S.cn S.kd S.sd S.lf S.gf S.dn) iv h (va_up a 73 (upd (a 73) (7 * s + d) w)) := by
  refine ⟨C.I, C.hh, fun s' d' h1 h2 => ?_, C.mo, C.h3, C.hi, C.hc, C.n, C.rd, C.fm0, C.A, C.ct, C.ct0, C.pa, C.pa0, C.t, C.tb, C.cn, C.ru⟩
  show va_up S.wd s (upd (S.wd s) d w) s' d' = upd (a 73) (7 * s + d) w (7 * s' + d') ∧ 1 ≤ (va_up S.wd s (upd (S.wd s) d w) s' d').toInt ∧ (va_up S.wd s (upd (S.wd s) d w) s' d').toInt ≤ 99
  by_cases e : s' = s
  · subst e
    rw [vau_s]
    by_cases e2 : d' = d
    · subst e2
      rw [upd_s, upd_s]
      exact ⟨rfl, hw⟩
    · rw [upd_n e2, upd_n (by omega)]
      exact C.wd s' d' h1 h2
  · rw [vau_n e, upd_n (by omega)]
    exact C.wd s' d' h1 h2
theorem cC.um {S : cS} {iv : Nat → Int32} {h : Nat → Bool} {a : Nat → Nat → Int32} (C : cC S iv h a) {s d : Nat} {w : Int32} (hs : s < 4) (hd : d < 13) (hw : 1 ≤ w.toInt ∧ w.toInt ≤ 99) : cC (cS.mk S.wd (va_up S.mo s (upd (S.mo s) d w)) S.h S.hl S.hd S.hn S.rf S.ra S.A S.ld S.fo S.fa S.st S.n S.kn S.to S.fr S.tw S.pr S.pw S.fm S.sh S.sz S.dy S.dl S.ct S.pa S.tb S.tl S.e S.p S.x S.qa S.qb S.kc S.sc S.N S.le S.gr S.cn S.kd S.sd S.lf S.gf S.dn) iv h (va_up a 74 (upd (a 74) (13 * s + d) w)) := by
  refine ⟨C.I, C.hh, C.wd, fun s' d' h1 h2 => ?_, C.h3, C.hi, C.hc, C.n, C.rd, C.fm0, C.A, C.ct, C.ct0, C.pa, C.pa0, C.t, C.tb, C.cn, C.ru⟩
  show va_up S.mo s (upd (S.mo s) d w) s' d' = upd (a 74) (13 * s + d) w (13 * s' + d') ∧ 1 ≤ (va_up S.mo s (upd (S.mo s) d w) s' d').toInt ∧ (va_up S.mo s (upd (S.mo s) d w) s' d').toInt ≤ 99
  by_cases e : s' = s
  · subst e
    rw [vau_s]
    by_cases e2 : d' = d
    · subst e2
      rw [upd_s, upd_s]
      exact ⟨rfl, hw⟩
    · rw [upd_n e2, upd_n (by omega)]
      exact C.mo s' d' h1 h2
  · rw [vau_n e, upd_n (by omega)]
    exact C.mo s' d' h1 h2
theorem cC.uh {S : cS} {iv : Nat → Int32} {h : Nat → Bool} {a : Nat → Nat → Int32} (C : cC S iv h a) {d : Nat} (hd : d < 364) (hf : h d = false) (hn : S.hn < 20) : cC (cS.mk S.wd S.mo (va_up S.h d true) (upd S.hl S.hn (nI d)) (va_up S.hd S.hn d) (S.hn + 1) S.rf S.ra S.A S.ld S.fo S.fa S.st S.n S.kn S.to S.fr S.tw S.pr S.pw S.fm S.sh S.sz S.dy S.dl S.ct S.pa S.tb S.tl S.e S.p S.x S.qa S.qb S.kc S.sc S.N S.le S.gr S.cn S.kd S.sd S.lf S.gf S.dn) (va_up iv 3 (iv 3 + 1)) (va_up h d true) a := by
  have hnew : ∀ i, i < S.hn → S.hd i ≠ d := fun i hi z => by
    have := (C.hc d hd).mpr ⟨i, hi, z⟩
    rw [hf] at this
    cases this
  refine ⟨⟨C.I.q, C.I.rf, C.I.ra, ⟨hn, fun i hi => ?_⟩, C.I.ro, C.I.pr, C.I.tb, C.I.tl, C.I.cn, C.I.sc, C.I.kc⟩, ?_, C.wd, C.mo, ?_, fun i j h1 h2 hij => ?_, fun e he => ?_, C.n, C.rd, C.fm0, C.A, C.ct, C.ct0, C.pa, C.pa0, C.t, C.tb, C.cn, C.ru⟩
  · have hi : i < S.hn + 1 := hi
    show upd S.hl S.hn (nI d) i = nI (va_up S.hd S.hn d i) ∧ va_up S.hd S.hn d i < 364
    by_cases e : i = S.hn
    · subst e
      rw [upd_s, vau_s]
      exact ⟨rfl, hd⟩
    · rw [upd_n e, vau_n e]
      exact C.I.hl.2 i (by omega)
  · show va_up S.h d true = va_up h d true
    rw [C.hh]
  · show iv 3 + 1 = nI (S.hn + 1)
    rw [C.h3, nI_1]
  · have h1 : i < S.hn + 1 := h1
    have h2 : j < S.hn + 1 := h2
    have hij : va_up S.hd S.hn d i = va_up S.hd S.hn d j := hij
    by_cases e1 : i = S.hn
    · by_cases e2 : j = S.hn
      · omega
      · subst e1
        rw [vau_s, vau_n e2] at hij
        exact absurd hij.symm (hnew j (by omega))
    · by_cases e2 : j = S.hn
      · subst e2
        rw [vau_s, vau_n e1] at hij
        exact absurd hij (hnew i (by omega))
      · rw [vau_n e1, vau_n e2] at hij
        exact C.hi i j (by omega) (by omega) hij
  · show va_up h d true e = true ↔ ∃ i, i < S.hn + 1 ∧ va_up S.hd S.hn d i = e
    by_cases e1 : e = d
    · subst e1
      rw [vau_s]
      exact ⟨fun _ => ⟨S.hn, by omega, vau_s⟩, fun _ => rfl⟩
    · rw [vau_n e1, C.hc e he]
      constructor
      · rintro ⟨i, i1, i2⟩
        exact ⟨i, by omega, by rw [vau_n (by omega)]; exact i2⟩
      · rintro ⟨i, i1, i2⟩
        by_cases e2 : i = S.hn
        · subst e2
          rw [vau_s] at i2
          exact absurd i2.symm e1
        · rw [vau_n e2] at i2
          exact ⟨i, by omega, i2⟩
theorem pr_weekday (s d w : Int32) : pI S7_weekday S8_weekday [.int s, .int d, .int w] := by
  rintro P nx ⟨S, iv, h, a, ld, hC, hM, C, hx⟩ K1 hK
  refine ⟨S, s, d, w, rfl, hC, C.I, fun hok => hK _ P nx ⟨_, hM 70 _ rfl⟩ (fun K2 h2 => ⟨iv, h, a, ld, s, d, w, rfl, hM, fun P' hM' hO => ?_⟩), fun hok P1 hC1 hO1 => hK _ P1 nx ⟨_, zM_c hM hO1 70 _ rfl⟩ (fun K2 h2 => ⟨iv, h, a, ld, s, d, w, rfl, zM_c hM hO1, fun P' hM' hO => ?_⟩)⟩
  · unfold mWd at hM'
    rw [hok] at hM' ⊢
    exact h2 P' nx ⟨S, iv, h, a, ld, hC.dm C.I hO, hM', C, hx⟩
  · unfold mWd at hM'
    rw [hok, if_pos rfl] at hM'
    rw [hok]
    unfold mOkW at hok
    simp only [Bool.and_eq_true, decide_eq_true_eq] at hok
    exact h2 P' nx ⟨_, iv, h, _, ld, hC1.dm C.I hO, hM', C.uw (by omega) (by omega) hok.2.2, hx⟩
theorem pr_month (s d w : Int32) : pI S7_month S8_month [.int s, .int d, .int w] := by
  rintro P nx ⟨S, iv, h, a, ld, hC, hM, C, hx⟩ K1 hK
  refine ⟨S, s, d, w, rfl, hC, C.I, fun hok => hK _ P nx ⟨_, hM 70 _ rfl⟩ (fun K2 h2 => ⟨iv, h, a, ld, s, d, w, rfl, hM, fun P' hM' hO => ?_⟩), fun hok P1 hC1 hO1 => hK _ P1 nx ⟨_, zM_c hM hO1 70 _ rfl⟩ (fun K2 h2 => ⟨iv, h, a, ld, s, d, w, rfl, zM_c hM hO1, fun P' hM' hO => ?_⟩)⟩
  · unfold mMo at hM'
    rw [hok] at hM' ⊢
    exact h2 P' nx ⟨S, iv, h, a, ld, hC.dm C.I hO, hM', C, hx⟩
  · unfold mMo at hM'
    rw [hok, if_pos rfl] at hM'
    rw [hok]
    unfold mOkM at hok
    simp only [Bool.and_eq_true, decide_eq_true_eq] at hok
    exact h2 P' nx ⟨_, iv, h, _, ld, hC1.dm C.I hO, hM', C.um (by omega) (by omega) hok.2.2, hx⟩
theorem cC.okh {S : cS} {iv : Nat → Int32} {h : Nat → Bool} {a : Nat → Nat → Int32} (C : cC S iv h a) (d : Int32) : mOkH iv h d = cOkH S d := by
  have hn := C.I.hl.1
  unfold mOkH cOkH
  rw [C.hh, C.h3]
  congr 2
  by_cases e : S.hn < 20
  · rw [decide_eq_true e, decide_eq_false (fun z => by rw [show (20 : Int32) = nI 20 from rfl, nI_eq (by omega) (by omega)] at z; omega)]
    rfl
  · rw [decide_eq_false e, show S.hn = 20 by omega]
    rfl
theorem pr_holiday (d : Int32) : pI S7_holiday S8_holiday [.int d] := by
  rintro P nx ⟨S, iv, h, a, ld, hC, hM, C, hx⟩ K1 hK
  refine ⟨S, d, rfl, hC, C.I, fun hok => hK _ P nx ⟨_, hM 70 _ rfl⟩ (fun K2 h2 => ⟨iv, h, a, ld, d, rfl, hM, fun P' hM' hO => ?_⟩), fun hok P1 hC1 hO1 => hK _ P1 nx ⟨_, zM_c hM hO1 70 _ rfl⟩ (fun K2 h2 => ⟨iv, h, a, ld, d, rfl, zM_c hM hO1, fun P' hM' hO => ?_⟩)⟩
  · rw [C.okh, hok] at hM' ⊢
    exact h2 P' nx ⟨S, iv, h, a, ld, hC.dm C.I hO, hM', C, hx⟩
  · rw [C.okh, hok, if_pos rfl, if_pos rfl] at hM'
    rw [C.okh, hok]
    unfold cOkH at hok
    simp only [Bool.and_eq_true, decide_eq_true_eq, Bool.not_eq_true'] at hok
    obtain ⟨j, hj, rfl⟩ := nI_rng (n := 364) hok.1.1 (by omega)
    rw [tN (n := 364) hj (by decide)] at hC1 hM' hok
    have C' := C.uh hj (by rw [← C.hh]; exact hok.2.1) hok.2.2
    exact h2 P' nx ⟨_, _, _, a, ld, hC1.dm C'.I hO, hM', C', hx⟩
