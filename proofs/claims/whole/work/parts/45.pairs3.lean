/-! the tape: fed, read, passed -/
theorem by_sx {x : BitVec 32} {n : Nat} (h : ∀ i, i < 8 → x.getLsbD i = n.testBit i) : x.signExtend 8 = (BitVec.ofNat 32 (n % 256)).signExtend 8 := by
  apply BitVec.eq_of_getLsbD_eq
  intro i hi
  rw [BitVec.getLsbD_signExtend, BitVec.getLsbD_signExtend, if_pos (by omega), if_pos (by omega), h i hi, BitVec.getLsbD_ofNat, show 256 = 2 ^ 8 from rfl, Nat.testBit_mod_two_pow]
  simp [hi, show i < 32 by omega]
theorem mB_e (v : Int32) {k : Nat} (hk : k = 24 ∨ k = 16 ∨ k = 8 ∨ k = 0) : mB v k = (nI (cBy v k)).toInt8.toInt32 := by
  unfold mB
  congr 1
  apply Int8.toBitVec_inj.mp
  rw [Int32.toBitVec_toInt8, Int32.toBitVec_toInt8]
  show _ = (BitVec.ofNat 32 (cBy v k)).signExtend 8
  unfold cBy
  refine by_sx (fun i hi => ?_)
  have e1 : (v >>> (nI k &&& 31)).toBitVec = v.toBitVec.sshiftRight k := by
    show v.toBitVec.sshiftRight' ((nI k &&& 31).toBitVec.smod 32) = _
    unfold BitVec.sshiftRight'
    rw [s_l k (by omega)]
  have e2 : (ush v (nI k)).toBitVec = v.toBitVec >>> k := by
    rcases hk with e | e | e | e <;> subst e <;> rfl
  rw [e1, BitVec.getLsbD_sshiftRight]
  show _ = ((ush v (nI k)).toBitVec.toNat).testBit i
  rw [show ((ush v (nI k)).toBitVec.toNat).testBit i = (ush v (nI k)).toBitVec.getLsbD i from rfl, e2, BitVec.getLsbD_ushiftRight]
  have h1 : ¬ 32 ≤ i := by omega
  have h2 : k + i < 32 := by omega
  simp [h1, h2]
theorem mT_p {tb : Nat → Nat} {f : Nat → Int32} {t : Nat} {v : Int32} (h : ∀ i, i < 120 → f i = (nI (tb i)).toInt8.toInt32) : ∀ i, i < 120 → pushF f t v i = (nI (appF tb t v i)).toInt8.toInt32 := fun i hi => by
  unfold pushF appF
  by_cases e3 : i = t + 3
  · subst e3; rw [upd_s, vau_s]; exact mB_e v (by omega)
  · rw [upd_n e3, vau_n e3]
    by_cases e2 : i = t + 2
    · subst e2; rw [upd_s, vau_s]; exact mB_e v (by omega)
    · rw [upd_n e2, vau_n e2]
      by_cases e1 : i = t + 1
      · subst e1; rw [upd_s, vau_s]; exact mB_e v (by omega)
      · rw [upd_n e1, vau_n e1]
        by_cases e0 : i = t
        · subst e0; rw [upd_s, vau_s]; exact mB_e v (by omega)
        · rw [upd_n e0, vau_n e0]; exact h i hi
theorem cC.uf {S : cS} {iv : Nat → Int32} {h : Nat → Bool} {a : Nat → Nat → Int32} (C : cC S iv h a) {v1 v2 v3 v4 v5 : Int32} (ht : S.tl ≤ 100) : cC (cS.mk S.wd S.mo S.h S.hl S.hd S.hn S.rf S.ra S.A S.ld S.fo S.fa S.st S.n S.kn S.to S.fr S.tw S.pr S.pw S.fm S.sh S.sz S.dy S.dl S.ct S.pa (feedC S.tb S.tl v1 v2 v3 v4 v5) (S.tl + 20) S.e S.p S.x S.qa S.qb S.kc S.sc S.N S.le S.gr S.cn S.kd S.sd S.lf S.gf S.dn) (va_up iv 1 (nI (S.tl + 20))) h (va_up a 71 (feedF (a 71) S.tl v1 v2 v3 v4 v5)) := by
  have hb : ∀ i, feedC S.tb S.tl v1 v2 v3 v4 v5 i < 256 := appF_lt (appF_lt (appF_lt (appF_lt (appF_lt C.I.tb))))
  exact ⟨⟨C.I.q, C.I.rf, C.I.ra, C.I.hl, C.I.ro, C.I.pr, hb, by show S.tl + 20 ≤ 120; omega, C.I.cn, C.I.sc, C.I.kc⟩, C.hh, C.wd, C.mo, C.h3, C.hi, C.hc, C.n, C.rd, C.fm0, C.A, C.ct, C.ct0, C.pa, C.pa0, rfl, ⟨hb, mT_p (mT_p (mT_p (mT_p (mT_p C.tb.2))))⟩, C.cn, C.ru⟩
theorem pr_feed (v1 v2 v3 v4 v5 : Int32) : pI S7_feed S8_feed [.int v1, .int v2, .int v3, .int v4, .int v5] := by
  rintro P nx ⟨S, iv, h, a, ld, hC, hM, C, hx⟩ K1 hK
  refine ⟨S, v1, v2, v3, v4, v5, rfl, hC, C.I, fun hok => hK _ P nx ⟨_, hM 70 _ rfl⟩ (fun K2 h2 => ⟨iv, h, a, ld, S.tl, v1, v2, v3, v4, v5, rfl, hM, C.t, C.I.tl, fun P' hM' hO => ?_⟩), fun hok P1 hC1 hO1 => hK _ P1 nx ⟨_, zM_c hM hO1 70 _ rfl⟩ (fun K2 h2 => ⟨iv, h, a, ld, S.tl, v1, v2, v3, v4, v5, rfl, zM_c hM hO1, C.t, C.I.tl, fun P' hM' hO => ?_⟩)⟩
  · rw [if_neg hok, if_neg hok] at hM'
    rw [if_neg hok]
    exact h2 P' nx ⟨S, iv, h, a, ld, hC.dm C.I hO, hM', C, hx⟩
  · rw [if_pos hok, if_pos hok] at hM'
    rw [if_pos hok]
    have C' := C.uf (v1 := v1) (v2 := v2) (v3 := v3) (v4 := v4) (v5 := v5) hok
    exact h2 P' nx ⟨_, _, h, _, ld, hC1.dm C'.I hO, hM', C', hx⟩
theorem cC.ut {S : cS} {iv : Nat → Int32} {h : Nat → Bool} {a : Nat → Nat → Int32} (C : cC S iv h a) {iv' : Nat → Int32} {a' : Nat → Nat → Int32} (e2 : iv' 2 = iv 2) (e3 : iv' 3 = iv 3) (ea : ∀ k, k < 82 → a' k = a k) {tl e p x qa qb cn dn : Nat} {kc sc kd sd : Nat → Int32} {N : Nat → Nat} {le gr lf gf : Nat → Nat → Int32} (hq : (qa = 24 ∧ qb = 47) ∨ (qa = 47 ∧ qb = 24)) (htl : tl ≤ 120) (h1 : iv' 1 = nI tl) (hcn : cn ≤ 9) (hsc : ∀ c, c < cn → sc c = nI (N c) ∧ N c ≤ 4) (hkc : ∀ c, c < cn → ∃ κ, κ ≤ 9 ∧ kc c = nI κ) (h14 : iv' 14 = nI cn) (hru : ∀ c, c < cn → a' 82 c = kc c ∧ a' 83 c = sc c ∧ ∀ j, j < N c → le c j = a' 84 (8 * c + 2 * j) ∧ gr c j = a' 84 (8 * c + 2 * j + 1)) : cC (cS.mk S.wd S.mo S.h S.hl S.hd S.hn S.rf S.ra S.A S.ld S.fo S.fa S.st S.n S.kn S.to S.fr S.tw S.pr S.pw S.fm S.sh S.sz S.dy S.dl S.ct S.pa S.tb (tl) (e) (p) (x) (qa) (qb) (kc) (sc) (N) (le) (gr) (cn) (kd) (sd) (lf) (gf) (dn)) iv' h a' := by
  refine ⟨⟨hq, C.I.rf, C.I.ra, C.I.hl, C.I.ro, C.I.pr, C.I.tb, htl, hcn, hsc, hkc⟩, C.hh, ?_, ?_, e3.trans C.h3, C.hi, C.hc, e2.trans C.n, ?_, ?_, ?_, ?_, ?_, ?_, ?_, h1, C.tb.x (ea 71 (by decide)), h14, hru⟩
  · rw [ea 73 (by decide)]; exact C.wd
  · rw [ea 74 (by decide)]; exact C.mo
  · rw [ea 75 (by decide), ea 76 (by decide), ea 77 (by decide), ea 78 (by decide)]; exact C.rd
  · rw [ea 78 (by decide)]; exact C.fm0
  · intro j
    show S.A j = mA a' S.n j
    unfold mA mAt
    rw [ea 75 (by decide), ea 76 (by decide)]
    exact C.A j
  · rw [ea 79 (by decide), ea 80 (by decide)]; exact C.ct
  · rw [ea 79 (by decide), ea 80 (by decide)]; exact C.ct0
  · rw [ea 81 (by decide)]; exact C.pa
  · rw [ea 81 (by decide)]; exact C.pa0
theorem gC_k {tb : Nat → Nat} {e p m : Nat} (h : clF tb e p m = 0) : hr tb e p - 48 ≤ 9 := by
  have := dg_e.mp (clF_lt h).1
  omega
theorem pr_rules (n : Int32) : pI S7_rules S8_rules [.int n] := by
  rintro P nx ⟨S, iv, h, a, ld, hC, hM, C, hx⟩ K1 hK
  have htl := C.I.tl
  have hq := C.I.q
  refine ⟨S, n, rfl, hC, C.I, fun hb => hK _ P nx ⟨_, hM 70 _ rfl⟩ (fun K2 h2 => ⟨iv, h, a, ld, S.tb, S.tl, n, rfl, hM, C.t, C.I.tl, C.tb, fun _ => h2 P nx ⟨S, iv, h, a, ld, hC, hM, C, hx⟩, fun e he hle => ?_⟩), fun e he hle hf p x dn kd sd lf gf P1 hC1 hO1 => hK _ P1 nx ⟨_, zM_c hM hO1 70 _ rfl⟩ (fun K2 h2 => ⟨iv, h, a, ld, S.tb, S.tl, n, rfl, zM_c hM hO1, C.t, C.I.tl, C.tb, fun hb => ?_, fun e' he' hle' iv' a' P' i1 i2 i3 ia ib ic hM' hO => ?_⟩), fun e he hle hf p x kc sc le gr cn P1 hG hC1 hO1 => hK _ P1 nx ⟨_, zM_c hM hO1 70 _ rfl⟩ (fun K2 h2 => ⟨iv, h, a, ld, S.tb, S.tl, n, rfl, zM_c hM hO1, C.t, C.I.tl, C.tb, fun hb => ?_, fun e' he' hle' iv' a' P' i1 i2 i3 ia ib ic hM' hO => ?_⟩)⟩
  · rw [he, nI_toInt (by omega)] at hb
    exact absurd hb (by omega)
  · rw [he, nI_toInt (by omega)] at hb
    exact absurd hb (by omega)
  · have ee : e' = e := ((nI_eq (by omega) (by omega)).mp (he.symm.trans he')).symm
    subst ee
    obtain ⟨b1, b2, b3, b4⟩ := ib hf
    have C' := C.ut (e := e') (p := p) (x := x) (kd := kd) (sd := sd) (lf := lf) (gf := gf) (dn := dn) i2 i3 (fun k hk => ia k (Or.inl hk)) hq (Nat.zero_le 120) i1 C.I.cn C.I.sc C.I.kc (b1.trans C.cn) (by rw [b2, b3, b4]; exact C.ru)
    exact h2 P' nx ⟨_, iv', h, a', ld, hC1.dm C'.I hO, hM', C', hx⟩
  · rw [he, nI_toInt (by omega)] at hb
    exact absurd hb (by omega)
  · have ee : e' = e := ((nI_eq (by omega) (by omega)).mp (he.symm.trans he')).symm
    subst ee
    obtain ⟨b1, b2, b3⟩ := ic hf
    obtain ⟨g1, g2, g3⟩ := hG
    subst g1
    rw [hf]
    have C' := C.ut (e := e') (p := p) (x := x) (kd := S.kc) (sd := S.sc) (lf := S.le) (gf := S.gr) (dn := S.cn) (qa := S.qb) (qb := S.qa) (kc := kc) (sc := sc) (le := le) (gr := gr) (N := fun c => ssN S.tb e' 4 (rPos S.tb e' c + 1)) i2 i3 (fun k hk => ia k (Or.inl hk)) (by omega) (Nat.zero_le 120) i1 g2 (fun c hc => ⟨(g3 c hc).1.2.1, ssN_le 4 _⟩) (fun c hc => ⟨_, gC_k (g3 c hc).2, (g3 c hc).1.1⟩) b1 (fun c hc => by
      obtain ⟨⟨x1, x2, x3⟩, -⟩ := g3 c hc
      obtain ⟨⟨y1, y2, y3⟩, -⟩ := b3 c hc
      refine ⟨y1.trans x1.symm, y2.trans x2.symm, fun j hj => ?_⟩
      obtain ⟨x4, x5⟩ := x3 j hj
      obtain ⟨y4, y5⟩ := y3 j hj
      exact ⟨x4.trans y4.symm, x5.trans y5.symm⟩)
    exact h2 P' nx ⟨_, iv', h, a', ld, (hC1 _).dm C'.I hO, hM', C', hx⟩
/-! pass -/
theorem cWi_e {tb : Nat → Nat} {le gr le' gr' : Nat → Nat → Int32} {c A : Nat} : ∀ k, (∀ j, j < k → le c j = le' c j ∧ gr c j = gr' c j) → cWi tb le gr c A k = cWi tb le' gr' c A k
  | 0, _ => rfl
  | k + 1, h => by
    unfold cWi
    rw [cWi_e k (fun j hj => h j (by omega)), (h k (by omega)).1, (h k (by omega)).2]
theorem cKd_e {tb : Nat → Nat} {kc kc' : Nat → Int32} {N : Nat → Nat} {le gr le' gr' : Nat → Nat → Int32} {A len : Nat} : ∀ k c, (∀ i, c ≤ i → i < c + k → kc i = kc' i ∧ ∀ j, j < N i → le i j = le' i j ∧ gr i j = gr' i j) → cKd tb kc N le gr A len k c = cKd tb kc' N le' gr' A len k c
  | 0, c, _ => rfl
  | k + 1, c, h => by
    unfold cKd
    rw [cWi_e (N c) (h c (by omega) (by omega)).2, (h c (by omega) (by omega)).1, cKd_e k (c + 1) (fun i h1 h2 => h i (by omega) (by omega))]
theorem psS_e {tb : Nat → Nat} {kd : Nat → Nat → Nat} {n k : Nat} {s s' : Nat × Nat × (Nat → Int32)} (hk : ∀ A B, kd A B ≤ 9) (h : s.1 = s'.1 ∧ s.2.1 = s'.2.1 ∧ ∀ i, i < 10 → s.2.2 i = s'.2.2 i) : (psS tb kd n k s).1 = (psS tb kd n k s').1 ∧ (psS tb kd n k s).2.1 = (psS tb kd n k s').2.1 ∧ ∀ i, i < 10 → (psS tb kd n k s).2.2 i = (psS tb kd n k s').2.2 i := by
  obtain ⟨h1, h2, h3⟩ := h
  unfold psS
  rw [← h1]
  split
  · exact ⟨h1, h2, h3⟩
  · split
    · refine ⟨rfl, by dsimp only; rw [h2], fun i hi => ?_⟩
      dsimp only
      by_cases e : i = kd s.1 k
      · subst e
        rw [upd_s, upd_s, h3 _ hi]
      · rw [upd_n e, upd_n e]
        exact h3 i hi
    · exact ⟨rfl, h2, h3⟩
theorem psR_e {tb : Nat → Nat} {kd : Nat → Nat → Nat} {n : Nat} (hk : ∀ A B, kd A B ≤ 9) : ∀ (f k : Nat) {s s' : Nat × Nat × (Nat → Int32)}, (s.1 = s'.1 ∧ s.2.1 = s'.2.1 ∧ ∀ i, i < 10 → s.2.2 i = s'.2.2 i) → (psR tb kd n f k s).1 = (psR tb kd n f k s').1 ∧ (psR tb kd n f k s).2.1 = (psR tb kd n f k s').2.1 ∧ ∀ i, i < 10 → (psR tb kd n f k s).2.2 i = (psR tb kd n f k s').2.2 i
  | 0, k, s, s', h => h
  | f + 1, k, s, s', h => by
    unfold psR
    exact psR_e hk f (k + 1) (psS_e hk h)
theorem cC.kd {S : cS} {iv : Nat → Int32} {h : Nat → Bool} {a : Nat → Nat → Int32} (C : cC S iv h a) : mKd S.tb a S.N S.cn = cKdF S := by
  funext A B
  unfold mKd cKdF kdF
  rw [cKd_e (kc' := S.kc) (le' := S.le) (gr' := S.gr) S.cn 0 (fun i _ hi => by
    obtain ⟨r1, r2, r3⟩ := C.ru i (by omega)
    exact ⟨r1, fun j hj => ⟨(r3 j hj).1.symm, (r3 j hj).2.symm⟩⟩)]
theorem cC.up {S : cS} {iv : Nat → Int32} {h : Nat → Bool} {a : Nat → Nat → Int32} (C : cC S iv h a) {r : Nat} {v v' g : Nat → Int32} (hr : r < S.n) (hv : ∀ i, i < 10 → v' i = v i) (hg : psG (a 81) r v' g) : cC (cPas S r v 0) (va_up iv 1 0) h (va_up a 81 g) := by
  have hn := C.I.rf.1
  refine ⟨⟨C.I.q, C.I.rf, C.I.ra, C.I.hl, C.I.ro, C.I.pr, C.I.tb, Nat.zero_le 120, C.I.cn, C.I.sc, C.I.kc⟩, C.hh, C.wd, C.mo, C.h3, C.hi, C.hc, C.n, C.rd, C.fm0, C.A, C.ct, C.ct0, fun k hk j hj => ?_, fun k h1 h2 j hj => ?_, rfl, C.tb, C.cn, C.ru⟩
  · show g (10 * k + j) = va_up S.pa r v k j
    by_cases e : k = r
    · subst e
      rw [vau_s, hg.1 j hj]
      exact hv j hj
    · rw [vau_n e, hg.2 _ (by omega)]
      exact C.pa k hk j hj
  · have h1 : S.n ≤ k := h1
    show g (10 * k + j) = 0
    rw [hg.2 _ (by omega)]
    exact C.pa0 k h1 h2 j hj
theorem pr_pass (r n : Int32) : pI S7_pass S8_pass [.int r, .int n] := by
  rintro P nx ⟨S, iv, h, a, ld, hC, hM, C, hx⟩ K1 hK
  have htl := C.I.tl
  have hn12 := C.I.rf.1
  have hsc : ∀ i, i < S.cn → a 83 i = nI (S.N i) ∧ S.N i ≤ 4 := fun i hi => by rw [(C.ru i hi).2.1]; exact C.I.sc i hi
  have hkc : ∀ i, i < S.cn → ∃ κ, κ ≤ 9 ∧ a 82 i = nI κ := fun i hi => by rw [(C.ru i hi).1]; exact C.I.kc i hi
  refine ⟨S, r, n, rfl, hC, C.I, fun hb => hK _ P nx ⟨_, hM 70 _ rfl⟩ (fun K2 h2 => ⟨iv, h, a, ld, S.tb, S.tl, S.n, S.cn, S.N, r, n, rfl, hM, C.t, C.I.tl, C.tb, C.n, C.I.rf.1, C.cn, C.I.cn, hsc, hkc, fun _ => h2 P nx ⟨S, iv, h, a, ld, hC, hM, C, hx⟩, fun r' e h1 h2 h3 h4 => ?_⟩), fun j e hj hjn he hle P1 hC1 hO1 => hK _ P1 nx ⟨_, zM_c hM hO1 70 _ rfl⟩ (fun K2 h2 => ⟨iv, h, a, ld, S.tb, S.tl, S.n, S.cn, S.N, r, n, rfl, zM_c hM hO1, C.t, C.I.tl, C.tb, C.n, C.I.rf.1, C.cn, C.I.cn, hsc, hkc, fun hb => ?_, fun r' e' h3 h4 h5 h6 g P' hg hM' hO => ?_⟩)⟩
  · rw [h1, h3, nI_toInt (by omega), nI_toInt (by omega)] at hb
    exact absurd (by omega) hb
  · rw [hj, he, nI_toInt (by omega), nI_toInt (by omega)] at hb
    exact absurd (by omega) hb
  · have er : r' = j := ((nI_eq (by omega) (by omega)).mp (hj.symm.trans h3)).symm
    have ee : e' = e := ((nI_eq (by omega) (by omega)).mp (he.symm.trans h5)).symm
    subst er
    subst ee
    rw [C.kd] at hg ⊢
    have q := psR_e (tb := S.tb) (kd := cKdF S) (n := e') (fun A B => (kdF_e (tb := S.tb) (N := S.N) (le := S.le) (gr := S.gr) (A := A) (B := B) C.I.kc).2) (e' + 1) 0 (s := (0, 0, fun i => a 81 (10 * r' + i))) (s' := (0, 0, S.pa r')) ⟨rfl, rfl, fun i hi => C.pa r' hjn i hi⟩
    have C' := C.up hjn q.2.2 hg
    have ev : (psA S.tb (cKdF S) e' (fun j => a 81 (10 * r' + j))).2.1 = (psA S.tb (cKdF S) e' (S.pa r')).2.1 := q.2.1
    rw [ev]
    exact h2 P' nx ⟨_, _, h, _, ld, hC1.dm C'.I hO, hM', C', hx⟩
