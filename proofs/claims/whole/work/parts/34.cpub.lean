/-! THE CLASS AS A WHOLE -/
section ZN
variable {X : z_X} {l : Launch} {me : z_M} {rm : Room} {pc nx u v : Nat} {lv : List (Option Value)} {st : List Value} {P : z_H}
theorem z_astore_nN (hX : z_is X l me rm) {j0 : Fin 4} (j : Nat) (hj : (j0 : Nat) = j) (hn : j < me.2.2.1) (hd : decode me.2.1 pc = .ok (.astore_n j0, 1)) (k : z_W X (pc + 1) (z_p1 .null j lv) st P nx u v) : z_W X pc lv (.null :: st) P nx u v := by
  obtain ⟨p, l, e, R, s, m, args, below, meth, c, cc, nL, own, D, cy, b, B, Q⟩ := X
  obtain ⟨yn, yc, yL, yr⟩ := me
  obtain ⟨⟨hx, hb, hml, hown, hts, hK, hB⟩, rfl, rfl, rfl, rfl, rfl⟩ := hX
  intro H locs ls hR hS hL
  exact lv_astore_nN hx hb hd hj hL.has hn rfl (fun ls' h' => k H locs ls' hR hS (hL.p1 h'))
theorem z_astoreN (hX : z_is X l me rm) {j : Nat} (hn : j < me.2.2.1) (hd : decode me.2.1 pc = .ok (.astore j, 2)) (k : z_W X (pc + 2) (z_p1 .null j lv) st P nx u v) : z_W X pc lv (.null :: st) P nx u v := by
  obtain ⟨p, l, e, R, s, m, args, below, meth, c, cc, nL, own, D, cy, b, B, Q⟩ := X
  obtain ⟨yn, yc, yL, yr⟩ := me
  obtain ⟨⟨hx, hb, hml, hown, hts, hK, hB⟩, rfl, rfl, rfl, rfl, rfl⟩ := hX
  intro H locs ls hR hS hL
  exact lv_astoreN hx hb hd hL.has hn rfl (fun ls' h' => k H locs ls' hR hS (hL.p1 h'))
theorem z_aloadN (hX : z_is X l me rm) {j : Nat} (hd : decode me.2.1 pc = .ok (.aload j, 2)) (hg : z_g lv j = some .null) (k : z_W X (pc + 2) lv (.null :: st) P nx u v) : z_W X pc lv st P nx u v := by
  obtain ⟨p, l, e, R, s, m, args, below, meth, c, cc, nL, own, D, cy, b, B, Q⟩ := X
  obtain ⟨yn, yc, yL, yr⟩ := me
  obtain ⟨⟨hx, hb, hml, hown, hts, hK, hB⟩, rfl, rfl, rfl, rfl, rfl⟩ := hX
  intro H locs ls hR hS hL
  exact lv_aloadN hx hb hd (hL.2.2 _ _ hg) (k H locs ls hR hS hL)
end ZN
/-- what the object holds, and beside it what that stands for (hd, A, sh, dl, pw, N) -/
abbrev cS : Type := (Nat → Nat → Int32) × (Nat → Nat → Int32) × (Nat → Bool) × (Nat → Int32) × (Nat → Nat) × (Nat) × (Nat → Option Nat) × (Nat → Int32) × (Nat → Nat) × (Nat → Int64) × (Nat → Int32) × (Nat → Int32) × (Nat) × (Nat) × (Nat) × (Nat) × (Nat → Int32) × (Nat → Int32) × (Nat → Int32) × (Nat → Nat) × (Nat → Int32) × (Nat → Nat) × (Nat → Nat) × (Nat → Nat → Int32) × (Nat → Nat → Nat) × (Nat → Nat → Int32) × (Nat → Nat → Int32) × (Nat → Nat) × (Nat) × (Nat) × (Nat) × (Nat) × (Nat) × (Nat) × (Nat → Int32) × (Nat → Int32) × (Nat → Nat) × (Nat → Nat → Int32) × (Nat → Nat → Int32) × (Nat) × (Nat → Int32) × (Nat → Int32) × (Nat → Nat → Int32) × (Nat → Nat → Int32) × (Nat)
def cS.mk (wd : Nat → Nat → Int32) (mo : Nat → Nat → Int32) (h : Nat → Bool) (hl : Nat → Int32) (hd : Nat → Nat) (hn : Nat) (rf : Nat → Option Nat) (ra : Nat → Int32) (A : Nat → Nat) (ld : Nat → Int64) (fo : Nat → Int32) (fa : Nat → Int32) (st : Nat) (n : Nat) (kn : Nat) (to : Nat) (fr : Nat → Int32) (tw : Nat → Int32) (pr : Nat → Int32) (pw : Nat → Nat) (fm : Nat → Int32) (sh : Nat → Nat) (sz : Nat → Nat) (dy : Nat → Nat → Int32) (dl : Nat → Nat → Nat) (ct : Nat → Nat → Int32) (pa : Nat → Nat → Int32) (tb : Nat → Nat) (tl : Nat) (e : Nat) (p : Nat) (x : Nat) (qa : Nat) (qb : Nat) (kc : Nat → Int32) (sc : Nat → Int32) (N : Nat → Nat) (le : Nat → Nat → Int32) (gr : Nat → Nat → Int32) (cn : Nat) (kd : Nat → Int32) (sd : Nat → Int32) (lf : Nat → Nat → Int32) (gf : Nat → Nat → Int32) (dn : Nat) : cS := (wd, mo, h, hl, hd, hn, rf, ra, A, ld, fo, fa, st, n, kn, to, fr, tw, pr, pw, fm, sh, sz, dy, dl, ct, pa, tb, tl, e, p, x, qa, qb, kc, sc, N, le, gr, cn, kd, sd, lf, gf, dn)
def cS.wd (S : cS) : Nat → Nat → Int32 := S.1
def cS.mo (S : cS) : Nat → Nat → Int32 := S.2.1
def cS.h (S : cS) : Nat → Bool := S.2.2.1
def cS.hl (S : cS) : Nat → Int32 := S.2.2.2.1
def cS.hd (S : cS) : Nat → Nat := S.2.2.2.2.1
def cS.hn (S : cS) : Nat := S.2.2.2.2.2.1
def cS.rf (S : cS) : Nat → Option Nat := S.2.2.2.2.2.2.1
def cS.ra (S : cS) : Nat → Int32 := S.2.2.2.2.2.2.2.1
def cS.A (S : cS) : Nat → Nat := S.2.2.2.2.2.2.2.2.1
def cS.ld (S : cS) : Nat → Int64 := S.2.2.2.2.2.2.2.2.2.1
def cS.fo (S : cS) : Nat → Int32 := S.2.2.2.2.2.2.2.2.2.2.1
def cS.fa (S : cS) : Nat → Int32 := S.2.2.2.2.2.2.2.2.2.2.2.1
def cS.st (S : cS) : Nat := S.2.2.2.2.2.2.2.2.2.2.2.2.1
def cS.n (S : cS) : Nat := S.2.2.2.2.2.2.2.2.2.2.2.2.2.1
def cS.kn (S : cS) : Nat := S.2.2.2.2.2.2.2.2.2.2.2.2.2.2.1
def cS.to (S : cS) : Nat := S.2.2.2.2.2.2.2.2.2.2.2.2.2.2.2.1
def cS.fr (S : cS) : Nat → Int32 := S.2.2.2.2.2.2.2.2.2.2.2.2.2.2.2.2.1
def cS.tw (S : cS) : Nat → Int32 := S.2.2.2.2.2.2.2.2.2.2.2.2.2.2.2.2.2.1
def cS.pr (S : cS) : Nat → Int32 := S.2.2.2.2.2.2.2.2.2.2.2.2.2.2.2.2.2.2.1
def cS.pw (S : cS) : Nat → Nat := S.2.2.2.2.2.2.2.2.2.2.2.2.2.2.2.2.2.2.2.1
def cS.fm (S : cS) : Nat → Int32 := S.2.2.2.2.2.2.2.2.2.2.2.2.2.2.2.2.2.2.2.2.1
def cS.sh (S : cS) : Nat → Nat := S.2.2.2.2.2.2.2.2.2.2.2.2.2.2.2.2.2.2.2.2.2.1
def cS.sz (S : cS) : Nat → Nat := S.2.2.2.2.2.2.2.2.2.2.2.2.2.2.2.2.2.2.2.2.2.2.1
def cS.dy (S : cS) : Nat → Nat → Int32 := S.2.2.2.2.2.2.2.2.2.2.2.2.2.2.2.2.2.2.2.2.2.2.2.1
def cS.dl (S : cS) : Nat → Nat → Nat := S.2.2.2.2.2.2.2.2.2.2.2.2.2.2.2.2.2.2.2.2.2.2.2.2.1
def cS.ct (S : cS) : Nat → Nat → Int32 := S.2.2.2.2.2.2.2.2.2.2.2.2.2.2.2.2.2.2.2.2.2.2.2.2.2.1
def cS.pa (S : cS) : Nat → Nat → Int32 := S.2.2.2.2.2.2.2.2.2.2.2.2.2.2.2.2.2.2.2.2.2.2.2.2.2.2.1
def cS.tb (S : cS) : Nat → Nat := S.2.2.2.2.2.2.2.2.2.2.2.2.2.2.2.2.2.2.2.2.2.2.2.2.2.2.2.1
def cS.tl (S : cS) : Nat := S.2.2.2.2.2.2.2.2.2.2.2.2.2.2.2.2.2.2.2.2.2.2.2.2.2.2.2.2.1
def cS.e (S : cS) : Nat := S.2.2.2.2.2.2.2.2.2.2.2.2.2.2.2.2.2.2.2.2.2.2.2.2.2.2.2.2.2.1
def cS.p (S : cS) : Nat := S.2.2.2.2.2.2.2.2.2.2.2.2.2.2.2.2.2.2.2.2.2.2.2.2.2.2.2.2.2.2.1
def cS.x (S : cS) : Nat := S.2.2.2.2.2.2.2.2.2.2.2.2.2.2.2.2.2.2.2.2.2.2.2.2.2.2.2.2.2.2.2.1
def cS.qa (S : cS) : Nat := S.2.2.2.2.2.2.2.2.2.2.2.2.2.2.2.2.2.2.2.2.2.2.2.2.2.2.2.2.2.2.2.2.1
def cS.qb (S : cS) : Nat := S.2.2.2.2.2.2.2.2.2.2.2.2.2.2.2.2.2.2.2.2.2.2.2.2.2.2.2.2.2.2.2.2.2.1
def cS.kc (S : cS) : Nat → Int32 := S.2.2.2.2.2.2.2.2.2.2.2.2.2.2.2.2.2.2.2.2.2.2.2.2.2.2.2.2.2.2.2.2.2.2.1
def cS.sc (S : cS) : Nat → Int32 := S.2.2.2.2.2.2.2.2.2.2.2.2.2.2.2.2.2.2.2.2.2.2.2.2.2.2.2.2.2.2.2.2.2.2.2.1
def cS.N (S : cS) : Nat → Nat := S.2.2.2.2.2.2.2.2.2.2.2.2.2.2.2.2.2.2.2.2.2.2.2.2.2.2.2.2.2.2.2.2.2.2.2.2.1
def cS.le (S : cS) : Nat → Nat → Int32 := S.2.2.2.2.2.2.2.2.2.2.2.2.2.2.2.2.2.2.2.2.2.2.2.2.2.2.2.2.2.2.2.2.2.2.2.2.2.1
def cS.gr (S : cS) : Nat → Nat → Int32 := S.2.2.2.2.2.2.2.2.2.2.2.2.2.2.2.2.2.2.2.2.2.2.2.2.2.2.2.2.2.2.2.2.2.2.2.2.2.2.1
def cS.cn (S : cS) : Nat := S.2.2.2.2.2.2.2.2.2.2.2.2.2.2.2.2.2.2.2.2.2.2.2.2.2.2.2.2.2.2.2.2.2.2.2.2.2.2.2.1
def cS.kd (S : cS) : Nat → Int32 := S.2.2.2.2.2.2.2.2.2.2.2.2.2.2.2.2.2.2.2.2.2.2.2.2.2.2.2.2.2.2.2.2.2.2.2.2.2.2.2.2.1
def cS.sd (S : cS) : Nat → Int32 := S.2.2.2.2.2.2.2.2.2.2.2.2.2.2.2.2.2.2.2.2.2.2.2.2.2.2.2.2.2.2.2.2.2.2.2.2.2.2.2.2.2.1
def cS.lf (S : cS) : Nat → Nat → Int32 := S.2.2.2.2.2.2.2.2.2.2.2.2.2.2.2.2.2.2.2.2.2.2.2.2.2.2.2.2.2.2.2.2.2.2.2.2.2.2.2.2.2.2.1
def cS.gf (S : cS) : Nat → Nat → Int32 := S.2.2.2.2.2.2.2.2.2.2.2.2.2.2.2.2.2.2.2.2.2.2.2.2.2.2.2.2.2.2.2.2.2.2.2.2.2.2.2.2.2.2.2.1
def cS.dn (S : cS) : Nat := S.2.2.2.2.2.2.2.2.2.2.2.2.2.2.2.2.2.2.2.2.2.2.2.2.2.2.2.2.2.2.2.2.2.2.2.2.2.2.2.2.2.2.2.2
abbrev zCl (S : cS) (P : z_H) : Prop := (P 1 = some (.inr (7, [.ref 2, .ref 15, .ref 21, .ref 23, .ref S.qa, .ref S.qb]))) ∧ (z_in (zA S.wd S.mo S.h S.hl S.hn) P) ∧ (z_in (zN S.rf S.ra S.ld S.fo S.fa S.st S.n S.kn S.to) P) ∧ (zRd S.n S.fr S.tw S.pr S.fm S.sz S.dy S.ct S.pa P) ∧ (z_in (zT S.tb S.tl S.e S.p S.x) P) ∧ (zRu S.qa S.kc S.sc S.le S.gr S.cn P) ∧ (zRu S.qb S.kd S.sd S.lf S.gf S.dn P)
theorem zCl.o {S : cS} {P : z_H} (q : zCl S P) : P 1 = some (.inr (7, [.ref 2, .ref 15, .ref 21, .ref 23, .ref S.qa, .ref S.qb])) := q.1
theorem zCl.a {S : cS} {P : z_H} (q : zCl S P) : z_in (zA S.wd S.mo S.h S.hl S.hn) P := q.2.1
theorem zCl.n {S : cS} {P : z_H} (q : zCl S P) : z_in (zN S.rf S.ra S.ld S.fo S.fa S.st S.n S.kn S.to) P := q.2.2.1
theorem zCl.r {S : cS} {P : z_H} (q : zCl S P) : zRd S.n S.fr S.tw S.pr S.fm S.sz S.dy S.ct S.pa P := q.2.2.2.1
theorem zCl.t {S : cS} {P : z_H} (q : zCl S P) : z_in (zT S.tb S.tl S.e S.p S.x) P := q.2.2.2.2.1
theorem zCl.u {S : cS} {P : z_H} (q : zCl S P) : zRu S.qa S.kc S.sc S.le S.gr S.cn P := q.2.2.2.2.2.1
theorem zCl.v {S : cS} {P : z_H} (q : zCl S P) : zRu S.qb S.kd S.sd S.lf S.gf S.dn P := q.2.2.2.2.2.2
abbrev cIv (S : cS) : Prop := ((S.qa = 24 ∧ S.qb = 47) ∨ (S.qa = 47 ∧ S.qb = 24)) ∧ (zRf S.n S.rf) ∧ (zRa S.ra S.A S.n) ∧ (cHl S.hl S.hd S.hn) ∧ (cRo S.n S.fm S.sh S.sz S.dy S.dl) ∧ (∀ r, r < S.n → S.pr r = nI (S.pw r) ∧ S.pw r ≤ 9999) ∧ (∀ i, S.tb i < 256) ∧ (S.tl ≤ 120) ∧ (S.cn ≤ 9) ∧ (∀ c, c < S.cn → S.sc c = nI (S.N c) ∧ S.N c ≤ 4) ∧ (∀ c, c < S.cn → ∃ κ, κ ≤ 9 ∧ S.kc c = nI κ)
theorem cIv.q {S : cS} (q : cIv S) : (S.qa = 24 ∧ S.qb = 47) ∨ (S.qa = 47 ∧ S.qb = 24) := q.1
theorem cIv.rf {S : cS} (q : cIv S) : zRf S.n S.rf := q.2.1
theorem cIv.ra {S : cS} (q : cIv S) : zRa S.ra S.A S.n := q.2.2.1
theorem cIv.hl {S : cS} (q : cIv S) : cHl S.hl S.hd S.hn := q.2.2.2.1
theorem cIv.ro {S : cS} (q : cIv S) : cRo S.n S.fm S.sh S.sz S.dy S.dl := q.2.2.2.2.1
theorem cIv.pr {S : cS} (q : cIv S) : ∀ r, r < S.n → S.pr r = nI (S.pw r) ∧ S.pw r ≤ 9999 := q.2.2.2.2.2.1
theorem cIv.tb {S : cS} (q : cIv S) : ∀ i, S.tb i < 256 := q.2.2.2.2.2.2.1
theorem cIv.tl {S : cS} (q : cIv S) : S.tl ≤ 120 := q.2.2.2.2.2.2.2.1
theorem cIv.cn {S : cS} (q : cIv S) : S.cn ≤ 9 := q.2.2.2.2.2.2.2.2.1
theorem cIv.sc {S : cS} (q : cIv S) : ∀ c, c < S.cn → S.sc c = nI (S.N c) ∧ S.N c ≤ 4 := q.2.2.2.2.2.2.2.2.2.1
theorem cIv.kc {S : cS} (q : cIv S) : ∀ c, c < S.cn → ∃ κ, κ ≤ 9 ∧ S.kc c = nI κ := q.2.2.2.2.2.2.2.2.2.2
def zDc (j : Nat) : Bool := !zDm j
theorem zDm_f {j : Nat} (h : j < 70 ∨ 89 < j) : zDm j = false := by
  unfold zDm
  rcases h with h | h
  · rw [show Nat.ble 70 j = false from (by cases q : Nat.ble 70 j with | false => rfl | true => exact absurd (Nat.le_of_ble_eq_true q) (by omega)), Bool.false_and]
  · rw [show Nat.ble j 89 = false from (by cases q : Nat.ble j 89 with | false => rfl | true => exact absurd (Nat.le_of_ble_eq_true q) (by omega)), Bool.and_false]
theorem zDm_t {j : Nat} (h1 : 70 ≤ j) (h2 : j ≤ 89) : zDm j = true := by
  unfold zDm
  rw [Nat.ble_eq_true_of_le h1, Nat.ble_eq_true_of_le h2]
  rfl
theorem zDc_f {j : Nat} (h : zDc j = false) : 70 ≤ j ∧ j ≤ 89 := by
  unfold zDc zDm at h
  have h : (Nat.ble 70 j && Nat.ble j 89) = true := by simpa using h
  rw [Bool.and_eq_true] at h
  exact ⟨Nat.le_of_ble_eq_true h.1, Nat.le_of_ble_eq_true h.2⟩
theorem zDc_out {dm : Nat → Bool} {P P' : z_H} (h : z_out dm P P') (hd : ∀ j, 70 ≤ j → j ≤ 89 → dm j = false) : z_out zDc P P' := h.mono (fun j hj => hd j (zDc_f hj).1 (zDc_f hj).2)
theorem zDa_f {j : Nat} (h : j < 2 ∨ 14 < j) : zDa j = false := zDr_f (lo := 2) (hi := 14) h
theorem zDn_f {j : Nat} (h : j < 15 ∨ 20 < j) : zDn j = false := zDr_f (lo := 15) (hi := 20) h
theorem zDq_f {q j : Nat} (h : j < q ∨ q + 2 < j) : zDq q j = false := zDr_f (lo := q) (hi := q + 2) h
/-- a picture of cells lo .. hi, where nothing has changed -/
theorem z_in.keep {Q P P' : z_H} {dm : Nat → Bool} (h : z_in Q P) (hO : z_out dm P P') (hd : ∀ k c, Q k = some c → dm k = false) : z_in Q P' := fun k c q => by
  rw [hO k (hd k c q)]
  exact h k c q
theorem zRd.keep {n : Nat} {fr tw pr fm : Nat → Int32} {sz : Nat → Nat} {dy ct pa : Nat → Nat → Int32} {P P' : z_H} {dm : Nat → Bool} (h : zRd n fr tw pr fm sz dy ct pa P) (hO : z_out dm P P') (hd : ∀ j, 90 ≤ j → dm j = false) : zRd n fr tw pr fm sz dy ct pa P' := h.out hO hd
theorem zCl.da {S : cS} {P P' : z_H} (h : zCl S P) (hI : cIv S) {wd mo : Nat → Nat → Int32} {hh : Nat → Bool} {hl : Nat → Int32} {hn : Nat} (g : z_in (zA wd mo hh hl hn) P') (hO : z_out zDa P P') (hd : Nat → Nat) : zCl (cS.mk (wd) (mo) (hh) (hl) (hd) (hn) S.rf S.ra S.A S.ld S.fo S.fa S.st S.n S.kn S.to S.fr S.tw S.pr S.pw S.fm S.sh S.sz S.dy S.dl S.ct S.pa S.tb S.tl S.e S.p S.x S.qa S.qb S.kc S.sc S.N S.le S.gr S.cn S.kd S.sd S.lf S.gf S.dn) P' := by
  refine ⟨by rw [hO 1 (zDa_f (by omega))]; exact h.o, g, h.n.keep hO (fun k c q => zDa_f (by have := zN_dom q; omega)), h.r.keep hO (fun j hj => zDa_f (by omega)), h.t.keep hO (fun k c q => zDa_f (by have := zT_dom q; omega)), zRu_out (q := S.qa) h.u hO (fun j h1 h2 => zDa_f ?_), zRu_out (q := S.qb) h.v hO (fun j h1 h2 => zDa_f ?_)⟩ <;> (have := hI.q; omega)
theorem zCl.dn {S : cS} {P P' : z_H} (h : zCl S P) (hI : cIv S) {rf : Nat → Option Nat} {ra : Nat → Int32} {ld : Nat → Int64} {fo fa : Nat → Int32} {st kn to : Nat} (g : z_in (zN rf ra ld fo fa st S.n kn to) P') (hO : z_out zDn P P') : zCl (cS.mk S.wd S.mo S.h S.hl S.hd S.hn (rf) (ra) S.A (ld) (fo) (fa) (st) S.n (kn) (to) S.fr S.tw S.pr S.pw S.fm S.sh S.sz S.dy S.dl S.ct S.pa S.tb S.tl S.e S.p S.x S.qa S.qb S.kc S.sc S.N S.le S.gr S.cn S.kd S.sd S.lf S.gf S.dn) P' := by
  refine ⟨by rw [hO 1 (zDn_f (by omega))]; exact h.o, h.a.keep hO (fun k c q => zDn_f (by have := zA_dom q; omega)), g, h.r.keep hO (fun j hj => zDn_f (by omega)), h.t.keep hO (fun k c q => zDn_f (by have := zT_dom q; omega)), zRu_out (q := S.qa) h.u hO (fun j h1 h2 => zDn_f ?_), zRu_out (q := S.qb) h.v hO (fun j h1 h2 => zDn_f ?_)⟩ <;> (have := hI.q; omega)
theorem zCl.dt {S : cS} {P P' : z_H} (h : zCl S P) (hI : cIv S) {tb : Nat → Nat} {tl e p x : Nat} (g : z_in (zT tb tl e p x) P') (hO : z_out (zDr 21 23) P P') : zCl (cS.mk S.wd S.mo S.h S.hl S.hd S.hn S.rf S.ra S.A S.ld S.fo S.fa S.st S.n S.kn S.to S.fr S.tw S.pr S.pw S.fm S.sh S.sz S.dy S.dl S.ct S.pa (tb) (tl) (e) (p) (x) S.qa S.qb S.kc S.sc S.N S.le S.gr S.cn S.kd S.sd S.lf S.gf S.dn) P' := by
  refine ⟨by rw [hO 1 (zDr_f (by omega))]; exact h.o, h.a.keep hO (fun k c q => zDr_f (by have := zA_dom q; omega)), h.n.keep hO (fun k c q => zDr_f (by have := zN_dom q; omega)), h.r.keep hO (fun j hj => zDr_f (by omega)), g, zRu_out (q := S.qa) h.u hO (fun j h1 h2 => zDr_f ?_), zRu_out (q := S.qb) h.v hO (fun j h1 h2 => zDr_f ?_)⟩ <;> (have := hI.q; omega)
theorem zCl.dm {S : cS} {P P' : z_H} (h : zCl S P) (hI : cIv S) (hO : z_out zDm P P') : zCl S P' := by
  refine ⟨by rw [hO 1 (zDm_f (by omega))]; exact h.o, h.a.keep hO (fun k c q => zDm_f (by have := zA_dom q; omega)), h.n.keep hO (fun k c q => zDm_f (by have := zN_dom q; omega)), h.r.keep hO (fun j hj => zDm_f (by omega)), h.t.keep hO (fun k c q => zDm_f (by have := zT_dom q; omega)), zRu_out (q := S.qa) h.u hO (fun j h1 h2 => zDm_f ?_), zRu_out (q := S.qb) h.v hO (fun j h1 h2 => zDm_f ?_)⟩ <;> (have := hI.q; omega)
/-- and the model is kept by the class -/
theorem zM_c {iv : Nat → Int32} {h : Nat → Bool} {a : Nat → Nat → Int32} {ld : Nat → Int64} {P P' : z_H} (hM : z_in (zM iv h a ld) P) (hO : z_out zDc P P') : z_in (zM iv h a ld) P' := hM.keep hO (fun k c q => by
  have := zM_dom q
  unfold zDc
  rw [zDm_t this.1 this.2]
  rfl)
def S7_weekday : z_PT := fun as P nx K => ∃ (S : cS) (s d w : Int32), as = [.ref 1, .int s, .int d, .int w] ∧ zCl S P ∧ cIv S ∧ (mOkW s d w = false → K (some (.int 0)) P nx) ∧ (mOkW s d w = true → ∀ P' : z_H, zCl (cS.mk (va_up S.wd s.toInt.toNat (upd (S.wd s.toInt.toNat) d.toInt.toNat w)) S.mo S.h S.hl S.hd S.hn S.rf S.ra S.A S.ld S.fo S.fa S.st S.n S.kn S.to S.fr S.tw S.pr S.pw S.fm S.sh S.sz S.dy S.dl S.ct S.pa S.tb S.tl S.e S.p S.x S.qa S.qb S.kc S.sc S.N S.le S.gr S.cn S.kd S.sd S.lf S.gf S.dn) P' → z_out zDc P P' → K (some (.int 1)) P' nx)
theorem sp7_weekday (l : Launch) : z_Sp l M7_weekday rM7_weekday S7_weekday := by
  refine z_enter (by decide) (fun as P nx K h => ?_) (fun X K as P nx hX hE hin0 hS => ?_)
  · obtain ⟨S, s, d, w, rfl, -⟩ := h
    exact Nat.le_of_ble_eq_true rfl
  obtain ⟨S, s, d, w, rfl, hC, hI, hB, hK⟩ := hS
  show z_W X 0 [some (.ref 1), some (.int s), some (.int d), some (.int w)] [] P nx 0 0
  refine z_iload_n hX d7_weekday_0 rfl ?_
  refine z_iconst hX (4) d7_weekday_1 (by decide) ?_
  refine z_callS2 hX (sp7_isBelow l) lm_7_49 ⟨by decide, by decide, by decide, by decide⟩ (Nat.le_of_ble_eq_true rfl) d7_weekday_2 ?_
  refine ⟨_, _, rfl, ?_⟩
  dsimp only [Option.toList, List.cons_append, List.nil_append]
  refine z_ifb_eq hX 24 d7_weekday_5 (by decide) (fun h5 => ?_) (fun h5 => ?_)
  · skip
    rw [decide_eq_false_iff_not, show (4 : Int32).toInt = 4 from rfl] at h5
    refine z_iconst hX (0) d7_weekday_24 (by decide) ?_
    refine z_zret hX hE (by decide) (by decide) (by decide) d7_weekday_25 ?_
    refine hB ?_
    unfold mOkW
    simp only [Bool.and_eq_false_iff, decide_eq_false_iff_not]
    omega
  · skip
    rw [decide_eq_true_eq, show (4 : Int32).toInt = 4 from rfl] at h5
    refine z_iload_n hX d7_weekday_8 rfl ?_
    refine z_bipush hX (7) d7_weekday_9 (by decide) ?_
    refine z_callS2 hX (sp7_isBelow l) lm_7_49 ⟨by decide, by decide, by decide, by decide⟩ (Nat.le_of_ble_eq_true rfl) d7_weekday_11 ?_
    refine ⟨_, _, rfl, ?_⟩
    dsimp only [Option.toList, List.cons_append, List.nil_append]
    refine z_ifb_eq hX 24 d7_weekday_14 (by decide) (fun h14 => ?_) (fun h14 => ?_)
    · skip
      rw [decide_eq_false_iff_not, show (7 : Int32).toInt = 7 from rfl] at h14
      refine z_iconst hX (0) d7_weekday_24 (by decide) ?_
      refine z_zret hX hE (by decide) (by decide) (by decide) d7_weekday_25 ?_
      refine hB ?_
      unfold mOkW
      simp only [Bool.and_eq_false_iff, decide_eq_false_iff_not]
      omega
    · skip
      rw [decide_eq_true_eq, show (7 : Int32).toInt = 7 from rfl] at h14
      refine z_iload_n hX d7_weekday_17 rfl ?_
      refine z_callS1 hX (sp7_isWeight l) lm_7_53 ⟨by decide, by decide, by decide, by decide⟩ (Nat.le_of_ble_eq_true rfl) d7_weekday_18 ?_
      refine ⟨_, rfl, ?_⟩
      dsimp only [Option.toList, List.cons_append, List.nil_append]
      refine z_ifb_ne hX 26 d7_weekday_21 (by decide) (fun h21 => ?_) (fun h21 => ?_)
      · skip
        rw [decide_eq_true_eq] at h21
        obtain ⟨s', hs', rfl⟩ := nI_rng (n := 4) h5.1 h5.2
        obtain ⟨d', hd', rfl⟩ := nI_rng (n := 7) h14.1 h14.2
        rw [tN (n := 4) hs' (by decide), tN (n := 7) hd' (by decide)] at hK
        refine z_aload_n hX d7_weekday_26 rfl ?_
        refine z_get hX lf_7_10 (by first | exact hC.o | exact hC.a _ _ rfl) rfl d7_weekday_27 ?_
        refine z_iload_n hX d7_weekday_30 rfl ?_
        refine z_iload_n hX d7_weekday_31 rfl ?_
        refine z_iload_n hX d7_weekday_32 rfl ?_
        refine z_callV3 hX (sp0_weighWeekday l) lm_7_57 (by first | exact hC.o | exact hC.a _ _ rfl) ⟨by decide, by decide, by decide, by decide⟩ (Nat.le_of_ble_eq_true rfl) d7_weekday_33 ?_
        refine ⟨S.wd, S.mo, S.h, S.hl, S.hn, s', d', w, rfl, hC.a, hs', hd', fun P' hA hO => ?_⟩
        dsimp only [Option.toList, List.cons_append, List.nil_append]
        refine z_iconst hX (1) d7_weekday_36 (by decide) ?_
        refine z_zret hX hE (by decide) (by decide) (by decide) d7_weekday_37 ?_
        refine hK ?_ P' (hC.da hI hA hO S.hd) (zDc_out hO (fun j h1 h2 => zDa_f (by omega)))
        unfold mOkW
        simp only [Bool.and_eq_true, decide_eq_true_eq]
        omega
      · skip
        rw [decide_eq_false_iff_not] at h21
        refine z_iconst hX (0) d7_weekday_24 (by decide) ?_
        refine z_zret hX hE (by decide) (by decide) (by decide) d7_weekday_25 ?_
        refine hB ?_
        unfold mOkW
        simp only [Bool.and_eq_false_iff, decide_eq_false_iff_not]
        omega
