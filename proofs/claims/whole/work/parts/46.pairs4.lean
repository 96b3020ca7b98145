/-! calls that only ask -/
theorem cC.st {S : cS} {iv : Nat → Int32} {h : Nat → Bool} {a : Nat → Nat → Int32} (C : cC S iv h a) {ld2 : Nat → Int64} {fo2 fa2 : Nat → Int32} {st2 kn2 to2 : Nat} : cC (cS.mk S.wd S.mo S.h S.hl S.hd S.hn S.rf S.ra S.A (ld2) (fo2) (fa2) (st2) S.n (kn2) (to2) S.fr S.tw S.pr S.pw S.fm S.sh S.sz S.dy S.dl S.ct S.pa S.tb S.tl S.e S.p S.x S.qa S.qb S.kc S.sc S.N S.le S.gr S.cn S.kd S.sd S.lf S.gf S.dn) iv h a := ⟨⟨C.I.q, C.I.rf, C.I.ra, C.I.hl, C.I.ro, C.I.pr, C.I.tb, C.I.tl, C.I.cn, C.I.sc, C.I.kc⟩, C.hh, C.wd, C.mo, C.h3, C.hi, C.hc, C.n, C.rd, C.fm0, C.A, C.ct, C.ct0, C.pa, C.pa0, C.t, C.tb, C.cn, C.ru⟩
theorem pr_year (r : Int32) : pL S7_year S8_year [.int r] := by
  rintro P nx ⟨S, iv, h, a, ld, hC, hM, C, hx⟩ K1 hK
  refine ⟨S, r, rfl, hC, C.I, hK _ P nx ⟨_, hM 70 _ rfl⟩ (fun K2 h2 => ⟨iv, h, a, ld, S.n, mSh S, r, rfl, hM, C.wf, ?_⟩)⟩
  have e : (if 0 ≤ r.toInt ∧ r.toInt < S.n ∧ 0 < zC (mUsed h a r.toInt.toNat) 364 then mYear h a r.toInt.toNat (mSh S r.toInt.toNat) else -1) = (if 0 ≤ r.toInt ∧ r.toInt < S.n then cLo S r.toInt.toNat else -1) := by
    by_cases hr : 0 ≤ r.toInt ∧ r.toInt < S.n
    · have hj : r.toInt.toNat < S.n := by omega
      rw [if_pos hr, (C.lo hj).1, mSh_e hj]
      by_cases hz : 0 < zC (mUsed h a r.toInt.toNat) 364
      · rw [if_pos ⟨hr.1, hr.2, hz⟩, if_pos hz]
      · rw [if_neg (fun z => hz z.2.2), if_neg hz]
    · rw [if_neg hr, if_neg (fun z => hr ⟨z.1, z.2.1⟩)]
  rw [e]
  exact h2 P nx ⟨S, iv, h, a, ld, hC, hM, C, hx⟩
theorem pr_span (r w : Int32) : pL S7_span S8_span [.int r, .int w] := by
  rintro P nx ⟨S, iv, h, a, ld, hC, hM, C, hx⟩ K1 hK
  refine ⟨S, r, w, rfl, hC, C.I, hK _ P nx ⟨_, hM 70 _ rfl⟩ (fun K2 h2 => ⟨iv, h, a, ld, S.n, mSh S, r, w, rfl, hM, C.wf, ?_⟩)⟩
  have e : mSpan h a S.n (mSh S) r w = (if (0 ≤ r.toInt ∧ r.toInt < S.n) ∧ 0 ≤ w.toInt ∧ w.toInt ≤ 1 then cEndF S.wd S.mo S.h (cWhole S.wd S.mo S.h S.hd S.hn (S.sh r.toInt.toNat)) (S.dl r.toInt.toNat) (S.ct r.toInt.toNat) (S.sh r.toInt.toNat) (decide (w = 1)) (S.sz r.toInt.toNat) else -1) := by
    unfold mSpan
    by_cases hr : (0 ≤ r.toInt ∧ r.toInt < S.n) ∧ 0 ≤ w.toInt ∧ w.toInt ≤ 1
    · have hj : r.toInt.toNat < S.n := by omega
      rw [if_pos hr, if_pos ⟨hr.1.1, hr.1.2, hr.2⟩, mSh_e hj, C.sp hj]
    · rw [if_neg hr, if_neg (fun z => hr ⟨⟨z.1, z.2.1⟩, z.2.2⟩)]
  rw [e]
  exact h2 P nx ⟨S, iv, h, a, ld, hC, hM, C, hx⟩
theorem pr_best (r : Int32) : pI S7_best S8_best [.int r] := by
  rintro P nx ⟨S, iv, h, a, ld, hC, hM, C, hx⟩ K1 hK
  refine ⟨S, r, rfl, hC, C.I, hK _ P nx ⟨_, hM 70 _ rfl⟩ (fun K2 h2 => ⟨iv, h, a, ld, S.n, mSh S, r, rfl, hM, C.wf, ?_⟩)⟩
  have e : mBest h a S.n r = (if 0 ≤ r.toInt ∧ r.toInt < S.n then cBest S.wd S.mo S.h (S.dl r.toInt.toNat) (S.ct r.toInt.toNat) (S.sz r.toInt.toNat) else -1) := by
    unfold mBest
    by_cases hr : 0 ≤ r.toInt ∧ r.toInt < S.n
    · have hj : r.toInt.toNat < S.n := by omega
      rw [if_pos hr, C.be hj]
      by_cases hz : 0 < zC (mUsed h a r.toInt.toNat) 364
      · rw [if_pos ⟨hr.1, hr.2, hz⟩, if_pos hz]
      · rw [if_neg (fun z => hz z.2.2), if_neg hz]
    · rw [if_neg hr, if_neg (fun z => hr ⟨z.1, z.2.1⟩)]
  rw [e]
  exact h2 P nx ⟨S, iv, h, a, ld, hC, hM, C, hx⟩
theorem pr_kinds (r k : Int32) : pI S7_kinds S8_kinds [.int r, .int k] := by
  rintro P nx ⟨S, iv, h, a, ld, hC, hM, C, hx⟩ K1 hK
  refine ⟨S, r, k, rfl, hC, C.I, hK _ P nx ⟨_, hM 70 _ rfl⟩ (fun K2 h2 => ⟨iv, h, a, ld, S.n, r, k, rfl, hM, C.n, C.I.rf.1, ?_⟩)⟩
  have e : mKinds a S.n r k = (if (0 ≤ r.toInt ∧ r.toInt < S.n) ∧ 0 ≤ k.toInt ∧ k.toInt ≤ 9 then S.pa r.toInt.toNat k.toInt.toNat else -1) := by
    unfold mKinds
    by_cases hr : (0 ≤ r.toInt ∧ r.toInt < S.n) ∧ 0 ≤ k.toInt ∧ k.toInt ≤ 9
    · rw [if_pos hr, if_pos ⟨hr.1.1, hr.1.2, hr.2⟩, C.pa _ (by omega) _ (by omega)]
    · rw [if_neg hr, if_neg (fun z => hr ⟨⟨z.1, z.2.1⟩, z.2.2⟩)]
  rw [e]
  exact h2 P nx ⟨S, iv, h, a, ld, hC, hM, C, hx⟩
theorem pr_whole (s : Int32) : pL S7_whole S8_whole [.int s] := by
  rintro P nx ⟨S, iv, h, a, ld, hC, hM, C, hx⟩ K1 hK
  refine ⟨S, s, rfl, hC, C.I, hK _ P nx ⟨_, hM 70 _ rfl⟩ (fun K2 h2 => ⟨iv, h, a, ld, s, rfl, hM, ?_⟩)⟩
  have e : (if 0 ≤ s.toInt ∧ s.toInt < 4 then mWhole h a s.toInt.toNat else -1) = (if 0 ≤ s.toInt ∧ s.toInt < 4 then cWhole S.wd S.mo S.h S.hd S.hn s.toInt.toNat else -1) := by
    by_cases hs : 0 ≤ s.toInt ∧ s.toInt < 4
    · rw [if_pos hs, if_pos hs, C.wh (by omega)]
    · rw [if_neg hs, if_neg hs]
  rw [e]
  exact h2 P nx ⟨S, iv, h, a, ld, hC, hM, C, hx⟩
theorem cC.on {S : cS} {iv : Nat → Int32} {h : Nat → Bool} {a : Nat → Nat → Int32} (C : cC S iv h a) {r : Nat} (hr : r < S.n) (x : Int32) : cOn (S.dy r) (S.ct r) (S.sz r) x = if 0 ≤ x.toInt ∧ x.toInt ≤ 363 then a 79 (364 * r + x.toInt.toNat) else -1 := by
  obtain ⟨f1, f2, f3⟩ := C.I.ro r hr
  obtain ⟨c1, c2, c3, c4⟩ := C.ct r hr
  unfold cOn
  by_cases hx : 0 ≤ x.toInt ∧ x.toInt ≤ 363
  · rw [if_pos hx]
    obtain ⟨d, hd, rfl⟩ := nI_rng (n := 364) hx.1 (by omega)
    rw [tN (n := 364) hd (by decide)]
    cases e : cPl (S.dy r) (S.sz r) (nI d) with
    | none =>
      dsimp only
      rw [c4 d hd (cPl_n f3 hd e)]
    | some i =>
      dsimp only
      obtain ⟨h1, h2⟩ := cPl_s f3 hd e
      rw [← (c3 i h1).1, h2]
  · rw [if_neg hx]
    cases e : cPl (S.dy r) (S.sz r) x with
    | none => rfl
    | some i =>
      have h1 := zF_lt (S.sz r) 0 i e
      have h2 := zF_some (S.sz r) 0 i e
      obtain ⟨g1, g2⟩ := f3.2 i (by omega)
      rw [decide_eq_true_eq, g1] at h2
      rw [← h2, nI_toInt (by omega)] at hx
      exact absurd (by omega) hx
theorem pr_look (r w : Int32) : pI S7_look S8_look [.int r, .int w] := by
  rintro P nx ⟨S, iv, h, a, ld, hC, hM, C, hx⟩ K1 hK
  refine ⟨S, r, w, rfl, hC, C.I, hK _ P nx ⟨_, hM 70 _ rfl⟩ (fun K2 h2 => ⟨iv, h, a, ld, S.n, r, w, rfl, hM, C.n, C.I.rf.1, ?_⟩)⟩
  have e : mLook h a S.n r w = cLook S r w := by
    unfold mLook cLook
    by_cases hr : 0 ≤ r.toInt ∧ r.toInt < S.n
    · have hj : r.toInt.toNat < S.n := by omega
      obtain ⟨q1, q2, q3, q4, -⟩ := C.rd _ hj
      rw [if_pos hr, if_pos hr, q1, q2, q3, q4, (C.ct _ hj).1, ← C.zc hj]
      have hw := z32 w
      by_cases hw1 : w.toInt < 100
      · rw [if_neg (by omega)]
        by_cases e0 : w.toInt = 0
        · rw [if_pos e0, if_pos e0]
        · rw [if_neg e0, if_neg e0]
          by_cases e1 : w.toInt = 1
          · rw [if_pos e1, if_pos e1]
          · rw [if_neg e1, if_neg e1]
            by_cases e2 : w.toInt = 2
            · rw [if_pos e2, if_pos e2]
            · rw [if_neg e2, if_neg e2]
              by_cases e3 : w.toInt = 3
              · rw [if_pos e3, if_pos e3]
              · rw [if_neg e3, if_neg e3]
                by_cases e4 : w.toInt = 4
                · rw [if_pos e4, if_pos e4]
                · rw [if_neg e4, if_neg e4]
                  by_cases e5 : w.toInt = 5
                  · rw [if_pos e5, if_pos e5]
                  · rw [if_neg e5, if_neg e5, if_pos hw1]
      · have es : (w - 100).toInt = w.toInt - 100 := i_sub (by rw [show (100 : Int32).toInt = 100 from rfl]; omega) (by rw [show (100 : Int32).toInt = 100 from rfl]; omega)
        rw [if_neg (show ¬ w.toInt = 0 by omega), if_neg (show ¬ w.toInt = 1 by omega), if_neg (show ¬ w.toInt = 2 by omega), if_neg (show ¬ w.toInt = 3 by omega), if_neg (show ¬ w.toInt = 4 by omega), if_neg (show ¬ w.toInt = 5 by omega), if_neg (show ¬ w.toInt = 0 by omega), if_neg (show ¬ w.toInt = 1 by omega), if_neg (show ¬ w.toInt = 2 by omega), if_neg (show ¬ w.toInt = 3 by omega), if_neg (show ¬ w.toInt = 4 by omega), if_neg (show ¬ w.toInt = 5 by omega), if_neg hw1, C.on hj, es]
        by_cases hw2 : w.toInt ≤ 463
        · rw [if_pos (by omega), if_pos (by omega), show (w.toInt - 100).toNat = w.toInt.toNat - 100 by omega]
        · rw [if_neg (by omega), if_neg (by omega)]
    · rw [if_neg hr, if_neg hr]
  rw [e]
  exact h2 P nx ⟨S, iv, h, a, ld, hC, hM, C, hx⟩
theorem pr_how (r : Int32) : pI S7_how S8_how [.int r] := by
  rintro P nx ⟨S, iv, h, a, ld, hC, hM, C, hx⟩ K1 hK
  refine ⟨S, r, rfl, hC, C.I, fun ld2 fo2 fa2 st2 kn2 to2 P1 hC1 hO1 => hK _ P1 nx ⟨_, zM_c hM hO1 70 _ rfl⟩ (fun K2 h2 => ⟨iv, h, a, ld, S.n, mSh S, r, rfl, zM_c hM hO1, C.wf, fun ld3 P' hM' hO => ?_⟩)⟩
  have e : mHow h a S.n (mSh S) ld r = (if 0 ≤ r.toInt ∧ r.toInt < S.n then (if (sKn (cLo S) S.n).testBit r.toInt.toNat then 0 else if (cTo S).1.testBit r.toInt.toNat then 1 else 2) else -1) := by
    unfold mHow
    rw [C.kn, (C.to ld).1]
  rw [e]
  exact h2 P' nx ⟨_, iv, h, a, ld3, hC1.dm C.st.I hO, hM', C.st, hx⟩
theorem pr_load (r : Int32) : pL S7_load S8_load [.int r] := by
  rintro P nx ⟨S, iv, h, a, ld, hC, hM, C, hx⟩ K1 hK
  refine ⟨S, r, rfl, hC, C.I, fun ld2 fo2 fa2 st2 kn2 to2 P1 hC1 hO1 => hK _ P1 nx ⟨_, zM_c hM hO1 70 _ rfl⟩ (fun K2 h2 => ⟨iv, h, a, ld, S.n, mSh S, r, rfl, zM_c hM hO1, C.wf, fun ld3 P' hM' hO => ?_⟩)⟩
  have e : mLoad h a S.n (mSh S) ld r = (if 0 ≤ r.toInt ∧ r.toInt < S.n then (if (cTo S).1.testBit r.toInt.toNat then (cTo S).2 r.toInt.toNat else 0) else 0) := by
    unfold mLoad
    obtain ⟨t1, t2⟩ := C.to ld
    rw [t1]
    by_cases hr : 0 ≤ r.toInt ∧ r.toInt < S.n
    · rw [if_pos hr, if_pos hr]
      by_cases hb : (mW h a S.n (mSh S) ld).1.testBit r.toInt.toNat = true
      · rw [if_pos hb, if_pos hb, t2 _ (by omega) hb]
      · rw [if_neg hb, if_neg hb]
    · rw [if_neg hr, if_neg hr]
  rw [e]
  exact h2 P' nx ⟨_, iv, h, a, ld3, hC1.dm C.st.I hO, hM', C.st, hx⟩
theorem pr_balances (j : Int32) : pI S7_balances S8_balances [.int j] := by
  rintro P nx ⟨S, iv, h, a, ld, hC, hM, C, hx⟩ K1 hK
  refine ⟨S, j, rfl, hC, C.I, fun ld2 fo2 fa2 st2 kn2 to2 P1 hC1 hO1 => hK _ P1 nx ⟨_, zM_c hM hO1 70 _ rfl⟩ (fun K2 h2 => ⟨iv, h, a, ld, S.n, mSh S, j, rfl, zM_c hM hO1, C.wf, fun ld3 P' hM' hO => ?_⟩)⟩
  have e : mBals h a S.n (mSh S) ld j = (if 0 ≤ j.toInt ∧ j.toInt ≤ 7 then zb (decide (zsd (S.A j.toInt.toNat) (cTo S).1 = 0)) else -1) := by
    unfold mBals mBd
    rw [(C.to ld).1]
    by_cases hr : 0 ≤ j.toInt ∧ j.toInt ≤ 7
    · obtain ⟨i, hi, rfl⟩ := nI_rng (n := 8) hr.1 (by omega)
      rw [if_pos hr, if_pos hr, decide_eq_true hr, Bool.true_and, tN (n := 8) hi (by decide), C.A i]
      rfl
    · rw [if_neg hr, if_neg hr]
  rw [e]
  exact h2 P' nx ⟨_, iv, h, a, ld3, hC1.dm C.st.I hO, hM', C.st, hx⟩
theorem pr_balance (j : Int32) : pL S7_balance S8_balance [.int j] := by
  rintro P nx ⟨S, iv, h, a, ld, hC, hM, C, hx⟩ K1 hK
  refine ⟨S, j, rfl, hC, C.I, fun ld2 fo2 fa2 st2 kn2 to2 P1 hC1 hO1 => hK _ P1 nx ⟨_, zM_c hM hO1 70 _ rfl⟩ (fun K2 h2 => ⟨iv, h, a, ld, S.n, mSh S, j, rfl, zM_c hM hO1, C.wf, fun ld3 P' hM' hO => ?_⟩)⟩
  have e : mBal h a S.n (mSh S) ld j = (if 0 ≤ j.toInt ∧ j.toInt ≤ 7 then (if zsd (S.A j.toInt.toNat) (cTo S).1 = 0 then cSu S.tw (cTo S).2 S.A j.toInt.toNat (cTo S).1 S.n else 0) else 0) := by
    unfold mBal mBd
    obtain ⟨t1, t2⟩ := C.to ld
    rw [t1]
    by_cases hr : 0 ≤ j.toInt ∧ j.toInt ≤ 7
    · obtain ⟨i, hi, rfl⟩ := nI_rng (n := 8) hr.1 (by omega)
      rw [if_pos hr, decide_eq_true hr, Bool.true_and, tN (n := 8) hi (by decide), C.A i]
      by_cases hz : zsd (mA a S.n i) (mW h a S.n (mSh S) ld).1 = 0
      · rw [if_pos hz, decide_eq_true (show zsd (mAt a S.n (nI i)) (mW h a S.n (mSh S) ld).1 = 0 from hz), if_pos rfl]
        exact C.ex (fun r hr hb => t2 r hr hb) S.n (Nat.le_refl _)
      · rw [if_neg hz, decide_eq_false (show ¬ zsd (mAt a S.n (nI i)) (mW h a S.n (mSh S) ld).1 = 0 from hz)]
        rfl
    · rw [if_neg hr, decide_eq_false hr, Bool.false_and]
      rfl
  rw [e]
  exact h2 P' nx ⟨_, iv, h, a, ld3, hC1.dm C.st.I hO, hM', C.st, hx⟩
theorem cC.Af {S : cS} {iv : Nat → Int32} {h : Nat → Bool} {a : Nat → Nat → Int32} (C : cC S iv h a) : mA a S.n = S.A := funext (fun j => (C.A j).symm)
theorem cC.u89 {S : cS} {iv : Nat → Int32} {h : Nat → Bool} {a : Nat → Nat → Int32} (C : cC S iv h a) (f : Nat → Int32) : cC S iv h (va_up a 89 f) := ⟨C.I, C.hh, C.wd, C.mo, C.h3, C.hi, C.hc, C.n, C.rd, C.fm0, C.A, C.ct, C.ct0, C.pa, C.pa0, C.t, C.tb, C.cn, C.ru⟩
theorem pr_does (s : Int32) : pI S7_does S8_does [.int s] := by
  rintro P nx ⟨S, iv, h, a, ld, hC, hM, C, hx⟩ K1 hK
  refine ⟨S, s, rfl, hC, C.I, fun ld2 fo2 fa2 st2 kn2 to2 P1 hC1 hO1 => hK _ P1 nx ⟨_, zM_c hM hO1 70 _ rfl⟩ (fun K2 h2 => ⟨iv, h, a, ld, S.n, s, rfl, zM_c hM hO1, C.n, C.I.rf.1, fun f P' hM' hO => ?_⟩)⟩
  have e : mDoes a S.n s = (if 0 ≤ s.toInt ∧ s.toInt < (2 ^ S.n : Nat) then zb (pOk S.A S.n s.toInt.toNat) else -1) := by
    unfold mDoes
    rw [C.Af]
  rw [e]
  exact h2 P' nx ⟨_, iv, h, _, ld, hC1.dm C.st.I hO, hM', (C.u89 f).st, hx⟩
theorem pr_tell (w : Int32) : pI S7_tell S8_tell [.int w] := by
  rintro P nx ⟨S, iv, h, a, ld, hC, hM, C, hx⟩ K1 hK
  refine ⟨S, w, rfl, hC, C.I, fun ld2 fo2 fa2 st2 kn2 to2 P1 hC1 hO1 => hK _ P1 nx ⟨_, zM_c hM hO1 70 _ rfl⟩ (fun K2 h2 => ⟨iv, h, a, ld, S.n, mSh S, w, rfl, zM_c hM hO1, C.wf, fun ld3 P' hM' hO => ?_⟩)⟩
  have e : mTell iv h a S.n (mSh S) ld w = cTell S w := by
    unfold mTell cTell
    rw [C.n, C.h3, C.cn, C.t, C.tell5 ld, C.kn]
  rw [e]
  exact h2 P' nx ⟨_, iv, h, a, ld3, hC1.dm C.st.I hO, hM', C.st, hx⟩
