/-! the class's calls on a road -/
def cShp (S : cS) (j : Nat) (s : Int32) : cS := (cS.mk S.wd S.mo S.h S.hl S.hd S.hn S.rf S.ra S.A S.ld S.fo S.fa S.st S.n S.kn S.to S.fr S.tw S.pr S.pw (upd S.fm j s) (va_up S.sh j s.toInt.toNat) S.sz S.dy S.dl S.ct S.pa S.tb S.tl S.e S.p S.x S.qa S.qb S.kc S.sc S.N S.le S.gr S.cn S.kd S.sd S.lf S.gf S.dn)
theorem cShp_C {S : cS} {j : Nat} {s : Int32} {P : z_H} (hC : zCl S P) (hI : cIv S) (hj : j < S.n) : zCl (cShp S j s) (z_up P (90 + 5 * j) (.inr (3, [.int (S.fr j), .int (S.tw j), .int (S.pr j), .ref (91 + 5 * j), .ref (94 + 5 * j), .int s]))) := by
  have hq := hI.q
  have hO : z_out (fun i => decide (i = 90 + 5 * j)) P (z_up P (90 + 5 * j) (.inr (3, [.int (S.fr j), .int (S.tw j), .int (S.pr j), .ref (91 + 5 * j), .ref (94 + 5 * j), .int s]))) := z_out.rf.up (decide_eq_true rfl)
  refine ⟨by rw [hO 1 (decide_eq_false (by omega))]; exact hC.o, hC.a.keep hO (fun k c q => decide_eq_false (by have := zA_dom q; omega)), hC.n.keep hO (fun k c q => decide_eq_false (by have := zN_dom q; omega)), fun r hr => ?_, hC.t.keep hO (fun k c q => decide_eq_false (by have := zT_dom q; omega)), zRu_out (q := S.qa) hC.u hO (fun j h1 h2 => decide_eq_false (by omega)), zRu_out (q := S.qb) hC.v hO (fun j h1 h2 => decide_eq_false (by omega))⟩
  obtain ⟨g1, ⟨g2, g3, g4⟩, g5⟩ := hC.r r hr
  show _ = some (Sum.inr (3, [.int (S.fr r), .int (S.tw r), .int (S.pr r), .ref (91 + 5 * r), .ref (94 + 5 * r), .int (upd S.fm j s r)]) : z_C) ∧ _
  refine ⟨?_, ⟨by rw [hO _ (decide_eq_false (by omega))]; exact g2, by rw [hO _ (decide_eq_false (by omega))]; exact g3, by rw [hO _ (decide_eq_false (by omega))]; exact g4⟩, by rw [hO _ (decide_eq_false (by omega))]; exact g5⟩
  by_cases e : r = j
  · subst e
    rw [z_up_s]
    simp [upd]
  · rw [hO _ (decide_eq_false (by omega)), g1]
    simp [upd, e]
def S7_shape : z_PT := fun as P nx K => ∃ (S : cS) (r s : Int32), as = [.ref 1, .int r, .int s] ∧ zCl S P ∧ cIv S ∧ (mOkS S.n r s = false → K (some (.int 0)) P nx) ∧ (mOkS S.n r s = true → ∀ P' : z_H, zCl (cShp S r.toInt.toNat s) P' → z_out zDc P P' → K (some (.int 1)) P' nx)
set_option maxRecDepth 4000 in
theorem sp7_shape (l : Launch) : z_Sp l M7_shape rM7_shape S7_shape := by
  refine z_enter (by decide) (fun as P nx K h => ?_) (fun X K as P nx hX hE hin0 hS => ?_)
  · obtain ⟨S, r, s, rfl, -⟩ := h
    exact Nat.le_of_ble_eq_true rfl
  obtain ⟨S, r, s, rfl, hC, hI, k1, k2⟩ := hS
  refine z_pad 1 ?_
  show z_W X 0 [some (.ref 1), some (.int r), some (.int s), none] [] P nx 0 0
  by_cases hr : 0 ≤ r.toInt ∧ r.toInt < S.n
  rotate_left
  · skip
    refine z_aload_n hX d7_shape_0 rfl ?_
    refine z_get hX lf_7_19 (by first | exact hC.o | exact hC.n _ _ rfl | exact hC.a _ _ rfl | exact hC.t _ _ rfl | exact hR1 | exact hR2.1 | exact hR3) rfl d7_shape_1 ?_
    refine z_iload_n hX d7_shape_4 rfl ?_
    refine z_callV1 hX (sp2_at l) lm_7_74 (by first | exact hC.o | exact hC.n _ _ rfl | exact hC.a _ _ rfl | exact hC.t _ _ rfl | exact hR1 | exact hR2.1 | exact hR3) ⟨by decide, by decide, by decide, by decide⟩ (Nat.le_of_ble_eq_true rfl) d7_shape_5 ?_
    refine ⟨S.rf, S.ra, S.ld, S.fo, S.fa, S.st, S.n, S.kn, S.to, r, rfl, hC.n, hI.rf, fun z => absurd z hr, fun _ => ?_⟩
    dsimp only [Option.toList, List.cons_append, List.nil_append]
    refine z_astore_nN hX 3 rfl (by decide) d7_shape_8 ?_
    dsimp only [z_p1, z_p2, z_k, List.headD, List.tail]
    refine z_aload_nN hX d7_shape_9 rfl ?_
    refine z_ifnullN hX 21 d7_shape_10 (by decide) ?_
    refine z_iconst hX (0) d7_shape_21 (by decide) ?_
    refine z_zret hX hE (by decide) (by decide) (by decide) d7_shape_22 ?_
    exact k1 (by unfold mOkS; rw [decide_eq_false hr, Bool.false_and])
  obtain ⟨j, hj, rfl⟩ := nI_rng hr.1 hr.2
  have hj12 : j < 12 := Nat.lt_of_lt_of_le hj hI.rf.1
  obtain ⟨hR1, hR2, hR3⟩ := hC.r j hj
  obtain ⟨r1, r2, r3⟩ := hI.ro j hj
  have hjN := tN (n := 12) hj12 (by decide)
  rw [hjN] at k2
  refine z_aload_n hX d7_shape_0 rfl ?_
  refine z_get hX lf_7_19 (by first | exact hC.o | exact hC.n _ _ rfl | exact hC.a _ _ rfl | exact hC.t _ _ rfl | exact hR1 | exact hR2.1 | exact hR3) rfl d7_shape_1 ?_
  refine z_iload_n hX d7_shape_4 rfl ?_
  refine z_callV1 hX (sp2_at l) lm_7_74 (by first | exact hC.o | exact hC.n _ _ rfl | exact hC.a _ _ rfl | exact hC.t _ _ rfl | exact hR1 | exact hR2.1 | exact hR3) ⟨by decide, by decide, by decide, by decide⟩ (Nat.le_of_ble_eq_true rfl) d7_shape_5 ?_
  refine ⟨S.rf, S.ra, S.ld, S.fo, S.fa, S.st, S.n, S.kn, S.to, nI j, rfl, hC.n, hI.rf, fun _ => ?_, fun z => absurd hr z⟩
  rw [tN (n := 12) hj12 (by decide)]
  dsimp only [Option.toList, List.cons_append, List.nil_append]
  refine z_astore_n hX 3 rfl (by decide) d7_shape_8 ?_
  dsimp only [z_p1, z_p2, z_k, List.headD, List.tail]
  refine z_aload_n hX d7_shape_9 rfl ?_
  refine z_ifnull hX d7_shape_10 ?_
  refine z_iload_n hX d7_shape_13 rfl ?_
  refine z_iconst hX (4) d7_shape_14 (by decide) ?_
  refine z_callS2 hX (sp7_isBelow l) lm_7_49 ⟨by decide, by decide, by decide, by decide⟩ (Nat.le_of_ble_eq_true rfl) d7_shape_15 ?_
  refine ⟨_, _, rfl, ?_⟩
  dsimp only [Option.toList, List.cons_append, List.nil_append]
  refine z_ifb_ne hX 23 d7_shape_18 (by decide) (fun h18 => ?_) (fun h18 => ?_)
  · skip
    rw [decide_eq_true_eq, show (4 : Int32).toInt = 4 from rfl] at h18
    refine z_aload_n hX d7_shape_23 rfl ?_
    refine z_iload_n hX d7_shape_24 rfl ?_
    refine z_puti hX lf_7_78 rfl rfl (by first | exact hC.o | exact hC.n _ _ rfl | exact hC.a _ _ rfl | exact hC.t _ _ rfl | exact hR1 | exact hR2.1 | exact hR3) (Nat.le_of_ble_eq_true rfl) d7_shape_25 ?_
    skip
    refine z_iconst hX (1) d7_shape_28 (by decide) ?_
    refine z_zret hX hE (by decide) (by decide) (by decide) d7_shape_29 ?_
    exact k2 (by unfold mOkS; rw [decide_eq_true h18, decide_eq_true hr]; rfl) _ (cShp_C hC hI hj) (z_out.rf.up (by unfold zDc; rw [zDm_f (by omega)]; rfl))
  · skip
    rw [decide_eq_false_iff_not, show (4 : Int32).toInt = 4 from rfl] at h18
    refine z_iconst hX (0) d7_shape_21 (by decide) ?_
    refine z_zret hX hE (by decide) (by decide) (by decide) d7_shape_22 ?_
    exact k1 (by unfold mOkS; rw [decide_eq_false h18, Bool.and_false])
def cCou (S : cS) (j i : Nat) (d c : Int32) : cS := (cS.mk S.wd S.mo S.h S.hl S.hd S.hn S.rf S.ra S.A S.ld S.fo S.fa S.st S.n S.kn S.to S.fr S.tw S.pr S.pw S.fm S.sh (va_up S.sz j (cSz (S.dy j) (S.sz j) d)) (va_up S.dy j (upd (S.dy j) i d)) (va_up S.dl j (va_up (S.dl j) i d.toInt.toNat)) (va_up S.ct j (upd (S.ct j) i c)) S.pa S.tb S.tl S.e S.p S.x S.qa S.qb S.kc S.sc S.N S.le S.gr S.cn S.kd S.sd S.lf S.gf S.dn)
theorem cCou_C {S : cS} {j i : Nat} {d c : Int32} {P P' : z_H} (hC : zCl S P) (hI : cIv S) (hj : j < S.n) (h : zCt (91 + 5 * j) (cSz (S.dy j) (S.sz j) d) (upd (S.dy j) i d) (upd (S.ct j) i c) P') (hO : z_out (zDq (91 + 5 * j)) P P') : zCl (cCou S j i d c) P' := by
  have hq := hI.q
  refine ⟨by rw [hO 1 (zDq_f (by omega))]; exact hC.o, hC.a.keep hO (fun k c q => zDq_f (by have := zA_dom q; omega)), hC.n.keep hO (fun k c q => zDq_f (by have := zN_dom q; omega)), fun r hr => ?_, hC.t.keep hO (fun k c q => zDq_f (by have := zT_dom q; omega)), zRu_out (q := S.qa) hC.u hO (fun j h1 h2 => zDq_f (by omega)), zRu_out (q := S.qb) hC.v hO (fun j h1 h2 => zDq_f (by omega))⟩
  obtain ⟨g1, ⟨g2, g3, g4⟩, g5⟩ := hC.r r hr
  show _ ∧ zCt (91 + 5 * r) (va_up S.sz j (cSz (S.dy j) (S.sz j) d) r) (va_up S.dy j (upd (S.dy j) i d) r) (va_up S.ct j (upd (S.ct j) i c) r) P' ∧ _
  by_cases e : r = j
  · subst e
    simp only [va_up, if_pos]
    exact ⟨by rw [hO _ (zDq_f (by omega))]; exact g1, h, by rw [hO _ (zDq_f (by omega))]; exact g5⟩
  · simp only [va_up, if_neg e]
    exact ⟨by rw [hO _ (zDq_f (by omega))]; exact g1, ⟨by rw [hO _ (zDq_f (by omega))]; exact g2, by rw [hO _ (zDq_f (by omega))]; exact g3, by rw [hO _ (zDq_f (by omega))]; exact g4⟩, by rw [hO _ (zDq_f (by omega))]; exact g5⟩
def S7_count : z_PT := fun as P nx K => ∃ (S : cS) (r d c : Int32), as = [.ref 1, .int r, .int d, .int c] ∧ zCl S P ∧ cIv S ∧ (mOkC S.n r d c = false → K (some (.int 0)) P nx) ∧ (mOkC S.n r d c = true → cPut (S.dy r.toInt.toNat) (S.sz r.toInt.toNat) d = none → K (some (.int 0)) P nx) ∧ (mOkC S.n r d c = true → ∀ i, cPut (S.dy r.toInt.toNat) (S.sz r.toInt.toNat) d = some i → ∀ P' : z_H, zCl (cCou S r.toInt.toNat i d c) P' → z_out zDc P P' → K (some (.int 1)) P' nx)
set_option maxRecDepth 4000 in
theorem sp7_count (l : Launch) : z_Sp l M7_count rM7_count S7_count := by
  refine z_enter (by decide) (fun as P nx K h => ?_) (fun X K as P nx hX hE hin0 hS => ?_)
  · obtain ⟨S, r, d, c, rfl, -⟩ := h
    exact Nat.le_of_ble_eq_true rfl
  obtain ⟨S, r, d, c, rfl, hC, hI, k1, k2, k3⟩ := hS
  refine z_pad 1 ?_
  show z_W X 0 [some (.ref 1), some (.int r), some (.int d), some (.int c), none] [] P nx 0 0
  by_cases hr : 0 ≤ r.toInt ∧ r.toInt < S.n
  rotate_left
  · skip
    refine z_aload_n hX d7_count_0 rfl ?_
    refine z_get hX lf_7_19 (by first | exact hC.o | exact hC.n _ _ rfl | exact hC.a _ _ rfl | exact hC.t _ _ rfl | exact hR1 | exact hR2.1 | exact hR3) rfl d7_count_1 ?_
    refine z_iload_n hX d7_count_4 rfl ?_
    refine z_callV1 hX (sp2_at l) lm_7_74 (by first | exact hC.o | exact hC.n _ _ rfl | exact hC.a _ _ rfl | exact hC.t _ _ rfl | exact hR1 | exact hR2.1 | exact hR3) ⟨by decide, by decide, by decide, by decide⟩ (Nat.le_of_ble_eq_true rfl) d7_count_5 ?_
    refine ⟨S.rf, S.ra, S.ld, S.fo, S.fa, S.st, S.n, S.kn, S.to, r, rfl, hC.n, hI.rf, fun z => absurd z hr, fun _ => ?_⟩
    dsimp only [Option.toList, List.cons_append, List.nil_append]
    refine z_astoreN hX (by decide) d7_count_8 ?_
    dsimp only [z_p1, z_p2, z_k, List.headD, List.tail]
    refine z_aloadN hX d7_count_10 rfl ?_
    refine z_ifnullN hX 35 d7_count_12 (by decide) ?_
    refine z_iconst hX (0) d7_count_35 (by decide) ?_
    refine z_zret hX hE (by decide) (by decide) (by decide) d7_count_36 ?_
    exact k1 (by unfold mOkC; rw [decide_eq_false hr, Bool.false_and])
  obtain ⟨j, hj, rfl⟩ := nI_rng hr.1 hr.2
  have hj12 : j < 12 := Nat.lt_of_lt_of_le hj hI.rf.1
  obtain ⟨hR1, hR2, hR3⟩ := hC.r j hj
  obtain ⟨r1, r2, r3⟩ := hI.ro j hj
  have hjN := tN (n := 12) hj12 (by decide)
  rw [hjN] at k2 k3
  by_cases hd : (0 ≤ d.toInt ∧ d.toInt ≤ 363) ∧ 0 ≤ c.toInt ∧ c.toInt ≤ 100000
  · have hok : mOkC S.n (nI j) d c = true := by
      unfold mOkC
      rw [decide_eq_true hr, decide_eq_true hd.1, decide_eq_true hd.2]
      rfl
    cases hp : cPut (S.dy j) (S.sz j) d with
    | none =>
      refine z_aload_n hX d7_count_0 rfl ?_
      refine z_get hX lf_7_19 (by first | exact hC.o | exact hC.n _ _ rfl | exact hC.a _ _ rfl | exact hC.t _ _ rfl | exact hR1 | exact hR2.1 | exact hR3) rfl d7_count_1 ?_
      refine z_iload_n hX d7_count_4 rfl ?_
      refine z_callV1 hX (sp2_at l) lm_7_74 (by first | exact hC.o | exact hC.n _ _ rfl | exact hC.a _ _ rfl | exact hC.t _ _ rfl | exact hR1 | exact hR2.1 | exact hR3) ⟨by decide, by decide, by decide, by decide⟩ (Nat.le_of_ble_eq_true rfl) d7_count_5 ?_
      refine ⟨S.rf, S.ra, S.ld, S.fo, S.fa, S.st, S.n, S.kn, S.to, nI j, rfl, hC.n, hI.rf, fun _ => ?_, fun z => absurd hr z⟩
      rw [tN (n := 12) hj12 (by decide)]
      dsimp only [Option.toList, List.cons_append, List.nil_append]
      refine z_astore hX (by decide) d7_count_8 ?_
      dsimp only [z_p1, z_p2, z_k, List.headD, List.tail]
      refine z_aload hX d7_count_10 rfl ?_
      refine z_ifnull hX d7_count_12 ?_
      refine z_iload_n hX d7_count_15 rfl ?_
      refine z_sipush hX (364) d7_count_16 (by decide) ?_
      refine z_callS2 hX (sp7_isBelow l) lm_7_49 ⟨by decide, by decide, by decide, by decide⟩ (Nat.le_of_ble_eq_true rfl) d7_count_19 ?_
      refine ⟨_, _, rfl, ?_⟩
      rw [show (364 : Int32).toInt = 364 from rfl, decide_eq_true (show 0 ≤ d.toInt ∧ d.toInt < 364 by omega)]
      dsimp only [Option.toList, List.cons_append, List.nil_append]
      refine z_ifb_eq hX 35 d7_count_22 (by decide) (fun h22 => ?_) (fun h22 => ?_)
      · cases h22
      refine z_iload_n hX d7_count_25 rfl ?_
      refine z_if_lt hX 35 d7_count_26 (by decide) (fun h26 => ?_) (fun h26 => ?_)
      · rw [i_lt, show (0 : Int32).toInt = 0 from rfl] at h26
        omega
      refine z_iload_n hX d7_count_29 rfl ?_
      refine z_ldc hX (100000) d7_count_30 lk_7_84 ?_
      refine z_icmp_le hX 37 d7_count_32 (by decide) (fun h32 => ?_) (fun h32 => ?_)
      rotate_left
      · rw [i_le, show (100000 : Int32).toInt = 100000 from rfl] at h32
        omega
      refine z_aload hX d7_count_37 rfl ?_
      refine z_get hX lf_7_85 (by first | exact hC.o | exact hC.n _ _ rfl | exact hC.a _ _ rfl | exact hC.t _ _ rfl | exact hR1 | exact hR2.1 | exact hR3) rfl d7_count_39 ?_
      refine z_iload_n hX d7_count_42 rfl ?_
      refine z_iload_n hX d7_count_43 rfl ?_
      refine z_callV2 hX (sp1_put l) lm_7_89 (by first | exact hC.o | exact hC.n _ _ rfl | exact hC.a _ _ rfl | exact hC.t _ _ rfl | exact hR1 | exact hR2.1 | exact hR3) ⟨by decide, by decide, by decide, by decide⟩ (Nat.le_of_ble_eq_true rfl) d7_count_44 ?_
      refine ⟨91 + 5 * j, S.sz j, S.dy j, S.ct j, d, c, rfl, hR2, r3.1, fun i z => (by rw [hp] at z; cases z), fun _ => ?_⟩
      dsimp only [Option.toList, List.cons_append, List.nil_append]
      refine z_zret hX hE (Or.inl rfl) (by decide) (by decide) d7_count_47 ?_
      exact k2 hok hp
    | some i =>
      refine z_aload_n hX d7_count_0 rfl ?_
      refine z_get hX lf_7_19 (by first | exact hC.o | exact hC.n _ _ rfl | exact hC.a _ _ rfl | exact hC.t _ _ rfl | exact hR1 | exact hR2.1 | exact hR3) rfl d7_count_1 ?_
      refine z_iload_n hX d7_count_4 rfl ?_
      refine z_callV1 hX (sp2_at l) lm_7_74 (by first | exact hC.o | exact hC.n _ _ rfl | exact hC.a _ _ rfl | exact hC.t _ _ rfl | exact hR1 | exact hR2.1 | exact hR3) ⟨by decide, by decide, by decide, by decide⟩ (Nat.le_of_ble_eq_true rfl) d7_count_5 ?_
      refine ⟨S.rf, S.ra, S.ld, S.fo, S.fa, S.st, S.n, S.kn, S.to, nI j, rfl, hC.n, hI.rf, fun _ => ?_, fun z => absurd hr z⟩
      rw [tN (n := 12) hj12 (by decide)]
      dsimp only [Option.toList, List.cons_append, List.nil_append]
      refine z_astore hX (by decide) d7_count_8 ?_
      dsimp only [z_p1, z_p2, z_k, List.headD, List.tail]
      refine z_aload hX d7_count_10 rfl ?_
      refine z_ifnull hX d7_count_12 ?_
      refine z_iload_n hX d7_count_15 rfl ?_
      refine z_sipush hX (364) d7_count_16 (by decide) ?_
      refine z_callS2 hX (sp7_isBelow l) lm_7_49 ⟨by decide, by decide, by decide, by decide⟩ (Nat.le_of_ble_eq_true rfl) d7_count_19 ?_
      refine ⟨_, _, rfl, ?_⟩
      rw [show (364 : Int32).toInt = 364 from rfl, decide_eq_true (show 0 ≤ d.toInt ∧ d.toInt < 364 by omega)]
      dsimp only [Option.toList, List.cons_append, List.nil_append]
      refine z_ifb_eq hX 35 d7_count_22 (by decide) (fun h22 => ?_) (fun h22 => ?_)
      · cases h22
      refine z_iload_n hX d7_count_25 rfl ?_
      refine z_if_lt hX 35 d7_count_26 (by decide) (fun h26 => ?_) (fun h26 => ?_)
      · rw [i_lt, show (0 : Int32).toInt = 0 from rfl] at h26
        omega
      refine z_iload_n hX d7_count_29 rfl ?_
      refine z_ldc hX (100000) d7_count_30 lk_7_84 ?_
      refine z_icmp_le hX 37 d7_count_32 (by decide) (fun h32 => ?_) (fun h32 => ?_)
      rotate_left
      · rw [i_le, show (100000 : Int32).toInt = 100000 from rfl] at h32
        omega
      refine z_aload hX d7_count_37 rfl ?_
      refine z_get hX lf_7_85 (by first | exact hC.o | exact hC.n _ _ rfl | exact hC.a _ _ rfl | exact hC.t _ _ rfl | exact hR1 | exact hR2.1 | exact hR3) rfl d7_count_39 ?_
      refine z_iload_n hX d7_count_42 rfl ?_
      refine z_iload_n hX d7_count_43 rfl ?_
      refine z_callV2 hX (sp1_put l) lm_7_89 (by first | exact hC.o | exact hC.n _ _ rfl | exact hC.a _ _ rfl | exact hC.t _ _ rfl | exact hR1 | exact hR2.1 | exact hR3) ⟨by decide, by decide, by decide, by decide⟩ (Nat.le_of_ble_eq_true rfl) d7_count_44 ?_
      refine ⟨91 + 5 * j, S.sz j, S.dy j, S.ct j, d, c, rfl, hR2, r3.1, fun i' z P' g1 g2 => ?_, fun z => (by rw [hp] at z; cases z)⟩
      rw [hp] at z
      cases z
      dsimp only [Option.toList, List.cons_append, List.nil_append]
      refine z_zret hX hE (Or.inr rfl) (by decide) (by decide) d7_count_47 ?_
      exact k3 hok i hp P' (cCou_C hC hI hj g1 g2) (zDc_out g2 (fun j h1 h2 => zDq_f (by omega)))
  · have hok : mOkC S.n (nI j) d c = false := by
      unfold mOkC
      rw [decide_eq_true hr, Bool.true_and]
      simp only [Bool.and_eq_false_iff, decide_eq_false_iff_not]
      omega
    refine z_aload_n hX d7_count_0 rfl ?_
    refine z_get hX lf_7_19 (by first | exact hC.o | exact hC.n _ _ rfl | exact hC.a _ _ rfl | exact hC.t _ _ rfl | exact hR1 | exact hR2.1 | exact hR3) rfl d7_count_1 ?_
    refine z_iload_n hX d7_count_4 rfl ?_
    refine z_callV1 hX (sp2_at l) lm_7_74 (by first | exact hC.o | exact hC.n _ _ rfl | exact hC.a _ _ rfl | exact hC.t _ _ rfl | exact hR1 | exact hR2.1 | exact hR3) ⟨by decide, by decide, by decide, by decide⟩ (Nat.le_of_ble_eq_true rfl) d7_count_5 ?_
    refine ⟨S.rf, S.ra, S.ld, S.fo, S.fa, S.st, S.n, S.kn, S.to, nI j, rfl, hC.n, hI.rf, fun _ => ?_, fun z => absurd hr z⟩
    rw [tN (n := 12) hj12 (by decide)]
    dsimp only [Option.toList, List.cons_append, List.nil_append]
    refine z_astore hX (by decide) d7_count_8 ?_
    dsimp only [z_p1, z_p2, z_k, List.headD, List.tail]
    refine z_aload hX d7_count_10 rfl ?_
    refine z_ifnull hX d7_count_12 ?_
    refine z_iload_n hX d7_count_15 rfl ?_
    refine z_sipush hX (364) d7_count_16 (by decide) ?_
    refine z_callS2 hX (sp7_isBelow l) lm_7_49 ⟨by decide, by decide, by decide, by decide⟩ (Nat.le_of_ble_eq_true rfl) d7_count_19 ?_
    refine ⟨_, _, rfl, ?_⟩
    dsimp only [Option.toList, List.cons_append, List.nil_append]
    refine z_ifb_eq hX 35 d7_count_22 (by decide) (fun h22 => ?_) (fun h22 => ?_)
    · skip
      refine z_iconst hX (0) d7_count_35 (by decide) ?_
      refine z_zret hX hE (by decide) (by decide) (by decide) d7_count_36 ?_
      exact k1 hok
    · skip
      rw [decide_eq_true_eq, show (364 : Int32).toInt = 364 from rfl] at h22
      refine z_iload_n hX d7_count_25 rfl ?_
      refine z_if_lt hX 35 d7_count_26 (by decide) (fun h26 => ?_) (fun h26 => ?_)
      · skip
        refine z_iconst hX (0) d7_count_35 (by decide) ?_
        refine z_zret hX hE (by decide) (by decide) (by decide) d7_count_36 ?_
        exact k1 hok
      · skip
        rw [i_lt, show (0 : Int32).toInt = 0 from rfl] at h26
        refine z_iload_n hX d7_count_29 rfl ?_
        refine z_ldc hX (100000) d7_count_30 lk_7_84 ?_
        refine z_icmp_le hX 37 d7_count_32 (by decide) (fun h32 => ?_) (fun h32 => ?_)
        · rw [i_le, show (100000 : Int32).toInt = 100000 from rfl] at h32
          omega
        refine z_iconst hX (0) d7_count_35 (by decide) ?_
        refine z_zret hX hE (by decide) (by decide) (by decide) d7_count_36 ?_
        exact k1 hok
def cLo (S : cS) (j : Nat) : Int64 := cLoad S.wd S.mo S.h S.hd S.hn (S.dl j) (S.ct j) (S.sz j) (S.sh j)
def S7_year : z_PT := fun as P nx K => ∃ (S : cS) (r : Int32), as = [.ref 1, .int r] ∧ zCl S P ∧ cIv S ∧ (K (some (.long (if 0 ≤ r.toInt ∧ r.toInt < S.n then cLo S r.toInt.toNat else -1))) P nx)
set_option maxRecDepth 4000 in
theorem sp7_year (l : Launch) : z_Sp l M7_year rM7_year S7_year := by
  refine z_enter (by decide) (fun as P nx K h => ?_) (fun X K as P nx hX hE hin0 hS => ?_)
  · obtain ⟨S, r, rfl, -⟩ := h
    exact Nat.le_of_ble_eq_true rfl
  obtain ⟨S, r, rfl, hC, hI, hK⟩ := hS
  refine z_pad 1 ?_
  show z_W X 0 [some (.ref 1), some (.int r), none] [] P nx 0 0
  by_cases hr : 0 ≤ r.toInt ∧ r.toInt < S.n
  rotate_left
  · skip
    rw [if_neg hr] at hK
    refine z_aload_n hX d7_year_0 rfl ?_
    refine z_get hX lf_7_19 (by first | exact hC.o | exact hC.n _ _ rfl | exact hC.a _ _ rfl | exact hC.t _ _ rfl | exact hR1 | exact hR2.1 | exact hR3) rfl d7_year_1 ?_
    refine z_iload_n hX d7_year_4 rfl ?_
    refine z_callV1 hX (sp2_at l) lm_7_74 (by first | exact hC.o | exact hC.n _ _ rfl | exact hC.a _ _ rfl | exact hC.t _ _ rfl | exact hR1 | exact hR2.1 | exact hR3) ⟨by decide, by decide, by decide, by decide⟩ (Nat.le_of_ble_eq_true rfl) d7_year_5 ?_
    refine ⟨S.rf, S.ra, S.ld, S.fo, S.fa, S.st, S.n, S.kn, S.to, r, rfl, hC.n, hI.rf, fun z => absurd z hr, fun _ => ?_⟩
    dsimp only [Option.toList, List.cons_append, List.nil_append]
    refine z_astore_nN hX 2 rfl (by decide) d7_year_8 ?_
    dsimp only [z_p1, z_p2, z_k, List.headD, List.tail]
    refine z_aload_nN hX d7_year_9 rfl ?_
    refine z_ifnonnullN hX d7_year_10 ?_
    refine z_ldc2 hX (-1) d7_year_13 lk_7_94 ?_
    refine z_goto hX 34 d7_year_16 (by decide) ?_
    refine z_lret hX hE (by decide) (by decide) d7_year_34 ?_
    exact hK
  obtain ⟨j, hj, rfl⟩ := nI_rng hr.1 hr.2
  have hj12 : j < 12 := Nat.lt_of_lt_of_le hj hI.rf.1
  obtain ⟨hR1, hR2, hR3⟩ := hC.r j hj
  obtain ⟨r1, r2, r3⟩ := hI.ro j hj
  have hjN := tN (n := 12) hj12 (by decide)
  rw [if_pos hr, hjN] at hK
  refine z_aload_n hX d7_year_0 rfl ?_
  refine z_get hX lf_7_19 (by first | exact hC.o | exact hC.n _ _ rfl | exact hC.a _ _ rfl | exact hC.t _ _ rfl | exact hR1 | exact hR2.1 | exact hR3) rfl d7_year_1 ?_
  refine z_iload_n hX d7_year_4 rfl ?_
  refine z_callV1 hX (sp2_at l) lm_7_74 (by first | exact hC.o | exact hC.n _ _ rfl | exact hC.a _ _ rfl | exact hC.t _ _ rfl | exact hR1 | exact hR2.1 | exact hR3) ⟨by decide, by decide, by decide, by decide⟩ (Nat.le_of_ble_eq_true rfl) d7_year_5 ?_
  refine ⟨S.rf, S.ra, S.ld, S.fo, S.fa, S.st, S.n, S.kn, S.to, nI j, rfl, hC.n, hI.rf, fun _ => ?_, fun z => absurd hr z⟩
  rw [tN (n := 12) hj12 (by decide)]
  dsimp only [Option.toList, List.cons_append, List.nil_append]
  refine z_astore_n hX 2 rfl (by decide) d7_year_8 ?_
  dsimp only [z_p1, z_p2, z_k, List.headD, List.tail]
  refine z_aload_n hX d7_year_9 rfl ?_
  refine z_ifnonnull hX 19 d7_year_10 (by decide) ?_
  refine z_aload_n hX d7_year_19 rfl ?_
  refine z_get hX lf_7_85 (by first | exact hC.o | exact hC.n _ _ rfl | exact hC.a _ _ rfl | exact hC.t _ _ rfl | exact hR1 | exact hR2.1 | exact hR3) rfl d7_year_20 ?_
  refine z_aload_n hX d7_year_23 rfl ?_
  refine z_get hX lf_7_10 (by first | exact hC.o | exact hC.n _ _ rfl | exact hC.a _ _ rfl | exact hC.t _ _ rfl | exact hR1 | exact hR2.1 | exact hR3) rfl d7_year_24 ?_
  refine z_aload_n hX d7_year_27 rfl ?_
  refine z_get hX lf_7_78 (by first | exact hC.o | exact hC.n _ _ rfl | exact hC.a _ _ rfl | exact hC.t _ _ rfl | exact hR1 | exact hR2.1 | exact hR3) rfl d7_year_28 ?_
  rw [r1]
  refine z_callV2 hX (sp1_loadOfAll l) lm_7_96 (by first | exact hC.o | exact hC.n _ _ rfl | exact hC.a _ _ rfl | exact hC.t _ _ rfl | exact hR1 | exact hR2.1 | exact hR3) ⟨by decide, by decide, by decide, by decide⟩ (Nat.le_of_ble_eq_true rfl) d7_year_31 ?_
  refine ⟨91 + 5 * j, S.sz j, S.dy j, S.ct j, S.dl j, S.wd, S.mo, S.h, S.hl, S.hd, S.hn, S.sh j, rfl, hR2, r3, hC.a, r2, hI.hl, ?_⟩
  dsimp only [Option.toList, List.cons_append, List.nil_append]
  refine z_lret hX hE (by decide) (by decide) d7_year_34 ?_
  exact hK
def S7_span : z_PT := fun as P nx K => ∃ (S : cS) (r w : Int32), as = [.ref 1, .int r, .int w] ∧ zCl S P ∧ cIv S ∧ (K (some (.long (if (0 ≤ r.toInt ∧ r.toInt < S.n) ∧ 0 ≤ w.toInt ∧ w.toInt ≤ 1 then cEndF S.wd S.mo S.h (cWhole S.wd S.mo S.h S.hd S.hn (S.sh r.toInt.toNat)) (S.dl r.toInt.toNat) (S.ct r.toInt.toNat) (S.sh r.toInt.toNat) (decide (w = 1)) (S.sz r.toInt.toNat) else -1))) P nx)
set_option maxRecDepth 4000 in
theorem sp7_span (l : Launch) : z_Sp l M7_span rM7_span S7_span := by
  refine z_enter (by decide) (fun as P nx K h => ?_) (fun X K as P nx hX hE hin0 hS => ?_)
  · obtain ⟨S, r, w, rfl, -⟩ := h
    exact Nat.le_of_ble_eq_true rfl
  obtain ⟨S, r, w, rfl, hC, hI, hK⟩ := hS
  refine z_pad 1 ?_
  show z_W X 0 [some (.ref 1), some (.int r), some (.int w), none] [] P nx 0 0
  by_cases hr : 0 ≤ r.toInt ∧ r.toInt < S.n
  rotate_left
  · skip
    rw [if_neg (fun z => hr z.1)] at hK
    refine z_aload_n hX d7_span_0 rfl ?_
    refine z_get hX lf_7_19 (by first | exact hC.o | exact hC.n _ _ rfl | exact hC.a _ _ rfl | exact hC.t _ _ rfl | exact hR1 | exact hR2.1 | exact hR3) rfl d7_span_1 ?_
    refine z_iload_n hX d7_span_4 rfl ?_
    refine z_callV1 hX (sp2_at l) lm_7_74 (by first | exact hC.o | exact hC.n _ _ rfl | exact hC.a _ _ rfl | exact hC.t _ _ rfl | exact hR1 | exact hR2.1 | exact hR3) ⟨by decide, by decide, by decide, by decide⟩ (Nat.le_of_ble_eq_true rfl) d7_span_5 ?_
    refine ⟨S.rf, S.ra, S.ld, S.fo, S.fa, S.st, S.n, S.kn, S.to, r, rfl, hC.n, hI.rf, fun z => absurd z hr, fun _ => ?_⟩
    dsimp only [Option.toList, List.cons_append, List.nil_append]
    refine z_astore_nN hX 3 rfl (by decide) d7_span_8 ?_
    dsimp only [z_p1, z_p2, z_k, List.headD, List.tail]
    refine z_aload_nN hX d7_span_9 rfl ?_
    refine z_ifnullN hX 21 d7_span_10 (by decide) ?_
    refine z_ldc2 hX (-1) d7_span_21 lk_7_94 ?_
    refine z_lret hX hE (by decide) (by decide) d7_span_24 ?_
    exact hK
  obtain ⟨j, hj, rfl⟩ := nI_rng hr.1 hr.2
  have hj12 : j < 12 := Nat.lt_of_lt_of_le hj hI.rf.1
  obtain ⟨hR1, hR2, hR3⟩ := hC.r j hj
  obtain ⟨r1, r2, r3⟩ := hI.ro j hj
  have hjN := tN (n := 12) hj12 (by decide)
  by_cases hw : 0 ≤ w.toInt ∧ w.toInt ≤ 1
  · rw [if_pos ⟨hr, hw⟩, hjN] at hK
    refine z_aload_n hX d7_span_0 rfl ?_
    refine z_get hX lf_7_19 (by first | exact hC.o | exact hC.n _ _ rfl | exact hC.a _ _ rfl | exact hC.t _ _ rfl | exact hR1 | exact hR2.1 | exact hR3) rfl d7_span_1 ?_
    refine z_iload_n hX d7_span_4 rfl ?_
    refine z_callV1 hX (sp2_at l) lm_7_74 (by first | exact hC.o | exact hC.n _ _ rfl | exact hC.a _ _ rfl | exact hC.t _ _ rfl | exact hR1 | exact hR2.1 | exact hR3) ⟨by decide, by decide, by decide, by decide⟩ (Nat.le_of_ble_eq_true rfl) d7_span_5 ?_
    refine ⟨S.rf, S.ra, S.ld, S.fo, S.fa, S.st, S.n, S.kn, S.to, nI j, rfl, hC.n, hI.rf, fun _ => ?_, fun z => absurd hr z⟩
    rw [tN (n := 12) hj12 (by decide)]
    dsimp only [Option.toList, List.cons_append, List.nil_append]
    refine z_astore_n hX 3 rfl (by decide) d7_span_8 ?_
    dsimp only [z_p1, z_p2, z_k, List.headD, List.tail]
    refine z_aload_n hX d7_span_9 rfl ?_
    refine z_ifnull hX d7_span_10 ?_
    refine z_iload_n hX d7_span_13 rfl ?_
    refine z_iconst hX (2) d7_span_14 (by decide) ?_
    refine z_callS2 hX (sp7_isBelow l) lm_7_49 ⟨by decide, by decide, by decide, by decide⟩ (Nat.le_of_ble_eq_true rfl) d7_span_15 ?_
    refine ⟨_, _, rfl, ?_⟩
    rw [show (2 : Int32).toInt = 2 from rfl, decide_eq_true (show 0 ≤ w.toInt ∧ w.toInt < 2 by omega)]
    dsimp only [Option.toList, List.cons_append, List.nil_append]
    refine z_ifb_ne hX 25 d7_span_18 (by decide) (fun h18 => ?_) (fun h18 => ?_)
    rotate_left
    · cases h18
    refine z_aload_n hX d7_span_25 rfl ?_
    refine z_get hX lf_7_85 (by first | exact hC.o | exact hC.n _ _ rfl | exact hC.a _ _ rfl | exact hC.t _ _ rfl | exact hR1 | exact hR2.1 | exact hR3) rfl d7_span_26 ?_
    refine z_aload_n hX d7_span_29 rfl ?_
    refine z_get hX lf_7_10 (by first | exact hC.o | exact hC.n _ _ rfl | exact hC.a _ _ rfl | exact hC.t _ _ rfl | exact hR1 | exact hR2.1 | exact hR3) rfl d7_span_30 ?_
    refine z_aload_n hX d7_span_33 rfl ?_
    refine z_get hX lf_7_78 (by first | exact hC.o | exact hC.n _ _ rfl | exact hC.a _ _ rfl | exact hC.t _ _ rfl | exact hR1 | exact hR2.1 | exact hR3) rfl d7_span_34 ?_
    refine z_iload_n hX d7_span_37 rfl ?_
    refine z_iconst hX (1) d7_span_38 (by decide) ?_
    refine z_icmp_ne hX 46 d7_span_39 (by decide) (fun h39 => ?_) (fun h39 => ?_)
    · skip
      rw [decide_eq_false h39] at hK
      refine z_iconst hX (0) d7_span_46 (by decide) ?_
      rw [r1]
      refine z_callV3 hX (sp1_loadAtEnd l) lm_7_100 (by first | exact hC.o | exact hC.n _ _ rfl | exact hC.a _ _ rfl | exact hC.t _ _ rfl | exact hR1 | exact hR2.1 | exact hR3) ⟨by decide, by decide, by decide, by decide⟩ (Nat.le_of_ble_eq_true rfl) d7_span_47 ?_
      first | refine ⟨91 + 5 * j, S.sz j, S.dy j, S.ct j, S.dl j, S.wd, S.mo, S.h, S.hl, S.hd, S.hn, S.sh j, false, rfl, hR2, r3, hC.a, r2, hI.hl, ?_⟩ | refine ⟨91 + 5 * j, S.sz j, S.dy j, S.ct j, S.dl j, S.wd, S.mo, S.h, S.hl, S.hd, S.hn, S.sh j, true, rfl, hR2, r3, hC.a, r2, hI.hl, ?_⟩
      dsimp only [Option.toList, List.cons_append, List.nil_append]
      refine z_lret hX hE (by decide) (by decide) d7_span_50 ?_
      exact hK
    · skip
      rw [decide_eq_true h39] at hK
      refine z_iconst hX (1) d7_span_42 (by decide) ?_
      refine z_goto hX 47 d7_span_43 (by decide) ?_
      rw [r1]
      refine z_callV3 hX (sp1_loadAtEnd l) lm_7_100 (by first | exact hC.o | exact hC.n _ _ rfl | exact hC.a _ _ rfl | exact hC.t _ _ rfl | exact hR1 | exact hR2.1 | exact hR3) ⟨by decide, by decide, by decide, by decide⟩ (Nat.le_of_ble_eq_true rfl) d7_span_47 ?_
      first | refine ⟨91 + 5 * j, S.sz j, S.dy j, S.ct j, S.dl j, S.wd, S.mo, S.h, S.hl, S.hd, S.hn, S.sh j, false, rfl, hR2, r3, hC.a, r2, hI.hl, ?_⟩ | refine ⟨91 + 5 * j, S.sz j, S.dy j, S.ct j, S.dl j, S.wd, S.mo, S.h, S.hl, S.hd, S.hn, S.sh j, true, rfl, hR2, r3, hC.a, r2, hI.hl, ?_⟩
      dsimp only [Option.toList, List.cons_append, List.nil_append]
      refine z_lret hX hE (by decide) (by decide) d7_span_50 ?_
      exact hK
  · rw [if_neg (fun z => hw z.2)] at hK
    refine z_aload_n hX d7_span_0 rfl ?_
    refine z_get hX lf_7_19 (by first | exact hC.o | exact hC.n _ _ rfl | exact hC.a _ _ rfl | exact hC.t _ _ rfl | exact hR1 | exact hR2.1 | exact hR3) rfl d7_span_1 ?_
    refine z_iload_n hX d7_span_4 rfl ?_
    refine z_callV1 hX (sp2_at l) lm_7_74 (by first | exact hC.o | exact hC.n _ _ rfl | exact hC.a _ _ rfl | exact hC.t _ _ rfl | exact hR1 | exact hR2.1 | exact hR3) ⟨by decide, by decide, by decide, by decide⟩ (Nat.le_of_ble_eq_true rfl) d7_span_5 ?_
    refine ⟨S.rf, S.ra, S.ld, S.fo, S.fa, S.st, S.n, S.kn, S.to, nI j, rfl, hC.n, hI.rf, fun _ => ?_, fun z => absurd hr z⟩
    rw [tN (n := 12) hj12 (by decide)]
    dsimp only [Option.toList, List.cons_append, List.nil_append]
    refine z_astore_n hX 3 rfl (by decide) d7_span_8 ?_
    dsimp only [z_p1, z_p2, z_k, List.headD, List.tail]
    refine z_aload_n hX d7_span_9 rfl ?_
    refine z_ifnull hX d7_span_10 ?_
    refine z_iload_n hX d7_span_13 rfl ?_
    refine z_iconst hX (2) d7_span_14 (by decide) ?_
    refine z_callS2 hX (sp7_isBelow l) lm_7_49 ⟨by decide, by decide, by decide, by decide⟩ (Nat.le_of_ble_eq_true rfl) d7_span_15 ?_
    refine ⟨_, _, rfl, ?_⟩
    rw [show (2 : Int32).toInt = 2 from rfl, decide_eq_false (show ¬ (0 ≤ w.toInt ∧ w.toInt < 2) by omega)]
    dsimp only [Option.toList, List.cons_append, List.nil_append]
    refine z_ifb_ne hX 25 d7_span_18 (by decide) (fun h18 => ?_) (fun h18 => ?_)
    · cases h18
    refine z_ldc2 hX (-1) d7_span_21 lk_7_94 ?_
    refine z_lret hX hE (by decide) (by decide) d7_span_24 ?_
    exact hK
def S7_best : z_PT := fun as P nx K => ∃ (S : cS) (r : Int32), as = [.ref 1, .int r] ∧ zCl S P ∧ cIv S ∧ (K (some (.int (if 0 ≤ r.toInt ∧ r.toInt < S.n then cBest S.wd S.mo S.h (S.dl r.toInt.toNat) (S.ct r.toInt.toNat) (S.sz r.toInt.toNat) else -1))) P nx)
set_option maxRecDepth 4000 in
theorem sp7_best (l : Launch) : z_Sp l M7_best rM7_best S7_best := by
  refine z_enter (by decide) (fun as P nx K h => ?_) (fun X K as P nx hX hE hin0 hS => ?_)
  · obtain ⟨S, r, rfl, -⟩ := h
    exact Nat.le_of_ble_eq_true rfl
  obtain ⟨S, r, rfl, hC, hI, hK⟩ := hS
  refine z_pad 1 ?_
  show z_W X 0 [some (.ref 1), some (.int r), none] [] P nx 0 0
  by_cases hr : 0 ≤ r.toInt ∧ r.toInt < S.n
  rotate_left
  · skip
    rw [if_neg hr] at hK
    refine z_aload_n hX d7_best_0 rfl ?_
    refine z_get hX lf_7_19 (by first | exact hC.o | exact hC.n _ _ rfl | exact hC.a _ _ rfl | exact hC.t _ _ rfl | exact hR1 | exact hR2.1 | exact hR3) rfl d7_best_1 ?_
    refine z_iload_n hX d7_best_4 rfl ?_
    refine z_callV1 hX (sp2_at l) lm_7_74 (by first | exact hC.o | exact hC.n _ _ rfl | exact hC.a _ _ rfl | exact hC.t _ _ rfl | exact hR1 | exact hR2.1 | exact hR3) ⟨by decide, by decide, by decide, by decide⟩ (Nat.le_of_ble_eq_true rfl) d7_best_5 ?_
    refine ⟨S.rf, S.ra, S.ld, S.fo, S.fa, S.st, S.n, S.kn, S.to, r, rfl, hC.n, hI.rf, fun z => absurd z hr, fun _ => ?_⟩
    dsimp only [Option.toList, List.cons_append, List.nil_append]
    refine z_astore_nN hX 2 rfl (by decide) d7_best_8 ?_
    dsimp only [z_p1, z_p2, z_k, List.headD, List.tail]
    refine z_aload_nN hX d7_best_9 rfl ?_
    refine z_ifnonnullN hX d7_best_10 ?_
    refine z_iconst hX (-1) d7_best_13 (by decide) ?_
    refine z_goto hX 28 d7_best_14 (by decide) ?_
    refine z_iret hX hE (by decide) (by decide) d7_best_28 ?_
    exact hK
  obtain ⟨j, hj, rfl⟩ := nI_rng hr.1 hr.2
  have hj12 : j < 12 := Nat.lt_of_lt_of_le hj hI.rf.1
  obtain ⟨hR1, hR2, hR3⟩ := hC.r j hj
  obtain ⟨r1, r2, r3⟩ := hI.ro j hj
  have hjN := tN (n := 12) hj12 (by decide)
  rw [if_pos hr, hjN] at hK
  refine z_aload_n hX d7_best_0 rfl ?_
  refine z_get hX lf_7_19 (by first | exact hC.o | exact hC.n _ _ rfl | exact hC.a _ _ rfl | exact hC.t _ _ rfl | exact hR1 | exact hR2.1 | exact hR3) rfl d7_best_1 ?_
  refine z_iload_n hX d7_best_4 rfl ?_
  refine z_callV1 hX (sp2_at l) lm_7_74 (by first | exact hC.o | exact hC.n _ _ rfl | exact hC.a _ _ rfl | exact hC.t _ _ rfl | exact hR1 | exact hR2.1 | exact hR3) ⟨by decide, by decide, by decide, by decide⟩ (Nat.le_of_ble_eq_true rfl) d7_best_5 ?_
  refine ⟨S.rf, S.ra, S.ld, S.fo, S.fa, S.st, S.n, S.kn, S.to, nI j, rfl, hC.n, hI.rf, fun _ => ?_, fun z => absurd hr z⟩
  rw [tN (n := 12) hj12 (by decide)]
  dsimp only [Option.toList, List.cons_append, List.nil_append]
  refine z_astore_n hX 2 rfl (by decide) d7_best_8 ?_
  dsimp only [z_p1, z_p2, z_k, List.headD, List.tail]
  refine z_aload_n hX d7_best_9 rfl ?_
  refine z_ifnonnull hX 17 d7_best_10 (by decide) ?_
  refine z_aload_n hX d7_best_17 rfl ?_
  refine z_get hX lf_7_85 (by first | exact hC.o | exact hC.n _ _ rfl | exact hC.a _ _ rfl | exact hC.t _ _ rfl | exact hR1 | exact hR2.1 | exact hR3) rfl d7_best_18 ?_
  refine z_aload_n hX d7_best_21 rfl ?_
  refine z_get hX lf_7_10 (by first | exact hC.o | exact hC.n _ _ rfl | exact hC.a _ _ rfl | exact hC.t _ _ rfl | exact hR1 | exact hR2.1 | exact hR3) rfl d7_best_22 ?_
  refine z_callV1 hX (sp1_bestShape l) lm_7_104 (by first | exact hC.o | exact hC.n _ _ rfl | exact hC.a _ _ rfl | exact hC.t _ _ rfl | exact hR1 | exact hR2.1 | exact hR3) ⟨by decide, by decide, by decide, by decide⟩ (Nat.le_of_ble_eq_true rfl) d7_best_25 ?_
  refine ⟨91 + 5 * j, S.sz j, S.dy j, S.ct j, S.dl j, S.wd, S.mo, S.h, S.hl, S.hn, rfl, hR2, r3, hC.a, ?_⟩
  dsimp only [Option.toList, List.cons_append, List.nil_append]
  refine z_iret hX hE (by decide) (by decide) d7_best_28 ?_
  exact hK
def S7_kinds : z_PT := fun as P nx K => ∃ (S : cS) (r k : Int32), as = [.ref 1, .int r, .int k] ∧ zCl S P ∧ cIv S ∧ (K (some (.int (if (0 ≤ r.toInt ∧ r.toInt < S.n) ∧ 0 ≤ k.toInt ∧ k.toInt ≤ 9 then S.pa r.toInt.toNat k.toInt.toNat else -1))) P nx)
set_option maxRecDepth 4000 in
theorem sp7_kinds (l : Launch) : z_Sp l M7_kinds rM7_kinds S7_kinds := by
  refine z_enter (by decide) (fun as P nx K h => ?_) (fun X K as P nx hX hE hin0 hS => ?_)
  · obtain ⟨S, r, k, rfl, -⟩ := h
    exact Nat.le_of_ble_eq_true rfl
  obtain ⟨S, r, k, rfl, hC, hI, hK⟩ := hS
  refine z_pad 1 ?_
  show z_W X 0 [some (.ref 1), some (.int r), some (.int k), none] [] P nx 0 0
  by_cases hr : 0 ≤ r.toInt ∧ r.toInt < S.n
  rotate_left
  · skip
    rw [if_neg (fun z => hr z.1)] at hK
    refine z_aload_n hX d7_kinds_0 rfl ?_
    refine z_get hX lf_7_19 (by first | exact hC.o | exact hC.n _ _ rfl | exact hC.a _ _ rfl | exact hC.t _ _ rfl | exact hR1 | exact hR2.1 | exact hR3) rfl d7_kinds_1 ?_
    refine z_iload_n hX d7_kinds_4 rfl ?_
    refine z_callV1 hX (sp2_at l) lm_7_74 (by first | exact hC.o | exact hC.n _ _ rfl | exact hC.a _ _ rfl | exact hC.t _ _ rfl | exact hR1 | exact hR2.1 | exact hR3) ⟨by decide, by decide, by decide, by decide⟩ (Nat.le_of_ble_eq_true rfl) d7_kinds_5 ?_
    refine ⟨S.rf, S.ra, S.ld, S.fo, S.fa, S.st, S.n, S.kn, S.to, r, rfl, hC.n, hI.rf, fun z => absurd z hr, fun _ => ?_⟩
    dsimp only [Option.toList, List.cons_append, List.nil_append]
    refine z_astore_nN hX 3 rfl (by decide) d7_kinds_8 ?_
    dsimp only [z_p1, z_p2, z_k, List.headD, List.tail]
    refine z_aload_nN hX d7_kinds_9 rfl ?_
    refine z_ifnullN hX 22 d7_kinds_10 (by decide) ?_
    refine z_iconst hX (-1) d7_kinds_22 (by decide) ?_
    refine z_iret hX hE (by decide) (by decide) d7_kinds_23 ?_
    exact hK
  obtain ⟨j, hj, rfl⟩ := nI_rng hr.1 hr.2
  have hj12 : j < 12 := Nat.lt_of_lt_of_le hj hI.rf.1
  obtain ⟨hR1, hR2, hR3⟩ := hC.r j hj
  obtain ⟨r1, r2, r3⟩ := hI.ro j hj
  have hjN := tN (n := 12) hj12 (by decide)
  by_cases hw : 0 ≤ k.toInt ∧ k.toInt ≤ 9
  · obtain ⟨k', hk', rfl⟩ := nI_rng (n := 10) hw.1 (by omega)
    rw [if_pos ⟨hr, hw⟩, hjN, tN (n := 10) hk' (by decide)] at hK
    refine z_aload_n hX d7_kinds_0 rfl ?_
    refine z_get hX lf_7_19 (by first | exact hC.o | exact hC.n _ _ rfl | exact hC.a _ _ rfl | exact hC.t _ _ rfl | exact hR1 | exact hR2.1 | exact hR3) rfl d7_kinds_1 ?_
    refine z_iload_n hX d7_kinds_4 rfl ?_
    refine z_callV1 hX (sp2_at l) lm_7_74 (by first | exact hC.o | exact hC.n _ _ rfl | exact hC.a _ _ rfl | exact hC.t _ _ rfl | exact hR1 | exact hR2.1 | exact hR3) ⟨by decide, by decide, by decide, by decide⟩ (Nat.le_of_ble_eq_true rfl) d7_kinds_5 ?_
    refine ⟨S.rf, S.ra, S.ld, S.fo, S.fa, S.st, S.n, S.kn, S.to, nI j, rfl, hC.n, hI.rf, fun _ => ?_, fun z => absurd hr z⟩
    rw [tN (n := 12) hj12 (by decide)]
    dsimp only [Option.toList, List.cons_append, List.nil_append]
    refine z_astore_n hX 3 rfl (by decide) d7_kinds_8 ?_
    dsimp only [z_p1, z_p2, z_k, List.headD, List.tail]
    refine z_aload_n hX d7_kinds_9 rfl ?_
    refine z_ifnull hX d7_kinds_10 ?_
    refine z_iload_n hX d7_kinds_13 rfl ?_
    refine z_bipush hX (10) d7_kinds_14 (by decide) ?_
    refine z_callS2 hX (sp7_isBelow l) lm_7_49 ⟨by decide, by decide, by decide, by decide⟩ (Nat.le_of_ble_eq_true rfl) d7_kinds_16 ?_
    refine ⟨_, _, rfl, ?_⟩
    rw [show (10 : Int32).toInt = 10 from rfl, decide_eq_true (show 0 ≤ (nI k').toInt ∧ (nI k').toInt < 10 by omega)]
    dsimp only [Option.toList, List.cons_append, List.nil_append]
    refine z_ifb_ne hX 24 d7_kinds_19 (by decide) (fun h19 => ?_) (fun h19 => ?_)
    rotate_left
    · cases h19
    refine z_aload_n hX d7_kinds_24 rfl ?_
    refine z_get hX lf_7_152 (by first | exact hC.o | exact hC.n _ _ rfl | exact hC.a _ _ rfl | exact hC.t _ _ rfl | exact hR1 | exact hR2.1 | exact hR3) rfl d7_kinds_25 ?_
    refine z_iload_n hX d7_kinds_28 rfl ?_
    refine z_iald hX (by first | exact hC.o | exact hC.n _ _ rfl | exact hC.a _ _ rfl | exact hC.t _ _ rfl | exact hR1 | exact hR2.1 | exact hR3) (vp_in_nI hk' (by decide)) d7_kinds_29 ?_
    rw [nI_clamp (show k' < 2 ^ 31 by omega)]
    refine z_iret hX hE (by decide) (by decide) d7_kinds_30 ?_
    exact hK
  · rw [if_neg (fun z => hw z.2)] at hK
    refine z_aload_n hX d7_kinds_0 rfl ?_
    refine z_get hX lf_7_19 (by first | exact hC.o | exact hC.n _ _ rfl | exact hC.a _ _ rfl | exact hC.t _ _ rfl | exact hR1 | exact hR2.1 | exact hR3) rfl d7_kinds_1 ?_
    refine z_iload_n hX d7_kinds_4 rfl ?_
    refine z_callV1 hX (sp2_at l) lm_7_74 (by first | exact hC.o | exact hC.n _ _ rfl | exact hC.a _ _ rfl | exact hC.t _ _ rfl | exact hR1 | exact hR2.1 | exact hR3) ⟨by decide, by decide, by decide, by decide⟩ (Nat.le_of_ble_eq_true rfl) d7_kinds_5 ?_
    refine ⟨S.rf, S.ra, S.ld, S.fo, S.fa, S.st, S.n, S.kn, S.to, nI j, rfl, hC.n, hI.rf, fun _ => ?_, fun z => absurd hr z⟩
    rw [tN (n := 12) hj12 (by decide)]
    dsimp only [Option.toList, List.cons_append, List.nil_append]
    refine z_astore_n hX 3 rfl (by decide) d7_kinds_8 ?_
    dsimp only [z_p1, z_p2, z_k, List.headD, List.tail]
    refine z_aload_n hX d7_kinds_9 rfl ?_
    refine z_ifnull hX d7_kinds_10 ?_
    refine z_iload_n hX d7_kinds_13 rfl ?_
    refine z_bipush hX (10) d7_kinds_14 (by decide) ?_
    refine z_callS2 hX (sp7_isBelow l) lm_7_49 ⟨by decide, by decide, by decide, by decide⟩ (Nat.le_of_ble_eq_true rfl) d7_kinds_16 ?_
    refine ⟨_, _, rfl, ?_⟩
    rw [show (10 : Int32).toInt = 10 from rfl, decide_eq_false (show ¬ (0 ≤ k.toInt ∧ k.toInt < 10) by omega)]
    dsimp only [Option.toList, List.cons_append, List.nil_append]
    refine z_ifb_ne hX 24 d7_kinds_19 (by decide) (fun h19 => ?_) (fun h19 => ?_)
    · cases h19
    refine z_iconst hX (-1) d7_kinds_22 (by decide) ?_
    refine z_iret hX hE (by decide) (by decide) d7_kinds_23 ?_
    exact hK
def S7_whole : z_PT := fun as P nx K => ∃ (S : cS) (s : Int32), as = [.ref 1, .int s] ∧ zCl S P ∧ cIv S ∧ (K (some (.long (if 0 ≤ s.toInt ∧ s.toInt < 4 then cWhole S.wd S.mo S.h S.hd S.hn s.toInt.toNat else -1))) P nx)
set_option maxRecDepth 4000 in
theorem sp7_whole (l : Launch) : z_Sp l M7_whole rM7_whole S7_whole := by
  refine z_enter (by decide) (fun as P nx K h => ?_) (fun X K as P nx hX hE hin0 hS => ?_)
  · obtain ⟨S, s, rfl, -⟩ := h
    exact Nat.le_of_ble_eq_true rfl
  obtain ⟨S, s, rfl, hC, hI, hK⟩ := hS
  show z_W X 0 [some (.ref 1), some (.int s)] [] P nx 0 0
  by_cases hs : 0 ≤ s.toInt ∧ s.toInt < 4
  · obtain ⟨j, hj, rfl⟩ := nI_rng (n := 4) hs.1 hs.2
    rw [if_pos hs, tN (n := 4) hj (by decide)] at hK
    refine z_iload_n hX d7_whole_0 rfl ?_
    refine z_iconst hX (4) d7_whole_1 (by decide) ?_
    refine z_callS2 hX (sp7_isBelow l) lm_7_49 ⟨by decide, by decide, by decide, by decide⟩ (Nat.le_of_ble_eq_true rfl) d7_whole_2 ?_
    refine ⟨_, _, rfl, ?_⟩
    rw [show (4 : Int32).toInt = 4 from rfl, decide_eq_true hs]
    dsimp only [Option.toList, List.cons_append, List.nil_append]
    refine z_ifb_eq hX 19 d7_whole_5 (by decide) (fun h5 => ?_) (fun h5 => ?_)
    · cases h5
    refine z_aload_n hX d7_whole_8 rfl ?_
    refine z_get hX lf_7_10 (by first | exact hC.o | exact hC.n _ _ rfl | exact hC.a _ _ rfl | exact hC.t _ _ rfl | exact hR1 | exact hR2.1 | exact hR3) rfl d7_whole_9 ?_
    refine z_iload_n hX d7_whole_12 rfl ?_
    refine z_callV1 hX (sp0_wholeOf l) lm_7_160 (by first | exact hC.o | exact hC.n _ _ rfl | exact hC.a _ _ rfl | exact hC.t _ _ rfl | exact hR1 | exact hR2.1 | exact hR3) ⟨by decide, by decide, by decide, by decide⟩ (Nat.le_of_ble_eq_true rfl) d7_whole_13 ?_
    refine ⟨S.wd, S.mo, S.h, S.hl, S.hd, S.hn, j, rfl, hC.a, hj, hI.hl, ?_⟩
    dsimp only [Option.toList, List.cons_append, List.nil_append]
    refine z_goto hX 22 d7_whole_16 (by decide) ?_
    refine z_lret hX hE (by decide) (by decide) d7_whole_22 ?_
    exact hK
  · rw [if_neg hs] at hK
    refine z_iload_n hX d7_whole_0 rfl ?_
    refine z_iconst hX (4) d7_whole_1 (by decide) ?_
    refine z_callS2 hX (sp7_isBelow l) lm_7_49 ⟨by decide, by decide, by decide, by decide⟩ (Nat.le_of_ble_eq_true rfl) d7_whole_2 ?_
    refine ⟨_, _, rfl, ?_⟩
    rw [show (4 : Int32).toInt = 4 from rfl, decide_eq_false hs]
    dsimp only [Option.toList, List.cons_append, List.nil_append]
    refine z_ifb_eq hX 19 d7_whole_5 (by decide) (fun h5 => ?_) (fun h5 => ?_)
    rotate_left
    · cases h5
    refine z_ldc2 hX (-1) d7_whole_19 lk_7_94 ?_
    refine z_lret hX hE (by decide) (by decide) d7_whole_22 ?_
    exact hK
def cLook (S : cS) (r w : Int32) : Int32 :=
  if 0 ≤ r.toInt ∧ r.toInt < S.n then
    (if w.toInt = 0 then S.fr r.toInt.toNat else if w.toInt = 1 then S.tw r.toInt.toNat else if w.toInt = 2 then S.pr r.toInt.toNat else if w.toInt = 3 then S.fm r.toInt.toNat else if w.toInt = 4 then nI (S.sz r.toInt.toNat) else if w.toInt = 5 then nI (zC (cU S.h (S.dl r.toInt.toNat)) (S.sz r.toInt.toNat)) else if w.toInt < 100 then -1 else cOn (S.dy r.toInt.toNat) (S.ct r.toInt.toNat) (S.sz r.toInt.toNat) (w - 100))
  else -1
def S7_look : z_PT := fun as P nx K => ∃ (S : cS) (r w : Int32), as = [.ref 1, .int r, .int w] ∧ zCl S P ∧ cIv S ∧ (K (some (.int (cLook S r w))) P nx)
set_option maxRecDepth 4000 in
theorem sp7_look (l : Launch) : z_Sp l M7_look rM7_look S7_look := by
  refine z_enter (by decide) (fun as P nx K h => ?_) (fun X K as P nx hX hE hin0 hS => ?_)
  · obtain ⟨S, r, w, rfl, -⟩ := h
    exact Nat.le_of_ble_eq_true rfl
  obtain ⟨S, r, w, rfl, hC, hI, hK⟩ := hS
  refine z_pad 1 ?_
  show z_W X 0 [some (.ref 1), some (.int r), some (.int w), none] [] P nx 0 0
  unfold cLook at hK
  by_cases hr : 0 ≤ r.toInt ∧ r.toInt < S.n
  rotate_left
  · skip
    rw [if_neg hr] at hK
    refine z_aload_n hX d7_look_0 rfl ?_
    refine z_get hX lf_7_19 (by first | exact hC.o | exact hC.n _ _ rfl | exact hC.a _ _ rfl | exact hC.t _ _ rfl | exact hR1 | exact hR2.1 | exact hR3) rfl d7_look_1 ?_
    refine z_iload_n hX d7_look_4 rfl ?_
    refine z_callV1 hX (sp2_at l) lm_7_74 (by first | exact hC.o | exact hC.n _ _ rfl | exact hC.a _ _ rfl | exact hC.t _ _ rfl | exact hR1 | exact hR2.1 | exact hR3) ⟨by decide, by decide, by decide, by decide⟩ (Nat.le_of_ble_eq_true rfl) d7_look_5 ?_
    refine ⟨S.rf, S.ra, S.ld, S.fo, S.fa, S.st, S.n, S.kn, S.to, r, rfl, hC.n, hI.rf, fun z => absurd z hr, fun _ => ?_⟩
    dsimp only [Option.toList, List.cons_append, List.nil_append]
    refine z_astore_nN hX 3 rfl (by decide) d7_look_8 ?_
    dsimp only [z_p1, z_p2, z_k, List.headD, List.tail]
    refine z_aload_nN hX d7_look_9 rfl ?_
    refine z_ifnonnullN hX d7_look_10 ?_
    refine z_iconst hX (-1) d7_look_13 (by decide) ?_
    refine z_iret hX hE (by decide) (by decide) d7_look_14 ?_
    exact hK
  obtain ⟨j, hj, rfl⟩ := nI_rng hr.1 hr.2
  have hj12 : j < 12 := Nat.lt_of_lt_of_le hj hI.rf.1
  obtain ⟨hR1, hR2, hR3⟩ := hC.r j hj
  obtain ⟨r1, r2, r3⟩ := hI.ro j hj
  have hjN := tN (n := 12) hj12 (by decide)
  rw [if_pos hr, hjN] at hK
  refine z_aload_n hX d7_look_0 rfl ?_
  refine z_get hX lf_7_19 (by first | exact hC.o | exact hC.n _ _ rfl | exact hC.a _ _ rfl | exact hC.t _ _ rfl | exact hR1 | exact hR2.1 | exact hR3) rfl d7_look_1 ?_
  refine z_iload_n hX d7_look_4 rfl ?_
  refine z_callV1 hX (sp2_at l) lm_7_74 (by first | exact hC.o | exact hC.n _ _ rfl | exact hC.a _ _ rfl | exact hC.t _ _ rfl | exact hR1 | exact hR2.1 | exact hR3) ⟨by decide, by decide, by decide, by decide⟩ (Nat.le_of_ble_eq_true rfl) d7_look_5 ?_
  refine ⟨S.rf, S.ra, S.ld, S.fo, S.fa, S.st, S.n, S.kn, S.to, nI j, rfl, hC.n, hI.rf, fun _ => ?_, fun z => absurd hr z⟩
  rw [tN (n := 12) hj12 (by decide)]
  dsimp only [Option.toList, List.cons_append, List.nil_append]
  refine z_astore_n hX 3 rfl (by decide) d7_look_8 ?_
  dsimp only [z_p1, z_p2, z_k, List.headD, List.tail]
  refine z_aload_n hX d7_look_9 rfl ?_
  refine z_ifnonnull hX 15 d7_look_10 (by decide) ?_
  refine z_iload_n hX d7_look_15 rfl ?_
  rcases (show w.toInt = 0 ∨ w.toInt = 1 ∨ w.toInt = 2 ∨ w.toInt = 3 ∨ w.toInt = 4 ∨ w.toInt = 5 ∨ (w.toInt < 0 ∨ 5 < w.toInt) by omega) with e | e | e | e | e | e | e
  · refine z_tabIn hX 56 d7_look_16 (by omega) (by omega) (by rw [e]; rfl) (by decide) ?_
    rw [if_pos e] at hK
    refine z_aload_n hX d7_look_56 rfl ?_
    refine z_get hX lf_7_163 (by first | exact hC.o | exact hC.n _ _ rfl | exact hC.a _ _ rfl | exact hC.t _ _ rfl | exact hR1 | exact hR2.1 | exact hR3) rfl d7_look_57 ?_
    refine z_iret hX hE (by decide) (by decide) d7_look_60 ?_
    exact hK
  · refine z_tabIn hX 61 d7_look_16 (by omega) (by omega) (by rw [e]; rfl) (by decide) ?_
    rw [if_neg (by omega), if_pos e] at hK
    refine z_aload_n hX d7_look_61 rfl ?_
    refine z_get hX lf_7_166 (by first | exact hC.o | exact hC.n _ _ rfl | exact hC.a _ _ rfl | exact hC.t _ _ rfl | exact hR1 | exact hR2.1 | exact hR3) rfl d7_look_62 ?_
    refine z_iret hX hE (by decide) (by decide) d7_look_65 ?_
    exact hK
  · refine z_tabIn hX 66 d7_look_16 (by omega) (by omega) (by rw [e]; rfl) (by decide) ?_
    rw [if_neg (by omega), if_neg (by omega), if_pos e] at hK
    refine z_aload_n hX d7_look_66 rfl ?_
    refine z_get hX lf_7_169 (by first | exact hC.o | exact hC.n _ _ rfl | exact hC.a _ _ rfl | exact hC.t _ _ rfl | exact hR1 | exact hR2.1 | exact hR3) rfl d7_look_67 ?_
    refine z_iret hX hE (by decide) (by decide) d7_look_70 ?_
    exact hK
  · refine z_tabIn hX 71 d7_look_16 (by omega) (by omega) (by rw [e]; rfl) (by decide) ?_
    rw [if_neg (by omega), if_neg (by omega), if_neg (by omega), if_pos e] at hK
    refine z_aload_n hX d7_look_71 rfl ?_
    refine z_get hX lf_7_78 (by first | exact hC.o | exact hC.n _ _ rfl | exact hC.a _ _ rfl | exact hC.t _ _ rfl | exact hR1 | exact hR2.1 | exact hR3) rfl d7_look_72 ?_
    refine z_iret hX hE (by decide) (by decide) d7_look_75 ?_
    exact hK
  · refine z_tabIn hX 76 d7_look_16 (by omega) (by omega) (by rw [e]; rfl) (by decide) ?_
    rw [if_neg (by omega), if_neg (by omega), if_neg (by omega), if_neg (by omega), if_pos e] at hK
    refine z_aload_n hX d7_look_76 rfl ?_
    refine z_get hX lf_7_85 (by first | exact hC.o | exact hC.n _ _ rfl | exact hC.a _ _ rfl | exact hC.t _ _ rfl | exact hR1 | exact hR2.1 | exact hR3) rfl d7_look_77 ?_
    refine z_get hX lf_7_172 (by first | exact hC.o | exact hC.n _ _ rfl | exact hC.a _ _ rfl | exact hC.t _ _ rfl | exact hR1 | exact hR2.1 | exact hR3) rfl d7_look_80 ?_
    refine z_iret hX hE (by decide) (by decide) d7_look_83 ?_
    exact hK
  · refine z_tabIn hX 84 d7_look_16 (by omega) (by omega) (by rw [e]; rfl) (by decide) ?_
    rw [if_neg (by omega), if_neg (by omega), if_neg (by omega), if_neg (by omega), if_neg (by omega), if_pos e] at hK
    refine z_aload_n hX d7_look_84 rfl ?_
    refine z_get hX lf_7_85 (by first | exact hC.o | exact hC.n _ _ rfl | exact hC.a _ _ rfl | exact hC.t _ _ rfl | exact hR1 | exact hR2.1 | exact hR3) rfl d7_look_85 ?_
    refine z_aload_n hX d7_look_88 rfl ?_
    refine z_get hX lf_7_10 (by first | exact hC.o | exact hC.n _ _ rfl | exact hC.a _ _ rfl | exact hC.t _ _ rfl | exact hR1 | exact hR2.1 | exact hR3) rfl d7_look_89 ?_
    refine z_callV1 hX (sp1_used l) lm_7_175 (by first | exact hC.o | exact hC.n _ _ rfl | exact hC.a _ _ rfl | exact hC.t _ _ rfl | exact hR1 | exact hR2.1 | exact hR3) ⟨by decide, by decide, by decide, by decide⟩ (Nat.le_of_ble_eq_true rfl) d7_look_92 ?_
    refine ⟨91 + 5 * j, S.sz j, S.dy j, S.ct j, S.dl j, S.wd, S.mo, S.h, S.hl, S.hn, rfl, hR2, r3, hC.a, ?_⟩
    dsimp only [Option.toList, List.cons_append, List.nil_append]
    refine z_iret hX hE (by decide) (by decide) d7_look_95 ?_
    exact hK
  · refine z_tabOut hX 96 d7_look_16 e (by decide) ?_
    rw [if_neg (by omega), if_neg (by omega), if_neg (by omega), if_neg (by omega), if_neg (by omega), if_neg (by omega)] at hK
    refine z_iload_n hX d7_look_96 rfl ?_
    refine z_bipush hX (100) d7_look_97 (by decide) ?_
    refine z_icmp_ge hX 106 d7_look_99 (by decide) (fun h99 => ?_) (fun h99 => ?_)
    · skip
      rw [i_le, show (100 : Int32).toInt = 100 from rfl] at h99
      rw [if_neg (by omega)] at hK
      refine z_aload_n hX d7_look_106 rfl ?_
      refine z_get hX lf_7_85 (by first | exact hC.o | exact hC.n _ _ rfl | exact hC.a _ _ rfl | exact hC.t _ _ rfl | exact hR1 | exact hR2.1 | exact hR3) rfl d7_look_107 ?_
      refine z_iload_n hX d7_look_110 rfl ?_
      refine z_bipush hX (100) d7_look_111 (by decide) ?_
      refine z_isub hX d7_look_113 ?_
      refine z_callV1 hX (sp1_on l) lm_7_178 (by first | exact hC.o | exact hC.n _ _ rfl | exact hC.a _ _ rfl | exact hC.t _ _ rfl | exact hR1 | exact hR2.1 | exact hR3) ⟨by decide, by decide, by decide, by decide⟩ (Nat.le_of_ble_eq_true rfl) d7_look_114 ?_
      refine ⟨91 + 5 * j, S.sz j, S.dy j, S.ct j, w - 100, rfl, hR2, r3.1, ?_⟩
      dsimp only [Option.toList, List.cons_append, List.nil_append]
      refine z_iret hX hE (by decide) (by decide) d7_look_117 ?_
      exact hK
    · skip
      rw [i_le, show (100 : Int32).toInt = 100 from rfl] at h99
      rw [if_pos (by omega)] at hK
      refine z_iconst hX (-1) d7_look_102 (by decide) ?_
      refine z_goto hX 117 d7_look_103 (by decide) ?_
      refine z_iret hX hE (by decide) (by decide) d7_look_117 ?_
      exact hK
