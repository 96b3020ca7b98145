/-! the class's calls that settle, and those on the tape -/
def cTo (S : cS) : Nat × (Nat → Int64) := sT S.tw S.A S.n (cLo S) S.ld
theorem cTo_lt {S : cS} (hI : cIv S) : (cTo S).1 < 4096 := by
  have hn := hI.rf.1
  refine Nat.lt_of_lt_of_le (sS_lt _ _ (fL_all hn hI.ra.2.1 13 _ (fun e he => by cases he)) (zbt_lt _ _)) (pw_le hn)
theorem zCl.same {S : cS} {P : z_H} (h : zCl S P) : zCl (cS.mk S.wd S.mo S.h S.hl S.hd S.hn S.rf S.ra S.A (S.ld) (S.fo) (S.fa) (S.st) S.n (S.kn) (S.to) S.fr S.tw S.pr S.pw S.fm S.sh S.sz S.dy S.dl S.ct S.pa S.tb S.tl S.e S.p S.x S.qa S.qb S.kc S.sc S.N S.le S.gr S.cn S.kd S.sd S.lf S.gf S.dn) P := h
def S7_how : z_PT := fun as P nx K => ∃ (S : cS) (r : Int32), as = [.ref 1, .int r] ∧ zCl S P ∧ cIv S ∧ (∀ (ld2 : Nat → Int64) (fo2 fa2 : Nat → Int32) (st2 kn2 to2 : Nat) (P' : z_H), zCl (cS.mk S.wd S.mo S.h S.hl S.hd S.hn S.rf S.ra S.A (ld2) (fo2) (fa2) (st2) S.n (kn2) (to2) S.fr S.tw S.pr S.pw S.fm S.sh S.sz S.dy S.dl S.ct S.pa S.tb S.tl S.e S.p S.x S.qa S.qb S.kc S.sc S.N S.le S.gr S.cn S.kd S.sd S.lf S.gf S.dn) P' → z_out zDc P P' →  K (some (.int (if 0 ≤ r.toInt ∧ r.toInt < S.n then (if (sKn (cLo S) S.n).testBit r.toInt.toNat then 0 else if (cTo S).1.testBit r.toInt.toNat then 1 else 2) else -1))) P' nx)
set_option maxRecDepth 4000 in
theorem sp7_how (l : Launch) : z_Sp l M7_how rM7_how S7_how := by
  refine z_enter (by decide) (fun as P nx K h => ?_) (fun X K as P nx hX hE hin0 hS => ?_)
  · obtain ⟨S, r, rfl, -⟩ := h
    exact Nat.le_of_ble_eq_true rfl
  obtain ⟨S, r, rfl, hC, hI, hK⟩ := hS
  show z_W X 0 [some (.ref 1), some (.int r)] [] P nx 0 0
  have hk4 : sKn (cLo S) S.n < 4096 := zbt_lt12 _ hI.rf.1
  have ht4 : (cTo S).1 < 4096 := cTo_lt hI
  by_cases hr : 0 ≤ r.toInt ∧ r.toInt < S.n
  rotate_left
  · rw [if_neg hr] at hK
    refine z_aload_n hX d7_how_0 rfl ?_
    refine z_get hX lf_7_19 (by first | exact hC.o | exact hC.n _ _ rfl | exact hC.a _ _ rfl | exact hC.t _ _ rfl | exact hC.u.1 | exact hC.v.1) rfl d7_how_1 ?_
    refine z_iload_n hX d7_how_4 rfl ?_
    refine z_callV1 hX (sp2_at l) lm_7_74 (by first | exact hC.o | exact hC.n _ _ rfl | exact hC.a _ _ rfl | exact hC.t _ _ rfl | exact hC.u.1 | exact hC.v.1) ⟨by decide, by decide, by decide, by decide⟩ (Nat.le_of_ble_eq_true rfl) d7_how_5 ?_
    refine ⟨S.rf, S.ra, S.ld, S.fo, S.fa, S.st, S.n, S.kn, S.to, r, rfl, hC.n, hI.rf, fun z => absurd z hr, fun _ => ?_⟩
    dsimp only [Option.toList, List.cons_append, List.nil_append]
    refine z_ifnonnullN hX d7_how_8 ?_
    refine z_iconst hX (-1) d7_how_11 (by decide) ?_
    refine z_iret hX hE (by decide) (by decide) d7_how_12 ?_
    exact hK _ _ _ _ _ _ P hC.same z_out.rf
  obtain ⟨j, hj, rfl⟩ := nI_rng hr.1 hr.2
  have hj12 : j < 12 := Nat.lt_of_lt_of_le hj hI.rf.1
  rw [if_pos hr, tN (n := 12) hj12 (by decide)] at hK
  refine z_aload_n hX d7_how_0 rfl ?_
  refine z_get hX lf_7_19 (by first | exact hC.o | exact hC.n _ _ rfl | exact hC.a _ _ rfl | exact hC.t _ _ rfl | exact hC.u.1 | exact hC.v.1) rfl d7_how_1 ?_
  refine z_iload_n hX d7_how_4 rfl ?_
  refine z_callV1 hX (sp2_at l) lm_7_74 (by first | exact hC.o | exact hC.n _ _ rfl | exact hC.a _ _ rfl | exact hC.t _ _ rfl | exact hC.u.1 | exact hC.v.1) ⟨by decide, by decide, by decide, by decide⟩ (Nat.le_of_ble_eq_true rfl) d7_how_5 ?_
  refine ⟨S.rf, S.ra, S.ld, S.fo, S.fa, S.st, S.n, S.kn, S.to, nI j, rfl, hC.n, hI.rf, fun _ => ?_, fun z => absurd hr z⟩
  rw [tN (n := 12) hj12 (by decide)]
  dsimp only [Option.toList, List.cons_append, List.nil_append]
  refine z_ifnonnull hX 13 d7_how_8 (by decide) ?_
  refine z_aload_n hX d7_how_13 rfl ?_
  refine z_get hX lf_7_19 (by first | exact hC.o | exact hC.n _ _ rfl | exact hC.a _ _ rfl | exact hC.t _ _ rfl | exact hC.u.1 | exact hC.v.1) rfl d7_how_14 ?_
  refine z_aload_n hX d7_how_17 rfl ?_
  refine z_get hX lf_7_10 (by first | exact hC.o | exact hC.n _ _ rfl | exact hC.a _ _ rfl | exact hC.t _ _ rfl | exact hC.u.1 | exact hC.v.1) rfl d7_how_18 ?_
  refine z_callV1 hX (sp2_settle l) lm_7_108 (by first | exact hC.o | exact hC.n _ _ rfl | exact hC.a _ _ rfl | exact hC.t _ _ rfl | exact hC.u.1 | exact hC.v.1) ⟨by decide, by decide, by decide, by decide⟩ (Nat.le_of_ble_eq_true rfl) d7_how_21 ?_
  refine ⟨S.rf, S.ra, S.ld, S.fo, S.fa, S.st, S.n, S.kn, S.to, S.A, S.fr, S.tw, S.pr, S.fm, S.sz, S.dy, S.ct, S.pa, S.sh, S.dl, S.wd, S.mo, S.h, S.hl, S.hd, S.hn, cLo S, rfl, hC.n, hI.ra, hI.rf, hC.r, hI.ro, hC.a, hI.hl, fun _ => rfl, fun fo2 fa2 st2 P' hN hO => ?_⟩
  have hC := hC.dn hI hN hO
  have hO := zDc_out hO (fun j h1 h2 => zDn_f (by omega))
  dsimp only [Option.toList, List.cons_append, List.nil_append]
  refine z_aload_n hX d7_how_24 rfl ?_
  refine z_get hX lf_7_19 (by first | exact hC.o | exact hC.n _ _ rfl | exact hC.a _ _ rfl | exact hC.t _ _ rfl | exact hC.u.1 | exact hC.v.1) rfl d7_how_25 ?_
  refine z_iload_n hX d7_how_28 rfl ?_
  refine z_callV1 hX (sp2_isKnown l) lm_7_112 (by first | exact hC.o | exact hC.n _ _ rfl | exact hC.a _ _ rfl | exact hC.t _ _ rfl | exact hC.u.1 | exact hC.v.1) ⟨by decide, by decide, by decide, by decide⟩ (Nat.le_of_ble_eq_true rfl) d7_how_29 ?_
  refine ⟨_, _, _, _, _, _, _, _, _, j, rfl, hC.n, hk4, hj12, ?_⟩
  dsimp only [Option.toList, List.cons_append, List.nil_append]
  refine z_ifb_eq hX 37 d7_how_32 (by decide) (fun h32 => ?_) (fun h32 => ?_)
  · skip
    rw [if_neg (show ¬ (sKn (cLo S) S.n).testBit j = true by intro z; rw [show (sKn (cLo S) S.n).testBit j = false from h32] at z; cases z)] at hK
    refine z_aload_n hX d7_how_37 rfl ?_
    refine z_get hX lf_7_19 (by first | exact hC.o | exact hC.n _ _ rfl | exact hC.a _ _ rfl | exact hC.t _ _ rfl | exact hC.u.1 | exact hC.v.1) rfl d7_how_38 ?_
    refine z_iload_n hX d7_how_41 rfl ?_
    refine z_callV1 hX (sp2_isTold l) lm_7_115 (by first | exact hC.o | exact hC.n _ _ rfl | exact hC.a _ _ rfl | exact hC.t _ _ rfl | exact hC.u.1 | exact hC.v.1) ⟨by decide, by decide, by decide, by decide⟩ (Nat.le_of_ble_eq_true rfl) d7_how_42 ?_
    refine ⟨_, _, _, _, _, _, _, _, _, j, rfl, hC.n, ht4, hj12, ?_⟩
    dsimp only [Option.toList, List.cons_append, List.nil_append]
    refine z_ifb_eq hX 52 d7_how_45 (by decide) (fun h45 => ?_) (fun h45 => ?_)
    · skip
      rw [if_neg (show ¬ (cTo S).1.testBit j = true by intro z; rw [show (cTo S).1.testBit j = false from h45] at z; cases z)] at hK
      refine z_iconst hX (2) d7_how_52 (by decide) ?_
      refine z_iret hX hE (by decide) (by decide) d7_how_53 ?_
      exact hK _ _ _ _ _ _ _ hC hO
    · skip
      rw [if_pos (show (cTo S).1.testBit j = true from h45)] at hK
      refine z_iconst hX (1) d7_how_48 (by decide) ?_
      refine z_goto hX 53 d7_how_49 (by decide) ?_
      refine z_iret hX hE (by decide) (by decide) d7_how_53 ?_
      exact hK _ _ _ _ _ _ _ hC hO
  · skip
    rw [if_pos (show (sKn (cLo S) S.n).testBit j = true from h32)] at hK
    refine z_iconst hX (0) d7_how_35 (by decide) ?_
    refine z_iret hX hE (by decide) (by decide) d7_how_36 ?_
    exact hK _ _ _ _ _ _ _ hC hO
def S7_load : z_PT := fun as P nx K => ∃ (S : cS) (r : Int32), as = [.ref 1, .int r] ∧ zCl S P ∧ cIv S ∧ (∀ (ld2 : Nat → Int64) (fo2 fa2 : Nat → Int32) (st2 kn2 to2 : Nat) (P' : z_H), zCl (cS.mk S.wd S.mo S.h S.hl S.hd S.hn S.rf S.ra S.A (ld2) (fo2) (fa2) (st2) S.n (kn2) (to2) S.fr S.tw S.pr S.pw S.fm S.sh S.sz S.dy S.dl S.ct S.pa S.tb S.tl S.e S.p S.x S.qa S.qb S.kc S.sc S.N S.le S.gr S.cn S.kd S.sd S.lf S.gf S.dn) P' → z_out zDc P P' →  K (some (.long (if 0 ≤ r.toInt ∧ r.toInt < S.n then (if (cTo S).1.testBit r.toInt.toNat then (cTo S).2 r.toInt.toNat else 0) else 0))) P' nx)
set_option maxRecDepth 4000 in
theorem sp7_load (l : Launch) : z_Sp l M7_load rM7_load S7_load := by
  refine z_enter (by decide) (fun as P nx K h => ?_) (fun X K as P nx hX hE hin0 hS => ?_)
  · obtain ⟨S, r, rfl, -⟩ := h
    exact Nat.le_of_ble_eq_true rfl
  obtain ⟨S, r, rfl, hC, hI, hK⟩ := hS
  show z_W X 0 [some (.ref 1), some (.int r)] [] P nx 0 0
  have hk4 : sKn (cLo S) S.n < 4096 := zbt_lt12 _ hI.rf.1
  have ht4 : (cTo S).1 < 4096 := cTo_lt hI
  by_cases hr : 0 ≤ r.toInt ∧ r.toInt < S.n
  rotate_left
  · rw [if_neg hr] at hK
    refine z_aload_n hX d7_load_0 rfl ?_
    refine z_get hX lf_7_19 (by first | exact hC.o | exact hC.n _ _ rfl | exact hC.a _ _ rfl | exact hC.t _ _ rfl | exact hC.u.1 | exact hC.v.1) rfl d7_load_1 ?_
    refine z_iload_n hX d7_load_4 rfl ?_
    refine z_callV1 hX (sp2_at l) lm_7_74 (by first | exact hC.o | exact hC.n _ _ rfl | exact hC.a _ _ rfl | exact hC.t _ _ rfl | exact hC.u.1 | exact hC.v.1) ⟨by decide, by decide, by decide, by decide⟩ (Nat.le_of_ble_eq_true rfl) d7_load_5 ?_
    refine ⟨S.rf, S.ra, S.ld, S.fo, S.fa, S.st, S.n, S.kn, S.to, r, rfl, hC.n, hI.rf, fun z => absurd z hr, fun _ => ?_⟩
    dsimp only [Option.toList, List.cons_append, List.nil_append]
    refine z_ifnonnullN hX d7_load_8 ?_
    refine z_lconst hX 0 d7_load_11 (by decide) ?_
    refine z_lret hX hE (by decide) (by decide) d7_load_12 ?_
    exact hK _ _ _ _ _ _ P hC.same z_out.rf
  obtain ⟨j, hj, rfl⟩ := nI_rng hr.1 hr.2
  have hj12 : j < 12 := Nat.lt_of_lt_of_le hj hI.rf.1
  rw [if_pos hr, tN (n := 12) hj12 (by decide)] at hK
  refine z_aload_n hX d7_load_0 rfl ?_
  refine z_get hX lf_7_19 (by first | exact hC.o | exact hC.n _ _ rfl | exact hC.a _ _ rfl | exact hC.t _ _ rfl | exact hC.u.1 | exact hC.v.1) rfl d7_load_1 ?_
  refine z_iload_n hX d7_load_4 rfl ?_
  refine z_callV1 hX (sp2_at l) lm_7_74 (by first | exact hC.o | exact hC.n _ _ rfl | exact hC.a _ _ rfl | exact hC.t _ _ rfl | exact hC.u.1 | exact hC.v.1) ⟨by decide, by decide, by decide, by decide⟩ (Nat.le_of_ble_eq_true rfl) d7_load_5 ?_
  refine ⟨S.rf, S.ra, S.ld, S.fo, S.fa, S.st, S.n, S.kn, S.to, nI j, rfl, hC.n, hI.rf, fun _ => ?_, fun z => absurd hr z⟩
  rw [tN (n := 12) hj12 (by decide)]
  dsimp only [Option.toList, List.cons_append, List.nil_append]
  refine z_ifnonnull hX 13 d7_load_8 (by decide) ?_
  refine z_aload_n hX d7_load_13 rfl ?_
  refine z_get hX lf_7_19 (by first | exact hC.o | exact hC.n _ _ rfl | exact hC.a _ _ rfl | exact hC.t _ _ rfl | exact hC.u.1 | exact hC.v.1) rfl d7_load_14 ?_
  refine z_aload_n hX d7_load_17 rfl ?_
  refine z_get hX lf_7_10 (by first | exact hC.o | exact hC.n _ _ rfl | exact hC.a _ _ rfl | exact hC.t _ _ rfl | exact hC.u.1 | exact hC.v.1) rfl d7_load_18 ?_
  refine z_callV1 hX (sp2_settle l) lm_7_108 (by first | exact hC.o | exact hC.n _ _ rfl | exact hC.a _ _ rfl | exact hC.t _ _ rfl | exact hC.u.1 | exact hC.v.1) ⟨by decide, by decide, by decide, by decide⟩ (Nat.le_of_ble_eq_true rfl) d7_load_21 ?_
  refine ⟨S.rf, S.ra, S.ld, S.fo, S.fa, S.st, S.n, S.kn, S.to, S.A, S.fr, S.tw, S.pr, S.fm, S.sz, S.dy, S.ct, S.pa, S.sh, S.dl, S.wd, S.mo, S.h, S.hl, S.hd, S.hn, cLo S, rfl, hC.n, hI.ra, hI.rf, hC.r, hI.ro, hC.a, hI.hl, fun _ => rfl, fun fo2 fa2 st2 P' hN hO => ?_⟩
  have hC := hC.dn hI hN hO
  have hO := zDc_out hO (fun j h1 h2 => zDn_f (by omega))
  dsimp only [Option.toList, List.cons_append, List.nil_append]
  refine z_aload_n hX d7_load_24 rfl ?_
  refine z_get hX lf_7_19 (by first | exact hC.o | exact hC.n _ _ rfl | exact hC.a _ _ rfl | exact hC.t _ _ rfl | exact hC.u.1 | exact hC.v.1) rfl d7_load_25 ?_
  refine z_iload_n hX d7_load_28 rfl ?_
  refine z_callV1 hX (sp2_isTold l) lm_7_115 (by first | exact hC.o | exact hC.n _ _ rfl | exact hC.a _ _ rfl | exact hC.t _ _ rfl | exact hC.u.1 | exact hC.v.1) ⟨by decide, by decide, by decide, by decide⟩ (Nat.le_of_ble_eq_true rfl) d7_load_29 ?_
  refine ⟨_, _, _, _, _, _, _, _, _, j, rfl, hC.n, ht4, hj12, ?_⟩
  dsimp only [Option.toList, List.cons_append, List.nil_append]
  refine z_ifb_eq hX 46 d7_load_32 (by decide) (fun h32 => ?_) (fun h32 => ?_)
  · skip
    rw [if_neg (show ¬ (cTo S).1.testBit j = true by intro z; rw [show (cTo S).1.testBit j = false from h32] at z; cases z)] at hK
    refine z_lconst hX 0 d7_load_46 (by decide) ?_
    refine z_lret hX hE (by decide) (by decide) d7_load_47 ?_
    exact hK _ _ _ _ _ _ _ hC hO
  · skip
    rw [if_pos (show (cTo S).1.testBit j = true from h32)] at hK
    refine z_aload_n hX d7_load_35 rfl ?_
    refine z_get hX lf_7_19 (by first | exact hC.o | exact hC.n _ _ rfl | exact hC.a _ _ rfl | exact hC.t _ _ rfl | exact hC.u.1 | exact hC.v.1) rfl d7_load_36 ?_
    refine z_iload_n hX d7_load_39 rfl ?_
    refine z_callV1 hX (sp2_loadOf l) lm_7_118 (by first | exact hC.o | exact hC.n _ _ rfl | exact hC.a _ _ rfl | exact hC.t _ _ rfl | exact hC.u.1 | exact hC.v.1) ⟨by decide, by decide, by decide, by decide⟩ (Nat.le_of_ble_eq_true rfl) d7_load_40 ?_
    refine ⟨_, _, _, _, _, _, _, _, _, j, rfl, hC.n, hj12, ?_⟩
    dsimp only [Option.toList, List.cons_append, List.nil_append]
    refine z_goto hX 47 d7_load_43 (by decide) ?_
    refine z_lret hX hE (by decide) (by decide) d7_load_47 ?_
    exact hK _ _ _ _ _ _ _ hC hO
def S7_balances : z_PT := fun as P nx K => ∃ (S : cS) (j : Int32), as = [.ref 1, .int j] ∧ zCl S P ∧ cIv S ∧ (∀ (ld2 : Nat → Int64) (fo2 fa2 : Nat → Int32) (st2 kn2 to2 : Nat) (P' : z_H), zCl (cS.mk S.wd S.mo S.h S.hl S.hd S.hn S.rf S.ra S.A (ld2) (fo2) (fa2) (st2) S.n (kn2) (to2) S.fr S.tw S.pr S.pw S.fm S.sh S.sz S.dy S.dl S.ct S.pa S.tb S.tl S.e S.p S.x S.qa S.qb S.kc S.sc S.N S.le S.gr S.cn S.kd S.sd S.lf S.gf S.dn) P' → z_out zDc P P' →  K (some (.int (if 0 ≤ j.toInt ∧ j.toInt ≤ 7 then zb (decide (zsd (S.A j.toInt.toNat) (cTo S).1 = 0)) else -1))) P' nx)
set_option maxRecDepth 4000 in
theorem sp7_balances (l : Launch) : z_Sp l M7_balances rM7_balances S7_balances := by
  refine z_enter (by decide) (fun as P nx K h => ?_) (fun X K as P nx hX hE hin0 hS => ?_)
  · obtain ⟨S, j, rfl, -⟩ := h
    exact Nat.le_of_ble_eq_true rfl
  obtain ⟨S, j, rfl, hC, hI, hK⟩ := hS
  show z_W X 0 [some (.ref 1), some (.int j)] [] P nx 0 0
  have hk4 : sKn (cLo S) S.n < 4096 := zbt_lt12 _ hI.rf.1
  have ht4 : (cTo S).1 < 4096 := cTo_lt hI
  by_cases hr : 0 ≤ j.toInt ∧ j.toInt ≤ 7
  rotate_left
  · rw [if_neg hr] at hK
    refine z_iload_n hX d7_balances_0 rfl ?_
    refine z_bipush hX (8) d7_balances_1 (by decide) ?_
    refine z_callS2 hX (sp7_isBelow l) lm_7_49 ⟨by decide, by decide, by decide, by decide⟩ (Nat.le_of_ble_eq_true rfl) d7_balances_3 ?_
    refine ⟨_, _, rfl, ?_⟩
    rw [show (8 : Int32).toInt = 8 from rfl, decide_eq_false (show ¬ (0 ≤ j.toInt ∧ j.toInt < 8) by omega)]
    dsimp only [Option.toList, List.cons_append, List.nil_append]
    refine z_ifb_ne hX 11 d7_balances_6 (by decide) (fun h6 => ?_) (fun h6 => ?_)
    · cases h6
    refine z_iconst hX (-1) d7_balances_9 (by decide) ?_
    refine z_iret hX hE (by decide) (by decide) d7_balances_10 ?_
    exact hK _ _ _ _ _ _ P hC.same z_out.rf
  obtain ⟨i, hi, rfl⟩ := nI_rng (n := 8) hr.1 (by omega)
  rw [if_pos hr, tN (n := 8) hi (by decide)] at hK
  refine z_iload_n hX d7_balances_0 rfl ?_
  refine z_bipush hX (8) d7_balances_1 (by decide) ?_
  refine z_callS2 hX (sp7_isBelow l) lm_7_49 ⟨by decide, by decide, by decide, by decide⟩ (Nat.le_of_ble_eq_true rfl) d7_balances_3 ?_
  refine ⟨_, _, rfl, ?_⟩
  rw [show (8 : Int32).toInt = 8 from rfl, decide_eq_true (show 0 ≤ (nI i).toInt ∧ (nI i).toInt < 8 by omega)]
  dsimp only [Option.toList, List.cons_append, List.nil_append]
  refine z_ifb_ne hX 11 d7_balances_6 (by decide) (fun h6 => ?_) (fun h6 => ?_)
  rotate_left
  · cases h6
  refine z_aload_n hX d7_balances_11 rfl ?_
  refine z_get hX lf_7_19 (by first | exact hC.o | exact hC.n _ _ rfl | exact hC.a _ _ rfl | exact hC.t _ _ rfl | exact hC.u.1 | exact hC.v.1) rfl d7_balances_12 ?_
  refine z_aload_n hX d7_balances_15 rfl ?_
  refine z_get hX lf_7_10 (by first | exact hC.o | exact hC.n _ _ rfl | exact hC.a _ _ rfl | exact hC.t _ _ rfl | exact hC.u.1 | exact hC.v.1) rfl d7_balances_16 ?_
  refine z_callV1 hX (sp2_settle l) lm_7_108 (by first | exact hC.o | exact hC.n _ _ rfl | exact hC.a _ _ rfl | exact hC.t _ _ rfl | exact hC.u.1 | exact hC.v.1) ⟨by decide, by decide, by decide, by decide⟩ (Nat.le_of_ble_eq_true rfl) d7_balances_19 ?_
  refine ⟨S.rf, S.ra, S.ld, S.fo, S.fa, S.st, S.n, S.kn, S.to, S.A, S.fr, S.tw, S.pr, S.fm, S.sz, S.dy, S.ct, S.pa, S.sh, S.dl, S.wd, S.mo, S.h, S.hl, S.hd, S.hn, cLo S, rfl, hC.n, hI.ra, hI.rf, hC.r, hI.ro, hC.a, hI.hl, fun _ => rfl, fun fo2 fa2 st2 P' hN hO => ?_⟩
  have hC := hC.dn hI hN hO
  have hO := zDc_out hO (fun j h1 h2 => zDn_f (by omega))
  dsimp only [Option.toList, List.cons_append, List.nil_append]
  refine z_aload_n hX d7_balances_22 rfl ?_
  refine z_get hX lf_7_19 (by first | exact hC.o | exact hC.n _ _ rfl | exact hC.a _ _ rfl | exact hC.t _ _ rfl | exact hC.u.1 | exact hC.v.1) rfl d7_balances_23 ?_
  refine z_iload_n hX d7_balances_26 rfl ?_
  refine z_callV1 hX (sp2_isAllToldAt l) lm_7_122 (by first | exact hC.o | exact hC.n _ _ rfl | exact hC.a _ _ rfl | exact hC.t _ _ rfl | exact hC.u.1 | exact hC.v.1) ⟨by decide, by decide, by decide, by decide⟩ (Nat.le_of_ble_eq_true rfl) d7_balances_27 ?_
  refine ⟨_, _, _, _, _, _, _, _, _, i, S.A, rfl, hC.n, hI.ra, hi, ?_⟩
  dsimp only [Option.toList, List.cons_append, List.nil_append]
  refine z_ifb_eq hX 37 d7_balances_30 (by decide) (fun h30 => ?_) (fun h30 => ?_)
  · skip
    rw [show decide (zsd (S.A i) (cTo S).1 = 0) = false from h30] at hK
    refine z_iconst hX (0) d7_balances_37 (by decide) ?_
    refine z_iret hX hE (by decide) (by decide) d7_balances_38 ?_
    exact hK _ _ _ _ _ _ _ hC hO
  · skip
    rw [show decide (zsd (S.A i) (cTo S).1 = 0) = true from h30] at hK
    refine z_iconst hX (1) d7_balances_33 (by decide) ?_
    refine z_goto hX 38 d7_balances_34 (by decide) ?_
    refine z_iret hX hE (by decide) (by decide) d7_balances_38 ?_
    exact hK _ _ _ _ _ _ _ hC hO
def S7_balance : z_PT := fun as P nx K => ∃ (S : cS) (j : Int32), as = [.ref 1, .int j] ∧ zCl S P ∧ cIv S ∧ (∀ (ld2 : Nat → Int64) (fo2 fa2 : Nat → Int32) (st2 kn2 to2 : Nat) (P' : z_H), zCl (cS.mk S.wd S.mo S.h S.hl S.hd S.hn S.rf S.ra S.A (ld2) (fo2) (fa2) (st2) S.n (kn2) (to2) S.fr S.tw S.pr S.pw S.fm S.sh S.sz S.dy S.dl S.ct S.pa S.tb S.tl S.e S.p S.x S.qa S.qb S.kc S.sc S.N S.le S.gr S.cn S.kd S.sd S.lf S.gf S.dn) P' → z_out zDc P P' →  K (some (.long (if 0 ≤ j.toInt ∧ j.toInt ≤ 7 then (if zsd (S.A j.toInt.toNat) (cTo S).1 = 0 then cSu S.tw (cTo S).2 S.A j.toInt.toNat (cTo S).1 S.n else 0) else 0))) P' nx)
set_option maxRecDepth 4000 in
theorem sp7_balance (l : Launch) : z_Sp l M7_balance rM7_balance S7_balance := by
  refine z_enter (by decide) (fun as P nx K h => ?_) (fun X K as P nx hX hE hin0 hS => ?_)
  · obtain ⟨S, j, rfl, -⟩ := h
    exact Nat.le_of_ble_eq_true rfl
  obtain ⟨S, j, rfl, hC, hI, hK⟩ := hS
  show z_W X 0 [some (.ref 1), some (.int j)] [] P nx 0 0
  have hk4 : sKn (cLo S) S.n < 4096 := zbt_lt12 _ hI.rf.1
  have ht4 : (cTo S).1 < 4096 := cTo_lt hI
  by_cases hr : 0 ≤ j.toInt ∧ j.toInt ≤ 7
  rotate_left
  · rw [if_neg hr] at hK
    refine z_iload_n hX d7_balance_0 rfl ?_
    refine z_bipush hX (8) d7_balance_1 (by decide) ?_
    refine z_callS2 hX (sp7_isBelow l) lm_7_49 ⟨by decide, by decide, by decide, by decide⟩ (Nat.le_of_ble_eq_true rfl) d7_balance_3 ?_
    refine ⟨_, _, rfl, ?_⟩
    rw [show (8 : Int32).toInt = 8 from rfl, decide_eq_false (show ¬ (0 ≤ j.toInt ∧ j.toInt < 8) by omega)]
    dsimp only [Option.toList, List.cons_append, List.nil_append]
    refine z_ifb_ne hX 11 d7_balance_6 (by decide) (fun h6 => ?_) (fun h6 => ?_)
    · cases h6
    refine z_lconst hX 0 d7_balance_9 (by decide) ?_
    refine z_lret hX hE (by decide) (by decide) d7_balance_10 ?_
    exact hK _ _ _ _ _ _ P hC.same z_out.rf
  obtain ⟨i, hi, rfl⟩ := nI_rng (n := 8) hr.1 (by omega)
  rw [if_pos hr, tN (n := 8) hi (by decide)] at hK
  refine z_iload_n hX d7_balance_0 rfl ?_
  refine z_bipush hX (8) d7_balance_1 (by decide) ?_
  refine z_callS2 hX (sp7_isBelow l) lm_7_49 ⟨by decide, by decide, by decide, by decide⟩ (Nat.le_of_ble_eq_true rfl) d7_balance_3 ?_
  refine ⟨_, _, rfl, ?_⟩
  rw [show (8 : Int32).toInt = 8 from rfl, decide_eq_true (show 0 ≤ (nI i).toInt ∧ (nI i).toInt < 8 by omega)]
  dsimp only [Option.toList, List.cons_append, List.nil_append]
  refine z_ifb_ne hX 11 d7_balance_6 (by decide) (fun h6 => ?_) (fun h6 => ?_)
  rotate_left
  · cases h6
  refine z_aload_n hX d7_balance_11 rfl ?_
  refine z_get hX lf_7_19 (by first | exact hC.o | exact hC.n _ _ rfl | exact hC.a _ _ rfl | exact hC.t _ _ rfl | exact hC.u.1 | exact hC.v.1) rfl d7_balance_12 ?_
  refine z_aload_n hX d7_balance_15 rfl ?_
  refine z_get hX lf_7_10 (by first | exact hC.o | exact hC.n _ _ rfl | exact hC.a _ _ rfl | exact hC.t _ _ rfl | exact hC.u.1 | exact hC.v.1) rfl d7_balance_16 ?_
  refine z_callV1 hX (sp2_settle l) lm_7_108 (by first | exact hC.o | exact hC.n _ _ rfl | exact hC.a _ _ rfl | exact hC.t _ _ rfl | exact hC.u.1 | exact hC.v.1) ⟨by decide, by decide, by decide, by decide⟩ (Nat.le_of_ble_eq_true rfl) d7_balance_19 ?_
  refine ⟨S.rf, S.ra, S.ld, S.fo, S.fa, S.st, S.n, S.kn, S.to, S.A, S.fr, S.tw, S.pr, S.fm, S.sz, S.dy, S.ct, S.pa, S.sh, S.dl, S.wd, S.mo, S.h, S.hl, S.hd, S.hn, cLo S, rfl, hC.n, hI.ra, hI.rf, hC.r, hI.ro, hC.a, hI.hl, fun _ => rfl, fun fo2 fa2 st2 P' hN hO => ?_⟩
  have hC := hC.dn hI hN hO
  have hO := zDc_out hO (fun j h1 h2 => zDn_f (by omega))
  dsimp only [Option.toList, List.cons_append, List.nil_append]
  refine z_aload_n hX d7_balance_22 rfl ?_
  refine z_get hX lf_7_19 (by first | exact hC.o | exact hC.n _ _ rfl | exact hC.a _ _ rfl | exact hC.t _ _ rfl | exact hC.u.1 | exact hC.v.1) rfl d7_balance_23 ?_
  refine z_iload_n hX d7_balance_26 rfl ?_
  refine z_callV1 hX (sp2_isAllToldAt l) lm_7_122 (by first | exact hC.o | exact hC.n _ _ rfl | exact hC.a _ _ rfl | exact hC.t _ _ rfl | exact hC.u.1 | exact hC.v.1) ⟨by decide, by decide, by decide, by decide⟩ (Nat.le_of_ble_eq_true rfl) d7_balance_27 ?_
  refine ⟨_, _, _, _, _, _, _, _, _, i, S.A, rfl, hC.n, hI.ra, hi, ?_⟩
  dsimp only [Option.toList, List.cons_append, List.nil_append]
  refine z_ifb_eq hX 44 d7_balance_30 (by decide) (fun h30 => ?_) (fun h30 => ?_)
  · skip
    rw [if_neg (show ¬ zsd (S.A i) (cTo S).1 = 0 from of_decide_eq_false h30)] at hK
    refine z_lconst hX 0 d7_balance_44 (by decide) ?_
    refine z_lret hX hE (by decide) (by decide) d7_balance_45 ?_
    exact hK _ _ _ _ _ _ _ hC hO
  · skip
    rw [if_pos (show zsd (S.A i) (cTo S).1 = 0 from of_decide_eq_true h30)] at hK
    refine z_aload_n hX d7_balance_33 rfl ?_
    refine z_get hX lf_7_19 (by first | exact hC.o | exact hC.n _ _ rfl | exact hC.a _ _ rfl | exact hC.t _ _ rfl | exact hC.u.1 | exact hC.v.1) rfl d7_balance_34 ?_
    refine z_iload_n hX d7_balance_37 rfl ?_
    refine z_callV1 hX (sp2_surplus l) lm_7_125 (by first | exact hC.o | exact hC.n _ _ rfl | exact hC.a _ _ rfl | exact hC.t _ _ rfl | exact hC.u.1 | exact hC.v.1) ⟨by decide, by decide, by decide, by decide⟩ (Nat.le_of_ble_eq_true rfl) d7_balance_38 ?_
    refine ⟨_, _, _, _, _, _, _, _, _, i, S.A, S.fr, S.tw, S.pr, S.fm, S.sz, S.dy, S.ct, S.pa, rfl, hC.n, hI.ra, hi, hI.rf, hC.r, ht4, ?_⟩
    dsimp only [Option.toList, List.cons_append, List.nil_append]
    refine z_goto hX 45 d7_balance_41 (by decide) ?_
    refine z_lret hX hE (by decide) (by decide) d7_balance_45 ?_
    exact hK _ _ _ _ _ _ _ hC hO
def S7_does : z_PT := fun as P nx K => ∃ (S : cS) (s : Int32), as = [.ref 1, .int s] ∧ zCl S P ∧ cIv S ∧ (∀ (ld2 : Nat → Int64) (fo2 fa2 : Nat → Int32) (st2 kn2 to2 : Nat) (P' : z_H), zCl (cS.mk S.wd S.mo S.h S.hl S.hd S.hn S.rf S.ra S.A (ld2) (fo2) (fa2) (st2) S.n (kn2) (to2) S.fr S.tw S.pr S.pw S.fm S.sh S.sz S.dy S.dl S.ct S.pa S.tb S.tl S.e S.p S.x S.qa S.qb S.kc S.sc S.N S.le S.gr S.cn S.kd S.sd S.lf S.gf S.dn) P' → z_out zDc P P' →  K (some (.int (if 0 ≤ s.toInt ∧ s.toInt < (2 ^ S.n : Nat) then zb (pOk S.A S.n s.toInt.toNat) else -1))) P' nx)
set_option maxRecDepth 4000 in
theorem sp7_does (l : Launch) : z_Sp l M7_does rM7_does S7_does := by
  refine z_enter (by decide) (fun as P nx K h => ?_) (fun X K as P nx hX hE hin0 hS => ?_)
  · obtain ⟨S, s, rfl, -⟩ := h
    exact Nat.le_of_ble_eq_true rfl
  obtain ⟨S, s, rfl, hC, hI, hK⟩ := hS
  show z_W X 0 [some (.ref 1), some (.int s)] [] P nx 0 0
  by_cases hr : 0 ≤ s.toInt ∧ s.toInt < (2 ^ S.n : Nat)
  rotate_left
  · rw [if_neg hr] at hK
    refine z_aload_n hX d7_does_0 rfl ?_
    refine z_get hX lf_7_19 (by first | exact hC.o | exact hC.n _ _ rfl | exact hC.a _ _ rfl | exact hC.t _ _ rfl | exact hC.u.1 | exact hC.v.1) rfl d7_does_1 ?_
    refine z_iload_n hX d7_does_4 rfl ?_
    refine z_callV1 hX (sp2_hasAll l) lm_7_128 (by first | exact hC.o | exact hC.n _ _ rfl | exact hC.a _ _ rfl | exact hC.t _ _ rfl | exact hC.u.1 | exact hC.v.1) ⟨by decide, by decide, by decide, by decide⟩ (Nat.le_of_ble_eq_true rfl) d7_does_5 ?_
    refine ⟨_, _, _, _, _, _, _, _, _, s, rfl, hC.n, hI.rf.1, ?_⟩
    rw [decide_eq_false hr]
    dsimp only [Option.toList, List.cons_append, List.nil_append]
    refine z_ifb_ne hX 13 d7_does_8 (by decide) (fun h8 => ?_) (fun h8 => ?_)
    · cases h8
    refine z_iconst hX (-1) d7_does_11 (by decide) ?_
    refine z_iret hX hE (by decide) (by decide) d7_does_12 ?_
    exact hK _ _ _ _ _ _ P hC.same z_out.rf
  obtain ⟨i, hi, rfl⟩ := nI_rng hr.1 hr.2
  have hp := pw_le hI.rf.1
  rw [if_pos hr, tN (n := 4096) (by omega) (by decide)] at hK
  refine z_aload_n hX d7_does_0 rfl ?_
  refine z_get hX lf_7_19 (by first | exact hC.o | exact hC.n _ _ rfl | exact hC.a _ _ rfl | exact hC.t _ _ rfl | exact hC.u.1 | exact hC.v.1) rfl d7_does_1 ?_
  refine z_iload_n hX d7_does_4 rfl ?_
  refine z_callV1 hX (sp2_hasAll l) lm_7_128 (by first | exact hC.o | exact hC.n _ _ rfl | exact hC.a _ _ rfl | exact hC.t _ _ rfl | exact hC.u.1 | exact hC.v.1) ⟨by decide, by decide, by decide, by decide⟩ (Nat.le_of_ble_eq_true rfl) d7_does_5 ?_
  refine ⟨_, _, _, _, _, _, _, _, _, _, rfl, hC.n, hI.rf.1, ?_⟩
  rw [decide_eq_true hr]
  dsimp only [Option.toList, List.cons_append, List.nil_append]
  refine z_ifb_ne hX 13 d7_does_8 (by decide) (fun h8 => ?_) (fun h8 => ?_)
  rotate_left
  · cases h8
  refine z_aload_n hX d7_does_13 rfl ?_
  refine z_get hX lf_7_19 (by first | exact hC.o | exact hC.n _ _ rfl | exact hC.a _ _ rfl | exact hC.t _ _ rfl | exact hC.u.1 | exact hC.v.1) rfl d7_does_14 ?_
  refine z_iload_n hX d7_does_17 rfl ?_
  refine z_callV1 hX (sp2_isEnough l) lm_7_131 (by first | exact hC.o | exact hC.n _ _ rfl | exact hC.a _ _ rfl | exact hC.t _ _ rfl | exact hC.u.1 | exact hC.v.1) ⟨by decide, by decide, by decide, by decide⟩ (Nat.le_of_ble_eq_true rfl) d7_does_18 ?_
  refine ⟨_, _, _, _, _, _, _, _, _, S.A, i, rfl, hC.n, hI.ra, hi, fun fo2 fa2 st2 P' hN hO => ?_⟩
  have hC := hC.dn hI hN hO
  have hO := zDc_out hO (fun j h1 h2 => zDn_f (by omega))
  dsimp only [Option.toList, List.cons_append, List.nil_append]
  refine z_ifb_eq hX 28 d7_does_21 (by decide) (fun h21 => ?_) (fun h21 => ?_)
  · skip
    rw [h21] at hK
    refine z_iconst hX (0) d7_does_28 (by decide) ?_
    refine z_iret hX hE (by decide) (by decide) d7_does_29 ?_
    exact hK _ _ _ _ _ _ _ hC hO
  · skip
    rw [h21] at hK
    refine z_iconst hX (1) d7_does_24 (by decide) ?_
    refine z_goto hX 29 d7_does_25 (by decide) ?_
    refine z_iret hX hE (by decide) (by decide) d7_does_29 ?_
    exact hK _ _ _ _ _ _ _ hC hO
def S7_plan : z_PT := fun as P nx K => ∃ (S : cS) , as = [.ref 1] ∧ zCl S P ∧ cIv S ∧ (∀ (ld2 : Nat → Int64) (fo2 fa2 : Nat → Int32) (st2 kn2 to2 : Nat) (P' : z_H), zCl (cS.mk S.wd S.mo S.h S.hl S.hd S.hn S.rf S.ra S.A (ld2) (fo2) (fa2) (st2) S.n (kn2) (to2) S.fr S.tw S.pr S.pw S.fm S.sh S.sz S.dy S.dl S.ct S.pa S.tb S.tl S.e S.p S.x S.qa S.qb S.kc S.sc S.N S.le S.gr S.cn S.kd S.sd S.lf S.gf S.dn) P' → z_out zDc P P' →  K (some (.int (nI (cE S.A S.n S.pw S.n).1))) P' nx)
set_option maxRecDepth 4000 in
theorem sp7_plan (l : Launch) : z_Sp l M7_plan rM7_plan S7_plan := by
  refine z_enter (by decide) (fun as P nx K h => ?_) (fun X K as P nx hX hE hin0 hS => ?_)
  · obtain ⟨S, rfl, -⟩ := h
    exact Nat.le_of_ble_eq_true rfl
  obtain ⟨S, rfl, hC, hI, hK⟩ := hS
  show z_W X 0 [some (.ref 1)] [] P nx 0 0
  refine z_aload_n hX d7_plan_0 rfl ?_
  refine z_get hX lf_7_19 (by first | exact hC.o | exact hC.n _ _ rfl | exact hC.a _ _ rfl | exact hC.t _ _ rfl | exact hC.u.1 | exact hC.v.1) rfl d7_plan_1 ?_
  refine z_callV0 hX (sp2_cheapestEnough l) lm_7_134 (by first | exact hC.o | exact hC.n _ _ rfl | exact hC.a _ _ rfl | exact hC.t _ _ rfl | exact hC.u.1 | exact hC.v.1) ⟨by decide, by decide, by decide, by decide⟩ (Nat.le_of_ble_eq_true rfl) d7_plan_4 ?_
  refine ⟨_, _, _, _, _, _, _, _, _, S.A, S.fr, S.tw, S.pr, S.fm, S.sz, S.dy, S.ct, S.pa, S.pw, rfl, hC.n, hI.ra, hI.rf, hC.r, hI.pr, fun fo2 fa2 st2 P' hN hO => ?_⟩
  have hC := hC.dn hI hN hO
  have hO := zDc_out hO (fun j h1 h2 => zDn_f (by omega))
  dsimp only [Option.toList, List.cons_append, List.nil_append]
  refine z_iret hX hE (by decide) (by decide) d7_plan_7 ?_
  exact hK _ _ _ _ _ _ _ hC hO
def cTell (S : cS) (w : Int32) : Int32 := if w.toInt = 0 then nI S.n else if w.toInt = 1 then nI S.hn else if w.toInt = 2 then nI S.cn else if w.toInt = 3 then nI S.tl else if w.toInt = 4 then nI (zpop (sKn (cLo S) S.n)) else if w.toInt = 5 then nI (zpop (cTo S).1) - nI (zpop (sKn (cLo S) S.n)) else -1
def S7_tell : z_PT := fun as P nx K => ∃ (S : cS) (w : Int32), as = [.ref 1, .int w] ∧ zCl S P ∧ cIv S ∧ (∀ (ld2 : Nat → Int64) (fo2 fa2 : Nat → Int32) (st2 kn2 to2 : Nat) (P' : z_H), zCl (cS.mk S.wd S.mo S.h S.hl S.hd S.hn S.rf S.ra S.A (ld2) (fo2) (fa2) (st2) S.n (kn2) (to2) S.fr S.tw S.pr S.pw S.fm S.sh S.sz S.dy S.dl S.ct S.pa S.tb S.tl S.e S.p S.x S.qa S.qb S.kc S.sc S.N S.le S.gr S.cn S.kd S.sd S.lf S.gf S.dn) P' → z_out zDc P P' →  K (some (.int (cTell S w))) P' nx)
set_option maxRecDepth 4000 in
theorem sp7_tell (l : Launch) : z_Sp l M7_tell rM7_tell S7_tell := by
  refine z_enter (by decide) (fun as P nx K h => ?_) (fun X K as P nx hX hE hin0 hS => ?_)
  · obtain ⟨S, w, rfl, -⟩ := h
    exact Nat.le_of_ble_eq_true rfl
  obtain ⟨S, w, rfl, hC, hI, hK⟩ := hS
  show z_W X 0 [some (.ref 1), some (.int w)] [] P nx 0 0
  have hk4 : sKn (cLo S) S.n < 4096 := zbt_lt12 _ hI.rf.1
  have ht4 : (cTo S).1 < 4096 := cTo_lt hI
  unfold cTell at hK
  refine z_iload_n hX d7_tell_0 rfl ?_
  rcases (show w.toInt = 0 ∨ w.toInt = 1 ∨ w.toInt = 2 ∨ w.toInt = 3 ∨ w.toInt = 4 ∨ w.toInt = 5 ∨ (w.toInt < 0 ∨ 5 < w.toInt) by omega) with e | e | e | e | e | e | e
  · refine z_tabIn hX 40 d7_tell_1 (by omega) (by omega) (by rw [e]; rfl) (by decide) ?_
    rw [if_pos e] at hK
    refine z_aload_n hX d7_tell_40 rfl ?_
    refine z_get hX lf_7_19 (by first | exact hC.o | exact hC.n _ _ rfl | exact hC.a _ _ rfl | exact hC.t _ _ rfl | exact hC.u.1 | exact hC.v.1) rfl d7_tell_41 ?_
    refine z_get hX lf_7_181 (by first | exact hC.o | exact hC.n _ _ rfl | exact hC.a _ _ rfl | exact hC.t _ _ rfl | exact hC.u.1 | exact hC.v.1) rfl d7_tell_44 ?_
    refine z_iret hX hE (by decide) (by decide) d7_tell_47 ?_
    exact hK _ _ _ _ _ _ P hC.same z_out.rf
  · refine z_tabIn hX 48 d7_tell_1 (by omega) (by omega) (by rw [e]; rfl) (by decide) ?_
    rw [if_neg (by omega), if_pos e] at hK
    refine z_aload_n hX d7_tell_48 rfl ?_
    refine z_get hX lf_7_10 (by first | exact hC.o | exact hC.n _ _ rfl | exact hC.a _ _ rfl | exact hC.t _ _ rfl | exact hC.u.1 | exact hC.v.1) rfl d7_tell_49 ?_
    refine z_get hX lf_7_182 (by first | exact hC.o | exact hC.n _ _ rfl | exact hC.a _ _ rfl | exact hC.t _ _ rfl | exact hC.u.1 | exact hC.v.1) rfl d7_tell_52 ?_
    refine z_iret hX hE (by decide) (by decide) d7_tell_55 ?_
    exact hK _ _ _ _ _ _ P hC.same z_out.rf
  · refine z_tabIn hX 56 d7_tell_1 (by omega) (by omega) (by rw [e]; rfl) (by decide) ?_
    rw [if_neg (by omega), if_neg (by omega), if_pos e] at hK
    refine z_aload_n hX d7_tell_56 rfl ?_
    refine z_get hX lf_7_42 (by first | exact hC.o | exact hC.n _ _ rfl | exact hC.a _ _ rfl | exact hC.t _ _ rfl | exact hC.u.1 | exact hC.v.1) rfl d7_tell_57 ?_
    refine z_get hX lf_7_185 (by first | exact hC.o | exact hC.n _ _ rfl | exact hC.a _ _ rfl | exact hC.t _ _ rfl | exact hC.u.1 | exact hC.v.1) rfl d7_tell_60 ?_
    refine z_iret hX hE (by decide) (by decide) d7_tell_63 ?_
    exact hK _ _ _ _ _ _ P hC.same z_out.rf
  · refine z_tabIn hX 64 d7_tell_1 (by omega) (by omega) (by rw [e]; rfl) (by decide) ?_
    rw [if_neg (by omega), if_neg (by omega), if_neg (by omega), if_pos e] at hK
    refine z_aload_n hX d7_tell_64 rfl ?_
    refine z_get hX lf_7_26 (by first | exact hC.o | exact hC.n _ _ rfl | exact hC.a _ _ rfl | exact hC.t _ _ rfl | exact hC.u.1 | exact hC.v.1) rfl d7_tell_65 ?_
    refine z_get hX lf_7_138 (by first | exact hC.o | exact hC.n _ _ rfl | exact hC.a _ _ rfl | exact hC.t _ _ rfl | exact hC.u.1 | exact hC.v.1) rfl d7_tell_68 ?_
    refine z_iret hX hE (by decide) (by decide) d7_tell_71 ?_
    exact hK _ _ _ _ _ _ P hC.same z_out.rf
  · refine z_tabIn hX 72 d7_tell_1 (by omega) (by omega) (by rw [e]; rfl) (by decide) ?_
    rw [if_neg (by omega), if_neg (by omega), if_neg (by omega), if_neg (by omega), if_pos e] at hK
    refine z_aload_n hX d7_tell_72 rfl ?_
    refine z_get hX lf_7_19 (by first | exact hC.o | exact hC.n _ _ rfl | exact hC.a _ _ rfl | exact hC.t _ _ rfl | exact hC.u.1 | exact hC.v.1) rfl d7_tell_73 ?_
    refine z_aload_n hX d7_tell_76 rfl ?_
    refine z_get hX lf_7_10 (by first | exact hC.o | exact hC.n _ _ rfl | exact hC.a _ _ rfl | exact hC.t _ _ rfl | exact hC.u.1 | exact hC.v.1) rfl d7_tell_77 ?_
    refine z_callV1 hX (sp2_settle l) lm_7_108 (by first | exact hC.o | exact hC.n _ _ rfl | exact hC.a _ _ rfl | exact hC.t _ _ rfl | exact hC.u.1 | exact hC.v.1) ⟨by decide, by decide, by decide, by decide⟩ (Nat.le_of_ble_eq_true rfl) d7_tell_80 ?_
    refine ⟨S.rf, S.ra, S.ld, S.fo, S.fa, S.st, S.n, S.kn, S.to, S.A, S.fr, S.tw, S.pr, S.fm, S.sz, S.dy, S.ct, S.pa, S.sh, S.dl, S.wd, S.mo, S.h, S.hl, S.hd, S.hn, cLo S, rfl, hC.n, hI.ra, hI.rf, hC.r, hI.ro, hC.a, hI.hl, fun _ => rfl, fun fo2 fa2 st2 P' hN hO => ?_⟩
    have hC := hC.dn hI hN hO
    have hO := zDc_out hO (fun j h1 h2 => zDn_f (by omega))
    dsimp only [Option.toList, List.cons_append, List.nil_append]
    refine z_aload_n hX d7_tell_83 rfl ?_
    refine z_get hX lf_7_19 (by first | exact hC.o | exact hC.n _ _ rfl | exact hC.a _ _ rfl | exact hC.t _ _ rfl | exact hC.u.1 | exact hC.v.1) rfl d7_tell_84 ?_
    refine z_get hX lf_7_186 (by first | exact hC.o | exact hC.n _ _ rfl | exact hC.a _ _ rfl | exact hC.t _ _ rfl | exact hC.u.1 | exact hC.v.1) rfl d7_tell_87 ?_
    refine z_callS1 hX (spI_bitCount l) lm_7_189 ⟨by decide, by decide, by decide, by decide⟩ (Nat.le_of_ble_eq_true rfl) d7_tell_90 ?_
    refine ⟨_, rfl, hk4, ?_⟩
    dsimp only [Option.toList, List.cons_append, List.nil_append]
    refine z_iret hX hE (by decide) (by decide) d7_tell_93 ?_
    exact hK _ _ _ _ _ _ _ hC hO
  · refine z_tabIn hX 94 d7_tell_1 (by omega) (by omega) (by rw [e]; rfl) (by decide) ?_
    rw [if_neg (by omega), if_neg (by omega), if_neg (by omega), if_neg (by omega), if_neg (by omega), if_pos e] at hK
    refine z_aload_n hX d7_tell_94 rfl ?_
    refine z_get hX lf_7_19 (by first | exact hC.o | exact hC.n _ _ rfl | exact hC.a _ _ rfl | exact hC.t _ _ rfl | exact hC.u.1 | exact hC.v.1) rfl d7_tell_95 ?_
    refine z_aload_n hX d7_tell_98 rfl ?_
    refine z_get hX lf_7_10 (by first | exact hC.o | exact hC.n _ _ rfl | exact hC.a _ _ rfl | exact hC.t _ _ rfl | exact hC.u.1 | exact hC.v.1) rfl d7_tell_99 ?_
    refine z_callV1 hX (sp2_settle l) lm_7_108 (by first | exact hC.o | exact hC.n _ _ rfl | exact hC.a _ _ rfl | exact hC.t _ _ rfl | exact hC.u.1 | exact hC.v.1) ⟨by decide, by decide, by decide, by decide⟩ (Nat.le_of_ble_eq_true rfl) d7_tell_102 ?_
    refine ⟨S.rf, S.ra, S.ld, S.fo, S.fa, S.st, S.n, S.kn, S.to, S.A, S.fr, S.tw, S.pr, S.fm, S.sz, S.dy, S.ct, S.pa, S.sh, S.dl, S.wd, S.mo, S.h, S.hl, S.hd, S.hn, cLo S, rfl, hC.n, hI.ra, hI.rf, hC.r, hI.ro, hC.a, hI.hl, fun _ => rfl, fun fo2 fa2 st2 P' hN hO => ?_⟩
    have hC := hC.dn hI hN hO
    have hO := zDc_out hO (fun j h1 h2 => zDn_f (by omega))
    dsimp only [Option.toList, List.cons_append, List.nil_append]
    refine z_aload_n hX d7_tell_105 rfl ?_
    refine z_get hX lf_7_19 (by first | exact hC.o | exact hC.n _ _ rfl | exact hC.a _ _ rfl | exact hC.t _ _ rfl | exact hC.u.1 | exact hC.v.1) rfl d7_tell_106 ?_
    refine z_get hX lf_7_194 (by first | exact hC.o | exact hC.n _ _ rfl | exact hC.a _ _ rfl | exact hC.t _ _ rfl | exact hC.u.1 | exact hC.v.1) rfl d7_tell_109 ?_
    refine z_callS1 hX (spI_bitCount l) lm_7_189 ⟨by decide, by decide, by decide, by decide⟩ (Nat.le_of_ble_eq_true rfl) d7_tell_112 ?_
    refine ⟨_, rfl, ht4, ?_⟩
    dsimp only [Option.toList, List.cons_append, List.nil_append]
    refine z_aload_n hX d7_tell_115 rfl ?_
    refine z_get hX lf_7_19 (by first | exact hC.o | exact hC.n _ _ rfl | exact hC.a _ _ rfl | exact hC.t _ _ rfl | exact hC.u.1 | exact hC.v.1) rfl d7_tell_116 ?_
    refine z_get hX lf_7_186 (by first | exact hC.o | exact hC.n _ _ rfl | exact hC.a _ _ rfl | exact hC.t _ _ rfl | exact hC.u.1 | exact hC.v.1) rfl d7_tell_119 ?_
    refine z_callS1 hX (spI_bitCount l) lm_7_189 ⟨by decide, by decide, by decide, by decide⟩ (Nat.le_of_ble_eq_true rfl) d7_tell_122 ?_
    refine ⟨_, rfl, hk4, ?_⟩
    dsimp only [Option.toList, List.cons_append, List.nil_append]
    refine z_isub hX d7_tell_125 ?_
    refine z_iret hX hE (by decide) (by decide) d7_tell_126 ?_
    exact hK _ _ _ _ _ _ _ hC hO
  · refine z_tabOut hX 127 d7_tell_1 e (by decide) ?_
    rw [if_neg (by omega), if_neg (by omega), if_neg (by omega), if_neg (by omega), if_neg (by omega), if_neg (by omega)] at hK
    refine z_iconst hX (-1) d7_tell_127 (by decide) ?_
    refine z_iret hX hE (by decide) (by decide) d7_tell_128 ?_
    exact hK _ _ _ _ _ _ P hC.same z_out.rf
theorem appF_lt {tb : Nat → Nat} {t : Nat} {v : Int32} (h : ∀ i, tb i < 256) : ∀ i, appF tb t v i < 256 := fun i => by
  unfold appF va_up
  repeat' split
  all_goals first | exact cBy_lt _ _ | exact h i
def feedC (f : Nat → Nat) (t : Nat) (a b c d e : Int32) : Nat → Nat := appF (appF (appF (appF (appF f t a) (t + 4) b) (t + 8) c) (t + 12) d) (t + 16) e
def S7_feed : z_PT := fun as P nx K => ∃ (S : cS) (v1 v2 v3 v4 v5 : Int32), as = [.ref 1, .int v1, .int v2, .int v3, .int v4, .int v5] ∧ zCl S P ∧ cIv S ∧ (¬ S.tl ≤ 100 → K (some (.int (-1))) P nx) ∧ (S.tl ≤ 100 → ∀ P' : z_H, zCl (cS.mk S.wd S.mo S.h S.hl S.hd S.hn S.rf S.ra S.A S.ld S.fo S.fa S.st S.n S.kn S.to S.fr S.tw S.pr S.pw S.fm S.sh S.sz S.dy S.dl S.ct S.pa (feedC S.tb S.tl v1 v2 v3 v4 v5) (S.tl + 20) S.e S.p S.x S.qa S.qb S.kc S.sc S.N S.le S.gr S.cn S.kd S.sd S.lf S.gf S.dn) P' → z_out zDc P P' → K (some (.int (nI (S.tl + 20)))) P' nx)
set_option maxRecDepth 4000 in
theorem sp7_feed (l : Launch) : z_Sp l M7_feed rM7_feed S7_feed := by
  refine z_enter (by decide) (fun as P nx K h => ?_) (fun X K as P nx hX hE hin0 hS => ?_)
  · obtain ⟨S, v1, v2, v3, v4, v5, rfl, -⟩ := h
    exact Nat.le_of_ble_eq_true rfl
  obtain ⟨S, v1, v2, v3, v4, v5, rfl, hC, hI, k1, k2⟩ := hS
  show z_W X 0 [some (.ref 1), some (.int v1), some (.int v2), some (.int v3), some (.int v4), some (.int v5)] [] P nx 0 0
  have htl := hI.tl
  obtain ⟨P0, hP0⟩ : ∃ P0, P0 = P := ⟨_, rfl⟩
  have hC0 : zCl S P0 := by rw [hP0]; exact hC
  have hO : z_out (zDr 21 23) P0 P := by rw [hP0]; exact z_out.rf
  have ho := hC.o
  have hT := hC.t
  rw [← hP0] at k2
  refine z_aload_n hX d7_feed_0 rfl ?_
  refine z_get hX lf_7_26 (by first | exact ho | exact hT _ _ rfl) rfl d7_feed_1 ?_
  refine z_get hX lf_7_138 (by first | exact ho | exact hT _ _ rfl) rfl d7_feed_4 ?_
  refine z_bipush hX (20) d7_feed_7 (by decide) ?_
  refine z_iadd hX d7_feed_9 ?_
  refine z_bipush hX (120) d7_feed_10 (by decide) ?_
  rw [show nI S.tl + 20 = nI (S.tl + 20) from nI_add S.tl 20]
  refine z_icmp_le hX 17 d7_feed_12 (by decide) (fun h12 => ?_) (fun h12 => ?_)
  · skip
    rw [i_le, nI_toInt (by omega), show (120 : Int32).toInt = 120 from rfl] at h12
    refine z_aload_n hX d7_feed_17 rfl ?_
    refine z_get hX lf_7_26 (by first | exact ho | exact hT _ _ rfl) rfl d7_feed_18 ?_
    refine z_iload_n hX d7_feed_21 rfl ?_
    refine z_callV1 hX (sp6_append l) lm_7_141 (by first | exact ho | exact hT _ _ rfl) ⟨by decide, by decide, by decide, by decide⟩ (Nat.le_of_ble_eq_true rfl) d7_feed_22 ?_
    refine ⟨S.tb, S.tl, S.e, S.p, S.x, v1, rfl, hT, by omega, fun P' hT hO1 => ?_⟩
    have hO := hO.tr hO1
    have ho := (hO 1 (zDr_f (by omega))).trans hC0.o
    dsimp only [Option.toList, List.cons_append, List.nil_append]
    refine z_aload_n hX d7_feed_25 rfl ?_
    refine z_get hX lf_7_26 (by first | exact ho | exact hT _ _ rfl) rfl d7_feed_26 ?_
    refine z_iload_n hX d7_feed_29 rfl ?_
    refine z_callV1 hX (sp6_append l) lm_7_141 (by first | exact ho | exact hT _ _ rfl) ⟨by decide, by decide, by decide, by decide⟩ (Nat.le_of_ble_eq_true rfl) d7_feed_30 ?_
    refine ⟨_, S.tl + 4, S.e, S.p, S.x, v2, rfl, hT, by omega, fun P' hT hO1 => ?_⟩
    have hO := hO.tr hO1
    have ho := (hO 1 (zDr_f (by omega))).trans hC0.o
    dsimp only [Option.toList, List.cons_append, List.nil_append]
    refine z_aload_n hX d7_feed_33 rfl ?_
    refine z_get hX lf_7_26 (by first | exact ho | exact hT _ _ rfl) rfl d7_feed_34 ?_
    refine z_iload_n hX d7_feed_37 rfl ?_
    refine z_callV1 hX (sp6_append l) lm_7_141 (by first | exact ho | exact hT _ _ rfl) ⟨by decide, by decide, by decide, by decide⟩ (Nat.le_of_ble_eq_true rfl) d7_feed_38 ?_
    refine ⟨_, S.tl + 4 + 4, S.e, S.p, S.x, v3, rfl, hT, by omega, fun P' hT hO1 => ?_⟩
    have hO := hO.tr hO1
    have ho := (hO 1 (zDr_f (by omega))).trans hC0.o
    dsimp only [Option.toList, List.cons_append, List.nil_append]
    refine z_aload_n hX d7_feed_41 rfl ?_
    refine z_get hX lf_7_26 (by first | exact ho | exact hT _ _ rfl) rfl d7_feed_42 ?_
    refine z_iload hX d7_feed_45 rfl ?_
    refine z_callV1 hX (sp6_append l) lm_7_141 (by first | exact ho | exact hT _ _ rfl) ⟨by decide, by decide, by decide, by decide⟩ (Nat.le_of_ble_eq_true rfl) d7_feed_47 ?_
    refine ⟨_, S.tl + 4 + 4 + 4, S.e, S.p, S.x, v4, rfl, hT, by omega, fun P' hT hO1 => ?_⟩
    have hO := hO.tr hO1
    have ho := (hO 1 (zDr_f (by omega))).trans hC0.o
    dsimp only [Option.toList, List.cons_append, List.nil_append]
    refine z_aload_n hX d7_feed_50 rfl ?_
    refine z_get hX lf_7_26 (by first | exact ho | exact hT _ _ rfl) rfl d7_feed_51 ?_
    refine z_iload hX d7_feed_54 rfl ?_
    refine z_callV1 hX (sp6_append l) lm_7_141 (by first | exact ho | exact hT _ _ rfl) ⟨by decide, by decide, by decide, by decide⟩ (Nat.le_of_ble_eq_true rfl) d7_feed_56 ?_
    refine ⟨_, S.tl + 4 + 4 + 4 + 4, S.e, S.p, S.x, v5, rfl, hT, by omega, fun P' hT hO1 => ?_⟩
    have hO := hO.tr hO1
    have ho := (hO 1 (zDr_f (by omega))).trans hC0.o
    dsimp only [Option.toList, List.cons_append, List.nil_append]
    refine z_aload_n hX d7_feed_59 rfl ?_
    refine z_get hX lf_7_26 (by first | exact ho | exact hT _ _ rfl) rfl d7_feed_60 ?_
    refine z_get hX lf_7_138 (by first | exact ho | exact hT _ _ rfl) rfl d7_feed_63 ?_
    refine z_iret hX hE (by decide) (by decide) d7_feed_66 ?_
    exact k2 (by omega) _ (hC0.dt hI hT hO) (zDc_out hO (fun j h1 h2 => zDr_f (by omega)))
  · skip
    rw [i_le, nI_toInt (by omega), show (120 : Int32).toInt = 120 from rfl] at h12
    refine z_iconst hX (-1) d7_feed_15 (by decide) ?_
    refine z_iret hX hE (by decide) (by decide) d7_feed_16 ?_
    exact k1 (by omega)
