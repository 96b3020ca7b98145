/-! the class's calls, as functions of what it holds -/
def cOkH (S : cS) (d : Int32) : Bool := decide (0 ≤ d.toInt ∧ d.toInt ≤ 363) && (!S.h d.toInt.toNat && decide (S.hn < 20))
def S7_month : z_PT := fun as P nx K => ∃ (S : cS) (s d w : Int32), as = [.ref 1, .int s, .int d, .int w] ∧ zCl S P ∧ cIv S ∧ (mOkM s d w = false → K (some (.int 0)) P nx) ∧ (mOkM s d w = true → ∀ P' : z_H, zCl (cS.mk S.wd (va_up S.mo s.toInt.toNat (upd (S.mo s.toInt.toNat) d.toInt.toNat w)) S.h S.hl S.hd S.hn S.rf S.ra S.A S.ld S.fo S.fa S.st S.n S.kn S.to S.fr S.tw S.pr S.pw S.fm S.sh S.sz S.dy S.dl S.ct S.pa S.tb S.tl S.e S.p S.x S.qa S.qb S.kc S.sc S.N S.le S.gr S.cn S.kd S.sd S.lf S.gf S.dn) P' → z_out zDc P P' → K (some (.int 1)) P' nx)
set_option maxRecDepth 4000 in
theorem sp7_month (l : Launch) : z_Sp l M7_month rM7_month S7_month := by
  refine z_enter (by decide) (fun as P nx K h => ?_) (fun X K as P nx hX hE hin0 hS => ?_)
  · obtain ⟨S, s, d, w, rfl, -⟩ := h
    exact Nat.le_of_ble_eq_true rfl
  obtain ⟨S, s, d, w, rfl, hC, hI, k1, k2⟩ := hS
  show z_W X 0 [some (.ref 1), some (.int s), some (.int d), some (.int w)] [] P nx 0 0
  refine z_iload_n hX d7_month_0 rfl ?_
  refine z_iconst hX (4) d7_month_1 (by decide) ?_
  refine z_callS2 hX (sp7_isBelow l) lm_7_49 ⟨by decide, by decide, by decide, by decide⟩ (Nat.le_of_ble_eq_true rfl) d7_month_2 ?_
  refine ⟨_, _, rfl, ?_⟩
  dsimp only [Option.toList, List.cons_append, List.nil_append]
  refine z_ifb_eq hX 24 d7_month_5 (by decide) (fun h5 => ?_) (fun h5 => ?_)
  · skip
    rw [decide_eq_false_iff_not, show (4 : Int32).toInt = 4 from rfl] at h5
    refine z_iconst hX (0) d7_month_24 (by decide) ?_
    refine z_zret hX hE (by decide) (by decide) (by decide) d7_month_25 ?_
    refine k1 ?_
    unfold mOkM
    simp only [Bool.and_eq_false_iff, decide_eq_false_iff_not]
    omega
  · skip
    rw [decide_eq_true_eq, show (4 : Int32).toInt = 4 from rfl] at h5
    refine z_iload_n hX d7_month_8 rfl ?_
    refine z_bipush hX (13) d7_month_9 (by decide) ?_
    refine z_callS2 hX (sp7_isBelow l) lm_7_49 ⟨by decide, by decide, by decide, by decide⟩ (Nat.le_of_ble_eq_true rfl) d7_month_11 ?_
    refine ⟨_, _, rfl, ?_⟩
    dsimp only [Option.toList, List.cons_append, List.nil_append]
    refine z_ifb_eq hX 24 d7_month_14 (by decide) (fun h14 => ?_) (fun h14 => ?_)
    · skip
      rw [decide_eq_false_iff_not, show (13 : Int32).toInt = 13 from rfl] at h14
      refine z_iconst hX (0) d7_month_24 (by decide) ?_
      refine z_zret hX hE (by decide) (by decide) (by decide) d7_month_25 ?_
      refine k1 ?_
      unfold mOkM
      simp only [Bool.and_eq_false_iff, decide_eq_false_iff_not]
      omega
    · skip
      rw [decide_eq_true_eq, show (13 : Int32).toInt = 13 from rfl] at h14
      refine z_iload_n hX d7_month_17 rfl ?_
      refine z_callS1 hX (sp7_isWeight l) lm_7_53 ⟨by decide, by decide, by decide, by decide⟩ (Nat.le_of_ble_eq_true rfl) d7_month_18 ?_
      refine ⟨_, rfl, ?_⟩
      dsimp only [Option.toList, List.cons_append, List.nil_append]
      refine z_ifb_ne hX 26 d7_month_21 (by decide) (fun h21 => ?_) (fun h21 => ?_)
      · skip
        rw [decide_eq_true_eq] at h21
        obtain ⟨s', hs', rfl⟩ := nI_rng (n := 4) h5.1 h5.2
        obtain ⟨d', hd', rfl⟩ := nI_rng (n := 13) h14.1 h14.2
        rw [tN (n := 4) hs' (by decide), tN (n := 13) hd' (by decide)] at k2
        refine z_aload_n hX d7_month_26 rfl ?_
        refine z_get hX lf_7_10 (by first | exact hC.o | exact hC.a _ _ rfl) rfl d7_month_27 ?_
        refine z_iload_n hX d7_month_30 rfl ?_
        refine z_iload_n hX d7_month_31 rfl ?_
        refine z_iload_n hX d7_month_32 rfl ?_
        refine z_callV3 hX (sp0_weighMonth l) lm_7_61 (by first | exact hC.o | exact hC.a _ _ rfl) ⟨by decide, by decide, by decide, by decide⟩ (Nat.le_of_ble_eq_true rfl) d7_month_33 ?_
        refine ⟨S.wd, S.mo, S.h, S.hl, S.hn, s', d', w, rfl, hC.a, hs', hd', fun P' hA hO => ?_⟩
        dsimp only [Option.toList, List.cons_append, List.nil_append]
        refine z_iconst hX (1) d7_month_36 (by decide) ?_
        refine z_zret hX hE (by decide) (by decide) (by decide) d7_month_37 ?_
        refine k2 ?_ P' (hC.da hI hA hO S.hd) (zDc_out hO (fun j h1 h2 => zDa_f (by omega)))
        unfold mOkM
        simp only [Bool.and_eq_true, decide_eq_true_eq]
        omega
      · skip
        rw [decide_eq_false_iff_not] at h21
        refine z_iconst hX (0) d7_month_24 (by decide) ?_
        refine z_zret hX hE (by decide) (by decide) (by decide) d7_month_25 ?_
        refine k1 ?_
        unfold mOkM
        simp only [Bool.and_eq_false_iff, decide_eq_false_iff_not]
        omega
def S7_holiday : z_PT := fun as P nx K => ∃ (S : cS) (d : Int32), as = [.ref 1, .int d] ∧ zCl S P ∧ cIv S ∧ (cOkH S d = false → K (some (.int 0)) P nx) ∧ (cOkH S d = true → ∀ P' : z_H, zCl (cS.mk S.wd S.mo (va_up S.h d.toInt.toNat true) (upd S.hl S.hn d) (va_up S.hd S.hn d.toInt.toNat) (S.hn + 1) S.rf S.ra S.A S.ld S.fo S.fa S.st S.n S.kn S.to S.fr S.tw S.pr S.pw S.fm S.sh S.sz S.dy S.dl S.ct S.pa S.tb S.tl S.e S.p S.x S.qa S.qb S.kc S.sc S.N S.le S.gr S.cn S.kd S.sd S.lf S.gf S.dn) P' → z_out zDc P P' → K (some (.int 1)) P' nx)
set_option maxRecDepth 4000 in
theorem sp7_holiday (l : Launch) : z_Sp l M7_holiday rM7_holiday S7_holiday := by
  refine z_enter (by decide) (fun as P nx K h => ?_) (fun X K as P nx hX hE hin0 hS => ?_)
  · obtain ⟨S, d, rfl, -⟩ := h
    exact Nat.le_of_ble_eq_true rfl
  obtain ⟨S, d, rfl, hC, hI, k1, k2⟩ := hS
  show z_W X 0 [some (.ref 1), some (.int d)] [] P nx 0 0
  by_cases hd : 0 ≤ d.toInt ∧ d.toInt < 364
  · obtain ⟨j, hj, rfl⟩ := nI_rng (n := 364) hd.1 hd.2
    rw [tN (n := 364) hj (by decide)] at k2
    by_cases hh : (!S.h j && decide (S.hn < 20)) = true
    · skip
      refine z_iload_n hX d7_holiday_0 rfl ?_
      refine z_sipush hX (364) d7_holiday_1 (by decide) ?_
      refine z_callS2 hX (sp7_isBelow l) lm_7_49 ⟨by decide, by decide, by decide, by decide⟩ (Nat.le_of_ble_eq_true rfl) d7_holiday_4 ?_
      refine ⟨_, _, rfl, ?_⟩
      rw [show (364 : Int32).toInt = 364 from rfl, decide_eq_true hd]
      dsimp only [Option.toList, List.cons_append, List.nil_append]
      refine z_ifb_eq hX 25 d7_holiday_7 (by decide) (fun h7 => ?_) (fun h7 => ?_)
      · cases h7
      refine z_aload_n hX d7_holiday_10 rfl ?_
      refine z_get hX lf_7_10 (by first | exact hC.o | exact hC.a _ _ rfl) rfl d7_holiday_11 ?_
      refine z_iload_n hX d7_holiday_14 rfl ?_
      refine z_callV1 hX (sp0_addHoliday l) lm_7_64 (by first | exact hC.o | exact hC.a _ _ rfl) ⟨by decide, by decide, by decide, by decide⟩ (Nat.le_of_ble_eq_true rfl) d7_holiday_15 ?_
      refine ⟨S.wd, S.mo, S.h, S.hl, S.hn, j, rfl, hC.a, hI.hl.1, hj, ?_⟩
      rw [if_pos hh]
      refine fun P' hA hO => ?_
      dsimp only [Option.toList, List.cons_append, List.nil_append]
      rw [show (1 : Int32) = zb true from rfl]
      refine z_ifb_eq hX 25 d7_holiday_18 (by decide) (fun h18 => ?_) (fun h18 => ?_)
      · cases h18
      refine z_iconst hX (1) d7_holiday_21 (by decide) ?_
      refine z_goto hX 26 d7_holiday_22 (by decide) ?_
      refine z_zret hX hE (by decide) (by decide) (by decide) d7_holiday_26 ?_
      refine k2 ?_ P' (hC.da hI hA hO _) (zDc_out hO (fun j h1 h2 => zDa_f (by omega)))
      unfold cOkH
      rw [tN (n := 364) hj (by decide), hh, Bool.and_true]
      exact decide_eq_true (by omega)
    · skip
      refine z_iload_n hX d7_holiday_0 rfl ?_
      refine z_sipush hX (364) d7_holiday_1 (by decide) ?_
      refine z_callS2 hX (sp7_isBelow l) lm_7_49 ⟨by decide, by decide, by decide, by decide⟩ (Nat.le_of_ble_eq_true rfl) d7_holiday_4 ?_
      refine ⟨_, _, rfl, ?_⟩
      rw [show (364 : Int32).toInt = 364 from rfl, decide_eq_true hd]
      dsimp only [Option.toList, List.cons_append, List.nil_append]
      refine z_ifb_eq hX 25 d7_holiday_7 (by decide) (fun h7 => ?_) (fun h7 => ?_)
      · cases h7
      refine z_aload_n hX d7_holiday_10 rfl ?_
      refine z_get hX lf_7_10 (by first | exact hC.o | exact hC.a _ _ rfl) rfl d7_holiday_11 ?_
      refine z_iload_n hX d7_holiday_14 rfl ?_
      refine z_callV1 hX (sp0_addHoliday l) lm_7_64 (by first | exact hC.o | exact hC.a _ _ rfl) ⟨by decide, by decide, by decide, by decide⟩ (Nat.le_of_ble_eq_true rfl) d7_holiday_15 ?_
      refine ⟨S.wd, S.mo, S.h, S.hl, S.hn, j, rfl, hC.a, hI.hl.1, hj, ?_⟩
      rw [if_neg hh]
      dsimp only [Option.toList, List.cons_append, List.nil_append]
      rw [show (0 : Int32) = zb false from rfl]
      refine z_ifb_eq hX 25 d7_holiday_18 (by decide) (fun h18 => ?_) (fun h18 => ?_)
      rotate_left
      · cases h18
      refine z_iconst hX (0) d7_holiday_25 (by decide) ?_
      refine z_zret hX hE (by decide) (by decide) (by decide) d7_holiday_26 ?_
      refine k1 ?_
      unfold cOkH
      rw [tN (n := 364) hj (by decide), (Bool.not_eq_true _).mp hh, Bool.and_false]
  · skip
    refine z_iload_n hX d7_holiday_0 rfl ?_
    refine z_sipush hX (364) d7_holiday_1 (by decide) ?_
    refine z_callS2 hX (sp7_isBelow l) lm_7_49 ⟨by decide, by decide, by decide, by decide⟩ (Nat.le_of_ble_eq_true rfl) d7_holiday_4 ?_
    refine ⟨_, _, rfl, ?_⟩
    rw [show (364 : Int32).toInt = 364 from rfl, decide_eq_false hd]
    dsimp only [Option.toList, List.cons_append, List.nil_append]
    refine z_ifb_eq hX 25 d7_holiday_7 (by decide) (fun h7 => ?_) (fun h7 => ?_)
    rotate_left
    · cases h7
    refine z_iconst hX (0) d7_holiday_25 (by decide) ?_
    refine z_zret hX hE (by decide) (by decide) (by decide) d7_holiday_26 ?_
    refine k1 ?_
    unfold cOkH
    rw [decide_eq_false (by omega), Bool.false_and]
def cOkR (f t p : Int32) : Bool := decide (-1 ≤ f.toInt ∧ f.toInt < 8) && (decide (-1 ≤ t.toInt ∧ t.toInt < 8) && (!decide (f = t) && decide (0 ≤ p.toInt ∧ p.toInt ≤ 9999)))
/-- with a road more -/
def cAdd (S : cS) (f t p : Int32) : cS := (cS.mk S.wd S.mo S.h S.hl S.hd S.hn (va_up S.rf S.n (some (90 + 5 * S.n))) (cAd1 (cAd1 S.ra S.n f) S.n t) S.A S.ld S.fo S.fa S.st (S.n + 1) S.kn S.to (upd S.fr S.n f) (upd S.tw S.n t) (upd S.pr S.n p) (va_up S.pw S.n p.toInt.toNat) (upd S.fm S.n 0) (va_up S.sh S.n 0) (va_up S.sz S.n 0) (va_up S.dy S.n (fun _ => 0)) S.dl (va_up S.ct S.n (fun _ => 0)) (va_up S.pa S.n (fun _ => 0)) S.tb S.tl S.e S.p S.x S.qa S.qb S.kc S.sc S.N S.le S.gr S.cn S.kd S.sd S.lf S.gf S.dn)
theorem cAdd_C {S : cS} {f t p : Int32} {P P' : z_H} (hC : zCl S P) (hI : cIv S) (h1 : z_in (zN (va_up S.rf S.n (some (90 + 5 * S.n))) (cAd1 (cAd1 S.ra S.n f) S.n t) S.ld S.fo S.fa S.st (S.n + 1) S.kn S.to) P') (h2 : P' (90 + 5 * S.n) = some (.inr (3, [.int f, .int t, .int p, .ref (90 + 5 * S.n + 1), .ref (90 + 5 * S.n + 4), .int 0]))) (h3 : zCt (90 + 5 * S.n + 1) 0 (fun _ => 0) (fun _ => 0) P') (h4 : P' (90 + 5 * S.n + 4) = some (.inl (0, 10, .inl (fun _ => 0)))) (h5 : ∀ j, j < 90 + 5 * S.n → zDn j = false → P' j = P j) : zCl (cAdd S f t p) P' := by
  have hq := hI.q
  have hk : ∀ {Q : z_H}, z_in Q P → (∀ k c, Q k = some c → k < 15 ∨ (20 < k ∧ k < 90)) → z_in Q P' := fun g hd k c q => by
    have := hd k c q
    rw [h5 k (by omega) (zDn_f (by omega))]
    exact g k c q
  have hu : ∀ {q : Nat} {kc sc : Nat → Int32} {le gr : Nat → Nat → Int32} {n : Nat}, zRu q kc sc le gr n P → 21 ≤ q → q ≤ 47 → zRu q kc sc le gr n P' := fun {q} {kc} {sc} {le} {gr} {n} g h1 h2 => by
    refine zRu_out (dm := fun j => !(Nat.ble 21 j && Nat.ble j 89)) g (fun j hj => ?_) (fun j h3 h4 => ?_)
    · have hj : (Nat.ble 21 j && Nat.ble j 89) = true := by simpa using hj
      rw [Bool.and_eq_true] at hj
      have a := Nat.le_of_ble_eq_true hj.1
      have b := Nat.le_of_ble_eq_true hj.2
      exact h5 j (by omega) (zDn_f (by omega))
    · show (!(Nat.ble 21 j && Nat.ble j 89)) = false
      rw [Nat.ble_eq_true_of_le (show 21 ≤ j by omega), Nat.ble_eq_true_of_le (show j ≤ 89 by omega)]
      rfl
  refine ⟨by rw [h5 1 (by omega) rfl]; exact hC.o, hk hC.a (fun k c q => by have := zA_dom q; omega), h1, fun r hr => ?_, hk hC.t (fun k c q => by have := zT_dom q; omega), hu (q := S.qa) hC.u (by omega) (by omega), hu (q := S.qb) hC.v (by omega) (by omega)⟩
  show P' (90 + 5 * r) = some (.inr (3, [.int (upd S.fr S.n f r), .int (upd S.tw S.n t r), .int (upd S.pr S.n p r), .ref (91 + 5 * r), .ref (94 + 5 * r), .int (upd S.fm S.n 0 r)])) ∧ zCt (91 + 5 * r) (va_up S.sz S.n 0 r) (va_up S.dy S.n (fun _ => 0) r) (va_up S.ct S.n (fun _ => 0) r) P' ∧ P' (94 + 5 * r) = some (.inl (0, 10, .inl (va_up S.pa S.n (fun _ => 0) r)))
  by_cases e : r = S.n
  · subst e
    simp only [upd, va_up, if_pos]
    rw [show 91 + 5 * S.n = 90 + 5 * S.n + 1 by omega, show 94 + 5 * S.n = 90 + 5 * S.n + 4 by omega]
    exact ⟨h2, h3, h4⟩
  · have hr : r < S.n + 1 := hr
    obtain ⟨g1, ⟨g2, g3, g4⟩, g5⟩ := hC.r r (by omega)
    simp only [upd, va_up, if_neg e]
    have hz : ∀ j, 90 ≤ j → j < 90 + 5 * S.n → P' j = P j := fun j a b => h5 j b (zDn_90 j a)
    exact ⟨by rw [hz _ (by omega) (by omega)]; exact g1, ⟨by rw [hz _ (by omega) (by omega)]; exact g2, by rw [hz _ (by omega) (by omega)]; exact g3, by rw [hz _ (by omega) (by omega)]; exact g4⟩, by rw [hz _ (by omega) (by omega)]; exact g5⟩
def S7_road : z_PT := fun as P nx K => ∃ (S : cS) (f t p : Int32), as = [.ref 1, .int f, .int t, .int p] ∧ zCl S P ∧ cIv S ∧ (nx = 90 + 5 * S.n) ∧ ((cOkR f t p && decide (S.n < 12)) = false → K (some (.int (-1))) P nx) ∧ ((cOkR f t p && decide (S.n < 12)) = true → ∀ P' : z_H, zCl (cAdd S f t p) P' → z_out zDc P P' → K (some (.int (nI S.n))) P' (90 + 5 * S.n + 5))
set_option maxRecDepth 4000 in
theorem sp7_road (l : Launch) : z_Sp l M7_road rM7_road S7_road := by
  refine z_enter (by decide) (fun as P nx K h => ?_) (fun X K as P nx hX hE hin0 hS => ?_)
  · obtain ⟨S, f, t, p, rfl, -⟩ := h
    exact Nat.le_of_ble_eq_true rfl
  obtain ⟨S, f, t, p, rfl, hC, hI, k1, k2, k3⟩ := hS
  show z_W X 0 [some (.ref 1), some (.int f), some (.int t), some (.int p)] [] P nx 0 0
  by_cases hok : cOkR f t p = true
  · unfold cOkR at hok
    simp only [Bool.and_eq_true, decide_eq_true_eq, Bool.not_eq_true', decide_eq_false_iff_not] at hok
    obtain ⟨o1, o2, o3, o4⟩ := hok
    have hok : cOkR f t p = true := by
      unfold cOkR
      simp only [Bool.and_eq_true, decide_eq_true_eq, Bool.not_eq_true', decide_eq_false_iff_not]
      exact ⟨o1, o2, o3, o4⟩
    rw [hok, Bool.true_and] at k2 k3
    by_cases hn : S.n < 12
    · skip
      refine z_iload_n hX d7_road_0 rfl ?_
      refine z_callS1 hX (sp7_isEnd l) lm_7_67 ⟨by decide, by decide, by decide, by decide⟩ (Nat.le_of_ble_eq_true rfl) d7_road_1 ?_
      refine ⟨_, rfl, ?_⟩
      rw [decide_eq_true o1]
      dsimp only [Option.toList, List.cons_append, List.nil_append]
      refine z_ifb_eq hX 30 d7_road_4 (by decide) (fun h4 => ?_) (fun h4 => ?_)
      · cases h4
      refine z_iload_n hX d7_road_7 rfl ?_
      refine z_callS1 hX (sp7_isEnd l) lm_7_67 ⟨by decide, by decide, by decide, by decide⟩ (Nat.le_of_ble_eq_true rfl) d7_road_8 ?_
      refine ⟨_, rfl, ?_⟩
      rw [decide_eq_true o2]
      dsimp only [Option.toList, List.cons_append, List.nil_append]
      refine z_ifb_eq hX 30 d7_road_11 (by decide) (fun h11 => ?_) (fun h11 => ?_)
      · cases h11
      refine z_iload_n hX d7_road_14 rfl ?_
      refine z_iload_n hX d7_road_15 rfl ?_
      refine z_icmp_eq hX 30 d7_road_16 (by decide) (fun h16 => ?_) (fun h16 => ?_)
      · exact absurd h16 o3
      refine z_iload_n hX d7_road_19 rfl ?_
      refine z_if_lt hX 30 d7_road_20 (by decide) (fun h20 => ?_) (fun h20 => ?_)
      · rw [i_lt, show (0 : Int32).toInt = 0 from rfl] at h20
        omega
      refine z_iload_n hX d7_road_23 rfl ?_
      refine z_sipush hX (9999) d7_road_24 (by decide) ?_
      refine z_icmp_le hX 32 d7_road_27 (by decide) (fun h27 => ?_) (fun h27 => ?_)
      rotate_left
      · rw [i_le, show (9999 : Int32).toInt = 9999 from rfl] at h27
        omega
      refine z_aload_n hX d7_road_32 rfl ?_
      refine z_get hX lf_7_19 (by first | exact hC.o | exact hC.n _ _ rfl) rfl d7_road_33 ?_
      refine z_iload_n hX d7_road_36 rfl ?_
      refine z_iload_n hX d7_road_37 rfl ?_
      refine z_iload_n hX d7_road_38 rfl ?_
      refine z_callV3 hX (sp2_add l) lm_7_70 (by first | exact hC.o | exact hC.n _ _ rfl) ⟨by decide, by decide, by decide, by decide⟩ (Nat.le_of_ble_eq_true rfl) d7_road_39 ?_
      refine ⟨S.rf, S.ra, S.ld, S.fo, S.fa, S.st, S.n, S.kn, S.to, f, t, p, rfl, hC.n, hI.rf.1, k1, o1, o2, fun _ P' h1 h2 h3 h4 h5 => ?_, fun z => absurd hn z⟩
      dsimp only [Option.toList, List.cons_append, List.nil_append]
      refine z_iret hX hE (by decide) (by decide) d7_road_42 ?_
      exact k3 (decide_eq_true hn) P' (cAdd_C hC hI h1 h2 h3 h4 h5) (fun j hj => h5 j (by have := zDc_f hj; omega) (zDn_f (by have := zDc_f hj; omega)))
    · skip
      refine z_iload_n hX d7_road_0 rfl ?_
      refine z_callS1 hX (sp7_isEnd l) lm_7_67 ⟨by decide, by decide, by decide, by decide⟩ (Nat.le_of_ble_eq_true rfl) d7_road_1 ?_
      refine ⟨_, rfl, ?_⟩
      rw [decide_eq_true o1]
      dsimp only [Option.toList, List.cons_append, List.nil_append]
      refine z_ifb_eq hX 30 d7_road_4 (by decide) (fun h4 => ?_) (fun h4 => ?_)
      · cases h4
      refine z_iload_n hX d7_road_7 rfl ?_
      refine z_callS1 hX (sp7_isEnd l) lm_7_67 ⟨by decide, by decide, by decide, by decide⟩ (Nat.le_of_ble_eq_true rfl) d7_road_8 ?_
      refine ⟨_, rfl, ?_⟩
      rw [decide_eq_true o2]
      dsimp only [Option.toList, List.cons_append, List.nil_append]
      refine z_ifb_eq hX 30 d7_road_11 (by decide) (fun h11 => ?_) (fun h11 => ?_)
      · cases h11
      refine z_iload_n hX d7_road_14 rfl ?_
      refine z_iload_n hX d7_road_15 rfl ?_
      refine z_icmp_eq hX 30 d7_road_16 (by decide) (fun h16 => ?_) (fun h16 => ?_)
      · exact absurd h16 o3
      refine z_iload_n hX d7_road_19 rfl ?_
      refine z_if_lt hX 30 d7_road_20 (by decide) (fun h20 => ?_) (fun h20 => ?_)
      · rw [i_lt, show (0 : Int32).toInt = 0 from rfl] at h20
        omega
      refine z_iload_n hX d7_road_23 rfl ?_
      refine z_sipush hX (9999) d7_road_24 (by decide) ?_
      refine z_icmp_le hX 32 d7_road_27 (by decide) (fun h27 => ?_) (fun h27 => ?_)
      rotate_left
      · rw [i_le, show (9999 : Int32).toInt = 9999 from rfl] at h27
        omega
      refine z_aload_n hX d7_road_32 rfl ?_
      refine z_get hX lf_7_19 (by first | exact hC.o | exact hC.n _ _ rfl) rfl d7_road_33 ?_
      refine z_iload_n hX d7_road_36 rfl ?_
      refine z_iload_n hX d7_road_37 rfl ?_
      refine z_iload_n hX d7_road_38 rfl ?_
      refine z_callV3 hX (sp2_add l) lm_7_70 (by first | exact hC.o | exact hC.n _ _ rfl) ⟨by decide, by decide, by decide, by decide⟩ (Nat.le_of_ble_eq_true rfl) d7_road_39 ?_
      refine ⟨S.rf, S.ra, S.ld, S.fo, S.fa, S.st, S.n, S.kn, S.to, f, t, p, rfl, hC.n, hI.rf.1, k1, o1, o2, fun z => absurd z hn, fun _ => ?_⟩
      dsimp only [Option.toList, List.cons_append, List.nil_append]
      refine z_iret hX hE (by decide) (by decide) d7_road_42 ?_
      exact k2 (decide_eq_false hn)
  · rw [(Bool.not_eq_true _).mp hok, Bool.false_and] at k2
    refine z_iload_n hX d7_road_0 rfl ?_
    refine z_callS1 hX (sp7_isEnd l) lm_7_67 ⟨by decide, by decide, by decide, by decide⟩ (Nat.le_of_ble_eq_true rfl) d7_road_1 ?_
    refine ⟨_, rfl, ?_⟩
    dsimp only [Option.toList, List.cons_append, List.nil_append]
    refine z_ifb_eq hX 30 d7_road_4 (by decide) (fun h4 => ?_) (fun h4 => ?_)
    · skip
      refine z_iconst hX (-1) d7_road_30 (by decide) ?_
      refine z_iret hX hE (by decide) (by decide) d7_road_31 ?_
      exact k2 rfl
    · skip
      rw [decide_eq_true_eq] at h4
      refine z_iload_n hX d7_road_7 rfl ?_
      refine z_callS1 hX (sp7_isEnd l) lm_7_67 ⟨by decide, by decide, by decide, by decide⟩ (Nat.le_of_ble_eq_true rfl) d7_road_8 ?_
      refine ⟨_, rfl, ?_⟩
      dsimp only [Option.toList, List.cons_append, List.nil_append]
      refine z_ifb_eq hX 30 d7_road_11 (by decide) (fun h11 => ?_) (fun h11 => ?_)
      · skip
        refine z_iconst hX (-1) d7_road_30 (by decide) ?_
        refine z_iret hX hE (by decide) (by decide) d7_road_31 ?_
        exact k2 rfl
      · skip
        rw [decide_eq_true_eq] at h11
        refine z_iload_n hX d7_road_14 rfl ?_
        refine z_iload_n hX d7_road_15 rfl ?_
        refine z_icmp_eq hX 30 d7_road_16 (by decide) (fun h16 => ?_) (fun h16 => ?_)
        · skip
          refine z_iconst hX (-1) d7_road_30 (by decide) ?_
          refine z_iret hX hE (by decide) (by decide) d7_road_31 ?_
          exact k2 rfl
        · skip
          refine z_iload_n hX d7_road_19 rfl ?_
          refine z_if_lt hX 30 d7_road_20 (by decide) (fun h20 => ?_) (fun h20 => ?_)
          · skip
            refine z_iconst hX (-1) d7_road_30 (by decide) ?_
            refine z_iret hX hE (by decide) (by decide) d7_road_31 ?_
            exact k2 rfl
          · skip
            rw [i_lt, show (0 : Int32).toInt = 0 from rfl] at h20
            refine z_iload_n hX d7_road_23 rfl ?_
            refine z_sipush hX (9999) d7_road_24 (by decide) ?_
            refine z_icmp_le hX 32 d7_road_27 (by decide) (fun h27 => ?_) (fun h27 => ?_)
            · rw [i_le, show (9999 : Int32).toInt = 9999 from rfl] at h27
              refine absurd ?_ hok
              unfold cOkR
              simp only [Bool.and_eq_true, decide_eq_true_eq, Bool.not_eq_true', decide_eq_false_iff_not]
              exact ⟨h4, h11, h16, by omega⟩
            refine z_iconst hX (-1) d7_road_30 (by decide) ?_
            refine z_iret hX hE (by decide) (by decide) d7_road_31 ?_
            exact k2 rfl
