/-! the class: rules and pass -/
theorem zCl.dtq {S : cS} {P P' : z_H} (h : zCl S P) (hI : cIv S) {p x dn : Nat} {kd sd : Nat → Int32} {lf gf : Nat → Nat → Int32} {e tl : Nat} (g : z_in (zT S.tb tl e p x) P') (gv : zRu S.qb kd sd lf gf dn P') (hO : z_out (zTQ S.qb) P P') : zCl (cS.mk S.wd S.mo S.h S.hl S.hd S.hn S.rf S.ra S.A S.ld S.fo S.fa S.st S.n S.kn S.to S.fr S.tw S.pr S.pw S.fm S.sh S.sz S.dy S.dl S.ct S.pa S.tb (tl) (e) (p) (x) S.qa S.qb S.kc S.sc S.N S.le S.gr S.cn (kd) (sd) (lf) (gf) (dn)) P' := by
  have hq := hI.q
  have hf : ∀ {j}, (j < 21 ∨ 23 < j) → (j < S.qb ∨ S.qb + 22 < j) → zTQ S.qb j = false := fun {j} h1 h2 => by
    unfold zTQ zQ
    rw [zDr_f h1, zDr_f h2]
    rfl
  refine ⟨by rw [hO 1 (hf (by omega) (by omega))]; exact h.o, h.a.keep hO (fun k c q => hf (by have := zA_dom q; omega) (by have := zA_dom q; omega)), h.n.keep hO (fun k c q => hf (by have := zN_dom q; omega) (by have := zN_dom q; omega)), h.r.keep hO (fun j hj => hf (by omega) (by omega)), g, zRu_out (q := S.qa) h.u hO (fun j h1 h2 => hf (by omega) (by omega)), gv⟩
/-- the spare rules in force -/
def cSwp (S : cS) (tl p x e : Nat) (kc sc : Nat → Int32) (N : Nat → Nat) (le gr : Nat → Nat → Int32) (cn : Nat) : cS := (cS.mk S.wd S.mo S.h S.hl S.hd S.hn S.rf S.ra S.A S.ld S.fo S.fa S.st S.n S.kn S.to S.fr S.tw S.pr S.pw S.fm S.sh S.sz S.dy S.dl S.ct S.pa S.tb (tl) (e) (p) (x) (S.qb) (S.qa) (kc) (sc) (N) (le) (gr) (cn) (S.kc) (S.sc) (S.le) (S.gr) (S.cn))
theorem ruF_lt {tb : Nat → Nat} {e : Nat} (he : e ≤ 120) : ∀ (k m : Nat), rPos tb e m < 700 → ruF tb e k m < 2 ^ 30
  | 0, m, h => by show 0 < 2 ^ 30; decide
  | k + 1, m, h => by
    rw [ruF_s]
    have h1 := clG_lt (tb := tb) (m := m) he h
    split
    · omega
    · rename_i hz
      have hz := clG_0 (Decidable.not_not.mp hz)
      have hq := clQ_le hz.1
      split
      · decide
      · exact ruF_lt he k (m + 1) (by show clQ tb e (rPos tb e m) + 1 < 700; omega)
theorem rdF_lt {tb : Nat → Nat} {e : Nat} (he : e ≤ 120) : rdF tb e < 2 ^ 30 := by
  unfold rdF
  split
  · decide
  · exact ruF_lt he 10 0 (show 0 < 700 by decide)
theorem zCl.swp {S : cS} {P P' : z_H} (h : zCl S P) (hI : cIv S) {p x cn : Nat} {kc sc : Nat → Int32} {N : Nat → Nat} {le gr : Nat → Nat → Int32} {e tl : Nat} {c1 c2 : z_C} (g : z_in (zT S.tb tl e p x) P') (gv : zRu S.qb kc sc le gr cn P') (hO : z_out (zTQ S.qb) P P') (hc : c2 = .inr (7, [.ref 2, .ref 15, .ref 21, .ref 23, .ref S.qb, .ref S.qa])) : zCl (cSwp S tl p x e kc sc N le gr cn) (z_up (z_up P' 1 c1) 1 c2) := by
  have hq := hI.q
  have hf : ∀ {j}, (j < 21 ∨ 23 < j) → (j < S.qb ∨ S.qb + 22 < j) → zTQ S.qb j = false := fun {j} h1 h2 => by
    unfold zTQ zQ
    rw [zDr_f h1, zDr_f h2]
    rfl
  have hO2 : z_out (fun j => decide (j = 1)) P' (z_up (z_up P' 1 c1) 1 c2) := (z_out.rf.up (decide_eq_true rfl)).up (decide_eq_true rfl)
  refine ⟨by rw [z_up_s, hc]; rfl, (h.a.keep hO (fun k c q => hf (by have := zA_dom q; omega) (by have := zA_dom q; omega))).keep hO2 (fun k c q => decide_eq_false (by have := zA_dom q; omega)), (h.n.keep hO (fun k c q => hf (by have := zN_dom q; omega) (by have := zN_dom q; omega))).keep hO2 (fun k c q => decide_eq_false (by have := zN_dom q; omega)), (h.r.keep hO (fun j hj => hf (by omega) (by omega))).keep hO2 (fun j hj => decide_eq_false (by omega)), g.keep hO2 (fun k c q => decide_eq_false (by have := zT_dom q; omega)), zRu_out (q := S.qb) gv hO2 (fun j h1 h2 => decide_eq_false (by omega)), zRu_out (q := S.qa) (zRu_out (q := S.qa) h.u hO (fun j h1 h2 => hf (by omega) (by omega))) hO2 (fun j h1 h2 => decide_eq_false (by omega))⟩
def S7_rules : z_PT := fun as P nx K => ∃ (S : cS) (n : Int32), as = [.ref 1, .int n] ∧ zCl S P ∧ cIv S ∧ (n.toInt < 0 ∨ (S.tl : Int) < n.toInt → K (some (.int (-1))) P nx) ∧ (∀ e : Nat, n = nI e → e ≤ S.tl → rdF S.tb e ≠ 0 → ∀ (p x dn : Nat) (kd sd : Nat → Int32) (lf gf : Nat → Nat → Int32) (P' : z_H), zCl (cS.mk S.wd S.mo S.h S.hl S.hd S.hn S.rf S.ra S.A S.ld S.fo S.fa S.st S.n S.kn S.to S.fr S.tw S.pr S.pw S.fm S.sh S.sz S.dy S.dl S.ct S.pa S.tb (0) (e) (p) (x) S.qa S.qb S.kc S.sc S.N S.le S.gr S.cn (kd) (sd) (lf) (gf) (dn)) P' → z_out zDc P P' → K (some (.int (nI (rdF S.tb e)))) P' nx) ∧ (∀ e : Nat, n = nI e → e ≤ S.tl → rdF S.tb e = 0 → ∀ (p x : Nat) (kc sc : Nat → Int32) (le gr : Nat → Nat → Int32) (cn : Nat) (P' : z_H), (cn = rdN S.tb e ∧ cn ≤ 9 ∧ ∀ m, m < cn → gC S.tb e (rPos S.tb e m) (kc m) (sc m) (le m) (gr m) ∧ clF S.tb e (rPos S.tb e m) m = 0) → (∀ N : Nat → Nat, zCl (cSwp S 0 p x e kc sc N le gr cn) P') → z_out zDc P P' → K (some (.int 0)) P' nx)
set_option maxRecDepth 4000 in
theorem sp7_rules (l : Launch) : z_Sp l M7_rules rM7_rules S7_rules := by
  refine z_enter (by decide) (fun as P nx K h => ?_) (fun X K as P nx hX hE hin0 hS => ?_)
  · obtain ⟨S, n, rfl, -⟩ := h
    exact Nat.le_of_ble_eq_true rfl
  obtain ⟨S, n, rfl, hC, hI, k1, k2, k3⟩ := hS
  refine z_pad 2 ?_
  show z_W X 0 [some (.ref 1), some (.int n), none, none] [] P nx 0 0
  have htl := hI.tl
  have hq := hI.q
  by_cases hn : n.toInt < 0 ∨ (S.tl : Int) < n.toInt
  · skip
    refine z_iload_n hX d7_rules_0 rfl ?_
    refine z_if_lt hX 15 d7_rules_1 (by decide) (fun h1 => ?_) (fun h1 => ?_)
    · skip
      refine z_iconst hX (-1) d7_rules_15 (by decide) ?_
      refine z_iret hX hE (by decide) (by decide) d7_rules_16 ?_
      exact k1 hn
    · skip
      rw [i_lt, show (0 : Int32).toInt = 0 from rfl] at h1
      refine z_iload_n hX d7_rules_4 rfl ?_
      refine z_aload_n hX d7_rules_5 rfl ?_
      refine z_get hX lf_7_26 (by first | exact hC.o | exact hC.n _ _ rfl | exact hC.a _ _ rfl | exact hC.t _ _ rfl | exact hC.u.1 | exact hC.v.1) rfl d7_rules_6 ?_
      refine z_get hX lf_7_138 (by first | exact hC.o | exact hC.n _ _ rfl | exact hC.a _ _ rfl | exact hC.t _ _ rfl | exact hC.u.1 | exact hC.v.1) rfl d7_rules_9 ?_
      refine z_icmp_le hX 17 d7_rules_12 (by decide) (fun h12 => ?_) (fun h12 => ?_)
      · rw [i_le, nI_toInt (by omega)] at h12
        omega
      refine z_iconst hX (-1) d7_rules_15 (by decide) ?_
      refine z_iret hX hE (by decide) (by decide) d7_rules_16 ?_
      exact k1 hn
  obtain ⟨e, he, rfl⟩ : ∃ e : Nat, e < S.tl + 1 ∧ n = nI e := nI_rng (by omega) (by omega)
  have k2 := k2 e rfl (by omega)
  have k3 := k3 e rfl (by omega)
  have hfl : rdF S.tb e < 2 ^ 30 := rdF_lt (by omega)
  have ho := hC.o
  have hT := hC.t
  have hf1 : zTQ S.qb 1 = false := by unfold zTQ zQ; rw [zDr_f (by omega), zDr_f (by omega)]; rfl
  refine z_iload_n hX d7_rules_0 rfl ?_
  refine z_if_lt hX 15 d7_rules_1 (by decide) (fun h1 => ?_) (fun h1 => ?_)
  · exact absurd h1 (nI_pos (by omega))
  refine z_iload_n hX d7_rules_4 rfl ?_
  refine z_aload_n hX d7_rules_5 rfl ?_
  refine z_get hX lf_7_26 (by first | exact ho | exact hT _ _ rfl) rfl d7_rules_6 ?_
  refine z_get hX lf_7_138 (by first | exact ho | exact hT _ _ rfl) rfl d7_rules_9 ?_
  refine z_icmp_le hX 17 d7_rules_12 (by decide) (fun h12 => ?_) (fun h12 => ?_)
  rotate_left
  · exact absurd ((nI_leI (by omega) (by omega)).mpr (by omega)) h12
  refine z_aload_n hX d7_rules_17 rfl ?_
  refine z_get hX lf_7_35 (by first | exact ho | exact hT _ _ rfl) rfl d7_rules_18 ?_
  refine z_iload_n hX d7_rules_21 rfl ?_
  refine z_aload_n hX d7_rules_22 rfl ?_
  refine z_get hX lf_7_46 (by first | exact ho | exact hT _ _ rfl) rfl d7_rules_23 ?_
  refine z_callV2 hX (sp5_read l) lm_7_145 (by first | exact ho | exact hT _ _ rfl) ⟨by decide, by decide, by decide, by decide⟩ (Nat.le_of_ble_eq_true rfl) d7_rules_26 ?_
  refine ⟨S.tb, S.tl, S.e, e, S.p, S.x, S.qb, S.kd, S.sd, S.lf, S.gf, S.dn, rfl, hC.t, hC.v, by omega, htl, by omega, hI.tb, fun p' x' n' kc' sc' le' gr' P' hr1 hT hU hO => ?_⟩
  have ho := (hO 1 hf1).trans hC.o
  dsimp only [Option.toList, List.cons_append, List.nil_append]
  refine z_istore_n hX 2 rfl (by decide) d7_rules_29 ?_
  dsimp only [z_p1, z_p2, z_k, List.headD, List.tail]
  refine z_aload_n hX d7_rules_30 rfl ?_
  refine z_get hX lf_7_26 (by first | exact ho | exact hT _ _ rfl) rfl d7_rules_31 ?_
  refine z_iconst hX (0) d7_rules_34 (by decide) ?_
  refine z_puti hX lf_7_138 rfl rfl (by first | exact ho | exact hT _ _ rfl) (Nat.le_of_ble_eq_true rfl) d7_rules_35 ?_
  have hT := zT_s21 (m := 0) (hT.up 21 (.inr (6, [.ref 22, .int (nI 0)])))
  have hU := zRu_t hU (by omega) (z_out.rf.up (dm := zDr 21 23) (k := 21) (c := .inr (6, [.ref 22, .int (nI 0)])) rfl)
  have hO := hO.up (k := 21) (c := .inr (6, [.ref 22, .int (nI 0)])) (zTQ_t rfl)
  have ho := (hO 1 hf1).trans hC.o
  have hOc := zDc_out (dm := zTQ S.qb) hO (fun j h1 h2 => by unfold zTQ zQ; rw [zDr_f (by omega), zDr_f (by omega)]; rfl)
  refine z_iload_n hX d7_rules_38 rfl ?_
  refine z_if_ne hX 60 d7_rules_39 (by decide) (fun h39 => ?_) (fun h39 => ?_)
  · skip
    rw [nI_n0 (by omega)] at h39
    have fin := k2 h39 _ _ _ _ _ _ _ _ (hC.dtq hI hT hU hO) hOc
    refine z_iload_n hX d7_rules_60 rfl ?_
    refine z_iret hX hE (by decide) (by decide) d7_rules_61 ?_
    first | exact fin | (rw [h39]; exact fin _)
  · skip
    rw [nI_n0 (by omega)] at h39
    have hr1 := hr1 h39
    refine z_aload_n hX d7_rules_42 rfl ?_
    refine z_get hX lf_7_42 (by first | exact ho | exact hT _ _ rfl) rfl d7_rules_43 ?_
    refine z_astore_n hX 3 rfl (by decide) d7_rules_46 ?_
    dsimp only [z_p1, z_p2, z_k, List.headD, List.tail]
    refine z_aload_n hX d7_rules_47 rfl ?_
    refine z_aload_n hX d7_rules_48 rfl ?_
    refine z_get hX lf_7_46 (by first | exact ho | exact hT _ _ rfl) rfl d7_rules_49 ?_
    refine z_putr hX lf_7_42 rfl rfl (by first | exact ho | exact hT _ _ rfl) (Nat.le_of_ble_eq_true rfl) d7_rules_52 ?_
    skip
    refine z_aload_n hX d7_rules_55 rfl ?_
    refine z_aload_n hX d7_rules_56 rfl ?_
    refine z_putr hX lf_7_46 rfl rfl (by rw [z_up_s]) (Nat.le_of_ble_eq_true rfl) d7_rules_57 ?_
    have fin := fun c1 => k3 h39 p' x' kc' sc' le' gr' n' _ hr1 (fun N => hC.swp (N := N) (c1 := c1) hI hT hU hO rfl) ((hOc.up (c := c1) rfl).up rfl)
    refine z_iload_n hX d7_rules_60 rfl ?_
    refine z_iret hX hE (by decide) (by decide) d7_rules_61 ?_
    first | exact fin | (rw [h39]; exact fin _)
def cPas (S : cS) (j : Nat) (v : Nat → Int32) (tl : Nat) : cS := (cS.mk S.wd S.mo S.h S.hl S.hd S.hn S.rf S.ra S.A S.ld S.fo S.fa S.st S.n S.kn S.to S.fr S.tw S.pr S.pw S.fm S.sh S.sz S.dy S.dl S.ct (va_up S.pa j v) S.tb (tl) S.e S.p S.x S.qa S.qb S.kc S.sc S.N S.le S.gr S.cn S.kd S.sd S.lf S.gf S.dn)
theorem cPas_C {S : cS} {j : Nat} {v : Nat → Int32} {P : z_H} (hC : zCl S P) (hI : cIv S) (hj : j < S.n) : zCl (cPas S j v S.tl) (z_up P (94 + 5 * j) (.inl (0, 10, .inl v))) := by
  have hq := hI.q
  have hO : z_out (fun i => decide (i = 94 + 5 * j)) P (z_up P (94 + 5 * j) (.inl (0, 10, .inl v))) := z_out.rf.up (decide_eq_true rfl)
  refine ⟨by rw [hO 1 (decide_eq_false (by omega))]; exact hC.o, hC.a.keep hO (fun k c q => decide_eq_false (by have := zA_dom q; omega)), hC.n.keep hO (fun k c q => decide_eq_false (by have := zN_dom q; omega)), fun r hr => ?_, hC.t.keep hO (fun k c q => decide_eq_false (by have := zT_dom q; omega)), zRu_out (q := S.qa) hC.u hO (fun j h1 h2 => decide_eq_false (by omega)), zRu_out (q := S.qb) hC.v hO (fun j h1 h2 => decide_eq_false (by omega))⟩
  obtain ⟨g1, ⟨g2, g3, g4⟩, g5⟩ := hC.r r hr
  refine ⟨by rw [hO _ (decide_eq_false (by omega))]; exact g1, ⟨by rw [hO _ (decide_eq_false (by omega))]; exact g2, by rw [hO _ (decide_eq_false (by omega))]; exact g3, by rw [hO _ (decide_eq_false (by omega))]; exact g4⟩, ?_⟩
  show _ = some (Sum.inl (0, 10, .inl (va_up S.pa j v r)) : z_C)
  by_cases e : r = j
  · subst e
    rw [z_up_s]
    simp [va_up]
  · rw [hO _ (decide_eq_false (by omega)), g5]
    simp [va_up, e]
def cKdF (S : cS) : Nat → Nat → Nat := kdF S.tb S.kc S.N S.le S.gr S.cn
theorem va_up2 {α : Type} {f : Nat → α} {k : Nat} {x y : α} : va_up (va_up f k x) k y = va_up f k y := by
  funext j
  by_cases e : j = k <;> simp [va_up, e]
theorem va_upself {α : Type} {f : Nat → α} {k : Nat} : va_up f k (f k) = f := by
  funext j
  by_cases e : j = k <;> simp [va_up, e]
def S7_pass : z_PT := fun as P nx K => ∃ (S : cS) (r n : Int32), as = [.ref 1, .int r, .int n] ∧ zCl S P ∧ cIv S ∧ (¬ (0 ≤ r.toInt ∧ r.toInt < S.n ∧ 0 ≤ n.toInt ∧ n.toInt ≤ S.tl) → K (some (.int (-1))) P nx) ∧ (∀ (j e : Nat), r = nI j → j < S.n → n = nI e → e ≤ S.tl → ∀ P' : z_H, zCl (cPas S j (psA S.tb (cKdF S) e (S.pa j)).2.2 0) P' → z_out zDc P P' → K (some (.int (nI (psA S.tb (cKdF S) e (S.pa j)).2.1))) P' nx)
set_option maxRecDepth 4000 in
theorem sp7_pass (l : Launch) : z_Sp l M7_pass rM7_pass S7_pass := by
  refine z_enter (by decide) (fun as P nx K h => ?_) (fun X K as P nx hX hE hin0 hS => ?_)
  · obtain ⟨S, r, n, rfl, -⟩ := h
    exact Nat.le_of_ble_eq_true rfl
  obtain ⟨S, r, n, rfl, hC, hI, k1, k2⟩ := hS
  refine z_pad 4 ?_
  show z_W X 0 [some (.ref 1), some (.int r), some (.int n), none, none, none, none] [] P nx 0 0
  have htl := hI.tl
  have hq := hI.q
  by_cases hr : 0 ≤ r.toInt ∧ r.toInt < S.n
  rotate_left
  · skip
    refine z_aload_n hX d7_pass_0 rfl ?_
    refine z_get hX lf_7_19 (by first | exact hC.o | exact hC.n _ _ rfl | exact hC.a _ _ rfl | exact hC.t _ _ rfl | exact hC.u.1 | exact hC.v.1) rfl d7_pass_1 ?_
    refine z_iload_n hX d7_pass_4 rfl ?_
    refine z_callV1 hX (sp2_at l) lm_7_74 (by first | exact hC.o | exact hC.n _ _ rfl | exact hC.a _ _ rfl | exact hC.t _ _ rfl | exact hC.u.1 | exact hC.v.1) ⟨by decide, by decide, by decide, by decide⟩ (Nat.le_of_ble_eq_true rfl) d7_pass_5 ?_
    refine ⟨S.rf, S.ra, S.ld, S.fo, S.fa, S.st, S.n, S.kn, S.to, r, rfl, hC.n, hI.rf, fun z => absurd z hr, fun _ => ?_⟩
    dsimp only [Option.toList, List.cons_append, List.nil_append]
    refine z_astore_nN hX 3 rfl (by decide) d7_pass_8 ?_
    dsimp only [z_p1, z_p2, z_k, List.headD, List.tail]
    refine z_aload_nN hX d7_pass_9 rfl ?_
    refine z_ifnullN hX 28 d7_pass_10 (by decide) ?_
    refine z_iconst hX (-1) d7_pass_28 (by decide) ?_
    refine z_iret hX hE (by decide) (by decide) d7_pass_29 ?_
    exact k1 (fun z => hr ⟨z.1, z.2.1⟩)
  obtain ⟨j, hj, rfl⟩ := nI_rng hr.1 hr.2
  have hj12 : j < 12 := Nat.lt_of_lt_of_le hj hI.rf.1
  by_cases hn : 0 ≤ n.toInt ∧ n.toInt ≤ S.tl
  rotate_left
  · skip
    refine z_aload_n hX d7_pass_0 rfl ?_
    refine z_get hX lf_7_19 (by first | exact hC.o | exact hC.n _ _ rfl | exact hC.a _ _ rfl | exact hC.t _ _ rfl | exact hC.u.1 | exact hC.v.1) rfl d7_pass_1 ?_
    refine z_iload_n hX d7_pass_4 rfl ?_
    refine z_callV1 hX (sp2_at l) lm_7_74 (by first | exact hC.o | exact hC.n _ _ rfl | exact hC.a _ _ rfl | exact hC.t _ _ rfl | exact hC.u.1 | exact hC.v.1) ⟨by decide, by decide, by decide, by decide⟩ (Nat.le_of_ble_eq_true rfl) d7_pass_5 ?_
    refine ⟨S.rf, S.ra, S.ld, S.fo, S.fa, S.st, S.n, S.kn, S.to, nI j, rfl, hC.n, hI.rf, fun _ => ?_, fun z => absurd hr z⟩
    rw [tN (n := 12) hj12 (by decide)]
    dsimp only [Option.toList, List.cons_append, List.nil_append]
    refine z_astore_n hX 3 rfl (by decide) d7_pass_8 ?_
    dsimp only [z_p1, z_p2, z_k, List.headD, List.tail]
    refine z_aload_n hX d7_pass_9 rfl ?_
    refine z_ifnull hX d7_pass_10 ?_
    refine z_iload_n hX d7_pass_13 rfl ?_
    refine z_if_lt hX 28 d7_pass_14 (by decide) (fun h14 => ?_) (fun h14 => ?_)
    · skip
      refine z_iconst hX (-1) d7_pass_28 (by decide) ?_
      refine z_iret hX hE (by decide) (by decide) d7_pass_29 ?_
      exact k1 (fun z => hn z.2.2)
    · skip
      rw [i_lt, show (0 : Int32).toInt = 0 from rfl] at h14
      refine z_iload_n hX d7_pass_17 rfl ?_
      refine z_aload_n hX d7_pass_18 rfl ?_
      refine z_get hX lf_7_26 (by first | exact hC.o | exact hC.n _ _ rfl | exact hC.a _ _ rfl | exact hC.t _ _ rfl | exact hC.u.1 | exact hC.v.1) rfl d7_pass_19 ?_
      refine z_get hX lf_7_138 (by first | exact hC.o | exact hC.n _ _ rfl | exact hC.a _ _ rfl | exact hC.t _ _ rfl | exact hC.u.1 | exact hC.v.1) rfl d7_pass_22 ?_
      refine z_icmp_le hX 30 d7_pass_25 (by decide) (fun h25 => ?_) (fun h25 => ?_)
      · rw [i_le, nI_toInt (by omega)] at h25
        omega
      refine z_iconst hX (-1) d7_pass_28 (by decide) ?_
      refine z_iret hX hE (by decide) (by decide) d7_pass_29 ?_
      exact k1 (fun z => hn z.2.2)
  obtain ⟨e, he, rfl⟩ : ∃ e : Nat, e < S.tl + 1 ∧ n = nI e := nI_rng hn.1 (by omega)
  have k2 := k2 j e rfl hj rfl (by omega)
  obtain ⟨P0, hP0⟩ : ∃ P0, P0 = P := ⟨_, rfl⟩
  rw [← hP0] at k2
  have hO : z_out zDc P0 P := by rw [hP0]; exact z_out.rf
  have loop : ∀ (f k : Nat) (s : Nat × Nat × (Nat → Int32)) (P : z_H), k + f = e + 1 → s.1 ≤ k → psR S.tb (cKdF S) e f k s = psA S.tb (cKdF S) e (S.pa j) → zCl (cPas S j s.2.2 S.tl) P → z_out zDc P0 P → z_W X 39 [some (.ref 1), some (.int (nI j)), some (.int (nI e)), some (.ref (90 + 5 * j)), some (.int (nI s.2.1)), some (.int (nI s.1)), some (.int (nI k))] [] P nx 0 0 := by
    intro f
    induction f with
    | zero =>
      intro k s P hk hs1 hs hC hO
      rw [show psR S.tb (cKdF S) e 0 k s = s from rfl] at hs
      refine z_iload hX d7_pass_39 rfl ?_
      refine z_iload_n hX d7_pass_41 rfl ?_
      refine z_icmp_gt hX 115 d7_pass_42 (by decide) (fun h42 => ?_) (fun h42 => ?_)
      rotate_left
      · exact absurd (nI_lt (by omega) (by omega)) h42
      refine z_aload_n hX d7_pass_115 rfl ?_
      refine z_get hX lf_7_26 (by first | exact hC.o | exact hC.t _ _ rfl) rfl d7_pass_116 ?_
      refine z_iconst hX (0) d7_pass_119 (by decide) ?_
      refine z_puti hX lf_7_138 rfl rfl (by first | exact hC.o | exact hC.t _ _ rfl) (Nat.le_of_ble_eq_true rfl) d7_pass_120 ?_
      have hT2 := zT_s21 (m := 0) (hC.t.up 21 (.inr (6, [.ref 22, .int (nI 0)])))
      have hC := hC.dt (⟨hI.q, hI.rf, hI.ra, hI.hl, hI.ro, hI.pr, hI.tb, hI.tl, hI.cn, hI.sc, hI.kc⟩ : cIv (cPas S j s.2.2 S.tl)) hT2 (z_out.rf.up rfl)
      refine z_iload hX d7_pass_123 rfl ?_
      refine z_iret hX hE (by decide) (by decide) d7_pass_125 ?_
      rw [← hs] at k2
      exact k2 _ hC (hO.up rfl)
    | succ f ih =>
      intro k s P hk hs1 hs hC hO
      have hIp : cIv (cPas S j s.2.2 S.tl) := ⟨hI.q, hI.rf, hI.ra, hI.hl, hI.ro, hI.pr, hI.tb, hI.tl, hI.cn, hI.sc, hI.kc⟩
      obtain ⟨hR1, hR2, hR3⟩ := hC.r j hj
      rw [show (cPas S j s.2.2 S.tl).pa j = s.2.2 from (by show va_up S.pa j s.2.2 j = s.2.2; simp [va_up])] at hR3
      have cont : ∀ (x y : Nat) (v : Nat → Int32) (P : z_H), psS S.tb (cKdF S) e k s = (x, y, v) → zCl (cPas S j v S.tl) P → z_out zDc P0 P → z_W X 109 [some (.ref 1), some (.int (nI j)), some (.int (nI e)), some (.ref (90 + 5 * j)), some (.int (nI y)), some (.int (nI x)), some (.int (nI k))] [] P nx 0 0 := by
        intro x y v P hx hC hO
        have hx1 : x ≤ k + 1 := by
          have h1 : x = (psS S.tb (cKdF S) e k s).1 := by rw [hx]
          rw [h1]
          unfold psS
          repeat' split
          all_goals simp
          all_goals omega
        refine z_iinc hX (1) (by decide) rfl (by decide) d7_pass_109 ?_
        dsimp only [z_p1, z_p2, z_k, List.headD, List.tail]
        refine z_goto hX 39 d7_pass_112 (by decide) ?_
        rw [nI_1]
        refine ih (k + 1) (x, y, v) P (by omega) hx1 ?_ hC hO
        rw [← hx]
        exact hs
      refine z_iload hX d7_pass_39 rfl ?_
      refine z_iload_n hX d7_pass_41 rfl ?_
      refine z_icmp_gt hX 115 d7_pass_42 (by decide) (fun h42 => ?_) (fun h42 => ?_)
      · rw [i_lt, nI_toInt (by omega), nI_toInt (by omega)] at h42
        omega
      refine z_iload hX d7_pass_45 rfl ?_
      refine z_iload_n hX d7_pass_47 rfl ?_
      refine z_icmp_ge hX 66 d7_pass_48 (by decide) (fun h48 => ?_) (fun h48 => ?_)
      · skip
        rw [nI_leI (by omega) (by omega)] at h48
        have hc : ¬ (k < e ∧ S.tb k ≠ 0) := fun z => by omega
        refine z_iload hX d7_pass_66 rfl ?_
        refine z_iload hX d7_pass_68 rfl ?_
        refine z_icmp_le hX 103 d7_pass_70 (by decide) (fun h70 => ?_) (fun h70 => ?_)
        · skip
          rw [nI_leI (by omega) (by omega)] at h70
          have hs : psS S.tb (cKdF S) e k s = (k + 1, s.2.1, s.2.2) := by unfold psS; rw [if_neg hc, if_neg (by omega)]
          have fin := cont (k + 1) s.2.1 s.2.2 P hs hC hO
          refine z_iload hX d7_pass_103 rfl ?_
          refine z_iconst hX (1) d7_pass_105 (by decide) ?_
          refine z_iadd hX d7_pass_106 ?_
          refine z_istore hX (by decide) d7_pass_107 ?_
          dsimp only [z_p1, z_p2, z_k, List.headD, List.tail]
          try simp only [nI_1]
          exact z_sub fin (by repeat' (first | exact trivial | refine ⟨rfl, ?_⟩))
        · skip
          rw [nI_leI (by omega) (by omega)] at h70
          obtain ⟨q1, q2⟩ := kdF_e (tb := S.tb) (N := S.N) (le := S.le) (gr := S.gr) (A := s.1) (B := k) hI.kc
          have hs : psS S.tb (cKdF S) e k s = (k + 1, s.2.1 + 1, upd s.2.2 (cKdF S s.1 k) (s.2.2 (cKdF S s.1 k) + 1)) := by unfold psS; rw [if_neg hc, if_pos (by omega)]
          refine z_aload_n hX d7_pass_73 rfl ?_
          refine z_get hX lf_7_152 (by first | exact hC.o | exact hC.t _ _ rfl | exact hC.u.1 | exact hR1) rfl d7_pass_74 ?_
          refine z_aload_n hX d7_pass_77 rfl ?_
          refine z_get hX lf_7_42 (by first | exact hC.o | exact hC.t _ _ rfl | exact hC.u.1 | exact hR1) rfl d7_pass_78 ?_
          refine z_aload_n hX d7_pass_81 rfl ?_
          refine z_get hX lf_7_26 (by first | exact hC.o | exact hC.t _ _ rfl | exact hC.u.1 | exact hR1) rfl d7_pass_82 ?_
          refine z_iload hX d7_pass_85 rfl ?_
          refine z_iload hX d7_pass_87 rfl ?_
          refine z_iload hX d7_pass_89 rfl ?_
          refine z_isub hX d7_pass_91 ?_
          rw [pk_sub (show s.1 ≤ k by omega)]
          refine z_callV3 hX (sp4_kindOf l) lm_7_156 (by first | exact hC.o | exact hC.t _ _ rfl | exact hC.u.1 | exact hR1) ⟨by decide, by decide, by decide, by decide⟩ (Nat.le_of_ble_eq_true rfl) d7_pass_92 ?_
          refine ⟨S.tb, S.tl, S.e, S.p, S.x, S.qa, S.kc, S.sc, S.le, S.gr, S.cn, s.1, k - s.1, S.N, rfl, hC.t, hC.u, hI.cn, hI.sc, by omega, htl, trivial, hI.tb, ?_⟩
          rw [q1]
          dsimp only [Option.toList, List.cons_append, List.nil_append]
          refine z_dup2 hX rfl rfl d7_pass_95 ?_
          refine z_iald hX hR3 (vp_in_nI (show kdF S.tb S.kc S.N S.le S.gr S.cn s.1 k < 10 by omega) (by decide)) d7_pass_96 ?_
          refine z_iconst hX (1) d7_pass_97 (by decide) ?_
          refine z_iadd hX d7_pass_98 ?_
          refine z_iast hX hR3 (vp_in_nI (show kdF S.tb S.kc S.N S.le S.gr S.cn s.1 k < 10 by omega) (by decide)) d7_pass_99 ?_
          rw [nI_clamp (show kdF S.tb S.kc S.N S.le S.gr S.cn s.1 k < 2 ^ 31 by omega)]
          have hC3 : zCl (cPas S j (upd s.2.2 (cKdF S s.1 k) (s.2.2 (cKdF S s.1 k) + 1)) S.tl) (z_up P (94 + 5 * j) (.inl (0, 10, .inl (upd s.2.2 (cKdF S s.1 k) (s.2.2 (cKdF S s.1 k) + 1))))) := by
            have := cPas_C (v := upd s.2.2 (cKdF S s.1 k) (s.2.2 (cKdF S s.1 k) + 1)) hC hIp hj
            rw [show cPas (cPas S j s.2.2 S.tl) j (upd s.2.2 (cKdF S s.1 k) (s.2.2 (cKdF S s.1 k) + 1)) (cPas S j s.2.2 S.tl).tl = cPas S j (upd s.2.2 (cKdF S s.1 k) (s.2.2 (cKdF S s.1 k) + 1)) S.tl from (by unfold cPas; exact congrArg (fun z => (cS.mk S.wd S.mo S.h S.hl S.hd S.hn S.rf S.ra S.A S.ld S.fo S.fa S.st S.n S.kn S.to S.fr S.tw S.pr S.pw S.fm S.sh S.sz S.dy S.dl S.ct (z) S.tb (S.tl) S.e S.p S.x S.qa S.qb S.kc S.sc S.N S.le S.gr S.cn S.kd S.sd S.lf S.gf S.dn)) va_up2)] at this
            exact this
          have fin := cont _ _ _ _ hs hC3 (hO.up (by unfold zDc; rw [zDm_f (by omega)]; rfl))
          refine z_iinc hX (1) (by decide) rfl (by decide) d7_pass_100 ?_
          dsimp only [z_p1, z_p2, z_k, List.headD, List.tail]
          refine z_iload hX d7_pass_103 rfl ?_
          refine z_iconst hX (1) d7_pass_105 (by decide) ?_
          refine z_iadd hX d7_pass_106 ?_
          refine z_istore hX (by decide) d7_pass_107 ?_
          dsimp only [z_p1, z_p2, z_k, List.headD, List.tail]
          try simp only [nI_1]
          exact z_sub fin (by repeat' (first | exact trivial | refine ⟨rfl, ?_⟩))
      · skip
        rw [nI_leI (by omega) (by omega)] at h48
        refine z_aload_n hX d7_pass_51 rfl ?_
        refine z_get hX lf_7_26 (by first | exact hC.o | exact hC.t _ _ rfl | exact hC.u.1 | exact hR1) rfl d7_pass_52 ?_
        refine z_iload hX d7_pass_55 rfl ?_
        refine z_callV1 hX (sp6_at l) lm_7_149 (by first | exact hC.o | exact hC.t _ _ rfl | exact hC.u.1 | exact hR1) ⟨by decide, by decide, by decide, by decide⟩ (Nat.le_of_ble_eq_true rfl) d7_pass_57 ?_
        refine ⟨S.tb, S.tl, S.e, S.p, S.x, k, rfl, hC.t, htl, by omega, ?_⟩
        rw [if_pos (show k < S.tl by omega)]
        dsimp only [Option.toList, List.cons_append, List.nil_append]
        refine z_if_eq hX 66 d7_pass_60 (by decide) (fun h60 => ?_) (fun h60 => ?_)
        · skip
          rw [nI_n0 (Nat.lt_trans (hI.tb k) (by decide))] at h60
          have hc : ¬ (k < e ∧ S.tb k ≠ 0) := fun z => z.2 h60
          refine z_iload hX d7_pass_66 rfl ?_
          refine z_iload hX d7_pass_68 rfl ?_
          refine z_icmp_le hX 103 d7_pass_70 (by decide) (fun h70 => ?_) (fun h70 => ?_)
          · skip
            rw [nI_leI (by omega) (by omega)] at h70
            have hs : psS S.tb (cKdF S) e k s = (k + 1, s.2.1, s.2.2) := by unfold psS; rw [if_neg hc, if_neg (by omega)]
            have fin := cont (k + 1) s.2.1 s.2.2 P hs hC hO
            refine z_iload hX d7_pass_103 rfl ?_
            refine z_iconst hX (1) d7_pass_105 (by decide) ?_
            refine z_iadd hX d7_pass_106 ?_
            refine z_istore hX (by decide) d7_pass_107 ?_
            dsimp only [z_p1, z_p2, z_k, List.headD, List.tail]
            try simp only [nI_1]
            exact z_sub fin (by repeat' (first | exact trivial | refine ⟨rfl, ?_⟩))
          · skip
            rw [nI_leI (by omega) (by omega)] at h70
            obtain ⟨q1, q2⟩ := kdF_e (tb := S.tb) (N := S.N) (le := S.le) (gr := S.gr) (A := s.1) (B := k) hI.kc
            have hs : psS S.tb (cKdF S) e k s = (k + 1, s.2.1 + 1, upd s.2.2 (cKdF S s.1 k) (s.2.2 (cKdF S s.1 k) + 1)) := by unfold psS; rw [if_neg hc, if_pos (by omega)]
            refine z_aload_n hX d7_pass_73 rfl ?_
            refine z_get hX lf_7_152 (by first | exact hC.o | exact hC.t _ _ rfl | exact hC.u.1 | exact hR1) rfl d7_pass_74 ?_
            refine z_aload_n hX d7_pass_77 rfl ?_
            refine z_get hX lf_7_42 (by first | exact hC.o | exact hC.t _ _ rfl | exact hC.u.1 | exact hR1) rfl d7_pass_78 ?_
            refine z_aload_n hX d7_pass_81 rfl ?_
            refine z_get hX lf_7_26 (by first | exact hC.o | exact hC.t _ _ rfl | exact hC.u.1 | exact hR1) rfl d7_pass_82 ?_
            refine z_iload hX d7_pass_85 rfl ?_
            refine z_iload hX d7_pass_87 rfl ?_
            refine z_iload hX d7_pass_89 rfl ?_
            refine z_isub hX d7_pass_91 ?_
            rw [pk_sub (show s.1 ≤ k by omega)]
            refine z_callV3 hX (sp4_kindOf l) lm_7_156 (by first | exact hC.o | exact hC.t _ _ rfl | exact hC.u.1 | exact hR1) ⟨by decide, by decide, by decide, by decide⟩ (Nat.le_of_ble_eq_true rfl) d7_pass_92 ?_
            refine ⟨S.tb, S.tl, S.e, S.p, S.x, S.qa, S.kc, S.sc, S.le, S.gr, S.cn, s.1, k - s.1, S.N, rfl, hC.t, hC.u, hI.cn, hI.sc, by omega, htl, trivial, hI.tb, ?_⟩
            rw [q1]
            dsimp only [Option.toList, List.cons_append, List.nil_append]
            refine z_dup2 hX rfl rfl d7_pass_95 ?_
            refine z_iald hX hR3 (vp_in_nI (show kdF S.tb S.kc S.N S.le S.gr S.cn s.1 k < 10 by omega) (by decide)) d7_pass_96 ?_
            refine z_iconst hX (1) d7_pass_97 (by decide) ?_
            refine z_iadd hX d7_pass_98 ?_
            refine z_iast hX hR3 (vp_in_nI (show kdF S.tb S.kc S.N S.le S.gr S.cn s.1 k < 10 by omega) (by decide)) d7_pass_99 ?_
            rw [nI_clamp (show kdF S.tb S.kc S.N S.le S.gr S.cn s.1 k < 2 ^ 31 by omega)]
            have hC3 : zCl (cPas S j (upd s.2.2 (cKdF S s.1 k) (s.2.2 (cKdF S s.1 k) + 1)) S.tl) (z_up P (94 + 5 * j) (.inl (0, 10, .inl (upd s.2.2 (cKdF S s.1 k) (s.2.2 (cKdF S s.1 k) + 1))))) := by
              have := cPas_C (v := upd s.2.2 (cKdF S s.1 k) (s.2.2 (cKdF S s.1 k) + 1)) hC hIp hj
              rw [show cPas (cPas S j s.2.2 S.tl) j (upd s.2.2 (cKdF S s.1 k) (s.2.2 (cKdF S s.1 k) + 1)) (cPas S j s.2.2 S.tl).tl = cPas S j (upd s.2.2 (cKdF S s.1 k) (s.2.2 (cKdF S s.1 k) + 1)) S.tl from (by unfold cPas; exact congrArg (fun z => (cS.mk S.wd S.mo S.h S.hl S.hd S.hn S.rf S.ra S.A S.ld S.fo S.fa S.st S.n S.kn S.to S.fr S.tw S.pr S.pw S.fm S.sh S.sz S.dy S.dl S.ct (z) S.tb (S.tl) S.e S.p S.x S.qa S.qb S.kc S.sc S.N S.le S.gr S.cn S.kd S.sd S.lf S.gf S.dn)) va_up2)] at this
              exact this
            have fin := cont _ _ _ _ hs hC3 (hO.up (by unfold zDc; rw [zDm_f (by omega)]; rfl))
            refine z_iinc hX (1) (by decide) rfl (by decide) d7_pass_100 ?_
            dsimp only [z_p1, z_p2, z_k, List.headD, List.tail]
            refine z_iload hX d7_pass_103 rfl ?_
            refine z_iconst hX (1) d7_pass_105 (by decide) ?_
            refine z_iadd hX d7_pass_106 ?_
            refine z_istore hX (by decide) d7_pass_107 ?_
            dsimp only [z_p1, z_p2, z_k, List.headD, List.tail]
            try simp only [nI_1]
            exact z_sub fin (by repeat' (first | exact trivial | refine ⟨rfl, ?_⟩))
        · skip
          rw [nI_n0 (Nat.lt_trans (hI.tb k) (by decide))] at h60
          have hs : psS S.tb (cKdF S) e k s = s := if_pos ⟨by omega, h60⟩
          have fin := cont s.1 s.2.1 s.2.2 P hs hC hO
          refine z_goto hX 109 d7_pass_63 (by decide) ?_
          try simp only [nI_1]
          exact z_sub fin (by repeat' (first | exact trivial | refine ⟨rfl, ?_⟩))
  refine z_aload_n hX d7_pass_0 rfl ?_
  refine z_get hX lf_7_19 (by first | exact hC.o | exact hC.n _ _ rfl | exact hC.a _ _ rfl | exact hC.t _ _ rfl | exact hC.u.1 | exact hC.v.1) rfl d7_pass_1 ?_
  refine z_iload_n hX d7_pass_4 rfl ?_
  refine z_callV1 hX (sp2_at l) lm_7_74 (by first | exact hC.o | exact hC.n _ _ rfl | exact hC.a _ _ rfl | exact hC.t _ _ rfl | exact hC.u.1 | exact hC.v.1) ⟨by decide, by decide, by decide, by decide⟩ (Nat.le_of_ble_eq_true rfl) d7_pass_5 ?_
  refine ⟨S.rf, S.ra, S.ld, S.fo, S.fa, S.st, S.n, S.kn, S.to, nI j, rfl, hC.n, hI.rf, fun _ => ?_, fun z => absurd hr z⟩
  rw [tN (n := 12) hj12 (by decide)]
  dsimp only [Option.toList, List.cons_append, List.nil_append]
  refine z_astore_n hX 3 rfl (by decide) d7_pass_8 ?_
  dsimp only [z_p1, z_p2, z_k, List.headD, List.tail]
  refine z_aload_n hX d7_pass_9 rfl ?_
  refine z_ifnull hX d7_pass_10 ?_
  refine z_iload_n hX d7_pass_13 rfl ?_
  refine z_if_lt hX 28 d7_pass_14 (by decide) (fun h14 => ?_) (fun h14 => ?_)
  · exact absurd h14 (nI_pos (by omega))
  refine z_iload_n hX d7_pass_17 rfl ?_
  refine z_aload_n hX d7_pass_18 rfl ?_
  refine z_get hX lf_7_26 (by first | exact hC.o | exact hC.n _ _ rfl | exact hC.a _ _ rfl | exact hC.t _ _ rfl | exact hC.u.1 | exact hC.v.1) rfl d7_pass_19 ?_
  refine z_get hX lf_7_138 (by first | exact hC.o | exact hC.n _ _ rfl | exact hC.a _ _ rfl | exact hC.t _ _ rfl | exact hC.u.1 | exact hC.v.1) rfl d7_pass_22 ?_
  refine z_icmp_le hX 30 d7_pass_25 (by decide) (fun h25 => ?_) (fun h25 => ?_)
  rotate_left
  · exact absurd ((nI_leI (by omega) (by omega)).mpr (by omega)) h25
  refine z_iconst hX (0) d7_pass_30 (by decide) ?_
  refine z_istore hX (by decide) d7_pass_31 ?_
  dsimp only [z_p1, z_p2, z_k, List.headD, List.tail]
  refine z_iconst hX (0) d7_pass_33 (by decide) ?_
  refine z_istore hX (by decide) d7_pass_34 ?_
  dsimp only [z_p1, z_p2, z_k, List.headD, List.tail]
  refine z_iconst hX (0) d7_pass_36 (by decide) ?_
  refine z_istore hX (by decide) d7_pass_37 ?_
  dsimp only [z_p1, z_p2, z_k, List.headD, List.tail]
  refine loop (e + 1) 0 (0, 0, S.pa j) P (by omega) (by omega) rfl ?_ hO
  rw [show cPas S j (S.pa j) S.tl = S from (by unfold cPas; rw [va_upself]; rfl)]
  exact hC
