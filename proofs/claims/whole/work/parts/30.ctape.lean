/-! THE CLASS: tape, reader's cells, rules -/
/-- tape (21, 22) and reader (23): bytes tb, of them tl; the reader's length e, place p, number x -/
def zT (tb : Nat → Nat) (tl e p x : Nat) : z_H := fun k => match k with
  | 21 => some (.inr (6, [.ref 22, .int (nI tl)]))
  | 22 => some (.inl (0, 120, .inl (fun i => nI (tb i))))
  | 23 => some (.inr (5, [.ref 21, .int (nI e), .int (nI p), .int (nI x)]))
  | _ => none
theorem zT_dom {tb : Nat → Nat} {tl e p x k : Nat} {c : z_C} (q : zT tb tl e p x k = some c) : 21 ≤ k ∧ k ≤ 23 := by
  unfold zT at q
  split at q <;> first | (cases q; done) | omega
theorem zT_s21 {tb : Nat → Nat} {tl e p x m : Nat} {P : z_H} (q : z_in (z_up (zT tb tl e p x) 21 (.inr (6, [.ref 22, .int (nI m)]))) P) : z_in (zT tb m e p x) P := by
  intro k c hk
  refine q k c ?_
  rw [← hk]
  obtain ⟨h1, h2⟩ := zT_dom hk
  rcases (show k = 21 ∨ k = 22 ∨ k = 23 by omega) with e | e | e <;> subst e <;> rfl
theorem zT_s22 {tb tc : Nat → Nat} {tl e p x : Nat} {f : Nat → Int32} {P : z_H} (q : z_in (z_up (zT tb tl e p x) 22 (.inl (0, 120, .inl f))) P) (hf : f = fun i => nI (tc i)) : z_in (zT tc tl e p x) P := by
  subst hf
  intro k c hk
  refine q k c ?_
  rw [← hk]
  obtain ⟨h1, h2⟩ := zT_dom hk
  rcases (show k = 21 ∨ k = 22 ∨ k = 23 by omega) with e | e | e <;> subst e <;> rfl
theorem zT_s23 {tb : Nat → Nat} {tl e p x e2 p2 x2 : Nat} {P : z_H} (q : z_in (z_up (zT tb tl e p x) 23 (.inr (5, [.ref 21, .int (nI e2), .int (nI p2), .int (nI x2)]))) P) : z_in (zT tb tl e2 p2 x2) P := by
  intro k c hk
  refine q k c ?_
  rw [← hk]
  obtain ⟨h1, h2⟩ := zT_dom hk
  rcases (show k = 21 ∨ k = 22 ∨ k = 23 by omega) with e | e | e <;> subst e <;> rfl
/-- a byte of an int -/
def cBy (v : Int32) (k : Nat) : Nat := (ush v (nI k)).toBitVec.toNat % 256
theorem cBy_e (v : Int32) (k : Nat) : ush v (nI k) &&& 255 = nI (cBy v k) := pk_and _ 8 (by decide)
theorem cBy_lt (v : Int32) (k : Nat) : cBy v k < 256 := Nat.mod_lt _ (by decide)
def appF (tb : Nat → Nat) (t : Nat) (v : Int32) : Nat → Nat := va_up (va_up (va_up (va_up tb t (cBy v 24)) (t + 1) (cBy v 16)) (t + 2) (cBy v 8)) (t + 3) (cBy v 0)
theorem tb_upd {tb : Nat → Nat} {t b : Nat} : upd (fun i => nI (tb i)) t (nI b) = fun i => nI (va_up tb t b i) := by
  funext j
  by_cases e : j = t <;> simp [upd, va_up, e]
def S6_append : z_PT := fun as P nx K => ∃ (tb : Nat → Nat) (tl e p x : Nat) (v : Int32), as = [.ref 21, .int v] ∧ z_in (zT tb tl e p x) P ∧ tl + 4 ≤ 120 ∧ ∀ P' : z_H, z_in (zT (appF tb tl v) (tl + 4) e p x) P' → z_out (zDr 21 23) P P' → K none P' nx
theorem sp6_append (l : Launch) : z_Sp l M6_append rM6_append S6_append := by
  refine z_enter (by decide) (fun as P nx K h => ?_) (fun X K as P nx hX hE hin0 hS => ?_)
  · obtain ⟨tb, tl, e, p, x, v, rfl, -⟩ := h
    exact Nat.le_of_ble_eq_true rfl
  obtain ⟨tb, tl, e, p, x, v, rfl, hM, p2, hK⟩ := hS
  refine z_pad 1 ?_
  show z_W X 0 [some (.ref 21), some (.int v), none] [] P nx 0 0
  obtain ⟨P0, hP0⟩ : ∃ P0, P0 = P := ⟨_, rfl⟩
  rw [← hP0] at hK
  have hO : z_out (zDr 21 23) P0 P := by rw [hP0]; exact z_out.rf
  have step : ∀ (kk t : Nat) (tb : Nat → Nat) (P : z_H), kk ≤ 24 → t < 120 → z_in (zT tb t e p x) P → z_out (zDr 21 23) P0 P → (∀ P' : z_H, z_in (zT (va_up tb t (cBy v kk)) (t + 1) e p x) P' → z_out (zDr 21 23) P0 P' → z_W X 3 [some (.ref 21), some (.int v), some (.int (nI kk + (-8)))] [] P' nx 0 0) → z_W X 3 [some (.ref 21), some (.int v), some (.int (nI kk))] [] P nx 0 0 := by
    intro kk t tb P hkk ht hM hO cont
    refine z_iload_n hX d6_append_3 rfl ?_
    refine z_if_lt hX 48 d6_append_4 (by decide) (fun h4 => ?_) (fun h4 => ?_)
    · exact absurd h4 (nI_pos (by omega))
    refine z_aload_n hX d6_append_7 rfl ?_
    refine z_get hX lf_6_15 (hM _ _ rfl) rfl d6_append_8 ?_
    refine z_bipush hX (120) d6_append_11 (by decide) ?_
    refine z_icmp_ge hX 48 d6_append_13 (by decide) (fun h13 => ?_) (fun h13 => ?_)
    · exact absurd h13 (nI_ge (b := 120) (by omega) (by decide))
    refine z_aload_n hX d6_append_16 rfl ?_
    refine z_get hX lf_6_9 (hM _ _ rfl) rfl d6_append_17 ?_
    refine z_aload_n hX d6_append_20 rfl ?_
    refine z_get hX lf_6_15 (hM _ _ rfl) rfl d6_append_21 ?_
    refine z_iload_n hX d6_append_24 rfl ?_
    refine z_iload_n hX d6_append_25 rfl ?_
    refine z_iushr hX d6_append_26 ?_
    refine z_sipush hX (255) d6_append_27 (by decide) ?_
    refine z_iand hX d6_append_30 ?_
    rw [cBy_e]
    refine z_iast hX (hM _ _ rfl) (vp_in_nI (by omega) (by decide)) d6_append_31 ?_
    rw [nI_clamp (show t < 2 ^ 31 by omega)]
    refine z_gen hM hO rfl (fun P hM hO => ?_)
    have hM := zT_s22 hM tb_upd
    refine z_aload_n hX d6_append_32 rfl ?_
    refine z_dup hX rfl d6_append_33 ?_
    refine z_get hX lf_6_15 (hM _ _ rfl) rfl d6_append_34 ?_
    refine z_iconst hX (1) d6_append_37 (by decide) ?_
    refine z_iadd hX d6_append_38 ?_
    rw [nI_1]
    refine z_puti hX lf_6_15 rfl rfl (hM _ _ rfl) (Nat.le_of_ble_eq_true rfl) d6_append_39 ?_
    refine z_gen hM hO rfl (fun P hM hO => ?_)
    have hM := zT_s21 hM
    refine z_iinc hX (-8) (by decide) rfl (by decide) d6_append_42 ?_
    dsimp only [z_p1, z_p2, z_k, List.headD, List.tail]
    refine z_goto hX 3 d6_append_45 (by decide) ?_
    exact cont P hM hO
  refine z_bipush hX (24) d6_append_0 (by decide) ?_
  refine z_istore_n hX 2 rfl (by decide) d6_append_2 ?_
  dsimp only [z_p1, z_p2, z_k, List.headD, List.tail]
  refine step 24 tl tb P (by omega) (by omega) hM hO (fun P hM hO => ?_)
  refine step 16 (tl + 1) _ P (by omega) (by omega) hM hO (fun P hM hO => ?_)
  refine step 8 (tl + 1 + 1) _ P (by omega) (by omega) hM hO (fun P hM hO => ?_)
  refine step 0 (tl + 1 + 1 + 1) _ P (by omega) (by omega) hM hO (fun P hM hO => ?_)
  refine z_iload_n hX d6_append_3 rfl ?_
  refine z_if_lt hX 48 d6_append_4 (by decide) (fun h4 => ?_) (fun h4 => ?_)
  rotate_left
  · exact absurd (by decide) h4
  refine z_vret hX hE (by decide) (by decide) d6_append_48 ?_
  exact hK P hM hO
def S6_at : z_PT := fun as P nx K => ∃ (tb : Nat → Nat) (tl e p x i : Nat), as = [.ref 21, .int (nI i)] ∧ (z_in (zT tb tl e p x) P) ∧ (tl ≤ 120) ∧ (i < 2 ^ 31) ∧ K (some (.int (if i < tl then nI (tb i) else -1))) P nx
set_option maxRecDepth 4000 in
theorem sp6_at (l : Launch) : z_Sp l M6_at rM6_at S6_at := by
  refine z_enter (by decide) (fun as P nx K h => ?_) (fun X K as P nx hX hE hin0 hS => ?_)
  · obtain ⟨tb, tl, e, p, x, i, rfl, -⟩ := h
    exact Nat.le_of_ble_eq_true rfl
  obtain ⟨tb, tl, e, p, x, i, rfl, p1, p2, p3, hK⟩ := hS
  show z_W X 0 [some (.ref 21), some (.int (nI i))] [] P nx 0 0
  have hM := p1
  refine z_iload_n hX d6_at_0 rfl ?_
  refine z_if_lt hX 21 d6_at_1 (by decide) (fun h1 => ?_) (fun h1 => ?_)
  · exact absurd h1 (nI_pos p3)
  refine z_iload_n hX d6_at_4 rfl ?_
  refine z_aload_n hX d6_at_5 rfl ?_
  refine z_get hX lf_6_15 (hM _ _ rfl) rfl d6_at_6 ?_
  refine z_icmp_ge hX 21 d6_at_9 (by decide) (fun h9 => ?_) (fun h9 => ?_)
  · skip
    rw [nI_leI (by omega) p3] at h9
    rw [if_neg (by omega)] at hK
    refine z_iconst hX (-1) d6_at_21 (by decide) ?_
    refine z_iret hX hE (by decide) (by decide) d6_at_22 ?_
    exact hK
  · skip
    rw [nI_leI (by omega) p3] at h9
    rw [if_pos (by omega)] at hK
    refine z_aload_n hX d6_at_12 rfl ?_
    refine z_get hX lf_6_9 (hM _ _ rfl) rfl d6_at_13 ?_
    refine z_iload_n hX d6_at_16 rfl ?_
    refine z_iald hX (hM _ _ rfl) (vp_in_nI (by omega) (by decide)) d6_at_17 ?_
    rw [nI_clamp (show i < 2 ^ 31 by omega)]
    refine z_goto hX 22 d6_at_18 (by decide) ?_
    refine z_iret hX hE (by decide) (by decide) d6_at_22 ?_
    exact hK
/-- stores into rules -/
theorem zRu_n {q : Nat} {kc sc : Nat → Int32} {le gr : Nat → Nat → Int32} {n m : Nat} {P : z_H} (h : zRu q kc sc le gr n P) : zRu q kc sc le gr m (z_up P q (.inr (4, [.ref (q + 1), .ref (q + 2), .ref (q + 3), .ref (q + 13), .int (nI m)]))) := by
  obtain ⟨h1, h2, h3, h4, h5, h6, h7⟩ := h
  exact ⟨z_up_s, by rw [z_up_n (by omega)]; exact h2, by rw [z_up_n (by omega)]; exact h3, by rw [z_up_n (by omega)]; exact h4, fun i hi => by rw [z_up_n (by omega)]; exact h5 i hi, by rw [z_up_n (by omega)]; exact h6, fun i hi => by rw [z_up_n (by omega)]; exact h7 i hi⟩
theorem zRu_k {q : Nat} {kc sc f : Nat → Int32} {le gr : Nat → Nat → Int32} {n : Nat} {P : z_H} (h : zRu q kc sc le gr n P) : zRu q f sc le gr n (z_up P (q + 1) (.inl (0, 9, .inl f))) := by
  obtain ⟨h1, h2, h3, h4, h5, h6, h7⟩ := h
  exact ⟨by rw [z_up_n (by omega)]; exact h1, z_up_s, by rw [z_up_n (by omega)]; exact h3, by rw [z_up_n (by omega)]; exact h4, fun i hi => by rw [z_up_n (by omega)]; exact h5 i hi, by rw [z_up_n (by omega)]; exact h6, fun i hi => by rw [z_up_n (by omega)]; exact h7 i hi⟩
theorem zRu_s {q : Nat} {kc sc f : Nat → Int32} {le gr : Nat → Nat → Int32} {n : Nat} {P : z_H} (h : zRu q kc sc le gr n P) : zRu q kc f le gr n (z_up P (q + 2) (.inl (0, 9, .inl f))) := by
  obtain ⟨h1, h2, h3, h4, h5, h6, h7⟩ := h
  exact ⟨by rw [z_up_n (by omega)]; exact h1, by rw [z_up_n (by omega)]; exact h2, z_up_s, by rw [z_up_n (by omega)]; exact h4, fun i hi => by rw [z_up_n (by omega)]; exact h5 i hi, by rw [z_up_n (by omega)]; exact h6, fun i hi => by rw [z_up_n (by omega)]; exact h7 i hi⟩
theorem zRu_l {q c : Nat} {kc sc f : Nat → Int32} {le gr : Nat → Nat → Int32} {n : Nat} {P : z_H} (h : zRu q kc sc le gr n P) (hc : c < 9) : zRu q kc sc (va_up le c f) gr n (z_up P (q + 3 + 1 + c) (.inl (0, 4, .inl f))) := by
  obtain ⟨h1, h2, h3, h4, h5, h6, h7⟩ := h
  refine ⟨by rw [z_up_n (by omega)]; exact h1, by rw [z_up_n (by omega)]; exact h2, by rw [z_up_n (by omega)]; exact h3, by rw [z_up_n (by omega)]; exact h4, fun i hi => ?_, by rw [z_up_n (by omega)]; exact h6, fun i hi => by rw [z_up_n (by omega)]; exact h7 i hi⟩
  by_cases e : i = c
  · subst e
    rw [z_up_s]
    simp [va_up]
  · rw [z_up_n (by omega), h5 i hi]
    simp [va_up, e]
theorem zRu_g {q c : Nat} {kc sc f : Nat → Int32} {le gr : Nat → Nat → Int32} {n : Nat} {P : z_H} (h : zRu q kc sc le gr n P) (hc : c < 9) : zRu q kc sc le (va_up gr c f) n (z_up P (q + 13 + 1 + c) (.inl (0, 4, .inl f))) := by
  obtain ⟨h1, h2, h3, h4, h5, h6, h7⟩ := h
  refine ⟨by rw [z_up_n (by omega)]; exact h1, by rw [z_up_n (by omega)]; exact h2, by rw [z_up_n (by omega)]; exact h3, by rw [z_up_n (by omega)]; exact h4, fun i hi => by rw [z_up_n (by omega)]; exact h5 i hi, by rw [z_up_n (by omega)]; exact h6, fun i hi => ?_⟩
  by_cases e : i = c
  · subst e
    rw [z_up_s]
    simp [va_up]
  · rw [z_up_n (by omega), h7 i hi]
    simp [va_up, e]
def zQ (q j : Nat) : Bool := zDr q (q + 22) j
def S4_addClause : z_PT := fun as P nx K => ∃ (q : Nat) (kc sc : Nat → Int32) (le gr : Nat → Nat → Int32) (n : Nat) (k : Int32), as = [.ref q, .int k] ∧ zRu q kc sc le gr n P ∧ n < 9 ∧ ∀ P' : z_H, zRu q (upd kc n k) (upd sc n 0) le gr (n + 1) P' → z_out (zQ q) P P' → K none P' nx
theorem sp4_addClause (l : Launch) : z_Sp l M4_addClause rM4_addClause S4_addClause := by
  refine z_enter (by decide) (fun as P nx K h => ?_) (fun X K as P nx hX hE hin0 hS => ?_)
  · obtain ⟨q, kc, sc, le, gr, n, k, rfl, -⟩ := h
    exact Nat.le_of_ble_eq_true rfl
  obtain ⟨q, kc, sc, le, gr, n, k, rfl, hU, p2, hK⟩ := hS
  show z_W X 0 [some (.ref q), some (.int k)] [] P nx 0 0
  refine z_aload_n hX d4_addClause_0 rfl ?_
  refine z_get hX lf_4_26 (by first | exact hU.1 | exact hU.2.1 | exact hU.2.2.1) rfl d4_addClause_1 ?_
  refine z_bipush hX (9) d4_addClause_4 (by decide) ?_
  refine z_icmp_ge hX 39 d4_addClause_6 (by decide) (fun h6 => ?_) (fun h6 => ?_)
  · exact absurd h6 (nI_ge (b := 9) (by omega) (by decide))
  refine z_aload_n hX d4_addClause_9 rfl ?_
  refine z_get hX lf_4_9 (by first | exact hU.1 | exact hU.2.1 | exact hU.2.2.1) rfl d4_addClause_10 ?_
  refine z_aload_n hX d4_addClause_13 rfl ?_
  refine z_get hX lf_4_26 (by first | exact hU.1 | exact hU.2.1 | exact hU.2.2.1) rfl d4_addClause_14 ?_
  refine z_iload_n hX d4_addClause_17 rfl ?_
  refine z_iast hX (by first | exact hU.1 | exact hU.2.1 | exact hU.2.2.1) (vp_in_nI p2 (by decide)) d4_addClause_18 ?_
  rw [nI_clamp (show n < 2 ^ 31 by omega)]
  have hU := zRu_k (f := upd kc n k) hU
  refine z_aload_n hX d4_addClause_19 rfl ?_
  refine z_get hX lf_4_15 (by first | exact hU.1 | exact hU.2.1 | exact hU.2.2.1) rfl d4_addClause_20 ?_
  refine z_aload_n hX d4_addClause_23 rfl ?_
  refine z_get hX lf_4_26 (by first | exact hU.1 | exact hU.2.1 | exact hU.2.2.1) rfl d4_addClause_24 ?_
  refine z_iconst hX (0) d4_addClause_27 (by decide) ?_
  refine z_iast hX (by first | exact hU.1 | exact hU.2.1 | exact hU.2.2.1) (vp_in_nI p2 (by decide)) d4_addClause_28 ?_
  rw [nI_clamp (show n < 2 ^ 31 by omega)]
  have hU := zRu_s (f := upd sc n 0) hU
  refine z_aload_n hX d4_addClause_29 rfl ?_
  refine z_dup hX rfl d4_addClause_30 ?_
  refine z_get hX lf_4_26 (by first | exact hU.1 | exact hU.2.1 | exact hU.2.2.1) rfl d4_addClause_31 ?_
  refine z_iconst hX (1) d4_addClause_34 (by decide) ?_
  refine z_iadd hX d4_addClause_35 ?_
  rw [nI_1]
  refine z_puti hX lf_4_26 rfl rfl (by first | exact hU.1 | exact hU.2.1 | exact hU.2.2.1) (Nat.le_of_ble_eq_true rfl) d4_addClause_36 ?_
  have hU := zRu_n (m := n + 1) hU
  refine z_vret hX hE (by decide) (by decide) d4_addClause_39 ?_
  exact hK _ hU (((z_out.rf.up (zDr_t (by omega) (by omega))).up (zDr_t (by omega) (by omega))).up (zDr_t (by omega) (by omega)))
def S4_addSpanToLast : z_PT := fun as P nx K => ∃ (q : Nat) (kc sc : Nat → Int32) (le gr : Nat → Nat → Int32) (n i : Nat) (a b : Int32), as = [.ref q, .int a, .int b] ∧ zRu q kc sc le gr (n + 1) P ∧ n < 9 ∧ sc n = nI i ∧ i < 4 ∧ ∀ P' : z_H, zRu q kc (upd sc n (nI (i + 1))) (va_up le n (upd (le n) i a)) (va_up gr n (upd (gr n) i b)) (n + 1) P' → z_out (zQ q) P P' → K none P' nx
theorem zRu_el {s b : Nat} (hs : s < 9) : (fun i => if i < 9 then some (b + 1 + i) else none : Nat → Option Nat) (nI s).toNatClampNeg = some (b + 1 + s) := by
  show (if (nI s).toNatClampNeg < 9 then some (b + 1 + (nI s).toNatClampNeg) else none) = _
  rw [nI_clamp (by omega), if_pos hs]
theorem sp4_addSpanToLast (l : Launch) : z_Sp l M4_addSpanToLast rM4_addSpanToLast S4_addSpanToLast := by
  refine z_enter (by decide) (fun as P nx K h => ?_) (fun X K as P nx hX hE hin0 hS => ?_)
  · obtain ⟨q, kc, sc, le, gr, n, i, a, b, rfl, -⟩ := h
    exact Nat.le_of_ble_eq_true rfl
  obtain ⟨q, kc, sc, le, gr, n, i, a, b, rfl, hU, p2, p3, p4, hK⟩ := hS
  refine z_pad 2 ?_
  show z_W X 0 [some (.ref q), some (.int a), some (.int b), none, none] [] P nx 0 0
  refine z_aload_n hX d4_addSpanToLast_0 rfl ?_
  refine z_get hX lf_4_26 (by first | exact hU.1 | exact hU.2.1 | exact hU.2.2.1 | exact hU.2.2.2.1 | exact hU.2.2.2.2.2.1) rfl d4_addSpanToLast_1 ?_
  refine z_iconst hX (1) d4_addSpanToLast_4 (by decide) ?_
  refine z_isub hX d4_addSpanToLast_5 ?_
  rw [nI_pred]
  refine z_istore_n hX 3 rfl (by decide) d4_addSpanToLast_6 ?_
  dsimp only [z_p1, z_p2, z_k, List.headD, List.tail]
  refine z_iload_n hX d4_addSpanToLast_7 rfl ?_
  refine z_if_lt hX 59 d4_addSpanToLast_8 (by decide) (fun h8 => ?_) (fun h8 => ?_)
  · exact absurd h8 (nI_pos (by omega))
  refine z_aload_n hX d4_addSpanToLast_11 rfl ?_
  refine z_get hX lf_4_15 (by first | exact hU.1 | exact hU.2.1 | exact hU.2.2.1 | exact hU.2.2.2.1 | exact hU.2.2.2.2.2.1) rfl d4_addSpanToLast_12 ?_
  refine z_iload_n hX d4_addSpanToLast_15 rfl ?_
  refine z_iald hX (by first | exact hU.1 | exact hU.2.1 | exact hU.2.2.1 | exact hU.2.2.2.1 | exact hU.2.2.2.2.2.1) (vp_in_nI p2 (by decide)) d4_addSpanToLast_16 ?_
  rw [nI_clamp (show n < 2 ^ 31 by omega), p3]
  refine z_iconst hX (4) d4_addSpanToLast_17 (by decide) ?_
  refine z_icmp_ge hX 59 d4_addSpanToLast_18 (by decide) (fun h18 => ?_) (fun h18 => ?_)
  · exact absurd h18 (nI_ge (b := 4) (by omega) (by decide))
  refine z_aload_n hX d4_addSpanToLast_21 rfl ?_
  refine z_get hX lf_4_15 (by first | exact hU.1 | exact hU.2.1 | exact hU.2.2.1 | exact hU.2.2.2.1 | exact hU.2.2.2.2.2.1) rfl d4_addSpanToLast_22 ?_
  refine z_iload_n hX d4_addSpanToLast_25 rfl ?_
  refine z_iald hX (by first | exact hU.1 | exact hU.2.1 | exact hU.2.2.1 | exact hU.2.2.2.1 | exact hU.2.2.2.2.2.1) (vp_in_nI p2 (by decide)) d4_addSpanToLast_26 ?_
  rw [nI_clamp (show n < 2 ^ 31 by omega), p3]
  refine z_istore hX (by decide) d4_addSpanToLast_27 ?_
  dsimp only [z_p1, z_p2, z_k, List.headD, List.tail]
  refine z_aload_n hX d4_addSpanToLast_29 rfl ?_
  refine z_get hX lf_4_20 (by first | exact hU.1 | exact hU.2.1 | exact hU.2.2.1 | exact hU.2.2.2.1 | exact hU.2.2.2.2.2.1) rfl d4_addSpanToLast_30 ?_
  refine z_iload_n hX d4_addSpanToLast_33 rfl ?_
  refine z_aaldA hX (by first | exact hU.1 | exact hU.2.1 | exact hU.2.2.1 | exact hU.2.2.2.1 | exact hU.2.2.2.2.2.1) (vp_in_nI p2 (by decide)) (zRu_el p2) d4_addSpanToLast_34 ?_
  refine z_iload hX d4_addSpanToLast_35 rfl ?_
  refine z_iload_n hX d4_addSpanToLast_37 rfl ?_
  refine z_iast hX (hU.2.2.2.2.1 n p2) (vp_in_nI p4 (by decide)) d4_addSpanToLast_38 ?_
  rw [nI_clamp (show i < 2 ^ 31 by omega)]
  have hU := zRu_l (f := upd (le n) i a) hU p2
  refine z_aload_n hX d4_addSpanToLast_39 rfl ?_
  refine z_get hX lf_4_23 (by first | exact hU.1 | exact hU.2.1 | exact hU.2.2.1 | exact hU.2.2.2.1 | exact hU.2.2.2.2.2.1) rfl d4_addSpanToLast_40 ?_
  refine z_iload_n hX d4_addSpanToLast_43 rfl ?_
  refine z_aaldA hX (by first | exact hU.1 | exact hU.2.1 | exact hU.2.2.1 | exact hU.2.2.2.1 | exact hU.2.2.2.2.2.1) (vp_in_nI p2 (by decide)) (zRu_el p2) d4_addSpanToLast_44 ?_
  refine z_iload hX d4_addSpanToLast_45 rfl ?_
  refine z_iload_n hX d4_addSpanToLast_47 rfl ?_
  refine z_iast hX (hU.2.2.2.2.2.2 n p2) (vp_in_nI p4 (by decide)) d4_addSpanToLast_48 ?_
  rw [nI_clamp (show i < 2 ^ 31 by omega)]
  have hU := zRu_g (f := upd (gr n) i b) hU p2
  refine z_aload_n hX d4_addSpanToLast_49 rfl ?_
  refine z_get hX lf_4_15 (by first | exact hU.1 | exact hU.2.1 | exact hU.2.2.1 | exact hU.2.2.2.1 | exact hU.2.2.2.2.2.1) rfl d4_addSpanToLast_50 ?_
  refine z_iload_n hX d4_addSpanToLast_53 rfl ?_
  refine z_dup2 hX rfl rfl d4_addSpanToLast_54 ?_
  refine z_iald hX (by first | exact hU.1 | exact hU.2.1 | exact hU.2.2.1 | exact hU.2.2.2.1 | exact hU.2.2.2.2.2.1) (vp_in_nI p2 (by decide)) d4_addSpanToLast_55 ?_
  rw [nI_clamp (show n < 2 ^ 31 by omega), p3]
  refine z_iconst hX (1) d4_addSpanToLast_56 (by decide) ?_
  refine z_iadd hX d4_addSpanToLast_57 ?_
  rw [nI_1]
  refine z_iast hX (by first | exact hU.1 | exact hU.2.1 | exact hU.2.2.1 | exact hU.2.2.2.1 | exact hU.2.2.2.2.2.1) (vp_in_nI p2 (by decide)) d4_addSpanToLast_58 ?_
  rw [nI_clamp (show n < 2 ^ 31 by omega)]
  have hU := zRu_s (f := upd sc n (nI (i + 1))) hU
  refine z_vret hX hE (by decide) (by decide) d4_addSpanToLast_59 ?_
  exact hK _ hU (((z_out.rf.up (zDr_t (by omega) (by omega))).up (zDr_t (by omega) (by omega))).up (zDr_t (by omega) (by omega)))
/-- is a vehicle within a clause's first k spans -/
def cWi (tb : Nat → Nat) (le gr : Nat → Nat → Int32) (c A : Nat) : Nat → Bool
  | 0 => true
  | k + 1 => cWi tb le gr c A k && decide ((le c k).toInt ≤ (tb (A + k) : Int) ∧ (tb (A + k) : Int) ≤ (gr c k).toInt)
theorem cWi_f {tb : Nat → Nat} {le gr : Nat → Nat → Int32} {c A k : Nat} (h : decide ((le c k).toInt ≤ (tb (A + k) : Int) ∧ (tb (A + k) : Int) ≤ (gr c k).toInt) = false) : ∀ m, k < m → cWi tb le gr c A m = false
  | 0, hm => absurd hm (Nat.not_lt_zero k)
  | m + 1, hm => by
    unfold cWi
    by_cases e : k = m
    · subst e
      rw [h, Bool.and_false]
    · rw [cWi_f h m (by omega), Bool.false_and]
def S4_isWithin : z_PT := fun as P nx K => ∃ (tb : Nat → Nat) (tl e p x : Nat) (q : Nat) (kc sc : Nat → Int32) (le gr : Nat → Nat → Int32) (n c m A : Nat), as = [.ref q, .int (nI c), .ref 21, .int (nI A)] ∧ (z_in (zT tb tl e p x) P) ∧ (zRu q kc sc le gr n P) ∧ (c < 9) ∧ (sc c = nI m) ∧ (m ≤ 4) ∧ (tl ≤ 120) ∧ (A + m ≤ tl) ∧ (∀ i, tb i < 256) ∧ K (some (.int (zb (cWi tb le gr c A m)))) P nx
set_option maxRecDepth 4000 in
theorem sp4_isWithin (l : Launch) : z_Sp l M4_isWithin rM4_isWithin S4_isWithin := by
  refine z_enter (by decide) (fun as P nx K h => ?_) (fun X K as P nx hX hE hin0 hS => ?_)
  · obtain ⟨tb, tl, e, p, x, q, kc, sc, le, gr, n, c, m, A, rfl, -⟩ := h
    exact Nat.le_of_ble_eq_true rfl
  obtain ⟨tb, tl, e, p, x, q, kc, sc, le, gr, n, c, m, A, rfl, p1, p2, p3, p4, p5, p6, p7, p8, hK⟩ := hS
  refine z_pad 2 ?_
  show z_W X 0 [some (.ref q), some (.int (nI c)), some (.ref 21), some (.int (nI A)), none, none] [] P nx 0 0
  have hU := p2
  have loop : ∀ (k i : Nat), i + k = m → cWi tb le gr c A i = true → z_W X 3 [some (.ref q), some (.int (nI c)), some (.ref 21), some (.int (nI A)), some (.int (nI i)), none] [] P nx 0 0 := by
    intro k
    induction k with
    | zero =>
      intro i hi hw
      have hi : i = m := by omega
      subst hi
      rw [hw] at hK
      refine z_iload hX d4_isWithin_3 rfl ?_
      refine z_aload_n hX d4_isWithin_5 rfl ?_
      refine z_get hX lf_4_15 (by first | exact hU.1 | exact hU.2.1 | exact hU.2.2.1 | exact hU.2.2.2.1 | exact hU.2.2.2.2.2.1) rfl d4_isWithin_6 ?_
      refine z_iload_n hX d4_isWithin_9 rfl ?_
      refine z_iald hX (by first | exact hU.1 | exact hU.2.1 | exact hU.2.2.1 | exact hU.2.2.2.1 | exact hU.2.2.2.2.2.1) (vp_in_nI p3 (by decide)) d4_isWithin_10 ?_
      rw [nI_clamp (show c < 2 ^ 31 by omega), p4]
      refine z_icmp_ge hX 60 d4_isWithin_11 (by decide) (fun h11 => ?_) (fun h11 => ?_)
      rotate_left
      · exact absurd (Int32.le_refl _) h11
      refine z_iconst hX (1) d4_isWithin_60 (by decide) ?_
      refine z_zret hX hE (by decide) (by decide) (by decide) d4_isWithin_61 ?_
      exact hK
    | succ k ih =>
      intro i hi hw
      have hb := p8 (A + i)
      refine z_iload hX d4_isWithin_3 rfl ?_
      refine z_aload_n hX d4_isWithin_5 rfl ?_
      refine z_get hX lf_4_15 (by first | exact hU.1 | exact hU.2.1 | exact hU.2.2.1 | exact hU.2.2.2.1 | exact hU.2.2.2.2.2.1) rfl d4_isWithin_6 ?_
      refine z_iload_n hX d4_isWithin_9 rfl ?_
      refine z_iald hX (by first | exact hU.1 | exact hU.2.1 | exact hU.2.2.1 | exact hU.2.2.2.1 | exact hU.2.2.2.2.2.1) (vp_in_nI p3 (by decide)) d4_isWithin_10 ?_
      rw [nI_clamp (show c < 2 ^ 31 by omega), p4]
      refine z_icmp_ge hX 60 d4_isWithin_11 (by decide) (fun h11 => ?_) (fun h11 => ?_)
      · exact absurd h11 (nI_ge (by omega) (by omega))
      refine z_aload_n hX d4_isWithin_14 rfl ?_
      refine z_iload_n hX d4_isWithin_15 rfl ?_
      refine z_iload hX d4_isWithin_16 rfl ?_
      refine z_iadd hX d4_isWithin_18 ?_
      rw [nI_add]
      refine z_callV1 hX (sp6_at l) lm_4_34 (p1 _ _ rfl) ⟨by decide, by decide, by decide, by decide⟩ (Nat.le_of_ble_eq_true rfl) d4_isWithin_19 ?_
      refine ⟨tb, tl, e, p, x, A + i, rfl, p1, p6, by omega, ?_⟩
      rw [if_pos (show A + i < tl by omega)]
      dsimp only [Option.toList, List.cons_append, List.nil_append]
      refine z_istore hX (by decide) d4_isWithin_22 ?_
      dsimp only [z_p1, z_p2, z_k, List.headD, List.tail]
      refine z_iload hX d4_isWithin_24 rfl ?_
      refine z_aload_n hX d4_isWithin_26 rfl ?_
      refine z_get hX lf_4_20 (by first | exact hU.1 | exact hU.2.1 | exact hU.2.2.1 | exact hU.2.2.2.1 | exact hU.2.2.2.2.2.1) rfl d4_isWithin_27 ?_
      refine z_iload_n hX d4_isWithin_30 rfl ?_
      refine z_aaldA hX (by first | exact hU.1 | exact hU.2.1 | exact hU.2.2.1 | exact hU.2.2.2.1 | exact hU.2.2.2.2.2.1) (vp_in_nI p3 (by decide)) (zRu_el p3) d4_isWithin_31 ?_
      refine z_iload hX d4_isWithin_32 rfl ?_
      refine z_iald hX (hU.2.2.2.2.1 c p3) (vp_in_nI (by omega) (by decide)) d4_isWithin_34 ?_
      rw [nI_clamp (show i < 2 ^ 31 by omega)]
      refine z_icmp_lt hX 52 d4_isWithin_35 (by decide) (fun h35 => ?_) (fun h35 => ?_)
      · skip
        rw [i_lt, nI_toInt (by omega)] at h35
        rw [cWi_f (k := i) (decide_eq_false (by omega)) m (by omega)] at hK
        refine z_iconst hX (0) d4_isWithin_52 (by decide) ?_
        refine z_zret hX hE (by decide) (by decide) (by decide) d4_isWithin_53 ?_
        exact hK
      · skip
        rw [i_lt, nI_toInt (by omega)] at h35
        refine z_iload hX d4_isWithin_38 rfl ?_
        refine z_aload_n hX d4_isWithin_40 rfl ?_
        refine z_get hX lf_4_23 (by first | exact hU.1 | exact hU.2.1 | exact hU.2.2.1 | exact hU.2.2.2.1 | exact hU.2.2.2.2.2.1) rfl d4_isWithin_41 ?_
        refine z_iload_n hX d4_isWithin_44 rfl ?_
        refine z_aaldA hX (by first | exact hU.1 | exact hU.2.1 | exact hU.2.2.1 | exact hU.2.2.2.1 | exact hU.2.2.2.2.2.1) (vp_in_nI p3 (by decide)) (zRu_el p3) d4_isWithin_45 ?_
        refine z_iload hX d4_isWithin_46 rfl ?_
        refine z_iald hX (hU.2.2.2.2.2.2 c p3) (vp_in_nI (by omega) (by decide)) d4_isWithin_48 ?_
        rw [nI_clamp (show i < 2 ^ 31 by omega)]
        refine z_icmp_le hX 54 d4_isWithin_49 (by decide) (fun h49 => ?_) (fun h49 => ?_)
        · skip
          rw [i_le, nI_toInt (by omega)] at h49
          refine z_iinc hX (1) (by decide) rfl (by decide) d4_isWithin_54 ?_
          dsimp only [z_p1, z_p2, z_k, List.headD, List.tail]
          refine z_goto hX 3 d4_isWithin_57 (by decide) ?_
          rw [nI_1]
          refine z_sub (ih (i + 1) (by omega) ?_) (by repeat' (first | exact trivial | refine ⟨rfl, ?_⟩))
          unfold cWi
          rw [hw, decide_eq_true ⟨by omega, by omega⟩]
          rfl
        · skip
          rw [i_le, nI_toInt (by omega)] at h49
          rw [cWi_f (k := i) (decide_eq_false (by omega)) m (by omega)] at hK
          refine z_iconst hX (0) d4_isWithin_52 (by decide) ?_
          refine z_zret hX hE (by decide) (by decide) (by decide) d4_isWithin_53 ?_
          exact hK
  refine z_iconst hX (0) d4_isWithin_0 (by decide) ?_
  refine z_istore hX (by decide) d4_isWithin_1 ?_
  dsimp only [z_p1, z_p2, z_k, List.headD, List.tail]
  exact loop m 0 (by omega) rfl
/-- the kind of a vehicle of len gaps at A, by clauses from c on -/
def cKd (tb : Nat → Nat) (kc : Nat → Int32) (N : Nat → Nat) (le gr : Nat → Nat → Int32) (A len : Nat) : Nat → Nat → Int32
  | 0, _ => 9
  | k + 1, c => if decide (N c = len) && cWi tb le gr c A (N c) then kc c else cKd tb kc N le gr A len k (c + 1)
def S4_kindOf : z_PT := fun as P nx K => ∃ (tb : Nat → Nat) (tl e p x : Nat) (q : Nat) (kc sc : Nat → Int32) (le gr : Nat → Nat → Int32) (n A len : Nat) (N : Nat → Nat), as = [.ref q, .ref 21, .int (nI A), .int (nI len)] ∧ (z_in (zT tb tl e p x) P) ∧ (zRu q kc sc le gr n P) ∧ (n ≤ 9) ∧ (∀ c, c < n → sc c = nI (N c) ∧ N c ≤ 4) ∧ (A + len ≤ tl) ∧ (tl ≤ 120) ∧ (True) ∧ (∀ i, tb i < 256) ∧ K (some (.int (cKd tb kc N le gr A len n 0))) P nx
set_option maxRecDepth 4000 in
theorem sp4_kindOf (l : Launch) : z_Sp l M4_kindOf rM4_kindOf S4_kindOf := by
  refine z_enter (by decide) (fun as P nx K h => ?_) (fun X K as P nx hX hE hin0 hS => ?_)
  · obtain ⟨tb, tl, e, p, x, q, kc, sc, le, gr, n, A, len, N, rfl, -⟩ := h
    exact Nat.le_of_ble_eq_true rfl
  obtain ⟨tb, tl, e, p, x, q, kc, sc, le, gr, n, A, len, N, rfl, p1, p2, p3, p4, p5, p6, p7, p8, hK⟩ := hS
  refine z_pad 1 ?_
  show z_W X 0 [some (.ref q), some (.ref 21), some (.int (nI A)), some (.int (nI len)), none] [] P nx 0 0
  have hU := p2
  have loop : ∀ (k c : Nat), c + k = n → cKd tb kc N le gr A len k c = cKd tb kc N le gr A len n 0 → z_W X 3 [some (.ref q), some (.ref 21), some (.int (nI A)), some (.int (nI len)), some (.int (nI c))] [] P nx 0 0 := by
    intro k
    induction k with
    | zero =>
      intro c hc he
      have hc : c = n := by omega
      subst hc
      refine z_iload hX d4_kindOf_3 rfl ?_
      refine z_aload_n hX d4_kindOf_5 rfl ?_
      refine z_get hX lf_4_26 (by first | exact hU.1 | exact hU.2.1 | exact hU.2.2.1 | exact hU.2.2.2.1 | exact hU.2.2.2.2.2.1) rfl d4_kindOf_6 ?_
      refine z_icmp_ge hX 48 d4_kindOf_9 (by decide) (fun h9 => ?_) (fun h9 => ?_)
      rotate_left
      · exact absurd (Int32.le_refl _) h9
      refine z_bipush hX (9) d4_kindOf_48 (by decide) ?_
      refine z_iret hX hE (by decide) (by decide) d4_kindOf_50 ?_
      rw [← he] at hK
      exact hK
    | succ k ih =>
      intro c hc he
      obtain ⟨n1, n2⟩ := p4 c (by omega)
      rw [show cKd tb kc N le gr A len (k + 1) c = if decide (N c = len) && cWi tb le gr c A (N c) then kc c else cKd tb kc N le gr A len k (c + 1) from rfl] at he
      refine z_iload hX d4_kindOf_3 rfl ?_
      refine z_aload_n hX d4_kindOf_5 rfl ?_
      refine z_get hX lf_4_26 (by first | exact hU.1 | exact hU.2.1 | exact hU.2.2.1 | exact hU.2.2.2.1 | exact hU.2.2.2.2.2.1) rfl d4_kindOf_6 ?_
      refine z_icmp_ge hX 48 d4_kindOf_9 (by decide) (fun h9 => ?_) (fun h9 => ?_)
      · exact absurd h9 (nI_ge (by omega) (by omega))
      refine z_aload_n hX d4_kindOf_12 rfl ?_
      refine z_get hX lf_4_15 (by first | exact hU.1 | exact hU.2.1 | exact hU.2.2.1 | exact hU.2.2.2.1 | exact hU.2.2.2.2.2.1) rfl d4_kindOf_13 ?_
      refine z_iload hX d4_kindOf_16 rfl ?_
      refine z_iald hX (by first | exact hU.1 | exact hU.2.1 | exact hU.2.2.1 | exact hU.2.2.2.1 | exact hU.2.2.2.2.2.1) (vp_in_nI (by omega) (by decide)) d4_kindOf_18 ?_
      rw [nI_clamp (show c < 2 ^ 31 by omega), n1]
      refine z_iload_n hX d4_kindOf_19 rfl ?_
      refine z_icmp_ne hX 42 d4_kindOf_20 (by decide) (fun h20 => ?_) (fun h20 => ?_)
      · skip
        rw [if_neg (by rw [decide_eq_false (fun z => h20 (by rw [z]))]; simp)] at he
        refine z_iinc hX (1) (by decide) rfl (by decide) d4_kindOf_42 ?_
        dsimp only [z_p1, z_p2, z_k, List.headD, List.tail]
        refine z_goto hX 3 d4_kindOf_45 (by decide) ?_
        rw [nI_1]
        exact ih (c + 1) (by omega) he
      · skip
        rw [nI_eq (by omega) (by omega)] at h20
        refine z_aload_n hX d4_kindOf_23 rfl ?_
        refine z_iload hX d4_kindOf_24 rfl ?_
        refine z_aload_n hX d4_kindOf_26 rfl ?_
        refine z_iload_n hX d4_kindOf_27 rfl ?_
        refine z_callV3 hX (sp4_isWithin l) lm_4_30 (by first | exact hU.1 | exact hU.2.1 | exact hU.2.2.1 | exact hU.2.2.2.1 | exact hU.2.2.2.2.2.1) ⟨by decide, by decide, by decide, by decide⟩ (Nat.le_of_ble_eq_true rfl) d4_kindOf_28 ?_
        refine ⟨tb, tl, e, p, x, q, kc, sc, le, gr, n, c, N c, A, rfl, p1, hU, by omega, n1, n2, p6, by omega, p8, ?_⟩
        dsimp only [Option.toList, List.cons_append, List.nil_append]
        refine z_ifb_eq hX 42 d4_kindOf_31 (by decide) (fun h31 => ?_) (fun h31 => ?_)
        · skip
          rw [if_neg (by rw [h31]; simp)] at he
          refine z_iinc hX (1) (by decide) rfl (by decide) d4_kindOf_42 ?_
          dsimp only [z_p1, z_p2, z_k, List.headD, List.tail]
          refine z_goto hX 3 d4_kindOf_45 (by decide) ?_
          rw [nI_1]
          exact ih (c + 1) (by omega) he
        · skip
          rw [if_pos (by rw [h31, decide_eq_true h20]; rfl)] at he
          refine z_aload_n hX d4_kindOf_34 rfl ?_
          refine z_get hX lf_4_9 (by first | exact hU.1 | exact hU.2.1 | exact hU.2.2.1 | exact hU.2.2.2.1 | exact hU.2.2.2.2.2.1) rfl d4_kindOf_35 ?_
          refine z_iload hX d4_kindOf_38 rfl ?_
          refine z_iald hX (by first | exact hU.1 | exact hU.2.1 | exact hU.2.2.1 | exact hU.2.2.2.1 | exact hU.2.2.2.2.2.1) (vp_in_nI (by omega) (by decide)) d4_kindOf_40 ?_
          rw [nI_clamp (show c < 2 ^ 31 by omega)]
          refine z_iret hX hE (by decide) (by decide) d4_kindOf_41 ?_
          rw [← he] at hK
          exact hK
  refine z_iconst hX (0) d4_kindOf_0 (by decide) ?_
  refine z_istore hX (by decide) d4_kindOf_1 ?_
  dsimp only [z_p1, z_p2, z_k, List.headD, List.tail]
  exact loop n 0 (by omega) rfl
