/-! THE CLASS: the network; its object is cell 15, its arrays 16 .. 20; road r's cells are 90 + 5 r .. 94 + 5 r -/
def zN (rf : Nat → Option Nat) (ra : Nat → Int32) (ld : Nat → Int64) (fo fa : Nat → Int32) (st sz kn to : Nat) : z_H := fun k => match k with
  | 15 => some (.inr (2, [.ref 16, .ref 17, .ref 18, .ref 19, .ref 20, .int (nI st), .int (nI sz), .int (nI kn), .int (nI to)]))
  | 16 => some (.inl (4, 12, .inr (.inr (.inr (.inr rf)))))
  | 17 => some (.inl (0, 8, .inl ra))
  | 18 => some (.inl (1, 12, .inr (.inl ld)))
  | 19 => some (.inl (0, 12, .inl fo))
  | 20 => some (.inl (0, 12, .inl fa))
  | _ => none
theorem zN_dom {rf : Nat → Option Nat} {ra : Nat → Int32} {ld : Nat → Int64} {fo fa : Nat → Int32} {st sz kn to k : Nat} {c : z_C} (q : zN rf ra ld fo fa st sz kn to k = some c) : 15 ≤ k ∧ k ≤ 20 := by
  unfold zN at q
  split at q <;> first | (cases q; done) | omega
def zDn (j : Nat) : Bool := Nat.ble 15 j && Nat.ble j 20
theorem zN_rf {rf : Nat → Option Nat} {ra : Nat → Int32} {ld : Nat → Int64} {fo fa : Nat → Int32} {st sz kn to : Nat} {P : z_H} {f : Nat → Option Nat} (q : z_in (z_up (zN rf ra ld fo fa st sz kn to) 16 (.inl (4, 12, .inr (.inr (.inr (.inr f)))))) P) : z_in (zN f ra ld fo fa st sz kn to) P := by
  intro k c hk
  refine q k c ?_
  rw [← hk]
  obtain ⟨h1, h2⟩ := zN_dom hk
  rcases (show k = 15 ∨ k = 16 ∨ k = 17 ∨ k = 18 ∨ k = 19 ∨ k = 20 by omega) with e | e | e | e | e | e <;> subst e <;> rfl
theorem zN_ra {rf : Nat → Option Nat} {ra : Nat → Int32} {ld : Nat → Int64} {fo fa : Nat → Int32} {st sz kn to : Nat} {P : z_H} {f : Nat → Int32} (q : z_in (z_up (zN rf ra ld fo fa st sz kn to) 17 (.inl (0, 8, .inl f))) P) : z_in (zN rf f ld fo fa st sz kn to) P := by
  intro k c hk
  refine q k c ?_
  rw [← hk]
  obtain ⟨h1, h2⟩ := zN_dom hk
  rcases (show k = 15 ∨ k = 16 ∨ k = 17 ∨ k = 18 ∨ k = 19 ∨ k = 20 by omega) with e | e | e | e | e | e <;> subst e <;> rfl
theorem zN_ld {rf : Nat → Option Nat} {ra : Nat → Int32} {ld : Nat → Int64} {fo fa : Nat → Int32} {st sz kn to : Nat} {P : z_H} {f : Nat → Int64} (q : z_in (z_up (zN rf ra ld fo fa st sz kn to) 18 (.inl (1, 12, .inr (.inl f)))) P) : z_in (zN rf ra f fo fa st sz kn to) P := by
  intro k c hk
  refine q k c ?_
  rw [← hk]
  obtain ⟨h1, h2⟩ := zN_dom hk
  rcases (show k = 15 ∨ k = 16 ∨ k = 17 ∨ k = 18 ∨ k = 19 ∨ k = 20 by omega) with e | e | e | e | e | e <;> subst e <;> rfl
theorem zN_fo {rf : Nat → Option Nat} {ra : Nat → Int32} {ld : Nat → Int64} {fo fa : Nat → Int32} {st sz kn to : Nat} {P : z_H} {f : Nat → Int32} (q : z_in (z_up (zN rf ra ld fo fa st sz kn to) 19 (.inl (0, 12, .inl f))) P) : z_in (zN rf ra ld f fa st sz kn to) P := by
  intro k c hk
  refine q k c ?_
  rw [← hk]
  obtain ⟨h1, h2⟩ := zN_dom hk
  rcases (show k = 15 ∨ k = 16 ∨ k = 17 ∨ k = 18 ∨ k = 19 ∨ k = 20 by omega) with e | e | e | e | e | e <;> subst e <;> rfl
theorem zN_fa {rf : Nat → Option Nat} {ra : Nat → Int32} {ld : Nat → Int64} {fo fa : Nat → Int32} {st sz kn to : Nat} {P : z_H} {f : Nat → Int32} (q : z_in (z_up (zN rf ra ld fo fa st sz kn to) 20 (.inl (0, 12, .inl f))) P) : z_in (zN rf ra ld fo f st sz kn to) P := by
  intro k c hk
  refine q k c ?_
  rw [← hk]
  obtain ⟨h1, h2⟩ := zN_dom hk
  rcases (show k = 15 ∨ k = 16 ∨ k = 17 ∨ k = 18 ∨ k = 19 ∨ k = 20 by omega) with e | e | e | e | e | e <;> subst e <;> rfl
theorem zN_st {rf : Nat → Option Nat} {ra : Nat → Int32} {ld : Nat → Int64} {fo fa : Nat → Int32} {st sz kn to : Nat} {P : z_H} {m : Nat} (q : z_in (z_up (zN rf ra ld fo fa st sz kn to) 15 (.inr (2, [.ref 16, .ref 17, .ref 18, .ref 19, .ref 20, .int (nI m), .int (nI sz), .int (nI kn), .int (nI to)]))) P) : z_in (zN rf ra ld fo fa m sz kn to) P := by
  intro k c hk
  refine q k c ?_
  rw [← hk]
  obtain ⟨h1, h2⟩ := zN_dom hk
  rcases (show k = 15 ∨ k = 16 ∨ k = 17 ∨ k = 18 ∨ k = 19 ∨ k = 20 by omega) with e | e | e | e | e | e <;> subst e <;> rfl
theorem zN_sz {rf : Nat → Option Nat} {ra : Nat → Int32} {ld : Nat → Int64} {fo fa : Nat → Int32} {st sz kn to : Nat} {P : z_H} {m : Nat} (q : z_in (z_up (zN rf ra ld fo fa st sz kn to) 15 (.inr (2, [.ref 16, .ref 17, .ref 18, .ref 19, .ref 20, .int (nI st), .int (nI m), .int (nI kn), .int (nI to)]))) P) : z_in (zN rf ra ld fo fa st m kn to) P := by
  intro k c hk
  refine q k c ?_
  rw [← hk]
  obtain ⟨h1, h2⟩ := zN_dom hk
  rcases (show k = 15 ∨ k = 16 ∨ k = 17 ∨ k = 18 ∨ k = 19 ∨ k = 20 by omega) with e | e | e | e | e | e <;> subst e <;> rfl
theorem zN_kn {rf : Nat → Option Nat} {ra : Nat → Int32} {ld : Nat → Int64} {fo fa : Nat → Int32} {st sz kn to : Nat} {P : z_H} {m : Nat} (q : z_in (z_up (zN rf ra ld fo fa st sz kn to) 15 (.inr (2, [.ref 16, .ref 17, .ref 18, .ref 19, .ref 20, .int (nI st), .int (nI sz), .int (nI m), .int (nI to)]))) P) : z_in (zN rf ra ld fo fa st sz m to) P := by
  intro k c hk
  refine q k c ?_
  rw [← hk]
  obtain ⟨h1, h2⟩ := zN_dom hk
  rcases (show k = 15 ∨ k = 16 ∨ k = 17 ∨ k = 18 ∨ k = 19 ∨ k = 20 by omega) with e | e | e | e | e | e <;> subst e <;> rfl
theorem zN_to {rf : Nat → Option Nat} {ra : Nat → Int32} {ld : Nat → Int64} {fo fa : Nat → Int32} {st sz kn to : Nat} {P : z_H} {m : Nat} (q : z_in (z_up (zN rf ra ld fo fa st sz kn to) 15 (.inr (2, [.ref 16, .ref 17, .ref 18, .ref 19, .ref 20, .int (nI st), .int (nI sz), .int (nI kn), .int (nI m)]))) P) : z_in (zN rf ra ld fo fa st sz kn m) P := by
  intro k c hk
  refine q k c ?_
  rw [← hk]
  obtain ⟨h1, h2⟩ := zN_dom hk
  rcases (show k = 15 ∨ k = 16 ∨ k = 17 ∨ k = 18 ∨ k = 19 ∨ k = 20 by omega) with e | e | e | e | e | e <;> subst e <;> rfl
/-- the roads' cells -/
def zRd (n : Nat) (fr tw pr fm : Nat → Int32) (sz : Nat → Nat) (dy ct pa : Nat → Nat → Int32) (P : z_H) : Prop := ∀ r, r < n → P (90 + 5 * r) = some (.inr (3, [.int (fr r), .int (tw r), .int (pr r), .ref (91 + 5 * r), .ref (94 + 5 * r), .int (fm r)])) ∧ zCt (91 + 5 * r) (sz r) (dy r) (ct r) P ∧ P (94 + 5 * r) = some (.inl (0, 10, .inl (pa r)))
/-- the array of roads holds them -/
def zRf (n : Nat) (rf : Nat → Option Nat) : Prop := n ≤ 12 ∧ ∀ r, r < n → rf r = some (90 + 5 * r)
theorem zRd.out {n : Nat} {fr tw pr fm : Nat → Int32} {sz : Nat → Nat} {dy ct pa : Nat → Nat → Int32} {P P' : z_H} {dm : Nat → Bool} (h : zRd n fr tw pr fm sz dy ct pa P) (hO : z_out dm P P') (hd : ∀ j, 90 ≤ j → dm j = false) : zRd n fr tw pr fm sz dy ct pa P' := fun r hr => by
  obtain ⟨h1, ⟨h2, h3, h4⟩, h5⟩ := h r hr
  refine ⟨by rw [hO _ (hd _ (by omega))]; exact h1, ⟨by rw [hO _ (hd _ (by omega))]; exact h2, by rw [hO _ (hd _ (by omega))]; exact h3, by rw [hO _ (hd _ (by omega))]; exact h4⟩, by rw [hO _ (hd _ (by omega))]; exact h5⟩
theorem zDn_90 (j : Nat) (h : 90 ≤ j) : zDn j = false := by
  unfold zDn
  cases q : Nat.ble j 20 with
  | false => exact Bool.and_false _
  | true => exact absurd (Nat.le_of_ble_eq_true q) (by omega)
def S7_isBelow : z_PT := fun as P nx K => ∃ (x b : Int32), as = [.int x, .int b] ∧ K (some (.int (zb (decide (0 ≤ x.toInt ∧ x.toInt < b.toInt))))) P nx
set_option maxRecDepth 4000 in
theorem sp7_isBelow (l : Launch) : z_Sp l M7_isBelow rM7_isBelow S7_isBelow := by
  refine z_enter (by decide) (fun as P nx K h => ?_) (fun X K as P nx hX hE hin0 hS => ?_)
  · obtain ⟨x, b, rfl, -⟩ := h
    exact Nat.le_of_ble_eq_true rfl
  obtain ⟨x, b, rfl, hK⟩ := hS
  show z_W X 0 [some (.int x), some (.int b)] [] P nx 0 0
  have z0 : (0 : Int32).toInt = 0 := rfl
  refine z_iload_n hX d7_isBelow_0 rfl ?_
  refine z_if_lt hX 13 d7_isBelow_1 (by decide) (fun h1 => ?_) (fun h1 => ?_)
  · skip
    rw [i_lt] at h1
    rw [decide_eq_false (by omega)] at hK
    refine z_iconst hX (0) d7_isBelow_13 (by decide) ?_
    refine z_zret hX hE (by decide) (by decide) (by decide) d7_isBelow_14 ?_
    exact hK
  · skip
    rw [i_lt] at h1
    refine z_iload_n hX d7_isBelow_4 rfl ?_
    refine z_iload_n hX d7_isBelow_5 rfl ?_
    refine z_icmp_ge hX 13 d7_isBelow_6 (by decide) (fun h6 => ?_) (fun h6 => ?_)
    · skip
      rw [i_le] at h6
      rw [decide_eq_false (by omega)] at hK
      refine z_iconst hX (0) d7_isBelow_13 (by decide) ?_
      refine z_zret hX hE (by decide) (by decide) (by decide) d7_isBelow_14 ?_
      exact hK
    · skip
      rw [i_le] at h6
      rw [decide_eq_true (by omega)] at hK
      refine z_iconst hX (1) d7_isBelow_9 (by decide) ?_
      refine z_goto hX 14 d7_isBelow_10 (by decide) ?_
      refine z_zret hX hE (by decide) (by decide) (by decide) d7_isBelow_14 ?_
      exact hK
def S7_isWeight : z_PT := fun as P nx K => ∃ (x : Int32), as = [.int x] ∧ K (some (.int (zb (decide (1 ≤ x.toInt ∧ x.toInt ≤ 99))))) P nx
set_option maxRecDepth 4000 in
theorem sp7_isWeight (l : Launch) : z_Sp l M7_isWeight rM7_isWeight S7_isWeight := by
  refine z_enter (by decide) (fun as P nx K h => ?_) (fun X K as P nx hX hE hin0 hS => ?_)
  · obtain ⟨x, rfl, -⟩ := h
    exact Nat.le_of_ble_eq_true rfl
  obtain ⟨x, rfl, hK⟩ := hS
  show z_W X 0 [some (.int x)] [] P nx 0 0
  have z1 : (1 : Int32).toInt = 1 := rfl
  have z99 : (99 : Int32).toInt = 99 := rfl
  refine z_iload_n hX d7_isWeight_0 rfl ?_
  refine z_iconst hX (1) d7_isWeight_1 (by decide) ?_
  refine z_icmp_lt hX 15 d7_isWeight_2 (by decide) (fun h2 => ?_) (fun h2 => ?_)
  · skip
    rw [i_lt] at h2
    rw [decide_eq_false (by omega)] at hK
    refine z_iconst hX (0) d7_isWeight_15 (by decide) ?_
    refine z_zret hX hE (by decide) (by decide) (by decide) d7_isWeight_16 ?_
    exact hK
  · skip
    rw [i_lt] at h2
    refine z_iload_n hX d7_isWeight_5 rfl ?_
    refine z_bipush hX (99) d7_isWeight_6 (by decide) ?_
    refine z_icmp_gt hX 15 d7_isWeight_8 (by decide) (fun h8 => ?_) (fun h8 => ?_)
    · skip
      rw [i_lt] at h8
      rw [decide_eq_false (by omega)] at hK
      refine z_iconst hX (0) d7_isWeight_15 (by decide) ?_
      refine z_zret hX hE (by decide) (by decide) (by decide) d7_isWeight_16 ?_
      exact hK
    · skip
      rw [i_lt] at h8
      rw [decide_eq_true (by omega)] at hK
      refine z_iconst hX (1) d7_isWeight_11 (by decide) ?_
      refine z_goto hX 16 d7_isWeight_12 (by decide) ?_
      refine z_zret hX hE (by decide) (by decide) (by decide) d7_isWeight_16 ?_
      exact hK
def S7_isEnd : z_PT := fun as P nx K => ∃ (x : Int32), as = [.int x] ∧ K (some (.int (zb (decide (-1 ≤ x.toInt ∧ x.toInt < 8))))) P nx
set_option maxRecDepth 4000 in
theorem sp7_isEnd (l : Launch) : z_Sp l M7_isEnd rM7_isEnd S7_isEnd := by
  refine z_enter (by decide) (fun as P nx K h => ?_) (fun X K as P nx hX hE hin0 hS => ?_)
  · obtain ⟨x, rfl, -⟩ := h
    exact Nat.le_of_ble_eq_true rfl
  obtain ⟨x, rfl, hK⟩ := hS
  show z_W X 0 [some (.int x)] [] P nx 0 0
  have z1 : (-1 : Int32).toInt = -1 := rfl
  have z8 : (8 : Int32).toInt = 8 := rfl
  refine z_iload_n hX d7_isEnd_0 rfl ?_
  refine z_iconst hX (-1) d7_isEnd_1 (by decide) ?_
  refine z_icmp_eq hX 14 d7_isEnd_2 (by decide) (fun h2 => ?_) (fun h2 => ?_)
  · skip
    rw [i_eq] at h2
    rw [decide_eq_true (by omega)] at hK
    refine z_iconst hX (1) d7_isEnd_14 (by decide) ?_
    refine z_goto hX 19 d7_isEnd_15 (by decide) ?_
    refine z_zret hX hE (by decide) (by decide) (by decide) d7_isEnd_19 ?_
    exact hK
  · skip
    rw [i_eq] at h2
    refine z_iload_n hX d7_isEnd_5 rfl ?_
    refine z_bipush hX (8) d7_isEnd_6 (by decide) ?_
    refine z_callS2 hX (sp7_isBelow l) lm_7_49 ⟨by decide, by decide, by decide, by decide⟩ (Nat.le_of_ble_eq_true rfl) d7_isEnd_8 ?_
    refine ⟨_, _, rfl, ?_⟩
    dsimp only [Option.toList, List.cons_append, List.nil_append]
    refine z_ifb_eq hX 18 d7_isEnd_11 (by decide) (fun h11 => ?_) (fun h11 => ?_)
    · skip
      rw [decide_eq_false_iff_not] at h11
      rw [decide_eq_false (by omega)] at hK
      refine z_iconst hX (0) d7_isEnd_18 (by decide) ?_
      refine z_zret hX hE (by decide) (by decide) (by decide) d7_isEnd_19 ?_
      exact hK
    · skip
      rw [decide_eq_true_eq] at h11
      rw [decide_eq_true (by omega)] at hK
      refine z_iconst hX (1) d7_isEnd_14 (by decide) ?_
      refine z_goto hX 19 d7_isEnd_15 (by decide) ?_
      refine z_zret hX hE (by decide) (by decide) (by decide) d7_isEnd_19 ?_
      exact hK
def S2_at : z_PT := fun as P nx K => ∃ (rf : Nat → Option Nat) (ra : Nat → Int32) (ld : Nat → Int64) (fo fa : Nat → Int32) (st n kn to : Nat) (r : Int32), as = [.ref 15, .int r] ∧ z_in (zN rf ra ld fo fa st n kn to) P ∧ zRf n rf ∧ (0 ≤ r.toInt ∧ r.toInt < n → K (some (.ref (90 + 5 * r.toInt.toNat))) P nx) ∧ (¬ (0 ≤ r.toInt ∧ r.toInt < n) → K (some .null) P nx)
theorem sp2_at (l : Launch) : z_Sp l M2_at rM2_at S2_at := by
  refine z_enter (by decide) (fun as P nx K h => ?_) (fun X K as P nx hX hE hin0 hS => ?_)
  · obtain ⟨rf, ra, ld, fo, fa, st, n, kn, to, r, rfl, -⟩ := h
    exact Nat.le_of_ble_eq_true rfl
  obtain ⟨rf, ra, ld, fo, fa, st, n, kn, to, r, rfl, hM, ⟨p1, p2⟩, hK1, hK2⟩ := hS
  show z_W X 0 [some (.ref 15), some (.int r)] [] P nx 0 0
  refine z_iload_n hX d2_at_0 rfl ?_
  refine z_aload_n hX d2_at_1 rfl ?_
  refine z_get hX lf_2_31 (hM _ _ rfl) rfl d2_at_2 ?_
  refine z_callS2 hX (sp7_isBelow l) lm_2_38 ⟨by decide, by decide, by decide, by decide⟩ (Nat.le_of_ble_eq_true rfl) d2_at_5 ?_
  refine ⟨_, _, rfl, ?_⟩
  rw [nI_toInt (by omega)]
  dsimp only [Option.toList, List.cons_append, List.nil_append]
  refine z_ifb_eq hX 20 d2_at_8 (by decide) (fun h8 => ?_) (fun h8 => ?_)
  · skip
    rw [decide_eq_false_iff_not] at h8
    refine z_null hX d2_at_20 ?_
    first | refine z_aret hX hE (by decide) (by decide) d2_at_21 ?_ | refine z_aretN hX hE (by decide) (by decide) d2_at_21 ?_
    first | exact hK1 | exact hK2 h8
  · skip
    rw [decide_eq_true_eq] at h8
    have hK1 := hK1 h8
    obtain ⟨j, hj, rfl⟩ := nI_rng h8.1 h8.2
    rw [tN (n := 12) (by omega) (by decide)] at hK1
    refine z_aload_n hX d2_at_11 rfl ?_
    refine z_get hX lf_2_11 (hM _ _ rfl) rfl d2_at_12 ?_
    refine z_iload_n hX d2_at_15 rfl ?_
    refine z_aald hX (hM _ _ rfl) (vp_in_nI (by omega) (by decide)) (by rw [nI_clamp (show j < 2 ^ 31 by omega)]; exact p2 j hj) d2_at_16 ?_
    refine z_goto hX 21 d2_at_17 (by decide) ?_
    first | refine z_aret hX hE (by decide) (by decide) d2_at_21 ?_ | refine z_aretN hX hE (by decide) (by decide) d2_at_21 ?_
    first | exact hK1 | exact hK2 h8
def S2_hasAll : z_PT := fun as P nx K => ∃ (rf : Nat → Option Nat) (ra : Nat → Int32) (ld : Nat → Int64) (fo fa : Nat → Int32) (st n kn to : Nat) (s : Int32), as = [.ref 15, .int s] ∧ (z_in (zN rf ra ld fo fa st n kn to) P) ∧ (n ≤ 12) ∧ K (some (.int (zb (decide (0 ≤ s.toInt ∧ s.toInt < (2 ^ n : Nat)))))) P nx
set_option maxRecDepth 4000 in
theorem sp2_hasAll (l : Launch) : z_Sp l M2_hasAll rM2_hasAll S2_hasAll := by
  refine z_enter (by decide) (fun as P nx K h => ?_) (fun X K as P nx hX hE hin0 hS => ?_)
  · obtain ⟨rf, ra, ld, fo, fa, st, n, kn, to, s, rfl, -⟩ := h
    exact Nat.le_of_ble_eq_true rfl
  obtain ⟨rf, ra, ld, fo, fa, st, n, kn, to, s, rfl, p1, p2, hK⟩ := hS
  show z_W X 0 [some (.ref 15), some (.int s)] [] P nx 0 0
  have hpw := pw_le p2
  have hM := p1
  refine z_iload_n hX d2_hasAll_0 rfl ?_
  refine z_iconst hX (1) d2_hasAll_1 (by decide) ?_
  refine z_aload_n hX d2_hasAll_2 rfl ?_
  refine z_get hX lf_2_31 (hM _ _ rfl) rfl d2_hasAll_3 ?_
  refine z_ishl hX d2_hasAll_6 ?_
  refine z_callS2 hX (sp7_isBelow l) lm_2_38 ⟨by decide, by decide, by decide, by decide⟩ (Nat.le_of_ble_eq_true rfl) d2_hasAll_7 ?_
  refine ⟨_, _, rfl, ?_⟩
  rw [sh1 (by omega), nI_toInt (by omega)]
  dsimp only [Option.toList, List.cons_append, List.nil_append]
  refine z_zret hX hE (zb_01 _) (by decide) (by decide) d2_hasAll_10 ?_
  exact hK
def S2_isKnown : z_PT := fun as P nx K => ∃ (rf : Nat → Option Nat) (ra : Nat → Int32) (ld : Nat → Int64) (fo fa : Nat → Int32) (st n kn to r : Nat), as = [.ref 15, .int (nI r)] ∧ (z_in (zN rf ra ld fo fa st n kn to) P) ∧ (kn < 4096) ∧ (r < 12) ∧ K (some (.int (zb (kn.testBit r)))) P nx
set_option maxRecDepth 4000 in
theorem sp2_isKnown (l : Launch) : z_Sp l M2_isKnown rM2_isKnown S2_isKnown := by
  refine z_enter (by decide) (fun as P nx K h => ?_) (fun X K as P nx hX hE hin0 hS => ?_)
  · obtain ⟨rf, ra, ld, fo, fa, st, n, kn, to, r, rfl, -⟩ := h
    exact Nat.le_of_ble_eq_true rfl
  obtain ⟨rf, ra, ld, fo, fa, st, n, kn, to, r, rfl, p1, p2, p3, hK⟩ := hS
  show z_W X 0 [some (.ref 15), some (.int (nI r))] [] P nx 0 0
  have hM := p1
  refine z_aload_n hX d2_isKnown_0 rfl ?_
  refine z_get hX lf_2_42 (hM _ _ rfl) rfl d2_isKnown_1 ?_
  refine z_iload_n hX d2_isKnown_4 rfl ?_
  refine z_ishr hX d2_isKnown_5 ?_
  refine z_iconst hX (1) d2_isKnown_6 (by decide) ?_
  refine z_iand hX d2_isKnown_7 ?_
  refine z_iconst hX (1) d2_isKnown_8 (by decide) ?_
  refine z_icmp_ne hX 16 d2_isKnown_9 (by decide) (fun h9 => ?_) (fun h9 => ?_)
  · skip
    rw [hasT (by omega) (by omega)] at h9
    refine z_iconst hX (0) d2_isKnown_16 (by decide) ?_
    refine z_zret hX hE (by decide) (by decide) (by decide) d2_isKnown_17 ?_
    first | exact zK1 hK h9 | exact zK0 hK (eq_false_of_ne_true h9)
  · skip
    rw [hasT (by omega) (by omega)] at h9
    refine z_iconst hX (1) d2_isKnown_12 (by decide) ?_
    refine z_goto hX 17 d2_isKnown_13 (by decide) ?_
    refine z_zret hX hE (by decide) (by decide) (by decide) d2_isKnown_17 ?_
    first | exact zK1 hK h9 | exact zK0 hK (eq_false_of_ne_true h9)
def S2_isTold : z_PT := fun as P nx K => ∃ (rf : Nat → Option Nat) (ra : Nat → Int32) (ld : Nat → Int64) (fo fa : Nat → Int32) (st n kn to r : Nat), as = [.ref 15, .int (nI r)] ∧ (z_in (zN rf ra ld fo fa st n kn to) P) ∧ (to < 4096) ∧ (r < 12) ∧ K (some (.int (zb (to.testBit r)))) P nx
set_option maxRecDepth 4000 in
theorem sp2_isTold (l : Launch) : z_Sp l M2_isTold rM2_isTold S2_isTold := by
  refine z_enter (by decide) (fun as P nx K h => ?_) (fun X K as P nx hX hE hin0 hS => ?_)
  · obtain ⟨rf, ra, ld, fo, fa, st, n, kn, to, r, rfl, -⟩ := h
    exact Nat.le_of_ble_eq_true rfl
  obtain ⟨rf, ra, ld, fo, fa, st, n, kn, to, r, rfl, p1, p2, p3, hK⟩ := hS
  show z_W X 0 [some (.ref 15), some (.int (nI r))] [] P nx 0 0
  have hM := p1
  refine z_aload_n hX d2_isTold_0 rfl ?_
  refine z_get hX lf_2_45 (hM _ _ rfl) rfl d2_isTold_1 ?_
  refine z_iload_n hX d2_isTold_4 rfl ?_
  refine z_ishr hX d2_isTold_5 ?_
  refine z_iconst hX (1) d2_isTold_6 (by decide) ?_
  refine z_iand hX d2_isTold_7 ?_
  refine z_iconst hX (1) d2_isTold_8 (by decide) ?_
  refine z_icmp_ne hX 16 d2_isTold_9 (by decide) (fun h9 => ?_) (fun h9 => ?_)
  · skip
    rw [hasT (by omega) (by omega)] at h9
    refine z_iconst hX (0) d2_isTold_16 (by decide) ?_
    refine z_zret hX hE (by decide) (by decide) (by decide) d2_isTold_17 ?_
    first | exact zK1 hK h9 | exact zK0 hK (eq_false_of_ne_true h9)
  · skip
    rw [hasT (by omega) (by omega)] at h9
    refine z_iconst hX (1) d2_isTold_12 (by decide) ?_
    refine z_goto hX 17 d2_isTold_13 (by decide) ?_
    refine z_zret hX hE (by decide) (by decide) (by decide) d2_isTold_17 ?_
    first | exact zK1 hK h9 | exact zK0 hK (eq_false_of_ne_true h9)
/-- the sets of roads at junctions -/
def zRa (ra : Nat → Int32) (A : Nat → Nat) (n : Nat) : Prop := n ≤ 12 ∧ (∀ j, A j < 2 ^ n) ∧ ∀ j, j < 8 → ra j = nI (A j)
def S2_isAllToldAt : z_PT := fun as P nx K => ∃ (rf : Nat → Option Nat) (ra : Nat → Int32) (ld : Nat → Int64) (fo fa : Nat → Int32) (st n kn to j : Nat) (A : Nat → Nat), as = [.ref 15, .int (nI j)] ∧ (z_in (zN rf ra ld fo fa st n kn to) P) ∧ (zRa ra A n) ∧ (j < 8) ∧ K (some (.int (zb (decide (zsd (A j) to = 0))))) P nx
set_option maxRecDepth 4000 in
theorem sp2_isAllToldAt (l : Launch) : z_Sp l M2_isAllToldAt rM2_isAllToldAt S2_isAllToldAt := by
  refine z_enter (by decide) (fun as P nx K h => ?_) (fun X K as P nx hX hE hin0 hS => ?_)
  · obtain ⟨rf, ra, ld, fo, fa, st, n, kn, to, j, A, rfl, -⟩ := h
    exact Nat.le_of_ble_eq_true rfl
  obtain ⟨rf, ra, ld, fo, fa, st, n, kn, to, j, A, rfl, p1, p2, p3, hK⟩ := hS
  show z_W X 0 [some (.ref 15), some (.int (nI j))] [] P nx 0 0
  have hM := p1
  obtain ⟨q1, q0, q2⟩ := p2
  have q3 := q2 j p3
  have q4 := q0 j
  have hpw := pw_le q1
  have h4 : zsd (A j) to < 4096 := zsd_lt (by omega)
  refine z_aload_n hX d2_isAllToldAt_0 rfl ?_
  refine z_get hX lf_2_17 (hM _ _ rfl) rfl d2_isAllToldAt_1 ?_
  refine z_iload_n hX d2_isAllToldAt_4 rfl ?_
  refine z_iald hX (hM _ _ rfl) (vp_in_nI p3 (by decide)) d2_isAllToldAt_5 ?_
  rw [nI_clamp (show j < 2 ^ 31 by omega), q3]
  refine z_aload_n hX d2_isAllToldAt_6 rfl ?_
  refine z_get hX lf_2_45 (hM _ _ rfl) rfl d2_isAllToldAt_7 ?_
  refine z_iconst hX (-1) d2_isAllToldAt_10 (by decide) ?_
  refine z_ixor hX d2_isAllToldAt_11 ?_
  refine z_iand hX d2_isAllToldAt_12 ?_
  rw [fa_sd]
  refine z_if_ne hX 20 d2_isAllToldAt_13 (by decide) (fun h13 => ?_) (fun h13 => ?_)
  · skip
    rw [decide_eq_false (fun z => h13 (by rw [z]; rfl))] at hK
    refine z_iconst hX (0) d2_isAllToldAt_20 (by decide) ?_
    refine z_zret hX hE (by decide) (by decide) (by decide) d2_isAllToldAt_21 ?_
    exact hK
  · skip
    have h13 : zsd (A j) to = 0 := (nI_eq (b := 0) (by omega) (by decide)).mp h13
    rw [decide_eq_true h13] at hK
    refine z_iconst hX (1) d2_isAllToldAt_16 (by decide) ?_
    refine z_goto hX 21 d2_isAllToldAt_17 (by decide) ?_
    refine z_zret hX hE (by decide) (by decide) (by decide) d2_isAllToldAt_21 ?_
    exact hK
def S2_loadOf : z_PT := fun as P nx K => ∃ (rf : Nat → Option Nat) (ra : Nat → Int32) (ld : Nat → Int64) (fo fa : Nat → Int32) (st n kn to r : Nat), as = [.ref 15, .int (nI r)] ∧ (z_in (zN rf ra ld fo fa st n kn to) P) ∧ (r < 12) ∧ K (some (.long (ld r))) P nx
set_option maxRecDepth 4000 in
theorem sp2_loadOf (l : Launch) : z_Sp l M2_loadOf rM2_loadOf S2_loadOf := by
  refine z_enter (by decide) (fun as P nx K h => ?_) (fun X K as P nx hX hE hin0 hS => ?_)
  · obtain ⟨rf, ra, ld, fo, fa, st, n, kn, to, r, rfl, -⟩ := h
    exact Nat.le_of_ble_eq_true rfl
  obtain ⟨rf, ra, ld, fo, fa, st, n, kn, to, r, rfl, p1, p2, hK⟩ := hS
  show z_W X 0 [some (.ref 15), some (.int (nI r))] [] P nx 0 0
  have hM := p1
  refine z_aload_n hX d2_loadOf_0 rfl ?_
  refine z_get hX lf_2_21 (hM _ _ rfl) rfl d2_loadOf_1 ?_
  refine z_iload_n hX d2_loadOf_4 rfl ?_
  refine z_lald hX (hM _ _ rfl) (vp_in_nI p2 (by decide)) d2_loadOf_5 ?_
  rw [nI_clamp (show r < 2 ^ 31 by omega)]
  refine z_lret hX hE (by decide) (by decide) d2_loadOf_6 ?_
  exact hK
def cSu (tw : Nat → Int32) (ld : Nat → Int64) (A : Nat → Nat) (j to : Nat) : Nat → Int64
  | 0 => 0
  | r + 1 => if to.testBit r && (A j).testBit r then cSu tw ld A j to r + (if tw r = nI j then ld r else -ld r) else cSu tw ld A j to r
def S2_surplus : z_PT := fun as P nx K => ∃ (rf : Nat → Option Nat) (ra : Nat → Int32) (ld : Nat → Int64) (fo fa : Nat → Int32) (st n kn to j : Nat) (A : Nat → Nat) (fr tw pr fm : Nat → Int32) (sz : Nat → Nat) (dy ct pa : Nat → Nat → Int32), as = [.ref 15, .int (nI j)] ∧ (z_in (zN rf ra ld fo fa st n kn to) P) ∧ (zRa ra A n) ∧ (j < 8) ∧ (zRf n rf) ∧ (zRd n fr tw pr fm sz dy ct pa P) ∧ (to < 4096) ∧ K (some (.long (cSu tw ld A j to n))) P nx
set_option maxRecDepth 4000 in
theorem sp2_surplus (l : Launch) : z_Sp l M2_surplus rM2_surplus S2_surplus := by
  refine z_enter (by decide) (fun as P nx K h => ?_) (fun X K as P nx hX hE hin0 hS => ?_)
  · obtain ⟨rf, ra, ld, fo, fa, st, n, kn, to, j, A, fr, tw, pr, fm, sz, dy, ct, pa, rfl, -⟩ := h
    exact Nat.le_of_ble_eq_true rfl
  obtain ⟨rf, ra, ld, fo, fa, st, n, kn, to, j, A, fr, tw, pr, fm, sz, dy, ct, pa, rfl, p1, p2, p3, p4, p5, p6, hK⟩ := hS
  refine z_pad 3 ?_
  show z_W X 0 [some (.ref 15), some (.int (nI j)), none, none, none] [] P nx 0 0
  have hM := p1
  obtain ⟨q1, q0, q2⟩ := p2
  have q3 := q2 j p3
  have q4 := q0 j
  have hpw := pw_le q1
  have loop : ∀ (k i : Nat), i + k = n → z_W X 5 [some (.ref 15), some (.int (nI j)), some (.long (cSu tw ld A j to i)), none, some (.int (nI i))] [] P nx 0 0 := by
    intro k
    induction k with
    | zero =>
      intro i hi
      have hi : i = n := by omega
      subst hi
      refine z_iload hX d2_surplus_5 rfl ?_
      refine z_aload_n hX d2_surplus_7 rfl ?_
      refine z_get hX lf_2_31 (hM _ _ rfl) rfl d2_surplus_8 ?_
      refine z_icmp_ge hX 79 d2_surplus_11 (by decide) (fun h11 => ?_) (fun h11 => ?_)
      rotate_left
      · exact absurd (Int32.le_refl _) h11
      refine z_lload_n hX d2_surplus_79 rfl ?_
      refine z_lret hX hE (by decide) (by decide) d2_surplus_80 ?_
      exact hK
    | succ k ih =>
      intro i hi
      have := ih (i + 1) (by omega)
      unfold cSu at this
      refine z_iload hX d2_surplus_5 rfl ?_
      refine z_aload_n hX d2_surplus_7 rfl ?_
      refine z_get hX lf_2_31 (hM _ _ rfl) rfl d2_surplus_8 ?_
      refine z_icmp_ge hX 79 d2_surplus_11 (by decide) (fun h11 => ?_) (fun h11 => ?_)
      · exact absurd h11 (nI_ge (by omega) (by omega))
      refine z_aload_n hX d2_surplus_14 rfl ?_
      refine z_iload hX d2_surplus_15 rfl ?_
      refine z_callV1 hX (sp2_isTold l) lm_2_48 (hM _ _ rfl) ⟨by decide, by decide, by decide, by decide⟩ (Nat.le_of_ble_eq_true rfl) d2_surplus_17 ?_
      refine ⟨rf, ra, ld, fo, fa, st, n, kn, to, i, rfl, hM, p6, by omega, ?_⟩
      dsimp only [Option.toList, List.cons_append, List.nil_append]
      refine z_ifb_eq hX 73 d2_surplus_20 (by decide) (fun h20 => ?_) (fun h20 => ?_)
      · skip
        rw [if_neg (by rw [h20]; simp)] at this
        refine z_iinc hX (1) (by decide) rfl (by decide) d2_surplus_73 ?_
        dsimp only [z_p1, z_p2, z_k, List.headD, List.tail]
        refine z_goto hX 5 d2_surplus_76 (by decide) ?_
        rw [nI_1]
        exact this
      · skip
        refine z_aload_n hX d2_surplus_23 rfl ?_
        refine z_get hX lf_2_17 (hM _ _ rfl) rfl d2_surplus_24 ?_
        refine z_iload_n hX d2_surplus_27 rfl ?_
        refine z_iald hX (hM _ _ rfl) (vp_in_nI p3 (by decide)) d2_surplus_28 ?_
        rw [nI_clamp (show j < 2 ^ 31 by omega), q3]
        refine z_iload hX d2_surplus_29 rfl ?_
        refine z_ishr hX d2_surplus_31 ?_
        refine z_iconst hX (1) d2_surplus_32 (by decide) ?_
        refine z_iand hX d2_surplus_33 ?_
        refine z_iconst hX (1) d2_surplus_34 (by decide) ?_
        refine z_icmp_ne hX 73 d2_surplus_35 (by decide) (fun h35 => ?_) (fun h35 => ?_)
        · skip
          rw [hasT (by omega) (by omega)] at h35
          rw [if_neg (by rw [h20, Bool.true_and]; exact h35)] at this
          refine z_iinc hX (1) (by decide) rfl (by decide) d2_surplus_73 ?_
          dsimp only [z_p1, z_p2, z_k, List.headD, List.tail]
          refine z_goto hX 5 d2_surplus_76 (by decide) ?_
          rw [nI_1]
          exact this
        · skip
          rw [hasT (by omega) (by omega)] at h35
          rw [if_pos (by rw [h20, h35]; rfl)] at this
          refine z_lload_n hX d2_surplus_38 rfl ?_
          refine z_aload_n hX d2_surplus_39 rfl ?_
          refine z_get hX lf_2_11 (hM _ _ rfl) rfl d2_surplus_40 ?_
          refine z_iload hX d2_surplus_43 rfl ?_
          refine z_aald hX (hM _ _ rfl) (vp_in_nI (by omega) (by decide)) (by rw [nI_clamp (show i < 2 ^ 31 by omega)]; exact p4.2 i (by omega)) d2_surplus_45 ?_
          refine z_get hX lf_2_52 (p5 i (by omega)).1 rfl d2_surplus_46 ?_
          refine z_iload_n hX d2_surplus_49 rfl ?_
          refine z_icmp_ne hX 63 d2_surplus_50 (by decide) (fun h50 => ?_) (fun h50 => ?_)
          · skip
            rw [if_neg h50] at this
            refine z_aload_n hX d2_surplus_63 rfl ?_
            refine z_get hX lf_2_21 (hM _ _ rfl) rfl d2_surplus_64 ?_
            refine z_iload hX d2_surplus_67 rfl ?_
            refine z_lald hX (hM _ _ rfl) (vp_in_nI (by omega) (by decide)) d2_surplus_69 ?_
            rw [nI_clamp (show i < 2 ^ 31 by omega)]
            refine z_lneg hX d2_surplus_70 ?_
            refine z_ladd hX d2_surplus_71 ?_
            refine z_lstore_n hX 2 rfl (by decide) d2_surplus_72 ?_
            dsimp only [z_p1, z_p2, z_k, List.headD, List.tail]
            refine z_iinc hX (1) (by decide) rfl (by decide) d2_surplus_73 ?_
            dsimp only [z_p1, z_p2, z_k, List.headD, List.tail]
            refine z_goto hX 5 d2_surplus_76 (by decide) ?_
            rw [nI_1]
            exact this
          · skip
            rw [if_pos h50] at this
            refine z_aload_n hX d2_surplus_53 rfl ?_
            refine z_get hX lf_2_21 (hM _ _ rfl) rfl d2_surplus_54 ?_
            refine z_iload hX d2_surplus_57 rfl ?_
            refine z_lald hX (hM _ _ rfl) (vp_in_nI (by omega) (by decide)) d2_surplus_59 ?_
            rw [nI_clamp (show i < 2 ^ 31 by omega)]
            refine z_goto hX 71 d2_surplus_60 (by decide) ?_
            refine z_ladd hX d2_surplus_71 ?_
            refine z_lstore_n hX 2 rfl (by decide) d2_surplus_72 ?_
            dsimp only [z_p1, z_p2, z_k, List.headD, List.tail]
            refine z_iinc hX (1) (by decide) rfl (by decide) d2_surplus_73 ?_
            dsimp only [z_p1, z_p2, z_k, List.headD, List.tail]
            refine z_goto hX 5 d2_surplus_76 (by decide) ?_
            rw [nI_1]
            exact this
  refine z_lconst hX 0 d2_surplus_0 (by decide) ?_
  refine z_lstore_n hX 2 rfl (by decide) d2_surplus_1 ?_
  dsimp only [z_p1, z_p2, z_k, List.headD, List.tail]
  refine z_iconst hX (0) d2_surplus_2 (by decide) ?_
  refine z_istore hX (by decide) d2_surplus_3 ?_
  dsimp only [z_p1, z_p2, z_k, List.headD, List.tail]
  exact loop n 0 (by omega)
