/-! the two objects' constructors -/
/-- all that a new object of the class is -/
def S7_init : z_PT := fun as P nx K => as = [.ref 1] ∧ nx = 2 ∧ P 1 = some (.inr (7, z_d7)) ∧ ∀ (wd mo : Nat → Nat → Int32) (P' : z_H), (∀ s d, s < 4 → d < 7 → wd s d = 1) → (∀ s d, s < 4 → d < 13 → mo s d = 1) → P' 1 = some (.inr (7, [.ref 2, .ref 15, .ref 21, .ref 23, .ref 24, .ref 47])) → z_in (zA wd mo (fun _ => false) (fun _ => 0) 0) P' → z_in (zN (fun _ => none) (fun _ => 0) (fun _ => 0) (fun _ => 0) (fun _ => 0) 0 0 0 0) P' → P' 21 = some (.inr (6, [.ref 22, .int 0])) → P' 22 = some (.inl (0, 120, .inl (fun _ => 0))) → P' 23 = some (.inr (5, [.ref 21, .int 0, .int 0, .int 0])) → zRu 24 (fun _ => 0) (fun _ => 0) (fun _ _ => 0) (fun _ _ => 0) 0 P' → zRu 47 (fun _ => 0) (fun _ => 0) (fun _ _ => 0) (fun _ _ => 0) 0 P' → K none P' 70
theorem zRu.out {q : Nat} {kc sc : Nat → Int32} {le gr : Nat → Nat → Int32} {n : Nat} {P P' : z_H} (h : zRu q kc sc le gr n P) (hO : ∀ j, q ≤ j → j ≤ q + 22 → P' j = P j) : zRu q kc sc le gr n P' := by
  obtain ⟨h1, h2, h3, h4, h5, h6, h7⟩ := h
  refine ⟨by rw [hO _ (by omega) (by omega)]; exact h1, by rw [hO _ (by omega) (by omega)]; exact h2, by rw [hO _ (by omega) (by omega)]; exact h3, by rw [hO _ (by omega) (by omega)]; exact h4, fun i hi => by rw [hO _ (by omega) (by omega)]; exact h5 i hi, by rw [hO _ (by omega) (by omega)]; exact h6, fun i hi => by rw [hO _ (by omega) (by omega)]; exact h7 i hi⟩
theorem z_in.off {Q P P' : z_H} (h : z_in Q P) (hO : ∀ k c, Q k = some c → P' k = P k) : z_in Q P' := fun k c q => by rw [hO k c q]; exact h k c q
set_option maxRecDepth 4000 in
theorem sp7_init (l : Launch) : z_Sp l M7_init rM7_init S7_init := by
  refine z_enter (by decide) (fun as P nx K h => ?_) (fun X K as P nx hX hE hin0 hS => ?_)
  · obtain ⟨rfl, -⟩ := h
    exact Nat.le_of_ble_eq_true rfl
  obtain ⟨rfl, rfl, h0, hK⟩ := hS
  show z_W X 0 [some (.ref 1)] [] P 2 0 0
  have hin := hin0 rfl
  refine z_aload_n hX d7_init_0 rfl ?_
  refine z_objI hX lo_7_1 wo_inst wo_code (by decide) (Nat.le_of_ble_eq_true rfl) d7_init_1 ?_
  refine z_aload_n hX d7_init_4 rfl ?_
  refine z_new hX (ci := 0) rfl lc_7_7 wn_0 wi_0 (by decide) (by decide) d7_init_5 ?_
  obtain ⟨P1, h1⟩ : ∃ P1, P1 = z_up P 2 (.inr (0, z_df 0)) := ⟨_, rfl⟩
  rw [← h1]
  have e0 : P1 1 = some (.inr (7, z_d7)) := by rw [h1, z_up_n (by omega)]; exact h0
  have e1 : P1 2 = some (.inr (0, z_d0)) := by rw [h1]; exact z_up_s
  refine z_dup hX rfl d7_init_8 ?_
  refine z_callI0 hX (sp0_init l) lm_7_9 ⟨by decide, by decide, by decide, by decide⟩ (Nat.le_of_ble_eq_true rfl) d7_init_9 ?_
  refine ⟨rfl, rfl, e1, fun wd mo P2 hw hm hA hO => ?_⟩
  have e0 : P2 1 = some (.inr (7, z_d7)) := by rw [hO 1 rfl]; exact e0
  dsimp only [Option.toList, List.cons_append, List.nil_append]
  refine z_putF hX hin (ci := 7) (k := 0) rfl (by decide) (z_inT (List.mem_append_right _ (List.mem_of_getElem? (i := 146) (by decide +kernel))) rfl) rfl rfl (fun b B => z_fitr rfl _) e0 (Nat.le_of_ble_eq_true rfl) d7_init_12 ?_
  obtain ⟨P3, h3⟩ : ∃ P3, P3 = z_up P2 1 (.inr (7, [.ref 2, .null, .null, .null, .null, .null])) := ⟨_, rfl⟩
  show z_W X 15 [some (.ref 1)] [] (z_up P2 1 (.inr (7, [.ref 2, .null, .null, .null, .null, .null]))) 15 13 477
  rw [← h3]
  have e0 : P3 1 = some (.inr (7, [.ref 2, .null, .null, .null, .null, .null])) := by rw [h3]; exact z_up_s
  have hA : z_in (zA wd mo (fun _ => false) (fun _ => 0) 0) P3 := hA.off (fun k c q => by have := zA_dom q; rw [h3, z_up_n (by omega)])
  refine z_aload_n hX d7_init_15 rfl ?_
  refine z_new hX (ci := 2) rfl lc_7_16 wn_2 wi_2 (by decide) (by decide) d7_init_16 ?_
  obtain ⟨P4, h4⟩ : ∃ P4, P4 = z_up P3 15 (.inr (2, z_df 2)) := ⟨_, rfl⟩
  rw [← h4]
  have e0 : P4 1 = some (.inr (7, [.ref 2, .null, .null, .null, .null, .null])) := by rw [h4, z_up_n (by omega)]; exact e0
  have e1 : P4 15 = some (.inr (2, z_d2)) := by rw [h4]; exact z_up_s
  have hA : z_in (zA wd mo (fun _ => false) (fun _ => 0) 0) P4 := hA.off (fun k c q => by have := zA_dom q; rw [h4, z_up_n (by omega)])
  refine z_dup hX rfl d7_init_19 ?_
  refine z_callI0 hX (sp2_init l) lm_7_18 ⟨by decide, by decide, by decide, by decide⟩ (Nat.le_of_ble_eq_true rfl) d7_init_20 ?_
  refine ⟨rfl, rfl, e1, fun P5 hN hO => ?_⟩
  have e0 : P5 1 = some (.inr (7, [.ref 2, .null, .null, .null, .null, .null])) := by rw [hO 1 rfl]; exact e0
  have hA : z_in (zA wd mo (fun _ => false) (fun _ => 0) 0) P5 := hO.in hA zA_n
  dsimp only [Option.toList, List.cons_append, List.nil_append]
  refine z_putF hX hin (ci := 7) (k := 1) rfl (by decide) (z_inT (List.mem_append_right _ (List.mem_of_getElem? (i := 147) (by decide +kernel))) rfl) rfl rfl (fun b B => z_fitr rfl _) e0 (Nat.le_of_ble_eq_true rfl) d7_init_23 ?_
  obtain ⟨P6, h6⟩ : ∃ P6, P6 = z_up P5 1 (.inr (7, [.ref 2, .ref 15, .null, .null, .null, .null])) := ⟨_, rfl⟩
  show z_W X 26 [some (.ref 1)] [] (z_up P5 1 (.inr (7, [.ref 2, .ref 15, .null, .null, .null, .null]))) 21 19 542
  rw [← h6]
  have e0 : P6 1 = some (.inr (7, [.ref 2, .ref 15, .null, .null, .null, .null])) := by rw [h6]; exact z_up_s
  have hA : z_in (zA wd mo (fun _ => false) (fun _ => 0) 0) P6 := hA.off (fun k c q => by have := zA_dom q; rw [h6, z_up_n (by omega)])
  have hN : z_in (zN (fun _ => none) (fun _ => 0) (fun _ => 0) (fun _ => 0) (fun _ => 0) 0 0 0 0) P6 := hN.off (fun k c q => by have := zN_dom q; rw [h6, z_up_n (by omega)])
  refine z_aload_n hX d7_init_26 rfl ?_
  refine z_new hX (ci := 6) rfl lc_7_23 wn_6 wi_6 (by decide) (by decide) d7_init_27 ?_
  obtain ⟨P7, h7⟩ : ∃ P7, P7 = z_up P6 21 (.inr (6, z_df 6)) := ⟨_, rfl⟩
  rw [← h7]
  have e0 : P7 1 = some (.inr (7, [.ref 2, .ref 15, .null, .null, .null, .null])) := by rw [h7, z_up_n (by omega)]; exact e0
  have e1 : P7 21 = some (.inr (6, z_d6)) := by rw [h7]; exact z_up_s
  have hA : z_in (zA wd mo (fun _ => false) (fun _ => 0) 0) P7 := hA.off (fun k c q => by have := zA_dom q; rw [h7, z_up_n (by omega)])
  have hN : z_in (zN (fun _ => none) (fun _ => 0) (fun _ => 0) (fun _ => 0) (fun _ => 0) 0 0 0 0) P7 := hN.off (fun k c q => by have := zN_dom q; rw [h7, z_up_n (by omega)])
  refine z_dup hX rfl d7_init_30 ?_
  refine z_callI0 hX (sp6_init l) lm_7_25 ⟨by decide, by decide, by decide, by decide⟩ (Nat.le_of_ble_eq_true rfl) d7_init_31 ?_
  refine ⟨rfl, rfl, e1, fun P8 t1 t2 hO => ?_⟩
  have e0 : P8 1 = some (.inr (7, [.ref 2, .ref 15, .null, .null, .null, .null])) := by rw [hO 1 rfl]; exact e0
  have hA : z_in (zA wd mo (fun _ => false) (fun _ => 0) 0) P8 := hA.off (fun k c q => by have := zA_dom q; rw [hO k (zDr_f (by omega))])
  have hN : z_in (zN (fun _ => none) (fun _ => 0) (fun _ => 0) (fun _ => 0) (fun _ => 0) 0 0 0 0) P8 := hN.off (fun k c q => by have := zN_dom q; rw [hO k (zDr_f (by omega))])
  dsimp only [Option.toList, List.cons_append, List.nil_append]
  refine z_putF hX hin (ci := 7) (k := 2) rfl (by decide) (z_inT (List.mem_append_right _ (List.mem_of_getElem? (i := 148) (by decide +kernel))) rfl) rfl rfl (fun b B => z_fitr rfl _) e0 (Nat.le_of_ble_eq_true rfl) d7_init_34 ?_
  obtain ⟨P9, h9⟩ : ∃ P9, P9 = z_up P8 1 (.inr (7, [.ref 2, .ref 15, .ref 21, .null, .null, .null])) := ⟨_, rfl⟩
  show z_W X 37 [some (.ref 1)] [] (z_up P8 1 (.inr (7, [.ref 2, .ref 15, .ref 21, .null, .null, .null]))) 23 21 664
  rw [← h9]
  have e0 : P9 1 = some (.inr (7, [.ref 2, .ref 15, .ref 21, .null, .null, .null])) := by rw [h9]; exact z_up_s
  have t1 : P9 21 = some (.inr (6, [.ref 22, .int 0])) := by rw [h9, z_up_n (by omega)]; exact t1
  have t2 : P9 22 = some (.inl (0, 120, .inl (fun _ => 0))) := by rw [h9, z_up_n (by omega)]; exact t2
  have hA : z_in (zA wd mo (fun _ => false) (fun _ => 0) 0) P9 := hA.off (fun k c q => by have := zA_dom q; rw [h9, z_up_n (by omega)])
  have hN : z_in (zN (fun _ => none) (fun _ => 0) (fun _ => 0) (fun _ => 0) (fun _ => 0) 0 0 0 0) P9 := hN.off (fun k c q => by have := zN_dom q; rw [h9, z_up_n (by omega)])
  refine z_aload_n hX d7_init_37 rfl ?_
  refine z_new hX (ci := 5) rfl lc_7_30 wn_5 wi_5 (by decide) (by decide) d7_init_38 ?_
  obtain ⟨P10, h10⟩ : ∃ P10, P10 = z_up P9 23 (.inr (5, z_df 5)) := ⟨_, rfl⟩
  rw [← h10]
  have e0 : P10 1 = some (.inr (7, [.ref 2, .ref 15, .ref 21, .null, .null, .null])) := by rw [h10, z_up_n (by omega)]; exact e0
  have e1 : P10 23 = some (.inr (5, z_d5)) := by rw [h10]; exact z_up_s
  have t1 : P10 21 = some (.inr (6, [.ref 22, .int 0])) := by rw [h10, z_up_n (by omega)]; exact t1
  have t2 : P10 22 = some (.inl (0, 120, .inl (fun _ => 0))) := by rw [h10, z_up_n (by omega)]; exact t2
  have hA : z_in (zA wd mo (fun _ => false) (fun _ => 0) 0) P10 := hA.off (fun k c q => by have := zA_dom q; rw [h10, z_up_n (by omega)])
  have hN : z_in (zN (fun _ => none) (fun _ => 0) (fun _ => 0) (fun _ => 0) (fun _ => 0) 0 0 0 0) P10 := hN.off (fun k c q => by have := zN_dom q; rw [h10, z_up_n (by omega)])
  refine z_dup hX rfl d7_init_41 ?_
  refine z_aload_n hX d7_init_42 rfl ?_
  refine z_get hX lf_7_26 e0 rfl d7_init_43 ?_
  refine z_callI1 hX (sp5_init l) lm_7_32 ⟨by decide, by decide, by decide, by decide⟩ (Nat.le_of_ble_eq_true rfl) d7_init_46 ?_
  refine ⟨rfl, rfl, e1, fun P11 t3 hO => ?_⟩
  have e0 : P11 1 = some (.inr (7, [.ref 2, .ref 15, .ref 21, .null, .null, .null])) := by rw [hO 1 rfl]; exact e0
  have t1 : P11 21 = some (.inr (6, [.ref 22, .int 0])) := by rw [hO 21 rfl]; exact t1
  have t2 : P11 22 = some (.inl (0, 120, .inl (fun _ => 0))) := by rw [hO 22 rfl]; exact t2
  have hA : z_in (zA wd mo (fun _ => false) (fun _ => 0) 0) P11 := hA.off (fun k c q => by have := zA_dom q; rw [hO k (zDr_f (by omega))])
  have hN : z_in (zN (fun _ => none) (fun _ => 0) (fun _ => 0) (fun _ => 0) (fun _ => 0) 0 0 0 0) P11 := hN.off (fun k c q => by have := zN_dom q; rw [hO k (zDr_f (by omega))])
  dsimp only [Option.toList, List.cons_append, List.nil_append]
  refine z_putF hX hin (ci := 7) (k := 3) rfl (by decide) (z_inT (List.mem_append_right _ (List.mem_of_getElem? (i := 149) (by decide +kernel))) rfl) rfl rfl (fun b B => z_fitr rfl _) e0 (Nat.le_of_ble_eq_true rfl) d7_init_49 ?_
  obtain ⟨P12, h12⟩ : ∃ P12, P12 = z_up P11 1 (.inr (7, [.ref 2, .ref 15, .ref 21, .ref 23, .null, .null])) := ⟨_, rfl⟩
  show z_W X 52 [some (.ref 1)] [] (z_up P11 1 (.inr (7, [.ref 2, .ref 15, .ref 21, .ref 23, .null, .null]))) 24 22 668
  rw [← h12]
  have e0 : P12 1 = some (.inr (7, [.ref 2, .ref 15, .ref 21, .ref 23, .null, .null])) := by rw [h12]; exact z_up_s
  have k1 : ∀ j, j ≠ 1 → P12 j = P11 j := fun j hj => by rw [h12, z_up_n hj]
  refine z_aload_n hX d7_init_52 rfl ?_
  refine z_new hX (ci := 4) rfl lc_7_39 wn_4 wi_4 (by decide) (by decide) d7_init_53 ?_
  obtain ⟨P13, h13⟩ : ∃ P13, P13 = z_up P12 24 (.inr (4, z_df 4)) := ⟨_, rfl⟩
  rw [← h13]
  have e1 : P13 24 = some (.inr (4, z_d4)) := by rw [h13]; exact z_up_s
  have k2 : ∀ j, j ≠ 24 → P13 j = P12 j := fun j hj => by rw [h13, z_up_n hj]
  refine z_dup hX rfl d7_init_56 ?_
  refine z_callI0 hX (sp4_init l) lm_7_41 ⟨by decide, by decide, by decide, by decide⟩ (Nat.le_of_ble_eq_true rfl) d7_init_57 ?_
  refine ⟨24, rfl, rfl, e1, fun P14 u1 hO1 => ?_⟩
  have k3 : ∀ j, j < 24 → P14 j = P13 j := fun j hj => hO1 j (zDr_f (by omega))
  dsimp only [Option.toList, List.cons_append, List.nil_append]
  refine z_putr hX lf_7_42 rfl rfl (by rw [k3 1 (by omega), k2 1 (by omega)]; exact e0) (Nat.le_of_ble_eq_true rfl) d7_init_60 ?_
  obtain ⟨P15, h15⟩ : ∃ P15, P15 = z_up P14 1 (.inr (7, [.ref 2, .ref 15, .ref 21, .ref 23, .ref 24, .null])) := ⟨_, rfl⟩
  show z_W X 63 [some (.ref 1)] [] (z_up P14 1 (.inr (7, [.ref 2, .ref 15, .ref 21, .ref 23, .ref 24, .null]))) 47 45 781
  rw [← h15]
  have e0 : P15 1 = some (.inr (7, [.ref 2, .ref 15, .ref 21, .ref 23, .ref 24, .null])) := by rw [h15]; exact z_up_s
  have k4 : ∀ j, j ≠ 1 → P15 j = P14 j := fun j hj => by rw [h15, z_up_n hj]
  refine z_aload_n hX d7_init_63 rfl ?_
  refine z_new hX (ci := 4) rfl lc_7_39 wn_4 wi_4 (by decide) (by decide) d7_init_64 ?_
  obtain ⟨P16, h16⟩ : ∃ P16, P16 = z_up P15 47 (.inr (4, z_df 4)) := ⟨_, rfl⟩
  rw [← h16]
  have e1 : P16 47 = some (.inr (4, z_d4)) := by rw [h16]; exact z_up_s
  have k5 : ∀ j, j ≠ 47 → P16 j = P15 j := fun j hj => by rw [h16, z_up_n hj]
  refine z_dup hX rfl d7_init_67 ?_
  refine z_callI0 hX (sp4_init l) lm_7_41 ⟨by decide, by decide, by decide, by decide⟩ (Nat.le_of_ble_eq_true rfl) d7_init_68 ?_
  refine ⟨47, rfl, rfl, e1, fun P17 u2 hO2 => ?_⟩
  have k6 : ∀ j, j < 47 → P17 j = P16 j := fun j hj => hO2 j (zDr_f (by omega))
  dsimp only [Option.toList, List.cons_append, List.nil_append]
  refine z_putr hX lf_7_46 rfl rfl (by rw [k6 1 (by omega), k5 1 (by omega)]; exact e0) (Nat.le_of_ble_eq_true rfl) d7_init_71 ?_
  obtain ⟨P18, h18⟩ : ∃ P18, P18 = z_up P17 1 (.inr (7, [.ref 2, .ref 15, .ref 21, .ref 23, .ref 24, .ref 47])) := ⟨_, rfl⟩
  show z_W X 74 [some (.ref 1)] [] (z_up P17 1 (.inr (7, [.ref 2, .ref 15, .ref 21, .ref 23, .ref 24, .ref 47]))) 70 68 894
  rw [← h18]
  have e0 : P18 1 = some (.inr (7, [.ref 2, .ref 15, .ref 21, .ref 23, .ref 24, .ref 47])) := by rw [h18]; exact z_up_s
  have k7 : ∀ j, j ≠ 1 → P18 j = P17 j := fun j hj => by rw [h18, z_up_n hj]
  have kk : ∀ j, 2 ≤ j → j ≤ 23 → P18 j = P11 j := fun j h1 h2 => by rw [k7 j (by omega), k6 j (by omega), k5 j (by omega), k4 j (by omega), k3 j (by omega), k2 j (by omega), k1 j (by omega)]
  refine z_vret hX hE (by decide) (by decide) d7_init_74 ?_
  exact hK wd mo P18 hw hm e0 (hA.off (fun k c q => by have := zA_dom q; exact kk k (by omega) (by omega))) (hN.off (fun k c q => by have := zN_dom q; exact kk k (by omega) (by omega))) (by rw [kk 21 (by omega) (by omega)]; exact t1) (by rw [kk 22 (by omega) (by omega)]; exact t2) (by rw [kk 23 (by omega) (by omega)]; exact t3) (u1.out (fun j h1 h2 => by rw [k7 j (by omega), k6 j (by omega), k5 j (by omega), k4 j (by omega)])) (u2.out (fun j h1 h2 => k7 j (by omega)))
def S8_init : z_PT := fun as P nx K => as = [.ref 70] ∧ nx = 71 ∧ P 70 = some (.inr (8, z_d8)) ∧ ∀ (f g e : Nat → Int32) (P' : z_H), (∀ i, i < 28 → f i = 1) → (∀ i, i < 52 → g i = 1) → (∀ i, i < 4368 → e i = -1) → z_in (zM (fun _ => 0) (fun _ => false) (va_up (va_up (va_up (fun _ _ => 0) 73 f) 74 g) 79 e) (fun _ => 0)) P' → z_out zDm P P' → K none P' 90
set_option maxRecDepth 10000 in
set_option maxHeartbeats 4000000 in
theorem sp8_init (l : Launch) : z_Sp l M8_init rM8_init S8_init := by
  refine z_enter (by decide) (fun as P nx K h => ?_) (fun X K as P nx hX hE hin0 hS => ?_)
  · obtain ⟨rfl, -⟩ := h
    exact Nat.le_of_ble_eq_true rfl
  obtain ⟨rfl, rfl, h0, hK⟩ := hS
  refine z_pad 1 ?_
  show z_W X 0 [some (.ref 70), none] [] P 71 0 0
  have hin := hin0 rfl
  obtain ⟨P0, hP0⟩ : ∃ P0, P0 = P := ⟨_, rfl⟩
  rw [← hP0] at hK
  have l3 : ∀ (f g : Nat → Int32), (∀ i, i < 28 → f i = 1) → (∀ i, i < 52 → g i = 1) → ∀ (k i : Nat) (e : Nat → Int32) (P : z_H), i + k = 4368 → (∀ d, d < i → e d = -1) → z_in (zM (fun _ => 0) (fun _ => false) (va_up (va_up (va_up (fun _ _ => 0) 73 f) 74 g) 79 e) (fun _ => 0)) P → z_out zDm P0 P → z_W X 202 [some (.ref 70), some (.int (nI i))] [] P 90 19 5312 := by
    intro f g hf hg k
    induction k with
    | zero =>
      intro i e P hi h1 hM hO
      have hi : i = 4368 := by omega
      subst hi
      refine z_iload_n hX d8_init_202 rfl ?_
      refine z_sipush hX (4368) d8_init_203 (by decide) ?_
      refine z_icmp_ge hX 222 d8_init_206 (by decide) (fun h206 => ?_) (fun h206 => ?_)
      rotate_left
      · exact absurd (by decide) h206
      refine z_vret hX hE (by decide) (by decide) d8_init_222 ?_
      exact hK f g e P hf hg h1 hM hO
    | succ k ih =>
      intro i e P hi h1 hM hO
      refine z_iload_n hX d8_init_202 rfl ?_
      refine z_sipush hX (4368) d8_init_203 (by decide) ?_
      refine z_icmp_ge hX 222 d8_init_206 (by decide) (fun h206 => ?_) (fun h206 => ?_)
      · exact absurd h206 (nI_ge (b := 4368) (by omega) (by decide))
      refine z_aload_n hX d8_init_209 rfl ?_
      refine z_get hX lf_8_36 (hM _ _ rfl) rfl d8_init_210 ?_
      refine z_iload_n hX d8_init_213 rfl ?_
      refine z_iconst hX (-1) d8_init_214 (by decide) ?_
      refine z_iast hX (hM _ _ rfl) (vp_in_nI (by omega) (by decide)) d8_init_215 ?_
      rw [nI_clamp (show i < 2 ^ 31 by omega)]
      refine z_gen hM hO rfl (fun P hM hO => ?_)
      have hM := zM_s79 hM
      rw [va_upup] at hM
      refine z_iinc hX (1) (by decide) rfl (by decide) d8_init_216 ?_
      dsimp only [z_p1, z_p2, z_k, List.headD, List.tail]
      refine z_goto hX 202 d8_init_219 (by decide) ?_
      rw [nI_1]
      refine ih (i + 1) _ P (by omega) (fun d hd => ?_) hM hO
      show upd e i (-1) d = -1
      by_cases q : d = i
      · rw [q, pk_us]
      · rw [pk_un q]; exact h1 d (by omega)
  have l2 : ∀ (f : Nat → Int32), (∀ i, i < 28 → f i = 1) → ∀ (k i : Nat) (g : Nat → Int32) (P : z_H), i + k = 52 → (∀ d, d < i → g d = 1) → z_in (zM (fun _ => 0) (fun _ => false) (va_up (va_up (fun _ _ => 0) 73 f) 74 g) (fun _ => 0)) P → z_out zDm P0 P → z_W X 181 [some (.ref 70), some (.int (nI i))] [] P 90 19 5312 := by
    intro f hf k
    induction k with
    | zero =>
      intro i g P hi h1 hM hO
      have hi : i = 52 := by omega
      subst hi
      refine z_iload_n hX d8_init_181 rfl ?_
      refine z_bipush hX (52) d8_init_182 (by decide) ?_
      refine z_icmp_ge hX 200 d8_init_184 (by decide) (fun h184 => ?_) (fun h184 => ?_)
      rotate_left
      · exact absurd (by decide) h184
      refine z_iconst hX (0) d8_init_200 (by decide) ?_
      refine z_istore_n hX 1 rfl (by decide) d8_init_201 ?_
      dsimp only [z_p1, z_p2, z_k, List.headD, List.tail]
      exact l3 f g hf h1 4368 0 (fun _ => 0) P (by omega) (fun d hd => absurd hd (Nat.not_lt_zero d)) (by rw [show va_up (va_up (va_up (fun _ _ => 0) 73 f) 74 g) 79 (fun _ => 0) = va_up (va_up (fun _ _ => (0 : Int32)) 73 f) 74 g from by funext j; by_cases e : j = 79 <;> simp [va_up, e]]; exact hM) hO
    | succ k ih =>
      intro i g P hi h1 hM hO
      refine z_iload_n hX d8_init_181 rfl ?_
      refine z_bipush hX (52) d8_init_182 (by decide) ?_
      refine z_icmp_ge hX 200 d8_init_184 (by decide) (fun h184 => ?_) (fun h184 => ?_)
      · exact absurd h184 (nI_ge (b := 52) (by omega) (by decide))
      refine z_aload_n hX d8_init_187 rfl ?_
      refine z_get hX lf_8_21 (hM _ _ rfl) rfl d8_init_188 ?_
      refine z_iload_n hX d8_init_191 rfl ?_
      refine z_iconst hX (1) d8_init_192 (by decide) ?_
      refine z_iast hX (hM _ _ rfl) (vp_in_nI (by omega) (by decide)) d8_init_193 ?_
      rw [nI_clamp (show i < 2 ^ 31 by omega)]
      refine z_gen hM hO rfl (fun P hM hO => ?_)
      have hM := zM_s74 hM
      rw [va_upup] at hM
      refine z_iinc hX (1) (by decide) rfl (by decide) d8_init_194 ?_
      dsimp only [z_p1, z_p2, z_k, List.headD, List.tail]
      refine z_goto hX 181 d8_init_197 (by decide) ?_
      rw [nI_1]
      refine ih (i + 1) _ P (by omega) (fun d hd => ?_) hM hO
      show upd g i 1 d = 1
      by_cases q : d = i
      · rw [q, pk_us]
      · rw [pk_un q]; exact h1 d (by omega)
  have l1 : ∀ (k i : Nat) (f : Nat → Int32) (P : z_H), i + k = 28 → (∀ d, d < i → f d = 1) → z_in (zM (fun _ => 0) (fun _ => false) (va_up (fun _ _ => 0) 73 f) (fun _ => 0)) P → z_out zDm P0 P → z_W X 160 [some (.ref 70), some (.int (nI i))] [] P 90 19 5312 := by
    intro k
    induction k with
    | zero =>
      intro i f P hi h1 hM hO
      have hi : i = 28 := by omega
      subst hi
      refine z_iload_n hX d8_init_160 rfl ?_
      refine z_bipush hX (28) d8_init_161 (by decide) ?_
      refine z_icmp_ge hX 179 d8_init_163 (by decide) (fun h163 => ?_) (fun h163 => ?_)
      rotate_left
      · exact absurd (by decide) h163
      refine z_iconst hX (0) d8_init_179 (by decide) ?_
      refine z_istore_n hX 1 rfl (by decide) d8_init_180 ?_
      dsimp only [z_p1, z_p2, z_k, List.headD, List.tail]
      exact l2 f h1 52 0 (fun _ => 0) P (by omega) (fun d hd => absurd hd (Nat.not_lt_zero d)) (by rw [show va_up (va_up (fun _ _ => 0) 73 f) 74 (fun _ => 0) = va_up (fun _ _ => (0 : Int32)) 73 f from by funext j; by_cases e : j = 74 <;> simp [va_up, e]]; exact hM) hO
    | succ k ih =>
      intro i f P hi h1 hM hO
      refine z_iload_n hX d8_init_160 rfl ?_
      refine z_bipush hX (28) d8_init_161 (by decide) ?_
      refine z_icmp_ge hX 179 d8_init_163 (by decide) (fun h163 => ?_) (fun h163 => ?_)
      · exact absurd h163 (nI_ge (b := 28) (by omega) (by decide))
      refine z_aload_n hX d8_init_166 rfl ?_
      refine z_get hX lf_8_17 (hM _ _ rfl) rfl d8_init_167 ?_
      refine z_iload_n hX d8_init_170 rfl ?_
      refine z_iconst hX (1) d8_init_171 (by decide) ?_
      refine z_iast hX (hM _ _ rfl) (vp_in_nI (by omega) (by decide)) d8_init_172 ?_
      rw [nI_clamp (show i < 2 ^ 31 by omega)]
      refine z_gen hM hO rfl (fun P hM hO => ?_)
      have hM := zM_s73 hM
      rw [va_upup] at hM
      refine z_iinc hX (1) (by decide) rfl (by decide) d8_init_173 ?_
      dsimp only [z_p1, z_p2, z_k, List.headD, List.tail]
      refine z_goto hX 160 d8_init_176 (by decide) ?_
      rw [nI_1]
      refine ih (i + 1) _ P (by omega) (fun d hd => ?_) hM hO
      show upd f i 1 d = 1
      by_cases q : d = i
      · rw [q, pk_us]
      · rw [pk_un q]; exact h1 d (by omega)
  refine z_aload_n hX d8_init_0 rfl ?_
  refine z_objI hX lo_8_1 wo_inst wo_code (by decide) (Nat.le_of_ble_eq_true rfl) d8_init_1 ?_
  refine z_aload_n hX d8_init_4 rfl ?_
  refine z_bipush hX (120) d8_init_5 (by decide) ?_
  refine z_newb hX 120 wa_byte (by decide) (by decide) (by decide) (by decide) (by decide) d8_init_7 ?_
  refine z_putF hX hin (ci := 8) (k := 0) rfl (by decide) (z_inT (List.mem_append_right _ (List.mem_of_getElem? (i := 514) (by decide +kernel))) rfl) rfl rfl (fun b B => z_fitr rfl _) ((z_up_n (by omega)).trans h0) (Nat.le_of_ble_eq_true rfl) d8_init_9 ?_
  refine z_aload_n hX d8_init_12 rfl ?_
  refine z_sipush hX (364) d8_init_13 (by decide) ?_
  refine z_newz hX 364 wa_boolean (by decide) (by decide) (by decide) (by decide) (by decide) d8_init_16 ?_
  refine z_putF hX hin (ci := 8) (k := 4) rfl (by decide) (z_inT (List.mem_append_right _ (List.mem_of_getElem? (i := 518) (by decide +kernel))) rfl) rfl rfl (fun b B => z_fitr rfl _) ((z_up_n (by omega)).trans z_up_s) (Nat.le_of_ble_eq_true rfl) d8_init_18 ?_
  refine z_aload_n hX d8_init_21 rfl ?_
  refine z_bipush hX (28) d8_init_22 (by decide) ?_
  refine z_newi hX 28 wa_int (by decide) (by decide) (by decide) (by decide) (by decide) d8_init_24 ?_
  refine z_putF hX hin (ci := 8) (k := 5) rfl (by decide) (z_inT (List.mem_append_right _ (List.mem_of_getElem? (i := 519) (by decide +kernel))) rfl) rfl rfl (fun b B => z_fitr rfl _) ((z_up_n (by omega)).trans z_up_s) (Nat.le_of_ble_eq_true rfl) d8_init_26 ?_
  refine z_aload_n hX d8_init_29 rfl ?_
  refine z_bipush hX (52) d8_init_30 (by decide) ?_
  refine z_newi hX 52 wa_int (by decide) (by decide) (by decide) (by decide) (by decide) d8_init_32 ?_
  refine z_putF hX hin (ci := 8) (k := 6) rfl (by decide) (z_inT (List.mem_append_right _ (List.mem_of_getElem? (i := 520) (by decide +kernel))) rfl) rfl rfl (fun b B => z_fitr rfl _) ((z_up_n (by omega)).trans z_up_s) (Nat.le_of_ble_eq_true rfl) d8_init_34 ?_
  refine z_aload_n hX d8_init_37 rfl ?_
  refine z_bipush hX (12) d8_init_38 (by decide) ?_
  refine z_newi hX 12 wa_int (by decide) (by decide) (by decide) (by decide) (by decide) d8_init_40 ?_
  refine z_putF hX hin (ci := 8) (k := 7) rfl (by decide) (z_inT (List.mem_append_right _ (List.mem_of_getElem? (i := 521) (by decide +kernel))) rfl) rfl rfl (fun b B => z_fitr rfl _) ((z_up_n (by omega)).trans z_up_s) (Nat.le_of_ble_eq_true rfl) d8_init_42 ?_
  refine z_aload_n hX d8_init_45 rfl ?_
  refine z_bipush hX (12) d8_init_46 (by decide) ?_
  refine z_newi hX 12 wa_int (by decide) (by decide) (by decide) (by decide) (by decide) d8_init_48 ?_
  refine z_putF hX hin (ci := 8) (k := 8) rfl (by decide) (z_inT (List.mem_append_right _ (List.mem_of_getElem? (i := 522) (by decide +kernel))) rfl) rfl rfl (fun b B => z_fitr rfl _) ((z_up_n (by omega)).trans z_up_s) (Nat.le_of_ble_eq_true rfl) d8_init_50 ?_
  refine z_aload_n hX d8_init_53 rfl ?_
  refine z_bipush hX (12) d8_init_54 (by decide) ?_
  refine z_newi hX 12 wa_int (by decide) (by decide) (by decide) (by decide) (by decide) d8_init_56 ?_
  refine z_putF hX hin (ci := 8) (k := 9) rfl (by decide) (z_inT (List.mem_append_right _ (List.mem_of_getElem? (i := 523) (by decide +kernel))) rfl) rfl rfl (fun b B => z_fitr rfl _) ((z_up_n (by omega)).trans z_up_s) (Nat.le_of_ble_eq_true rfl) d8_init_58 ?_
  refine z_aload_n hX d8_init_61 rfl ?_
  refine z_bipush hX (12) d8_init_62 (by decide) ?_
  refine z_newi hX 12 wa_int (by decide) (by decide) (by decide) (by decide) (by decide) d8_init_64 ?_
  refine z_putF hX hin (ci := 8) (k := 10) rfl (by decide) (z_inT (List.mem_append_right _ (List.mem_of_getElem? (i := 524) (by decide +kernel))) rfl) rfl rfl (fun b B => z_fitr rfl _) ((z_up_n (by omega)).trans z_up_s) (Nat.le_of_ble_eq_true rfl) d8_init_66 ?_
  refine z_aload_n hX d8_init_69 rfl ?_
  refine z_sipush hX (4368) d8_init_70 (by decide) ?_
  refine z_newi hX 4368 wa_int (by decide) (by decide) (by decide) (by decide) (by decide) d8_init_73 ?_
  refine z_putF hX hin (ci := 8) (k := 11) rfl (by decide) (z_inT (List.mem_append_right _ (List.mem_of_getElem? (i := 525) (by decide +kernel))) rfl) rfl rfl (fun b B => z_fitr rfl _) ((z_up_n (by omega)).trans z_up_s) (Nat.le_of_ble_eq_true rfl) d8_init_75 ?_
  refine z_aload_n hX d8_init_78 rfl ?_
  refine z_bipush hX (12) d8_init_79 (by decide) ?_
  refine z_newi hX 12 wa_int (by decide) (by decide) (by decide) (by decide) (by decide) d8_init_81 ?_
  refine z_putF hX hin (ci := 8) (k := 12) rfl (by decide) (z_inT (List.mem_append_right _ (List.mem_of_getElem? (i := 526) (by decide +kernel))) rfl) rfl rfl (fun b B => z_fitr rfl _) ((z_up_n (by omega)).trans z_up_s) (Nat.le_of_ble_eq_true rfl) d8_init_83 ?_
  refine z_aload_n hX d8_init_86 rfl ?_
  refine z_bipush hX (120) d8_init_87 (by decide) ?_
  refine z_newi hX 120 wa_int (by decide) (by decide) (by decide) (by decide) (by decide) d8_init_89 ?_
  refine z_putF hX hin (ci := 8) (k := 13) rfl (by decide) (z_inT (List.mem_append_right _ (List.mem_of_getElem? (i := 527) (by decide +kernel))) rfl) rfl rfl (fun b B => z_fitr rfl _) ((z_up_n (by omega)).trans z_up_s) (Nat.le_of_ble_eq_true rfl) d8_init_91 ?_
  refine z_aload_n hX d8_init_94 rfl ?_
  refine z_bipush hX (9) d8_init_95 (by decide) ?_
  refine z_newi hX 9 wa_int (by decide) (by decide) (by decide) (by decide) (by decide) d8_init_97 ?_
  refine z_putF hX hin (ci := 8) (k := 16) rfl (by decide) (z_inT (List.mem_append_right _ (List.mem_of_getElem? (i := 530) (by decide +kernel))) rfl) rfl rfl (fun b B => z_fitr rfl _) ((z_up_n (by omega)).trans z_up_s) (Nat.le_of_ble_eq_true rfl) d8_init_99 ?_
  refine z_aload_n hX d8_init_102 rfl ?_
  refine z_bipush hX (9) d8_init_103 (by decide) ?_
  refine z_newi hX 9 wa_int (by decide) (by decide) (by decide) (by decide) (by decide) d8_init_105 ?_
  refine z_putF hX hin (ci := 8) (k := 17) rfl (by decide) (z_inT (List.mem_append_right _ (List.mem_of_getElem? (i := 531) (by decide +kernel))) rfl) rfl rfl (fun b B => z_fitr rfl _) ((z_up_n (by omega)).trans z_up_s) (Nat.le_of_ble_eq_true rfl) d8_init_107 ?_
  refine z_aload_n hX d8_init_110 rfl ?_
  refine z_bipush hX (72) d8_init_111 (by decide) ?_
  refine z_newi hX 72 wa_int (by decide) (by decide) (by decide) (by decide) (by decide) d8_init_113 ?_
  refine z_putF hX hin (ci := 8) (k := 18) rfl (by decide) (z_inT (List.mem_append_right _ (List.mem_of_getElem? (i := 532) (by decide +kernel))) rfl) rfl rfl (fun b B => z_fitr rfl _) ((z_up_n (by omega)).trans z_up_s) (Nat.le_of_ble_eq_true rfl) d8_init_115 ?_
  refine z_aload_n hX d8_init_118 rfl ?_
  refine z_bipush hX (9) d8_init_119 (by decide) ?_
  refine z_newi hX 9 wa_int (by decide) (by decide) (by decide) (by decide) (by decide) d8_init_121 ?_
  refine z_putF hX hin (ci := 8) (k := 19) rfl (by decide) (z_inT (List.mem_append_right _ (List.mem_of_getElem? (i := 533) (by decide +kernel))) rfl) rfl rfl (fun b B => z_fitr rfl _) ((z_up_n (by omega)).trans z_up_s) (Nat.le_of_ble_eq_true rfl) d8_init_123 ?_
  refine z_aload_n hX d8_init_126 rfl ?_
  refine z_bipush hX (9) d8_init_127 (by decide) ?_
  refine z_newi hX 9 wa_int (by decide) (by decide) (by decide) (by decide) (by decide) d8_init_129 ?_
  refine z_putF hX hin (ci := 8) (k := 20) rfl (by decide) (z_inT (List.mem_append_right _ (List.mem_of_getElem? (i := 534) (by decide +kernel))) rfl) rfl rfl (fun b B => z_fitr rfl _) ((z_up_n (by omega)).trans z_up_s) (Nat.le_of_ble_eq_true rfl) d8_init_131 ?_
  refine z_aload_n hX d8_init_134 rfl ?_
  refine z_bipush hX (72) d8_init_135 (by decide) ?_
  refine z_newi hX 72 wa_int (by decide) (by decide) (by decide) (by decide) (by decide) d8_init_137 ?_
  refine z_putF hX hin (ci := 8) (k := 21) rfl (by decide) (z_inT (List.mem_append_right _ (List.mem_of_getElem? (i := 535) (by decide +kernel))) rfl) rfl rfl (fun b B => z_fitr rfl _) ((z_up_n (by omega)).trans z_up_s) (Nat.le_of_ble_eq_true rfl) d8_init_139 ?_
  refine z_aload_n hX d8_init_142 rfl ?_
  refine z_bipush hX (12) d8_init_143 (by decide) ?_
  refine z_newl hX 12 wa_long (by decide) (by decide) (by decide) (by decide) (by decide) d8_init_145 ?_
  refine z_putF hX hin (ci := 8) (k := 22) rfl (by decide) (z_inT (List.mem_append_right _ (List.mem_of_getElem? (i := 536) (by decide +kernel))) rfl) rfl rfl (fun b B => z_fitr rfl _) ((z_up_n (by omega)).trans z_up_s) (Nat.le_of_ble_eq_true rfl) d8_init_147 ?_
  refine z_aload_n hX d8_init_150 rfl ?_
  refine z_bipush hX (8) d8_init_151 (by decide) ?_
  refine z_newi hX 8 wa_int (by decide) (by decide) (by decide) (by decide) (by decide) d8_init_153 ?_
  refine z_putF hX hin (ci := 8) (k := 23) rfl (by decide) (z_inT (List.mem_append_right _ (List.mem_of_getElem? (i := 537) (by decide +kernel))) rfl) rfl rfl (fun b B => z_fitr rfl _) ((z_up_n (by omega)).trans z_up_s) (Nat.le_of_ble_eq_true rfl) d8_init_155 ?_
  refine z_iconst hX (0) d8_init_158 (by decide) ?_
  refine z_istore_n hX 1 rfl (by decide) d8_init_159 ?_
  dsimp only [z_p1, z_p2, z_k, List.headD, List.tail]
  refine l1 28 0 (fun _ => 0) _ (by omega) (fun d hd => absurd hd (Nat.not_lt_zero d)) (fun k c hk => ?_) ?_
  · rw [← hk]
    obtain ⟨h1, h2⟩ := zM_dom hk
    rcases (show k = 70 ∨ k = 71 ∨ k = 72 ∨ k = 73 ∨ k = 74 ∨ k = 75 ∨ k = 76 ∨ k = 77 ∨ k = 78 ∨ k = 79 ∨ k = 80 ∨ k = 81 ∨ k = 82 ∨ k = 83 ∨ k = 84 ∨ k = 85 ∨ k = 86 ∨ k = 87 ∨ k = 88 ∨ k = 89 by omega) with e | e | e | e | e | e | e | e | e | e | e | e | e | e | e | e | e | e | e | e <;> subst e <;> rfl
  · rw [hP0]
    exact ((((((((((((((((((((((((((((((((((((((z_out.rf.up rfl).up rfl).up rfl).up rfl).up rfl).up rfl).up rfl).up rfl).up rfl).up rfl).up rfl).up rfl).up rfl).up rfl).up rfl).up rfl).up rfl).up rfl).up rfl).up rfl).up rfl).up rfl).up rfl).up rfl).up rfl).up rfl).up rfl).up rfl).up rfl).up rfl).up rfl).up rfl).up rfl).up rfl).up rfl).up rfl).up rfl).up rfl)
