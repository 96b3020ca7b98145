/-! constructors -/
def S1_init : z_PT := fun as P nx K => ∃ q : Nat, as = [.ref q] ∧ nx = q + 1 ∧ P q = some (.inr (1, z_d1)) ∧ ∀ P' : z_H, zCt q 0 (fun _ => 0) (fun _ => 0) P' → z_out (fun j => Nat.ble q j) P P' → K none P' (q + 3)
theorem zle_f {q k : Nat} (h : k < q) : Nat.ble q k = false := by
  cases e : Nat.ble q k with
  | false => rfl
  | true => exact absurd (Nat.le_of_ble_eq_true e) (by omega)
theorem zle_t {q k : Nat} (h : q ≤ k) : Nat.ble q k = true := Nat.ble_eq.mpr h
theorem sp1_init (l : Launch) : z_Sp l M1_init rM1_init S1_init := by
  refine z_enter (by decide) (fun as P nx K h => ?_) (fun X K as P nx hX hE hin0 hS => ?_)
  · obtain ⟨q, rfl, -⟩ := h
    exact Nat.le_of_ble_eq_true rfl
  obtain ⟨q, rfl, rfl, h0, hK⟩ := hS
  show z_W X 0 [some (.ref q)] [] P (q + 1) 0 0
  have hin := hin0 rfl
  refine z_aload_n hX d1_init_0 rfl ?_
  refine z_objI hX lo_1_3 wo_inst wo_code (by decide) (Nat.le_of_ble_eq_true rfl) d1_init_1 ?_
  refine z_aload_n hX d1_init_4 rfl ?_
  refine z_bipush hX (14) d1_init_5 (by decide) ?_
  refine z_newi hX 14 wa_int (by decide) (by decide) (by decide) (by decide) (by decide) d1_init_7 ?_
  refine z_putF hX hin (ci := 1) (k := 0) rfl (by decide) (z_inT (List.mem_append_right _ (List.mem_of_getElem? (i := 217) (by decide +kernel))) rfl) rfl rfl (fun b B => z_fitr rfl _) ((z_up_n (by omega)).trans h0) (Nat.le_of_ble_eq_true rfl) d1_init_9 ?_
  refine z_aload_n hX d1_init_12 rfl ?_
  refine z_bipush hX (14) d1_init_13 (by decide) ?_
  refine z_newi hX 14 wa_int (by decide) (by decide) (by decide) (by decide) (by decide) d1_init_15 ?_
  refine z_putF hX hin (ci := 1) (k := 1) rfl (by decide) (z_inT (List.mem_append_right _ (List.mem_of_getElem? (i := 218) (by decide +kernel))) rfl) rfl rfl (fun b B => z_fitr rfl _) ((z_up_n (by omega)).trans z_up_s) (Nat.le_of_ble_eq_true rfl) d1_init_17 ?_
  refine z_vret hX hE (by decide) (by decide) d1_init_20 ?_
  refine hK _ ⟨z_up_s, ?_, ?_⟩ ?_
  · rw [z_up_n (by omega), z_up_n (by omega), z_up_n (by omega)]
    exact z_up_s
  · rw [z_up_n (by omega)]
    exact z_up_s
  · exact (((z_out.rf.up (zle_t (by omega))).up (zle_t (by omega))).up (zle_t (by omega))).up (zle_t (by omega))
def S3_init : z_PT := fun as P nx K => ∃ (q : Nat) (f t p : Int32), as = [.ref q, .int f, .int t, .int p] ∧ nx = q + 1 ∧ P q = some (.inr (3, z_d3)) ∧ ∀ P' : z_H, P' q = some (.inr (3, [.int f, .int t, .int p, .ref (q + 1), .ref (q + 4), .int 0])) → zCt (q + 1) 0 (fun _ => 0) (fun _ => 0) P' → P' (q + 4) = some (.inl (0, 10, .inl (fun _ => 0))) → z_out (fun j => Nat.ble q j) P P' → K none P' (q + 5)
theorem sp3_init (l : Launch) : z_Sp l M3_init rM3_init S3_init := by
  refine z_enter (by decide) (fun as P nx K h => ?_) (fun X K as P nx hX hE hin0 hS => ?_)
  · obtain ⟨q, f, t, p, rfl, -⟩ := h
    exact Nat.le_of_ble_eq_true rfl
  obtain ⟨q, f, t, p, rfl, rfl, h0, hK⟩ := hS
  show z_W X 0 [some (.ref q), some (.int f), some (.int t), some (.int p)] [] P (q + 1) 0 0
  have hin := hin0 rfl
  refine z_aload_n hX d3_init_0 rfl ?_
  refine z_objI hX lo_3_3 wo_inst wo_code (by decide) (Nat.le_of_ble_eq_true rfl) d3_init_1 ?_
  refine z_aload_n hX d3_init_4 rfl ?_
  refine z_new hX (ci := 1) rfl lc_3_9 wn_1 wi_1 (by decide) (by decide) d3_init_5 ?_
  refine z_dup hX rfl d3_init_8 ?_
  refine z_callI0 hX (sp1_init l) lm_3_11 ⟨by decide, by decide, by decide, by decide⟩ (Nat.le_of_ble_eq_true rfl) d3_init_9 ?_
  refine ⟨q + 1, rfl, rfl, z_up_s, fun P' hC hO => ?_⟩
  have h0 : P' q = some (.inr (3, z_d3)) := by rw [hO q (zle_f (by omega)), z_up_n (by omega)]; exact h0
  dsimp only [Option.toList, List.cons_append, List.nil_append]
  refine z_putF hX hin (ci := 3) (k := 3) rfl (by decide) (z_inT (List.mem_append_right _ (List.mem_of_getElem? (i := 236) (by decide +kernel))) rfl) rfl rfl (fun b B => z_fitr rfl _) h0 (Nat.le_of_ble_eq_true rfl) d3_init_12 ?_
  refine z_aload_n hX d3_init_15 rfl ?_
  refine z_bipush hX (10) d3_init_16 (by decide) ?_
  refine z_newi hX 10 wa_int (by decide) (by decide) (by decide) (by decide) (by decide) d3_init_18 ?_
  refine z_putF hX hin (ci := 3) (k := 4) rfl (by decide) (z_inT (List.mem_append_right _ (List.mem_of_getElem? (i := 239) (by decide +kernel))) rfl) rfl rfl (fun b B => z_fitr rfl _) ((z_up_n (by omega)).trans z_up_s) (Nat.le_of_ble_eq_true rfl) d3_init_20 ?_
  refine z_aload_n hX d3_init_23 rfl ?_
  refine z_iload_n hX d3_init_24 rfl ?_
  refine z_putF hX hin (ci := 3) (k := 0) rfl (by decide) (z_inT (List.mem_append_right _ (List.mem_of_getElem? (i := 228) (by decide +kernel))) rfl) rfl rfl (fun b B => ⟨rfl, rfl⟩) z_up_s (Nat.le_of_ble_eq_true rfl) d3_init_25 ?_
  refine z_aload_n hX d3_init_28 rfl ?_
  refine z_iload_n hX d3_init_29 rfl ?_
  refine z_putF hX hin (ci := 3) (k := 1) rfl (by decide) (z_inT (List.mem_append_right _ (List.mem_of_getElem? (i := 230) (by decide +kernel))) rfl) rfl rfl (fun b B => ⟨rfl, rfl⟩) z_up_s (Nat.le_of_ble_eq_true rfl) d3_init_30 ?_
  refine z_aload_n hX d3_init_33 rfl ?_
  refine z_iload_n hX d3_init_34 rfl ?_
  refine z_putF hX hin (ci := 3) (k := 2) rfl (by decide) (z_inT (List.mem_append_right _ (List.mem_of_getElem? (i := 233) (by decide +kernel))) rfl) rfl rfl (fun b B => ⟨rfl, rfl⟩) z_up_s (Nat.le_of_ble_eq_true rfl) d3_init_35 ?_
  refine z_vret hX hE (by decide) (by decide) d3_init_38 ?_
  refine hK _ z_up_s ⟨?_, ?_, ?_⟩ ?_ ?_
  · rw [z_up_n (by omega), z_up_n (by omega), z_up_n (by omega), z_up_n (by omega), z_up_n (by omega), z_up_n (by omega)]
    exact hC.1
  · rw [z_up_n (by omega), z_up_n (by omega), z_up_n (by omega), z_up_n (by omega), z_up_n (by omega), z_up_n (by omega)]
    exact hC.2.1
  · rw [z_up_n (by omega), z_up_n (by omega), z_up_n (by omega), z_up_n (by omega), z_up_n (by omega), z_up_n (by omega)]
    exact hC.2.2
  · rw [z_up_n (by omega), z_up_n (by omega), z_up_n (by omega), z_up_n (by omega)]
    exact z_up_s
  · refine (((((z_out.up ?_ (zle_t (by omega))).up (zle_t (by omega))).up (zle_t (by omega))).up (zle_t (by omega))).up (zle_t (by omega))).up (zle_t (by omega))
    exact (z_out.rf.up (zle_t (k := q + 1) (by omega))).tr (hO.mono (fun j hj => by cases e : Nat.ble (q + 1) j with | false => rfl | true => have := Nat.le_of_ble_eq_true e; rw [zle_t (show q ≤ j by omega)] at hj; cases hj))
/-- one after another: the pictures that a constructor makes -/
def zDr (lo hi j : Nat) : Bool := Nat.ble lo j && Nat.ble j hi
theorem zDr_t {lo hi k : Nat} (h1 : lo ≤ k) (h2 : k ≤ hi) : zDr lo hi k = true := by
  unfold zDr
  rw [Nat.ble_eq.mpr h1, Nat.ble_eq.mpr h2]
  rfl
theorem zDr_f {lo hi k : Nat} (h : k < lo ∨ hi < k) : zDr lo hi k = false := by
  unfold zDr
  rcases h with h | h
  · cases e : Nat.ble lo k with
    | false => rfl
    | true => exact absurd (Nat.le_of_ble_eq_true e) (by omega)
  · cases e : Nat.ble k hi with
    | false => exact Bool.and_false _
    | true => exact absurd (Nat.le_of_ble_eq_true e) (by omega)
theorem z_out.grid {dm : Nat → Bool} {P0 P : z_H} {nx N M : Nat} (h : z_out dm P0 P) (hd : ∀ j, nx ≤ j → j ≤ nx + N → dm j = true) : z_out dm P0 (z_grid P nx N M) := fun j hj => by
  have h1 : ¬ j = nx := fun e => by rw [e, hd nx (by omega) (by omega)] at hj; cases hj
  have h2 : ¬ (nx < j ∧ j ≤ nx + N) := fun e => by rw [hd j (by omega) e.2] at hj; cases hj
  show (if j = nx then _ else if nx < j ∧ j ≤ nx + N then _ else P j) = P0 j
  rw [if_neg h1, if_neg h2]
  exact h j hj
def S6_init : z_PT := fun as P nx K => as = [.ref 21] ∧ nx = 22 ∧ P 21 = some (.inr (6, z_d6)) ∧ ∀ P' : z_H, P' 21 = some (.inr (6, [.ref 22, .int 0])) → P' 22 = some (.inl (0, 120, .inl (fun _ => 0))) → z_out (zDr 21 22) P P' → K none P' 23
theorem sp6_init (l : Launch) : z_Sp l M6_init rM6_init S6_init := by
  refine z_enter (by decide) (fun as P nx K h => ?_) (fun X K as P nx hX hE hin0 hS => ?_)
  · obtain ⟨rfl, -⟩ := h
    exact Nat.le_of_ble_eq_true rfl
  obtain ⟨rfl, rfl, h0, hK⟩ := hS
  show z_W X 0 [some (.ref 21)] [] P 22 0 0
  have hin := hin0 rfl
  refine z_aload_n hX d6_init_0 rfl ?_
  refine z_objI hX lo_6_3 wo_inst wo_code (by decide) (Nat.le_of_ble_eq_true rfl) d6_init_1 ?_
  refine z_aload_n hX d6_init_4 rfl ?_
  refine z_bipush hX (120) d6_init_5 (by decide) ?_
  refine z_newi hX 120 wa_int (by decide) (by decide) (by decide) (by decide) (by decide) d6_init_7 ?_
  refine z_putF hX hin (ci := 6) (k := 0) rfl (by decide) (z_inT (List.mem_append_right _ (List.mem_of_getElem? (i := 94) (by decide +kernel))) rfl) rfl rfl (fun b B => z_fitr rfl _) ((z_up_n (by omega)).trans h0) (Nat.le_of_ble_eq_true rfl) d6_init_9 ?_
  refine z_vret hX hE (by decide) (by decide) d6_init_12 ?_
  exact hK _ rfl rfl ((z_out.rf.up rfl).up rfl)
def S5_init : z_PT := fun as P nx K => as = [.ref 23, .ref 21] ∧ nx = 24 ∧ P 23 = some (.inr (5, z_d5)) ∧ ∀ P' : z_H, P' 23 = some (.inr (5, [.ref 21, .int 0, .int 0, .int 0])) → z_out (zDr 23 23) P P' → K none P' 24
theorem sp5_init (l : Launch) : z_Sp l M5_init rM5_init S5_init := by
  refine z_enter (by decide) (fun as P nx K h => ?_) (fun X K as P nx hX hE hin0 hS => ?_)
  · obtain ⟨rfl, -⟩ := h
    exact Nat.le_of_ble_eq_true rfl
  obtain ⟨rfl, rfl, h0, hK⟩ := hS
  show z_W X 0 [some (.ref 23), some (.ref 21)] [] P 24 0 0
  have hin := hin0 rfl
  refine z_aload_n hX d5_init_0 rfl ?_
  refine z_objI hX lo_5_3 wo_inst wo_code (by decide) (Nat.le_of_ble_eq_true rfl) d5_init_1 ?_
  refine z_aload_n hX d5_init_4 rfl ?_
  refine z_aload_n hX d5_init_5 rfl ?_
  refine z_putF hX hin (ci := 5) (k := 0) rfl (by decide) (z_inT (List.mem_append_right _ (List.mem_of_getElem? (i := 108) (by decide +kernel))) rfl) rfl rfl (fun b B => z_fitr rfl _) h0 (Nat.le_of_ble_eq_true rfl) d5_init_6 ?_
  refine z_vret hX hE (by decide) (by decide) d5_init_9 ?_
  exact hK _ rfl (z_out.rf.up rfl)
def S2_init : z_PT := fun as P nx K => as = [.ref 15] ∧ nx = 16 ∧ P 15 = some (.inr (2, z_d2)) ∧ ∀ P' : z_H, z_in (zN (fun _ => none) (fun _ => 0) (fun _ => 0) (fun _ => 0) (fun _ => 0) 0 0 0 0) P' → z_out zDn P P' → K none P' 21
theorem sp2_init (l : Launch) : z_Sp l M2_init rM2_init S2_init := by
  refine z_enter (by decide) (fun as P nx K h => ?_) (fun X K as P nx hX hE hin0 hS => ?_)
  · obtain ⟨rfl, -⟩ := h
    exact Nat.le_of_ble_eq_true rfl
  obtain ⟨rfl, rfl, h0, hK⟩ := hS
  show z_W X 0 [some (.ref 15)] [] P 16 0 0
  have hin := hin0 rfl
  refine z_aload_n hX d2_init_0 rfl ?_
  refine z_objI hX lo_2_3 wo_inst wo_code (by decide) (Nat.le_of_ble_eq_true rfl) d2_init_1 ?_
  refine z_aload_n hX d2_init_4 rfl ?_
  refine z_bipush hX (12) d2_init_5 (by decide) ?_
  refine z_anew hX 12 lc_2_9 (by decide) (by decide) (by decide) (by decide) (by decide) d2_init_7 ?_
  refine z_putF hX hin (ci := 2) (k := 0) rfl (by decide) (z_inT (List.mem_append_right _ (List.mem_of_getElem? (i := 56) (by decide +kernel))) rfl) rfl rfl (fun b B => z_fitr rfl _) ((z_up_n (by omega)).trans h0) (Nat.le_of_ble_eq_true rfl) d2_init_10 ?_
  refine z_aload_n hX d2_init_13 rfl ?_
  refine z_bipush hX (8) d2_init_14 (by decide) ?_
  refine z_newi hX 8 wa_int (by decide) (by decide) (by decide) (by decide) (by decide) d2_init_16 ?_
  refine z_putF hX hin (ci := 2) (k := 1) rfl (by decide) (z_inT (List.mem_append_right _ (List.mem_of_getElem? (i := 57) (by decide +kernel))) rfl) rfl rfl (fun b B => z_fitr rfl _) ((z_up_n (by omega)).trans z_up_s) (Nat.le_of_ble_eq_true rfl) d2_init_18 ?_
  refine z_aload_n hX d2_init_21 rfl ?_
  refine z_bipush hX (12) d2_init_22 (by decide) ?_
  refine z_newl hX 12 wa_long (by decide) (by decide) (by decide) (by decide) (by decide) d2_init_24 ?_
  refine z_putF hX hin (ci := 2) (k := 2) rfl (by decide) (z_inT (List.mem_append_right _ (List.mem_of_getElem? (i := 58) (by decide +kernel))) rfl) rfl rfl (fun b B => z_fitr rfl _) ((z_up_n (by omega)).trans z_up_s) (Nat.le_of_ble_eq_true rfl) d2_init_26 ?_
  refine z_aload_n hX d2_init_29 rfl ?_
  refine z_bipush hX (12) d2_init_30 (by decide) ?_
  refine z_newi hX 12 wa_int (by decide) (by decide) (by decide) (by decide) (by decide) d2_init_32 ?_
  refine z_putF hX hin (ci := 2) (k := 3) rfl (by decide) (z_inT (List.mem_append_right _ (List.mem_of_getElem? (i := 59) (by decide +kernel))) rfl) rfl rfl (fun b B => z_fitr rfl _) ((z_up_n (by omega)).trans z_up_s) (Nat.le_of_ble_eq_true rfl) d2_init_34 ?_
  refine z_aload_n hX d2_init_37 rfl ?_
  refine z_bipush hX (12) d2_init_38 (by decide) ?_
  refine z_newi hX 12 wa_int (by decide) (by decide) (by decide) (by decide) (by decide) d2_init_40 ?_
  refine z_putF hX hin (ci := 2) (k := 4) rfl (by decide) (z_inT (List.mem_append_right _ (List.mem_of_getElem? (i := 60) (by decide +kernel))) rfl) rfl rfl (fun b B => z_fitr rfl _) ((z_up_n (by omega)).trans z_up_s) (Nat.le_of_ble_eq_true rfl) d2_init_42 ?_
  refine z_vret hX hE (by decide) (by decide) d2_init_45 ?_
  refine hK _ (fun k c hk => ?_) ((((((((((z_out.rf.up rfl).up rfl).up rfl).up rfl).up rfl).up rfl).up rfl).up rfl).up rfl).up rfl)
  rw [← hk]
  obtain ⟨h1, h2⟩ := zN_dom hk
  rcases (show k = 15 ∨ k = 16 ∨ k = 17 ∨ k = 18 ∨ k = 19 ∨ k = 20 by omega) with e | e | e | e | e | e <;> subst e <;> rfl
/-- rules: an object at q, its rows behind it -/
def zRu (q : Nat) (kc sc : Nat → Int32) (le gr : Nat → Nat → Int32) (n : Nat) (P : z_H) : Prop := P q = some (.inr (4, [.ref (q + 1), .ref (q + 2), .ref (q + 3), .ref (q + 13), .int (nI n)])) ∧ P (q + 1) = some (.inl (0, 9, .inl kc)) ∧ P (q + 2) = some (.inl (0, 9, .inl sc)) ∧ P (q + 3) = some (.inl (5, 9, .inr (.inr (.inr (.inr (fun i => if i < 9 then some (q + 3 + 1 + i) else none)))))) ∧ (∀ i, i < 9 → P (q + 3 + 1 + i) = some (.inl (0, 4, .inl (le i)))) ∧ P (q + 13) = some (.inl (5, 9, .inr (.inr (.inr (.inr (fun i => if i < 9 then some (q + 13 + 1 + i) else none)))))) ∧ ∀ i, i < 9 → P (q + 13 + 1 + i) = some (.inl (0, 4, .inl (gr i)))
def S4_init : z_PT := fun as P nx K => ∃ q : Nat, as = [.ref q] ∧ nx = q + 1 ∧ P q = some (.inr (4, z_d4)) ∧ ∀ P' : z_H, zRu q (fun _ => 0) (fun _ => 0) (fun _ _ => 0) (fun _ _ => 0) 0 P' → z_out (zDr q (q + 22)) P P' → K none P' (q + 23)
theorem z_grid_o {P : z_H} {nx N M : Nat} : z_grid P nx N M nx = some (.inl (5, N, .inr (.inr (.inr (.inr (fun i => if i < N then some (nx + 1 + i) else none)))))) := if_pos rfl
theorem z_grid_r {P : z_H} {nx N M i : Nat} (h : i < N) : z_grid P nx N M (nx + 1 + i) = some (.inl (0, M, .inl (fun _ => 0))) := by
  show (if nx + 1 + i = nx then _ else if nx < nx + 1 + i ∧ nx + 1 + i ≤ nx + N then _ else _) = _
  rw [if_neg (by omega), if_pos (by omega)]
theorem z_grid_n {P : z_H} {nx N M j : Nat} (h : j < nx ∨ nx + N < j) : z_grid P nx N M j = P j := by
  show (if j = nx then _ else if nx < j ∧ j ≤ nx + N then _ else P j) = _
  rw [if_neg (by omega), if_neg (by omega)]
theorem sp4_init (l : Launch) : z_Sp l M4_init rM4_init S4_init := by
  refine z_enter (by decide) (fun as P nx K h => ?_) (fun X K as P nx hX hE hin0 hS => ?_)
  · obtain ⟨q, rfl, -⟩ := h
    exact Nat.le_of_ble_eq_true rfl
  obtain ⟨q, rfl, rfl, h0, hK⟩ := hS
  show z_W X 0 [some (.ref q)] [] P (q + 1) 0 0
  have hin := hin0 rfl
  refine z_aload_n hX d4_init_0 rfl ?_
  refine z_objI hX lo_4_3 wo_inst wo_code (by decide) (Nat.le_of_ble_eq_true rfl) d4_init_1 ?_
  refine z_aload_n hX d4_init_4 rfl ?_
  refine z_bipush hX (9) d4_init_5 (by decide) ?_
  refine z_newi hX 9 wa_int (by decide) (by decide) (by decide) (by decide) (by decide) d4_init_7 ?_
  refine z_putF hX hin (ci := 4) (k := 0) rfl (by decide) (z_inT (List.mem_append_right _ (List.mem_of_getElem? (i := 128) (by decide +kernel))) rfl) rfl rfl (fun b B => z_fitr rfl _) ((z_up_n (by omega)).trans h0) (Nat.le_of_ble_eq_true rfl) d4_init_9 ?_
  refine z_aload_n hX d4_init_12 rfl ?_
  refine z_bipush hX (9) d4_init_13 (by decide) ?_
  refine z_newi hX 9 wa_int (by decide) (by decide) (by decide) (by decide) (by decide) d4_init_15 ?_
  refine z_putF hX hin (ci := 4) (k := 1) rfl (by decide) (z_inT (List.mem_append_right _ (List.mem_of_getElem? (i := 129) (by decide +kernel))) rfl) rfl rfl (fun b B => z_fitr rfl _) ((z_up_n (by omega)).trans z_up_s) (Nat.le_of_ble_eq_true rfl) d4_init_17 ?_
  refine z_aload_n hX d4_init_20 rfl ?_
  refine z_bipush hX (9) d4_init_21 (by decide) ?_
  refine z_iconst hX (4) d4_init_23 (by decide) ?_
  refine z_mna hX 9 4 lc_4_18 wa_int (by decide) (by decide) (by decide) (by decide) (by decide) (by decide) (by decide) (by decide) d4_init_24 ?_
  refine z_putF hX hin (ci := 4) (k := 2) rfl (by decide) (z_inT (List.mem_append_right _ (List.mem_of_getElem? (i := 130) (by decide +kernel))) rfl) rfl rfl (fun b B => z_fitr rfl _) ((z_grid_n (by omega)).trans z_up_s) (Nat.le_of_ble_eq_true rfl) d4_init_28 ?_
  refine z_aload_n hX d4_init_31 rfl ?_
  refine z_bipush hX (9) d4_init_32 (by decide) ?_
  refine z_iconst hX (4) d4_init_34 (by decide) ?_
  refine z_mna hX 9 4 lc_4_18 wa_int (by decide) (by decide) (by decide) (by decide) (by decide) (by decide) (by decide) (by decide) d4_init_35 ?_
  refine z_putF hX hin (ci := 4) (k := 3) rfl (by decide) (z_inT (List.mem_append_right _ (List.mem_of_getElem? (i := 131) (by decide +kernel))) rfl) rfl rfl (fun b B => z_fitr rfl _) ((z_grid_n (by omega)).trans z_up_s) (Nat.le_of_ble_eq_true rfl) d4_init_39 ?_
  refine z_vret hX hE (by decide) (by decide) d4_init_42 ?_
  refine hK _ ⟨z_up_s, ?_, ?_, ?_, fun i hi => ?_, ?_, fun i hi => ?_⟩ ?_
  · rw [z_up_n (by omega), z_grid_n (by omega), z_up_n (by omega), z_grid_n (by omega), z_up_n (by omega), z_up_n (by omega), z_up_n (by omega)]
    exact z_up_s
  · rw [z_up_n (by omega), z_grid_n (by omega), z_up_n (by omega), z_grid_n (by omega), z_up_n (by omega)]
    exact z_up_s
  · rw [z_up_n (by omega), z_grid_n (by omega), z_up_n (by omega)]
    exact z_grid_o
  · rw [z_up_n (by omega), z_grid_n (by omega), z_up_n (by omega)]
    exact z_grid_r hi
  · rw [z_up_n (by omega)]
    exact z_grid_o
  · rw [z_up_n (by omega)]
    exact z_grid_r hi
  · refine z_out.up (z_out.grid (z_out.up (z_out.grid (z_out.up (z_out.up (z_out.up (z_out.up z_out.rf (zDr_t (by omega) (by omega))) (zDr_t (by omega) (by omega))) (zDr_t (by omega) (by omega))) (zDr_t (by omega) (by omega))) (fun j h1 h2 => zDr_t (by omega) (by omega))) (zDr_t (by omega) (by omega))) (fun j h1 h2 => zDr_t (by omega) (by omega))) (zDr_t (by omega) (by omega))
