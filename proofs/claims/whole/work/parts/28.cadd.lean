/-! constructors with loops; add -/
def S0_init : z_PT := fun as P nx K => as = [.ref 2] ∧ nx = 3 ∧ P 2 = some (.inr (0, z_d0)) ∧ ∀ (wd mo : Nat → Nat → Int32) (P' : z_H), (∀ s d, s < 4 → d < 7 → wd s d = 1) → (∀ s d, s < 4 → d < 13 → mo s d = 1) → z_in (zA wd mo (fun _ => false) (fun _ => 0) 0) P' → z_out zDa P P' → K none P' 15
set_option maxRecDepth 4000 in
theorem sp0_init (l : Launch) : z_Sp l M0_init rM0_init S0_init := by
  refine z_enter (by decide) (fun as P nx K h => ?_) (fun X K as P nx hX hE hin0 hS => ?_)
  · obtain ⟨rfl, -⟩ := h
    exact Nat.le_of_ble_eq_true rfl
  obtain ⟨rfl, rfl, h0, hK⟩ := hS
  refine z_pad 2 ?_
  show z_W X 0 [some (.ref 2), none, none] [] P 3 0 0
  have hin := hin0 rfl
  obtain ⟨P0, hP0⟩ : ∃ P0, P0 = P := ⟨_, rfl⟩
  rw [← hP0] at hK
  have lm : ∀ (s : Nat) (wd : Nat → Nat → Int32), s < 4 → ∀ (k i : Nat) (mo : Nat → Nat → Int32) (P : z_H), i + k = 13 → (∀ d, d < i → mo s d = 1) → (∀ t d, t < s → d < 13 → mo t d = 1) → z_in (zA wd mo (fun _ => false) (fun _ => 0) 0) P → z_out zDa P0 P → (∀ (mo2 : Nat → Nat → Int32) (P' : z_H), (∀ t d, t < s + 1 → d < 13 → mo2 t d = 1) → z_in (zA wd mo2 (fun _ => false) (fun _ => 0) 0) P' → z_out zDa P0 P' → z_W X 45 [some (.ref 2), some (.int (nI (s + 1))), none] [] P' 15 12 472) → z_W X 75 [some (.ref 2), some (.int (nI s)), some (.int (nI i))] [] P 15 12 472 := by
    intro s wd hs k
    induction k with
    | zero =>
      intro i mo P hi h1 h2 hM hO cont
      have hi : i = 13 := by omega
      subst hi
      refine z_iload_n hX d0_init_75 rfl ?_
      refine z_bipush hX (13) d0_init_76 (by decide) ?_
      refine z_icmp_ge hX 96 d0_init_78 (by decide) (fun h78 => ?_) (fun h78 => ?_)
      rotate_left
      · exact absurd (by decide) h78
      refine z_iinc hX (1) (by decide) rfl (by decide) d0_init_96 ?_
      dsimp only [z_p1, z_p2, z_k, List.headD, List.tail]
      refine z_goto hX 45 d0_init_99 (by decide) ?_
      rw [nI_1]
      refine z_sub (cont mo P (fun t d ht hd => ?_) hM hO) (by repeat' (first | exact trivial | refine ⟨rfl, ?_⟩))
      rcases (show t = s ∨ t < s by omega) with e | e
      · rw [e]; exact h1 d hd
      · exact h2 t d e hd
    | succ k ih =>
      intro i mo P hi h1 h2 hM hO cont
      refine z_iload_n hX d0_init_75 rfl ?_
      refine z_bipush hX (13) d0_init_76 (by decide) ?_
      refine z_icmp_ge hX 96 d0_init_78 (by decide) (fun h78 => ?_) (fun h78 => ?_)
      · exact absurd h78 (nI_ge (b := 13) (by omega) (by decide))
      refine z_aload_n hX d0_init_81 rfl ?_
      refine z_get hX lf_0_16 (hM _ _ rfl) rfl d0_init_82 ?_
      refine z_iload_n hX d0_init_85 rfl ?_
      refine z_aaldA hX (hM _ _ rfl) (vp_in_nI hs (by decide)) (zA_el hs) d0_init_86 ?_
      refine z_iload_n hX d0_init_87 rfl ?_
      refine z_iconst hX (1) d0_init_88 (by decide) ?_
      refine z_iast hX (hM _ _ (zA_mo hs)) (vp_in_nI (by omega) (by decide)) d0_init_89 ?_
      rw [nI_clamp (show i < 2 ^ 31 by omega)]
      refine z_gen hM hO (zDa_t (by omega) (by omega)) (fun P hM hO => ?_)
      have hM := zA_smo hs hM
      refine z_iinc hX (1) (by decide) rfl (by decide) d0_init_90 ?_
      dsimp only [z_p1, z_p2, z_k, List.headD, List.tail]
      refine z_goto hX 75 d0_init_93 (by decide) ?_
      rw [nI_1]
      refine ih (i + 1) _ P (by omega) (fun d hd => ?_) (fun t d ht hd => ?_) hM hO cont
      · show va_up mo s (upd (mo s) i 1) s d = 1
        rw [show va_up mo s (upd (mo s) i 1) s = upd (mo s) i 1 from by simp [va_up]]
        by_cases e : d = i
        · rw [e, pk_us]
        · rw [pk_un e]; exact h1 d (by omega)
      · rw [show va_up mo s (upd (mo s) i 1) t = mo t from by simp [va_up, show ¬ t = s by omega]]
        exact h2 t d ht hd
  have lw : ∀ (s : Nat) (mo : Nat → Nat → Int32), s < 4 → (∀ t d, t < s → d < 13 → mo t d = 1) → ∀ (k i : Nat) (wd : Nat → Nat → Int32) (P : z_H), i + k = 7 → (∀ d, d < i → wd s d = 1) → (∀ t d, t < s → d < 7 → wd t d = 1) → z_in (zA wd mo (fun _ => false) (fun _ => 0) 0) P → z_out zDa P0 P → (∀ (wd2 mo2 : Nat → Nat → Int32) (P' : z_H), (∀ t d, t < s + 1 → d < 7 → wd2 t d = 1) → (∀ t d, t < s + 1 → d < 13 → mo2 t d = 1) → z_in (zA wd2 mo2 (fun _ => false) (fun _ => 0) 0) P' → z_out zDa P0 P' → z_W X 45 [some (.ref 2), some (.int (nI (s + 1))), none] [] P' 15 12 472) → z_W X 52 [some (.ref 2), some (.int (nI s)), some (.int (nI i))] [] P 15 12 472 := by
    intro s mo hs hmo k
    induction k with
    | zero =>
      intro i wd P hi h1 h2 hM hO cont
      have hi : i = 7 := by omega
      subst hi
      refine z_iload_n hX d0_init_52 rfl ?_
      refine z_bipush hX (7) d0_init_53 (by decide) ?_
      refine z_icmp_ge hX 73 d0_init_55 (by decide) (fun h55 => ?_) (fun h55 => ?_)
      rotate_left
      · exact absurd (by decide) h55
      refine z_iconst hX (0) d0_init_73 (by decide) ?_
      refine z_istore_n hX 2 rfl (by decide) d0_init_74 ?_
      dsimp only [z_p1, z_p2, z_k, List.headD, List.tail]
      refine lm s wd hs 13 0 mo P (by omega) (fun d hd => absurd hd (Nat.not_lt_zero d)) hmo hM hO (fun mo2 P' g1 g2 g3 => cont wd mo2 P' (fun t d ht hd => ?_) g1 g2 g3)
      rcases (show t = s ∨ t < s by omega) with e | e
      · rw [e]; exact h1 d hd
      · exact h2 t d e hd
    | succ k ih =>
      intro i wd P hi h1 h2 hM hO cont
      refine z_iload_n hX d0_init_52 rfl ?_
      refine z_bipush hX (7) d0_init_53 (by decide) ?_
      refine z_icmp_ge hX 73 d0_init_55 (by decide) (fun h55 => ?_) (fun h55 => ?_)
      · exact absurd h55 (nI_ge (b := 7) (by omega) (by decide))
      refine z_aload_n hX d0_init_58 rfl ?_
      refine z_get hX lf_0_11 (hM _ _ rfl) rfl d0_init_59 ?_
      refine z_iload_n hX d0_init_62 rfl ?_
      refine z_aaldA hX (hM _ _ rfl) (vp_in_nI hs (by decide)) (zA_el hs) d0_init_63 ?_
      refine z_iload_n hX d0_init_64 rfl ?_
      refine z_iconst hX (1) d0_init_65 (by decide) ?_
      refine z_iast hX (hM _ _ (zA_wd hs)) (vp_in_nI (by omega) (by decide)) d0_init_66 ?_
      rw [nI_clamp (show i < 2 ^ 31 by omega)]
      refine z_gen hM hO (zDa_t (by omega) (by omega)) (fun P hM hO => ?_)
      have hM := zA_swd hs hM
      refine z_iinc hX (1) (by decide) rfl (by decide) d0_init_67 ?_
      dsimp only [z_p1, z_p2, z_k, List.headD, List.tail]
      refine z_goto hX 52 d0_init_70 (by decide) ?_
      rw [nI_1]
      refine ih (i + 1) _ P (by omega) (fun d hd => ?_) (fun t d ht hd => ?_) hM hO cont
      · show va_up wd s (upd (wd s) i 1) s d = 1
        rw [show va_up wd s (upd (wd s) i 1) s = upd (wd s) i 1 from by simp [va_up]]
        by_cases e : d = i
        · rw [e, pk_us]
        · rw [pk_un e]; exact h1 d (by omega)
      · rw [show va_up wd s (upd (wd s) i 1) t = wd t from by simp [va_up, show ¬ t = s by omega]]
        exact h2 t d ht hd
  have lo : ∀ (k s : Nat) (wd mo : Nat → Nat → Int32) (P : z_H), s + k = 4 → (∀ t d, t < s → d < 7 → wd t d = 1) → (∀ t d, t < s → d < 13 → mo t d = 1) → z_in (zA wd mo (fun _ => false) (fun _ => 0) 0) P → z_out zDa P0 P → z_W X 45 [some (.ref 2), some (.int (nI s)), none] [] P 15 12 472 := by
    intro k
    induction k with
    | zero =>
      intro s wd mo P hi h1 h2 hM hO
      have hi : s = 4 := by omega
      subst hi
      refine z_iload_n hX d0_init_45 rfl ?_
      refine z_iconst hX (4) d0_init_46 (by decide) ?_
      refine z_icmp_ge hX 102 d0_init_47 (by decide) (fun h47 => ?_) (fun h47 => ?_)
      rotate_left
      · exact absurd (by decide) h47
      refine z_vret hX hE (by decide) (by decide) d0_init_102 ?_
      exact hK wd mo P h1 h2 hM hO
    | succ k ih =>
      intro s wd mo P hi h1 h2 hM hO
      refine z_iload_n hX d0_init_45 rfl ?_
      refine z_iconst hX (4) d0_init_46 (by decide) ?_
      refine z_icmp_ge hX 102 d0_init_47 (by decide) (fun h47 => ?_) (fun h47 => ?_)
      · exact absurd h47 (nI_ge (b := 4) (by omega) (by decide))
      refine z_iconst hX (0) d0_init_50 (by decide) ?_
      refine z_istore_n hX 2 rfl (by decide) d0_init_51 ?_
      dsimp only [z_p1, z_p2, z_k, List.headD, List.tail]
      exact lw s mo (by omega) h2 7 0 wd P (by omega) (fun d hd => absurd hd (Nat.not_lt_zero d)) h1 hM hO (fun wd2 mo2 P' g1 g2 g3 g4 => ih (s + 1) wd2 mo2 P' (by omega) g1 g2 g3 g4)
  refine z_aload_n hX d0_init_0 rfl ?_
  refine z_objI hX lo_0_3 wo_inst wo_code (by decide) (Nat.le_of_ble_eq_true rfl) d0_init_1 ?_
  refine z_aload_n hX d0_init_4 rfl ?_
  refine z_iconst hX (4) d0_init_5 (by decide) ?_
  refine z_bipush hX (7) d0_init_6 (by decide) ?_
  refine z_mna hX 4 7 lc_0_9 wa_int (by decide) (by decide) (by decide) (by decide) (by decide) (by decide) (by decide) (by decide) d0_init_8 ?_
  refine z_putF hX hin (ci := 0) (k := 0) rfl (by decide) (z_inT (List.mem_append_right _ (List.mem_of_getElem? (i := 28) (by decide +kernel))) rfl) rfl rfl (fun b B => z_fitr rfl _) ((z_grid_n (by omega)).trans h0) (Nat.le_of_ble_eq_true rfl) d0_init_12 ?_
  refine z_aload_n hX d0_init_15 rfl ?_
  refine z_iconst hX (4) d0_init_16 (by decide) ?_
  refine z_bipush hX (13) d0_init_17 (by decide) ?_
  refine z_mna hX 4 13 lc_0_9 wa_int (by decide) (by decide) (by decide) (by decide) (by decide) (by decide) (by decide) (by decide) d0_init_19 ?_
  refine z_putF hX hin (ci := 0) (k := 1) rfl (by decide) (z_inT (List.mem_append_right _ (List.mem_of_getElem? (i := 29) (by decide +kernel))) rfl) rfl rfl (fun b B => z_fitr rfl _) ((z_grid_n (by omega)).trans z_up_s) (Nat.le_of_ble_eq_true rfl) d0_init_23 ?_
  refine z_aload_n hX d0_init_26 rfl ?_
  refine z_sipush hX (364) d0_init_27 (by decide) ?_
  refine z_newz hX 364 wa_boolean (by decide) (by decide) (by decide) (by decide) (by decide) d0_init_30 ?_
  refine z_putF hX hin (ci := 0) (k := 2) rfl (by decide) (z_inT (List.mem_append_right _ (List.mem_of_getElem? (i := 30) (by decide +kernel))) rfl) rfl rfl (fun b B => z_fitr rfl _) ((z_up_n (by omega)).trans z_up_s) (Nat.le_of_ble_eq_true rfl) d0_init_32 ?_
  refine z_aload_n hX d0_init_35 rfl ?_
  refine z_bipush hX (20) d0_init_36 (by decide) ?_
  refine z_newi hX 20 wa_int (by decide) (by decide) (by decide) (by decide) (by decide) d0_init_38 ?_
  refine z_putF hX hin (ci := 0) (k := 3) rfl (by decide) (z_inT (List.mem_append_right _ (List.mem_of_getElem? (i := 32) (by decide +kernel))) rfl) rfl rfl (fun b B => z_fitr rfl _) ((z_up_n (by omega)).trans z_up_s) (Nat.le_of_ble_eq_true rfl) d0_init_40 ?_
  refine z_iconst hX (0) d0_init_43 (by decide) ?_
  refine z_istore_n hX 1 rfl (by decide) d0_init_44 ?_
  dsimp only [z_p1, z_p2, z_k, List.headD, List.tail]
  refine lo 4 0 (fun _ _ => 0) (fun _ _ => 0) _ (by omega) (fun t d ht _ => absurd ht (Nat.not_lt_zero t)) (fun t d ht _ => absurd ht (Nat.not_lt_zero t)) (fun k c hk => ?_) ?_
  · rw [← hk]
    obtain ⟨h1, h2⟩ := zA_dom hk
    rcases (show k = 2 ∨ k = 3 ∨ k = 4 ∨ k = 5 ∨ k = 6 ∨ k = 7 ∨ k = 8 ∨ k = 9 ∨ k = 10 ∨ k = 11 ∨ k = 12 ∨ k = 13 ∨ k = 14 by omega) with e | e | e | e | e | e | e | e | e | e | e | e | e <;> subst e <;> rfl
  · rw [hP0]
    exact (((((((z_out.rf.grid (fun j h1 h2 => zDa_t (by omega) (by omega))).up rfl).grid (fun j h1 h2 => zDa_t (by omega) (by omega))).up rfl).up rfl).up rfl).up rfl).up rfl
def cAd1 (ra : Nat → Int32) (n : Nat) (x : Int32) : Nat → Int32 := if x = -1 then ra else upd ra x.toInt.toNat (ra x.toInt.toNat ||| nI (2 ^ n))
def S2_add : z_PT := fun as P nx K => ∃ (rf : Nat → Option Nat) (ra : Nat → Int32) (ld : Nat → Int64) (fo fa : Nat → Int32) (st n kn to : Nat) (f t p : Int32), as = [.ref 15, .int f, .int t, .int p] ∧ z_in (zN rf ra ld fo fa st n kn to) P ∧ n ≤ 12 ∧ nx = 90 + 5 * n ∧ (-1 ≤ f.toInt ∧ f.toInt < 8) ∧ (-1 ≤ t.toInt ∧ t.toInt < 8) ∧ (n < 12 → ∀ P' : z_H, z_in (zN (va_up rf n (some (90 + 5 * n))) (cAd1 (cAd1 ra n f) n t) ld fo fa st (n + 1) kn to) P' → P' (90 + 5 * n) = some (.inr (3, [.int f, .int t, .int p, .ref (90 + 5 * n + 1), .ref (90 + 5 * n + 4), .int 0])) → zCt (90 + 5 * n + 1) 0 (fun _ => 0) (fun _ => 0) P' → P' (90 + 5 * n + 4) = some (.inl (0, 10, .inl (fun _ => 0))) → (∀ j, j < 90 + 5 * n → zDn j = false → P' j = P j) → K (some (.int (nI n))) P' (90 + 5 * n + 5)) ∧ (¬ n < 12 → K (some (.int (-1))) P nx)
theorem zN_90 {rf : Nat → Option Nat} {ra : Nat → Int32} {ld : Nat → Int64} {fo fa : Nat → Int32} {st n kn to : Nat} : ∀ j, 21 ≤ j → zN rf ra ld fo fa st n kn to j = none := by
  intro j hj
  cases e : zN rf ra ld fo fa st n kn to j with
  | none => rfl
  | some c =>
    obtain ⟨h1, h2⟩ := zN_dom e
    omega
set_option maxRecDepth 4000 in
theorem sp2_add (l : Launch) : z_Sp l M2_add rM2_add S2_add := by
  refine z_enter (by decide) (fun as P nx K h => ?_) (fun X K as P nx hX hE hin0 hS => ?_)
  · obtain ⟨rf, ra, ld, fo, fa, st, n, kn, to, f, t, p, rfl, -⟩ := h
    exact Nat.le_of_ble_eq_true rfl
  obtain ⟨rf, ra, ld, fo, fa, st, n, kn, to, f, t, p, rfl, hM, p1, rfl, p3, p4, hK1, hK2⟩ := hS
  show z_W X 0 [some (.ref 15), some (.int f), some (.int t), some (.int p)] [] P (90 + 5 * n) 0 0
  have zm1 : (-1 : Int32).toInt = -1 := rfl
  refine z_aload_n hX d2_add_0 rfl ?_
  refine z_get hX lf_2_31 (hM _ _ rfl) rfl d2_add_1 ?_
  refine z_bipush hX (12) d2_add_4 (by decide) ?_
  refine z_icmp_lt hX 11 d2_add_6 (by decide) (fun h6 => ?_) (fun h6 => ?_)
  · skip
    rw [i_lt, nI_toInt (by omega), show (12 : Int32).toInt = 12 from rfl] at h6
    have hn : n < 12 := by omega
    have hK1 := hK1 hn
    refine z_aload_n hX d2_add_11 rfl ?_
    refine z_get hX lf_2_11 (hM _ _ rfl) rfl d2_add_12 ?_
    refine z_aload_n hX d2_add_15 rfl ?_
    refine z_get hX lf_2_31 (hM _ _ rfl) rfl d2_add_16 ?_
    refine z_new hX (ci := 3) rfl lc_2_9 wn_3 wi_3 (by decide) (by decide) d2_add_19 ?_
    refine z_dup hX rfl d2_add_22 ?_
    refine z_iload_n hX d2_add_23 rfl ?_
    refine z_iload_n hX d2_add_24 rfl ?_
    refine z_iload_n hX d2_add_25 rfl ?_
    refine z_callI3 hX (sp3_init l) lm_2_35 ⟨by decide, by decide, by decide, by decide⟩ (Nat.le_of_ble_eq_true rfl) d2_add_26 ?_
    refine ⟨90 + 5 * n, f, t, p, rfl, rfl, z_up_s, fun P' g1 g2 g3 g4 => ?_⟩
    have hM : z_in (zN rf ra ld fo fa st n kn to) P' := fun k c hk => by
      obtain ⟨h1, h2⟩ := zN_dom hk
      rw [g4 k (zle_f (by omega)), z_up_n (by omega)]
      exact hM k c hk
    have hO : ∀ j, j < 90 + 5 * n → P' j = P j := fun j hj => by rw [g4 j (zle_f hj), z_up_n (by omega)]
    dsimp only [Option.toList, List.cons_append, List.nil_append]
    refine z_aast hX (hM _ _ rfl) g1 (vp_in_nI hn (by decide)) d2_add_29 ?_
    rw [nI_clamp (show n < 2 ^ 31 by omega)]
    have hQ := z_out.rf (dm := zDn) (P := P')
    refine z_gen hM hQ rfl (fun P2 hM hQ => ?_)
    have hM := zN_rf hM
    have two : ∀ (ra1 : Nat → Int32) (P2 : z_H), z_in (zN (va_up rf n (some (90 + 5 * n))) ra1 ld fo fa st n kn to) P2 → z_out zDn P' P2 → (∀ P3 : z_H, z_in (zN (va_up rf n (some (90 + 5 * n))) (cAd1 ra1 n t) ld fo fa st (n + 1) kn to) P3 → z_out zDn P' P3 → K (some (.int (nI n))) P3 (90 + 5 * n + 5)) → z_W X 50 [some (.ref 15), some (.int f), some (.int t), some (.int p)] [] P2 (90 + 5 * n + 5) 5 47 := by
      intro ra1 P2 hM hQ cont
      refine z_iload_n hX d2_add_50 rfl ?_
      refine z_iconst hX (-1) d2_add_51 (by decide) ?_
      refine z_icmp_eq hX 70 d2_add_52 (by decide) (fun h52 => ?_) (fun h52 => ?_)
      · skip
        rw [show cAd1 ra1 n t = ra1 from if_pos h52] at cont
        refine z_aload_n hX d2_add_70 rfl ?_
        refine z_dup hX rfl d2_add_71 ?_
        refine z_get hX lf_2_31 (hM _ _ rfl) rfl d2_add_72 ?_
        refine z_iconst hX (1) d2_add_75 (by decide) ?_
        refine z_iadd hX d2_add_76 ?_
        rw [nI_1]
        refine z_puti hX lf_2_31 rfl rfl (hM _ _ rfl) (Nat.le_of_ble_eq_true rfl) d2_add_77 ?_
        refine z_gen hM hQ rfl (fun P2 hM hQ => ?_)
        have hM := zN_sz hM
        refine z_aload_n hX d2_add_80 rfl ?_
        refine z_get hX lf_2_31 (hM _ _ rfl) rfl d2_add_81 ?_
        refine z_iconst hX (1) d2_add_84 (by decide) ?_
        refine z_isub hX d2_add_85 ?_
        refine z_iret hX hE (by decide) (by decide) d2_add_86 ?_
        refine zKe (cont _ hM hQ) ?_
        rw [nI_pred]
      · skip
        rw [show cAd1 ra1 n t = upd ra1 t.toInt.toNat (ra1 t.toInt.toNat ||| nI (2 ^ n)) from if_neg h52] at cont
        rw [i_eq, zm1] at h52
        obtain ⟨j, j1, j2, rfl, j4, j5⟩ := nI_r (x := t) (lo := 0) (hi := 7) (by omega) (by omega)
        rw [j4] at cont
        refine z_aload_n hX d2_add_55 rfl ?_
        refine z_get hX lf_2_17 (hM _ _ rfl) rfl d2_add_56 ?_
        refine z_iload_n hX d2_add_59 rfl ?_
        refine z_dup2 hX rfl rfl d2_add_60 ?_
        refine z_iald hX (hM _ _ rfl) (vp_in_nI (by omega) (by decide)) d2_add_61 ?_
        rw [nI_clamp (show j < 2 ^ 31 by omega)]
        refine z_iconst hX (1) d2_add_62 (by decide) ?_
        refine z_aload_n hX d2_add_63 rfl ?_
        refine z_get hX lf_2_31 (hM _ _ rfl) rfl d2_add_64 ?_
        refine z_ishl hX d2_add_67 ?_
        refine z_ior hX d2_add_68 ?_
        rw [sh1 (by omega)]
        refine z_iast hX (hM _ _ rfl) (vp_in_nI (by omega) (by decide)) d2_add_69 ?_
        rw [nI_clamp (show j < 2 ^ 31 by omega)]
        refine z_gen hM hQ rfl (fun P2 hM hQ => ?_)
        have hM := zN_ra hM
        refine z_aload_n hX d2_add_70 rfl ?_
        refine z_dup hX rfl d2_add_71 ?_
        refine z_get hX lf_2_31 (hM _ _ rfl) rfl d2_add_72 ?_
        refine z_iconst hX (1) d2_add_75 (by decide) ?_
        refine z_iadd hX d2_add_76 ?_
        rw [nI_1]
        refine z_puti hX lf_2_31 rfl rfl (hM _ _ rfl) (Nat.le_of_ble_eq_true rfl) d2_add_77 ?_
        refine z_gen hM hQ rfl (fun P2 hM hQ => ?_)
        have hM := zN_sz hM
        refine z_aload_n hX d2_add_80 rfl ?_
        refine z_get hX lf_2_31 (hM _ _ rfl) rfl d2_add_81 ?_
        refine z_iconst hX (1) d2_add_84 (by decide) ?_
        refine z_isub hX d2_add_85 ?_
        refine z_iret hX hE (by decide) (by decide) d2_add_86 ?_
        refine zKe (cont _ hM hQ) ?_
        rw [nI_pred]
    have fin : ∀ P3 : z_H, z_in (zN (va_up rf n (some (90 + 5 * n))) (cAd1 (cAd1 ra n f) n t) ld fo fa st (n + 1) kn to) P3 → z_out zDn P' P3 → K (some (.int (nI n))) P3 (90 + 5 * n + 5) := fun P3 hM hQ => by
      refine hK1 P3 hM (by rw [hQ _ (zDn_90 _ (by omega))]; exact g1) ⟨by rw [hQ _ (zDn_90 _ (by omega))]; exact g2.1, by rw [hQ _ (zDn_90 _ (by omega))]; exact g2.2.1, by rw [hQ _ (zDn_90 _ (by omega))]; exact g2.2.2⟩ (by rw [hQ _ (zDn_90 _ (by omega))]; exact g3) (fun j hj hd => by rw [hQ j hd]; exact hO j hj)
    refine z_iload_n hX d2_add_30 rfl ?_
    refine z_iconst hX (-1) d2_add_31 (by decide) ?_
    refine z_icmp_eq hX 50 d2_add_32 (by decide) (fun h32 => ?_) (fun h32 => ?_)
    · skip
      rw [show cAd1 ra n f = ra from if_pos h32] at fin
      exact two _ P2 hM hQ fin
    · skip
      rw [show cAd1 ra n f = upd ra f.toInt.toNat (ra f.toInt.toNat ||| nI (2 ^ n)) from if_neg h32] at fin
      rw [i_eq, zm1] at h32
      obtain ⟨j, j1, j2, rfl, j4, j5⟩ := nI_r (x := f) (lo := 0) (hi := 7) (by omega) (by omega)
      rw [j4] at fin
      refine z_aload_n hX d2_add_35 rfl ?_
      refine z_get hX lf_2_17 (hM _ _ rfl) rfl d2_add_36 ?_
      refine z_iload_n hX d2_add_39 rfl ?_
      refine z_dup2 hX rfl rfl d2_add_40 ?_
      refine z_iald hX (hM _ _ rfl) (vp_in_nI (by omega) (by decide)) d2_add_41 ?_
      rw [nI_clamp (show j < 2 ^ 31 by omega)]
      refine z_iconst hX (1) d2_add_42 (by decide) ?_
      refine z_aload_n hX d2_add_43 rfl ?_
      refine z_get hX lf_2_31 (hM _ _ rfl) rfl d2_add_44 ?_
      refine z_ishl hX d2_add_47 ?_
      refine z_ior hX d2_add_48 ?_
      rw [sh1 (by omega)]
      refine z_iast hX (hM _ _ rfl) (vp_in_nI (by omega) (by decide)) d2_add_49 ?_
      rw [nI_clamp (show j < 2 ^ 31 by omega)]
      refine z_gen hM hQ rfl (fun P2 hM hQ => ?_)
      have hM := zN_ra hM
      exact two _ P2 hM hQ fin
  · skip
    rw [i_lt, nI_toInt (by omega), show (12 : Int32).toInt = 12 from rfl] at h6
    refine z_iconst hX (-1) d2_add_9 (by decide) ?_
    refine z_iret hX hE (by decide) (by decide) d2_add_10 ?_
    exact hK2 (by omega)
