/-! the model's sums -/
theorem z_pad {X : z_X} {pc nx u v : Nat} {lv : List (Option Value)} {st : List Value} {P : z_H} (n : Nat) (k : z_W X pc (lv ++ List.replicate n none) st P nx u v) : z_W X pc lv st P nx u v := by
  obtain ⟨p, l, e, R, s, m, args, below, meth, c, cc, nL, own, D, cy, b, B, Q⟩ := X
  refine fun H locs ls hR hS hL => k H locs ls hR hS (hL.sub ?_)
  have rep : ∀ n i w, z_g (List.replicate n none) i = some w → False := by
    intro n
    induction n with
    | zero => intro i w h; rw [show List.replicate 0 (none : Option Value) = [] from rfl, z_g_nil] at h; cases h
    | succ n ih => intro i w h; cases i with
      | zero => cases h
      | succ i => exact ih i w h
  clear hL hS hR k
  induction lv with
  | nil => intro i w h; exact (rep n i w h).elim
  | cons x lv ih => intro i w h; cases i with
    | zero => exact h
    | succ i => exact ih i w h
theorem zM_s72 {iv : Nat → Int32} {h : Nat → Bool} {a : Nat → Nat → Int32} {ld : Nat → Int64} {P : z_H} {i : Nat} {b : Bool} {f : Nat → Int32} (q : z_in (z_up (zM iv h a ld) 72 (.inl (3, 364, .inl f))) P) (hf : f = fun j => zb (va_up h i b j)) : z_in (zM iv (va_up h i b) a ld) P := by
  subst hf
  intro k c hk
  refine q k c ?_
  rw [← hk]
  obtain ⟨h1, h2⟩ := zM_dom hk
  rcases (show k = 70 ∨ k = 71 ∨ k = 72 ∨ k = 73 ∨ k = 74 ∨ k = 75 ∨ k = 76 ∨ k = 77 ∨ k = 78 ∨ k = 79 ∨ k = 80 ∨ k = 81 ∨ k = 82 ∨ k = 83 ∨ k = 84 ∨ k = 85 ∨ k = 86 ∨ k = 87 ∨ k = 88 ∨ k = 89 by omega) with e | e | e | e | e | e | e | e | e | e | e | e | e | e | e | e | e | e | e | e <;> subst e <;> rfl
theorem zHol {h : Nat → Bool} {i : Nat} : upd (fun j => zb (h j)) i (vp_nar .boolean 1) = fun j => zb (va_up h i true j) := by
  funext j
  by_cases e : j = i
  · subst e
    simp [upd, va_up, zb]
    rfl
  · simp [upd, va_up, e]
/-- a sum -/
def zS (f : Nat → Int64) : Nat → Int64
  | 0 => 0
  | n + 1 => zS f n + f n
/-- how many -/
def zC (p : Nat → Bool) : Nat → Nat
  | 0 => 0
  | n + 1 => zC p n + (if p n then 1 else 0)
theorem zC_le (p : Nat → Bool) : ∀ n, zC p n ≤ n
  | 0 => Nat.le_refl 0
  | n + 1 => by
    have := zC_le p n
    unfold zC
    split <;> omega
def mShare (h : Nat → Bool) (a : Nat → Nat → Int32) (s d : Nat) : Int64 := (a 73 (7 * s + if h d then 6 else d % 7)).toInt64 * (a 74 (13 * s + d / 28)).toInt64
def mUsed (h : Nat → Bool) (a : Nat → Nat → Int32) (r d : Nat) : Bool := decide (¬ a 79 (364 * r + d) = -1) && !h d
def mCounts (h : Nat → Bool) (a : Nat → Nat → Int32) (r : Nat) : Int64 := zS (fun d => if mUsed h a r d then (a 79 (364 * r + d)).toInt64 else 0) 364
def mShares (h : Nat → Bool) (a : Nat → Nat → Int32) (r s : Nat) : Int64 := zS (fun d => if mUsed h a r d then mShare h a s d else 0) 364
def mWhole (h : Nat → Bool) (a : Nat → Nat → Int32) (s : Nat) : Int64 := zS (mShare h a s) 364
/-- an index that is a small sum of products -/
theorem ix_in {x : Int32} {k n : Nat} (h : x = nI k) (hk : k < n) (hn : n < 2 ^ 31) : vp_in x n := by rw [h]; exact vp_in_nI hk hn
theorem ix_c {x : Int32} {k : Nat} (h : x = nI k) (hk : k < 2 ^ 31) : x.toNatClampNeg = k := by rw [h, nI_clamp hk]
theorem nI_ml (m s d : Nat) : nI m * nI s + nI d = nI (m * s + d) := by rw [pk_mul, nI_add]
def S8_share : z_PT := fun as P nx K => ∃ (iv : Nat → Int32) (h : Nat → Bool) (a : Nat → Nat → Int32) (ld : Nat → Int64) (s d : Nat), as = [.ref 70, .int (nI s), .int (nI d)] ∧ z_in (zM iv h a ld) P ∧ (s < 4) ∧ (d < 364) ∧ K (some (.long (mShare h a s d))) P nx
set_option maxRecDepth 4000 in
theorem sp8_share (l : Launch) : z_Sp l M8_share rM8_share S8_share := by
  refine z_enter (by decide) (fun as P nx K h => ?_) (fun X K as P nx hX hE hin0 hS => ?_)
  · obtain ⟨iv, h, a, ld, s, d, rfl, -⟩ := h
    exact Nat.le_of_ble_eq_true rfl
  obtain ⟨iv, h, a, ld, s, d, rfl, hM, p1, p2, hK⟩ := hS
  show z_W X 0 [some (.ref 70), some (.int (nI s)), some (.int (nI d))] [] P nx 0 0
  refine z_aload_n hX d8_share_0 rfl ?_
  refine z_get hX lf_8_17 (hM _ _ rfl) rfl d8_share_1 ?_
  refine z_bipush hX (7) d8_share_4 (by decide) ?_
  refine z_iload_n hX d8_share_6 rfl ?_
  refine z_imul hX d8_share_7 ?_
  refine z_aload_n hX d8_share_8 rfl ?_
  refine z_get hX lf_8_13 (hM _ _ rfl) rfl d8_share_9 ?_
  refine z_iload_n hX d8_share_12 rfl ?_
  refine z_zald hX (hM _ _ rfl) (vp_in_nI p2 (by decide)) d8_share_13 ?_
  rw [nI_clamp (show d < 2 ^ 31 by omega)]
  refine z_ifb_eq hX 22 d8_share_14 (by decide) (fun h14 => ?_) (fun h14 => ?_)
  · skip
    have e1 : (7 : Int32) * nI s + (nI d - nI d / 7 * 7) = nI (7 * s + d % 7) := by rw [show (7 : Int32) = nI 7 from rfl, pk_rem (by omega) (by decide) (by decide), nI_ml]
    have i1 : 7 * s + d % 7 < 28 := by omega
    refine z_iload_n hX d8_share_22 rfl ?_
    refine z_bipush hX (7) d8_share_23 (by decide) ?_
    refine z_irem hX d8_share_25 (by decide) ?_
    refine z_iadd hX d8_share_26 ?_
    refine z_iald hX (hM _ _ rfl) (ix_in e1 i1 (by decide)) d8_share_27 ?_
    rw [ix_c e1 (by omega)]
    refine z_i2l hX d8_share_28 ?_
    refine z_aload_n hX d8_share_29 rfl ?_
    refine z_get hX lf_8_21 (hM _ _ rfl) rfl d8_share_30 ?_
    refine z_bipush hX (13) d8_share_33 (by decide) ?_
    refine z_iload_n hX d8_share_35 rfl ?_
    refine z_imul hX d8_share_36 ?_
    refine z_iload_n hX d8_share_37 rfl ?_
    refine z_bipush hX (28) d8_share_38 (by decide) ?_
    refine z_idiv hX d8_share_40 (by decide) ?_
    refine z_iadd hX d8_share_41 ?_
    have e2 : (13 : Int32) * nI s + nI d / 28 = nI (13 * s + d / 28) := by rw [show (28 : Int32) = nI 28 from rfl, pk_div (by omega) (by decide) (by decide)]; exact nI_ml 13 s (d / 28)
    have i2 : 13 * s + d / 28 < 52 := by omega
    refine z_iald hX (hM _ _ rfl) (ix_in e2 i2 (by decide)) d8_share_42 ?_
    rw [ix_c e2 (by omega)]
    refine z_i2l hX d8_share_43 ?_
    refine z_lmul hX d8_share_44 ?_
    refine z_lret hX hE (by decide) (by decide) d8_share_45 ?_
    exact zKe hK (by unfold mShare; rw [h14]; rfl)
  · skip
    have e1 : (7 : Int32) * nI s + 6 = nI (7 * s + 6) := nI_ml 7 s 6
    have i1 : 7 * s + 6 < 28 := by omega
    refine z_bipush hX (6) d8_share_17 (by decide) ?_
    refine z_goto hX 26 d8_share_19 (by decide) ?_
    refine z_iadd hX d8_share_26 ?_
    refine z_iald hX (hM _ _ rfl) (ix_in e1 i1 (by decide)) d8_share_27 ?_
    rw [ix_c e1 (by omega)]
    refine z_i2l hX d8_share_28 ?_
    refine z_aload_n hX d8_share_29 rfl ?_
    refine z_get hX lf_8_21 (hM _ _ rfl) rfl d8_share_30 ?_
    refine z_bipush hX (13) d8_share_33 (by decide) ?_
    refine z_iload_n hX d8_share_35 rfl ?_
    refine z_imul hX d8_share_36 ?_
    refine z_iload_n hX d8_share_37 rfl ?_
    refine z_bipush hX (28) d8_share_38 (by decide) ?_
    refine z_idiv hX d8_share_40 (by decide) ?_
    refine z_iadd hX d8_share_41 ?_
    have e2 : (13 : Int32) * nI s + nI d / 28 = nI (13 * s + d / 28) := by rw [show (28 : Int32) = nI 28 from rfl, pk_div (by omega) (by decide) (by decide)]; exact nI_ml 13 s (d / 28)
    have i2 : 13 * s + d / 28 < 52 := by omega
    refine z_iald hX (hM _ _ rfl) (ix_in e2 i2 (by decide)) d8_share_42 ?_
    rw [ix_c e2 (by omega)]
    refine z_i2l hX d8_share_43 ?_
    refine z_lmul hX d8_share_44 ?_
    refine z_lret hX hE (by decide) (by decide) d8_share_45 ?_
    exact zKe hK (by unfold mShare; rw [h14]; rfl)
def S8_wholeOf : z_PT := fun as P nx K => ∃ (iv : Nat → Int32) (h : Nat → Bool) (a : Nat → Nat → Int32) (ld : Nat → Int64) (s : Nat), as = [.ref 70, .int (nI s)] ∧ z_in (zM iv h a ld) P ∧ (s < 4) ∧ K (some (.long (mWhole h a s))) P nx
set_option maxRecDepth 4000 in
theorem sp8_wholeOf (l : Launch) : z_Sp l M8_wholeOf rM8_wholeOf S8_wholeOf := by
  refine z_enter (by decide) (fun as P nx K h => ?_) (fun X K as P nx hX hE hin0 hS => ?_)
  · obtain ⟨iv, h, a, ld, s, rfl, -⟩ := h
    exact Nat.le_of_ble_eq_true rfl
  obtain ⟨iv, h, a, ld, s, rfl, hM, p1, hK⟩ := hS
  refine z_pad 3 ?_
  show z_W X 0 [some (.ref 70), some (.int (nI s)), none, none, none] [] P nx 0 0
  have loop : ∀ (k i : Nat), i + k = 364 → z_W X 5 [some (.ref 70), some (.int (nI s)), some (.long (zS (mShare h a s) i)), none, some (.int (nI i))] [] P nx 0 0 := by
    intro k
    induction k with
    | zero =>
      intro i hi
      have hi : i = 364 := by omega
      subst hi
      refine z_iload hX d8_wholeOf_5 rfl ?_
      refine z_sipush hX (364) d8_wholeOf_7 (by decide) ?_
      refine z_icmp_ge hX 29 d8_wholeOf_10 (by decide) (fun h10 => ?_) (fun h10 => ?_)
      rotate_left
      · exact absurd (by decide) h10
      refine z_lload_n hX d8_wholeOf_29 rfl ?_
      refine z_lret hX hE (by decide) (by decide) d8_wholeOf_30 ?_
      exact hK
    | succ k ih =>
      intro i hi
      refine z_iload hX d8_wholeOf_5 rfl ?_
      refine z_sipush hX (364) d8_wholeOf_7 (by decide) ?_
      refine z_icmp_ge hX 29 d8_wholeOf_10 (by decide) (fun h10 => ?_) (fun h10 => ?_)
      · exact absurd h10 (nI_ge (b := 364) (by omega) (by decide))
      refine z_lload_n hX d8_wholeOf_13 rfl ?_
      refine z_aload_n hX d8_wholeOf_14 rfl ?_
      refine z_iload_n hX d8_wholeOf_15 rfl ?_
      refine z_iload hX d8_wholeOf_16 rfl ?_
      refine z_callV2 hX (sp8_share l) lm_8_95 (hM _ _ rfl) ⟨by decide, by decide, by decide, by decide⟩ (Nat.le_of_ble_eq_true rfl) d8_wholeOf_18 ?_
      refine ⟨iv, h, a, ld, s, i, rfl, hM, p1, by omega, ?_⟩
      dsimp only [Option.toList, List.cons_append, List.nil_append]
      refine z_ladd hX d8_wholeOf_21 ?_
      refine z_lstore_n hX 2 rfl (by decide) d8_wholeOf_22 ?_
      dsimp only [z_p1, z_p2, z_k, List.headD, List.tail]
      refine z_iinc hX (1) (by decide) rfl (by decide) d8_wholeOf_23 ?_
      dsimp only [z_p1, z_p2, z_k, List.headD, List.tail]
      refine z_goto hX 5 d8_wholeOf_26 (by decide) ?_
      rw [nI_1]
      exact ih (i + 1) (by omega)
  refine z_lconst hX 0 d8_wholeOf_0 (by decide) ?_
  refine z_lstore_n hX 2 rfl (by decide) d8_wholeOf_1 ?_
  dsimp only [z_p1, z_p2, z_k, List.headD, List.tail]
  refine z_iconst hX (0) d8_wholeOf_2 (by decide) ?_
  refine z_istore hX (by decide) d8_wholeOf_3 ?_
  dsimp only [z_p1, z_p2, z_k, List.headD, List.tail]
  exact loop 364 0 (by omega)
def S8_isUsed : z_PT := fun as P nx K => ∃ (iv : Nat → Int32) (h : Nat → Bool) (a : Nat → Nat → Int32) (ld : Nat → Int64) (r d : Nat), as = [.ref 70, .int (nI r), .int (nI d)] ∧ z_in (zM iv h a ld) P ∧ (r < 12) ∧ (d < 364) ∧ K (some (.int (zb (mUsed h a r d)))) P nx
set_option maxRecDepth 4000 in
theorem sp8_isUsed (l : Launch) : z_Sp l M8_isUsed rM8_isUsed S8_isUsed := by
  refine z_enter (by decide) (fun as P nx K h => ?_) (fun X K as P nx hX hE hin0 hS => ?_)
  · obtain ⟨iv, h, a, ld, r, d, rfl, -⟩ := h
    exact Nat.le_of_ble_eq_true rfl
  obtain ⟨iv, h, a, ld, r, d, rfl, hM, p1, p2, hK⟩ := hS
  show z_W X 0 [some (.ref 70), some (.int (nI r)), some (.int (nI d))] [] P nx 0 0
  have e1 : (364 : Int32) * nI r + nI d = nI (364 * r + d) := nI_ml 364 r d
  refine z_aload_n hX d8_isUsed_0 rfl ?_
  refine z_get hX lf_8_36 (hM _ _ rfl) rfl d8_isUsed_1 ?_
  refine z_sipush hX (364) d8_isUsed_4 (by decide) ?_
  refine z_iload_n hX d8_isUsed_7 rfl ?_
  refine z_imul hX d8_isUsed_8 ?_
  refine z_iload_n hX d8_isUsed_9 rfl ?_
  refine z_iadd hX d8_isUsed_10 ?_
  refine z_iald hX (hM _ _ rfl) (ix_in e1 (by omega) (by decide)) d8_isUsed_11 ?_
  rw [ix_c e1 (by omega)]
  refine z_iconst hX (-1) d8_isUsed_12 (by decide) ?_
  refine z_icmp_eq hX 29 d8_isUsed_13 (by decide) (fun h13 => ?_) (fun h13 => ?_)
  · skip
    refine z_iconst hX (0) d8_isUsed_29 (by decide) ?_
    refine z_zret hX hE (by decide) (by decide) (by decide) d8_isUsed_30 ?_
    first | (refine zK0 hK ?_; simp [mUsed, h13, h22]; done) | (refine zK1 hK ?_; simp [mUsed, h13, h22]; done) | (refine zK0 hK ?_; simp [mUsed, h13]; done)
  · skip
    refine z_aload_n hX d8_isUsed_16 rfl ?_
    refine z_get hX lf_8_13 (hM _ _ rfl) rfl d8_isUsed_17 ?_
    refine z_iload_n hX d8_isUsed_20 rfl ?_
    refine z_zald hX (hM _ _ rfl) (vp_in_nI p2 (by decide)) d8_isUsed_21 ?_
    rw [nI_clamp (show d < 2 ^ 31 by omega)]
    refine z_ifb_ne hX 29 d8_isUsed_22 (by decide) (fun h22 => ?_) (fun h22 => ?_)
    · skip
      refine z_iconst hX (0) d8_isUsed_29 (by decide) ?_
      refine z_zret hX hE (by decide) (by decide) (by decide) d8_isUsed_30 ?_
      first | (refine zK0 hK ?_; simp [mUsed, h13, h22]; done) | (refine zK1 hK ?_; simp [mUsed, h13, h22]; done) | (refine zK0 hK ?_; simp [mUsed, h13]; done)
    · skip
      refine z_iconst hX (1) d8_isUsed_25 (by decide) ?_
      refine z_goto hX 30 d8_isUsed_26 (by decide) ?_
      refine z_zret hX hE (by decide) (by decide) (by decide) d8_isUsed_30 ?_
      first | (refine zK0 hK ?_; simp [mUsed, h13, h22]; done) | (refine zK1 hK ?_; simp [mUsed, h13, h22]; done) | (refine zK0 hK ?_; simp [mUsed, h13]; done)
def S8_usedOf : z_PT := fun as P nx K => ∃ (iv : Nat → Int32) (h : Nat → Bool) (a : Nat → Nat → Int32) (ld : Nat → Int64) (r : Nat), as = [.ref 70, .int (nI r)] ∧ z_in (zM iv h a ld) P ∧ (r < 12) ∧ K (some (.int (nI (zC (mUsed h a r) 364)))) P nx
set_option maxRecDepth 4000 in
theorem sp8_usedOf (l : Launch) : z_Sp l M8_usedOf rM8_usedOf S8_usedOf := by
  refine z_enter (by decide) (fun as P nx K h => ?_) (fun X K as P nx hX hE hin0 hS => ?_)
  · obtain ⟨iv, h, a, ld, r, rfl, -⟩ := h
    exact Nat.le_of_ble_eq_true rfl
  obtain ⟨iv, h, a, ld, r, rfl, hM, p1, hK⟩ := hS
  refine z_pad 2 ?_
  show z_W X 0 [some (.ref 70), some (.int (nI r)), none, none] [] P nx 0 0
  have loop : ∀ (k i : Nat), i + k = 364 → z_W X 4 [some (.ref 70), some (.int (nI r)), some (.int (nI (zC (mUsed h a r) i))), some (.int (nI i))] [] P nx 0 0 := by
    intro k
    induction k with
    | zero =>
      intro i hi
      have hi : i = 364 := by omega
      subst hi
      refine z_iload_n hX d8_usedOf_4 rfl ?_
      refine z_sipush hX (364) d8_usedOf_5 (by decide) ?_
      refine z_icmp_ge hX 34 d8_usedOf_8 (by decide) (fun h8 => ?_) (fun h8 => ?_)
      rotate_left
      · exact absurd (by decide) h8
      refine z_iload_n hX d8_usedOf_34 rfl ?_
      refine z_iret hX hE (by decide) (by decide) d8_usedOf_35 ?_
      exact hK
    | succ k ih =>
      intro i hi
      refine z_iload_n hX d8_usedOf_4 rfl ?_
      refine z_sipush hX (364) d8_usedOf_5 (by decide) ?_
      refine z_icmp_ge hX 34 d8_usedOf_8 (by decide) (fun h8 => ?_) (fun h8 => ?_)
      · exact absurd h8 (nI_ge (b := 364) (by omega) (by decide))
      refine z_iload_n hX d8_usedOf_11 rfl ?_
      refine z_aload_n hX d8_usedOf_12 rfl ?_
      refine z_iload_n hX d8_usedOf_13 rfl ?_
      refine z_iload_n hX d8_usedOf_14 rfl ?_
      refine z_callV2 hX (sp8_isUsed l) lm_8_117 (hM _ _ rfl) ⟨by decide, by decide, by decide, by decide⟩ (Nat.le_of_ble_eq_true rfl) d8_usedOf_15 ?_
      refine ⟨iv, h, a, ld, r, i, rfl, hM, p1, by omega, ?_⟩
      dsimp only [Option.toList, List.cons_append, List.nil_append]
      refine z_ifb_eq hX 25 d8_usedOf_18 (by decide) (fun h18 => ?_) (fun h18 => ?_)
      · skip
        refine z_iconst hX (0) d8_usedOf_25 (by decide) ?_
        refine z_iadd hX d8_usedOf_26 ?_
        refine z_istore_n hX 2 rfl (by decide) d8_usedOf_27 ?_
        dsimp only [z_p1, z_p2, z_k, List.headD, List.tail]
        refine z_iinc hX (1) (by decide) rfl (by decide) d8_usedOf_28 ?_
        dsimp only [z_p1, z_p2, z_k, List.headD, List.tail]
        refine z_goto hX 4 d8_usedOf_31 (by decide) ?_
        have := ih (i + 1) (by omega)
        unfold zC at this
        rw [h18] at this
        simp only [nI_1, Int32.add_zero]
        exact this
      · skip
        refine z_iconst hX (1) d8_usedOf_21 (by decide) ?_
        refine z_goto hX 26 d8_usedOf_22 (by decide) ?_
        refine z_iadd hX d8_usedOf_26 ?_
        refine z_istore_n hX 2 rfl (by decide) d8_usedOf_27 ?_
        dsimp only [z_p1, z_p2, z_k, List.headD, List.tail]
        refine z_iinc hX (1) (by decide) rfl (by decide) d8_usedOf_28 ?_
        dsimp only [z_p1, z_p2, z_k, List.headD, List.tail]
        refine z_goto hX 4 d8_usedOf_31 (by decide) ?_
        have := ih (i + 1) (by omega)
        unfold zC at this
        rw [h18] at this
        simp only [nI_1, Int32.add_zero]
        exact this
  refine z_iconst hX (0) d8_usedOf_0 (by decide) ?_
  refine z_istore_n hX 2 rfl (by decide) d8_usedOf_1 ?_
  dsimp only [z_p1, z_p2, z_k, List.headD, List.tail]
  refine z_iconst hX (0) d8_usedOf_2 (by decide) ?_
  refine z_istore_n hX 3 rfl (by decide) d8_usedOf_3 ?_
  dsimp only [z_p1, z_p2, z_k, List.headD, List.tail]
  exact loop 364 0 (by omega)
def S8_countsOf : z_PT := fun as P nx K => ∃ (iv : Nat → Int32) (h : Nat → Bool) (a : Nat → Nat → Int32) (ld : Nat → Int64) (r : Nat), as = [.ref 70, .int (nI r)] ∧ z_in (zM iv h a ld) P ∧ (r < 12) ∧ K (some (.long (mCounts h a r))) P nx
set_option maxRecDepth 4000 in
theorem sp8_countsOf (l : Launch) : z_Sp l M8_countsOf rM8_countsOf S8_countsOf := by
  refine z_enter (by decide) (fun as P nx K h => ?_) (fun X K as P nx hX hE hin0 hS => ?_)
  · obtain ⟨iv, h, a, ld, r, rfl, -⟩ := h
    exact Nat.le_of_ble_eq_true rfl
  obtain ⟨iv, h, a, ld, r, rfl, hM, p1, hK⟩ := hS
  refine z_pad 3 ?_
  show z_W X 0 [some (.ref 70), some (.int (nI r)), none, none, none] [] P nx 0 0
  have loop : ∀ (k i : Nat), i + k = 364 → z_W X 5 [some (.ref 70), some (.int (nI r)), some (.long (zS (fun d => if mUsed h a r d then (a 79 (364 * r + d)).toInt64 else 0) i)), none, some (.int (nI i))] [] P nx 0 0 := by
    intro k
    induction k with
    | zero =>
      intro i hi
      have hi : i = 364 := by omega
      subst hi
      refine z_iload hX d8_countsOf_5 rfl ?_
      refine z_sipush hX (364) d8_countsOf_7 (by decide) ?_
      refine z_icmp_ge hX 50 d8_countsOf_10 (by decide) (fun h10 => ?_) (fun h10 => ?_)
      rotate_left
      · exact absurd (by decide) h10
      refine z_lload_n hX d8_countsOf_50 rfl ?_
      refine z_lret hX hE (by decide) (by decide) d8_countsOf_51 ?_
      exact hK
    | succ k ih =>
      intro i hi
      have e1 : (364 : Int32) * nI r + nI i = nI (364 * r + i) := nI_ml 364 r i
      have := ih (i + 1) (by omega)
      unfold zS at this
      refine z_iload hX d8_countsOf_5 rfl ?_
      refine z_sipush hX (364) d8_countsOf_7 (by decide) ?_
      refine z_icmp_ge hX 50 d8_countsOf_10 (by decide) (fun h10 => ?_) (fun h10 => ?_)
      · exact absurd h10 (nI_ge (b := 364) (by omega) (by decide))
      refine z_lload_n hX d8_countsOf_13 rfl ?_
      refine z_aload_n hX d8_countsOf_14 rfl ?_
      refine z_iload_n hX d8_countsOf_15 rfl ?_
      refine z_iload hX d8_countsOf_16 rfl ?_
      refine z_callV2 hX (sp8_isUsed l) lm_8_117 (hM _ _ rfl) ⟨by decide, by decide, by decide, by decide⟩ (Nat.le_of_ble_eq_true rfl) d8_countsOf_18 ?_
      refine ⟨iv, h, a, ld, r, i, rfl, hM, p1, by omega, ?_⟩
      dsimp only [Option.toList, List.cons_append, List.nil_append]
      refine z_ifb_eq hX 41 d8_countsOf_21 (by decide) (fun h21 => ?_) (fun h21 => ?_)
      · skip
        rw [if_neg (by rw [h21]; decide)] at this
        refine z_lconst hX 0 d8_countsOf_41 (by decide) ?_
        refine z_ladd hX d8_countsOf_42 ?_
        refine z_lstore_n hX 2 rfl (by decide) d8_countsOf_43 ?_
        dsimp only [z_p1, z_p2, z_k, List.headD, List.tail]
        refine z_iinc hX (1) (by decide) rfl (by decide) d8_countsOf_44 ?_
        dsimp only [z_p1, z_p2, z_k, List.headD, List.tail]
        refine z_goto hX 5 d8_countsOf_47 (by decide) ?_
        rw [nI_1]
        exact this
      · skip
        rw [if_pos h21] at this
        refine z_aload_n hX d8_countsOf_24 rfl ?_
        refine z_get hX lf_8_36 (hM _ _ rfl) rfl d8_countsOf_25 ?_
        refine z_sipush hX (364) d8_countsOf_28 (by decide) ?_
        refine z_iload_n hX d8_countsOf_31 rfl ?_
        refine z_imul hX d8_countsOf_32 ?_
        refine z_iload hX d8_countsOf_33 rfl ?_
        refine z_iadd hX d8_countsOf_35 ?_
        refine z_iald hX (hM _ _ rfl) (ix_in e1 (by omega) (by decide)) d8_countsOf_36 ?_
        rw [ix_c e1 (by omega)]
        refine z_i2l hX d8_countsOf_37 ?_
        refine z_goto hX 42 d8_countsOf_38 (by decide) ?_
        refine z_ladd hX d8_countsOf_42 ?_
        refine z_lstore_n hX 2 rfl (by decide) d8_countsOf_43 ?_
        dsimp only [z_p1, z_p2, z_k, List.headD, List.tail]
        refine z_iinc hX (1) (by decide) rfl (by decide) d8_countsOf_44 ?_
        dsimp only [z_p1, z_p2, z_k, List.headD, List.tail]
        refine z_goto hX 5 d8_countsOf_47 (by decide) ?_
        rw [nI_1]
        exact this
  refine z_lconst hX 0 d8_countsOf_0 (by decide) ?_
  refine z_lstore_n hX 2 rfl (by decide) d8_countsOf_1 ?_
  dsimp only [z_p1, z_p2, z_k, List.headD, List.tail]
  refine z_iconst hX (0) d8_countsOf_2 (by decide) ?_
  refine z_istore hX (by decide) d8_countsOf_3 ?_
  dsimp only [z_p1, z_p2, z_k, List.headD, List.tail]
  exact loop 364 0 (by omega)
def S8_sharesOf : z_PT := fun as P nx K => ∃ (iv : Nat → Int32) (h : Nat → Bool) (a : Nat → Nat → Int32) (ld : Nat → Int64) (r s : Nat), as = [.ref 70, .int (nI r), .int (nI s)] ∧ z_in (zM iv h a ld) P ∧ (r < 12) ∧ (s < 4) ∧ K (some (.long (mShares h a r s))) P nx
set_option maxRecDepth 4000 in
theorem sp8_sharesOf (l : Launch) : z_Sp l M8_sharesOf rM8_sharesOf S8_sharesOf := by
  refine z_enter (by decide) (fun as P nx K h => ?_) (fun X K as P nx hX hE hin0 hS => ?_)
  · obtain ⟨iv, h, a, ld, r, s, rfl, -⟩ := h
    exact Nat.le_of_ble_eq_true rfl
  obtain ⟨iv, h, a, ld, r, s, rfl, hM, p1, p2, hK⟩ := hS
  refine z_pad 3 ?_
  show z_W X 0 [some (.ref 70), some (.int (nI r)), some (.int (nI s)), none, none, none] [] P nx 0 0
  have loop : ∀ (k i : Nat), i + k = 364 → z_W X 5 [some (.ref 70), some (.int (nI r)), some (.int (nI s)), some (.long (zS (fun d => if mUsed h a r d then mShare h a s d else 0) i)), none, some (.int (nI i))] [] P nx 0 0 := by
    intro k
    induction k with
    | zero =>
      intro i hi
      have hi : i = 364 := by omega
      subst hi
      refine z_iload hX d8_sharesOf_5 rfl ?_
      refine z_sipush hX (364) d8_sharesOf_7 (by decide) ?_
      refine z_icmp_ge hX 43 d8_sharesOf_10 (by decide) (fun h10 => ?_) (fun h10 => ?_)
      rotate_left
      · exact absurd (by decide) h10
      refine z_lload_n hX d8_sharesOf_43 rfl ?_
      refine z_lret hX hE (by decide) (by decide) d8_sharesOf_44 ?_
      exact hK
    | succ k ih =>
      intro i hi
      have := ih (i + 1) (by omega)
      unfold zS at this
      refine z_iload hX d8_sharesOf_5 rfl ?_
      refine z_sipush hX (364) d8_sharesOf_7 (by decide) ?_
      refine z_icmp_ge hX 43 d8_sharesOf_10 (by decide) (fun h10 => ?_) (fun h10 => ?_)
      · exact absurd h10 (nI_ge (b := 364) (by omega) (by decide))
      refine z_lload_n hX d8_sharesOf_13 rfl ?_
      refine z_aload_n hX d8_sharesOf_14 rfl ?_
      refine z_iload_n hX d8_sharesOf_15 rfl ?_
      refine z_iload hX d8_sharesOf_16 rfl ?_
      refine z_callV2 hX (sp8_isUsed l) lm_8_117 (hM _ _ rfl) ⟨by decide, by decide, by decide, by decide⟩ (Nat.le_of_ble_eq_true rfl) d8_sharesOf_18 ?_
      refine ⟨iv, h, a, ld, r, i, rfl, hM, p1, by omega, ?_⟩
      dsimp only [Option.toList, List.cons_append, List.nil_append]
      refine z_ifb_eq hX 34 d8_sharesOf_21 (by decide) (fun h21 => ?_) (fun h21 => ?_)
      · skip
        rw [if_neg (by rw [h21]; decide)] at this
        refine z_lconst hX 0 d8_sharesOf_34 (by decide) ?_
        refine z_ladd hX d8_sharesOf_35 ?_
        refine z_lstore_n hX 3 rfl (by decide) d8_sharesOf_36 ?_
        dsimp only [z_p1, z_p2, z_k, List.headD, List.tail]
        refine z_iinc hX (1) (by decide) rfl (by decide) d8_sharesOf_37 ?_
        dsimp only [z_p1, z_p2, z_k, List.headD, List.tail]
        refine z_goto hX 5 d8_sharesOf_40 (by decide) ?_
        rw [nI_1]
        exact this
      · skip
        rw [if_pos h21] at this
        refine z_aload_n hX d8_sharesOf_24 rfl ?_
        refine z_iload_n hX d8_sharesOf_25 rfl ?_
        refine z_iload hX d8_sharesOf_26 rfl ?_
        refine z_callV2 hX (sp8_share l) lm_8_95 (hM _ _ rfl) ⟨by decide, by decide, by decide, by decide⟩ (Nat.le_of_ble_eq_true rfl) d8_sharesOf_28 ?_
        refine ⟨iv, h, a, ld, s, i, rfl, hM, p2, by omega, ?_⟩
        dsimp only [Option.toList, List.cons_append, List.nil_append]
        refine z_goto hX 35 d8_sharesOf_31 (by decide) ?_
        refine z_ladd hX d8_sharesOf_35 ?_
        refine z_lstore_n hX 3 rfl (by decide) d8_sharesOf_36 ?_
        dsimp only [z_p1, z_p2, z_k, List.headD, List.tail]
        refine z_iinc hX (1) (by decide) rfl (by decide) d8_sharesOf_37 ?_
        dsimp only [z_p1, z_p2, z_k, List.headD, List.tail]
        refine z_goto hX 5 d8_sharesOf_40 (by decide) ?_
        rw [nI_1]
        exact this
  refine z_lconst hX 0 d8_sharesOf_0 (by decide) ?_
  refine z_lstore_n hX 3 rfl (by decide) d8_sharesOf_1 ?_
  dsimp only [z_p1, z_p2, z_k, List.headD, List.tail]
  refine z_iconst hX (0) d8_sharesOf_2 (by decide) ?_
  refine z_istore hX (by decide) d8_sharesOf_3 ?_
  dsimp only [z_p1, z_p2, z_k, List.headD, List.tail]
  exact loop 364 0 (by omega)
def mYear (h : Nat → Bool) (a : Nat → Nat → Int32) (r s : Nat) : Int64 := mCounts h a r * mWhole h a s / mShares h a r s
def S8_yearOf : z_PT := fun as P nx K => ∃ (iv : Nat → Int32) (h : Nat → Bool) (a : Nat → Nat → Int32) (ld : Nat → Int64) (r s : Nat), as = [.ref 70, .int (nI r)] ∧ z_in (zM iv h a ld) P ∧ (r < 12) ∧ (s < 4) ∧ (a 78 r = nI s) ∧ (¬ mShares h a r s = 0) ∧ K (some (.long (mYear h a r s))) P nx
set_option maxRecDepth 4000 in
theorem sp8_yearOf (l : Launch) : z_Sp l M8_yearOf rM8_yearOf S8_yearOf := by
  refine z_enter (by decide) (fun as P nx K h => ?_) (fun X K as P nx hX hE hin0 hS => ?_)
  · obtain ⟨iv, h, a, ld, r, s, rfl, -⟩ := h
    exact Nat.le_of_ble_eq_true rfl
  obtain ⟨iv, h, a, ld, r, s, rfl, hM, p1, p2, p3, p4, hK⟩ := hS
  show z_W X 0 [some (.ref 70), some (.int (nI r))] [] P nx 0 0
  refine z_aload_n hX d8_yearOf_0 rfl ?_
  refine z_iload_n hX d8_yearOf_1 rfl ?_
  refine z_callV1 hX (sp8_countsOf l) lm_8_121 (hM _ _ rfl) ⟨by decide, by decide, by decide, by decide⟩ (Nat.le_of_ble_eq_true rfl) d8_yearOf_2 ?_
  refine ⟨iv, h, a, ld, r, rfl, hM, p1, ?_⟩
  dsimp only [Option.toList, List.cons_append, List.nil_append]
  refine z_aload_n hX d8_yearOf_5 rfl ?_
  refine z_aload_n hX d8_yearOf_6 rfl ?_
  refine z_get hX lf_8_33 (hM _ _ rfl) rfl d8_yearOf_7 ?_
  refine z_iload_n hX d8_yearOf_10 rfl ?_
  refine z_iald hX (hM _ _ rfl) (vp_in_nI p1 (by decide)) d8_yearOf_11 ?_
  rw [nI_clamp (show r < 2 ^ 31 by omega), p3]
  refine z_callV1 hX (sp8_wholeOf l) lm_8_99 (hM _ _ rfl) ⟨by decide, by decide, by decide, by decide⟩ (Nat.le_of_ble_eq_true rfl) d8_yearOf_12 ?_
  refine ⟨iv, h, a, ld, s, rfl, hM, p2, ?_⟩
  dsimp only [Option.toList, List.cons_append, List.nil_append]
  refine z_lmul hX d8_yearOf_15 ?_
  refine z_aload_n hX d8_yearOf_16 rfl ?_
  refine z_iload_n hX d8_yearOf_17 rfl ?_
  refine z_aload_n hX d8_yearOf_18 rfl ?_
  refine z_get hX lf_8_33 (hM _ _ rfl) rfl d8_yearOf_19 ?_
  refine z_iload_n hX d8_yearOf_22 rfl ?_
  refine z_iald hX (hM _ _ rfl) (vp_in_nI p1 (by decide)) d8_yearOf_23 ?_
  rw [nI_clamp (show r < 2 ^ 31 by omega), p3]
  refine z_callV2 hX (sp8_sharesOf l) lm_8_124 (hM _ _ rfl) ⟨by decide, by decide, by decide, by decide⟩ (Nat.le_of_ble_eq_true rfl) d8_yearOf_24 ?_
  refine ⟨iv, h, a, ld, r, s, rfl, hM, p1, p2, ?_⟩
  dsimp only [Option.toList, List.cons_append, List.nil_append]
  refine z_ldiv hX d8_yearOf_27 p4 ?_
  refine z_lret hX hE (by decide) (by decide) d8_yearOf_28 ?_
  exact hK
