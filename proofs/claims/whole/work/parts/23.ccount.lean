/-! THE CLASS: the counts of a road, at the cells q, q + 1, q + 2 -/
def zCt (q sz : Nat) (dy ct : Nat → Int32) (P : z_H) : Prop := P q = some (.inr (1, [.ref (q + 1), .ref (q + 2), .int (nI sz)])) ∧ P (q + 1) = some (.inl (0, 14, .inl dy)) ∧ P (q + 2) = some (.inl (0, 14, .inl ct))
/-- the days are days -/
def cDl (dy : Nat → Int32) (dl : Nat → Nat) (sz : Nat) : Prop := sz ≤ 14 ∧ ∀ i, i < sz → dy i = nI (dl i) ∧ dl i < 364
/-- the first place from i on, among k -/
def zF (p : Nat → Bool) : Nat → Nat → Option Nat
  | 0, _ => none
  | k + 1, i => if p i then some i else zF p k (i + 1)
theorem zF_lt {p : Nat → Bool} : ∀ k i j, zF p k i = some j → i ≤ j ∧ j < i + k
  | 0, i, j, h => by cases h
  | k + 1, i, j, h => by
    unfold zF at h
    split at h
    · cases h; omega
    · have := zF_lt k (i + 1) j h
      omega
def pB2 (b : Option Nat) : Int32 := match b with
  | none => -1
  | some i => nI i
def cPl (dy : Nat → Int32) (sz : Nat) (x : Int32) : Option Nat := zF (fun i => decide (dy i = x)) sz 0
def S1_placeOf : z_PT := fun as P nx K => ∃ (q sz : Nat) (dy ct : Nat → Int32) (x : Int32), as = [.ref q, .int x] ∧ (zCt q sz dy ct P) ∧ (sz ≤ 14) ∧ K (some (.int (pB2 (cPl dy sz x)))) P nx
set_option maxRecDepth 4000 in
theorem sp1_placeOf (l : Launch) : z_Sp l M1_placeOf rM1_placeOf S1_placeOf := by
  refine z_enter (by decide) (fun as P nx K h => ?_) (fun X K as P nx hX hE hin0 hS => ?_)
  · obtain ⟨q, sz, dy, ct, x, rfl, -⟩ := h
    exact Nat.le_of_ble_eq_true rfl
  obtain ⟨q, sz, dy, ct, x, rfl, p1, p2, hK⟩ := hS
  refine z_pad 1 ?_
  show z_W X 0 [some (.ref q), some (.int x), none] [] P nx 0 0
  have hC := p1
  have loop : ∀ (k i : Nat), i + k = sz → zF (fun i => decide (dy i = x)) k i = cPl dy sz x → z_W X 2 [some (.ref q), some (.int x), some (.int (nI i))] [] P nx 0 0 := by
    intro k
    induction k with
    | zero =>
      intro i hi he
      have hi : i = sz := by omega
      subst hi
      refine z_iload_n hX d1_placeOf_2 rfl ?_
      refine z_aload_n hX d1_placeOf_3 rfl ?_
      refine z_get hX lf_1_22 (by first | exact hC.1 | exact hC.2.1 | exact hC.2.2) rfl d1_placeOf_4 ?_
      refine z_icmp_ge hX 28 d1_placeOf_7 (by decide) (fun h7 => ?_) (fun h7 => ?_)
      rotate_left
      · exact absurd (Int32.le_refl _) h7
      refine z_iconst hX (-1) d1_placeOf_28 (by decide) ?_
      refine z_iret hX hE (by decide) (by decide) d1_placeOf_29 ?_
      rw [← he] at hK
      exact hK
    | succ k ih =>
      intro i hi he
      unfold zF at he
      refine z_iload_n hX d1_placeOf_2 rfl ?_
      refine z_aload_n hX d1_placeOf_3 rfl ?_
      refine z_get hX lf_1_22 (by first | exact hC.1 | exact hC.2.1 | exact hC.2.2) rfl d1_placeOf_4 ?_
      refine z_icmp_ge hX 28 d1_placeOf_7 (by decide) (fun h7 => ?_) (fun h7 => ?_)
      · exact absurd h7 (nI_ge (by omega) (by omega))
      refine z_aload_n hX d1_placeOf_10 rfl ?_
      refine z_get hX lf_1_9 (by first | exact hC.1 | exact hC.2.1 | exact hC.2.2) rfl d1_placeOf_11 ?_
      refine z_iload_n hX d1_placeOf_14 rfl ?_
      refine z_iald hX (by first | exact hC.1 | exact hC.2.1 | exact hC.2.2) (vp_in_nI (by omega) (by decide)) d1_placeOf_15 ?_
      rw [nI_clamp (show i < 2 ^ 31 by omega)]
      refine z_iload_n hX d1_placeOf_16 rfl ?_
      refine z_icmp_ne hX 22 d1_placeOf_17 (by decide) (fun h17 => ?_) (fun h17 => ?_)
      · skip
        rw [if_neg (by rw [decide_eq_true_eq]; exact h17)] at he
        refine z_iinc hX (1) (by decide) rfl (by decide) d1_placeOf_22 ?_
        dsimp only [z_p1, z_p2, z_k, List.headD, List.tail]
        refine z_goto hX 2 d1_placeOf_25 (by decide) ?_
        rw [nI_1]
        exact ih (i + 1) (by omega) he
      · skip
        rw [if_pos (decide_eq_true h17)] at he
        refine z_iload_n hX d1_placeOf_20 rfl ?_
        refine z_iret hX hE (by decide) (by decide) d1_placeOf_21 ?_
        rw [← he] at hK
        exact hK
  refine z_iconst hX (0) d1_placeOf_0 (by decide) ?_
  refine z_istore_n hX 2 rfl (by decide) d1_placeOf_1 ?_
  dsimp only [z_p1, z_p2, z_k, List.headD, List.tail]
  exact loop sz 0 (by omega) rfl
theorem pB2_n {b : Option Nat} {n : Nat} (h : ∀ i, b = some i → i < n) (hn : n < 2 ^ 31) : (pB2 b = -1 ↔ b = none) := by
  cases b with
  | none => exact ⟨fun _ => rfl, fun _ => rfl⟩
  | some i =>
    refine ⟨fun q => ?_, fun q => by cases q⟩
    have q : nI i = -1 := q
    have := h i rfl
    rw [i_eq, nI_toInt (by omega), show (-1 : Int32).toInt = -1 from rfl] at q
    omega
theorem cPl_lt {dy : Nat → Int32} {sz : Nat} {x : Int32} : ∀ i, cPl dy sz x = some i → i < sz := fun i h => by
  have := zF_lt sz 0 i h
  omega
def cOn (dy ct : Nat → Int32) (sz : Nat) (x : Int32) : Int32 := match cPl dy sz x with
  | none => -1
  | some i => ct i
def S1_on : z_PT := fun as P nx K => ∃ (q sz : Nat) (dy ct : Nat → Int32) (x : Int32), as = [.ref q, .int x] ∧ (zCt q sz dy ct P) ∧ (sz ≤ 14) ∧ K (some (.int (cOn dy ct sz x))) P nx
set_option maxRecDepth 4000 in
theorem sp1_on (l : Launch) : z_Sp l M1_on rM1_on S1_on := by
  refine z_enter (by decide) (fun as P nx K h => ?_) (fun X K as P nx hX hE hin0 hS => ?_)
  · obtain ⟨q, sz, dy, ct, x, rfl, -⟩ := h
    exact Nat.le_of_ble_eq_true rfl
  obtain ⟨q, sz, dy, ct, x, rfl, p1, p2, hK⟩ := hS
  refine z_pad 1 ?_
  show z_W X 0 [some (.ref q), some (.int x), none] [] P nx 0 0
  have hC := p1
  have hp := pB2_n (cPl_lt (dy := dy) (sz := sz) (x := x)) (by omega)
  refine z_aload_n hX d1_on_0 rfl ?_
  refine z_iload_n hX d1_on_1 rfl ?_
  refine z_callV1 hX (sp1_placeOf l) lm_1_18 (by first | exact hC.1 | exact hC.2.1 | exact hC.2.2) ⟨by decide, by decide, by decide, by decide⟩ (Nat.le_of_ble_eq_true rfl) d1_on_2 ?_
  refine ⟨q, sz, dy, ct, x, rfl, hC, p2, ?_⟩
  dsimp only [Option.toList, List.cons_append, List.nil_append]
  refine z_istore_n hX 2 rfl (by decide) d1_on_5 ?_
  dsimp only [z_p1, z_p2, z_k, List.headD, List.tail]
  refine z_iload_n hX d1_on_6 rfl ?_
  refine z_iconst hX (-1) d1_on_7 (by decide) ?_
  refine z_icmp_ne hX 15 d1_on_8 (by decide) (fun h8 => ?_) (fun h8 => ?_)
  · skip
    obtain ⟨i, hi⟩ : ∃ i, cPl dy sz x = some i := by
      cases e : cPl dy sz x with
      | none => exact absurd (hp.mpr e) h8
      | some i => exact ⟨i, rfl⟩
    have hi2 := cPl_lt i hi
    have e : cOn dy ct sz x = ct i := by unfold cOn; rw [hi]
    rw [e] at hK
    rw [hi, show pB2 (some i) = nI i from rfl]
    refine z_aload_n hX d1_on_15 rfl ?_
    refine z_get hX lf_1_15 (by first | exact hC.1 | exact hC.2.1 | exact hC.2.2) rfl d1_on_16 ?_
    refine z_iload_n hX d1_on_19 rfl ?_
    refine z_iald hX (by first | exact hC.1 | exact hC.2.1 | exact hC.2.2) (vp_in_nI (by omega) (by decide)) d1_on_20 ?_
    try rw [nI_clamp (show i < 2 ^ 31 by omega)]
    refine z_iret hX hE (by decide) (by decide) d1_on_21 ?_
    exact hK
  · skip
    have e : cOn dy ct sz x = -1 := by unfold cOn; rw [hp.mp h8]
    rw [e] at hK
    refine z_iconst hX (-1) d1_on_11 (by decide) ?_
    refine z_goto hX 21 d1_on_12 (by decide) ?_
    try rw [nI_clamp (show i < 2 ^ 31 by omega)]
    refine z_iret hX hE (by decide) (by decide) d1_on_21 ?_
    exact hK
/-- which cells put may change -/
def zDq (q j : Nat) : Bool := Nat.ble q j && Nat.ble j (q + 2)
theorem zDq_t {q k : Nat} (h1 : q ≤ k) (h2 : k ≤ q + 2) : zDq q k = true := by
  unfold zDq
  rw [Nat.ble_eq.mpr h1, Nat.ble_eq.mpr h2]
  rfl
theorem zCt_s0 {q sz m : Nat} {dy ct : Nat → Int32} {P : z_H} (h : zCt q sz dy ct P) : zCt q m dy ct (z_up P q (.inr (1, [.ref (q + 1), .ref (q + 2), .int (nI m)]))) := ⟨z_up_s, by rw [z_up_n (by omega)]; exact h.2.1, by rw [z_up_n (by omega)]; exact h.2.2⟩
theorem zCt_s1 {q sz : Nat} {dy ct f : Nat → Int32} {P : z_H} (h : zCt q sz dy ct P) : zCt q sz f ct (z_up P (q + 1) (.inl (0, 14, .inl f))) := ⟨by rw [z_up_n (by omega)]; exact h.1, z_up_s, by rw [z_up_n (by omega)]; exact h.2.2⟩
theorem zCt_s2 {q sz : Nat} {dy ct f : Nat → Int32} {P : z_H} (h : zCt q sz dy ct P) : zCt q sz dy f (z_up P (q + 2) (.inl (0, 14, .inl f))) := ⟨by rw [z_up_n (by omega)]; exact h.1, by rw [z_up_n (by omega)]; exact h.2.1, z_up_s⟩
/-- what a put does: where it goes; none: it isn't taken -/
def cPut (dy : Nat → Int32) (sz : Nat) (x : Int32) : Option Nat := match cPl dy sz x with
  | none => if sz < 14 then some sz else none
  | some i => some i
def cSz (dy : Nat → Int32) (sz : Nat) (x : Int32) : Nat := match cPl dy sz x with
  | none => if sz < 14 then sz + 1 else sz
  | some _ => sz
def S1_put : z_PT := fun as P nx K => ∃ (q sz : Nat) (dy ct : Nat → Int32) (x c : Int32), as = [.ref q, .int x, .int c] ∧ zCt q sz dy ct P ∧ sz ≤ 14 ∧ (∀ i, cPut dy sz x = some i → ∀ P' : z_H, zCt q (cSz dy sz x) (upd dy i x) (upd ct i c) P' → z_out (zDq q) P P' → K (some (.int 1)) P' nx) ∧ (cPut dy sz x = none → K (some (.int 0)) P nx)
set_option maxRecDepth 4000 in
theorem sp1_put (l : Launch) : z_Sp l M1_put rM1_put S1_put := by
  refine z_enter (by decide) (fun as P nx K h => ?_) (fun X K as P nx hX hE hin0 hS => ?_)
  · obtain ⟨q, sz, dy, ct, x, c, rfl, -⟩ := h
    exact Nat.le_of_ble_eq_true rfl
  obtain ⟨q, sz, dy, ct, x, c, rfl, hC, p2, hK1, hK0⟩ := hS
  refine z_pad 1 ?_
  show z_W X 0 [some (.ref q), some (.int x), some (.int c), none] [] P nx 0 0
  have hp := pB2_n (cPl_lt (dy := dy) (sz := sz) (x := x)) (by omega)
  have hO : z_out (zDq q) P P := z_out.rf
  have fin : ∀ (i m : Nat) (P' : z_H), i < 14 → zCt q m dy ct P' → z_out (zDq q) P P' → (∀ P2 : z_H, zCt q m (upd dy i x) (upd ct i c) P2 → z_out (zDq q) P P2 → K (some (.int 1)) P2 nx) → z_W X 37 [some (.ref q), some (.int x), some (.int c), some (.int (nI i))] [] P' nx 0 0 := by
    intro i m P' hi hC hO cont
    refine z_aload_n hX d1_put_37 rfl ?_
    refine z_get hX lf_1_9 (by first | exact hC.1 | exact hC.2.1 | exact hC.2.2) rfl d1_put_38 ?_
    refine z_iload_n hX d1_put_41 rfl ?_
    refine z_iload_n hX d1_put_42 rfl ?_
    refine z_iast hX (by first | exact hC.1 | exact hC.2.1 | exact hC.2.2) (vp_in_nI hi (by decide)) d1_put_43 ?_
    rw [nI_clamp (show i < 2 ^ 31 by omega)]
    have hC := zCt_s1 (f := upd dy i x) hC
    have hO := hO.up (c := .inl (0, 14, .inl (upd dy i x))) (zDq_t (q := q) (k := q + 1) (by omega) (by omega))
    refine z_aload_n hX d1_put_44 rfl ?_
    refine z_get hX lf_1_15 (by first | exact hC.1 | exact hC.2.1 | exact hC.2.2) rfl d1_put_45 ?_
    refine z_iload_n hX d1_put_48 rfl ?_
    refine z_iload_n hX d1_put_49 rfl ?_
    refine z_iast hX (by first | exact hC.1 | exact hC.2.1 | exact hC.2.2) (vp_in_nI hi (by decide)) d1_put_50 ?_
    rw [nI_clamp (show i < 2 ^ 31 by omega)]
    have hC := zCt_s2 (f := upd ct i c) hC
    have hO := hO.up (c := .inl (0, 14, .inl (upd ct i c))) (zDq_t (q := q) (k := q + 2) (by omega) (by omega))
    refine z_iconst hX (1) d1_put_51 (by decide) ?_
    refine z_zret hX hE (by decide) (by decide) (by decide) d1_put_52 ?_
    exact cont _ hC hO
  refine z_aload_n hX d1_put_0 rfl ?_
  refine z_iload_n hX d1_put_1 rfl ?_
  refine z_callV1 hX (sp1_placeOf l) lm_1_18 (by first | exact hC.1 | exact hC.2.1 | exact hC.2.2) ⟨by decide, by decide, by decide, by decide⟩ (Nat.le_of_ble_eq_true rfl) d1_put_2 ?_
  refine ⟨q, sz, dy, ct, x, rfl, hC, p2, ?_⟩
  dsimp only [Option.toList, List.cons_append, List.nil_append]
  refine z_istore_n hX 3 rfl (by decide) d1_put_5 ?_
  dsimp only [z_p1, z_p2, z_k, List.headD, List.tail]
  refine z_iload_n hX d1_put_6 rfl ?_
  refine z_iconst hX (-1) d1_put_7 (by decide) ?_
  refine z_icmp_ne hX 37 d1_put_8 (by decide) (fun h8 => ?_) (fun h8 => ?_)
  · skip
    obtain ⟨i, hi⟩ : ∃ i, cPl dy sz x = some i := by
      cases e : cPl dy sz x with
      | none => exact absurd (hp.mpr e) h8
      | some i => exact ⟨i, rfl⟩
    have hi2 := cPl_lt i hi
    have e1 : cPut dy sz x = some i := by unfold cPut; rw [hi]
    have e2 : cSz dy sz x = sz := by unfold cSz; rw [hi]
    have g := hK1 i e1
    rw [e2] at g
    rw [hi, show pB2 (some i) = nI i from rfl]
    exact fin i _ _ (by omega) hC hO g
  · skip
    have hi := hp.mp h8
    rw [hi]
    refine z_aload_n hX d1_put_11 rfl ?_
    refine z_get hX lf_1_22 (by first | exact hC.1 | exact hC.2.1 | exact hC.2.2) rfl d1_put_12 ?_
    refine z_bipush hX (14) d1_put_15 (by decide) ?_
    refine z_icmp_lt hX 22 d1_put_17 (by decide) (fun h17 => ?_) (fun h17 => ?_)
    · skip
      rw [i_lt, nI_toInt (by omega), show (14 : Int32).toInt = 14 from rfl] at h17
      have e1 : cPut dy sz x = some sz := by unfold cPut; rw [hi]; exact if_pos (by omega)
      have e2 : cSz dy sz x = sz + 1 := by unfold cSz; rw [hi]; exact if_pos (by omega)
      have g := hK1 sz e1
      rw [e2] at g
      have hi2 : sz < 14 := by omega
      obtain ⟨i, rfl⟩ : ∃ i, i = sz := ⟨_, rfl⟩
      refine z_aload_n hX d1_put_22 rfl ?_
      refine z_get hX lf_1_22 (by first | exact hC.1 | exact hC.2.1 | exact hC.2.2) rfl d1_put_23 ?_
      refine z_istore_n hX 3 rfl (by decide) d1_put_26 ?_
      dsimp only [z_p1, z_p2, z_k, List.headD, List.tail]
      refine z_aload_n hX d1_put_27 rfl ?_
      refine z_dup hX rfl d1_put_28 ?_
      refine z_get hX lf_1_22 (by first | exact hC.1 | exact hC.2.1 | exact hC.2.2) rfl d1_put_29 ?_
      refine z_iconst hX (1) d1_put_32 (by decide) ?_
      refine z_iadd hX d1_put_33 ?_
      rw [nI_1]
      refine z_puti hX lf_1_22 rfl rfl (by first | exact hC.1 | exact hC.2.1 | exact hC.2.2) (Nat.le_of_ble_eq_true rfl) d1_put_34 ?_
      have hC := zCt_s0 (m := i + 1) hC
      have hO := hO.up (c := .inr (1, [.ref (q + 1), .ref (q + 2), .int (nI (i + 1))])) (zDq_t (q := q) (k := q) (by omega) (by omega))
      exact fin i _ _ (by omega) hC hO g
    · skip
      rw [i_lt, nI_toInt (by omega), show (14 : Int32).toInt = 14 from rfl] at h17
      have g := hK0 (by unfold cPut; rw [hi]; exact if_neg (by omega))
      refine z_iconst hX (0) d1_put_20 (by decide) ?_
      refine z_zret hX hE (by decide) (by decide) (by decide) d1_put_21 ?_
      exact g
def S1_isUsed : z_PT := fun as P nx K => ∃ (q sz : Nat) (dy ct : Nat → Int32) (dl : Nat → Nat) (wd mo : Nat → Nat → Int32) (h : Nat → Bool) (hl : Nat → Int32) (hn i : Nat), as = [.ref q, .int (nI i), .ref 2] ∧ (zCt q sz dy ct P) ∧ (cDl dy dl sz) ∧ (z_in (zA wd mo h hl hn) P) ∧ (i < sz) ∧ K (some (.int (zb (!h (dl i))))) P nx
set_option maxRecDepth 4000 in
theorem sp1_isUsed (l : Launch) : z_Sp l M1_isUsed rM1_isUsed S1_isUsed := by
  refine z_enter (by decide) (fun as P nx K h => ?_) (fun X K as P nx hX hE hin0 hS => ?_)
  · obtain ⟨q, sz, dy, ct, dl, wd, mo, h, hl, hn, i, rfl, -⟩ := h
    exact Nat.le_of_ble_eq_true rfl
  obtain ⟨q, sz, dy, ct, dl, wd, mo, h, hl, hn, i, rfl, p1, p2, p3, p4, hK⟩ := hS
  show z_W X 0 [some (.ref q), some (.int (nI i)), some (.ref 2)] [] P nx 0 0
  have hC := p1
  obtain ⟨p5, p6⟩ := p2
  obtain ⟨d1, d2⟩ := p6 i p4
  refine z_aload_n hX d1_isUsed_0 rfl ?_
  refine z_get hX lf_1_64 (by first | exact p3 _ _ rfl | exact hC.1 | exact hC.2.1 | exact hC.2.2) rfl d1_isUsed_1 ?_
  refine z_aload_n hX d1_isUsed_4 rfl ?_
  refine z_get hX lf_1_9 (by first | exact p3 _ _ rfl | exact hC.1 | exact hC.2.1 | exact hC.2.2) rfl d1_isUsed_5 ?_
  refine z_iload_n hX d1_isUsed_8 rfl ?_
  refine z_iald hX (by first | exact p3 _ _ rfl | exact hC.1 | exact hC.2.1 | exact hC.2.2) (vp_in_nI (by omega) (by decide)) d1_isUsed_9 ?_
  rw [nI_clamp (show i < 2 ^ 31 by omega), d1]
  refine z_zald hX (by first | exact p3 _ _ rfl | exact hC.1 | exact hC.2.1 | exact hC.2.2) (vp_in_nI d2 (by decide)) d1_isUsed_10 ?_
  rw [nI_clamp (show dl i < 2 ^ 31 by omega)]
  refine z_ifb_ne hX 18 d1_isUsed_11 (by decide) (fun h11 => ?_) (fun h11 => ?_)
  · skip
    rw [h11] at hK
    refine z_iconst hX (0) d1_isUsed_18 (by decide) ?_
    refine z_zret hX hE (by decide) (by decide) (by decide) d1_isUsed_19 ?_
    exact hK
  · skip
    rw [h11] at hK
    refine z_iconst hX (1) d1_isUsed_14 (by decide) ?_
    refine z_goto hX 19 d1_isUsed_15 (by decide) ?_
    refine z_zret hX hE (by decide) (by decide) (by decide) d1_isUsed_19 ?_
    exact hK
/-- a sum over those with p -/
def zSi (p : Nat → Bool) (f : Nat → Int64) : Nat → Int64
  | 0 => 0
  | n + 1 => if p n then zSi p f n + f n else zSi p f n
def cU (h : Nat → Bool) (dl : Nat → Nat) : Nat → Bool := fun i => !h (dl i)
def S1_used : z_PT := fun as P nx K => ∃ (q sz : Nat) (dy ct : Nat → Int32) (dl : Nat → Nat) (wd mo : Nat → Nat → Int32) (h : Nat → Bool) (hl : Nat → Int32) (hn : Nat), as = [.ref q, .ref 2] ∧ (zCt q sz dy ct P) ∧ (cDl dy dl sz) ∧ (z_in (zA wd mo h hl hn) P) ∧ K (some (.int (nI (zC (cU h dl) sz)))) P nx
set_option maxRecDepth 4000 in
theorem sp1_used (l : Launch) : z_Sp l M1_used rM1_used S1_used := by
  refine z_enter (by decide) (fun as P nx K h => ?_) (fun X K as P nx hX hE hin0 hS => ?_)
  · obtain ⟨q, sz, dy, ct, dl, wd, mo, h, hl, hn, rfl, -⟩ := h
    exact Nat.le_of_ble_eq_true rfl
  obtain ⟨q, sz, dy, ct, dl, wd, mo, h, hl, hn, rfl, p1, p2, p3, hK⟩ := hS
  refine z_pad 2 ?_
  show z_W X 0 [some (.ref q), some (.ref 2), none, none] [] P nx 0 0
  have hC := p1
  have hs := p2.1
  have loop : ∀ (k i : Nat), i + k = sz → z_W X 4 [some (.ref q), some (.ref 2), some (.int (nI (zC (cU h dl) i))), some (.int (nI i))] [] P nx 0 0 := by
    intro k
    induction k with
    | zero =>
      intro i hi
      have hi : i = sz := by omega
      subst hi
      refine z_iload_n hX d1_used_4 rfl ?_
      refine z_aload_n hX d1_used_5 rfl ?_
      refine z_get hX lf_1_22 (by first | exact p3 _ _ rfl | exact hC.1 | exact hC.2.1 | exact hC.2.2) rfl d1_used_6 ?_
      refine z_icmp_ge hX 30 d1_used_9 (by decide) (fun h9 => ?_) (fun h9 => ?_)
      rotate_left
      · exact absurd (Int32.le_refl _) h9
      refine z_iload_n hX d1_used_30 rfl ?_
      refine z_iret hX hE (by decide) (by decide) d1_used_31 ?_
      exact hK
    | succ k ih =>
      intro i hi
      have := ih (i + 1) (by omega)
      unfold zC at this
      refine z_iload_n hX d1_used_4 rfl ?_
      refine z_aload_n hX d1_used_5 rfl ?_
      refine z_get hX lf_1_22 (by first | exact p3 _ _ rfl | exact hC.1 | exact hC.2.1 | exact hC.2.2) rfl d1_used_6 ?_
      refine z_icmp_ge hX 30 d1_used_9 (by decide) (fun h9 => ?_) (fun h9 => ?_)
      · exact absurd h9 (nI_ge (by omega) (by omega))
      refine z_aload_n hX d1_used_12 rfl ?_
      refine z_iload_n hX d1_used_13 rfl ?_
      refine z_aload_n hX d1_used_14 rfl ?_
      refine z_callV2 hX (sp1_isUsed l) lm_1_26 (by first | exact p3 _ _ rfl | exact hC.1 | exact hC.2.1 | exact hC.2.2) ⟨by decide, by decide, by decide, by decide⟩ (Nat.le_of_ble_eq_true rfl) d1_used_15 ?_
      refine ⟨q, sz, dy, ct, dl, wd, mo, h, hl, hn, i, rfl, hC, p2, p3, by omega, ?_⟩
      dsimp only [Option.toList, List.cons_append, List.nil_append]
      refine z_ifb_eq hX 24 d1_used_18 (by decide) (fun h18 => ?_) (fun h18 => ?_)
      · skip
        rw [if_neg (show ¬ cU h dl i = true by show ¬ (!h (dl i)) = true; rw [h18]; decide)] at this
        refine z_iinc hX (1) (by decide) rfl (by decide) d1_used_24 ?_
        dsimp only [z_p1, z_p2, z_k, List.headD, List.tail]
        refine z_goto hX 4 d1_used_27 (by decide) ?_
        simp only [nI_1]
        exact this
      · skip
        rw [if_pos (show cU h dl i = true from h18)] at this
        refine z_iinc hX (1) (by decide) rfl (by decide) d1_used_21 ?_
        dsimp only [z_p1, z_p2, z_k, List.headD, List.tail]
        refine z_iinc hX (1) (by decide) rfl (by decide) d1_used_24 ?_
        dsimp only [z_p1, z_p2, z_k, List.headD, List.tail]
        refine z_goto hX 4 d1_used_27 (by decide) ?_
        simp only [nI_1]
        exact this
  refine z_iconst hX (0) d1_used_0 (by decide) ?_
  refine z_istore_n hX 2 rfl (by decide) d1_used_1 ?_
  dsimp only [z_p1, z_p2, z_k, List.headD, List.tail]
  refine z_iconst hX (0) d1_used_2 (by decide) ?_
  refine z_istore_n hX 3 rfl (by decide) d1_used_3 ?_
  dsimp only [z_p1, z_p2, z_k, List.headD, List.tail]
  exact loop sz 0 (by omega)
def cTot (h : Nat → Bool) (dl : Nat → Nat) (ct : Nat → Int32) (sz : Nat) : Int64 := zSi (cU h dl) (fun i => (ct i).toInt64) sz
def S1_usedTotal : z_PT := fun as P nx K => ∃ (q sz : Nat) (dy ct : Nat → Int32) (dl : Nat → Nat) (wd mo : Nat → Nat → Int32) (h : Nat → Bool) (hl : Nat → Int32) (hn : Nat), as = [.ref q, .ref 2] ∧ (zCt q sz dy ct P) ∧ (cDl dy dl sz) ∧ (z_in (zA wd mo h hl hn) P) ∧ K (some (.long (cTot h dl ct sz))) P nx
set_option maxRecDepth 4000 in
theorem sp1_usedTotal (l : Launch) : z_Sp l M1_usedTotal rM1_usedTotal S1_usedTotal := by
  refine z_enter (by decide) (fun as P nx K h => ?_) (fun X K as P nx hX hE hin0 hS => ?_)
  · obtain ⟨q, sz, dy, ct, dl, wd, mo, h, hl, hn, rfl, -⟩ := h
    exact Nat.le_of_ble_eq_true rfl
  obtain ⟨q, sz, dy, ct, dl, wd, mo, h, hl, hn, rfl, p1, p2, p3, hK⟩ := hS
  refine z_pad 3 ?_
  show z_W X 0 [some (.ref q), some (.ref 2), none, none, none] [] P nx 0 0
  have hC := p1
  have hs := p2.1
  have loop : ∀ (k i : Nat), i + k = sz → z_W X 5 [some (.ref q), some (.ref 2), some (.long (zSi (cU h dl) (fun i => (ct i).toInt64) i)), none, some (.int (nI i))] [] P nx 0 0 := by
    intro k
    induction k with
    | zero =>
      intro i hi
      have hi : i = sz := by omega
      subst hi
      refine z_iload hX d1_usedTotal_5 rfl ?_
      refine z_aload_n hX d1_usedTotal_7 rfl ?_
      refine z_get hX lf_1_22 (by first | exact p3 _ _ rfl | exact hC.1 | exact hC.2.1 | exact hC.2.2) rfl d1_usedTotal_8 ?_
      refine z_icmp_ge hX 41 d1_usedTotal_11 (by decide) (fun h11 => ?_) (fun h11 => ?_)
      rotate_left
      · exact absurd (Int32.le_refl _) h11
      refine z_lload_n hX d1_usedTotal_41 rfl ?_
      refine z_lret hX hE (by decide) (by decide) d1_usedTotal_42 ?_
      exact hK
    | succ k ih =>
      intro i hi
      have := ih (i + 1) (by omega)
      unfold zSi at this
      refine z_iload hX d1_usedTotal_5 rfl ?_
      refine z_aload_n hX d1_usedTotal_7 rfl ?_
      refine z_get hX lf_1_22 (by first | exact p3 _ _ rfl | exact hC.1 | exact hC.2.1 | exact hC.2.2) rfl d1_usedTotal_8 ?_
      refine z_icmp_ge hX 41 d1_usedTotal_11 (by decide) (fun h11 => ?_) (fun h11 => ?_)
      · exact absurd h11 (nI_ge (by omega) (by omega))
      refine z_aload_n hX d1_usedTotal_14 rfl ?_
      refine z_iload hX d1_usedTotal_15 rfl ?_
      refine z_aload_n hX d1_usedTotal_17 rfl ?_
      refine z_callV2 hX (sp1_isUsed l) lm_1_26 (by first | exact p3 _ _ rfl | exact hC.1 | exact hC.2.1 | exact hC.2.2) ⟨by decide, by decide, by decide, by decide⟩ (Nat.le_of_ble_eq_true rfl) d1_usedTotal_18 ?_
      refine ⟨q, sz, dy, ct, dl, wd, mo, h, hl, hn, i, rfl, hC, p2, p3, by omega, ?_⟩
      dsimp only [Option.toList, List.cons_append, List.nil_append]
      refine z_ifb_eq hX 35 d1_usedTotal_21 (by decide) (fun h21 => ?_) (fun h21 => ?_)
      · skip
        rw [if_neg (show ¬ cU h dl i = true by show ¬ (!h (dl i)) = true; rw [h21]; decide)] at this
        refine z_iinc hX (1) (by decide) rfl (by decide) d1_usedTotal_35 ?_
        dsimp only [z_p1, z_p2, z_k, List.headD, List.tail]
        refine z_goto hX 5 d1_usedTotal_38 (by decide) ?_
        rw [nI_1]
        exact this
      · skip
        rw [if_pos (show cU h dl i = true from h21)] at this
        refine z_lload_n hX d1_usedTotal_24 rfl ?_
        refine z_aload_n hX d1_usedTotal_25 rfl ?_
        refine z_get hX lf_1_15 (by first | exact p3 _ _ rfl | exact hC.1 | exact hC.2.1 | exact hC.2.2) rfl d1_usedTotal_26 ?_
        refine z_iload hX d1_usedTotal_29 rfl ?_
        refine z_iald hX (by first | exact p3 _ _ rfl | exact hC.1 | exact hC.2.1 | exact hC.2.2) (vp_in_nI (by omega) (by decide)) d1_usedTotal_31 ?_
        rw [nI_clamp (show i < 2 ^ 31 by omega)]
        refine z_i2l hX d1_usedTotal_32 ?_
        refine z_ladd hX d1_usedTotal_33 ?_
        refine z_lstore_n hX 2 rfl (by decide) d1_usedTotal_34 ?_
        dsimp only [z_p1, z_p2, z_k, List.headD, List.tail]
        refine z_iinc hX (1) (by decide) rfl (by decide) d1_usedTotal_35 ?_
        dsimp only [z_p1, z_p2, z_k, List.headD, List.tail]
        refine z_goto hX 5 d1_usedTotal_38 (by decide) ?_
        rw [nI_1]
        exact this
  refine z_lconst hX 0 d1_usedTotal_0 (by decide) ?_
  refine z_lstore_n hX 2 rfl (by decide) d1_usedTotal_1 ?_
  dsimp only [z_p1, z_p2, z_k, List.headD, List.tail]
  refine z_iconst hX (0) d1_usedTotal_2 (by decide) ?_
  refine z_istore hX (by decide) d1_usedTotal_3 ?_
  dsimp only [z_p1, z_p2, z_k, List.headD, List.tail]
  exact loop sz 0 (by omega)
def cShs (wd mo : Nat → Nat → Int32) (h : Nat → Bool) (dl : Nat → Nat) (sz s : Nat) : Int64 := zSi (cU h dl) (fun i => cShare wd mo h s (dl i)) sz
def S1_usedShares : z_PT := fun as P nx K => ∃ (q sz : Nat) (dy ct : Nat → Int32) (dl : Nat → Nat) (wd mo : Nat → Nat → Int32) (h : Nat → Bool) (hl : Nat → Int32) (hn s : Nat), as = [.ref q, .ref 2, .int (nI s)] ∧ (zCt q sz dy ct P) ∧ (cDl dy dl sz) ∧ (z_in (zA wd mo h hl hn) P) ∧ (s < 4) ∧ K (some (.long (cShs wd mo h dl sz s))) P nx
set_option maxRecDepth 4000 in
theorem sp1_usedShares (l : Launch) : z_Sp l M1_usedShares rM1_usedShares S1_usedShares := by
  refine z_enter (by decide) (fun as P nx K h => ?_) (fun X K as P nx hX hE hin0 hS => ?_)
  · obtain ⟨q, sz, dy, ct, dl, wd, mo, h, hl, hn, s, rfl, -⟩ := h
    exact Nat.le_of_ble_eq_true rfl
  obtain ⟨q, sz, dy, ct, dl, wd, mo, h, hl, hn, s, rfl, p1, p2, p3, p4, hK⟩ := hS
  refine z_pad 3 ?_
  show z_W X 0 [some (.ref q), some (.ref 2), some (.int (nI s)), none, none, none] [] P nx 0 0
  have hC := p1
  have hs := p2.1
  have loop : ∀ (k i : Nat), i + k = sz → z_W X 5 [some (.ref q), some (.ref 2), some (.int (nI s)), some (.long (zSi (cU h dl) (fun i => cShare wd mo h s (dl i)) i)), none, some (.int (nI i))] [] P nx 0 0 := by
    intro k
    induction k with
    | zero =>
      intro i hi
      have hi : i = sz := by omega
      subst hi
      refine z_iload hX d1_usedShares_5 rfl ?_
      refine z_aload_n hX d1_usedShares_7 rfl ?_
      refine z_get hX lf_1_22 (by first | exact p3 _ _ rfl | exact hC.1 | exact hC.2.1 | exact hC.2.2) rfl d1_usedShares_8 ?_
      refine z_icmp_ge hX 45 d1_usedShares_11 (by decide) (fun h11 => ?_) (fun h11 => ?_)
      rotate_left
      · exact absurd (Int32.le_refl _) h11
      refine z_lload_n hX d1_usedShares_45 rfl ?_
      refine z_lret hX hE (by decide) (by decide) d1_usedShares_46 ?_
      exact hK
    | succ k ih =>
      intro i hi
      have := ih (i + 1) (by omega)
      unfold zSi at this
      obtain ⟨d1, d2⟩ := p2.2 i (by omega)
      refine z_iload hX d1_usedShares_5 rfl ?_
      refine z_aload_n hX d1_usedShares_7 rfl ?_
      refine z_get hX lf_1_22 (by first | exact p3 _ _ rfl | exact hC.1 | exact hC.2.1 | exact hC.2.2) rfl d1_usedShares_8 ?_
      refine z_icmp_ge hX 45 d1_usedShares_11 (by decide) (fun h11 => ?_) (fun h11 => ?_)
      · exact absurd h11 (nI_ge (by omega) (by omega))
      refine z_aload_n hX d1_usedShares_14 rfl ?_
      refine z_iload hX d1_usedShares_15 rfl ?_
      refine z_aload_n hX d1_usedShares_17 rfl ?_
      refine z_callV2 hX (sp1_isUsed l) lm_1_26 (by first | exact p3 _ _ rfl | exact hC.1 | exact hC.2.1 | exact hC.2.2) ⟨by decide, by decide, by decide, by decide⟩ (Nat.le_of_ble_eq_true rfl) d1_usedShares_18 ?_
      refine ⟨q, sz, dy, ct, dl, wd, mo, h, hl, hn, i, rfl, hC, p2, p3, by omega, ?_⟩
      dsimp only [Option.toList, List.cons_append, List.nil_append]
      refine z_ifb_eq hX 39 d1_usedShares_21 (by decide) (fun h21 => ?_) (fun h21 => ?_)
      · skip
        rw [if_neg (show ¬ cU h dl i = true by show ¬ (!h (dl i)) = true; rw [h21]; decide)] at this
        refine z_iinc hX (1) (by decide) rfl (by decide) d1_usedShares_39 ?_
        dsimp only [z_p1, z_p2, z_k, List.headD, List.tail]
        refine z_goto hX 5 d1_usedShares_42 (by decide) ?_
        rw [nI_1]
        exact this
      · skip
        rw [if_pos (show cU h dl i = true from h21)] at this
        refine z_lload_n hX d1_usedShares_24 rfl ?_
        refine z_aload_n hX d1_usedShares_25 rfl ?_
        refine z_iload_n hX d1_usedShares_26 rfl ?_
        refine z_aload_n hX d1_usedShares_27 rfl ?_
        refine z_get hX lf_1_9 (by first | exact p3 _ _ rfl | exact hC.1 | exact hC.2.1 | exact hC.2.2) rfl d1_usedShares_28 ?_
        refine z_iload hX d1_usedShares_31 rfl ?_
        refine z_iald hX (by first | exact p3 _ _ rfl | exact hC.1 | exact hC.2.1 | exact hC.2.2) (vp_in_nI (by omega) (by decide)) d1_usedShares_33 ?_
        rw [nI_clamp (show i < 2 ^ 31 by omega), d1]
        refine z_callV2 hX (sp0_shareOf l) lm_1_46 (by first | exact p3 _ _ rfl | exact hC.1 | exact hC.2.1 | exact hC.2.2) ⟨by decide, by decide, by decide, by decide⟩ (Nat.le_of_ble_eq_true rfl) d1_usedShares_34 ?_
        refine ⟨wd, mo, h, hl, hn, s, dl i, rfl, p3, p4, d2, ?_⟩
        dsimp only [Option.toList, List.cons_append, List.nil_append]
        refine z_ladd hX d1_usedShares_37 ?_
        refine z_lstore_n hX 3 rfl (by decide) d1_usedShares_38 ?_
        dsimp only [z_p1, z_p2, z_k, List.headD, List.tail]
        refine z_iinc hX (1) (by decide) rfl (by decide) d1_usedShares_39 ?_
        dsimp only [z_p1, z_p2, z_k, List.headD, List.tail]
        refine z_goto hX 5 d1_usedShares_42 (by decide) ?_
        rw [nI_1]
        exact this
  refine z_lconst hX 0 d1_usedShares_0 (by decide) ?_
  refine z_lstore_n hX 3 rfl (by decide) d1_usedShares_1 ?_
  dsimp only [z_p1, z_p2, z_k, List.headD, List.tail]
  refine z_iconst hX (0) d1_usedShares_2 (by decide) ?_
  refine z_istore hX (by decide) d1_usedShares_3 ?_
  dsimp only [z_p1, z_p2, z_k, List.headD, List.tail]
  exact loop sz 0 (by omega)
def cLoad (wd mo : Nat → Nat → Int32) (h : Nat → Bool) (hd : Nat → Nat) (hn : Nat) (dl : Nat → Nat) (ct : Nat → Int32) (sz s : Nat) : Int64 := if 0 < cShs wd mo h dl sz s then cTot h dl ct sz * cWhole wd mo h hd hn s / cShs wd mo h dl sz s else -1
def S1_loadOfAll : z_PT := fun as P nx K => ∃ (q sz : Nat) (dy ct : Nat → Int32) (dl : Nat → Nat) (wd mo : Nat → Nat → Int32) (h : Nat → Bool) (hl : Nat → Int32) (hd : Nat → Nat) (hn s : Nat), as = [.ref q, .ref 2, .int (nI s)] ∧ (zCt q sz dy ct P) ∧ (cDl dy dl sz) ∧ (z_in (zA wd mo h hl hn) P) ∧ (s < 4) ∧ (cHl hl hd hn) ∧ K (some (.long (cLoad wd mo h hd hn dl ct sz s))) P nx
set_option maxRecDepth 4000 in
theorem sp1_loadOfAll (l : Launch) : z_Sp l M1_loadOfAll rM1_loadOfAll S1_loadOfAll := by
  refine z_enter (by decide) (fun as P nx K h => ?_) (fun X K as P nx hX hE hin0 hS => ?_)
  · obtain ⟨q, sz, dy, ct, dl, wd, mo, h, hl, hd, hn, s, rfl, -⟩ := h
    exact Nat.le_of_ble_eq_true rfl
  obtain ⟨q, sz, dy, ct, dl, wd, mo, h, hl, hd, hn, s, rfl, p1, p2, p3, p4, p5, hK⟩ := hS
  refine z_pad 2 ?_
  show z_W X 0 [some (.ref q), some (.ref 2), some (.int (nI s)), none, none] [] P nx 0 0
  have hC := p1
  refine z_aload_n hX d1_loadOfAll_0 rfl ?_
  refine z_aload_n hX d1_loadOfAll_1 rfl ?_
  refine z_iload_n hX d1_loadOfAll_2 rfl ?_
  refine z_callV2 hX (sp1_usedShares l) lm_1_30 (by first | exact p3 _ _ rfl | exact hC.1 | exact hC.2.1 | exact hC.2.2) ⟨by decide, by decide, by decide, by decide⟩ (Nat.le_of_ble_eq_true rfl) d1_loadOfAll_3 ?_
  refine ⟨q, sz, dy, ct, dl, wd, mo, h, hl, hn, s, rfl, hC, p2, p3, p4, ?_⟩
  dsimp only [Option.toList, List.cons_append, List.nil_append]
  refine z_lstore_n hX 3 rfl (by decide) d1_loadOfAll_6 ?_
  dsimp only [z_p1, z_p2, z_k, List.headD, List.tail]
  refine z_lload_n hX d1_loadOfAll_7 rfl ?_
  refine z_lconst hX 0 d1_loadOfAll_8 (by decide) ?_
  refine z_lcmp hX d1_loadOfAll_9 ?_
  refine z_if_le hX 29 d1_loadOfAll_10 (by decide) (fun h10 => ?_) (fun h10 => ?_)
  · skip
    rw [lg_cmp_le] at h10
    rw [show cLoad wd mo h hd hn dl ct sz s = -1 from if_neg (Int64.not_lt.mpr h10)] at hK
    refine z_ldc2 hX (-1) d1_loadOfAll_29 lk_1_44 ?_
    refine z_lret hX hE (by decide) (by decide) d1_loadOfAll_32 ?_
    exact hK
  · skip
    rw [lg_cmp_le] at h10
    rw [show cLoad wd mo h hd hn dl ct sz s = _ from if_pos (Int64.not_le.mp h10)] at hK
    refine z_aload_n hX d1_loadOfAll_13 rfl ?_
    refine z_aload_n hX d1_loadOfAll_14 rfl ?_
    refine z_callV1 hX (sp1_usedTotal l) lm_1_34 (by first | exact p3 _ _ rfl | exact hC.1 | exact hC.2.1 | exact hC.2.2) ⟨by decide, by decide, by decide, by decide⟩ (Nat.le_of_ble_eq_true rfl) d1_loadOfAll_15 ?_
    refine ⟨q, sz, dy, ct, dl, wd, mo, h, hl, hn, rfl, hC, p2, p3, ?_⟩
    dsimp only [Option.toList, List.cons_append, List.nil_append]
    refine z_aload_n hX d1_loadOfAll_18 rfl ?_
    refine z_iload_n hX d1_loadOfAll_19 rfl ?_
    refine z_callV1 hX (sp0_wholeOf l) lm_1_38 (by first | exact p3 _ _ rfl | exact hC.1 | exact hC.2.1 | exact hC.2.2) ⟨by decide, by decide, by decide, by decide⟩ (Nat.le_of_ble_eq_true rfl) d1_loadOfAll_20 ?_
    refine ⟨wd, mo, h, hl, hd, hn, s, rfl, p3, p4, p5, ?_⟩
    dsimp only [Option.toList, List.cons_append, List.nil_append]
    refine z_lmul hX d1_loadOfAll_23 ?_
    refine z_lload_n hX d1_loadOfAll_24 rfl ?_
    refine z_ldiv hX d1_loadOfAll_25 (fun z => h10 (by rw [z]; decide)) ?_
    refine z_goto hX 32 d1_loadOfAll_26 (by decide) ?_
    refine z_lret hX hE (by decide) (by decide) d1_loadOfAll_32 ?_
    exact hK
def cEndS (g : Bool) (b v : Int64) : Int64 := if b = -1 then v else if g then (if b < v then v else b) else (if v < b then v else b)
def cEndF (wd mo : Nat → Nat → Int32) (h : Nat → Bool) (w : Int64) (dl : Nat → Nat) (ct : Nat → Int32) (s : Nat) (g : Bool) : Nat → Int64
  | 0 => -1
  | i + 1 => if !h (dl i) && decide (0 < cShare wd mo h s (dl i)) then cEndS g (cEndF wd mo h w dl ct s g i) ((ct i).toInt64 * w / cShare wd mo h s (dl i)) else cEndF wd mo h w dl ct s g i
def S1_loadAtEnd : z_PT := fun as P nx K => ∃ (q sz : Nat) (dy ct : Nat → Int32) (dl : Nat → Nat) (wd mo : Nat → Nat → Int32) (h : Nat → Bool) (hl : Nat → Int32) (hd : Nat → Nat) (hn s : Nat) (g : Bool), as = [.ref q, .ref 2, .int (nI s), .int (zb g)] ∧ (zCt q sz dy ct P) ∧ (cDl dy dl sz) ∧ (z_in (zA wd mo h hl hn) P) ∧ (s < 4) ∧ (cHl hl hd hn) ∧ K (some (.long (cEndF wd mo h (cWhole wd mo h hd hn s) dl ct s g sz))) P nx
set_option maxRecDepth 4000 in
theorem sp1_loadAtEnd (l : Launch) : z_Sp l M1_loadAtEnd rM1_loadAtEnd S1_loadAtEnd := by
  refine z_enter (by decide) (fun as P nx K h => ?_) (fun X K as P nx hX hE hin0 hS => ?_)
  · obtain ⟨q, sz, dy, ct, dl, wd, mo, h, hl, hd, hn, s, g, rfl, -⟩ := h
    exact Nat.le_of_ble_eq_true rfl
  obtain ⟨q, sz, dy, ct, dl, wd, mo, h, hl, hd, hn, s, g, rfl, p1, p2, p3, p4, p5, hK⟩ := hS
  refine z_pad 9 ?_
  show z_W X 0 [some (.ref q), some (.ref 2), some (.int (nI s)), some (.int (zb g)), none, none, none, none, none, none, none, none, none] [] P nx 0 0
  have hC := p1
  have hs := p2.1
  have loop : ∀ (k i : Nat), i + k = sz → z_W X 15 [some (.ref q), some (.ref 2), some (.int (nI s)), some (.int (zb g)), some (.long (cWhole wd mo h hd hn s)), none, some (.long (cEndF wd mo h (cWhole wd mo h hd hn s) dl ct s g i)), none, some (.int (nI i)), none, none, none, none] [] P nx 0 0 := by
    intro k
    induction k with
    | zero =>
      intro i hi
      have hi : i = sz := by omega
      subst hi
      refine z_iload hX d1_loadAtEnd_15 rfl ?_
      refine z_aload_n hX d1_loadAtEnd_17 rfl ?_
      refine z_get hX lf_1_22 (by first | exact p3 _ _ rfl | exact hC.1 | exact hC.2.1 | exact hC.2.2) rfl d1_loadAtEnd_18 ?_
      refine z_icmp_ge hX 113 d1_loadAtEnd_21 (by decide) (fun h21 => ?_) (fun h21 => ?_)
      rotate_left
      · exact absurd (Int32.le_refl _) h21
      refine z_lload hX d1_loadAtEnd_113 rfl ?_
      refine z_lret hX hE (by decide) (by decide) d1_loadAtEnd_115 ?_
      exact hK
    | succ k ih =>
      intro i hi
      have := ih (i + 1) (by omega)
      unfold cEndF at this
      obtain ⟨d1, d2⟩ := p2.2 i (by omega)
      refine z_iload hX d1_loadAtEnd_15 rfl ?_
      refine z_aload_n hX d1_loadAtEnd_17 rfl ?_
      refine z_get hX lf_1_22 (by first | exact p3 _ _ rfl | exact hC.1 | exact hC.2.1 | exact hC.2.2) rfl d1_loadAtEnd_18 ?_
      refine z_icmp_ge hX 113 d1_loadAtEnd_21 (by decide) (fun h21 => ?_) (fun h21 => ?_)
      · exact absurd h21 (nI_ge (by omega) (by omega))
      refine z_aload_n hX d1_loadAtEnd_24 rfl ?_
      refine z_iload_n hX d1_loadAtEnd_25 rfl ?_
      refine z_aload_n hX d1_loadAtEnd_26 rfl ?_
      refine z_get hX lf_1_9 (by first | exact p3 _ _ rfl | exact hC.1 | exact hC.2.1 | exact hC.2.2) rfl d1_loadAtEnd_27 ?_
      refine z_iload hX d1_loadAtEnd_30 rfl ?_
      refine z_iald hX (by first | exact p3 _ _ rfl | exact hC.1 | exact hC.2.1 | exact hC.2.2) (vp_in_nI (by omega) (by decide)) d1_loadAtEnd_32 ?_
      rw [nI_clamp (show i < 2 ^ 31 by omega), d1]
      refine z_callV2 hX (sp0_shareOf l) lm_1_46 (by first | exact p3 _ _ rfl | exact hC.1 | exact hC.2.1 | exact hC.2.2) ⟨by decide, by decide, by decide, by decide⟩ (Nat.le_of_ble_eq_true rfl) d1_loadAtEnd_33 ?_
      refine ⟨wd, mo, h, hl, hn, s, dl i, rfl, p3, p4, d2, ?_⟩
      dsimp only [Option.toList, List.cons_append, List.nil_append]
      refine z_lstore hX (by decide) d1_loadAtEnd_36 ?_
      dsimp only [z_p1, z_p2, z_k, List.headD, List.tail]
      refine z_aload_n hX d1_loadAtEnd_38 rfl ?_
      refine z_iload hX d1_loadAtEnd_39 rfl ?_
      refine z_aload_n hX d1_loadAtEnd_41 rfl ?_
      refine z_callV2 hX (sp1_isUsed l) lm_1_26 (by first | exact p3 _ _ rfl | exact hC.1 | exact hC.2.1 | exact hC.2.2) ⟨by decide, by decide, by decide, by decide⟩ (Nat.le_of_ble_eq_true rfl) d1_loadAtEnd_42 ?_
      refine ⟨q, sz, dy, ct, dl, wd, mo, h, hl, hn, i, rfl, hC, p2, p3, by omega, ?_⟩
      dsimp only [Option.toList, List.cons_append, List.nil_append]
      refine z_ifb_eq hX 107 d1_loadAtEnd_45 (by decide) (fun h45 => ?_) (fun h45 => ?_)
      · skip
        rw [if_neg (by rw [h45]; simp)] at this
        refine z_iinc hX (1) (by decide) rfl (by decide) d1_loadAtEnd_107 ?_
        dsimp only [z_p1, z_p2, z_k, List.headD, List.tail]
        refine z_goto hX 15 d1_loadAtEnd_110 (by decide) ?_
        rw [nI_1]
        exact z_sub this (by repeat' (first | exact trivial | refine ⟨rfl, ?_⟩))
      · skip
        rw [h45] at this
        refine z_lload hX d1_loadAtEnd_48 rfl ?_
        refine z_lconst hX 0 d1_loadAtEnd_50 (by decide) ?_
        refine z_lcmp hX d1_loadAtEnd_51 ?_
        refine z_if_le hX 107 d1_loadAtEnd_52 (by decide) (fun h52 => ?_) (fun h52 => ?_)
        · skip
          rw [lg_cmp_le] at h52
          rw [decide_eq_false (Int64.not_lt.mpr h52), if_neg (by decide)] at this
          refine z_iinc hX (1) (by decide) rfl (by decide) d1_loadAtEnd_107 ?_
          dsimp only [z_p1, z_p2, z_k, List.headD, List.tail]
          refine z_goto hX 15 d1_loadAtEnd_110 (by decide) ?_
          rw [nI_1]
          exact z_sub this (by repeat' (first | exact trivial | refine ⟨rfl, ?_⟩))
        · skip
          rw [lg_cmp_le] at h52
          rw [decide_eq_true (Int64.not_le.mp h52), if_pos (by decide)] at this
          refine z_aload_n hX d1_loadAtEnd_55 rfl ?_
          refine z_get hX lf_1_15 (by first | exact p3 _ _ rfl | exact hC.1 | exact hC.2.1 | exact hC.2.2) rfl d1_loadAtEnd_56 ?_
          refine z_iload hX d1_loadAtEnd_59 rfl ?_
          refine z_iald hX (by first | exact p3 _ _ rfl | exact hC.1 | exact hC.2.1 | exact hC.2.2) (vp_in_nI (by omega) (by decide)) d1_loadAtEnd_61 ?_
          rw [nI_clamp (show i < 2 ^ 31 by omega)]
          refine z_i2l hX d1_loadAtEnd_62 ?_
          refine z_lload hX d1_loadAtEnd_63 rfl ?_
          refine z_lmul hX d1_loadAtEnd_65 ?_
          refine z_lload hX d1_loadAtEnd_66 rfl ?_
          refine z_ldiv hX d1_loadAtEnd_68 (fun z => h52 (by rw [z]; decide)) ?_
          refine z_lstore hX (by decide) d1_loadAtEnd_69 ?_
          dsimp only [z_p1, z_p2, z_k, List.headD, List.tail]
          unfold cEndS at this
          refine z_lload hX d1_loadAtEnd_71 rfl ?_
          refine z_ldc2 hX (-1) d1_loadAtEnd_73 lk_1_44 ?_
          refine z_lcmp hX d1_loadAtEnd_76 ?_
          refine z_if_eq hX 103 d1_loadAtEnd_77 (by decide) (fun h77 => ?_) (fun h77 => ?_)
          · skip
            rw [lg_cmp_eq] at h77
            rw [if_pos h77] at this
            refine z_lload hX d1_loadAtEnd_103 rfl ?_
            refine z_lstore hX (by decide) d1_loadAtEnd_105 ?_
            dsimp only [z_p1, z_p2, z_k, List.headD, List.tail]
            refine z_iinc hX (1) (by decide) rfl (by decide) d1_loadAtEnd_107 ?_
            dsimp only [z_p1, z_p2, z_k, List.headD, List.tail]
            refine z_goto hX 15 d1_loadAtEnd_110 (by decide) ?_
            rw [nI_1]
            exact z_sub this (by repeat' (first | exact trivial | refine ⟨rfl, ?_⟩))
          · skip
            rw [lg_cmp_eq] at h77
            rw [if_neg h77] at this
            refine z_iload_n hX d1_loadAtEnd_80 rfl ?_
            refine z_if_eq hX 95 d1_loadAtEnd_81 (by decide) (fun h81 => ?_) (fun h81 => ?_)
            · skip
              rw [zb_0] at h81
              rw [if_neg (by rw [h81]; decide)] at this
              refine z_lload hX d1_loadAtEnd_95 rfl ?_
              refine z_lload hX d1_loadAtEnd_97 rfl ?_
              refine z_lcmp hX d1_loadAtEnd_99 ?_
              refine z_if_ge hX 107 d1_loadAtEnd_100 (by decide) (fun h100 => ?_) (fun h100 => ?_)
              · skip
                rw [lg_cmp_ge] at h100
                rw [if_neg (Int64.not_lt.mpr h100)] at this
                refine z_iinc hX (1) (by decide) rfl (by decide) d1_loadAtEnd_107 ?_
                dsimp only [z_p1, z_p2, z_k, List.headD, List.tail]
                refine z_goto hX 15 d1_loadAtEnd_110 (by decide) ?_
                rw [nI_1]
                exact z_sub this (by repeat' (first | exact trivial | refine ⟨rfl, ?_⟩))
              · skip
                rw [lg_cmp_ge] at h100
                rw [if_pos (Int64.not_le.mp h100)] at this
                refine z_lload hX d1_loadAtEnd_103 rfl ?_
                refine z_lstore hX (by decide) d1_loadAtEnd_105 ?_
                dsimp only [z_p1, z_p2, z_k, List.headD, List.tail]
                refine z_iinc hX (1) (by decide) rfl (by decide) d1_loadAtEnd_107 ?_
                dsimp only [z_p1, z_p2, z_k, List.headD, List.tail]
                refine z_goto hX 15 d1_loadAtEnd_110 (by decide) ?_
                rw [nI_1]
                exact z_sub this (by repeat' (first | exact trivial | refine ⟨rfl, ?_⟩))
            · skip
              rw [zb_n0] at h81
              rw [if_pos h81] at this
              refine z_lload hX d1_loadAtEnd_84 rfl ?_
              refine z_lload hX d1_loadAtEnd_86 rfl ?_
              refine z_lcmp hX d1_loadAtEnd_88 ?_
              refine z_if_le hX 107 d1_loadAtEnd_89 (by decide) (fun h89 => ?_) (fun h89 => ?_)
              · skip
                rw [lg_cmp_le] at h89
                rw [if_neg (Int64.not_lt.mpr h89)] at this
                refine z_iinc hX (1) (by decide) rfl (by decide) d1_loadAtEnd_107 ?_
                dsimp only [z_p1, z_p2, z_k, List.headD, List.tail]
                refine z_goto hX 15 d1_loadAtEnd_110 (by decide) ?_
                rw [nI_1]
                exact z_sub this (by repeat' (first | exact trivial | refine ⟨rfl, ?_⟩))
              · skip
                rw [lg_cmp_le] at h89
                rw [if_pos (Int64.not_le.mp h89)] at this
                refine z_goto hX 103 d1_loadAtEnd_92 (by decide) ?_
                refine z_lload hX d1_loadAtEnd_103 rfl ?_
                refine z_lstore hX (by decide) d1_loadAtEnd_105 ?_
                dsimp only [z_p1, z_p2, z_k, List.headD, List.tail]
                refine z_iinc hX (1) (by decide) rfl (by decide) d1_loadAtEnd_107 ?_
                dsimp only [z_p1, z_p2, z_k, List.headD, List.tail]
                refine z_goto hX 15 d1_loadAtEnd_110 (by decide) ?_
                rw [nI_1]
                exact z_sub this (by repeat' (first | exact trivial | refine ⟨rfl, ?_⟩))
  refine z_aload_n hX d1_loadAtEnd_0 rfl ?_
  refine z_iload_n hX d1_loadAtEnd_1 rfl ?_
  refine z_callV1 hX (sp0_wholeOf l) lm_1_38 (p3 _ _ rfl) ⟨by decide, by decide, by decide, by decide⟩ (Nat.le_of_ble_eq_true rfl) d1_loadAtEnd_2 ?_
  refine ⟨wd, mo, h, hl, hd, hn, s, rfl, p3, p4, p5, ?_⟩
  dsimp only [Option.toList, List.cons_append, List.nil_append]
  refine z_lstore hX (by decide) d1_loadAtEnd_5 ?_
  dsimp only [z_p1, z_p2, z_k, List.headD, List.tail]
  refine z_ldc2 hX (-1) d1_loadAtEnd_7 lk_1_44 ?_
  refine z_lstore hX (by decide) d1_loadAtEnd_10 ?_
  dsimp only [z_p1, z_p2, z_k, List.headD, List.tail]
  refine z_iconst hX (0) d1_loadAtEnd_12 (by decide) ?_
  refine z_istore hX (by decide) d1_loadAtEnd_13 ?_
  dsimp only [z_p1, z_p2, z_k, List.headD, List.tail]
  exact loop sz 0 (by omega)
def cAb (v : Int64) : Int64 := if v < 0 then -v else v
def cMis (wd mo : Nat → Nat → Int32) (h : Nat → Bool) (dl : Nat → Nat) (ct : Nat → Int32) (sz s : Nat) (shs : Int64) : Int64 := zSi (cU h dl) (fun i => cAb ((ct i).toInt64 * shs - cShare wd mo h s (dl i) * cTot h dl ct sz)) sz
def S1_misfitTimesShares : z_PT := fun as P nx K => ∃ (q sz : Nat) (dy ct : Nat → Int32) (dl : Nat → Nat) (wd mo : Nat → Nat → Int32) (h : Nat → Bool) (hl : Nat → Int32) (hn s : Nat) (shs : Int64), as = [.ref q, .ref 2, .int (nI s), .long shs] ∧ (zCt q sz dy ct P) ∧ (cDl dy dl sz) ∧ (z_in (zA wd mo h hl hn) P) ∧ (s < 4) ∧ K (some (.long (cMis wd mo h dl ct sz s shs))) P nx
set_option maxRecDepth 4000 in
theorem sp1_misfitTimesShares (l : Launch) : z_Sp l M1_misfitTimesShares rM1_misfitTimesShares S1_misfitTimesShares := by
  refine z_enter (by decide) (fun as P nx K h => ?_) (fun X K as P nx hX hE hin0 hS => ?_)
  · obtain ⟨q, sz, dy, ct, dl, wd, mo, h, hl, hn, s, shs, rfl, -⟩ := h
    exact Nat.le_of_ble_eq_true rfl
  obtain ⟨q, sz, dy, ct, dl, wd, mo, h, hl, hn, s, shs, rfl, p1, p2, p3, p4, hK⟩ := hS
  refine z_pad 5 ?_
  show z_W X 0 [some (.ref q), some (.ref 2), some (.int (nI s)), some (.long shs), none, none, none, none, none, none] [] P nx 0 0
  have hC := p1
  have hs := p2.1
  have loop : ∀ (k i : Nat), i + k = sz → z_W X 13 [some (.ref q), some (.ref 2), some (.int (nI s)), some (.long shs), none, some (.long (cTot h dl ct sz)), none, some (.long (zSi (cU h dl) (fun i => cAb ((ct i).toInt64 * shs - cShare wd mo h s (dl i) * cTot h dl ct sz)) i)), none, some (.int (nI i))] [] P nx 0 0 := by
    intro k
    induction k with
    | zero =>
      intro i hi
      have hi : i = sz := by omega
      subst hi
      refine z_iload hX d1_misfitTimesShares_13 rfl ?_
      refine z_aload_n hX d1_misfitTimesShares_15 rfl ?_
      refine z_get hX lf_1_22 (by first | exact p3 _ _ rfl | exact hC.1 | exact hC.2.1 | exact hC.2.2) rfl d1_misfitTimesShares_16 ?_
      refine z_icmp_ge hX 72 d1_misfitTimesShares_19 (by decide) (fun h19 => ?_) (fun h19 => ?_)
      rotate_left
      · exact absurd (Int32.le_refl _) h19
      refine z_lload hX d1_misfitTimesShares_72 rfl ?_
      refine z_lret hX hE (by decide) (by decide) d1_misfitTimesShares_74 ?_
      exact hK
    | succ k ih =>
      intro i hi
      have := ih (i + 1) (by omega)
      unfold zSi at this
      obtain ⟨d1, d2⟩ := p2.2 i (by omega)
      refine z_iload hX d1_misfitTimesShares_13 rfl ?_
      refine z_aload_n hX d1_misfitTimesShares_15 rfl ?_
      refine z_get hX lf_1_22 (by first | exact p3 _ _ rfl | exact hC.1 | exact hC.2.1 | exact hC.2.2) rfl d1_misfitTimesShares_16 ?_
      refine z_icmp_ge hX 72 d1_misfitTimesShares_19 (by decide) (fun h19 => ?_) (fun h19 => ?_)
      · exact absurd h19 (nI_ge (by omega) (by omega))
      refine z_aload_n hX d1_misfitTimesShares_22 rfl ?_
      refine z_iload hX d1_misfitTimesShares_23 rfl ?_
      refine z_aload_n hX d1_misfitTimesShares_25 rfl ?_
      refine z_callV2 hX (sp1_isUsed l) lm_1_26 (by first | exact p3 _ _ rfl | exact hC.1 | exact hC.2.1 | exact hC.2.2) ⟨by decide, by decide, by decide, by decide⟩ (Nat.le_of_ble_eq_true rfl) d1_misfitTimesShares_26 ?_
      refine ⟨q, sz, dy, ct, dl, wd, mo, h, hl, hn, i, rfl, hC, p2, p3, by omega, ?_⟩
      dsimp only [Option.toList, List.cons_append, List.nil_append]
      refine z_ifb_eq hX 66 d1_misfitTimesShares_29 (by decide) (fun h29 => ?_) (fun h29 => ?_)
      · skip
        rw [if_neg (show ¬ cU h dl i = true by show ¬ (!h (dl i)) = true; rw [h29]; decide)] at this
        refine z_iinc hX (1) (by decide) rfl (by decide) d1_misfitTimesShares_66 ?_
        dsimp only [z_p1, z_p2, z_k, List.headD, List.tail]
        refine z_goto hX 13 d1_misfitTimesShares_69 (by decide) ?_
        rw [nI_1]
        exact this
      · skip
        rw [if_pos (show cU h dl i = true from h29)] at this
        refine z_lload hX d1_misfitTimesShares_32 rfl ?_
        refine z_aload_n hX d1_misfitTimesShares_34 rfl ?_
        refine z_get hX lf_1_15 (by first | exact p3 _ _ rfl | exact hC.1 | exact hC.2.1 | exact hC.2.2) rfl d1_misfitTimesShares_35 ?_
        refine z_iload hX d1_misfitTimesShares_38 rfl ?_
        refine z_iald hX (by first | exact p3 _ _ rfl | exact hC.1 | exact hC.2.1 | exact hC.2.2) (vp_in_nI (by omega) (by decide)) d1_misfitTimesShares_40 ?_
        rw [nI_clamp (show i < 2 ^ 31 by omega)]
        refine z_i2l hX d1_misfitTimesShares_41 ?_
        refine z_lload_n hX d1_misfitTimesShares_42 rfl ?_
        refine z_lmul hX d1_misfitTimesShares_43 ?_
        refine z_aload_n hX d1_misfitTimesShares_44 rfl ?_
        refine z_iload_n hX d1_misfitTimesShares_45 rfl ?_
        refine z_aload_n hX d1_misfitTimesShares_46 rfl ?_
        refine z_get hX lf_1_9 (by first | exact p3 _ _ rfl | exact hC.1 | exact hC.2.1 | exact hC.2.2) rfl d1_misfitTimesShares_47 ?_
        refine z_iload hX d1_misfitTimesShares_50 rfl ?_
        refine z_iald hX (by first | exact p3 _ _ rfl | exact hC.1 | exact hC.2.1 | exact hC.2.2) (vp_in_nI (by omega) (by decide)) d1_misfitTimesShares_52 ?_
        rw [nI_clamp (show i < 2 ^ 31 by omega), d1]
        refine z_callV2 hX (sp0_shareOf l) lm_1_46 (by first | exact p3 _ _ rfl | exact hC.1 | exact hC.2.1 | exact hC.2.2) ⟨by decide, by decide, by decide, by decide⟩ (Nat.le_of_ble_eq_true rfl) d1_misfitTimesShares_53 ?_
        refine ⟨wd, mo, h, hl, hn, s, dl i, rfl, p3, p4, d2, ?_⟩
        dsimp only [Option.toList, List.cons_append, List.nil_append]
        refine z_lload hX d1_misfitTimesShares_56 rfl ?_
        refine z_lmul hX d1_misfitTimesShares_58 ?_
        refine z_lsub hX d1_misfitTimesShares_59 ?_
        refine z_mabs hX l_abs (by decide) (Nat.le_of_ble_eq_true rfl) (by decide) (by decide) d1_misfitTimesShares_60 ?_
        refine z_ladd hX d1_misfitTimesShares_63 ?_
        refine z_lstore hX (by decide) d1_misfitTimesShares_64 ?_
        dsimp only [z_p1, z_p2, z_k, List.headD, List.tail]
        refine z_iinc hX (1) (by decide) rfl (by decide) d1_misfitTimesShares_66 ?_
        dsimp only [z_p1, z_p2, z_k, List.headD, List.tail]
        refine z_goto hX 13 d1_misfitTimesShares_69 (by decide) ?_
        rw [nI_1]
        exact this
  refine z_aload_n hX d1_misfitTimesShares_0 rfl ?_
  refine z_aload_n hX d1_misfitTimesShares_1 rfl ?_
  refine z_callV1 hX (sp1_usedTotal l) lm_1_34 (by first | exact p3 _ _ rfl | exact hC.1 | exact hC.2.1 | exact hC.2.2) ⟨by decide, by decide, by decide, by decide⟩ (Nat.le_of_ble_eq_true rfl) d1_misfitTimesShares_2 ?_
  refine ⟨q, sz, dy, ct, dl, wd, mo, h, hl, hn, rfl, hC, p2, p3, ?_⟩
  dsimp only [Option.toList, List.cons_append, List.nil_append]
  refine z_lstore hX (by decide) d1_misfitTimesShares_5 ?_
  dsimp only [z_p1, z_p2, z_k, List.headD, List.tail]
  refine z_lconst hX 0 d1_misfitTimesShares_7 (by decide) ?_
  refine z_lstore hX (by decide) d1_misfitTimesShares_8 ?_
  dsimp only [z_p1, z_p2, z_k, List.headD, List.tail]
  refine z_iconst hX (0) d1_misfitTimesShares_10 (by decide) ?_
  refine z_istore hX (by decide) d1_misfitTimesShares_11 ?_
  dsimp only [z_p1, z_p2, z_k, List.headD, List.tail]
  exact loop sz 0 (by omega)
def cM (wd mo : Nat → Nat → Int32) (h : Nat → Bool) (dl : Nat → Nat) (ct : Nat → Int32) (sz s : Nat) : Int64 := cMis wd mo h dl ct sz s (cShs wd mo h dl sz s)
def cBestF (wd mo : Nat → Nat → Int32) (h : Nat → Bool) (dl : Nat → Nat) (ct : Nat → Int32) (sz : Nat) : Nat → Nat
  | 0 => 0
  | k + 1 => if cM wd mo h dl ct sz (k + 1) * cShs wd mo h dl sz (cBestF wd mo h dl ct sz k) < cM wd mo h dl ct sz (cBestF wd mo h dl ct sz k) * cShs wd mo h dl sz (k + 1) then k + 1 else cBestF wd mo h dl ct sz k
def cBest (wd mo : Nat → Nat → Int32) (h : Nat → Bool) (dl : Nat → Nat) (ct : Nat → Int32) (sz : Nat) : Int32 := if zC (cU h dl) sz = 0 then -1 else nI (cBestF wd mo h dl ct sz 3)
def S1_bestShape : z_PT := fun as P nx K => ∃ (q sz : Nat) (dy ct : Nat → Int32) (dl : Nat → Nat) (wd mo : Nat → Nat → Int32) (h : Nat → Bool) (hl : Nat → Int32) (hn : Nat), as = [.ref q, .ref 2] ∧ (zCt q sz dy ct P) ∧ (cDl dy dl sz) ∧ (z_in (zA wd mo h hl hn) P) ∧ K (some (.int (cBest wd mo h dl ct sz))) P nx
set_option maxRecDepth 4000 in
theorem sp1_bestShape (l : Launch) : z_Sp l M1_bestShape rM1_bestShape S1_bestShape := by
  refine z_enter (by decide) (fun as P nx K h => ?_) (fun X K as P nx hX hE hin0 hS => ?_)
  · obtain ⟨q, sz, dy, ct, dl, wd, mo, h, hl, hn, rfl, -⟩ := h
    exact Nat.le_of_ble_eq_true rfl
  obtain ⟨q, sz, dy, ct, dl, wd, mo, h, hl, hn, rfl, p1, p2, p3, hK⟩ := hS
  refine z_pad 10 ?_
  show z_W X 0 [some (.ref q), some (.ref 2), none, none, none, none, none, none, none, none, none, none] [] P nx 0 0
  have hC := p1
  have hs := p2.1
  have hz := zC_le (cU h dl) sz
  have loop : ∀ (k i : Nat), i + k = 3 → zC (cU h dl) sz ≠ 0 → z_W X 31 [some (.ref q), some (.ref 2), some (.int (nI (cBestF wd mo h dl ct sz i))), some (.long (cShs wd mo h dl sz (cBestF wd mo h dl ct sz i))), none, some (.long (cM wd mo h dl ct sz (cBestF wd mo h dl ct sz i))), none, some (.int (nI (i + 1))), none, none, none, none] [] P nx 0 0 := by
    intro k
    induction k with
    | zero =>
      intro i hi h0
      have hi : i = 3 := by omega
      subst hi
      rw [show cBest wd mo h dl ct sz = _ from if_neg h0] at hK
      refine z_iload hX d1_bestShape_31 rfl ?_
      refine z_iconst hX (4) d1_bestShape_33 (by decide) ?_
      refine z_icmp_ge hX 86 d1_bestShape_34 (by decide) (fun h34 => ?_) (fun h34 => ?_)
      rotate_left
      · exact absurd (by decide) h34
      refine z_iload_n hX d1_bestShape_86 rfl ?_
      refine z_iret hX hE (by decide) (by decide) d1_bestShape_87 ?_
      exact hK
    | succ k ih =>
      intro i hi h0
      have := ih (i + 1) (by omega) h0
      refine z_iload hX d1_bestShape_31 rfl ?_
      refine z_iconst hX (4) d1_bestShape_33 (by decide) ?_
      refine z_icmp_ge hX 86 d1_bestShape_34 (by decide) (fun h34 => ?_) (fun h34 => ?_)
      · exact absurd h34 (nI_ge (b := 4) (by omega) (by decide))
      refine z_aload_n hX d1_bestShape_37 rfl ?_
      refine z_aload_n hX d1_bestShape_38 rfl ?_
      refine z_iload hX d1_bestShape_39 rfl ?_
      refine z_callV2 hX (sp1_usedShares l) lm_1_30 (by first | exact p3 _ _ rfl | exact hC.1 | exact hC.2.1 | exact hC.2.2) ⟨by decide, by decide, by decide, by decide⟩ (Nat.le_of_ble_eq_true rfl) d1_bestShape_41 ?_
      refine ⟨q, sz, dy, ct, dl, wd, mo, h, hl, hn, i + 1, rfl, hC, p2, p3, by omega, ?_⟩
      dsimp only [Option.toList, List.cons_append, List.nil_append]
      refine z_lstore hX (by decide) d1_bestShape_44 ?_
      dsimp only [z_p1, z_p2, z_k, List.headD, List.tail]
      refine z_aload_n hX d1_bestShape_46 rfl ?_
      refine z_aload_n hX d1_bestShape_47 rfl ?_
      refine z_iload hX d1_bestShape_48 rfl ?_
      refine z_lload hX d1_bestShape_50 rfl ?_
      refine z_callV3 hX (sp1_misfitTimesShares l) lm_1_54 (by first | exact p3 _ _ rfl | exact hC.1 | exact hC.2.1 | exact hC.2.2) ⟨by decide, by decide, by decide, by decide⟩ (Nat.le_of_ble_eq_true rfl) d1_bestShape_52 ?_
      refine ⟨q, sz, dy, ct, dl, wd, mo, h, hl, hn, i + 1, _, rfl, hC, p2, p3, by omega, ?_⟩
      dsimp only [Option.toList, List.cons_append, List.nil_append]
      refine z_lstore hX (by decide) d1_bestShape_55 ?_
      dsimp only [z_p1, z_p2, z_k, List.headD, List.tail]
      refine z_lload hX d1_bestShape_57 rfl ?_
      refine z_lload_n hX d1_bestShape_59 rfl ?_
      refine z_lmul hX d1_bestShape_60 ?_
      refine z_lload hX d1_bestShape_61 rfl ?_
      refine z_lload hX d1_bestShape_63 rfl ?_
      refine z_lmul hX d1_bestShape_65 ?_
      refine z_lcmp hX d1_bestShape_66 ?_
      refine z_if_ge hX 80 d1_bestShape_67 (by decide) (fun h67 => ?_) (fun h67 => ?_)
      · skip
        rw [lg_cmp_ge] at h67
        rw [show cBestF wd mo h dl ct sz (i + 1) = cBestF wd mo h dl ct sz i from if_neg (Int64.not_lt.mpr h67)] at this
        refine z_iinc hX (1) (by decide) rfl (by decide) d1_bestShape_80 ?_
        dsimp only [z_p1, z_p2, z_k, List.headD, List.tail]
        refine z_goto hX 31 d1_bestShape_83 (by decide) ?_
        rw [nI_1]
        exact z_sub this (by repeat' (first | exact trivial | refine ⟨rfl, ?_⟩))
      · skip
        rw [lg_cmp_ge] at h67
        rw [show cBestF wd mo h dl ct sz (i + 1) = i + 1 from if_pos (Int64.not_le.mp h67)] at this
        refine z_iload hX d1_bestShape_70 rfl ?_
        refine z_istore_n hX 2 rfl (by decide) d1_bestShape_72 ?_
        dsimp only [z_p1, z_p2, z_k, List.headD, List.tail]
        refine z_lload hX d1_bestShape_73 rfl ?_
        refine z_lstore_n hX 3 rfl (by decide) d1_bestShape_75 ?_
        dsimp only [z_p1, z_p2, z_k, List.headD, List.tail]
        refine z_lload hX d1_bestShape_76 rfl ?_
        refine z_lstore hX (by decide) d1_bestShape_78 ?_
        dsimp only [z_p1, z_p2, z_k, List.headD, List.tail]
        refine z_iinc hX (1) (by decide) rfl (by decide) d1_bestShape_80 ?_
        dsimp only [z_p1, z_p2, z_k, List.headD, List.tail]
        refine z_goto hX 31 d1_bestShape_83 (by decide) ?_
        rw [nI_1]
        exact z_sub this (by repeat' (first | exact trivial | refine ⟨rfl, ?_⟩))
  refine z_aload_n hX d1_bestShape_0 rfl ?_
  refine z_aload_n hX d1_bestShape_1 rfl ?_
  refine z_callV1 hX (sp1_used l) lm_1_50 (by first | exact p3 _ _ rfl | exact hC.1 | exact hC.2.1 | exact hC.2.2) ⟨by decide, by decide, by decide, by decide⟩ (Nat.le_of_ble_eq_true rfl) d1_bestShape_2 ?_
  refine ⟨q, sz, dy, ct, dl, wd, mo, h, hl, hn, rfl, hC, p2, p3, ?_⟩
  dsimp only [Option.toList, List.cons_append, List.nil_append]
  refine z_if_ne hX 10 d1_bestShape_5 (by decide) (fun h5 => ?_) (fun h5 => ?_)
  · skip
    have h5 : zC (cU h dl) sz ≠ 0 := fun z => h5 (by rw [z]; rfl)
    refine z_iconst hX (0) d1_bestShape_10 (by decide) ?_
    refine z_istore_n hX 2 rfl (by decide) d1_bestShape_11 ?_
    dsimp only [z_p1, z_p2, z_k, List.headD, List.tail]
    refine z_aload_n hX d1_bestShape_12 rfl ?_
    refine z_aload_n hX d1_bestShape_13 rfl ?_
    refine z_iconst hX (0) d1_bestShape_14 (by decide) ?_
    refine z_callV2 hX (sp1_usedShares l) lm_1_30 (by first | exact p3 _ _ rfl | exact hC.1 | exact hC.2.1 | exact hC.2.2) ⟨by decide, by decide, by decide, by decide⟩ (Nat.le_of_ble_eq_true rfl) d1_bestShape_15 ?_
    refine ⟨q, sz, dy, ct, dl, wd, mo, h, hl, hn, 0, rfl, hC, p2, p3, by omega, ?_⟩
    dsimp only [Option.toList, List.cons_append, List.nil_append]
    refine z_lstore_n hX 3 rfl (by decide) d1_bestShape_18 ?_
    dsimp only [z_p1, z_p2, z_k, List.headD, List.tail]
    refine z_aload_n hX d1_bestShape_19 rfl ?_
    refine z_aload_n hX d1_bestShape_20 rfl ?_
    refine z_iconst hX (0) d1_bestShape_21 (by decide) ?_
    refine z_lload_n hX d1_bestShape_22 rfl ?_
    refine z_callV3 hX (sp1_misfitTimesShares l) lm_1_54 (by first | exact p3 _ _ rfl | exact hC.1 | exact hC.2.1 | exact hC.2.2) ⟨by decide, by decide, by decide, by decide⟩ (Nat.le_of_ble_eq_true rfl) d1_bestShape_23 ?_
    refine ⟨q, sz, dy, ct, dl, wd, mo, h, hl, hn, 0, _, rfl, hC, p2, p3, by omega, ?_⟩
    dsimp only [Option.toList, List.cons_append, List.nil_append]
    refine z_lstore hX (by decide) d1_bestShape_26 ?_
    dsimp only [z_p1, z_p2, z_k, List.headD, List.tail]
    refine z_iconst hX (1) d1_bestShape_28 (by decide) ?_
    refine z_istore hX (by decide) d1_bestShape_29 ?_
    dsimp only [z_p1, z_p2, z_k, List.headD, List.tail]
    exact loop 3 0 (by omega) h5
  · skip
    have h5 : zC (cU h dl) sz = 0 := (nI_eq (b := 0) (by omega) (by decide)).mp h5
    rw [show cBest wd mo h dl ct sz = _ from if_pos h5] at hK
    refine z_iconst hX (-1) d1_bestShape_8 (by decide) ?_
    refine z_iret hX hE (by decide) (by decide) d1_bestShape_9 ?_
    exact hK
