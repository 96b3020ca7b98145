/-! THE CLASS: the almanac. wd, mo: weights; h: holidays; hl: their list, of hn -/
def zA (wd mo : Nat → Nat → Int32) (h : Nat → Bool) (hl : Nat → Int32) (hn : Nat) : z_H := fun k => match k with
  | 2 => some (.inr (0, [.ref 3, .ref 8, .ref 13, .ref 14, .int (nI hn)]))
  | 3 => some (.inl (5, 4, .inr (.inr (.inr (.inr (fun i => if i < 4 then some (3 + 1 + i) else none))))))
  | 4 => some (.inl (0, 7, .inl (wd 0)))
  | 5 => some (.inl (0, 7, .inl (wd 1)))
  | 6 => some (.inl (0, 7, .inl (wd 2)))
  | 7 => some (.inl (0, 7, .inl (wd 3)))
  | 8 => some (.inl (5, 4, .inr (.inr (.inr (.inr (fun i => if i < 4 then some (8 + 1 + i) else none))))))
  | 9 => some (.inl (0, 13, .inl (mo 0)))
  | 10 => some (.inl (0, 13, .inl (mo 1)))
  | 11 => some (.inl (0, 13, .inl (mo 2)))
  | 12 => some (.inl (0, 13, .inl (mo 3)))
  | 13 => some (.inl (3, 364, .inl (fun j => zb (h j))))
  | 14 => some (.inl (0, 20, .inl hl))
  | _ => none
theorem zA_dom {wd mo : Nat → Nat → Int32} {h : Nat → Bool} {hl : Nat → Int32} {hn k : Nat} {c : z_C} (q : zA wd mo h hl hn k = some c) : 2 ≤ k ∧ k ≤ 14 := by
  unfold zA at q
  split at q <;> first | (cases q; done) | omega
theorem lt4 {Q : Nat → Prop} (h0 : Q 0) (h1 : Q 1) (h2 : Q 2) (h3 : Q 3) {s : Nat} (h : s < 4) : Q s := by
  rcases (show s = 0 ∨ s = 1 ∨ s = 2 ∨ s = 3 by omega) with e | e | e | e <;> subst e <;> assumption
theorem zA_wd {wd mo : Nat → Nat → Int32} {h : Nat → Bool} {hl : Nat → Int32} {hn s : Nat} (hs : s < 4) : zA wd mo h hl hn (3 + 1 + s) = some (.inl (0, 7, .inl (wd s))) := lt4 (Q := fun s => zA wd mo h hl hn (3 + 1 + s) = some (.inl (0, 7, .inl (wd s)))) rfl rfl rfl rfl hs
theorem zA_mo {wd mo : Nat → Nat → Int32} {h : Nat → Bool} {hl : Nat → Int32} {hn s : Nat} (hs : s < 4) : zA wd mo h hl hn (8 + 1 + s) = some (.inl (0, 13, .inl (mo s))) := lt4 (Q := fun s => zA wd mo h hl hn (8 + 1 + s) = some (.inl (0, 13, .inl (mo s)))) rfl rfl rfl rfl hs
theorem zA_el {s b : Nat} (hs : s < 4) : (fun i => if i < 4 then some (b + 1 + i) else none : Nat → Option Nat) (nI s).toNatClampNeg = some (b + 1 + s) := by
  show (if (nI s).toNatClampNeg < 4 then some (b + 1 + (nI s).toNatClampNeg) else none) = _
  rw [nI_clamp (by omega), if_pos hs]
def cShare (wd mo : Nat → Nat → Int32) (h : Nat → Bool) (s d : Nat) : Int64 := (wd s (if h d then 6 else d % 7) * mo s (d / 28)).toInt64
def S0_shareOf : z_PT := fun as P nx K => ∃ (wd mo : Nat → Nat → Int32) (h : Nat → Bool) (hl : Nat → Int32) (hn s d : Nat), as = [.ref 2, .int (nI s), .int (nI d)] ∧ z_in (zA wd mo h hl hn) P ∧ s < 4 ∧ d < 364 ∧ K (some (.long (cShare wd mo h s d))) P nx
theorem sp0_shareOf (l : Launch) : z_Sp l M0_shareOf rM0_shareOf S0_shareOf := by
  refine z_enter (by decide) (fun as P nx K h => ?_) (fun X K as P nx hX hE hin0 hS => ?_)
  · obtain ⟨wd, mo, h, hl, hn, s, d, rfl, -⟩ := h
    exact Nat.le_of_ble_eq_true rfl
  obtain ⟨wd, mo, h, hl, hn, s, d, rfl, hM, p1, p2, hK⟩ := hS
  refine z_pad 1 ?_
  show z_W X 0 [some (.ref 2), some (.int (nI s)), some (.int (nI d)), none] [] P nx 0 0
  have e2 : nI d / 28 = nI (d / 28) := by rw [show (28 : Int32) = nI 28 from rfl, pk_div (by omega) (by decide) (by decide)]
  refine z_aload_n hX d0_shareOf_0 rfl ?_
  refine z_get hX lf_0_19 (hM _ _ rfl) rfl d0_shareOf_1 ?_
  refine z_iload_n hX d0_shareOf_4 rfl ?_
  refine z_zald hX (hM _ _ rfl) (vp_in_nI p2 (by decide)) d0_shareOf_5 ?_
  rw [nI_clamp (show d < 2 ^ 31 by omega)]
  refine z_ifb_eq hX 14 d0_shareOf_6 (by decide) (fun h6 => ?_) (fun h6 => ?_)
  · skip
    have e1 : (nI d - nI d / 7 * 7) = nI (d % 7) := by rw [show (7 : Int32) = nI 7 from rfl, pk_rem (by omega) (by decide) (by decide)]
    have i1 : d % 7 < 7 := by omega
    refine z_iload_n hX d0_shareOf_14 rfl ?_
    refine z_bipush hX (7) d0_shareOf_15 (by decide) ?_
    refine z_irem hX d0_shareOf_17 (by decide) ?_
    refine z_istore_n hX 3 rfl (by decide) d0_shareOf_18 ?_
    dsimp only [z_p1, z_p2, z_k, List.headD, List.tail]
    refine z_aload_n hX d0_shareOf_19 rfl ?_
    refine z_get hX lf_0_11 (hM _ _ rfl) rfl d0_shareOf_20 ?_
    refine z_iload_n hX d0_shareOf_23 rfl ?_
    refine z_aaldA hX (hM _ _ rfl) (vp_in_nI p1 (by decide)) (zA_el p1) d0_shareOf_24 ?_
    refine z_iload_n hX d0_shareOf_25 rfl ?_
    refine z_iald hX (hM _ _ (zA_wd p1)) (ix_in e1 i1 (by decide)) d0_shareOf_26 ?_
    rw [ix_c e1 (by omega)]
    refine z_aload_n hX d0_shareOf_27 rfl ?_
    refine z_get hX lf_0_16 (hM _ _ rfl) rfl d0_shareOf_28 ?_
    refine z_iload_n hX d0_shareOf_31 rfl ?_
    refine z_aaldA hX (hM _ _ rfl) (vp_in_nI p1 (by decide)) (zA_el p1) d0_shareOf_32 ?_
    refine z_iload_n hX d0_shareOf_33 rfl ?_
    refine z_bipush hX (28) d0_shareOf_34 (by decide) ?_
    refine z_idiv hX d0_shareOf_36 (by decide) ?_
    refine z_iald hX (hM _ _ (zA_mo p1)) (ix_in e2 (by omega) (by decide)) d0_shareOf_37 ?_
    rw [ix_c e2 (by omega)]
    refine z_imul hX d0_shareOf_38 ?_
    refine z_i2l hX d0_shareOf_39 ?_
    refine z_lret hX hE (by decide) (by decide) d0_shareOf_40 ?_
    exact zKe hK (by unfold cShare; rw [h6]; rfl)
  · skip
    have e1 : (6 : Int32) = nI 6 := rfl
    have i1 : 6 < 7 := by omega
    refine z_bipush hX (6) d0_shareOf_9 (by decide) ?_
    refine z_goto hX 18 d0_shareOf_11 (by decide) ?_
    refine z_istore_n hX 3 rfl (by decide) d0_shareOf_18 ?_
    dsimp only [z_p1, z_p2, z_k, List.headD, List.tail]
    refine z_aload_n hX d0_shareOf_19 rfl ?_
    refine z_get hX lf_0_11 (hM _ _ rfl) rfl d0_shareOf_20 ?_
    refine z_iload_n hX d0_shareOf_23 rfl ?_
    refine z_aaldA hX (hM _ _ rfl) (vp_in_nI p1 (by decide)) (zA_el p1) d0_shareOf_24 ?_
    refine z_iload_n hX d0_shareOf_25 rfl ?_
    refine z_iald hX (hM _ _ (zA_wd p1)) (ix_in e1 i1 (by decide)) d0_shareOf_26 ?_
    rw [ix_c e1 (by omega)]
    refine z_aload_n hX d0_shareOf_27 rfl ?_
    refine z_get hX lf_0_16 (hM _ _ rfl) rfl d0_shareOf_28 ?_
    refine z_iload_n hX d0_shareOf_31 rfl ?_
    refine z_aaldA hX (hM _ _ rfl) (vp_in_nI p1 (by decide)) (zA_el p1) d0_shareOf_32 ?_
    refine z_iload_n hX d0_shareOf_33 rfl ?_
    refine z_bipush hX (28) d0_shareOf_34 (by decide) ?_
    refine z_idiv hX d0_shareOf_36 (by decide) ?_
    refine z_iald hX (hM _ _ (zA_mo p1)) (ix_in e2 (by omega) (by decide)) d0_shareOf_37 ?_
    rw [ix_c e2 (by omega)]
    refine z_imul hX d0_shareOf_38 ?_
    refine z_i2l hX d0_shareOf_39 ?_
    refine z_lret hX hE (by decide) (by decide) d0_shareOf_40 ?_
    exact zKe hK (by unfold cShare; rw [h6]; rfl)
/-- a sum that begins with b -/
def zSb (b : Int64) (f : Nat → Int64) : Nat → Int64
  | 0 => b
  | n + 1 => zSb b f n + f n
def cOrd (wd mo : Nat → Nat → Int32) (s d : Nat) : Int64 := (wd s (d % 7) * mo s (d / 28)).toInt64
def cBase (wd mo : Nat → Nat → Int32) (s : Nat) : Int64 := 4 * zS (fun i => (wd s i).toInt64) 7 * zS (fun i => (mo s i).toInt64) 13
def cWhole (wd mo : Nat → Nat → Int32) (h : Nat → Bool) (hd : Nat → Nat) (hn s : Nat) : Int64 := zSb (cBase wd mo s) (fun i => cShare wd mo h s (hd i) - cOrd wd mo s (hd i)) hn
/-- the list of holidays holds days -/
def cHl (hl : Nat → Int32) (hd : Nat → Nat) (hn : Nat) : Prop := hn ≤ 20 ∧ ∀ i, i < hn → hl i = nI (hd i) ∧ hd i < 364
def S0_wholeOf : z_PT := fun as P nx K => ∃ (wd mo : Nat → Nat → Int32) (h : Nat → Bool) (hl : Nat → Int32) (hd : Nat → Nat) (hn s : Nat), as = [.ref 2, .int (nI s)] ∧ z_in (zA wd mo h hl hn) P ∧ s < 4 ∧ cHl hl hd hn ∧ K (some (.long (cWhole wd mo h hd hn s))) P nx
theorem sp0_wholeOf (l : Launch) : z_Sp l M0_wholeOf rM0_wholeOf S0_wholeOf := by
  refine z_enter (by decide) (fun as P nx K h => ?_) (fun X K as P nx hX hE hin0 hS => ?_)
  · obtain ⟨wd, mo, h, hl, hd, hn, s, rfl, -⟩ := h
    exact Nat.le_of_ble_eq_true rfl
  obtain ⟨wd, mo, h, hl, hd, hn, s, rfl, hM, p1, ⟨p2, p3⟩, hK⟩ := hS
  refine z_pad 10 ?_
  show z_W X 0 [some (.ref 2), some (.int (nI s)), none, none, none, none, none, none, none, none, none, none] [] P nx 0 0
  have l3 : ∀ (w m : Int64) (k i : Nat), i + k = hn → z_W X 78 [some (.ref 2), some (.int (nI s)), some (.long w), none, some (.long m), none, some (.long (zSb (cBase wd mo s) (fun i => cShare wd mo h s (hd i) - cOrd wd mo s (hd i)) i)), none, some (.int (nI i)), none, none, none] [] P nx 0 0 := by
    intro w m k
    induction k with
    | zero =>
      intro i hi
      have hi : i = hn := by omega
      subst hi
      refine z_iload hX d0_wholeOf_78 rfl ?_
      refine z_aload_n hX d0_wholeOf_80 rfl ?_
      refine z_get hX lf_0_27 (hM _ _ rfl) rfl d0_wholeOf_81 ?_
      refine z_icmp_ge hX 145 d0_wholeOf_84 (by decide) (fun h84 => ?_) (fun h84 => ?_)
      rotate_left
      · exact absurd (Int32.le_refl _) h84
      refine z_lload hX d0_wholeOf_145 rfl ?_
      refine z_lret hX hE (by decide) (by decide) d0_wholeOf_147 ?_
      exact hK
    | succ k ih =>
      intro i hi
      obtain ⟨d1, d2⟩ := p3 i (by omega)
      have e1 : nI (hd i) - nI (hd i) / 7 * 7 = nI (hd i % 7) := by rw [show (7 : Int32) = nI 7 from rfl, pk_rem (by omega) (by decide) (by decide)]
      have e2 : nI (hd i) / 28 = nI (hd i / 28) := by rw [show (28 : Int32) = nI 28 from rfl, pk_div (by omega) (by decide) (by decide)]
      refine z_iload hX d0_wholeOf_78 rfl ?_
      refine z_aload_n hX d0_wholeOf_80 rfl ?_
      refine z_get hX lf_0_27 (hM _ _ rfl) rfl d0_wholeOf_81 ?_
      refine z_icmp_ge hX 145 d0_wholeOf_84 (by decide) (fun h84 => ?_) (fun h84 => ?_)
      · exact absurd h84 (nI_ge (by omega) (by omega))
      refine z_aload_n hX d0_wholeOf_87 rfl ?_
      refine z_get hX lf_0_23 (hM _ _ rfl) rfl d0_wholeOf_88 ?_
      refine z_iload hX d0_wholeOf_91 rfl ?_
      refine z_iald hX (hM _ _ rfl) (vp_in_nI (by omega) (by decide)) d0_wholeOf_93 ?_
      rw [nI_clamp (show i < 2 ^ 31 by omega), d1]
      refine z_istore hX (by decide) d0_wholeOf_94 ?_
      dsimp only [z_p1, z_p2, z_k, List.headD, List.tail]
      refine z_aload_n hX d0_wholeOf_96 rfl ?_
      refine z_get hX lf_0_11 (hM _ _ rfl) rfl d0_wholeOf_97 ?_
      refine z_iload_n hX d0_wholeOf_100 rfl ?_
      refine z_aaldA hX (hM _ _ rfl) (vp_in_nI p1 (by decide)) (zA_el p1) d0_wholeOf_101 ?_
      refine z_iload hX d0_wholeOf_102 rfl ?_
      refine z_bipush hX (7) d0_wholeOf_104 (by decide) ?_
      refine z_irem hX d0_wholeOf_106 (by decide) ?_
      refine z_iald hX (hM _ _ (zA_wd p1)) (ix_in e1 (by omega) (by decide)) d0_wholeOf_107 ?_
      rw [ix_c e1 (by omega)]
      refine z_aload_n hX d0_wholeOf_108 rfl ?_
      refine z_get hX lf_0_16 (hM _ _ rfl) rfl d0_wholeOf_109 ?_
      refine z_iload_n hX d0_wholeOf_112 rfl ?_
      refine z_aaldA hX (hM _ _ rfl) (vp_in_nI p1 (by decide)) (zA_el p1) d0_wholeOf_113 ?_
      refine z_iload hX d0_wholeOf_114 rfl ?_
      refine z_bipush hX (28) d0_wholeOf_116 (by decide) ?_
      refine z_idiv hX d0_wholeOf_118 (by decide) ?_
      refine z_iald hX (hM _ _ (zA_mo p1)) (ix_in e2 (by omega) (by decide)) d0_wholeOf_119 ?_
      rw [ix_c e2 (by omega)]
      refine z_imul hX d0_wholeOf_120 ?_
      refine z_i2l hX d0_wholeOf_121 ?_
      refine z_lstore hX (by decide) d0_wholeOf_122 ?_
      dsimp only [z_p1, z_p2, z_k, List.headD, List.tail]
      refine z_lload hX d0_wholeOf_124 rfl ?_
      refine z_aload_n hX d0_wholeOf_126 rfl ?_
      refine z_iload_n hX d0_wholeOf_127 rfl ?_
      refine z_iload hX d0_wholeOf_128 rfl ?_
      refine z_callV2 hX (sp0_shareOf l) lm_0_33 (hM _ _ rfl) ⟨by decide, by decide, by decide, by decide⟩ (Nat.le_of_ble_eq_true rfl) d0_wholeOf_130 ?_
      refine ⟨wd, mo, h, hl, hn, s, hd i, rfl, hM, p1, d2, ?_⟩
      dsimp only [Option.toList, List.cons_append, List.nil_append]
      refine z_lload hX d0_wholeOf_133 rfl ?_
      refine z_lsub hX d0_wholeOf_135 ?_
      refine z_ladd hX d0_wholeOf_136 ?_
      refine z_lstore hX (by decide) d0_wholeOf_137 ?_
      dsimp only [z_p1, z_p2, z_k, List.headD, List.tail]
      refine z_iinc hX (1) (by decide) rfl (by decide) d0_wholeOf_139 ?_
      dsimp only [z_p1, z_p2, z_k, List.headD, List.tail]
      refine z_goto hX 78 d0_wholeOf_142 (by decide) ?_
      rw [nI_1]
      exact z_sub (ih (i + 1) (by omega)) (by repeat' (first | exact trivial | refine ⟨rfl, ?_⟩))
  have l2 : ∀ (k i : Nat), i + k = 13 → z_W X 37 [some (.ref 2), some (.int (nI s)), some (.long (zS (fun i => (wd s i).toInt64) 7)), none, some (.long (zS (fun i => (mo s i).toInt64) i)), none, some (.int (nI i)), none, none, none, none, none] [] P nx 0 0 := by
    intro k
    induction k with
    | zero =>
      intro i hi
      have hi : i = 13 := by omega
      subst hi
      refine z_iload hX d0_wholeOf_37 rfl ?_
      refine z_bipush hX (13) d0_wholeOf_39 (by decide) ?_
      refine z_icmp_ge hX 65 d0_wholeOf_41 (by decide) (fun h41 => ?_) (fun h41 => ?_)
      rotate_left
      · exact absurd (by decide) h41
      refine z_ldc2 hX (4) d0_wholeOf_65 lk_0_31 ?_
      refine z_lload_n hX d0_wholeOf_68 rfl ?_
      refine z_lmul hX d0_wholeOf_69 ?_
      refine z_lload hX d0_wholeOf_70 rfl ?_
      refine z_lmul hX d0_wholeOf_72 ?_
      refine z_lstore hX (by decide) d0_wholeOf_73 ?_
      dsimp only [z_p1, z_p2, z_k, List.headD, List.tail]
      refine z_iconst hX (0) d0_wholeOf_75 (by decide) ?_
      refine z_istore hX (by decide) d0_wholeOf_76 ?_
      dsimp only [z_p1, z_p2, z_k, List.headD, List.tail]
      exact l3 _ _ hn 0 (by omega)
    | succ k ih =>
      intro i hi
      refine z_iload hX d0_wholeOf_37 rfl ?_
      refine z_bipush hX (13) d0_wholeOf_39 (by decide) ?_
      refine z_icmp_ge hX 65 d0_wholeOf_41 (by decide) (fun h41 => ?_) (fun h41 => ?_)
      · exact absurd h41 (nI_ge (b := 13) (by omega) (by decide))
      refine z_lload hX d0_wholeOf_44 rfl ?_
      refine z_aload_n hX d0_wholeOf_46 rfl ?_
      refine z_get hX lf_0_16 (hM _ _ rfl) rfl d0_wholeOf_47 ?_
      refine z_iload_n hX d0_wholeOf_50 rfl ?_
      refine z_aaldA hX (hM _ _ rfl) (vp_in_nI p1 (by decide)) (zA_el p1) d0_wholeOf_51 ?_
      refine z_iload hX d0_wholeOf_52 rfl ?_
      refine z_iald hX (hM _ _ (zA_mo p1)) (vp_in_nI (by omega) (by decide)) d0_wholeOf_54 ?_
      rw [nI_clamp (show i < 2 ^ 31 by omega)]
      refine z_i2l hX d0_wholeOf_55 ?_
      refine z_ladd hX d0_wholeOf_56 ?_
      refine z_lstore hX (by decide) d0_wholeOf_57 ?_
      dsimp only [z_p1, z_p2, z_k, List.headD, List.tail]
      refine z_iinc hX (1) (by decide) rfl (by decide) d0_wholeOf_59 ?_
      dsimp only [z_p1, z_p2, z_k, List.headD, List.tail]
      refine z_goto hX 37 d0_wholeOf_62 (by decide) ?_
      rw [nI_1]
      exact ih (i + 1) (by omega)
  have l1 : ∀ (k i : Nat), i + k = 7 → z_W X 5 [some (.ref 2), some (.int (nI s)), some (.long (zS (fun i => (wd s i).toInt64) i)), none, some (.int (nI i)), none, none, none, none, none, none, none] [] P nx 0 0 := by
    intro k
    induction k with
    | zero =>
      intro i hi
      have hi : i = 7 := by omega
      subst hi
      refine z_iload hX d0_wholeOf_5 rfl ?_
      refine z_bipush hX (7) d0_wholeOf_7 (by decide) ?_
      refine z_icmp_ge hX 31 d0_wholeOf_9 (by decide) (fun h9 => ?_) (fun h9 => ?_)
      rotate_left
      · exact absurd (by decide) h9
      refine z_lconst hX 0 d0_wholeOf_31 (by decide) ?_
      refine z_lstore hX (by decide) d0_wholeOf_32 ?_
      dsimp only [z_p1, z_p2, z_k, List.headD, List.tail]
      refine z_iconst hX (0) d0_wholeOf_34 (by decide) ?_
      refine z_istore hX (by decide) d0_wholeOf_35 ?_
      dsimp only [z_p1, z_p2, z_k, List.headD, List.tail]
      exact l2 13 0 (by omega)
    | succ k ih =>
      intro i hi
      refine z_iload hX d0_wholeOf_5 rfl ?_
      refine z_bipush hX (7) d0_wholeOf_7 (by decide) ?_
      refine z_icmp_ge hX 31 d0_wholeOf_9 (by decide) (fun h9 => ?_) (fun h9 => ?_)
      · exact absurd h9 (nI_ge (b := 7) (by omega) (by decide))
      refine z_lload_n hX d0_wholeOf_12 rfl ?_
      refine z_aload_n hX d0_wholeOf_13 rfl ?_
      refine z_get hX lf_0_11 (hM _ _ rfl) rfl d0_wholeOf_14 ?_
      refine z_iload_n hX d0_wholeOf_17 rfl ?_
      refine z_aaldA hX (hM _ _ rfl) (vp_in_nI p1 (by decide)) (zA_el p1) d0_wholeOf_18 ?_
      refine z_iload hX d0_wholeOf_19 rfl ?_
      refine z_iald hX (hM _ _ (zA_wd p1)) (vp_in_nI (by omega) (by decide)) d0_wholeOf_21 ?_
      rw [nI_clamp (show i < 2 ^ 31 by omega)]
      refine z_i2l hX d0_wholeOf_22 ?_
      refine z_ladd hX d0_wholeOf_23 ?_
      refine z_lstore_n hX 2 rfl (by decide) d0_wholeOf_24 ?_
      dsimp only [z_p1, z_p2, z_k, List.headD, List.tail]
      refine z_iinc hX (1) (by decide) rfl (by decide) d0_wholeOf_25 ?_
      dsimp only [z_p1, z_p2, z_k, List.headD, List.tail]
      refine z_goto hX 5 d0_wholeOf_28 (by decide) ?_
      rw [nI_1]
      exact ih (i + 1) (by omega)
  refine z_lconst hX 0 d0_wholeOf_0 (by decide) ?_
  refine z_lstore_n hX 2 rfl (by decide) d0_wholeOf_1 ?_
  dsimp only [z_p1, z_p2, z_k, List.headD, List.tail]
  refine z_iconst hX (0) d0_wholeOf_2 (by decide) ?_
  refine z_istore hX (by decide) d0_wholeOf_3 ?_
  dsimp only [z_p1, z_p2, z_k, List.headD, List.tail]
  exact l1 7 0 (by omega)
/-- stores into the almanac -/
theorem zA_swd {wd mo : Nat → Nat → Int32} {h : Nat → Bool} {hl : Nat → Int32} {hn s : Nat} {f : Nat → Int32} {P : z_H} (hs : s < 4) (q : z_in (z_up (zA wd mo h hl hn) (3 + 1 + s) (.inl (0, 7, .inl f))) P) : z_in (zA (va_up wd s f) mo h hl hn) P := by
  intro k c hk
  refine q k c ?_
  rw [← hk]
  obtain ⟨h1, h2⟩ := zA_dom hk
  rcases (show s = 0 ∨ s = 1 ∨ s = 2 ∨ s = 3 by omega) with e | e | e | e <;> subst e <;> (rcases (show k = 2 ∨ k = 3 ∨ k = 4 ∨ k = 5 ∨ k = 6 ∨ k = 7 ∨ k = 8 ∨ k = 9 ∨ k = 10 ∨ k = 11 ∨ k = 12 ∨ k = 13 ∨ k = 14 by omega) with e | e | e | e | e | e | e | e | e | e | e | e | e <;> subst e <;> rfl)
theorem zA_smo {wd mo : Nat → Nat → Int32} {h : Nat → Bool} {hl : Nat → Int32} {hn s : Nat} {f : Nat → Int32} {P : z_H} (hs : s < 4) (q : z_in (z_up (zA wd mo h hl hn) (8 + 1 + s) (.inl (0, 13, .inl f))) P) : z_in (zA wd (va_up mo s f) h hl hn) P := by
  intro k c hk
  refine q k c ?_
  rw [← hk]
  obtain ⟨h1, h2⟩ := zA_dom hk
  rcases (show s = 0 ∨ s = 1 ∨ s = 2 ∨ s = 3 by omega) with e | e | e | e <;> subst e <;> (rcases (show k = 2 ∨ k = 3 ∨ k = 4 ∨ k = 5 ∨ k = 6 ∨ k = 7 ∨ k = 8 ∨ k = 9 ∨ k = 10 ∨ k = 11 ∨ k = 12 ∨ k = 13 ∨ k = 14 by omega) with e | e | e | e | e | e | e | e | e | e | e | e | e <;> subst e <;> rfl)
theorem zA_sh {wd mo : Nat → Nat → Int32} {h : Nat → Bool} {hl : Nat → Int32} {hn i : Nat} {b : Bool} {f : Nat → Int32} {P : z_H} (q : z_in (z_up (zA wd mo h hl hn) 13 (.inl (3, 364, .inl f))) P) (hf : f = fun j => zb (va_up h i b j)) : z_in (zA wd mo (va_up h i b) hl hn) P := by
  subst hf
  intro k c hk
  refine q k c ?_
  rw [← hk]
  obtain ⟨h1, h2⟩ := zA_dom hk
  rcases (show k = 2 ∨ k = 3 ∨ k = 4 ∨ k = 5 ∨ k = 6 ∨ k = 7 ∨ k = 8 ∨ k = 9 ∨ k = 10 ∨ k = 11 ∨ k = 12 ∨ k = 13 ∨ k = 14 by omega) with e | e | e | e | e | e | e | e | e | e | e | e | e <;> subst e <;> rfl
theorem zA_sl {wd mo : Nat → Nat → Int32} {h : Nat → Bool} {hl f : Nat → Int32} {hn : Nat} {P : z_H} (q : z_in (z_up (zA wd mo h hl hn) 14 (.inl (0, 20, .inl f))) P) : z_in (zA wd mo h f hn) P := by
  intro k c hk
  refine q k c ?_
  rw [← hk]
  obtain ⟨h1, h2⟩ := zA_dom hk
  rcases (show k = 2 ∨ k = 3 ∨ k = 4 ∨ k = 5 ∨ k = 6 ∨ k = 7 ∨ k = 8 ∨ k = 9 ∨ k = 10 ∨ k = 11 ∨ k = 12 ∨ k = 13 ∨ k = 14 by omega) with e | e | e | e | e | e | e | e | e | e | e | e | e <;> subst e <;> rfl
theorem zA_sn {wd mo : Nat → Nat → Int32} {h : Nat → Bool} {hl : Nat → Int32} {hn m : Nat} {P : z_H} (q : z_in (z_up (zA wd mo h hl hn) 2 (.inr (0, [.ref 3, .ref 8, .ref 13, .ref 14, .int (nI m)]))) P) : z_in (zA wd mo h hl m) P := by
  intro k c hk
  refine q k c ?_
  rw [← hk]
  obtain ⟨h1, h2⟩ := zA_dom hk
  rcases (show k = 2 ∨ k = 3 ∨ k = 4 ∨ k = 5 ∨ k = 6 ∨ k = 7 ∨ k = 8 ∨ k = 9 ∨ k = 10 ∨ k = 11 ∨ k = 12 ∨ k = 13 ∨ k = 14 by omega) with e | e | e | e | e | e | e | e | e | e | e | e | e <;> subst e <;> rfl
def zDa (j : Nat) : Bool := Nat.ble 2 j && Nat.ble j 14
theorem zDa_t {k : Nat} (h1 : 2 ≤ k) (h2 : k ≤ 14) : zDa k = true := by
  unfold zDa
  rw [Nat.ble_eq.mpr h1, Nat.ble_eq.mpr h2]
  rfl
def S0_weighWeekday : z_PT := fun as P nx K => ∃ (wd mo : Nat → Nat → Int32) (h : Nat → Bool) (hl : Nat → Int32) (hn s d : Nat) (w : Int32), as = [.ref 2, .int (nI s), .int (nI d), .int w] ∧ z_in (zA wd mo h hl hn) P ∧ s < 4 ∧ d < 7 ∧ ∀ P' : z_H, z_in (zA (va_up wd s (upd (wd s) d w)) mo h hl hn) P' → z_out zDa P P' → K none P' nx
theorem sp0_weighWeekday (l : Launch) : z_Sp l M0_weighWeekday rM0_weighWeekday S0_weighWeekday := by
  refine z_enter (by decide) (fun as P nx K h => ?_) (fun X K as P nx hX hE hin0 hS => ?_)
  · obtain ⟨wd, mo, h, hl, hn, s, d, w, rfl, -⟩ := h
    exact Nat.le_of_ble_eq_true rfl
  obtain ⟨wd, mo, h, hl, hn, s, d, w, rfl, hM, p1, p2, hK⟩ := hS
  show z_W X 0 [some (.ref 2), some (.int (nI s)), some (.int (nI d)), some (.int w)] [] P nx 0 0
  refine z_aload_n hX d0_weighWeekday_0 rfl ?_
  refine z_get hX lf_0_11 (hM _ _ rfl) rfl d0_weighWeekday_1 ?_
  refine z_iload_n hX d0_weighWeekday_4 rfl ?_
  refine z_aaldA hX (hM _ _ rfl) (vp_in_nI p1 (by decide)) (zA_el p1) d0_weighWeekday_5 ?_
  refine z_iload_n hX d0_weighWeekday_6 rfl ?_
  refine z_iload_n hX d0_weighWeekday_7 rfl ?_
  refine z_iast hX (hM _ _ (zA_wd p1)) (vp_in_nI p2 (by decide)) d0_weighWeekday_8 ?_
  rw [nI_clamp (show d < 2 ^ 31 by omega)]
  refine z_gen hM z_out.rf (zDa_t (by omega) (by omega)) (fun P hM hO => ?_)
  have hM := zA_swd p1 hM
  refine z_vret hX hE (by decide) (by decide) d0_weighWeekday_9 ?_
  exact hK P hM hO
def S0_weighMonth : z_PT := fun as P nx K => ∃ (wd mo : Nat → Nat → Int32) (h : Nat → Bool) (hl : Nat → Int32) (hn s d : Nat) (w : Int32), as = [.ref 2, .int (nI s), .int (nI d), .int w] ∧ z_in (zA wd mo h hl hn) P ∧ s < 4 ∧ d < 13 ∧ ∀ P' : z_H, z_in (zA wd (va_up mo s (upd (mo s) d w)) h hl hn) P' → z_out zDa P P' → K none P' nx
theorem sp0_weighMonth (l : Launch) : z_Sp l M0_weighMonth rM0_weighMonth S0_weighMonth := by
  refine z_enter (by decide) (fun as P nx K h => ?_) (fun X K as P nx hX hE hin0 hS => ?_)
  · obtain ⟨wd, mo, h, hl, hn, s, d, w, rfl, -⟩ := h
    exact Nat.le_of_ble_eq_true rfl
  obtain ⟨wd, mo, h, hl, hn, s, d, w, rfl, hM, p1, p2, hK⟩ := hS
  show z_W X 0 [some (.ref 2), some (.int (nI s)), some (.int (nI d)), some (.int w)] [] P nx 0 0
  refine z_aload_n hX d0_weighMonth_0 rfl ?_
  refine z_get hX lf_0_16 (hM _ _ rfl) rfl d0_weighMonth_1 ?_
  refine z_iload_n hX d0_weighMonth_4 rfl ?_
  refine z_aaldA hX (hM _ _ rfl) (vp_in_nI p1 (by decide)) (zA_el p1) d0_weighMonth_5 ?_
  refine z_iload_n hX d0_weighMonth_6 rfl ?_
  refine z_iload_n hX d0_weighMonth_7 rfl ?_
  refine z_iast hX (hM _ _ (zA_mo p1)) (vp_in_nI p2 (by decide)) d0_weighMonth_8 ?_
  rw [nI_clamp (show d < 2 ^ 31 by omega)]
  refine z_gen hM z_out.rf (zDa_t (by omega) (by omega)) (fun P hM hO => ?_)
  have hM := zA_smo p1 hM
  refine z_vret hX hE (by decide) (by decide) d0_weighMonth_9 ?_
  exact hK P hM hO
def S0_addHoliday : z_PT := fun as P nx K => ∃ (wd mo : Nat → Nat → Int32) (h : Nat → Bool) (hl : Nat → Int32) (hn d : Nat), as = [.ref 2, .int (nI d)] ∧ z_in (zA wd mo h hl hn) P ∧ hn ≤ 20 ∧ d < 364 ∧ (if !h d && decide (hn < 20) then (∀ P' : z_H, z_in (zA wd mo (va_up h d true) (upd hl hn (nI d)) (hn + 1)) P' → z_out zDa P P' → K (some (.int 1)) P' nx) else K (some (.int 0)) P nx)
theorem sp0_addHoliday (l : Launch) : z_Sp l M0_addHoliday rM0_addHoliday S0_addHoliday := by
  refine z_enter (by decide) (fun as P nx K h => ?_) (fun X K as P nx hX hE hin0 hS => ?_)
  · obtain ⟨wd, mo, h, hl, hn, d, rfl, -⟩ := h
    exact Nat.le_of_ble_eq_true rfl
  obtain ⟨wd, mo, h, hl, hn, d, rfl, hM, p1, p2, hK⟩ := hS
  show z_W X 0 [some (.ref 2), some (.int (nI d))] [] P nx 0 0
  have hO : z_out zDa P P := z_out.rf
  refine z_aload_n hX d0_addHoliday_0 rfl ?_
  refine z_get hX lf_0_19 (hM _ _ rfl) rfl d0_addHoliday_1 ?_
  refine z_iload_n hX d0_addHoliday_4 rfl ?_
  refine z_zald hX (hM _ _ rfl) (vp_in_nI p2 (by decide)) d0_addHoliday_5 ?_
  rw [nI_clamp (show d < 2 ^ 31 by omega)]
  refine z_ifb_ne hX 18 d0_addHoliday_6 (by decide) (fun h6 => ?_) (fun h6 => ?_)
  · skip
    rw [h6] at hK
    refine z_iconst hX (0) d0_addHoliday_18 (by decide) ?_
    refine z_zret hX hE (by decide) (by decide) (by decide) d0_addHoliday_19 ?_
    exact hK
  · skip
    rw [h6] at hK
    refine z_aload_n hX d0_addHoliday_9 rfl ?_
    refine z_get hX lf_0_27 (hM _ _ rfl) rfl d0_addHoliday_10 ?_
    refine z_bipush hX (20) d0_addHoliday_13 (by decide) ?_
    refine z_icmp_lt hX 20 d0_addHoliday_15 (by decide) (fun h15 => ?_) (fun h15 => ?_)
    · skip
      rw [i_lt, nI_toInt (by omega), show (20 : Int32).toInt = 20 from rfl] at h15
      rw [decide_eq_true (show hn < 20 by omega)] at hK
      refine z_aload_n hX d0_addHoliday_20 rfl ?_
      refine z_get hX lf_0_19 (hM _ _ rfl) rfl d0_addHoliday_21 ?_
      refine z_iload_n hX d0_addHoliday_24 rfl ?_
      refine z_iconst hX (1) d0_addHoliday_25 (by decide) ?_
      refine z_zast hX (hM _ _ rfl) (vp_in_nI p2 (by decide)) d0_addHoliday_26 ?_
      rw [nI_clamp (show d < 2 ^ 31 by omega)]
      refine z_gen hM hO rfl (fun P hM hO => ?_)
      have hM := zA_sh hM zHol
      refine z_aload_n hX d0_addHoliday_27 rfl ?_
      refine z_get hX lf_0_23 (hM _ _ rfl) rfl d0_addHoliday_28 ?_
      refine z_aload_n hX d0_addHoliday_31 rfl ?_
      refine z_get hX lf_0_27 (hM _ _ rfl) rfl d0_addHoliday_32 ?_
      refine z_iload_n hX d0_addHoliday_35 rfl ?_
      refine z_iast hX (hM _ _ rfl) (vp_in_nI (by omega) (by decide)) d0_addHoliday_36 ?_
      rw [nI_clamp (show hn < 2 ^ 31 by omega)]
      refine z_gen hM hO rfl (fun P hM hO => ?_)
      have hM := zA_sl hM
      refine z_aload_n hX d0_addHoliday_37 rfl ?_
      refine z_dup hX rfl d0_addHoliday_38 ?_
      refine z_get hX lf_0_27 (hM _ _ rfl) rfl d0_addHoliday_39 ?_
      refine z_iconst hX (1) d0_addHoliday_42 (by decide) ?_
      refine z_iadd hX d0_addHoliday_43 ?_
      rw [nI_1]
      refine z_puti hX lf_0_27 rfl rfl (hM _ _ rfl) (Nat.le_of_ble_eq_true rfl) d0_addHoliday_44 ?_
      refine z_gen hM hO rfl (fun P hM hO => ?_)
      have hM := zA_sn hM
      refine z_iconst hX (1) d0_addHoliday_47 (by decide) ?_
      refine z_zret hX hE (by decide) (by decide) (by decide) d0_addHoliday_48 ?_
      exact hK P hM hO
    · skip
      rw [i_lt, nI_toInt (by omega), show (20 : Int32).toInt = 20 from rfl] at h15
      rw [decide_eq_false (show ¬ hn < 20 by omega)] at hK
      refine z_iconst hX (0) d0_addHoliday_18 (by decide) ?_
      refine z_zret hX hE (by decide) (by decide) (by decide) d0_addHoliday_19 ?_
      exact hK
