/-! THE TEXT OF RULES, plainly: bytes tb, of which the first e are the text -/
def hr (tb : Nat → Nat) (e p : Nat) : Nat := if p < e then tb p else 0
def dg (tb : Nat → Nat) (e p : Nat) : Bool := decide (48 ≤ hr tb e p ∧ hr tb e p ≤ 57)
def nK (tb : Nat → Nat) (e s : Nat) : Nat := if dg tb e s = true then (if dg tb e (s + 1) = true then (if dg tb e (s + 2) = true then (if dg tb e (s + 3) = true then 4 else 3) else 2) else 1) else 0
def nV (tb : Nat → Nat) (e s : Nat) : Nat → Nat
  | 0 => 0
  | k + 1 => 10 * nV tb e s k + hr tb e (s + k) - 48
def nN (tb : Nat → Nat) (e s : Nat) : Nat := nV tb e s (nK tb e s)
def numF (tb : Nat → Nat) (e s lo : Nat) : Nat := if nK tb e s = 0 then 100 + s else if nK tb e s = 4 then 100 + (s + 3) else if nN tb e s < lo ∨ 255 < nN tb e s then 300 + s else 0
def spM (tb : Nat → Nat) (e s : Nat) : Nat := s + nK tb e s
def spF (tb : Nat → Nat) (e s : Nat) : Nat := if numF tb e s 0 ≠ 0 then numF tb e s 0 else if hr tb e (spM tb e s) ≠ 45 then 100 + spM tb e s else numF tb e (spM tb e s + 1) (nN tb e s)
def spP (tb : Nat → Nat) (e s : Nat) : Nat := spM tb e s + 1 + nK tb e (spM tb e s + 1)
def spA (tb : Nat → Nat) (e s : Nat) : Nat := nN tb e s
def spB (tb : Nat → Nat) (e s : Nat) : Nat := nN tb e (spM tb e s + 1)
/-- the sign before the span that comes next -/
def cp (tb : Nat → Nat) (e c : Nat) : Nat → Nat
  | 0 => c
  | j + 1 => spP tb e (cp tb e c j + 1)
def ssF (tb : Nat → Nat) (e : Nat) : Nat → Nat → Nat
  | 0, c => 100 + c
  | k + 1, c => if spF tb e (c + 1) ≠ 0 then spF tb e (c + 1) else if hr tb e (spP tb e (c + 1)) = 44 then ssF tb e k (spP tb e (c + 1)) else 0
def ssN (tb : Nat → Nat) (e : Nat) : Nat → Nat → Nat
  | 0, _ => 0
  | k + 1, c => if hr tb e (spP tb e (c + 1)) = 44 then ssN tb e k (spP tb e (c + 1)) + 1 else 1
def ssQ (tb : Nat → Nat) (e : Nat) : Nat → Nat → Nat
  | 0, c => c
  | k + 1, c => if hr tb e (spP tb e (c + 1)) = 44 then ssQ tb e k (spP tb e (c + 1)) else spP tb e (c + 1)
def clF (tb : Nat → Nat) (e p m : Nat) : Nat := if dg tb e p = false then 100 + p else if 9 ≤ m then 400 + p else if hr tb e p = 57 then 200 + p else if hr tb e (p + 1) ≠ 58 then 100 + (p + 1) else ssF tb e 4 (p + 1)
def clQ (tb : Nat → Nat) (e p : Nat) : Nat := ssQ tb e 4 (p + 1)
def rPos (tb : Nat → Nat) (e : Nat) : Nat → Nat
  | 0 => 0
  | m + 1 => clQ tb e (rPos tb e m) + 1
/-- behind a clause: the end, or a semicolon -/
def enF (tb : Nat → Nat) (e q : Nat) : Nat := if e ≤ q ∨ hr tb e q = 59 then 0 else 100 + q
def ruF (tb : Nat → Nat) (e : Nat) : Nat → Nat → Nat
  | 0, _ => 0
  | k + 1, m => if clF tb e (rPos tb e m) m ≠ 0 then clF tb e (rPos tb e m) m else if e ≤ clQ tb e (rPos tb e m) then 0 else if hr tb e (clQ tb e (rPos tb e m)) ≠ 59 then 100 + clQ tb e (rPos tb e m) else ruF tb e k (m + 1)
def ruN (tb : Nat → Nat) (e : Nat) : Nat → Nat → Nat
  | 0, m => m
  | k + 1, m => if e ≤ clQ tb e (rPos tb e m) then m + 1 else ruN tb e k (m + 1)
theorem hr_lt {tb : Nat → Nat} (h : ∀ i, tb i < 256) (e p : Nat) : hr tb e p < 256 := by
  unfold hr
  split
  · exact h p
  · decide
theorem hr_in {tb : Nat → Nat} {e p : Nat} (h : hr tb e p ≠ 0) : p < e := by
  unfold hr at h
  split at h
  · assumption
  · exact absurd rfl h
theorem dg_e {tb : Nat → Nat} {e p : Nat} : dg tb e p = true ↔ 48 ≤ hr tb e p ∧ hr tb e p ≤ 57 := decide_eq_true_iff
theorem dg_in {tb : Nat → Nat} {e p : Nat} (h : dg tb e p = true) : p < e := by
  rw [dg_e] at h
  exact hr_in (show hr tb e p ≠ 0 by omega)
theorem nK_le (tb : Nat → Nat) (e s : Nat) : nK tb e s ≤ 4 := by
  unfold nK
  repeat' split
  all_goals decide
theorem nK_of {tb : Nat → Nat} {e s i : Nat} (hi : i ≤ 3) (h : ∀ j, j < i → dg tb e (s + j) = true) (hn : dg tb e (s + i) = false) : nK tb e s = i := by
  rcases (show i = 0 ∨ i = 1 ∨ i = 2 ∨ i = 3 by omega) with r | r | r | r <;> subst r
  · simp [nK, show dg tb e s = false from hn]
  · simp [nK, show dg tb e s = true from h 0 (by omega), hn]
  · simp [nK, show dg tb e s = true from h 0 (by omega), h 1 (by omega), hn]
  · simp [nK, show dg tb e s = true from h 0 (by omega), h 1 (by omega), h 2 (by omega), hn]
theorem nK_4 {tb : Nat → Nat} {e s : Nat} (h : ∀ j, j < 4 → dg tb e (s + j) = true) : nK tb e s = 4 := by
  simp [nK, show dg tb e s = true from h 0 (by omega), h 1 (by omega), h 2 (by omega), h 3 (by omega)]
theorem nK_dg {tb : Nat → Nat} {e s : Nat} : ∀ j, j < nK tb e s → dg tb e (s + j) = true := by
  intro j hj
  unfold nK at hj
  by_cases h0 : dg tb e s = true
  · rw [if_pos h0] at hj
    by_cases h1 : dg tb e (s + 1) = true
    · rw [if_pos h1] at hj
      by_cases h2 : dg tb e (s + 2) = true
      · rw [if_pos h2] at hj
        by_cases h3 : dg tb e (s + 3) = true
        · rw [if_pos h3] at hj
          rcases (show j = 0 ∨ j = 1 ∨ j = 2 ∨ j = 3 by omega) with r | r | r | r <;> subst r <;> assumption
        · rw [if_neg h3] at hj
          rcases (show j = 0 ∨ j = 1 ∨ j = 2 by omega) with r | r | r <;> subst r <;> assumption
      · rw [if_neg h2] at hj
        rcases (show j = 0 ∨ j = 1 by omega) with r | r <;> subst r <;> assumption
    · rw [if_neg h1] at hj
      rcases (show j = 0 by omega) with r <;> subst r <;> assumption
  · rw [if_neg h0] at hj
    omega
theorem nV_lt {tb : Nat → Nat} (h : ∀ i, tb i < 256) (e s : Nat) : ∀ k, k ≤ 4 → nV tb e s k < 1000000 := by
  have h0 := hr_lt h e (s + 0)
  have h1 := hr_lt h e (s + 1)
  have h2 := hr_lt h e (s + 2)
  have h3 := hr_lt h e (s + 3)
  have e0 : nV tb e s 0 = 0 := rfl
  have e1 : nV tb e s 1 = 10 * nV tb e s 0 + hr tb e (s + 0) - 48 := rfl
  have e2 : nV tb e s 2 = 10 * nV tb e s 1 + hr tb e (s + 1) - 48 := rfl
  have e3 : nV tb e s 3 = 10 * nV tb e s 2 + hr tb e (s + 2) - 48 := rfl
  have e4 : nV tb e s 4 = 10 * nV tb e s 3 + hr tb e (s + 3) - 48 := rfl
  intro k hk
  rcases (show k = 0 ∨ k = 1 ∨ k = 2 ∨ k = 3 ∨ k = 4 by omega) with r | r | r | r | r <;> subst r <;> omega
/-- a number that is none's fault -/
theorem numF_0 {tb : Nat → Nat} {e s lo : Nat} (h : numF tb e s lo = 0) : 0 < nK tb e s ∧ nK tb e s ≤ 3 ∧ lo ≤ nN tb e s ∧ nN tb e s ≤ 255 ∧ s + nK tb e s ≤ e := by
  have h4 := nK_le tb e s
  unfold numF at h
  split at h
  · omega
  · split at h
    · omega
    · split at h
      · omega
      · have := dg_in (nK_dg (tb := tb) (e := e) (s := s) (nK tb e s - 1) (by omega))
        omega
theorem spF_0 {tb : Nat → Nat} {e s : Nat} (h : spF tb e s = 0) : numF tb e s 0 = 0 ∧ hr tb e (spM tb e s) = 45 ∧ numF tb e (spM tb e s + 1) (nN tb e s) = 0 ∧ spP tb e s ≤ e ∧ spA tb e s ≤ 255 ∧ spB tb e s ≤ 255 ∧ s < spP tb e s := by
  unfold spF at h
  split at h
  · exact absurd h (by assumption)
  · split at h
    · omega
    · rename_i h1 h2
      have a := numF_0 (Decidable.not_not.mp h1)
      have b := numF_0 h
      exact ⟨Decidable.not_not.mp h1, Decidable.not_not.mp h2, h, b.2.2.2.2, a.2.2.2.1, b.2.2.2.1, by unfold spP spM; omega⟩
/-! THE READER OF THE CLASS -/
def sg (tb : Nat → Nat) (e p : Nat) : Int32 := if p < e then nI (tb p) else -1
theorem sg_dg {tb : Nat → Nat} (h : ∀ i, tb i < 256) (e p : Nat) : decide (48 ≤ (sg tb e p).toInt ∧ (sg tb e p).toInt ≤ 57) = dg tb e p := by
  have := h p
  unfold sg dg hr
  split
  · rw [nI_toInt (by omega)]
    exact decide_eq_decide.mpr (by omega)
  · rfl
theorem sg_eq {tb : Nat → Nat} (h : ∀ i, tb i < 256) (e p c : Nat) (h0 : 0 < c) (hc : c < 256) : sg tb e p = nI c ↔ hr tb e p = c := by
  have := h p
  unfold sg hr
  split
  · rw [nI_eq (by omega) (by omega)]
  · constructor
    · intro q
      have q := congrArg Int32.toInt q
      rw [nI_toInt (by omega), show (-1 : Int32).toInt = -1 from rfl] at q
      omega
    · intro q
      omega
theorem sg_hr {tb : Nat → Nat} {e p : Nat} (h : dg tb e p = true) : sg tb e p = nI (hr tb e p) := by
  have := dg_in h
  unfold sg hr
  rw [if_pos this, if_pos this]
def S5_sign : z_PT := fun as P nx K => ∃ (tb : Nat → Nat) (tl e p x : Nat), as = [.ref 23] ∧ (z_in (zT tb tl e p x) P) ∧ (tl ≤ 120) ∧ (e ≤ tl) ∧ (p < 2 ^ 30) ∧ K (some (.int (sg tb e p))) P nx
set_option maxRecDepth 4000 in
theorem sp5_sign (l : Launch) : z_Sp l M5_sign rM5_sign S5_sign := by
  refine z_enter (by decide) (fun as P nx K h => ?_) (fun X K as P nx hX hE hin0 hS => ?_)
  · obtain ⟨tb, tl, e, p, x, rfl, -⟩ := h
    exact Nat.le_of_ble_eq_true rfl
  obtain ⟨tb, tl, e, p, x, rfl, p1, p2, p3, p4, hK⟩ := hS
  show z_W X 0 [some (.ref 23)] [] P nx 0 0
  have hM := p1
  unfold sg at hK
  refine z_aload_n hX d5_sign_0 rfl ?_
  refine z_get hX lf_5_19 (hM _ _ rfl) rfl d5_sign_1 ?_
  refine z_aload_n hX d5_sign_4 rfl ?_
  refine z_get hX lf_5_15 (hM _ _ rfl) rfl d5_sign_5 ?_
  refine z_icmp_ge hX 25 d5_sign_8 (by decide) (fun h8 => ?_) (fun h8 => ?_)
  · skip
    rw [nI_leI (by omega) (by omega)] at h8
    rw [if_neg (by omega)] at hK
    refine z_iconst hX (-1) d5_sign_25 (by decide) ?_
    refine z_iret hX hE (by decide) (by decide) d5_sign_26 ?_
    exact hK
  · skip
    rw [nI_leI (by omega) (by omega)] at h8
    rw [if_pos (by omega)] at hK
    refine z_aload_n hX d5_sign_11 rfl ?_
    refine z_get hX lf_5_9 (hM _ _ rfl) rfl d5_sign_12 ?_
    refine z_aload_n hX d5_sign_15 rfl ?_
    refine z_get hX lf_5_19 (hM _ _ rfl) rfl d5_sign_16 ?_
    refine z_callV1 hX (sp6_at l) lm_5_60 (hM _ _ rfl) ⟨by decide, by decide, by decide, by decide⟩ (Nat.le_of_ble_eq_true rfl) d5_sign_19 ?_
    refine ⟨tb, tl, e, p, x, p, rfl, hM, p2, by omega, ?_⟩
    rw [if_pos (show p < tl by omega)]
    dsimp only [Option.toList, List.cons_append, List.nil_append]
    refine z_goto hX 26 d5_sign_22 (by decide) ?_
    refine z_iret hX hE (by decide) (by decide) d5_sign_26 ?_
    exact hK
def S5_isDigit : z_PT := fun as P nx K => ∃ (s : Int32), as = [.int s] ∧ (True) ∧ K (some (.int (zb (decide (48 ≤ s.toInt ∧ s.toInt ≤ 57))))) P nx
set_option maxRecDepth 4000 in
theorem sp5_isDigit (l : Launch) : z_Sp l M5_isDigit rM5_isDigit S5_isDigit := by
  refine z_enter (by decide) (fun as P nx K h => ?_) (fun X K as P nx hX hE hin0 hS => ?_)
  · obtain ⟨s, rfl, -⟩ := h
    exact Nat.le_of_ble_eq_true rfl
  obtain ⟨s, rfl, p1, hK⟩ := hS
  show z_W X 0 [some (.int s)] [] P nx 0 0
  refine z_iload_n hX d5_isDigit_0 rfl ?_
  refine z_bipush hX (48) d5_isDigit_1 (by decide) ?_
  refine z_icmp_lt hX 16 d5_isDigit_3 (by decide) (fun h3 => ?_) (fun h3 => ?_)
  · skip
    rw [i_lt, show (48 : Int32).toInt = 48 from rfl] at h3
    refine z_iconst hX (0) d5_isDigit_16 (by decide) ?_
    refine z_zret hX hE (by decide) (by decide) (by decide) d5_isDigit_17 ?_
    first | exact zK0 hK (decide_eq_false (by omega)) | exact zK1 hK (decide_eq_true (by omega))
  · skip
    rw [i_lt, show (48 : Int32).toInt = 48 from rfl] at h3
    refine z_iload_n hX d5_isDigit_6 rfl ?_
    refine z_bipush hX (57) d5_isDigit_7 (by decide) ?_
    refine z_icmp_gt hX 16 d5_isDigit_9 (by decide) (fun h9 => ?_) (fun h9 => ?_)
    · skip
      rw [i_lt, show (57 : Int32).toInt = 57 from rfl] at h9
      refine z_iconst hX (0) d5_isDigit_16 (by decide) ?_
      refine z_zret hX hE (by decide) (by decide) (by decide) d5_isDigit_17 ?_
      first | exact zK0 hK (decide_eq_false (by omega)) | exact zK1 hK (decide_eq_true (by omega))
    · skip
      rw [i_lt, show (57 : Int32).toInt = 57 from rfl] at h9
      refine z_iconst hX (1) d5_isDigit_12 (by decide) ?_
      refine z_goto hX 17 d5_isDigit_13 (by decide) ?_
      refine z_zret hX hE (by decide) (by decide) (by decide) d5_isDigit_17 ?_
      first | exact zK0 hK (decide_eq_false (by omega)) | exact zK1 hK (decide_eq_true (by omega))
def zDt (j : Nat) : Bool := zDr 21 23 j
def S5_readNumber : z_PT := fun as P nx K => ∃ (tb : Nat → Nat) (tl e s x lo : Nat), as = [.ref 23, .int (nI lo)] ∧ z_in (zT tb tl e s x) P ∧ tl ≤ 120 ∧ e ≤ tl ∧ s < 1000 ∧ lo < 1000 ∧ (∀ i, tb i < 256) ∧ ∀ (p' x' : Nat) (P' : z_H), (numF tb e s lo = 0 → p' = s + nK tb e s ∧ x' = nN tb e s) → z_in (zT tb tl e p' x') P' → z_out (zDr 21 23) P P' → K (some (.int (nI (numF tb e s lo)))) P' nx
theorem sp5_readNumber (l : Launch) : z_Sp l M5_readNumber rM5_readNumber S5_readNumber := by
  refine z_enter (by decide) (fun as P nx K h => ?_) (fun X K as P nx hX hE hin0 hS => ?_)
  · obtain ⟨tb, tl, e, s, x, lo, rfl, -⟩ := h
    exact Nat.le_of_ble_eq_true rfl
  obtain ⟨tb, tl, e, s, x, lo, rfl, hM, p2, p3, p4, p5, p6, hK⟩ := hS
  refine z_pad 1 ?_
  show z_W X 0 [some (.ref 23), some (.int (nI lo)), none] [] P nx 0 0
  obtain ⟨P0, hP0⟩ : ∃ P0, P0 = P := ⟨_, rfl⟩
  rw [← hP0] at hK
  have hO : z_out (zDr 21 23) P0 P := by rw [hP0]; exact z_out.rf
  have fin : ∀ (i : Nat) (P : z_H), i ≤ 3 → (∀ j, j < i → dg tb e (s + j) = true) → (i = 3 ∨ dg tb e (s + i) = false) → z_in (zT tb tl e (s + i) (nV tb e s i)) P → z_out (zDr 21 23) P0 P → z_W X 62 [some (.ref 23), some (.int (nI lo)), some (.int (nI s))] [] P nx 0 0 := by
    intro i P hi hd h3 hM hO
    refine z_aload_n hX d5_readNumber_62 rfl ?_
    refine z_get hX lf_5_19 (hM _ _ rfl) rfl d5_readNumber_63 ?_
    refine z_iload_n hX d5_readNumber_66 rfl ?_
    refine z_icmp_eq hX 80 d5_readNumber_67 (by decide) (fun h67 => ?_) (fun h67 => ?_)
    · skip
      rw [nI_eq (by omega) (by omega)] at h67
      have hk : nK tb e s = 0 := nK_of (i := 0) (by omega) (fun j hj => absurd hj (Nat.not_lt_zero j)) (by rcases h3 with h3 | h3; omega; rw [show i = 0 by omega] at h3; exact h3)
      refine z_bipush hX (100) d5_readNumber_80 (by decide) ?_
      refine z_aload_n hX d5_readNumber_82 rfl ?_
      refine z_get hX lf_5_19 (hM _ _ rfl) rfl d5_readNumber_83 ?_
      refine z_iadd hX d5_readNumber_86 ?_
      refine z_iret hX hE (by decide) (by decide) d5_readNumber_87 ?_
      rw [show (100 : Int32) = nI 100 from rfl, nI_add]
      have hf : numF tb e s lo = 100 + (s + i) := by unfold numF; rw [hk]; simp; try omega
      rw [hf] at hK
      exact hK _ _ P (fun q => absurd q (by omega)) hM hO
    · skip
      rw [nI_eq (by omega) (by omega)] at h67
      refine z_aload_n hX d5_readNumber_70 rfl ?_
      refine z_callV0 hX (sp5_sign l) lm_5_31 (hM _ _ rfl) ⟨by decide, by decide, by decide, by decide⟩ (Nat.le_of_ble_eq_true rfl) d5_readNumber_71 ?_
      refine ⟨tb, tl, e, s + i, _, rfl, hM, p2, p3, by omega, ?_⟩
      dsimp only [Option.toList, List.cons_append, List.nil_append]
      refine z_callS1 hX (sp5_isDigit l) lm_5_35 ⟨by decide, by decide, by decide, by decide⟩ (Nat.le_of_ble_eq_true rfl) d5_readNumber_74 ?_
      refine ⟨_, rfl, trivial, ?_⟩
      rw [sg_dg p6]
      dsimp only [Option.toList, List.cons_append, List.nil_append]
      refine z_ifb_eq hX 88 d5_readNumber_77 (by decide) (fun h77 => ?_) (fun h77 => ?_)
      · skip
        have hk : nK tb e s = i := nK_of hi hd h77
        have hv := nV_lt p6 e s i (by omega)
        refine z_aload_n hX d5_readNumber_88 rfl ?_
        refine z_get hX lf_5_53 (hM _ _ rfl) rfl d5_readNumber_89 ?_
        refine z_iload_n hX d5_readNumber_92 rfl ?_
        refine z_icmp_lt hX 106 d5_readNumber_93 (by decide) (fun h93 => ?_) (fun h93 => ?_)
        · skip
          rw [i_lt, nI_toInt (by omega), nI_toInt (by omega)] at h93
          refine z_sipush hX (300) d5_readNumber_106 (by decide) ?_
          refine z_iload_n hX d5_readNumber_109 rfl ?_
          refine z_iadd hX d5_readNumber_110 ?_
          refine z_goto hX 115 d5_readNumber_111 (by decide) ?_
          refine z_iret hX hE (by decide) (by decide) d5_readNumber_115 ?_
          first
            | (have hf : numF tb e s lo = 0 := by unfold numF nN; rw [hk, if_neg (by omega), if_neg (by omega), if_neg (by omega)]
               rw [hf] at hK
               exact hK _ _ P (fun _ => ⟨by rw [hk], by unfold nN; rw [hk]⟩) hM hO)
            | (have hf : numF tb e s lo = 300 + s := by unfold numF nN; rw [hk, if_neg (by omega), if_neg (by omega), if_pos (by omega)]
               rw [show (300 : Int32) = nI 300 from rfl, nI_add]
               rw [hf] at hK
               exact hK _ _ P (fun q => absurd q (by omega)) hM hO)
        · skip
          rw [i_lt, nI_toInt (by omega), nI_toInt (by omega)] at h93
          refine z_aload_n hX d5_readNumber_96 rfl ?_
          refine z_get hX lf_5_53 (hM _ _ rfl) rfl d5_readNumber_97 ?_
          refine z_sipush hX (255) d5_readNumber_100 (by decide) ?_
          refine z_icmp_le hX 114 d5_readNumber_103 (by decide) (fun h103 => ?_) (fun h103 => ?_)
          · skip
            rw [i_le, nI_toInt (by omega), show (255 : Int32).toInt = 255 from rfl] at h103
            refine z_iconst hX (0) d5_readNumber_114 (by decide) ?_
            refine z_iret hX hE (by decide) (by decide) d5_readNumber_115 ?_
            first
              | (have hf : numF tb e s lo = 0 := by unfold numF nN; rw [hk, if_neg (by omega), if_neg (by omega), if_neg (by omega)]
                 rw [hf] at hK
                 exact hK _ _ P (fun _ => ⟨by rw [hk], by unfold nN; rw [hk]⟩) hM hO)
              | (have hf : numF tb e s lo = 300 + s := by unfold numF nN; rw [hk, if_neg (by omega), if_neg (by omega), if_pos (by omega)]
                 rw [show (300 : Int32) = nI 300 from rfl, nI_add]
                 rw [hf] at hK
                 exact hK _ _ P (fun q => absurd q (by omega)) hM hO)
          · skip
            rw [i_le, nI_toInt (by omega), show (255 : Int32).toInt = 255 from rfl] at h103
            refine z_sipush hX (300) d5_readNumber_106 (by decide) ?_
            refine z_iload_n hX d5_readNumber_109 rfl ?_
            refine z_iadd hX d5_readNumber_110 ?_
            refine z_goto hX 115 d5_readNumber_111 (by decide) ?_
            refine z_iret hX hE (by decide) (by decide) d5_readNumber_115 ?_
            first
              | (have hf : numF tb e s lo = 0 := by unfold numF nN; rw [hk, if_neg (by omega), if_neg (by omega), if_neg (by omega)]
                 rw [hf] at hK
                 exact hK _ _ P (fun _ => ⟨by rw [hk], by unfold nN; rw [hk]⟩) hM hO)
              | (have hf : numF tb e s lo = 300 + s := by unfold numF nN; rw [hk, if_neg (by omega), if_neg (by omega), if_pos (by omega)]
                 rw [show (300 : Int32) = nI 300 from rfl, nI_add]
                 rw [hf] at hK
                 exact hK _ _ P (fun q => absurd q (by omega)) hM hO)
      · skip
        have h3 : i = 3 := by
          rcases h3 with h3 | h3
          · exact h3
          · rw [h3] at h77; cases h77
        have hk : nK tb e s = 4 := nK_4 (fun j hj => by by_cases r : j = 3; rw [r, ← h3]; exact h77; exact hd j (by omega))
        refine z_bipush hX (100) d5_readNumber_80 (by decide) ?_
        refine z_aload_n hX d5_readNumber_82 rfl ?_
        refine z_get hX lf_5_19 (hM _ _ rfl) rfl d5_readNumber_83 ?_
        refine z_iadd hX d5_readNumber_86 ?_
        refine z_iret hX hE (by decide) (by decide) d5_readNumber_87 ?_
        rw [show (100 : Int32) = nI 100 from rfl, nI_add]
        have hf : numF tb e s lo = 100 + (s + i) := by unfold numF; rw [hk]; simp; try omega
        rw [hf] at hK
        exact hK _ _ P (fun q => absurd q (by omega)) hM hO
  have loop : ∀ (k i : Nat) (P : z_H), i + k = 3 → (∀ j, j < i → dg tb e (s + j) = true) → z_in (zT tb tl e (s + i) (nV tb e s i)) P → z_out (zDr 21 23) P0 P → z_W X 10 [some (.ref 23), some (.int (nI lo)), some (.int (nI s))] [] P nx 0 0 := by
    intro k
    induction k with
    | zero =>
      intro i P hi hd hM hO
      refine z_aload_n hX d5_readNumber_10 rfl ?_
      refine z_get hX lf_5_19 (hM _ _ rfl) rfl d5_readNumber_11 ?_
      refine z_iload_n hX d5_readNumber_14 rfl ?_
      refine z_iconst hX (3) d5_readNumber_15 (by decide) ?_
      refine z_iadd hX d5_readNumber_16 ?_
      rw [show nI s + 3 = nI (s + 3) from nI_add s 3]
      refine z_icmp_ge hX 62 d5_readNumber_17 (by decide) (fun h17 => ?_) (fun h17 => ?_)
      rotate_left
      · exact absurd ((nI_leI (by omega) (by omega)).mpr (by omega)) h17
      exact fin i P (by omega) hd (Or.inl (by omega)) hM hO
    | succ k ih =>
      intro i P hi hd hM hO
      refine z_aload_n hX d5_readNumber_10 rfl ?_
      refine z_get hX lf_5_19 (hM _ _ rfl) rfl d5_readNumber_11 ?_
      refine z_iload_n hX d5_readNumber_14 rfl ?_
      refine z_iconst hX (3) d5_readNumber_15 (by decide) ?_
      refine z_iadd hX d5_readNumber_16 ?_
      rw [show nI s + 3 = nI (s + 3) from nI_add s 3]
      refine z_icmp_ge hX 62 d5_readNumber_17 (by decide) (fun h17 => ?_) (fun h17 => ?_)
      · skip
        rw [nI_leI (by omega) (by omega)] at h17
        exact fin i P (by omega) hd (Or.inl (by omega)) hM hO
      · skip
        rw [nI_leI (by omega) (by omega)] at h17
        refine z_aload_n hX d5_readNumber_20 rfl ?_
        refine z_callV0 hX (sp5_sign l) lm_5_31 (hM _ _ rfl) ⟨by decide, by decide, by decide, by decide⟩ (Nat.le_of_ble_eq_true rfl) d5_readNumber_21 ?_
        refine ⟨tb, tl, e, s + i, _, rfl, hM, p2, p3, by omega, ?_⟩
        dsimp only [Option.toList, List.cons_append, List.nil_append]
        refine z_callS1 hX (sp5_isDigit l) lm_5_35 ⟨by decide, by decide, by decide, by decide⟩ (Nat.le_of_ble_eq_true rfl) d5_readNumber_24 ?_
        refine ⟨_, rfl, trivial, ?_⟩
        rw [sg_dg p6]
        dsimp only [Option.toList, List.cons_append, List.nil_append]
        refine z_ifb_eq hX 62 d5_readNumber_27 (by decide) (fun h27 => ?_) (fun h27 => ?_)
        · skip
          exact fin i P (by omega) hd (Or.inr h27) hM hO
        · skip
          refine z_aload_n hX d5_readNumber_30 rfl ?_
          refine z_bipush hX (10) d5_readNumber_31 (by decide) ?_
          refine z_aload_n hX d5_readNumber_33 rfl ?_
          refine z_get hX lf_5_53 (hM _ _ rfl) rfl d5_readNumber_34 ?_
          refine z_imul hX d5_readNumber_37 ?_
          refine z_aload_n hX d5_readNumber_38 rfl ?_
          refine z_callV0 hX (sp5_sign l) lm_5_31 (hM _ _ rfl) ⟨by decide, by decide, by decide, by decide⟩ (Nat.le_of_ble_eq_true rfl) d5_readNumber_39 ?_
          refine ⟨tb, tl, e, s + i, _, rfl, hM, p2, p3, by omega, ?_⟩
          dsimp only [Option.toList, List.cons_append, List.nil_append]
          refine z_iadd hX d5_readNumber_42 ?_
          refine z_bipush hX (48) d5_readNumber_43 (by decide) ?_
          refine z_isub hX d5_readNumber_45 ?_
          have hg := dg_e.mp h27
          rw [sg_hr h27, show (10 : Int32) = nI 10 from rfl, pk_mul, nI_add, show (48 : Int32) = nI 48 from rfl, pk_sub (by omega)]
          refine z_puti hX lf_5_53 rfl rfl (hM _ _ rfl) (Nat.le_of_ble_eq_true rfl) d5_readNumber_46 ?_
          refine z_gen hM hO rfl (fun P hM hO => ?_)
          have hM := zT_s23 (x2 := nV tb e s (i + 1)) hM
          refine z_aload_n hX d5_readNumber_49 rfl ?_
          refine z_dup hX rfl d5_readNumber_50 ?_
          refine z_get hX lf_5_19 (hM _ _ rfl) rfl d5_readNumber_51 ?_
          refine z_iconst hX (1) d5_readNumber_54 (by decide) ?_
          refine z_iadd hX d5_readNumber_55 ?_
          rw [nI_1]
          refine z_puti hX lf_5_19 rfl rfl (hM _ _ rfl) (Nat.le_of_ble_eq_true rfl) d5_readNumber_56 ?_
          refine z_gen hM hO rfl (fun P hM hO => ?_)
          have hM := zT_s23 hM
          refine z_goto hX 10 d5_readNumber_59 (by decide) ?_
          refine ih (i + 1) P (by omega) (fun j hj => ?_) hM hO
          by_cases r : j = i
          · rw [r]; exact h27
          · exact hd j (by omega)
  refine z_aload_n hX d5_readNumber_0 rfl ?_
  refine z_get hX lf_5_19 (hM _ _ rfl) rfl d5_readNumber_1 ?_
  refine z_istore_n hX 2 rfl (by decide) d5_readNumber_4 ?_
  dsimp only [z_p1, z_p2, z_k, List.headD, List.tail]
  refine z_aload_n hX d5_readNumber_5 rfl ?_
  refine z_iconst hX (0) d5_readNumber_6 (by decide) ?_
  refine z_puti hX lf_5_53 rfl rfl (hM _ _ rfl) (Nat.le_of_ble_eq_true rfl) d5_readNumber_7 ?_
  refine z_gen hM hO rfl (fun P hM hO => ?_)
  have hM := zT_s23 (x2 := 0) hM
  exact loop 3 0 P (by omega) (fun j hj => absurd hj (Nat.not_lt_zero j)) hM hO
/-- rules at q, the reader, and nothing else -/
def zTQ (q j : Nat) : Bool := zDr 21 23 j || zQ q j
theorem zTQ_t {q j : Nat} (h : zDr 21 23 j = true) : zTQ q j = true := by unfold zTQ; rw [h]; rfl
theorem zTQ_q {q j : Nat} (h : zQ q j = true) : zTQ q j = true := by unfold zTQ; rw [h, Bool.or_true]
theorem zTQ_1 {q : Nat} {P P' : z_H} (h : z_out (zDr 21 23) P P') : z_out (zTQ q) P P' := h.mono (fun j hj => by unfold zTQ at hj; cases e : zDr 21 23 j with | true => rw [e] at hj; cases hj | false => rfl)
theorem zTQ_2 {q : Nat} {P P' : z_H} (h : z_out (zQ q) P P') : z_out (zTQ q) P P' := h.mono (fun j hj => by unfold zTQ at hj; cases e : zQ q j with | true => rw [e, Bool.or_true] at hj; cases hj | false => rfl)
theorem zRu_out {q : Nat} {kc sc : Nat → Int32} {le gr : Nat → Nat → Int32} {n : Nat} {P P' : z_H} {dm : Nat → Bool} (h : zRu q kc sc le gr n P) (hO : z_out dm P P') (hd : ∀ j, q ≤ j → j ≤ q + 22 → dm j = false) : zRu q kc sc le gr n P' := by
  obtain ⟨h1, h2, h3, h4, h5, h6, h7⟩ := h
  exact ⟨by rw [hO _ (hd _ (by omega) (by omega))]; exact h1, by rw [hO _ (hd _ (by omega) (by omega))]; exact h2, by rw [hO _ (hd _ (by omega) (by omega))]; exact h3, by rw [hO _ (hd _ (by omega) (by omega))]; exact h4, fun i hi => by rw [hO _ (hd _ (by omega) (by omega))]; exact h5 i hi, by rw [hO _ (hd _ (by omega) (by omega))]; exact h6, fun i hi => by rw [hO _ (hd _ (by omega) (by omega))]; exact h7 i hi⟩
theorem zRu_t {q : Nat} {kc sc : Nat → Int32} {le gr : Nat → Nat → Int32} {n : Nat} {P P' : z_H} (h : zRu q kc sc le gr n P) (hq : 24 ≤ q) (hO : z_out (zDr 21 23) P P') : zRu q kc sc le gr n P' := zRu_out h hO (fun j h1 h2 => zDr_f (by omega))
theorem zT_q {tb : Nat → Nat} {tl e p x q : Nat} {P P' : z_H} (h : z_in (zT tb tl e p x) P) (hq : 24 ≤ q) (hO : z_out (zQ q) P P') : z_in (zT tb tl e p x) P' := by
  intro k c hk
  have := zT_dom hk
  rw [hO k (zDr_f (by omega))]
  exact h k c hk
theorem z_genU {X : z_X} {pc nx u v k : Nat} {lv : List (Option Value)} {st : List Value} {P P0 Q : z_H} {c : z_C} {dm : Nat → Bool} {q : Nat} {kc sc : Nat → Int32} {le gr : Nat → Nat → Int32} {n : Nat} (hM : z_in Q P) (hO : z_out dm P0 P) (hk : dm k = true) (hU : zRu q kc sc le gr n P) (hq : k < q) (kk : ∀ P' : z_H, z_in (z_up Q k c) P' → z_out dm P0 P' → zRu q kc sc le gr n P' → z_W X pc lv st P' nx u v) : z_W X pc lv st (z_up P k c) nx u v := kk _ (hM.up k c) (hO.up hk) (zRu_out (dm := fun j => decide (j = k)) hU (z_out.rf.up (decide_eq_true rfl)) (fun j h1 h2 => decide_eq_false (by omega)))
def S5_readSpan : z_PT := fun as P nx K => ∃ (tb : Nat → Nat) (tl e s x q : Nat) (kc sc : Nat → Int32) (le gr : Nat → Nat → Int32) (n i : Nat), as = [.ref 23, .ref q] ∧ z_in (zT tb tl e s x) P ∧ zRu q kc sc le gr (n + 1) P ∧ 24 ≤ q ∧ tl ≤ 120 ∧ e ≤ tl ∧ s < 900 ∧ (∀ i, tb i < 256) ∧ n < 9 ∧ sc n = nI i ∧ i < 4 ∧ ∀ (p' x' : Nat) (sc' : Nat → Int32) (le' gr' : Nat → Nat → Int32) (P' : z_H), (spF tb e s = 0 → p' = spP tb e s ∧ sc' = upd sc n (nI (i + 1)) ∧ le' = va_up le n (upd (le n) i (nI (spA tb e s))) ∧ gr' = va_up gr n (upd (gr n) i (nI (spB tb e s)))) → z_in (zT tb tl e p' x') P' → zRu q kc sc' le' gr' (n + 1) P' → z_out (zTQ q) P P' → K (some (.int (nI (spF tb e s)))) P' nx
theorem nI_n0 {n : Nat} (h : n < 2 ^ 31) : nI n = 0 ↔ n = 0 := nI_eq h (by decide)
theorem numF_lt {tb : Nat → Nat} {e s lo : Nat} (h : s < 1000) : numF tb e s lo < 2000 := by
  unfold numF
  repeat' split
  all_goals omega
theorem sp5_readSpan (l : Launch) : z_Sp l M5_readSpan rM5_readSpan S5_readSpan := by
  refine z_enter (by decide) (fun as P nx K h => ?_) (fun X K as P nx hX hE hin0 hS => ?_)
  · obtain ⟨tb, tl, e, s, x, q, kc, sc, le, gr, n, i, rfl, -⟩ := h
    exact Nat.le_of_ble_eq_true rfl
  obtain ⟨tb, tl, e, s, x, q, kc, sc, le, gr, n, i, rfl, hM, hU, p1, p2, p3, p4, p5, p6, p7, p8, hK⟩ := hS
  refine z_pad 2 ?_
  show z_W X 0 [some (.ref 23), some (.ref q), none, none] [] P nx 0 0
  have hb := nK_le tb e s
  have hsm : spM tb e s = s + nK tb e s := rfl
  have hl1 := numF_lt (tb := tb) (e := e) (lo := 0) (show s < 1000 by omega)
  have hl2 := numF_lt (tb := tb) (e := e) (lo := nN tb e s) (show spM tb e s + 1 < 1000 by omega)
  obtain ⟨P0, hP0⟩ : ∃ P0, P0 = P := ⟨_, rfl⟩
  rw [← hP0] at hK
  have hO : z_out (zDr 21 23) P0 P := by rw [hP0]; exact z_out.rf
  refine z_aload_n hX d5_readSpan_0 rfl ?_
  refine z_iconst hX (0) d5_readSpan_1 (by decide) ?_
  refine z_callV1 hX (sp5_readNumber l) lm_5_49 (hM _ _ rfl) ⟨by decide, by decide, by decide, by decide⟩ (Nat.le_of_ble_eq_true rfl) d5_readSpan_2 ?_
  refine ⟨tb, tl, e, s, x, 0, rfl, hM, p2, p3, by omega, by omega, p5, fun p' x' P' hr1 hM hO1 => ?_⟩
  have hO := hO.tr hO1
  have hU := zRu_t hU p1 hO1
  dsimp only [Option.toList, List.cons_append, List.nil_append]
  refine z_istore_n hX 2 rfl (by decide) d5_readSpan_5 ?_
  dsimp only [z_p1, z_p2, z_k, List.headD, List.tail]
  refine z_iload_n hX d5_readSpan_6 rfl ?_
  refine z_if_eq hX 12 d5_readSpan_7 (by decide) (fun h7 => ?_) (fun h7 => ?_)
  · skip
    rw [nI_n0 (by omega)] at h7
    obtain ⟨rfl, rfl⟩ := hr1 h7
    have g1 := numF_0 h7
    refine z_aload_n hX d5_readSpan_12 rfl ?_
    refine z_get hX lf_5_53 (hM _ _ rfl) rfl d5_readSpan_13 ?_
    refine z_istore_n hX 3 rfl (by decide) d5_readSpan_16 ?_
    dsimp only [z_p1, z_p2, z_k, List.headD, List.tail]
    refine z_aload_n hX d5_readSpan_17 rfl ?_
    refine z_callV0 hX (sp5_sign l) lm_5_31 (hM _ _ rfl) ⟨by decide, by decide, by decide, by decide⟩ (Nat.le_of_ble_eq_true rfl) d5_readSpan_18 ?_
    refine ⟨tb, tl, e, _, _, rfl, hM, p2, p3, by omega, ?_⟩
    dsimp only [Option.toList, List.cons_append, List.nil_append]
    refine z_bipush hX (45) d5_readSpan_21 (by decide) ?_
    refine z_icmp_eq hX 34 d5_readSpan_23 (by decide) (fun h23 => ?_) (fun h23 => ?_)
    · skip
      rw [show (45 : Int32) = nI 45 from rfl, sg_eq p5 _ _ _ (by omega) (by omega)] at h23
      refine z_aload_n hX d5_readSpan_34 rfl ?_
      refine z_dup hX rfl d5_readSpan_35 ?_
      refine z_get hX lf_5_19 (hM _ _ rfl) rfl d5_readSpan_36 ?_
      refine z_iconst hX (1) d5_readSpan_39 (by decide) ?_
      refine z_iadd hX d5_readSpan_40 ?_
      rw [nI_1]
      refine z_puti hX lf_5_19 rfl rfl (hM _ _ rfl) (Nat.le_of_ble_eq_true rfl) d5_readSpan_41 ?_
      refine z_genU hM hO rfl hU (by omega) (fun P hM hO hU => ?_)
      have hM := zT_s23 hM
      refine z_aload_n hX d5_readSpan_44 rfl ?_
      refine z_iload_n hX d5_readSpan_45 rfl ?_
      refine z_callV1 hX (sp5_readNumber l) lm_5_49 (hM _ _ rfl) ⟨by decide, by decide, by decide, by decide⟩ (Nat.le_of_ble_eq_true rfl) d5_readSpan_46 ?_
      refine ⟨tb, tl, e, spM tb e s + 1, _, nN tb e s, rfl, hM, p2, p3, by omega, by omega, p5, fun p' x' P' hr1 hM hO1 => ?_⟩
      have hO := hO.tr hO1
      have hU := zRu_t hU p1 hO1
      have hf : spF tb e s = numF tb e (spM tb e s + 1) (nN tb e s) := by unfold spF; rw [if_neg (by omega), if_neg (show ¬ hr tb e (spM tb e s) ≠ 45 from fun z => z h23)]
      rw [← hf] at hr1
      dsimp only [Option.toList, List.cons_append, List.nil_append]
      refine z_istore_n hX 2 rfl (by decide) d5_readSpan_49 ?_
      dsimp only [z_p1, z_p2, z_k, List.headD, List.tail]
      refine z_iload_n hX d5_readSpan_50 rfl ?_
      refine z_if_ne hX 63 d5_readSpan_51 (by decide) (fun h51 => ?_) (fun h51 => ?_)
      · skip
        rw [← hf, nI_n0 (by omega)] at h51
        refine z_iload_n hX d5_readSpan_63 rfl ?_
        refine z_iret hX hE (by decide) (by decide) d5_readSpan_64 ?_
        rw [← hf]
        first
          | exact hK _ _ _ _ _ _ (fun z => absurd z h51) hM hU (zTQ_1 hO)
          | exact hK _ _ _ _ _ _ (fun z => ⟨rfl, rfl, rfl, rfl⟩) hM hU ((zTQ_1 hO).tr (zTQ_2 hO1))
      · skip
        rw [← hf, nI_n0 (by omega)] at h51
        obtain ⟨rfl, rfl⟩ := hr1 h51
        refine z_aload_n hX d5_readSpan_54 rfl ?_
        refine z_iload_n hX d5_readSpan_55 rfl ?_
        refine z_aload_n hX d5_readSpan_56 rfl ?_
        refine z_get hX lf_5_53 (hM _ _ rfl) rfl d5_readSpan_57 ?_
        refine z_callV2 hX (sp4_addSpanToLast l) lm_5_56 hU.1 ⟨by decide, by decide, by decide, by decide⟩ (Nat.le_of_ble_eq_true rfl) d5_readSpan_60 ?_
        refine ⟨q, kc, sc, le, gr, n, i, _, _, rfl, hU, p6, p7, p8, fun P' hU hO1 => ?_⟩
        have hM := zT_q hM p1 hO1
        dsimp only [Option.toList, List.cons_append, List.nil_append]
        refine z_iload_n hX d5_readSpan_63 rfl ?_
        refine z_iret hX hE (by decide) (by decide) d5_readSpan_64 ?_
        rw [← hf]
        first
          | exact hK _ _ _ _ _ _ (fun z => absurd z h51) hM hU (zTQ_1 hO)
          | exact hK _ _ _ _ _ _ (fun z => ⟨rfl, rfl, rfl, rfl⟩) hM hU ((zTQ_1 hO).tr (zTQ_2 hO1))
    · skip
      rw [show (45 : Int32) = nI 45 from rfl, sg_eq p5 _ _ _ (by omega) (by omega)] at h23
      refine z_bipush hX (100) d5_readSpan_26 (by decide) ?_
      refine z_aload_n hX d5_readSpan_28 rfl ?_
      refine z_get hX lf_5_19 (hM _ _ rfl) rfl d5_readSpan_29 ?_
      refine z_iadd hX d5_readSpan_32 ?_
      refine z_iret hX hE (by decide) (by decide) d5_readSpan_33 ?_
      have hf : spF tb e s = 100 + spM tb e s := by unfold spF; rw [if_neg (by omega), if_pos (show hr tb e (spM tb e s) ≠ 45 from h23)]
      rw [hf] at hK
      rw [show (100 : Int32) = nI 100 from rfl, nI_add]
      exact hK _ _ _ _ _ _ (fun z => absurd z (by omega)) hM hU (zTQ_1 hO)
  · skip
    rw [nI_n0 (by omega)] at h7
    refine z_iload_n hX d5_readSpan_10 rfl ?_
    refine z_iret hX hE (by decide) (by decide) d5_readSpan_11 ?_
    have hf : spF tb e s = numF tb e s 0 := by unfold spF; rw [if_pos h7]
    rw [hf] at hK
    exact hK _ _ _ _ _ _ (fun z => absurd z h7) hM hU (zTQ_1 hO)
def ssG (tb : Nat → Nat) (e c : Nat) : Nat := if ssF tb e 4 c ≠ 0 then ssF tb e 4 c else enF tb e (ssQ tb e 4 c)
/-- spans of the clause n up to i, others as before -/
def rSp (tb : Nat → Nat) (e c n i : Nat) (sc : Nat → Int32) (le gr : Nat → Nat → Int32) (sc' : Nat → Int32) (le' gr' : Nat → Nat → Int32) : Prop := sc' n = nI i ∧ (∀ j, j < i → le' n j = nI (spA tb e (cp tb e c j + 1)) ∧ gr' n j = nI (spB tb e (cp tb e c j + 1))) ∧ ∀ m, m ≠ n → sc' m = sc m ∧ le' m = le m ∧ gr' m = gr m
theorem rSp_s {tb : Nat → Nat} {e c n i s : Nat} {sc sc' : Nat → Int32} {le gr le' gr' : Nat → Nat → Int32} (h : rSp tb e c n i sc le gr sc' le' gr') (hs : s = cp tb e c i + 1) : rSp tb e c n (i + 1) sc le gr (upd sc' n (nI (i + 1))) (va_up le' n (upd (le' n) i (nI (spA tb e s)))) (va_up gr' n (upd (gr' n) i (nI (spB tb e s)))) := by
  obtain ⟨h1, h2, h3⟩ := h
  refine ⟨by simp [upd], fun j hj => ?_, fun m hm => ?_⟩
  · by_cases r : j = i
    · subst r
      rw [hs]
      simp [va_up, upd]
    · have := h2 j (by omega)
      simp only [va_up, upd, if_pos, if_neg r]
      exact this
  · have := h3 m hm
    simp only [va_up, upd, if_neg hm]
    exact this
def S5_readSpans : z_PT := fun as P nx K => ∃ (tb : Nat → Nat) (tl e c x q : Nat) (kc sc : Nat → Int32) (le gr : Nat → Nat → Int32) (n : Nat), as = [.ref 23, .ref q] ∧ z_in (zT tb tl e c x) P ∧ zRu q kc sc le gr (n + 1) P ∧ 24 ≤ q ∧ tl ≤ 120 ∧ e ≤ tl ∧ c < 800 ∧ (∀ i, tb i < 256) ∧ n < 9 ∧ sc n = nI 0 ∧ ∀ (p' x' : Nat) (sc' : Nat → Int32) (le' gr' : Nat → Nat → Int32) (P' : z_H), (ssG tb e c = 0 → p' = ssQ tb e 4 c ∧ rSp tb e c n (ssN tb e 4 c) sc le gr sc' le' gr') → z_in (zT tb tl e p' x') P' → zRu q kc sc' le' gr' (n + 1) P' → z_out (zTQ q) P P' → K (some (.int (nI (ssG tb e c)))) P' nx
theorem spF_lt {tb : Nat → Nat} {e s : Nat} (h : s < 900) : spF tb e s < 3000 := by
  have h1 := nK_le tb e s
  have h2 := numF_lt (tb := tb) (e := e) (lo := 0) (show s < 1000 by omega)
  have h3 := numF_lt (tb := tb) (e := e) (lo := nN tb e s) (show spM tb e s + 1 < 1000 by unfold spM; omega)
  unfold spF
  repeat' split
  · omega
  · unfold spM; omega
  · omega
theorem sp5_readSpans (l : Launch) : z_Sp l M5_readSpans rM5_readSpans S5_readSpans := by
  refine z_enter (by decide) (fun as P nx K h => ?_) (fun X K as P nx hX hE hin0 hS => ?_)
  · obtain ⟨tb, tl, e, c, x, q, kc, sc, le, gr, n, rfl, -⟩ := h
    exact Nat.le_of_ble_eq_true rfl
  obtain ⟨tb, tl, e, c, x, q, kc, sc, le, gr, n, rfl, hM, hU, p1, p2, p3, p4, p5, p6, p7, hK⟩ := hS
  refine z_pad 3 ?_
  show z_W X 0 [some (.ref 23), some (.ref q), none, none, none] [] P nx 0 0
  obtain ⟨P0, hP0⟩ : ∃ P0, P0 = P := ⟨_, rfl⟩
  rw [← hP0] at hK
  have hO : z_out (zTQ q) P0 P := by rw [hP0]; exact z_out.rf
  have fin : ∀ (p x : Nat) (sc' : Nat → Int32) (le' gr' : Nat → Nat → Int32) (P : z_H), p < 1000 → ssG tb e c = enF tb e p → (ssG tb e c = 0 → p = ssQ tb e 4 c ∧ rSp tb e c n (ssN tb e 4 c) sc le gr sc' le' gr') → z_in (zT tb tl e p x) P → zRu q kc sc' le' gr' (n + 1) P → z_out (zTQ q) P0 P → z_W X 59 [some (.ref 23), some (.ref q), none, none, none] [] P nx 0 0 := by
    intro p x sc' le' gr' P hp he hr1 hM hU hO
    replace he := he.symm
    refine z_aload_n hX d5_readSpans_59 rfl ?_
    refine z_get hX lf_5_19 (hM _ _ rfl) rfl d5_readSpans_60 ?_
    refine z_aload_n hX d5_readSpans_63 rfl ?_
    refine z_get hX lf_5_15 (hM _ _ rfl) rfl d5_readSpans_64 ?_
    refine z_icmp_ge hX 79 d5_readSpans_67 (by decide) (fun h67 => ?_) (fun h67 => ?_)
    · skip
      rw [nI_leI (by omega) (by omega)] at h67
      rw [show enF tb e p = 0 from if_pos (Or.inl h67)] at he
      refine z_iconst hX (0) d5_readSpans_79 (by decide) ?_
      refine z_goto hX 90 d5_readSpans_80 (by decide) ?_
      refine z_iret hX hE (by decide) (by decide) d5_readSpans_90 ?_
      rw [← he] at hK hr1
      first | exact hK _ _ _ _ _ P hr1 hM hU hO | (rw [show (100 : Int32) = nI 100 from rfl, nI_add]; exact hK _ _ _ _ _ P hr1 hM hU hO)
    · skip
      rw [nI_leI (by omega) (by omega)] at h67
      refine z_aload_n hX d5_readSpans_70 rfl ?_
      refine z_callV0 hX (sp5_sign l) lm_5_31 (hM _ _ rfl) ⟨by decide, by decide, by decide, by decide⟩ (Nat.le_of_ble_eq_true rfl) d5_readSpans_71 ?_
      refine ⟨tb, tl, e, _, _, rfl, hM, p2, p3, by omega, ?_⟩
      dsimp only [Option.toList, List.cons_append, List.nil_append]
      refine z_bipush hX (59) d5_readSpans_74 (by decide) ?_
      refine z_icmp_ne hX 83 d5_readSpans_76 (by decide) (fun h76 => ?_) (fun h76 => ?_)
      · skip
        rw [show (59 : Int32) = nI 59 from rfl, sg_eq p5 _ _ _ (by omega) (by omega)] at h76
        rw [show enF tb e p = 100 + p from if_neg (fun z => z.elim h67 h76)] at he
        refine z_bipush hX (100) d5_readSpans_83 (by decide) ?_
        refine z_aload_n hX d5_readSpans_85 rfl ?_
        refine z_get hX lf_5_19 (hM _ _ rfl) rfl d5_readSpans_86 ?_
        refine z_iadd hX d5_readSpans_89 ?_
        refine z_iret hX hE (by decide) (by decide) d5_readSpans_90 ?_
        rw [← he] at hK hr1
        first | exact hK _ _ _ _ _ P hr1 hM hU hO | (rw [show (100 : Int32) = nI 100 from rfl, nI_add]; exact hK _ _ _ _ _ P hr1 hM hU hO)
      · skip
        rw [show (59 : Int32) = nI 59 from rfl, sg_eq p5 _ _ _ (by omega) (by omega)] at h76
        rw [show enF tb e p = 0 from if_pos (Or.inr h76)] at he
        refine z_iconst hX (0) d5_readSpans_79 (by decide) ?_
        refine z_goto hX 90 d5_readSpans_80 (by decide) ?_
        refine z_iret hX hE (by decide) (by decide) d5_readSpans_90 ?_
        rw [← he] at hK hr1
        first | exact hK _ _ _ _ _ P hr1 hM hU hO | (rw [show (100 : Int32) = nI 100 from rfl, nI_add]; exact hK _ _ _ _ _ P hr1 hM hU hO)
  have ext : ∀ (i p x : Nat) (sc' : Nat → Int32) (le' gr' : Nat → Nat → Int32) (P : z_H), p < 1000 → ssG tb e c = enF tb e p → (ssG tb e c = 0 → p = ssQ tb e 4 c ∧ rSp tb e c n (ssN tb e 4 c) sc le gr sc' le' gr') → z_in (zT tb tl e p x) P → zRu q kc sc' le' gr' (n + 1) P → z_out (zTQ q) P0 P → z_W X 4 [some (.ref 23), some (.ref q), some (.int 0), some (.int (nI i)), none] [] P nx 0 0 := by
    intro i p x sc' le' gr' P hp he hr1 hM hU hO
    refine z_iload_n hX d5_readSpans_4 rfl ?_
    refine z_if_eq hX 59 d5_readSpans_5 (by decide) (fun h5 => ?_) (fun h5 => ?_)
    rotate_left
    · exact absurd rfl h5
    refine z_sub (fin p x sc' le' gr' P hp he hr1 hM hU hO) (by repeat' (first | exact trivial | refine ⟨rfl, ?_⟩))
  have loop : ∀ (k i x : Nat) (sc' : Nat → Int32) (le' gr' : Nat → Nat → Int32) (P : z_H), i + k = 4 → cp tb e c i < 800 → rSp tb e c n i sc le gr sc' le' gr' → ssF tb e 4 c = ssF tb e k (cp tb e c i) → ssN tb e 4 c = i + ssN tb e k (cp tb e c i) → ssQ tb e 4 c = ssQ tb e k (cp tb e c i) → (k = 0 → hr tb e (cp tb e c i) = 44) → z_in (zT tb tl e (cp tb e c i) x) P → zRu q kc sc' le' gr' (n + 1) P → z_out (zTQ q) P0 P → z_W X 4 [some (.ref 23), some (.ref q), some (.int 1), some (.int (nI i)), none] [] P nx 0 0 := by
    intro k
    induction k with
    | zero =>
      intro i x sc' le' gr' P hi hc hR t1 t2 t3 t4 hM hU hO
      have t4 := t4 rfl
      have t5 : cp tb e c i < e := hr_in (show hr tb e (cp tb e c i) ≠ 0 by omega)
      refine z_iload_n hX d5_readSpans_4 rfl ?_
      refine z_if_eq hX 59 d5_readSpans_5 (by decide) (fun h5 => ?_) (fun h5 => ?_)
      · exact absurd h5 (by decide)
      refine z_iload_n hX d5_readSpans_8 rfl ?_
      refine z_iconst hX (4) d5_readSpans_9 (by decide) ?_
      refine z_icmp_ge hX 59 d5_readSpans_10 (by decide) (fun h10 => ?_) (fun h10 => ?_)
      rotate_left
      · exact absurd (by rw [show i = 4 by omega]; decide) h10
      refine z_sub (fin (cp tb e c i) x sc' le' gr' P (by omega) ?_ (fun z => ?_) hM hU hO) (by repeat' (first | exact trivial | refine ⟨rfl, ?_⟩))
      · unfold ssG enF
        rw [t1, if_neg (by omega : ¬ (e ≤ cp tb e c i ∨ hr tb e (cp tb e c i) = 59))]
        show (if 100 + cp tb e c i ≠ 0 then 100 + cp tb e c i else _) = _
        rw [if_pos (by omega)]
      · unfold ssG at z
        rw [t1] at z
        have z : (if 100 + cp tb e c i ≠ 0 then 100 + cp tb e c i else enF tb e (ssQ tb e 4 c)) = 0 := z
        rw [if_pos (by omega)] at z
        omega
    | succ k ih =>
      intro i x sc' le' gr' P hi hc hR t1 t2 t3 t4 hM hU hO
      refine z_iload_n hX d5_readSpans_4 rfl ?_
      refine z_if_eq hX 59 d5_readSpans_5 (by decide) (fun h5 => ?_) (fun h5 => ?_)
      · exact absurd h5 (by decide)
      refine z_iload_n hX d5_readSpans_8 rfl ?_
      refine z_iconst hX (4) d5_readSpans_9 (by decide) ?_
      refine z_icmp_ge hX 59 d5_readSpans_10 (by decide) (fun h10 => ?_) (fun h10 => ?_)
      · exact absurd h10 (nI_ge (b := 4) (by omega) (by decide))
      refine z_aload_n hX d5_readSpans_13 rfl ?_
      refine z_dup hX rfl d5_readSpans_14 ?_
      refine z_get hX lf_5_19 (hM _ _ rfl) rfl d5_readSpans_15 ?_
      refine z_iconst hX (1) d5_readSpans_18 (by decide) ?_
      refine z_iadd hX d5_readSpans_19 ?_
      rw [nI_1]
      refine z_puti hX lf_5_19 rfl rfl (hM _ _ rfl) (Nat.le_of_ble_eq_true rfl) d5_readSpans_20 ?_
      refine z_genU hM hO (zTQ_t rfl) hU (by omega) (fun P hM hO hU => ?_)
      have hM := zT_s23 hM
      refine z_aload_n hX d5_readSpans_23 rfl ?_
      refine z_aload_n hX d5_readSpans_24 rfl ?_
      refine z_callV1 hX (sp5_readSpan l) lm_5_46 (hM _ _ rfl) ⟨by decide, by decide, by decide, by decide⟩ (Nat.le_of_ble_eq_true rfl) d5_readSpans_25 ?_
      refine ⟨tb, tl, e, cp tb e c i + 1, _, q, kc, sc', le', gr', n, i, rfl, hM, hU, p1, p2, p3, by omega, p5, p6, hR.1, by omega, fun p' x' sc2 le2 gr2 P' hr1 hM hU hO1 => ?_⟩
      have hO := hO.tr hO1
      have hsl := spF_lt (tb := tb) (e := e) (show cp tb e c i + 1 < 900 by omega)
      dsimp only [Option.toList, List.cons_append, List.nil_append]
      refine z_istore hX (by decide) d5_readSpans_28 ?_
      dsimp only [z_p1, z_p2, z_k, List.headD, List.tail]
      refine z_iload hX d5_readSpans_30 rfl ?_
      refine z_if_eq hX 38 d5_readSpans_32 (by decide) (fun h32 => ?_) (fun h32 => ?_)
      · skip
        rw [nI_n0 (by omega)] at h32
        obtain ⟨rfl, rfl, rfl, rfl⟩ := hr1 h32
        have hR := rSp_s hR rfl
        have g := spF_0 h32
        have e1 : ssF tb e (k + 1) (cp tb e c i) = if hr tb e (spP tb e (cp tb e c i + 1)) = 44 then ssF tb e k (spP tb e (cp tb e c i + 1)) else 0 := by show (if spF tb e (cp tb e c i + 1) ≠ 0 then spF tb e (cp tb e c i + 1) else _) = _; rw [if_neg (by omega)]
        have e2 : ssN tb e (k + 1) (cp tb e c i) = if hr tb e (spP tb e (cp tb e c i + 1)) = 44 then ssN tb e k (spP tb e (cp tb e c i + 1)) + 1 else 1 := rfl
        have e3 : ssQ tb e (k + 1) (cp tb e c i) = if hr tb e (spP tb e (cp tb e c i + 1)) = 44 then ssQ tb e k (spP tb e (cp tb e c i + 1)) else spP tb e (cp tb e c i + 1) := rfl
        rw [e1] at t1
        rw [e2] at t2
        rw [e3] at t3
        refine z_aload_n hX d5_readSpans_38 rfl ?_
        refine z_callV0 hX (sp5_sign l) lm_5_31 (hM _ _ rfl) ⟨by decide, by decide, by decide, by decide⟩ (Nat.le_of_ble_eq_true rfl) d5_readSpans_39 ?_
        refine ⟨tb, tl, e, _, _, rfl, hM, p2, p3, by omega, ?_⟩
        dsimp only [Option.toList, List.cons_append, List.nil_append]
        refine z_bipush hX (44) d5_readSpans_42 (by decide) ?_
        refine z_icmp_ne hX 51 d5_readSpans_44 (by decide) (fun h44 => ?_) (fun h44 => ?_)
        · skip
          rw [show (44 : Int32) = nI 44 from rfl, sg_eq p5 _ _ _ (by omega) (by omega)] at h44
          rw [if_neg h44] at t1 t2 t3
          refine z_iconst hX (0) d5_readSpans_51 (by decide) ?_
          refine z_istore_n hX 2 rfl (by decide) d5_readSpans_52 ?_
          dsimp only [z_p1, z_p2, z_k, List.headD, List.tail]
          refine z_iinc hX (1) (by decide) rfl (by decide) d5_readSpans_53 ?_
          dsimp only [z_p1, z_p2, z_k, List.headD, List.tail]
          refine z_goto hX 4 d5_readSpans_56 (by decide) ?_
          rw [nI_1]
          first
            | (refine z_sub (ih (i + 1) _ _ _ _ _ (by omega) (by show spP tb e (cp tb e c i + 1) < 800; omega) hR t1 (by rw [t2]; show _ = i + 1 + ssN tb e k (spP tb e (cp tb e c i + 1)); omega) t3 (fun _ => h44) hM hU hO) (by repeat' (first | exact trivial | refine ⟨rfl, ?_⟩)); done)
            | (refine z_sub (ext (i + 1) (spP tb e (cp tb e c i + 1)) _ _ _ _ _ (by omega) ?_ (fun _ => ⟨t3.symm, by rw [t2]; exact hR⟩) hM hU hO) (by repeat' (first | exact trivial | refine ⟨rfl, ?_⟩))
               unfold ssG
               rw [if_neg (by omega), t3])
        · skip
          rw [show (44 : Int32) = nI 44 from rfl, sg_eq p5 _ _ _ (by omega) (by omega)] at h44
          rw [if_pos h44] at t1 t2 t3
          refine z_iconst hX (1) d5_readSpans_47 (by decide) ?_
          refine z_goto hX 52 d5_readSpans_48 (by decide) ?_
          refine z_istore_n hX 2 rfl (by decide) d5_readSpans_52 ?_
          dsimp only [z_p1, z_p2, z_k, List.headD, List.tail]
          refine z_iinc hX (1) (by decide) rfl (by decide) d5_readSpans_53 ?_
          dsimp only [z_p1, z_p2, z_k, List.headD, List.tail]
          refine z_goto hX 4 d5_readSpans_56 (by decide) ?_
          rw [nI_1]
          first
            | (refine z_sub (ih (i + 1) _ _ _ _ _ (by omega) (by show spP tb e (cp tb e c i + 1) < 800; omega) hR t1 (by rw [t2]; show _ = i + 1 + ssN tb e k (spP tb e (cp tb e c i + 1)); omega) t3 (fun _ => h44) hM hU hO) (by repeat' (first | exact trivial | refine ⟨rfl, ?_⟩)); done)
            | (refine z_sub (ext (i + 1) (spP tb e (cp tb e c i + 1)) _ _ _ _ _ (by omega) ?_ (fun _ => ⟨t3.symm, by rw [t2]; exact hR⟩) hM hU hO) (by repeat' (first | exact trivial | refine ⟨rfl, ?_⟩))
               unfold ssG
               rw [if_neg (by omega), t3])
      · skip
        rw [nI_n0 (by omega)] at h32
        refine z_iload hX d5_readSpans_35 rfl ?_
        refine z_iret hX hE (by decide) (by decide) d5_readSpans_37 ?_
        have hf : ssF tb e 4 c = spF tb e (cp tb e c i + 1) := by rw [t1]; show (if spF tb e (cp tb e c i + 1) ≠ 0 then spF tb e (cp tb e c i + 1) else _) = _; rw [if_pos h32]
        have hf : ssG tb e c = spF tb e (cp tb e c i + 1) := by unfold ssG; rw [hf, if_pos h32]
        rw [hf] at hK
        exact hK _ _ _ _ _ _ (fun z => absurd z h32) hM hU hO
  refine z_iconst hX (1) d5_readSpans_0 (by decide) ?_
  refine z_istore_n hX 2 rfl (by decide) d5_readSpans_1 ?_
  dsimp only [z_p1, z_p2, z_k, List.headD, List.tail]
  refine z_iconst hX (0) d5_readSpans_2 (by decide) ?_
  refine z_istore_n hX 3 rfl (by decide) d5_readSpans_3 ?_
  dsimp only [z_p1, z_p2, z_k, List.headD, List.tail]
  exact loop 4 0 x sc le gr P rfl p4 ⟨p7, fun j hj => absurd hj (Nat.not_lt_zero j), fun m hm => ⟨rfl, rfl, rfl⟩⟩ rfl (by rw [Nat.zero_add]; rfl) rfl (fun z => by cases z) hM hU hO
/-- what a clause at p leaves -/
def gC (tb : Nat → Nat) (e p : Nat) (k s : Int32) (l g : Nat → Int32) : Prop := k = nI (hr tb e p - 48) ∧ s = nI (ssN tb e 4 (p + 1)) ∧ ∀ j, j < ssN tb e 4 (p + 1) → l j = nI (spA tb e (cp tb e (p + 1) j + 1)) ∧ g j = nI (spB tb e (cp tb e (p + 1) j + 1))
def clG (tb : Nat → Nat) (e p m : Nat) : Nat := if clF tb e p m ≠ 0 then clF tb e p m else enF tb e (clQ tb e p)
theorem clF_lt {tb : Nat → Nat} {e p m : Nat} (h : clF tb e p m = 0) : dg tb e p = true ∧ m < 9 ∧ hr tb e p ≠ 57 ∧ hr tb e (p + 1) = 58 ∧ ssF tb e 4 (p + 1) = 0 := by
  unfold clF at h
  split at h
  · omega
  · split at h
    · omega
    · split at h
      · omega
      · split at h
        · omega
        · rename_i a b c d
          exact ⟨by simpa using a, by omega, c, Decidable.not_not.mp d, h⟩
theorem ssQ_le {tb : Nat → Nat} {e : Nat} : ∀ (k c : Nat), ssF tb e (k + 1) c = 0 → ssQ tb e (k + 1) c ≤ e ∧ c < ssQ tb e (k + 1) c
  | k, c, h => by
    have h : (if spF tb e (c + 1) ≠ 0 then spF tb e (c + 1) else if hr tb e (spP tb e (c + 1)) = 44 then ssF tb e k (spP tb e (c + 1)) else 0) = 0 := h
    show (if hr tb e (spP tb e (c + 1)) = 44 then ssQ tb e k (spP tb e (c + 1)) else spP tb e (c + 1)) ≤ e ∧ c < (if hr tb e (spP tb e (c + 1)) = 44 then ssQ tb e k (spP tb e (c + 1)) else spP tb e (c + 1))
    by_cases h1 : spF tb e (c + 1) ≠ 0
    · rw [if_pos h1] at h; exact absurd h h1
    · rw [if_neg h1] at h
      have g := spF_0 (Decidable.not_not.mp h1)
      by_cases h2 : hr tb e (spP tb e (c + 1)) = 44
      · rw [if_pos h2] at h ⊢
        match k, h with
        | 0, h => exact absurd (show 100 + spP tb e (c + 1) = 0 from h) (by omega)
        | k + 1, h =>
          have := ssQ_le k _ h
          omega
      · rw [if_neg h2]
        omega
theorem clQ_le {tb : Nat → Nat} {e p m : Nat} (h : clF tb e p m = 0) : clQ tb e p ≤ e ∧ p < clQ tb e p := by
  have : ssQ tb e 4 (p + 1) ≤ e ∧ p + 1 < ssQ tb e 4 (p + 1) := ssQ_le 3 (p + 1) (clF_lt h).2.2.2.2
  unfold clQ
  omega
theorem ssN_le {tb : Nat → Nat} {e : Nat} : ∀ (k c : Nat), ssN tb e k c ≤ k
  | 0, c => Nat.le_refl 0
  | k + 1, c => by
    have := ssN_le (tb := tb) (e := e) k (spP tb e (c + 1))
    show (if hr tb e (spP tb e (c + 1)) = 44 then ssN tb e k (spP tb e (c + 1)) + 1 else 1) ≤ k + 1
    split <;> omega
theorem ssF_lt {tb : Nat → Nat} {e : Nat} (he : e ≤ 120) : ∀ (k c : Nat), c < 800 → ssF tb e k c < 3000
  | 0, c, h => by show 100 + c < 3000; omega
  | k + 1, c, h => by
    have h1 := spF_lt (tb := tb) (e := e) (show c + 1 < 900 by omega)
    show (if spF tb e (c + 1) ≠ 0 then spF tb e (c + 1) else if hr tb e (spP tb e (c + 1)) = 44 then ssF tb e k (spP tb e (c + 1)) else 0) < 3000
    by_cases h2 : spF tb e (c + 1) ≠ 0
    · rw [if_pos h2]; exact h1
    · rw [if_neg h2]
      have g := spF_0 (Decidable.not_not.mp h2)
      have := ssF_lt (tb := tb) he k (spP tb e (c + 1)) (by omega)
      split <;> omega
theorem clG_lt {tb : Nat → Nat} {e p m : Nat} (he : e ≤ 120) (hp : p < 700) : clG tb e p m < 4000 := by
  have h1 := ssF_lt (tb := tb) he 4 (p + 1) (by omega)
  unfold clG
  split
  · unfold clF
    repeat' split
    all_goals omega
  · rename_i h
    have := clQ_le (Decidable.not_not.mp h)
    unfold enF
    split <;> omega
theorem clG_0 {tb : Nat → Nat} {e p m : Nat} (h : clG tb e p m = 0) : clF tb e p m = 0 ∧ (e ≤ clQ tb e p ∨ hr tb e (clQ tb e p) = 59) := by
  unfold clG at h
  split at h
  · exact absurd h (by assumption)
  · rename_i a
    refine ⟨Decidable.not_not.mp a, ?_⟩
    unfold enF at h
    split at h
    · assumption
    · omega
def S5_readClause : z_PT := fun as P nx K => ∃ (tb : Nat → Nat) (tl e p x q : Nat) (kc sc : Nat → Int32) (le gr : Nat → Nat → Int32) (n : Nat), as = [.ref 23, .ref q] ∧ z_in (zT tb tl e p x) P ∧ zRu q kc sc le gr n P ∧ 24 ≤ q ∧ tl ≤ 120 ∧ e ≤ tl ∧ p < 700 ∧ (∀ i, tb i < 256) ∧ n ≤ 9 ∧ ∀ (p' x' n' : Nat) (kc' sc' : Nat → Int32) (le' gr' : Nat → Nat → Int32) (P' : z_H), (clG tb e p n = 0 → p' = clQ tb e p ∧ n' = n + 1 ∧ gC tb e p (kc' n) (sc' n) (le' n) (gr' n) ∧ ∀ m, m < n → kc' m = kc m ∧ sc' m = sc m ∧ le' m = le m ∧ gr' m = gr m) → z_in (zT tb tl e p' x') P' → zRu q kc' sc' le' gr' n' P' → z_out (zTQ q) P P' → K (some (.int (nI (clG tb e p n)))) P' nx
theorem sp5_readClause (l : Launch) : z_Sp l M5_readClause rM5_readClause S5_readClause := by
  refine z_enter (by decide) (fun as P nx K h => ?_) (fun X K as P nx hX hE hin0 hS => ?_)
  · obtain ⟨tb, tl, e, p, x, q, kc, sc, le, gr, n, rfl, -⟩ := h
    exact Nat.le_of_ble_eq_true rfl
  obtain ⟨tb, tl, e, p, x, q, kc, sc, le, gr, n, rfl, hM, hU, p1, p2, p3, p4, p5, p6, hK⟩ := hS
  refine z_pad 1 ?_
  show z_W X 0 [some (.ref 23), some (.ref q), none] [] P nx 0 0
  obtain ⟨P0, hP0⟩ : ∃ P0, P0 = P := ⟨_, rfl⟩
  rw [← hP0] at hK
  have hO : z_out (zTQ q) P0 P := by rw [hP0]; exact z_out.rf
  refine z_aload_n hX d5_readClause_0 rfl ?_
  refine z_callV0 hX (sp5_sign l) lm_5_31 (hM _ _ rfl) ⟨by decide, by decide, by decide, by decide⟩ (Nat.le_of_ble_eq_true rfl) d5_readClause_1 ?_
  refine ⟨tb, tl, e, _, _, rfl, hM, p2, p3, by omega, ?_⟩
  dsimp only [Option.toList, List.cons_append, List.nil_append]
  refine z_istore_n hX 2 rfl (by decide) d5_readClause_4 ?_
  dsimp only [z_p1, z_p2, z_k, List.headD, List.tail]
  refine z_iload_n hX d5_readClause_5 rfl ?_
  refine z_callS1 hX (sp5_isDigit l) lm_5_35 ⟨by decide, by decide, by decide, by decide⟩ (Nat.le_of_ble_eq_true rfl) d5_readClause_6 ?_
  refine ⟨_, rfl, trivial, ?_⟩
  rw [sg_dg p5]
  dsimp only [Option.toList, List.cons_append, List.nil_append]
  refine z_ifb_ne hX 20 d5_readClause_9 (by decide) (fun h9 => ?_) (fun h9 => ?_)
  · skip
    refine z_aload_n hX d5_readClause_20 rfl ?_
    refine z_get hX lf_5_22 hU.1 rfl d5_readClause_21 ?_
    refine z_bipush hX (9) d5_readClause_24 (by decide) ?_
    refine z_icmp_lt hX 38 d5_readClause_26 (by decide) (fun h26 => ?_) (fun h26 => ?_)
    · skip
      rw [i_lt, nI_toInt (by omega), show (9 : Int32).toInt = 9 from rfl] at h26
      refine z_iload_n hX d5_readClause_38 rfl ?_
      refine z_bipush hX (57) d5_readClause_39 (by decide) ?_
      refine z_icmp_ne hX 53 d5_readClause_41 (by decide) (fun h41 => ?_) (fun h41 => ?_)
      · skip
        rw [show (57 : Int32) = nI 57 from rfl, sg_eq p5 _ _ _ (by omega) (by omega)] at h41
        refine z_aload_n hX d5_readClause_53 rfl ?_
        refine z_iload_n hX d5_readClause_54 rfl ?_
        refine z_bipush hX (48) d5_readClause_55 (by decide) ?_
        refine z_isub hX d5_readClause_57 ?_
        have hg := dg_e.mp h9
        rw [sg_hr h9, show (48 : Int32) = nI 48 from rfl, pk_sub hg.1]
        refine z_callV1 hX (sp4_addClause l) lm_5_39 hU.1 ⟨by decide, by decide, by decide, by decide⟩ (Nat.le_of_ble_eq_true rfl) d5_readClause_58 ?_
        refine ⟨q, kc, sc, le, gr, n, _, rfl, hU, by omega, fun P' hU hO1 => ?_⟩
        have hM := zT_q hM p1 hO1
        have hO := hO.tr (zTQ_2 hO1)
        dsimp only [Option.toList, List.cons_append, List.nil_append]
        refine z_aload_n hX d5_readClause_61 rfl ?_
        refine z_dup hX rfl d5_readClause_62 ?_
        refine z_get hX lf_5_19 (hM _ _ rfl) rfl d5_readClause_63 ?_
        refine z_iconst hX (1) d5_readClause_66 (by decide) ?_
        refine z_iadd hX d5_readClause_67 ?_
        rw [nI_1]
        refine z_puti hX lf_5_19 rfl rfl (hM _ _ rfl) (Nat.le_of_ble_eq_true rfl) d5_readClause_68 ?_
        refine z_genU hM hO (zTQ_t rfl) hU (by omega) (fun P hM hO hU => ?_)
        have hM := zT_s23 hM
        refine z_aload_n hX d5_readClause_71 rfl ?_
        refine z_callV0 hX (sp5_sign l) lm_5_31 (hM _ _ rfl) ⟨by decide, by decide, by decide, by decide⟩ (Nat.le_of_ble_eq_true rfl) d5_readClause_72 ?_
        refine ⟨tb, tl, e, _, _, rfl, hM, p2, p3, by omega, ?_⟩
        dsimp only [Option.toList, List.cons_append, List.nil_append]
        refine z_bipush hX (58) d5_readClause_75 (by decide) ?_
        refine z_icmp_eq hX 88 d5_readClause_77 (by decide) (fun h77 => ?_) (fun h77 => ?_)
        · skip
          rw [show (58 : Int32) = nI 58 from rfl, sg_eq p5 _ _ _ (by omega) (by omega)] at h77
          refine z_aload_n hX d5_readClause_88 rfl ?_
          refine z_aload_n hX d5_readClause_89 rfl ?_
          refine z_callV1 hX (sp5_readSpans l) lm_5_43 (hM _ _ rfl) ⟨by decide, by decide, by decide, by decide⟩ (Nat.le_of_ble_eq_true rfl) d5_readClause_90 ?_
          refine ⟨tb, tl, e, p + 1, _, q, _, _, _, _, n, rfl, hM, hU, p1, p2, p3, by omega, p5, by omega, by simp [upd]; rfl, fun p' x' sc' le' gr' P' hr1 hM hU hO1 => ?_⟩
          have hO := hO.tr hO1
          dsimp only [Option.toList, List.cons_append, List.nil_append]
          refine z_iret hX hE (by decide) (by decide) d5_readClause_93 ?_
          have hf : clF tb e p n = ssF tb e 4 (p + 1) := by unfold clF; rw [if_neg (by rw [h9]; decide), if_neg (by omega), if_neg h41, if_neg (fun z => z h77)]
          have hf : clG tb e p n = ssG tb e (p + 1) := by unfold clG ssG clQ; rw [hf]
          rw [hf] at hK
          refine hK _ _ _ _ _ _ _ _ (fun z => ?_) hM hU hO
          obtain ⟨rfl, r1, r2, r3⟩ := hr1 z
          refine ⟨rfl, rfl, ⟨by simp [upd], r1, r2⟩, fun m hm => ⟨by simp [upd, show m ≠ n by omega], ?_⟩⟩
          obtain ⟨z1, z2, z3⟩ := r3 m (by omega)
          exact ⟨by rw [z1]; simp [upd, show m ≠ n by omega], z2, z3⟩
        · skip
          rw [show (58 : Int32) = nI 58 from rfl, sg_eq p5 _ _ _ (by omega) (by omega)] at h77
          refine z_bipush hX (100) d5_readClause_80 (by decide) ?_
          refine z_aload_n hX d5_readClause_82 rfl ?_
          refine z_get hX lf_5_19 (hM _ _ rfl) rfl d5_readClause_83 ?_
          refine z_iadd hX d5_readClause_86 ?_
          refine z_iret hX hE (by decide) (by decide) d5_readClause_87 ?_
          have hf : clF tb e p n = 100 + (p + 1) := by unfold clF; rw [if_neg (by rw [h9]; decide), if_neg (by omega), if_neg h41, if_pos h77]
          have hf : clG tb e p n = 100 + (p + 1) := by unfold clG; rw [hf, if_pos (by omega)]
          rw [hf] at hK
          rw [show (100 : Int32) = nI 100 from rfl, nI_add]
          exact hK _ _ _ _ _ _ _ _ (fun z => absurd z (by omega)) hM hU hO
      · skip
        rw [show (57 : Int32) = nI 57 from rfl, sg_eq p5 _ _ _ (by omega) (by omega)] at h41
        refine z_sipush hX (200) d5_readClause_44 (by decide) ?_
        refine z_aload_n hX d5_readClause_47 rfl ?_
        refine z_get hX lf_5_19 (hM _ _ rfl) rfl d5_readClause_48 ?_
        refine z_iadd hX d5_readClause_51 ?_
        refine z_iret hX hE (by decide) (by decide) d5_readClause_52 ?_
        have hf : clF tb e p n = 200 + p := by unfold clF; rw [if_neg (by rw [h9]; decide), if_neg (by omega), if_pos h41]
        have hf : clG tb e p n = 200 + p := by unfold clG; rw [hf, if_pos (by omega)]
        rw [hf] at hK
        rw [show (200 : Int32) = nI 200 from rfl, nI_add]
        exact hK _ _ _ _ _ _ _ _ (fun z => absurd z (by omega)) hM hU hO
    · skip
      rw [i_lt, nI_toInt (by omega), show (9 : Int32).toInt = 9 from rfl] at h26
      refine z_sipush hX (400) d5_readClause_29 (by decide) ?_
      refine z_aload_n hX d5_readClause_32 rfl ?_
      refine z_get hX lf_5_19 (hM _ _ rfl) rfl d5_readClause_33 ?_
      refine z_iadd hX d5_readClause_36 ?_
      refine z_iret hX hE (by decide) (by decide) d5_readClause_37 ?_
      have hf : clF tb e p n = 400 + p := by unfold clF; rw [if_neg (by rw [h9]; decide), if_pos (by omega)]
      have hf : clG tb e p n = 400 + p := by unfold clG; rw [hf, if_pos (by omega)]
      rw [hf] at hK
      rw [show (400 : Int32) = nI 400 from rfl, nI_add]
      exact hK _ _ _ _ _ _ _ _ (fun z => absurd z (by omega)) hM hU hO
  · skip
    refine z_bipush hX (100) d5_readClause_12 (by decide) ?_
    refine z_aload_n hX d5_readClause_14 rfl ?_
    refine z_get hX lf_5_19 (hM _ _ rfl) rfl d5_readClause_15 ?_
    refine z_iadd hX d5_readClause_18 ?_
    refine z_iret hX hE (by decide) (by decide) d5_readClause_19 ?_
    have hf : clF tb e p n = 100 + p := by unfold clF; rw [if_pos h9]
    have hf : clG tb e p n = 100 + p := by unfold clG; rw [hf, if_pos (by omega)]
    rw [hf] at hK
    rw [show (100 : Int32) = nI 100 from rfl, nI_add]
    exact hK _ _ _ _ _ _ _ _ (fun z => absurd z (by omega)) hM hU hO
def rdF (tb : Nat → Nat) (e : Nat) : Nat := if e = 0 then 0 else ruF tb e 10 0
def rdN (tb : Nat → Nat) (e : Nat) : Nat := if e = 0 then 0 else ruN tb e 10 0
theorem ruF_s {tb : Nat → Nat} {e k m : Nat} : ruF tb e (k + 1) m = if clG tb e (rPos tb e m) m ≠ 0 then clG tb e (rPos tb e m) m else if e ≤ clQ tb e (rPos tb e m) then 0 else ruF tb e k (m + 1) := by
  show (if clF tb e (rPos tb e m) m ≠ 0 then clF tb e (rPos tb e m) m else if e ≤ clQ tb e (rPos tb e m) then 0 else if hr tb e (clQ tb e (rPos tb e m)) ≠ 59 then 100 + clQ tb e (rPos tb e m) else ruF tb e k (m + 1)) = _
  unfold clG
  by_cases h1 : clF tb e (rPos tb e m) m ≠ 0
  · simp only [if_pos h1]
  · simp only [if_neg h1]
    unfold enF
    by_cases h2 : e ≤ clQ tb e (rPos tb e m)
    · simp [h2]
    · by_cases h3 : hr tb e (clQ tb e (rPos tb e m)) = 59
      · simp [h2, h3]
      · simp [h2, h3]
def S5_read : z_PT := fun as P nx K => ∃ (tb : Nat → Nat) (tl e0 e p x q : Nat) (kc sc : Nat → Int32) (le gr : Nat → Nat → Int32) (n : Nat), as = [.ref 23, .int (nI e), .ref q] ∧ z_in (zT tb tl e0 p x) P ∧ zRu q kc sc le gr n P ∧ 24 ≤ q ∧ tl ≤ 120 ∧ e ≤ tl ∧ (∀ i, tb i < 256) ∧ ∀ (p' x' n' : Nat) (kc' sc' : Nat → Int32) (le' gr' : Nat → Nat → Int32) (P' : z_H), (rdF tb e = 0 → n' = rdN tb e ∧ n' ≤ 9 ∧ ∀ m, m < n' → gC tb e (rPos tb e m) (kc' m) (sc' m) (le' m) (gr' m) ∧ clF tb e (rPos tb e m) m = 0) → z_in (zT tb tl e p' x') P' → zRu q kc' sc' le' gr' n' P' → z_out (zTQ q) P P' → K (some (.int (nI (rdF tb e)))) P' nx
theorem sp5_read (l : Launch) : z_Sp l M5_read rM5_read S5_read := by
  refine z_enter (by decide) (fun as P nx K h => ?_) (fun X K as P nx hX hE hin0 hS => ?_)
  · obtain ⟨tb, tl, e0, e, p, x, q, kc, sc, le, gr, n, rfl, -⟩ := h
    exact Nat.le_of_ble_eq_true rfl
  obtain ⟨tb, tl, e0, e, p, x, q, kc, sc, le, gr, n, rfl, hM, hU, p1, p2, p3, p5, hK⟩ := hS
  refine z_pad 3 ?_
  show z_W X 0 [some (.ref 23), some (.int (nI e)), some (.ref q), none, none, none] [] P nx 0 0
  obtain ⟨P0, hP0⟩ : ∃ P0, P0 = P := ⟨_, rfl⟩
  rw [← hP0] at hK
  have hO : z_out (zTQ q) P0 P := by rw [hP0]; exact z_out.rf
  have ext : ∀ (c f p' x' n' : Nat) (kc' sc' : Nat → Int32) (le' gr' : Nat → Nat → Int32) (P : z_H), rdF tb e = f → (rdF tb e = 0 → n' = rdN tb e ∧ n' ≤ 9 ∧ ∀ m, m < n' → gC tb e (rPos tb e m) (kc' m) (sc' m) (le' m) (gr' m) ∧ clF tb e (rPos tb e m) m = 0) → z_in (zT tb tl e p' x') P → zRu q kc' sc' le' gr' n' P → z_out (zTQ q) P0 P → z_W X 31 [some (.ref 23), some (.int (nI e)), some (.ref q), some (.int (nI f)), some (.int 0), some (.int (nI c))] [] P nx 0 0 := by
    intro c f p' x' n' kc' sc' le' gr' P hf hr1 hM hU hO
    refine z_iload hX d5_read_31 rfl ?_
    refine z_if_eq hX 90 d5_read_33 (by decide) (fun h33 => ?_) (fun h33 => ?_)
    rotate_left
    · exact absurd rfl h33
    refine z_iload_n hX d5_read_90 rfl ?_
    refine z_iret hX hE (by decide) (by decide) d5_read_91 ?_
    rw [← hf]
    exact hK _ _ _ _ _ _ _ _ hr1 hM hU hO
  have mo1 : ∀ (c f p' x' n' : Nat) (kc' sc' : Nat → Int32) (le' gr' : Nat → Nat → Int32) (P : z_H), z_in (zT tb tl e p' x') P → zRu q kc' sc' le' gr' n' P → z_out (zTQ q) P0 P → (∀ P, z_in (zT tb tl e (p' + 1) x') P → zRu q kc' sc' le' gr' n' P → z_out (zTQ q) P0 P → z_W X 31 [some (.ref 23), some (.int (nI e)), some (.ref q), some (.int (nI f)), some (.int 1), some (.int (nI (c + 1)))] [] P nx 0 0) → z_W X 69 [some (.ref 23), some (.int (nI e)), some (.ref q), some (.int (nI f)), some (.int 1), some (.int (nI c))] [] P nx 0 0 := by
    intro c f p' x' n' kc' sc' le' gr' P hM hU hO cont
    refine z_iload hX d5_read_69 rfl ?_
    refine z_if_eq hX 84 d5_read_71 (by decide) (fun h71 => ?_) (fun h71 => ?_)
    · exact absurd h71 (by decide)
    refine z_aload_n hX d5_read_74 rfl ?_
    refine z_dup hX rfl d5_read_75 ?_
    refine z_get hX lf_5_19 (hM _ _ rfl) rfl d5_read_76 ?_
    refine z_iconst hX (1) d5_read_79 (by decide) ?_
    refine z_iadd hX d5_read_80 ?_
    rw [nI_1]
    refine z_puti hX lf_5_19 rfl rfl (hM _ _ rfl) (Nat.le_of_ble_eq_true rfl) d5_read_81 ?_
    refine z_genU hM hO (zTQ_t rfl) hU (by omega) (fun P hM hO hU => ?_)
    have hM := zT_s23 hM
    refine z_iinc hX (1) (by decide) rfl (by decide) d5_read_84 ?_
    dsimp only [z_p1, z_p2, z_k, List.headD, List.tail]
    refine z_goto hX 31 d5_read_87 (by decide) ?_
    rw [nI_1]
    exact cont P hM hU hO
  have mo0 : ∀ (c f : Nat) (P : z_H), z_W X 31 [some (.ref 23), some (.int (nI e)), some (.ref q), some (.int (nI f)), some (.int 0), some (.int (nI (c + 1)))] [] P nx 0 0 → z_W X 69 [some (.ref 23), some (.int (nI e)), some (.ref q), some (.int (nI f)), some (.int 0), some (.int (nI c))] [] P nx 0 0 := by
    intro c f P cont
    refine z_iload hX d5_read_69 rfl ?_
    refine z_if_eq hX 84 d5_read_71 (by decide) (fun h71 => ?_) (fun h71 => ?_)
    rotate_left
    · exact absurd rfl h71
    refine z_iinc hX (1) (by decide) rfl (by decide) d5_read_84 ?_
    dsimp only [z_p1, z_p2, z_k, List.headD, List.tail]
    refine z_goto hX 31 d5_read_87 (by decide) ?_
    rw [nI_1]
    exact cont
  have loop : ∀ (k m x f : Nat) (kc' sc' : Nat → Int32) (le' gr' : Nat → Nat → Int32) (P : z_H), m + k = 9 → rPos tb e m < 700 → (∀ i, i < m → gC tb e (rPos tb e i) (kc' i) (sc' i) (le' i) (gr' i) ∧ clF tb e (rPos tb e i) i = 0) → rdF tb e = ruF tb e (k + 1) m → rdN tb e = ruN tb e (k + 1) m → z_in (zT tb tl e (rPos tb e m) x) P → zRu q kc' sc' le' gr' m P → z_out (zTQ q) P0 P → z_W X 31 [some (.ref 23), some (.int (nI e)), some (.ref q), some (.int (nI f)), some (.int 1), some (.int (nI m))] [] P nx 0 0 := by
    intro k
    induction k using Nat.strongRecOn with
    | ind k ih =>
      intro m x f kc' sc' le' gr' P hi hp hG t1 t2 hM hU hO
      refine z_iload hX d5_read_31 rfl ?_
      refine z_if_eq hX 90 d5_read_33 (by decide) (fun h33 => ?_) (fun h33 => ?_)
      · exact absurd h33 (by decide)
      refine z_iload hX d5_read_36 rfl ?_
      refine z_bipush hX (9) d5_read_38 (by decide) ?_
      refine z_icmp_gt hX 90 d5_read_40 (by decide) (fun h40 => ?_) (fun h40 => ?_)
      · rw [i_lt, nI_toInt (by omega), show (9 : Int32).toInt = 9 from rfl] at h40
        omega
      refine z_aload_n hX d5_read_43 rfl ?_
      refine z_aload_n hX d5_read_44 rfl ?_
      refine z_callV1 hX (sp5_readClause l) lm_5_27 (hM _ _ rfl) ⟨by decide, by decide, by decide, by decide⟩ (Nat.le_of_ble_eq_true rfl) d5_read_45 ?_
      refine ⟨tb, tl, e, rPos tb e m, _, q, kc', sc', le', gr', m, rfl, hM, hU, p1, p2, p3, by omega, p5, by omega, fun p' x' n' kc2 sc2 le2 gr2 P' hr1 hM hU hO1 => ?_⟩
      have hO := hO.tr hO1
      have hcl := clG_lt (tb := tb) (e := e) (p := rPos tb e m) (m := m) (by omega) (by omega)
      rw [ruF_s] at t1
      dsimp only [Option.toList, List.cons_append, List.nil_append]
      refine z_istore_n hX 3 rfl (by decide) d5_read_48 ?_
      dsimp only [z_p1, z_p2, z_k, List.headD, List.tail]
      refine z_iload_n hX d5_read_49 rfl ?_
      refine z_if_ne hX 66 d5_read_50 (by decide) (fun h50 => ?_) (fun h50 => ?_)
      · skip
        rw [nI_n0 (by omega)] at h50
        rw [if_pos h50] at t1
        refine z_iconst hX (0) d5_read_66 (by decide) ?_
        refine z_istore hX (by decide) d5_read_67 ?_
        dsimp only [z_p1, z_p2, z_k, List.headD, List.tail]
        first
          | (refine z_sub (mo1 m _ _ _ _ _ _ _ _ _ hM hU hO (fun P hM hU hO => ih (k - 1) (by omega) (m + 1) _ _ _ _ _ _ P (by omega) (by show clQ tb e (rPos tb e m) + 1 < 700; omega) hG (by rw [show k - 1 + 1 = k by omega]; exact t1) (by rw [show k - 1 + 1 = k by omega]; exact t2) hM hU hO)) (by repeat' (first | exact trivial | refine ⟨rfl, ?_⟩)); done)
          | (refine mo0 m _ _ (ext (m + 1) _ _ _ _ _ _ _ _ _ t1 (fun z => absurd (t1.symm.trans z) h50) hM hU hO); done)
          | (rw [h50]; refine mo0 m _ _ (ext (m + 1) 0 _ _ _ _ _ _ _ _ t1 (fun z => ⟨t2.symm, by omega, hG⟩) hM hU hO); done)
      · skip
        rw [nI_n0 (by omega)] at h50
        obtain ⟨rfl, rfl, r1, r2⟩ := hr1 h50
        rw [if_neg (fun z => z h50)] at t1
        obtain ⟨c1, c2⟩ := clG_0 h50
        have c3 := clQ_le c1
        have c4 := (clF_lt c1).2.1
        have hG : ∀ i, i < m + 1 → gC tb e (rPos tb e i) (kc2 i) (sc2 i) (le2 i) (gr2 i) ∧ clF tb e (rPos tb e i) i = 0 := by
          intro i hi
          by_cases z : i = m
          · rw [z]; exact ⟨r1, c1⟩
          · obtain ⟨z1, z2, z3, z4⟩ := r2 i (by omega)
            rw [z1, z2, z3, z4]
            exact hG i (by omega)
        refine z_aload_n hX d5_read_53 rfl ?_
        refine z_callV0 hX (sp5_sign l) lm_5_31 (hM _ _ rfl) ⟨by decide, by decide, by decide, by decide⟩ (Nat.le_of_ble_eq_true rfl) d5_read_54 ?_
        refine ⟨tb, tl, e, _, _, rfl, hM, p2, p3, by omega, ?_⟩
        dsimp only [Option.toList, List.cons_append, List.nil_append]
        refine z_bipush hX (59) d5_read_57 (by decide) ?_
        refine z_icmp_ne hX 66 d5_read_59 (by decide) (fun h59 => ?_) (fun h59 => ?_)
        · skip
          rw [show (59 : Int32) = nI 59 from rfl, sg_eq p5 _ _ _ (by omega) (by omega)] at h59
          rw [if_pos (c2.resolve_right h59)] at t1
          rw [show ruN tb e (k + 1) m = m + 1 from if_pos (c2.resolve_right h59)] at t2
          refine z_iconst hX (0) d5_read_66 (by decide) ?_
          refine z_istore hX (by decide) d5_read_67 ?_
          dsimp only [z_p1, z_p2, z_k, List.headD, List.tail]
          first
            | (refine z_sub (mo1 m _ _ _ _ _ _ _ _ _ hM hU hO (fun P hM hU hO => ih (k - 1) (by omega) (m + 1) _ _ _ _ _ _ P (by omega) (by show clQ tb e (rPos tb e m) + 1 < 700; omega) hG (by rw [show k - 1 + 1 = k by omega]; exact t1) (by rw [show k - 1 + 1 = k by omega]; exact t2) hM hU hO)) (by repeat' (first | exact trivial | refine ⟨rfl, ?_⟩)); done)
            | (refine mo0 m _ _ (ext (m + 1) _ _ _ _ _ _ _ _ _ t1 (fun z => absurd (t1.symm.trans z) h50) hM hU hO); done)
            | (rw [h50]; refine mo0 m _ _ (ext (m + 1) 0 _ _ _ _ _ _ _ _ t1 (fun z => ⟨t2.symm, by omega, hG⟩) hM hU hO); done)
        · skip
          rw [show (59 : Int32) = nI 59 from rfl, sg_eq p5 _ _ _ (by omega) (by omega)] at h59
          have c5 : clQ tb e (rPos tb e m) < e := hr_in (show hr tb e (clQ tb e (rPos tb e m)) ≠ 0 by omega)
          rw [if_neg (by omega)] at t1
          rw [show ruN tb e (k + 1) m = ruN tb e k (m + 1) from if_neg (by omega)] at t2
          refine z_iconst hX (1) d5_read_62 (by decide) ?_
          refine z_goto hX 67 d5_read_63 (by decide) ?_
          refine z_istore hX (by decide) d5_read_67 ?_
          dsimp only [z_p1, z_p2, z_k, List.headD, List.tail]
          first
            | (refine z_sub (mo1 m _ _ _ _ _ _ _ _ _ hM hU hO (fun P hM hU hO => ih (k - 1) (by omega) (m + 1) _ _ _ _ _ _ P (by omega) (by show clQ tb e (rPos tb e m) + 1 < 700; omega) hG (by rw [show k - 1 + 1 = k by omega]; exact t1) (by rw [show k - 1 + 1 = k by omega]; exact t2) hM hU hO)) (by repeat' (first | exact trivial | refine ⟨rfl, ?_⟩)); done)
            | (refine mo0 m _ _ (ext (m + 1) _ _ _ _ _ _ _ _ _ t1 (fun z => absurd (t1.symm.trans z) h50) hM hU hO); done)
            | (rw [h50]; refine mo0 m _ _ (ext (m + 1) 0 _ _ _ _ _ _ _ _ t1 (fun z => ⟨t2.symm, by omega, hG⟩) hM hU hO); done)
  refine z_aload_n hX d5_read_0 rfl ?_
  refine z_iload_n hX d5_read_1 rfl ?_
  refine z_puti hX lf_5_15 rfl rfl (hM _ _ rfl) (Nat.le_of_ble_eq_true rfl) d5_read_2 ?_
  refine z_genU hM hO (zTQ_t rfl) hU (by omega) (fun P hM hO hU => ?_)
  have hM := zT_s23 hM
  refine z_aload_n hX d5_read_5 rfl ?_
  refine z_iconst hX (0) d5_read_6 (by decide) ?_
  refine z_puti hX lf_5_19 rfl rfl (hM _ _ rfl) (Nat.le_of_ble_eq_true rfl) d5_read_7 ?_
  refine z_genU hM hO (zTQ_t rfl) hU (by omega) (fun P hM hO hU => ?_)
  have hM := zT_s23 (p2 := 0) hM
  refine z_aload_n hX d5_read_10 rfl ?_
  refine z_iconst hX (0) d5_read_11 (by decide) ?_
  refine z_puti hX lf_5_22 rfl rfl hU.1 (Nat.le_of_ble_eq_true rfl) d5_read_12 ?_
  have hU := zRu_n (m := 0) hU
  have hO1 : z_out (zQ q) P (z_up P q (.inr (4, [.ref (q + 1), .ref (q + 2), .ref (q + 3), .ref (q + 13), .int (nI 0)]))) := z_out.rf.up (zDr_t (by omega) (by omega))
  have hM := zT_q hM p1 hO1
  have hO := hO.tr (zTQ_2 hO1)
  refine z_iconst hX (0) d5_read_15 (by decide) ?_
  refine z_istore_n hX 3 rfl (by decide) d5_read_16 ?_
  dsimp only [z_p1, z_p2, z_k, List.headD, List.tail]
  refine z_iload_n hX d5_read_17 rfl ?_
  refine z_if_le hX 25 d5_read_18 (by decide) (fun h18 => ?_) (fun h18 => ?_)
  · skip
    rw [i_le, nI_toInt (by omega), show (0 : Int32).toInt = 0 from rfl] at h18
    have h0 : e = 0 := by omega
    refine z_iconst hX (0) d5_read_25 (by decide) ?_
    refine z_istore hX (by decide) d5_read_26 ?_
    dsimp only [z_p1, z_p2, z_k, List.headD, List.tail]
    refine z_iconst hX (0) d5_read_28 (by decide) ?_
    refine z_istore hX (by decide) d5_read_29 ?_
    dsimp only [z_p1, z_p2, z_k, List.headD, List.tail]
    first
      | (refine ext 0 0 _ _ 0 _ _ _ _ _ (if_pos h0) (fun _ => ⟨(if_pos h0).symm, by omega, fun m hm => absurd hm (Nat.not_lt_zero m)⟩) hM hU hO; done)
      | (refine loop 9 0 _ 0 _ _ _ _ _ (by omega) (show 0 < 700 by decide) (fun m hm => absurd hm (Nat.not_lt_zero m)) (if_neg (by omega)) (if_neg (by omega)) hM hU hO; done)
  · skip
    rw [i_le, nI_toInt (by omega), show (0 : Int32).toInt = 0 from rfl] at h18
    refine z_iconst hX (1) d5_read_21 (by decide) ?_
    refine z_goto hX 26 d5_read_22 (by decide) ?_
    refine z_istore hX (by decide) d5_read_26 ?_
    dsimp only [z_p1, z_p2, z_k, List.headD, List.tail]
    refine z_iconst hX (0) d5_read_28 (by decide) ?_
    refine z_istore hX (by decide) d5_read_29 ?_
    dsimp only [z_p1, z_p2, z_k, List.headD, List.tail]
    first
      | (refine ext 0 0 _ _ 0 _ _ _ _ _ (if_pos h0) (fun _ => ⟨(if_pos h0).symm, by omega, fun m hm => absurd hm (Nat.not_lt_zero m)⟩) hM hU hO; done)
      | (refine loop 9 0 _ 0 _ _ _ _ _ (by omega) (show 0 < 700 by decide) (fun m hm => absurd hm (Nat.not_lt_zero m)) (if_neg (by omega)) (if_neg (by omega)) hM hU hO; done)
