/-! THE MODEL: rules, kinds of vehicles, pass -/
def gK (A : Nat → Nat → Int32) (c : Nat) (f g w : Nat → Int32) : Prop := ∀ i, i < c → f i = A 85 i ∧ g i = A 86 i ∧ ∀ j, j < 8 → w (8 * i + j) = A 87 (8 * i + j)
def S8_rules : z_PT := fun as P nx K => ∃ (iv : Nat → Int32) (h : Nat → Bool) (a : Nat → Nat → Int32) (ld : Nat → Int64) (tb : Nat → Nat) (t : Nat) (n : Int32), as = [.ref 70, .int n] ∧ z_in (zM iv h a ld) P ∧ iv 1 = nI t ∧ t ≤ 120 ∧ mT tb a ∧ (n.toInt < 0 ∨ (t : Int) < n.toInt → K (some (.int (-1))) P nx) ∧ ∀ e : Nat, n = nI e → e ≤ t → ∀ (iv' : Nat → Int32) (a' : Nat → Nat → Int32) (P' : z_H), iv' 1 = 0 → iv' 2 = iv 2 → iv' 3 = iv 3 → (∀ k, k < 82 ∨ 87 < k → a' k = a k) → (rdF tb e ≠ 0 → iv' 14 = iv 14 ∧ a' 82 = a 82 ∧ a' 83 = a 83 ∧ a' 84 = a 84) → (rdF tb e = 0 → iv' 14 = nI (rdN tb e) ∧ rdN tb e ≤ 9 ∧ ∀ m, m < rdN tb e → gC tb e (rPos tb e m) (a' 82 m) (a' 83 m) (fun j => a' 84 (8 * m + 2 * j)) (fun j => a' 84 (8 * m + 2 * j + 1)) ∧ clF tb e (rPos tb e m) m = 0) → z_in (zM iv' h a' ld) P' → z_out zDm P P' → K (some (.int (nI (rdF tb e)))) P' nx
theorem nI_8a (c j : Nat) : (8 : Int32) * nI c + nI j = nI (8 * c + j) := nI_ml 8 c j
/-- what stays while rules are read -/
def rKp (iv iv' : Nat → Int32) (a a' : Nat → Nat → Int32) (e : Nat) : Prop := iv' 1 = 0 ∧ iv' 2 = iv 2 ∧ iv' 3 = iv 3 ∧ iv' 14 = iv 14 ∧ iv' 25 = nI e ∧ axr a a'
theorem rk_1 {A : Nat → Nat → Int32} {f g w f' g' : Nat → Int32} : va_up (va_up (va_up A 82 f') 83 g') 84 w = va_up (va_up (va_up (va_up (va_up A 82 f) 83 g) 84 w) 82 f') 83 g' := by
  funext j
  by_cases h1 : j = 82
  · subst h1; rfl
  · by_cases h2 : j = 83
    · subst h2; rfl
    · by_cases h3 : j = 84
      · subst h3; rfl
      · simp [va_up, h1, h2, h3]
theorem rk_0 {A : Nat → Nat → Int32} : va_up (va_up (va_up A 82 (A 82)) 83 (A 83)) 84 (A 84) = A := by
  funext j
  by_cases h1 : j = 82
  · subst h1; rfl
  · by_cases h2 : j = 83
    · subst h2; rfl
    · by_cases h3 : j = 84
      · subst h3; rfl
      · simp [va_up, h1, h2, h3]
theorem clF_lt2 {tb : Nat → Nat} {e p m : Nat} (he : e ≤ 120) (hp : p < 700) : clF tb e p m < 4000 := by
  have h1 := ssF_lt (tb := tb) he 4 (p + 1) (by omega)
  unfold clF
  repeat' split
  all_goals omega
theorem sp8_rules (l : Launch) : z_Sp l M8_rules rM8_rules S8_rules := by
  refine z_enter (by decide) (fun as P nx K h => ?_) (fun X K as P nx hX hE hin0 hS => ?_)
  · obtain ⟨iv, h, a, ld, tb, t, n, rfl, -⟩ := h
    exact Nat.le_of_ble_eq_true rfl
  obtain ⟨iv, h, a, ld, tb, t, n, rfl, hM, p2, p3, p4, hB, hK⟩ := hS
  refine z_pad 3 ?_
  show z_W X 0 [some (.ref 70), some (.int n), none, none, none] [] P nx 0 0
  obtain ⟨P0, hP0⟩ : ∃ P0, P0 = P := ⟨_, rfl⟩
  have hO : z_out zDm P0 P := by rw [hP0]; exact z_out.rf
  by_cases hn : n.toInt < 0 ∨ (t : Int) < n.toInt
  · skip
    refine z_iload_n hX d8_rules_0 rfl ?_
    refine z_if_lt hX 12 d8_rules_1 (by decide) (fun h1 => ?_) (fun h1 => ?_)
    · skip
      refine z_iconst hX (-1) d8_rules_12 (by decide) ?_
      refine z_iret hX hE (by decide) (by decide) d8_rules_13 ?_
      exact hB hn
    · skip
      rw [i_lt, show (0 : Int32).toInt = 0 from rfl] at h1
      refine z_iload_n hX d8_rules_4 rfl ?_
      refine z_aload_n hX d8_rules_5 rfl ?_
      refine z_get hX lf_8_172 (hM _ _ rfl) rfl d8_rules_6 ?_
      rw [p2]
      refine z_icmp_le hX 14 d8_rules_9 (by decide) (fun h9 => ?_) (fun h9 => ?_)
      · rw [i_le, nI_toInt (by omega)] at h9
        omega
      refine z_iconst hX (-1) d8_rules_12 (by decide) ?_
      refine z_iret hX hE (by decide) (by decide) d8_rules_13 ?_
      exact hB hn
  obtain ⟨e, he, rfl⟩ : ∃ e : Nat, e < t + 1 ∧ n = nI e := nI_rng (by omega) (by omega)
  have hK := hK e rfl (by omega)
  rw [← hP0] at hK
  have fail : ∀ (iv' : Nat → Int32) (a' : Nat → Nat → Int32) (P : z_H) (b : Nat), rKp iv iv' a a' e → b ≠ 0 → b < 2 ^ 30 → rdF tb e = b → iv' 26 = nI b → z_in (zM iv' h a' ld) P → z_out zDm P0 P → z_W X 101 [some (.ref 70), some (.int (nI e)), none, none, none] [] P nx 0 0 := by
    intro iv' a' P b hk hb0 hbl hf hb hM hO
    refine z_aload_n hX d8_rules_101 rfl ?_
    refine z_get hX lf_8_185 (hM _ _ rfl) rfl d8_rules_102 ?_
    rw [hb]
    refine z_if_le hX 113 d8_rules_105 (by decide) (fun h105 => ?_) (fun h105 => ?_)
    · rw [i_le, nI_toInt (by omega), show (0 : Int32).toInt = 0 from rfl] at h105
      omega
    refine z_aload_n hX d8_rules_108 rfl ?_
    refine z_get hX lf_8_185 (hM _ _ rfl) rfl d8_rules_109 ?_
    rw [hb, ← hf]
    refine z_iret hX hE (by decide) (by decide) d8_rules_112 ?_
    obtain ⟨k1, k2, k3, k4, k5, k6⟩ := hk
    exact hK iv' a' P k1 k2 k3 (fun k h1 => k6 k (by omega) (by omega) (by omega)) (fun _ => ⟨k4, k6 82 (by decide) (by decide) (by decide), k6 83 (by decide) (by decide) (by decide), k6 84 (by decide) (by decide) (by decide)⟩) (fun z => absurd (hf.symm.trans z) hb0) hM hO
  have good : ∀ (iv' : Nat → Int32) (A : Nat → Nat → Int32) (P : z_H) (N : Nat), rKp iv iv' a A e → rdF tb e = 0 → rdN tb e = N → N ≤ 9 → (∀ i, i < N → gM tb e (rPos tb e i) i A ∧ clF tb e (rPos tb e i) i = 0) → iv' 26 = 0 → iv' 15 = nI N → z_in (zM iv' h A ld) P → z_out zDm P0 P → z_W X 101 [some (.ref 70), some (.int (nI e)), none, none, none] [] P nx 0 0 := by
    intro iv' A P N hk hf hN hN9 hG hb hrd hM hO
    have hrd : (va_up iv' 14 (nI N)) 15 = nI N := hrd
    have outer : ∀ (k c : Nat) (f g w : Nat → Int32) (P : z_H), c + k = N → gK A c f g w → z_in (zM (va_up iv' 14 (nI N)) h (va_up (va_up (va_up A 82 f) 83 g) 84 w) ld) P → z_out zDm P0 P → z_W X 123 [some (.ref 70), some (.int (nI e)), none, some (.int (nI c)), none] [] P nx 0 0 := by
      intro k
      induction k with
      | zero =>
        intro c f g w P hc hg hM hO
        have hc : c = N := by omega
        subst hc
        refine z_iload_n hX d8_rules_123 rfl ?_
        refine z_aload_n hX d8_rules_124 rfl ?_
        refine z_get hX lf_8_203 (hM _ _ rfl) rfl d8_rules_125 ?_
        rw [hrd]
        refine z_icmp_ge hX 201 d8_rules_128 (by decide) (fun h128 => ?_) (fun h128 => ?_)
        rotate_left
        · exact absurd (Int32.le_refl _) h128
        refine z_iconst hX (0) d8_rules_201 (by decide) ?_
        refine z_iret hX hE (by decide) (by decide) d8_rules_202 ?_
        obtain ⟨k1, k2, k3, k4, k5, k6⟩ := hk
        rw [hf] at hK
        refine hK (va_up iv' 14 (nI c)) _ P k1 k2 k3 (fun k h1 => ?_) (fun z => absurd rfl z) (fun _ => ⟨by rw [hN]; rfl, by omega, fun m hm => ?_⟩) hM hO
        · simp only [va_up, if_neg (show ¬ k = 84 by omega), if_neg (show ¬ k = 83 by omega), if_neg (show ¬ k = 82 by omega)]
          exact k6 k (by omega) (by omega) (by omega)
        · obtain ⟨⟨z1, z2, z3⟩, z4⟩ := hG m (by omega)
          obtain ⟨w1, w2, w3⟩ := hg m (by omega)
          have z7 := ssN_le (tb := tb) (e := e) 4 (rPos tb e m + 1)
          refine ⟨⟨w1.trans z1, w2.trans z2, fun j hj => ?_⟩, z4⟩
          show w (8 * m + 2 * j) = _ ∧ w (8 * m + 2 * j + 1) = _
          rw [w3 (2 * j) (by omega), show 8 * m + 2 * j + 1 = 8 * m + (2 * j + 1) from rfl, w3 (2 * j + 1) (by omega)]
          exact z3 j hj
      | succ k ihk =>
        intro c f g w P hc hg hM hO
        have inner : ∀ (k2 j : Nat) (w : Nat → Int32) (P : z_H), j + k2 = 8 → (∀ i, i < c → ∀ j', j' < 8 → w (8 * i + j') = A 87 (8 * i + j')) → (∀ j', j' < j → w (8 * c + j') = A 87 (8 * c + j')) → z_in (zM (va_up iv' 14 (nI N)) h (va_up (va_up (va_up A 82 (upd f c (A 85 c))) 83 (upd g c (A 86 c))) 84 w) ld) P → z_out zDm P0 P → z_W X 158 [some (.ref 70), some (.int (nI e)), none, some (.int (nI c)), some (.int (nI j))] [] P nx 0 0 := by
          intro k2
          induction k2 with
          | zero =>
            intro j w P hj0 hw hj hM hO
            have hj8 : j = 8 := by omega
            subst hj8
            refine z_iload hX d8_rules_158 rfl ?_
            refine z_bipush hX (8) d8_rules_160 (by decide) ?_
            refine z_icmp_ge hX 195 d8_rules_162 (by decide) (fun h162 => ?_) (fun h162 => ?_)
            rotate_left
            · exact absurd (by decide) h162
            refine z_iinc hX (1) (by decide) rfl (by decide) d8_rules_195 ?_
            dsimp only [z_p1, z_p2, z_k, List.headD, List.tail]
            refine z_goto hX 123 d8_rules_198 (by decide) ?_
            rw [nI_1]
            refine z_sub (ihk (c + 1) _ _ w P (by omega) (fun i hi => ?_) hM hO) (by repeat' (first | exact trivial | refine ⟨rfl, ?_⟩))
            by_cases r : i = c
            · subst r
              exact ⟨by simp [upd], by simp [upd], hj⟩
            · obtain ⟨w1, w2, w3⟩ := hg i (by omega)
              exact ⟨by simp only [upd, if_neg r]; exact w1, by simp only [upd, if_neg r]; exact w2, hw i (by omega)⟩
          | succ k2 ih =>
            intro j w P hj0 hw hj hM hO
            refine z_iload hX d8_rules_158 rfl ?_
            refine z_bipush hX (8) d8_rules_160 (by decide) ?_
            refine z_icmp_ge hX 195 d8_rules_162 (by decide) (fun h162 => ?_) (fun h162 => ?_)
            · exact absurd h162 (nI_ge (b := 8) (by omega) (by decide))
            refine z_aload_n hX d8_rules_165 rfl ?_
            refine z_get hX lf_8_51 (hM _ _ rfl) rfl d8_rules_166 ?_
            refine z_bipush hX (8) d8_rules_169 (by decide) ?_
            refine z_iload_n hX d8_rules_171 rfl ?_
            refine z_imul hX d8_rules_172 ?_
            refine z_iload hX d8_rules_173 rfl ?_
            refine z_iadd hX d8_rules_175 ?_
            refine z_aload_n hX d8_rules_176 rfl ?_
            refine z_get hX lf_8_60 (hM _ _ rfl) rfl d8_rules_177 ?_
            refine z_bipush hX (8) d8_rules_180 (by decide) ?_
            refine z_iload_n hX d8_rules_182 rfl ?_
            refine z_imul hX d8_rules_183 ?_
            refine z_iload hX d8_rules_184 rfl ?_
            refine z_iadd hX d8_rules_186 ?_
            rw [nI_8a]
            refine z_iald hX (hM _ _ rfl) (vp_in_nI (by omega) (by decide)) d8_rules_187 ?_
            rw [nI_clamp (show 8 * c + j < 2 ^ 31 by omega)]
            refine z_iast hX (hM _ _ rfl) (vp_in_nI (by omega) (by decide)) d8_rules_188 ?_
            rw [nI_clamp (show 8 * c + j < 2 ^ 31 by omega)]
            refine z_gen hM hO rfl (fun P hM hO => ?_)
            have hM := zM_s84 hM
            rw [va_upup] at hM
            refine z_iinc hX (1) (by decide) rfl (by decide) d8_rules_189 ?_
            dsimp only [z_p1, z_p2, z_k, List.headD, List.tail]
            refine z_goto hX 158 d8_rules_192 (by decide) ?_
            rw [nI_1]
            refine ih (j + 1) _ P (by omega) (fun i hi j' hj' => ?_) (fun j' hj' => ?_) hM hO
            · simp only [upd, if_neg (show ¬ 8 * i + j' = 8 * c + j by omega)]
              exact hw i hi j' hj'
            · by_cases r : j' = j
              · subst r
                simp [upd, va_up]
              · simp only [upd, if_neg (show ¬ 8 * c + j' = 8 * c + j by omega)]
                exact hj j' (by omega)
        refine z_iload_n hX d8_rules_123 rfl ?_
        refine z_aload_n hX d8_rules_124 rfl ?_
        refine z_get hX lf_8_203 (hM _ _ rfl) rfl d8_rules_125 ?_
        rw [hrd]
        refine z_icmp_ge hX 201 d8_rules_128 (by decide) (fun h128 => ?_) (fun h128 => ?_)
        · exact absurd h128 (nI_ge (by omega) (by omega))
        refine z_aload_n hX d8_rules_131 rfl ?_
        refine z_get hX lf_8_45 (hM _ _ rfl) rfl d8_rules_132 ?_
        refine z_iload_n hX d8_rules_135 rfl ?_
        refine z_aload_n hX d8_rules_136 rfl ?_
        refine z_get hX lf_8_54 (hM _ _ rfl) rfl d8_rules_137 ?_
        refine z_iload_n hX d8_rules_140 rfl ?_
        refine z_iald hX (hM _ _ rfl) (vp_in_nI (by omega) (by decide)) d8_rules_141 ?_
        rw [nI_clamp (show c < 2 ^ 31 by omega)]
        refine z_iast hX (hM _ _ rfl) (vp_in_nI (by omega) (by decide)) d8_rules_142 ?_
        rw [nI_clamp (show c < 2 ^ 31 by omega)]
        refine z_gen hM hO rfl (fun P hM hO => ?_)
        have hM := zM_s82 hM
        refine z_aload_n hX d8_rules_143 rfl ?_
        refine z_get hX lf_8_48 (hM _ _ rfl) rfl d8_rules_144 ?_
        refine z_iload_n hX d8_rules_147 rfl ?_
        refine z_aload_n hX d8_rules_148 rfl ?_
        refine z_get hX lf_8_57 (hM _ _ rfl) rfl d8_rules_149 ?_
        refine z_iload_n hX d8_rules_152 rfl ?_
        refine z_iald hX (hM _ _ rfl) (vp_in_nI (by omega) (by decide)) d8_rules_153 ?_
        rw [nI_clamp (show c < 2 ^ 31 by omega)]
        refine z_iast hX (hM _ _ rfl) (vp_in_nI (by omega) (by decide)) d8_rules_154 ?_
        rw [nI_clamp (show c < 2 ^ 31 by omega)]
        refine z_gen hM hO rfl (fun P hM hO => ?_)
        have hM := zM_s83 hM
        refine z_iconst hX (0) d8_rules_155 (by decide) ?_
        refine z_istore hX (by decide) d8_rules_156 ?_
        dsimp only [z_p1, z_p2, z_k, List.headD, List.tail]
        exact z_sub (inner 8 0 w P (by omega) (fun i hi => (hg i hi).2.2) (fun j hj => absurd hj (Nat.not_lt_zero j)) (by rw [rk_1]; exact hM) hO) (by repeat' (first | exact trivial | refine ⟨rfl, ?_⟩))
    refine z_aload_n hX d8_rules_101 rfl ?_
    refine z_get hX lf_8_185 (hM _ _ rfl) rfl d8_rules_102 ?_
    rw [hb]
    refine z_if_le hX 113 d8_rules_105 (by decide) (fun h105 => ?_) (fun h105 => ?_)
    rotate_left
    · exact absurd (Int32.le_refl 0) h105
    refine z_aload_n hX d8_rules_113 rfl ?_
    refine z_aload_n hX d8_rules_114 rfl ?_
    refine z_get hX lf_8_203 (hM _ _ rfl) rfl d8_rules_115 ?_
    rw [show iv' 15 = nI N from hrd]
    refine z_puti hX lf_8_215 rfl rfl (hM _ _ rfl) (Nat.le_of_ble_eq_true rfl) d8_rules_118 ?_
    refine z_gen hM hO rfl (fun P hM hO => ?_)
    have hM := zM_i14 hM
    refine z_iconst hX (0) d8_rules_121 (by decide) ?_
    refine z_istore_n hX 3 rfl (by decide) d8_rules_122 ?_
    dsimp only [z_p1, z_p2, z_k, List.headD, List.tail]
    exact z_sub (outer N 0 (A 82) (A 83) (A 84) P (by omega) (fun i hi => absurd hi (Nat.not_lt_zero i)) (by rw [rk_0]; exact hM) hO) (by repeat' (first | exact trivial | refine ⟨rfl, ?_⟩))
  have ex0 : ∀ {P : z_H}, z_W X 101 [some (.ref 70), some (.int (nI e)), none, none, none] [] P nx 0 0 → z_W X 88 [some (.ref 70), some (.int (nI e)), some (.int 0), none, none] [] P nx 0 0 := by
    intro P hc
    refine z_iload_n hX d8_rules_88 rfl ?_
    refine z_if_eq hX 49 d8_rules_89 (by decide) (fun h89 => ?_) (fun h89 => ?_)
    rotate_left
    · exact absurd rfl h89
    refine z_iload_n hX d8_rules_49 rfl ?_
    refine z_if_eq hX 101 d8_rules_50 (by decide) (fun h50 => ?_) (fun h50 => ?_)
    rotate_left
    · exact absurd rfl h50
    exact z_sub hc (by repeat' (first | exact trivial | refine ⟨rfl, ?_⟩))
  have ex49 : ∀ {P : z_H}, z_W X 101 [some (.ref 70), some (.int (nI e)), none, none, none] [] P nx 0 0 → z_W X 49 [some (.ref 70), some (.int (nI e)), some (.int 0), none, none] [] P nx 0 0 := by
    intro P hc
    refine z_iload_n hX d8_rules_49 rfl ?_
    refine z_if_eq hX 101 d8_rules_50 (by decide) (fun h50 => ?_) (fun h50 => ?_)
    rotate_left
    · exact absurd rfl h50
    exact z_sub hc (by repeat' (first | exact trivial | refine ⟨rfl, ?_⟩))
  have exb : ∀ {P : z_H} {iv' : Nat → Int32} {a' : Nat → Nat → Int32} {b : Nat}, z_W X 101 [some (.ref 70), some (.int (nI e)), none, none, none] [] P nx 0 0 → iv' 26 = nI b → b ≠ 0 → b < 2 ^ 30 → z_in (zM iv' h a' ld) P → z_W X 49 [some (.ref 70), some (.int (nI e)), some (.int 1), none, none] [] P nx 0 0 := by
    intro P iv' a' b hc hb hb0 hbl hM
    refine z_iload_n hX d8_rules_49 rfl ?_
    refine z_if_eq hX 101 d8_rules_50 (by decide) (fun h50 => ?_) (fun h50 => ?_)
    · exact absurd h50 (by decide)
    refine z_aload_n hX d8_rules_53 rfl ?_
    refine z_get hX lf_8_185 (hM _ _ rfl) rfl d8_rules_54 ?_
    rw [hb]
    refine z_if_ne hX 101 d8_rules_57 (by decide) (fun h57 => ?_) (fun h57 => ?_)
    rotate_left
    · exact absurd ((nI_n0 (by omega)).mp h57) hb0
    exact z_sub hc (by repeat' (first | exact trivial | refine ⟨rfl, ?_⟩))
  have ex1 : ∀ (iv' : Nat → Int32) (a' : Nat → Nat → Int32) (P : z_H) (q : Nat), rKp iv iv' a a' e → q < 700 → iv' 24 = nI q → iv' 26 = 0 → z_in (zM iv' h a' ld) P → z_out zDm P0 P → (∀ (iv3 : Nat → Int32) (P : z_H), rKp iv iv3 a a' e → iv3 24 = nI (q + 1) → iv3 26 = nI (muF tb e q 59) → iv3 15 = iv' 15 → z_in (zM iv3 h a' ld) P → z_out zDm P0 P → z_W X 49 [some (.ref 70), some (.int (nI e)), some (.int 1), none, none] [] P nx 0 0) → z_W X 88 [some (.ref 70), some (.int (nI e)), some (.int 1), none, none] [] P nx 0 0 := by
    intro iv' a' P q hk hq hpl hb hM hO cont
    obtain ⟨k1, k2, k3, k4, k5, k6⟩ := hk
    refine z_iload_n hX d8_rules_88 rfl ?_
    refine z_if_eq hX 49 d8_rules_89 (by decide) (fun h89 => ?_) (fun h89 => ?_)
    · exact absurd h89 (by decide)
    refine z_aload_n hX d8_rules_92 rfl ?_
    refine z_bipush hX (59) d8_rules_93 (by decide) ?_
    refine z_callV1 hX (sp8_must l) lm_8_206 (hM _ _ rfl) ⟨by decide, by decide, by decide, by decide⟩ (Nat.le_of_ble_eq_true rfl) d8_rules_95 ?_
    refine ⟨iv', h, a', ld, tb, e, q, 59, rfl, hM, hpl, k5, hb, by omega, by omega, p4.x (k6 71 (by decide) (by decide) (by decide)), by decide, fun iv3 P hx3 hb3 hpl3 hM hO1 => ?_⟩
    dsimp only [Option.toList, List.cons_append, List.nil_append]
    refine z_goto hX 49 d8_rules_98 (by decide) ?_
    exact cont iv3 P ⟨(hx3 1 (by decide) (by decide)).trans k1, (hx3 2 (by decide) (by decide)).trans k2, (hx3 3 (by decide) (by decide)).trans k3, (hx3 14 (by decide) (by decide)).trans k4, (hx3 25 (by decide) (by decide)).trans k5, k6⟩ hpl3 hb3 (hx3 15 (by decide) (by decide)) hM (hO.tr hO1)
  have loop : ∀ (k m : Nat) (iv' : Nat → Int32) (a' : Nat → Nat → Int32) (P : z_H), m + k = 9 → rPos tb e m < 700 → (∀ i, i < m → gM tb e (rPos tb e i) i a' ∧ clF tb e (rPos tb e i) i = 0) → rdF tb e = ruF tb e (k + 1) m → rdN tb e = ruN tb e (k + 1) m → rKp iv iv' a a' e → iv' 24 = nI (rPos tb e m) → iv' 26 = 0 → iv' 15 = nI m → z_in (zM iv' h a' ld) P → z_out zDm P0 P → z_W X 49 [some (.ref 70), some (.int (nI e)), some (.int 1), none, none] [] P nx 0 0 := by
    intro k
    induction k using Nat.strongRecOn with
    | ind k ih =>
      intro m iv' a' P hi hp hG t1 t2 hk hpl hb hrd hM hO
      have hk0 := hk
      obtain ⟨k1, k2, k3, k4, k5, k6⟩ := hk
      have hcl := clF_lt2 (tb := tb) (e := e) (p := rPos tb e m) (m := m) (by omega) (by omega)
      refine z_iload_n hX d8_rules_49 rfl ?_
      refine z_if_eq hX 101 d8_rules_50 (by decide) (fun h50 => ?_) (fun h50 => ?_)
      · exact absurd h50 (by decide)
      refine z_aload_n hX d8_rules_53 rfl ?_
      refine z_get hX lf_8_185 (hM _ _ rfl) rfl d8_rules_54 ?_
      rw [hb]
      refine z_if_ne hX 101 d8_rules_57 (by decide) (fun h57 => ?_) (fun h57 => ?_)
      · exact absurd rfl h57
      refine z_aload_n hX d8_rules_60 rfl ?_
      refine z_callV0 hX (sp8_clause l) lm_8_212 (hM _ _ rfl) ⟨by decide, by decide, by decide, by decide⟩ (Nat.le_of_ble_eq_true rfl) d8_rules_61 ?_
      refine ⟨iv', h, a', ld, tb, e, rPos tb e m, m, rfl, hM, hpl, k5, hb, hrd, by omega, hp, by omega, p4.x (k6 71 (by decide) (by decide) (by decide)), fun iv2 a2 P hi2 ha2 hb2 hr1 hM hO1 => ?_⟩
      have hO := hO.tr hO1
      have hk2 : rKp iv iv2 a a2 e := ⟨(hi2 1 (by decide) (by decide) (by decide)).trans k1, (hi2 2 (by decide) (by decide) (by decide)).trans k2, (hi2 3 (by decide) (by decide) (by decide)).trans k3, (hi2 14 (by decide) (by decide) (by decide)).trans k4, (hi2 25 (by decide) (by decide) (by decide)).trans k5, fun k h1 h2 h3 => (ha2 k h1 h2 h3).trans (k6 k h1 h2 h3)⟩
      have t1 : rdF tb e = if clF tb e (rPos tb e m) m ≠ 0 then clF tb e (rPos tb e m) m else if e ≤ clQ tb e (rPos tb e m) then 0 else if hr tb e (clQ tb e (rPos tb e m)) ≠ 59 then 100 + clQ tb e (rPos tb e m) else ruF tb e k (m + 1) := t1
      dsimp only [Option.toList, List.cons_append, List.nil_append]
      refine z_aload_n hX d8_rules_64 rfl ?_
      refine z_get hX lf_8_185 (hM _ _ rfl) rfl d8_rules_65 ?_
      rw [hb2]
      refine z_if_ne hX 86 d8_rules_68 (by decide) (fun h68 => ?_) (fun h68 => ?_)
      · skip
        rw [nI_n0 (by omega)] at h68
        rw [if_pos h68] at t1
        have fin88 : z_W X 88 [some (.ref 70), some (.int (nI e)), some (.int 0), none, none] [] P nx 0 0 := ex0 (fail iv2 a2 P _ hk2 h68 (by omega) t1 hb2 hM hO)
        refine z_iconst hX (0) d8_rules_86 (by decide) ?_
        refine z_istore_n hX 2 rfl (by decide) d8_rules_87 ?_
        dsimp only [z_p1, z_p2, z_k, List.headD, List.tail]
        exact z_sub fin88 (by repeat' (first | exact trivial | refine ⟨rfl, ?_⟩))
      · skip
        rw [nI_n0 (by omega)] at h68
        obtain ⟨r1, r2, r3, r4, r5⟩ := hr1 h68
        rw [if_neg (fun z => z h68)] at t1
        rw [h68] at hb2
        have c3 := clQ_le h68
        have c4 := (clF_lt h68).2.1
        have hG : ∀ i, i < m + 1 → gM tb e (rPos tb e i) i a2 ∧ clF tb e (rPos tb e i) i = 0 := by
          intro i hi
          by_cases z : i = m
          · rw [z]; exact ⟨r3, h68⟩
          · obtain ⟨z1, z2⟩ := r4 i (by omega)
            obtain ⟨⟨z3, z4, z5⟩, z6⟩ := hG i (by omega)
            have z7 := ssN_le (tb := tb) (e := e) 4 (rPos tb e i + 1)
            refine ⟨⟨by rw [z1]; exact z3, by rw [z2]; exact z4, fun j hj => ?_⟩, z6⟩
            show a2 87 (8 * i + 2 * j) = _ ∧ a2 87 (8 * i + 2 * j + 1) = _
            rw [r5 _ (by omega), r5 _ (by omega)]
            exact z5 j hj
        refine z_aload_n hX d8_rules_71 rfl ?_
        refine z_get hX lf_8_179 (hM _ _ rfl) rfl d8_rules_72 ?_
        refine z_aload_n hX d8_rules_75 rfl ?_
        refine z_get hX lf_8_182 (hM _ _ rfl) rfl d8_rules_76 ?_
        rw [r1, hk2.2.2.2.2.1]
        refine z_icmp_ge hX 86 d8_rules_79 (by decide) (fun h79 => ?_) (fun h79 => ?_)
        · skip
          rw [nI_leI (by omega) (by omega)] at h79
          rw [if_pos h79] at t1
          rw [show ruN tb e (k + 1) m = m + 1 from if_pos h79] at t2
          have fin88 : z_W X 88 [some (.ref 70), some (.int (nI e)), some (.int 0), none, none] [] P nx 0 0 := ex0 (good iv2 a2 P (m + 1) hk2 t1 t2 (by omega) hG hb2 r2 hM hO)
          refine z_iconst hX (0) d8_rules_86 (by decide) ?_
          refine z_istore_n hX 2 rfl (by decide) d8_rules_87 ?_
          dsimp only [z_p1, z_p2, z_k, List.headD, List.tail]
          exact z_sub fin88 (by repeat' (first | exact trivial | refine ⟨rfl, ?_⟩))
        · skip
          rw [nI_leI (by omega) (by omega)] at h79
          rw [if_neg h79] at t1
          rw [show ruN tb e (k + 1) m = ruN tb e k (m + 1) from if_neg h79] at t2
          have fin88 : z_W X 88 [some (.ref 70), some (.int (nI e)), some (.int 1), none, none] [] P nx 0 0 := by
            refine ex1 iv2 a2 P (clQ tb e (rPos tb e m)) hk2 (by omega) r1 hb2 hM hO (fun iv3 P hk3 hp3 hb3 hrd3 hM hO => ?_)
            by_cases h59 : hr tb e (clQ tb e (rPos tb e m)) = 59
            · rw [show muF tb e (clQ tb e (rPos tb e m)) 59 = 0 from if_pos h59] at hb3
              rw [if_neg (fun z => z h59)] at t1
              exact ih (k - 1) (by omega) (m + 1) iv3 a2 P (by omega) (by show clQ tb e (rPos tb e m) + 1 < 700; omega) hG (by rw [show k - 1 + 1 = k by omega]; exact t1) (by rw [show k - 1 + 1 = k by omega]; exact t2) hk3 hp3 hb3 (hrd3.trans r2) hM hO
            · rw [show muF tb e (clQ tb e (rPos tb e m)) 59 = 100 + clQ tb e (rPos tb e m) from if_neg h59] at hb3
              rw [if_pos h59] at t1
              exact exb (fail iv3 a2 P _ hk3 (by omega) (by omega) t1 hb3 hM hO) hb3 (by omega) (by omega) hM
          refine z_iconst hX (1) d8_rules_82 (by decide) ?_
          refine z_goto hX 87 d8_rules_83 (by decide) ?_
          refine z_istore_n hX 2 rfl (by decide) d8_rules_87 ?_
          dsimp only [z_p1, z_p2, z_k, List.headD, List.tail]
          exact z_sub fin88 (by repeat' (first | exact trivial | refine ⟨rfl, ?_⟩))
  refine z_iload_n hX d8_rules_0 rfl ?_
  refine z_if_lt hX 12 d8_rules_1 (by decide) (fun h1 => ?_) (fun h1 => ?_)
  · exact absurd h1 (nI_pos (by omega))
  refine z_iload_n hX d8_rules_4 rfl ?_
  refine z_aload_n hX d8_rules_5 rfl ?_
  refine z_get hX lf_8_172 (hM _ _ rfl) rfl d8_rules_6 ?_
  rw [p2]
  refine z_icmp_le hX 14 d8_rules_9 (by decide) (fun h9 => ?_) (fun h9 => ?_)
  rotate_left
  · exact absurd ((nI_leI (by omega) (by omega)).mpr (by omega)) h9
  refine z_aload_n hX d8_rules_14 rfl ?_
  refine z_iconst hX (0) d8_rules_15 (by decide) ?_
  refine z_puti hX lf_8_172 rfl rfl (hM _ _ rfl) (Nat.le_of_ble_eq_true rfl) d8_rules_16 ?_
  refine z_gen hM hO rfl (fun P hM hO => ?_)
  have hM := zM_i1 hM
  refine z_aload_n hX d8_rules_19 rfl ?_
  refine z_iconst hX (0) d8_rules_20 (by decide) ?_
  refine z_puti hX lf_8_179 rfl rfl (hM _ _ rfl) (Nat.le_of_ble_eq_true rfl) d8_rules_21 ?_
  refine z_gen hM hO rfl (fun P hM hO => ?_)
  have hM := zM_i24 hM
  refine z_aload_n hX d8_rules_24 rfl ?_
  refine z_iload_n hX d8_rules_25 rfl ?_
  refine z_puti hX lf_8_182 rfl rfl (hM _ _ rfl) (Nat.le_of_ble_eq_true rfl) d8_rules_26 ?_
  refine z_gen hM hO rfl (fun P hM hO => ?_)
  have hM := zM_i25 hM
  refine z_aload_n hX d8_rules_29 rfl ?_
  refine z_iconst hX (0) d8_rules_30 (by decide) ?_
  refine z_puti hX lf_8_185 rfl rfl (hM _ _ rfl) (Nat.le_of_ble_eq_true rfl) d8_rules_31 ?_
  refine z_gen hM hO rfl (fun P hM hO => ?_)
  have hM := zM_i26 hM
  refine z_aload_n hX d8_rules_34 rfl ?_
  refine z_iconst hX (0) d8_rules_35 (by decide) ?_
  refine z_puti hX lf_8_203 rfl rfl (hM _ _ rfl) (Nat.le_of_ble_eq_true rfl) d8_rules_36 ?_
  refine z_gen hM hO rfl (fun P hM hO => ?_)
  have hM := zM_i15 hM
  have hk : rKp iv _ a a e := ⟨show (va_up (va_up (va_up (va_up (va_up iv 1 0) 24 0) 25 (nI e)) 26 0) 15 0) 1 = 0 from rfl, rfl, rfl, rfl, rfl, fun _ _ _ _ => rfl⟩
  refine z_iload_n hX d8_rules_39 rfl ?_
  refine z_if_le hX 47 d8_rules_40 (by decide) (fun h40 => ?_) (fun h40 => ?_)
  · skip
    rw [i_le, nI_toInt (by omega), show (0 : Int32).toInt = 0 from rfl] at h40
    have h0 : e = 0 := by omega
    have fin49 : z_W X 49 [some (.ref 70), some (.int (nI e)), some (.int 0), none, none] [] P nx 0 0 := ex49 (good _ a P 0 hk (if_pos h0) (if_pos h0) (by omega) (fun i hi => absurd hi (Nat.not_lt_zero i)) rfl rfl hM hO)
    refine z_iconst hX (0) d8_rules_47 (by decide) ?_
    refine z_istore_n hX 2 rfl (by decide) d8_rules_48 ?_
    dsimp only [z_p1, z_p2, z_k, List.headD, List.tail]
    exact fin49
  · skip
    rw [i_le, nI_toInt (by omega), show (0 : Int32).toInt = 0 from rfl] at h40
    have fin49 : z_W X 49 [some (.ref 70), some (.int (nI e)), some (.int 1), none, none] [] P nx 0 0 := loop 9 0 _ a P (by omega) (show 0 < 700 by decide) (fun i hi => absurd hi (Nat.not_lt_zero i)) (if_neg (by omega)) (if_neg (by omega)) hk rfl rfl rfl hM hO
    refine z_iconst hX (1) d8_rules_43 (by decide) ?_
    refine z_goto hX 48 d8_rules_44 (by decide) ?_
    refine z_istore_n hX 2 rfl (by decide) d8_rules_48 ?_
    dsimp only [z_p1, z_p2, z_k, List.headD, List.tail]
    exact fin49
theorem cWi_m {tb : Nat → Nat} {le gr : Nat → Nat → Int32} {c A k m : Nat} {D : Bool} (h : (D && cWi tb le gr c A k) = false) (hm : k ≤ m) : (D && cWi tb le gr c A m) = false := by
  cases D with
  | false => rfl
  | true =>
    rw [Bool.true_and] at h ⊢
    induction m with
    | zero => rw [show k = 0 by omega] at h; exact h
    | succ m ih =>
      by_cases e : k = m + 1
      · rw [e] at h; exact h
      · unfold cWi
        rw [ih (by omega), Bool.false_and]
def S8_kindOf : z_PT := fun as P nx K => ∃ (iv : Nat → Int32) (h : Nat → Bool) (a : Nat → Nat → Int32) (ld : Nat → Int64) (tb : Nat → Nat) (n A B : Nat) (N : Nat → Nat), as = [.ref 70, .int (nI A), .int (nI B)] ∧ z_in (zM iv h a ld) P ∧ (iv 14 = nI n) ∧ (n ≤ 9) ∧ (∀ c, c < n → a 83 c = nI (N c) ∧ N c ≤ 4) ∧ (B ≤ 120) ∧ (mT tb a) ∧ (A ≤ B) ∧ K (some (.int (cKd tb (a 82) N (fun c j => a 84 (8 * c + 2 * j)) (fun c j => a 84 (8 * c + 2 * j + 1)) A (B - A) n 0))) P nx
set_option maxRecDepth 4000 in
theorem sp8_kindOf (l : Launch) : z_Sp l M8_kindOf rM8_kindOf S8_kindOf := by
  refine z_enter (by decide) (fun as P nx K h => ?_) (fun X K as P nx hX hE hin0 hS => ?_)
  · obtain ⟨iv, h, a, ld, tb, n, A, B, N, rfl, -⟩ := h
    exact Nat.le_of_ble_eq_true rfl
  obtain ⟨iv, h, a, ld, tb, n, A, B, N, rfl, hM, p1, p2, p3, p4, p5, p6, hK⟩ := hS
  refine z_pad 3 ?_
  show z_W X 0 [some (.ref 70), some (.int (nI A)), some (.int (nI B)), none, none, none] [] P nx 0 0
  have loop : ∀ (k c : Nat), c + k = n → cKd tb (a 82) N (fun c j => a 84 (8 * c + 2 * j)) (fun c j => a 84 (8 * c + 2 * j + 1)) A (B - A) k c = cKd tb (a 82) N (fun c j => a 84 (8 * c + 2 * j)) (fun c j => a 84 (8 * c + 2 * j + 1)) A (B - A) n 0 → z_W X 2 [some (.ref 70), some (.int (nI A)), some (.int (nI B)), some (.int (nI c)), none, none] [] P nx 0 0 := by
    intro k
    induction k with
    | zero =>
      intro c hc he
      have hc : c = n := by omega
      subst hc
      refine z_iload_n hX d8_kindOf_2 rfl ?_
      refine z_aload_n hX d8_kindOf_3 rfl ?_
      refine z_get hX lf_8_215 (hM _ _ rfl) rfl d8_kindOf_4 ?_
      rw [p1]
      refine z_icmp_ge hX 123 d8_kindOf_7 (by decide) (fun h7 => ?_) (fun h7 => ?_)
      rotate_left
      · exact absurd (Int32.le_refl _) h7
      refine z_bipush hX (9) d8_kindOf_123 (by decide) ?_
      refine z_iret hX hE (by decide) (by decide) d8_kindOf_125 ?_
      rw [← he] at hK
      exact hK
    | succ k ihc =>
      intro c hc he
      obtain ⟨n1, n2⟩ := p3 c (by omega)
      rw [show cKd tb (a 82) N (fun c j => a 84 (8 * c + 2 * j)) (fun c j => a 84 (8 * c + 2 * j + 1)) A (B - A) (k + 1) c = if decide (N c = B - A) && cWi tb (fun c j => a 84 (8 * c + 2 * j)) (fun c j => a 84 (8 * c + 2 * j + 1)) c A (N c) then a 82 c else cKd tb (a 82) N (fun c j => a 84 (8 * c + 2 * j)) (fun c j => a 84 (8 * c + 2 * j + 1)) A (B - A) k (c + 1) from rfl] at he
      have cont : z_W X 105 [some (.ref 70), some (.int (nI A)), some (.int (nI B)), some (.int (nI c)), some (.int (zb (decide (N c = B - A) && cWi tb (fun c j => a 84 (8 * c + 2 * j)) (fun c j => a 84 (8 * c + 2 * j + 1)) c A (N c)))), none] [] P nx 0 0 := by
        refine z_iload hX d8_kindOf_105 rfl ?_
        refine z_if_eq hX 117 d8_kindOf_107 (by decide) (fun h107 => ?_) (fun h107 => ?_)
        · skip
          rw [zb_0] at h107
          rw [if_neg (by rw [h107]; decide)] at he
          refine z_iinc hX (1) (by decide) rfl (by decide) d8_kindOf_117 ?_
          dsimp only [z_p1, z_p2, z_k, List.headD, List.tail]
          refine z_goto hX 2 d8_kindOf_120 (by decide) ?_
          rw [nI_1]
          exact z_sub (ihc (c + 1) (by omega) he) (by repeat' (first | exact trivial | refine ⟨rfl, ?_⟩))
        · skip
          rw [zb_n0] at h107
          rw [if_pos h107] at he
          refine z_aload_n hX d8_kindOf_110 rfl ?_
          refine z_get hX lf_8_45 (hM _ _ rfl) rfl d8_kindOf_111 ?_
          refine z_iload_n hX d8_kindOf_114 rfl ?_
          refine z_iald hX (hM _ _ rfl) (vp_in_nI (by omega) (by decide)) d8_kindOf_115 ?_
          rw [nI_clamp (show c < 2 ^ 31 by omega)]
          refine z_iret hX hE (by decide) (by decide) d8_kindOf_116 ?_
          rw [← he] at hK
          exact hK
      have inner : ∀ (j k : Nat) (b : Bool), k + j = N c → b = (decide (N c = B - A) && cWi tb (fun c j => a 84 (8 * c + 2 * j)) (fun c j => a 84 (8 * c + 2 * j + 1)) c A k) → z_W X 32 [some (.ref 70), some (.int (nI A)), some (.int (nI B)), some (.int (nI c)), some (.int (zb b)), some (.int (nI k))] [] P nx 0 0 := by
        intro j
        induction j with
        | zero =>
          intro k b hk hb
          have hk : k = N c := by omega
          subst hk
          rw [← hb] at cont
          refine z_iload hX d8_kindOf_32 rfl ?_
          refine z_aload_n hX d8_kindOf_34 rfl ?_
          refine z_get hX lf_8_48 (hM _ _ rfl) rfl d8_kindOf_35 ?_
          refine z_iload_n hX d8_kindOf_38 rfl ?_
          refine z_iald hX (hM _ _ rfl) (vp_in_nI (by omega) (by decide)) d8_kindOf_39 ?_
          rw [nI_clamp (show c < 2 ^ 31 by omega), n1]
          refine z_icmp_ge hX 105 d8_kindOf_40 (by decide) (fun h40 => ?_) (fun h40 => ?_)
          rotate_left
          · exact absurd (Int32.le_refl _) h40
          exact z_sub cont (by repeat' (first | exact trivial | refine ⟨rfl, ?_⟩))
        | succ j ih =>
          intro k b hk hb
          refine z_iload hX d8_kindOf_32 rfl ?_
          refine z_aload_n hX d8_kindOf_34 rfl ?_
          refine z_get hX lf_8_48 (hM _ _ rfl) rfl d8_kindOf_35 ?_
          refine z_iload_n hX d8_kindOf_38 rfl ?_
          refine z_iald hX (hM _ _ rfl) (vp_in_nI (by omega) (by decide)) d8_kindOf_39 ?_
          rw [nI_clamp (show c < 2 ^ 31 by omega), n1]
          refine z_icmp_ge hX 105 d8_kindOf_40 (by decide) (fun h40 => ?_) (fun h40 => ?_)
          · exact absurd h40 (nI_ge (by omega) (by omega))
          refine z_iload hX d8_kindOf_43 rfl ?_
          refine z_if_eq hX 105 d8_kindOf_45 (by decide) (fun h45 => ?_) (fun h45 => ?_)
          · skip
            rw [zb_0] at h45
            rw [hb] at h45
            rw [cWi_m h45 (by omega)] at cont
            rw [show b = false from hb.trans h45]
            exact z_sub cont (by repeat' (first | exact trivial | refine ⟨rfl, ?_⟩))
          · skip
            rw [zb_n0] at h45
            rw [hb, Bool.and_eq_true, decide_eq_true_eq] at h45
            refine z_aload_n hX d8_kindOf_48 rfl ?_
            refine z_get hX lf_8_7 (hM _ _ rfl) rfl d8_kindOf_49 ?_
            refine z_iload_n hX d8_kindOf_52 rfl ?_
            refine z_iload hX d8_kindOf_53 rfl ?_
            refine z_iadd hX d8_kindOf_55 ?_
            rw [nI_add]
            refine z_bald hX (hM _ _ rfl) (vp_in_nI (by omega) (by decide)) d8_kindOf_56 ?_
            rw [nI_clamp (show A + k < 2 ^ 31 by omega)]
            refine z_sipush hX (255) d8_kindOf_57 (by decide) ?_
            refine z_iand hX d8_kindOf_60 ?_
            rw [mT_b p5 (by omega)]
            refine z_i2l hX d8_kindOf_61 ?_
            refine z_aload_n hX d8_kindOf_62 rfl ?_
            refine z_get hX lf_8_51 (hM _ _ rfl) rfl d8_kindOf_63 ?_
            refine z_bipush hX (8) d8_kindOf_66 (by decide) ?_
            refine z_iload_n hX d8_kindOf_68 rfl ?_
            refine z_imul hX d8_kindOf_69 ?_
            refine z_iconst hX (2) d8_kindOf_70 (by decide) ?_
            refine z_iload hX d8_kindOf_71 rfl ?_
            refine z_imul hX d8_kindOf_73 ?_
            refine z_iadd hX d8_kindOf_74 ?_
            rw [nI_8]
            refine z_iald hX (hM _ _ rfl) (vp_in_nI (by omega) (by decide)) d8_kindOf_75 ?_
            rw [nI_clamp (show 8 * c + 2 * k < 2 ^ 31 by omega)]
            refine z_i2l hX d8_kindOf_76 ?_
            refine z_aload_n hX d8_kindOf_77 rfl ?_
            refine z_get hX lf_8_51 (hM _ _ rfl) rfl d8_kindOf_78 ?_
            refine z_bipush hX (8) d8_kindOf_81 (by decide) ?_
            refine z_iload_n hX d8_kindOf_83 rfl ?_
            refine z_imul hX d8_kindOf_84 ?_
            refine z_iconst hX (2) d8_kindOf_85 (by decide) ?_
            refine z_iload hX d8_kindOf_86 rfl ?_
            refine z_imul hX d8_kindOf_88 ?_
            refine z_iadd hX d8_kindOf_89 ?_
            refine z_iconst hX (1) d8_kindOf_90 (by decide) ?_
            refine z_iadd hX d8_kindOf_91 ?_
            rw [nI_8, nI_1]
            refine z_iald hX (hM _ _ rfl) (vp_in_nI (by omega) (by decide)) d8_kindOf_92 ?_
            rw [nI_clamp (show 8 * c + 2 * k + 1 < 2 ^ 31 by omega)]
            refine z_i2l hX d8_kindOf_93 ?_
            refine z_callS3 hX (sp8_lies l) lm_8_74 ⟨by decide, by decide, by decide, by decide⟩ (Nat.le_of_ble_eq_true rfl) d8_kindOf_94 ?_
            refine ⟨_, _, _, rfl, ?_⟩
            have hbt := p5.1 (A + k)
            rw [i2l_t, i2l_t, i2l_t, nI_toInt (by omega)]
            dsimp only [Option.toList, List.cons_append, List.nil_append]
            refine z_istore hX (by decide) d8_kindOf_97 ?_
            dsimp only [z_p1, z_p2, z_k, List.headD, List.tail]
            refine z_iinc hX (1) (by decide) rfl (by decide) d8_kindOf_99 ?_
            dsimp only [z_p1, z_p2, z_k, List.headD, List.tail]
            refine z_goto hX 32 d8_kindOf_102 (by decide) ?_
            rw [nI_1]
            refine ih (k + 1) _ (by omega) ?_
            unfold cWi
            rw [h45.2, decide_eq_true h45.1, Bool.true_and, Bool.true_and]
      refine z_iload_n hX d8_kindOf_2 rfl ?_
      refine z_aload_n hX d8_kindOf_3 rfl ?_
      refine z_get hX lf_8_215 (hM _ _ rfl) rfl d8_kindOf_4 ?_
      rw [p1]
      refine z_icmp_ge hX 123 d8_kindOf_7 (by decide) (fun h7 => ?_) (fun h7 => ?_)
      · exact absurd h7 (nI_ge (by omega) (by omega))
      refine z_aload_n hX d8_kindOf_10 rfl ?_
      refine z_get hX lf_8_48 (hM _ _ rfl) rfl d8_kindOf_11 ?_
      refine z_iload_n hX d8_kindOf_14 rfl ?_
      refine z_iald hX (hM _ _ rfl) (vp_in_nI (by omega) (by decide)) d8_kindOf_15 ?_
      refine z_iload_n hX d8_kindOf_16 rfl ?_
      refine z_iload_n hX d8_kindOf_17 rfl ?_
      refine z_isub hX d8_kindOf_18 ?_
      rw [nI_clamp (show c < 2 ^ 31 by omega), n1, pk_sub p6]
      refine z_icmp_ne hX 26 d8_kindOf_19 (by decide) (fun h19 => ?_) (fun h19 => ?_)
      · skip
        rw [nI_eq (by omega) (by omega)] at h19
        have fin32 := inner (N c) 0 false (by omega) (by rw [decide_eq_false h19]; rfl)
        refine z_iconst hX (0) d8_kindOf_26 (by decide) ?_
        refine z_istore hX (by decide) d8_kindOf_27 ?_
        dsimp only [z_p1, z_p2, z_k, List.headD, List.tail]
        refine z_iconst hX (0) d8_kindOf_29 (by decide) ?_
        refine z_istore hX (by decide) d8_kindOf_30 ?_
        dsimp only [z_p1, z_p2, z_k, List.headD, List.tail]
        exact fin32
      · skip
        rw [nI_eq (by omega) (by omega)] at h19
        have fin32 := inner (N c) 0 true (by omega) (by rw [decide_eq_true h19]; rfl)
        refine z_iconst hX (1) d8_kindOf_22 (by decide) ?_
        refine z_goto hX 27 d8_kindOf_23 (by decide) ?_
        refine z_istore hX (by decide) d8_kindOf_27 ?_
        dsimp only [z_p1, z_p2, z_k, List.headD, List.tail]
        refine z_iconst hX (0) d8_kindOf_29 (by decide) ?_
        refine z_istore hX (by decide) d8_kindOf_30 ?_
        dsimp only [z_p1, z_p2, z_k, List.headD, List.tail]
        exact fin32
  refine z_iconst hX (0) d8_kindOf_0 (by decide) ?_
  refine z_istore_n hX 3 rfl (by decide) d8_kindOf_1 ?_
  dsimp only [z_p1, z_p2, z_k, List.headD, List.tail]
  exact loop n 0 (by omega) rfl
/-! pass: what is passed, by place; (first place, vehicles, passed) -/
def psS (tb : Nat → Nat) (kd : Nat → Nat → Nat) (n k : Nat) (s : Nat × Nat × (Nat → Int32)) : Nat × Nat × (Nat → Int32) := if k < n ∧ tb k ≠ 0 then s else if s.1 < k then (k + 1, s.2.1 + 1, upd s.2.2 (kd s.1 k) (s.2.2 (kd s.1 k) + 1)) else (k + 1, s.2.1, s.2.2)
def psR (tb : Nat → Nat) (kd : Nat → Nat → Nat) (n : Nat) : Nat → Nat → Nat × Nat × (Nat → Int32) → Nat × Nat × (Nat → Int32)
  | 0, _, s => s
  | f + 1, k, s => psR tb kd n f (k + 1) (psS tb kd n k s)
def psA (tb : Nat → Nat) (kd : Nat → Nat → Nat) (n : Nat) (v : Nat → Int32) : Nat × Nat × (Nat → Int32) := psR tb kd n (n + 1) 0 (0, 0, v)
theorem cKd_r {tb : Nat → Nat} {kc : Nat → Int32} {N : Nat → Nat} {le gr : Nat → Nat → Int32} {A len : Nat} : ∀ (k c : Nat), (∀ i, i < c + k → ∃ κ, κ ≤ 9 ∧ kc i = nI κ) → ∃ κ, κ ≤ 9 ∧ cKd tb kc N le gr A len k c = nI κ
  | 0, c, h => ⟨9, by decide, rfl⟩
  | k + 1, c, h => by
    unfold cKd
    split
    · exact h c (by omega)
    · exact cKd_r k (c + 1) (fun i hi => h i (by omega))
def kdF (tb : Nat → Nat) (kc : Nat → Int32) (N : Nat → Nat) (le gr : Nat → Nat → Int32) (n A B : Nat) : Nat := (cKd tb kc N le gr A (B - A) n 0).toNatClampNeg
theorem kdF_e {tb : Nat → Nat} {kc : Nat → Int32} {N : Nat → Nat} {le gr : Nat → Nat → Int32} {n A B : Nat} (h : ∀ i, i < n → ∃ κ, κ ≤ 9 ∧ kc i = nI κ) : cKd tb kc N le gr A (B - A) n 0 = nI (kdF tb kc N le gr n A B) ∧ kdF tb kc N le gr n A B ≤ 9 := by
  obtain ⟨κ, h1, h2⟩ := cKd_r (tb := tb) (N := N) (le := le) (gr := gr) (A := A) (len := B - A) n 0 (by rw [Nat.zero_add]; exact h)
  unfold kdF
  rw [h2, nI_clamp (by omega)]
  exact ⟨rfl, h1⟩
/-- the model's passed: row r is v, the rest is f's -/
def psG (f : Nat → Int32) (r : Nat) (v g : Nat → Int32) : Prop := (∀ j, j < 10 → g (10 * r + j) = v j) ∧ ∀ x, x < 10 * r ∨ 10 * r + 10 ≤ x → g x = f x
theorem psG_s {f : Nat → Int32} {r κ : Nat} {v g : Nat → Int32} (h : psG f r v g) (hκ : κ ≤ 9) : psG f r (upd v κ (v κ + 1)) (upd g (10 * r + κ) (g (10 * r + κ) + 1)) := by
  obtain ⟨h1, h2⟩ := h
  refine ⟨fun j hj => ?_, fun x hx => ?_⟩
  · by_cases e : j = κ
    · subst e
      simp [upd, h1 j hj]
    · simp only [upd, if_neg (show ¬ 10 * r + j = 10 * r + κ by omega), if_neg e]
      exact h1 j hj
  · simp only [upd, if_neg (show ¬ x = 10 * r + κ by omega)]
    exact h2 x hx
def mKd (tb : Nat → Nat) (a : Nat → Nat → Int32) (N : Nat → Nat) (c : Nat) : Nat → Nat → Nat := kdF tb (a 82) N (fun c j => a 84 (8 * c + 2 * j)) (fun c j => a 84 (8 * c + 2 * j + 1)) c
def S8_pass : z_PT := fun as P nx K => ∃ (iv : Nat → Int32) (h : Nat → Bool) (a : Nat → Nat → Int32) (ld : Nat → Int64) (tb : Nat → Nat) (t n c : Nat) (N : Nat → Nat) (r m : Int32), as = [.ref 70, .int r, .int m] ∧ z_in (zM iv h a ld) P ∧ iv 1 = nI t ∧ t ≤ 120 ∧ mT tb a ∧ iv 2 = nI n ∧ n ≤ 12 ∧ iv 14 = nI c ∧ c ≤ 9 ∧ (∀ i, i < c → a 83 i = nI (N i) ∧ N i ≤ 4) ∧ (∀ i, i < c → ∃ κ, κ ≤ 9 ∧ a 82 i = nI κ) ∧ (¬ (0 ≤ r.toInt ∧ r.toInt < n ∧ 0 ≤ m.toInt ∧ m.toInt ≤ t) → K (some (.int (-1))) P nx) ∧ ∀ (r' e : Nat), r = nI r' → r' < n → m = nI e → e ≤ t → ∀ (g : Nat → Int32) (P' : z_H), psG (a 81) r' (psA tb (mKd tb a N c) e (fun j => a 81 (10 * r' + j))).2.2 g → z_in (zM (va_up iv 1 0) h (va_up a 81 g) ld) P' → z_out zDm P P' → K (some (.int (nI (psA tb (mKd tb a N c) e (fun j => a 81 (10 * r' + j))).2.1))) P' nx
theorem sp8_pass (l : Launch) : z_Sp l M8_pass rM8_pass S8_pass := by
  refine z_enter (by decide) (fun as P nx K h => ?_) (fun X K as P nx hX hE hin0 hS => ?_)
  · obtain ⟨iv, h, a, ld, tb, t, n, c, N, r, m, rfl, -⟩ := h
    exact Nat.le_of_ble_eq_true rfl
  obtain ⟨iv, h, a, ld, tb, t, n, c, N, r, m, rfl, hM, p2, p3, p4, p5, p6, p7, p8, p9, p10, hB, hK⟩ := hS
  refine z_pad 3 ?_
  show z_W X 0 [some (.ref 70), some (.int r), some (.int m), none, none, none] [] P nx 0 0
  obtain ⟨P0, hP0⟩ : ∃ P0, P0 = P := ⟨_, rfl⟩
  have hO : z_out zDm P0 P := by rw [hP0]; exact z_out.rf
  by_cases hn : ¬ (0 ≤ r.toInt ∧ r.toInt < n ∧ 0 ≤ m.toInt ∧ m.toInt ≤ t)
  · skip
    refine z_aload_n hX d8_pass_0 rfl ?_
    refine z_iload_n hX d8_pass_1 rfl ?_
    refine z_callV1 hX (sp8_isRoad l) lm_8_112 (hM _ _ rfl) ⟨by decide, by decide, by decide, by decide⟩ (Nat.le_of_ble_eq_true rfl) d8_pass_2 ?_
    refine ⟨iv, h, a, ld, n, r, rfl, hM, p5, p6, ?_⟩
    dsimp only [Option.toList, List.cons_append, List.nil_append]
    refine z_ifb_eq hX 20 d8_pass_5 (by decide) (fun h5 => ?_) (fun h5 => ?_)
    · skip
      refine z_iconst hX (-1) d8_pass_20 (by decide) ?_
      refine z_iret hX hE (by decide) (by decide) d8_pass_21 ?_
      exact hB hn
    · skip
      rw [decide_eq_true_eq] at h5
      refine z_iload_n hX d8_pass_8 rfl ?_
      refine z_if_lt hX 20 d8_pass_9 (by decide) (fun h9 => ?_) (fun h9 => ?_)
      · skip
        refine z_iconst hX (-1) d8_pass_20 (by decide) ?_
        refine z_iret hX hE (by decide) (by decide) d8_pass_21 ?_
        exact hB hn
      · skip
        rw [i_lt, show (0 : Int32).toInt = 0 from rfl] at h9
        refine z_iload_n hX d8_pass_12 rfl ?_
        refine z_aload_n hX d8_pass_13 rfl ?_
        refine z_get hX lf_8_172 (hM _ _ rfl) rfl d8_pass_14 ?_
        rw [p2]
        refine z_icmp_le hX 22 d8_pass_17 (by decide) (fun h17 => ?_) (fun h17 => ?_)
        · rw [i_le, nI_toInt (by omega)] at h17
          omega
        refine z_iconst hX (-1) d8_pass_20 (by decide) ?_
        refine z_iret hX hE (by decide) (by decide) d8_pass_21 ?_
        exact hB hn
  have hn := Decidable.not_not.mp hn
  obtain ⟨r', hr', rfl⟩ := nI_rng hn.1 hn.2.1
  obtain ⟨e, he, rfl⟩ : ∃ e : Nat, e < t + 1 ∧ m = nI e := nI_rng hn.2.2.1 (by omega)
  have hK := hK r' e rfl hr' rfl (by omega)
  rw [← hP0] at hK
  have loop : ∀ (f k : Nat) (s : Nat × Nat × (Nat → Int32)) (g : Nat → Int32) (P : z_H), k + f = e + 1 → s.1 ≤ k → psR tb (mKd tb a N c) e f k s = psA tb (mKd tb a N c) e (fun j => a 81 (10 * r' + j)) → psG (a 81) r' s.2.2 g → z_in (zM (va_up iv 1 0) h (va_up a 81 g) ld) P → z_out zDm P0 P → z_W X 35 [some (.ref 70), some (.int (nI r')), some (.int (nI e)), some (.int (nI s.2.1)), some (.int (nI s.1)), some (.int (nI k))] [] P nx 0 0 := by
    intro f
    induction f with
    | zero =>
      intro k s g P hk hs1 hs hgs hM hO
      rw [show psR tb (mKd tb a N c) e 0 k s = s from rfl] at hs
      refine z_iload hX d8_pass_35 rfl ?_
      refine z_iload_n hX d8_pass_37 rfl ?_
      refine z_icmp_gt hX 104 d8_pass_38 (by decide) (fun h38 => ?_) (fun h38 => ?_)
      rotate_left
      · exact absurd (nI_lt (by omega) (by omega)) h38
      refine z_iload_n hX d8_pass_104 rfl ?_
      refine z_iret hX hE (by decide) (by decide) d8_pass_105 ?_
      rw [← hs] at hK
      exact hK g P hgs hM hO
    | succ f ih =>
      intro k s g P hk hs1 hs hgs hM hO
      have p4' : mT tb (va_up a 81 g) := p4.x rfl
      have cont98 : ∀ (x y : Nat) (v g : Nat → Int32) (P : z_H), psS tb (mKd tb a N c) e k s = (x, y, v) → psG (a 81) r' v g → z_in (zM (va_up iv 1 0) h (va_up a 81 g) ld) P → z_out zDm P0 P → z_W X 98 [some (.ref 70), some (.int (nI r')), some (.int (nI e)), some (.int (nI y)), some (.int (nI x)), some (.int (nI k))] [] P nx 0 0 := by
        intro x y v g P hx hgs hM hO
        have hx1 : x ≤ k + 1 := by
          have h1 : x = (psS tb (mKd tb a N c) e k s).1 := by rw [hx]
          rw [h1]
          unfold psS
          repeat' split
          all_goals simp
          all_goals omega
        refine z_iinc hX (1) (by decide) rfl (by decide) d8_pass_98 ?_
        dsimp only [z_p1, z_p2, z_k, List.headD, List.tail]
        refine z_goto hX 35 d8_pass_101 (by decide) ?_
        rw [nI_1]
        refine ih (k + 1) (x, y, v) g P (by omega) hx1 ?_ hgs hM hO
        rw [← hx]
        exact hs
      refine z_iload hX d8_pass_35 rfl ?_
      refine z_iload_n hX d8_pass_37 rfl ?_
      refine z_icmp_gt hX 104 d8_pass_38 (by decide) (fun h38 => ?_) (fun h38 => ?_)
      · rw [i_lt, nI_toInt (by omega), nI_toInt (by omega)] at h38
        omega
      refine z_iload hX d8_pass_41 rfl ?_
      refine z_iload_n hX d8_pass_43 rfl ?_
      refine z_icmp_ge hX 60 d8_pass_44 (by decide) (fun h44 => ?_) (fun h44 => ?_)
      · skip
        rw [nI_leI (by omega) (by omega)] at h44
        have hc : ¬ (k < e ∧ tb k ≠ 0) := fun z => by omega
        refine z_iload hX d8_pass_60 rfl ?_
        refine z_iload hX d8_pass_62 rfl ?_
        refine z_icmp_le hX 92 d8_pass_64 (by decide) (fun h64 => ?_) (fun h64 => ?_)
        · skip
          rw [nI_leI (by omega) (by omega)] at h64
          have hs : psS tb (mKd tb a N c) e k s = (k + 1, s.2.1, s.2.2) := by unfold psS; rw [if_neg hc, if_neg (by omega)]
          have fin98 := cont98 (k + 1) s.2.1 s.2.2 g P hs hgs hM hO
          refine z_iload hX d8_pass_92 rfl ?_
          refine z_iconst hX (1) d8_pass_94 (by decide) ?_
          refine z_iadd hX d8_pass_95 ?_
          refine z_istore hX (by decide) d8_pass_96 ?_
          dsimp only [z_p1, z_p2, z_k, List.headD, List.tail]
          try simp only [nI_1]
          exact z_sub fin98 (by repeat' (first | exact trivial | refine ⟨rfl, ?_⟩))
        · skip
          rw [nI_leI (by omega) (by omega)] at h64
          obtain ⟨q1, q2⟩ := kdF_e (tb := tb) (N := N) (le := fun c j => a 84 (8 * c + 2 * j)) (gr := fun c j => a 84 (8 * c + 2 * j + 1)) (A := s.1) (B := k) p10
          have hs : psS tb (mKd tb a N c) e k s = (k + 1, s.2.1 + 1, upd s.2.2 (mKd tb a N c s.1 k) (s.2.2 (mKd tb a N c s.1 k) + 1)) := by unfold psS; rw [if_neg hc, if_pos (by omega)]
          refine z_aload_n hX d8_pass_67 rfl ?_
          refine z_get hX lf_8_42 (hM _ _ rfl) rfl d8_pass_68 ?_
          refine z_bipush hX (10) d8_pass_71 (by decide) ?_
          refine z_iload_n hX d8_pass_73 rfl ?_
          refine z_imul hX d8_pass_74 ?_
          refine z_aload_n hX d8_pass_75 rfl ?_
          refine z_iload hX d8_pass_76 rfl ?_
          refine z_iload hX d8_pass_78 rfl ?_
          refine z_callV2 hX (sp8_kindOf l) lm_8_218 (hM _ _ rfl) ⟨by decide, by decide, by decide, by decide⟩ (Nat.le_of_ble_eq_true rfl) d8_pass_80 ?_
          refine ⟨_, h, _, ld, tb, c, s.1, k, N, rfl, hM, p7, p8, p9, by omega, p4', by omega, ?_⟩
          rw [show va_up a 81 g 82 = a 82 from rfl, show va_up a 81 g 84 = a 84 from rfl, q1]
          dsimp only [Option.toList, List.cons_append, List.nil_append]
          refine z_iadd hX d8_pass_83 ?_
          rw [show (10 : Int32) * nI r' + nI (kdF tb (a 82) N (fun c j => a 84 (8 * c + 2 * j)) (fun c j => a 84 (8 * c + 2 * j + 1)) c s.1 k) = nI (10 * r' + mKd tb a N c s.1 k) from nI_ml 10 _ _]
          refine z_dup2 hX rfl rfl d8_pass_84 ?_
          refine z_iald hX (hM _ _ rfl) (vp_in_nI (show 10 * r' + mKd tb a N c s.1 k < 120 by unfold mKd; omega) (by decide)) d8_pass_85 ?_
          refine z_iconst hX (1) d8_pass_86 (by decide) ?_
          refine z_iadd hX d8_pass_87 ?_
          refine z_iast hX (hM _ _ rfl) (vp_in_nI (show 10 * r' + mKd tb a N c s.1 k < 120 by unfold mKd; omega) (by decide)) d8_pass_88 ?_
          have hq : 10 * r' + mKd tb a N c s.1 k < 2 ^ 31 := by unfold mKd; omega
          rw [nI_clamp hq]
          refine z_gen hM hO rfl (fun P hM hO => ?_)
          have hM := zM_s81 hM
          rw [va_upup] at hM
          have fin98 := cont98 _ _ _ _ P hs (psG_s hgs q2) hM hO
          refine z_iinc hX (1) (by decide) rfl (by decide) d8_pass_89 ?_
          dsimp only [z_p1, z_p2, z_k, List.headD, List.tail]
          refine z_iload hX d8_pass_92 rfl ?_
          refine z_iconst hX (1) d8_pass_94 (by decide) ?_
          refine z_iadd hX d8_pass_95 ?_
          refine z_istore hX (by decide) d8_pass_96 ?_
          dsimp only [z_p1, z_p2, z_k, List.headD, List.tail]
          try simp only [nI_1]
          exact z_sub fin98 (by repeat' (first | exact trivial | refine ⟨rfl, ?_⟩))
      · skip
        rw [nI_leI (by omega) (by omega)] at h44
        refine z_aload_n hX d8_pass_47 rfl ?_
        refine z_get hX lf_8_7 (hM _ _ rfl) rfl d8_pass_48 ?_
        refine z_iload hX d8_pass_51 rfl ?_
        refine z_bald hX (hM _ _ rfl) (vp_in_nI (by omega) (by decide)) d8_pass_53 ?_
        rw [nI_clamp (show k < 2 ^ 31 by omega)]
        refine z_if_eq hX 60 d8_pass_54 (by decide) (fun h54 => ?_) (fun h54 => ?_)
        · skip
          rw [mT_0 p4' (by omega)] at h54
          have hc : ¬ (k < e ∧ tb k ≠ 0) := fun z => z.2 h54
          refine z_iload hX d8_pass_60 rfl ?_
          refine z_iload hX d8_pass_62 rfl ?_
          refine z_icmp_le hX 92 d8_pass_64 (by decide) (fun h64 => ?_) (fun h64 => ?_)
          · skip
            rw [nI_leI (by omega) (by omega)] at h64
            have hs : psS tb (mKd tb a N c) e k s = (k + 1, s.2.1, s.2.2) := by unfold psS; rw [if_neg hc, if_neg (by omega)]
            have fin98 := cont98 (k + 1) s.2.1 s.2.2 g P hs hgs hM hO
            refine z_iload hX d8_pass_92 rfl ?_
            refine z_iconst hX (1) d8_pass_94 (by decide) ?_
            refine z_iadd hX d8_pass_95 ?_
            refine z_istore hX (by decide) d8_pass_96 ?_
            dsimp only [z_p1, z_p2, z_k, List.headD, List.tail]
            try simp only [nI_1]
            exact z_sub fin98 (by repeat' (first | exact trivial | refine ⟨rfl, ?_⟩))
          · skip
            rw [nI_leI (by omega) (by omega)] at h64
            obtain ⟨q1, q2⟩ := kdF_e (tb := tb) (N := N) (le := fun c j => a 84 (8 * c + 2 * j)) (gr := fun c j => a 84 (8 * c + 2 * j + 1)) (A := s.1) (B := k) p10
            have hs : psS tb (mKd tb a N c) e k s = (k + 1, s.2.1 + 1, upd s.2.2 (mKd tb a N c s.1 k) (s.2.2 (mKd tb a N c s.1 k) + 1)) := by unfold psS; rw [if_neg hc, if_pos (by omega)]
            refine z_aload_n hX d8_pass_67 rfl ?_
            refine z_get hX lf_8_42 (hM _ _ rfl) rfl d8_pass_68 ?_
            refine z_bipush hX (10) d8_pass_71 (by decide) ?_
            refine z_iload_n hX d8_pass_73 rfl ?_
            refine z_imul hX d8_pass_74 ?_
            refine z_aload_n hX d8_pass_75 rfl ?_
            refine z_iload hX d8_pass_76 rfl ?_
            refine z_iload hX d8_pass_78 rfl ?_
            refine z_callV2 hX (sp8_kindOf l) lm_8_218 (hM _ _ rfl) ⟨by decide, by decide, by decide, by decide⟩ (Nat.le_of_ble_eq_true rfl) d8_pass_80 ?_
            refine ⟨_, h, _, ld, tb, c, s.1, k, N, rfl, hM, p7, p8, p9, by omega, p4', by omega, ?_⟩
            rw [show va_up a 81 g 82 = a 82 from rfl, show va_up a 81 g 84 = a 84 from rfl, q1]
            dsimp only [Option.toList, List.cons_append, List.nil_append]
            refine z_iadd hX d8_pass_83 ?_
            rw [show (10 : Int32) * nI r' + nI (kdF tb (a 82) N (fun c j => a 84 (8 * c + 2 * j)) (fun c j => a 84 (8 * c + 2 * j + 1)) c s.1 k) = nI (10 * r' + mKd tb a N c s.1 k) from nI_ml 10 _ _]
            refine z_dup2 hX rfl rfl d8_pass_84 ?_
            refine z_iald hX (hM _ _ rfl) (vp_in_nI (show 10 * r' + mKd tb a N c s.1 k < 120 by unfold mKd; omega) (by decide)) d8_pass_85 ?_
            refine z_iconst hX (1) d8_pass_86 (by decide) ?_
            refine z_iadd hX d8_pass_87 ?_
            refine z_iast hX (hM _ _ rfl) (vp_in_nI (show 10 * r' + mKd tb a N c s.1 k < 120 by unfold mKd; omega) (by decide)) d8_pass_88 ?_
            have hq : 10 * r' + mKd tb a N c s.1 k < 2 ^ 31 := by unfold mKd; omega
            rw [nI_clamp hq]
            refine z_gen hM hO rfl (fun P hM hO => ?_)
            have hM := zM_s81 hM
            rw [va_upup] at hM
            have fin98 := cont98 _ _ _ _ P hs (psG_s hgs q2) hM hO
            refine z_iinc hX (1) (by decide) rfl (by decide) d8_pass_89 ?_
            dsimp only [z_p1, z_p2, z_k, List.headD, List.tail]
            refine z_iload hX d8_pass_92 rfl ?_
            refine z_iconst hX (1) d8_pass_94 (by decide) ?_
            refine z_iadd hX d8_pass_95 ?_
            refine z_istore hX (by decide) d8_pass_96 ?_
            dsimp only [z_p1, z_p2, z_k, List.headD, List.tail]
            try simp only [nI_1]
            exact z_sub fin98 (by repeat' (first | exact trivial | refine ⟨rfl, ?_⟩))
        · skip
          rw [mT_0 p4' (by omega)] at h54
          have hs : psS tb (mKd tb a N c) e k s = s := if_pos ⟨by omega, h54⟩
          have fin98 := cont98 s.1 s.2.1 s.2.2 g P hs hgs hM hO
          refine z_goto hX 98 d8_pass_57 (by decide) ?_
          try simp only [nI_1]
          exact z_sub fin98 (by repeat' (first | exact trivial | refine ⟨rfl, ?_⟩))
  refine z_aload_n hX d8_pass_0 rfl ?_
  refine z_iload_n hX d8_pass_1 rfl ?_
  refine z_callV1 hX (sp8_isRoad l) lm_8_112 (hM _ _ rfl) ⟨by decide, by decide, by decide, by decide⟩ (Nat.le_of_ble_eq_true rfl) d8_pass_2 ?_
  refine ⟨iv, h, a, ld, n, nI r', rfl, hM, p5, p6, ?_⟩
  dsimp only [Option.toList, List.cons_append, List.nil_append]
  refine z_ifb_eq hX 20 d8_pass_5 (by decide) (fun h5 => ?_) (fun h5 => ?_)
  · exact absurd h5 (by rw [decide_eq_true ⟨hn.1, hn.2.1⟩]; decide)
  refine z_iload_n hX d8_pass_8 rfl ?_
  refine z_if_lt hX 20 d8_pass_9 (by decide) (fun h9 => ?_) (fun h9 => ?_)
  · exact absurd h9 (nI_pos (by omega))
  refine z_iload_n hX d8_pass_12 rfl ?_
  refine z_aload_n hX d8_pass_13 rfl ?_
  refine z_get hX lf_8_172 (hM _ _ rfl) rfl d8_pass_14 ?_
  rw [p2]
  refine z_icmp_le hX 22 d8_pass_17 (by decide) (fun h17 => ?_) (fun h17 => ?_)
  rotate_left
  · exact absurd ((nI_leI (by omega) (by omega)).mpr (by omega)) h17
  refine z_aload_n hX d8_pass_22 rfl ?_
  refine z_iconst hX (0) d8_pass_23 (by decide) ?_
  refine z_puti hX lf_8_172 rfl rfl (hM _ _ rfl) (Nat.le_of_ble_eq_true rfl) d8_pass_24 ?_
  refine z_gen hM hO rfl (fun P hM hO => ?_)
  have hM := zM_i1 hM
  refine z_iconst hX (0) d8_pass_27 (by decide) ?_
  refine z_istore_n hX 3 rfl (by decide) d8_pass_28 ?_
  dsimp only [z_p1, z_p2, z_k, List.headD, List.tail]
  refine z_iconst hX (0) d8_pass_29 (by decide) ?_
  refine z_istore hX (by decide) d8_pass_30 ?_
  dsimp only [z_p1, z_p2, z_k, List.headD, List.tail]
  refine z_iconst hX (0) d8_pass_32 (by decide) ?_
  refine z_istore hX (by decide) d8_pass_33 ?_
  dsimp only [z_p1, z_p2, z_k, List.headD, List.tail]
  refine loop (e + 1) 0 (0, 0, fun j => a 81 (10 * r' + j)) (a 81) P (by omega) (by omega) rfl ⟨fun j hj => rfl, fun x hx => rfl⟩ ?_ hO
  rw [show va_up a 81 (a 81) = a from by funext j; by_cases z : j = 81 <;> simp [va_up, z]]
  exact hM
