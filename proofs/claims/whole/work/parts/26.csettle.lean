/-! THE CLASS: meters, settle -/
theorem hasZ {m k : Nat} (hm : m < 2 ^ 31) (hk : k < 32) : (nI m >>> (nI k &&& 31)) &&& 1 = 0 ↔ m.testBit k = false := by
  rw [pk_shrN hm (nI k &&& 31) k (s_l k hk), show (1 : Int32) = nI 1 from rfl, fa_and, Nat.and_one_is_mod, Nat.testBit_eq_decide_div_mod_eq, decide_eq_false_iff_not]
  have h2 : m / 2 ^ k % 2 < 2 := Nat.mod_lt _ (by decide)
  rw [show (0 : Int32) = nI 0 from rfl, nI_eq (by omega) (by decide)]
  omega
/-- the dearest road that isn't in the set -/
def dOc (pw : Nat → Nat) (set : Nat) (b : Option Nat) (r : Nat) : Bool := !set.testBit r && (match b with | none => true | some d => decide (pw d ≤ pw r))
def dOF (pw : Nat → Nat) (set : Nat) : Nat → Option Nat
  | 0 => none
  | r + 1 => if dOc pw set (dOF pw set r) r then some r else dOF pw set r
theorem dOF_lt {pw : Nat → Nat} {set : Nat} : ∀ n d, dOF pw set n = some d → d < n
  | 0, d, h => by cases h
  | n + 1, d, h => by
    unfold dOF at h
    split at h
    · cases h; omega
    · have := dOF_lt n d h
      omega
def dP (pw : Nat → Nat) (b : Option Nat) : Int32 := match b with
  | none => -1
  | some d => nI (pw d)
def S2_dearestOutside : z_PT := fun as P nx K => ∃ (rf : Nat → Option Nat) (ra : Nat → Int32) (ld : Nat → Int64) (fo fa : Nat → Int32) (st n kn to : Nat) (set : Nat) (fr tw pr fm : Nat → Int32) (sz : Nat → Nat) (dy ct pa : Nat → Nat → Int32) (pw : Nat → Nat), as = [.ref 15, .int (nI set)] ∧ (z_in (zN rf ra ld fo fa st n kn to) P) ∧ (zRf n rf) ∧ (zRd n fr tw pr fm sz dy ct pa P) ∧ (∀ r, r < n → pr r = nI (pw r) ∧ pw r ≤ 9999) ∧ (set < 4096) ∧ K (some (.int (nI ((dOF pw set n).getD 0)))) P nx
set_option maxRecDepth 4000 in
theorem sp2_dearestOutside (l : Launch) : z_Sp l M2_dearestOutside rM2_dearestOutside S2_dearestOutside := by
  refine z_enter (by decide) (fun as P nx K h => ?_) (fun X K as P nx hX hE hin0 hS => ?_)
  · obtain ⟨rf, ra, ld, fo, fa, st, n, kn, to, set, fr, tw, pr, fm, sz, dy, ct, pa, pw, rfl, -⟩ := h
    exact Nat.le_of_ble_eq_true rfl
  obtain ⟨rf, ra, ld, fo, fa, st, n, kn, to, set, fr, tw, pr, fm, sz, dy, ct, pa, pw, rfl, p1, p2, p3, p4, p5, hK⟩ := hS
  refine z_pad 3 ?_
  show z_W X 0 [some (.ref 15), some (.int (nI set)), none, none, none] [] P nx 0 0
  have hM := p1
  have hn12 := p2.1
  have loop : ∀ (k i : Nat), i + k = n → z_W X 7 [some (.ref 15), some (.int (nI set)), some (.int (nI ((dOF pw set i).getD 0))), some (.int (dP pw (dOF pw set i))), some (.int (nI i))] [] P nx 0 0 := by
    intro k
    induction k with
    | zero =>
      intro i hi
      have hi : i = n := by omega
      subst hi
      refine z_iload hX d2_dearestOutside_7 rfl ?_
      refine z_aload_n hX d2_dearestOutside_9 rfl ?_
      refine z_get hX lf_2_31 (hM _ _ rfl) rfl d2_dearestOutside_10 ?_
      refine z_icmp_ge hX 59 d2_dearestOutside_13 (by decide) (fun h13 => ?_) (fun h13 => ?_)
      rotate_left
      · exact absurd (Int32.le_refl _) h13
      refine z_iload_n hX d2_dearestOutside_59 rfl ?_
      refine z_iret hX hE (by decide) (by decide) d2_dearestOutside_60 ?_
      exact hK
    | succ k ih =>
      intro i hi
      have := ih (i + 1) (by omega)
      unfold dOF at this
      refine z_iload hX d2_dearestOutside_7 rfl ?_
      refine z_aload_n hX d2_dearestOutside_9 rfl ?_
      refine z_get hX lf_2_31 (hM _ _ rfl) rfl d2_dearestOutside_10 ?_
      refine z_icmp_ge hX 59 d2_dearestOutside_13 (by decide) (fun h13 => ?_) (fun h13 => ?_)
      · exact absurd h13 (nI_ge (by omega) (by omega))
      refine z_iload_n hX d2_dearestOutside_16 rfl ?_
      refine z_iload hX d2_dearestOutside_17 rfl ?_
      refine z_ishr hX d2_dearestOutside_19 ?_
      refine z_iconst hX (1) d2_dearestOutside_20 (by decide) ?_
      refine z_iand hX d2_dearestOutside_21 ?_
      refine z_if_ne hX 53 d2_dearestOutside_22 (by decide) (fun h22 => ?_) (fun h22 => ?_)
      · skip
        rw [hasZ (by omega) (by omega)] at h22
        rw [if_neg (by unfold dOc; rw [eq_true_of_ne_false h22]; simp)] at this
        refine z_iinc hX (1) (by decide) rfl (by decide) d2_dearestOutside_53 ?_
        dsimp only [z_p1, z_p2, z_k, List.headD, List.tail]
        refine z_goto hX 7 d2_dearestOutside_56 (by decide) ?_
        rw [nI_1]
        exact this
      · skip
        rw [hasZ (by omega) (by omega)] at h22
        refine z_aload_n hX d2_dearestOutside_25 rfl ?_
        refine z_get hX lf_2_11 (hM _ _ rfl) rfl d2_dearestOutside_26 ?_
        refine z_iload hX d2_dearestOutside_29 rfl ?_
        refine z_aald hX (hM _ _ rfl) (vp_in_nI (by omega) (by decide)) (by rw [nI_clamp (show i < 2 ^ 31 by omega)]; exact p2.2 i (by omega)) d2_dearestOutside_31 ?_
        refine z_get hX lf_2_87 (p3 i (by omega)).1 rfl d2_dearestOutside_32 ?_
        rw [(p4 i (by omega)).1]
        refine z_iload_n hX d2_dearestOutside_35 rfl ?_
        refine z_icmp_lt hX 53 d2_dearestOutside_36 (by decide) (fun h36 => ?_) (fun h36 => ?_)
        · skip
          rw [if_neg (by
            unfold dOc
            rw [h22]
            cases hb : dOF pw set i with
            | none => rw [hb] at h36; exact absurd h36 (by show ¬ nI (pw i) < -1; rw [i_lt, nI_toInt (by have := (p4 i (by omega)).2; omega), show (-1 : Int32).toInt = -1 from rfl]; omega)
            | some d =>
              rw [hb] at h36
              have h36 : nI (pw i) < nI (pw d) := h36
              have l1 := (p4 i (by omega)).2
              have l2 := (p4 d (by have := dOF_lt i d hb; omega)).2
              rw [i_lt, nI_toInt (by omega), nI_toInt (by omega)] at h36
              simp
              omega)] at this
          refine z_iinc hX (1) (by decide) rfl (by decide) d2_dearestOutside_53 ?_
          dsimp only [z_p1, z_p2, z_k, List.headD, List.tail]
          refine z_goto hX 7 d2_dearestOutside_56 (by decide) ?_
          rw [nI_1]
          exact this
        · skip
          rw [if_pos (by
            unfold dOc
            rw [h22]
            cases hb : dOF pw set i with
            | none => rfl
            | some d =>
              rw [hb] at h36
              have h36 : ¬ nI (pw i) < nI (pw d) := h36
              have l1 := (p4 i (by omega)).2
              have l2 := (p4 d (by have := dOF_lt i d hb; omega)).2
              rw [i_lt, nI_toInt (by omega), nI_toInt (by omega)] at h36
              simp
              omega)] at this
          refine z_iload hX d2_dearestOutside_39 rfl ?_
          refine z_istore_n hX 2 rfl (by decide) d2_dearestOutside_41 ?_
          dsimp only [z_p1, z_p2, z_k, List.headD, List.tail]
          refine z_aload_n hX d2_dearestOutside_42 rfl ?_
          refine z_get hX lf_2_11 (hM _ _ rfl) rfl d2_dearestOutside_43 ?_
          refine z_iload hX d2_dearestOutside_46 rfl ?_
          refine z_aald hX (hM _ _ rfl) (vp_in_nI (by omega) (by decide)) (by rw [nI_clamp (show i < 2 ^ 31 by omega)]; exact p2.2 i (by omega)) d2_dearestOutside_48 ?_
          refine z_get hX lf_2_87 (p3 i (by omega)).1 rfl d2_dearestOutside_49 ?_
          rw [(p4 i (by omega)).1]
          refine z_istore_n hX 3 rfl (by decide) d2_dearestOutside_52 ?_
          dsimp only [z_p1, z_p2, z_k, List.headD, List.tail]
          refine z_iinc hX (1) (by decide) rfl (by decide) d2_dearestOutside_53 ?_
          dsimp only [z_p1, z_p2, z_k, List.headD, List.tail]
          refine z_goto hX 7 d2_dearestOutside_56 (by decide) ?_
          rw [nI_1]
          exact this
  refine z_iconst hX (0) d2_dearestOutside_0 (by decide) ?_
  refine z_istore_n hX 2 rfl (by decide) d2_dearestOutside_1 ?_
  dsimp only [z_p1, z_p2, z_k, List.headD, List.tail]
  refine z_iconst hX (-1) d2_dearestOutside_2 (by decide) ?_
  refine z_istore_n hX 3 rfl (by decide) d2_dearestOutside_3 ?_
  dsimp only [z_p1, z_p2, z_k, List.headD, List.tail]
  refine z_iconst hX (0) d2_dearestOutside_4 (by decide) ?_
  refine z_istore hX (by decide) d2_dearestOutside_5 ?_
  dsimp only [z_p1, z_p2, z_k, List.headD, List.tail]
  exact loop n 0 (by omega)
/-- meters taken off one by one -/
def cE (A : Nat → Nat) (n : Nat) (pw : Nat → Nat) : Nat → Nat × Nat
  | 0 => (2 ^ n - 1, 0)
  | i + 1 => (if pOk A n (zsd (cE A n pw i).1 (2 ^ (dOF pw (cE A n pw i).2 n).getD 0)) then zsd (cE A n pw i).1 (2 ^ (dOF pw (cE A n pw i).2 n).getD 0) else (cE A n pw i).1, (cE A n pw i).2 ||| 2 ^ (dOF pw (cE A n pw i).2 n).getD 0)
theorem zsd_le (a b : Nat) {n : Nat} (h : a < 2 ^ n) : zsd a b < 2 ^ n := zsd_ltn h
theorem dOF_get {pw : Nat → Nat} {set n : Nat} (hn : 0 < n) : (dOF pw set n).getD 0 < n := by
  cases h : dOF pw set n with
  | none => exact hn
  | some d => exact dOF_lt n d h
theorem cE_lt {A : Nat → Nat} {n : Nat} {pw : Nat → Nat} : ∀ i, i ≤ n → (cE A n pw i).1 < 2 ^ n ∧ (cE A n pw i).2 < 2 ^ n
  | 0, _ => by
    have := Nat.two_pow_pos n
    unfold cE
    exact ⟨by show 2 ^ n - 1 < 2 ^ n; omega, this⟩
  | i + 1, hi => by
    obtain ⟨h1, h2⟩ := cE_lt (A := A) (n := n) (pw := pw) i (by omega)
    unfold cE
    refine ⟨?_, or_ltn h2 (Nat.pow_lt_pow_right (by decide) (dOF_get (by omega)))⟩
    dsimp only
    split
    · exact zsd_ltn h1
    · exact h1
def S2_cheapestEnough : z_PT := fun as P nx K => ∃ (rf : Nat → Option Nat) (ra : Nat → Int32) (ld : Nat → Int64) (fo fa : Nat → Int32) (st n kn to : Nat) (A : Nat → Nat) (fr tw pr fm : Nat → Int32) (sz : Nat → Nat) (dy ct pa : Nat → Nat → Int32) (pw : Nat → Nat), as = [.ref 15] ∧ z_in (zN rf ra ld fo fa st n kn to) P ∧ zRa ra A n ∧ zRf n rf ∧ zRd n fr tw pr fm sz dy ct pa P ∧ (∀ r, r < n → pr r = nI (pw r) ∧ pw r ≤ 9999) ∧ ∀ (fo2 fa2 : Nat → Int32) (st2 : Nat) (P' : z_H), z_in (zN rf ra ld fo2 fa2 st2 n kn to) P' → z_out zDn P P' → K (some (.int (nI (cE A n pw n).1))) P' nx
set_option maxRecDepth 4000 in
theorem sp2_cheapestEnough (l : Launch) : z_Sp l M2_cheapestEnough rM2_cheapestEnough S2_cheapestEnough := by
  refine z_enter (by decide) (fun as P nx K h => ?_) (fun X K as P nx hX hE hin0 hS => ?_)
  · obtain ⟨rf, ra, ld, fo, fa, st, n, kn, to, A, fr, tw, pr, fm, sz, dy, ct, pa, pw, rfl, -⟩ := h
    exact Nat.le_of_ble_eq_true rfl
  obtain ⟨rf, ra, ld, fo, fa, st, n, kn, to, A, fr, tw, pr, fm, sz, dy, ct, pa, pw, rfl, hM, pA, p2, hRd, p4, hK⟩ := hS
  refine z_pad 4 ?_
  show z_W X 0 [some (.ref 15), none, none, none, none] [] P nx 0 0
  have hn12 := pA.1
  have hpw := pw_le pA.1
  obtain ⟨P0, hP0⟩ : ∃ P0, P0 = P := ⟨_, rfl⟩
  rw [← hP0] at hK
  have hO : z_out zDn P0 P := by rw [hP0]; exact z_out.rf
  have loop : ∀ (k i : Nat) (fo fa : Nat → Int32) (st : Nat) (P : z_H), i + k = n → z_in (zN rf ra ld fo fa st n kn to) P → zRd n fr tw pr fm sz dy ct pa P → z_out zDn P0 P → z_W X 13 [some (.ref 15), some (.int (nI (cE A n pw i).1)), some (.int (nI (cE A n pw i).2)), some (.int (nI i)), none] [] P nx 0 0 := by
    intro k
    induction k with
    | zero =>
      intro i fo fa st P hi hM hRd hO
      have hi : i = n := by omega
      subst hi
      refine z_iload_n hX d2_cheapestEnough_13 rfl ?_
      refine z_aload_n hX d2_cheapestEnough_14 rfl ?_
      refine z_get hX lf_2_31 (hM _ _ rfl) rfl d2_cheapestEnough_15 ?_
      refine z_icmp_ge hX 65 d2_cheapestEnough_18 (by decide) (fun h18 => ?_) (fun h18 => ?_)
      rotate_left
      · exact absurd (Int32.le_refl _) h18
      refine z_iload_n hX d2_cheapestEnough_65 rfl ?_
      refine z_iret hX hE (by decide) (by decide) d2_cheapestEnough_66 ?_
      exact hK _ _ _ P hM hO
    | succ k ih =>
      intro i fo fa st P hi hM hRd hO
      obtain ⟨l1, l2⟩ := cE_lt (A := A) (n := n) (pw := pw) i (by omega)
      have l3 := dOF_get (pw := pw) (set := (cE A n pw i).2) (show 0 < n by omega)
      refine z_iload_n hX d2_cheapestEnough_13 rfl ?_
      refine z_aload_n hX d2_cheapestEnough_14 rfl ?_
      refine z_get hX lf_2_31 (hM _ _ rfl) rfl d2_cheapestEnough_15 ?_
      refine z_icmp_ge hX 65 d2_cheapestEnough_18 (by decide) (fun h18 => ?_) (fun h18 => ?_)
      · exact absurd h18 (nI_ge (by omega) (by omega))
      refine z_aload_n hX d2_cheapestEnough_21 rfl ?_
      refine z_iload_n hX d2_cheapestEnough_22 rfl ?_
      refine z_callV1 hX (sp2_dearestOutside l) lm_2_81 (hM _ _ rfl) ⟨by decide, by decide, by decide, by decide⟩ (Nat.le_of_ble_eq_true rfl) d2_cheapestEnough_23 ?_
      refine ⟨rf, ra, ld, fo, fa, st, n, kn, to, (cE A n pw i).2, fr, tw, pr, fm, sz, dy, ct, pa, pw, rfl, hM, p2, hRd, p4, by omega, ?_⟩
      dsimp only [Option.toList, List.cons_append, List.nil_append]
      refine z_istore hX (by decide) d2_cheapestEnough_26 ?_
      dsimp only [z_p1, z_p2, z_k, List.headD, List.tail]
      refine z_iload_n hX d2_cheapestEnough_28 rfl ?_
      refine z_iconst hX (1) d2_cheapestEnough_29 (by decide) ?_
      refine z_iload hX d2_cheapestEnough_30 rfl ?_
      refine z_ishl hX d2_cheapestEnough_32 ?_
      refine z_ior hX d2_cheapestEnough_33 ?_
      rw [sh1 (by omega), fa_or]
      refine z_istore_n hX 2 rfl (by decide) d2_cheapestEnough_34 ?_
      dsimp only [z_p1, z_p2, z_k, List.headD, List.tail]
      refine z_aload_n hX d2_cheapestEnough_35 rfl ?_
      refine z_iload_n hX d2_cheapestEnough_36 rfl ?_
      refine z_iconst hX (1) d2_cheapestEnough_37 (by decide) ?_
      refine z_iload hX d2_cheapestEnough_38 rfl ?_
      refine z_ishl hX d2_cheapestEnough_40 ?_
      refine z_iconst hX (-1) d2_cheapestEnough_41 (by decide) ?_
      refine z_ixor hX d2_cheapestEnough_42 ?_
      refine z_iand hX d2_cheapestEnough_43 ?_
      rw [sh1 (by omega), fa_sd]
      refine z_callV1 hX (sp2_isEnough l) lm_2_84 (hM _ _ rfl) ⟨by decide, by decide, by decide, by decide⟩ (Nat.le_of_ble_eq_true rfl) d2_cheapestEnough_44 ?_
      refine ⟨rf, ra, ld, fo, fa, st, n, kn, to, A, _, rfl, hM, pA, zsd_ltn l1, fun fo fa st P hM hO1 => ?_⟩
      have hO := hO.tr hO1
      have hRd := hRd.out hO1 zDn_90
      have nxt := ih (i + 1) fo fa st P (by omega) hM hRd hO
      unfold cE at nxt
      dsimp only at nxt
      dsimp only [Option.toList, List.cons_append, List.nil_append]
      refine z_ifb_eq hX 59 d2_cheapestEnough_47 (by decide) (fun h47 => ?_) (fun h47 => ?_)
      · skip
        rw [if_neg (by rw [h47]; decide)] at nxt
        refine z_iinc hX (1) (by decide) rfl (by decide) d2_cheapestEnough_59 ?_
        dsimp only [z_p1, z_p2, z_k, List.headD, List.tail]
        refine z_goto hX 13 d2_cheapestEnough_62 (by decide) ?_
        rw [nI_1]
        exact z_sub nxt (by repeat' (first | exact trivial | refine ⟨rfl, ?_⟩))
      · skip
        rw [if_pos h47] at nxt
        refine z_iload_n hX d2_cheapestEnough_50 rfl ?_
        refine z_iconst hX (1) d2_cheapestEnough_51 (by decide) ?_
        refine z_iload hX d2_cheapestEnough_52 rfl ?_
        refine z_ishl hX d2_cheapestEnough_54 ?_
        refine z_iconst hX (-1) d2_cheapestEnough_55 (by decide) ?_
        refine z_ixor hX d2_cheapestEnough_56 ?_
        refine z_iand hX d2_cheapestEnough_57 ?_
        rw [sh1 (by omega), fa_sd]
        refine z_istore_n hX 1 rfl (by decide) d2_cheapestEnough_58 ?_
        dsimp only [z_p1, z_p2, z_k, List.headD, List.tail]
        refine z_iinc hX (1) (by decide) rfl (by decide) d2_cheapestEnough_59 ?_
        dsimp only [z_p1, z_p2, z_k, List.headD, List.tail]
        refine z_goto hX 13 d2_cheapestEnough_62 (by decide) ?_
        rw [nI_1]
        exact z_sub nxt (by repeat' (first | exact trivial | refine ⟨rfl, ?_⟩))
  refine z_iconst hX (1) d2_cheapestEnough_0 (by decide) ?_
  refine z_aload_n hX d2_cheapestEnough_1 rfl ?_
  refine z_get hX lf_2_31 (hM _ _ rfl) rfl d2_cheapestEnough_2 ?_
  refine z_ishl hX d2_cheapestEnough_5 ?_
  refine z_iconst hX (1) d2_cheapestEnough_6 (by decide) ?_
  refine z_isub hX d2_cheapestEnough_7 ?_
  rw [pw_s hn12]
  refine z_istore_n hX 1 rfl (by decide) d2_cheapestEnough_8 ?_
  dsimp only [z_p1, z_p2, z_k, List.headD, List.tail]
  refine z_iconst hX (0) d2_cheapestEnough_9 (by decide) ?_
  refine z_istore_n hX 2 rfl (by decide) d2_cheapestEnough_10 ?_
  dsimp only [z_p1, z_p2, z_k, List.headD, List.tail]
  refine z_iconst hX (0) d2_cheapestEnough_11 (by decide) ?_
  refine z_istore_n hX 3 rfl (by decide) d2_cheapestEnough_12 ?_
  dsimp only [z_p1, z_p2, z_k, List.headD, List.tail]
  exact loop n 0 fo fa st P (by omega) hM hRd hO
/-- settling -/
def sLd (lo : Nat → Int64) (ld : Nat → Int64) : Nat → Nat → Int64
  | 0 => ld
  | i + 1 => if lo i = -1 then sLd lo ld i else vp_updL (sLd lo ld i) i (lo i)
def sKn (lo : Nat → Int64) (n : Nat) : Nat := zbt (fun r => decide (¬ lo r = -1)) n
def sS (tw : Nat → Int32) (A : Nat → Nat) (n : Nat) (q : Nat × (Nat → Int64)) (e : Nat × Nat) : Nat × (Nat → Int64) := (q.1 ||| 2 ^ e.1, vp_updL q.2 e.1 (if tw e.1 = nI e.2 then -cSu tw q.2 A e.2 q.1 n else cSu tw q.2 A e.2 q.1 n))
def sT (tw : Nat → Int32) (A : Nat → Nat) (n : Nat) (lo ld : Nat → Int64) : Nat × (Nat → Int64) := (fL A 13 (sKn lo n, [])).2.foldl (sS tw A n) (sKn lo n, sLd lo ld n)
theorem fF_all {A : Nat → Nat} {n : Nat} (hn : n ≤ 12) (hA : ∀ j, A j < 2 ^ n) : ∀ k j q, j + k ≤ 8 → (∀ e ∈ q.2, e.1 < n ∧ e.2 < 8) → ∀ e ∈ (fF A k j q).2, e.1 < n ∧ e.2 < 8
  | 0, j, q, _, h => h
  | k + 1, j, q, hj, h => by
    refine fF_all hn hA k (j + 1) (fS A j q) (by omega) ?_
    unfold fS
    split
    · rename_i e1
      intro e he
      rcases List.mem_append.mp he with he | he
      · exact h e he
      · rw [List.mem_singleton.mp he]
        have hl := zsd_ltn (b := q.1) (hA j)
        obtain ⟨g1, g2⟩ := one_log _ (Nat.lt_of_lt_of_le hl (pw_le hn)) e1
        refine ⟨?_, by show j < 8; omega⟩
        rw [g1] at hl
        exact (Nat.pow_lt_pow_iff_right (by decide)).mp hl
    · exact h
theorem fL_all {A : Nat → Nat} {n : Nat} (hn : n ≤ 12) (hA : ∀ j, A j < 2 ^ n) : ∀ f q, (∀ e ∈ q.2, e.1 < n ∧ e.2 < 8) → ∀ e ∈ (fL A f q).2, e.1 < n ∧ e.2 < 8
  | 0, q, h => h
  | f + 1, q, h => by
    unfold fL
    split
    · exact fF_all hn hA 8 0 q (by omega) h
    · exact fL_all hn hA f _ (fF_all hn hA 8 0 q (by omega) h)
theorem sS_lt {tw : Nat → Int32} {A : Nat → Nat} {n : Nat} : ∀ (L : List (Nat × Nat)) (q : Nat × (Nat → Int64)), (∀ e ∈ L, e.1 < n ∧ e.2 < 8) → q.1 < 2 ^ n → (L.foldl (sS tw A n) q).1 < 2 ^ n
  | [], q, _, h => h
  | e :: L, q, he, h => sS_lt L _ (fun e' h' => he e' (List.mem_cons_of_mem _ h')) (or_ltn h (Nat.pow_lt_pow_right (by decide) (he e List.mem_cons_self).1))
theorem fL_len (A : Nat → Nat) : ∀ f q, q.2.length ≤ zpop q.1 → (fL A f q).2.length ≤ zpop (fL A f q).1
  | 0, q, h => h
  | f + 1, q, h => by
    unfold fL
    split
    · exact fF_len A 8 0 q h
    · exact fL_len A f _ (fF_len A 8 0 q h)
theorem fL_len12 (A : Nat → Nat) (set : Nat) : (fL A 13 (set, [])).2.length ≤ 12 := Nat.le_trans (fL_len A 13 (set, []) (Nat.zero_le _)) (zpop_le _)
theorem zA_n {wd mo : Nat → Nat → Int32} {h : Nat → Bool} {hl : Nat → Int32} {hn : Nat} : ∀ j, zDn j = true → zA wd mo h hl hn j = none := by
  intro j hj
  cases e : zA wd mo h hl hn j with
  | none => rfl
  | some c =>
    obtain ⟨h1, h2⟩ := zA_dom e
    have : 15 ≤ j := Nat.le_of_ble_eq_true (Bool.and_eq_true_iff.mp hj).1
    omega
/-- what the class knows of each road: a shape, days -/
def cRo (n : Nat) (fm : Nat → Int32) (sh : Nat → Nat) (sz : Nat → Nat) (dy : Nat → Nat → Int32) (dl : Nat → Nat → Nat) : Prop := ∀ r, r < n → fm r = nI (sh r) ∧ sh r < 4 ∧ cDl (dy r) (dl r) (sz r)
def S2_settle : z_PT := fun as P nx K => ∃ (rf : Nat → Option Nat) (ra : Nat → Int32) (ld : Nat → Int64) (fo fa : Nat → Int32) (st n kn to : Nat) (A : Nat → Nat) (fr tw pr fm : Nat → Int32) (sz : Nat → Nat) (dy ct pa : Nat → Nat → Int32) (sh : Nat → Nat) (dl : Nat → Nat → Nat) (wd mo : Nat → Nat → Int32) (h : Nat → Bool) (hl : Nat → Int32) (hd : Nat → Nat) (hn : Nat) (lo : Nat → Int64), as = [.ref 15, .ref 2] ∧ z_in (zN rf ra ld fo fa st n kn to) P ∧ zRa ra A n ∧ zRf n rf ∧ zRd n fr tw pr fm sz dy ct pa P ∧ cRo n fm sh sz dy dl ∧ z_in (zA wd mo h hl hn) P ∧ cHl hl hd hn ∧ (∀ r, lo r = cLoad wd mo h hd hn (dl r) (ct r) (sz r) (sh r)) ∧ ∀ (fo2 fa2 : Nat → Int32) (st2 : Nat) (P' : z_H), z_in (zN rf ra (sT tw A n lo ld).2 fo2 fa2 st2 n (sKn lo n) (sT tw A n lo ld).1) P' → z_out zDn P P' → K none P' nx
set_option maxRecDepth 4000 in
theorem sp2_settle (l : Launch) : z_Sp l M2_settle rM2_settle S2_settle := by
  refine z_enter (by decide) (fun as P nx K h => ?_) (fun X K as P nx hX hE hin0 hS => ?_)
  · obtain ⟨rf, ra, ld, fo, fa, st, n, kn, to, A, fr, tw, pr, fm, sz, dy, ct, pa, sh, dl, wd, mo, h, hl, hd, hn, lo, rfl, -⟩ := h
    exact Nat.le_of_ble_eq_true rfl
  obtain ⟨rf, ra, ld, fo, fa, st, n, kn, to, A, fr, tw, pr, fm, sz, dy, ct, pa, sh, dl, wd, mo, h, hl, hd, hn, lo, rfl, hM, pA, p2, hRd0, p5, hA0, p7, p8, hK⟩ := hS
  refine z_pad 5 ?_
  show z_W X 0 [some (.ref 15), some (.ref 2), none, none, none, none, none] [] P nx 0 0
  have hn12 := pA.1
  have hpw := pw_le pA.1
  obtain ⟨P0, hP0⟩ : ∃ P0, P0 = P := ⟨_, rfl⟩
  rw [← hP0] at hK hRd0 hA0
  have hO : z_out zDn P0 P := by rw [hP0]; exact z_out.rf
  have hkn : sKn lo n < 2 ^ n := zbt_lt _ _
  have hall := fL_all hn12 pA.2.1 13 (sKn lo n, []) (fun e he => by cases he)
  have hlen : (fL A 13 (sKn lo n, [])).2.length ≤ 12 := fL_len12 A (sKn lo n)
  have l2 : ∀ (k i : Nat) (fo fa : Nat → Int32) (P : z_H), i + k = (fL A 13 (sKn lo n, [])).2.length → zRel (fL A 13 (sKn lo n, [])).2 fo fa → z_in (zN rf ra (((fL A 13 (sKn lo n, [])).2.take i).foldl (sS tw A n) (sKn lo n, sLd lo ld n)).2 fo fa (fL A 13 (sKn lo n, [])).2.length n (sKn lo n) (((fL A 13 (sKn lo n, [])).2.take i).foldl (sS tw A n) (sKn lo n, sLd lo ld n)).1) P → z_out zDn P0 P → z_W X 90 [some (.ref 15), some (.ref 2), some (.int (nI i)), none, none, none, none] [] P nx 0 0 := by
    intro k
    induction k with
    | zero =>
      intro i fo fa P hi hR hM hO
      have hi : i = (fL A 13 (sKn lo n, [])).2.length := by omega
      rw [hi, List.take_length] at hM
      rw [hi]
      refine z_iload_n hX d2_settle_90 rfl ?_
      refine z_aload_n hX d2_settle_91 rfl ?_
      refine z_get hX lf_2_74 (hM _ _ rfl) rfl d2_settle_92 ?_
      refine z_icmp_ge hX 167 d2_settle_95 (by decide) (fun h95 => ?_) (fun h95 => ?_)
      rotate_left
      · exact absurd (Int32.le_refl _) h95
      refine z_vret hX hE (by decide) (by decide) d2_settle_167 ?_
      exact hK fo fa _ P hM hO
    | succ k ih =>
      intro i fo fa P hi hR hM hO
      have hRd := hRd0.out hO zDn_90
      obtain ⟨e, he⟩ : ∃ e, (fL A 13 (sKn lo n, [])).2[i]? = some e := ⟨_, List.getElem?_eq_getElem (by omega)⟩
      obtain ⟨e1, e2⟩ := hall e (List.mem_of_getElem? he)
      have htk : ((fL A 13 (sKn lo n, [])).2.take (i + 1)).foldl (sS tw A n) (sKn lo n, sLd lo ld n) = sS tw A n (((fL A 13 (sKn lo n, [])).2.take i).foldl (sS tw A n) (sKn lo n, sLd lo ld n)) e := by
        rw [List.take_add_one, he, List.foldl_append]
        rfl
      have hq := sS_lt (tw := tw) (A := A) ((fL A 13 (sKn lo n, [])).2.take i) (sKn lo n, sLd lo ld n) (fun e' h' => hall e' (List.mem_of_mem_take h')) hkn
      generalize ((fL A 13 (sKn lo n, [])).2.take i).foldl (sS tw A n) (sKn lo n, sLd lo ld n) = Q at hM htk hq
      refine z_iload_n hX d2_settle_90 rfl ?_
      refine z_aload_n hX d2_settle_91 rfl ?_
      refine z_get hX lf_2_74 (hM _ _ rfl) rfl d2_settle_92 ?_
      refine z_icmp_ge hX 167 d2_settle_95 (by decide) (fun h95 => ?_) (fun h95 => ?_)
      · exact absurd h95 (nI_ge (by omega) (by omega))
      refine z_aload_n hX d2_settle_98 rfl ?_
      refine z_get hX lf_2_25 (hM _ _ rfl) rfl d2_settle_99 ?_
      refine z_iload_n hX d2_settle_102 rfl ?_
      refine z_iald hX (hM _ _ rfl) (vp_in_nI (by omega) (by decide)) d2_settle_103 ?_
      rw [nI_clamp (show i < 2 ^ 31 by omega), (hR i e he).1]
      refine z_istore_n hX 3 rfl (by decide) d2_settle_104 ?_
      dsimp only [z_p1, z_p2, z_k, List.headD, List.tail]
      refine z_aload_n hX d2_settle_105 rfl ?_
      refine z_get hX lf_2_28 (hM _ _ rfl) rfl d2_settle_106 ?_
      refine z_iload_n hX d2_settle_109 rfl ?_
      refine z_iald hX (hM _ _ rfl) (vp_in_nI (by omega) (by decide)) d2_settle_110 ?_
      rw [nI_clamp (show i < 2 ^ 31 by omega), (hR i e he).2]
      refine z_istore hX (by decide) d2_settle_111 ?_
      dsimp only [z_p1, z_p2, z_k, List.headD, List.tail]
      refine z_aload_n hX d2_settle_113 rfl ?_
      refine z_iload hX d2_settle_114 rfl ?_
      refine z_callV1 hX (sp2_surplus l) lm_2_77 (hM _ _ rfl) ⟨by decide, by decide, by decide, by decide⟩ (Nat.le_of_ble_eq_true rfl) d2_settle_116 ?_
      refine ⟨rf, ra, _, fo, fa, _, n, _, _, e.2, A, fr, tw, pr, fm, sz, dy, ct, pa, rfl, hM, pA, e2, p2, hRd, by omega, ?_⟩
      dsimp only [Option.toList, List.cons_append, List.nil_append]
      refine z_lstore hX (by decide) d2_settle_119 ?_
      dsimp only [z_p1, z_p2, z_k, List.headD, List.tail]
      refine z_aload_n hX d2_settle_121 rfl ?_
      refine z_get hX lf_2_21 (hM _ _ rfl) rfl d2_settle_122 ?_
      refine z_iload_n hX d2_settle_125 rfl ?_
      refine z_aload_n hX d2_settle_126 rfl ?_
      refine z_get hX lf_2_11 (hM _ _ rfl) rfl d2_settle_127 ?_
      refine z_iload_n hX d2_settle_130 rfl ?_
      refine z_aald hX (hM _ _ rfl) (vp_in_nI (by omega) (by decide)) (by rw [nI_clamp (show e.1 < 2 ^ 31 by omega)]; exact p2.2 e.1 e1) d2_settle_131 ?_
      refine z_get hX lf_2_52 (hRd e.1 e1).1 rfl d2_settle_132 ?_
      refine z_iload hX d2_settle_135 rfl ?_
      refine z_icmp_ne hX 146 d2_settle_137 (by decide) (fun h137 => ?_) (fun h137 => ?_)
      · skip
        have es : sS tw A n Q e = (Q.1 ||| 2 ^ e.1, vp_updL Q.2 e.1 (cSu tw Q.2 A e.2 Q.1 n)) := by unfold sS; rw [if_neg h137]
        refine z_lload hX d2_settle_146 rfl ?_
        refine z_last hX (hM _ _ rfl) (vp_in_nI (by omega) (by decide)) d2_settle_148 ?_
        rw [nI_clamp (show e.1 < 2 ^ 31 by omega)]
        refine z_gen hM hO rfl (fun P hM hO => ?_)
        have hM := zN_ld hM
        refine z_aload_n hX d2_settle_149 rfl ?_
        refine z_dup hX rfl d2_settle_150 ?_
        refine z_get hX lf_2_45 (hM _ _ rfl) rfl d2_settle_151 ?_
        refine z_iconst hX (1) d2_settle_154 (by decide) ?_
        refine z_iload_n hX d2_settle_155 rfl ?_
        refine z_ishl hX d2_settle_156 ?_
        refine z_ior hX d2_settle_157 ?_
        rw [sh1 (by omega), fa_or]
        refine z_puti hX lf_2_45 rfl rfl (hM _ _ rfl) (Nat.le_of_ble_eq_true rfl) d2_settle_158 ?_
        refine z_gen hM hO rfl (fun P hM hO => ?_)
        have hM := zN_to hM
        refine z_iinc hX (1) (by decide) rfl (by decide) d2_settle_161 ?_
        dsimp only [z_p1, z_p2, z_k, List.headD, List.tail]
        refine z_goto hX 90 d2_settle_164 (by decide) ?_
        rw [nI_1]
        exact z_sub (ih (i + 1) fo fa P (by omega) hR (by rw [htk, es]; exact hM) hO) (by repeat' (first | exact trivial | refine ⟨rfl, ?_⟩))
      · skip
        have es : sS tw A n Q e = (Q.1 ||| 2 ^ e.1, vp_updL Q.2 e.1 (-cSu tw Q.2 A e.2 Q.1 n)) := by unfold sS; rw [if_pos h137]
        refine z_lload hX d2_settle_140 rfl ?_
        refine z_lneg hX d2_settle_142 ?_
        refine z_goto hX 148 d2_settle_143 (by decide) ?_
        refine z_last hX (hM _ _ rfl) (vp_in_nI (by omega) (by decide)) d2_settle_148 ?_
        rw [nI_clamp (show e.1 < 2 ^ 31 by omega)]
        refine z_gen hM hO rfl (fun P hM hO => ?_)
        have hM := zN_ld hM
        refine z_aload_n hX d2_settle_149 rfl ?_
        refine z_dup hX rfl d2_settle_150 ?_
        refine z_get hX lf_2_45 (hM _ _ rfl) rfl d2_settle_151 ?_
        refine z_iconst hX (1) d2_settle_154 (by decide) ?_
        refine z_iload_n hX d2_settle_155 rfl ?_
        refine z_ishl hX d2_settle_156 ?_
        refine z_ior hX d2_settle_157 ?_
        rw [sh1 (by omega), fa_or]
        refine z_puti hX lf_2_45 rfl rfl (hM _ _ rfl) (Nat.le_of_ble_eq_true rfl) d2_settle_158 ?_
        refine z_gen hM hO rfl (fun P hM hO => ?_)
        have hM := zN_to hM
        refine z_iinc hX (1) (by decide) rfl (by decide) d2_settle_161 ?_
        dsimp only [z_p1, z_p2, z_k, List.headD, List.tail]
        refine z_goto hX 90 d2_settle_164 (by decide) ?_
        rw [nI_1]
        exact z_sub (ih (i + 1) fo fa P (by omega) hR (by rw [htk, es]; exact hM) hO) (by repeat' (first | exact trivial | refine ⟨rfl, ?_⟩))
  have l1 : ∀ (k i : Nat) (ldi : Nat → Int64) (P : z_H), i + k = n → ldi = sLd lo ld i → z_in (zN rf ra ldi fo fa st n (zbt (fun r => decide (¬ lo r = -1)) i) to) P → z_out zDn P0 P → z_W X 7 [some (.ref 15), some (.ref 2), some (.int (nI i)), none, none, none, none] [] P nx 0 0 := by
    intro k
    induction k with
    | zero =>
      intro i ldi P hi hl' hM hO
      have hi : i = n := by omega
      subst hi
      subst hl'
      refine z_iload_n hX d2_settle_7 rfl ?_
      refine z_aload_n hX d2_settle_8 rfl ?_
      refine z_get hX lf_2_31 (hM _ _ rfl) rfl d2_settle_9 ?_
      refine z_icmp_ge hX 71 d2_settle_12 (by decide) (fun h12 => ?_) (fun h12 => ?_)
      rotate_left
      · exact absurd (Int32.le_refl _) h12
      refine z_aload_n hX d2_settle_71 rfl ?_
      refine z_aload_n hX d2_settle_72 rfl ?_
      refine z_get hX lf_2_42 (hM _ _ rfl) rfl d2_settle_73 ?_
      refine z_puti hX lf_2_45 rfl rfl (hM _ _ rfl) (Nat.le_of_ble_eq_true rfl) d2_settle_76 ?_
      refine z_gen hM hO rfl (fun P hM hO => ?_)
      have hM := zN_to hM
      refine z_aload_n hX d2_settle_79 rfl ?_
      refine z_aload_n hX d2_settle_80 rfl ?_
      refine z_get hX lf_2_42 (hM _ _ rfl) rfl d2_settle_81 ?_
      refine z_callV1 hX (sp2_follow l) lm_2_70 (hM _ _ rfl) ⟨by decide, by decide, by decide, by decide⟩ (Nat.le_of_ble_eq_true rfl) d2_settle_84 ?_
      refine ⟨rf, ra, _, fo, fa, st, i, _, _, A, _, rfl, hM, pA, zbt_lt _ _, fun fo fa P hR hM hO1 => ?_⟩
      have hO := hO.tr hO1
      dsimp only [Option.toList, List.cons_append, List.nil_append]
      refine z_pop hX rfl d2_settle_87 ?_
      refine z_iconst hX (0) d2_settle_88 (by decide) ?_
      refine z_istore_n hX 2 rfl (by decide) d2_settle_89 ?_
      dsimp only [z_p1, z_p2, z_k, List.headD, List.tail]
      exact z_sub (l2 (fL A 13 (sKn lo i, [])).2.length 0 fo fa P (by omega) hR (by exact hM) hO) (by repeat' (first | exact trivial | refine ⟨rfl, ?_⟩))
    | succ k ih =>
      intro i ldi P hi hl' hM hO
      subst hl'
      have hRd := hRd0.out hO zDn_90
      have hA := hO.in hA0 zA_n
      obtain ⟨r1, r2, r3⟩ := hRd i (by omega)
      obtain ⟨c1, c2, c3⟩ := p5 i (by omega)
      have nxt : ∀ P' : z_H, z_in (zN rf ra (sLd lo ld (i + 1)) fo fa st n (zbt (fun r => decide (¬ lo r = -1)) i ||| (if decide (¬ lo i = -1) then 2 ^ i else 0)) to) P' → z_out zDn P0 P' → z_W X 7 [some (.ref 15), some (.ref 2), some (.int (nI (i + 1))), none, none, none, none] [] P' nx 0 0 := fun P' g1 g2 => ih (i + 1) _ P' (by omega) rfl g1 g2
      refine z_iload_n hX d2_settle_7 rfl ?_
      refine z_aload_n hX d2_settle_8 rfl ?_
      refine z_get hX lf_2_31 (hM _ _ rfl) rfl d2_settle_9 ?_
      refine z_icmp_ge hX 71 d2_settle_12 (by decide) (fun h12 => ?_) (fun h12 => ?_)
      · exact absurd h12 (nI_ge (by omega) (by omega))
      refine z_aload_n hX d2_settle_15 rfl ?_
      refine z_get hX lf_2_11 (hM _ _ rfl) rfl d2_settle_16 ?_
      refine z_iload_n hX d2_settle_19 rfl ?_
      refine z_aald hX (hM _ _ rfl) (vp_in_nI (by omega) (by decide)) (by rw [nI_clamp (show i < 2 ^ 31 by omega)]; exact p2.2 i (by omega)) d2_settle_20 ?_
      refine z_astore_n hX 3 rfl (by decide) d2_settle_21 ?_
      dsimp only [z_p1, z_p2, z_k, List.headD, List.tail]
      refine z_aload_n hX d2_settle_22 rfl ?_
      refine z_get hX lf_2_55 r1 rfl d2_settle_23 ?_
      refine z_aload_n hX d2_settle_26 rfl ?_
      refine z_aload_n hX d2_settle_27 rfl ?_
      refine z_get hX lf_2_59 r1 rfl d2_settle_28 ?_
      rw [c1]
      refine z_callV2 hX (sp1_loadOfAll l) lm_2_62 r2.1 ⟨by decide, by decide, by decide, by decide⟩ (Nat.le_of_ble_eq_true rfl) d2_settle_31 ?_
      refine ⟨91 + 5 * i, sz i, dy i, ct i, dl i, wd, mo, h, hl, hd, hn, sh i, rfl, r2, c3, hA, c2, p7, ?_⟩
      rw [← p8]
      dsimp only [Option.toList, List.cons_append, List.nil_append]
      refine z_lstore hX (by decide) d2_settle_34 ?_
      dsimp only [z_p1, z_p2, z_k, List.headD, List.tail]
      refine z_lload hX d2_settle_36 rfl ?_
      refine z_ldc2 hX (-1) d2_settle_38 lk_2_68 ?_
      refine z_lcmp hX d2_settle_41 ?_
      refine z_if_eq hX 65 d2_settle_42 (by decide) (fun h42 => ?_) (fun h42 => ?_)
      · skip
        rw [lg_cmp_eq] at h42
        rw [show sLd lo ld (i + 1) = sLd lo ld i from if_pos h42] at nxt
        rw [if_neg (by rw [decide_eq_true_eq]; exact fun z => z h42)] at nxt
        refine z_iinc hX (1) (by decide) rfl (by decide) d2_settle_65 ?_
        dsimp only [z_p1, z_p2, z_k, List.headD, List.tail]
        refine z_goto hX 7 d2_settle_68 (by decide) ?_
        rw [nI_1]
        first | exact z_sub (nxt P hM hO) (by repeat' (first | exact trivial | refine ⟨rfl, ?_⟩)) | exact z_sub (nxt P (by rw [Nat.or_zero]; exact hM) hO) (by repeat' (first | exact trivial | refine ⟨rfl, ?_⟩))
      · skip
        rw [lg_cmp_eq] at h42
        rw [show sLd lo ld (i + 1) = vp_updL (sLd lo ld i) i (lo i) from if_neg h42] at nxt
        rw [if_pos (by rw [decide_eq_true_eq]; exact h42)] at nxt
        refine z_aload_n hX d2_settle_45 rfl ?_
        refine z_dup hX rfl d2_settle_46 ?_
        refine z_get hX lf_2_42 (hM _ _ rfl) rfl d2_settle_47 ?_
        refine z_iconst hX (1) d2_settle_50 (by decide) ?_
        refine z_iload_n hX d2_settle_51 rfl ?_
        refine z_ishl hX d2_settle_52 ?_
        refine z_ior hX d2_settle_53 ?_
        rw [sh1 (by omega), fa_or]
        refine z_puti hX lf_2_42 rfl rfl (hM _ _ rfl) (Nat.le_of_ble_eq_true rfl) d2_settle_54 ?_
        refine z_gen hM hO rfl (fun P hM hO => ?_)
        have hM := zN_kn hM
        refine z_aload_n hX d2_settle_57 rfl ?_
        refine z_get hX lf_2_21 (hM _ _ rfl) rfl d2_settle_58 ?_
        refine z_iload_n hX d2_settle_61 rfl ?_
        refine z_lload hX d2_settle_62 rfl ?_
        refine z_last hX (hM _ _ rfl) (vp_in_nI (by omega) (by decide)) d2_settle_64 ?_
        rw [nI_clamp (show i < 2 ^ 31 by omega)]
        refine z_gen hM hO rfl (fun P hM hO => ?_)
        have hM := zN_ld hM
        refine z_iinc hX (1) (by decide) rfl (by decide) d2_settle_65 ?_
        dsimp only [z_p1, z_p2, z_k, List.headD, List.tail]
        refine z_goto hX 7 d2_settle_68 (by decide) ?_
        rw [nI_1]
        first | exact z_sub (nxt P hM hO) (by repeat' (first | exact trivial | refine ⟨rfl, ?_⟩)) | exact z_sub (nxt P (by rw [Nat.or_zero]; exact hM) hO) (by repeat' (first | exact trivial | refine ⟨rfl, ?_⟩))
  refine z_aload_n hX d2_settle_0 rfl ?_
  refine z_iconst hX (0) d2_settle_1 (by decide) ?_
  refine z_puti hX lf_2_42 rfl rfl (hM _ _ rfl) (Nat.le_of_ble_eq_true rfl) d2_settle_2 ?_
  refine z_gen hM hO rfl (fun P hM hO => ?_)
  have hM := zN_kn (m := 0) hM
  refine z_iconst hX (0) d2_settle_5 (by decide) ?_
  refine z_istore_n hX 2 rfl (by decide) d2_settle_6 ?_
  dsimp only [z_p1, z_p2, z_k, List.headD, List.tail]
  exact l1 n 0 ld P (by omega) rfl hM hO
