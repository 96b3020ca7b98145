/-! the plan, of both -/
def ei (x : Int32) : Nat := if x = -1 then 8 else x.toInt.toNat
theorem ei_e {x : Int32} (hx : -1 ≤ x.toInt ∧ x.toInt < 8) : ei x < 9 ∧ (∀ v, v < 8 → (x = nI v ↔ v = ei x)) ∧ (x = -1 ↔ 8 = ei x) := by
  unfold ei
  by_cases e : x = -1
  · rw [if_pos e]
    refine ⟨by decide, fun v hv => ⟨fun z => ?_, fun z => by omega⟩, fun _ => rfl, fun _ => e⟩
    have : (nI v).toInt = -1 := by rw [← z, e]; rfl
    rw [nI_toInt (by omega)] at this
    omega
  · rw [if_neg e]
    have h0 : 0 ≤ x.toInt := by
      refine Decidable.byContradiction (fun z => e ?_)
      rw [i_eq, show (-1 : Int32).toInt = -1 from rfl]
      omega
    obtain ⟨k, hk, rfl⟩ := nI_rng (n := 8) h0 hx.2
    rw [tN (n := 8) hk (by decide)]
    refine ⟨by omega, fun v hv => ⟨fun z => ?_, fun z => by rw [z]⟩, fun z => absurd z e, fun z => by omega⟩
    rw [nI_eq (by omega) (by omega)] at z
    exact z.symm
theorem zC_two {n u v : Nat} (hu : u < n) (hv : v < n) (h : u ≠ v) : zC (fun w => decide (w = u ∨ w = v)) n = 2 := by
  rw [zC_one (p := fun w => decide (w = u)) (q := fun w => decide (w = u ∨ w = v)) (k := v) n hv (fun i _ hi => decide_eq_decide.mpr (by omega)) (decide_eq_false (fun z => h z.symm)), zC_one (p := fun _ => false) (q := fun w => decide (w = u)) (k := u) n hu (fun i _ hi => decide_eq_false hi) rfl, zC_zero]
  simp
def cB (S : cS) (v : Nat) : Nat := if v < 8 then S.A v else zbt (fun r => decide (S.fr r = -1 ∨ S.tw r = -1)) S.n
theorem cC.B2 {S : cS} {iv : Nat → Int32} {h : Nat → Bool} {a : Nat → Nat → Int32} (C : cC S iv h a) {r : Nat} (hr : r < S.n) : zC (fun v => (cB S v).testBit r) 9 = 2 := by
  obtain ⟨-, -, -, -, o1, o2, o3⟩ := C.rd r hr
  obtain ⟨f1, f2, f3⟩ := ei_e o2
  obtain ⟨t1, t2, t3⟩ := ei_e o3
  have hne : ei (S.fr r) ≠ ei (S.tw r) := fun z => by
    by_cases e : ei (S.fr r) < 8
    · exact o1 (((f2 _ e).mpr rfl).trans ((t2 _ e).mpr z).symm)
    · exact o1 ((f3.mpr (by omega)).trans (t3.mpr (by omega)).symm)
  rw [zC_ext (q := fun v => decide (v = ei (S.fr r) ∨ v = ei (S.tw r))) 9 (fun v hv => ?_)]
  · exact zC_two f1 t1 hne
  · show (cB S v).testBit r = _
    unfold cB
    by_cases e : v < 8
    · rw [if_pos e, C.Ab hr]
      refine decide_eq_decide.mpr ?_
      rw [f2 v e, t2 v e]
    · rw [if_neg e, zbt_t, decide_eq_true hr, Bool.true_and]
      refine decide_eq_decide.mpr ?_
      rw [f3, t3]
      omega
theorem pr_plan : pI S7_plan S8_plan [] := by
  rintro P nx ⟨S, iv, h, a, ld, hC, hM, C, hx⟩ K1 hK
  refine ⟨S, rfl, hC, C.I, fun ld2 fo2 fa2 st2 kn2 to2 P1 hC1 hO1 => hK _ P1 nx ⟨_, zM_c hM hO1 70 _ rfl⟩ (fun K2 h2 => ⟨iv, h, a, ld, S.n, S.pw, rfl, zM_c hM hO1, C.n, C.I.rf.1, fun r hr => ?_, fun f P' hM' hO => ?_⟩)⟩
  · rw [(C.rd r hr).2.2.1]
    exact C.I.pr r hr
  · rw [C.Af, plan_ok (B := cB S) C.I.rf.1 C.I.ra.2.1 (fun j hj => (if_pos hj).symm) (fun r hr => C.B2 hr)]
    exact h2 P' nx ⟨_, iv, h, _, ld, hC1.dm C.st.I hO, hM', (C.u89 f).st, hx⟩
