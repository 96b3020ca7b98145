/-! new cells; calls; returns; a method's entry -/
section ZN
variable {X : z_X} {l : Launch} {me : z_M} {rm : Room} {pc nx u v : Nat} {lv : List (Option Value)} {st : List Value} {P : z_H}
theorem z_new (hX : z_is X l me rm) {idx ci : Nat} {r : vw_C} (hc : z_cl[ci]? = some r) (hcl : Cond.classLink me.1.cls idx r.1 ∈ z_T) (hin : Cond.instantiable r.1 r.2.2 ∈ z_T) (hini : Cond.initialized r.1 ∈ z_T) (hu : u + 1 ≤ rm.cells) (hv : v + r.2.2 ≤ rm.slots) (hd : decode me.2.1 pc = .ok (.new idx, 3)) (kk : z_W X (pc + 3) lv (.ref nx :: st) (z_up P nx (.inr (ci, z_df ci))) (nx + 1) (u + 1) (v + r.2.2)) : z_W X pc lv st P nx u v := by
  obtain ⟨p, l, e, R, s, m, args, below, meth, c, cc, nL, own, D, cy, b, B, Q⟩ := X
  obtain ⟨yn, yc, yL, yr⟩ := me
  obtain ⟨⟨hx, hb, hml, hown, hts, hK, hB⟩, rfl, rfl, rfl, rfl, rfl⟩ := hX
  intro H locs ls hR hS hL
  have hKn := hK.1.1 ci _ hc
  refine W.newcK hx hb hown (hts _ hcl) (hts _ hin) (hts _ hini) rfl hd hu hv hKn.2.1 rfl fun H1 kC hkC e1 z1 o1 => ?_
  have hat : va_at D z_cl (H.size, z_E cy b B (.inr (ci, z_df ci))) H1 := by
    refine ⟨_, hc, ((u_born (z_ty ci) hts (z_wT ci r hc) hKn hkC e1 (z_tyT ci r hc)).to (fun j hj => ?_))⟩
    rw [z_dfT ci r hc j hj]
    show vp_V (z_df ci) j = vp_V ((z_df ci).map (z_V b B)) j
    have : (z_df ci).map (z_V b B) = z_df ci := by
      match ci, hc with
      | 0, hc => rfl
      | 1, hc => rfl
      | 2, hc => rfl
      | 3, hc => rfl
      | 4, hc => rfl
      | 5, hc => rfl
      | 6, hc => rfl
      | 7, hc => rfl
      | 8, hc => rfl
      | k + 9, hc => simp [z_cl] at hc
    rw [this]
  obtain ⟨hR1, ha⟩ := hR.push z1 hat o1
  have := kk H1 locs ls hR1 (z_S.grow hS (by omega) o1) hL
  rw [List.map_cons, show z_V b B (.ref nx) = .ref H.size from congrArg Value.ref ha] at this
  exact this
/-- newarray: the kind of cell that it makes -/
theorem z_newa0 (hX : z_is X l me rm) {at0 : ArrayType} {n : Int32} {N kd : Nat} {a0 : vp_A} (hw : Cond.arrayClass (newarray.typeOf at0) ∈ z_T) (hk : ∀ cy : Nat → ClassId, (z_tys cy)[kd]? = some (cy kd, newarray.typeOf at0)) (hf : ∀ (s : State) (c1 c2 : ClassId), va_RA s c1 (newarray.typeOf at0) → s.vm.findClass ("[" ++ (newarray.typeOf at0).toString) = some c2 → c1 = c2) (ha : ∀ cA : ClassId, vp_cell cA a0 = arrV cA N (fun _ => defaultValue (newarray.typeOf at0))) (ha2 : ∀ b B, z_A b B a0 = a0) (hn : ¬ n < 0) (hN : n.toNatClampNeg = N) (hby : N * componentBytes (newarray.typeOf at0) ≤ 536870912) (hu : u + 1 ≤ rm.cells) (hv : v + N ≤ rm.slots) (hd : decode me.2.1 pc = .ok (.newarray at0, 2)) (kk : z_W X (pc + 2) lv (.ref nx :: st) (z_up P nx (.inl (kd, a0))) (nx + 1) (u + 1) (v + N)) : z_W X pc lv (.int n :: st) P nx u v := by
  obtain ⟨p, l, e, R, s, m, args, below, meth, c, cc, nL, own, D, cy, b, B, Q⟩ := X
  obtain ⟨yn, yc, yL, yr⟩ := me
  obtain ⟨⟨hx, hb, hml, hown, hts, hK, hB⟩, rfl, rfl, rfl, rfl, rfl⟩ := hX
  intro H locs ls hR hS hL
  refine va_newaK hx hb (hts _ hw) rfl hd rfl hn hN hby hu hv rfl fun H1 cA e1 z1 o1 hAr hNm => ?_
  have hcA : cy kd = cA := hf s _ _ (hK.1.2 kd _ (hk cy)).2 hNm
  have hat : va_at D z_cl (H.size, z_E cy b B (.inl (kd, a0))) H1 := by
    show H1[H.size]? = some (vp_cell (cy kd) (z_A b B a0))
    rw [ha2, hcA, ha, e1]
  obtain ⟨hR1, hadr⟩ := hR.push z1 hat o1
  have := kk H1 locs ls hR1 (z_S.grow hS (by omega) o1) hL
  rw [List.map_cons, show z_V b B (.ref nx) = .ref H.size from congrArg Value.ref hadr] at this
  exact this
theorem z_fcu {s : State} {c1 c2 : ClassId} {t : String} (h1 : s.vm.findClass t = some c1) (h2 : s.vm.findClass t = some c2) : c1 = c2 := Option.some.inj (h1.symm.trans h2)
theorem z_newi (hX : z_is X l me rm) {n : Int32} (N : Nat) (hw : Cond.arrayClass .int ∈ z_T) (hn : ¬ n < 0) (hN : n.toNatClampNeg = N) (hby : N * 4 ≤ 536870912) (hu : u + 1 ≤ rm.cells) (hv : v + N ≤ rm.slots) (hd : decode me.2.1 pc = .ok (.newarray .int, 2)) (kk : z_W X (pc + 2) lv (.ref nx :: st) (z_up P nx (.inl (0, N, .inl (fun _ => 0)))) (nx + 1) (u + 1) (v + N)) : z_W X pc lv (.int n :: st) P nx u v :=
  z_newa0 (at0 := .int) hX hw (fun _ => rfl) (fun s c1 c2 h1 h2 => z_fcu h1 h2) (fun _ => rfl) (fun _ _ => rfl) hn hN hby hu hv hd kk
theorem z_newl (hX : z_is X l me rm) {n : Int32} (N : Nat) (hw : Cond.arrayClass .long ∈ z_T) (hn : ¬ n < 0) (hN : n.toNatClampNeg = N) (hby : N * 8 ≤ 536870912) (hu : u + 1 ≤ rm.cells) (hv : v + N ≤ rm.slots) (hd : decode me.2.1 pc = .ok (.newarray .long, 2)) (kk : z_W X (pc + 2) lv (.ref nx :: st) (z_up P nx (.inl (1, N, .inr (.inl (fun _ => 0))))) (nx + 1) (u + 1) (v + N)) : z_W X pc lv (.int n :: st) P nx u v :=
  z_newa0 (at0 := .long) hX hw (fun _ => rfl) (fun s c1 c2 h1 h2 => z_fcu h1 h2) (fun _ => rfl) (fun _ _ => rfl) hn hN hby hu hv hd kk
theorem z_newb (hX : z_is X l me rm) {n : Int32} (N : Nat) (hw : Cond.arrayClass .byte ∈ z_T) (hn : ¬ n < 0) (hN : n.toNatClampNeg = N) (hby : N * 1 ≤ 536870912) (hu : u + 1 ≤ rm.cells) (hv : v + N ≤ rm.slots) (hd : decode me.2.1 pc = .ok (.newarray .byte, 2)) (kk : z_W X (pc + 2) lv (.ref nx :: st) (z_up P nx (.inl (2, N, .inl (fun _ => 0)))) (nx + 1) (u + 1) (v + N)) : z_W X pc lv (.int n :: st) P nx u v :=
  z_newa0 (at0 := .byte) hX hw (fun _ => rfl) (fun s c1 c2 h1 h2 => z_fcu h1 h2) (fun _ => rfl) (fun _ _ => rfl) hn hN hby hu hv hd kk
theorem z_newz (hX : z_is X l me rm) {n : Int32} (N : Nat) (hw : Cond.arrayClass .boolean ∈ z_T) (hn : ¬ n < 0) (hN : n.toNatClampNeg = N) (hby : N * 1 ≤ 536870912) (hu : u + 1 ≤ rm.cells) (hv : v + N ≤ rm.slots) (hd : decode me.2.1 pc = .ok (.newarray .boolean, 2)) (kk : z_W X (pc + 2) lv (.ref nx :: st) (z_up P nx (.inl (3, N, .inl (fun _ => 0)))) (nx + 1) (u + 1) (v + N)) : z_W X pc lv (.int n :: st) P nx u v :=
  z_newa0 (at0 := .boolean) hX hw (fun _ => rfl) (fun s c1 c2 h1 h2 => z_fcu h1 h2) (fun _ => rfl) (fun _ _ => rfl) hn hN hby hu hv hd kk
theorem z_anew (hX : z_is X l me rm) {idx : Nat} {n : Int32} (N : Nat) (hcl : Cond.classLink me.1.cls idx "RoadCounts$Road" ∈ z_T) (hn : ¬ n < 0) (hN : n.toNatClampNeg = N) (hby : N * 4 ≤ 536870912) (hu : u + 1 ≤ rm.cells) (hv : v + N ≤ rm.slots) (hd : decode me.2.1 pc = .ok (.anewarray idx, 3)) (kk : z_W X (pc + 3) lv (.ref nx :: st) (z_up P nx (.inl (4, N, .inr (.inr (.inr (.inr (fun _ => none))))))) (nx + 1) (u + 1) (v + N)) : z_W X pc lv (.int n :: st) P nx u v := by
  obtain ⟨p, l, e, R, s, m, args, below, meth, c, cc, nL, own, D, cy, b, B, Q⟩ := X
  obtain ⟨yn, yc, yL, yr⟩ := me
  obtain ⟨⟨hx, hb, hml, hown, hts, hK, hB⟩, rfl, rfl, rfl, rfl, rfl⟩ := hX
  intro H locs ls hR hS hL
  subst hN
  refine W.anew hx hb hown (hts _ hcl) (va_AO.use hK.2.1) rfl hd rfl hn hby hu hv fun cA kA comp f1 f2 f3 f4 => ?_
  generalize hH1 : H.push ({ cls := cA, slots := Array.replicate n.toNatClampNeg .null, vm := .none } : Cell) = H1
  have z1 : H1.size = H.size + 1 := by rw [← hH1, Array.size_push]
  have e1 : H1[H.size]? = some (arrV cA n.toNatClampNeg (fun _ => .null)) := by rw [← hH1, Array.getElem?_push_size, ← arrV_new]
  have o1 : ∀ q : Nat, q < H.size → H1[q]? = H[q]? := fun q hq => by rw [← hH1, Array.getElem?_push, if_neg (Nat.ne_of_lt hq)]
  obtain ⟨-, -, -, -, -, k4⟩ := (hK.1.2 4 _ rfl).2
  have hcA : cy 4 = cA := z_fcu k4 f1
  have hat : va_at D z_cl (H.size, z_E cy b B (.inl (4, n.toNatClampNeg, .inr (.inr (.inr (.inr (fun _ => none))))))) H1 := by
    show H1[H.size]? = some (vp_cell (cy 4) (n.toNatClampNeg, .inr (.inr (.inr (.inr (fun _ => none))))))
    rw [hcA, vp_cell_q]
    exact e1
  obtain ⟨hR1, hadr⟩ := hR.push z1 hat o1
  have := kk H1 locs ls hR1 (z_S.grow hS (by omega) o1) hL
  rw [List.map_cons, show z_V b B (.ref nx) = .ref H.size from congrArg Value.ref hadr] at this
  exact this
/-- the world behind new int[N][M]: the outer array nx, its rows nx + 1 .. nx + N -/
def z_grid (P : z_H) (nx N M : Nat) : z_H := fun j => if j = nx then some (.inl (5, N, .inr (.inr (.inr (.inr (fun i => if i < N then some (nx + 1 + i) else none)))))) else if nx < j ∧ j ≤ nx + N then some (.inl (0, M, .inl (fun _ => 0))) else P j
theorem z_mna (hX : z_is X l me rm) {idx : Nat} {n k : Int32} (N M : Nat) (hcl : Cond.classLink me.1.cls idx "[[I" ∈ z_T) (hw : Cond.arrayClass .int ∈ z_T) (hn : ¬ n < 0) (hk : ¬ k < 0) (hN : n.toNatClampNeg = N) (hM : k.toNatClampNeg = M) (hb1 : N * 4 ≤ 536870912) (hb2 : M * 4 ≤ 536870912) (hu : u + (1 + N) ≤ rm.cells) (hv : v + (N + N * M) ≤ rm.slots) (hd : decode me.2.1 pc = .ok (.multianewarray idx 2, 4)) (kk : z_W X (pc + 4) lv (.ref nx :: st) (z_grid P nx N M) (nx + 1 + N) (u + 1 + N) (v + N + N * M)) : z_W X pc lv (.int k :: .int n :: st) P nx u v := by
  obtain ⟨p, l, e, R, s, m, args, below, meth, c, cc, nL, own, D, cy, b, B, Q⟩ := X
  obtain ⟨yn, yc, yL, yr⟩ := me
  obtain ⟨⟨hx, hb, hml, hown, hts, hK, hB⟩, rfl, rfl, rfl, rfl, rfl⟩ := hX
  intro H locs ls hR hS hL
  subst hN
  subst hM
  intro T hT Xs
  obtain ⟨vm₁, cA, comp, fA, fC, X', step⟩ := z_mna0 Xs hx hown (hts _ hcl) hK.2.2.1 (hts _ hw) (g := F0 m pc ls (.int k :: .int n :: st.map (z_V b B))) rfl (by rw [hb]; exact hd) rfl hn hk hb1 hb2 hu hv
  obtain ⟨-, f1, -, f2, hold, hin⟩ := z_gs_is (T.setVm vm₁) cA comp n.toNatClampNeg k.toNatClampNeg n.toNatClampNeg
  generalize z_gs (T.setVm vm₁) cA comp n.toNatClampNeg k.toNatClampNeg n.toNatClampNeg = F at X' step f1 f2 hold hin
  have hTh : (T.setVm vm₁).heap = H := hT
  rw [hTh] at f1 f2 hold hin
  have hc5 : cy 5 = cA := z_fcu (hK.1.2 5 _ rfl).2 fA
  have hc0 : cy 0 = comp := z_fcu (hK.1.2 0 _ rfl).2 fC
  have hrow : ∀ j : Nat, j < n.toNatClampNeg → F.heap[H.size + 1 + j]? = some (vp_cell (cy 0) (k.toNatClampNeg, .inl (fun _ => 0))) := fun j hj => by
    rw [hin j hj, hc0, vp_cell_i]
  unfold z_go at f2
  obtain ⟨r1, r2, r3, r4⟩ := hR
  obtain ⟨nn, rfl⟩ : ∃ nn, nx = nn + 1 := ⟨nx - 1, by omega⟩
  have eH : H.size = B + nn := by omega
  have hR1 : z_R D cy b B (z_grid P (nn + 1) n.toNatClampNeg k.toNatClampNeg) (nn + 1 + 1 + n.toNatClampNeg) F.heap := by
    refine ⟨by omega, by omega, ?_, fun j d hd2 => ?_⟩
    · show (if 0 = nn + 1 then _ else if nn + 1 < 0 ∧ 0 ≤ nn + 1 + n.toNatClampNeg then _ else P 0) = none
      rw [if_neg (by omega), if_neg (by omega)]
      exact r3
    · unfold z_grid at hd2
      by_cases e1 : j + 1 = nn + 1
      · rw [if_pos e1] at hd2
        cases hd2
        have : j = nn := by omega
        subst this
        show F.heap[B + j]? = some (vp_cell (cy 5) (n.toNatClampNeg, .inr (.inr (.inr (.inr (fun i => Option.map (z_ad b B) (if i < n.toNatClampNeg then some (j + 1 + 1 + i) else none)))))))
        rw [← eH, f2, hc5, vp_cell_q]
        refine congrArg some (congrArg (arrV cA _) (funext fun i => ?_))
        by_cases hi : i < n.toNatClampNeg
        · rw [if_pos hi, if_pos hi]
          show Value.ref (H.size + 1 + i) = Value.ref (z_ad b B (j + 1 + 1 + i))
          have : j + 1 + 1 + i = (j + 1 + i) + 1 := by omega
          rw [this]
          exact congrArg Value.ref (show H.size + 1 + i = B + (j + 1 + i) by omega)
        · rw [if_neg hi, if_neg hi]
          rfl
      · rw [if_neg e1] at hd2
        by_cases e2 : nn + 1 < j + 1 ∧ j + 1 ≤ nn + 1 + n.toNatClampNeg
        · rw [if_pos e2] at hd2
          cases hd2
          have := hrow (j - nn - 1) (by omega)
          rw [show H.size + 1 + (j - nn - 1) = B + j by omega] at this
          exact this
        · rw [if_neg e2] at hd2
          exact (r4 j d hd2).kept (hold _ ((r4 j d hd2).lt))
  obtain ⟨t, a1, b1⟩ := kk F.heap locs ls hR1 (z_S.grow hS (by omega) hold) hL F rfl X'
  refine ⟨t, step t ?_, b1⟩
  have e9 : T.heap.size = z_ad b B (nn + 1) := by rw [hT]; exact eH
  rw [e9]
  exact a1
end ZN
