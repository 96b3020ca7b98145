/-! memory: fields, arrays, new -/
theorem z_one {D : va_G} {cl : List vw_C} {q : Nat × va_E} {H : Heap} (h : va_at D cl q H) : va_P D cl [q] H := fun k x hx => by
  have h0 : k < 1 := (List.getElem?_eq_some_iff.mp hx).1
  rw [show k = 0 by omega] at hx
  cases hx
  exact h
theorem z_R.at {D : va_G} {cy : Nat → ClassId} {b B nx a : Nat} {P : z_H} {H : Heap} {c : z_C} (hR : z_R D cy b B P nx H) (hP : P a = some c) : va_at D z_cl (z_ad b B a, z_E cy b B c) H ∧ B ≤ z_ad b B a := by
  cases a with
  | zero => rw [hR.2.2.1] at hP; cases hP
  | succ k => exact ⟨hR.2.2.2 k c hP, Nat.le_add_right B k⟩
theorem z_R.set {D : va_G} {cy : Nat → ClassId} {b B nx a : Nat} {P : z_H} {H H1 : Heap} {c c' : z_C} (hR : z_R D cy b B P nx H) (hP : P a = some c) (z : H1.size = H.size) (he : va_at D z_cl (z_ad b B a, z_E cy b B c') H1) (oq : ∀ q : Nat, q ≠ z_ad b B a → H1[q]? = H[q]?) : z_R D cy b B (z_up P a c') nx H1 := by
  cases a with
  | zero => rw [hR.2.2.1] at hP; cases hP
  | succ k =>
    refine ⟨by rw [z]; exact hR.1, hR.2.1, by rw [z_up_n (by omega)]; exact hR.2.2.1, fun j d hd => ?_⟩
    by_cases hj : j = k
    · subst hj
      rw [z_up_s] at hd
      cases hd
      exact he
    · rw [z_up_n (by omega)] at hd
      exact (hR.2.2.2 j d hd).kept (oq _ (by show B + j ≠ B + k; omega))
theorem z_R.push {D : va_G} {cy : Nat → ClassId} {b B nx : Nat} {P : z_H} {H H1 : Heap} {c : z_C} (hR : z_R D cy b B P nx H) (z : H1.size = H.size + 1) (he : va_at D z_cl (H.size, z_E cy b B c) H1) (oq : ∀ q : Nat, q < H.size → H1[q]? = H[q]?) : z_R D cy b B (z_up P nx c) (nx + 1) H1 ∧ z_ad b B nx = H.size := by
  obtain ⟨h1, h2, h3, h4⟩ := hR
  cases nx with
  | zero => omega
  | succ n =>
    have e : H.size = B + n := by omega
    refine ⟨⟨by omega, by omega, by rw [z_up_n (by omega)]; exact h3, fun j d hd => ?_⟩, e.symm⟩
    by_cases hj : j = n
    · subst hj
      rw [z_up_s] at hd
      cases hd
      rw [e] at he
      exact he
    · rw [z_up_n (by omega)] at hd
      exact (h4 j d hd).kept (oq _ ((h4 j d hd).lt))
theorem z_S.grow {A : Nat → Prop} {H0 H H1 : Heap} {locs : List Loc} (hS : va_S A H0 H locs) (z : H.size ≤ H1.size) (oq : ∀ q : Nat, q < H.size → H1[q]? = H[q]?) : va_S A H0 H1 locs := ⟨Nat.le_trans hS.1 z, fun q h1 h2 => (oq q (Nat.lt_of_lt_of_le h1 hS.1)).trans (hS.2.1 q h1 h2), hS.2.2⟩
/-- a field's link: constant pool entry idx of class own is field k of class ci -/
def z_Fl (own : String) (idx ci k : Nat) : Prop := ∃ r : vw_C, z_cl[ci]? = some r ∧ k < r.2.2 ∧ (Cond.fieldLink own idx (r.2.1 k).1 (r.2.1 k).2.1 (r.2.1 k).2.2.1 ∈ z_T ∨ ∃ host, Cond.fieldLinkNest own idx (r.2.1 k).1 (r.2.1 k).2.1 (r.2.1 k).2.2.1 host ∈ z_N)
def z_fin (ci k : Nat) : Bool := match z_cl[ci]? with
  | some r => (r.2.1 k).2.2.2
  | none => true
def z_ini : z_X → Prop := fun (p, l, e, R, s, m, args, below, meth, c, cc, nL, own, D, cy, b, B, Q) => meth.name = "<init>"
theorem z_fitr {ty : FieldType} (h : ty.isReference = true) (a : Nat) : narrow ty (.ref a) = .ref a ∧ fits ty (.ref a) = true := by
  cases ty <;> first | (cases h; done) | exact ⟨rfl, rfl⟩
section ZM
variable {X : z_X} {l : Launch} {me : z_M} {rm : Room} {pc nx u v : Nat} {lv : List (Option Value)} {st : List Value} {P : z_H}
theorem z_get (hX : z_is X l me rm) {idx ci k a : Nat} {fs : List Value} {w : Value} (hf : z_Fl me.1.cls idx ci k) (hP : P a = some (.inr (ci, fs))) (hv : fs[k]? = some w) (hd : decode me.2.1 pc = .ok (.getfield idx, 3)) (kk : z_W X (pc + 3) lv (w :: st) P nx u v) : z_W X pc lv (.ref a :: st) P nx u v := by
  obtain ⟨p, l, e, R, s, m, args, below, meth, c, cc, nL, own, D, cy, b, B, Q⟩ := X
  obtain ⟨yn, yc, yL, yr⟩ := me
  obtain ⟨⟨hx, hb, hml, hown, hts, hK, hB⟩, rfl, rfl, rfl, rfl, rfl⟩ := hX
  intro H locs ls hR hS hL
  obtain ⟨r, hc, hk, hl⟩ := hf
  obtain ⟨hat, -⟩ := hR.at hP
  have hv' : (fs.map (z_V b B))[k]? = some (z_V b B w) := by rw [List.getElem?_map, hv]; rfl
  rcases hl with hl | ⟨host, hl⟩
  · exact va_get hx hb hts (z_wT ci r hc) hown hK.1 (z_one hat) 0 rfl hc k hk (hts _ hl) (fun _ h => h) hv' hd (kk H locs ls hR hS hL)
  · exact va_getN hx hb hts (z_wT ci r hc) hown hK.1 (z_one hat) 0 rfl hc k hk (va_Nw.use rfl (hK.2.2.2 _ hl)) (fun _ h => h) hv' hd (kk H locs ls hR hS hL)
theorem z_put0 (hX : z_is X l me rm) {idx ci k a : Nat} {fs : List Value} {w : Value} (hf : z_Fl me.1.cls idx ci k) (hfin : z_fin ci k = false) (hw : ∀ b B, narrow (z_ty ci k) (z_V b B w) = z_V b B w ∧ fits (z_ty ci k) (z_V b B w) = true) (hP : P a = some (.inr (ci, fs))) (hl : k < fs.length) (hd : decode me.2.1 pc = .ok (.putfield idx, 3)) (kk : z_W X (pc + 3) lv st (z_up P a (.inr (ci, fs.set k w))) nx u v) : z_W X pc lv (w :: .ref a :: st) P nx u v := by
  obtain ⟨p, l, e, R, s, m, args, below, meth, c, cc, nL, own, D, cy, b, B, Q⟩ := X
  obtain ⟨yn, yc, yL, yr⟩ := me
  obtain ⟨⟨hx, hb, hml, hown, hts, hK, hB⟩, rfl, rfl, rfl, rfl, rfl⟩ := hX
  intro H locs ls hR hS hL
  obtain ⟨r, hc, hk, hlk⟩ := hf
  have hfin' : (r.2.1 k).2.2.2 = false := by unfold z_fin at hfin; rw [hc] at hfin; exact hfin
  obtain ⟨hat, hBa⟩ := hR.at hP
  have hin := z_wT ci r hc
  have hap := va_apart (own := yn.cls) hts hin (z_ty ci) (z_tyT ci r hc) (z_nT ci r hc) hK.1 hc
  obtain ⟨r', h1, cell, q1, q2, q3, q4⟩ := hat
  have hr : r' = r := Option.some.inj (h1.symm.trans hc)
  subst hr
  obtain ⟨hS', hfc, kC, hkC, hkind⟩ := hK.1.1 ci _ hc
  obtain ⟨cf, kf, fi, f, hi, hsl⟩ := hS' k hk
  have hlay := hts _ (hin _ (u_in_lay hk))
  unfold u_lay at hlay
  rw [if_neg (by rw [hfin']; decide)] at hlay
  have hst := (u_facts hfc hkC (u_lays hts hin hk) hi).1
  have h6 := u_store hfc hkC hkind hlay hi (z_tyT ci _ hc k hk) (hw b B).1 (hw b B).2
  have hl' : k < (fs.map (z_V b B)).length := by rw [List.length_map]; exact hl
  have fin : ∀ H' : Heap, H'[z_ad b B a]? = some (cell.setSlot (D.2 ci k) (z_V b B w)) → H'.size = H.size → (∀ q, q ≠ z_ad b B a → H'[q]? = H[q]?) → z_R D cy b B (z_up P a (.inr (ci, fs.set k w))) nx H' := fun H' e1 e2 e3 => by
    refine hR.set hP e2 ?_ e3
    show va_at D z_cl (z_ad b B a, .inr (ci, (fs.set k w).map (z_V b B))) H'
    rw [List.map_set]
    exact ⟨_, hc, t_OB.to (V := updV (vp_V (fs.map (z_V b B))) k (z_V b B w)) ⟨_, e1, q2, q3, t_set q4 hap hk _⟩ (fun j _ => vp_updV_set hl' _ j)⟩
  rcases hlk with hlk | ⟨host, hlk⟩
  · refine W.putK hx hb (f := f) ⟨hown, hts _ hlk, ⟨_, _, _, hi⟩, hst⟩ (by rw [q2]; exact h6) q1 q3 (by rw [hsl]; exact k2_hasslot (q4 k hk)) rfl rfl hd fun H' e1 e2 e3 => ?_
    rw [hsl] at e1 ⊢
    exact kk H' _ ls (fin H' e1 e2 e3) (hS.put e2 e3 hBa) hL
  · refine va_WputK hx hb (f := f) hown (va_Nw.use rfl (hK.2.2.2 _ hlk)) hi hst (by rw [q2]; exact h6) q1 q3 (by rw [hsl]; exact k2_hasslot (q4 k hk)) rfl rfl hd fun H' e1 e2 e3 => ?_
    rw [hsl] at e1 ⊢
    exact kk H' _ ls (fin H' e1 e2 e3) (hS.put e2 e3 hBa) hL
theorem z_puti (hX : z_is X l me rm) {idx ci k a : Nat} {fs : List Value} {x : Int32} (hf : z_Fl me.1.cls idx ci k) (hfin : z_fin ci k = false) (ht : z_ty ci k = .int) (hP : P a = some (.inr (ci, fs))) (hl : k < fs.length) (hd : decode me.2.1 pc = .ok (.putfield idx, 3)) (kk : z_W X (pc + 3) lv st (z_up P a (.inr (ci, fs.set k (.int x)))) nx u v) : z_W X pc lv (.int x :: .ref a :: st) P nx u v :=
  z_put0 hX hf hfin (fun b B => by rw [ht]; exact ⟨rfl, rfl⟩) hP hl hd kk
theorem z_putr (hX : z_is X l me rm) {idx ci k a d : Nat} {fs : List Value} (hf : z_Fl me.1.cls idx ci k) (hfin : z_fin ci k = false) (ht : (z_ty ci k).isReference = true) (hP : P a = some (.inr (ci, fs))) (hl : k < fs.length) (hd : decode me.2.1 pc = .ok (.putfield idx, 3)) (kk : z_W X (pc + 3) lv st (z_up P a (.inr (ci, fs.set k (.ref d)))) nx u v) : z_W X pc lv (.ref d :: .ref a :: st) P nx u v :=
  z_put0 hX hf hfin (fun b B => z_fitr ht _) hP hl hd kk
/-- a final field, in a constructor of its own class -/
theorem z_putF (hX : z_is X l me rm) (hin2 : z_ini X) {idx ci k a : Nat} {r : vw_C} {fs : List Value} {w : Value} (hc : z_cl[ci]? = some r) (hk : k < r.2.2) (hlk : Cond.fieldLink me.1.cls idx (r.2.1 k).1 (r.2.1 k).2.1 (r.2.1 k).2.2.1 ∈ z_T) (hfin : (r.2.1 k).2.2.2 = true) (hdecl : (r.2.1 k).1 = me.1.cls) (hw : ∀ b B, narrow (z_ty ci k) (z_V b B w) = z_V b B w ∧ fits (z_ty ci k) (z_V b B w) = true) (hP : P a = some (.inr (ci, fs))) (hl : k < fs.length) (hd : decode me.2.1 pc = .ok (.putfield idx, 3)) (kk : z_W X (pc + 3) lv st (z_up P a (.inr (ci, fs.set k w))) nx u v) : z_W X pc lv (w :: .ref a :: st) P nx u v := by
  obtain ⟨p, l, e, R, s, m, args, below, meth, c, cc, nL, own, D, cy, b, B, Q⟩ := X
  obtain ⟨yn, yc, yL, yr⟩ := me
  obtain ⟨⟨hx, hb, hml, hown, hts, hK, hB⟩, rfl, rfl, rfl, rfl, rfl⟩ := hX
  intro H locs ls hR hS hL
  obtain ⟨hat, hBa⟩ := hR.at hP
  have hin := z_wT ci r hc
  have hap := va_apart (own := yn.cls) hts hin (z_ty ci) (z_tyT ci r hc) (z_nT ci r hc) hK.1 hc
  obtain ⟨r', h1, cell, q1, q2, q3, q4⟩ := hat
  have hr : r' = r := Option.some.inj (h1.symm.trans hc)
  subst hr
  obtain ⟨hS', hfc, kC, hkC, hkind⟩ := hK.1.1 ci _ hc
  obtain ⟨cf, kf, fi, f, hi, hsl⟩ := hS' k hk
  have hlay := hts _ (hin _ (u_in_lay hk))
  unfold u_lay at hlay
  rw [if_pos hfin] at hlay
  have hst := (u_facts hfc hkC (u_lays hts hin hk) hi).1
  have hcf : m.cls = cf := by
    obtain ⟨_, _, c', _, _, _, -, -, hf', -, -, -, hown2, -⟩ := Cond.laysFinal_spec hlay
    have e1 : c' = cf := by have := hi.symm.trans hf'; simp at this; exact this.1.symm
    rw [hdecl] at hown2
    rw [← e1]; exact Option.some.inj (hown.symm.trans hown2)
  have h6 := u_fits hfc hkC hkind (Or.inr hlay) hi (z_tyT ci _ hc k hk) (hw b B).1 (hw b B).2
  have hl' : k < (fs.map (z_V b B)).length := by rw [List.length_map]; exact hl
  refine W.putFinK hx hb hown (hts _ hlk) hi hst hcf hin2 (by rw [q2]; exact h6) q1 q3 (by rw [hsl]; exact k2_hasslot (q4 k hk)) rfl rfl hd fun H' e1 e2 e3 => ?_
  rw [hsl] at e1 ⊢
  refine kk H' _ ls (hR.set hP e2 ?_ e3) (hS.put e2 e3 hBa) hL
  show va_at D z_cl (z_ad b B a, .inr (ci, (fs.set k w).map (z_V b B))) H'
  rw [List.map_set]
  exact ⟨_, hc, t_OB.to (V := updV (vp_V (fs.map (z_V b B))) k (z_V b B w)) ⟨_, e1, q2, q3, t_set q4 hap hk _⟩ (fun j _ => vp_updV_set hl' _ j)⟩
theorem z_iald (hX : z_is X l me rm) {a n : Nat} {f : Nat → Int32} {i : Int32} (hP : P a = some (.inl (0, n, .inl f))) (hin : vp_in i n) (hd : decode me.2.1 pc = .ok (.iaload, 1)) (kk : z_W X (pc + 1) lv (.int (f i.toNatClampNeg) :: st) P nx u v) : z_W X pc lv (.int i :: .ref a :: st) P nx u v := by
  obtain ⟨p, l, e, R, s, m, args, below, meth, c, cc, nL, own, D, cy, b, B, Q⟩ := X
  obtain ⟨yn, yc, yL, yr⟩ := me
  obtain ⟨⟨hx, hb, hml, hown, hts, hK, hB⟩, rfl, rfl, rfl, rfl, rfl⟩ := hX
  intro H locs ls hR hS hL
  exact va_iald hx hb hK.1 (z_one (hR.at hP).1) 0 0 rfl rfl hin hd (kk H locs ls hR hS hL)
theorem z_lald (hX : z_is X l me rm) {a n : Nat} {f : Nat → Int64} {i : Int32} (hP : P a = some (.inl (1, n, .inr (.inl f)))) (hin : vp_in i n) (hd : decode me.2.1 pc = .ok (.laload, 1)) (kk : z_W X (pc + 1) lv (.long (f i.toNatClampNeg) :: st) P nx u v) : z_W X pc lv (.int i :: .ref a :: st) P nx u v := by
  obtain ⟨p, l, e, R, s, m, args, below, meth, c, cc, nL, own, D, cy, b, B, Q⟩ := X
  obtain ⟨yn, yc, yL, yr⟩ := me
  obtain ⟨⟨hx, hb, hml, hown, hts, hK, hB⟩, rfl, rfl, rfl, rfl, rfl⟩ := hX
  intro H locs ls hR hS hL
  exact va_lald hx hb hK.1 (z_one (hR.at hP).1) 0 1 rfl rfl hin hd (kk H locs ls hR hS hL)
theorem z_bald (hX : z_is X l me rm) {a n : Nat} {f : Nat → Int32} {i : Int32} (hP : P a = some (.inl (2, n, .inl f))) (hin : vp_in i n) (hd : decode me.2.1 pc = .ok (.baload, 1)) (kk : z_W X (pc + 1) lv (.int (f i.toNatClampNeg) :: st) P nx u v) : z_W X pc lv (.int i :: .ref a :: st) P nx u v := by
  obtain ⟨p, l, e, R, s, m, args, below, meth, c, cc, nL, own, D, cy, b, B, Q⟩ := X
  obtain ⟨yn, yc, yL, yr⟩ := me
  obtain ⟨⟨hx, hb, hml, hown, hts, hK, hB⟩, rfl, rfl, rfl, rfl, rfl⟩ := hX
  intro H locs ls hR hS hL
  exact va_bald hx hb hK.1 (z_one (hR.at hP).1) 0 2 rfl rfl hin hd (kk H locs ls hR hS hL)
theorem z_zald (hX : z_is X l me rm) {a n : Nat} {f : Nat → Int32} {i : Int32} (hP : P a = some (.inl (3, n, .inl f))) (hin : vp_in i n) (hd : decode me.2.1 pc = .ok (.baload, 1)) (kk : z_W X (pc + 1) lv (.int (f i.toNatClampNeg) :: st) P nx u v) : z_W X pc lv (.int i :: .ref a :: st) P nx u v := by
  obtain ⟨p, l, e, R, s, m, args, below, meth, c, cc, nL, own, D, cy, b, B, Q⟩ := X
  obtain ⟨yn, yc, yL, yr⟩ := me
  obtain ⟨⟨hx, hb, hml, hown, hts, hK, hB⟩, rfl, rfl, rfl, rfl, rfl⟩ := hX
  intro H locs ls hR hS hL
  exact va_zald hx hb hK.1 (z_one (hR.at hP).1) 0 3 rfl rfl hin hd (kk H locs ls hR hS hL)
/-- arrays of references: what is there is a cell -/
theorem z_aald (hX : z_is X l me rm) {a n r : Nat} {f : Nat → Option Nat} {i : Int32} (hP : P a = some (.inl (4, n, .inr (.inr (.inr (.inr f)))))) (hin : vp_in i n) (hf : f i.toNatClampNeg = some r) (hd : decode me.2.1 pc = .ok (.aaload, 1)) (kk : z_W X (pc + 1) lv (.ref r :: st) P nx u v) : z_W X pc lv (.int i :: .ref a :: st) P nx u v := by
  obtain ⟨p, l, e, R, s, m, args, below, meth, c, cc, nL, own, D, cy, b, B, Q⟩ := X
  obtain ⟨yn, yc, yL, yr⟩ := me
  obtain ⟨⟨hx, hb, hml, hown, hts, hK, hB⟩, rfl, rfl, rfl, rfl, rfl⟩ := hX
  intro H locs ls hR hS hL
  refine va_aldq hx hb hK.1 (z_one (hR.at hP).1) 0 4 rfl rfl hin hd ?_
  show W p l e R s m args below meth c H locs u v Q (F0 m (pc + 1) ls (va_rf (Option.map (z_ad b B) (f i.toNatClampNeg)) :: List.map (z_V b B) st))
  rw [hf]
  exact kk H locs ls hR hS hL
theorem z_aaldA (hX : z_is X l me rm) {a n r : Nat} {f : Nat → Option Nat} {i : Int32} (hP : P a = some (.inl (5, n, .inr (.inr (.inr (.inr f)))))) (hin : vp_in i n) (hf : f i.toNatClampNeg = some r) (hd : decode me.2.1 pc = .ok (.aaload, 1)) (kk : z_W X (pc + 1) lv (.ref r :: st) P nx u v) : z_W X pc lv (.int i :: .ref a :: st) P nx u v := by
  obtain ⟨p, l, e, R, s, m, args, below, meth, c, cc, nL, own, D, cy, b, B, Q⟩ := X
  obtain ⟨yn, yc, yL, yr⟩ := me
  obtain ⟨⟨hx, hb, hml, hown, hts, hK, hB⟩, rfl, rfl, rfl, rfl, rfl⟩ := hX
  intro H locs ls hR hS hL
  have hlt : i.toNatClampNeg < n := Nat.not_le.mp fun q => hin (Or.inr q)
  have hat : H[z_ad b B a]? = some (vp_cell (cy 5) (n, .inr (.inr (.inr (.inr (fun j => (f j).map (z_ad b B))))))) := (hR.at hP).1
  refine W.aald (v := .ref (z_ad b B r)) (ty := .array .int) hx hb hat ((hK.1.2 5 _ rfl).1 n (fun j => va_rf ((f j).map (z_ad b B)))) rfl (fun q => by cases q) (by show ¬ (i < 0 ∨ (arrV _ _ _).slots.size ≤ _); rw [arrV_size]; exact hin) (by show (arrV _ _ _).slots[_]? = _; rw [arrV_read _ _ hlt]; show some (va_rf (Option.map (z_ad b B) (f i.toNatClampNeg))) = _; rw [hf]; rfl) rfl rfl hd (kk H locs ls hR hS hL)
theorem z_iast (hX : z_is X l me rm) {a n : Nat} {f : Nat → Int32} {i x : Int32} (hP : P a = some (.inl (0, n, .inl f))) (hin : vp_in i n) (hd : decode me.2.1 pc = .ok (.iastore, 1)) (kk : z_W X (pc + 1) lv st (z_up P a (.inl (0, n, .inl (upd f i.toNatClampNeg x)))) nx u v) : z_W X pc lv (.int x :: .int i :: .ref a :: st) P nx u v := by
  obtain ⟨p, l, e, R, s, m, args, below, meth, c, cc, nL, own, D, cy, b, B, Q⟩ := X
  obtain ⟨yn, yc, yL, yr⟩ := me
  obtain ⟨⟨hx, hb, hml, hown, hts, hK, hB⟩, rfl, rfl, rfl, rfl, rfl⟩ := hX
  intro H locs ls hR hS hL
  obtain ⟨hat, hBa⟩ := hR.at hP
  refine W.iast hx hb hat ((hK.1.2 0 _ rfl).1 n (fun j => .int (f j))) (fun q => by cases q) (by show ¬ (i < 0 ∨ (arrV _ _ _).slots.size ≤ _); rw [arrV_size]; exact hin) rfl rfl hd fun H1 e z oq => ?_
  refine kk H1 _ ls (hR.set hP z ?_ oq) (hS.put z oq hBa) hL
  show H1[z_ad b B a]? = some (vp_cell (cy 0) (n, .inl _))
  rw [e]
  show some (Cell.setSlot (vp_cell (cy 0) (n, .inl f)) _ _) = _
  rw [vp_cell_i, vp_cell_i, arrV_store]
  congr 2
  funext q
  by_cases hq : q = i.toNatClampNeg
  · subst hq
    simp [updV, upd]
  · simp [updV, upd, hq]
theorem z_bast (hX : z_is X l me rm) {a n : Nat} {f : Nat → Int32} {i x : Int32} (hP : P a = some (.inl (2, n, .inl f))) (hin : vp_in i n) (hd : decode me.2.1 pc = .ok (.bastore, 1)) (kk : z_W X (pc + 1) lv st (z_up P a (.inl (2, n, .inl (upd f i.toNatClampNeg (vp_nar .byte x))))) nx u v) : z_W X pc lv (.int x :: .int i :: .ref a :: st) P nx u v := by
  obtain ⟨p, l, e, R, s, m, args, below, meth, c, cc, nL, own, D, cy, b, B, Q⟩ := X
  obtain ⟨yn, yc, yL, yr⟩ := me
  obtain ⟨⟨hx, hb, hml, hown, hts, hK, hB⟩, rfl, rfl, rfl, rfl, rfl⟩ := hX
  intro H locs ls hR hS hL
  obtain ⟨hat, hBa⟩ := hR.at hP
  refine W.bast hx hb hat ((hK.1.2 2 _ rfl).1 n (fun j => .int (f j))) (fun q => by cases q) (by show ¬ (i < 0 ∨ (arrV _ _ _).slots.size ≤ _); rw [arrV_size]; exact hin) rfl rfl hd fun H1 e z oq => ?_
  refine kk H1 _ ls (hR.set hP z ?_ oq) (hS.put z oq hBa) hL
  show H1[z_ad b B a]? = some (vp_cell (cy 2) (n, .inl _))
  rw [e]
  show some (Cell.setSlot (vp_cell (cy 2) (n, .inl f)) _ _) = _
  rw [vp_cell_i, vp_cell_i, arrV_store]
  congr 2
  funext q
  by_cases hq : q = i.toNatClampNeg
  · subst hq
    simp [updV, upd, vp_nar]
    try rfl
  · simp [updV, upd, hq]
theorem z_zast (hX : z_is X l me rm) {a n : Nat} {f : Nat → Int32} {i x : Int32} (hP : P a = some (.inl (3, n, .inl f))) (hin : vp_in i n) (hd : decode me.2.1 pc = .ok (.bastore, 1)) (kk : z_W X (pc + 1) lv st (z_up P a (.inl (3, n, .inl (upd f i.toNatClampNeg (vp_nar .boolean x))))) nx u v) : z_W X pc lv (.int x :: .int i :: .ref a :: st) P nx u v := by
  obtain ⟨p, l, e, R, s, m, args, below, meth, c, cc, nL, own, D, cy, b, B, Q⟩ := X
  obtain ⟨yn, yc, yL, yr⟩ := me
  obtain ⟨⟨hx, hb, hml, hown, hts, hK, hB⟩, rfl, rfl, rfl, rfl, rfl⟩ := hX
  intro H locs ls hR hS hL
  obtain ⟨hat, hBa⟩ := hR.at hP
  refine W.zast hx hb hat ((hK.1.2 3 _ rfl).1 n (fun j => .int (f j))) (fun q => by cases q) (by show ¬ (i < 0 ∨ (arrV _ _ _).slots.size ≤ _); rw [arrV_size]; exact hin) rfl rfl hd fun H1 e z oq => ?_
  refine kk H1 _ ls (hR.set hP z ?_ oq) (hS.put z oq hBa) hL
  show H1[z_ad b B a]? = some (vp_cell (cy 3) (n, .inl _))
  rw [e]
  show some (Cell.setSlot (vp_cell (cy 3) (n, .inl f)) _ _) = _
  rw [vp_cell_i, vp_cell_i, arrV_store]
  congr 2
  funext q
  by_cases hq : q = i.toNatClampNeg
  · subst hq
    simp [updV, upd, vp_nar]
    try rfl
  · simp [updV, upd, hq]
theorem z_last (hX : z_is X l me rm) {a n : Nat} {f : Nat → Int64} {i : Int32} {x : Int64} (hP : P a = some (.inl (1, n, .inr (.inl f)))) (hin : vp_in i n) (hd : decode me.2.1 pc = .ok (.lastore, 1)) (kk : z_W X (pc + 1) lv st (z_up P a (.inl (1, n, .inr (.inl (vp_updL f i.toNatClampNeg x))))) nx u v) : z_W X pc lv (.long x :: .int i :: .ref a :: st) P nx u v := by
  obtain ⟨p, l, e, R, s, m, args, below, meth, c, cc, nL, own, D, cy, b, B, Q⟩ := X
  obtain ⟨yn, yc, yL, yr⟩ := me
  obtain ⟨⟨hx, hb, hml, hown, hts, hK, hB⟩, rfl, rfl, rfl, rfl, rfl⟩ := hX
  intro H locs ls hR hS hL
  obtain ⟨hat, hBa⟩ := hR.at hP
  refine W.last hx hb hat ((hK.1.2 1 _ rfl).1 n (fun j => .long (f j))) (fun q => by cases q) (by show ¬ (i < 0 ∨ (arrV _ _ _).slots.size ≤ _); rw [arrV_size]; exact hin) rfl rfl hd fun H1 e z oq => ?_
  refine kk H1 _ ls (hR.set hP z ?_ oq) (hS.put z oq hBa) hL
  show H1[z_ad b B a]? = some (vp_cell (cy 1) (n, .inr (.inl _)))
  rw [e]
  show some (Cell.setSlot (vp_cell (cy 1) (n, .inr (.inl f))) _ _) = _
  rw [vp_cell_l, vp_cell_l, arrV_store]
  congr 2
  funext q
  by_cases hq : q = i.toNatClampNeg
  · subst hq
    simp [updV, vp_updL]
  · simp [updV, vp_updL, hq]
/-- a Road into an array of Roads -/
theorem z_aast (hX : z_is X l me rm) {a n d : Nat} {f : Nat → Option Nat} {i : Int32} {gs : List Value} (hP : P a = some (.inl (4, n, .inr (.inr (.inr (.inr f)))))) (hV : P d = some (.inr (3, gs))) (hin : vp_in i n) (hd : decode me.2.1 pc = .ok (.aastore, 1)) (kk : z_W X (pc + 1) lv st (z_up P a (.inl (4, n, .inr (.inr (.inr (.inr (va_up f i.toNatClampNeg (some d)))))))) nx u v) : z_W X pc lv (.ref d :: .int i :: .ref a :: st) P nx u v := by
  obtain ⟨p, l, e, R, s, m, args, below, meth, c, cc, nL, own, D, cy, b, B, Q⟩ := X
  obtain ⟨yn, yc, yL, yr⟩ := me
  obtain ⟨⟨hx, hb, hml, hown, hts, hK, hB⟩, rfl, rfl, rfl, rfl, rfl⟩ := hX
  intro H locs ls hR hS hL
  obtain ⟨hat, hBa⟩ := hR.at hP
  have hlt : i.toNatClampNeg < n := Nat.not_le.mp fun q => hin (Or.inr q)
  have h0 : ¬ i < 0 := fun q => hin (Or.inl q)
  obtain ⟨r', hr', cellV, g1, g2, g3, -⟩ := (hR.at hV).1
  have hcls := (hK.1.1 3 _ rfl).2
  obtain ⟨kA, comp, k1, k2, k3, -⟩ := (hK.1.2 4 _ rfl).2
  have hcomp : comp = D.1 3 := Option.some.inj (k3.symm.trans hcls.1)
  subst hcomp
  obtain ⟨kC, hkC, -⟩ := hcls.2
  refine W.aast hx hb hat (fun q h => by cases h) (fun h => by cases h) k1 k2 rfl hkC ⟨h0, by show _ < (arrV _ _ _).slots.size; rw [arrV_size]; exact hlt⟩ g1 (fun q h => by rw [g3] at h; cases h) (by rw [g2]; exact hkC) (by rw [g2]; exact va_assign hcls) rfl rfl hd fun H1 e z oq => ?_
  refine kk H1 _ ls (hR.set hP z ?_ oq) (hS.put z oq hBa) hL
  show H1[z_ad b B a]? = some (vp_cell (cy 4) (n, .inr (.inr (.inr (.inr _)))))
  rw [e]
  show some (Cell.setSlot (vp_cell (cy 4) (n, .inr (.inr (.inr (.inr _))))) _ _) = _
  rw [vp_cell_q, vp_cell_q, arrV_store]
  congr 2
  funext q
  by_cases hq : q = i.toNatClampNeg
  · subst hq
    simp [updV, va_up, va_rf]
  · simp [updV, va_up, hq]
end ZM
