/-! truth values; worlds that hold a picture -/
def zb (b : Bool) : Int32 := match b with
  | true => 1
  | false => 0
theorem zb_01 (b : Bool) : zb b = 0 ∨ zb b = 1 := by cases b <;> simp [zb]
theorem zb_0 {b : Bool} : zb b = 0 ↔ b = false := by cases b <;> simp [zb]
theorem zb_inj {a b : Bool} : zb a = zb b ↔ a = b := by cases a <;> cases b <;> simp [zb]
theorem zb_n0 {b : Bool} : ¬ zb b = 0 ↔ b = true := by cases b <;> simp [zb]
section ZB
variable {X : z_X} {l : Launch} {me : z_M} {rm : Room} {pc nx u v : Nat} {lv : List (Option Value)} {st : List Value} {P : z_H}
theorem z_ifb_eq (hX : z_is X l me rm) {b : Bool} {off : Int} (tgt : Nat) (hd : decode me.2.1 pc = .ok (.ifCond .eq off, 3)) (ht : (pc : Int) + off = (tgt : Int)) (kt : b = false → z_W X tgt lv st P nx u v) (kf : b = true → z_W X (pc + 3) lv st P nx u v) : z_W X pc lv (.int (zb b) :: st) P nx u v := z_if_eq hX tgt hd ht (fun h => kt (zb_0.mp h)) (fun h => kf (zb_n0.mp h))
theorem z_ifb_ne (hX : z_is X l me rm) {b : Bool} {off : Int} (tgt : Nat) (hd : decode me.2.1 pc = .ok (.ifCond .ne off, 3)) (ht : (pc : Int) + off = (tgt : Int)) (kt : b = true → z_W X tgt lv st P nx u v) (kf : b = false → z_W X (pc + 3) lv st P nx u v) : z_W X pc lv (.int (zb b) :: st) P nx u v := z_if_ne hX tgt hd ht (fun h => kt (zb_n0.mp h)) (fun h => kf (zb_0.mp h))
end ZB
/-- the world P holds the picture Q -/
def z_in (Q P : z_H) : Prop := ∀ (k : Nat) (c : z_C), Q k = some c → P k = some c
theorem z_in.rf {P : z_H} : z_in P P := fun _ _ h => h
theorem z_in.tr {Q R P : z_H} (h : z_in Q R) (g : z_in R P) : z_in Q P := fun k c q => g k c (h k c q)
theorem z_in.up {Q P : z_H} (h : z_in Q P) (k : Nat) (c : z_C) : z_in (z_up Q k c) (z_up P k c) := fun j d q => by
  by_cases e : j = k
  · subst e
    rw [z_up_s] at q ⊢
    exact q
  · rw [z_up_n e] at q ⊢
    exact h j d q
/-- outside the cells dm nothing has changed -/
def z_out (dm : Nat → Bool) (P0 P : z_H) : Prop := ∀ j, dm j = false → P j = P0 j
theorem z_out.rf {dm : Nat → Bool} {P : z_H} : z_out dm P P := fun _ _ => rfl
theorem z_out.tr {dm : Nat → Bool} {P0 P P1 : z_H} (h : z_out dm P0 P) (g : z_out dm P P1) : z_out dm P0 P1 := fun j hj => (g j hj).trans (h j hj)
theorem z_out.mono {dm dn : Nat → Bool} {P0 P : z_H} (h : z_out dm P0 P) (g : ∀ j, dn j = false → dm j = false) : z_out dn P0 P := fun j hj => h j (g j hj)
theorem z_out.up {dm : Nat → Bool} {P0 P : z_H} (h : z_out dm P0 P) {k : Nat} {c : z_C} (hk : dm k = true) : z_out dm P0 (z_up P k c) := fun j hj => by
  rw [z_up_n (fun e => by rw [e, hk] at hj; cases hj)]
  exact h j hj
theorem z_out.in {dm : Nat → Bool} {P0 P Q : z_H} (h : z_out dm P0 P) (g : z_in Q P0) (hq : ∀ j, dm j = true → Q j = none) : z_in Q P := fun k c q => by
  have : dm k = false := by
    cases e : dm k with
    | false => rfl
    | true => rw [hq k e] at q; cases q
  rw [h k this]
  exact g k c q
/-- behind a store: a new name for the world -/
theorem z_gen {X : z_X} {pc nx u v k : Nat} {lv : List (Option Value)} {st : List Value} {P P0 Q : z_H} {c : z_C} {dm : Nat → Bool} (hM : z_in Q P) (hO : z_out dm P0 P) (hk : dm k = true) (kk : ∀ P' : z_H, z_in (z_up Q k c) P' → z_out dm P0 P' → z_W X pc lv st P' nx u v) : z_W X pc lv st (z_up P k c) nx u v := kk _ (hM.up k c) (hO.up hk)
/-! THE MODEL's picture: its object is cell 70, its arrays 71 .. 89. iv: its numbers by their fields' places; h: which days are holidays; a: its arrays by their cells; ld: the loads -/
def zMo (iv : Nat → Int32) : z_C := .inr (8, [.ref 71, .int (iv 1), .int (iv 2), .int (iv 3), .ref 72, .ref 73, .ref 74, .ref 75, .ref 76, .ref 77, .ref 78, .ref 79, .ref 80, .ref 81, .int (iv 14), .int (iv 15), .ref 82, .ref 83, .ref 84, .ref 85, .ref 86, .ref 87, .ref 88, .ref 89, .int (iv 24), .int (iv 25), .int (iv 26)])
def zM (iv : Nat → Int32) (h : Nat → Bool) (a : Nat → Nat → Int32) (ld : Nat → Int64) : z_H := fun k => match k with
  | 70 => some (zMo iv)
  | 71 => some (.inl (2, 120, .inl (a 71)))
  | 72 => some (.inl (3, 364, .inl (fun j => zb (h j))))
  | 73 => some (.inl (0, 28, .inl (a 73)))
  | 74 => some (.inl (0, 52, .inl (a 74)))
  | 75 => some (.inl (0, 12, .inl (a 75)))
  | 76 => some (.inl (0, 12, .inl (a 76)))
  | 77 => some (.inl (0, 12, .inl (a 77)))
  | 78 => some (.inl (0, 12, .inl (a 78)))
  | 79 => some (.inl (0, 4368, .inl (a 79)))
  | 80 => some (.inl (0, 12, .inl (a 80)))
  | 81 => some (.inl (0, 120, .inl (a 81)))
  | 82 => some (.inl (0, 9, .inl (a 82)))
  | 83 => some (.inl (0, 9, .inl (a 83)))
  | 84 => some (.inl (0, 72, .inl (a 84)))
  | 85 => some (.inl (0, 9, .inl (a 85)))
  | 86 => some (.inl (0, 9, .inl (a 86)))
  | 87 => some (.inl (0, 72, .inl (a 87)))
  | 88 => some (.inl (1, 12, .inr (.inl ld)))
  | 89 => some (.inl (0, 8, .inl (a 89)))
  | _ => none
def zDm (j : Nat) : Bool := Nat.ble 70 j && Nat.ble j 89
theorem zM_dom {iv : Nat → Int32} {h : Nat → Bool} {a : Nat → Nat → Int32} {ld : Nat → Int64} {k : Nat} {c : z_C} (q : zM iv h a ld k = some c) : 70 ≤ k ∧ k ≤ 89 := by
  unfold zM at q
  split at q <;> first | (cases q; done) | omega
theorem zM_s71 {iv : Nat → Int32} {h : Nat → Bool} {a : Nat → Nat → Int32} {ld : Nat → Int64} {P : z_H} {f : Nat → Int32} (q : z_in (z_up (zM iv h a ld) 71 (.inl (2, 120, .inl f))) P) : z_in (zM iv h (va_up a 71 f) ld) P := by
  intro k c hk
  refine q k c ?_
  rw [← hk]
  obtain ⟨h1, h2⟩ := zM_dom hk
  rcases (show k = 70 ∨ k = 71 ∨ k = 72 ∨ k = 73 ∨ k = 74 ∨ k = 75 ∨ k = 76 ∨ k = 77 ∨ k = 78 ∨ k = 79 ∨ k = 80 ∨ k = 81 ∨ k = 82 ∨ k = 83 ∨ k = 84 ∨ k = 85 ∨ k = 86 ∨ k = 87 ∨ k = 88 ∨ k = 89 by omega) with e | e | e | e | e | e | e | e | e | e | e | e | e | e | e | e | e | e | e | e <;> subst e <;> rfl
theorem zM_s73 {iv : Nat → Int32} {h : Nat → Bool} {a : Nat → Nat → Int32} {ld : Nat → Int64} {P : z_H} {f : Nat → Int32} (q : z_in (z_up (zM iv h a ld) 73 (.inl (0, 28, .inl f))) P) : z_in (zM iv h (va_up a 73 f) ld) P := by
  intro k c hk
  refine q k c ?_
  rw [← hk]
  obtain ⟨h1, h2⟩ := zM_dom hk
  rcases (show k = 70 ∨ k = 71 ∨ k = 72 ∨ k = 73 ∨ k = 74 ∨ k = 75 ∨ k = 76 ∨ k = 77 ∨ k = 78 ∨ k = 79 ∨ k = 80 ∨ k = 81 ∨ k = 82 ∨ k = 83 ∨ k = 84 ∨ k = 85 ∨ k = 86 ∨ k = 87 ∨ k = 88 ∨ k = 89 by omega) with e | e | e | e | e | e | e | e | e | e | e | e | e | e | e | e | e | e | e | e <;> subst e <;> rfl
theorem zM_s74 {iv : Nat → Int32} {h : Nat → Bool} {a : Nat → Nat → Int32} {ld : Nat → Int64} {P : z_H} {f : Nat → Int32} (q : z_in (z_up (zM iv h a ld) 74 (.inl (0, 52, .inl f))) P) : z_in (zM iv h (va_up a 74 f) ld) P := by
  intro k c hk
  refine q k c ?_
  rw [← hk]
  obtain ⟨h1, h2⟩ := zM_dom hk
  rcases (show k = 70 ∨ k = 71 ∨ k = 72 ∨ k = 73 ∨ k = 74 ∨ k = 75 ∨ k = 76 ∨ k = 77 ∨ k = 78 ∨ k = 79 ∨ k = 80 ∨ k = 81 ∨ k = 82 ∨ k = 83 ∨ k = 84 ∨ k = 85 ∨ k = 86 ∨ k = 87 ∨ k = 88 ∨ k = 89 by omega) with e | e | e | e | e | e | e | e | e | e | e | e | e | e | e | e | e | e | e | e <;> subst e <;> rfl
theorem zM_s75 {iv : Nat → Int32} {h : Nat → Bool} {a : Nat → Nat → Int32} {ld : Nat → Int64} {P : z_H} {f : Nat → Int32} (q : z_in (z_up (zM iv h a ld) 75 (.inl (0, 12, .inl f))) P) : z_in (zM iv h (va_up a 75 f) ld) P := by
  intro k c hk
  refine q k c ?_
  rw [← hk]
  obtain ⟨h1, h2⟩ := zM_dom hk
  rcases (show k = 70 ∨ k = 71 ∨ k = 72 ∨ k = 73 ∨ k = 74 ∨ k = 75 ∨ k = 76 ∨ k = 77 ∨ k = 78 ∨ k = 79 ∨ k = 80 ∨ k = 81 ∨ k = 82 ∨ k = 83 ∨ k = 84 ∨ k = 85 ∨ k = 86 ∨ k = 87 ∨ k = 88 ∨ k = 89 by omega) with e | e | e | e | e | e | e | e | e | e | e | e | e | e | e | e | e | e | e | e <;> subst e <;> rfl
theorem zM_s76 {iv : Nat → Int32} {h : Nat → Bool} {a : Nat → Nat → Int32} {ld : Nat → Int64} {P : z_H} {f : Nat → Int32} (q : z_in (z_up (zM iv h a ld) 76 (.inl (0, 12, .inl f))) P) : z_in (zM iv h (va_up a 76 f) ld) P := by
  intro k c hk
  refine q k c ?_
  rw [← hk]
  obtain ⟨h1, h2⟩ := zM_dom hk
  rcases (show k = 70 ∨ k = 71 ∨ k = 72 ∨ k = 73 ∨ k = 74 ∨ k = 75 ∨ k = 76 ∨ k = 77 ∨ k = 78 ∨ k = 79 ∨ k = 80 ∨ k = 81 ∨ k = 82 ∨ k = 83 ∨ k = 84 ∨ k = 85 ∨ k = 86 ∨ k = 87 ∨ k = 88 ∨ k = 89 by omega) with e | e | e | e | e | e | e | e | e | e | e | e | e | e | e | e | e | e | e | e <;> subst e <;> rfl
theorem zM_s77 {iv : Nat → Int32} {h : Nat → Bool} {a : Nat → Nat → Int32} {ld : Nat → Int64} {P : z_H} {f : Nat → Int32} (q : z_in (z_up (zM iv h a ld) 77 (.inl (0, 12, .inl f))) P) : z_in (zM iv h (va_up a 77 f) ld) P := by
  intro k c hk
  refine q k c ?_
  rw [← hk]
  obtain ⟨h1, h2⟩ := zM_dom hk
  rcases (show k = 70 ∨ k = 71 ∨ k = 72 ∨ k = 73 ∨ k = 74 ∨ k = 75 ∨ k = 76 ∨ k = 77 ∨ k = 78 ∨ k = 79 ∨ k = 80 ∨ k = 81 ∨ k = 82 ∨ k = 83 ∨ k = 84 ∨ k = 85 ∨ k = 86 ∨ k = 87 ∨ k = 88 ∨ k = 89 by omega) with e | e | e | e | e | e | e | e | e | e | e | e | e | e | e | e | e | e | e | e <;> subst e <;> rfl
theorem zM_s78 {iv : Nat → Int32} {h : Nat → Bool} {a : Nat → Nat → Int32} {ld : Nat → Int64} {P : z_H} {f : Nat → Int32} (q : z_in (z_up (zM iv h a ld) 78 (.inl (0, 12, .inl f))) P) : z_in (zM iv h (va_up a 78 f) ld) P := by
  intro k c hk
  refine q k c ?_
  rw [← hk]
  obtain ⟨h1, h2⟩ := zM_dom hk
  rcases (show k = 70 ∨ k = 71 ∨ k = 72 ∨ k = 73 ∨ k = 74 ∨ k = 75 ∨ k = 76 ∨ k = 77 ∨ k = 78 ∨ k = 79 ∨ k = 80 ∨ k = 81 ∨ k = 82 ∨ k = 83 ∨ k = 84 ∨ k = 85 ∨ k = 86 ∨ k = 87 ∨ k = 88 ∨ k = 89 by omega) with e | e | e | e | e | e | e | e | e | e | e | e | e | e | e | e | e | e | e | e <;> subst e <;> rfl
theorem zM_s79 {iv : Nat → Int32} {h : Nat → Bool} {a : Nat → Nat → Int32} {ld : Nat → Int64} {P : z_H} {f : Nat → Int32} (q : z_in (z_up (zM iv h a ld) 79 (.inl (0, 4368, .inl f))) P) : z_in (zM iv h (va_up a 79 f) ld) P := by
  intro k c hk
  refine q k c ?_
  rw [← hk]
  obtain ⟨h1, h2⟩ := zM_dom hk
  rcases (show k = 70 ∨ k = 71 ∨ k = 72 ∨ k = 73 ∨ k = 74 ∨ k = 75 ∨ k = 76 ∨ k = 77 ∨ k = 78 ∨ k = 79 ∨ k = 80 ∨ k = 81 ∨ k = 82 ∨ k = 83 ∨ k = 84 ∨ k = 85 ∨ k = 86 ∨ k = 87 ∨ k = 88 ∨ k = 89 by omega) with e | e | e | e | e | e | e | e | e | e | e | e | e | e | e | e | e | e | e | e <;> subst e <;> rfl
theorem zM_s80 {iv : Nat → Int32} {h : Nat → Bool} {a : Nat → Nat → Int32} {ld : Nat → Int64} {P : z_H} {f : Nat → Int32} (q : z_in (z_up (zM iv h a ld) 80 (.inl (0, 12, .inl f))) P) : z_in (zM iv h (va_up a 80 f) ld) P := by
  intro k c hk
  refine q k c ?_
  rw [← hk]
  obtain ⟨h1, h2⟩ := zM_dom hk
  rcases (show k = 70 ∨ k = 71 ∨ k = 72 ∨ k = 73 ∨ k = 74 ∨ k = 75 ∨ k = 76 ∨ k = 77 ∨ k = 78 ∨ k = 79 ∨ k = 80 ∨ k = 81 ∨ k = 82 ∨ k = 83 ∨ k = 84 ∨ k = 85 ∨ k = 86 ∨ k = 87 ∨ k = 88 ∨ k = 89 by omega) with e | e | e | e | e | e | e | e | e | e | e | e | e | e | e | e | e | e | e | e <;> subst e <;> rfl
theorem zM_s81 {iv : Nat → Int32} {h : Nat → Bool} {a : Nat → Nat → Int32} {ld : Nat → Int64} {P : z_H} {f : Nat → Int32} (q : z_in (z_up (zM iv h a ld) 81 (.inl (0, 120, .inl f))) P) : z_in (zM iv h (va_up a 81 f) ld) P := by
  intro k c hk
  refine q k c ?_
  rw [← hk]
  obtain ⟨h1, h2⟩ := zM_dom hk
  rcases (show k = 70 ∨ k = 71 ∨ k = 72 ∨ k = 73 ∨ k = 74 ∨ k = 75 ∨ k = 76 ∨ k = 77 ∨ k = 78 ∨ k = 79 ∨ k = 80 ∨ k = 81 ∨ k = 82 ∨ k = 83 ∨ k = 84 ∨ k = 85 ∨ k = 86 ∨ k = 87 ∨ k = 88 ∨ k = 89 by omega) with e | e | e | e | e | e | e | e | e | e | e | e | e | e | e | e | e | e | e | e <;> subst e <;> rfl
theorem zM_s82 {iv : Nat → Int32} {h : Nat → Bool} {a : Nat → Nat → Int32} {ld : Nat → Int64} {P : z_H} {f : Nat → Int32} (q : z_in (z_up (zM iv h a ld) 82 (.inl (0, 9, .inl f))) P) : z_in (zM iv h (va_up a 82 f) ld) P := by
  intro k c hk
  refine q k c ?_
  rw [← hk]
  obtain ⟨h1, h2⟩ := zM_dom hk
  rcases (show k = 70 ∨ k = 71 ∨ k = 72 ∨ k = 73 ∨ k = 74 ∨ k = 75 ∨ k = 76 ∨ k = 77 ∨ k = 78 ∨ k = 79 ∨ k = 80 ∨ k = 81 ∨ k = 82 ∨ k = 83 ∨ k = 84 ∨ k = 85 ∨ k = 86 ∨ k = 87 ∨ k = 88 ∨ k = 89 by omega) with e | e | e | e | e | e | e | e | e | e | e | e | e | e | e | e | e | e | e | e <;> subst e <;> rfl
theorem zM_s83 {iv : Nat → Int32} {h : Nat → Bool} {a : Nat → Nat → Int32} {ld : Nat → Int64} {P : z_H} {f : Nat → Int32} (q : z_in (z_up (zM iv h a ld) 83 (.inl (0, 9, .inl f))) P) : z_in (zM iv h (va_up a 83 f) ld) P := by
  intro k c hk
  refine q k c ?_
  rw [← hk]
  obtain ⟨h1, h2⟩ := zM_dom hk
  rcases (show k = 70 ∨ k = 71 ∨ k = 72 ∨ k = 73 ∨ k = 74 ∨ k = 75 ∨ k = 76 ∨ k = 77 ∨ k = 78 ∨ k = 79 ∨ k = 80 ∨ k = 81 ∨ k = 82 ∨ k = 83 ∨ k = 84 ∨ k = 85 ∨ k = 86 ∨ k = 87 ∨ k = 88 ∨ k = 89 by omega) with e | e | e | e | e | e | e | e | e | e | e | e | e | e | e | e | e | e | e | e <;> subst e <;> rfl
theorem zM_s84 {iv : Nat → Int32} {h : Nat → Bool} {a : Nat → Nat → Int32} {ld : Nat → Int64} {P : z_H} {f : Nat → Int32} (q : z_in (z_up (zM iv h a ld) 84 (.inl (0, 72, .inl f))) P) : z_in (zM iv h (va_up a 84 f) ld) P := by
  intro k c hk
  refine q k c ?_
  rw [← hk]
  obtain ⟨h1, h2⟩ := zM_dom hk
  rcases (show k = 70 ∨ k = 71 ∨ k = 72 ∨ k = 73 ∨ k = 74 ∨ k = 75 ∨ k = 76 ∨ k = 77 ∨ k = 78 ∨ k = 79 ∨ k = 80 ∨ k = 81 ∨ k = 82 ∨ k = 83 ∨ k = 84 ∨ k = 85 ∨ k = 86 ∨ k = 87 ∨ k = 88 ∨ k = 89 by omega) with e | e | e | e | e | e | e | e | e | e | e | e | e | e | e | e | e | e | e | e <;> subst e <;> rfl
theorem zM_s85 {iv : Nat → Int32} {h : Nat → Bool} {a : Nat → Nat → Int32} {ld : Nat → Int64} {P : z_H} {f : Nat → Int32} (q : z_in (z_up (zM iv h a ld) 85 (.inl (0, 9, .inl f))) P) : z_in (zM iv h (va_up a 85 f) ld) P := by
  intro k c hk
  refine q k c ?_
  rw [← hk]
  obtain ⟨h1, h2⟩ := zM_dom hk
  rcases (show k = 70 ∨ k = 71 ∨ k = 72 ∨ k = 73 ∨ k = 74 ∨ k = 75 ∨ k = 76 ∨ k = 77 ∨ k = 78 ∨ k = 79 ∨ k = 80 ∨ k = 81 ∨ k = 82 ∨ k = 83 ∨ k = 84 ∨ k = 85 ∨ k = 86 ∨ k = 87 ∨ k = 88 ∨ k = 89 by omega) with e | e | e | e | e | e | e | e | e | e | e | e | e | e | e | e | e | e | e | e <;> subst e <;> rfl
theorem zM_s86 {iv : Nat → Int32} {h : Nat → Bool} {a : Nat → Nat → Int32} {ld : Nat → Int64} {P : z_H} {f : Nat → Int32} (q : z_in (z_up (zM iv h a ld) 86 (.inl (0, 9, .inl f))) P) : z_in (zM iv h (va_up a 86 f) ld) P := by
  intro k c hk
  refine q k c ?_
  rw [← hk]
  obtain ⟨h1, h2⟩ := zM_dom hk
  rcases (show k = 70 ∨ k = 71 ∨ k = 72 ∨ k = 73 ∨ k = 74 ∨ k = 75 ∨ k = 76 ∨ k = 77 ∨ k = 78 ∨ k = 79 ∨ k = 80 ∨ k = 81 ∨ k = 82 ∨ k = 83 ∨ k = 84 ∨ k = 85 ∨ k = 86 ∨ k = 87 ∨ k = 88 ∨ k = 89 by omega) with e | e | e | e | e | e | e | e | e | e | e | e | e | e | e | e | e | e | e | e <;> subst e <;> rfl
theorem zM_s87 {iv : Nat → Int32} {h : Nat → Bool} {a : Nat → Nat → Int32} {ld : Nat → Int64} {P : z_H} {f : Nat → Int32} (q : z_in (z_up (zM iv h a ld) 87 (.inl (0, 72, .inl f))) P) : z_in (zM iv h (va_up a 87 f) ld) P := by
  intro k c hk
  refine q k c ?_
  rw [← hk]
  obtain ⟨h1, h2⟩ := zM_dom hk
  rcases (show k = 70 ∨ k = 71 ∨ k = 72 ∨ k = 73 ∨ k = 74 ∨ k = 75 ∨ k = 76 ∨ k = 77 ∨ k = 78 ∨ k = 79 ∨ k = 80 ∨ k = 81 ∨ k = 82 ∨ k = 83 ∨ k = 84 ∨ k = 85 ∨ k = 86 ∨ k = 87 ∨ k = 88 ∨ k = 89 by omega) with e | e | e | e | e | e | e | e | e | e | e | e | e | e | e | e | e | e | e | e <;> subst e <;> rfl
theorem zM_s88 {iv : Nat → Int32} {h : Nat → Bool} {a : Nat → Nat → Int32} {ld : Nat → Int64} {P : z_H} {f : Nat → Int64} (q : z_in (z_up (zM iv h a ld) 88 (.inl (1, 12, .inr (.inl f)))) P) : z_in (zM iv h a f) P := by
  intro k c hk
  refine q k c ?_
  rw [← hk]
  obtain ⟨h1, h2⟩ := zM_dom hk
  rcases (show k = 70 ∨ k = 71 ∨ k = 72 ∨ k = 73 ∨ k = 74 ∨ k = 75 ∨ k = 76 ∨ k = 77 ∨ k = 78 ∨ k = 79 ∨ k = 80 ∨ k = 81 ∨ k = 82 ∨ k = 83 ∨ k = 84 ∨ k = 85 ∨ k = 86 ∨ k = 87 ∨ k = 88 ∨ k = 89 by omega) with e | e | e | e | e | e | e | e | e | e | e | e | e | e | e | e | e | e | e | e <;> subst e <;> rfl
theorem zM_s89 {iv : Nat → Int32} {h : Nat → Bool} {a : Nat → Nat → Int32} {ld : Nat → Int64} {P : z_H} {f : Nat → Int32} (q : z_in (z_up (zM iv h a ld) 89 (.inl (0, 8, .inl f))) P) : z_in (zM iv h (va_up a 89 f) ld) P := by
  intro k c hk
  refine q k c ?_
  rw [← hk]
  obtain ⟨h1, h2⟩ := zM_dom hk
  rcases (show k = 70 ∨ k = 71 ∨ k = 72 ∨ k = 73 ∨ k = 74 ∨ k = 75 ∨ k = 76 ∨ k = 77 ∨ k = 78 ∨ k = 79 ∨ k = 80 ∨ k = 81 ∨ k = 82 ∨ k = 83 ∨ k = 84 ∨ k = 85 ∨ k = 86 ∨ k = 87 ∨ k = 88 ∨ k = 89 by omega) with e | e | e | e | e | e | e | e | e | e | e | e | e | e | e | e | e | e | e | e <;> subst e <;> rfl
theorem zM_i1 {iv : Nat → Int32} {h : Nat → Bool} {a : Nat → Nat → Int32} {ld : Nat → Int64} {P : z_H} {x : Int32} (q : z_in (z_up (zM iv h a ld) 70 (.inr (8, [.ref 71, .int (iv 1), .int (iv 2), .int (iv 3), .ref 72, .ref 73, .ref 74, .ref 75, .ref 76, .ref 77, .ref 78, .ref 79, .ref 80, .ref 81, .int (iv 14), .int (iv 15), .ref 82, .ref 83, .ref 84, .ref 85, .ref 86, .ref 87, .ref 88, .ref 89, .int (iv 24), .int (iv 25), .int (iv 26)].set 1 (.int x)))) P) : z_in (zM (va_up iv 1 x) h a ld) P := by
  intro k c hk
  refine q k c ?_
  rw [← hk]
  obtain ⟨h1, h2⟩ := zM_dom hk
  rcases (show k = 70 ∨ k = 71 ∨ k = 72 ∨ k = 73 ∨ k = 74 ∨ k = 75 ∨ k = 76 ∨ k = 77 ∨ k = 78 ∨ k = 79 ∨ k = 80 ∨ k = 81 ∨ k = 82 ∨ k = 83 ∨ k = 84 ∨ k = 85 ∨ k = 86 ∨ k = 87 ∨ k = 88 ∨ k = 89 by omega) with e | e | e | e | e | e | e | e | e | e | e | e | e | e | e | e | e | e | e | e <;> subst e <;> rfl
theorem zM_i2 {iv : Nat → Int32} {h : Nat → Bool} {a : Nat → Nat → Int32} {ld : Nat → Int64} {P : z_H} {x : Int32} (q : z_in (z_up (zM iv h a ld) 70 (.inr (8, [.ref 71, .int (iv 1), .int (iv 2), .int (iv 3), .ref 72, .ref 73, .ref 74, .ref 75, .ref 76, .ref 77, .ref 78, .ref 79, .ref 80, .ref 81, .int (iv 14), .int (iv 15), .ref 82, .ref 83, .ref 84, .ref 85, .ref 86, .ref 87, .ref 88, .ref 89, .int (iv 24), .int (iv 25), .int (iv 26)].set 2 (.int x)))) P) : z_in (zM (va_up iv 2 x) h a ld) P := by
  intro k c hk
  refine q k c ?_
  rw [← hk]
  obtain ⟨h1, h2⟩ := zM_dom hk
  rcases (show k = 70 ∨ k = 71 ∨ k = 72 ∨ k = 73 ∨ k = 74 ∨ k = 75 ∨ k = 76 ∨ k = 77 ∨ k = 78 ∨ k = 79 ∨ k = 80 ∨ k = 81 ∨ k = 82 ∨ k = 83 ∨ k = 84 ∨ k = 85 ∨ k = 86 ∨ k = 87 ∨ k = 88 ∨ k = 89 by omega) with e | e | e | e | e | e | e | e | e | e | e | e | e | e | e | e | e | e | e | e <;> subst e <;> rfl
theorem zM_i3 {iv : Nat → Int32} {h : Nat → Bool} {a : Nat → Nat → Int32} {ld : Nat → Int64} {P : z_H} {x : Int32} (q : z_in (z_up (zM iv h a ld) 70 (.inr (8, [.ref 71, .int (iv 1), .int (iv 2), .int (iv 3), .ref 72, .ref 73, .ref 74, .ref 75, .ref 76, .ref 77, .ref 78, .ref 79, .ref 80, .ref 81, .int (iv 14), .int (iv 15), .ref 82, .ref 83, .ref 84, .ref 85, .ref 86, .ref 87, .ref 88, .ref 89, .int (iv 24), .int (iv 25), .int (iv 26)].set 3 (.int x)))) P) : z_in (zM (va_up iv 3 x) h a ld) P := by
  intro k c hk
  refine q k c ?_
  rw [← hk]
  obtain ⟨h1, h2⟩ := zM_dom hk
  rcases (show k = 70 ∨ k = 71 ∨ k = 72 ∨ k = 73 ∨ k = 74 ∨ k = 75 ∨ k = 76 ∨ k = 77 ∨ k = 78 ∨ k = 79 ∨ k = 80 ∨ k = 81 ∨ k = 82 ∨ k = 83 ∨ k = 84 ∨ k = 85 ∨ k = 86 ∨ k = 87 ∨ k = 88 ∨ k = 89 by omega) with e | e | e | e | e | e | e | e | e | e | e | e | e | e | e | e | e | e | e | e <;> subst e <;> rfl
theorem zM_i14 {iv : Nat → Int32} {h : Nat → Bool} {a : Nat → Nat → Int32} {ld : Nat → Int64} {P : z_H} {x : Int32} (q : z_in (z_up (zM iv h a ld) 70 (.inr (8, [.ref 71, .int (iv 1), .int (iv 2), .int (iv 3), .ref 72, .ref 73, .ref 74, .ref 75, .ref 76, .ref 77, .ref 78, .ref 79, .ref 80, .ref 81, .int (iv 14), .int (iv 15), .ref 82, .ref 83, .ref 84, .ref 85, .ref 86, .ref 87, .ref 88, .ref 89, .int (iv 24), .int (iv 25), .int (iv 26)].set 14 (.int x)))) P) : z_in (zM (va_up iv 14 x) h a ld) P := by
  intro k c hk
  refine q k c ?_
  rw [← hk]
  obtain ⟨h1, h2⟩ := zM_dom hk
  rcases (show k = 70 ∨ k = 71 ∨ k = 72 ∨ k = 73 ∨ k = 74 ∨ k = 75 ∨ k = 76 ∨ k = 77 ∨ k = 78 ∨ k = 79 ∨ k = 80 ∨ k = 81 ∨ k = 82 ∨ k = 83 ∨ k = 84 ∨ k = 85 ∨ k = 86 ∨ k = 87 ∨ k = 88 ∨ k = 89 by omega) with e | e | e | e | e | e | e | e | e | e | e | e | e | e | e | e | e | e | e | e <;> subst e <;> rfl
theorem zM_i15 {iv : Nat → Int32} {h : Nat → Bool} {a : Nat → Nat → Int32} {ld : Nat → Int64} {P : z_H} {x : Int32} (q : z_in (z_up (zM iv h a ld) 70 (.inr (8, [.ref 71, .int (iv 1), .int (iv 2), .int (iv 3), .ref 72, .ref 73, .ref 74, .ref 75, .ref 76, .ref 77, .ref 78, .ref 79, .ref 80, .ref 81, .int (iv 14), .int (iv 15), .ref 82, .ref 83, .ref 84, .ref 85, .ref 86, .ref 87, .ref 88, .ref 89, .int (iv 24), .int (iv 25), .int (iv 26)].set 15 (.int x)))) P) : z_in (zM (va_up iv 15 x) h a ld) P := by
  intro k c hk
  refine q k c ?_
  rw [← hk]
  obtain ⟨h1, h2⟩ := zM_dom hk
  rcases (show k = 70 ∨ k = 71 ∨ k = 72 ∨ k = 73 ∨ k = 74 ∨ k = 75 ∨ k = 76 ∨ k = 77 ∨ k = 78 ∨ k = 79 ∨ k = 80 ∨ k = 81 ∨ k = 82 ∨ k = 83 ∨ k = 84 ∨ k = 85 ∨ k = 86 ∨ k = 87 ∨ k = 88 ∨ k = 89 by omega) with e | e | e | e | e | e | e | e | e | e | e | e | e | e | e | e | e | e | e | e <;> subst e <;> rfl
theorem zM_i24 {iv : Nat → Int32} {h : Nat → Bool} {a : Nat → Nat → Int32} {ld : Nat → Int64} {P : z_H} {x : Int32} (q : z_in (z_up (zM iv h a ld) 70 (.inr (8, [.ref 71, .int (iv 1), .int (iv 2), .int (iv 3), .ref 72, .ref 73, .ref 74, .ref 75, .ref 76, .ref 77, .ref 78, .ref 79, .ref 80, .ref 81, .int (iv 14), .int (iv 15), .ref 82, .ref 83, .ref 84, .ref 85, .ref 86, .ref 87, .ref 88, .ref 89, .int (iv 24), .int (iv 25), .int (iv 26)].set 24 (.int x)))) P) : z_in (zM (va_up iv 24 x) h a ld) P := by
  intro k c hk
  refine q k c ?_
  rw [← hk]
  obtain ⟨h1, h2⟩ := zM_dom hk
  rcases (show k = 70 ∨ k = 71 ∨ k = 72 ∨ k = 73 ∨ k = 74 ∨ k = 75 ∨ k = 76 ∨ k = 77 ∨ k = 78 ∨ k = 79 ∨ k = 80 ∨ k = 81 ∨ k = 82 ∨ k = 83 ∨ k = 84 ∨ k = 85 ∨ k = 86 ∨ k = 87 ∨ k = 88 ∨ k = 89 by omega) with e | e | e | e | e | e | e | e | e | e | e | e | e | e | e | e | e | e | e | e <;> subst e <;> rfl
theorem zM_i25 {iv : Nat → Int32} {h : Nat → Bool} {a : Nat → Nat → Int32} {ld : Nat → Int64} {P : z_H} {x : Int32} (q : z_in (z_up (zM iv h a ld) 70 (.inr (8, [.ref 71, .int (iv 1), .int (iv 2), .int (iv 3), .ref 72, .ref 73, .ref 74, .ref 75, .ref 76, .ref 77, .ref 78, .ref 79, .ref 80, .ref 81, .int (iv 14), .int (iv 15), .ref 82, .ref 83, .ref 84, .ref 85, .ref 86, .ref 87, .ref 88, .ref 89, .int (iv 24), .int (iv 25), .int (iv 26)].set 25 (.int x)))) P) : z_in (zM (va_up iv 25 x) h a ld) P := by
  intro k c hk
  refine q k c ?_
  rw [← hk]
  obtain ⟨h1, h2⟩ := zM_dom hk
  rcases (show k = 70 ∨ k = 71 ∨ k = 72 ∨ k = 73 ∨ k = 74 ∨ k = 75 ∨ k = 76 ∨ k = 77 ∨ k = 78 ∨ k = 79 ∨ k = 80 ∨ k = 81 ∨ k = 82 ∨ k = 83 ∨ k = 84 ∨ k = 85 ∨ k = 86 ∨ k = 87 ∨ k = 88 ∨ k = 89 by omega) with e | e | e | e | e | e | e | e | e | e | e | e | e | e | e | e | e | e | e | e <;> subst e <;> rfl
theorem zM_i26 {iv : Nat → Int32} {h : Nat → Bool} {a : Nat → Nat → Int32} {ld : Nat → Int64} {P : z_H} {x : Int32} (q : z_in (z_up (zM iv h a ld) 70 (.inr (8, [.ref 71, .int (iv 1), .int (iv 2), .int (iv 3), .ref 72, .ref 73, .ref 74, .ref 75, .ref 76, .ref 77, .ref 78, .ref 79, .ref 80, .ref 81, .int (iv 14), .int (iv 15), .ref 82, .ref 83, .ref 84, .ref 85, .ref 86, .ref 87, .ref 88, .ref 89, .int (iv 24), .int (iv 25), .int (iv 26)].set 26 (.int x)))) P) : z_in (zM (va_up iv 26 x) h a ld) P := by
  intro k c hk
  refine q k c ?_
  rw [← hk]
  obtain ⟨h1, h2⟩ := zM_dom hk
  rcases (show k = 70 ∨ k = 71 ∨ k = 72 ∨ k = 73 ∨ k = 74 ∨ k = 75 ∨ k = 76 ∨ k = 77 ∨ k = 78 ∨ k = 79 ∨ k = 80 ∨ k = 81 ∨ k = 82 ∨ k = 83 ∨ k = 84 ∨ k = 85 ∨ k = 86 ∨ k = 87 ∨ k = 88 ∨ k = 89 by omega) with e | e | e | e | e | e | e | e | e | e | e | e | e | e | e | e | e | e | e | e <;> subst e <;> rfl
