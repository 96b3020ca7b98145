/-! THE ABSTRACT MACHINE: cells have numbers (0: the script, that lies outside; k + 1: the cell at B + k); a world is a function from numbers to contents.
Kinds of arrays: 0 int, 1 long, 2 byte, 3 boolean, 4 references to Road, 5 references to int arrays -/
abbrev z_C : Type := (Nat × vp_A) ⊕ (Nat × List Value)
abbrev z_H : Type := Nat → Option z_C
def z_up (P : z_H) (k : Nat) (c : z_C) : z_H := fun j => if j = k then some c else P j
theorem z_up_s {P : z_H} {k : Nat} {c : z_C} : z_up P k c k = some c := by simp [z_up]
theorem z_up_n {P : z_H} {k j : Nat} {c : z_C} (h : j ≠ k) : z_up P k c j = P j := by simp [z_up, h]
def z_ad (b B : Nat) : Nat → Nat
  | 0 => b
  | k + 1 => B + k
def z_V (b B : Nat) : Value → Value
  | .ref k => .ref (z_ad b B k)
  | v => v
theorem z_V_cat (b B : Nat) (v : Value) : (z_V b B v).category = v.category := by cases v <;> rfl
def z_A (b B : Nat) (a : vp_A) : vp_A := match a with
  | (n, .inl f) => (n, .inl f)
  | (n, .inr (.inl f)) => (n, .inr (.inl f))
  | (n, .inr (.inr (.inl f))) => (n, .inr (.inr (.inl f)))
  | (n, .inr (.inr (.inr (.inl f)))) => (n, .inr (.inr (.inr (.inl f))))
  | (n, .inr (.inr (.inr (.inr f)))) => (n, .inr (.inr (.inr (.inr (fun j => (f j).map (z_ad b B))))))
def z_E (cy : Nat → ClassId) (b B : Nat) (c : z_C) : va_E := match c with
  | .inl a => .inl (cy a.1, z_A b B a.2)
  | .inr o => .inr (o.1, o.2.map (z_V b B))
/-- the heap holds the world P; nx is the number of the next cell -/
def z_R (D : va_G) (cy : Nat → ClassId) (b B : Nat) (P : z_H) (nx : Nat) (H : Heap) : Prop := H.size + 1 = B + nx ∧ 0 < nx ∧ P 0 = none ∧ ∀ (k : Nat) (c : z_C), P (k + 1) = some c → va_at D z_cl (B + k, z_E cy b B c) H
/-- locals -/
def z_g : List (Option Value) → Nat → Option Value
  | [], _ => none
  | a :: _, 0 => a
  | _ :: l, i + 1 => z_g l i
def z_k : Option Value → Option Value
  | some (.long _) => none
  | some (.double _) => none
  | o => o
def z_p1 (v : Value) : Nat → List (Option Value) → List (Option Value)
  | 0, l => some v :: l.tail
  | 1, l => z_k (l.headD none) :: some v :: l.tail.tail
  | i + 2, l => l.headD none :: z_p1 v (i + 1) l.tail
def z_p2 (v : Value) : Nat → List (Option Value) → List (Option Value)
  | 0, l => some v :: none :: l.tail.tail
  | 1, l => z_k (l.headD none) :: some v :: none :: l.tail.tail.tail
  | i + 2, l => l.headD none :: z_p2 v (i + 1) l.tail
theorem z_g_nil (i : Nat) : z_g [] i = none := by cases i <;> rfl
theorem z_g_tail (l : List (Option Value)) (i : Nat) : z_g l.tail i = z_g l (i + 1) := by
  cases l with
  | nil => simp [z_g_nil]
  | cons a l => rfl
theorem z_g_head (l : List (Option Value)) : l.headD none = z_g l 0 := by cases l <;> rfl
theorem z_k_some {o : Option Value} {w : Value} (h : z_k o = some w) : o = some w ∧ w.category ≠ 2 := by
  cases o with
  | none => cases h
  | some x => cases x <;> (try (simp [z_k] at h; done)) <;> (simp only [z_k, Option.some.injEq] at h; subst h; exact ⟨rfl, by simp [Value.category]⟩)
theorem z_p1_g (v : Value) : ∀ (i : Nat) (l : List (Option Value)) (j : Nat) (w : Value), z_g (z_p1 v i l) j = some w → (j = i ∧ w = v) ∨ (j ≠ i ∧ z_g l j = some w ∧ ¬ (j + 1 = i ∧ w.category = 2))
  | 0, l, 0, w, h => Or.inl ⟨rfl, (Option.some.inj h).symm⟩
  | 0, l, j + 1, w, h => Or.inr ⟨by omega, by rw [← z_g_tail]; exact h, by omega⟩
  | 1, l, 0, w, h => by
    obtain ⟨h1, h2⟩ := z_k_some (show z_k (l.headD none) = some w from h)
    exact Or.inr ⟨by omega, by rw [← z_g_head]; exact h1, fun q => h2 q.2⟩
  | 1, l, 1, w, h => Or.inl ⟨rfl, (Option.some.inj h).symm⟩
  | 1, l, j + 2, w, h => Or.inr ⟨by omega, by rw [← z_g_tail, ← z_g_tail]; exact h, by omega⟩
  | i + 2, l, 0, w, h => Or.inr ⟨by omega, by rw [← z_g_head]; exact h, by omega⟩
  | i + 2, l, j + 1, w, h => by
    rcases z_p1_g v (i + 1) l.tail j w h with ⟨h1, h2⟩ | ⟨h1, h2, h3⟩
    · exact Or.inl ⟨by omega, h2⟩
    · exact Or.inr ⟨by omega, by rw [← z_g_tail]; exact h2, fun q => h3 ⟨by omega, q.2⟩⟩
theorem z_p2_g (v : Value) : ∀ (i : Nat) (l : List (Option Value)) (j : Nat) (w : Value), z_g (z_p2 v i l) j = some w → (j = i ∧ w = v) ∨ (j ≠ i ∧ j ≠ i + 1 ∧ z_g l j = some w ∧ ¬ (j + 1 = i ∧ w.category = 2))
  | 0, l, 0, w, h => Or.inl ⟨rfl, (Option.some.inj h).symm⟩
  | 0, l, 1, w, h => by cases h
  | 0, l, j + 2, w, h => Or.inr ⟨by omega, by omega, by rw [← z_g_tail, ← z_g_tail]; exact h, by omega⟩
  | 1, l, 0, w, h => by
    obtain ⟨h1, h2⟩ := z_k_some (show z_k (l.headD none) = some w from h)
    exact Or.inr ⟨by omega, by omega, by rw [← z_g_head]; exact h1, fun q => h2 q.2⟩
  | 1, l, 1, w, h => Or.inl ⟨rfl, (Option.some.inj h).symm⟩
  | 1, l, 2, w, h => by cases h
  | 1, l, j + 3, w, h => Or.inr ⟨by omega, by omega, by rw [← z_g_tail, ← z_g_tail, ← z_g_tail]; exact h, by omega⟩
  | i + 2, l, 0, w, h => Or.inr ⟨by omega, by omega, by rw [← z_g_head]; exact h, by omega⟩
  | i + 2, l, j + 1, w, h => by
    rcases z_p2_g v (i + 1) l.tail j w h with ⟨h1, h2⟩ | ⟨h1, h2, h3, h4⟩
    · exact Or.inl ⟨by omega, h2⟩
    · exact Or.inr ⟨by omega, by omega, by rw [← z_g_tail]; exact h3, fun q => h4 ⟨by omega, q.2⟩⟩
def z_L (b B : Nat) (ls : Array Slot) (nL : Nat) (lv : List (Option Value)) : Prop := ls.size = nL ∧ lv_wf ls ∧ ∀ (i : Nat) (v : Value), z_g lv i = some v → ls[i]? = some (.val (z_V b B v))
/-- a list of all locals, as the kit has them -/
def z_Ll (b B nL : Nat) (lv : List (Option Value)) : List (Nat × Value) := (List.range nL).filterMap (fun i => (z_g lv i).map (fun v => (i, z_V b B v)))
theorem z_L.has {b B nL : Nat} {ls : Array Slot} {lv : List (Option Value)} (h : z_L b B ls nL lv) : lv_has ls nL (z_Ll b B nL lv) := by
  refine ⟨h.1, h.2.1, fun q hq => ?_⟩
  obtain ⟨i, -, hi⟩ := List.mem_filterMap.mp hq
  cases hg : z_g lv i with
  | none => rw [hg] at hi; cases hi
  | some v =>
    rw [hg] at hi
    cases hi
    exact h.2.2 i v hg
theorem z_L.inl {b B nL : Nat} {ls : Array Slot} {lv : List (Option Value)} (h : z_L b B ls nL lv) {i : Nat} {v : Value} (hg : z_g lv i = some v) : (i, z_V b B v) ∈ z_Ll b B nL lv := by
  refine List.mem_filterMap.mpr ⟨i, List.mem_range.mpr ?_, by rw [hg]; rfl⟩
  have := h.2.2 i v hg
  rw [← h.1]
  exact lv_lt this
theorem z_L.p1 {b B nL : Nat} {ls ls' : Array Slot} {lv : List (Option Value)} {i : Nat} {v : Value} (h : z_L b B ls nL lv) (h' : lv_has ls' nL ((i, z_V b B v) :: (z_Ll b B nL lv).filter (fun q => !(q.1 == i) && !(q.1 + 1 == i && q.2.category == 2)))) : z_L b B ls' nL (z_p1 v i lv) := by
  refine ⟨h'.1, h'.2.1, fun j w hj => ?_⟩
  rcases z_p1_g v i lv j w hj with ⟨rfl, rfl⟩ | ⟨h1, h2, h3⟩
  · exact h'.2.2 _ List.mem_cons_self
  · refine h'.2.2 (j, z_V b B w) (List.mem_cons_of_mem _ (List.mem_filter.mpr ⟨h.inl h2, ?_⟩))
    show (!(j == i) && !(j + 1 == i && (z_V b B w).category == 2)) = true
    rw [z_V_cat]
    simp only [Bool.and_eq_true, Bool.not_eq_true', beq_eq_false_iff_ne, ne_eq, Bool.and_eq_false_iff]
    refine ⟨h1, ?_⟩
    by_cases q : j + 1 = i
    · exact Or.inr (fun z => h3 ⟨q, z⟩)
    · exact Or.inl q
theorem z_L.p2 {b B nL : Nat} {ls ls' : Array Slot} {lv : List (Option Value)} {i : Nat} {v : Value} (h : z_L b B ls nL lv) (h' : lv_has ls' nL ((i, z_V b B v) :: (z_Ll b B nL lv).filter (fun q => !(q.1 == i) && (!(q.1 == i + 1) && !(q.1 + 1 == i && q.2.category == 2))))) : z_L b B ls' nL (z_p2 v i lv) := by
  refine ⟨h'.1, h'.2.1, fun j w hj => ?_⟩
  rcases z_p2_g v i lv j w hj with ⟨rfl, rfl⟩ | ⟨h1, h0, h2, h3⟩
  · exact h'.2.2 _ List.mem_cons_self
  · refine h'.2.2 (j, z_V b B w) (List.mem_cons_of_mem _ (List.mem_filter.mpr ⟨h.inl h2, ?_⟩))
    show (!(j == i) && (!(j == i + 1) && !(j + 1 == i && (z_V b B w).category == 2))) = true
    rw [z_V_cat]
    simp only [Bool.and_eq_true, Bool.not_eq_true', beq_eq_false_iff_ne, ne_eq, Bool.and_eq_false_iff]
    refine ⟨h1, h0, ?_⟩
    by_cases q : j + 1 = i
    · exact Or.inr (fun z => h3 ⟨q, z⟩)
    · exact Or.inl q
/-- fewer locals -/
theorem z_L.sub {b B nL : Nat} {ls : Array Slot} {lv lv' : List (Option Value)} (h : z_L b B ls nL lv) (hs : ∀ i v, z_g lv' i = some v → z_g lv i = some v) : z_L b B ls nL lv' := ⟨h.1, h.2.1, fun i v hg => h.2.2 i v (hs i v hg)⟩
/-- .. by places: each is as it was, or forgotten -/
def z_lt : List (Option Value) → List (Option Value) → Prop
  | [], _ => True
  | none :: l, m => z_lt l m.tail
  | some v :: l, m => m.headD none = some v ∧ z_lt l m.tail
theorem z_lt_g : ∀ (l m : List (Option Value)), z_lt l m → ∀ i v, z_g l i = some v → z_g m i = some v
  | [], m, _, i, v, h => by rw [z_g_nil] at h; cases h
  | none :: l, m, hl, 0, v, h => by cases h
  | none :: l, m, hl, i + 1, v, h => by rw [← z_g_tail]; exact z_lt_g l m.tail hl i v h
  | some x :: l, m, hl, 0, v, h => by cases h; rw [← z_g_head]; exact hl.1
  | some x :: l, m, hl, i + 1, v, h => by rw [← z_g_tail]; exact z_lt_g l m.tail hl.2 i v h
/-- the arguments in their places -/
def z_args : List Value → List (Option Value)
  | [] => []
  | v :: l => if v.category = 2 then some v :: none :: z_args l else some v :: z_args l
theorem z_args_g (b B : Nat) : ∀ (as : List Value) (k i : Nat) (v : Value), z_g (z_args as) i = some v → (k + i, z_V b B v) ∈ lv_args k (as.map (z_V b B))
  | [], k, i, v, h => by rw [show z_args [] = [] from rfl, z_g_nil] at h; cases h
  | a :: as, k, i, v, h => by
    unfold z_args at h
    by_cases hc : a.category = 2
    · rw [if_pos hc] at h
      have e : lv_args k ((a :: as).map (z_V b B)) = (k, z_V b B a) :: lv_args (k + 2) (as.map (z_V b B)) := by
        simp [lv_args, z_V_cat, hc]
      rw [e]
      match i, h with
      | 0, h => cases h; exact List.mem_cons_self
      | 1, h => cases h
      | i + 2, h =>
        have := z_args_g b B as (k + 2) i v h
        rw [show k + (i + 2) = k + 2 + i by omega]
        exact List.mem_cons_of_mem _ this
    · rw [if_neg hc] at h
      have e : lv_args k ((a :: as).map (z_V b B)) = (k, z_V b B a) :: lv_args (k + 1) (as.map (z_V b B)) := by
        have h1 : a.category = 1 := (lv_cat a).resolve_right hc
        simp [lv_args, z_V_cat, h1]
      rw [e]
      match i, h with
      | 0, h => cases h; exact List.mem_cons_self
      | i + 1, h =>
        have := z_args_g b B as (k + 1) i v h
        rw [show k + (i + 1) = k + 1 + i by omega]
        exact List.mem_cons_of_mem _ this
