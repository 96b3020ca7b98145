/-! what is fixed in a run of a method -/
abbrev z_X : Type := Program × Launch × Env × Room × State × MethodId × Array Value × List Frame × Method × Code × ByteArray × Nat × String × va_G × (Nat → ClassId) × Nat × Nat × (State → Prop)
abbrev z_tys (cy : Nat → ClassId) : List (ClassId × FieldType) := [(cy 0, .int), (cy 1, .long), (cy 2, .byte), (cy 3, .boolean), (cy 4, .object "RoadCounts$Road"), (cy 5, .array .int)]
/-- what is known of the tables -/
def z_Kn (D : va_G) (cy : Nat → ClassId) (s : State) : Prop := va_K D z_cl (z_tys cy) s ∧ va_AO "RoadCounts$Road" s ∧ (Cond.arrayOver (.array .int)).before #[] s = true ∧ ∀ w ∈ z_N, va_Nw w s
/-- a method: its name, code, how many locals, what it returns -/
abbrev z_M : Type := MethodName × ByteArray × Nat × Option FieldType
/-- X is a run of method y, with the room rm -/
def z_is : z_X → Launch → z_M → Room → Prop := fun (p, l, e, R, s, m, args, below, meth, c, cc, nL, own, D, cy, b, B, Q) l' (yn, yc, yL, yr) rm =>
  (p.tables.exec = Jvm.exec ∧ c.code = cc ∧ c.maxLocals = nL ∧ s.vm.findClass own = some m.cls ∧ (∀ w ∈ z_T, w.before args s = true) ∧ z_Kn D cy s ∧ B ≤ s.heap.size) ∧ l = l' ∧ cc = yc ∧ nL = yL ∧ own = yn.cls ∧ R = rm
/-- THE JUDGEMENT: at pc, with these locals, this stack, this world, the machine comes to its end -/
def z_W : z_X → Nat → List (Option Value) → List Value → z_H → Nat → Nat → Nat → Prop := fun (p, l, e, R, s, m, args, below, meth, c, cc, nL, own, D, cy, b, B, Q) pc lv st P nx u v =>
  ∀ (H : Heap) (locs : List Loc) (ls : Array Slot), z_R D cy b B P nx H → va_S (fun q => B ≤ q) s.heap H locs → z_L b B ls nL lv → W p l e R s m args below meth c H locs u v Q (F0 m pc ls (st.map (z_V b B)))
section ZR
variable {X : z_X} {l : Launch} {me : z_M} {rm : Room} {pc nx u v : Nat} {lv : List (Option Value)} {st : List Value} {P : z_H}
theorem z_sub {lv' : List (Option Value)} (k : z_W X pc lv' st P nx u v) (h : z_lt lv' lv) : z_W X pc lv st P nx u v := by
  obtain ⟨p, l, e, R, s, m, args, below, meth, c, cc, nL, own, D, cy, b, B, Q⟩ := X
  exact fun H locs ls hR hS hL => k H locs ls hR hS (hL.sub (z_lt_g _ _ h))
theorem z_widen {u' v' : Nat} (h1 : u ≤ u') (h2 : v ≤ v') (k : z_W X pc lv st P nx u' v') : z_W X pc lv st P nx u v := by
  obtain ⟨p, l, e, R, s, m, args, below, meth, c, cc, nL, own, D, cy, b, B, Q⟩ := X
  exact fun H locs ls hR hS hL => W.widen h1 h2 (k H locs ls hR hS hL)
theorem z_iadd (hX : z_is X l me rm) {x y : Int32} (hd : decode me.2.1 pc = .ok (.iadd, 1)) (k : z_W X (pc + 1) lv (.int (x + y) :: st) P nx u v) : z_W X pc lv (.int y :: .int x :: st) P nx u v := by
  obtain ⟨p, l, e, R, s, m, args, below, meth, c, cc, nL, own, D, cy, b, B, Q⟩ := X
  obtain ⟨yn, yc, yL, yr⟩ := me
  obtain ⟨⟨hx, hb, hml, hown, hts, hK, hB⟩, rfl, rfl, rfl, rfl, rfl⟩ := hX
  intro H locs ls hR hS hL
  exact lv_iadd hx hb hd (k H locs ls hR hS hL)
theorem z_isub (hX : z_is X l me rm) {x y : Int32} (hd : decode me.2.1 pc = .ok (.isub, 1)) (k : z_W X (pc + 1) lv (.int (x - y) :: st) P nx u v) : z_W X pc lv (.int y :: .int x :: st) P nx u v := by
  obtain ⟨p, l, e, R, s, m, args, below, meth, c, cc, nL, own, D, cy, b, B, Q⟩ := X
  obtain ⟨yn, yc, yL, yr⟩ := me
  obtain ⟨⟨hx, hb, hml, hown, hts, hK, hB⟩, rfl, rfl, rfl, rfl, rfl⟩ := hX
  intro H locs ls hR hS hL
  exact lv_isub hx hb hd (k H locs ls hR hS hL)
theorem z_imul (hX : z_is X l me rm) {x y : Int32} (hd : decode me.2.1 pc = .ok (.imul, 1)) (k : z_W X (pc + 1) lv (.int (x * y) :: st) P nx u v) : z_W X pc lv (.int y :: .int x :: st) P nx u v := by
  obtain ⟨p, l, e, R, s, m, args, below, meth, c, cc, nL, own, D, cy, b, B, Q⟩ := X
  obtain ⟨yn, yc, yL, yr⟩ := me
  obtain ⟨⟨hx, hb, hml, hown, hts, hK, hB⟩, rfl, rfl, rfl, rfl, rfl⟩ := hX
  intro H locs ls hR hS hL
  exact lv_imul hx hb hd (k H locs ls hR hS hL)
theorem z_iand (hX : z_is X l me rm) {x y : Int32} (hd : decode me.2.1 pc = .ok (.iand, 1)) (k : z_W X (pc + 1) lv (.int (x &&& y) :: st) P nx u v) : z_W X pc lv (.int y :: .int x :: st) P nx u v := by
  obtain ⟨p, l, e, R, s, m, args, below, meth, c, cc, nL, own, D, cy, b, B, Q⟩ := X
  obtain ⟨yn, yc, yL, yr⟩ := me
  obtain ⟨⟨hx, hb, hml, hown, hts, hK, hB⟩, rfl, rfl, rfl, rfl, rfl⟩ := hX
  intro H locs ls hR hS hL
  exact lv_iand hx hb hd (k H locs ls hR hS hL)
theorem z_ior (hX : z_is X l me rm) {x y : Int32} (hd : decode me.2.1 pc = .ok (.ior, 1)) (k : z_W X (pc + 1) lv (.int (x ||| y) :: st) P nx u v) : z_W X pc lv (.int y :: .int x :: st) P nx u v := by
  obtain ⟨p, l, e, R, s, m, args, below, meth, c, cc, nL, own, D, cy, b, B, Q⟩ := X
  obtain ⟨yn, yc, yL, yr⟩ := me
  obtain ⟨⟨hx, hb, hml, hown, hts, hK, hB⟩, rfl, rfl, rfl, rfl, rfl⟩ := hX
  intro H locs ls hR hS hL
  exact lv_ior hx hb hd (k H locs ls hR hS hL)
theorem z_ixor (hX : z_is X l me rm) {x y : Int32} (hd : decode me.2.1 pc = .ok (.ixor, 1)) (k : z_W X (pc + 1) lv (.int (x ^^^ y) :: st) P nx u v) : z_W X pc lv (.int y :: .int x :: st) P nx u v := by
  obtain ⟨p, l, e, R, s, m, args, below, meth, c, cc, nL, own, D, cy, b, B, Q⟩ := X
  obtain ⟨yn, yc, yL, yr⟩ := me
  obtain ⟨⟨hx, hb, hml, hown, hts, hK, hB⟩, rfl, rfl, rfl, rfl, rfl⟩ := hX
  intro H locs ls hR hS hL
  exact lv_ixor hx hb hd (k H locs ls hR hS hL)
theorem z_ishl (hX : z_is X l me rm) {x y : Int32} (hd : decode me.2.1 pc = .ok (.ishl, 1)) (k : z_W X (pc + 1) lv (.int (x <<< (y &&& 31)) :: st) P nx u v) : z_W X pc lv (.int y :: .int x :: st) P nx u v := by
  obtain ⟨p, l, e, R, s, m, args, below, meth, c, cc, nL, own, D, cy, b, B, Q⟩ := X
  obtain ⟨yn, yc, yL, yr⟩ := me
  obtain ⟨⟨hx, hb, hml, hown, hts, hK, hB⟩, rfl, rfl, rfl, rfl, rfl⟩ := hX
  intro H locs ls hR hS hL
  exact lv_ishl hx hb hd (k H locs ls hR hS hL)
theorem z_ishr (hX : z_is X l me rm) {x y : Int32} (hd : decode me.2.1 pc = .ok (.ishr, 1)) (k : z_W X (pc + 1) lv (.int (x >>> (y &&& 31)) :: st) P nx u v) : z_W X pc lv (.int y :: .int x :: st) P nx u v := by
  obtain ⟨p, l, e, R, s, m, args, below, meth, c, cc, nL, own, D, cy, b, B, Q⟩ := X
  obtain ⟨yn, yc, yL, yr⟩ := me
  obtain ⟨⟨hx, hb, hml, hown, hts, hK, hB⟩, rfl, rfl, rfl, rfl, rfl⟩ := hX
  intro H locs ls hR hS hL
  exact lv_ishr hx hb hd (k H locs ls hR hS hL)
theorem z_idiv (hX : z_is X l me rm) {x y : Int32} (hd : decode me.2.1 pc = .ok (.idiv, 1)) (hne : ¬ y = 0) (k : z_W X (pc + 1) lv (.int (x / y) :: st) P nx u v) : z_W X pc lv (.int y :: .int x :: st) P nx u v := by
  obtain ⟨p, l, e, R, s, m, args, below, meth, c, cc, nL, own, D, cy, b, B, Q⟩ := X
  obtain ⟨yn, yc, yL, yr⟩ := me
  obtain ⟨⟨hx, hb, hml, hown, hts, hK, hB⟩, rfl, rfl, rfl, rfl, rfl⟩ := hX
  intro H locs ls hR hS hL
  exact lv_idiv hx hb hd hne (k H locs ls hR hS hL)
theorem z_irem (hX : z_is X l me rm) {x y : Int32} (hd : decode me.2.1 pc = .ok (.irem, 1)) (hne : ¬ y = 0) (k : z_W X (pc + 1) lv (.int (x - x / y * y) :: st) P nx u v) : z_W X pc lv (.int y :: .int x :: st) P nx u v := by
  obtain ⟨p, l, e, R, s, m, args, below, meth, c, cc, nL, own, D, cy, b, B, Q⟩ := X
  obtain ⟨yn, yc, yL, yr⟩ := me
  obtain ⟨⟨hx, hb, hml, hown, hts, hK, hB⟩, rfl, rfl, rfl, rfl, rfl⟩ := hX
  intro H locs ls hR hS hL
  exact lv_irem hx hb hd hne (k H locs ls hR hS hL)
theorem z_ladd (hX : z_is X l me rm) {x y : Int64} (hd : decode me.2.1 pc = .ok (.ladd, 1)) (k : z_W X (pc + 1) lv (.long (x + y) :: st) P nx u v) : z_W X pc lv (.long y :: .long x :: st) P nx u v := by
  obtain ⟨p, l, e, R, s, m, args, below, meth, c, cc, nL, own, D, cy, b, B, Q⟩ := X
  obtain ⟨yn, yc, yL, yr⟩ := me
  obtain ⟨⟨hx, hb, hml, hown, hts, hK, hB⟩, rfl, rfl, rfl, rfl, rfl⟩ := hX
  intro H locs ls hR hS hL
  exact lv_ladd hx hb hd (k H locs ls hR hS hL)
theorem z_lsub (hX : z_is X l me rm) {x y : Int64} (hd : decode me.2.1 pc = .ok (.lsub, 1)) (k : z_W X (pc + 1) lv (.long (x - y) :: st) P nx u v) : z_W X pc lv (.long y :: .long x :: st) P nx u v := by
  obtain ⟨p, l, e, R, s, m, args, below, meth, c, cc, nL, own, D, cy, b, B, Q⟩ := X
  obtain ⟨yn, yc, yL, yr⟩ := me
  obtain ⟨⟨hx, hb, hml, hown, hts, hK, hB⟩, rfl, rfl, rfl, rfl, rfl⟩ := hX
  intro H locs ls hR hS hL
  exact lv_lsub hx hb hd (k H locs ls hR hS hL)
theorem z_lmul (hX : z_is X l me rm) {x y : Int64} (hd : decode me.2.1 pc = .ok (.lmul, 1)) (k : z_W X (pc + 1) lv (.long (x * y) :: st) P nx u v) : z_W X pc lv (.long y :: .long x :: st) P nx u v := by
  obtain ⟨p, l, e, R, s, m, args, below, meth, c, cc, nL, own, D, cy, b, B, Q⟩ := X
  obtain ⟨yn, yc, yL, yr⟩ := me
  obtain ⟨⟨hx, hb, hml, hown, hts, hK, hB⟩, rfl, rfl, rfl, rfl, rfl⟩ := hX
  intro H locs ls hR hS hL
  exact lv_lmul hx hb hd (k H locs ls hR hS hL)
theorem z_ldiv (hX : z_is X l me rm) {x y : Int64} (hd : decode me.2.1 pc = .ok (.ldiv, 1)) (hne : ¬ y = 0) (k : z_W X (pc + 1) lv (.long (x / y) :: st) P nx u v) : z_W X pc lv (.long y :: .long x :: st) P nx u v := by
  obtain ⟨p, l, e, R, s, m, args, below, meth, c, cc, nL, own, D, cy, b, B, Q⟩ := X
  obtain ⟨yn, yc, yL, yr⟩ := me
  obtain ⟨⟨hx, hb, hml, hown, hts, hK, hB⟩, rfl, rfl, rfl, rfl, rfl⟩ := hX
  intro H locs ls hR hS hL
  exact lv_ldiv hx hb hd hne (k H locs ls hR hS hL)
theorem z_lneg (hX : z_is X l me rm) {x : Int64} (hd : decode me.2.1 pc = .ok (.lneg, 1)) (k : z_W X (pc + 1) lv (.long (-x) :: st) P nx u v) : z_W X pc lv (.long x :: st) P nx u v := by
  obtain ⟨p, l, e, R, s, m, args, below, meth, c, cc, nL, own, D, cy, b, B, Q⟩ := X
  obtain ⟨yn, yc, yL, yr⟩ := me
  obtain ⟨⟨hx, hb, hml, hown, hts, hK, hB⟩, rfl, rfl, rfl, rfl, rfl⟩ := hX
  intro H locs ls hR hS hL
  exact lv_lneg hx hb hd (k H locs ls hR hS hL)
theorem z_lcmp (hX : z_is X l me rm) {x y : Int64} (hd : decode me.2.1 pc = .ok (.lcmp, 1)) (k : z_W X (pc + 1) lv (.int (lg_cmp x y) :: st) P nx u v) : z_W X pc lv (.long y :: .long x :: st) P nx u v := by
  obtain ⟨p, l, e, R, s, m, args, below, meth, c, cc, nL, own, D, cy, b, B, Q⟩ := X
  obtain ⟨yn, yc, yL, yr⟩ := me
  obtain ⟨⟨hx, hb, hml, hown, hts, hK, hB⟩, rfl, rfl, rfl, rfl, rfl⟩ := hX
  intro H locs ls hR hS hL
  exact W.lcmp hx hb hd (k H locs ls hR hS hL)
theorem z_i2l (hX : z_is X l me rm) {x : Int32} (hd : decode me.2.1 pc = .ok (.i2l, 1)) (k : z_W X (pc + 1) lv (.long x.toInt64 :: st) P nx u v) : z_W X pc lv (.int x :: st) P nx u v := by
  obtain ⟨p, l, e, R, s, m, args, below, meth, c, cc, nL, own, D, cy, b, B, Q⟩ := X
  obtain ⟨yn, yc, yL, yr⟩ := me
  obtain ⟨⟨hx, hb, hml, hown, hts, hK, hB⟩, rfl, rfl, rfl, rfl, rfl⟩ := hX
  intro H locs ls hR hS hL
  exact lv_i2l hx hb hd rfl (k H locs ls hR hS hL)
theorem z_i2b (hX : z_is X l me rm) {x : Int32} (hd : decode me.2.1 pc = .ok (.i2b, 1)) (k : z_W X (pc + 1) lv (.int x.toInt8.toInt32 :: st) P nx u v) : z_W X pc lv (.int x :: st) P nx u v := by
  obtain ⟨p, l, e, R, s, m, args, below, meth, c, cc, nL, own, D, cy, b, B, Q⟩ := X
  obtain ⟨yn, yc, yL, yr⟩ := me
  obtain ⟨⟨hx, hb, hml, hown, hts, hK, hB⟩, rfl, rfl, rfl, rfl, rfl⟩ := hX
  intro H locs ls hR hS hL
  exact lv_i2b hx hb hd rfl (k H locs ls hR hS hL)
theorem z_iushr (hX : z_is X l me rm) {x y : Int32} (hd : decode me.2.1 pc = .ok (.iushr, 1)) (k : z_W X (pc + 1) lv (.int (x.toUInt32 >>> (y.toUInt32 &&& Int32.toUInt32 31)).toInt32 :: st) P nx u v) : z_W X pc lv (.int y :: .int x :: st) P nx u v := by
  obtain ⟨p, l, e, R, s, m, args, below, meth, c, cc, nL, own, D, cy, b, B, Q⟩ := X
  obtain ⟨yn, yc, yL, yr⟩ := me
  obtain ⟨⟨hx, hb, hml, hown, hts, hK, hB⟩, rfl, rfl, rfl, rfl, rfl⟩ := hX
  intro H locs ls hR hS hL
  exact lv_iushr hx hb hd rfl (k H locs ls hR hS hL)
theorem z_iconst (hX : z_is X l me rm) {n : Int} (z : Int32) (hd : decode me.2.1 pc = .ok (.iconst n, 1)) (hz : Int32.ofInt n = z) (k : z_W X (pc + 1) lv (.int z :: st) P nx u v) : z_W X pc lv (st) P nx u v := by
  obtain ⟨p, l, e, R, s, m, args, below, meth, c, cc, nL, own, D, cy, b, B, Q⟩ := X
  obtain ⟨yn, yc, yL, yr⟩ := me
  obtain ⟨⟨hx, hb, hml, hown, hts, hK, hB⟩, rfl, rfl, rfl, rfl, rfl⟩ := hX
  intro H locs ls hR hS hL
  exact lv_iconst hx hb hd hz (k H locs ls hR hS hL)
theorem z_bipush (hX : z_is X l me rm) {n : Int} (z : Int32) (hd : decode me.2.1 pc = .ok (.bipush n, 2)) (hz : (Int8.ofInt n).toInt32 = z) (k : z_W X (pc + 2) lv (.int z :: st) P nx u v) : z_W X pc lv (st) P nx u v := by
  obtain ⟨p, l, e, R, s, m, args, below, meth, c, cc, nL, own, D, cy, b, B, Q⟩ := X
  obtain ⟨yn, yc, yL, yr⟩ := me
  obtain ⟨⟨hx, hb, hml, hown, hts, hK, hB⟩, rfl, rfl, rfl, rfl, rfl⟩ := hX
  intro H locs ls hR hS hL
  exact lv_bipush hx hb hd hz (k H locs ls hR hS hL)
theorem z_sipush (hX : z_is X l me rm) {n : Int} (z : Int32) (hd : decode me.2.1 pc = .ok (.sipush n, 3)) (hz : (Int16.ofInt n).toInt32 = z) (k : z_W X (pc + 3) lv (.int z :: st) P nx u v) : z_W X pc lv (st) P nx u v := by
  obtain ⟨p, l, e, R, s, m, args, below, meth, c, cc, nL, own, D, cy, b, B, Q⟩ := X
  obtain ⟨yn, yc, yL, yr⟩ := me
  obtain ⟨⟨hx, hb, hml, hown, hts, hK, hB⟩, rfl, rfl, rfl, rfl, rfl⟩ := hX
  intro H locs ls hR hS hL
  exact lv_sipush hx hb hd hz (k H locs ls hR hS hL)
theorem z_lconst (hX : z_is X l me rm) {n : Fin 2} (z : Int64) (hd : decode me.2.1 pc = .ok (.lconst n, 1)) (hz : Int64.ofNat (n : Nat) = z) (k : z_W X (pc + 1) lv (.long z :: st) P nx u v) : z_W X pc lv (st) P nx u v := by
  obtain ⟨p, l, e, R, s, m, args, below, meth, c, cc, nL, own, D, cy, b, B, Q⟩ := X
  obtain ⟨yn, yc, yL, yr⟩ := me
  obtain ⟨⟨hx, hb, hml, hown, hts, hK, hB⟩, rfl, rfl, rfl, rfl, rfl⟩ := hX
  intro H locs ls hR hS hL
  exact lv_lconst hx hb hd hz (k H locs ls hR hS hL)
theorem z_null (hX : z_is X l me rm) (hd : decode me.2.1 pc = .ok (.aconst_null, 1)) (k : z_W X (pc + 1) lv (.null :: st) P nx u v) : z_W X pc lv (st) P nx u v := by
  obtain ⟨p, l, e, R, s, m, args, below, meth, c, cc, nL, own, D, cy, b, B, Q⟩ := X
  obtain ⟨yn, yc, yL, yr⟩ := me
  obtain ⟨⟨hx, hb, hml, hown, hts, hK, hB⟩, rfl, rfl, rfl, rfl, rfl⟩ := hX
  intro H locs ls hR hS hL
  exact lv_null hx hb hd (k H locs ls hR hS hL)
theorem z_ldc (hX : z_is X l me rm) {i : Nat} (z : Int32) (hd : decode me.2.1 pc = .ok (.ldc i, 2)) (hw : Cond.constant me.1.cls i z ∈ z_T) (k : z_W X (pc + 2) lv (.int z :: st) P nx u v) : z_W X pc lv st P nx u v := by
  obtain ⟨p, l, e, R, s, m, args, below, meth, c, cc, nL, own, D, cy, b, B, Q⟩ := X
  obtain ⟨yn, yc, yL, yr⟩ := me
  obtain ⟨⟨hx, hb, hml, hown, hts, hK, hB⟩, rfl, rfl, rfl, rfl, rfl⟩ := hX
  intro H locs ls hR hS hL
  exact lv_ldc hx hb hown (hts _ hw) hd (k H locs ls hR hS hL)
theorem z_ldcw (hX : z_is X l me rm) {i : Nat} (z : Int32) (hd : decode me.2.1 pc = .ok (.ldc_w i, 3)) (hw : Cond.constant me.1.cls i z ∈ z_T) (k : z_W X (pc + 3) lv (.int z :: st) P nx u v) : z_W X pc lv st P nx u v := by
  obtain ⟨p, l, e, R, s, m, args, below, meth, c, cc, nL, own, D, cy, b, B, Q⟩ := X
  obtain ⟨yn, yc, yL, yr⟩ := me
  obtain ⟨⟨hx, hb, hml, hown, hts, hK, hB⟩, rfl, rfl, rfl, rfl, rfl⟩ := hX
  intro H locs ls hR hS hL
  exact lv_ldcw hx hb hown (hts _ hw) hd (k H locs ls hR hS hL)
theorem z_ldc2 (hX : z_is X l me rm) {i : Nat} (z : Int64) (hd : decode me.2.1 pc = .ok (.ldc2_w i, 3)) (hw : Cond.constantLong me.1.cls i z ∈ z_T) (k : z_W X (pc + 3) lv (.long z :: st) P nx u v) : z_W X pc lv st P nx u v := by
  obtain ⟨p, l, e, R, s, m, args, below, meth, c, cc, nL, own, D, cy, b, B, Q⟩ := X
  obtain ⟨yn, yc, yL, yr⟩ := me
  obtain ⟨⟨hx, hb, hml, hown, hts, hK, hB⟩, rfl, rfl, rfl, rfl, rfl⟩ := hX
  intro H locs ls hR hS hL
  exact lv_ldc2 hx hb hown (hts _ hw) hd (k H locs ls hR hS hL)
theorem z_iload_n (hX : z_is X l me rm) {j : Fin 4} {x : Int32} (hd : decode me.2.1 pc = .ok (.iload_n j, 1)) (hg : z_g lv j = some (.int x)) (k : z_W X (pc + 1) lv (.int x :: st) P nx u v) : z_W X pc lv st P nx u v := by
  obtain ⟨p, l, e, R, s, m, args, below, meth, c, cc, nL, own, D, cy, b, B, Q⟩ := X
  obtain ⟨yn, yc, yL, yr⟩ := me
  obtain ⟨⟨hx, hb, hml, hown, hts, hK, hB⟩, rfl, rfl, rfl, rfl, rfl⟩ := hX
  intro H locs ls hR hS hL
  exact lv_iload_n hx hb hd rfl (hL.2.2 _ _ hg) (k H locs ls hR hS hL)
theorem z_iload (hX : z_is X l me rm) {j : Nat} {x : Int32} (hd : decode me.2.1 pc = .ok (.iload j, 2)) (hg : z_g lv j = some (.int x)) (k : z_W X (pc + 2) lv (.int x :: st) P nx u v) : z_W X pc lv st P nx u v := by
  obtain ⟨p, l, e, R, s, m, args, below, meth, c, cc, nL, own, D, cy, b, B, Q⟩ := X
  obtain ⟨yn, yc, yL, yr⟩ := me
  obtain ⟨⟨hx, hb, hml, hown, hts, hK, hB⟩, rfl, rfl, rfl, rfl, rfl⟩ := hX
  intro H locs ls hR hS hL
  exact lv_iload hx hb hd (hL.2.2 _ _ hg) (k H locs ls hR hS hL)
theorem z_lload_n (hX : z_is X l me rm) {j : Fin 4} {x : Int64} (hd : decode me.2.1 pc = .ok (.lload_n j, 1)) (hg : z_g lv j = some (.long x)) (k : z_W X (pc + 1) lv (.long x :: st) P nx u v) : z_W X pc lv st P nx u v := by
  obtain ⟨p, l, e, R, s, m, args, below, meth, c, cc, nL, own, D, cy, b, B, Q⟩ := X
  obtain ⟨yn, yc, yL, yr⟩ := me
  obtain ⟨⟨hx, hb, hml, hown, hts, hK, hB⟩, rfl, rfl, rfl, rfl, rfl⟩ := hX
  intro H locs ls hR hS hL
  exact lv_lload_n hx hb hd rfl (hL.2.2 _ _ hg) (k H locs ls hR hS hL)
theorem z_lload (hX : z_is X l me rm) {j : Nat} {x : Int64} (hd : decode me.2.1 pc = .ok (.lload j, 2)) (hg : z_g lv j = some (.long x)) (k : z_W X (pc + 2) lv (.long x :: st) P nx u v) : z_W X pc lv st P nx u v := by
  obtain ⟨p, l, e, R, s, m, args, below, meth, c, cc, nL, own, D, cy, b, B, Q⟩ := X
  obtain ⟨yn, yc, yL, yr⟩ := me
  obtain ⟨⟨hx, hb, hml, hown, hts, hK, hB⟩, rfl, rfl, rfl, rfl, rfl⟩ := hX
  intro H locs ls hR hS hL
  exact lv_lload hx hb hd (hL.2.2 _ _ hg) (k H locs ls hR hS hL)
theorem z_aload_n (hX : z_is X l me rm) {j : Fin 4} {x : Nat} (hd : decode me.2.1 pc = .ok (.aload_n j, 1)) (hg : z_g lv j = some (.ref x)) (k : z_W X (pc + 1) lv (.ref x :: st) P nx u v) : z_W X pc lv st P nx u v := by
  obtain ⟨p, l, e, R, s, m, args, below, meth, c, cc, nL, own, D, cy, b, B, Q⟩ := X
  obtain ⟨yn, yc, yL, yr⟩ := me
  obtain ⟨⟨hx, hb, hml, hown, hts, hK, hB⟩, rfl, rfl, rfl, rfl, rfl⟩ := hX
  intro H locs ls hR hS hL
  exact lv_aload_n hx hb hd rfl (hL.2.2 _ _ hg) (k H locs ls hR hS hL)
theorem z_aload_nN (hX : z_is X l me rm) {j : Fin 4} (hd : decode me.2.1 pc = .ok (.aload_n j, 1)) (hg : z_g lv j = some .null) (k : z_W X (pc + 1) lv (.null :: st) P nx u v) : z_W X pc lv st P nx u v := by
  obtain ⟨p, l, e, R, s, m, args, below, meth, c, cc, nL, own, D, cy, b, B, Q⟩ := X
  obtain ⟨yn, yc, yL, yr⟩ := me
  obtain ⟨⟨hx, hb, hml, hown, hts, hK, hB⟩, rfl, rfl, rfl, rfl, rfl⟩ := hX
  intro H locs ls hR hS hL
  exact lv_aload_nN hx hb hd rfl (hL.2.2 _ _ hg) (k H locs ls hR hS hL)
theorem z_aload (hX : z_is X l me rm) {j : Nat} {x : Nat} (hd : decode me.2.1 pc = .ok (.aload j, 2)) (hg : z_g lv j = some (.ref x)) (k : z_W X (pc + 2) lv (.ref x :: st) P nx u v) : z_W X pc lv st P nx u v := by
  obtain ⟨p, l, e, R, s, m, args, below, meth, c, cc, nL, own, D, cy, b, B, Q⟩ := X
  obtain ⟨yn, yc, yL, yr⟩ := me
  obtain ⟨⟨hx, hb, hml, hown, hts, hK, hB⟩, rfl, rfl, rfl, rfl, rfl⟩ := hX
  intro H locs ls hR hS hL
  exact lv_aload hx hb hd (hL.2.2 _ _ hg) (k H locs ls hR hS hL)
theorem z_istore_n (hX : z_is X l me rm) {j0 : Fin 4} (j : Nat) {x : Int32} (hj : (j0 : Nat) = j) (hn : j < me.2.2.1) (hd : decode me.2.1 pc = .ok (.istore_n j0, 1)) (k : z_W X (pc + 1) (z_p1 (.int x) j lv) st P nx u v) : z_W X pc lv (.int x :: st) P nx u v := by
  obtain ⟨p, l, e, R, s, m, args, below, meth, c, cc, nL, own, D, cy, b, B, Q⟩ := X
  obtain ⟨yn, yc, yL, yr⟩ := me
  obtain ⟨⟨hx, hb, hml, hown, hts, hK, hB⟩, rfl, rfl, rfl, rfl, rfl⟩ := hX
  intro H locs ls hR hS hL
  exact lv_istore_n hx hb hd hj hL.has hn rfl (fun ls' h' => k H locs ls' hR hS (hL.p1 h'))
theorem z_istore (hX : z_is X l me rm) {j : Nat} {x : Int32} (hn : j < me.2.2.1) (hd : decode me.2.1 pc = .ok (.istore j, 2)) (k : z_W X (pc + 2) (z_p1 (.int x) j lv) st P nx u v) : z_W X pc lv (.int x :: st) P nx u v := by
  obtain ⟨p, l, e, R, s, m, args, below, meth, c, cc, nL, own, D, cy, b, B, Q⟩ := X
  obtain ⟨yn, yc, yL, yr⟩ := me
  obtain ⟨⟨hx, hb, hml, hown, hts, hK, hB⟩, rfl, rfl, rfl, rfl, rfl⟩ := hX
  intro H locs ls hR hS hL
  exact lv_istore hx hb hd hL.has hn rfl (fun ls' h' => k H locs ls' hR hS (hL.p1 h'))
theorem z_lstore_n (hX : z_is X l me rm) {j0 : Fin 4} (j : Nat) {x : Int64} (hj : (j0 : Nat) = j) (hn : j + 1 < me.2.2.1) (hd : decode me.2.1 pc = .ok (.lstore_n j0, 1)) (k : z_W X (pc + 1) (z_p2 (.long x) j lv) st P nx u v) : z_W X pc lv (.long x :: st) P nx u v := by
  obtain ⟨p, l, e, R, s, m, args, below, meth, c, cc, nL, own, D, cy, b, B, Q⟩ := X
  obtain ⟨yn, yc, yL, yr⟩ := me
  obtain ⟨⟨hx, hb, hml, hown, hts, hK, hB⟩, rfl, rfl, rfl, rfl, rfl⟩ := hX
  intro H locs ls hR hS hL
  exact lv_lstore_n hx hb hd hj hL.has hn rfl (fun ls' h' => k H locs ls' hR hS (hL.p2 h'))
theorem z_lstore (hX : z_is X l me rm) {j : Nat} {x : Int64} (hn : j + 1 < me.2.2.1) (hd : decode me.2.1 pc = .ok (.lstore j, 2)) (k : z_W X (pc + 2) (z_p2 (.long x) j lv) st P nx u v) : z_W X pc lv (.long x :: st) P nx u v := by
  obtain ⟨p, l, e, R, s, m, args, below, meth, c, cc, nL, own, D, cy, b, B, Q⟩ := X
  obtain ⟨yn, yc, yL, yr⟩ := me
  obtain ⟨⟨hx, hb, hml, hown, hts, hK, hB⟩, rfl, rfl, rfl, rfl, rfl⟩ := hX
  intro H locs ls hR hS hL
  exact lv_lstore hx hb hd hL.has hn rfl (fun ls' h' => k H locs ls' hR hS (hL.p2 h'))
theorem z_astore_n (hX : z_is X l me rm) {j0 : Fin 4} (j : Nat) {x : Nat} (hj : (j0 : Nat) = j) (hn : j < me.2.2.1) (hd : decode me.2.1 pc = .ok (.astore_n j0, 1)) (k : z_W X (pc + 1) (z_p1 (.ref x) j lv) st P nx u v) : z_W X pc lv (.ref x :: st) P nx u v := by
  obtain ⟨p, l, e, R, s, m, args, below, meth, c, cc, nL, own, D, cy, b, B, Q⟩ := X
  obtain ⟨yn, yc, yL, yr⟩ := me
  obtain ⟨⟨hx, hb, hml, hown, hts, hK, hB⟩, rfl, rfl, rfl, rfl, rfl⟩ := hX
  intro H locs ls hR hS hL
  exact lv_astore_n hx hb hd hj hL.has hn rfl (fun ls' h' => k H locs ls' hR hS (hL.p1 h'))
theorem z_astore (hX : z_is X l me rm) {j : Nat} {x : Nat} (hn : j < me.2.2.1) (hd : decode me.2.1 pc = .ok (.astore j, 2)) (k : z_W X (pc + 2) (z_p1 (.ref x) j lv) st P nx u v) : z_W X pc lv (.ref x :: st) P nx u v := by
  obtain ⟨p, l, e, R, s, m, args, below, meth, c, cc, nL, own, D, cy, b, B, Q⟩ := X
  obtain ⟨yn, yc, yL, yr⟩ := me
  obtain ⟨⟨hx, hb, hml, hown, hts, hK, hB⟩, rfl, rfl, rfl, rfl, rfl⟩ := hX
  intro H locs ls hR hS hL
  exact lv_astore hx hb hd hL.has hn rfl (fun ls' h' => k H locs ls' hR hS (hL.p1 h'))
theorem z_iinc (hX : z_is X l me rm) {j : Nat} {n : Int} {x : Int32} (z : Int32) (hz : Int32.ofInt n = z) (hg : z_g lv j = some (.int x)) (hn : j < me.2.2.1) (hd : decode me.2.1 pc = .ok (.iinc j n, 3)) (k : z_W X (pc + 3) (z_p1 (.int (x + z)) j lv) st P nx u v) : z_W X pc lv st P nx u v := by
  obtain ⟨p, l, e, R, s, m, args, below, meth, c, cc, nL, own, D, cy, b, B, Q⟩ := X
  obtain ⟨yn, yc, yL, yr⟩ := me
  obtain ⟨⟨hx, hb, hml, hown, hts, hK, hB⟩, rfl, rfl, rfl, rfl, rfl⟩ := hX
  intro H locs ls hR hS hL
  obtain ⟨i, hi⟩ := List.getElem?_of_mem (hL.inl hg)
  exact lv_iinc (v := x + z) hx hb hd hL.has (k := i) hi (by rw [hz]) hn rfl (fun ls' h' => k H locs ls' hR hS (hL.p1 h'))
theorem z_dup (hX : z_is X l me rm) {w : Value} (hw : w.category = 1) (hd : decode me.2.1 pc = .ok (.dup, 1)) (k : z_W X (pc + 1) lv (w :: w :: st) P nx u v) : z_W X pc lv (w :: st) P nx u v := by
  obtain ⟨p, l, e, R, s, m, args, below, meth, c, cc, nL, own, D, cy, b, B, Q⟩ := X
  obtain ⟨yn, yc, yL, yr⟩ := me
  obtain ⟨⟨hx, hb, hml, hown, hts, hK, hB⟩, rfl, rfl, rfl, rfl, rfl⟩ := hX
  intro H locs ls hR hS hL
  exact lv_dup hx hb hd (by rw [z_V_cat]; exact hw) (k H locs ls hR hS hL)
theorem z_pop (hX : z_is X l me rm) {w : Value} (hw : w.category = 1) (hd : decode me.2.1 pc = .ok (.pop, 1)) (k : z_W X (pc + 1) lv st P nx u v) : z_W X pc lv (w :: st) P nx u v := by
  obtain ⟨p, l, e, R, s, m, args, below, meth, c, cc, nL, own, D, cy, b, B, Q⟩ := X
  obtain ⟨yn, yc, yL, yr⟩ := me
  obtain ⟨⟨hx, hb, hml, hown, hts, hK, hB⟩, rfl, rfl, rfl, rfl, rfl⟩ := hX
  intro H locs ls hR hS hL
  exact lv_pop hx hb hd (by rw [z_V_cat]; exact hw) (k H locs ls hR hS hL)
theorem z_dup2 (hX : z_is X l me rm) {w w2 : Value} (hw : w.category = 1) (hw2 : w2.category = 1) (hd : decode me.2.1 pc = .ok (.dup2, 1)) (k : z_W X (pc + 1) lv (w :: w2 :: w :: w2 :: st) P nx u v) : z_W X pc lv (w :: w2 :: st) P nx u v := by
  obtain ⟨p, l, e, R, s, m, args, below, meth, c, cc, nL, own, D, cy, b, B, Q⟩ := X
  obtain ⟨yn, yc, yL, yr⟩ := me
  obtain ⟨⟨hx, hb, hml, hown, hts, hK, hB⟩, rfl, rfl, rfl, rfl, rfl⟩ := hX
  intro H locs ls hR hS hL
  exact lv_dup2_11 hx hb hd (by rw [z_V_cat]; exact hw) (by rw [z_V_cat]; exact hw2) (k H locs ls hR hS hL)
theorem z_if_eq (hX : z_is X l me rm) {x : Int32} {off : Int} (tgt : Nat) (hd : decode me.2.1 pc = .ok (.ifCond .eq off, 3)) (ht : (pc : Int) + off = (tgt : Int)) (kt : x = 0 → z_W X tgt lv st P nx u v) (kf : ¬ x = 0 → z_W X (pc + 3) lv st P nx u v) : z_W X pc lv (.int x :: st) P nx u v := by
  obtain ⟨p, l, e, R, s, m, args, below, meth, c, cc, nL, own, D, cy, b, B, Q⟩ := X
  obtain ⟨yn, yc, yL, yr⟩ := me
  obtain ⟨⟨hx, hb, hml, hown, hts, hK, hB⟩, rfl, rfl, rfl, rfl, rfl⟩ := hX
  intro H locs ls hR hS hL
  exact lv_if_eq hx hb hd ht (fun q => kt q H locs ls hR hS hL) (fun q => kf q H locs ls hR hS hL)
theorem z_icmp_eq (hX : z_is X l me rm) {x y : Int32} {off : Int} (tgt : Nat) (hd : decode me.2.1 pc = .ok (.if_icmp .eq off, 3)) (ht : (pc : Int) + off = (tgt : Int)) (kt : x = y → z_W X tgt lv st P nx u v) (kf : ¬ x = y → z_W X (pc + 3) lv st P nx u v) : z_W X pc lv (.int y :: .int x :: st) P nx u v := by
  obtain ⟨p, l, e, R, s, m, args, below, meth, c, cc, nL, own, D, cy, b, B, Q⟩ := X
  obtain ⟨yn, yc, yL, yr⟩ := me
  obtain ⟨⟨hx, hb, hml, hown, hts, hK, hB⟩, rfl, rfl, rfl, rfl, rfl⟩ := hX
  intro H locs ls hR hS hL
  exact lv_icmp_eq hx hb hd ht (fun q => kt q H locs ls hR hS hL) (fun q => kf q H locs ls hR hS hL)
theorem z_if_ne (hX : z_is X l me rm) {x : Int32} {off : Int} (tgt : Nat) (hd : decode me.2.1 pc = .ok (.ifCond .ne off, 3)) (ht : (pc : Int) + off = (tgt : Int)) (kt : ¬ x = 0 → z_W X tgt lv st P nx u v) (kf : x = 0 → z_W X (pc + 3) lv st P nx u v) : z_W X pc lv (.int x :: st) P nx u v := by
  obtain ⟨p, l, e, R, s, m, args, below, meth, c, cc, nL, own, D, cy, b, B, Q⟩ := X
  obtain ⟨yn, yc, yL, yr⟩ := me
  obtain ⟨⟨hx, hb, hml, hown, hts, hK, hB⟩, rfl, rfl, rfl, rfl, rfl⟩ := hX
  intro H locs ls hR hS hL
  exact lv_if_ne hx hb hd ht (fun q => kt q H locs ls hR hS hL) (fun q => kf q H locs ls hR hS hL)
theorem z_icmp_ne (hX : z_is X l me rm) {x y : Int32} {off : Int} (tgt : Nat) (hd : decode me.2.1 pc = .ok (.if_icmp .ne off, 3)) (ht : (pc : Int) + off = (tgt : Int)) (kt : ¬ x = y → z_W X tgt lv st P nx u v) (kf : x = y → z_W X (pc + 3) lv st P nx u v) : z_W X pc lv (.int y :: .int x :: st) P nx u v := by
  obtain ⟨p, l, e, R, s, m, args, below, meth, c, cc, nL, own, D, cy, b, B, Q⟩ := X
  obtain ⟨yn, yc, yL, yr⟩ := me
  obtain ⟨⟨hx, hb, hml, hown, hts, hK, hB⟩, rfl, rfl, rfl, rfl, rfl⟩ := hX
  intro H locs ls hR hS hL
  exact lv_icmp_ne hx hb hd ht (fun q => kt q H locs ls hR hS hL) (fun q => kf q H locs ls hR hS hL)
theorem z_if_lt (hX : z_is X l me rm) {x : Int32} {off : Int} (tgt : Nat) (hd : decode me.2.1 pc = .ok (.ifCond .lt off, 3)) (ht : (pc : Int) + off = (tgt : Int)) (kt : x < 0 → z_W X tgt lv st P nx u v) (kf : ¬ x < 0 → z_W X (pc + 3) lv st P nx u v) : z_W X pc lv (.int x :: st) P nx u v := by
  obtain ⟨p, l, e, R, s, m, args, below, meth, c, cc, nL, own, D, cy, b, B, Q⟩ := X
  obtain ⟨yn, yc, yL, yr⟩ := me
  obtain ⟨⟨hx, hb, hml, hown, hts, hK, hB⟩, rfl, rfl, rfl, rfl, rfl⟩ := hX
  intro H locs ls hR hS hL
  exact lv_if_lt hx hb hd ht (fun q => kt q H locs ls hR hS hL) (fun q => kf q H locs ls hR hS hL)
theorem z_icmp_lt (hX : z_is X l me rm) {x y : Int32} {off : Int} (tgt : Nat) (hd : decode me.2.1 pc = .ok (.if_icmp .lt off, 3)) (ht : (pc : Int) + off = (tgt : Int)) (kt : x < y → z_W X tgt lv st P nx u v) (kf : ¬ x < y → z_W X (pc + 3) lv st P nx u v) : z_W X pc lv (.int y :: .int x :: st) P nx u v := by
  obtain ⟨p, l, e, R, s, m, args, below, meth, c, cc, nL, own, D, cy, b, B, Q⟩ := X
  obtain ⟨yn, yc, yL, yr⟩ := me
  obtain ⟨⟨hx, hb, hml, hown, hts, hK, hB⟩, rfl, rfl, rfl, rfl, rfl⟩ := hX
  intro H locs ls hR hS hL
  exact lv_icmp_lt hx hb hd ht (fun q => kt q H locs ls hR hS hL) (fun q => kf q H locs ls hR hS hL)
theorem z_if_ge (hX : z_is X l me rm) {x : Int32} {off : Int} (tgt : Nat) (hd : decode me.2.1 pc = .ok (.ifCond .ge off, 3)) (ht : (pc : Int) + off = (tgt : Int)) (kt : 0 ≤ x → z_W X tgt lv st P nx u v) (kf : ¬ 0 ≤ x → z_W X (pc + 3) lv st P nx u v) : z_W X pc lv (.int x :: st) P nx u v := by
  obtain ⟨p, l, e, R, s, m, args, below, meth, c, cc, nL, own, D, cy, b, B, Q⟩ := X
  obtain ⟨yn, yc, yL, yr⟩ := me
  obtain ⟨⟨hx, hb, hml, hown, hts, hK, hB⟩, rfl, rfl, rfl, rfl, rfl⟩ := hX
  intro H locs ls hR hS hL
  exact lv_if_ge hx hb hd ht (fun q => kt q H locs ls hR hS hL) (fun q => kf q H locs ls hR hS hL)
theorem z_icmp_ge (hX : z_is X l me rm) {x y : Int32} {off : Int} (tgt : Nat) (hd : decode me.2.1 pc = .ok (.if_icmp .ge off, 3)) (ht : (pc : Int) + off = (tgt : Int)) (kt : y ≤ x → z_W X tgt lv st P nx u v) (kf : ¬ y ≤ x → z_W X (pc + 3) lv st P nx u v) : z_W X pc lv (.int y :: .int x :: st) P nx u v := by
  obtain ⟨p, l, e, R, s, m, args, below, meth, c, cc, nL, own, D, cy, b, B, Q⟩ := X
  obtain ⟨yn, yc, yL, yr⟩ := me
  obtain ⟨⟨hx, hb, hml, hown, hts, hK, hB⟩, rfl, rfl, rfl, rfl, rfl⟩ := hX
  intro H locs ls hR hS hL
  exact lv_icmp_ge hx hb hd ht (fun q => kt q H locs ls hR hS hL) (fun q => kf q H locs ls hR hS hL)
theorem z_if_gt (hX : z_is X l me rm) {x : Int32} {off : Int} (tgt : Nat) (hd : decode me.2.1 pc = .ok (.ifCond .gt off, 3)) (ht : (pc : Int) + off = (tgt : Int)) (kt : 0 < x → z_W X tgt lv st P nx u v) (kf : ¬ 0 < x → z_W X (pc + 3) lv st P nx u v) : z_W X pc lv (.int x :: st) P nx u v := by
  obtain ⟨p, l, e, R, s, m, args, below, meth, c, cc, nL, own, D, cy, b, B, Q⟩ := X
  obtain ⟨yn, yc, yL, yr⟩ := me
  obtain ⟨⟨hx, hb, hml, hown, hts, hK, hB⟩, rfl, rfl, rfl, rfl, rfl⟩ := hX
  intro H locs ls hR hS hL
  exact lv_if_gt hx hb hd ht (fun q => kt q H locs ls hR hS hL) (fun q => kf q H locs ls hR hS hL)
theorem z_icmp_gt (hX : z_is X l me rm) {x y : Int32} {off : Int} (tgt : Nat) (hd : decode me.2.1 pc = .ok (.if_icmp .gt off, 3)) (ht : (pc : Int) + off = (tgt : Int)) (kt : y < x → z_W X tgt lv st P nx u v) (kf : ¬ y < x → z_W X (pc + 3) lv st P nx u v) : z_W X pc lv (.int y :: .int x :: st) P nx u v := by
  obtain ⟨p, l, e, R, s, m, args, below, meth, c, cc, nL, own, D, cy, b, B, Q⟩ := X
  obtain ⟨yn, yc, yL, yr⟩ := me
  obtain ⟨⟨hx, hb, hml, hown, hts, hK, hB⟩, rfl, rfl, rfl, rfl, rfl⟩ := hX
  intro H locs ls hR hS hL
  exact lv_icmp_gt hx hb hd ht (fun q => kt q H locs ls hR hS hL) (fun q => kf q H locs ls hR hS hL)
theorem z_if_le (hX : z_is X l me rm) {x : Int32} {off : Int} (tgt : Nat) (hd : decode me.2.1 pc = .ok (.ifCond .le off, 3)) (ht : (pc : Int) + off = (tgt : Int)) (kt : x ≤ 0 → z_W X tgt lv st P nx u v) (kf : ¬ x ≤ 0 → z_W X (pc + 3) lv st P nx u v) : z_W X pc lv (.int x :: st) P nx u v := by
  obtain ⟨p, l, e, R, s, m, args, below, meth, c, cc, nL, own, D, cy, b, B, Q⟩ := X
  obtain ⟨yn, yc, yL, yr⟩ := me
  obtain ⟨⟨hx, hb, hml, hown, hts, hK, hB⟩, rfl, rfl, rfl, rfl, rfl⟩ := hX
  intro H locs ls hR hS hL
  exact lv_if_le hx hb hd ht (fun q => kt q H locs ls hR hS hL) (fun q => kf q H locs ls hR hS hL)
theorem z_icmp_le (hX : z_is X l me rm) {x y : Int32} {off : Int} (tgt : Nat) (hd : decode me.2.1 pc = .ok (.if_icmp .le off, 3)) (ht : (pc : Int) + off = (tgt : Int)) (kt : x ≤ y → z_W X tgt lv st P nx u v) (kf : ¬ x ≤ y → z_W X (pc + 3) lv st P nx u v) : z_W X pc lv (.int y :: .int x :: st) P nx u v := by
  obtain ⟨p, l, e, R, s, m, args, below, meth, c, cc, nL, own, D, cy, b, B, Q⟩ := X
  obtain ⟨yn, yc, yL, yr⟩ := me
  obtain ⟨⟨hx, hb, hml, hown, hts, hK, hB⟩, rfl, rfl, rfl, rfl, rfl⟩ := hX
  intro H locs ls hR hS hL
  exact lv_icmp_le hx hb hd ht (fun q => kt q H locs ls hR hS hL) (fun q => kf q H locs ls hR hS hL)
theorem z_goto (hX : z_is X l me rm) {off : Int} (tgt : Nat) (hd : decode me.2.1 pc = .ok (.goto off, 3)) (ht : (pc : Int) + off = (tgt : Int)) (k : z_W X tgt lv st P nx u v) : z_W X pc lv st P nx u v := by
  obtain ⟨p, l, e, R, s, m, args, below, meth, c, cc, nL, own, D, cy, b, B, Q⟩ := X
  obtain ⟨yn, yc, yL, yr⟩ := me
  obtain ⟨⟨hx, hb, hml, hown, hts, hK, hB⟩, rfl, rfl, rfl, rfl, rfl⟩ := hX
  intro H locs ls hR hS hL
  exact lv_goto hx hb hd ht (k H locs ls hR hS hL)
theorem z_ifnull (hX : z_is X l me rm) {off : Int} {a : Nat} (hd : decode me.2.1 pc = .ok (.ifnull off, 3)) (k : z_W X (pc + 3) lv st P nx u v) : z_W X pc lv (.ref a :: st) P nx u v := by
  obtain ⟨p, l, e, R, s, m, args, below, meth, c, cc, nL, own, D, cy, b, B, Q⟩ := X
  obtain ⟨yn, yc, yL, yr⟩ := me
  obtain ⟨⟨hx, hb, hml, hown, hts, hK, hB⟩, rfl, rfl, rfl, rfl, rfl⟩ := hX
  intro H locs ls hR hS hL
  exact lv_ifnull hx hb hd (k H locs ls hR hS hL)
theorem z_ifnullN (hX : z_is X l me rm) {off : Int} (tgt : Nat) (hd : decode me.2.1 pc = .ok (.ifnull off, 3)) (ht : (pc : Int) + off = (tgt : Int)) (k : z_W X tgt lv st P nx u v) : z_W X pc lv (.null :: st) P nx u v := by
  obtain ⟨p, l, e, R, s, m, args, below, meth, c, cc, nL, own, D, cy, b, B, Q⟩ := X
  obtain ⟨yn, yc, yL, yr⟩ := me
  obtain ⟨⟨hx, hb, hml, hown, hts, hK, hB⟩, rfl, rfl, rfl, rfl, rfl⟩ := hX
  intro H locs ls hR hS hL
  exact lv_ifnullN hx hb hd ht (k H locs ls hR hS hL)
theorem z_ifnonnull (hX : z_is X l me rm) {off : Int} {a : Nat} (tgt : Nat) (hd : decode me.2.1 pc = .ok (.ifnonnull off, 3)) (ht : (pc : Int) + off = (tgt : Int)) (k : z_W X tgt lv st P nx u v) : z_W X pc lv (.ref a :: st) P nx u v := by
  obtain ⟨p, l, e, R, s, m, args, below, meth, c, cc, nL, own, D, cy, b, B, Q⟩ := X
  obtain ⟨yn, yc, yL, yr⟩ := me
  obtain ⟨⟨hx, hb, hml, hown, hts, hK, hB⟩, rfl, rfl, rfl, rfl, rfl⟩ := hX
  intro H locs ls hR hS hL
  exact lv_ifnonnull hx hb hd ht (k H locs ls hR hS hL)
theorem z_ifnonnullN (hX : z_is X l me rm) {off : Int} (hd : decode me.2.1 pc = .ok (.ifnonnull off, 3)) (k : z_W X (pc + 3) lv st P nx u v) : z_W X pc lv (.null :: st) P nx u v := by
  obtain ⟨p, l, e, R, s, m, args, below, meth, c, cc, nL, own, D, cy, b, B, Q⟩ := X
  obtain ⟨yn, yc, yL, yr⟩ := me
  obtain ⟨⟨hx, hb, hml, hown, hts, hK, hB⟩, rfl, rfl, rfl, rfl, rfl⟩ := hX
  intro H locs ls hR hS hL
  exact lv_ifnonnullN hx hb hd (k H locs ls hR hS hL)
theorem z_tabIn (hX : z_is X l me rm) {dflt lo hi : Int} {offs : Array Int} {len : Nat} {x : Int32} {off : Int} (tgt : Nat) (hd : decode me.2.1 pc = .ok (.tableswitch dflt lo hi offs, len)) (h1 : ¬ x.toInt < lo) (h2 : ¬ hi < x.toInt) (ho : offs[(x.toInt - lo).toNat]? = some off) (ht : (pc : Int) + off = (tgt : Int)) (k : z_W X tgt lv st P nx u v) : z_W X pc lv (.int x :: st) P nx u v := by
  obtain ⟨p, l, e, R, s, m, args, below, meth, c, cc, nL, own, D, cy, b, B, Q⟩ := X
  obtain ⟨yn, yc, yL, yr⟩ := me
  obtain ⟨⟨hx, hb, hml, hown, hts, hK, hB⟩, rfl, rfl, rfl, rfl, rfl⟩ := hX
  intro H locs ls hR hS hL
  exact lv_tableIn hx hb hd h1 h2 ho ht (k H locs ls hR hS hL)
theorem z_tabOut (hX : z_is X l me rm) {dflt lo hi : Int} {offs : Array Int} {len : Nat} {x : Int32} (tgt : Nat) (hd : decode me.2.1 pc = .ok (.tableswitch dflt lo hi offs, len)) (h : x.toInt < lo ∨ hi < x.toInt) (ht : (pc : Int) + dflt = (tgt : Int)) (k : z_W X tgt lv st P nx u v) : z_W X pc lv (.int x :: st) P nx u v := by
  obtain ⟨p, l, e, R, s, m, args, below, meth, c, cc, nL, own, D, cy, b, B, Q⟩ := X
  obtain ⟨yn, yc, yL, yr⟩ := me
  obtain ⟨⟨hx, hb, hml, hown, hts, hK, hB⟩, rfl, rfl, rfl, rfl, rfl⟩ := hX
  intro H locs ls hR hS hL
  exact lv_tableOut hx hb hd h ht (k H locs ls hR hS hL)
end ZR
