/-! sets of roads as bits -/
theorem fa_and (a b : Nat) : nI a &&& nI b = nI (a &&& b) := by
  apply Int32.toBitVec_inj.1
  show BitVec.ofNat 32 a &&& BitVec.ofNat 32 b = BitVec.ofNat 32 (a &&& b)
  apply BitVec.eq_of_getLsbD_eq
  intro i hi
  simp [hi]
theorem fa_or (a b : Nat) : nI a ||| nI b = nI (a ||| b) := by
  apply Int32.toBitVec_inj.1
  show BitVec.ofNat 32 a ||| BitVec.ofNat 32 b = BitVec.ofNat 32 (a ||| b)
  apply BitVec.eq_of_getLsbD_eq
  intro i hi
  simp [hi]
/-- the roads of a that aren't in b -/
def zsd (a b : Nat) : Nat := a ^^^ (a &&& b)
theorem zsd_t (a b i : Nat) : (zsd a b).testBit i = (a.testBit i && !b.testBit i) := by
  unfold zsd
  rw [Nat.testBit_xor, Nat.testBit_and]
  cases a.testBit i <;> cases b.testBit i <;> rfl
theorem fa_sd (a b : Nat) : nI a &&& (nI b ^^^ (-1)) = nI (zsd a b) := by
  apply Int32.toBitVec_inj.1
  show BitVec.ofNat 32 a &&& (BitVec.ofNat 32 b ^^^ BitVec.allOnes 32) = BitVec.ofNat 32 (zsd a b)
  rw [BitVec.xor_allOnes]
  apply BitVec.eq_of_getLsbD_eq
  intro i hi
  rw [BitVec.getLsbD_and, BitVec.getLsbD_not, BitVec.getLsbD_ofNat, BitVec.getLsbD_ofNat, BitVec.getLsbD_ofNat, zsd_t]
  simp [hi]
theorem s_l : ∀ n, n < 32 → ((nI n &&& 31).toBitVec.smod 32).toNat = n := by decide +kernel
theorem sh1 {r : Nat} (h : r < 30) : (1 : Int32) <<< (nI r &&& 31) = nI (2 ^ r) := by
  have := pk_shlN (n := 1) (nI r &&& 31) r (s_l r (by omega)) (by rw [Nat.one_mul]; exact Nat.pow_lt_pow_right (by decide) (by omega))
  rw [Nat.one_mul] at this
  exact this
theorem hasT {m k : Nat} (hm : m < 2 ^ 31) (hk : k < 32) : (nI m >>> (nI k &&& 31)) &&& 1 = 1 ↔ m.testBit k = true := by
  rw [pk_shrN hm (nI k &&& 31) k (s_l k hk), show (1 : Int32) = nI 1 from rfl, fa_and, Nat.and_one_is_mod, Nat.testBit_eq_decide_div_mod_eq, decide_eq_true_eq]
  have h2 : m / 2 ^ k % 2 < 2 := Nat.mod_lt _ (by decide)
  exact nI_eq (by omega) (by decide)
/-- the set of those below n with p -/
def zbt (p : Nat → Bool) : Nat → Nat
  | 0 => 0
  | n + 1 => zbt p n ||| (if p n then 2 ^ n else 0)
theorem zbt_t (p : Nat → Bool) : ∀ n i, (zbt p n).testBit i = (decide (i < n) && p i)
  | 0, i => by simp [zbt]
  | n + 1, i => by
    unfold zbt
    rw [Nat.testBit_or, zbt_t p n i]
    by_cases e : i = n
    · subst e
      cases h : p i <;> simp [h, Nat.testBit_two_pow_self]
    · have e2 : (if p n then 2 ^ n else 0 : Nat).testBit i = false := by
        split
        · rw [Nat.testBit_two_pow]; simp; omega
        · simp
      rw [e2, Bool.or_false]
      congr 1
      exact decide_eq_decide.mpr (by omega)
theorem zbt_lt (p : Nat → Bool) (n : Nat) : zbt p n < 2 ^ n := by
  induction n with
  | zero => simp [zbt]
  | succ n ih =>
    unfold zbt
    refine Nat.or_lt_two_pow (Nat.lt_of_lt_of_le ih (Nat.pow_le_pow_right (by decide) (by omega))) ?_
    split
    · exact Nat.pow_lt_pow_right (by decide) (by omega)
    · exact Nat.two_pow_pos _
theorem zbt_lt12 (p : Nat → Bool) {n : Nat} (h : n ≤ 12) : zbt p n < 4096 := Nat.lt_of_lt_of_le (zbt_lt p n) (Nat.pow_le_pow_right (n := 2) (by decide) h)
def zpop (m : Nat) : Nat := zC (fun i => m.testBit i) 12
theorem z4096 {Q : Nat → Prop} (h : ∀ i, i < 64 → ∀ j, j < 64 → Q (64 * i + j)) : ∀ m, m < 4096 → Q m := fun m hm => by
  have := h (m / 64) (by omega) (m % 64) (by omega)
  rw [show 64 * (m / 64) + m % 64 = m by omega] at this
  exact this
theorem zpop_k : ∀ m, m < 4096 → m ≠ 0 → zpop (m &&& (m - 1)) + 1 = zpop m ∧ m &&& (m - 1) < 4096 := z4096 (by decide +kernel)
theorem zpop_0 : zpop 0 = 0 := by decide +kernel
theorem zpop_le (m : Nat) : zpop m ≤ 12 := zC_le _ _
theorem zpop_1 : ∀ m, m < 4096 → (m &&& (m - 1) = 0 ↔ zpop m ≤ 1) := z4096 (by decide +kernel)
theorem zpop_z : ∀ m, m < 4096 → (zpop m = 0 ↔ m = 0) := z4096 (by decide +kernel)
def S8_has : z_PT := fun as P nx K => ∃ (m k : Nat), as = [.int (nI m), .int (nI k)] ∧ (m < 2 ^ 31) ∧ (k < 32) ∧ K (some (.int (zb (m.testBit k)))) P nx
set_option maxRecDepth 4000 in
theorem sp8_has (l : Launch) : z_Sp l M8_has rM8_has S8_has := by
  refine z_enter (by decide) (fun as P nx K h => ?_) (fun X K as P nx hX hE hin0 hS => ?_)
  · obtain ⟨m, k, rfl, -⟩ := h
    exact Nat.le_of_ble_eq_true rfl
  obtain ⟨m, k, rfl, p1, p2, hK⟩ := hS
  show z_W X 0 [some (.int (nI m)), some (.int (nI k))] [] P nx 0 0
  refine z_iload_n hX d8_has_0 rfl ?_
  refine z_iload_n hX d8_has_1 rfl ?_
  refine z_ishr hX d8_has_2 ?_
  refine z_iconst hX (1) d8_has_3 (by decide) ?_
  refine z_iand hX d8_has_4 ?_
  refine z_iconst hX (1) d8_has_5 (by decide) ?_
  refine z_icmp_ne hX 13 d8_has_6 (by decide) (fun h6 => ?_) (fun h6 => ?_)
  · skip
    rw [hasT p1 p2] at h6
    refine z_iconst hX (0) d8_has_13 (by decide) ?_
    refine z_zret hX hE (by decide) (by decide) (by decide) d8_has_14 ?_
    first | exact zK1 hK h6 | exact zK0 hK (Bool.not_eq_true _ ▸ h6) | exact zK0 hK (eq_false_of_ne_true h6)
  · skip
    rw [hasT p1 p2] at h6
    refine z_iconst hX (1) d8_has_9 (by decide) ?_
    refine z_goto hX 14 d8_has_10 (by decide) ?_
    refine z_zret hX hE (by decide) (by decide) (by decide) d8_has_14 ?_
    first | exact zK1 hK h6 | exact zK0 hK (Bool.not_eq_true _ ▸ h6) | exact zK0 hK (eq_false_of_ne_true h6)
def S8_sizeOf : z_PT := fun as P nx K => ∃ (m : Nat), as = [.int (nI m)] ∧ (m < 4096) ∧ K (some (.int (nI (zpop m)))) P nx
set_option maxRecDepth 4000 in
theorem sp8_sizeOf (l : Launch) : z_Sp l M8_sizeOf rM8_sizeOf S8_sizeOf := by
  refine z_enter (by decide) (fun as P nx K h => ?_) (fun X K as P nx hX hE hin0 hS => ?_)
  · obtain ⟨m, rfl, -⟩ := h
    exact Nat.le_of_ble_eq_true rfl
  obtain ⟨m, rfl, p1, hK⟩ := hS
  refine z_pad 2 ?_
  show z_W X 0 [some (.int (nI m)), none, none] [] P nx 0 0
  have loop : ∀ (k c v : Nat), v < 4096 → zpop v = k → c + k = zpop m → z_W X 4 [some (.int (nI m)), some (.int (nI c)), some (.int (nI v))] [] P nx 0 0 := by
    intro k
    induction k with
    | zero =>
      intro c v hv h0 hc
      have e : v = 0 := (zpop_z v hv).mp h0
      subst e
      refine z_iload_n hX d8_sizeOf_4 rfl ?_
      refine z_if_eq hX 20 d8_sizeOf_5 (by decide) (fun h5 => ?_) (fun h5 => ?_)
      rotate_left
      · exact absurd rfl h5
      refine z_iload_n hX d8_sizeOf_20 rfl ?_
      refine z_iret hX hE (by decide) (by decide) d8_sizeOf_21 ?_
      rw [show c = zpop m by omega]
      exact hK
    | succ k ih =>
      intro c v hv h0 hc
      have hv0 : v ≠ 0 := fun e => by rw [e, zpop_0] at h0; omega
      obtain ⟨g1, g2⟩ := zpop_k v hv hv0
      have ev : nI v &&& (nI v - 1) = nI (v &&& (v - 1)) := by
        rw [show nI v - 1 = nI (v - 1) from by rw [show v = (v - 1) + 1 by omega, nI_pred]; rfl, fa_and]
      refine z_iload_n hX d8_sizeOf_4 rfl ?_
      refine z_if_eq hX 20 d8_sizeOf_5 (by decide) (fun h5 => ?_) (fun h5 => ?_)
      · exact absurd h5 (nI_ne0 (by omega) (by omega))
      refine z_iinc hX (1) (by decide) rfl (by decide) d8_sizeOf_8 ?_
      dsimp only [z_p1, z_p2, z_k, List.headD, List.tail]
      refine z_iload_n hX d8_sizeOf_11 rfl ?_
      refine z_iload_n hX d8_sizeOf_12 rfl ?_
      refine z_iconst hX (1) d8_sizeOf_13 (by decide) ?_
      refine z_isub hX d8_sizeOf_14 ?_
      refine z_iand hX d8_sizeOf_15 ?_
      refine z_istore_n hX 2 rfl (by decide) d8_sizeOf_16 ?_
      dsimp only [z_p1, z_p2, z_k, List.headD, List.tail]
      refine z_goto hX 4 d8_sizeOf_17 (by decide) ?_
      rw [ev, nI_1]
      exact ih (c + 1) _ g2 (by omega) (by omega)
  refine z_iconst hX (0) d8_sizeOf_0 (by decide) ?_
  refine z_istore_n hX 1 rfl (by decide) d8_sizeOf_1 ?_
  dsimp only [z_p1, z_p2, z_k, List.headD, List.tail]
  refine z_iload_n hX d8_sizeOf_2 rfl ?_
  refine z_istore_n hX 2 rfl (by decide) d8_sizeOf_3 ?_
  dsimp only [z_p1, z_p2, z_k, List.headD, List.tail]
  exact loop _ 0 m p1 rfl (by omega)
abbrev ush (x y : Int32) : Int32 := (x.toUInt32 >>> (y.toUInt32 &&& Int32.toUInt32 31)).toInt32
def bcA (x : Int32) : Int32 := x - (ush x 1 &&& 1431655765)
def bcB (x : Int32) : Int32 := (x &&& 858993459) + (ush x 2 &&& 858993459)
def bcC (x : Int32) : Int32 := (x + ush x 4) &&& 252645135
def bcD (x : Int32) : Int32 := x + ush x 8
def bcE (x : Int32) : Int32 := x + ush x 16
theorem bc_ok : ∀ m, m < 4096 → bcE (bcD (bcC (bcB (bcA (nI m))))) &&& 63 = nI (zpop m) := z4096 (by decide +kernel)
def SI_bitCount : z_PT := fun as P nx K => ∃ (m : Nat), as = [.int (nI m)] ∧ (m < 4096) ∧ K (some (.int (nI (zpop m)))) P nx
set_option maxRecDepth 4000 in
theorem spI_bitCount (l : Launch) : z_Sp l MI_bitCount rMI_bitCount SI_bitCount := by
  refine z_enter (by decide) (fun as P nx K h => ?_) (fun X K as P nx hX hE hin0 hS => ?_)
  · obtain ⟨m, rfl, -⟩ := h
    exact Nat.le_of_ble_eq_true rfl
  obtain ⟨m, rfl, p1, hK⟩ := hS
  show z_W X 0 [some (.int (nI m))] [] P nx 0 0
  refine z_iload_n hX dI_bitCount_0 rfl ?_
  refine z_iload_n hX dI_bitCount_1 rfl ?_
  refine z_iconst hX (1) dI_bitCount_2 (by decide) ?_
  refine z_iushr hX dI_bitCount_3 ?_
  refine z_ldcw hX (1431655765) dI_bitCount_4 lk_I_265 ?_
  refine z_iand hX dI_bitCount_7 ?_
  refine z_isub hX dI_bitCount_8 ?_
  refine z_istore_n hX 0 rfl (by decide) dI_bitCount_9 ?_
  dsimp only [z_p1, z_p2, z_k, List.headD, List.tail]
  refine z_iload_n hX dI_bitCount_10 rfl ?_
  refine z_ldcw hX (858993459) dI_bitCount_11 lk_I_266 ?_
  refine z_iand hX dI_bitCount_14 ?_
  refine z_iload_n hX dI_bitCount_15 rfl ?_
  refine z_iconst hX (2) dI_bitCount_16 (by decide) ?_
  refine z_iushr hX dI_bitCount_17 ?_
  refine z_ldcw hX (858993459) dI_bitCount_18 lk_I_266 ?_
  refine z_iand hX dI_bitCount_21 ?_
  refine z_iadd hX dI_bitCount_22 ?_
  refine z_istore_n hX 0 rfl (by decide) dI_bitCount_23 ?_
  dsimp only [z_p1, z_p2, z_k, List.headD, List.tail]
  refine z_iload_n hX dI_bitCount_24 rfl ?_
  refine z_iload_n hX dI_bitCount_25 rfl ?_
  refine z_iconst hX (4) dI_bitCount_26 (by decide) ?_
  refine z_iushr hX dI_bitCount_27 ?_
  refine z_iadd hX dI_bitCount_28 ?_
  refine z_ldcw hX (252645135) dI_bitCount_29 lk_I_267 ?_
  refine z_iand hX dI_bitCount_32 ?_
  refine z_istore_n hX 0 rfl (by decide) dI_bitCount_33 ?_
  dsimp only [z_p1, z_p2, z_k, List.headD, List.tail]
  refine z_iload_n hX dI_bitCount_34 rfl ?_
  refine z_iload_n hX dI_bitCount_35 rfl ?_
  refine z_bipush hX (8) dI_bitCount_36 (by decide) ?_
  refine z_iushr hX dI_bitCount_38 ?_
  refine z_iadd hX dI_bitCount_39 ?_
  refine z_istore_n hX 0 rfl (by decide) dI_bitCount_40 ?_
  dsimp only [z_p1, z_p2, z_k, List.headD, List.tail]
  refine z_iload_n hX dI_bitCount_41 rfl ?_
  refine z_iload_n hX dI_bitCount_42 rfl ?_
  refine z_bipush hX (16) dI_bitCount_43 (by decide) ?_
  refine z_iushr hX dI_bitCount_45 ?_
  refine z_iadd hX dI_bitCount_46 ?_
  refine z_istore_n hX 0 rfl (by decide) dI_bitCount_47 ?_
  dsimp only [z_p1, z_p2, z_k, List.headD, List.tail]
  refine z_iload_n hX dI_bitCount_48 rfl ?_
  refine z_bipush hX (63) dI_bitCount_49 (by decide) ?_
  refine z_iand hX dI_bitCount_51 ?_
  refine z_iret hX hE (by decide) (by decide) dI_bitCount_52 ?_
  exact zKe hK (congrArg (fun z => some (Value.int z)) (bc_ok m p1))
def nz0 (x : Int32) : Int32 := (x ^^^ -1) &&& (x - 1)
def nz1 (q : Int32 × Int32) (b k : Int32) : Int32 × Int32 := if q.2 ≤ b then q else (q.1 + k, ush q.2 k)
def nz2 (x : Int32) : Int32 × Int32 := nz1 (nz1 (nz1 (nz1 (1, x) 65536 16) 256 8) 16 4) 4 2
def ntz (x : Int32) : Int32 := if 0 < nz0 x then (nz2 (nz0 x)).1 + ush (nz2 (nz0 x)).2 1 else nz0 x &&& 32
theorem nz1_t {i x b k : Int32} (h : x ≤ b) : nz1 (i, x) b k = (i, x) := if_pos h
theorem nz1_f {i x b k : Int32} (h : ¬ x ≤ b) : nz1 (i, x) b k = (i + k, ush x k) := if_neg h
theorem ntz_ok : ∀ r, r < 12 → ntz (nI (2 ^ r)) = nI r := by decide +kernel
def SI_numberOfTrailingZeros : z_PT := fun as P nx K => ∃ (r : Nat), as = [.int (nI (2 ^ r))] ∧ (r < 12) ∧ K (some (.int (nI r))) P nx
set_option maxRecDepth 4000 in
theorem spI_numberOfTrailingZeros (l : Launch) : z_Sp l MI_numberOfTrailingZeros rMI_numberOfTrailingZeros SI_numberOfTrailingZeros := by
  refine z_enter (by decide) (fun as P nx K h => ?_) (fun X K as P nx hX hE hin0 hS => ?_)
  · obtain ⟨r, rfl, -⟩ := h
    exact Nat.le_of_ble_eq_true rfl
  obtain ⟨r, rfl, p1, hK⟩ := hS
  refine z_pad 1 ?_
  show z_W X 0 [some (.int (nI (2 ^ r))), none] [] P nx 0 0
  have e := ntz_ok r p1
  obtain ⟨x0, hx0⟩ : ∃ z, z = nI (2 ^ r) := ⟨_, rfl⟩
  rw [← hx0] at e ⊢
  refine z_iload_n hX dI_numberOfTrailingZeros_0 rfl ?_
  refine z_iconst hX (-1) dI_numberOfTrailingZeros_1 (by decide) ?_
  refine z_ixor hX dI_numberOfTrailingZeros_2 ?_
  refine z_iload_n hX dI_numberOfTrailingZeros_3 rfl ?_
  refine z_iconst hX (1) dI_numberOfTrailingZeros_4 (by decide) ?_
  refine z_isub hX dI_numberOfTrailingZeros_5 ?_
  refine z_iand hX dI_numberOfTrailingZeros_6 ?_
  refine z_istore_n hX 0 rfl (by decide) dI_numberOfTrailingZeros_7 ?_
  dsimp only [z_p1, z_p2, z_k, List.headD, List.tail]
  obtain ⟨x1, hx1⟩ : ∃ z, z = nz0 x0 := ⟨_, rfl⟩
  have e : (if 0 < x1 then (nz2 x1).1 + ush (nz2 x1).2 1 else x1 &&& 32) = nI r := by rw [hx1]; exact e
  show z_W X 8 [some (.int (nz0 x0)), none] [] P nx 0 0
  rw [← hx1]
  refine z_iload_n hX dI_numberOfTrailingZeros_8 rfl ?_
  refine z_if_gt hX 17 dI_numberOfTrailingZeros_9 (by decide) (fun h9 => ?_) (fun h9 => ?_)
  · skip
    rw [if_pos h9] at e
    refine z_iconst hX (1) dI_numberOfTrailingZeros_17 (by decide) ?_
    refine z_istore_n hX 1 rfl (by decide) dI_numberOfTrailingZeros_18 ?_
    dsimp only [z_p1, z_p2, z_k, List.headD, List.tail]
    have e : (nz1 (nz1 (nz1 (nz1 (1, x1) 65536 16) 256 8) 16 4) 4 2).1 + ush (nz1 (nz1 (nz1 (nz1 (1, x1) 65536 16) 256 8) 16 4) 4 2).2 1 = nI r := e
    refine z_iload_n hX dI_numberOfTrailingZeros_19 rfl ?_
    refine z_ldcw hX (65536) dI_numberOfTrailingZeros_20 lk_I_264 ?_
    refine z_icmp_le hX 34 dI_numberOfTrailingZeros_23 (by decide) (fun h23 => ?_) (fun h23 => ?_)
    · skip
      rw [nz1_t h23] at e
      refine z_iload_n hX dI_numberOfTrailingZeros_34 rfl ?_
      refine z_sipush hX (256) dI_numberOfTrailingZeros_35 (by decide) ?_
      refine z_icmp_le hX 49 dI_numberOfTrailingZeros_38 (by decide) (fun h38 => ?_) (fun h38 => ?_)
      · skip
        rw [nz1_t h38] at e
        refine z_iload_n hX dI_numberOfTrailingZeros_49 rfl ?_
        refine z_bipush hX (16) dI_numberOfTrailingZeros_50 (by decide) ?_
        refine z_icmp_le hX 62 dI_numberOfTrailingZeros_52 (by decide) (fun h52 => ?_) (fun h52 => ?_)
        · skip
          rw [nz1_t h52] at e
          refine z_iload_n hX dI_numberOfTrailingZeros_62 rfl ?_
          refine z_iconst hX (4) dI_numberOfTrailingZeros_63 (by decide) ?_
          refine z_icmp_le hX 74 dI_numberOfTrailingZeros_64 (by decide) (fun h64 => ?_) (fun h64 => ?_)
          · skip
            rw [nz1_t h64] at e
            refine z_iload_n hX dI_numberOfTrailingZeros_74 rfl ?_
            refine z_iload_n hX dI_numberOfTrailingZeros_75 rfl ?_
            refine z_iconst hX (1) dI_numberOfTrailingZeros_76 (by decide) ?_
            refine z_iushr hX dI_numberOfTrailingZeros_77 ?_
            refine z_iadd hX dI_numberOfTrailingZeros_78 ?_
            refine z_iret hX hE (by decide) (by decide) dI_numberOfTrailingZeros_79 ?_
            refine zKe hK ?_
            rw [← e]
          · skip
            rw [nz1_f h64] at e
            refine z_iinc hX (2) (by decide) rfl (by decide) dI_numberOfTrailingZeros_67 ?_
            dsimp only [z_p1, z_p2, z_k, List.headD, List.tail]
            refine z_iload_n hX dI_numberOfTrailingZeros_70 rfl ?_
            refine z_iconst hX (2) dI_numberOfTrailingZeros_71 (by decide) ?_
            refine z_iushr hX dI_numberOfTrailingZeros_72 ?_
            refine z_istore_n hX 0 rfl (by decide) dI_numberOfTrailingZeros_73 ?_
            dsimp only [z_p1, z_p2, z_k, List.headD, List.tail]
            refine z_iload_n hX dI_numberOfTrailingZeros_74 rfl ?_
            refine z_iload_n hX dI_numberOfTrailingZeros_75 rfl ?_
            refine z_iconst hX (1) dI_numberOfTrailingZeros_76 (by decide) ?_
            refine z_iushr hX dI_numberOfTrailingZeros_77 ?_
            refine z_iadd hX dI_numberOfTrailingZeros_78 ?_
            refine z_iret hX hE (by decide) (by decide) dI_numberOfTrailingZeros_79 ?_
            refine zKe hK ?_
            rw [← e]
        · skip
          rw [nz1_f h52] at e
          refine z_iinc hX (4) (by decide) rfl (by decide) dI_numberOfTrailingZeros_55 ?_
          dsimp only [z_p1, z_p2, z_k, List.headD, List.tail]
          refine z_iload_n hX dI_numberOfTrailingZeros_58 rfl ?_
          refine z_iconst hX (4) dI_numberOfTrailingZeros_59 (by decide) ?_
          refine z_iushr hX dI_numberOfTrailingZeros_60 ?_
          refine z_istore_n hX 0 rfl (by decide) dI_numberOfTrailingZeros_61 ?_
          dsimp only [z_p1, z_p2, z_k, List.headD, List.tail]
          refine z_iload_n hX dI_numberOfTrailingZeros_62 rfl ?_
          refine z_iconst hX (4) dI_numberOfTrailingZeros_63 (by decide) ?_
          refine z_icmp_le hX 74 dI_numberOfTrailingZeros_64 (by decide) (fun h64 => ?_) (fun h64 => ?_)
          · skip
            rw [nz1_t h64] at e
            refine z_iload_n hX dI_numberOfTrailingZeros_74 rfl ?_
            refine z_iload_n hX dI_numberOfTrailingZeros_75 rfl ?_
            refine z_iconst hX (1) dI_numberOfTrailingZeros_76 (by decide) ?_
            refine z_iushr hX dI_numberOfTrailingZeros_77 ?_
            refine z_iadd hX dI_numberOfTrailingZeros_78 ?_
            refine z_iret hX hE (by decide) (by decide) dI_numberOfTrailingZeros_79 ?_
            refine zKe hK ?_
            rw [← e]
          · skip
            rw [nz1_f h64] at e
            refine z_iinc hX (2) (by decide) rfl (by decide) dI_numberOfTrailingZeros_67 ?_
            dsimp only [z_p1, z_p2, z_k, List.headD, List.tail]
            refine z_iload_n hX dI_numberOfTrailingZeros_70 rfl ?_
            refine z_iconst hX (2) dI_numberOfTrailingZeros_71 (by decide) ?_
            refine z_iushr hX dI_numberOfTrailingZeros_72 ?_
            refine z_istore_n hX 0 rfl (by decide) dI_numberOfTrailingZeros_73 ?_
            dsimp only [z_p1, z_p2, z_k, List.headD, List.tail]
            refine z_iload_n hX dI_numberOfTrailingZeros_74 rfl ?_
            refine z_iload_n hX dI_numberOfTrailingZeros_75 rfl ?_
            refine z_iconst hX (1) dI_numberOfTrailingZeros_76 (by decide) ?_
            refine z_iushr hX dI_numberOfTrailingZeros_77 ?_
            refine z_iadd hX dI_numberOfTrailingZeros_78 ?_
            refine z_iret hX hE (by decide) (by decide) dI_numberOfTrailingZeros_79 ?_
            refine zKe hK ?_
            rw [← e]
      · skip
        rw [nz1_f h38] at e
        refine z_iinc hX (8) (by decide) rfl (by decide) dI_numberOfTrailingZeros_41 ?_
        dsimp only [z_p1, z_p2, z_k, List.headD, List.tail]
        refine z_iload_n hX dI_numberOfTrailingZeros_44 rfl ?_
        refine z_bipush hX (8) dI_numberOfTrailingZeros_45 (by decide) ?_
        refine z_iushr hX dI_numberOfTrailingZeros_47 ?_
        refine z_istore_n hX 0 rfl (by decide) dI_numberOfTrailingZeros_48 ?_
        dsimp only [z_p1, z_p2, z_k, List.headD, List.tail]
        refine z_iload_n hX dI_numberOfTrailingZeros_49 rfl ?_
        refine z_bipush hX (16) dI_numberOfTrailingZeros_50 (by decide) ?_
        refine z_icmp_le hX 62 dI_numberOfTrailingZeros_52 (by decide) (fun h52 => ?_) (fun h52 => ?_)
        · skip
          rw [nz1_t h52] at e
          refine z_iload_n hX dI_numberOfTrailingZeros_62 rfl ?_
          refine z_iconst hX (4) dI_numberOfTrailingZeros_63 (by decide) ?_
          refine z_icmp_le hX 74 dI_numberOfTrailingZeros_64 (by decide) (fun h64 => ?_) (fun h64 => ?_)
          · skip
            rw [nz1_t h64] at e
            refine z_iload_n hX dI_numberOfTrailingZeros_74 rfl ?_
            refine z_iload_n hX dI_numberOfTrailingZeros_75 rfl ?_
            refine z_iconst hX (1) dI_numberOfTrailingZeros_76 (by decide) ?_
            refine z_iushr hX dI_numberOfTrailingZeros_77 ?_
            refine z_iadd hX dI_numberOfTrailingZeros_78 ?_
            refine z_iret hX hE (by decide) (by decide) dI_numberOfTrailingZeros_79 ?_
            refine zKe hK ?_
            rw [← e]
          · skip
            rw [nz1_f h64] at e
            refine z_iinc hX (2) (by decide) rfl (by decide) dI_numberOfTrailingZeros_67 ?_
            dsimp only [z_p1, z_p2, z_k, List.headD, List.tail]
            refine z_iload_n hX dI_numberOfTrailingZeros_70 rfl ?_
            refine z_iconst hX (2) dI_numberOfTrailingZeros_71 (by decide) ?_
            refine z_iushr hX dI_numberOfTrailingZeros_72 ?_
            refine z_istore_n hX 0 rfl (by decide) dI_numberOfTrailingZeros_73 ?_
            dsimp only [z_p1, z_p2, z_k, List.headD, List.tail]
            refine z_iload_n hX dI_numberOfTrailingZeros_74 rfl ?_
            refine z_iload_n hX dI_numberOfTrailingZeros_75 rfl ?_
            refine z_iconst hX (1) dI_numberOfTrailingZeros_76 (by decide) ?_
            refine z_iushr hX dI_numberOfTrailingZeros_77 ?_
            refine z_iadd hX dI_numberOfTrailingZeros_78 ?_
            refine z_iret hX hE (by decide) (by decide) dI_numberOfTrailingZeros_79 ?_
            refine zKe hK ?_
            rw [← e]
        · skip
          rw [nz1_f h52] at e
          refine z_iinc hX (4) (by decide) rfl (by decide) dI_numberOfTrailingZeros_55 ?_
          dsimp only [z_p1, z_p2, z_k, List.headD, List.tail]
          refine z_iload_n hX dI_numberOfTrailingZeros_58 rfl ?_
          refine z_iconst hX (4) dI_numberOfTrailingZeros_59 (by decide) ?_
          refine z_iushr hX dI_numberOfTrailingZeros_60 ?_
          refine z_istore_n hX 0 rfl (by decide) dI_numberOfTrailingZeros_61 ?_
          dsimp only [z_p1, z_p2, z_k, List.headD, List.tail]
          refine z_iload_n hX dI_numberOfTrailingZeros_62 rfl ?_
          refine z_iconst hX (4) dI_numberOfTrailingZeros_63 (by decide) ?_
          refine z_icmp_le hX 74 dI_numberOfTrailingZeros_64 (by decide) (fun h64 => ?_) (fun h64 => ?_)
          · skip
            rw [nz1_t h64] at e
            refine z_iload_n hX dI_numberOfTrailingZeros_74 rfl ?_
            refine z_iload_n hX dI_numberOfTrailingZeros_75 rfl ?_
            refine z_iconst hX (1) dI_numberOfTrailingZeros_76 (by decide) ?_
            refine z_iushr hX dI_numberOfTrailingZeros_77 ?_
            refine z_iadd hX dI_numberOfTrailingZeros_78 ?_
            refine z_iret hX hE (by decide) (by decide) dI_numberOfTrailingZeros_79 ?_
            refine zKe hK ?_
            rw [← e]
          · skip
            rw [nz1_f h64] at e
            refine z_iinc hX (2) (by decide) rfl (by decide) dI_numberOfTrailingZeros_67 ?_
            dsimp only [z_p1, z_p2, z_k, List.headD, List.tail]
            refine z_iload_n hX dI_numberOfTrailingZeros_70 rfl ?_
            refine z_iconst hX (2) dI_numberOfTrailingZeros_71 (by decide) ?_
            refine z_iushr hX dI_numberOfTrailingZeros_72 ?_
            refine z_istore_n hX 0 rfl (by decide) dI_numberOfTrailingZeros_73 ?_
            dsimp only [z_p1, z_p2, z_k, List.headD, List.tail]
            refine z_iload_n hX dI_numberOfTrailingZeros_74 rfl ?_
            refine z_iload_n hX dI_numberOfTrailingZeros_75 rfl ?_
            refine z_iconst hX (1) dI_numberOfTrailingZeros_76 (by decide) ?_
            refine z_iushr hX dI_numberOfTrailingZeros_77 ?_
            refine z_iadd hX dI_numberOfTrailingZeros_78 ?_
            refine z_iret hX hE (by decide) (by decide) dI_numberOfTrailingZeros_79 ?_
            refine zKe hK ?_
            rw [← e]
    · skip
      rw [nz1_f h23] at e
      refine z_iinc hX (16) (by decide) rfl (by decide) dI_numberOfTrailingZeros_26 ?_
      dsimp only [z_p1, z_p2, z_k, List.headD, List.tail]
      refine z_iload_n hX dI_numberOfTrailingZeros_29 rfl ?_
      refine z_bipush hX (16) dI_numberOfTrailingZeros_30 (by decide) ?_
      refine z_iushr hX dI_numberOfTrailingZeros_32 ?_
      refine z_istore_n hX 0 rfl (by decide) dI_numberOfTrailingZeros_33 ?_
      dsimp only [z_p1, z_p2, z_k, List.headD, List.tail]
      refine z_iload_n hX dI_numberOfTrailingZeros_34 rfl ?_
      refine z_sipush hX (256) dI_numberOfTrailingZeros_35 (by decide) ?_
      refine z_icmp_le hX 49 dI_numberOfTrailingZeros_38 (by decide) (fun h38 => ?_) (fun h38 => ?_)
      · skip
        rw [nz1_t h38] at e
        refine z_iload_n hX dI_numberOfTrailingZeros_49 rfl ?_
        refine z_bipush hX (16) dI_numberOfTrailingZeros_50 (by decide) ?_
        refine z_icmp_le hX 62 dI_numberOfTrailingZeros_52 (by decide) (fun h52 => ?_) (fun h52 => ?_)
        · skip
          rw [nz1_t h52] at e
          refine z_iload_n hX dI_numberOfTrailingZeros_62 rfl ?_
          refine z_iconst hX (4) dI_numberOfTrailingZeros_63 (by decide) ?_
          refine z_icmp_le hX 74 dI_numberOfTrailingZeros_64 (by decide) (fun h64 => ?_) (fun h64 => ?_)
          · skip
            rw [nz1_t h64] at e
            refine z_iload_n hX dI_numberOfTrailingZeros_74 rfl ?_
            refine z_iload_n hX dI_numberOfTrailingZeros_75 rfl ?_
            refine z_iconst hX (1) dI_numberOfTrailingZeros_76 (by decide) ?_
            refine z_iushr hX dI_numberOfTrailingZeros_77 ?_
            refine z_iadd hX dI_numberOfTrailingZeros_78 ?_
            refine z_iret hX hE (by decide) (by decide) dI_numberOfTrailingZeros_79 ?_
            refine zKe hK ?_
            rw [← e]
          · skip
            rw [nz1_f h64] at e
            refine z_iinc hX (2) (by decide) rfl (by decide) dI_numberOfTrailingZeros_67 ?_
            dsimp only [z_p1, z_p2, z_k, List.headD, List.tail]
            refine z_iload_n hX dI_numberOfTrailingZeros_70 rfl ?_
            refine z_iconst hX (2) dI_numberOfTrailingZeros_71 (by decide) ?_
            refine z_iushr hX dI_numberOfTrailingZeros_72 ?_
            refine z_istore_n hX 0 rfl (by decide) dI_numberOfTrailingZeros_73 ?_
            dsimp only [z_p1, z_p2, z_k, List.headD, List.tail]
            refine z_iload_n hX dI_numberOfTrailingZeros_74 rfl ?_
            refine z_iload_n hX dI_numberOfTrailingZeros_75 rfl ?_
            refine z_iconst hX (1) dI_numberOfTrailingZeros_76 (by decide) ?_
            refine z_iushr hX dI_numberOfTrailingZeros_77 ?_
            refine z_iadd hX dI_numberOfTrailingZeros_78 ?_
            refine z_iret hX hE (by decide) (by decide) dI_numberOfTrailingZeros_79 ?_
            refine zKe hK ?_
            rw [← e]
        · skip
          rw [nz1_f h52] at e
          refine z_iinc hX (4) (by decide) rfl (by decide) dI_numberOfTrailingZeros_55 ?_
          dsimp only [z_p1, z_p2, z_k, List.headD, List.tail]
          refine z_iload_n hX dI_numberOfTrailingZeros_58 rfl ?_
          refine z_iconst hX (4) dI_numberOfTrailingZeros_59 (by decide) ?_
          refine z_iushr hX dI_numberOfTrailingZeros_60 ?_
          refine z_istore_n hX 0 rfl (by decide) dI_numberOfTrailingZeros_61 ?_
          dsimp only [z_p1, z_p2, z_k, List.headD, List.tail]
          refine z_iload_n hX dI_numberOfTrailingZeros_62 rfl ?_
          refine z_iconst hX (4) dI_numberOfTrailingZeros_63 (by decide) ?_
          refine z_icmp_le hX 74 dI_numberOfTrailingZeros_64 (by decide) (fun h64 => ?_) (fun h64 => ?_)
          · skip
            rw [nz1_t h64] at e
            refine z_iload_n hX dI_numberOfTrailingZeros_74 rfl ?_
            refine z_iload_n hX dI_numberOfTrailingZeros_75 rfl ?_
            refine z_iconst hX (1) dI_numberOfTrailingZeros_76 (by decide) ?_
            refine z_iushr hX dI_numberOfTrailingZeros_77 ?_
            refine z_iadd hX dI_numberOfTrailingZeros_78 ?_
            refine z_iret hX hE (by decide) (by decide) dI_numberOfTrailingZeros_79 ?_
            refine zKe hK ?_
            rw [← e]
          · skip
            rw [nz1_f h64] at e
            refine z_iinc hX (2) (by decide) rfl (by decide) dI_numberOfTrailingZeros_67 ?_
            dsimp only [z_p1, z_p2, z_k, List.headD, List.tail]
            refine z_iload_n hX dI_numberOfTrailingZeros_70 rfl ?_
            refine z_iconst hX (2) dI_numberOfTrailingZeros_71 (by decide) ?_
            refine z_iushr hX dI_numberOfTrailingZeros_72 ?_
            refine z_istore_n hX 0 rfl (by decide) dI_numberOfTrailingZeros_73 ?_
            dsimp only [z_p1, z_p2, z_k, List.headD, List.tail]
            refine z_iload_n hX dI_numberOfTrailingZeros_74 rfl ?_
            refine z_iload_n hX dI_numberOfTrailingZeros_75 rfl ?_
            refine z_iconst hX (1) dI_numberOfTrailingZeros_76 (by decide) ?_
            refine z_iushr hX dI_numberOfTrailingZeros_77 ?_
            refine z_iadd hX dI_numberOfTrailingZeros_78 ?_
            refine z_iret hX hE (by decide) (by decide) dI_numberOfTrailingZeros_79 ?_
            refine zKe hK ?_
            rw [← e]
      · skip
        rw [nz1_f h38] at e
        refine z_iinc hX (8) (by decide) rfl (by decide) dI_numberOfTrailingZeros_41 ?_
        dsimp only [z_p1, z_p2, z_k, List.headD, List.tail]
        refine z_iload_n hX dI_numberOfTrailingZeros_44 rfl ?_
        refine z_bipush hX (8) dI_numberOfTrailingZeros_45 (by decide) ?_
        refine z_iushr hX dI_numberOfTrailingZeros_47 ?_
        refine z_istore_n hX 0 rfl (by decide) dI_numberOfTrailingZeros_48 ?_
        dsimp only [z_p1, z_p2, z_k, List.headD, List.tail]
        refine z_iload_n hX dI_numberOfTrailingZeros_49 rfl ?_
        refine z_bipush hX (16) dI_numberOfTrailingZeros_50 (by decide) ?_
        refine z_icmp_le hX 62 dI_numberOfTrailingZeros_52 (by decide) (fun h52 => ?_) (fun h52 => ?_)
        · skip
          rw [nz1_t h52] at e
          refine z_iload_n hX dI_numberOfTrailingZeros_62 rfl ?_
          refine z_iconst hX (4) dI_numberOfTrailingZeros_63 (by decide) ?_
          refine z_icmp_le hX 74 dI_numberOfTrailingZeros_64 (by decide) (fun h64 => ?_) (fun h64 => ?_)
          · skip
            rw [nz1_t h64] at e
            refine z_iload_n hX dI_numberOfTrailingZeros_74 rfl ?_
            refine z_iload_n hX dI_numberOfTrailingZeros_75 rfl ?_
            refine z_iconst hX (1) dI_numberOfTrailingZeros_76 (by decide) ?_
            refine z_iushr hX dI_numberOfTrailingZeros_77 ?_
            refine z_iadd hX dI_numberOfTrailingZeros_78 ?_
            refine z_iret hX hE (by decide) (by decide) dI_numberOfTrailingZeros_79 ?_
            refine zKe hK ?_
            rw [← e]
          · skip
            rw [nz1_f h64] at e
            refine z_iinc hX (2) (by decide) rfl (by decide) dI_numberOfTrailingZeros_67 ?_
            dsimp only [z_p1, z_p2, z_k, List.headD, List.tail]
            refine z_iload_n hX dI_numberOfTrailingZeros_70 rfl ?_
            refine z_iconst hX (2) dI_numberOfTrailingZeros_71 (by decide) ?_
            refine z_iushr hX dI_numberOfTrailingZeros_72 ?_
            refine z_istore_n hX 0 rfl (by decide) dI_numberOfTrailingZeros_73 ?_
            dsimp only [z_p1, z_p2, z_k, List.headD, List.tail]
            refine z_iload_n hX dI_numberOfTrailingZeros_74 rfl ?_
            refine z_iload_n hX dI_numberOfTrailingZeros_75 rfl ?_
            refine z_iconst hX (1) dI_numberOfTrailingZeros_76 (by decide) ?_
            refine z_iushr hX dI_numberOfTrailingZeros_77 ?_
            refine z_iadd hX dI_numberOfTrailingZeros_78 ?_
            refine z_iret hX hE (by decide) (by decide) dI_numberOfTrailingZeros_79 ?_
            refine zKe hK ?_
            rw [← e]
        · skip
          rw [nz1_f h52] at e
          refine z_iinc hX (4) (by decide) rfl (by decide) dI_numberOfTrailingZeros_55 ?_
          dsimp only [z_p1, z_p2, z_k, List.headD, List.tail]
          refine z_iload_n hX dI_numberOfTrailingZeros_58 rfl ?_
          refine z_iconst hX (4) dI_numberOfTrailingZeros_59 (by decide) ?_
          refine z_iushr hX dI_numberOfTrailingZeros_60 ?_
          refine z_istore_n hX 0 rfl (by decide) dI_numberOfTrailingZeros_61 ?_
          dsimp only [z_p1, z_p2, z_k, List.headD, List.tail]
          refine z_iload_n hX dI_numberOfTrailingZeros_62 rfl ?_
          refine z_iconst hX (4) dI_numberOfTrailingZeros_63 (by decide) ?_
          refine z_icmp_le hX 74 dI_numberOfTrailingZeros_64 (by decide) (fun h64 => ?_) (fun h64 => ?_)
          · skip
            rw [nz1_t h64] at e
            refine z_iload_n hX dI_numberOfTrailingZeros_74 rfl ?_
            refine z_iload_n hX dI_numberOfTrailingZeros_75 rfl ?_
            refine z_iconst hX (1) dI_numberOfTrailingZeros_76 (by decide) ?_
            refine z_iushr hX dI_numberOfTrailingZeros_77 ?_
            refine z_iadd hX dI_numberOfTrailingZeros_78 ?_
            refine z_iret hX hE (by decide) (by decide) dI_numberOfTrailingZeros_79 ?_
            refine zKe hK ?_
            rw [← e]
          · skip
            rw [nz1_f h64] at e
            refine z_iinc hX (2) (by decide) rfl (by decide) dI_numberOfTrailingZeros_67 ?_
            dsimp only [z_p1, z_p2, z_k, List.headD, List.tail]
            refine z_iload_n hX dI_numberOfTrailingZeros_70 rfl ?_
            refine z_iconst hX (2) dI_numberOfTrailingZeros_71 (by decide) ?_
            refine z_iushr hX dI_numberOfTrailingZeros_72 ?_
            refine z_istore_n hX 0 rfl (by decide) dI_numberOfTrailingZeros_73 ?_
            dsimp only [z_p1, z_p2, z_k, List.headD, List.tail]
            refine z_iload_n hX dI_numberOfTrailingZeros_74 rfl ?_
            refine z_iload_n hX dI_numberOfTrailingZeros_75 rfl ?_
            refine z_iconst hX (1) dI_numberOfTrailingZeros_76 (by decide) ?_
            refine z_iushr hX dI_numberOfTrailingZeros_77 ?_
            refine z_iadd hX dI_numberOfTrailingZeros_78 ?_
            refine z_iret hX hE (by decide) (by decide) dI_numberOfTrailingZeros_79 ?_
            refine zKe hK ?_
            rw [← e]
  · skip
    rw [if_neg h9] at e
    refine z_iload_n hX dI_numberOfTrailingZeros_12 rfl ?_
    refine z_bipush hX (32) dI_numberOfTrailingZeros_13 (by decide) ?_
    refine z_iand hX dI_numberOfTrailingZeros_15 ?_
    refine z_iret hX hE (by decide) (by decide) dI_numberOfTrailingZeros_16 ?_
    exact zKe hK (by rw [e])
theorem z_mabs {X : z_X} {l : Launch} {me : z_M} {rm : Room} {pc nx u v : Nat} {lv : List (Option Value)} {st : List Value} {P : z_H} (hX : z_is X l me rm) {idx : Nat} {x : Int64} (h1 : Cond.methodLink me.1.cls idx Lib.MathLoose.abs_long.x ∈ z_T) (hf : 1 ≤ rm.frames) (hlo : (st.map Value.category).sum + 13 ≤ rm.locals) (hu : u ≤ rm.cells) (hv : v ≤ rm.slots) (hd : decode me.2.1 pc = .ok (.invokestatic idx, 3)) (k : z_W X (pc + 3) lv (.long (if x < 0 then -x else x) :: st) P nx u v) : z_W X pc lv (.long x :: st) P nx u v := by
  obtain ⟨p, l, e, R, s, m, args, below, meth, c, cc, nL, own, D, cy, b, B, Q⟩ := X
  obtain ⟨yn, yc, yL, yr⟩ := me
  obtain ⟨⟨hx, hb, hml, hown, hts, hK, hB⟩, rfl, rfl, rfl, rfl, rfl⟩ := hX
  intro H locs ls hR hS hL
  refine va_mabs_long hx hb (hml.trans hL.1.symm) hown (hts _ h1) (hts _ wt_MA_abs) (hts _ wi_A) (hts _ wc_MA_abs) hf (by rw [z_catsum]; exact hlo) hu hv hd ?_
  have e : (if 0 < x then x else -x) = if x < 0 then -x else x := by
    by_cases q : x < 0
    · rw [if_pos q, if_neg (fun z => absurd (Int64.lt_trans q z) (Int64.lt_irrefl))]
    · rw [if_neg q]
      by_cases z : 0 < x
      · rw [if_pos z]
      · rw [if_neg z]
        have : x = 0 := by
          rw [l_lt] at q z
          rw [l_eq]
          have : (0 : Int64).toInt = 0 := rfl
          omega
        rw [this]
        rfl
  rw [e]
  exact k H locs ls hR hS hL
theorem l_abs : Cond.methodLink "RoadCounts$Counts" 58 Lib.MathLoose.abs_long.x ∈ z_T := (z_inT (List.mem_append_right _ (List.mem_of_getElem? (i := 334) (by decide +kernel))) rfl)
