/-! rooms; small facts -/
abbrev rM0_init : Room := { frames := 1, cells := 12, slots := 472, locals := 20 }
abbrev rM0_weighWeekday : Room := { frames := 0, cells := 0, slots := 0, locals := 0 }
abbrev rM0_weighMonth : Room := { frames := 0, cells := 0, slots := 0, locals := 0 }
abbrev rM0_addHoliday : Room := { frames := 0, cells := 0, slots := 0, locals := 0 }
abbrev rM0_shareOf : Room := { frames := 0, cells := 0, slots := 0, locals := 0 }
abbrev rM0_wholeOf : Room := { frames := 1, cells := 0, slots := 0, locals := 23 }
abbrev rM1_init : Room := { frames := 1, cells := 2, slots := 28, locals := 20 }
abbrev rM1_put : Room := { frames := 1, cells := 0, slots := 0, locals := 22 }
abbrev rM1_on : Room := { frames := 1, cells := 0, slots := 0, locals := 22 }
abbrev rM1_used : Room := { frames := 1, cells := 0, slots := 0, locals := 22 }
abbrev rM1_loadOfAll : Room := { frames := 2, cells := 0, slots := 0, locals := 54 }
abbrev rM1_loadAtEnd : Room := { frames := 2, cells := 0, slots := 0, locals := 54 }
abbrev rM1_bestShape : Room := { frames := 3, cells := 0, slots := 0, locals := 75 }
abbrev rM1_misfitTimesShares : Room := { frames := 2, cells := 0, slots := 0, locals := 46 }
abbrev rM1_usedTotal : Room := { frames := 1, cells := 0, slots := 0, locals := 22 }
abbrev rM1_usedShares : Room := { frames := 1, cells := 0, slots := 0, locals := 23 }
abbrev rM1_isUsed : Room := { frames := 0, cells := 0, slots := 0, locals := 0 }
abbrev rM1_placeOf : Room := { frames := 0, cells := 0, slots := 0, locals := 0 }
abbrev rM2_init : Room := { frames := 1, cells := 5, slots := 56, locals := 20 }
abbrev rM2_add : Room := { frames := 3, cells := 5, slots := 47, locals := 63 }
abbrev rM2_at : Room := { frames := 1, cells := 0, slots := 0, locals := 21 }
abbrev rM2_hasAll : Room := { frames := 1, cells := 0, slots := 0, locals := 21 }
abbrev rM2_isKnown : Room := { frames := 0, cells := 0, slots := 0, locals := 0 }
abbrev rM2_isTold : Room := { frames := 0, cells := 0, slots := 0, locals := 0 }
abbrev rM2_isAllToldAt : Room := { frames := 0, cells := 0, slots := 0, locals := 0 }
abbrev rM2_loadOf : Room := { frames := 0, cells := 0, slots := 0, locals := 0 }
abbrev rM2_surplus : Room := { frames := 1, cells := 0, slots := 0, locals := 21 }
abbrev rM2_settle : Room := { frames := 3, cells := 0, slots := 0, locals := 78 }
abbrev rM2_isEnough : Room := { frames := 2, cells := 0, slots := 0, locals := 47 }
abbrev rM2_cheapestEnough : Room := { frames := 3, cells := 0, slots := 0, locals := 68 }
abbrev rM2_dearestOutside : Room := { frames := 0, cells := 0, slots := 0, locals := 0 }
abbrev rM2_follow : Room := { frames := 1, cells := 0, slots := 0, locals := 21 }
abbrev rM3_init : Room := { frames := 2, cells := 4, slots := 41, locals := 40 }
abbrev rM4_init : Room := { frames := 1, cells := 22, slots := 108, locals := 20 }
abbrev rM4_addClause : Room := { frames := 0, cells := 0, slots := 0, locals := 0 }
abbrev rM4_addSpanToLast : Room := { frames := 0, cells := 0, slots := 0, locals := 0 }
abbrev rM4_kindOf : Room := { frames := 2, cells := 0, slots := 0, locals := 46 }
abbrev rM4_isWithin : Room := { frames := 1, cells := 0, slots := 0, locals := 21 }
abbrev rM5_init : Room := { frames := 1, cells := 0, slots := 0, locals := 20 }
abbrev rM5_read : Room := { frames := 6, cells := 0, slots := 0, locals := 132 }
abbrev rM5_readClause : Room := { frames := 5, cells := 0, slots := 0, locals := 110 }
abbrev rM5_readSpans : Room := { frames := 4, cells := 0, slots := 0, locals := 86 }
abbrev rM5_readSpan : Room := { frames := 3, cells := 0, slots := 0, locals := 63 }
abbrev rM5_readNumber : Room := { frames := 2, cells := 0, slots := 0, locals := 41 }
abbrev rM5_sign : Room := { frames := 1, cells := 0, slots := 0, locals := 21 }
abbrev rM5_isDigit : Room := { frames := 0, cells := 0, slots := 0, locals := 0 }
abbrev rM6_init : Room := { frames := 1, cells := 1, slots := 120, locals := 20 }
abbrev rM6_append : Room := { frames := 0, cells := 0, slots := 0, locals := 0 }
abbrev rM6_at : Room := { frames := 0, cells := 0, slots := 0, locals := 0 }
abbrev rM7_init : Room := { frames := 2, cells := 68, slots := 894, locals := 42 }
abbrev rM7_weekday : Room := { frames := 1, cells := 0, slots := 0, locals := 23 }
abbrev rM7_month : Room := { frames := 1, cells := 0, slots := 0, locals := 23 }
abbrev rM7_holiday : Room := { frames := 1, cells := 0, slots := 0, locals := 21 }
abbrev rM7_road : Room := { frames := 4, cells := 5, slots := 47, locals := 86 }
abbrev rM7_shape : Room := { frames := 2, cells := 0, slots := 0, locals := 42 }
abbrev rM7_count : Room := { frames := 2, cells := 0, slots := 0, locals := 45 }
abbrev rM7_year : Room := { frames := 3, cells := 0, slots := 0, locals := 78 }
abbrev rM7_span : Room := { frames := 3, cells := 0, slots := 0, locals := 86 }
abbrev rM7_best : Room := { frames := 4, cells := 0, slots := 0, locals := 106 }
abbrev rM7_how : Room := { frames := 4, cells := 0, slots := 0, locals := 104 }
abbrev rM7_load : Room := { frames := 4, cells := 0, slots := 0, locals := 104 }
abbrev rM7_balances : Room := { frames := 4, cells := 0, slots := 0, locals := 104 }
abbrev rM7_balance : Room := { frames := 4, cells := 0, slots := 0, locals := 104 }
abbrev rM7_does : Room := { frames := 3, cells := 0, slots := 0, locals := 68 }
abbrev rM7_plan : Room := { frames := 4, cells := 0, slots := 0, locals := 92 }
abbrev rM7_feed : Room := { frames := 1, cells := 0, slots := 0, locals := 22 }
abbrev rM7_rules : Room := { frames := 7, cells := 0, slots := 0, locals := 157 }
abbrev rM7_pass : Room := { frames := 3, cells := 0, slots := 0, locals := 70 }
abbrev rM7_kinds : Room := { frames := 2, cells := 0, slots := 0, locals := 42 }
abbrev rM7_whole : Room := { frames := 2, cells := 0, slots := 0, locals := 54 }
abbrev rM7_look : Room := { frames := 2, cells := 0, slots := 0, locals := 45 }
abbrev rM7_tell : Room := { frames := 4, cells := 0, slots := 0, locals := 104 }
abbrev rM7_isBelow : Room := { frames := 0, cells := 0, slots := 0, locals := 0 }
abbrev rM7_isWeight : Room := { frames := 0, cells := 0, slots := 0, locals := 0 }
abbrev rM7_isEnd : Room := { frames := 1, cells := 0, slots := 0, locals := 21 }
abbrev rM8_init : Room := { frames := 1, cells := 19, slots := 5312, locals := 20 }
abbrev rM8_lies : Room := { frames := 0, cells := 0, slots := 0, locals := 0 }
abbrev rM8_isRoad : Room := { frames := 1, cells := 0, slots := 0, locals := 25 }
abbrev rM8_isShape : Room := { frames := 1, cells := 0, slots := 0, locals := 25 }
abbrev rM8_has : Room := { frames := 0, cells := 0, slots := 0, locals := 0 }
abbrev rM8_size : Room := { frames := 0, cells := 0, slots := 0, locals := 0 }
abbrev rM8_sizeOf : Room := { frames := 0, cells := 0, slots := 0, locals := 0 }
abbrev rM8_weekday : Room := { frames := 2, cells := 0, slots := 0, locals := 45 }
abbrev rM8_month : Room := { frames := 2, cells := 0, slots := 0, locals := 45 }
abbrev rM8_holiday : Room := { frames := 1, cells := 0, slots := 0, locals := 25 }
abbrev rM8_share : Room := { frames := 0, cells := 0, slots := 0, locals := 0 }
abbrev rM8_wholeOf : Room := { frames := 1, cells := 0, slots := 0, locals := 22 }
abbrev rM8_whole : Room := { frames := 2, cells := 0, slots := 0, locals := 46 }
abbrev rM8_isEnd : Room := { frames := 1, cells := 0, slots := 0, locals := 25 }
abbrev rM8_road : Room := { frames := 2, cells := 0, slots := 0, locals := 45 }
abbrev rM8_shape : Room := { frames := 2, cells := 0, slots := 0, locals := 46 }
abbrev rM8_count : Room := { frames := 2, cells := 0, slots := 0, locals := 46 }
abbrev rM8_isUsed : Room := { frames := 0, cells := 0, slots := 0, locals := 0 }
abbrev rM8_usedOf : Room := { frames := 1, cells := 0, slots := 0, locals := 22 }
abbrev rM8_countsOf : Room := { frames := 1, cells := 0, slots := 0, locals := 22 }
abbrev rM8_sharesOf : Room := { frames := 1, cells := 0, slots := 0, locals := 22 }
abbrev rM8_yearOf : Room := { frames := 2, cells := 0, slots := 0, locals := 47 }
abbrev rM8_year : Room := { frames := 3, cells := 0, slots := 0, locals := 68 }
abbrev rM8_span : Room := { frames := 2, cells := 0, slots := 0, locals := 46 }
abbrev rM8_misfit : Room := { frames := 2, cells := 0, slots := 0, locals := 47 }
abbrev rM8_best : Room := { frames := 3, cells := 0, slots := 0, locals := 76 }
abbrev rM8_roadsAt : Room := { frames := 0, cells := 0, slots := 0, locals := 0 }
abbrev rM8_knownRoads : Room := { frames := 2, cells := 0, slots := 0, locals := 45 }
abbrev rM8_excess : Room := { frames := 1, cells := 0, slots := 0, locals := 21 }
abbrev rM8_grows : Room := { frames := 2, cells := 0, slots := 0, locals := 46 }
abbrev rM8_works : Room := { frames := 3, cells := 0, slots := 0, locals := 72 }
abbrev rM8_how : Room := { frames := 4, cells := 0, slots := 0, locals := 94 }
abbrev rM8_load : Room := { frames := 4, cells := 0, slots := 0, locals := 94 }
abbrev rM8_isBalanced : Room := { frames := 1, cells := 0, slots := 0, locals := 25 }
abbrev rM8_balances : Room := { frames := 4, cells := 0, slots := 0, locals := 94 }
abbrev rM8_balance : Room := { frames := 4, cells := 0, slots := 0, locals := 94 }
abbrev rM8_doAll : Room := { frames := 0, cells := 0, slots := 0, locals := 0 }
abbrev rM8_lists : Room := { frames := 1, cells := 0, slots := 0, locals := 23 }
abbrev rM8_does : Room := { frames := 2, cells := 0, slots := 0, locals := 44 }
abbrev rM8_plan : Room := { frames := 2, cells := 0, slots := 0, locals := 44 }
abbrev rM8_push : Room := { frames := 0, cells := 0, slots := 0, locals := 0 }
abbrev rM8_feed : Room := { frames := 1, cells := 0, slots := 0, locals := 22 }
abbrev rM8_here : Room := { frames := 0, cells := 0, slots := 0, locals := 0 }
abbrev rM8_fails : Room := { frames := 0, cells := 0, slots := 0, locals := 0 }
abbrev rM8_seesDigit : Room := { frames := 1, cells := 0, slots := 0, locals := 25 }
abbrev rM8_number : Room := { frames := 2, cells := 0, slots := 0, locals := 45 }
abbrev rM8_must : Room := { frames := 1, cells := 0, slots := 0, locals := 22 }
abbrev rM8_clause : Room := { frames := 3, cells := 0, slots := 0, locals := 68 }
abbrev rM8_rules : Room := { frames := 4, cells := 0, slots := 0, locals := 92 }
abbrev rM8_kindOf : Room := { frames := 1, cells := 0, slots := 0, locals := 25 }
abbrev rM8_pass : Room := { frames := 2, cells := 0, slots := 0, locals := 50 }
abbrev rM8_kinds : Room := { frames := 2, cells := 0, slots := 0, locals := 46 }
abbrev rM8_look : Room := { frames := 2, cells := 0, slots := 0, locals := 46 }
abbrev rM8_tell : Room := { frames := 4, cells := 0, slots := 0, locals := 94 }
abbrev rMI_numberOfTrailingZeros : Room := { frames := 0, cells := 0, slots := 0, locals := 0 }
abbrev rMI_bitCount : Room := { frames := 0, cells := 0, slots := 0, locals := 0 }
abbrev rMA_abs : Room := { frames := 0, cells := 0, slots := 0, locals := 0 }
theorem zK1 {K : Option Value → z_H → Nat → Prop} {b : Bool} {P : z_H} {nx : Nat} (hK : K (some (.int (zb b))) P nx) (h : b = true) : K (some (.int 1)) P nx := by rw [h] at hK; exact hK
theorem zK0 {K : Option Value → z_H → Nat → Prop} {b : Bool} {P : z_H} {nx : Nat} (hK : K (some (.int (zb b))) P nx) (h : b = false) : K (some (.int 0)) P nx := by rw [h] at hK; exact hK
theorem zKe {K : Option Value → z_H → Nat → Prop} {w w' : Option Value} {P : z_H} {nx : Nat} (hK : K w P nx) (h : w' = w) : K w' P nx := by rw [h]; exact hK
theorem z32 (x : Int32) : -2147483648 ≤ x.toInt ∧ x.toInt < 2147483648 := ⟨Int32.le_toInt x, Int32.toInt_lt x⟩
theorem z64 (x : Int64) : -9223372036854775808 ≤ x.toInt ∧ x.toInt < 9223372036854775808 := ⟨Int64.le_toInt x, Int64.toInt_lt x⟩
theorem i_lt {a b : Int32} : a < b ↔ a.toInt < b.toInt := Int32.lt_iff_toInt_lt
theorem i_le {a b : Int32} : a ≤ b ↔ a.toInt ≤ b.toInt := Int32.le_iff_toInt_le
theorem i_eq {a b : Int32} : a = b ↔ a.toInt = b.toInt := Int32.toInt_inj.symm
theorem l_lt {a b : Int64} : a < b ↔ a.toInt < b.toInt := Int64.lt_iff_toInt_lt
theorem l_le {a b : Int64} : a ≤ b ↔ a.toInt ≤ b.toInt := Int64.le_iff_toInt_le
theorem l_eq {a b : Int64} : a = b ↔ a.toInt = b.toInt := Int64.toInt_inj.symm
theorem i2l_t (x : Int32) : x.toInt64.toInt = x.toInt := Int32.toInt_toInt64 x
theorem bmod32 {z : Int} (h1 : -2147483648 ≤ z) (h2 : z < 2147483648) : z.bmod 4294967296 = z := by rw [Int.bmod_def]; omega
theorem bmod64 {z : Int} (h1 : -9223372036854775808 ≤ z) (h2 : z < 9223372036854775808) : z.bmod 18446744073709551616 = z := by rw [Int.bmod_def]; omega
theorem i_add {x y : Int32} (h1 : -2147483648 ≤ x.toInt + y.toInt) (h2 : x.toInt + y.toInt < 2147483648) : (x + y).toInt = x.toInt + y.toInt := by rw [Int32.toInt_add]; exact bmod32 h1 h2
theorem i_sub {x y : Int32} (h1 : -2147483648 ≤ x.toInt - y.toInt) (h2 : x.toInt - y.toInt < 2147483648) : (x - y).toInt = x.toInt - y.toInt := by rw [Int32.toInt_sub]; exact bmod32 h1 h2
theorem i_mul {x y : Int32} (h1 : -2147483648 ≤ x.toInt * y.toInt) (h2 : x.toInt * y.toInt < 2147483648) : (x * y).toInt = x.toInt * y.toInt := by rw [Int32.toInt_mul]; exact bmod32 h1 h2
theorem l_add {x y : Int64} (h1 : -9223372036854775808 ≤ x.toInt + y.toInt) (h2 : x.toInt + y.toInt < 9223372036854775808) : (x + y).toInt = x.toInt + y.toInt := by rw [Int64.toInt_add]; exact bmod64 h1 h2
theorem l_sub {x y : Int64} (h1 : -9223372036854775808 ≤ x.toInt - y.toInt) (h2 : x.toInt - y.toInt < 9223372036854775808) : (x - y).toInt = x.toInt - y.toInt := by rw [Int64.toInt_sub]; exact bmod64 h1 h2
theorem l_mul {x y : Int64} (h1 : -9223372036854775808 ≤ x.toInt * y.toInt) (h2 : x.toInt * y.toInt < 9223372036854775808) : (x * y).toInt = x.toInt * y.toInt := by rw [Int64.toInt_mul]; exact bmod64 h1 h2
/-- an int in a range is a number -/
theorem nI_rng {x : Int32} {n : Nat} (h0 : 0 ≤ x.toInt) (h1 : x.toInt < n) : ∃ j : Nat, j < n ∧ x = nI j := by
  have := z32 x
  refine ⟨x.toInt.toNat, by omega, Int32.toInt_inj.mp ?_⟩
  rw [nI_toInt (by omega)]
  omega
theorem nI_lit (n : Nat) : (OfNat.ofNat n : Int32) = nI n := rfl
theorem lN_lit (n : Nat) : (OfNat.ofNat n : Int64) = lN n := rfl
