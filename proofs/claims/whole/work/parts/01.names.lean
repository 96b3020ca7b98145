-- ===== PART A: goes FIRST, ahead of the names: the tables' words, and 'selects' of the private methods out of them =====
/-- a private method of a class that the tables say can be made, by its rows of tables_1 -/
def lw_okq (q : MethodName × Nat) : Prop := (q.1.cls ≠ "java/lang/invoke/MethodHandle" ∧ q.1.cls ≠ "java/lang/invoke/VarHandle") ∧ Cond.instantiable q.1.cls q.2 ∈ tables_1 ∧ Cond.privateMethod q.1 ∈ tables_1 ∧ Cond.instanceMethod q.1 ∈ tables_1
theorem lw_p0 : lw_okq (⟨"RoadCounts$Counts", "placeOf", "(I)I"⟩, 3) := ⟨⟨by decide +kernel, by decide +kernel⟩, List.mem_of_getElem? (i := 212) (by decide +kernel), List.mem_of_getElem? (i := 275) (by decide +kernel), List.mem_of_getElem? (i := 276) (by decide +kernel)⟩
theorem lw_p1 : lw_okq (⟨"RoadCounts$Counts", "usedShares", "(LRoadCounts$Almanac;I)J"⟩, 3) := ⟨⟨by decide +kernel, by decide +kernel⟩, List.mem_of_getElem? (i := 212) (by decide +kernel), List.mem_of_getElem? (i := 288) (by decide +kernel), List.mem_of_getElem? (i := 289) (by decide +kernel)⟩
theorem lw_p2 : lw_okq (⟨"RoadCounts$Counts", "isUsed", "(ILRoadCounts$Almanac;)Z"⟩, 3) := ⟨⟨by decide +kernel, by decide +kernel⟩, List.mem_of_getElem? (i := 212) (by decide +kernel), List.mem_of_getElem? (i := 292) (by decide +kernel), List.mem_of_getElem? (i := 293) (by decide +kernel)⟩
theorem lw_p3 : lw_okq (⟨"RoadCounts$Counts", "usedTotal", "(LRoadCounts$Almanac;)J"⟩, 3) := ⟨⟨by decide +kernel, by decide +kernel⟩, List.mem_of_getElem? (i := 212) (by decide +kernel), List.mem_of_getElem? (i := 300) (by decide +kernel), List.mem_of_getElem? (i := 301) (by decide +kernel)⟩
theorem lw_p4 : lw_okq (⟨"RoadCounts$Counts", "misfitTimesShares", "(LRoadCounts$Almanac;IJ)J"⟩, 3) := ⟨⟨by decide +kernel, by decide +kernel⟩, List.mem_of_getElem? (i := 212) (by decide +kernel), List.mem_of_getElem? (i := 331) (by decide +kernel), List.mem_of_getElem? (i := 332) (by decide +kernel)⟩
theorem lw_p5 : lw_okq (⟨"RoadCounts$Network", "follow", "(I)I"⟩, 9) := ⟨⟨by decide +kernel, by decide +kernel⟩, List.mem_of_getElem? (i := 49) (by decide +kernel), List.mem_of_getElem? (i := 348) (by decide +kernel), List.mem_of_getElem? (i := 349) (by decide +kernel)⟩
theorem lw_p6 : lw_okq (⟨"RoadCounts$Network", "dearestOutside", "(I)I"⟩, 9) := ⟨⟨by decide +kernel, by decide +kernel⟩, List.mem_of_getElem? (i := 49) (by decide +kernel), List.mem_of_getElem? (i := 416) (by decide +kernel), List.mem_of_getElem? (i := 417) (by decide +kernel)⟩
theorem lw_p7 : lw_okq (⟨"RoadCounts$RulesReader", "readClause", "(LRoadCounts$Rules;)I"⟩, 4) := ⟨⟨by decide +kernel, by decide +kernel⟩, List.mem_of_getElem? (i := 103) (by decide +kernel), List.mem_of_getElem? (i := 437) (by decide +kernel), List.mem_of_getElem? (i := 438) (by decide +kernel)⟩
theorem lw_p8 : lw_okq (⟨"RoadCounts$RulesReader", "sign", "()I"⟩, 4) := ⟨⟨by decide +kernel, by decide +kernel⟩, List.mem_of_getElem? (i := 103) (by decide +kernel), List.mem_of_getElem? (i := 441) (by decide +kernel), List.mem_of_getElem? (i := 442) (by decide +kernel)⟩
theorem lw_p9 : lw_okq (⟨"RoadCounts$RulesReader", "readSpans", "(LRoadCounts$Rules;)I"⟩, 4) := ⟨⟨by decide +kernel, by decide +kernel⟩, List.mem_of_getElem? (i := 103) (by decide +kernel), List.mem_of_getElem? (i := 456) (by decide +kernel), List.mem_of_getElem? (i := 457) (by decide +kernel)⟩
theorem lw_p10 : lw_okq (⟨"RoadCounts$RulesReader", "readSpan", "(LRoadCounts$Rules;)I"⟩, 4) := ⟨⟨by decide +kernel, by decide +kernel⟩, List.mem_of_getElem? (i := 103) (by decide +kernel), List.mem_of_getElem? (i := 460) (by decide +kernel), List.mem_of_getElem? (i := 461) (by decide +kernel)⟩
theorem lw_p11 : lw_okq (⟨"RoadCounts$RulesReader", "readNumber", "(I)I"⟩, 4) := ⟨⟨by decide +kernel, by decide +kernel⟩, List.mem_of_getElem? (i := 103) (by decide +kernel), List.mem_of_getElem? (i := 464) (by decide +kernel), List.mem_of_getElem? (i := 465) (by decide +kernel)⟩
theorem lw_p12 : lw_okq (⟨"RoadCounts$Rules", "isWithin", "(ILRoadCounts$Tape;I)Z"⟩, 5) := ⟨⟨by decide +kernel, by decide +kernel⟩, List.mem_of_getElem? (i := 122) (by decide +kernel), List.mem_of_getElem? (i := 481) (by decide +kernel), List.mem_of_getElem? (i := 482) (by decide +kernel)⟩
theorem lw_p13 : lw_okq (⟨"RoadCountsModel", "wholeOf", "(I)J"⟩, 27) := ⟨⟨by decide +kernel, by decide +kernel⟩, List.mem_of_getElem? (i := 509) (by decide +kernel), List.mem_of_getElem? (i := 625) (by decide +kernel), List.mem_of_getElem? (i := 626) (by decide +kernel)⟩
theorem lw_p14 : lw_okq (⟨"RoadCountsModel", "share", "(II)J"⟩, 27) := ⟨⟨by decide +kernel, by decide +kernel⟩, List.mem_of_getElem? (i := 509) (by decide +kernel), List.mem_of_getElem? (i := 629) (by decide +kernel), List.mem_of_getElem? (i := 630) (by decide +kernel)⟩
theorem lw_p15 : lw_okq (⟨"RoadCountsModel", "isRoad", "(I)Z"⟩, 27) := ⟨⟨by decide +kernel, by decide +kernel⟩, List.mem_of_getElem? (i := 509) (by decide +kernel), List.mem_of_getElem? (i := 647) (by decide +kernel), List.mem_of_getElem? (i := 648) (by decide +kernel)⟩
def lw_privs_1 : List (MethodName × Nat) := [(⟨"RoadCounts$Counts", "placeOf", "(I)I"⟩, 3), (⟨"RoadCounts$Counts", "usedShares", "(LRoadCounts$Almanac;I)J"⟩, 3), (⟨"RoadCounts$Counts", "isUsed", "(ILRoadCounts$Almanac;)Z"⟩, 3), (⟨"RoadCounts$Counts", "usedTotal", "(LRoadCounts$Almanac;)J"⟩, 3), (⟨"RoadCounts$Counts", "misfitTimesShares", "(LRoadCounts$Almanac;IJ)J"⟩, 3), (⟨"RoadCounts$Network", "follow", "(I)I"⟩, 9), (⟨"RoadCounts$Network", "dearestOutside", "(I)I"⟩, 9), (⟨"RoadCounts$RulesReader", "readClause", "(LRoadCounts$Rules;)I"⟩, 4), (⟨"RoadCounts$RulesReader", "sign", "()I"⟩, 4), (⟨"RoadCounts$RulesReader", "readSpans", "(LRoadCounts$Rules;)I"⟩, 4), (⟨"RoadCounts$RulesReader", "readSpan", "(LRoadCounts$Rules;)I"⟩, 4), (⟨"RoadCounts$RulesReader", "readNumber", "(I)I"⟩, 4), (⟨"RoadCounts$Rules", "isWithin", "(ILRoadCounts$Tape;I)Z"⟩, 5), (⟨"RoadCountsModel", "wholeOf", "(I)J"⟩, 27), (⟨"RoadCountsModel", "share", "(II)J"⟩, 27), (⟨"RoadCountsModel", "isRoad", "(I)Z"⟩, 27)]
theorem lw_r1 : ∀ q ∈ lw_privs_1, lw_okq q := List.forall_mem_cons.mpr ⟨lw_p0, List.forall_mem_cons.mpr ⟨lw_p1, List.forall_mem_cons.mpr ⟨lw_p2, List.forall_mem_cons.mpr ⟨lw_p3, List.forall_mem_cons.mpr ⟨lw_p4, List.forall_mem_cons.mpr ⟨lw_p5, List.forall_mem_cons.mpr ⟨lw_p6, List.forall_mem_cons.mpr ⟨lw_p7, List.forall_mem_cons.mpr ⟨lw_p8, List.forall_mem_cons.mpr ⟨lw_p9, List.forall_mem_cons.mpr ⟨lw_p10, List.forall_mem_cons.mpr ⟨lw_p11, List.forall_mem_cons.mpr ⟨lw_p12, List.forall_mem_cons.mpr ⟨lw_p13, List.forall_mem_cons.mpr ⟨lw_p14, List.forall_mem_cons.mpr ⟨lw_p15, fun _ h => absurd h List.not_mem_nil⟩⟩⟩⟩⟩⟩⟩⟩⟩⟩⟩⟩⟩⟩⟩⟩
theorem lw_p16 : lw_okq (⟨"RoadCountsModel", "usedOf", "(I)I"⟩, 27) := ⟨⟨by decide +kernel, by decide +kernel⟩, List.mem_of_getElem? (i := 509) (by decide +kernel), List.mem_of_getElem? (i := 660) (by decide +kernel), List.mem_of_getElem? (i := 661) (by decide +kernel)⟩
theorem lw_p17 : lw_okq (⟨"RoadCountsModel", "isUsed", "(II)Z"⟩, 27) := ⟨⟨by decide +kernel, by decide +kernel⟩, List.mem_of_getElem? (i := 509) (by decide +kernel), List.mem_of_getElem? (i := 664) (by decide +kernel), List.mem_of_getElem? (i := 665) (by decide +kernel)⟩
theorem lw_p18 : lw_okq (⟨"RoadCountsModel", "yearOf", "(I)J"⟩, 27) := ⟨⟨by decide +kernel, by decide +kernel⟩, List.mem_of_getElem? (i := 509) (by decide +kernel), List.mem_of_getElem? (i := 668) (by decide +kernel), List.mem_of_getElem? (i := 669) (by decide +kernel)⟩
theorem lw_p19 : lw_okq (⟨"RoadCountsModel", "countsOf", "(I)J"⟩, 27) := ⟨⟨by decide +kernel, by decide +kernel⟩, List.mem_of_getElem? (i := 509) (by decide +kernel), List.mem_of_getElem? (i := 672) (by decide +kernel), List.mem_of_getElem? (i := 673) (by decide +kernel)⟩
theorem lw_p20 : lw_okq (⟨"RoadCountsModel", "sharesOf", "(II)J"⟩, 27) := ⟨⟨by decide +kernel, by decide +kernel⟩, List.mem_of_getElem? (i := 509) (by decide +kernel), List.mem_of_getElem? (i := 676) (by decide +kernel), List.mem_of_getElem? (i := 677) (by decide +kernel)⟩
theorem lw_p21 : lw_okq (⟨"RoadCountsModel", "misfit", "(II)J"⟩, 27) := ⟨⟨by decide +kernel, by decide +kernel⟩, List.mem_of_getElem? (i := 509) (by decide +kernel), List.mem_of_getElem? (i := 688) (by decide +kernel), List.mem_of_getElem? (i := 689) (by decide +kernel)⟩
theorem lw_p22 : lw_okq (⟨"RoadCountsModel", "knownRoads", "()I"⟩, 27) := ⟨⟨by decide +kernel, by decide +kernel⟩, List.mem_of_getElem? (i := 509) (by decide +kernel), List.mem_of_getElem? (i := 699) (by decide +kernel), List.mem_of_getElem? (i := 700) (by decide +kernel)⟩
theorem lw_p23 : lw_okq (⟨"RoadCountsModel", "works", "()I"⟩, 27) := ⟨⟨by decide +kernel, by decide +kernel⟩, List.mem_of_getElem? (i := 509) (by decide +kernel), List.mem_of_getElem? (i := 706) (by decide +kernel), List.mem_of_getElem? (i := 707) (by decide +kernel)⟩
theorem lw_p24 : lw_okq (⟨"RoadCountsModel", "grows", "(I)I"⟩, 27) := ⟨⟨by decide +kernel, by decide +kernel⟩, List.mem_of_getElem? (i := 509) (by decide +kernel), List.mem_of_getElem? (i := 710) (by decide +kernel), List.mem_of_getElem? (i := 711) (by decide +kernel)⟩
theorem lw_p25 : lw_okq (⟨"RoadCountsModel", "roadsAt", "(I)I"⟩, 27) := ⟨⟨by decide +kernel, by decide +kernel⟩, List.mem_of_getElem? (i := 509) (by decide +kernel), List.mem_of_getElem? (i := 714) (by decide +kernel), List.mem_of_getElem? (i := 715) (by decide +kernel)⟩
theorem lw_p26 : lw_okq (⟨"RoadCountsModel", "excess", "(II)J"⟩, 27) := ⟨⟨by decide +kernel, by decide +kernel⟩, List.mem_of_getElem? (i := 509) (by decide +kernel), List.mem_of_getElem? (i := 721) (by decide +kernel), List.mem_of_getElem? (i := 722) (by decide +kernel)⟩
theorem lw_p27 : lw_okq (⟨"RoadCountsModel", "isBalanced", "(II)Z"⟩, 27) := ⟨⟨by decide +kernel, by decide +kernel⟩, List.mem_of_getElem? (i := 509) (by decide +kernel), List.mem_of_getElem? (i := 733) (by decide +kernel), List.mem_of_getElem? (i := 734) (by decide +kernel)⟩
theorem lw_p28 : lw_okq (⟨"RoadCountsModel", "lists", "()V"⟩, 27) := ⟨⟨by decide +kernel, by decide +kernel⟩, List.mem_of_getElem? (i := 509) (by decide +kernel), List.mem_of_getElem? (i := 745) (by decide +kernel), List.mem_of_getElem? (i := 746) (by decide +kernel)⟩
theorem lw_p29 : lw_okq (⟨"RoadCountsModel", "doAll", "(I)Z"⟩, 27) := ⟨⟨by decide +kernel, by decide +kernel⟩, List.mem_of_getElem? (i := 509) (by decide +kernel), List.mem_of_getElem? (i := 749) (by decide +kernel), List.mem_of_getElem? (i := 750) (by decide +kernel)⟩
theorem lw_p30 : lw_okq (⟨"RoadCountsModel", "push", "(I)V"⟩, 27) := ⟨⟨by decide +kernel, by decide +kernel⟩, List.mem_of_getElem? (i := 509) (by decide +kernel), List.mem_of_getElem? (i := 761) (by decide +kernel), List.mem_of_getElem? (i := 762) (by decide +kernel)⟩
theorem lw_p31 : lw_okq (⟨"RoadCountsModel", "clause", "()V"⟩, 27) := ⟨⟨by decide +kernel, by decide +kernel⟩, List.mem_of_getElem? (i := 509) (by decide +kernel), List.mem_of_getElem? (i := 769) (by decide +kernel), List.mem_of_getElem? (i := 770) (by decide +kernel)⟩
def lw_privs_2 : List (MethodName × Nat) := [(⟨"RoadCountsModel", "usedOf", "(I)I"⟩, 27), (⟨"RoadCountsModel", "isUsed", "(II)Z"⟩, 27), (⟨"RoadCountsModel", "yearOf", "(I)J"⟩, 27), (⟨"RoadCountsModel", "countsOf", "(I)J"⟩, 27), (⟨"RoadCountsModel", "sharesOf", "(II)J"⟩, 27), (⟨"RoadCountsModel", "misfit", "(II)J"⟩, 27), (⟨"RoadCountsModel", "knownRoads", "()I"⟩, 27), (⟨"RoadCountsModel", "works", "()I"⟩, 27), (⟨"RoadCountsModel", "grows", "(I)I"⟩, 27), (⟨"RoadCountsModel", "roadsAt", "(I)I"⟩, 27), (⟨"RoadCountsModel", "excess", "(II)J"⟩, 27), (⟨"RoadCountsModel", "isBalanced", "(II)Z"⟩, 27), (⟨"RoadCountsModel", "lists", "()V"⟩, 27), (⟨"RoadCountsModel", "doAll", "(I)Z"⟩, 27), (⟨"RoadCountsModel", "push", "(I)V"⟩, 27), (⟨"RoadCountsModel", "clause", "()V"⟩, 27)]
theorem lw_r2 : ∀ q ∈ lw_privs_2, lw_okq q := List.forall_mem_cons.mpr ⟨lw_p16, List.forall_mem_cons.mpr ⟨lw_p17, List.forall_mem_cons.mpr ⟨lw_p18, List.forall_mem_cons.mpr ⟨lw_p19, List.forall_mem_cons.mpr ⟨lw_p20, List.forall_mem_cons.mpr ⟨lw_p21, List.forall_mem_cons.mpr ⟨lw_p22, List.forall_mem_cons.mpr ⟨lw_p23, List.forall_mem_cons.mpr ⟨lw_p24, List.forall_mem_cons.mpr ⟨lw_p25, List.forall_mem_cons.mpr ⟨lw_p26, List.forall_mem_cons.mpr ⟨lw_p27, List.forall_mem_cons.mpr ⟨lw_p28, List.forall_mem_cons.mpr ⟨lw_p29, List.forall_mem_cons.mpr ⟨lw_p30, List.forall_mem_cons.mpr ⟨lw_p31, fun _ h => absurd h List.not_mem_nil⟩⟩⟩⟩⟩⟩⟩⟩⟩⟩⟩⟩⟩⟩⟩⟩
theorem lw_p32 : lw_okq (⟨"RoadCountsModel", "seesDigit", "()Z"⟩, 27) := ⟨⟨by decide +kernel, by decide +kernel⟩, List.mem_of_getElem? (i := 509) (by decide +kernel), List.mem_of_getElem? (i := 773) (by decide +kernel), List.mem_of_getElem? (i := 774) (by decide +kernel)⟩
theorem lw_p33 : lw_okq (⟨"RoadCountsModel", "here", "()I"⟩, 27) := ⟨⟨by decide +kernel, by decide +kernel⟩, List.mem_of_getElem? (i := 509) (by decide +kernel), List.mem_of_getElem? (i := 777) (by decide +kernel), List.mem_of_getElem? (i := 778) (by decide +kernel)⟩
theorem lw_p34 : lw_okq (⟨"RoadCountsModel", "fails", "(II)V"⟩, 27) := ⟨⟨by decide +kernel, by decide +kernel⟩, List.mem_of_getElem? (i := 509) (by decide +kernel), List.mem_of_getElem? (i := 783) (by decide +kernel), List.mem_of_getElem? (i := 784) (by decide +kernel)⟩
theorem lw_p35 : lw_okq (⟨"RoadCountsModel", "must", "(I)V"⟩, 27) := ⟨⟨by decide +kernel, by decide +kernel⟩, List.mem_of_getElem? (i := 509) (by decide +kernel), List.mem_of_getElem? (i := 787) (by decide +kernel), List.mem_of_getElem? (i := 788) (by decide +kernel)⟩
theorem lw_p36 : lw_okq (⟨"RoadCountsModel", "number", "(I)I"⟩, 27) := ⟨⟨by decide +kernel, by decide +kernel⟩, List.mem_of_getElem? (i := 509) (by decide +kernel), List.mem_of_getElem? (i := 791) (by decide +kernel), List.mem_of_getElem? (i := 792) (by decide +kernel)⟩
theorem lw_p37 : lw_okq (⟨"RoadCountsModel", "kindOf", "(II)I"⟩, 27) := ⟨⟨by decide +kernel, by decide +kernel⟩, List.mem_of_getElem? (i := 509) (by decide +kernel), List.mem_of_getElem? (i := 799) (by decide +kernel), List.mem_of_getElem? (i := 800) (by decide +kernel)⟩
def lw_privs_3 : List (MethodName × Nat) := [(⟨"RoadCountsModel", "seesDigit", "()Z"⟩, 27), (⟨"RoadCountsModel", "here", "()I"⟩, 27), (⟨"RoadCountsModel", "fails", "(II)V"⟩, 27), (⟨"RoadCountsModel", "must", "(I)V"⟩, 27), (⟨"RoadCountsModel", "number", "(I)I"⟩, 27), (⟨"RoadCountsModel", "kindOf", "(II)I"⟩, 27)]
theorem lw_r3 : ∀ q ∈ lw_privs_3, lw_okq q := List.forall_mem_cons.mpr ⟨lw_p32, List.forall_mem_cons.mpr ⟨lw_p33, List.forall_mem_cons.mpr ⟨lw_p34, List.forall_mem_cons.mpr ⟨lw_p35, List.forall_mem_cons.mpr ⟨lw_p36, List.forall_mem_cons.mpr ⟨lw_p37, fun _ h => absurd h List.not_mem_nil⟩⟩⟩⟩⟩⟩
def lw_privs : List (MethodName × Nat) := lw_privs_1 ++ (lw_privs_2 ++ (lw_privs_3))
def lw_tbl : List Cond := k2_sels lw_privs ++ tables_1
theorem lw_privs_ok : ∀ q ∈ lw_privs, lw_okq q := by
  show ∀ q ∈ lw_privs_1 ++ (lw_privs_2 ++ (lw_privs_3)), lw_okq q
  exact List.forall_mem_append.mpr ⟨lw_r1, List.forall_mem_append.mpr ⟨lw_r2, lw_r3⟩⟩

/-! classes: 0 Almanac 1 Counts 2 Network 3 Road 4 Rules 5 RulesReader 6 Tape 7 RoadCounts 8 RoadCountsModel -/
def z_R0 : String := "RoadCounts$Almanac"
def z_F0 : u_T := fun k => match k with
  | 0 => ("RoadCounts$Almanac", "weekdayWeights", "[[I", true)
  | 1 => ("RoadCounts$Almanac", "monthWeights", "[[I", true)
  | 2 => ("RoadCounts$Almanac", "isHoliday", "[Z", true)
  | 3 => ("RoadCounts$Almanac", "holidayDays", "[I", true)
  | _ => ("RoadCounts$Almanac", "holidays", "I", false)
def z_t0 : Nat → FieldType := fun k => match k with
  | 0 => (.array (.array .int))
  | 1 => (.array (.array .int))
  | 2 => (.array .boolean)
  | 3 => (.array .int)
  | _ => .int
theorem z_n0 : ∀ a, a < 5 → ∀ b, b < 5 → a ≠ b → (z_F0 a).2.1 ≠ (z_F0 b).2.1 := by decide +kernel
theorem z_to0 : ∀ k, k < 5 → parseFieldDescriptor (z_F0 k).2.2.1 = some (z_t0 k) := by decide +kernel
def z_d0 : List Value := [.null, .null, .null, .null, .int 0]
theorem z_do0 : ∀ j, j < 5 → defaultValue (z_t0 j) = vp_V z_d0 j := by decide +kernel
def z_R1 : String := "RoadCounts$Counts"
def z_F1 : u_T := fun k => match k with
  | 0 => ("RoadCounts$Counts", "days", "[I", true)
  | 1 => ("RoadCounts$Counts", "counted", "[I", true)
  | _ => ("RoadCounts$Counts", "size", "I", false)
def z_t1 : Nat → FieldType := fun k => match k with
  | 0 => (.array .int)
  | 1 => (.array .int)
  | _ => .int
theorem z_n1 : ∀ a, a < 3 → ∀ b, b < 3 → a ≠ b → (z_F1 a).2.1 ≠ (z_F1 b).2.1 := by decide +kernel
theorem z_to1 : ∀ k, k < 3 → parseFieldDescriptor (z_F1 k).2.2.1 = some (z_t1 k) := by decide +kernel
def z_d1 : List Value := [.null, .null, .int 0]
theorem z_do1 : ∀ j, j < 3 → defaultValue (z_t1 j) = vp_V z_d1 j := by decide +kernel
def z_R2 : String := "RoadCounts$Network"
def z_F2 : u_T := fun k => match k with
  | 0 => ("RoadCounts$Network", "roads", "[LRoadCounts$Road;", true)
  | 1 => ("RoadCounts$Network", "roadsAt", "[I", true)
  | 2 => ("RoadCounts$Network", "loads", "[J", true)
  | 3 => ("RoadCounts$Network", "followers", "[I", true)
  | 4 => ("RoadCounts$Network", "followedAt", "[I", true)
  | 5 => ("RoadCounts$Network", "steps", "I", false)
  | 6 => ("RoadCounts$Network", "size", "I", false)
  | 7 => ("RoadCounts$Network", "known", "I", false)
  | _ => ("RoadCounts$Network", "told", "I", false)
def z_t2 : Nat → FieldType := fun k => match k with
  | 0 => (.array (.object "RoadCounts$Road"))
  | 1 => (.array .int)
  | 2 => (.array .long)
  | 3 => (.array .int)
  | 4 => (.array .int)
  | 5 => .int
  | 6 => .int
  | 7 => .int
  | _ => .int
theorem z_n2 : ∀ a, a < 9 → ∀ b, b < 9 → a ≠ b → (z_F2 a).2.1 ≠ (z_F2 b).2.1 := by decide +kernel
theorem z_to2 : ∀ k, k < 9 → parseFieldDescriptor (z_F2 k).2.2.1 = some (z_t2 k) := by decide +kernel
def z_d2 : List Value := [.null, .null, .null, .null, .null, .int 0, .int 0, .int 0, .int 0]
theorem z_do2 : ∀ j, j < 9 → defaultValue (z_t2 j) = vp_V z_d2 j := by decide +kernel
def z_R3 : String := "RoadCounts$Road"
def z_F3 : u_T := fun k => match k with
  | 0 => ("RoadCounts$Road", "from", "I", true)
  | 1 => ("RoadCounts$Road", "to", "I", true)
  | 2 => ("RoadCounts$Road", "price", "I", true)
  | 3 => ("RoadCounts$Road", "counts", "LRoadCounts$Counts;", true)
  | 4 => ("RoadCounts$Road", "passed", "[I", true)
  | _ => ("RoadCounts$Road", "form", "I", false)
def z_t3 : Nat → FieldType := fun k => match k with
  | 0 => .int
  | 1 => .int
  | 2 => .int
  | 3 => (.object "RoadCounts$Counts")
  | 4 => (.array .int)
  | _ => .int
theorem z_n3 : ∀ a, a < 6 → ∀ b, b < 6 → a ≠ b → (z_F3 a).2.1 ≠ (z_F3 b).2.1 := by decide +kernel
theorem z_to3 : ∀ k, k < 6 → parseFieldDescriptor (z_F3 k).2.2.1 = some (z_t3 k) := by decide +kernel
def z_d3 : List Value := [.int 0, .int 0, .int 0, .null, .null, .int 0]
theorem z_do3 : ∀ j, j < 6 → defaultValue (z_t3 j) = vp_V z_d3 j := by decide +kernel
def z_R4 : String := "RoadCounts$Rules"
def z_F4 : u_T := fun k => match k with
  | 0 => ("RoadCounts$Rules", "kindOfClause", "[I", true)
  | 1 => ("RoadCounts$Rules", "spansOfClause", "[I", true)
  | 2 => ("RoadCounts$Rules", "least", "[[I", true)
  | 3 => ("RoadCounts$Rules", "greatest", "[[I", true)
  | _ => ("RoadCounts$Rules", "size", "I", false)
def z_t4 : Nat → FieldType := fun k => match k with
  | 0 => (.array .int)
  | 1 => (.array .int)
  | 2 => (.array (.array .int))
  | 3 => (.array (.array .int))
  | _ => .int
theorem z_n4 : ∀ a, a < 5 → ∀ b, b < 5 → a ≠ b → (z_F4 a).2.1 ≠ (z_F4 b).2.1 := by decide +kernel
theorem z_to4 : ∀ k, k < 5 → parseFieldDescriptor (z_F4 k).2.2.1 = some (z_t4 k) := by decide +kernel
def z_d4 : List Value := [.null, .null, .null, .null, .int 0]
theorem z_do4 : ∀ j, j < 5 → defaultValue (z_t4 j) = vp_V z_d4 j := by decide +kernel
def z_R5 : String := "RoadCounts$RulesReader"
def z_F5 : u_T := fun k => match k with
  | 0 => ("RoadCounts$RulesReader", "text", "LRoadCounts$Tape;", true)
  | 1 => ("RoadCounts$RulesReader", "length", "I", false)
  | 2 => ("RoadCounts$RulesReader", "place", "I", false)
  | _ => ("RoadCounts$RulesReader", "number", "I", false)
def z_t5 : Nat → FieldType := fun k => match k with
  | 0 => (.object "RoadCounts$Tape")
  | 1 => .int
  | 2 => .int
  | _ => .int
theorem z_n5 : ∀ a, a < 4 → ∀ b, b < 4 → a ≠ b → (z_F5 a).2.1 ≠ (z_F5 b).2.1 := by decide +kernel
theorem z_to5 : ∀ k, k < 4 → parseFieldDescriptor (z_F5 k).2.2.1 = some (z_t5 k) := by decide +kernel
def z_d5 : List Value := [.null, .int 0, .int 0, .int 0]
theorem z_do5 : ∀ j, j < 4 → defaultValue (z_t5 j) = vp_V z_d5 j := by decide +kernel
def z_R6 : String := "RoadCounts$Tape"
def z_F6 : u_T := fun k => match k with
  | 0 => ("RoadCounts$Tape", "bytes", "[I", true)
  | _ => ("RoadCounts$Tape", "length", "I", false)
def z_t6 : Nat → FieldType := fun k => match k with
  | 0 => (.array .int)
  | _ => .int
theorem z_n6 : ∀ a, a < 2 → ∀ b, b < 2 → a ≠ b → (z_F6 a).2.1 ≠ (z_F6 b).2.1 := by decide +kernel
theorem z_to6 : ∀ k, k < 2 → parseFieldDescriptor (z_F6 k).2.2.1 = some (z_t6 k) := by decide +kernel
def z_d6 : List Value := [.null, .int 0]
theorem z_do6 : ∀ j, j < 2 → defaultValue (z_t6 j) = vp_V z_d6 j := by decide +kernel
def z_R7 : String := "RoadCounts"
def z_F7 : u_T := fun k => match k with
  | 0 => ("RoadCounts", "almanac", "LRoadCounts$Almanac;", true)
  | 1 => ("RoadCounts", "network", "LRoadCounts$Network;", true)
  | 2 => ("RoadCounts", "tape", "LRoadCounts$Tape;", true)
  | 3 => ("RoadCounts", "reader", "LRoadCounts$RulesReader;", true)
  | 4 => ("RoadCounts", "inForce", "LRoadCounts$Rules;", false)
  | _ => ("RoadCounts", "spare", "LRoadCounts$Rules;", false)
def z_t7 : Nat → FieldType := fun k => match k with
  | 0 => (.object "RoadCounts$Almanac")
  | 1 => (.object "RoadCounts$Network")
  | 2 => (.object "RoadCounts$Tape")
  | 3 => (.object "RoadCounts$RulesReader")
  | 4 => (.object "RoadCounts$Rules")
  | _ => (.object "RoadCounts$Rules")
theorem z_n7 : ∀ a, a < 6 → ∀ b, b < 6 → a ≠ b → (z_F7 a).2.1 ≠ (z_F7 b).2.1 := by decide +kernel
theorem z_to7 : ∀ k, k < 6 → parseFieldDescriptor (z_F7 k).2.2.1 = some (z_t7 k) := by decide +kernel
def z_d7 : List Value := [.null, .null, .null, .null, .null, .null]
theorem z_do7 : ∀ j, j < 6 → defaultValue (z_t7 j) = vp_V z_d7 j := by decide +kernel
def z_R8 : String := "RoadCountsModel"
def z_F8 : u_T := fun k => match k with
  | 0 => ("RoadCountsModel", "tape", "[B", true)
  | 1 => ("RoadCountsModel", "taped", "I", false)
  | 2 => ("RoadCountsModel", "roads", "I", false)
  | 3 => ("RoadCountsModel", "holidays", "I", false)
  | 4 => ("RoadCountsModel", "isHoliday", "[Z", true)
  | 5 => ("RoadCountsModel", "byWeekday", "[I", true)
  | 6 => ("RoadCountsModel", "byMonth", "[I", true)
  | 7 => ("RoadCountsModel", "from", "[I", true)
  | 8 => ("RoadCountsModel", "to", "[I", true)
  | 9 => ("RoadCountsModel", "price", "[I", true)
  | 10 => ("RoadCountsModel", "shape", "[I", true)
  | 11 => ("RoadCountsModel", "counted", "[I", true)
  | 12 => ("RoadCountsModel", "counts", "[I", true)
  | 13 => ("RoadCountsModel", "passed", "[I", true)
  | 14 => ("RoadCountsModel", "clauses", "I", false)
  | 15 => ("RoadCountsModel", "read", "I", false)
  | 16 => ("RoadCountsModel", "kind", "[I", true)
  | 17 => ("RoadCountsModel", "spans", "[I", true)
  | 18 => ("RoadCountsModel", "ends", "[I", true)
  | 19 => ("RoadCountsModel", "readKind", "[I", true)
  | 20 => ("RoadCountsModel", "readSpans", "[I", true)
  | 21 => ("RoadCountsModel", "readEnds", "[I", true)
  | 22 => ("RoadCountsModel", "load", "[J", true)
  | 23 => ("RoadCountsModel", "at", "[I", true)
  | 24 => ("RoadCountsModel", "place", "I", false)
  | 25 => ("RoadCountsModel", "end", "I", false)
  | _ => ("RoadCountsModel", "bad", "I", false)
def z_t8 : Nat → FieldType := fun k => match k with
  | 0 => (.array .byte)
  | 1 => .int
  | 2 => .int
  | 3 => .int
  | 4 => (.array .boolean)
  | 5 => (.array .int)
  | 6 => (.array .int)
  | 7 => (.array .int)
  | 8 => (.array .int)
  | 9 => (.array .int)
  | 10 => (.array .int)
  | 11 => (.array .int)
  | 12 => (.array .int)
  | 13 => (.array .int)
  | 14 => .int
  | 15 => .int
  | 16 => (.array .int)
  | 17 => (.array .int)
  | 18 => (.array .int)
  | 19 => (.array .int)
  | 20 => (.array .int)
  | 21 => (.array .int)
  | 22 => (.array .long)
  | 23 => (.array .int)
  | 24 => .int
  | 25 => .int
  | _ => .int
theorem z_n8 : ∀ a, a < 27 → ∀ b, b < 27 → a ≠ b → (z_F8 a).2.1 ≠ (z_F8 b).2.1 := by decide +kernel
theorem z_to8 : ∀ k, k < 27 → parseFieldDescriptor (z_F8 k).2.2.1 = some (z_t8 k) := by decide +kernel
def z_d8 : List Value := [.null, .int 0, .int 0, .int 0, .null, .null, .null, .null, .null, .null, .null, .null, .null, .null, .int 0, .int 0, .null, .null, .null, .null, .null, .null, .null, .null, .int 0, .int 0, .int 0]
theorem z_do8 : ∀ j, j < 27 → defaultValue (z_t8 j) = vp_V z_d8 j := by decide +kernel
abbrev z_cl : List vw_C := [(z_R0, z_F0, 5), (z_R1, z_F1, 3), (z_R2, z_F2, 9), (z_R3, z_F3, 6), (z_R4, z_F4, 5), (z_R5, z_F5, 4), (z_R6, z_F6, 2), (z_R7, z_F7, 6), (z_R8, z_F8, 27)]
/-- the words that every method has: those that stay -/
def z_T : List Cond := lw_tbl.filter goodWord
/-- the words on nest mates, and arrays of references -/
def z_N : List Cond := lw_tbl.filter (fun w => match w with | .fieldLinkNest .. => true | .methodLinkNest .. => true | _ => false)
theorem z_inT {w : Cond} (h : w ∈ lw_tbl) (g : goodWord w = true) : w ∈ z_T := List.mem_filter.mpr ⟨h, g⟩
theorem z_goodT : GoodIn z_T z_T := fun w h => ⟨h, good_of_word (List.mem_filter.mp h).2⟩
theorem z_w0 : ∀ w ∈ u_ws z_R0 z_F0 5, w ∈ z_T := by
  intro w hw
  have h : u_ws z_R0 z_F0 5 = [35, 37, 39, 41, 43].filterMap (fun i => tables_1[i]?) := by decide +kernel
  have g : (u_ws z_R0 z_F0 5).all goodWord = true := by decide +kernel
  refine z_inT (List.mem_append_right _ ?_) (List.all_eq_true.mp g w hw)
  rw [h] at hw
  obtain ⟨i, -, hi⟩ := List.mem_filterMap.mp hw
  exact List.mem_of_getElem? hi
theorem z_w1 : ∀ w ∈ u_ws z_R1 z_F1 3, w ∈ z_T := by
  intro w hw
  have h : u_ws z_R1 z_F1 3 = [221, 223, 225].filterMap (fun i => tables_1[i]?) := by decide +kernel
  have g : (u_ws z_R1 z_F1 3).all goodWord = true := by decide +kernel
  refine z_inT (List.mem_append_right _ ?_) (List.all_eq_true.mp g w hw)
  rw [h] at hw
  obtain ⟨i, -, hi⟩ := List.mem_filterMap.mp hw
  exact List.mem_of_getElem? hi
theorem z_w2 : ∀ w ∈ u_ws z_R2 z_F2 9, w ∈ z_T := by
  intro w hw
  have h : u_ws z_R2 z_F2 9 = [68, 70, 72, 74, 76, 78, 80, 82, 84].filterMap (fun i => tables_1[i]?) := by decide +kernel
  have g : (u_ws z_R2 z_F2 9).all goodWord = true := by decide +kernel
  refine z_inT (List.mem_append_right _ ?_) (List.all_eq_true.mp g w hw)
  rw [h] at hw
  obtain ⟨i, -, hi⟩ := List.mem_filterMap.mp hw
  exact List.mem_of_getElem? hi
theorem z_w3 : ∀ w ∈ u_ws z_R3 z_F3 6, w ∈ z_T := by
  intro w hw
  have h : u_ws z_R3 z_F3 6 = [243, 245, 247, 249, 251, 253].filterMap (fun i => tables_1[i]?) := by decide +kernel
  have g : (u_ws z_R3 z_F3 6).all goodWord = true := by decide +kernel
  refine z_inT (List.mem_append_right _ ?_) (List.all_eq_true.mp g w hw)
  rw [h] at hw
  obtain ⟨i, -, hi⟩ := List.mem_filterMap.mp hw
  exact List.mem_of_getElem? hi
theorem z_w4 : ∀ w ∈ u_ws z_R4 z_F4 5, w ∈ z_T := by
  intro w hw
  have h : u_ws z_R4 z_F4 5 = [135, 137, 139, 141, 143].filterMap (fun i => tables_1[i]?) := by decide +kernel
  have g : (u_ws z_R4 z_F4 5).all goodWord = true := by decide +kernel
  refine z_inT (List.mem_append_right _ ?_) (List.all_eq_true.mp g w hw)
  rw [h] at hw
  obtain ⟨i, -, hi⟩ := List.mem_filterMap.mp hw
  exact List.mem_of_getElem? hi
theorem z_w5 : ∀ w ∈ u_ws z_R5 z_F5 4, w ∈ z_T := by
  intro w hw
  have h : u_ws z_R5 z_F5 4 = [112, 114, 116, 118].filterMap (fun i => tables_1[i]?) := by decide +kernel
  have g : (u_ws z_R5 z_F5 4).all goodWord = true := by decide +kernel
  refine z_inT (List.mem_append_right _ ?_) (List.all_eq_true.mp g w hw)
  rw [h] at hw
  obtain ⟨i, -, hi⟩ := List.mem_filterMap.mp hw
  exact List.mem_of_getElem? hi
theorem z_w6 : ∀ w ∈ u_ws z_R6 z_F6 2, w ∈ z_T := by
  intro w hw
  have h : u_ws z_R6 z_F6 2 = [97, 99].filterMap (fun i => tables_1[i]?) := by decide +kernel
  have g : (u_ws z_R6 z_F6 2).all goodWord = true := by decide +kernel
  refine z_inT (List.mem_append_right _ ?_) (List.all_eq_true.mp g w hw)
  rw [h] at hw
  obtain ⟨i, -, hi⟩ := List.mem_filterMap.mp hw
  exact List.mem_of_getElem? hi
theorem z_w7 : ∀ w ∈ u_ws z_R7 z_F7 6, w ∈ z_T := by
  intro w hw
  have h : u_ws z_R7 z_F7 6 = [152, 154, 156, 158, 160, 162].filterMap (fun i => tables_1[i]?) := by decide +kernel
  have g : (u_ws z_R7 z_F7 6).all goodWord = true := by decide +kernel
  refine z_inT (List.mem_append_right _ ?_) (List.all_eq_true.mp g w hw)
  rw [h] at hw
  obtain ⟨i, -, hi⟩ := List.mem_filterMap.mp hw
  exact List.mem_of_getElem? hi
theorem z_w8 : ∀ w ∈ u_ws z_R8 z_F8 27, w ∈ z_T := by
  intro w hw
  have h : u_ws z_R8 z_F8 27 = [541, 543, 545, 547, 549, 551, 553, 555, 557, 559, 561, 563, 565, 567, 569, 571, 573, 575, 577, 579, 581, 583, 585, 587, 589, 591, 593].filterMap (fun i => tables_1[i]?) := by decide +kernel
  have g : (u_ws z_R8 z_F8 27).all goodWord = true := by decide +kernel
  refine z_inT (List.mem_append_right _ ?_) (List.all_eq_true.mp g w hw)
  rw [h] at hw
  obtain ⟨i, -, hi⟩ := List.mem_filterMap.mp hw
  exact List.mem_of_getElem? hi
theorem z_wT : ∀ (ci : Nat) (r : vw_C), z_cl[ci]? = some r → ∀ w ∈ u_ws r.1 r.2.1 r.2.2, w ∈ z_T := by
  intro ci r h
  match ci, h with
  | 0, h => cases h; exact z_w0
  | 1, h => cases h; exact z_w1
  | 2, h => cases h; exact z_w2
  | 3, h => cases h; exact z_w3
  | 4, h => cases h; exact z_w4
  | 5, h => cases h; exact z_w5
  | 6, h => cases h; exact z_w6
  | 7, h => cases h; exact z_w7
  | 8, h => cases h; exact z_w8
  | k + 9, h => simp [z_cl] at h
def z_ty (ci : Nat) : Nat → FieldType := match ci with
  | 0 => z_t0
  | 1 => z_t1
  | 2 => z_t2
  | 3 => z_t3
  | 4 => z_t4
  | 5 => z_t5
  | 6 => z_t6
  | 7 => z_t7
  | _ => z_t8
def z_df (ci : Nat) : List Value := match ci with
  | 0 => z_d0
  | 1 => z_d1
  | 2 => z_d2
  | 3 => z_d3
  | 4 => z_d4
  | 5 => z_d5
  | 6 => z_d6
  | 7 => z_d7
  | _ => z_d8
theorem z_nT : ∀ (ci : Nat) (r : vw_C), z_cl[ci]? = some r → ∀ a, a < r.2.2 → ∀ b, b < r.2.2 → a ≠ b → (r.2.1 a).2.1 ≠ (r.2.1 b).2.1 := by
  intro ci r h
  match ci, h with
  | 0, h => cases h; exact z_n0
  | 1, h => cases h; exact z_n1
  | 2, h => cases h; exact z_n2
  | 3, h => cases h; exact z_n3
  | 4, h => cases h; exact z_n4
  | 5, h => cases h; exact z_n5
  | 6, h => cases h; exact z_n6
  | 7, h => cases h; exact z_n7
  | 8, h => cases h; exact z_n8
  | k + 9, h => simp [z_cl] at h
theorem z_tyT : ∀ (ci : Nat) (r : vw_C), z_cl[ci]? = some r → ∀ k, k < r.2.2 → parseFieldDescriptor (r.2.1 k).2.2.1 = some (z_ty ci k) := by
  intro ci r h
  match ci, h with
  | 0, h => cases h; exact z_to0
  | 1, h => cases h; exact z_to1
  | 2, h => cases h; exact z_to2
  | 3, h => cases h; exact z_to3
  | 4, h => cases h; exact z_to4
  | 5, h => cases h; exact z_to5
  | 6, h => cases h; exact z_to6
  | 7, h => cases h; exact z_to7
  | 8, h => cases h; exact z_to8
  | k + 9, h => simp [z_cl] at h
theorem z_dfT : ∀ (ci : Nat) (r : vw_C), z_cl[ci]? = some r → ∀ j, j < r.2.2 → defaultValue (z_ty ci j) = vp_V (z_df ci) j := by
  intro ci r h
  match ci, h with
  | 0, h => cases h; exact z_do0
  | 1, h => cases h; exact z_do1
  | 2, h => cases h; exact z_do2
  | 3, h => cases h; exact z_do3
  | 4, h => cases h; exact z_do4
  | 5, h => cases h; exact z_do5
  | 6, h => cases h; exact z_do6
  | 7, h => cases h; exact z_do7
  | 8, h => cases h; exact z_do8
  | k + 9, h => simp [z_cl] at h
