section
-- ===== PART A: goes FIRST, ahead of the names: the tables' words, and 'selects' of the private methods out of them =====
/-- a private method of a class that the tables say can be made, by its rows of tables_1 -/
def lw_okq (q : MethodName × Nat) : Prop := (q.1.cls ≠ "java/lang/invoke/MethodHandle" ∧ q.1.cls ≠ "java/lang/invoke/VarHandle") ∧ Cond.instantiable q.1.cls q.2 ∈ tables_1 ∧ Cond.privateMethod q.1 ∈ tables_1 ∧ Cond.instanceMethod q.1 ∈ tables_1
theorem lw_p0 : lw_okq (⟨"RoadCounts$Counts", "placeOf", "(I)I"⟩, 3) := ⟨⟨by decide +kernel, by decide +kernel⟩, List.mem_of_getElem? (i := 212) (by decide +kernel), List.mem_of_getElem? (i := 275) (by decide +kernel), List.mem_of_getElem? (i := 276) (by decide +kernel)⟩
theorem lw_p1 : lw_okq (⟨"RoadCounts$Counts", "usedShares", "(LRoadCounts$Almanac;I)J"⟩, 3) := ⟨⟨by decide +kernel, by decide +kernel⟩, List.mem_of_getElem? (i := 212) (by decide +kernel), List.mem_of_getElem? (i := 288) (by decide +kernel), List.mem_of_getElem? (i := 289) (by decide +kernel)⟩
theorem lw_p2 : lw_okq (⟨"RoadCounts$Counts", "isUsed", "(ILRoadCounts$Almanac;)Z"⟩, 3) := ⟨⟨by decide +kernel, by decide +kernel⟩, List.mem_of_getElem? (i := 212) (by decide +kernel), List.mem_of_getElem? (i := 292) (by decide +kernel), List.mem_of_getElem? (i := 293) (by decide +kernel)⟩
theorem lw_p3 : lw_okq (⟨"RoadCounts$Counts", "usedTotal", "(LRoadCounts$Almanac;)J"⟩, 3) := ⟨⟨by decide +kernel, by decide +kernel⟩, List.mem_of_getElem? (i := 212) (by decide +kernel), List.mem_of_getElem? (i := 300) (by decide +kernel), List.mem_of_getElem? (i := 301) (by decide +kernel)⟩
theorem lw_p4 : lw_okq (⟨"RoadCounts$Counts", "misfitTimesShares", "(LRoadCounts$Almanac;IJ)J"⟩, 3) := ⟨⟨by decide +kernel, by decide +kernel⟩, List.mem_of_getElem? (i := 212) (by decide +kernel), List.mem_of_getElem? (i := 331) (by decide +kernel), List.mem_of_getElem? (i := 332) (by decide +kernel)⟩
theorem lw_p5 : lw_okq (⟨"RoadCounts$Network", "follow", "(I)I"⟩, 9) := ⟨⟨by decide +kernel, by decide +kernel⟩, List.mem_of_getElem? (i := 49) (by decide +kernel), List.mem_of_getElem? (i := 348) (by decide +kernel), List.mem_of_getElem? (i := 349) (by decide +kernel)⟩
theorem lw_p6 : lw_okq (⟨"RoadCounts$Network", "dearestOutside", "(I)I"⟩, 9) := ⟨⟨by decide +kernel, by decide +kernel⟩, List.mem_of_getElem? (i := 49) (by decide +kernel), List.mem_of_getElem? (i := 416) (by decide +kernel), List.mem_of_getElem? (i := 417) (by decide +kernel)⟩
theorem lw_p7 : lw_okq (⟨"RoadCounts$RulesReader", "readClause", "(LRoadCounts$Rules;)I"⟩, 4) := ⟨⟨by decide +kernel, by decide +kernel⟩, List.mem_of_getElem? (i := 103) (by decide +kernel), List.mem_of_getElem? (i := 437) (by decide +kernel), List.mem_of_getElem? (i := 438) (by decide +kernel)⟩
theorem lw_p8 : lw_okq (⟨"RoadCounts$RulesReader", "sign", "()I"⟩, 4) := ⟨⟨by decide +kernel, by decide +kernel⟩, List.mem_of_getElem? (i := 103) (by decide +kernel), List.mem_of_getElem? (i := 441) (by decide +kernel), List.mem_of_getElem? (i := 442) (by decide +kernel)⟩
theorem lw_p9 : lw_okq (⟨"RoadCounts$RulesReader", "readSpans", "(LRoadCounts$Rules;)I"⟩, 4) := ⟨⟨by decide +kernel, by decide +kernel⟩, List.mem_of_getElem? (i := 103) (by decide +kernel), List.mem_of_getElem? (i := 456) (by decide +kernel), List.mem_of_getElem? (i := 457) (by decide +kernel)⟩
theorem lw_p10 : lw_okq (⟨"RoadCounts$RulesReader", "readSpan", "(LRoadCounts$Rules;)I"⟩, 4) := ⟨⟨by decide +kernel, by decide +kernel⟩, List.mem_of_getElem? (i := 103) (by decide +kernel), List.mem_of_getElem? (i := 460) (by decide +kernel), List.mem_of_getElem? (i := 461) (by decide +kernel)⟩
theorem lw_p11 : lw_okq (⟨"RoadCounts$RulesReader", "readNumber", "(I)I"⟩, 4) := ⟨⟨by decide +kernel, by decide +kernel⟩, List.mem_of_getElem? (i := 103) (by decide +kernel), List.mem_of_getElem? (i := 464) (by decide +kernel), List.mem_of_getElem? (i := 465) (by decide +kernel)⟩
theorem lw_p12 : lw_okq (⟨"RoadCounts$Rules", "isWithin", "(ILRoadCounts$Tape;I)Z"⟩, 5) := ⟨⟨by decide +kernel, by decide +kernel⟩, List.mem_of_getElem? (i := 122) (by decide +kernel), List.mem_of_getElem? (i := 481) (by decide +kernel), List.mem_of_getElem? (i := 482) (by decide +kernel)⟩
theorem lw_p13 : lw_okq (⟨"RoadCountsModel", "wholeOf", "(I)J"⟩, 27) := ⟨⟨by decide +kernel, by decide +kernel⟩, List.mem_of_getElem? (i := 509) (by decide +kernel), List.mem_of_getElem? (i := 625) (by decide +kernel), List.mem_of_getElem? (i := 626) (by decide +kernel)⟩
theorem lw_p14 : lw_okq (⟨"RoadCountsModel", "share", "(II)J"⟩, 27) := ⟨⟨by decide +kernel, by decide +kernel⟩, List.mem_of_getElem? (i := 509) (by decide +kernel), List.mem_of_getElem? (i := 629) (by decide +kernel), List.mem_of_getElem? (i := 630) (by decide +kernel)⟩
theorem lw_p15 : lw_okq (⟨"RoadCountsModel", "isRoad", "(I)Z"⟩, 27) := ⟨⟨by decide +kernel, by decide +kernel⟩, List.mem_of_getElem? (i := 509) (by decide +kernel), List.mem_of_getElem? (i := 647) (by decide +kernel), List.mem_of_getElem? (i := 648) (by decide +kernel)⟩
def lw_privs_1 : List (MethodName × Nat) := [(⟨"RoadCounts$Counts", "placeOf", "(I)I"⟩, 3), (⟨"RoadCounts$Counts", "usedShares", "(LRoadCounts$Almanac;I)J"⟩, 3), (⟨"RoadCounts$Counts", "isUsed", "(ILRoadCounts$Almanac;)Z"⟩, 3), (⟨"RoadCounts$Counts", "usedTotal", "(LRoadCounts$Almanac;)J"⟩, 3), (⟨"RoadCounts$Counts", "misfitTimesShares", "(LRoadCounts$Almanac;IJ)J"⟩, 3), (⟨"RoadCounts$Network", "follow", "(I)I"⟩, 9), (⟨"RoadCounts$Network", "dearestOutside", "(I)I"⟩, 9), (⟨"RoadCounts$RulesReader", "readClause", "(LRoadCounts$Rules;)I"⟩, 4), (⟨"RoadCounts$RulesReader", "sign", "()I"⟩, 4), (⟨"RoadCounts$RulesReader", "readSpans", "(LRoadCounts$Rules;)I"⟩, 4), (⟨"RoadCounts$RulesReader", "readSpan", "(LRoadCounts$Rules;)I"⟩, 4), (⟨"RoadCounts$RulesReader", "readNumber", "(I)I"⟩, 4), (⟨"RoadCounts$Rules", "isWithin", "(ILRoadCounts$Tape;I)Z"⟩, 5), (⟨"RoadCountsModel", "wholeOf", "(I)J"⟩, 27), (⟨"RoadCountsModel", "share", "(II)J"⟩, 27), (⟨"RoadCountsModel", "isRoad", "(I)Z"⟩, 27)]
theorem lw_r1 : ∀ q ∈ lw_privs_1, lw_okq q := List.forall_mem_cons.mpr ⟨lw_p0, List.forall_mem_cons.mpr ⟨lw_p1, List.forall_mem_cons.mpr ⟨lw_p2, List.forall_mem_cons.mpr ⟨lw_p3, List.forall_mem_cons.mpr ⟨lw_p4, List.forall_mem_cons.mpr ⟨lw_p5, List.forall_mem_cons.mpr ⟨lw_p6, List.forall_mem_cons.mpr ⟨lw_p7, List.forall_mem_cons.mpr ⟨lw_p8, List.forall_mem_cons.mpr ⟨lw_p9, List.forall_mem_cons.mpr ⟨lw_p10, List.forall_mem_cons.mpr ⟨lw_p11, List.forall_mem_cons.mpr ⟨lw_p12, List.forall_mem_cons.mpr ⟨lw_p13, List.forall_mem_cons.mpr ⟨lw_p14, List.forall_mem_cons.mpr ⟨lw_p15, fun _ h => absurd h List.not_mem_nil⟩⟩⟩⟩⟩⟩⟩⟩⟩⟩⟩⟩⟩⟩⟩⟩
theorem lw_p16 : lw_okq (⟨"RoadCountsModel", "usedOf", "(I)I"⟩, 27) := ⟨⟨by decide +kernel, by decide +kernel⟩, List.mem_of_getElem? (i := 509) (by decide +kernel), List.mem_of_getElem? (i := 660) (by decide +kernel), List.mem_of_getElem? (i := 661) (by decide +kernel)⟩
theorem lw_p17 : lw_okq (⟨"RoadCountsModel", "isUsed", "(II)Z"⟩, 27) := ⟨⟨by decide +kernel, by decide +kernel⟩, List.mem_of_getElem? (i := 509) (by decide +kernel), List.mem_of_getElem? (i := 664) (by decide +kernel), List.mem_of_getElem? (i := 665) (by decide +kernel)⟩
theorem lw_p18 : lw_okq (⟨"RoadCountsModel", "yearOf", "(I)J"⟩, 27) := ⟨⟨by decide +kernel, by decide +kernel⟩, List.mem_of_getElem? (i := 509) (by decide +kernel), List.mem_of_getElem? (i := 668) (by decide +kernel), List.mem_of_getElem? (i := 669) (by decide +kernel)⟩
theorem lw_p19 : lw_okq (⟨"RoadCountsModel", "countsOf", "(I)J"⟩, 27) := ⟨⟨by decide +kernel, by decide +kernel⟩, List.mem_of_getElem? (i := 509) (by decide +kernel), List.mem_of_getElem? (i := 672) (by decide +kernel), List.mem_of_getElem? (i := 673) (by decide +kernel)⟩
theorem lw_p20 : lw_okq (⟨"RoadCountsModel", "sharesOf", "(II)J"⟩, 27) := ⟨⟨by decide +kernel, by decide +kernel⟩, List.mem_of_getElem? (i := 509) (by decide +kernel), List.mem_of_getElem? (i := 676) (by decide +kernel), List.mem_of_getElem? (i := 677) (by decide +kernel)⟩
theorem lw_p21 : lw_okq (⟨"RoadCountsModel", "misfit", "(II)J"⟩, 27) := ⟨⟨by decide +kernel, by decide +kernel⟩, List.mem_of_getElem? (i := 509) (by decide +kernel), List.mem_of_getElem? (i := 688) (by decide +kernel), List.mem_of_getElem? (i := 689) (by decide +kernel)⟩
theorem lw_p22 : lw_okq (⟨"RoadCountsModel", "knownRoads", "()I"⟩, 27) := ⟨⟨by decide +kernel, by decide +kernel⟩, List.mem_of_getElem? (i := 509) (by decide +kernel), List.mem_of_getElem? (i := 699) (by decide +kernel), List.mem_of_getElem? (i := 700) (by decide +kernel)⟩
theorem lw_p23 : lw_okq (⟨"RoadCountsModel", "works", "()I"⟩, 27) := ⟨⟨by decide +kernel, by decide +kernel⟩, List.mem_of_getElem? (i := 509) (by decide +kernel), List.mem_of_getElem? (i := 706) (by decide +kernel), List.mem_of_getElem? (i := 707) (by decide +kernel)⟩
theorem lw_p24 : lw_okq (⟨"RoadCountsModel", "grows", "(I)I"⟩, 27) := ⟨⟨by decide +kernel, by decide +kernel⟩, List.mem_of_getElem? (i := 509) (by decide +kernel), List.mem_of_getElem? (i := 710) (by decide +kernel), List.mem_of_getElem? (i := 711) (by decide +kernel)⟩
theorem lw_p25 : lw_okq (⟨"RoadCountsModel", "roadsAt", "(I)I"⟩, 27) := ⟨⟨by decide +kernel, by decide +kernel⟩, List.mem_of_getElem? (i := 509) (by decide +kernel), List.mem_of_getElem? (i := 714) (by decide +kernel), List.mem_of_getElem? (i := 715) (by decide +kernel)⟩
theorem lw_p26 : lw_okq (⟨"RoadCountsModel", "excess", "(II)J"⟩, 27) := ⟨⟨by decide +kernel, by decide +kernel⟩, List.mem_of_getElem? (i := 509) (by decide +kernel), List.mem_of_getElem? (i := 721) (by decide +kernel), List.mem_of_getElem? (i := 722) (by decide +kernel)⟩
theorem lw_p27 : lw_okq (⟨"RoadCountsModel", "isBalanced", "(II)Z"⟩, 27) := ⟨⟨by decide +kernel, by decide +kernel⟩, List.mem_of_getElem? (i := 509) (by decide +kernel), List.mem_of_getElem? (i := 733) (by decide +kernel), List.mem_of_getElem? (i := 734) (by decide +kernel)⟩
theorem lw_p28 : lw_okq (⟨"RoadCountsModel", "lists", "()V"⟩, 27) := ⟨⟨by decide +kernel, by decide +kernel⟩, List.mem_of_getElem? (i := 509) (by decide +kernel), List.mem_of_getElem? (i := 745) (by decide +kernel), List.mem_of_getElem? (i := 746) (by decide +kernel)⟩
theorem lw_p29 : lw_okq (⟨"RoadCountsModel", "doAll", "(I)Z"⟩, 27) := ⟨⟨by decide +kernel, by decide +kernel⟩, List.mem_of_getElem? (i := 509) (by decide +kernel), List.mem_of_getElem? (i := 749) (by decide +kernel), List.mem_of_getElem? (i := 750) (by decide +kernel)⟩
theorem lw_p30 : lw_okq (⟨"RoadCountsModel", "push", "(I)V"⟩, 27) := ⟨⟨by decide +kernel, by decide +kernel⟩, List.mem_of_getElem? (i := 509) (by decide +kernel), List.mem_of_getElem? (i := 761) (by decide +kernel), List.mem_of_getElem? (i := 762) (by decide +kernel)⟩
theorem lw_p31 : lw_okq (⟨"RoadCountsModel", "clause", "()V"⟩, 27) := ⟨⟨by decide +kernel, by decide +kernel⟩, List.mem_of_getElem? (i := 509) (by decide +kernel), List.mem_of_getElem? (i := 769) (by decide +kernel), List.mem_of_getElem? (i := 770) (by decide +kernel)⟩
def lw_privs_2 : List (MethodName × Nat) := [(⟨"RoadCountsModel", "usedOf", "(I)I"⟩, 27), (⟨"RoadCountsModel", "isUsed", "(II)Z"⟩, 27), (⟨"RoadCountsModel", "yearOf", "(I)J"⟩, 27), (⟨"RoadCountsModel", "countsOf", "(I)J"⟩, 27), (⟨"RoadCountsModel", "sharesOf", "(II)J"⟩, 27), (⟨"RoadCountsModel", "misfit", "(II)J"⟩, 27), (⟨"RoadCountsModel", "knownRoads", "()I"⟩, 27), (⟨"RoadCountsModel", "works", "()I"⟩, 27), (⟨"RoadCountsModel", "grows", "(I)I"⟩, 27), (⟨"RoadCountsModel", "roadsAt", "(I)I"⟩, 27), (⟨"RoadCountsModel", "excess", "(II)J"⟩, 27), (⟨"RoadCountsModel", "isBalanced", "(II)Z"⟩, 27), (⟨"RoadCountsModel", "lists", "()V"⟩, 27), (⟨"RoadCountsModel", "doAll", "(I)Z"⟩, 27), (⟨"RoadCountsModel", "push", "(I)V"⟩, 27), (⟨"RoadCountsModel", "clause", "()V"⟩, 27)]
theorem lw_r2 : ∀ q ∈ lw_privs_2, lw_okq q := List.forall_mem_cons.mpr ⟨lw_p16, List.forall_mem_cons.mpr ⟨lw_p17, List.forall_mem_cons.mpr ⟨lw_p18, List.forall_mem_cons.mpr ⟨lw_p19, List.forall_mem_cons.mpr ⟨lw_p20, List.forall_mem_cons.mpr ⟨lw_p21, List.forall_mem_cons.mpr ⟨lw_p22, List.forall_mem_cons.mpr ⟨lw_p23, List.forall_mem_cons.mpr ⟨lw_p24, List.forall_mem_cons.mpr ⟨lw_p25, List.forall_mem_cons.mpr ⟨lw_p26, List.forall_mem_cons.mpr ⟨lw_p27, List.forall_mem_cons.mpr ⟨lw_p28, List.forall_mem_cons.mpr ⟨lw_p29, List.forall_mem_cons.mpr ⟨lw_p30, List.forall_mem_cons.mpr ⟨lw_p31, fun _ h => absurd h List.not_mem_nil⟩⟩⟩⟩⟩⟩⟩⟩⟩⟩⟩⟩⟩⟩⟩⟩
theorem lw_p32 : lw_okq (⟨"RoadCountsModel", "seesDigit", "()Z"⟩, 27) := ⟨⟨by decide +kernel, by decide +kernel⟩, List.mem_of_getElem? (i := 509) (by decide +kernel), List.mem_of_getElem? (i := 773) (by decide +kernel), List.mem_of_getElem? (i := 774) (by decide +kernel)⟩
theorem lw_p33 : lw_okq (⟨"RoadCountsModel", "here", "()I"⟩, 27) := ⟨⟨by decide +kernel, by decide +kernel⟩, List.mem_of_getElem? (i := 509) (by decide +kernel), List.mem_of_getElem? (i := 777) (by decide +kernel), List.mem_of_getElem? (i := 778) (by decide +kernel)⟩
theorem lw_p34 : lw_okq (⟨"RoadCountsModel", "fails", "(II)V"⟩, 27) := ⟨⟨by decide +kernel, by decide +kernel⟩, List.mem_of_getElem? (i := 509) (by decide +kernel), List.mem_of_getElem? (i := 783) (by decide +kernel), List.mem_of_getElem? (i := 784) (by decide +kernel)⟩
theorem lw_p35 : lw_okq (⟨"RoadCountsModel", "must", "(I)V"⟩, 27) := ⟨⟨by decide +kernel, by decide +kernel⟩, List.mem_of_getElem? (i := 509) (by decide +kernel), List.mem_of_getElem? (i := 787) (by decide +kernel), List.mem_of_getElem? (i := 788) (by decide +kernel)⟩
theorem lw_p36 : lw_okq (⟨"RoadCountsModel", "number", "(I)I"⟩, 27) := ⟨⟨by decide +kernel, by decide +kernel⟩, List.mem_of_getElem? (i := 509) (by decide +kernel), List.mem_of_getElem? (i := 791) (by decide +kernel), List.mem_of_getElem? (i := 792) (by decide +kernel)⟩
theorem lw_p37 : lw_okq (⟨"RoadCountsModel", "kindOf", "(II)I"⟩, 27) := ⟨⟨by decide +kernel, by decide +kernel⟩, List.mem_of_getElem? (i := 509) (by decide +kernel), List.mem_of_getElem? (i := 799) (by decide +kernel), List.mem_of_getElem? (i := 800) (by decide +kernel)⟩
def lw_privs_3 : List (MethodName × Nat) := [(⟨"RoadCountsModel", "seesDigit", "()Z"⟩, 27), (⟨"RoadCountsModel", "here", "()I"⟩, 27), (⟨"RoadCountsModel", "fails", "(II)V"⟩, 27), (⟨"RoadCountsModel", "must", "(I)V"⟩, 27), (⟨"RoadCountsModel", "number", "(I)I"⟩, 27), (⟨"RoadCountsModel", "kindOf", "(II)I"⟩, 27)]
theorem lw_r3 : ∀ q ∈ lw_privs_3, lw_okq q := List.forall_mem_cons.mpr ⟨lw_p32, List.forall_mem_cons.mpr ⟨lw_p33, List.forall_mem_cons.mpr ⟨lw_p34, List.forall_mem_cons.mpr ⟨lw_p35, List.forall_mem_cons.mpr ⟨lw_p36, List.forall_mem_cons.mpr ⟨lw_p37, fun _ h => absurd h List.not_mem_nil⟩⟩⟩⟩⟩⟩
def lw_privs : List (MethodName × Nat) := lw_privs_1 ++ (lw_privs_2 ++ (lw_privs_3))
def lw_tbl : List Cond := k2_sels lw_privs ++ tables_1
theorem lw_privs_ok : ∀ q ∈ lw_privs, lw_okq q := by
  show ∀ q ∈ lw_privs_1 ++ (lw_privs_2 ++ (lw_privs_3)), lw_okq q
  exact List.forall_mem_append.mpr ⟨lw_r1, List.forall_mem_append.mpr ⟨lw_r2, lw_r3⟩⟩

/-! classes: 0 Almanac 1 Counts 2 Network 3 Road 4 Rules 5 RulesReader 6 Tape 7 RoadCounts 8 RoadCountsModel -/
def z_R0 : String := "RoadCounts$Almanac"
def z_F0 : u_T := fun k => match k with
  | 0 => ("RoadCounts$Almanac", "weekdayWeights", "[[I", true)
  | 1 => ("RoadCounts$Almanac", "monthWeights", "[[I", true)
  | 2 => ("RoadCounts$Almanac", "isHoliday", "[Z", true)
  | 3 => ("RoadCounts$Almanac", "holidayDays", "[I", true)
  | _ => ("RoadCounts$Almanac", "holidays", "I", false)
def z_t0 : Nat → FieldType := fun k => match k with
  | 0 => (.array (.array .int))
  | 1 => (.array (.array .int))
  | 2 => (.array .boolean)
  | 3 => (.array .int)
  | _ => .int
theorem z_n0 : ∀ a, a < 5 → ∀ b, b < 5 → a ≠ b → (z_F0 a).2.1 ≠ (z_F0 b).2.1 := by decide +kernel
theorem z_to0 : ∀ k, k < 5 → parseFieldDescriptor (z_F0 k).2.2.1 = some (z_t0 k) := by decide +kernel
def z_d0 : List Value := [.null, .null, .null, .null, .int 0]
theorem z_do0 : ∀ j, j < 5 → defaultValue (z_t0 j) = vp_V z_d0 j := by decide +kernel
def z_R1 : String := "RoadCounts$Counts"
def z_F1 : u_T := fun k => match k with
  | 0 => ("RoadCounts$Counts", "days", "[I", true)
  | 1 => ("RoadCounts$Counts", "counted", "[I", true)
  | _ => ("RoadCounts$Counts", "size", "I", false)
def z_t1 : Nat → FieldType := fun k => match k with
  | 0 => (.array .int)
  | 1 => (.array .int)
  | _ => .int
theorem z_n1 : ∀ a, a < 3 → ∀ b, b < 3 → a ≠ b → (z_F1 a).2.1 ≠ (z_F1 b).2.1 := by decide +kernel
theorem z_to1 : ∀ k, k < 3 → parseFieldDescriptor (z_F1 k).2.2.1 = some (z_t1 k) := by decide +kernel
def z_d1 : List Value := [.null, .null, .int 0]
theorem z_do1 : ∀ j, j < 3 → defaultValue (z_t1 j) = vp_V z_d1 j := by decide +kernel
def z_R2 : String := "RoadCounts$Network"
def z_F2 : u_T := fun k => match k with
  | 0 => ("RoadCounts$Network", "roads", "[LRoadCounts$Road;", true)
  | 1 => ("RoadCounts$Network", "roadsAt", "[I", true)
  | 2 => ("RoadCounts$Network", "loads", "[J", true)
  | 3 => ("RoadCounts$Network", "followers", "[I", true)
  | 4 => ("RoadCounts$Network", "followedAt", "[I", true)
  | 5 => ("RoadCounts$Network", "steps", "I", false)
  | 6 => ("RoadCounts$Network", "size", "I", false)
  | 7 => ("RoadCounts$Network", "known", "I", false)
  | _ => ("RoadCounts$Network", "told", "I", false)
def z_t2 : Nat → FieldType := fun k => match k with
  | 0 => (.array (.object "RoadCounts$Road"))
  | 1 => (.array .int)
  | 2 => (.array .long)
  | 3 => (.array .int)
  | 4 => (.array .int)
  | 5 => .int
  | 6 => .int
  | 7 => .int
  | _ => .int
theorem z_n2 : ∀ a, a < 9 → ∀ b, b < 9 → a ≠ b → (z_F2 a).2.1 ≠ (z_F2 b).2.1 := by decide +kernel
theorem z_to2 : ∀ k, k < 9 → parseFieldDescriptor (z_F2 k).2.2.1 = some (z_t2 k) := by decide +kernel
def z_d2 : List Value := [.null, .null, .null, .null, .null, .int 0, .int 0, .int 0, .int 0]
theorem z_do2 : ∀ j, j < 9 → defaultValue (z_t2 j) = vp_V z_d2 j := by decide +kernel
def z_R3 : String := "RoadCounts$Road"
def z_F3 : u_T := fun k => match k with
  | 0 => ("RoadCounts$Road", "from", "I", true)
  | 1 => ("RoadCounts$Road", "to", "I", true)
  | 2 => ("RoadCounts$Road", "price", "I", true)
  | 3 => ("RoadCounts$Road", "counts", "LRoadCounts$Counts;", true)
  | 4 => ("RoadCounts$Road", "passed", "[I", true)
  | _ => ("RoadCounts$Road", "form", "I", false)
def z_t3 : Nat → FieldType := fun k => match k with
  | 0 => .int
  | 1 => .int
  | 2 => .int
  | 3 => (.object "RoadCounts$Counts")
  | 4 => (.array .int)
  | _ => .int
theorem z_n3 : ∀ a, a < 6 → ∀ b, b < 6 → a ≠ b → (z_F3 a).2.1 ≠ (z_F3 b).2.1 := by decide +kernel
theorem z_to3 : ∀ k, k < 6 → parseFieldDescriptor (z_F3 k).2.2.1 = some (z_t3 k) := by decide +kernel
def z_d3 : List Value := [.int 0, .int 0, .int 0, .null, .null, .int 0]
theorem z_do3 : ∀ j, j < 6 → defaultValue (z_t3 j) = vp_V z_d3 j := by decide +kernel
def z_R4 : String := "RoadCounts$Rules"
def z_F4 : u_T := fun k => match k with
  | 0 => ("RoadCounts$Rules", "kindOfClause", "[I", true)
  | 1 => ("RoadCounts$Rules", "spansOfClause", "[I", true)
  | 2 => ("RoadCounts$Rules", "least", "[[I", true)
  | 3 => ("RoadCounts$Rules", "greatest", "[[I", true)
  | _ => ("RoadCounts$Rules", "size", "I", false)
def z_t4 : Nat → FieldType := fun k => match k with
  | 0 => (.array .int)
  | 1 => (.array .int)
  | 2 => (.array (.array .int))
  | 3 => (.array (.array .int))
  | _ => .int
theorem z_n4 : ∀ a, a < 5 → ∀ b, b < 5 → a ≠ b → (z_F4 a).2.1 ≠ (z_F4 b).2.1 := by decide +kernel
theorem z_to4 : ∀ k, k < 5 → parseFieldDescriptor (z_F4 k).2.2.1 = some (z_t4 k) := by decide +kernel
def z_d4 : List Value := [.null, .null, .null, .null, .int 0]
theorem z_do4 : ∀ j, j < 5 → defaultValue (z_t4 j) = vp_V z_d4 j := by decide +kernel
def z_R5 : String := "RoadCounts$RulesReader"
def z_F5 : u_T := fun k => match k with
  | 0 => ("RoadCounts$RulesReader", "text", "LRoadCounts$Tape;", true)
  | 1 => ("RoadCounts$RulesReader", "length", "I", false)
  | 2 => ("RoadCounts$RulesReader", "place", "I", false)
  | _ => ("RoadCounts$RulesReader", "number", "I", false)
def z_t5 : Nat → FieldType := fun k => match k with
  | 0 => (.object "RoadCounts$Tape")
  | 1 => .int
  | 2 => .int
  | _ => .int
theorem z_n5 : ∀ a, a < 4 → ∀ b, b < 4 → a ≠ b → (z_F5 a).2.1 ≠ (z_F5 b).2.1 := by decide +kernel
theorem z_to5 : ∀ k, k < 4 → parseFieldDescriptor (z_F5 k).2.2.1 = some (z_t5 k) := by decide +kernel
def z_d5 : List Value := [.null, .int 0, .int 0, .int 0]
theorem z_do5 : ∀ j, j < 4 → defaultValue (z_t5 j) = vp_V z_d5 j := by decide +kernel
def z_R6 : String := "RoadCounts$Tape"
def z_F6 : u_T := fun k => match k with
  | 0 => ("RoadCounts$Tape", "bytes", "[I", true)
  | _ => ("RoadCounts$Tape", "length", "I", false)
def z_t6 : Nat → FieldType := fun k => match k with
  | 0 => (.array .int)
  | _ => .int
theorem z_n6 : ∀ a, a < 2 → ∀ b, b < 2 → a ≠ b → (z_F6 a).2.1 ≠ (z_F6 b).2.1 := by decide +kernel
theorem z_to6 : ∀ k, k < 2 → parseFieldDescriptor (z_F6 k).2.2.1 = some (z_t6 k) := by decide +kernel
def z_d6 : List Value := [.null, .int 0]
theorem z_do6 : ∀ j, j < 2 → defaultValue (z_t6 j) = vp_V z_d6 j := by decide +kernel
def z_R7 : String := "RoadCounts"
def z_F7 : u_T := fun k => match k with
  | 0 => ("RoadCounts", "almanac", "LRoadCounts$Almanac;", true)
  | 1 => ("RoadCounts", "network", "LRoadCounts$Network;", true)
  | 2 => ("RoadCounts", "tape", "LRoadCounts$Tape;", true)
  | 3 => ("RoadCounts", "reader", "LRoadCounts$RulesReader;", true)
  | 4 => ("RoadCounts", "inForce", "LRoadCounts$Rules;", false)
  | _ => ("RoadCounts", "spare", "LRoadCounts$Rules;", false)
def z_t7 : Nat → FieldType := fun k => match k with
  | 0 => (.object "RoadCounts$Almanac")
  | 1 => (.object "RoadCounts$Network")
  | 2 => (.object "RoadCounts$Tape")
  | 3 => (.object "RoadCounts$RulesReader")
  | 4 => (.object "RoadCounts$Rules")
  | _ => (.object "RoadCounts$Rules")
theorem z_n7 : ∀ a, a < 6 → ∀ b, b < 6 → a ≠ b → (z_F7 a).2.1 ≠ (z_F7 b).2.1 := by decide +kernel
theorem z_to7 : ∀ k, k < 6 → parseFieldDescriptor (z_F7 k).2.2.1 = some (z_t7 k) := by decide +kernel
def z_d7 : List Value := [.null, .null, .null, .null, .null, .null]
theorem z_do7 : ∀ j, j < 6 → defaultValue (z_t7 j) = vp_V z_d7 j := by decide +kernel
def z_R8 : String := "RoadCountsModel"
def z_F8 : u_T := fun k => match k with
  | 0 => ("RoadCountsModel", "tape", "[B", true)
  | 1 => ("RoadCountsModel", "taped", "I", false)
  | 2 => ("RoadCountsModel", "roads", "I", false)
  | 3 => ("RoadCountsModel", "holidays", "I", false)
  | 4 => ("RoadCountsModel", "isHoliday", "[Z", true)
  | 5 => ("RoadCountsModel", "byWeekday", "[I", true)
  | 6 => ("RoadCountsModel", "byMonth", "[I", true)
  | 7 => ("RoadCountsModel", "from", "[I", true)
  | 8 => ("RoadCountsModel", "to", "[I", true)
  | 9 => ("RoadCountsModel", "price", "[I", true)
  | 10 => ("RoadCountsModel", "shape", "[I", true)
  | 11 => ("RoadCountsModel", "counted", "[I", true)
  | 12 => ("RoadCountsModel", "counts", "[I", true)
  | 13 => ("RoadCountsModel", "passed", "[I", true)
  | 14 => ("RoadCountsModel", "clauses", "I", false)
  | 15 => ("RoadCountsModel", "read", "I", false)
  | 16 => ("RoadCountsModel", "kind", "[I", true)
  | 17 => ("RoadCountsModel", "spans", "[I", true)
  | 18 => ("RoadCountsModel", "ends", "[I", true)
  | 19 => ("RoadCountsModel", "readKind", "[I", true)
  | 20 => ("RoadCountsModel", "readSpans", "[I", true)
  | 21 => ("RoadCountsModel", "readEnds", "[I", true)
  | 22 => ("RoadCountsModel", "load", "[J", true)
  | 23 => ("RoadCountsModel", "at", "[I", true)
  | 24 => ("RoadCountsModel", "place", "I", false)
  | 25 => ("RoadCountsModel", "end", "I", false)
  | _ => ("RoadCountsModel", "bad", "I", false)
def z_t8 : Nat → FieldType := fun k => match k with
  | 0 => (.array .byte)
  | 1 => .int
  | 2 => .int
  | 3 => .int
  | 4 => (.array .boolean)
  | 5 => (.array .int)
  | 6 => (.array .int)
  | 7 => (.array .int)
  | 8 => (.array .int)
  | 9 => (.array .int)
  | 10 => (.array .int)
  | 11 => (.array .int)
  | 12 => (.array .int)
  | 13 => (.array .int)
  | 14 => .int
  | 15 => .int
  | 16 => (.array .int)
  | 17 => (.array .int)
  | 18 => (.array .int)
  | 19 => (.array .int)
  | 20 => (.array .int)
  | 21 => (.array .int)
  | 22 => (.array .long)
  | 23 => (.array .int)
  | 24 => .int
  | 25 => .int
  | _ => .int
theorem z_n8 : ∀ a, a < 27 → ∀ b, b < 27 → a ≠ b → (z_F8 a).2.1 ≠ (z_F8 b).2.1 := by decide +kernel
theorem z_to8 : ∀ k, k < 27 → parseFieldDescriptor (z_F8 k).2.2.1 = some (z_t8 k) := by decide +kernel
def z_d8 : List Value := [.null, .int 0, .int 0, .int 0, .null, .null, .null, .null, .null, .null, .null, .null, .null, .null, .int 0, .int 0, .null, .null, .null, .null, .null, .null, .null, .null, .int 0, .int 0, .int 0]
theorem z_do8 : ∀ j, j < 27 → defaultValue (z_t8 j) = vp_V z_d8 j := by decide +kernel
abbrev z_cl : List vw_C := [(z_R0, z_F0, 5), (z_R1, z_F1, 3), (z_R2, z_F2, 9), (z_R3, z_F3, 6), (z_R4, z_F4, 5), (z_R5, z_F5, 4), (z_R6, z_F6, 2), (z_R7, z_F7, 6), (z_R8, z_F8, 27)]
/-- the words that every method has: those that stay -/
def z_T : List Cond := lw_tbl.filter goodWord
/-- the words on nest mates, and arrays of references -/
def z_N : List Cond := lw_tbl.filter (fun w => match w with | .fieldLinkNest .. => true | .methodLinkNest .. => true | _ => false)
theorem z_inT {w : Cond} (h : w ∈ lw_tbl) (g : goodWord w = true) : w ∈ z_T := List.mem_filter.mpr ⟨h, g⟩
theorem z_goodT : GoodIn z_T z_T := fun w h => ⟨h, good_of_word (List.mem_filter.mp h).2⟩
theorem z_w0 : ∀ w ∈ u_ws z_R0 z_F0 5, w ∈ z_T := by
  intro w hw
  have h : u_ws z_R0 z_F0 5 = [35, 37, 39, 41, 43].filterMap (fun i => tables_1[i]?) := by decide +kernel
  have g : (u_ws z_R0 z_F0 5).all goodWord = true := by decide +kernel
  refine z_inT (List.mem_append_right _ ?_) (List.all_eq_true.mp g w hw)
  rw [h] at hw
  obtain ⟨i, -, hi⟩ := List.mem_filterMap.mp hw
  exact List.mem_of_getElem? hi
theorem z_w1 : ∀ w ∈ u_ws z_R1 z_F1 3, w ∈ z_T := by
  intro w hw
  have h : u_ws z_R1 z_F1 3 = [221, 223, 225].filterMap (fun i => tables_1[i]?) := by decide +kernel
  have g : (u_ws z_R1 z_F1 3).all goodWord = true := by decide +kernel
  refine z_inT (List.mem_append_right _ ?_) (List.all_eq_true.mp g w hw)
  rw [h] at hw
  obtain ⟨i, -, hi⟩ := List.mem_filterMap.mp hw
  exact List.mem_of_getElem? hi
theorem z_w2 : ∀ w ∈ u_ws z_R2 z_F2 9, w ∈ z_T := by
  intro w hw
  have h : u_ws z_R2 z_F2 9 = [68, 70, 72, 74, 76, 78, 80, 82, 84].filterMap (fun i => tables_1[i]?) := by decide +kernel
  have g : (u_ws z_R2 z_F2 9).all goodWord = true := by decide +kernel
  refine z_inT (List.mem_append_right _ ?_) (List.all_eq_true.mp g w hw)
  rw [h] at hw
  obtain ⟨i, -, hi⟩ := List.mem_filterMap.mp hw
  exact List.mem_of_getElem? hi
theorem z_w3 : ∀ w ∈ u_ws z_R3 z_F3 6, w ∈ z_T := by
  intro w hw
  have h : u_ws z_R3 z_F3 6 = [243, 245, 247, 249, 251, 253].filterMap (fun i => tables_1[i]?) := by decide +kernel
  have g : (u_ws z_R3 z_F3 6).all goodWord = true := by decide +kernel
  refine z_inT (List.mem_append_right _ ?_) (List.all_eq_true.mp g w hw)
  rw [h] at hw
  obtain ⟨i, -, hi⟩ := List.mem_filterMap.mp hw
  exact List.mem_of_getElem? hi
theorem z_w4 : ∀ w ∈ u_ws z_R4 z_F4 5, w ∈ z_T := by
  intro w hw
  have h : u_ws z_R4 z_F4 5 = [135, 137, 139, 141, 143].filterMap (fun i => tables_1[i]?) := by decide +kernel
  have g : (u_ws z_R4 z_F4 5).all goodWord = true := by decide +kernel
  refine z_inT (List.mem_append_right _ ?_) (List.all_eq_true.mp g w hw)
  rw [h] at hw
  obtain ⟨i, -, hi⟩ := List.mem_filterMap.mp hw
  exact List.mem_of_getElem? hi
theorem z_w5 : ∀ w ∈ u_ws z_R5 z_F5 4, w ∈ z_T := by
  intro w hw
  have h : u_ws z_R5 z_F5 4 = [112, 114, 116, 118].filterMap (fun i => tables_1[i]?) := by decide +kernel
  have g : (u_ws z_R5 z_F5 4).all goodWord = true := by decide +kernel
  refine z_inT (List.mem_append_right _ ?_) (List.all_eq_true.mp g w hw)
  rw [h] at hw
  obtain ⟨i, -, hi⟩ := List.mem_filterMap.mp hw
  exact List.mem_of_getElem? hi
theorem z_w6 : ∀ w ∈ u_ws z_R6 z_F6 2, w ∈ z_T := by
  intro w hw
  have h : u_ws z_R6 z_F6 2 = [97, 99].filterMap (fun i => tables_1[i]?) := by decide +kernel
  have g : (u_ws z_R6 z_F6 2).all goodWord = true := by decide +kernel
  refine z_inT (List.mem_append_right _ ?_) (List.all_eq_true.mp g w hw)
  rw [h] at hw
  obtain ⟨i, -, hi⟩ := List.mem_filterMap.mp hw
  exact List.mem_of_getElem? hi
theorem z_w7 : ∀ w ∈ u_ws z_R7 z_F7 6, w ∈ z_T := by
  intro w hw
  have h : u_ws z_R7 z_F7 6 = [152, 154, 156, 158, 160, 162].filterMap (fun i => tables_1[i]?) := by decide +kernel
  have g : (u_ws z_R7 z_F7 6).all goodWord = true := by decide +kernel
  refine z_inT (List.mem_append_right _ ?_) (List.all_eq_true.mp g w hw)
  rw [h] at hw
  obtain ⟨i, -, hi⟩ := List.mem_filterMap.mp hw
  exact List.mem_of_getElem? hi
theorem z_w8 : ∀ w ∈ u_ws z_R8 z_F8 27, w ∈ z_T := by
  intro w hw
  have h : u_ws z_R8 z_F8 27 = [541, 543, 545, 547, 549, 551, 553, 555, 557, 559, 561, 563, 565, 567, 569, 571, 573, 575, 577, 579, 581, 583, 585, 587, 589, 591, 593].filterMap (fun i => tables_1[i]?) := by decide +kernel
  have g : (u_ws z_R8 z_F8 27).all goodWord = true := by decide +kernel
  refine z_inT (List.mem_append_right _ ?_) (List.all_eq_true.mp g w hw)
  rw [h] at hw
  obtain ⟨i, -, hi⟩ := List.mem_filterMap.mp hw
  exact List.mem_of_getElem? hi
theorem z_wT : ∀ (ci : Nat) (r : vw_C), z_cl[ci]? = some r → ∀ w ∈ u_ws r.1 r.2.1 r.2.2, w ∈ z_T := by
  intro ci r h
  match ci, h with
  | 0, h => cases h; exact z_w0
  | 1, h => cases h; exact z_w1
  | 2, h => cases h; exact z_w2
  | 3, h => cases h; exact z_w3
  | 4, h => cases h; exact z_w4
  | 5, h => cases h; exact z_w5
  | 6, h => cases h; exact z_w6
  | 7, h => cases h; exact z_w7
  | 8, h => cases h; exact z_w8
  | k + 9, h => simp [z_cl] at h
def z_ty (ci : Nat) : Nat → FieldType := match ci with
  | 0 => z_t0
  | 1 => z_t1
  | 2 => z_t2
  | 3 => z_t3
  | 4 => z_t4
  | 5 => z_t5
  | 6 => z_t6
  | 7 => z_t7
  | _ => z_t8
def z_df (ci : Nat) : List Value := match ci with
  | 0 => z_d0
  | 1 => z_d1
  | 2 => z_d2
  | 3 => z_d3
  | 4 => z_d4
  | 5 => z_d5
  | 6 => z_d6
  | 7 => z_d7
  | _ => z_d8
theorem z_nT : ∀ (ci : Nat) (r : vw_C), z_cl[ci]? = some r → ∀ a, a < r.2.2 → ∀ b, b < r.2.2 → a ≠ b → (r.2.1 a).2.1 ≠ (r.2.1 b).2.1 := by
  intro ci r h
  match ci, h with
  | 0, h => cases h; exact z_n0
  | 1, h => cases h; exact z_n1
  | 2, h => cases h; exact z_n2
  | 3, h => cases h; exact z_n3
  | 4, h => cases h; exact z_n4
  | 5, h => cases h; exact z_n5
  | 6, h => cases h; exact z_n6
  | 7, h => cases h; exact z_n7
  | 8, h => cases h; exact z_n8
  | k + 9, h => simp [z_cl] at h
theorem z_tyT : ∀ (ci : Nat) (r : vw_C), z_cl[ci]? = some r → ∀ k, k < r.2.2 → parseFieldDescriptor (r.2.1 k).2.2.1 = some (z_ty ci k) := by
  intro ci r h
  match ci, h with
  | 0, h => cases h; exact z_to0
  | 1, h => cases h; exact z_to1
  | 2, h => cases h; exact z_to2
  | 3, h => cases h; exact z_to3
  | 4, h => cases h; exact z_to4
  | 5, h => cases h; exact z_to5
  | 6, h => cases h; exact z_to6
  | 7, h => cases h; exact z_to7
  | 8, h => cases h; exact z_to8
  | k + 9, h => simp [z_cl] at h
theorem z_dfT : ∀ (ci : Nat) (r : vw_C), z_cl[ci]? = some r → ∀ j, j < r.2.2 → defaultValue (z_ty ci j) = vp_V (z_df ci) j := by
  intro ci r h
  match ci, h with
  | 0, h => cases h; exact z_do0
  | 1, h => cases h; exact z_do1
  | 2, h => cases h; exact z_do2
  | 3, h => cases h; exact z_do3
  | 4, h => cases h; exact z_do4
  | 5, h => cases h; exact z_do5
  | 6, h => cases h; exact z_do6
  | 7, h => cases h; exact z_do7
  | 8, h => cases h; exact z_do8
  | k + 9, h => simp [z_cl] at h
end
section
/-! THE ABSTRACT MACHINE: cells have numbers (0: the script, that lies outside; k + 1: the cell at B + k); a world is a function from numbers to contents.
Kinds of arrays: 0 int, 1 long, 2 byte, 3 boolean, 4 references to Road, 5 references to int arrays -/
abbrev z_C : Type := (Nat × vp_A) ⊕ (Nat × List Value)
abbrev z_H : Type := Nat → Option z_C
def z_up (P : z_H) (k : Nat) (c : z_C) : z_H := fun j => if j = k then some c else P j
theorem z_up_s {P : z_H} {k : Nat} {c : z_C} : z_up P k c k = some c := by simp [z_up]
theorem z_up_n {P : z_H} {k j : Nat} {c : z_C} (h : j ≠ k) : z_up P k c j = P j := by simp [z_up, h]
def z_ad (b B : Nat) : Nat → Nat
  | 0 => b
  | k + 1 => B + k
def z_V (b B : Nat) : Value → Value
  | .ref k => .ref (z_ad b B k)
  | v => v
theorem z_V_cat (b B : Nat) (v : Value) : (z_V b B v).category = v.category := by cases v <;> rfl
def z_A (b B : Nat) (a : vp_A) : vp_A := match a with
  | (n, .inl f) => (n, .inl f)
  | (n, .inr (.inl f)) => (n, .inr (.inl f))
  | (n, .inr (.inr (.inl f))) => (n, .inr (.inr (.inl f)))
  | (n, .inr (.inr (.inr (.inl f)))) => (n, .inr (.inr (.inr (.inl f))))
  | (n, .inr (.inr (.inr (.inr f)))) => (n, .inr (.inr (.inr (.inr (fun j => (f j).map (z_ad b B))))))
def z_E (cy : Nat → ClassId) (b B : Nat) (c : z_C) : va_E := match c with
  | .inl a => .inl (cy a.1, z_A b B a.2)
  | .inr o => .inr (o.1, o.2.map (z_V b B))
/-- the heap holds the world P; nx is the number of the next cell -/
def z_R (D : va_G) (cy : Nat → ClassId) (b B : Nat) (P : z_H) (nx : Nat) (H : Heap) : Prop := H.size + 1 = B + nx ∧ 0 < nx ∧ P 0 = none ∧ ∀ (k : Nat) (c : z_C), P (k + 1) = some c → va_at D z_cl (B + k, z_E cy b B c) H
/-- locals -/
def z_g : List (Option Value) → Nat → Option Value
  | [], _ => none
  | a :: _, 0 => a
  | _ :: l, i + 1 => z_g l i
def z_k : Option Value → Option Value
  | some (.long _) => none
  | some (.double _) => none
  | o => o
def z_p1 (v : Value) : Nat → List (Option Value) → List (Option Value)
  | 0, l => some v :: l.tail
  | 1, l => z_k (l.headD none) :: some v :: l.tail.tail
  | i + 2, l => l.headD none :: z_p1 v (i + 1) l.tail
def z_p2 (v : Value) : Nat → List (Option Value) → List (Option Value)
  | 0, l => some v :: none :: l.tail.tail
  | 1, l => z_k (l.headD none) :: some v :: none :: l.tail.tail.tail
  | i + 2, l => l.headD none :: z_p2 v (i + 1) l.tail
theorem z_g_nil (i : Nat) : z_g [] i = none := by cases i <;> rfl
theorem z_g_tail (l : List (Option Value)) (i : Nat) : z_g l.tail i = z_g l (i + 1) := by
  cases l with
  | nil => simp [z_g_nil]
  | cons a l => rfl
theorem z_g_head (l : List (Option Value)) : l.headD none = z_g l 0 := by cases l <;> rfl
theorem z_k_some {o : Option Value} {w : Value} (h : z_k o = some w) : o = some w ∧ w.category ≠ 2 := by
  cases o with
  | none => cases h
  | some x => cases x <;> (try (simp [z_k] at h; done)) <;> (simp only [z_k, Option.some.injEq] at h; subst h; exact ⟨rfl, by simp [Value.category]⟩)
theorem z_p1_g (v : Value) : ∀ (i : Nat) (l : List (Option Value)) (j : Nat) (w : Value), z_g (z_p1 v i l) j = some w → (j = i ∧ w = v) ∨ (j ≠ i ∧ z_g l j = some w ∧ ¬ (j + 1 = i ∧ w.category = 2))
  | 0, l, 0, w, h => Or.inl ⟨rfl, (Option.some.inj h).symm⟩
  | 0, l, j + 1, w, h => Or.inr ⟨by omega, by rw [← z_g_tail]; exact h, by omega⟩
  | 1, l, 0, w, h => by
    obtain ⟨h1, h2⟩ := z_k_some (show z_k (l.headD none) = some w from h)
    exact Or.inr ⟨by omega, by rw [← z_g_head]; exact h1, fun q => h2 q.2⟩
  | 1, l, 1, w, h => Or.inl ⟨rfl, (Option.some.inj h).symm⟩
  | 1, l, j + 2, w, h => Or.inr ⟨by omega, by rw [← z_g_tail, ← z_g_tail]; exact h, by omega⟩
  | i + 2, l, 0, w, h => Or.inr ⟨by omega, by rw [← z_g_head]; exact h, by omega⟩
  | i + 2, l, j + 1, w, h => by
    rcases z_p1_g v (i + 1) l.tail j w h with ⟨h1, h2⟩ | ⟨h1, h2, h3⟩
    · exact Or.inl ⟨by omega, h2⟩
    · exact Or.inr ⟨by omega, by rw [← z_g_tail]; exact h2, fun q => h3 ⟨by omega, q.2⟩⟩
theorem z_p2_g (v : Value) : ∀ (i : Nat) (l : List (Option Value)) (j : Nat) (w : Value), z_g (z_p2 v i l) j = some w → (j = i ∧ w = v) ∨ (j ≠ i ∧ j ≠ i + 1 ∧ z_g l j = some w ∧ ¬ (j + 1 = i ∧ w.category = 2))
  | 0, l, 0, w, h => Or.inl ⟨rfl, (Option.some.inj h).symm⟩
  | 0, l, 1, w, h => by cases h
  | 0, l, j + 2, w, h => Or.inr ⟨by omega, by omega, by rw [← z_g_tail, ← z_g_tail]; exact h, by omega⟩
  | 1, l, 0, w, h => by
    obtain ⟨h1, h2⟩ := z_k_some (show z_k (l.headD none) = some w from h)
    exact Or.inr ⟨by omega, by omega, by rw [← z_g_head]; exact h1, fun q => h2 q.2⟩
  | 1, l, 1, w, h => Or.inl ⟨rfl, (Option.some.inj h).symm⟩
  | 1, l, 2, w, h => by cases h
  | 1, l, j + 3, w, h => Or.inr ⟨by omega, by omega, by rw [← z_g_tail, ← z_g_tail, ← z_g_tail]; exact h, by omega⟩
  | i + 2, l, 0, w, h => Or.inr ⟨by omega, by omega, by rw [← z_g_head]; exact h, by omega⟩
  | i + 2, l, j + 1, w, h => by
    rcases z_p2_g v (i + 1) l.tail j w h with ⟨h1, h2⟩ | ⟨h1, h2, h3, h4⟩
    · exact Or.inl ⟨by omega, h2⟩
    · exact Or.inr ⟨by omega, by omega, by rw [← z_g_tail]; exact h3, fun q => h4 ⟨by omega, q.2⟩⟩
def z_L (b B : Nat) (ls : Array Slot) (nL : Nat) (lv : List (Option Value)) : Prop := ls.size = nL ∧ lv_wf ls ∧ ∀ (i : Nat) (v : Value), z_g lv i = some v → ls[i]? = some (.val (z_V b B v))
/-- a list of all locals, as the kit has them -/
def z_Ll (b B nL : Nat) (lv : List (Option Value)) : List (Nat × Value) := (List.range nL).filterMap (fun i => (z_g lv i).map (fun v => (i, z_V b B v)))
theorem z_L.has {b B nL : Nat} {ls : Array Slot} {lv : List (Option Value)} (h : z_L b B ls nL lv) : lv_has ls nL (z_Ll b B nL lv) := by
  refine ⟨h.1, h.2.1, fun q hq => ?_⟩
  obtain ⟨i, -, hi⟩ := List.mem_filterMap.mp hq
  cases hg : z_g lv i with
  | none => rw [hg] at hi; cases hi
  | some v =>
    rw [hg] at hi
    cases hi
    exact h.2.2 i v hg
theorem z_L.inl {b B nL : Nat} {ls : Array Slot} {lv : List (Option Value)} (h : z_L b B ls nL lv) {i : Nat} {v : Value} (hg : z_g lv i = some v) : (i, z_V b B v) ∈ z_Ll b B nL lv := by
  refine List.mem_filterMap.mpr ⟨i, List.mem_range.mpr ?_, by rw [hg]; rfl⟩
  have := h.2.2 i v hg
  rw [← h.1]
  exact lv_lt this
theorem z_L.p1 {b B nL : Nat} {ls ls' : Array Slot} {lv : List (Option Value)} {i : Nat} {v : Value} (h : z_L b B ls nL lv) (h' : lv_has ls' nL ((i, z_V b B v) :: (z_Ll b B nL lv).filter (fun q => !(q.1 == i) && !(q.1 + 1 == i && q.2.category == 2)))) : z_L b B ls' nL (z_p1 v i lv) := by
  refine ⟨h'.1, h'.2.1, fun j w hj => ?_⟩
  rcases z_p1_g v i lv j w hj with ⟨rfl, rfl⟩ | ⟨h1, h2, h3⟩
  · exact h'.2.2 _ List.mem_cons_self
  · refine h'.2.2 (j, z_V b B w) (List.mem_cons_of_mem _ (List.mem_filter.mpr ⟨h.inl h2, ?_⟩))
    show (!(j == i) && !(j + 1 == i && (z_V b B w).category == 2)) = true
    rw [z_V_cat]
    simp only [Bool.and_eq_true, Bool.not_eq_true', beq_eq_false_iff_ne, ne_eq, Bool.and_eq_false_iff]
    refine ⟨h1, ?_⟩
    by_cases q : j + 1 = i
    · exact Or.inr (fun z => h3 ⟨q, z⟩)
    · exact Or.inl q
theorem z_L.p2 {b B nL : Nat} {ls ls' : Array Slot} {lv : List (Option Value)} {i : Nat} {v : Value} (h : z_L b B ls nL lv) (h' : lv_has ls' nL ((i, z_V b B v) :: (z_Ll b B nL lv).filter (fun q => !(q.1 == i) && (!(q.1 == i + 1) && !(q.1 + 1 == i && q.2.category == 2))))) : z_L b B ls' nL (z_p2 v i lv) := by
  refine ⟨h'.1, h'.2.1, fun j w hj => ?_⟩
  rcases z_p2_g v i lv j w hj with ⟨rfl, rfl⟩ | ⟨h1, h0, h2, h3⟩
  · exact h'.2.2 _ List.mem_cons_self
  · refine h'.2.2 (j, z_V b B w) (List.mem_cons_of_mem _ (List.mem_filter.mpr ⟨h.inl h2, ?_⟩))
    show (!(j == i) && (!(j == i + 1) && !(j + 1 == i && (z_V b B w).category == 2))) = true
    rw [z_V_cat]
    simp only [Bool.and_eq_true, Bool.not_eq_true', beq_eq_false_iff_ne, ne_eq, Bool.and_eq_false_iff]
    refine ⟨h1, h0, ?_⟩
    by_cases q : j + 1 = i
    · exact Or.inr (fun z => h3 ⟨q, z⟩)
    · exact Or.inl q
/-- fewer locals -/
theorem z_L.sub {b B nL : Nat} {ls : Array Slot} {lv lv' : List (Option Value)} (h : z_L b B ls nL lv) (hs : ∀ i v, z_g lv' i = some v → z_g lv i = some v) : z_L b B ls nL lv' := ⟨h.1, h.2.1, fun i v hg => h.2.2 i v (hs i v hg)⟩
/-- .. by places: each is as it was, or forgotten -/
def z_lt : List (Option Value) → List (Option Value) → Prop
  | [], _ => True
  | none :: l, m => z_lt l m.tail
  | some v :: l, m => m.headD none = some v ∧ z_lt l m.tail
theorem z_lt_g : ∀ (l m : List (Option Value)), z_lt l m → ∀ i v, z_g l i = some v → z_g m i = some v
  | [], m, _, i, v, h => by rw [z_g_nil] at h; cases h
  | none :: l, m, hl, 0, v, h => by cases h
  | none :: l, m, hl, i + 1, v, h => by rw [← z_g_tail]; exact z_lt_g l m.tail hl i v h
  | some x :: l, m, hl, 0, v, h => by cases h; rw [← z_g_head]; exact hl.1
  | some x :: l, m, hl, i + 1, v, h => by rw [← z_g_tail]; exact z_lt_g l m.tail hl.2 i v h
/-- the arguments in their places -/
def z_args : List Value → List (Option Value)
  | [] => []
  | v :: l => if v.category = 2 then some v :: none :: z_args l else some v :: z_args l
theorem z_args_g (b B : Nat) : ∀ (as : List Value) (k i : Nat) (v : Value), z_g (z_args as) i = some v → (k + i, z_V b B v) ∈ lv_args k (as.map (z_V b B))
  | [], k, i, v, h => by rw [show z_args [] = [] from rfl, z_g_nil] at h; cases h
  | a :: as, k, i, v, h => by
    unfold z_args at h
    by_cases hc : a.category = 2
    · rw [if_pos hc] at h
      have e : lv_args k ((a :: as).map (z_V b B)) = (k, z_V b B a) :: lv_args (k + 2) (as.map (z_V b B)) := by
        simp [lv_args, z_V_cat, hc]
      rw [e]
      match i, h with
      | 0, h => cases h; exact List.mem_cons_self
      | 1, h => cases h
      | i + 2, h =>
        have := z_args_g b B as (k + 2) i v h
        rw [show k + (i + 2) = k + 2 + i by omega]
        exact List.mem_cons_of_mem _ this
    · rw [if_neg hc] at h
      have e : lv_args k ((a :: as).map (z_V b B)) = (k, z_V b B a) :: lv_args (k + 1) (as.map (z_V b B)) := by
        have h1 : a.category = 1 := (lv_cat a).resolve_right hc
        simp [lv_args, z_V_cat, h1]
      rw [e]
      match i, h with
      | 0, h => cases h; exact List.mem_cons_self
      | i + 1, h =>
        have := z_args_g b B as (k + 1) i v h
        rw [show k + (i + 1) = k + 1 + i by omega]
        exact List.mem_cons_of_mem _ this
end
section
/-! what is fixed in a run of a method -/
abbrev z_X : Type := Program × Launch × Env × Room × State × MethodId × Array Value × List Frame × Method × Code × ByteArray × Nat × String × va_G × (Nat → ClassId) × Nat × Nat × (State → Prop)
abbrev z_tys (cy : Nat → ClassId) : List (ClassId × FieldType) := [(cy 0, .int), (cy 1, .long), (cy 2, .byte), (cy 3, .boolean), (cy 4, .object "RoadCounts$Road"), (cy 5, .array .int)]
/-- what is known of the tables -/
def z_Kn (D : va_G) (cy : Nat → ClassId) (s : State) : Prop := va_K D z_cl (z_tys cy) s ∧ va_AO "RoadCounts$Road" s ∧ (Cond.arrayOver (.array .int)).before #[] s = true ∧ ∀ w ∈ z_N, va_Nw w s
/-- a method: its name, code, how many locals, what it returns -/
abbrev z_M : Type := MethodName × ByteArray × Nat × Option FieldType
/-- X is a run of method y, with the room rm -/
def z_is : z_X → Launch → z_M → Room → Prop := fun (p, l, e, R, s, m, args, below, meth, c, cc, nL, own, D, cy, b, B, Q) l' (yn, yc, yL, yr) rm =>
  (p.tables.exec = Jvm.exec ∧ c.code = cc ∧ c.maxLocals = nL ∧ s.vm.findClass own = some m.cls ∧ (∀ w ∈ z_T, w.before args s = true) ∧ z_Kn D cy s ∧ B ≤ s.heap.size) ∧ l = l' ∧ cc = yc ∧ nL = yL ∧ own = yn.cls ∧ R = rm
/-- THE JUDGEMENT: at pc, with these locals, this stack, this world, the machine comes to its end -/
def z_W : z_X → Nat → List (Option Value) → List Value → z_H → Nat → Nat → Nat → Prop := fun (p, l, e, R, s, m, args, below, meth, c, cc, nL, own, D, cy, b, B, Q) pc lv st P nx u v =>
  ∀ (H : Heap) (locs : List Loc) (ls : Array Slot), z_R D cy b B P nx H → va_S (fun q => B ≤ q) s.heap H locs → z_L b B ls nL lv → W p l e R s m args below meth c H locs u v Q (F0 m pc ls (st.map (z_V b B)))
section ZR
variable {X : z_X} {l : Launch} {me : z_M} {rm : Room} {pc nx u v : Nat} {lv : List (Option Value)} {st : List Value} {P : z_H}
theorem z_sub {lv' : List (Option Value)} (k : z_W X pc lv' st P nx u v) (h : z_lt lv' lv) : z_W X pc lv st P nx u v := by
  obtain ⟨p, l, e, R, s, m, args, below, meth, c, cc, nL, own, D, cy, b, B, Q⟩ := X
  exact fun H locs ls hR hS hL => k H locs ls hR hS (hL.sub (z_lt_g _ _ h))
theorem z_widen {u' v' : Nat} (h1 : u ≤ u') (h2 : v ≤ v') (k : z_W X pc lv st P nx u' v') : z_W X pc lv st P nx u v := by
  obtain ⟨p, l, e, R, s, m, args, below, meth, c, cc, nL, own, D, cy, b, B, Q⟩ := X
  exact fun H locs ls hR hS hL => W.widen h1 h2 (k H locs ls hR hS hL)
theorem z_iadd (hX : z_is X l me rm) {x y : Int32} (hd : decode me.2.1 pc = .ok (.iadd, 1)) (k : z_W X (pc + 1) lv (.int (x + y) :: st) P nx u v) : z_W X pc lv (.int y :: .int x :: st) P nx u v := by
  obtain ⟨p, l, e, R, s, m, args, below, meth, c, cc, nL, own, D, cy, b, B, Q⟩ := X
  obtain ⟨yn, yc, yL, yr⟩ := me
  obtain ⟨⟨hx, hb, hml, hown, hts, hK, hB⟩, rfl, rfl, rfl, rfl, rfl⟩ := hX
  intro H locs ls hR hS hL
  exact lv_iadd hx hb hd (k H locs ls hR hS hL)
theorem z_isub (hX : z_is X l me rm) {x y : Int32} (hd : decode me.2.1 pc = .ok (.isub, 1)) (k : z_W X (pc + 1) lv (.int (x - y) :: st) P nx u v) : z_W X pc lv (.int y :: .int x :: st) P nx u v := by
  obtain ⟨p, l, e, R, s, m, args, below, meth, c, cc, nL, own, D, cy, b, B, Q⟩ := X
  obtain ⟨yn, yc, yL, yr⟩ := me
  obtain ⟨⟨hx, hb, hml, hown, hts, hK, hB⟩, rfl, rfl, rfl, rfl, rfl⟩ := hX
  intro H locs ls hR hS hL
  exact lv_isub hx hb hd (k H locs ls hR hS hL)
theorem z_imul (hX : z_is X l me rm) {x y : Int32} (hd : decode me.2.1 pc = .ok (.imul, 1)) (k : z_W X (pc + 1) lv (.int (x * y) :: st) P nx u v) : z_W X pc lv (.int y :: .int x :: st) P nx u v := by
  obtain ⟨p, l, e, R, s, m, args, below, meth, c, cc, nL, own, D, cy, b, B, Q⟩ := X
  obtain ⟨yn, yc, yL, yr⟩ := me
  obtain ⟨⟨hx, hb, hml, hown, hts, hK, hB⟩, rfl, rfl, rfl, rfl, rfl⟩ := hX
  intro H locs ls hR hS hL
  exact lv_imul hx hb hd (k H locs ls hR hS hL)
theorem z_iand (hX : z_is X l me rm) {x y : Int32} (hd : decode me.2.1 pc = .ok (.iand, 1)) (k : z_W X (pc + 1) lv (.int (x &&& y) :: st) P nx u v) : z_W X pc lv (.int y :: .int x :: st) P nx u v := by
  obtain ⟨p, l, e, R, s, m, args, below, meth, c, cc, nL, own, D, cy, b, B, Q⟩ := X
  obtain ⟨yn, yc, yL, yr⟩ := me
  obtain ⟨⟨hx, hb, hml, hown, hts, hK, hB⟩, rfl, rfl, rfl, rfl, rfl⟩ := hX
  intro H locs ls hR hS hL
  exact lv_iand hx hb hd (k H locs ls hR hS hL)
theorem z_ior (hX : z_is X l me rm) {x y : Int32} (hd : decode me.2.1 pc = .ok (.ior, 1)) (k : z_W X (pc + 1) lv (.int (x ||| y) :: st) P nx u v) : z_W X pc lv (.int y :: .int x :: st) P nx u v := by
  obtain ⟨p, l, e, R, s, m, args, below, meth, c, cc, nL, own, D, cy, b, B, Q⟩ := X
  obtain ⟨yn, yc, yL, yr⟩ := me
  obtain ⟨⟨hx, hb, hml, hown, hts, hK, hB⟩, rfl, rfl, rfl, rfl, rfl⟩ := hX
  intro H locs ls hR hS hL
  exact lv_ior hx hb hd (k H locs ls hR hS hL)
theorem z_ixor (hX : z_is X l me rm) {x y : Int32} (hd : decode me.2.1 pc = .ok (.ixor, 1)) (k : z_W X (pc + 1) lv (.int (x ^^^ y) :: st) P nx u v) : z_W X pc lv (.int y :: .int x :: st) P nx u v := by
  obtain ⟨p, l, e, R, s, m, args, below, meth, c, cc, nL, own, D, cy, b, B, Q⟩ := X
  obtain ⟨yn, yc, yL, yr⟩ := me
  obtain ⟨⟨hx, hb, hml, hown, hts, hK, hB⟩, rfl, rfl, rfl, rfl, rfl⟩ := hX
  intro H locs ls hR hS hL
  exact lv_ixor hx hb hd (k H locs ls hR hS hL)
theorem z_ishl (hX : z_is X l me rm) {x y : Int32} (hd : decode me.2.1 pc = .ok (.ishl, 1)) (k : z_W X (pc + 1) lv (.int (x <<< (y &&& 31)) :: st) P nx u v) : z_W X pc lv (.int y :: .int x :: st) P nx u v := by
  obtain ⟨p, l, e, R, s, m, args, below, meth, c, cc, nL, own, D, cy, b, B, Q⟩ := X
  obtain ⟨yn, yc, yL, yr⟩ := me
  obtain ⟨⟨hx, hb, hml, hown, hts, hK, hB⟩, rfl, rfl, rfl, rfl, rfl⟩ := hX
  intro H locs ls hR hS hL
  exact lv_ishl hx hb hd (k H locs ls hR hS hL)
theorem z_ishr (hX : z_is X l me rm) {x y : Int32} (hd : decode me.2.1 pc = .ok (.ishr, 1)) (k : z_W X (pc + 1) lv (.int (x >>> (y &&& 31)) :: st) P nx u v) : z_W X pc lv (.int y :: .int x :: st) P nx u v := by
  obtain ⟨p, l, e, R, s, m, args, below, meth, c, cc, nL, own, D, cy, b, B, Q⟩ := X
  obtain ⟨yn, yc, yL, yr⟩ := me
  obtain ⟨⟨hx, hb, hml, hown, hts, hK, hB⟩, rfl, rfl, rfl, rfl, rfl⟩ := hX
  intro H locs ls hR hS hL
  exact lv_ishr hx hb hd (k H locs ls hR hS hL)
theorem z_idiv (hX : z_is X l me rm) {x y : Int32} (hd : decode me.2.1 pc = .ok (.idiv, 1)) (hne : ¬ y = 0) (k : z_W X (pc + 1) lv (.int (x / y) :: st) P nx u v) : z_W X pc lv (.int y :: .int x :: st) P nx u v := by
  obtain ⟨p, l, e, R, s, m, args, below, meth, c, cc, nL, own, D, cy, b, B, Q⟩ := X
  obtain ⟨yn, yc, yL, yr⟩ := me
  obtain ⟨⟨hx, hb, hml, hown, hts, hK, hB⟩, rfl, rfl, rfl, rfl, rfl⟩ := hX
  intro H locs ls hR hS hL
  exact lv_idiv hx hb hd hne (k H locs ls hR hS hL)
theorem z_irem (hX : z_is X l me rm) {x y : Int32} (hd : decode me.2.1 pc = .ok (.irem, 1)) (hne : ¬ y = 0) (k : z_W X (pc + 1) lv (.int (x - x / y * y) :: st) P nx u v) : z_W X pc lv (.int y :: .int x :: st) P nx u v := by
  obtain ⟨p, l, e, R, s, m, args, below, meth, c, cc, nL, own, D, cy, b, B, Q⟩ := X
  obtain ⟨yn, yc, yL, yr⟩ := me
  obtain ⟨⟨hx, hb, hml, hown, hts, hK, hB⟩, rfl, rfl, rfl, rfl, rfl⟩ := hX
  intro H locs ls hR hS hL
  exact lv_irem hx hb hd hne (k H locs ls hR hS hL)
theorem z_ladd (hX : z_is X l me rm) {x y : Int64} (hd : decode me.2.1 pc = .ok (.ladd, 1)) (k : z_W X (pc + 1) lv (.long (x + y) :: st) P nx u v) : z_W X pc lv (.long y :: .long x :: st) P nx u v := by
  obtain ⟨p, l, e, R, s, m, args, below, meth, c, cc, nL, own, D, cy, b, B, Q⟩ := X
  obtain ⟨yn, yc, yL, yr⟩ := me
  obtain ⟨⟨hx, hb, hml, hown, hts, hK, hB⟩, rfl, rfl, rfl, rfl, rfl⟩ := hX
  intro H locs ls hR hS hL
  exact lv_ladd hx hb hd (k H locs ls hR hS hL)
theorem z_lsub (hX : z_is X l me rm) {x y : Int64} (hd : decode me.2.1 pc = .ok (.lsub, 1)) (k : z_W X (pc + 1) lv (.long (x - y) :: st) P nx u v) : z_W X pc lv (.long y :: .long x :: st) P nx u v := by
  obtain ⟨p, l, e, R, s, m, args, below, meth, c, cc, nL, own, D, cy, b, B, Q⟩ := X
  obtain ⟨yn, yc, yL, yr⟩ := me
  obtain ⟨⟨hx, hb, hml, hown, hts, hK, hB⟩, rfl, rfl, rfl, rfl, rfl⟩ := hX
  intro H locs ls hR hS hL
  exact lv_lsub hx hb hd (k H locs ls hR hS hL)
theorem z_lmul (hX : z_is X l me rm) {x y : Int64} (hd : decode me.2.1 pc = .ok (.lmul, 1)) (k : z_W X (pc + 1) lv (.long (x * y) :: st) P nx u v) : z_W X pc lv (.long y :: .long x :: st) P nx u v := by
  obtain ⟨p, l, e, R, s, m, args, below, meth, c, cc, nL, own, D, cy, b, B, Q⟩ := X
  obtain ⟨yn, yc, yL, yr⟩ := me
  obtain ⟨⟨hx, hb, hml, hown, hts, hK, hB⟩, rfl, rfl, rfl, rfl, rfl⟩ := hX
  intro H locs ls hR hS hL
  exact lv_lmul hx hb hd (k H locs ls hR hS hL)
theorem z_ldiv (hX : z_is X l me rm) {x y : Int64} (hd : decode me.2.1 pc = .ok (.ldiv, 1)) (hne : ¬ y = 0) (k : z_W X (pc + 1) lv (.long (x / y) :: st) P nx u v) : z_W X pc lv (.long y :: .long x :: st) P nx u v := by
  obtain ⟨p, l, e, R, s, m, args, below, meth, c, cc, nL, own, D, cy, b, B, Q⟩ := X
  obtain ⟨yn, yc, yL, yr⟩ := me
  obtain ⟨⟨hx, hb, hml, hown, hts, hK, hB⟩, rfl, rfl, rfl, rfl, rfl⟩ := hX
  intro H locs ls hR hS hL
  exact lv_ldiv hx hb hd hne (k H locs ls hR hS hL)
theorem z_lneg (hX : z_is X l me rm) {x : Int64} (hd : decode me.2.1 pc = .ok (.lneg, 1)) (k : z_W X (pc + 1) lv (.long (-x) :: st) P nx u v) : z_W X pc lv (.long x :: st) P nx u v := by
  obtain ⟨p, l, e, R, s, m, args, below, meth, c, cc, nL, own, D, cy, b, B, Q⟩ := X
  obtain ⟨yn, yc, yL, yr⟩ := me
  obtain ⟨⟨hx, hb, hml, hown, hts, hK, hB⟩, rfl, rfl, rfl, rfl, rfl⟩ := hX
  intro H locs ls hR hS hL
  exact lv_lneg hx hb hd (k H locs ls hR hS hL)
theorem z_lcmp (hX : z_is X l me rm) {x y : Int64} (hd : decode me.2.1 pc = .ok (.lcmp, 1)) (k : z_W X (pc + 1) lv (.int (lg_cmp x y) :: st) P nx u v) : z_W X pc lv (.long y :: .long x :: st) P nx u v := by
  obtain ⟨p, l, e, R, s, m, args, below, meth, c, cc, nL, own, D, cy, b, B, Q⟩ := X
  obtain ⟨yn, yc, yL, yr⟩ := me
  obtain ⟨⟨hx, hb, hml, hown, hts, hK, hB⟩, rfl, rfl, rfl, rfl, rfl⟩ := hX
  intro H locs ls hR hS hL
  exact W.lcmp hx hb hd (k H locs ls hR hS hL)
theorem z_i2l (hX : z_is X l me rm) {x : Int32} (hd : decode me.2.1 pc = .ok (.i2l, 1)) (k : z_W X (pc + 1) lv (.long x.toInt64 :: st) P nx u v) : z_W X pc lv (.int x :: st) P nx u v := by
  obtain ⟨p, l, e, R, s, m, args, below, meth, c, cc, nL, own, D, cy, b, B, Q⟩ := X
  obtain ⟨yn, yc, yL, yr⟩ := me
  obtain ⟨⟨hx, hb, hml, hown, hts, hK, hB⟩, rfl, rfl, rfl, rfl, rfl⟩ := hX
  intro H locs ls hR hS hL
  exact lv_i2l hx hb hd rfl (k H locs ls hR hS hL)
theorem z_i2b (hX : z_is X l me rm) {x : Int32} (hd : decode me.2.1 pc = .ok (.i2b, 1)) (k : z_W X (pc + 1) lv (.int x.toInt8.toInt32 :: st) P nx u v) : z_W X pc lv (.int x :: st) P nx u v := by
  obtain ⟨p, l, e, R, s, m, args, below, meth, c, cc, nL, own, D, cy, b, B, Q⟩ := X
  obtain ⟨yn, yc, yL, yr⟩ := me
  obtain ⟨⟨hx, hb, hml, hown, hts, hK, hB⟩, rfl, rfl, rfl, rfl, rfl⟩ := hX
  intro H locs ls hR hS hL
  exact lv_i2b hx hb hd rfl (k H locs ls hR hS hL)
theorem z_iushr (hX : z_is X l me rm) {x y : Int32} (hd : decode me.2.1 pc = .ok (.iushr, 1)) (k : z_W X (pc + 1) lv (.int (x.toUInt32 >>> (y.toUInt32 &&& Int32.toUInt32 31)).toInt32 :: st) P nx u v) : z_W X pc lv (.int y :: .int x :: st) P nx u v := by
  obtain ⟨p, l, e, R, s, m, args, below, meth, c, cc, nL, own, D, cy, b, B, Q⟩ := X
  obtain ⟨yn, yc, yL, yr⟩ := me
  obtain ⟨⟨hx, hb, hml, hown, hts, hK, hB⟩, rfl, rfl, rfl, rfl, rfl⟩ := hX
  intro H locs ls hR hS hL
  exact lv_iushr hx hb hd rfl (k H locs ls hR hS hL)
theorem z_iconst (hX : z_is X l me rm) {n : Int} (z : Int32) (hd : decode me.2.1 pc = .ok (.iconst n, 1)) (hz : Int32.ofInt n = z) (k : z_W X (pc + 1) lv (.int z :: st) P nx u v) : z_W X pc lv (st) P nx u v := by
  obtain ⟨p, l, e, R, s, m, args, below, meth, c, cc, nL, own, D, cy, b, B, Q⟩ := X
  obtain ⟨yn, yc, yL, yr⟩ := me
  obtain ⟨⟨hx, hb, hml, hown, hts, hK, hB⟩, rfl, rfl, rfl, rfl, rfl⟩ := hX
  intro H locs ls hR hS hL
  exact lv_iconst hx hb hd hz (k H locs ls hR hS hL)
theorem z_bipush (hX : z_is X l me rm) {n : Int} (z : Int32) (hd : decode me.2.1 pc = .ok (.bipush n, 2)) (hz : (Int8.ofInt n).toInt32 = z) (k : z_W X (pc + 2) lv (.int z :: st) P nx u v) : z_W X pc lv (st) P nx u v := by
  obtain ⟨p, l, e, R, s, m, args, below, meth, c, cc, nL, own, D, cy, b, B, Q⟩ := X
  obtain ⟨yn, yc, yL, yr⟩ := me
  obtain ⟨⟨hx, hb, hml, hown, hts, hK, hB⟩, rfl, rfl, rfl, rfl, rfl⟩ := hX
  intro H locs ls hR hS hL
  exact lv_bipush hx hb hd hz (k H locs ls hR hS hL)
theorem z_sipush (hX : z_is X l me rm) {n : Int} (z : Int32) (hd : decode me.2.1 pc = .ok (.sipush n, 3)) (hz : (Int16.ofInt n).toInt32 = z) (k : z_W X (pc + 3) lv (.int z :: st) P nx u v) : z_W X pc lv (st) P nx u v := by
  obtain ⟨p, l, e, R, s, m, args, below, meth, c, cc, nL, own, D, cy, b, B, Q⟩ := X
  obtain ⟨yn, yc, yL, yr⟩ := me
  obtain ⟨⟨hx, hb, hml, hown, hts, hK, hB⟩, rfl, rfl, rfl, rfl, rfl⟩ := hX
  intro H locs ls hR hS hL
  exact lv_sipush hx hb hd hz (k H locs ls hR hS hL)
theorem z_lconst (hX : z_is X l me rm) {n : Fin 2} (z : Int64) (hd : decode me.2.1 pc = .ok (.lconst n, 1)) (hz : Int64.ofNat (n : Nat) = z) (k : z_W X (pc + 1) lv (.long z :: st) P nx u v) : z_W X pc lv (st) P nx u v := by
  obtain ⟨p, l, e, R, s, m, args, below, meth, c, cc, nL, own, D, cy, b, B, Q⟩ := X
  obtain ⟨yn, yc, yL, yr⟩ := me
  obtain ⟨⟨hx, hb, hml, hown, hts, hK, hB⟩, rfl, rfl, rfl, rfl, rfl⟩ := hX
  intro H locs ls hR hS hL
  exact lv_lconst hx hb hd hz (k H locs ls hR hS hL)
theorem z_null (hX : z_is X l me rm) (hd : decode me.2.1 pc = .ok (.aconst_null, 1)) (k : z_W X (pc + 1) lv (.null :: st) P nx u v) : z_W X pc lv (st) P nx u v := by
  obtain ⟨p, l, e, R, s, m, args, below, meth, c, cc, nL, own, D, cy, b, B, Q⟩ := X
  obtain ⟨yn, yc, yL, yr⟩ := me
  obtain ⟨⟨hx, hb, hml, hown, hts, hK, hB⟩, rfl, rfl, rfl, rfl, rfl⟩ := hX
  intro H locs ls hR hS hL
  exact lv_null hx hb hd (k H locs ls hR hS hL)
theorem z_ldc (hX : z_is X l me rm) {i : Nat} (z : Int32) (hd : decode me.2.1 pc = .ok (.ldc i, 2)) (hw : Cond.constant me.1.cls i z ∈ z_T) (k : z_W X (pc + 2) lv (.int z :: st) P nx u v) : z_W X pc lv st P nx u v := by
  obtain ⟨p, l, e, R, s, m, args, below, meth, c, cc, nL, own, D, cy, b, B, Q⟩ := X
  obtain ⟨yn, yc, yL, yr⟩ := me
  obtain ⟨⟨hx, hb, hml, hown, hts, hK, hB⟩, rfl, rfl, rfl, rfl, rfl⟩ := hX
  intro H locs ls hR hS hL
  exact lv_ldc hx hb hown (hts _ hw) hd (k H locs ls hR hS hL)
theorem z_ldcw (hX : z_is X l me rm) {i : Nat} (z : Int32) (hd : decode me.2.1 pc = .ok (.ldc_w i, 3)) (hw : Cond.constant me.1.cls i z ∈ z_T) (k : z_W X (pc + 3) lv (.int z :: st) P nx u v) : z_W X pc lv st P nx u v := by
  obtain ⟨p, l, e, R, s, m, args, below, meth, c, cc, nL, own, D, cy, b, B, Q⟩ := X
  obtain ⟨yn, yc, yL, yr⟩ := me
  obtain ⟨⟨hx, hb, hml, hown, hts, hK, hB⟩, rfl, rfl, rfl, rfl, rfl⟩ := hX
  intro H locs ls hR hS hL
  exact lv_ldcw hx hb hown (hts _ hw) hd (k H locs ls hR hS hL)
theorem z_ldc2 (hX : z_is X l me rm) {i : Nat} (z : Int64) (hd : decode me.2.1 pc = .ok (.ldc2_w i, 3)) (hw : Cond.constantLong me.1.cls i z ∈ z_T) (k : z_W X (pc + 3) lv (.long z :: st) P nx u v) : z_W X pc lv st P nx u v := by
  obtain ⟨p, l, e, R, s, m, args, below, meth, c, cc, nL, own, D, cy, b, B, Q⟩ := X
  obtain ⟨yn, yc, yL, yr⟩ := me
  obtain ⟨⟨hx, hb, hml, hown, hts, hK, hB⟩, rfl, rfl, rfl, rfl, rfl⟩ := hX
  intro H locs ls hR hS hL
  exact lv_ldc2 hx hb hown (hts _ hw) hd (k H locs ls hR hS hL)
theorem z_iload_n (hX : z_is X l me rm) {j : Fin 4} {x : Int32} (hd : decode me.2.1 pc = .ok (.iload_n j, 1)) (hg : z_g lv j = some (.int x)) (k : z_W X (pc + 1) lv (.int x :: st) P nx u v) : z_W X pc lv st P nx u v := by
  obtain ⟨p, l, e, R, s, m, args, below, meth, c, cc, nL, own, D, cy, b, B, Q⟩ := X
  obtain ⟨yn, yc, yL, yr⟩ := me
  obtain ⟨⟨hx, hb, hml, hown, hts, hK, hB⟩, rfl, rfl, rfl, rfl, rfl⟩ := hX
  intro H locs ls hR hS hL
  exact lv_iload_n hx hb hd rfl (hL.2.2 _ _ hg) (k H locs ls hR hS hL)
theorem z_iload (hX : z_is X l me rm) {j : Nat} {x : Int32} (hd : decode me.2.1 pc = .ok (.iload j, 2)) (hg : z_g lv j = some (.int x)) (k : z_W X (pc + 2) lv (.int x :: st) P nx u v) : z_W X pc lv st P nx u v := by
  obtain ⟨p, l, e, R, s, m, args, below, meth, c, cc, nL, own, D, cy, b, B, Q⟩ := X
  obtain ⟨yn, yc, yL, yr⟩ := me
  obtain ⟨⟨hx, hb, hml, hown, hts, hK, hB⟩, rfl, rfl, rfl, rfl, rfl⟩ := hX
  intro H locs ls hR hS hL
  exact lv_iload hx hb hd (hL.2.2 _ _ hg) (k H locs ls hR hS hL)
theorem z_lload_n (hX : z_is X l me rm) {j : Fin 4} {x : Int64} (hd : decode me.2.1 pc = .ok (.lload_n j, 1)) (hg : z_g lv j = some (.long x)) (k : z_W X (pc + 1) lv (.long x :: st) P nx u v) : z_W X pc lv st P nx u v := by
  obtain ⟨p, l, e, R, s, m, args, below, meth, c, cc, nL, own, D, cy, b, B, Q⟩ := X
  obtain ⟨yn, yc, yL, yr⟩ := me
  obtain ⟨⟨hx, hb, hml, hown, hts, hK, hB⟩, rfl, rfl, rfl, rfl, rfl⟩ := hX
  intro H locs ls hR hS hL
  exact lv_lload_n hx hb hd rfl (hL.2.2 _ _ hg) (k H locs ls hR hS hL)
theorem z_lload (hX : z_is X l me rm) {j : Nat} {x : Int64} (hd : decode me.2.1 pc = .ok (.lload j, 2)) (hg : z_g lv j = some (.long x)) (k : z_W X (pc + 2) lv (.long x :: st) P nx u v) : z_W X pc lv st P nx u v := by
  obtain ⟨p, l, e, R, s, m, args, below, meth, c, cc, nL, own, D, cy, b, B, Q⟩ := X
  obtain ⟨yn, yc, yL, yr⟩ := me
  obtain ⟨⟨hx, hb, hml, hown, hts, hK, hB⟩, rfl, rfl, rfl, rfl, rfl⟩ := hX
  intro H locs ls hR hS hL
  exact lv_lload hx hb hd (hL.2.2 _ _ hg) (k H locs ls hR hS hL)
theorem z_aload_n (hX : z_is X l me rm) {j : Fin 4} {x : Nat} (hd : decode me.2.1 pc = .ok (.aload_n j, 1)) (hg : z_g lv j = some (.ref x)) (k : z_W X (pc + 1) lv (.ref x :: st) P nx u v) : z_W X pc lv st P nx u v := by
  obtain ⟨p, l, e, R, s, m, args, below, meth, c, cc, nL, own, D, cy, b, B, Q⟩ := X
  obtain ⟨yn, yc, yL, yr⟩ := me
  obtain ⟨⟨hx, hb, hml, hown, hts, hK, hB⟩, rfl, rfl, rfl, rfl, rfl⟩ := hX
  intro H locs ls hR hS hL
  exact lv_aload_n hx hb hd rfl (hL.2.2 _ _ hg) (k H locs ls hR hS hL)
theorem z_aload_nN (hX : z_is X l me rm) {j : Fin 4} (hd : decode me.2.1 pc = .ok (.aload_n j, 1)) (hg : z_g lv j = some .null) (k : z_W X (pc + 1) lv (.null :: st) P nx u v) : z_W X pc lv st P nx u v := by
  obtain ⟨p, l, e, R, s, m, args, below, meth, c, cc, nL, own, D, cy, b, B, Q⟩ := X
  obtain ⟨yn, yc, yL, yr⟩ := me
  obtain ⟨⟨hx, hb, hml, hown, hts, hK, hB⟩, rfl, rfl, rfl, rfl, rfl⟩ := hX
  intro H locs ls hR hS hL
  exact lv_aload_nN hx hb hd rfl (hL.2.2 _ _ hg) (k H locs ls hR hS hL)
theorem z_aload (hX : z_is X l me rm) {j : Nat} {x : Nat} (hd : decode me.2.1 pc = .ok (.aload j, 2)) (hg : z_g lv j = some (.ref x)) (k : z_W X (pc + 2) lv (.ref x :: st) P nx u v) : z_W X pc lv st P nx u v := by
  obtain ⟨p, l, e, R, s, m, args, below, meth, c, cc, nL, own, D, cy, b, B, Q⟩ := X
  obtain ⟨yn, yc, yL, yr⟩ := me
  obtain ⟨⟨hx, hb, hml, hown, hts, hK, hB⟩, rfl, rfl, rfl, rfl, rfl⟩ := hX
  intro H locs ls hR hS hL
  exact lv_aload hx hb hd (hL.2.2 _ _ hg) (k H locs ls hR hS hL)
theorem z_istore_n (hX : z_is X l me rm) {j0 : Fin 4} (j : Nat) {x : Int32} (hj : (j0 : Nat) = j) (hn : j < me.2.2.1) (hd : decode me.2.1 pc = .ok (.istore_n j0, 1)) (k : z_W X (pc + 1) (z_p1 (.int x) j lv) st P nx u v) : z_W X pc lv (.int x :: st) P nx u v := by
  obtain ⟨p, l, e, R, s, m, args, below, meth, c, cc, nL, own, D, cy, b, B, Q⟩ := X
  obtain ⟨yn, yc, yL, yr⟩ := me
  obtain ⟨⟨hx, hb, hml, hown, hts, hK, hB⟩, rfl, rfl, rfl, rfl, rfl⟩ := hX
  intro H locs ls hR hS hL
  exact lv_istore_n hx hb hd hj hL.has hn rfl (fun ls' h' => k H locs ls' hR hS (hL.p1 h'))
theorem z_istore (hX : z_is X l me rm) {j : Nat} {x : Int32} (hn : j < me.2.2.1) (hd : decode me.2.1 pc = .ok (.istore j, 2)) (k : z_W X (pc + 2) (z_p1 (.int x) j lv) st P nx u v) : z_W X pc lv (.int x :: st) P nx u v := by
  obtain ⟨p, l, e, R, s, m, args, below, meth, c, cc, nL, own, D, cy, b, B, Q⟩ := X
  obtain ⟨yn, yc, yL, yr⟩ := me
  obtain ⟨⟨hx, hb, hml, hown, hts, hK, hB⟩, rfl, rfl, rfl, rfl, rfl⟩ := hX
  intro H locs ls hR hS hL
  exact lv_istore hx hb hd hL.has hn rfl (fun ls' h' => k H locs ls' hR hS (hL.p1 h'))
theorem z_lstore_n (hX : z_is X l me rm) {j0 : Fin 4} (j : Nat) {x : Int64} (hj : (j0 : Nat) = j) (hn : j + 1 < me.2.2.1) (hd : decode me.2.1 pc = .ok (.lstore_n j0, 1)) (k : z_W X (pc + 1) (z_p2 (.long x) j lv) st P nx u v) : z_W X pc lv (.long x :: st) P nx u v := by
  obtain ⟨p, l, e, R, s, m, args, below, meth, c, cc, nL, own, D, cy, b, B, Q⟩ := X
  obtain ⟨yn, yc, yL, yr⟩ := me
  obtain ⟨⟨hx, hb, hml, hown, hts, hK, hB⟩, rfl, rfl, rfl, rfl, rfl⟩ := hX
  intro H locs ls hR hS hL
  exact lv_lstore_n hx hb hd hj hL.has hn rfl (fun ls' h' => k H locs ls' hR hS (hL.p2 h'))
theorem z_lstore (hX : z_is X l me rm) {j : Nat} {x : Int64} (hn : j + 1 < me.2.2.1) (hd : decode me.2.1 pc = .ok (.lstore j, 2)) (k : z_W X (pc + 2) (z_p2 (.long x) j lv) st P nx u v) : z_W X pc lv (.long x :: st) P nx u v := by
  obtain ⟨p, l, e, R, s, m, args, below, meth, c, cc, nL, own, D, cy, b, B, Q⟩ := X
  obtain ⟨yn, yc, yL, yr⟩ := me
  obtain ⟨⟨hx, hb, hml, hown, hts, hK, hB⟩, rfl, rfl, rfl, rfl, rfl⟩ := hX
  intro H locs ls hR hS hL
  exact lv_lstore hx hb hd hL.has hn rfl (fun ls' h' => k H locs ls' hR hS (hL.p2 h'))
theorem z_astore_n (hX : z_is X l me rm) {j0 : Fin 4} (j : Nat) {x : Nat} (hj : (j0 : Nat) = j) (hn : j < me.2.2.1) (hd : decode me.2.1 pc = .ok (.astore_n j0, 1)) (k : z_W X (pc + 1) (z_p1 (.ref x) j lv) st P nx u v) : z_W X pc lv (.ref x :: st) P nx u v := by
  obtain ⟨p, l, e, R, s, m, args, below, meth, c, cc, nL, own, D, cy, b, B, Q⟩ := X
  obtain ⟨yn, yc, yL, yr⟩ := me
  obtain ⟨⟨hx, hb, hml, hown, hts, hK, hB⟩, rfl, rfl, rfl, rfl, rfl⟩ := hX
  intro H locs ls hR hS hL
  exact lv_astore_n hx hb hd hj hL.has hn rfl (fun ls' h' => k H locs ls' hR hS (hL.p1 h'))
theorem z_astore (hX : z_is X l me rm) {j : Nat} {x : Nat} (hn : j < me.2.2.1) (hd : decode me.2.1 pc = .ok (.astore j, 2)) (k : z_W X (pc + 2) (z_p1 (.ref x) j lv) st P nx u v) : z_W X pc lv (.ref x :: st) P nx u v := by
  obtain ⟨p, l, e, R, s, m, args, below, meth, c, cc, nL, own, D, cy, b, B, Q⟩ := X
  obtain ⟨yn, yc, yL, yr⟩ := me
  obtain ⟨⟨hx, hb, hml, hown, hts, hK, hB⟩, rfl, rfl, rfl, rfl, rfl⟩ := hX
  intro H locs ls hR hS hL
  exact lv_astore hx hb hd hL.has hn rfl (fun ls' h' => k H locs ls' hR hS (hL.p1 h'))
theorem z_iinc (hX : z_is X l me rm) {j : Nat} {n : Int} {x : Int32} (z : Int32) (hz : Int32.ofInt n = z) (hg : z_g lv j = some (.int x)) (hn : j < me.2.2.1) (hd : decode me.2.1 pc = .ok (.iinc j n, 3)) (k : z_W X (pc + 3) (z_p1 (.int (x + z)) j lv) st P nx u v) : z_W X pc lv st P nx u v := by
  obtain ⟨p, l, e, R, s, m, args, below, meth, c, cc, nL, own, D, cy, b, B, Q⟩ := X
  obtain ⟨yn, yc, yL, yr⟩ := me
  obtain ⟨⟨hx, hb, hml, hown, hts, hK, hB⟩, rfl, rfl, rfl, rfl, rfl⟩ := hX
  intro H locs ls hR hS hL
  obtain ⟨i, hi⟩ := List.getElem?_of_mem (hL.inl hg)
  exact lv_iinc (v := x + z) hx hb hd hL.has (k := i) hi (by rw [hz]) hn rfl (fun ls' h' => k H locs ls' hR hS (hL.p1 h'))
theorem z_dup (hX : z_is X l me rm) {w : Value} (hw : w.category = 1) (hd : decode me.2.1 pc = .ok (.dup, 1)) (k : z_W X (pc + 1) lv (w :: w :: st) P nx u v) : z_W X pc lv (w :: st) P nx u v := by
  obtain ⟨p, l, e, R, s, m, args, below, meth, c, cc, nL, own, D, cy, b, B, Q⟩ := X
  obtain ⟨yn, yc, yL, yr⟩ := me
  obtain ⟨⟨hx, hb, hml, hown, hts, hK, hB⟩, rfl, rfl, rfl, rfl, rfl⟩ := hX
  intro H locs ls hR hS hL
  exact lv_dup hx hb hd (by rw [z_V_cat]; exact hw) (k H locs ls hR hS hL)
theorem z_pop (hX : z_is X l me rm) {w : Value} (hw : w.category = 1) (hd : decode me.2.1 pc = .ok (.pop, 1)) (k : z_W X (pc + 1) lv st P nx u v) : z_W X pc lv (w :: st) P nx u v := by
  obtain ⟨p, l, e, R, s, m, args, below, meth, c, cc, nL, own, D, cy, b, B, Q⟩ := X
  obtain ⟨yn, yc, yL, yr⟩ := me
  obtain ⟨⟨hx, hb, hml, hown, hts, hK, hB⟩, rfl, rfl, rfl, rfl, rfl⟩ := hX
  intro H locs ls hR hS hL
  exact lv_pop hx hb hd (by rw [z_V_cat]; exact hw) (k H locs ls hR hS hL)
theorem z_dup2 (hX : z_is X l me rm) {w w2 : Value} (hw : w.category = 1) (hw2 : w2.category = 1) (hd : decode me.2.1 pc = .ok (.dup2, 1)) (k : z_W X (pc + 1) lv (w :: w2 :: w :: w2 :: st) P nx u v) : z_W X pc lv (w :: w2 :: st) P nx u v := by
  obtain ⟨p, l, e, R, s, m, args, below, meth, c, cc, nL, own, D, cy, b, B, Q⟩ := X
  obtain ⟨yn, yc, yL, yr⟩ := me
  obtain ⟨⟨hx, hb, hml, hown, hts, hK, hB⟩, rfl, rfl, rfl, rfl, rfl⟩ := hX
  intro H locs ls hR hS hL
  exact lv_dup2_11 hx hb hd (by rw [z_V_cat]; exact hw) (by rw [z_V_cat]; exact hw2) (k H locs ls hR hS hL)
theorem z_if_eq (hX : z_is X l me rm) {x : Int32} {off : Int} (tgt : Nat) (hd : decode me.2.1 pc = .ok (.ifCond .eq off, 3)) (ht : (pc : Int) + off = (tgt : Int)) (kt : x = 0 → z_W X tgt lv st P nx u v) (kf : ¬ x = 0 → z_W X (pc + 3) lv st P nx u v) : z_W X pc lv (.int x :: st) P nx u v := by
  obtain ⟨p, l, e, R, s, m, args, below, meth, c, cc, nL, own, D, cy, b, B, Q⟩ := X
  obtain ⟨yn, yc, yL, yr⟩ := me
  obtain ⟨⟨hx, hb, hml, hown, hts, hK, hB⟩, rfl, rfl, rfl, rfl, rfl⟩ := hX
  intro H locs ls hR hS hL
  exact lv_if_eq hx hb hd ht (fun q => kt q H locs ls hR hS hL) (fun q => kf q H locs ls hR hS hL)
theorem z_icmp_eq (hX : z_is X l me rm) {x y : Int32} {off : Int} (tgt : Nat) (hd : decode me.2.1 pc = .ok (.if_icmp .eq off, 3)) (ht : (pc : Int) + off = (tgt : Int)) (kt : x = y → z_W X tgt lv st P nx u v) (kf : ¬ x = y → z_W X (pc + 3) lv st P nx u v) : z_W X pc lv (.int y :: .int x :: st) P nx u v := by
  obtain ⟨p, l, e, R, s, m, args, below, meth, c, cc, nL, own, D, cy, b, B, Q⟩ := X
  obtain ⟨yn, yc, yL, yr⟩ := me
  obtain ⟨⟨hx, hb, hml, hown, hts, hK, hB⟩, rfl, rfl, rfl, rfl, rfl⟩ := hX
  intro H locs ls hR hS hL
  exact lv_icmp_eq hx hb hd ht (fun q => kt q H locs ls hR hS hL) (fun q => kf q H locs ls hR hS hL)
theorem z_if_ne (hX : z_is X l me rm) {x : Int32} {off : Int} (tgt : Nat) (hd : decode me.2.1 pc = .ok (.ifCond .ne off, 3)) (ht : (pc : Int) + off = (tgt : Int)) (kt : ¬ x = 0 → z_W X tgt lv st P nx u v) (kf : x = 0 → z_W X (pc + 3) lv st P nx u v) : z_W X pc lv (.int x :: st) P nx u v := by
  obtain ⟨p, l, e, R, s, m, args, below, meth, c, cc, nL, own, D, cy, b, B, Q⟩ := X
  obtain ⟨yn, yc, yL, yr⟩ := me
  obtain ⟨⟨hx, hb, hml, hown, hts, hK, hB⟩, rfl, rfl, rfl, rfl, rfl⟩ := hX
  intro H locs ls hR hS hL
  exact lv_if_ne hx hb hd ht (fun q => kt q H locs ls hR hS hL) (fun q => kf q H locs ls hR hS hL)
theorem z_icmp_ne (hX : z_is X l me rm) {x y : Int32} {off : Int} (tgt : Nat) (hd : decode me.2.1 pc = .ok (.if_icmp .ne off, 3)) (ht : (pc : Int) + off = (tgt : Int)) (kt : ¬ x = y → z_W X tgt lv st P nx u v) (kf : x = y → z_W X (pc + 3) lv st P nx u v) : z_W X pc lv (.int y :: .int x :: st) P nx u v := by
  obtain ⟨p, l, e, R, s, m, args, below, meth, c, cc, nL, own, D, cy, b, B, Q⟩ := X
  obtain ⟨yn, yc, yL, yr⟩ := me
  obtain ⟨⟨hx, hb, hml, hown, hts, hK, hB⟩, rfl, rfl, rfl, rfl, rfl⟩ := hX
  intro H locs ls hR hS hL
  exact lv_icmp_ne hx hb hd ht (fun q => kt q H locs ls hR hS hL) (fun q => kf q H locs ls hR hS hL)
theorem z_if_lt (hX : z_is X l me rm) {x : Int32} {off : Int} (tgt : Nat) (hd : decode me.2.1 pc = .ok (.ifCond .lt off, 3)) (ht : (pc : Int) + off = (tgt : Int)) (kt : x < 0 → z_W X tgt lv st P nx u v) (kf : ¬ x < 0 → z_W X (pc + 3) lv st P nx u v) : z_W X pc lv (.int x :: st) P nx u v := by
  obtain ⟨p, l, e, R, s, m, args, below, meth, c, cc, nL, own, D, cy, b, B, Q⟩ := X
  obtain ⟨yn, yc, yL, yr⟩ := me
  obtain ⟨⟨hx, hb, hml, hown, hts, hK, hB⟩, rfl, rfl, rfl, rfl, rfl⟩ := hX
  intro H locs ls hR hS hL
  exact lv_if_lt hx hb hd ht (fun q => kt q H locs ls hR hS hL) (fun q => kf q H locs ls hR hS hL)
theorem z_icmp_lt (hX : z_is X l me rm) {x y : Int32} {off : Int} (tgt : Nat) (hd : decode me.2.1 pc = .ok (.if_icmp .lt off, 3)) (ht : (pc : Int) + off = (tgt : Int)) (kt : x < y → z_W X tgt lv st P nx u v) (kf : ¬ x < y → z_W X (pc + 3) lv st P nx u v) : z_W X pc lv (.int y :: .int x :: st) P nx u v := by
  obtain ⟨p, l, e, R, s, m, args, below, meth, c, cc, nL, own, D, cy, b, B, Q⟩ := X
  obtain ⟨yn, yc, yL, yr⟩ := me
  obtain ⟨⟨hx, hb, hml, hown, hts, hK, hB⟩, rfl, rfl, rfl, rfl, rfl⟩ := hX
  intro H locs ls hR hS hL
  exact lv_icmp_lt hx hb hd ht (fun q => kt q H locs ls hR hS hL) (fun q => kf q H locs ls hR hS hL)
theorem z_if_ge (hX : z_is X l me rm) {x : Int32} {off : Int} (tgt : Nat) (hd : decode me.2.1 pc = .ok (.ifCond .ge off, 3)) (ht : (pc : Int) + off = (tgt : Int)) (kt : 0 ≤ x → z_W X tgt lv st P nx u v) (kf : ¬ 0 ≤ x → z_W X (pc + 3) lv st P nx u v) : z_W X pc lv (.int x :: st) P nx u v := by
  obtain ⟨p, l, e, R, s, m, args, below, meth, c, cc, nL, own, D, cy, b, B, Q⟩ := X
  obtain ⟨yn, yc, yL, yr⟩ := me
  obtain ⟨⟨hx, hb, hml, hown, hts, hK, hB⟩, rfl, rfl, rfl, rfl, rfl⟩ := hX
  intro H locs ls hR hS hL
  exact lv_if_ge hx hb hd ht (fun q => kt q H locs ls hR hS hL) (fun q => kf q H locs ls hR hS hL)
theorem z_icmp_ge (hX : z_is X l me rm) {x y : Int32} {off : Int} (tgt : Nat) (hd : decode me.2.1 pc = .ok (.if_icmp .ge off, 3)) (ht : (pc : Int) + off = (tgt : Int)) (kt : y ≤ x → z_W X tgt lv st P nx u v) (kf : ¬ y ≤ x → z_W X (pc + 3) lv st P nx u v) : z_W X pc lv (.int y :: .int x :: st) P nx u v := by
  obtain ⟨p, l, e, R, s, m, args, below, meth, c, cc, nL, own, D, cy, b, B, Q⟩ := X
  obtain ⟨yn, yc, yL, yr⟩ := me
  obtain ⟨⟨hx, hb, hml, hown, hts, hK, hB⟩, rfl, rfl, rfl, rfl, rfl⟩ := hX
  intro H locs ls hR hS hL
  exact lv_icmp_ge hx hb hd ht (fun q => kt q H locs ls hR hS hL) (fun q => kf q H locs ls hR hS hL)
theorem z_if_gt (hX : z_is X l me rm) {x : Int32} {off : Int} (tgt : Nat) (hd : decode me.2.1 pc = .ok (.ifCond .gt off, 3)) (ht : (pc : Int) + off = (tgt : Int)) (kt : 0 < x → z_W X tgt lv st P nx u v) (kf : ¬ 0 < x → z_W X (pc + 3) lv st P nx u v) : z_W X pc lv (.int x :: st) P nx u v := by
  obtain ⟨p, l, e, R, s, m, args, below, meth, c, cc, nL, own, D, cy, b, B, Q⟩ := X
  obtain ⟨yn, yc, yL, yr⟩ := me
  obtain ⟨⟨hx, hb, hml, hown, hts, hK, hB⟩, rfl, rfl, rfl, rfl, rfl⟩ := hX
  intro H locs ls hR hS hL
  exact lv_if_gt hx hb hd ht (fun q => kt q H locs ls hR hS hL) (fun q => kf q H locs ls hR hS hL)
theorem z_icmp_gt (hX : z_is X l me rm) {x y : Int32} {off : Int} (tgt : Nat) (hd : decode me.2.1 pc = .ok (.if_icmp .gt off, 3)) (ht : (pc : Int) + off = (tgt : Int)) (kt : y < x → z_W X tgt lv st P nx u v) (kf : ¬ y < x → z_W X (pc + 3) lv st P nx u v) : z_W X pc lv (.int y :: .int x :: st) P nx u v := by
  obtain ⟨p, l, e, R, s, m, args, below, meth, c, cc, nL, own, D, cy, b, B, Q⟩ := X
  obtain ⟨yn, yc, yL, yr⟩ := me
  obtain ⟨⟨hx, hb, hml, hown, hts, hK, hB⟩, rfl, rfl, rfl, rfl, rfl⟩ := hX
  intro H locs ls hR hS hL
  exact lv_icmp_gt hx hb hd ht (fun q => kt q H locs ls hR hS hL) (fun q => kf q H locs ls hR hS hL)
theorem z_if_le (hX : z_is X l me rm) {x : Int32} {off : Int} (tgt : Nat) (hd : decode me.2.1 pc = .ok (.ifCond .le off, 3)) (ht : (pc : Int) + off = (tgt : Int)) (kt : x ≤ 0 → z_W X tgt lv st P nx u v) (kf : ¬ x ≤ 0 → z_W X (pc + 3) lv st P nx u v) : z_W X pc lv (.int x :: st) P nx u v := by
  obtain ⟨p, l, e, R, s, m, args, below, meth, c, cc, nL, own, D, cy, b, B, Q⟩ := X
  obtain ⟨yn, yc, yL, yr⟩ := me
  obtain ⟨⟨hx, hb, hml, hown, hts, hK, hB⟩, rfl, rfl, rfl, rfl, rfl⟩ := hX
  intro H locs ls hR hS hL
  exact lv_if_le hx hb hd ht (fun q => kt q H locs ls hR hS hL) (fun q => kf q H locs ls hR hS hL)
theorem z_icmp_le (hX : z_is X l me rm) {x y : Int32} {off : Int} (tgt : Nat) (hd : decode me.2.1 pc = .ok (.if_icmp .le off, 3)) (ht : (pc : Int) + off = (tgt : Int)) (kt : x ≤ y → z_W X tgt lv st P nx u v) (kf : ¬ x ≤ y → z_W X (pc + 3) lv st P nx u v) : z_W X pc lv (.int y :: .int x :: st) P nx u v := by
  obtain ⟨p, l, e, R, s, m, args, below, meth, c, cc, nL, own, D, cy, b, B, Q⟩ := X
  obtain ⟨yn, yc, yL, yr⟩ := me
  obtain ⟨⟨hx, hb, hml, hown, hts, hK, hB⟩, rfl, rfl, rfl, rfl, rfl⟩ := hX
  intro H locs ls hR hS hL
  exact lv_icmp_le hx hb hd ht (fun q => kt q H locs ls hR hS hL) (fun q => kf q H locs ls hR hS hL)
theorem z_goto (hX : z_is X l me rm) {off : Int} (tgt : Nat) (hd : decode me.2.1 pc = .ok (.goto off, 3)) (ht : (pc : Int) + off = (tgt : Int)) (k : z_W X tgt lv st P nx u v) : z_W X pc lv st P nx u v := by
  obtain ⟨p, l, e, R, s, m, args, below, meth, c, cc, nL, own, D, cy, b, B, Q⟩ := X
  obtain ⟨yn, yc, yL, yr⟩ := me
  obtain ⟨⟨hx, hb, hml, hown, hts, hK, hB⟩, rfl, rfl, rfl, rfl, rfl⟩ := hX
  intro H locs ls hR hS hL
  exact lv_goto hx hb hd ht (k H locs ls hR hS hL)
theorem z_ifnull (hX : z_is X l me rm) {off : Int} {a : Nat} (hd : decode me.2.1 pc = .ok (.ifnull off, 3)) (k : z_W X (pc + 3) lv st P nx u v) : z_W X pc lv (.ref a :: st) P nx u v := by
  obtain ⟨p, l, e, R, s, m, args, below, meth, c, cc, nL, own, D, cy, b, B, Q⟩ := X
  obtain ⟨yn, yc, yL, yr⟩ := me
  obtain ⟨⟨hx, hb, hml, hown, hts, hK, hB⟩, rfl, rfl, rfl, rfl, rfl⟩ := hX
  intro H locs ls hR hS hL
  exact lv_ifnull hx hb hd (k H locs ls hR hS hL)
theorem z_ifnullN (hX : z_is X l me rm) {off : Int} (tgt : Nat) (hd : decode me.2.1 pc = .ok (.ifnull off, 3)) (ht : (pc : Int) + off = (tgt : Int)) (k : z_W X tgt lv st P nx u v) : z_W X pc lv (.null :: st) P nx u v := by
  obtain ⟨p, l, e, R, s, m, args, below, meth, c, cc, nL, own, D, cy, b, B, Q⟩ := X
  obtain ⟨yn, yc, yL, yr⟩ := me
  obtain ⟨⟨hx, hb, hml, hown, hts, hK, hB⟩, rfl, rfl, rfl, rfl, rfl⟩ := hX
  intro H locs ls hR hS hL
  exact lv_ifnullN hx hb hd ht (k H locs ls hR hS hL)
theorem z_ifnonnull (hX : z_is X l me rm) {off : Int} {a : Nat} (tgt : Nat) (hd : decode me.2.1 pc = .ok (.ifnonnull off, 3)) (ht : (pc : Int) + off = (tgt : Int)) (k : z_W X tgt lv st P nx u v) : z_W X pc lv (.ref a :: st) P nx u v := by
  obtain ⟨p, l, e, R, s, m, args, below, meth, c, cc, nL, own, D, cy, b, B, Q⟩ := X
  obtain ⟨yn, yc, yL, yr⟩ := me
  obtain ⟨⟨hx, hb, hml, hown, hts, hK, hB⟩, rfl, rfl, rfl, rfl, rfl⟩ := hX
  intro H locs ls hR hS hL
  exact lv_ifnonnull hx hb hd ht (k H locs ls hR hS hL)
theorem z_ifnonnullN (hX : z_is X l me rm) {off : Int} (hd : decode me.2.1 pc = .ok (.ifnonnull off, 3)) (k : z_W X (pc + 3) lv st P nx u v) : z_W X pc lv (.null :: st) P nx u v := by
  obtain ⟨p, l, e, R, s, m, args, below, meth, c, cc, nL, own, D, cy, b, B, Q⟩ := X
  obtain ⟨yn, yc, yL, yr⟩ := me
  obtain ⟨⟨hx, hb, hml, hown, hts, hK, hB⟩, rfl, rfl, rfl, rfl, rfl⟩ := hX
  intro H locs ls hR hS hL
  exact lv_ifnonnullN hx hb hd (k H locs ls hR hS hL)
theorem z_tabIn (hX : z_is X l me rm) {dflt lo hi : Int} {offs : Array Int} {len : Nat} {x : Int32} {off : Int} (tgt : Nat) (hd : decode me.2.1 pc = .ok (.tableswitch dflt lo hi offs, len)) (h1 : ¬ x.toInt < lo) (h2 : ¬ hi < x.toInt) (ho : offs[(x.toInt - lo).toNat]? = some off) (ht : (pc : Int) + off = (tgt : Int)) (k : z_W X tgt lv st P nx u v) : z_W X pc lv (.int x :: st) P nx u v := by
  obtain ⟨p, l, e, R, s, m, args, below, meth, c, cc, nL, own, D, cy, b, B, Q⟩ := X
  obtain ⟨yn, yc, yL, yr⟩ := me
  obtain ⟨⟨hx, hb, hml, hown, hts, hK, hB⟩, rfl, rfl, rfl, rfl, rfl⟩ := hX
  intro H locs ls hR hS hL
  exact lv_tableIn hx hb hd h1 h2 ho ht (k H locs ls hR hS hL)
theorem z_tabOut (hX : z_is X l me rm) {dflt lo hi : Int} {offs : Array Int} {len : Nat} {x : Int32} (tgt : Nat) (hd : decode me.2.1 pc = .ok (.tableswitch dflt lo hi offs, len)) (h : x.toInt < lo ∨ hi < x.toInt) (ht : (pc : Int) + dflt = (tgt : Int)) (k : z_W X tgt lv st P nx u v) : z_W X pc lv (.int x :: st) P nx u v := by
  obtain ⟨p, l, e, R, s, m, args, below, meth, c, cc, nL, own, D, cy, b, B, Q⟩ := X
  obtain ⟨yn, yc, yL, yr⟩ := me
  obtain ⟨⟨hx, hb, hml, hown, hts, hK, hB⟩, rfl, rfl, rfl, rfl, rfl⟩ := hX
  intro H locs ls hR hS hL
  exact lv_tableOut hx hb hd h ht (k H locs ls hR hS hL)
end ZR
end
section
/-! memory: fields, arrays, new -/
theorem z_one {D : va_G} {cl : List vw_C} {q : Nat × va_E} {H : Heap} (h : va_at D cl q H) : va_P D cl [q] H := fun k x hx => by
  have h0 : k < 1 := (List.getElem?_eq_some_iff.mp hx).1
  rw [show k = 0 by omega] at hx
  cases hx
  exact h
theorem z_R.at {D : va_G} {cy : Nat → ClassId} {b B nx a : Nat} {P : z_H} {H : Heap} {c : z_C} (hR : z_R D cy b B P nx H) (hP : P a = some c) : va_at D z_cl (z_ad b B a, z_E cy b B c) H ∧ B ≤ z_ad b B a := by
  cases a with
  | zero => rw [hR.2.2.1] at hP; cases hP
  | succ k => exact ⟨hR.2.2.2 k c hP, Nat.le_add_right B k⟩
theorem z_R.set {D : va_G} {cy : Nat → ClassId} {b B nx a : Nat} {P : z_H} {H H1 : Heap} {c c' : z_C} (hR : z_R D cy b B P nx H) (hP : P a = some c) (z : H1.size = H.size) (he : va_at D z_cl (z_ad b B a, z_E cy b B c') H1) (oq : ∀ q : Nat, q ≠ z_ad b B a → H1[q]? = H[q]?) : z_R D cy b B (z_up P a c') nx H1 := by
  cases a with
  | zero => rw [hR.2.2.1] at hP; cases hP
  | succ k =>
    refine ⟨by rw [z]; exact hR.1, hR.2.1, by rw [z_up_n (by omega)]; exact hR.2.2.1, fun j d hd => ?_⟩
    by_cases hj : j = k
    · subst hj
      rw [z_up_s] at hd
      cases hd
      exact he
    · rw [z_up_n (by omega)] at hd
      exact (hR.2.2.2 j d hd).kept (oq _ (by show B + j ≠ B + k; omega))
theorem z_R.push {D : va_G} {cy : Nat → ClassId} {b B nx : Nat} {P : z_H} {H H1 : Heap} {c : z_C} (hR : z_R D cy b B P nx H) (z : H1.size = H.size + 1) (he : va_at D z_cl (H.size, z_E cy b B c) H1) (oq : ∀ q : Nat, q < H.size → H1[q]? = H[q]?) : z_R D cy b B (z_up P nx c) (nx + 1) H1 ∧ z_ad b B nx = H.size := by
  obtain ⟨h1, h2, h3, h4⟩ := hR
  cases nx with
  | zero => omega
  | succ n =>
    have e : H.size = B + n := by omega
    refine ⟨⟨by omega, by omega, by rw [z_up_n (by omega)]; exact h3, fun j d hd => ?_⟩, e.symm⟩
    by_cases hj : j = n
    · subst hj
      rw [z_up_s] at hd
      cases hd
      rw [e] at he
      exact he
    · rw [z_up_n (by omega)] at hd
      exact (h4 j d hd).kept (oq _ ((h4 j d hd).lt))
theorem z_S.grow {A : Nat → Prop} {H0 H H1 : Heap} {locs : List Loc} (hS : va_S A H0 H locs) (z : H.size ≤ H1.size) (oq : ∀ q : Nat, q < H.size → H1[q]? = H[q]?) : va_S A H0 H1 locs := ⟨Nat.le_trans hS.1 z, fun q h1 h2 => (oq q (Nat.lt_of_lt_of_le h1 hS.1)).trans (hS.2.1 q h1 h2), hS.2.2⟩
/-- a field's link: constant pool entry idx of class own is field k of class ci -/
def z_Fl (own : String) (idx ci k : Nat) : Prop := ∃ r : vw_C, z_cl[ci]? = some r ∧ k < r.2.2 ∧ (Cond.fieldLink own idx (r.2.1 k).1 (r.2.1 k).2.1 (r.2.1 k).2.2.1 ∈ z_T ∨ ∃ host, Cond.fieldLinkNest own idx (r.2.1 k).1 (r.2.1 k).2.1 (r.2.1 k).2.2.1 host ∈ z_N)
def z_fin (ci k : Nat) : Bool := match z_cl[ci]? with
  | some r => (r.2.1 k).2.2.2
  | none => true
def z_ini : z_X → Prop := fun (p, l, e, R, s, m, args, below, meth, c, cc, nL, own, D, cy, b, B, Q) => meth.name = "<init>"
theorem z_fitr {ty : FieldType} (h : ty.isReference = true) (a : Nat) : narrow ty (.ref a) = .ref a ∧ fits ty (.ref a) = true := by
  cases ty <;> first | (cases h; done) | exact ⟨rfl, rfl⟩
section ZM
variable {X : z_X} {l : Launch} {me : z_M} {rm : Room} {pc nx u v : Nat} {lv : List (Option Value)} {st : List Value} {P : z_H}
theorem z_get (hX : z_is X l me rm) {idx ci k a : Nat} {fs : List Value} {w : Value} (hf : z_Fl me.1.cls idx ci k) (hP : P a = some (.inr (ci, fs))) (hv : fs[k]? = some w) (hd : decode me.2.1 pc = .ok (.getfield idx, 3)) (kk : z_W X (pc + 3) lv (w :: st) P nx u v) : z_W X pc lv (.ref a :: st) P nx u v := by
  obtain ⟨p, l, e, R, s, m, args, below, meth, c, cc, nL, own, D, cy, b, B, Q⟩ := X
  obtain ⟨yn, yc, yL, yr⟩ := me
  obtain ⟨⟨hx, hb, hml, hown, hts, hK, hB⟩, rfl, rfl, rfl, rfl, rfl⟩ := hX
  intro H locs ls hR hS hL
  obtain ⟨r, hc, hk, hl⟩ := hf
  obtain ⟨hat, -⟩ := hR.at hP
  have hv' : (fs.map (z_V b B))[k]? = some (z_V b B w) := by rw [List.getElem?_map, hv]; rfl
  rcases hl with hl | ⟨host, hl⟩
  · exact va_get hx hb hts (z_wT ci r hc) hown hK.1 (z_one hat) 0 rfl hc k hk (hts _ hl) (fun _ h => h) hv' hd (kk H locs ls hR hS hL)
  · exact va_getN hx hb hts (z_wT ci r hc) hown hK.1 (z_one hat) 0 rfl hc k hk (va_Nw.use rfl (hK.2.2.2 _ hl)) (fun _ h => h) hv' hd (kk H locs ls hR hS hL)
theorem z_put0 (hX : z_is X l me rm) {idx ci k a : Nat} {fs : List Value} {w : Value} (hf : z_Fl me.1.cls idx ci k) (hfin : z_fin ci k = false) (hw : ∀ b B, narrow (z_ty ci k) (z_V b B w) = z_V b B w ∧ fits (z_ty ci k) (z_V b B w) = true) (hP : P a = some (.inr (ci, fs))) (hl : k < fs.length) (hd : decode me.2.1 pc = .ok (.putfield idx, 3)) (kk : z_W X (pc + 3) lv st (z_up P a (.inr (ci, fs.set k w))) nx u v) : z_W X pc lv (w :: .ref a :: st) P nx u v := by
  obtain ⟨p, l, e, R, s, m, args, below, meth, c, cc, nL, own, D, cy, b, B, Q⟩ := X
  obtain ⟨yn, yc, yL, yr⟩ := me
  obtain ⟨⟨hx, hb, hml, hown, hts, hK, hB⟩, rfl, rfl, rfl, rfl, rfl⟩ := hX
  intro H locs ls hR hS hL
  obtain ⟨r, hc, hk, hlk⟩ := hf
  have hfin' : (r.2.1 k).2.2.2 = false := by unfold z_fin at hfin; rw [hc] at hfin; exact hfin
  obtain ⟨hat, hBa⟩ := hR.at hP
  have hin := z_wT ci r hc
  have hap := va_apart (own := yn.cls) hts hin (z_ty ci) (z_tyT ci r hc) (z_nT ci r hc) hK.1 hc
  obtain ⟨r', h1, cell, q1, q2, q3, q4⟩ := hat
  have hr : r' = r := Option.some.inj (h1.symm.trans hc)
  subst hr
  obtain ⟨hS', hfc, kC, hkC, hkind⟩ := hK.1.1 ci _ hc
  obtain ⟨cf, kf, fi, f, hi, hsl⟩ := hS' k hk
  have hlay := hts _ (hin _ (u_in_lay hk))
  unfold u_lay at hlay
  rw [if_neg (by rw [hfin']; decide)] at hlay
  have hst := (u_facts hfc hkC (u_lays hts hin hk) hi).1
  have h6 := u_store hfc hkC hkind hlay hi (z_tyT ci _ hc k hk) (hw b B).1 (hw b B).2
  have hl' : k < (fs.map (z_V b B)).length := by rw [List.length_map]; exact hl
  have fin : ∀ H' : Heap, H'[z_ad b B a]? = some (cell.setSlot (D.2 ci k) (z_V b B w)) → H'.size = H.size → (∀ q, q ≠ z_ad b B a → H'[q]? = H[q]?) → z_R D cy b B (z_up P a (.inr (ci, fs.set k w))) nx H' := fun H' e1 e2 e3 => by
    refine hR.set hP e2 ?_ e3
    show va_at D z_cl (z_ad b B a, .inr (ci, (fs.set k w).map (z_V b B))) H'
    rw [List.map_set]
    exact ⟨_, hc, t_OB.to (V := updV (vp_V (fs.map (z_V b B))) k (z_V b B w)) ⟨_, e1, q2, q3, t_set q4 hap hk _⟩ (fun j _ => vp_updV_set hl' _ j)⟩
  rcases hlk with hlk | ⟨host, hlk⟩
  · refine W.putK hx hb (f := f) ⟨hown, hts _ hlk, ⟨_, _, _, hi⟩, hst⟩ (by rw [q2]; exact h6) q1 q3 (by rw [hsl]; exact k2_hasslot (q4 k hk)) rfl rfl hd fun H' e1 e2 e3 => ?_
    rw [hsl] at e1 ⊢
    exact kk H' _ ls (fin H' e1 e2 e3) (hS.put e2 e3 hBa) hL
  · refine va_WputK hx hb (f := f) hown (va_Nw.use rfl (hK.2.2.2 _ hlk)) hi hst (by rw [q2]; exact h6) q1 q3 (by rw [hsl]; exact k2_hasslot (q4 k hk)) rfl rfl hd fun H' e1 e2 e3 => ?_
    rw [hsl] at e1 ⊢
    exact kk H' _ ls (fin H' e1 e2 e3) (hS.put e2 e3 hBa) hL
theorem z_puti (hX : z_is X l me rm) {idx ci k a : Nat} {fs : List Value} {x : Int32} (hf : z_Fl me.1.cls idx ci k) (hfin : z_fin ci k = false) (ht : z_ty ci k = .int) (hP : P a = some (.inr (ci, fs))) (hl : k < fs.length) (hd : decode me.2.1 pc = .ok (.putfield idx, 3)) (kk : z_W X (pc + 3) lv st (z_up P a (.inr (ci, fs.set k (.int x)))) nx u v) : z_W X pc lv (.int x :: .ref a :: st) P nx u v :=
  z_put0 hX hf hfin (fun b B => by rw [ht]; exact ⟨rfl, rfl⟩) hP hl hd kk
theorem z_putr (hX : z_is X l me rm) {idx ci k a d : Nat} {fs : List Value} (hf : z_Fl me.1.cls idx ci k) (hfin : z_fin ci k = false) (ht : (z_ty ci k).isReference = true) (hP : P a = some (.inr (ci, fs))) (hl : k < fs.length) (hd : decode me.2.1 pc = .ok (.putfield idx, 3)) (kk : z_W X (pc + 3) lv st (z_up P a (.inr (ci, fs.set k (.ref d)))) nx u v) : z_W X pc lv (.ref d :: .ref a :: st) P nx u v :=
  z_put0 hX hf hfin (fun b B => z_fitr ht _) hP hl hd kk
/-- a final field, in a constructor of its own class -/
theorem z_putF (hX : z_is X l me rm) (hin2 : z_ini X) {idx ci k a : Nat} {r : vw_C} {fs : List Value} {w : Value} (hc : z_cl[ci]? = some r) (hk : k < r.2.2) (hlk : Cond.fieldLink me.1.cls idx (r.2.1 k).1 (r.2.1 k).2.1 (r.2.1 k).2.2.1 ∈ z_T) (hfin : (r.2.1 k).2.2.2 = true) (hdecl : (r.2.1 k).1 = me.1.cls) (hw : ∀ b B, narrow (z_ty ci k) (z_V b B w) = z_V b B w ∧ fits (z_ty ci k) (z_V b B w) = true) (hP : P a = some (.inr (ci, fs))) (hl : k < fs.length) (hd : decode me.2.1 pc = .ok (.putfield idx, 3)) (kk : z_W X (pc + 3) lv st (z_up P a (.inr (ci, fs.set k w))) nx u v) : z_W X pc lv (w :: .ref a :: st) P nx u v := by
  obtain ⟨p, l, e, R, s, m, args, below, meth, c, cc, nL, own, D, cy, b, B, Q⟩ := X
  obtain ⟨yn, yc, yL, yr⟩ := me
  obtain ⟨⟨hx, hb, hml, hown, hts, hK, hB⟩, rfl, rfl, rfl, rfl, rfl⟩ := hX
  intro H locs ls hR hS hL
  obtain ⟨hat, hBa⟩ := hR.at hP
  have hin := z_wT ci r hc
  have hap := va_apart (own := yn.cls) hts hin (z_ty ci) (z_tyT ci r hc) (z_nT ci r hc) hK.1 hc
  obtain ⟨r', h1, cell, q1, q2, q3, q4⟩ := hat
  have hr : r' = r := Option.some.inj (h1.symm.trans hc)
  subst hr
  obtain ⟨hS', hfc, kC, hkC, hkind⟩ := hK.1.1 ci _ hc
  obtain ⟨cf, kf, fi, f, hi, hsl⟩ := hS' k hk
  have hlay := hts _ (hin _ (u_in_lay hk))
  unfold u_lay at hlay
  rw [if_pos hfin] at hlay
  have hst := (u_facts hfc hkC (u_lays hts hin hk) hi).1
  have hcf : m.cls = cf := by
    obtain ⟨_, _, c', _, _, _, -, -, hf', -, -, -, hown2, -⟩ := Cond.laysFinal_spec hlay
    have e1 : c' = cf := by have := hi.symm.trans hf'; simp at this; exact this.1.symm
    rw [hdecl] at hown2
    rw [← e1]; exact Option.some.inj (hown.symm.trans hown2)
  have h6 := u_fits hfc hkC hkind (Or.inr hlay) hi (z_tyT ci _ hc k hk) (hw b B).1 (hw b B).2
  have hl' : k < (fs.map (z_V b B)).length := by rw [List.length_map]; exact hl
  refine W.putFinK hx hb hown (hts _ hlk) hi hst hcf hin2 (by rw [q2]; exact h6) q1 q3 (by rw [hsl]; exact k2_hasslot (q4 k hk)) rfl rfl hd fun H' e1 e2 e3 => ?_
  rw [hsl] at e1 ⊢
  refine kk H' _ ls (hR.set hP e2 ?_ e3) (hS.put e2 e3 hBa) hL
  show va_at D z_cl (z_ad b B a, .inr (ci, (fs.set k w).map (z_V b B))) H'
  rw [List.map_set]
  exact ⟨_, hc, t_OB.to (V := updV (vp_V (fs.map (z_V b B))) k (z_V b B w)) ⟨_, e1, q2, q3, t_set q4 hap hk _⟩ (fun j _ => vp_updV_set hl' _ j)⟩
theorem z_iald (hX : z_is X l me rm) {a n : Nat} {f : Nat → Int32} {i : Int32} (hP : P a = some (.inl (0, n, .inl f))) (hin : vp_in i n) (hd : decode me.2.1 pc = .ok (.iaload, 1)) (kk : z_W X (pc + 1) lv (.int (f i.toNatClampNeg) :: st) P nx u v) : z_W X pc lv (.int i :: .ref a :: st) P nx u v := by
  obtain ⟨p, l, e, R, s, m, args, below, meth, c, cc, nL, own, D, cy, b, B, Q⟩ := X
  obtain ⟨yn, yc, yL, yr⟩ := me
  obtain ⟨⟨hx, hb, hml, hown, hts, hK, hB⟩, rfl, rfl, rfl, rfl, rfl⟩ := hX
  intro H locs ls hR hS hL
  exact va_iald hx hb hK.1 (z_one (hR.at hP).1) 0 0 rfl rfl hin hd (kk H locs ls hR hS hL)
theorem z_lald (hX : z_is X l me rm) {a n : Nat} {f : Nat → Int64} {i : Int32} (hP : P a = some (.inl (1, n, .inr (.inl f)))) (hin : vp_in i n) (hd : decode me.2.1 pc = .ok (.laload, 1)) (kk : z_W X (pc + 1) lv (.long (f i.toNatClampNeg) :: st) P nx u v) : z_W X pc lv (.int i :: .ref a :: st) P nx u v := by
  obtain ⟨p, l, e, R, s, m, args, below, meth, c, cc, nL, own, D, cy, b, B, Q⟩ := X
  obtain ⟨yn, yc, yL, yr⟩ := me
  obtain ⟨⟨hx, hb, hml, hown, hts, hK, hB⟩, rfl, rfl, rfl, rfl, rfl⟩ := hX
  intro H locs ls hR hS hL
  exact va_lald hx hb hK.1 (z_one (hR.at hP).1) 0 1 rfl rfl hin hd (kk H locs ls hR hS hL)
theorem z_bald (hX : z_is X l me rm) {a n : Nat} {f : Nat → Int32} {i : Int32} (hP : P a = some (.inl (2, n, .inl f))) (hin : vp_in i n) (hd : decode me.2.1 pc = .ok (.baload, 1)) (kk : z_W X (pc + 1) lv (.int (f i.toNatClampNeg) :: st) P nx u v) : z_W X pc lv (.int i :: .ref a :: st) P nx u v := by
  obtain ⟨p, l, e, R, s, m, args, below, meth, c, cc, nL, own, D, cy, b, B, Q⟩ := X
  obtain ⟨yn, yc, yL, yr⟩ := me
  obtain ⟨⟨hx, hb, hml, hown, hts, hK, hB⟩, rfl, rfl, rfl, rfl, rfl⟩ := hX
  intro H locs ls hR hS hL
  exact va_bald hx hb hK.1 (z_one (hR.at hP).1) 0 2 rfl rfl hin hd (kk H locs ls hR hS hL)
theorem z_zald (hX : z_is X l me rm) {a n : Nat} {f : Nat → Int32} {i : Int32} (hP : P a = some (.inl (3, n, .inl f))) (hin : vp_in i n) (hd : decode me.2.1 pc = .ok (.baload, 1)) (kk : z_W X (pc + 1) lv (.int (f i.toNatClampNeg) :: st) P nx u v) : z_W X pc lv (.int i :: .ref a :: st) P nx u v := by
  obtain ⟨p, l, e, R, s, m, args, below, meth, c, cc, nL, own, D, cy, b, B, Q⟩ := X
  obtain ⟨yn, yc, yL, yr⟩ := me
  obtain ⟨⟨hx, hb, hml, hown, hts, hK, hB⟩, rfl, rfl, rfl, rfl, rfl⟩ := hX
  intro H locs ls hR hS hL
  exact va_zald hx hb hK.1 (z_one (hR.at hP).1) 0 3 rfl rfl hin hd (kk H locs ls hR hS hL)
/-- arrays of references: what is there is a cell -/
theorem z_aald (hX : z_is X l me rm) {a n r : Nat} {f : Nat → Option Nat} {i : Int32} (hP : P a = some (.inl (4, n, .inr (.inr (.inr (.inr f)))))) (hin : vp_in i n) (hf : f i.toNatClampNeg = some r) (hd : decode me.2.1 pc = .ok (.aaload, 1)) (kk : z_W X (pc + 1) lv (.ref r :: st) P nx u v) : z_W X pc lv (.int i :: .ref a :: st) P nx u v := by
  obtain ⟨p, l, e, R, s, m, args, below, meth, c, cc, nL, own, D, cy, b, B, Q⟩ := X
  obtain ⟨yn, yc, yL, yr⟩ := me
  obtain ⟨⟨hx, hb, hml, hown, hts, hK, hB⟩, rfl, rfl, rfl, rfl, rfl⟩ := hX
  intro H locs ls hR hS hL
  refine va_aldq hx hb hK.1 (z_one (hR.at hP).1) 0 4 rfl rfl hin hd ?_
  show W p l e R s m args below meth c H locs u v Q (F0 m (pc + 1) ls (va_rf (Option.map (z_ad b B) (f i.toNatClampNeg)) :: List.map (z_V b B) st))
  rw [hf]
  exact kk H locs ls hR hS hL
theorem z_aaldA (hX : z_is X l me rm) {a n r : Nat} {f : Nat → Option Nat} {i : Int32} (hP : P a = some (.inl (5, n, .inr (.inr (.inr (.inr f)))))) (hin : vp_in i n) (hf : f i.toNatClampNeg = some r) (hd : decode me.2.1 pc = .ok (.aaload, 1)) (kk : z_W X (pc + 1) lv (.ref r :: st) P nx u v) : z_W X pc lv (.int i :: .ref a :: st) P nx u v := by
  obtain ⟨p, l, e, R, s, m, args, below, meth, c, cc, nL, own, D, cy, b, B, Q⟩ := X
  obtain ⟨yn, yc, yL, yr⟩ := me
  obtain ⟨⟨hx, hb, hml, hown, hts, hK, hB⟩, rfl, rfl, rfl, rfl, rfl⟩ := hX
  intro H locs ls hR hS hL
  have hlt : i.toNatClampNeg < n := Nat.not_le.mp fun q => hin (Or.inr q)
  have hat : H[z_ad b B a]? = some (vp_cell (cy 5) (n, .inr (.inr (.inr (.inr (fun j => (f j).map (z_ad b B))))))) := (hR.at hP).1
  refine W.aald (v := .ref (z_ad b B r)) (ty := .array .int) hx hb hat ((hK.1.2 5 _ rfl).1 n (fun j => va_rf ((f j).map (z_ad b B)))) rfl (fun q => by cases q) (by show ¬ (i < 0 ∨ (arrV _ _ _).slots.size ≤ _); rw [arrV_size]; exact hin) (by show (arrV _ _ _).slots[_]? = _; rw [arrV_read _ _ hlt]; show some (va_rf (Option.map (z_ad b B) (f i.toNatClampNeg))) = _; rw [hf]; rfl) rfl rfl hd (kk H locs ls hR hS hL)
theorem z_iast (hX : z_is X l me rm) {a n : Nat} {f : Nat → Int32} {i x : Int32} (hP : P a = some (.inl (0, n, .inl f))) (hin : vp_in i n) (hd : decode me.2.1 pc = .ok (.iastore, 1)) (kk : z_W X (pc + 1) lv st (z_up P a (.inl (0, n, .inl (upd f i.toNatClampNeg x)))) nx u v) : z_W X pc lv (.int x :: .int i :: .ref a :: st) P nx u v := by
  obtain ⟨p, l, e, R, s, m, args, below, meth, c, cc, nL, own, D, cy, b, B, Q⟩ := X
  obtain ⟨yn, yc, yL, yr⟩ := me
  obtain ⟨⟨hx, hb, hml, hown, hts, hK, hB⟩, rfl, rfl, rfl, rfl, rfl⟩ := hX
  intro H locs ls hR hS hL
  obtain ⟨hat, hBa⟩ := hR.at hP
  refine W.iast hx hb hat ((hK.1.2 0 _ rfl).1 n (fun j => .int (f j))) (fun q => by cases q) (by show ¬ (i < 0 ∨ (arrV _ _ _).slots.size ≤ _); rw [arrV_size]; exact hin) rfl rfl hd fun H1 e z oq => ?_
  refine kk H1 _ ls (hR.set hP z ?_ oq) (hS.put z oq hBa) hL
  show H1[z_ad b B a]? = some (vp_cell (cy 0) (n, .inl _))
  rw [e]
  show some (Cell.setSlot (vp_cell (cy 0) (n, .inl f)) _ _) = _
  rw [vp_cell_i, vp_cell_i, arrV_store]
  congr 2
  funext q
  by_cases hq : q = i.toNatClampNeg
  · subst hq
    simp [updV, upd]
  · simp [updV, upd, hq]
theorem z_bast (hX : z_is X l me rm) {a n : Nat} {f : Nat → Int32} {i x : Int32} (hP : P a = some (.inl (2, n, .inl f))) (hin : vp_in i n) (hd : decode me.2.1 pc = .ok (.bastore, 1)) (kk : z_W X (pc + 1) lv st (z_up P a (.inl (2, n, .inl (upd f i.toNatClampNeg (vp_nar .byte x))))) nx u v) : z_W X pc lv (.int x :: .int i :: .ref a :: st) P nx u v := by
  obtain ⟨p, l, e, R, s, m, args, below, meth, c, cc, nL, own, D, cy, b, B, Q⟩ := X
  obtain ⟨yn, yc, yL, yr⟩ := me
  obtain ⟨⟨hx, hb, hml, hown, hts, hK, hB⟩, rfl, rfl, rfl, rfl, rfl⟩ := hX
  intro H locs ls hR hS hL
  obtain ⟨hat, hBa⟩ := hR.at hP
  refine W.bast hx hb hat ((hK.1.2 2 _ rfl).1 n (fun j => .int (f j))) (fun q => by cases q) (by show ¬ (i < 0 ∨ (arrV _ _ _).slots.size ≤ _); rw [arrV_size]; exact hin) rfl rfl hd fun H1 e z oq => ?_
  refine kk H1 _ ls (hR.set hP z ?_ oq) (hS.put z oq hBa) hL
  show H1[z_ad b B a]? = some (vp_cell (cy 2) (n, .inl _))
  rw [e]
  show some (Cell.setSlot (vp_cell (cy 2) (n, .inl f)) _ _) = _
  rw [vp_cell_i, vp_cell_i, arrV_store]
  congr 2
  funext q
  by_cases hq : q = i.toNatClampNeg
  · subst hq
    simp [updV, upd, vp_nar]
    try rfl
  · simp [updV, upd, hq]
theorem z_zast (hX : z_is X l me rm) {a n : Nat} {f : Nat → Int32} {i x : Int32} (hP : P a = some (.inl (3, n, .inl f))) (hin : vp_in i n) (hd : decode me.2.1 pc = .ok (.bastore, 1)) (kk : z_W X (pc + 1) lv st (z_up P a (.inl (3, n, .inl (upd f i.toNatClampNeg (vp_nar .boolean x))))) nx u v) : z_W X pc lv (.int x :: .int i :: .ref a :: st) P nx u v := by
  obtain ⟨p, l, e, R, s, m, args, below, meth, c, cc, nL, own, D, cy, b, B, Q⟩ := X
  obtain ⟨yn, yc, yL, yr⟩ := me
  obtain ⟨⟨hx, hb, hml, hown, hts, hK, hB⟩, rfl, rfl, rfl, rfl, rfl⟩ := hX
  intro H locs ls hR hS hL
  obtain ⟨hat, hBa⟩ := hR.at hP
  refine W.zast hx hb hat ((hK.1.2 3 _ rfl).1 n (fun j => .int (f j))) (fun q => by cases q) (by show ¬ (i < 0 ∨ (arrV _ _ _).slots.size ≤ _); rw [arrV_size]; exact hin) rfl rfl hd fun H1 e z oq => ?_
  refine kk H1 _ ls (hR.set hP z ?_ oq) (hS.put z oq hBa) hL
  show H1[z_ad b B a]? = some (vp_cell (cy 3) (n, .inl _))
  rw [e]
  show some (Cell.setSlot (vp_cell (cy 3) (n, .inl f)) _ _) = _
  rw [vp_cell_i, vp_cell_i, arrV_store]
  congr 2
  funext q
  by_cases hq : q = i.toNatClampNeg
  · subst hq
    simp [updV, upd, vp_nar]
    try rfl
  · simp [updV, upd, hq]
theorem z_last (hX : z_is X l me rm) {a n : Nat} {f : Nat → Int64} {i : Int32} {x : Int64} (hP : P a = some (.inl (1, n, .inr (.inl f)))) (hin : vp_in i n) (hd : decode me.2.1 pc = .ok (.lastore, 1)) (kk : z_W X (pc + 1) lv st (z_up P a (.inl (1, n, .inr (.inl (vp_updL f i.toNatClampNeg x))))) nx u v) : z_W X pc lv (.long x :: .int i :: .ref a :: st) P nx u v := by
  obtain ⟨p, l, e, R, s, m, args, below, meth, c, cc, nL, own, D, cy, b, B, Q⟩ := X
  obtain ⟨yn, yc, yL, yr⟩ := me
  obtain ⟨⟨hx, hb, hml, hown, hts, hK, hB⟩, rfl, rfl, rfl, rfl, rfl⟩ := hX
  intro H locs ls hR hS hL
  obtain ⟨hat, hBa⟩ := hR.at hP
  refine W.last hx hb hat ((hK.1.2 1 _ rfl).1 n (fun j => .long (f j))) (fun q => by cases q) (by show ¬ (i < 0 ∨ (arrV _ _ _).slots.size ≤ _); rw [arrV_size]; exact hin) rfl rfl hd fun H1 e z oq => ?_
  refine kk H1 _ ls (hR.set hP z ?_ oq) (hS.put z oq hBa) hL
  show H1[z_ad b B a]? = some (vp_cell (cy 1) (n, .inr (.inl _)))
  rw [e]
  show some (Cell.setSlot (vp_cell (cy 1) (n, .inr (.inl f))) _ _) = _
  rw [vp_cell_l, vp_cell_l, arrV_store]
  congr 2
  funext q
  by_cases hq : q = i.toNatClampNeg
  · subst hq
    simp [updV, vp_updL]
  · simp [updV, vp_updL, hq]
/-- a Road into an array of Roads -/
theorem z_aast (hX : z_is X l me rm) {a n d : Nat} {f : Nat → Option Nat} {i : Int32} {gs : List Value} (hP : P a = some (.inl (4, n, .inr (.inr (.inr (.inr f)))))) (hV : P d = some (.inr (3, gs))) (hin : vp_in i n) (hd : decode me.2.1 pc = .ok (.aastore, 1)) (kk : z_W X (pc + 1) lv st (z_up P a (.inl (4, n, .inr (.inr (.inr (.inr (va_up f i.toNatClampNeg (some d)))))))) nx u v) : z_W X pc lv (.ref d :: .int i :: .ref a :: st) P nx u v := by
  obtain ⟨p, l, e, R, s, m, args, below, meth, c, cc, nL, own, D, cy, b, B, Q⟩ := X
  obtain ⟨yn, yc, yL, yr⟩ := me
  obtain ⟨⟨hx, hb, hml, hown, hts, hK, hB⟩, rfl, rfl, rfl, rfl, rfl⟩ := hX
  intro H locs ls hR hS hL
  obtain ⟨hat, hBa⟩ := hR.at hP
  have hlt : i.toNatClampNeg < n := Nat.not_le.mp fun q => hin (Or.inr q)
  have h0 : ¬ i < 0 := fun q => hin (Or.inl q)
  obtain ⟨r', hr', cellV, g1, g2, g3, -⟩ := (hR.at hV).1
  have hcls := (hK.1.1 3 _ rfl).2
  obtain ⟨kA, comp, k1, k2, k3, -⟩ := (hK.1.2 4 _ rfl).2
  have hcomp : comp = D.1 3 := Option.some.inj (k3.symm.trans hcls.1)
  subst hcomp
  obtain ⟨kC, hkC, -⟩ := hcls.2
  refine W.aast hx hb hat (fun q h => by cases h) (fun h => by cases h) k1 k2 rfl hkC ⟨h0, by show _ < (arrV _ _ _).slots.size; rw [arrV_size]; exact hlt⟩ g1 (fun q h => by rw [g3] at h; cases h) (by rw [g2]; exact hkC) (by rw [g2]; exact va_assign hcls) rfl rfl hd fun H1 e z oq => ?_
  refine kk H1 _ ls (hR.set hP z ?_ oq) (hS.put z oq hBa) hL
  show H1[z_ad b B a]? = some (vp_cell (cy 4) (n, .inr (.inr (.inr (.inr _)))))
  rw [e]
  show some (Cell.setSlot (vp_cell (cy 4) (n, .inr (.inr (.inr (.inr _))))) _ _) = _
  rw [vp_cell_q, vp_cell_q, arrV_store]
  congr 2
  funext q
  by_cases hq : q = i.toNatClampNeg
  · subst hq
    simp [updV, va_up, va_rf]
  · simp [updV, va_up, hq]
end ZM
end
section
/-! new cells; calls; returns; a method's entry -/
section ZN
variable {X : z_X} {l : Launch} {me : z_M} {rm : Room} {pc nx u v : Nat} {lv : List (Option Value)} {st : List Value} {P : z_H}
theorem z_new (hX : z_is X l me rm) {idx ci : Nat} {r : vw_C} (hc : z_cl[ci]? = some r) (hcl : Cond.classLink me.1.cls idx r.1 ∈ z_T) (hin : Cond.instantiable r.1 r.2.2 ∈ z_T) (hini : Cond.initialized r.1 ∈ z_T) (hu : u + 1 ≤ rm.cells) (hv : v + r.2.2 ≤ rm.slots) (hd : decode me.2.1 pc = .ok (.new idx, 3)) (kk : z_W X (pc + 3) lv (.ref nx :: st) (z_up P nx (.inr (ci, z_df ci))) (nx + 1) (u + 1) (v + r.2.2)) : z_W X pc lv st P nx u v := by
  obtain ⟨p, l, e, R, s, m, args, below, meth, c, cc, nL, own, D, cy, b, B, Q⟩ := X
  obtain ⟨yn, yc, yL, yr⟩ := me
  obtain ⟨⟨hx, hb, hml, hown, hts, hK, hB⟩, rfl, rfl, rfl, rfl, rfl⟩ := hX
  intro H locs ls hR hS hL
  have hKn := hK.1.1 ci _ hc
  refine W.newcK hx hb hown (hts _ hcl) (hts _ hin) (hts _ hini) rfl hd hu hv hKn.2.1 rfl fun H1 kC hkC e1 z1 o1 => ?_
  have hat : va_at D z_cl (H.size, z_E cy b B (.inr (ci, z_df ci))) H1 := by
    refine ⟨_, hc, ((u_born (z_ty ci) hts (z_wT ci r hc) hKn hkC e1 (z_tyT ci r hc)).to (fun j hj => ?_))⟩
    rw [z_dfT ci r hc j hj]
    show vp_V (z_df ci) j = vp_V ((z_df ci).map (z_V b B)) j
    have : (z_df ci).map (z_V b B) = z_df ci := by
      match ci, hc with
      | 0, hc => rfl
      | 1, hc => rfl
      | 2, hc => rfl
      | 3, hc => rfl
      | 4, hc => rfl
      | 5, hc => rfl
      | 6, hc => rfl
      | 7, hc => rfl
      | 8, hc => rfl
      | k + 9, hc => simp [z_cl] at hc
    rw [this]
  obtain ⟨hR1, ha⟩ := hR.push z1 hat o1
  have := kk H1 locs ls hR1 (z_S.grow hS (by omega) o1) hL
  rw [List.map_cons, show z_V b B (.ref nx) = .ref H.size from congrArg Value.ref ha] at this
  exact this
/-- newarray: the kind of cell that it makes -/
theorem z_newa0 (hX : z_is X l me rm) {at0 : ArrayType} {n : Int32} {N kd : Nat} {a0 : vp_A} (hw : Cond.arrayClass (newarray.typeOf at0) ∈ z_T) (hk : ∀ cy : Nat → ClassId, (z_tys cy)[kd]? = some (cy kd, newarray.typeOf at0)) (hf : ∀ (s : State) (c1 c2 : ClassId), va_RA s c1 (newarray.typeOf at0) → s.vm.findClass ("[" ++ (newarray.typeOf at0).toString) = some c2 → c1 = c2) (ha : ∀ cA : ClassId, vp_cell cA a0 = arrV cA N (fun _ => defaultValue (newarray.typeOf at0))) (ha2 : ∀ b B, z_A b B a0 = a0) (hn : ¬ n < 0) (hN : n.toNatClampNeg = N) (hby : N * componentBytes (newarray.typeOf at0) ≤ 536870912) (hu : u + 1 ≤ rm.cells) (hv : v + N ≤ rm.slots) (hd : decode me.2.1 pc = .ok (.newarray at0, 2)) (kk : z_W X (pc + 2) lv (.ref nx :: st) (z_up P nx (.inl (kd, a0))) (nx + 1) (u + 1) (v + N)) : z_W X pc lv (.int n :: st) P nx u v := by
  obtain ⟨p, l, e, R, s, m, args, below, meth, c, cc, nL, own, D, cy, b, B, Q⟩ := X
  obtain ⟨yn, yc, yL, yr⟩ := me
  obtain ⟨⟨hx, hb, hml, hown, hts, hK, hB⟩, rfl, rfl, rfl, rfl, rfl⟩ := hX
  intro H locs ls hR hS hL
  refine va_newaK hx hb (hts _ hw) rfl hd rfl hn hN hby hu hv rfl fun H1 cA e1 z1 o1 hAr hNm => ?_
  have hcA : cy kd = cA := hf s _ _ (hK.1.2 kd _ (hk cy)).2 hNm
  have hat : va_at D z_cl (H.size, z_E cy b B (.inl (kd, a0))) H1 := by
    show H1[H.size]? = some (vp_cell (cy kd) (z_A b B a0))
    rw [ha2, hcA, ha, e1]
  obtain ⟨hR1, hadr⟩ := hR.push z1 hat o1
  have := kk H1 locs ls hR1 (z_S.grow hS (by omega) o1) hL
  rw [List.map_cons, show z_V b B (.ref nx) = .ref H.size from congrArg Value.ref hadr] at this
  exact this
theorem z_fcu {s : State} {c1 c2 : ClassId} {t : String} (h1 : s.vm.findClass t = some c1) (h2 : s.vm.findClass t = some c2) : c1 = c2 := Option.some.inj (h1.symm.trans h2)
theorem z_newi (hX : z_is X l me rm) {n : Int32} (N : Nat) (hw : Cond.arrayClass .int ∈ z_T) (hn : ¬ n < 0) (hN : n.toNatClampNeg = N) (hby : N * 4 ≤ 536870912) (hu : u + 1 ≤ rm.cells) (hv : v + N ≤ rm.slots) (hd : decode me.2.1 pc = .ok (.newarray .int, 2)) (kk : z_W X (pc + 2) lv (.ref nx :: st) (z_up P nx (.inl (0, N, .inl (fun _ => 0)))) (nx + 1) (u + 1) (v + N)) : z_W X pc lv (.int n :: st) P nx u v :=
  z_newa0 (at0 := .int) hX hw (fun _ => rfl) (fun s c1 c2 h1 h2 => z_fcu h1 h2) (fun _ => rfl) (fun _ _ => rfl) hn hN hby hu hv hd kk
theorem z_newl (hX : z_is X l me rm) {n : Int32} (N : Nat) (hw : Cond.arrayClass .long ∈ z_T) (hn : ¬ n < 0) (hN : n.toNatClampNeg = N) (hby : N * 8 ≤ 536870912) (hu : u + 1 ≤ rm.cells) (hv : v + N ≤ rm.slots) (hd : decode me.2.1 pc = .ok (.newarray .long, 2)) (kk : z_W X (pc + 2) lv (.ref nx :: st) (z_up P nx (.inl (1, N, .inr (.inl (fun _ => 0))))) (nx + 1) (u + 1) (v + N)) : z_W X pc lv (.int n :: st) P nx u v :=
  z_newa0 (at0 := .long) hX hw (fun _ => rfl) (fun s c1 c2 h1 h2 => z_fcu h1 h2) (fun _ => rfl) (fun _ _ => rfl) hn hN hby hu hv hd kk
theorem z_newb (hX : z_is X l me rm) {n : Int32} (N : Nat) (hw : Cond.arrayClass .byte ∈ z_T) (hn : ¬ n < 0) (hN : n.toNatClampNeg = N) (hby : N * 1 ≤ 536870912) (hu : u + 1 ≤ rm.cells) (hv : v + N ≤ rm.slots) (hd : decode me.2.1 pc = .ok (.newarray .byte, 2)) (kk : z_W X (pc + 2) lv (.ref nx :: st) (z_up P nx (.inl (2, N, .inl (fun _ => 0)))) (nx + 1) (u + 1) (v + N)) : z_W X pc lv (.int n :: st) P nx u v :=
  z_newa0 (at0 := .byte) hX hw (fun _ => rfl) (fun s c1 c2 h1 h2 => z_fcu h1 h2) (fun _ => rfl) (fun _ _ => rfl) hn hN hby hu hv hd kk
theorem z_newz (hX : z_is X l me rm) {n : Int32} (N : Nat) (hw : Cond.arrayClass .boolean ∈ z_T) (hn : ¬ n < 0) (hN : n.toNatClampNeg = N) (hby : N * 1 ≤ 536870912) (hu : u + 1 ≤ rm.cells) (hv : v + N ≤ rm.slots) (hd : decode me.2.1 pc = .ok (.newarray .boolean, 2)) (kk : z_W X (pc + 2) lv (.ref nx :: st) (z_up P nx (.inl (3, N, .inl (fun _ => 0)))) (nx + 1) (u + 1) (v + N)) : z_W X pc lv (.int n :: st) P nx u v :=
  z_newa0 (at0 := .boolean) hX hw (fun _ => rfl) (fun s c1 c2 h1 h2 => z_fcu h1 h2) (fun _ => rfl) (fun _ _ => rfl) hn hN hby hu hv hd kk
theorem z_anew (hX : z_is X l me rm) {idx : Nat} {n : Int32} (N : Nat) (hcl : Cond.classLink me.1.cls idx "RoadCounts$Road" ∈ z_T) (hn : ¬ n < 0) (hN : n.toNatClampNeg = N) (hby : N * 4 ≤ 536870912) (hu : u + 1 ≤ rm.cells) (hv : v + N ≤ rm.slots) (hd : decode me.2.1 pc = .ok (.anewarray idx, 3)) (kk : z_W X (pc + 3) lv (.ref nx :: st) (z_up P nx (.inl (4, N, .inr (.inr (.inr (.inr (fun _ => none))))))) (nx + 1) (u + 1) (v + N)) : z_W X pc lv (.int n :: st) P nx u v := by
  obtain ⟨p, l, e, R, s, m, args, below, meth, c, cc, nL, own, D, cy, b, B, Q⟩ := X
  obtain ⟨yn, yc, yL, yr⟩ := me
  obtain ⟨⟨hx, hb, hml, hown, hts, hK, hB⟩, rfl, rfl, rfl, rfl, rfl⟩ := hX
  intro H locs ls hR hS hL
  subst hN
  refine W.anew hx hb hown (hts _ hcl) (va_AO.use hK.2.1) rfl hd rfl hn hby hu hv fun cA kA comp f1 f2 f3 f4 => ?_
  generalize hH1 : H.push ({ cls := cA, slots := Array.replicate n.toNatClampNeg .null, vm := .none } : Cell) = H1
  have z1 : H1.size = H.size + 1 := by rw [← hH1, Array.size_push]
  have e1 : H1[H.size]? = some (arrV cA n.toNatClampNeg (fun _ => .null)) := by rw [← hH1, Array.getElem?_push_size, ← arrV_new]
  have o1 : ∀ q : Nat, q < H.size → H1[q]? = H[q]? := fun q hq => by rw [← hH1, Array.getElem?_push, if_neg (Nat.ne_of_lt hq)]
  obtain ⟨-, -, -, -, -, k4⟩ := (hK.1.2 4 _ rfl).2
  have hcA : cy 4 = cA := z_fcu k4 f1
  have hat : va_at D z_cl (H.size, z_E cy b B (.inl (4, n.toNatClampNeg, .inr (.inr (.inr (.inr (fun _ => none))))))) H1 := by
    show H1[H.size]? = some (vp_cell (cy 4) (n.toNatClampNeg, .inr (.inr (.inr (.inr (fun _ => none))))))
    rw [hcA, vp_cell_q]
    exact e1
  obtain ⟨hR1, hadr⟩ := hR.push z1 hat o1
  have := kk H1 locs ls hR1 (z_S.grow hS (by omega) o1) hL
  rw [List.map_cons, show z_V b B (.ref nx) = .ref H.size from congrArg Value.ref hadr] at this
  exact this
/-- the world behind new int[N][M]: the outer array nx, its rows nx + 1 .. nx + N -/
def z_grid (P : z_H) (nx N M : Nat) : z_H := fun j => if j = nx then some (.inl (5, N, .inr (.inr (.inr (.inr (fun i => if i < N then some (nx + 1 + i) else none)))))) else if nx < j ∧ j ≤ nx + N then some (.inl (0, M, .inl (fun _ => 0))) else P j
theorem z_outer (c : ClassId) (N h0 : Nat) : ∀ i : Nat, Jvm.Free.Multi.outerC c N h0 i = arrV c N (fun j => va_rf (if j < i then some (h0 + 1 + j) else none))
  | 0 => by
    show ({ cls := c, slots := Array.replicate N .null, vm := .none } : Cell) = _
    rw [arrV_new]
    refine congrArg (arrV c N) (funext fun j => ?_)
    simp [va_rf]
  | i + 1 => by
    show (Jvm.Free.Multi.outerC c N h0 i).setSlot i (.ref (h0 + 1 + i)) = _
    rw [z_outer c N h0 i, arrV_store]
    refine congrArg (arrV c N) (funext fun j => ?_)
    by_cases e : j = i
    · subst e
      simp [updV, va_rf]
    · by_cases h : j < i
      · simp [updV, e, h, Nat.lt_succ_of_lt h]
      · simp [updV, e, h, show ¬ j < i + 1 by omega]
theorem z_mna (hX : z_is X l me rm) {idx : Nat} {n k : Int32} (N M : Nat) (hcl : Cond.classLink me.1.cls idx "[[I" ∈ z_T) (hw : Cond.arrayClass .int ∈ z_T) (hn : ¬ n < 0) (hk : ¬ k < 0) (hN : n.toNatClampNeg = N) (hM : k.toNatClampNeg = M) (hb1 : N * 4 ≤ 536870912) (hb2 : M * 4 ≤ 536870912) (hu : u + (1 + N) ≤ rm.cells) (hv : v + (N + N * M) ≤ rm.slots) (hd : decode me.2.1 pc = .ok (.multianewarray idx 2, 4)) (kk : z_W X (pc + 4) lv (.ref nx :: st) (z_grid P nx N M) (nx + 1 + N) (u + 1 + N) (v + N + N * M)) : z_W X pc lv (.int k :: .int n :: st) P nx u v := by
  obtain ⟨p, l, e, R, s, m, args, below, meth, c, cc, nL, own, D, cy, b, B, Q⟩ := X
  obtain ⟨yn, yc, yL, yr⟩ := me
  obtain ⟨⟨hx, hb, hml, hown, hts, hK, hB⟩, rfl, rfl, rfl, rfl, rfl⟩ := hX
  intro H locs ls hR hS hL
  subst hN
  subst hM
  intro T hT Xs
  obtain ⟨vm₁, cA, comp, -, fA, fC, hO, -, X', step⟩ := Xs.multianewarray2F hx (ty := .int) hown (hts _ hcl) hK.2.2.1 (hts _ hw) (g := F0 m pc ls (.int k :: .int n :: st.map (z_V b B))) rfl (by rw [hb]; exact hd) rfl hn hk hb1 hb2 (by omega) rfl rfl hu hv
  generalize hF : Jvm.Free.Multi.fill (T.setVm vm₁) cA comp n.toNatClampNeg k.toNatClampNeg (defaultValue .int) n.toNatClampNeg = F at X' step
  have hTh : (T.setVm vm₁).heap = H := hT
  obtain ⟨f1, f2, -, -⟩ := Jvm.Free.Multi.fill_facts (T.setVm vm₁) cA comp n.toNatClampNeg k.toNatClampNeg (defaultValue .int) n.toNatClampNeg
  rw [hF, hTh] at f1 f2
  have hold : ∀ x : Nat, x < H.size → F.heap[x]? = H[x]? := fun x hx => by
    have := Jvm.Free.Multi.fill_old (T.setVm vm₁) cA comp n.toNatClampNeg k.toNatClampNeg (defaultValue .int) (a := x) (by rw [hTh]; exact hx) n.toNatClampNeg
    rw [hF, hTh] at this
    exact this
  have hc5 : cy 5 = cA := z_fcu (hK.1.2 5 _ rfl).2 fA
  have hc0 : cy 0 = comp := z_fcu (hK.1.2 0 _ rfl).2 fC
  have hrow : ∀ j : Nat, j < n.toNatClampNeg → F.heap[H.size + 1 + j]? = some (vp_cell (cy 0) (k.toNatClampNeg, .inl (fun _ => 0))) := fun j hj => by
    have := Jvm.Free.Multi.fill_inner (T.setVm vm₁) cA comp n.toNatClampNeg k.toNatClampNeg (defaultValue .int) n.toNatClampNeg j hj
    rw [hF, hTh] at this
    rw [this, hc0, vp_cell_i, ← arrV_new]
    rfl
  rw [z_outer] at f2
  obtain ⟨r1, r2, r3, r4⟩ := hR
  obtain ⟨nn, rfl⟩ : ∃ nn, nx = nn + 1 := ⟨nx - 1, by omega⟩
  have eH : H.size = B + nn := by omega
  have hR1 : z_R D cy b B (z_grid P (nn + 1) n.toNatClampNeg k.toNatClampNeg) (nn + 1 + 1 + n.toNatClampNeg) F.heap := by
    refine ⟨by omega, by omega, ?_, fun j d hd2 => ?_⟩
    · show (if 0 = nn + 1 then _ else if nn + 1 < 0 ∧ 0 ≤ nn + 1 + n.toNatClampNeg then _ else P 0) = none
      rw [if_neg (by omega), if_neg (by omega)]
      exact r3
    · unfold z_grid at hd2
      by_cases e1 : j + 1 = nn + 1
      · rw [if_pos e1] at hd2
        cases hd2
        have : j = nn := by omega
        subst this
        show F.heap[B + j]? = some (vp_cell (cy 5) (n.toNatClampNeg, .inr (.inr (.inr (.inr (fun i => Option.map (z_ad b B) (if i < n.toNatClampNeg then some (j + 1 + 1 + i) else none)))))))
        rw [← eH, f2, hc5, vp_cell_q]
        refine congrArg some (congrArg (arrV cA _) (funext fun i => ?_))
        by_cases hi : i < n.toNatClampNeg
        · rw [if_pos hi, if_pos hi]
          show Value.ref (H.size + 1 + i) = Value.ref (z_ad b B (j + 1 + 1 + i))
          have : j + 1 + 1 + i = (j + 1 + i) + 1 := by omega
          rw [this]
          exact congrArg Value.ref (show H.size + 1 + i = B + (j + 1 + i) by omega)
        · rw [if_neg hi, if_neg hi]
          rfl
      · rw [if_neg e1] at hd2
        by_cases e2 : nn + 1 < j + 1 ∧ j + 1 ≤ nn + 1 + n.toNatClampNeg
        · rw [if_pos e2] at hd2
          cases hd2
          have := hrow (j - nn - 1) (by omega)
          rw [show H.size + 1 + (j - nn - 1) = B + j by omega] at this
          exact this
        · rw [if_neg e2] at hd2
          exact (r4 j d hd2).kept (hold _ ((r4 j d hd2).lt))
  obtain ⟨t, a1, b1⟩ := kk F.heap locs ls hR1 (z_S.grow hS (by omega) hold) hL F rfl X'
  refine ⟨t, step t ?_, b1⟩
  have e9 : T.heap.size = z_ad b B (nn + 1) := by rw [hT]; exact eH
  rw [e9]
  exact a1
end ZN
end
section
/-! calls, returns, contracts -/
def z_Pc (D : va_G) (cy : Nat → ClassId) (b B : Nat) (as : List Value) (P : z_H) (nx : Nat) : Array Value → State → Prop := fun a U => a = (as.map (z_V b B)).toArray ∧ z_Kn D cy U ∧ z_R D cy b B P nx U.heap ∧ B ≤ U.heap.size
def z_Qc (D : va_G) (cy : Nat → ClassId) (b B : Nat) (K : Option Value → z_H → Nat → Prop) : Array Value → State → Outcome → State → Prop := fun _ s o t => ∃ (w : Option Value) (P : z_H) (nx : Nat), o = .returned (w.map (z_V b B)) ∧ z_R D cy b B P nx t.heap ∧ K w P nx ∧ va_F (fun q => B ≤ q) s t
abbrev z_PT : Type := List Value → z_H → Nat → (Option Value → z_H → Nat → Prop) → Prop
def z_ws (y : z_M) : List Cond := Cond.code y.1 y.2.1 y.2.2.1 y.2.2.2 :: z_T
/-- THE CONTRACT of a method, as a predicate transformer S -/
def z_Sp (l : Launch) (y : z_M) (rm : Room) (S : z_PT) : Prop := ∀ (D : va_G) (cy : Nat → ClassId) (b B : Nat) (as : List Value) (P : z_H) (nx : Nat) (K : Option Value → z_H → Nat → Prop), S as P nx K → Met l y.1 (z_ws y) rm (z_Pc D cy b B as P nx) (z_Qc D cy b B K) rm.cells rm.slots (fun q => B ≤ q)
theorem z_Kn.warm {D : va_G} {cy : Nat → ClassId} {s U : State} (h : z_Kn D cy s) (hW : s.WarmedH U.vm) : z_Kn D cy U := by
  refine ⟨va_K.moved hW.alike h.1, va_AO.moved hW.alike h.2.1, Jvm.Stand.arrayOver_alikeB hW.alike h.2.2.1, fun w hw => ?_⟩
  have h1 := h.2.2.2 w hw
  have h2 := (List.mem_filter.mp hw).2
  cases w <;> first | (cases h2; done) | exact va_Nw.warmF hW h1 | exact va_Nw.warmM hW h1
theorem z_Pc.blind {D : va_G} {cy : Nat → ClassId} {b B : Nat} {as : List Value} {P : z_H} {nx : Nat} : FrameBlind (z_Pc D cy b B as P nx) := by
  intro a U g mk h
  obtain ⟨h1, h2, h3, h4⟩ := h
  refine ⟨h1, ⟨va_K.moved (u := U) (U := U.calling g mk a) (Vm.Alike.refl U.vm) h2.1, va_AO.moved (u := U) (U := U.calling g mk a) (Vm.Alike.refl U.vm) h2.2.1, Jvm.Stand.arrayOver_alikeB (s := U) (U := U.calling g mk a) (Vm.Alike.refl U.vm) h2.2.2.1, fun w hw => ?_⟩, h3, h4⟩
  have h5 := (List.mem_filter.mp hw).2
  have h6 := h2.2.2.2 w hw
  cases w <;> first | (cases h5; done) | exact va_Nw.same (u := U) (U := U.calling g mk a) rfl rfl h6
/-- a method's link -/
def z_Ml (own : String) (idx : Nat) (y : z_M) (n : Nat) : Prop := Cond.code y.1 y.2.1 y.2.2.1 y.2.2.2 ∈ z_T ∧ Cond.initialized y.1.cls ∈ z_T ∧ (y.1.cls ≠ "java/lang/invoke/MethodHandle" ∧ y.1.cls ≠ "java/lang/invoke/VarHandle") ∧ (parseMethodDescriptor y.1.desc).map (fun d => d.parameters.length) = some n ∧ (Cond.methodLink own idx y.1 ∈ z_T ∨ ∃ host, Cond.methodLinkNest own idx y.1 host ∈ z_N)
def z_MV (own : String) (idx : Nat) (y : z_M) (n ci : Nat) : Prop := z_Ml own idx y n ∧ Cond.instanceMethod y.1 ∈ z_T ∧ Cond.selects y.1.cls y.1 y.1 ∈ z_T ∧ ∃ r : vw_C, z_cl[ci]? = some r ∧ r.1 = y.1.cls
def z_MS (own : String) (idx : Nat) (y : z_M) (n : Nat) : Prop := z_Ml own idx y n ∧ Cond.static y.1 ∈ z_T
def z_MI (own : String) (idx : Nat) (y : z_M) (n : Nat) : Prop := z_Ml own idx y n ∧ Cond.instanceMethod y.1 ∈ z_T ∧ y.1.name = "<init>" ∧ y.2.2.2 = none
def z_fitR (y2 : z_M) (rm2 rm : Room) (u v : Nat) : Prop := rm2.frames + 1 ≤ rm.frames ∧ 8 + (y2.2.2.1 + 11) + rm2.locals ≤ rm.locals ∧ u + rm2.cells ≤ rm.cells ∧ v + rm2.slots ≤ rm.slots
section ZC
variable {X : z_X} {l : Launch} {me : z_M} {rm : Room} {pc nx u v : Nat} {lv : List (Option Value)} {st : List Value} {P : z_H}
theorem z_catsum (b B : Nat) (st : List Value) : ((st.map (z_V b B)).map fun v => v.category).sum = (st.map Value.category).sum := by
  rw [List.map_map]
  congr 1
  refine List.map_congr_left (fun w _ => ?_)
  exact z_V_cat b B w
theorem z_lenP {y : z_M} {n : Nat} (h : (parseMethodDescriptor y.1.desc).map (fun d => d.parameters.length) = some n) : ∀ sig, parseMethodDescriptor y.1.desc = some sig → n = sig.parameters.length := fun sig q => by
  rw [q] at h
  exact (Option.some.inj h).symm
theorem z_goodW {y : z_M} (h : Cond.code y.1 y.2.1 y.2.2.1 y.2.2.2 ∈ z_T) : GoodIn z_T (z_ws y) := fun w hw => by
  rcases List.mem_cons.mp hw with e | e
  · rw [e]; exact z_goodT _ h
  · exact z_goodT _ e
/-- behind a call -/
theorem z_back {p : Program} {e : Env} {R : Room} {s : State} {m : MethodId} {args : Array Value} {below : List Frame} {meth : Method} {c : Code} {nL : Nat} {D : va_G} {cy : Nat → ClassId} {b B : Nat} {Q : State → Prop} {H : Heap} {locs : List Loc} {ls : Array Slot} {mc ms : Nat} {K : Option Value → z_H → Nat → Prop} {st0 : List Value} {a0 : Array Value}
    (hr : va_Run p l e R s m args below meth c H locs u v mc ms (F0 m pc ls st0) (st.map (z_V b B)) (z_Qc D cy b B K a0) (fun q => B ≤ q)) (hS : va_S (fun q => B ≤ q) s.heap H locs) (hL : z_L b B ls nL lv)
    (kk : ∀ w P' nx', K w P' nx' → ∀ (H1 : Heap) (locs1 : List Loc), z_R D cy b B P' nx' H1 → va_S (fun q => B ≤ q) s.heap H1 locs1 → W p l e R s m args below meth c H1 locs1 (u + mc) (v + ms) Q (F0 m (pc + 3) ls ((w.toList ++ st).map (z_V b B)))) : W p l e R s m args below meth c H locs u v Q (F0 m pc ls st0) := by
  intro T hT X
  obtain ⟨w0, st₀, t, T', L, h0, X', hLc, e1, e2, ⟨w, P', nx', hw, hR1, hK1, hz, hk⟩, stp⟩ := hr T hT X
  cases Outcome.returned.inj hw
  rw [h0] at hz hk
  obtain ⟨t2, a1, b1⟩ := kk w P' nx' hK1 T'.heap (locs ++ L) (by rw [e1]; exact hR1) ⟨Nat.le_trans hS.1 (by rw [e1]; exact hz), fun q h1 h2 => by rw [e1, hk q (Nat.lt_of_lt_of_le h1 hS.1) h2]; exact hS.2.1 q h1 h2, fun q hq => by
      rcases List.mem_append.mp hq with h | h
      · exact hS.2.2 q h
      · exact hLc q h⟩ T' rfl X'
  refine ⟨t2, stp t2 ?_, b1⟩
  have : (w.toList ++ st).map (z_V b B) = (w.map (z_V b B)).toList ++ st.map (z_V b B) := by
    rw [List.map_append]
    cases w <;> rfl
  rw [← this]
  exact a1
theorem z_callV (hX : z_is X l me rm) {y2 : z_M} {rm2 : Room} {S : z_PT} {idx n a ci : Nat} {As fs : List Value} (hS : z_Sp l y2 rm2 S) (hl : z_MV me.1.cls idx y2 n ci) (hP : P a = some (.inr (ci, fs))) (hn : As.length = n) (hrm : z_fitR y2 rm2 rm u v) (hst : (st.map Value.category).sum ≤ 8) (hd : decode me.2.1 pc = .ok (.invokevirtual idx, 3)) (kk : S (.ref a :: As) P nx (fun w P' nx' => z_W X (pc + 3) lv (w.toList ++ st) P' nx' (u + rm2.cells) (v + rm2.slots))) : z_W X pc lv (As.reverse ++ .ref a :: st) P nx u v := by
  obtain ⟨p, l, e, R, s, m, args, below, meth, c, cc, nL, own, D, cy, b, B, Q⟩ := X
  obtain ⟨yn, yc, yL, yr⟩ := me
  obtain ⟨⟨hx, hb, hml, hown, hts, hK, hB⟩, rfl, rfl, rfl, rfl, rfl⟩ := hX
  obtain ⟨⟨w1, w2, w3, w4, w5⟩, w6, w7, r, hc, hrc⟩ := hl
  obtain ⟨f1, f2, f3, f4⟩ := hrm
  intro H locs ls hR hS0 hL
  have hpV : PreV s H y2.1.cls (z_ad b B a) (z_Pc D cy b B (.ref a :: As) P nx) (As.map (z_V b B)) := by
    refine ⟨z_Pc.blind, ?_, fun U hU hW => ⟨rfl, hK.warm hW, by rw [hU]; exact hR, by rw [hU]; exact Nat.le_trans hB hS0.1⟩⟩
    have := va_recv (q0 := 0) hK.1 (z_one (hR.at hP).1) hc rfl
    rw [hrc] at this
    exact this
  have hst' : ((st.map (z_V b B)).map fun v => v.category).sum ≤ 8 := by rw [z_catsum]; exact hst
  rw [List.map_append, List.map_reverse]
  rcases w5 with w5 | ⟨host, w5⟩
  · exact z_back (va_runV (n := n) ⟨hx, hb, hml, hown, hts⟩ (hS D cy b B _ P nx _ kk) ⟨⟨rfl, rfl, f1, f2, pay_in hts (z_goodW w1), List.mem_cons_self, hts _ w1, hts _ w2, w3, z_lenP w4, hts _ w5⟩, hts _ w6, hts _ w7⟩ hpV rfl (by rw [List.length_map]; exact hn) hL.1 rfl (lv_room hst') hd ⟨f3, f4⟩) hS0 hL (fun w P' nx' hk H1 locs1 hR1 hS1 => hk H1 locs1 ls hR1 hS1 hL)
  · exact z_back (va_runVN (n := n) ⟨hx, hb, hml, hown, hts⟩ (hS D cy b B _ P nx _ kk) ⟨⟨⟨rfl, rfl, f1, f2, pay_in hts (z_goodW w1), List.mem_cons_self⟩, hts _ w1, hts _ w2, w3, z_lenP w4, va_Nw.use rfl (hK.2.2.2 _ w5)⟩, hts _ w6, hts _ w7⟩ hpV rfl (by rw [List.length_map]; exact hn) hL.1 rfl (lv_room hst') hd ⟨f3, f4⟩) hS0 hL (fun w P' nx' hk H1 locs1 hR1 hS1 => hk H1 locs1 ls hR1 hS1 hL)
theorem z_callS (hX : z_is X l me rm) {y2 : z_M} {rm2 : Room} {S : z_PT} {idx n : Nat} {As : List Value} (hS : z_Sp l y2 rm2 S) (hl : z_MS me.1.cls idx y2 n) (hn : As.length = n) (hrm : z_fitR y2 rm2 rm u v) (hst : (st.map Value.category).sum ≤ 8) (hd : decode me.2.1 pc = .ok (.invokestatic idx, 3)) (kk : S As P nx (fun w P' nx' => z_W X (pc + 3) lv (w.toList ++ st) P' nx' (u + rm2.cells) (v + rm2.slots))) : z_W X pc lv (As.reverse ++ st) P nx u v := by
  obtain ⟨p, l, e, R, s, m, args, below, meth, c, cc, nL, own, D, cy, b, B, Q⟩ := X
  obtain ⟨yn, yc, yL, yr⟩ := me
  obtain ⟨⟨hx, hb, hml, hown, hts, hK, hB⟩, rfl, rfl, rfl, rfl, rfl⟩ := hX
  obtain ⟨⟨w1, w2, w3, w4, w5⟩, w6⟩ := hl
  obtain ⟨f1, f2, f3, f4⟩ := hrm
  intro H locs ls hR hS0 hL
  have hpV : PreS s H (z_Pc D cy b B As P nx) (As.map (z_V b B)) := ⟨z_Pc.blind, fun U hU hW => ⟨rfl, hK.warm hW, by rw [hU]; exact hR, by rw [hU]; exact Nat.le_trans hB hS0.1⟩⟩
  have hst' : ((st.map (z_V b B)).map fun v => v.category).sum ≤ 8 := by rw [z_catsum]; exact hst
  rw [List.map_append, List.map_reverse]
  rcases w5 with w5 | ⟨host, w5⟩
  · exact z_back (va_runS (n := n) ⟨hx, hb, hml, hown, hts⟩ (hS D cy b B _ P nx _ kk) ⟨⟨rfl, rfl, f1, f2, pay_in hts (z_goodW w1), List.mem_cons_self, hts _ w1, hts _ w2, w3, z_lenP w4, hts _ w5⟩, hts _ w6⟩ hpV rfl (by rw [List.length_map]; exact hn) hL.1 rfl (lv_room hst') hd ⟨f3, f4⟩) hS0 hL (fun w P' nx' hk H1 locs1 hR1 hS1 => hk H1 locs1 ls hR1 hS1 hL)
  · exact z_back (va_runSN (n := n) ⟨hx, hb, hml, hown, hts⟩ (hS D cy b B _ P nx _ kk) ⟨⟨⟨rfl, rfl, f1, f2, pay_in hts (z_goodW w1), List.mem_cons_self⟩, hts _ w1, hts _ w2, w3, z_lenP w4, va_Nw.use rfl (hK.2.2.2 _ w5)⟩, hts _ w6, trivial⟩ hpV rfl (by rw [List.length_map]; exact hn) hL.1 rfl (lv_room hst') hd ⟨f3, f4⟩) hS0 hL (fun w P' nx' hk H1 locs1 hR1 hS1 => hk H1 locs1 ls hR1 hS1 hL)
theorem z_callI (hX : z_is X l me rm) {y2 : z_M} {rm2 : Room} {S : z_PT} {idx n a : Nat} {As : List Value} (hS : z_Sp l y2 rm2 S) (hl : z_MI me.1.cls idx y2 n) (hn : As.length = n) (hrm : z_fitR y2 rm2 rm u v) (hst : (st.map Value.category).sum ≤ 8) (hd : decode me.2.1 pc = .ok (.invokespecial idx, 3)) (kk : S (.ref a :: As) P nx (fun w P' nx' => z_W X (pc + 3) lv (w.toList ++ st) P' nx' (u + rm2.cells) (v + rm2.slots))) : z_W X pc lv (As.reverse ++ .ref a :: st) P nx u v := by
  obtain ⟨p, l, e, R, s, m, args, below, meth, c, cc, nL, own, D, cy, b, B, Q⟩ := X
  obtain ⟨yn, yc, yL, yr⟩ := me
  obtain ⟨⟨hx, hb, hml, hown, hts, hK, hB⟩, rfl, rfl, rfl, rfl, rfl⟩ := hX
  obtain ⟨⟨w1, w2, w3, w4, w5⟩, w6, w7, w8⟩ := hl
  obtain ⟨f1, f2, f3, f4⟩ := hrm
  intro H locs ls hR hS0 hL
  have hpV : PreS s H (z_Pc D cy b B (.ref a :: As) P nx) (.ref (z_ad b B a) :: As.map (z_V b B)) := ⟨z_Pc.blind, fun U hU hW => ⟨rfl, hK.warm hW, by rw [hU]; exact hR, by rw [hU]; exact Nat.le_trans hB hS0.1⟩⟩
  have hst' : ((st.map (z_V b B)).map fun v => v.category).sum ≤ 8 := by rw [z_catsum]; exact hst
  have w1' : Cond.code y2.1 y2.2.1 y2.2.2.1 none ∈ z_T := by rw [← w8]; exact w1
  have w9 : Cond.code y2.1 y2.2.1 y2.2.2.1 none ∈ z_ws y2 := by rw [← w8]; exact List.mem_cons_self
  rw [List.map_append, List.map_reverse]
  rcases w5 with w5 | ⟨host, w5⟩
  · exact z_back (va_runI (n := n) ⟨hx, hb, hml, hown, hts⟩ (hS D cy b B _ P nx _ kk) ⟨⟨rfl, rfl, f1, f2, pay_in hts (z_goodW w1), w9, hts _ w1', hts _ w2, w3, z_lenP w4, hts _ w5⟩, w7, hts _ w6⟩ hpV rfl (by rw [List.length_map]; exact hn) hL.1 rfl (lv_room hst') hd ⟨f3, f4⟩) hS0 hL (fun w P' nx' hk H1 locs1 hR1 hS1 => hk H1 locs1 ls hR1 hS1 hL)
  · exact z_back (va_runIN (n := n) ⟨hx, hb, hml, hown, hts⟩ (hS D cy b B _ P nx _ kk) ⟨⟨⟨rfl, rfl, f1, f2, pay_in hts (z_goodW w1), w9⟩, hts _ w1', hts _ w2, w3, z_lenP w4, va_Nw.use rfl (hK.2.2.2 _ w5)⟩, w7, hts _ w6⟩ hpV rfl (by rw [List.length_map]; exact hn) hL.1 rfl (lv_room hst') hd ⟨f3, f4⟩) hS0 hL (fun w P' nx' hk H1 locs1 hR1 hS1 => hk H1 locs1 ls hR1 hS1 hL)
/-- Object's constructor -/
theorem z_objI (hX : z_is X l me rm) {idx a : Nat} (h1 : Cond.methodLink me.1.cls idx objectInit ∈ z_T) (h2 : Cond.instanceMethod objectInit ∈ z_T) (h3 : Cond.code objectInit ⟨#[0xb1]⟩ 1 none ∈ z_T) (hf : 1 ≤ rm.frames) (hlo : (st.map Value.category).sum + 12 ≤ rm.locals) (hd : decode me.2.1 pc = .ok (.invokespecial idx, 3)) (kk : z_W X (pc + 3) lv st P nx u v) : z_W X pc lv (.ref a :: st) P nx u v := by
  obtain ⟨p, l, e, R, s, m, args, below, meth, c, cc, nL, own, D, cy, b, B, Q⟩ := X
  obtain ⟨yn, yc, yL, yr⟩ := me
  obtain ⟨⟨hx, hb, hml, hown, hts, hK, hB⟩, rfl, rfl, rfl, rfl, rfl⟩ := hX
  intro H locs ls hR hS hL
  refine W.objInit hx hb hown (hts _ h1) (hts _ h2) (hts _ h3) rfl (by rw [hml]; exact hL.1) (a := z_ad b B a) (rest := st.map (z_V b B)) rfl hd hf ?_ (kk H locs ls hR hS hL)
  show 2 * 0 + ((st.map (z_V b B)).map fun v => v.category).sum + 12 ≤ R.locals
  rw [z_catsum]
  omega
end ZC
end
section
/-! returns; entry; calls by the number of their arguments -/
def z_end : z_X → (Option Value → z_H → Nat → Prop) → Option FieldType → Prop := fun (p, l, e, R, s, m, args, below, meth, c, cc, nL, own, D, cy, b, B, Q) K ret => Q = MQ below (z_Qc D cy b B K) args s R.cells R.slots (fun q => B ≤ q) ∧ meth.sig.returnType = ret ∧ meth.locks = false
section ZE
variable {X : z_X} {l : Launch} {me : z_M} {rm : Room} {pc nx u v : Nat} {lv : List (Option Value)} {st : List Value} {P : z_H} {K : Option Value → z_H → Nat → Prop}
theorem z_iret (hX : z_is X l me rm) {x : Int32} (hE : z_end X K (some .int)) (hu : u ≤ rm.cells) (hv : v ≤ rm.slots) (hd : decode me.2.1 pc = .ok (.ireturn, 1)) (kk : K (some (.int x)) P nx) : z_W X pc lv [.int x] P nx u v := by
  obtain ⟨p, l, e, R, s, m, args, below, meth, c, cc, nL, own, D, cy, b, B, Q⟩ := X
  obtain ⟨yn, yc, yL, yr⟩ := me
  obtain ⟨⟨hx, hb, hml, hown, hts, hK, hB⟩, rfl, rfl, rfl, rfl, rfl⟩ := hX
  obtain ⟨rfl, hr, hlo⟩ := hE
  intro H locs ls hR hS hL
  refine W.widen hu hv ?_
  exact W.iret hx hb hr (fun t ht hW => ⟨(some (.int x)), P, nx, rfl, by rw [ht]; exact hR, kk, hS.F ht⟩) (fun q hq => hS.2.2 q hq) hd hlo
theorem z_lret (hX : z_is X l me rm) {x : Int64} (hE : z_end X K (some .long)) (hu : u ≤ rm.cells) (hv : v ≤ rm.slots) (hd : decode me.2.1 pc = .ok (.lreturn, 1)) (kk : K (some (.long x)) P nx) : z_W X pc lv [.long x] P nx u v := by
  obtain ⟨p, l, e, R, s, m, args, below, meth, c, cc, nL, own, D, cy, b, B, Q⟩ := X
  obtain ⟨yn, yc, yL, yr⟩ := me
  obtain ⟨⟨hx, hb, hml, hown, hts, hK, hB⟩, rfl, rfl, rfl, rfl, rfl⟩ := hX
  obtain ⟨rfl, hr, hlo⟩ := hE
  intro H locs ls hR hS hL
  refine W.widen hu hv ?_
  exact W.lret hx hb hr (fun t ht hW => ⟨(some (.long x)), P, nx, rfl, by rw [ht]; exact hR, kk, hS.F ht⟩) (fun q hq => hS.2.2 q hq) hd hlo
theorem z_vret (hX : z_is X l me rm) (hE : z_end X K none) (hu : u ≤ rm.cells) (hv : v ≤ rm.slots) (hd : decode me.2.1 pc = .ok (.return_, 1)) (kk : K none P nx) : z_W X pc lv [] P nx u v := by
  obtain ⟨p, l, e, R, s, m, args, below, meth, c, cc, nL, own, D, cy, b, B, Q⟩ := X
  obtain ⟨yn, yc, yL, yr⟩ := me
  obtain ⟨⟨hx, hb, hml, hown, hts, hK, hB⟩, rfl, rfl, rfl, rfl, rfl⟩ := hX
  obtain ⟨rfl, hr, hlo⟩ := hE
  intro H locs ls hR hS hL
  refine W.widen hu hv ?_
  exact W.vret hx hb hr (fun t ht hW => ⟨none, P, nx, rfl, by rw [ht]; exact hR, kk, hS.F ht⟩) (fun q hq => hS.2.2 q hq) hd hlo
theorem z_zret (hX : z_is X l me rm) {x : Int32} (hE : z_end X K (some .boolean)) (hb1 : x = 0 ∨ x = 1) (hu : u ≤ rm.cells) (hv : v ≤ rm.slots) (hd : decode me.2.1 pc = .ok (.ireturn, 1)) (kk : K (some (.int x)) P nx) : z_W X pc lv [.int x] P nx u v := by
  obtain ⟨p, l, e, R, s, m, args, below, meth, c, cc, nL, own, D, cy, b, B, Q⟩ := X
  obtain ⟨yn, yc, yL, yr⟩ := me
  obtain ⟨⟨hx, hb, hml, hown, hts, hK, hB⟩, rfl, rfl, rfl, rfl, rfl⟩ := hX
  obtain ⟨rfl, hr, hlo⟩ := hE
  intro H locs ls hR hS hL
  refine W.widen hu hv ?_
  exact W.zret hx hb hr (by rcases hb1 with rfl | rfl <;> rfl) (fun t ht hW => ⟨(some (.int x)), P, nx, rfl, by rw [ht]; exact hR, kk, hS.F ht⟩) (fun q hq => hS.2.2 q hq) hd hlo
theorem z_aret (hX : z_is X l me rm) {a : Nat} {C : String} (hE : z_end X K (some (.object C))) (hu : u ≤ rm.cells) (hv : v ≤ rm.slots) (hd : decode me.2.1 pc = .ok (.areturn, 1)) (kk : K (some (.ref a)) P nx) : z_W X pc lv [.ref a] P nx u v := by
  obtain ⟨p, l, e, R, s, m, args, below, meth, c, cc, nL, own, D, cy, b, B, Q⟩ := X
  obtain ⟨yn, yc, yL, yr⟩ := me
  obtain ⟨⟨hx, hb, hml, hown, hts, hK, hB⟩, rfl, rfl, rfl, rfl, rfl⟩ := hX
  obtain ⟨rfl, hr, hlo⟩ := hE
  intro H locs ls hR hS hL
  refine W.widen hu hv ?_
  exact W.aret hx hb hr (Or.inl ⟨_, rfl⟩) (Or.inr ⟨_, rfl⟩) (fun t ht hW => ⟨some (.ref a), P, nx, rfl, by rw [ht]; exact hR, kk, hS.F ht⟩) (fun q hq => hS.2.2 q hq) hd hlo
theorem z_aretN (hX : z_is X l me rm) {C : String} (hE : z_end X K (some (.object C))) (hu : u ≤ rm.cells) (hv : v ≤ rm.slots) (hd : decode me.2.1 pc = .ok (.areturn, 1)) (kk : K (some .null) P nx) : z_W X pc lv [.null] P nx u v := by
  obtain ⟨p, l, e, R, s, m, args, below, meth, c, cc, nL, own, D, cy, b, B, Q⟩ := X
  obtain ⟨yn, yc, yL, yr⟩ := me
  obtain ⟨⟨hx, hb, hml, hown, hts, hK, hB⟩, rfl, rfl, rfl, rfl, rfl⟩ := hX
  obtain ⟨rfl, hr, hlo⟩ := hE
  intro H locs ls hR hS hL
  refine W.widen hu hv ?_
  exact W.aret hx hb hr (Or.inl ⟨_, rfl⟩) (Or.inl rfl) (fun t ht hW => ⟨some .null, P, nx, rfl, by rw [ht]; exact hR, kk, hS.F ht⟩) (fun q hq => hS.2.2 q hq) hd hlo
theorem z_callV0 (hX : z_is X l me rm) {y2 : z_M} {rm2 : Room} {S : z_PT} {idx a ci : Nat} {fs : List Value} (hS : z_Sp l y2 rm2 S) (hl : z_MV me.1.cls idx y2 0 ci) (hP : P a = some (.inr (ci, fs))) (hrm : z_fitR y2 rm2 rm u v) (hst : (st.map Value.category).sum ≤ 8) (hd : decode me.2.1 pc = .ok (.invokevirtual idx, 3)) (kk : S (.ref a :: []) P nx (fun w P' nx' => z_W X (pc + 3) lv (w.toList ++ st) P' nx' (u + rm2.cells) (v + rm2.slots))) : z_W X pc lv (.ref a :: st) P nx u v := z_callV (As := []) hX hS hl hP rfl hrm hst hd kk
theorem z_callI0 (hX : z_is X l me rm) {y2 : z_M} {rm2 : Room} {S : z_PT} {idx a : Nat} (hS : z_Sp l y2 rm2 S) (hl : z_MI me.1.cls idx y2 0) (hrm : z_fitR y2 rm2 rm u v) (hst : (st.map Value.category).sum ≤ 8) (hd : decode me.2.1 pc = .ok (.invokespecial idx, 3)) (kk : S (.ref a :: []) P nx (fun w P' nx' => z_W X (pc + 3) lv (w.toList ++ st) P' nx' (u + rm2.cells) (v + rm2.slots))) : z_W X pc lv (.ref a :: st) P nx u v := z_callI (As := []) hX hS hl rfl hrm hst hd kk
theorem z_callV1 (hX : z_is X l me rm) {y2 : z_M} {rm2 : Room} {S : z_PT} {idx a ci : Nat} {fs : List Value} {w1 : Value} (hS : z_Sp l y2 rm2 S) (hl : z_MV me.1.cls idx y2 1 ci) (hP : P a = some (.inr (ci, fs))) (hrm : z_fitR y2 rm2 rm u v) (hst : (st.map Value.category).sum ≤ 8) (hd : decode me.2.1 pc = .ok (.invokevirtual idx, 3)) (kk : S (.ref a :: [w1]) P nx (fun w P' nx' => z_W X (pc + 3) lv (w.toList ++ st) P' nx' (u + rm2.cells) (v + rm2.slots))) : z_W X pc lv (w1 :: .ref a :: st) P nx u v := z_callV (As := [w1]) hX hS hl hP rfl hrm hst hd kk
theorem z_callS1 (hX : z_is X l me rm) {y2 : z_M} {rm2 : Room} {S : z_PT} {idx : Nat} {w1 : Value} (hS : z_Sp l y2 rm2 S) (hl : z_MS me.1.cls idx y2 1) (hrm : z_fitR y2 rm2 rm u v) (hst : (st.map Value.category).sum ≤ 8) (hd : decode me.2.1 pc = .ok (.invokestatic idx, 3)) (kk : S [w1] P nx (fun w P' nx' => z_W X (pc + 3) lv (w.toList ++ st) P' nx' (u + rm2.cells) (v + rm2.slots))) : z_W X pc lv (w1 :: st) P nx u v := z_callS (As := [w1]) hX hS hl rfl hrm hst hd kk
theorem z_callI1 (hX : z_is X l me rm) {y2 : z_M} {rm2 : Room} {S : z_PT} {idx a : Nat} {w1 : Value} (hS : z_Sp l y2 rm2 S) (hl : z_MI me.1.cls idx y2 1) (hrm : z_fitR y2 rm2 rm u v) (hst : (st.map Value.category).sum ≤ 8) (hd : decode me.2.1 pc = .ok (.invokespecial idx, 3)) (kk : S (.ref a :: [w1]) P nx (fun w P' nx' => z_W X (pc + 3) lv (w.toList ++ st) P' nx' (u + rm2.cells) (v + rm2.slots))) : z_W X pc lv (w1 :: .ref a :: st) P nx u v := z_callI (As := [w1]) hX hS hl rfl hrm hst hd kk
theorem z_callV2 (hX : z_is X l me rm) {y2 : z_M} {rm2 : Room} {S : z_PT} {idx a ci : Nat} {fs : List Value} {w1 w2 : Value} (hS : z_Sp l y2 rm2 S) (hl : z_MV me.1.cls idx y2 2 ci) (hP : P a = some (.inr (ci, fs))) (hrm : z_fitR y2 rm2 rm u v) (hst : (st.map Value.category).sum ≤ 8) (hd : decode me.2.1 pc = .ok (.invokevirtual idx, 3)) (kk : S (.ref a :: [w1, w2]) P nx (fun w P' nx' => z_W X (pc + 3) lv (w.toList ++ st) P' nx' (u + rm2.cells) (v + rm2.slots))) : z_W X pc lv (w2 :: w1 :: .ref a :: st) P nx u v := z_callV (As := [w1, w2]) hX hS hl hP rfl hrm hst hd kk
theorem z_callS2 (hX : z_is X l me rm) {y2 : z_M} {rm2 : Room} {S : z_PT} {idx : Nat} {w1 w2 : Value} (hS : z_Sp l y2 rm2 S) (hl : z_MS me.1.cls idx y2 2) (hrm : z_fitR y2 rm2 rm u v) (hst : (st.map Value.category).sum ≤ 8) (hd : decode me.2.1 pc = .ok (.invokestatic idx, 3)) (kk : S [w1, w2] P nx (fun w P' nx' => z_W X (pc + 3) lv (w.toList ++ st) P' nx' (u + rm2.cells) (v + rm2.slots))) : z_W X pc lv (w2 :: w1 :: st) P nx u v := z_callS (As := [w1, w2]) hX hS hl rfl hrm hst hd kk
theorem z_callI2 (hX : z_is X l me rm) {y2 : z_M} {rm2 : Room} {S : z_PT} {idx a : Nat} {w1 w2 : Value} (hS : z_Sp l y2 rm2 S) (hl : z_MI me.1.cls idx y2 2) (hrm : z_fitR y2 rm2 rm u v) (hst : (st.map Value.category).sum ≤ 8) (hd : decode me.2.1 pc = .ok (.invokespecial idx, 3)) (kk : S (.ref a :: [w1, w2]) P nx (fun w P' nx' => z_W X (pc + 3) lv (w.toList ++ st) P' nx' (u + rm2.cells) (v + rm2.slots))) : z_W X pc lv (w2 :: w1 :: .ref a :: st) P nx u v := z_callI (As := [w1, w2]) hX hS hl rfl hrm hst hd kk
theorem z_callV3 (hX : z_is X l me rm) {y2 : z_M} {rm2 : Room} {S : z_PT} {idx a ci : Nat} {fs : List Value} {w1 w2 w3 : Value} (hS : z_Sp l y2 rm2 S) (hl : z_MV me.1.cls idx y2 3 ci) (hP : P a = some (.inr (ci, fs))) (hrm : z_fitR y2 rm2 rm u v) (hst : (st.map Value.category).sum ≤ 8) (hd : decode me.2.1 pc = .ok (.invokevirtual idx, 3)) (kk : S (.ref a :: [w1, w2, w3]) P nx (fun w P' nx' => z_W X (pc + 3) lv (w.toList ++ st) P' nx' (u + rm2.cells) (v + rm2.slots))) : z_W X pc lv (w3 :: w2 :: w1 :: .ref a :: st) P nx u v := z_callV (As := [w1, w2, w3]) hX hS hl hP rfl hrm hst hd kk
theorem z_callS3 (hX : z_is X l me rm) {y2 : z_M} {rm2 : Room} {S : z_PT} {idx : Nat} {w1 w2 w3 : Value} (hS : z_Sp l y2 rm2 S) (hl : z_MS me.1.cls idx y2 3) (hrm : z_fitR y2 rm2 rm u v) (hst : (st.map Value.category).sum ≤ 8) (hd : decode me.2.1 pc = .ok (.invokestatic idx, 3)) (kk : S [w1, w2, w3] P nx (fun w P' nx' => z_W X (pc + 3) lv (w.toList ++ st) P' nx' (u + rm2.cells) (v + rm2.slots))) : z_W X pc lv (w3 :: w2 :: w1 :: st) P nx u v := z_callS (As := [w1, w2, w3]) hX hS hl rfl hrm hst hd kk
theorem z_callI3 (hX : z_is X l me rm) {y2 : z_M} {rm2 : Room} {S : z_PT} {idx a : Nat} {w1 w2 w3 : Value} (hS : z_Sp l y2 rm2 S) (hl : z_MI me.1.cls idx y2 3) (hrm : z_fitR y2 rm2 rm u v) (hst : (st.map Value.category).sum ≤ 8) (hd : decode me.2.1 pc = .ok (.invokespecial idx, 3)) (kk : S (.ref a :: [w1, w2, w3]) P nx (fun w P' nx' => z_W X (pc + 3) lv (w.toList ++ st) P' nx' (u + rm2.cells) (v + rm2.slots))) : z_W X pc lv (w3 :: w2 :: w1 :: .ref a :: st) P nx u v := z_callI (As := [w1, w2, w3]) hX hS hl rfl hrm hst hd kk
theorem z_callV4 (hX : z_is X l me rm) {y2 : z_M} {rm2 : Room} {S : z_PT} {idx a ci : Nat} {fs : List Value} {w1 w2 w3 w4 : Value} (hS : z_Sp l y2 rm2 S) (hl : z_MV me.1.cls idx y2 4 ci) (hP : P a = some (.inr (ci, fs))) (hrm : z_fitR y2 rm2 rm u v) (hst : (st.map Value.category).sum ≤ 8) (hd : decode me.2.1 pc = .ok (.invokevirtual idx, 3)) (kk : S (.ref a :: [w1, w2, w3, w4]) P nx (fun w P' nx' => z_W X (pc + 3) lv (w.toList ++ st) P' nx' (u + rm2.cells) (v + rm2.slots))) : z_W X pc lv (w4 :: w3 :: w2 :: w1 :: .ref a :: st) P nx u v := z_callV (As := [w1, w2, w3, w4]) hX hS hl hP rfl hrm hst hd kk
theorem z_callS4 (hX : z_is X l me rm) {y2 : z_M} {rm2 : Room} {S : z_PT} {idx : Nat} {w1 w2 w3 w4 : Value} (hS : z_Sp l y2 rm2 S) (hl : z_MS me.1.cls idx y2 4) (hrm : z_fitR y2 rm2 rm u v) (hst : (st.map Value.category).sum ≤ 8) (hd : decode me.2.1 pc = .ok (.invokestatic idx, 3)) (kk : S [w1, w2, w3, w4] P nx (fun w P' nx' => z_W X (pc + 3) lv (w.toList ++ st) P' nx' (u + rm2.cells) (v + rm2.slots))) : z_W X pc lv (w4 :: w3 :: w2 :: w1 :: st) P nx u v := z_callS (As := [w1, w2, w3, w4]) hX hS hl rfl hrm hst hd kk
theorem z_callI4 (hX : z_is X l me rm) {y2 : z_M} {rm2 : Room} {S : z_PT} {idx a : Nat} {w1 w2 w3 w4 : Value} (hS : z_Sp l y2 rm2 S) (hl : z_MI me.1.cls idx y2 4) (hrm : z_fitR y2 rm2 rm u v) (hst : (st.map Value.category).sum ≤ 8) (hd : decode me.2.1 pc = .ok (.invokespecial idx, 3)) (kk : S (.ref a :: [w1, w2, w3, w4]) P nx (fun w P' nx' => z_W X (pc + 3) lv (w.toList ++ st) P' nx' (u + rm2.cells) (v + rm2.slots))) : z_W X pc lv (w4 :: w3 :: w2 :: w1 :: .ref a :: st) P nx u v := z_callI (As := [w1, w2, w3, w4]) hX hS hl rfl hrm hst hd kk
theorem z_callV5 (hX : z_is X l me rm) {y2 : z_M} {rm2 : Room} {S : z_PT} {idx a ci : Nat} {fs : List Value} {w1 w2 w3 w4 w5 : Value} (hS : z_Sp l y2 rm2 S) (hl : z_MV me.1.cls idx y2 5 ci) (hP : P a = some (.inr (ci, fs))) (hrm : z_fitR y2 rm2 rm u v) (hst : (st.map Value.category).sum ≤ 8) (hd : decode me.2.1 pc = .ok (.invokevirtual idx, 3)) (kk : S (.ref a :: [w1, w2, w3, w4, w5]) P nx (fun w P' nx' => z_W X (pc + 3) lv (w.toList ++ st) P' nx' (u + rm2.cells) (v + rm2.slots))) : z_W X pc lv (w5 :: w4 :: w3 :: w2 :: w1 :: .ref a :: st) P nx u v := z_callV (As := [w1, w2, w3, w4, w5]) hX hS hl hP rfl hrm hst hd kk
theorem z_callS5 (hX : z_is X l me rm) {y2 : z_M} {rm2 : Room} {S : z_PT} {idx : Nat} {w1 w2 w3 w4 w5 : Value} (hS : z_Sp l y2 rm2 S) (hl : z_MS me.1.cls idx y2 5) (hrm : z_fitR y2 rm2 rm u v) (hst : (st.map Value.category).sum ≤ 8) (hd : decode me.2.1 pc = .ok (.invokestatic idx, 3)) (kk : S [w1, w2, w3, w4, w5] P nx (fun w P' nx' => z_W X (pc + 3) lv (w.toList ++ st) P' nx' (u + rm2.cells) (v + rm2.slots))) : z_W X pc lv (w5 :: w4 :: w3 :: w2 :: w1 :: st) P nx u v := z_callS (As := [w1, w2, w3, w4, w5]) hX hS hl rfl hrm hst hd kk
theorem z_callI5 (hX : z_is X l me rm) {y2 : z_M} {rm2 : Room} {S : z_PT} {idx a : Nat} {w1 w2 w3 w4 w5 : Value} (hS : z_Sp l y2 rm2 S) (hl : z_MI me.1.cls idx y2 5) (hrm : z_fitR y2 rm2 rm u v) (hst : (st.map Value.category).sum ≤ 8) (hd : decode me.2.1 pc = .ok (.invokespecial idx, 3)) (kk : S (.ref a :: [w1, w2, w3, w4, w5]) P nx (fun w P' nx' => z_W X (pc + 3) lv (w.toList ++ st) P' nx' (u + rm2.cells) (v + rm2.slots))) : z_W X pc lv (w5 :: w4 :: w3 :: w2 :: w1 :: .ref a :: st) P nx u v := z_callI (As := [w1, w2, w3, w4, w5]) hX hS hl rfl hrm hst hd kk
end ZE
theorem z_sl_len (b B : Nat) : ∀ as : List Value, (lg_sl (as.map (z_V b B))).length = (z_args as).length
  | [] => rfl
  | a :: as => by
    have ih := z_sl_len b B as
    have e : lg_sl ((a :: as).map (z_V b B)) = (if a.category = 2 then [.val (z_V b B a), .second] else [.val (z_V b B a)]) ++ lg_sl (as.map (z_V b B)) := by
      show List.flatMap _ (z_V b B a :: as.map (z_V b B)) = _
      rw [List.flatMap_cons, z_V_cat]
      rfl
    rw [e, List.length_append, ih]
    show _ = (if a.category = 2 then some a :: none :: z_args as else some a :: z_args as).length
    by_cases h : a.category = 2
    · rw [if_pos h, if_pos h]
      simp only [List.length_cons, List.length_nil]
      omega
    · rw [if_neg h, if_neg h]
      simp only [List.length_cons, List.length_nil]
      omega
/-- A METHOD IS PROVED BY A WALK OF ITS BODY -/
theorem z_enter {l : Launch} {me : z_M} {rm : Room} {S : z_PT} (hy : plainName me.1.cls = true) (hfit : ∀ as P nx K, S as P nx K → (z_args as).length ≤ me.2.2.1)
    (body : ∀ (X : z_X) (K : Option Value → z_H → Nat → Prop) (as : List Value) (P : z_H) (nx : Nat), z_is X l me rm → z_end X K me.2.2.2 → (me.1.name = "<init>" → z_ini X) → S as P nx K → z_W X 0 (z_args as) [] P nx 0 0) : z_Sp l me rm S := by
  intro D cy b B as P nx K hS
  refine Met.ofW (cc := me.2.1) (maxL := me.2.2.1) (ret := me.2.2.2) hy rfl ?_
  intro p e s m args below meth c s₁ Bd hml hv
  obtain ⟨rfl, hK, hR, hB⟩ := hv
  have hts := atoms_spec (ws := z_ws me) Bd.pre
  have hown : s.vm.findClass me.1.cls = some m.cls := findClass_of_methodNamed Bd.named
  have hl := lv_entry (as.map (z_V b B)) (n := me.2.2.1) (by rw [z_sl_len]; exact hfit as P nx K hS)
  rw [lg_entry_eq]
  have hL : z_L b B ((lg_sl (as.map (z_V b B)) ++ List.replicate (me.2.2.1 - (lg_sl (as.map (z_V b B))).length) Slot.unset).toArray) me.2.2.1 (z_args as) := by
    refine ⟨hl.1, hl.2.1, fun i w hg => ?_⟩
    have := z_args_g b B as 0 i w hg
    rw [Nat.zero_add] at this
    exact hl.2.2 _ this
  obtain ⟨yn, yc, yL, yr⟩ := me
  exact body (p, l, e, rm, s, m, (as.map (z_V b B)).toArray, below, meth, c, yc, yL, yn.cls, D, cy, b, B, MQ below (z_Qc D cy b B K) (as.map (z_V b B)).toArray s rm.cells rm.slots (fun q => B ≤ q)) K as P nx
    ⟨⟨Bd.exec, Bd.bytes, hml, hown, fun w hw => hts w (List.mem_cons_of_mem _ hw), hK, hB⟩, rfl, rfl, rfl, rfl, rfl⟩ ⟨rfl, Bd.returns, Bd.notSynchronized⟩ (fun hn => (name_of_methodNamed Bd.named Bd.method).1.trans hn) hS s.heap [] _ hR va_S.rf hL
end
section
/-! methods, and the links of constant pools: by program out of the tables -/
theorem wi_L : Cond.initialized "RoadCountsLaw" ∈ z_T := (z_inT (List.mem_append_right _ (List.mem_of_getElem? (i := 0) (by decide +kernel))) rfl)
theorem wi_7 : Cond.initialized "RoadCounts" ∈ z_T := (z_inT (List.mem_append_right _ (List.mem_of_getElem? (i := 1) (by decide +kernel))) rfl)
theorem wi_0 : Cond.initialized "RoadCounts$Almanac" ∈ z_T := (z_inT (List.mem_append_right _ (List.mem_of_getElem? (i := 2) (by decide +kernel))) rfl)
theorem wi_2 : Cond.initialized "RoadCounts$Network" ∈ z_T := (z_inT (List.mem_append_right _ (List.mem_of_getElem? (i := 3) (by decide +kernel))) rfl)
theorem wi_6 : Cond.initialized "RoadCounts$Tape" ∈ z_T := (z_inT (List.mem_append_right _ (List.mem_of_getElem? (i := 4) (by decide +kernel))) rfl)
theorem wi_5 : Cond.initialized "RoadCounts$RulesReader" ∈ z_T := (z_inT (List.mem_append_right _ (List.mem_of_getElem? (i := 5) (by decide +kernel))) rfl)
theorem wi_4 : Cond.initialized "RoadCounts$Rules" ∈ z_T := (z_inT (List.mem_append_right _ (List.mem_of_getElem? (i := 6) (by decide +kernel))) rfl)
theorem wi_8 : Cond.initialized "RoadCountsModel" ∈ z_T := (z_inT (List.mem_append_right _ (List.mem_of_getElem? (i := 7) (by decide +kernel))) rfl)
theorem wi_3 : Cond.initialized "RoadCounts$Road" ∈ z_T := (z_inT (List.mem_append_right _ (List.mem_of_getElem? (i := 8) (by decide +kernel))) rfl)
theorem wi_1 : Cond.initialized "RoadCounts$Counts" ∈ z_T := (z_inT (List.mem_append_right _ (List.mem_of_getElem? (i := 9) (by decide +kernel))) rfl)
theorem wi_A : Cond.initialized "java/lang/Math" ∈ z_T := (z_inT (List.mem_append_right _ (List.mem_of_getElem? (i := 10) (by decide +kernel))) rfl)
theorem wi_I : Cond.initialized "java/lang/Integer" ∈ z_T := (z_inT (List.mem_append_right _ (List.mem_of_getElem? (i := 11) (by decide +kernel))) rfl)
abbrev M7_init : z_M := (⟨"RoadCounts", "<init>", "()V"⟩, prog_1_method_1_code, 1, none)
theorem wc_M7_init : Cond.code M7_init.1 M7_init.2.1 M7_init.2.2.1 M7_init.2.2.2 ∈ z_T := (z_inT (List.mem_append_right _ (List.mem_of_getElem? (i := 16) (by decide +kernel))) rfl)
theorem wv_M7_init : Cond.instanceMethod M7_init.1 ∈ z_T := (z_inT (List.mem_append_right _ (List.mem_of_getElem? (i := 15) (by decide +kernel))) rfl)
abbrev M0_init : z_M := (⟨"RoadCounts$Almanac", "<init>", "()V"⟩, prog_2_method_1_code, 3, none)
theorem wc_M0_init : Cond.code M0_init.1 M0_init.2.1 M0_init.2.2.1 M0_init.2.2.2 ∈ z_T := (z_inT (List.mem_append_right _ (List.mem_of_getElem? (i := 24) (by decide +kernel))) rfl)
theorem wv_M0_init : Cond.instanceMethod M0_init.1 ∈ z_T := (z_inT (List.mem_append_right _ (List.mem_of_getElem? (i := 23) (by decide +kernel))) rfl)
abbrev M2_init : z_M := (⟨"RoadCounts$Network", "<init>", "()V"⟩, prog_4_method_1_code, 1, none)
theorem wc_M2_init : Cond.code M2_init.1 M2_init.2.1 M2_init.2.2.1 M2_init.2.2.2 ∈ z_T := (z_inT (List.mem_append_right _ (List.mem_of_getElem? (i := 52) (by decide +kernel))) rfl)
theorem wv_M2_init : Cond.instanceMethod M2_init.1 ∈ z_T := (z_inT (List.mem_append_right _ (List.mem_of_getElem? (i := 51) (by decide +kernel))) rfl)
abbrev M6_init : z_M := (⟨"RoadCounts$Tape", "<init>", "()V"⟩, prog_8_method_1_code, 1, none)
theorem wc_M6_init : Cond.code M6_init.1 M6_init.2.1 M6_init.2.2.1 M6_init.2.2.2 ∈ z_T := (z_inT (List.mem_append_right _ (List.mem_of_getElem? (i := 92) (by decide +kernel))) rfl)
theorem wv_M6_init : Cond.instanceMethod M6_init.1 ∈ z_T := (z_inT (List.mem_append_right _ (List.mem_of_getElem? (i := 91) (by decide +kernel))) rfl)
abbrev M5_init : z_M := (⟨"RoadCounts$RulesReader", "<init>", "(LRoadCounts$Tape;)V"⟩, prog_7_method_1_code, 2, none)
theorem wc_M5_init : Cond.code M5_init.1 M5_init.2.1 M5_init.2.2.1 M5_init.2.2.2 ∈ z_T := (z_inT (List.mem_append_right _ (List.mem_of_getElem? (i := 106) (by decide +kernel))) rfl)
theorem wv_M5_init : Cond.instanceMethod M5_init.1 ∈ z_T := (z_inT (List.mem_append_right _ (List.mem_of_getElem? (i := 105) (by decide +kernel))) rfl)
abbrev M4_init : z_M := (⟨"RoadCounts$Rules", "<init>", "()V"⟩, prog_6_method_1_code, 1, none)
theorem wc_M4_init : Cond.code M4_init.1 M4_init.2.1 M4_init.2.2.1 M4_init.2.2.2 ∈ z_T := (z_inT (List.mem_append_right _ (List.mem_of_getElem? (i := 125) (by decide +kernel))) rfl)
theorem wv_M4_init : Cond.instanceMethod M4_init.1 ∈ z_T := (z_inT (List.mem_append_right _ (List.mem_of_getElem? (i := 124) (by decide +kernel))) rfl)
abbrev M7_weekday : z_M := (⟨"RoadCounts", "weekday", "(III)Z"⟩, prog_1_method_2_code, 4, some FieldType.boolean)
theorem wc_M7_weekday : Cond.code M7_weekday.1 M7_weekday.2.1 M7_weekday.2.2.1 M7_weekday.2.2.2 ∈ z_T := (z_inT (List.mem_append_right _ (List.mem_of_getElem? (i := 168) (by decide +kernel))) rfl)
theorem wv_M7_weekday : Cond.instanceMethod M7_weekday.1 ∈ z_T := (z_inT (List.mem_append_right _ (List.mem_of_getElem? (i := 166) (by decide +kernel))) rfl)
theorem ws_M7_weekday : Cond.selects M7_weekday.1.cls M7_weekday.1 M7_weekday.1 ∈ z_T := (z_inT (List.mem_append_right _ (List.mem_of_getElem? (i := 167) (by decide +kernel))) rfl)
abbrev M7_isBelow : z_M := (⟨"RoadCounts", "isBelow", "(II)Z"⟩, prog_1_method_24_code, 2, some FieldType.boolean)
theorem wc_M7_isBelow : Cond.code M7_isBelow.1 M7_isBelow.2.1 M7_isBelow.2.2.1 M7_isBelow.2.2.2 ∈ z_T := (z_inT (List.mem_append_right _ (List.mem_of_getElem? (i := 171) (by decide +kernel))) rfl)
theorem wt_M7_isBelow : Cond.static M7_isBelow.1 ∈ z_T := (z_inT (List.mem_append_right _ (List.mem_of_getElem? (i := 170) (by decide +kernel))) rfl)
abbrev M7_isWeight : z_M := (⟨"RoadCounts", "isWeight", "(I)Z"⟩, prog_1_method_25_code, 1, some FieldType.boolean)
theorem wc_M7_isWeight : Cond.code M7_isWeight.1 M7_isWeight.2.1 M7_isWeight.2.2.1 M7_isWeight.2.2.2 ∈ z_T := (z_inT (List.mem_append_right _ (List.mem_of_getElem? (i := 174) (by decide +kernel))) rfl)
theorem wt_M7_isWeight : Cond.static M7_isWeight.1 ∈ z_T := (z_inT (List.mem_append_right _ (List.mem_of_getElem? (i := 173) (by decide +kernel))) rfl)
abbrev M0_weighWeekday : z_M := (⟨"RoadCounts$Almanac", "weighWeekday", "(III)V"⟩, prog_2_method_2_code, 4, none)
theorem wc_M0_weighWeekday : Cond.code M0_weighWeekday.1 M0_weighWeekday.2.1 M0_weighWeekday.2.2.1 M0_weighWeekday.2.2.2 ∈ z_T := (z_inT (List.mem_append_right _ (List.mem_of_getElem? (i := 178) (by decide +kernel))) rfl)
theorem wv_M0_weighWeekday : Cond.instanceMethod M0_weighWeekday.1 ∈ z_T := (z_inT (List.mem_append_right _ (List.mem_of_getElem? (i := 176) (by decide +kernel))) rfl)
theorem ws_M0_weighWeekday : Cond.selects M0_weighWeekday.1.cls M0_weighWeekday.1 M0_weighWeekday.1 ∈ z_T := (z_inT (List.mem_append_right _ (List.mem_of_getElem? (i := 177) (by decide +kernel))) rfl)
abbrev M7_month : z_M := (⟨"RoadCounts", "month", "(III)Z"⟩, prog_1_method_3_code, 4, some FieldType.boolean)
theorem wc_M7_month : Cond.code M7_month.1 M7_month.2.1 M7_month.2.2.1 M7_month.2.2.2 ∈ z_T := (z_inT (List.mem_append_right _ (List.mem_of_getElem? (i := 182) (by decide +kernel))) rfl)
theorem wv_M7_month : Cond.instanceMethod M7_month.1 ∈ z_T := (z_inT (List.mem_append_right _ (List.mem_of_getElem? (i := 180) (by decide +kernel))) rfl)
theorem ws_M7_month : Cond.selects M7_month.1.cls M7_month.1 M7_month.1 ∈ z_T := (z_inT (List.mem_append_right _ (List.mem_of_getElem? (i := 181) (by decide +kernel))) rfl)
abbrev M0_weighMonth : z_M := (⟨"RoadCounts$Almanac", "weighMonth", "(III)V"⟩, prog_2_method_3_code, 4, none)
theorem wc_M0_weighMonth : Cond.code M0_weighMonth.1 M0_weighMonth.2.1 M0_weighMonth.2.2.1 M0_weighMonth.2.2.2 ∈ z_T := (z_inT (List.mem_append_right _ (List.mem_of_getElem? (i := 186) (by decide +kernel))) rfl)
theorem wv_M0_weighMonth : Cond.instanceMethod M0_weighMonth.1 ∈ z_T := (z_inT (List.mem_append_right _ (List.mem_of_getElem? (i := 184) (by decide +kernel))) rfl)
theorem ws_M0_weighMonth : Cond.selects M0_weighMonth.1.cls M0_weighMonth.1 M0_weighMonth.1 ∈ z_T := (z_inT (List.mem_append_right _ (List.mem_of_getElem? (i := 185) (by decide +kernel))) rfl)
abbrev M7_holiday : z_M := (⟨"RoadCounts", "holiday", "(I)Z"⟩, prog_1_method_4_code, 2, some FieldType.boolean)
theorem wc_M7_holiday : Cond.code M7_holiday.1 M7_holiday.2.1 M7_holiday.2.2.1 M7_holiday.2.2.2 ∈ z_T := (z_inT (List.mem_append_right _ (List.mem_of_getElem? (i := 190) (by decide +kernel))) rfl)
theorem wv_M7_holiday : Cond.instanceMethod M7_holiday.1 ∈ z_T := (z_inT (List.mem_append_right _ (List.mem_of_getElem? (i := 188) (by decide +kernel))) rfl)
theorem ws_M7_holiday : Cond.selects M7_holiday.1.cls M7_holiday.1 M7_holiday.1 ∈ z_T := (z_inT (List.mem_append_right _ (List.mem_of_getElem? (i := 189) (by decide +kernel))) rfl)
abbrev M0_addHoliday : z_M := (⟨"RoadCounts$Almanac", "addHoliday", "(I)Z"⟩, prog_2_method_4_code, 2, some FieldType.boolean)
theorem wc_M0_addHoliday : Cond.code M0_addHoliday.1 M0_addHoliday.2.1 M0_addHoliday.2.2.1 M0_addHoliday.2.2.2 ∈ z_T := (z_inT (List.mem_append_right _ (List.mem_of_getElem? (i := 194) (by decide +kernel))) rfl)
theorem wv_M0_addHoliday : Cond.instanceMethod M0_addHoliday.1 ∈ z_T := (z_inT (List.mem_append_right _ (List.mem_of_getElem? (i := 192) (by decide +kernel))) rfl)
theorem ws_M0_addHoliday : Cond.selects M0_addHoliday.1.cls M0_addHoliday.1 M0_addHoliday.1 ∈ z_T := (z_inT (List.mem_append_right _ (List.mem_of_getElem? (i := 193) (by decide +kernel))) rfl)
abbrev M7_road : z_M := (⟨"RoadCounts", "road", "(III)I"⟩, prog_1_method_5_code, 4, some FieldType.int)
theorem wc_M7_road : Cond.code M7_road.1 M7_road.2.1 M7_road.2.2.1 M7_road.2.2.2 ∈ z_T := (z_inT (List.mem_append_right _ (List.mem_of_getElem? (i := 198) (by decide +kernel))) rfl)
theorem wv_M7_road : Cond.instanceMethod M7_road.1 ∈ z_T := (z_inT (List.mem_append_right _ (List.mem_of_getElem? (i := 196) (by decide +kernel))) rfl)
theorem ws_M7_road : Cond.selects M7_road.1.cls M7_road.1 M7_road.1 ∈ z_T := (z_inT (List.mem_append_right _ (List.mem_of_getElem? (i := 197) (by decide +kernel))) rfl)
abbrev M7_isEnd : z_M := (⟨"RoadCounts", "isEnd", "(I)Z"⟩, prog_1_method_26_code, 1, some FieldType.boolean)
theorem wc_M7_isEnd : Cond.code M7_isEnd.1 M7_isEnd.2.1 M7_isEnd.2.2.1 M7_isEnd.2.2.2 ∈ z_T := (z_inT (List.mem_append_right _ (List.mem_of_getElem? (i := 201) (by decide +kernel))) rfl)
theorem wt_M7_isEnd : Cond.static M7_isEnd.1 ∈ z_T := (z_inT (List.mem_append_right _ (List.mem_of_getElem? (i := 200) (by decide +kernel))) rfl)
abbrev M2_add : z_M := (⟨"RoadCounts$Network", "add", "(III)I"⟩, prog_4_method_2_code, 4, some FieldType.int)
theorem wc_M2_add : Cond.code M2_add.1 M2_add.2.1 M2_add.2.2.1 M2_add.2.2.2 ∈ z_T := (z_inT (List.mem_append_right _ (List.mem_of_getElem? (i := 205) (by decide +kernel))) rfl)
theorem wv_M2_add : Cond.instanceMethod M2_add.1 ∈ z_T := (z_inT (List.mem_append_right _ (List.mem_of_getElem? (i := 203) (by decide +kernel))) rfl)
theorem ws_M2_add : Cond.selects M2_add.1.cls M2_add.1 M2_add.1 ∈ z_T := (z_inT (List.mem_append_right _ (List.mem_of_getElem? (i := 204) (by decide +kernel))) rfl)
abbrev M3_init : z_M := (⟨"RoadCounts$Road", "<init>", "(III)V"⟩, prog_5_method_1_code, 4, none)
theorem wc_M3_init : Cond.code M3_init.1 M3_init.2.1 M3_init.2.2.1 M3_init.2.2.2 ∈ z_T := (z_inT (List.mem_append_right _ (List.mem_of_getElem? (i := 209) (by decide +kernel))) rfl)
theorem wv_M3_init : Cond.instanceMethod M3_init.1 ∈ z_T := (z_inT (List.mem_append_right _ (List.mem_of_getElem? (i := 208) (by decide +kernel))) rfl)
abbrev M1_init : z_M := (⟨"RoadCounts$Counts", "<init>", "()V"⟩, prog_3_method_1_code, 1, none)
theorem wc_M1_init : Cond.code M1_init.1 M1_init.2.1 M1_init.2.2.1 M1_init.2.2.2 ∈ z_T := (z_inT (List.mem_append_right _ (List.mem_of_getElem? (i := 215) (by decide +kernel))) rfl)
theorem wv_M1_init : Cond.instanceMethod M1_init.1 ∈ z_T := (z_inT (List.mem_append_right _ (List.mem_of_getElem? (i := 214) (by decide +kernel))) rfl)
abbrev M7_shape : z_M := (⟨"RoadCounts", "shape", "(II)Z"⟩, prog_1_method_6_code, 4, some FieldType.boolean)
theorem wc_M7_shape : Cond.code M7_shape.1 M7_shape.2.1 M7_shape.2.2.1 M7_shape.2.2.2 ∈ z_T := (z_inT (List.mem_append_right _ (List.mem_of_getElem? (i := 259) (by decide +kernel))) rfl)
theorem wv_M7_shape : Cond.instanceMethod M7_shape.1 ∈ z_T := (z_inT (List.mem_append_right _ (List.mem_of_getElem? (i := 257) (by decide +kernel))) rfl)
theorem ws_M7_shape : Cond.selects M7_shape.1.cls M7_shape.1 M7_shape.1 ∈ z_T := (z_inT (List.mem_append_right _ (List.mem_of_getElem? (i := 258) (by decide +kernel))) rfl)
abbrev M2_at : z_M := (⟨"RoadCounts$Network", "at", "(I)LRoadCounts$Road;"⟩, prog_4_method_3_code, 2, some (FieldType.object "RoadCounts$Road"))
theorem wc_M2_at : Cond.code M2_at.1 M2_at.2.1 M2_at.2.2.1 M2_at.2.2.2 ∈ z_T := (z_inT (List.mem_append_right _ (List.mem_of_getElem? (i := 263) (by decide +kernel))) rfl)
theorem wv_M2_at : Cond.instanceMethod M2_at.1 ∈ z_T := (z_inT (List.mem_append_right _ (List.mem_of_getElem? (i := 261) (by decide +kernel))) rfl)
theorem ws_M2_at : Cond.selects M2_at.1.cls M2_at.1 M2_at.1 ∈ z_T := (z_inT (List.mem_append_right _ (List.mem_of_getElem? (i := 262) (by decide +kernel))) rfl)
abbrev M7_count : z_M := (⟨"RoadCounts", "count", "(III)Z"⟩, prog_1_method_7_code, 5, some FieldType.boolean)
theorem wc_M7_count : Cond.code M7_count.1 M7_count.2.1 M7_count.2.2.1 M7_count.2.2.2 ∈ z_T := (z_inT (List.mem_append_right _ (List.mem_of_getElem? (i := 268) (by decide +kernel))) rfl)
theorem wv_M7_count : Cond.instanceMethod M7_count.1 ∈ z_T := (z_inT (List.mem_append_right _ (List.mem_of_getElem? (i := 266) (by decide +kernel))) rfl)
theorem ws_M7_count : Cond.selects M7_count.1.cls M7_count.1 M7_count.1 ∈ z_T := (z_inT (List.mem_append_right _ (List.mem_of_getElem? (i := 267) (by decide +kernel))) rfl)
abbrev M1_put : z_M := (⟨"RoadCounts$Counts", "put", "(II)Z"⟩, prog_3_method_2_code, 4, some FieldType.boolean)
theorem wc_M1_put : Cond.code M1_put.1 M1_put.2.1 M1_put.2.2.1 M1_put.2.2.2 ∈ z_T := (z_inT (List.mem_append_right _ (List.mem_of_getElem? (i := 273) (by decide +kernel))) rfl)
theorem wv_M1_put : Cond.instanceMethod M1_put.1 ∈ z_T := (z_inT (List.mem_append_right _ (List.mem_of_getElem? (i := 271) (by decide +kernel))) rfl)
theorem ws_M1_put : Cond.selects M1_put.1.cls M1_put.1 M1_put.1 ∈ z_T := (z_inT (List.mem_append_right _ (List.mem_of_getElem? (i := 272) (by decide +kernel))) rfl)
abbrev M1_placeOf : z_M := (⟨"RoadCounts$Counts", "placeOf", "(I)I"⟩, prog_3_method_12_code, 3, some FieldType.int)
theorem wc_M1_placeOf : Cond.code M1_placeOf.1 M1_placeOf.2.1 M1_placeOf.2.2.1 M1_placeOf.2.2.2 ∈ z_T := (z_inT (List.mem_append_right _ (List.mem_of_getElem? (i := 277) (by decide +kernel))) rfl)
theorem wv_M1_placeOf : Cond.instanceMethod M1_placeOf.1 ∈ z_T := (z_inT (List.mem_append_right _ (List.mem_of_getElem? (i := 276) (by decide +kernel))) rfl)
theorem ws_M1_placeOf : Cond.selects M1_placeOf.1.cls M1_placeOf.1 M1_placeOf.1 ∈ z_T := z_inT (List.mem_append_left _ (List.mem_of_getElem? (i := 0) (by decide +kernel))) rfl
abbrev M7_year : z_M := (⟨"RoadCounts", "year", "(I)J"⟩, prog_1_method_8_code, 3, some FieldType.long)
theorem wc_M7_year : Cond.code M7_year.1 M7_year.2.1 M7_year.2.2.1 M7_year.2.2.2 ∈ z_T := (z_inT (List.mem_append_right _ (List.mem_of_getElem? (i := 281) (by decide +kernel))) rfl)
theorem wv_M7_year : Cond.instanceMethod M7_year.1 ∈ z_T := (z_inT (List.mem_append_right _ (List.mem_of_getElem? (i := 279) (by decide +kernel))) rfl)
theorem ws_M7_year : Cond.selects M7_year.1.cls M7_year.1 M7_year.1 ∈ z_T := (z_inT (List.mem_append_right _ (List.mem_of_getElem? (i := 280) (by decide +kernel))) rfl)
abbrev M1_loadOfAll : z_M := (⟨"RoadCounts$Counts", "loadOfAll", "(LRoadCounts$Almanac;I)J"⟩, prog_3_method_5_code, 5, some FieldType.long)
theorem wc_M1_loadOfAll : Cond.code M1_loadOfAll.1 M1_loadOfAll.2.1 M1_loadOfAll.2.2.1 M1_loadOfAll.2.2.2 ∈ z_T := (z_inT (List.mem_append_right _ (List.mem_of_getElem? (i := 286) (by decide +kernel))) rfl)
theorem wv_M1_loadOfAll : Cond.instanceMethod M1_loadOfAll.1 ∈ z_T := (z_inT (List.mem_append_right _ (List.mem_of_getElem? (i := 284) (by decide +kernel))) rfl)
theorem ws_M1_loadOfAll : Cond.selects M1_loadOfAll.1.cls M1_loadOfAll.1 M1_loadOfAll.1 ∈ z_T := (z_inT (List.mem_append_right _ (List.mem_of_getElem? (i := 285) (by decide +kernel))) rfl)
abbrev M1_usedShares : z_M := (⟨"RoadCounts$Counts", "usedShares", "(LRoadCounts$Almanac;I)J"⟩, prog_3_method_10_code, 6, some FieldType.long)
theorem wc_M1_usedShares : Cond.code M1_usedShares.1 M1_usedShares.2.1 M1_usedShares.2.2.1 M1_usedShares.2.2.2 ∈ z_T := (z_inT (List.mem_append_right _ (List.mem_of_getElem? (i := 290) (by decide +kernel))) rfl)
theorem wv_M1_usedShares : Cond.instanceMethod M1_usedShares.1 ∈ z_T := (z_inT (List.mem_append_right _ (List.mem_of_getElem? (i := 289) (by decide +kernel))) rfl)
theorem ws_M1_usedShares : Cond.selects M1_usedShares.1.cls M1_usedShares.1 M1_usedShares.1 ∈ z_T := z_inT (List.mem_append_left _ (List.mem_of_getElem? (i := 1) (by decide +kernel))) rfl
abbrev M1_isUsed : z_M := (⟨"RoadCounts$Counts", "isUsed", "(ILRoadCounts$Almanac;)Z"⟩, prog_3_method_11_code, 3, some FieldType.boolean)
theorem wc_M1_isUsed : Cond.code M1_isUsed.1 M1_isUsed.2.1 M1_isUsed.2.2.1 M1_isUsed.2.2.2 ∈ z_T := (z_inT (List.mem_append_right _ (List.mem_of_getElem? (i := 294) (by decide +kernel))) rfl)
theorem wv_M1_isUsed : Cond.instanceMethod M1_isUsed.1 ∈ z_T := (z_inT (List.mem_append_right _ (List.mem_of_getElem? (i := 293) (by decide +kernel))) rfl)
theorem ws_M1_isUsed : Cond.selects M1_isUsed.1.cls M1_isUsed.1 M1_isUsed.1 ∈ z_T := z_inT (List.mem_append_left _ (List.mem_of_getElem? (i := 2) (by decide +kernel))) rfl
abbrev M0_shareOf : z_M := (⟨"RoadCounts$Almanac", "shareOf", "(II)J"⟩, prog_2_method_5_code, 4, some FieldType.long)
theorem wc_M0_shareOf : Cond.code M0_shareOf.1 M0_shareOf.2.1 M0_shareOf.2.2.1 M0_shareOf.2.2.2 ∈ z_T := (z_inT (List.mem_append_right _ (List.mem_of_getElem? (i := 298) (by decide +kernel))) rfl)
theorem wv_M0_shareOf : Cond.instanceMethod M0_shareOf.1 ∈ z_T := (z_inT (List.mem_append_right _ (List.mem_of_getElem? (i := 296) (by decide +kernel))) rfl)
theorem ws_M0_shareOf : Cond.selects M0_shareOf.1.cls M0_shareOf.1 M0_shareOf.1 ∈ z_T := (z_inT (List.mem_append_right _ (List.mem_of_getElem? (i := 297) (by decide +kernel))) rfl)
abbrev M1_usedTotal : z_M := (⟨"RoadCounts$Counts", "usedTotal", "(LRoadCounts$Almanac;)J"⟩, prog_3_method_9_code, 5, some FieldType.long)
theorem wc_M1_usedTotal : Cond.code M1_usedTotal.1 M1_usedTotal.2.1 M1_usedTotal.2.2.1 M1_usedTotal.2.2.2 ∈ z_T := (z_inT (List.mem_append_right _ (List.mem_of_getElem? (i := 302) (by decide +kernel))) rfl)
theorem wv_M1_usedTotal : Cond.instanceMethod M1_usedTotal.1 ∈ z_T := (z_inT (List.mem_append_right _ (List.mem_of_getElem? (i := 301) (by decide +kernel))) rfl)
theorem ws_M1_usedTotal : Cond.selects M1_usedTotal.1.cls M1_usedTotal.1 M1_usedTotal.1 ∈ z_T := z_inT (List.mem_append_left _ (List.mem_of_getElem? (i := 3) (by decide +kernel))) rfl
abbrev M0_wholeOf : z_M := (⟨"RoadCounts$Almanac", "wholeOf", "(I)J"⟩, prog_2_method_6_code, 12, some FieldType.long)
theorem wc_M0_wholeOf : Cond.code M0_wholeOf.1 M0_wholeOf.2.1 M0_wholeOf.2.2.1 M0_wholeOf.2.2.2 ∈ z_T := (z_inT (List.mem_append_right _ (List.mem_of_getElem? (i := 306) (by decide +kernel))) rfl)
theorem wv_M0_wholeOf : Cond.instanceMethod M0_wholeOf.1 ∈ z_T := (z_inT (List.mem_append_right _ (List.mem_of_getElem? (i := 304) (by decide +kernel))) rfl)
theorem ws_M0_wholeOf : Cond.selects M0_wholeOf.1.cls M0_wholeOf.1 M0_wholeOf.1 ∈ z_T := (z_inT (List.mem_append_right _ (List.mem_of_getElem? (i := 305) (by decide +kernel))) rfl)
abbrev M7_span : z_M := (⟨"RoadCounts", "span", "(II)J"⟩, prog_1_method_9_code, 4, some FieldType.long)
theorem wc_M7_span : Cond.code M7_span.1 M7_span.2.1 M7_span.2.2.1 M7_span.2.2.2 ∈ z_T := (z_inT (List.mem_append_right _ (List.mem_of_getElem? (i := 313) (by decide +kernel))) rfl)
theorem wv_M7_span : Cond.instanceMethod M7_span.1 ∈ z_T := (z_inT (List.mem_append_right _ (List.mem_of_getElem? (i := 311) (by decide +kernel))) rfl)
theorem ws_M7_span : Cond.selects M7_span.1.cls M7_span.1 M7_span.1 ∈ z_T := (z_inT (List.mem_append_right _ (List.mem_of_getElem? (i := 312) (by decide +kernel))) rfl)
abbrev M1_loadAtEnd : z_M := (⟨"RoadCounts$Counts", "loadAtEnd", "(LRoadCounts$Almanac;IZ)J"⟩, prog_3_method_6_code, 13, some FieldType.long)
theorem wc_M1_loadAtEnd : Cond.code M1_loadAtEnd.1 M1_loadAtEnd.2.1 M1_loadAtEnd.2.2.1 M1_loadAtEnd.2.2.2 ∈ z_T := (z_inT (List.mem_append_right _ (List.mem_of_getElem? (i := 317) (by decide +kernel))) rfl)
theorem wv_M1_loadAtEnd : Cond.instanceMethod M1_loadAtEnd.1 ∈ z_T := (z_inT (List.mem_append_right _ (List.mem_of_getElem? (i := 315) (by decide +kernel))) rfl)
theorem ws_M1_loadAtEnd : Cond.selects M1_loadAtEnd.1.cls M1_loadAtEnd.1 M1_loadAtEnd.1 ∈ z_T := (z_inT (List.mem_append_right _ (List.mem_of_getElem? (i := 316) (by decide +kernel))) rfl)
abbrev M7_best : z_M := (⟨"RoadCounts", "best", "(I)I"⟩, prog_1_method_10_code, 3, some FieldType.int)
theorem wc_M7_best : Cond.code M7_best.1 M7_best.2.1 M7_best.2.2.1 M7_best.2.2.2 ∈ z_T := (z_inT (List.mem_append_right _ (List.mem_of_getElem? (i := 321) (by decide +kernel))) rfl)
theorem wv_M7_best : Cond.instanceMethod M7_best.1 ∈ z_T := (z_inT (List.mem_append_right _ (List.mem_of_getElem? (i := 319) (by decide +kernel))) rfl)
theorem ws_M7_best : Cond.selects M7_best.1.cls M7_best.1 M7_best.1 ∈ z_T := (z_inT (List.mem_append_right _ (List.mem_of_getElem? (i := 320) (by decide +kernel))) rfl)
abbrev M1_bestShape : z_M := (⟨"RoadCounts$Counts", "bestShape", "(LRoadCounts$Almanac;)I"⟩, prog_3_method_7_code, 12, some FieldType.int)
theorem wc_M1_bestShape : Cond.code M1_bestShape.1 M1_bestShape.2.1 M1_bestShape.2.2.1 M1_bestShape.2.2.2 ∈ z_T := (z_inT (List.mem_append_right _ (List.mem_of_getElem? (i := 325) (by decide +kernel))) rfl)
theorem wv_M1_bestShape : Cond.instanceMethod M1_bestShape.1 ∈ z_T := (z_inT (List.mem_append_right _ (List.mem_of_getElem? (i := 323) (by decide +kernel))) rfl)
theorem ws_M1_bestShape : Cond.selects M1_bestShape.1.cls M1_bestShape.1 M1_bestShape.1 ∈ z_T := (z_inT (List.mem_append_right _ (List.mem_of_getElem? (i := 324) (by decide +kernel))) rfl)
abbrev M1_used : z_M := (⟨"RoadCounts$Counts", "used", "(LRoadCounts$Almanac;)I"⟩, prog_3_method_4_code, 4, some FieldType.int)
theorem wc_M1_used : Cond.code M1_used.1 M1_used.2.1 M1_used.2.2.1 M1_used.2.2.2 ∈ z_T := (z_inT (List.mem_append_right _ (List.mem_of_getElem? (i := 329) (by decide +kernel))) rfl)
theorem wv_M1_used : Cond.instanceMethod M1_used.1 ∈ z_T := (z_inT (List.mem_append_right _ (List.mem_of_getElem? (i := 327) (by decide +kernel))) rfl)
theorem ws_M1_used : Cond.selects M1_used.1.cls M1_used.1 M1_used.1 ∈ z_T := (z_inT (List.mem_append_right _ (List.mem_of_getElem? (i := 328) (by decide +kernel))) rfl)
abbrev M1_misfitTimesShares : z_M := (⟨"RoadCounts$Counts", "misfitTimesShares", "(LRoadCounts$Almanac;IJ)J"⟩, prog_3_method_8_code, 10, some FieldType.long)
theorem wc_M1_misfitTimesShares : Cond.code M1_misfitTimesShares.1 M1_misfitTimesShares.2.1 M1_misfitTimesShares.2.2.1 M1_misfitTimesShares.2.2.2 ∈ z_T := (z_inT (List.mem_append_right _ (List.mem_of_getElem? (i := 333) (by decide +kernel))) rfl)
theorem wv_M1_misfitTimesShares : Cond.instanceMethod M1_misfitTimesShares.1 ∈ z_T := (z_inT (List.mem_append_right _ (List.mem_of_getElem? (i := 332) (by decide +kernel))) rfl)
theorem ws_M1_misfitTimesShares : Cond.selects M1_misfitTimesShares.1.cls M1_misfitTimesShares.1 M1_misfitTimesShares.1 ∈ z_T := z_inT (List.mem_append_left _ (List.mem_of_getElem? (i := 4) (by decide +kernel))) rfl
abbrev MA_abs : z_M := (⟨"java/lang/Math", "abs", "(J)J"⟩, prog_12_method_61_code, 2, some FieldType.long)
theorem wc_MA_abs : Cond.code MA_abs.1 MA_abs.2.1 MA_abs.2.2.1 MA_abs.2.2.2 ∈ z_T := (z_inT (List.mem_append_right _ (List.mem_of_getElem? (i := 336) (by decide +kernel))) rfl)
theorem wt_MA_abs : Cond.static MA_abs.1 ∈ z_T := (z_inT (List.mem_append_right _ (List.mem_of_getElem? (i := 335) (by decide +kernel))) rfl)
abbrev M7_how : z_M := (⟨"RoadCounts", "how", "(I)I"⟩, prog_1_method_11_code, 2, some FieldType.int)
theorem wc_M7_how : Cond.code M7_how.1 M7_how.2.1 M7_how.2.2.1 M7_how.2.2.2 ∈ z_T := (z_inT (List.mem_append_right _ (List.mem_of_getElem? (i := 340) (by decide +kernel))) rfl)
theorem wv_M7_how : Cond.instanceMethod M7_how.1 ∈ z_T := (z_inT (List.mem_append_right _ (List.mem_of_getElem? (i := 338) (by decide +kernel))) rfl)
theorem ws_M7_how : Cond.selects M7_how.1.cls M7_how.1 M7_how.1 ∈ z_T := (z_inT (List.mem_append_right _ (List.mem_of_getElem? (i := 339) (by decide +kernel))) rfl)
abbrev M2_settle : z_M := (⟨"RoadCounts$Network", "settle", "(LRoadCounts$Almanac;)V"⟩, prog_4_method_10_code, 7, none)
theorem wc_M2_settle : Cond.code M2_settle.1 M2_settle.2.1 M2_settle.2.2.1 M2_settle.2.2.2 ∈ z_T := (z_inT (List.mem_append_right _ (List.mem_of_getElem? (i := 344) (by decide +kernel))) rfl)
theorem wv_M2_settle : Cond.instanceMethod M2_settle.1 ∈ z_T := (z_inT (List.mem_append_right _ (List.mem_of_getElem? (i := 342) (by decide +kernel))) rfl)
theorem ws_M2_settle : Cond.selects M2_settle.1.cls M2_settle.1 M2_settle.1 ∈ z_T := (z_inT (List.mem_append_right _ (List.mem_of_getElem? (i := 343) (by decide +kernel))) rfl)
abbrev M2_follow : z_M := (⟨"RoadCounts$Network", "follow", "(I)I"⟩, prog_4_method_14_code, 7, some FieldType.int)
theorem wc_M2_follow : Cond.code M2_follow.1 M2_follow.2.1 M2_follow.2.2.1 M2_follow.2.2.2 ∈ z_T := (z_inT (List.mem_append_right _ (List.mem_of_getElem? (i := 350) (by decide +kernel))) rfl)
theorem wv_M2_follow : Cond.instanceMethod M2_follow.1 ∈ z_T := (z_inT (List.mem_append_right _ (List.mem_of_getElem? (i := 349) (by decide +kernel))) rfl)
theorem ws_M2_follow : Cond.selects M2_follow.1.cls M2_follow.1 M2_follow.1 ∈ z_T := z_inT (List.mem_append_left _ (List.mem_of_getElem? (i := 5) (by decide +kernel))) rfl
abbrev MI_bitCount : z_M := (⟨"java/lang/Integer", "bitCount", "(I)I"⟩, prog_11_method_49_code, 1, some FieldType.int)
theorem wc_MI_bitCount : Cond.code MI_bitCount.1 MI_bitCount.2.1 MI_bitCount.2.2.1 MI_bitCount.2.2.2 ∈ z_T := (z_inT (List.mem_append_right _ (List.mem_of_getElem? (i := 353) (by decide +kernel))) rfl)
theorem wt_MI_bitCount : Cond.static MI_bitCount.1 ∈ z_T := (z_inT (List.mem_append_right _ (List.mem_of_getElem? (i := 352) (by decide +kernel))) rfl)
abbrev MI_numberOfTrailingZeros : z_M := (⟨"java/lang/Integer", "numberOfTrailingZeros", "(I)I"⟩, prog_11_method_48_code, 2, some FieldType.int)
theorem wc_MI_numberOfTrailingZeros : Cond.code MI_numberOfTrailingZeros.1 MI_numberOfTrailingZeros.2.1 MI_numberOfTrailingZeros.2.2.1 MI_numberOfTrailingZeros.2.2.2 ∈ z_T := (z_inT (List.mem_append_right _ (List.mem_of_getElem? (i := 359) (by decide +kernel))) rfl)
theorem wt_MI_numberOfTrailingZeros : Cond.static MI_numberOfTrailingZeros.1 ∈ z_T := (z_inT (List.mem_append_right _ (List.mem_of_getElem? (i := 358) (by decide +kernel))) rfl)
abbrev M2_surplus : z_M := (⟨"RoadCounts$Network", "surplus", "(I)J"⟩, prog_4_method_9_code, 5, some FieldType.long)
theorem wc_M2_surplus : Cond.code M2_surplus.1 M2_surplus.2.1 M2_surplus.2.2.1 M2_surplus.2.2.2 ∈ z_T := (z_inT (List.mem_append_right _ (List.mem_of_getElem? (i := 364) (by decide +kernel))) rfl)
theorem wv_M2_surplus : Cond.instanceMethod M2_surplus.1 ∈ z_T := (z_inT (List.mem_append_right _ (List.mem_of_getElem? (i := 362) (by decide +kernel))) rfl)
theorem ws_M2_surplus : Cond.selects M2_surplus.1.cls M2_surplus.1 M2_surplus.1 ∈ z_T := (z_inT (List.mem_append_right _ (List.mem_of_getElem? (i := 363) (by decide +kernel))) rfl)
abbrev M2_isTold : z_M := (⟨"RoadCounts$Network", "isTold", "(I)Z"⟩, prog_4_method_6_code, 2, some FieldType.boolean)
theorem wc_M2_isTold : Cond.code M2_isTold.1 M2_isTold.2.1 M2_isTold.2.2.1 M2_isTold.2.2.2 ∈ z_T := (z_inT (List.mem_append_right _ (List.mem_of_getElem? (i := 368) (by decide +kernel))) rfl)
theorem wv_M2_isTold : Cond.instanceMethod M2_isTold.1 ∈ z_T := (z_inT (List.mem_append_right _ (List.mem_of_getElem? (i := 366) (by decide +kernel))) rfl)
theorem ws_M2_isTold : Cond.selects M2_isTold.1.cls M2_isTold.1 M2_isTold.1 ∈ z_T := (z_inT (List.mem_append_right _ (List.mem_of_getElem? (i := 367) (by decide +kernel))) rfl)
abbrev M2_isKnown : z_M := (⟨"RoadCounts$Network", "isKnown", "(I)Z"⟩, prog_4_method_5_code, 2, some FieldType.boolean)
theorem wc_M2_isKnown : Cond.code M2_isKnown.1 M2_isKnown.2.1 M2_isKnown.2.2.1 M2_isKnown.2.2.2 ∈ z_T := (z_inT (List.mem_append_right _ (List.mem_of_getElem? (i := 372) (by decide +kernel))) rfl)
theorem wv_M2_isKnown : Cond.instanceMethod M2_isKnown.1 ∈ z_T := (z_inT (List.mem_append_right _ (List.mem_of_getElem? (i := 370) (by decide +kernel))) rfl)
theorem ws_M2_isKnown : Cond.selects M2_isKnown.1.cls M2_isKnown.1 M2_isKnown.1 ∈ z_T := (z_inT (List.mem_append_right _ (List.mem_of_getElem? (i := 371) (by decide +kernel))) rfl)
abbrev M7_load : z_M := (⟨"RoadCounts", "load", "(I)J"⟩, prog_1_method_12_code, 2, some FieldType.long)
theorem wc_M7_load : Cond.code M7_load.1 M7_load.2.1 M7_load.2.2.1 M7_load.2.2.2 ∈ z_T := (z_inT (List.mem_append_right _ (List.mem_of_getElem? (i := 377) (by decide +kernel))) rfl)
theorem wv_M7_load : Cond.instanceMethod M7_load.1 ∈ z_T := (z_inT (List.mem_append_right _ (List.mem_of_getElem? (i := 375) (by decide +kernel))) rfl)
theorem ws_M7_load : Cond.selects M7_load.1.cls M7_load.1 M7_load.1 ∈ z_T := (z_inT (List.mem_append_right _ (List.mem_of_getElem? (i := 376) (by decide +kernel))) rfl)
abbrev M2_loadOf : z_M := (⟨"RoadCounts$Network", "loadOf", "(I)J"⟩, prog_4_method_8_code, 2, some FieldType.long)
theorem wc_M2_loadOf : Cond.code M2_loadOf.1 M2_loadOf.2.1 M2_loadOf.2.2.1 M2_loadOf.2.2.2 ∈ z_T := (z_inT (List.mem_append_right _ (List.mem_of_getElem? (i := 381) (by decide +kernel))) rfl)
theorem wv_M2_loadOf : Cond.instanceMethod M2_loadOf.1 ∈ z_T := (z_inT (List.mem_append_right _ (List.mem_of_getElem? (i := 379) (by decide +kernel))) rfl)
theorem ws_M2_loadOf : Cond.selects M2_loadOf.1.cls M2_loadOf.1 M2_loadOf.1 ∈ z_T := (z_inT (List.mem_append_right _ (List.mem_of_getElem? (i := 380) (by decide +kernel))) rfl)
abbrev M7_balances : z_M := (⟨"RoadCounts", "balances", "(I)I"⟩, prog_1_method_13_code, 2, some FieldType.int)
theorem wc_M7_balances : Cond.code M7_balances.1 M7_balances.2.1 M7_balances.2.2.1 M7_balances.2.2.2 ∈ z_T := (z_inT (List.mem_append_right _ (List.mem_of_getElem? (i := 385) (by decide +kernel))) rfl)
theorem wv_M7_balances : Cond.instanceMethod M7_balances.1 ∈ z_T := (z_inT (List.mem_append_right _ (List.mem_of_getElem? (i := 383) (by decide +kernel))) rfl)
theorem ws_M7_balances : Cond.selects M7_balances.1.cls M7_balances.1 M7_balances.1 ∈ z_T := (z_inT (List.mem_append_right _ (List.mem_of_getElem? (i := 384) (by decide +kernel))) rfl)
abbrev M2_isAllToldAt : z_M := (⟨"RoadCounts$Network", "isAllToldAt", "(I)Z"⟩, prog_4_method_7_code, 2, some FieldType.boolean)
theorem wc_M2_isAllToldAt : Cond.code M2_isAllToldAt.1 M2_isAllToldAt.2.1 M2_isAllToldAt.2.2.1 M2_isAllToldAt.2.2.2 ∈ z_T := (z_inT (List.mem_append_right _ (List.mem_of_getElem? (i := 389) (by decide +kernel))) rfl)
theorem wv_M2_isAllToldAt : Cond.instanceMethod M2_isAllToldAt.1 ∈ z_T := (z_inT (List.mem_append_right _ (List.mem_of_getElem? (i := 387) (by decide +kernel))) rfl)
theorem ws_M2_isAllToldAt : Cond.selects M2_isAllToldAt.1.cls M2_isAllToldAt.1 M2_isAllToldAt.1 ∈ z_T := (z_inT (List.mem_append_right _ (List.mem_of_getElem? (i := 388) (by decide +kernel))) rfl)
abbrev M7_balance : z_M := (⟨"RoadCounts", "balance", "(I)J"⟩, prog_1_method_14_code, 2, some FieldType.long)
theorem wc_M7_balance : Cond.code M7_balance.1 M7_balance.2.1 M7_balance.2.2.1 M7_balance.2.2.2 ∈ z_T := (z_inT (List.mem_append_right _ (List.mem_of_getElem? (i := 393) (by decide +kernel))) rfl)
theorem wv_M7_balance : Cond.instanceMethod M7_balance.1 ∈ z_T := (z_inT (List.mem_append_right _ (List.mem_of_getElem? (i := 391) (by decide +kernel))) rfl)
theorem ws_M7_balance : Cond.selects M7_balance.1.cls M7_balance.1 M7_balance.1 ∈ z_T := (z_inT (List.mem_append_right _ (List.mem_of_getElem? (i := 392) (by decide +kernel))) rfl)
abbrev M7_does : z_M := (⟨"RoadCounts", "does", "(I)I"⟩, prog_1_method_15_code, 2, some FieldType.int)
theorem wc_M7_does : Cond.code M7_does.1 M7_does.2.1 M7_does.2.2.1 M7_does.2.2.2 ∈ z_T := (z_inT (List.mem_append_right _ (List.mem_of_getElem? (i := 398) (by decide +kernel))) rfl)
theorem wv_M7_does : Cond.instanceMethod M7_does.1 ∈ z_T := (z_inT (List.mem_append_right _ (List.mem_of_getElem? (i := 396) (by decide +kernel))) rfl)
theorem ws_M7_does : Cond.selects M7_does.1.cls M7_does.1 M7_does.1 ∈ z_T := (z_inT (List.mem_append_right _ (List.mem_of_getElem? (i := 397) (by decide +kernel))) rfl)
abbrev M2_hasAll : z_M := (⟨"RoadCounts$Network", "hasAll", "(I)Z"⟩, prog_4_method_4_code, 2, some FieldType.boolean)
theorem wc_M2_hasAll : Cond.code M2_hasAll.1 M2_hasAll.2.1 M2_hasAll.2.2.1 M2_hasAll.2.2.2 ∈ z_T := (z_inT (List.mem_append_right _ (List.mem_of_getElem? (i := 402) (by decide +kernel))) rfl)
theorem wv_M2_hasAll : Cond.instanceMethod M2_hasAll.1 ∈ z_T := (z_inT (List.mem_append_right _ (List.mem_of_getElem? (i := 400) (by decide +kernel))) rfl)
theorem ws_M2_hasAll : Cond.selects M2_hasAll.1.cls M2_hasAll.1 M2_hasAll.1 ∈ z_T := (z_inT (List.mem_append_right _ (List.mem_of_getElem? (i := 401) (by decide +kernel))) rfl)
abbrev M2_isEnough : z_M := (⟨"RoadCounts$Network", "isEnough", "(I)Z"⟩, prog_4_method_11_code, 2, some FieldType.boolean)
theorem wc_M2_isEnough : Cond.code M2_isEnough.1 M2_isEnough.2.1 M2_isEnough.2.2.1 M2_isEnough.2.2.2 ∈ z_T := (z_inT (List.mem_append_right _ (List.mem_of_getElem? (i := 406) (by decide +kernel))) rfl)
theorem wv_M2_isEnough : Cond.instanceMethod M2_isEnough.1 ∈ z_T := (z_inT (List.mem_append_right _ (List.mem_of_getElem? (i := 404) (by decide +kernel))) rfl)
theorem ws_M2_isEnough : Cond.selects M2_isEnough.1.cls M2_isEnough.1 M2_isEnough.1 ∈ z_T := (z_inT (List.mem_append_right _ (List.mem_of_getElem? (i := 405) (by decide +kernel))) rfl)
abbrev M7_plan : z_M := (⟨"RoadCounts", "plan", "()I"⟩, prog_1_method_16_code, 1, some FieldType.int)
theorem wc_M7_plan : Cond.code M7_plan.1 M7_plan.2.1 M7_plan.2.2.1 M7_plan.2.2.2 ∈ z_T := (z_inT (List.mem_append_right _ (List.mem_of_getElem? (i := 410) (by decide +kernel))) rfl)
theorem wv_M7_plan : Cond.instanceMethod M7_plan.1 ∈ z_T := (z_inT (List.mem_append_right _ (List.mem_of_getElem? (i := 408) (by decide +kernel))) rfl)
theorem ws_M7_plan : Cond.selects M7_plan.1.cls M7_plan.1 M7_plan.1 ∈ z_T := (z_inT (List.mem_append_right _ (List.mem_of_getElem? (i := 409) (by decide +kernel))) rfl)
abbrev M2_cheapestEnough : z_M := (⟨"RoadCounts$Network", "cheapestEnough", "()I"⟩, prog_4_method_12_code, 5, some FieldType.int)
theorem wc_M2_cheapestEnough : Cond.code M2_cheapestEnough.1 M2_cheapestEnough.2.1 M2_cheapestEnough.2.2.1 M2_cheapestEnough.2.2.2 ∈ z_T := (z_inT (List.mem_append_right _ (List.mem_of_getElem? (i := 414) (by decide +kernel))) rfl)
theorem wv_M2_cheapestEnough : Cond.instanceMethod M2_cheapestEnough.1 ∈ z_T := (z_inT (List.mem_append_right _ (List.mem_of_getElem? (i := 412) (by decide +kernel))) rfl)
theorem ws_M2_cheapestEnough : Cond.selects M2_cheapestEnough.1.cls M2_cheapestEnough.1 M2_cheapestEnough.1 ∈ z_T := (z_inT (List.mem_append_right _ (List.mem_of_getElem? (i := 413) (by decide +kernel))) rfl)
abbrev M2_dearestOutside : z_M := (⟨"RoadCounts$Network", "dearestOutside", "(I)I"⟩, prog_4_method_13_code, 5, some FieldType.int)
theorem wc_M2_dearestOutside : Cond.code M2_dearestOutside.1 M2_dearestOutside.2.1 M2_dearestOutside.2.2.1 M2_dearestOutside.2.2.2 ∈ z_T := (z_inT (List.mem_append_right _ (List.mem_of_getElem? (i := 418) (by decide +kernel))) rfl)
theorem wv_M2_dearestOutside : Cond.instanceMethod M2_dearestOutside.1 ∈ z_T := (z_inT (List.mem_append_right _ (List.mem_of_getElem? (i := 417) (by decide +kernel))) rfl)
theorem ws_M2_dearestOutside : Cond.selects M2_dearestOutside.1.cls M2_dearestOutside.1 M2_dearestOutside.1 ∈ z_T := z_inT (List.mem_append_left _ (List.mem_of_getElem? (i := 6) (by decide +kernel))) rfl
abbrev M7_feed : z_M := (⟨"RoadCounts", "feed", "(IIIII)I"⟩, prog_1_method_17_code, 6, some FieldType.int)
theorem wc_M7_feed : Cond.code M7_feed.1 M7_feed.2.1 M7_feed.2.2.1 M7_feed.2.2.2 ∈ z_T := (z_inT (List.mem_append_right _ (List.mem_of_getElem? (i := 423) (by decide +kernel))) rfl)
theorem wv_M7_feed : Cond.instanceMethod M7_feed.1 ∈ z_T := (z_inT (List.mem_append_right _ (List.mem_of_getElem? (i := 421) (by decide +kernel))) rfl)
theorem ws_M7_feed : Cond.selects M7_feed.1.cls M7_feed.1 M7_feed.1 ∈ z_T := (z_inT (List.mem_append_right _ (List.mem_of_getElem? (i := 422) (by decide +kernel))) rfl)
abbrev M6_append : z_M := (⟨"RoadCounts$Tape", "append", "(I)V"⟩, prog_8_method_2_code, 3, none)
theorem wc_M6_append : Cond.code M6_append.1 M6_append.2.1 M6_append.2.2.1 M6_append.2.2.2 ∈ z_T := (z_inT (List.mem_append_right _ (List.mem_of_getElem? (i := 427) (by decide +kernel))) rfl)
theorem wv_M6_append : Cond.instanceMethod M6_append.1 ∈ z_T := (z_inT (List.mem_append_right _ (List.mem_of_getElem? (i := 425) (by decide +kernel))) rfl)
theorem ws_M6_append : Cond.selects M6_append.1.cls M6_append.1 M6_append.1 ∈ z_T := (z_inT (List.mem_append_right _ (List.mem_of_getElem? (i := 426) (by decide +kernel))) rfl)
abbrev M7_rules : z_M := (⟨"RoadCounts", "rules", "(I)I"⟩, prog_1_method_18_code, 4, some FieldType.int)
theorem wc_M7_rules : Cond.code M7_rules.1 M7_rules.2.1 M7_rules.2.2.1 M7_rules.2.2.2 ∈ z_T := (z_inT (List.mem_append_right _ (List.mem_of_getElem? (i := 431) (by decide +kernel))) rfl)
theorem wv_M7_rules : Cond.instanceMethod M7_rules.1 ∈ z_T := (z_inT (List.mem_append_right _ (List.mem_of_getElem? (i := 429) (by decide +kernel))) rfl)
theorem ws_M7_rules : Cond.selects M7_rules.1.cls M7_rules.1 M7_rules.1 ∈ z_T := (z_inT (List.mem_append_right _ (List.mem_of_getElem? (i := 430) (by decide +kernel))) rfl)
abbrev M5_read : z_M := (⟨"RoadCounts$RulesReader", "read", "(ILRoadCounts$Rules;)I"⟩, prog_7_method_2_code, 6, some FieldType.int)
theorem wc_M5_read : Cond.code M5_read.1 M5_read.2.1 M5_read.2.2.1 M5_read.2.2.2 ∈ z_T := (z_inT (List.mem_append_right _ (List.mem_of_getElem? (i := 435) (by decide +kernel))) rfl)
theorem wv_M5_read : Cond.instanceMethod M5_read.1 ∈ z_T := (z_inT (List.mem_append_right _ (List.mem_of_getElem? (i := 433) (by decide +kernel))) rfl)
theorem ws_M5_read : Cond.selects M5_read.1.cls M5_read.1 M5_read.1 ∈ z_T := (z_inT (List.mem_append_right _ (List.mem_of_getElem? (i := 434) (by decide +kernel))) rfl)
abbrev M5_readClause : z_M := (⟨"RoadCounts$RulesReader", "readClause", "(LRoadCounts$Rules;)I"⟩, prog_7_method_3_code, 3, some FieldType.int)
theorem wc_M5_readClause : Cond.code M5_readClause.1 M5_readClause.2.1 M5_readClause.2.2.1 M5_readClause.2.2.2 ∈ z_T := (z_inT (List.mem_append_right _ (List.mem_of_getElem? (i := 439) (by decide +kernel))) rfl)
theorem wv_M5_readClause : Cond.instanceMethod M5_readClause.1 ∈ z_T := (z_inT (List.mem_append_right _ (List.mem_of_getElem? (i := 438) (by decide +kernel))) rfl)
theorem ws_M5_readClause : Cond.selects M5_readClause.1.cls M5_readClause.1 M5_readClause.1 ∈ z_T := z_inT (List.mem_append_left _ (List.mem_of_getElem? (i := 7) (by decide +kernel))) rfl
abbrev M5_sign : z_M := (⟨"RoadCounts$RulesReader", "sign", "()I"⟩, prog_7_method_7_code, 1, some FieldType.int)
theorem wc_M5_sign : Cond.code M5_sign.1 M5_sign.2.1 M5_sign.2.2.1 M5_sign.2.2.2 ∈ z_T := (z_inT (List.mem_append_right _ (List.mem_of_getElem? (i := 443) (by decide +kernel))) rfl)
theorem wv_M5_sign : Cond.instanceMethod M5_sign.1 ∈ z_T := (z_inT (List.mem_append_right _ (List.mem_of_getElem? (i := 442) (by decide +kernel))) rfl)
theorem ws_M5_sign : Cond.selects M5_sign.1.cls M5_sign.1 M5_sign.1 ∈ z_T := z_inT (List.mem_append_left _ (List.mem_of_getElem? (i := 8) (by decide +kernel))) rfl
abbrev M6_at : z_M := (⟨"RoadCounts$Tape", "at", "(I)I"⟩, prog_8_method_3_code, 2, some FieldType.int)
theorem wc_M6_at : Cond.code M6_at.1 M6_at.2.1 M6_at.2.2.1 M6_at.2.2.2 ∈ z_T := (z_inT (List.mem_append_right _ (List.mem_of_getElem? (i := 447) (by decide +kernel))) rfl)
theorem wv_M6_at : Cond.instanceMethod M6_at.1 ∈ z_T := (z_inT (List.mem_append_right _ (List.mem_of_getElem? (i := 445) (by decide +kernel))) rfl)
theorem ws_M6_at : Cond.selects M6_at.1.cls M6_at.1 M6_at.1 ∈ z_T := (z_inT (List.mem_append_right _ (List.mem_of_getElem? (i := 446) (by decide +kernel))) rfl)
abbrev M5_isDigit : z_M := (⟨"RoadCounts$RulesReader", "isDigit", "(I)Z"⟩, prog_7_method_8_code, 1, some FieldType.boolean)
theorem wc_M5_isDigit : Cond.code M5_isDigit.1 M5_isDigit.2.1 M5_isDigit.2.2.1 M5_isDigit.2.2.2 ∈ z_T := (z_inT (List.mem_append_right _ (List.mem_of_getElem? (i := 450) (by decide +kernel))) rfl)
theorem wt_M5_isDigit : Cond.static M5_isDigit.1 ∈ z_T := (z_inT (List.mem_append_right _ (List.mem_of_getElem? (i := 449) (by decide +kernel))) rfl)
abbrev M4_addClause : z_M := (⟨"RoadCounts$Rules", "addClause", "(I)V"⟩, prog_6_method_2_code, 2, none)
theorem wc_M4_addClause : Cond.code M4_addClause.1 M4_addClause.2.1 M4_addClause.2.2.1 M4_addClause.2.2.2 ∈ z_T := (z_inT (List.mem_append_right _ (List.mem_of_getElem? (i := 454) (by decide +kernel))) rfl)
theorem wv_M4_addClause : Cond.instanceMethod M4_addClause.1 ∈ z_T := (z_inT (List.mem_append_right _ (List.mem_of_getElem? (i := 452) (by decide +kernel))) rfl)
theorem ws_M4_addClause : Cond.selects M4_addClause.1.cls M4_addClause.1 M4_addClause.1 ∈ z_T := (z_inT (List.mem_append_right _ (List.mem_of_getElem? (i := 453) (by decide +kernel))) rfl)
abbrev M5_readSpans : z_M := (⟨"RoadCounts$RulesReader", "readSpans", "(LRoadCounts$Rules;)I"⟩, prog_7_method_4_code, 5, some FieldType.int)
theorem wc_M5_readSpans : Cond.code M5_readSpans.1 M5_readSpans.2.1 M5_readSpans.2.2.1 M5_readSpans.2.2.2 ∈ z_T := (z_inT (List.mem_append_right _ (List.mem_of_getElem? (i := 458) (by decide +kernel))) rfl)
theorem wv_M5_readSpans : Cond.instanceMethod M5_readSpans.1 ∈ z_T := (z_inT (List.mem_append_right _ (List.mem_of_getElem? (i := 457) (by decide +kernel))) rfl)
theorem ws_M5_readSpans : Cond.selects M5_readSpans.1.cls M5_readSpans.1 M5_readSpans.1 ∈ z_T := z_inT (List.mem_append_left _ (List.mem_of_getElem? (i := 9) (by decide +kernel))) rfl
abbrev M5_readSpan : z_M := (⟨"RoadCounts$RulesReader", "readSpan", "(LRoadCounts$Rules;)I"⟩, prog_7_method_5_code, 4, some FieldType.int)
theorem wc_M5_readSpan : Cond.code M5_readSpan.1 M5_readSpan.2.1 M5_readSpan.2.2.1 M5_readSpan.2.2.2 ∈ z_T := (z_inT (List.mem_append_right _ (List.mem_of_getElem? (i := 462) (by decide +kernel))) rfl)
theorem wv_M5_readSpan : Cond.instanceMethod M5_readSpan.1 ∈ z_T := (z_inT (List.mem_append_right _ (List.mem_of_getElem? (i := 461) (by decide +kernel))) rfl)
theorem ws_M5_readSpan : Cond.selects M5_readSpan.1.cls M5_readSpan.1 M5_readSpan.1 ∈ z_T := z_inT (List.mem_append_left _ (List.mem_of_getElem? (i := 10) (by decide +kernel))) rfl
abbrev M5_readNumber : z_M := (⟨"RoadCounts$RulesReader", "readNumber", "(I)I"⟩, prog_7_method_6_code, 3, some FieldType.int)
theorem wc_M5_readNumber : Cond.code M5_readNumber.1 M5_readNumber.2.1 M5_readNumber.2.2.1 M5_readNumber.2.2.2 ∈ z_T := (z_inT (List.mem_append_right _ (List.mem_of_getElem? (i := 466) (by decide +kernel))) rfl)
theorem wv_M5_readNumber : Cond.instanceMethod M5_readNumber.1 ∈ z_T := (z_inT (List.mem_append_right _ (List.mem_of_getElem? (i := 465) (by decide +kernel))) rfl)
theorem ws_M5_readNumber : Cond.selects M5_readNumber.1.cls M5_readNumber.1 M5_readNumber.1 ∈ z_T := z_inT (List.mem_append_left _ (List.mem_of_getElem? (i := 11) (by decide +kernel))) rfl
abbrev M4_addSpanToLast : z_M := (⟨"RoadCounts$Rules", "addSpanToLast", "(II)V"⟩, prog_6_method_3_code, 5, none)
theorem wc_M4_addSpanToLast : Cond.code M4_addSpanToLast.1 M4_addSpanToLast.2.1 M4_addSpanToLast.2.2.1 M4_addSpanToLast.2.2.2 ∈ z_T := (z_inT (List.mem_append_right _ (List.mem_of_getElem? (i := 470) (by decide +kernel))) rfl)
theorem wv_M4_addSpanToLast : Cond.instanceMethod M4_addSpanToLast.1 ∈ z_T := (z_inT (List.mem_append_right _ (List.mem_of_getElem? (i := 468) (by decide +kernel))) rfl)
theorem ws_M4_addSpanToLast : Cond.selects M4_addSpanToLast.1.cls M4_addSpanToLast.1 M4_addSpanToLast.1 ∈ z_T := (z_inT (List.mem_append_right _ (List.mem_of_getElem? (i := 469) (by decide +kernel))) rfl)
abbrev M7_pass : z_M := (⟨"RoadCounts", "pass", "(II)I"⟩, prog_1_method_19_code, 7, some FieldType.int)
theorem wc_M7_pass : Cond.code M7_pass.1 M7_pass.2.1 M7_pass.2.2.1 M7_pass.2.2.2 ∈ z_T := (z_inT (List.mem_append_right _ (List.mem_of_getElem? (i := 474) (by decide +kernel))) rfl)
theorem wv_M7_pass : Cond.instanceMethod M7_pass.1 ∈ z_T := (z_inT (List.mem_append_right _ (List.mem_of_getElem? (i := 472) (by decide +kernel))) rfl)
theorem ws_M7_pass : Cond.selects M7_pass.1.cls M7_pass.1 M7_pass.1 ∈ z_T := (z_inT (List.mem_append_right _ (List.mem_of_getElem? (i := 473) (by decide +kernel))) rfl)
abbrev M4_kindOf : z_M := (⟨"RoadCounts$Rules", "kindOf", "(LRoadCounts$Tape;II)I"⟩, prog_6_method_4_code, 5, some FieldType.int)
theorem wc_M4_kindOf : Cond.code M4_kindOf.1 M4_kindOf.2.1 M4_kindOf.2.2.1 M4_kindOf.2.2.2 ∈ z_T := (z_inT (List.mem_append_right _ (List.mem_of_getElem? (i := 479) (by decide +kernel))) rfl)
theorem wv_M4_kindOf : Cond.instanceMethod M4_kindOf.1 ∈ z_T := (z_inT (List.mem_append_right _ (List.mem_of_getElem? (i := 477) (by decide +kernel))) rfl)
theorem ws_M4_kindOf : Cond.selects M4_kindOf.1.cls M4_kindOf.1 M4_kindOf.1 ∈ z_T := (z_inT (List.mem_append_right _ (List.mem_of_getElem? (i := 478) (by decide +kernel))) rfl)
abbrev M4_isWithin : z_M := (⟨"RoadCounts$Rules", "isWithin", "(ILRoadCounts$Tape;I)Z"⟩, prog_6_method_5_code, 6, some FieldType.boolean)
theorem wc_M4_isWithin : Cond.code M4_isWithin.1 M4_isWithin.2.1 M4_isWithin.2.2.1 M4_isWithin.2.2.2 ∈ z_T := (z_inT (List.mem_append_right _ (List.mem_of_getElem? (i := 483) (by decide +kernel))) rfl)
theorem wv_M4_isWithin : Cond.instanceMethod M4_isWithin.1 ∈ z_T := (z_inT (List.mem_append_right _ (List.mem_of_getElem? (i := 482) (by decide +kernel))) rfl)
theorem ws_M4_isWithin : Cond.selects M4_isWithin.1.cls M4_isWithin.1 M4_isWithin.1 ∈ z_T := z_inT (List.mem_append_left _ (List.mem_of_getElem? (i := 12) (by decide +kernel))) rfl
abbrev M7_kinds : z_M := (⟨"RoadCounts", "kinds", "(II)I"⟩, prog_1_method_20_code, 4, some FieldType.int)
theorem wc_M7_kinds : Cond.code M7_kinds.1 M7_kinds.2.1 M7_kinds.2.2.1 M7_kinds.2.2.2 ∈ z_T := (z_inT (List.mem_append_right _ (List.mem_of_getElem? (i := 488) (by decide +kernel))) rfl)
theorem wv_M7_kinds : Cond.instanceMethod M7_kinds.1 ∈ z_T := (z_inT (List.mem_append_right _ (List.mem_of_getElem? (i := 486) (by decide +kernel))) rfl)
theorem ws_M7_kinds : Cond.selects M7_kinds.1.cls M7_kinds.1 M7_kinds.1 ∈ z_T := (z_inT (List.mem_append_right _ (List.mem_of_getElem? (i := 487) (by decide +kernel))) rfl)
abbrev M7_whole : z_M := (⟨"RoadCounts", "whole", "(I)J"⟩, prog_1_method_21_code, 2, some FieldType.long)
theorem wc_M7_whole : Cond.code M7_whole.1 M7_whole.2.1 M7_whole.2.2.1 M7_whole.2.2.2 ∈ z_T := (z_inT (List.mem_append_right _ (List.mem_of_getElem? (i := 492) (by decide +kernel))) rfl)
theorem wv_M7_whole : Cond.instanceMethod M7_whole.1 ∈ z_T := (z_inT (List.mem_append_right _ (List.mem_of_getElem? (i := 490) (by decide +kernel))) rfl)
theorem ws_M7_whole : Cond.selects M7_whole.1.cls M7_whole.1 M7_whole.1 ∈ z_T := (z_inT (List.mem_append_right _ (List.mem_of_getElem? (i := 491) (by decide +kernel))) rfl)
abbrev M7_look : z_M := (⟨"RoadCounts", "look", "(II)I"⟩, prog_1_method_22_code, 4, some FieldType.int)
theorem wc_M7_look : Cond.code M7_look.1 M7_look.2.1 M7_look.2.2.1 M7_look.2.2.2 ∈ z_T := (z_inT (List.mem_append_right _ (List.mem_of_getElem? (i := 497) (by decide +kernel))) rfl)
theorem wv_M7_look : Cond.instanceMethod M7_look.1 ∈ z_T := (z_inT (List.mem_append_right _ (List.mem_of_getElem? (i := 495) (by decide +kernel))) rfl)
theorem ws_M7_look : Cond.selects M7_look.1.cls M7_look.1 M7_look.1 ∈ z_T := (z_inT (List.mem_append_right _ (List.mem_of_getElem? (i := 496) (by decide +kernel))) rfl)
abbrev M1_on : z_M := (⟨"RoadCounts$Counts", "on", "(I)I"⟩, prog_3_method_3_code, 3, some FieldType.int)
theorem wc_M1_on : Cond.code M1_on.1 M1_on.2.1 M1_on.2.2.1 M1_on.2.2.2 ∈ z_T := (z_inT (List.mem_append_right _ (List.mem_of_getElem? (i := 502) (by decide +kernel))) rfl)
theorem wv_M1_on : Cond.instanceMethod M1_on.1 ∈ z_T := (z_inT (List.mem_append_right _ (List.mem_of_getElem? (i := 500) (by decide +kernel))) rfl)
theorem ws_M1_on : Cond.selects M1_on.1.cls M1_on.1 M1_on.1 ∈ z_T := (z_inT (List.mem_append_right _ (List.mem_of_getElem? (i := 501) (by decide +kernel))) rfl)
abbrev M7_tell : z_M := (⟨"RoadCounts", "tell", "(I)I"⟩, prog_1_method_23_code, 2, some FieldType.int)
theorem wc_M7_tell : Cond.code M7_tell.1 M7_tell.2.1 M7_tell.2.2.1 M7_tell.2.2.2 ∈ z_T := (z_inT (List.mem_append_right _ (List.mem_of_getElem? (i := 506) (by decide +kernel))) rfl)
theorem wv_M7_tell : Cond.instanceMethod M7_tell.1 ∈ z_T := (z_inT (List.mem_append_right _ (List.mem_of_getElem? (i := 504) (by decide +kernel))) rfl)
theorem ws_M7_tell : Cond.selects M7_tell.1.cls M7_tell.1 M7_tell.1 ∈ z_T := (z_inT (List.mem_append_right _ (List.mem_of_getElem? (i := 505) (by decide +kernel))) rfl)
abbrev M8_init : z_M := (⟨"RoadCountsModel", "<init>", "()V"⟩, prog_10_method_1_code, 2, none)
theorem wc_M8_init : Cond.code M8_init.1 M8_init.2.1 M8_init.2.2.1 M8_init.2.2.2 ∈ z_T := (z_inT (List.mem_append_right _ (List.mem_of_getElem? (i := 512) (by decide +kernel))) rfl)
theorem wv_M8_init : Cond.instanceMethod M8_init.1 ∈ z_T := (z_inT (List.mem_append_right _ (List.mem_of_getElem? (i := 511) (by decide +kernel))) rfl)
abbrev M8_weekday : z_M := (⟨"RoadCountsModel", "weekday", "(III)Z"⟩, prog_10_method_8_code, 4, some FieldType.boolean)
theorem wc_M8_weekday : Cond.code M8_weekday.1 M8_weekday.2.1 M8_weekday.2.2.1 M8_weekday.2.2.2 ∈ z_T := (z_inT (List.mem_append_right _ (List.mem_of_getElem? (i := 600) (by decide +kernel))) rfl)
theorem wv_M8_weekday : Cond.instanceMethod M8_weekday.1 ∈ z_T := (z_inT (List.mem_append_right _ (List.mem_of_getElem? (i := 598) (by decide +kernel))) rfl)
theorem ws_M8_weekday : Cond.selects M8_weekday.1.cls M8_weekday.1 M8_weekday.1 ∈ z_T := (z_inT (List.mem_append_right _ (List.mem_of_getElem? (i := 599) (by decide +kernel))) rfl)
abbrev M8_isShape : z_M := (⟨"RoadCountsModel", "isShape", "(I)Z"⟩, prog_10_method_4_code, 1, some FieldType.boolean)
theorem wc_M8_isShape : Cond.code M8_isShape.1 M8_isShape.2.1 M8_isShape.2.2.1 M8_isShape.2.2.2 ∈ z_T := (z_inT (List.mem_append_right _ (List.mem_of_getElem? (i := 603) (by decide +kernel))) rfl)
theorem wt_M8_isShape : Cond.static M8_isShape.1 ∈ z_T := (z_inT (List.mem_append_right _ (List.mem_of_getElem? (i := 602) (by decide +kernel))) rfl)
abbrev M8_lies : z_M := (⟨"RoadCountsModel", "lies", "(JJJ)Z"⟩, prog_10_method_2_code, 6, some FieldType.boolean)
theorem wc_M8_lies : Cond.code M8_lies.1 M8_lies.2.1 M8_lies.2.2.1 M8_lies.2.2.2 ∈ z_T := (z_inT (List.mem_append_right _ (List.mem_of_getElem? (i := 607) (by decide +kernel))) rfl)
theorem wt_M8_lies : Cond.static M8_lies.1 ∈ z_T := (z_inT (List.mem_append_right _ (List.mem_of_getElem? (i := 606) (by decide +kernel))) rfl)
abbrev M8_month : z_M := (⟨"RoadCountsModel", "month", "(III)Z"⟩, prog_10_method_9_code, 4, some FieldType.boolean)
theorem wc_M8_month : Cond.code M8_month.1 M8_month.2.1 M8_month.2.2.1 M8_month.2.2.2 ∈ z_T := (z_inT (List.mem_append_right _ (List.mem_of_getElem? (i := 613) (by decide +kernel))) rfl)
theorem wv_M8_month : Cond.instanceMethod M8_month.1 ∈ z_T := (z_inT (List.mem_append_right _ (List.mem_of_getElem? (i := 611) (by decide +kernel))) rfl)
theorem ws_M8_month : Cond.selects M8_month.1.cls M8_month.1 M8_month.1 ∈ z_T := (z_inT (List.mem_append_right _ (List.mem_of_getElem? (i := 612) (by decide +kernel))) rfl)
abbrev M8_holiday : z_M := (⟨"RoadCountsModel", "holiday", "(I)Z"⟩, prog_10_method_10_code, 2, some FieldType.boolean)
theorem wc_M8_holiday : Cond.code M8_holiday.1 M8_holiday.2.1 M8_holiday.2.2.1 M8_holiday.2.2.2 ∈ z_T := (z_inT (List.mem_append_right _ (List.mem_of_getElem? (i := 618) (by decide +kernel))) rfl)
theorem wv_M8_holiday : Cond.instanceMethod M8_holiday.1 ∈ z_T := (z_inT (List.mem_append_right _ (List.mem_of_getElem? (i := 616) (by decide +kernel))) rfl)
theorem ws_M8_holiday : Cond.selects M8_holiday.1.cls M8_holiday.1 M8_holiday.1 ∈ z_T := (z_inT (List.mem_append_right _ (List.mem_of_getElem? (i := 617) (by decide +kernel))) rfl)
abbrev M8_whole : z_M := (⟨"RoadCountsModel", "whole", "(I)J"⟩, prog_10_method_13_code, 2, some FieldType.long)
theorem wc_M8_whole : Cond.code M8_whole.1 M8_whole.2.1 M8_whole.2.2.1 M8_whole.2.2.2 ∈ z_T := (z_inT (List.mem_append_right _ (List.mem_of_getElem? (i := 623) (by decide +kernel))) rfl)
theorem wv_M8_whole : Cond.instanceMethod M8_whole.1 ∈ z_T := (z_inT (List.mem_append_right _ (List.mem_of_getElem? (i := 621) (by decide +kernel))) rfl)
theorem ws_M8_whole : Cond.selects M8_whole.1.cls M8_whole.1 M8_whole.1 ∈ z_T := (z_inT (List.mem_append_right _ (List.mem_of_getElem? (i := 622) (by decide +kernel))) rfl)
abbrev M8_wholeOf : z_M := (⟨"RoadCountsModel", "wholeOf", "(I)J"⟩, prog_10_method_12_code, 5, some FieldType.long)
theorem wc_M8_wholeOf : Cond.code M8_wholeOf.1 M8_wholeOf.2.1 M8_wholeOf.2.2.1 M8_wholeOf.2.2.2 ∈ z_T := (z_inT (List.mem_append_right _ (List.mem_of_getElem? (i := 627) (by decide +kernel))) rfl)
theorem wv_M8_wholeOf : Cond.instanceMethod M8_wholeOf.1 ∈ z_T := (z_inT (List.mem_append_right _ (List.mem_of_getElem? (i := 626) (by decide +kernel))) rfl)
theorem ws_M8_wholeOf : Cond.selects M8_wholeOf.1.cls M8_wholeOf.1 M8_wholeOf.1 ∈ z_T := z_inT (List.mem_append_left _ (List.mem_of_getElem? (i := 13) (by decide +kernel))) rfl
abbrev M8_share : z_M := (⟨"RoadCountsModel", "share", "(II)J"⟩, prog_10_method_11_code, 3, some FieldType.long)
theorem wc_M8_share : Cond.code M8_share.1 M8_share.2.1 M8_share.2.2.1 M8_share.2.2.2 ∈ z_T := (z_inT (List.mem_append_right _ (List.mem_of_getElem? (i := 631) (by decide +kernel))) rfl)
theorem wv_M8_share : Cond.instanceMethod M8_share.1 ∈ z_T := (z_inT (List.mem_append_right _ (List.mem_of_getElem? (i := 630) (by decide +kernel))) rfl)
theorem ws_M8_share : Cond.selects M8_share.1.cls M8_share.1 M8_share.1 ∈ z_T := z_inT (List.mem_append_left _ (List.mem_of_getElem? (i := 14) (by decide +kernel))) rfl
abbrev M8_road : z_M := (⟨"RoadCountsModel", "road", "(III)I"⟩, prog_10_method_15_code, 4, some FieldType.int)
theorem wc_M8_road : Cond.code M8_road.1 M8_road.2.1 M8_road.2.2.1 M8_road.2.2.2 ∈ z_T := (z_inT (List.mem_append_right _ (List.mem_of_getElem? (i := 636) (by decide +kernel))) rfl)
theorem wv_M8_road : Cond.instanceMethod M8_road.1 ∈ z_T := (z_inT (List.mem_append_right _ (List.mem_of_getElem? (i := 634) (by decide +kernel))) rfl)
theorem ws_M8_road : Cond.selects M8_road.1.cls M8_road.1 M8_road.1 ∈ z_T := (z_inT (List.mem_append_right _ (List.mem_of_getElem? (i := 635) (by decide +kernel))) rfl)
abbrev M8_isEnd : z_M := (⟨"RoadCountsModel", "isEnd", "(I)Z"⟩, prog_10_method_14_code, 1, some FieldType.boolean)
theorem wc_M8_isEnd : Cond.code M8_isEnd.1 M8_isEnd.2.1 M8_isEnd.2.2.1 M8_isEnd.2.2.2 ∈ z_T := (z_inT (List.mem_append_right _ (List.mem_of_getElem? (i := 639) (by decide +kernel))) rfl)
theorem wt_M8_isEnd : Cond.static M8_isEnd.1 ∈ z_T := (z_inT (List.mem_append_right _ (List.mem_of_getElem? (i := 638) (by decide +kernel))) rfl)
abbrev M8_shape : z_M := (⟨"RoadCountsModel", "shape", "(II)Z"⟩, prog_10_method_16_code, 3, some FieldType.boolean)
theorem wc_M8_shape : Cond.code M8_shape.1 M8_shape.2.1 M8_shape.2.2.1 M8_shape.2.2.2 ∈ z_T := (z_inT (List.mem_append_right _ (List.mem_of_getElem? (i := 645) (by decide +kernel))) rfl)
theorem wv_M8_shape : Cond.instanceMethod M8_shape.1 ∈ z_T := (z_inT (List.mem_append_right _ (List.mem_of_getElem? (i := 643) (by decide +kernel))) rfl)
theorem ws_M8_shape : Cond.selects M8_shape.1.cls M8_shape.1 M8_shape.1 ∈ z_T := (z_inT (List.mem_append_right _ (List.mem_of_getElem? (i := 644) (by decide +kernel))) rfl)
abbrev M8_isRoad : z_M := (⟨"RoadCountsModel", "isRoad", "(I)Z"⟩, prog_10_method_3_code, 2, some FieldType.boolean)
theorem wc_M8_isRoad : Cond.code M8_isRoad.1 M8_isRoad.2.1 M8_isRoad.2.2.1 M8_isRoad.2.2.2 ∈ z_T := (z_inT (List.mem_append_right _ (List.mem_of_getElem? (i := 649) (by decide +kernel))) rfl)
theorem wv_M8_isRoad : Cond.instanceMethod M8_isRoad.1 ∈ z_T := (z_inT (List.mem_append_right _ (List.mem_of_getElem? (i := 648) (by decide +kernel))) rfl)
theorem ws_M8_isRoad : Cond.selects M8_isRoad.1.cls M8_isRoad.1 M8_isRoad.1 ∈ z_T := z_inT (List.mem_append_left _ (List.mem_of_getElem? (i := 15) (by decide +kernel))) rfl
abbrev M8_count : z_M := (⟨"RoadCountsModel", "count", "(III)Z"⟩, prog_10_method_17_code, 4, some FieldType.boolean)
theorem wc_M8_count : Cond.code M8_count.1 M8_count.2.1 M8_count.2.2.1 M8_count.2.2.2 ∈ z_T := (z_inT (List.mem_append_right _ (List.mem_of_getElem? (i := 653) (by decide +kernel))) rfl)
theorem wv_M8_count : Cond.instanceMethod M8_count.1 ∈ z_T := (z_inT (List.mem_append_right _ (List.mem_of_getElem? (i := 651) (by decide +kernel))) rfl)
theorem ws_M8_count : Cond.selects M8_count.1.cls M8_count.1 M8_count.1 ∈ z_T := (z_inT (List.mem_append_right _ (List.mem_of_getElem? (i := 652) (by decide +kernel))) rfl)
abbrev M8_year : z_M := (⟨"RoadCountsModel", "year", "(I)J"⟩, prog_10_method_23_code, 2, some FieldType.long)
theorem wc_M8_year : Cond.code M8_year.1 M8_year.2.1 M8_year.2.2.1 M8_year.2.2.2 ∈ z_T := (z_inT (List.mem_append_right _ (List.mem_of_getElem? (i := 658) (by decide +kernel))) rfl)
theorem wv_M8_year : Cond.instanceMethod M8_year.1 ∈ z_T := (z_inT (List.mem_append_right _ (List.mem_of_getElem? (i := 656) (by decide +kernel))) rfl)
theorem ws_M8_year : Cond.selects M8_year.1.cls M8_year.1 M8_year.1 ∈ z_T := (z_inT (List.mem_append_right _ (List.mem_of_getElem? (i := 657) (by decide +kernel))) rfl)
abbrev M8_usedOf : z_M := (⟨"RoadCountsModel", "usedOf", "(I)I"⟩, prog_10_method_19_code, 4, some FieldType.int)
theorem wc_M8_usedOf : Cond.code M8_usedOf.1 M8_usedOf.2.1 M8_usedOf.2.2.1 M8_usedOf.2.2.2 ∈ z_T := (z_inT (List.mem_append_right _ (List.mem_of_getElem? (i := 662) (by decide +kernel))) rfl)
theorem wv_M8_usedOf : Cond.instanceMethod M8_usedOf.1 ∈ z_T := (z_inT (List.mem_append_right _ (List.mem_of_getElem? (i := 661) (by decide +kernel))) rfl)
theorem ws_M8_usedOf : Cond.selects M8_usedOf.1.cls M8_usedOf.1 M8_usedOf.1 ∈ z_T := z_inT (List.mem_append_left _ (List.mem_of_getElem? (i := 16) (by decide +kernel))) rfl
abbrev M8_isUsed : z_M := (⟨"RoadCountsModel", "isUsed", "(II)Z"⟩, prog_10_method_18_code, 3, some FieldType.boolean)
theorem wc_M8_isUsed : Cond.code M8_isUsed.1 M8_isUsed.2.1 M8_isUsed.2.2.1 M8_isUsed.2.2.2 ∈ z_T := (z_inT (List.mem_append_right _ (List.mem_of_getElem? (i := 666) (by decide +kernel))) rfl)
theorem wv_M8_isUsed : Cond.instanceMethod M8_isUsed.1 ∈ z_T := (z_inT (List.mem_append_right _ (List.mem_of_getElem? (i := 665) (by decide +kernel))) rfl)
theorem ws_M8_isUsed : Cond.selects M8_isUsed.1.cls M8_isUsed.1 M8_isUsed.1 ∈ z_T := z_inT (List.mem_append_left _ (List.mem_of_getElem? (i := 17) (by decide +kernel))) rfl
abbrev M8_yearOf : z_M := (⟨"RoadCountsModel", "yearOf", "(I)J"⟩, prog_10_method_22_code, 2, some FieldType.long)
theorem wc_M8_yearOf : Cond.code M8_yearOf.1 M8_yearOf.2.1 M8_yearOf.2.2.1 M8_yearOf.2.2.2 ∈ z_T := (z_inT (List.mem_append_right _ (List.mem_of_getElem? (i := 670) (by decide +kernel))) rfl)
theorem wv_M8_yearOf : Cond.instanceMethod M8_yearOf.1 ∈ z_T := (z_inT (List.mem_append_right _ (List.mem_of_getElem? (i := 669) (by decide +kernel))) rfl)
theorem ws_M8_yearOf : Cond.selects M8_yearOf.1.cls M8_yearOf.1 M8_yearOf.1 ∈ z_T := z_inT (List.mem_append_left _ (List.mem_of_getElem? (i := 18) (by decide +kernel))) rfl
abbrev M8_countsOf : z_M := (⟨"RoadCountsModel", "countsOf", "(I)J"⟩, prog_10_method_20_code, 5, some FieldType.long)
theorem wc_M8_countsOf : Cond.code M8_countsOf.1 M8_countsOf.2.1 M8_countsOf.2.2.1 M8_countsOf.2.2.2 ∈ z_T := (z_inT (List.mem_append_right _ (List.mem_of_getElem? (i := 674) (by decide +kernel))) rfl)
theorem wv_M8_countsOf : Cond.instanceMethod M8_countsOf.1 ∈ z_T := (z_inT (List.mem_append_right _ (List.mem_of_getElem? (i := 673) (by decide +kernel))) rfl)
theorem ws_M8_countsOf : Cond.selects M8_countsOf.1.cls M8_countsOf.1 M8_countsOf.1 ∈ z_T := z_inT (List.mem_append_left _ (List.mem_of_getElem? (i := 19) (by decide +kernel))) rfl
abbrev M8_sharesOf : z_M := (⟨"RoadCountsModel", "sharesOf", "(II)J"⟩, prog_10_method_21_code, 6, some FieldType.long)
theorem wc_M8_sharesOf : Cond.code M8_sharesOf.1 M8_sharesOf.2.1 M8_sharesOf.2.2.1 M8_sharesOf.2.2.2 ∈ z_T := (z_inT (List.mem_append_right _ (List.mem_of_getElem? (i := 678) (by decide +kernel))) rfl)
theorem wv_M8_sharesOf : Cond.instanceMethod M8_sharesOf.1 ∈ z_T := (z_inT (List.mem_append_right _ (List.mem_of_getElem? (i := 677) (by decide +kernel))) rfl)
theorem ws_M8_sharesOf : Cond.selects M8_sharesOf.1.cls M8_sharesOf.1 M8_sharesOf.1 ∈ z_T := z_inT (List.mem_append_left _ (List.mem_of_getElem? (i := 20) (by decide +kernel))) rfl
abbrev M8_span : z_M := (⟨"RoadCountsModel", "span", "(II)J"⟩, prog_10_method_24_code, 8, some FieldType.long)
theorem wc_M8_span : Cond.code M8_span.1 M8_span.2.1 M8_span.2.2.1 M8_span.2.2.2 ∈ z_T := (z_inT (List.mem_append_right _ (List.mem_of_getElem? (i := 682) (by decide +kernel))) rfl)
theorem wv_M8_span : Cond.instanceMethod M8_span.1 ∈ z_T := (z_inT (List.mem_append_right _ (List.mem_of_getElem? (i := 680) (by decide +kernel))) rfl)
theorem ws_M8_span : Cond.selects M8_span.1.cls M8_span.1 M8_span.1 ∈ z_T := (z_inT (List.mem_append_right _ (List.mem_of_getElem? (i := 681) (by decide +kernel))) rfl)
abbrev M8_best : z_M := (⟨"RoadCountsModel", "best", "(I)I"⟩, prog_10_method_26_code, 4, some FieldType.int)
theorem wc_M8_best : Cond.code M8_best.1 M8_best.2.1 M8_best.2.2.1 M8_best.2.2.2 ∈ z_T := (z_inT (List.mem_append_right _ (List.mem_of_getElem? (i := 686) (by decide +kernel))) rfl)
theorem wv_M8_best : Cond.instanceMethod M8_best.1 ∈ z_T := (z_inT (List.mem_append_right _ (List.mem_of_getElem? (i := 684) (by decide +kernel))) rfl)
theorem ws_M8_best : Cond.selects M8_best.1.cls M8_best.1 M8_best.1 ∈ z_T := (z_inT (List.mem_append_right _ (List.mem_of_getElem? (i := 685) (by decide +kernel))) rfl)
abbrev M8_misfit : z_M := (⟨"RoadCountsModel", "misfit", "(II)J"⟩, prog_10_method_25_code, 10, some FieldType.long)
theorem wc_M8_misfit : Cond.code M8_misfit.1 M8_misfit.2.1 M8_misfit.2.2.1 M8_misfit.2.2.2 ∈ z_T := (z_inT (List.mem_append_right _ (List.mem_of_getElem? (i := 690) (by decide +kernel))) rfl)
theorem wv_M8_misfit : Cond.instanceMethod M8_misfit.1 ∈ z_T := (z_inT (List.mem_append_right _ (List.mem_of_getElem? (i := 689) (by decide +kernel))) rfl)
theorem ws_M8_misfit : Cond.selects M8_misfit.1.cls M8_misfit.1 M8_misfit.1 ∈ z_T := z_inT (List.mem_append_left _ (List.mem_of_getElem? (i := 21) (by decide +kernel))) rfl
abbrev M8_size : z_M := (⟨"RoadCountsModel", "size", "(J)J"⟩, prog_10_method_6_code, 2, some FieldType.long)
theorem wc_M8_size : Cond.code M8_size.1 M8_size.2.1 M8_size.2.2.1 M8_size.2.2.2 ∈ z_T := (z_inT (List.mem_append_right _ (List.mem_of_getElem? (i := 693) (by decide +kernel))) rfl)
theorem wt_M8_size : Cond.static M8_size.1 ∈ z_T := (z_inT (List.mem_append_right _ (List.mem_of_getElem? (i := 692) (by decide +kernel))) rfl)
abbrev M8_how : z_M := (⟨"RoadCountsModel", "how", "(I)I"⟩, prog_10_method_32_code, 2, some FieldType.int)
theorem wc_M8_how : Cond.code M8_how.1 M8_how.2.1 M8_how.2.2.1 M8_how.2.2.2 ∈ z_T := (z_inT (List.mem_append_right _ (List.mem_of_getElem? (i := 697) (by decide +kernel))) rfl)
theorem wv_M8_how : Cond.instanceMethod M8_how.1 ∈ z_T := (z_inT (List.mem_append_right _ (List.mem_of_getElem? (i := 695) (by decide +kernel))) rfl)
theorem ws_M8_how : Cond.selects M8_how.1.cls M8_how.1 M8_how.1 ∈ z_T := (z_inT (List.mem_append_right _ (List.mem_of_getElem? (i := 696) (by decide +kernel))) rfl)
abbrev M8_knownRoads : z_M := (⟨"RoadCountsModel", "knownRoads", "()I"⟩, prog_10_method_28_code, 3, some FieldType.int)
theorem wc_M8_knownRoads : Cond.code M8_knownRoads.1 M8_knownRoads.2.1 M8_knownRoads.2.2.1 M8_knownRoads.2.2.2 ∈ z_T := (z_inT (List.mem_append_right _ (List.mem_of_getElem? (i := 701) (by decide +kernel))) rfl)
theorem wv_M8_knownRoads : Cond.instanceMethod M8_knownRoads.1 ∈ z_T := (z_inT (List.mem_append_right _ (List.mem_of_getElem? (i := 700) (by decide +kernel))) rfl)
theorem ws_M8_knownRoads : Cond.selects M8_knownRoads.1.cls M8_knownRoads.1 M8_knownRoads.1 ∈ z_T := z_inT (List.mem_append_left _ (List.mem_of_getElem? (i := 22) (by decide +kernel))) rfl
abbrev M8_has : z_M := (⟨"RoadCountsModel", "has", "(II)Z"⟩, prog_10_method_5_code, 2, some FieldType.boolean)
theorem wc_M8_has : Cond.code M8_has.1 M8_has.2.1 M8_has.2.2.1 M8_has.2.2.2 ∈ z_T := (z_inT (List.mem_append_right _ (List.mem_of_getElem? (i := 704) (by decide +kernel))) rfl)
theorem wt_M8_has : Cond.static M8_has.1 ∈ z_T := (z_inT (List.mem_append_right _ (List.mem_of_getElem? (i := 703) (by decide +kernel))) rfl)
abbrev M8_works : z_M := (⟨"RoadCountsModel", "works", "()I"⟩, prog_10_method_31_code, 3, some FieldType.int)
theorem wc_M8_works : Cond.code M8_works.1 M8_works.2.1 M8_works.2.2.1 M8_works.2.2.2 ∈ z_T := (z_inT (List.mem_append_right _ (List.mem_of_getElem? (i := 708) (by decide +kernel))) rfl)
theorem wv_M8_works : Cond.instanceMethod M8_works.1 ∈ z_T := (z_inT (List.mem_append_right _ (List.mem_of_getElem? (i := 707) (by decide +kernel))) rfl)
theorem ws_M8_works : Cond.selects M8_works.1.cls M8_works.1 M8_works.1 ∈ z_T := z_inT (List.mem_append_left _ (List.mem_of_getElem? (i := 23) (by decide +kernel))) rfl
abbrev M8_grows : z_M := (⟨"RoadCountsModel", "grows", "(I)I"⟩, prog_10_method_30_code, 7, some FieldType.int)
theorem wc_M8_grows : Cond.code M8_grows.1 M8_grows.2.1 M8_grows.2.2.1 M8_grows.2.2.2 ∈ z_T := (z_inT (List.mem_append_right _ (List.mem_of_getElem? (i := 712) (by decide +kernel))) rfl)
theorem wv_M8_grows : Cond.instanceMethod M8_grows.1 ∈ z_T := (z_inT (List.mem_append_right _ (List.mem_of_getElem? (i := 711) (by decide +kernel))) rfl)
theorem ws_M8_grows : Cond.selects M8_grows.1.cls M8_grows.1 M8_grows.1 ∈ z_T := z_inT (List.mem_append_left _ (List.mem_of_getElem? (i := 24) (by decide +kernel))) rfl
abbrev M8_roadsAt : z_M := (⟨"RoadCountsModel", "roadsAt", "(I)I"⟩, prog_10_method_27_code, 4, some FieldType.int)
theorem wc_M8_roadsAt : Cond.code M8_roadsAt.1 M8_roadsAt.2.1 M8_roadsAt.2.2.1 M8_roadsAt.2.2.2 ∈ z_T := (z_inT (List.mem_append_right _ (List.mem_of_getElem? (i := 716) (by decide +kernel))) rfl)
theorem wv_M8_roadsAt : Cond.instanceMethod M8_roadsAt.1 ∈ z_T := (z_inT (List.mem_append_right _ (List.mem_of_getElem? (i := 715) (by decide +kernel))) rfl)
theorem ws_M8_roadsAt : Cond.selects M8_roadsAt.1.cls M8_roadsAt.1 M8_roadsAt.1 ∈ z_T := z_inT (List.mem_append_left _ (List.mem_of_getElem? (i := 25) (by decide +kernel))) rfl
abbrev M8_sizeOf : z_M := (⟨"RoadCountsModel", "sizeOf", "(I)I"⟩, prog_10_method_7_code, 3, some FieldType.int)
theorem wc_M8_sizeOf : Cond.code M8_sizeOf.1 M8_sizeOf.2.1 M8_sizeOf.2.2.1 M8_sizeOf.2.2.2 ∈ z_T := (z_inT (List.mem_append_right _ (List.mem_of_getElem? (i := 719) (by decide +kernel))) rfl)
theorem wt_M8_sizeOf : Cond.static M8_sizeOf.1 ∈ z_T := (z_inT (List.mem_append_right _ (List.mem_of_getElem? (i := 718) (by decide +kernel))) rfl)
abbrev M8_excess : z_M := (⟨"RoadCountsModel", "excess", "(II)J"⟩, prog_10_method_29_code, 6, some FieldType.long)
theorem wc_M8_excess : Cond.code M8_excess.1 M8_excess.2.1 M8_excess.2.2.1 M8_excess.2.2.2 ∈ z_T := (z_inT (List.mem_append_right _ (List.mem_of_getElem? (i := 723) (by decide +kernel))) rfl)
theorem wv_M8_excess : Cond.instanceMethod M8_excess.1 ∈ z_T := (z_inT (List.mem_append_right _ (List.mem_of_getElem? (i := 722) (by decide +kernel))) rfl)
theorem ws_M8_excess : Cond.selects M8_excess.1.cls M8_excess.1 M8_excess.1 ∈ z_T := z_inT (List.mem_append_left _ (List.mem_of_getElem? (i := 26) (by decide +kernel))) rfl
abbrev M8_load : z_M := (⟨"RoadCountsModel", "load", "(I)J"⟩, prog_10_method_33_code, 2, some FieldType.long)
theorem wc_M8_load : Cond.code M8_load.1 M8_load.2.1 M8_load.2.2.1 M8_load.2.2.2 ∈ z_T := (z_inT (List.mem_append_right _ (List.mem_of_getElem? (i := 727) (by decide +kernel))) rfl)
theorem wv_M8_load : Cond.instanceMethod M8_load.1 ∈ z_T := (z_inT (List.mem_append_right _ (List.mem_of_getElem? (i := 725) (by decide +kernel))) rfl)
theorem ws_M8_load : Cond.selects M8_load.1.cls M8_load.1 M8_load.1 ∈ z_T := (z_inT (List.mem_append_right _ (List.mem_of_getElem? (i := 726) (by decide +kernel))) rfl)
abbrev M8_balances : z_M := (⟨"RoadCountsModel", "balances", "(I)I"⟩, prog_10_method_35_code, 2, some FieldType.int)
theorem wc_M8_balances : Cond.code M8_balances.1 M8_balances.2.1 M8_balances.2.2.1 M8_balances.2.2.2 ∈ z_T := (z_inT (List.mem_append_right _ (List.mem_of_getElem? (i := 731) (by decide +kernel))) rfl)
theorem wv_M8_balances : Cond.instanceMethod M8_balances.1 ∈ z_T := (z_inT (List.mem_append_right _ (List.mem_of_getElem? (i := 729) (by decide +kernel))) rfl)
theorem ws_M8_balances : Cond.selects M8_balances.1.cls M8_balances.1 M8_balances.1 ∈ z_T := (z_inT (List.mem_append_right _ (List.mem_of_getElem? (i := 730) (by decide +kernel))) rfl)
abbrev M8_isBalanced : z_M := (⟨"RoadCountsModel", "isBalanced", "(II)Z"⟩, prog_10_method_34_code, 3, some FieldType.boolean)
theorem wc_M8_isBalanced : Cond.code M8_isBalanced.1 M8_isBalanced.2.1 M8_isBalanced.2.2.1 M8_isBalanced.2.2.2 ∈ z_T := (z_inT (List.mem_append_right _ (List.mem_of_getElem? (i := 735) (by decide +kernel))) rfl)
theorem wv_M8_isBalanced : Cond.instanceMethod M8_isBalanced.1 ∈ z_T := (z_inT (List.mem_append_right _ (List.mem_of_getElem? (i := 734) (by decide +kernel))) rfl)
theorem ws_M8_isBalanced : Cond.selects M8_isBalanced.1.cls M8_isBalanced.1 M8_isBalanced.1 ∈ z_T := z_inT (List.mem_append_left _ (List.mem_of_getElem? (i := 27) (by decide +kernel))) rfl
abbrev M8_balance : z_M := (⟨"RoadCountsModel", "balance", "(I)J"⟩, prog_10_method_36_code, 3, some FieldType.long)
theorem wc_M8_balance : Cond.code M8_balance.1 M8_balance.2.1 M8_balance.2.2.1 M8_balance.2.2.2 ∈ z_T := (z_inT (List.mem_append_right _ (List.mem_of_getElem? (i := 739) (by decide +kernel))) rfl)
theorem wv_M8_balance : Cond.instanceMethod M8_balance.1 ∈ z_T := (z_inT (List.mem_append_right _ (List.mem_of_getElem? (i := 737) (by decide +kernel))) rfl)
theorem ws_M8_balance : Cond.selects M8_balance.1.cls M8_balance.1 M8_balance.1 ∈ z_T := (z_inT (List.mem_append_right _ (List.mem_of_getElem? (i := 738) (by decide +kernel))) rfl)
abbrev M8_does : z_M := (⟨"RoadCountsModel", "does", "(I)I"⟩, prog_10_method_39_code, 2, some FieldType.int)
theorem wc_M8_does : Cond.code M8_does.1 M8_does.2.1 M8_does.2.2.1 M8_does.2.2.2 ∈ z_T := (z_inT (List.mem_append_right _ (List.mem_of_getElem? (i := 743) (by decide +kernel))) rfl)
theorem wv_M8_does : Cond.instanceMethod M8_does.1 ∈ z_T := (z_inT (List.mem_append_right _ (List.mem_of_getElem? (i := 741) (by decide +kernel))) rfl)
theorem ws_M8_does : Cond.selects M8_does.1.cls M8_does.1 M8_does.1 ∈ z_T := (z_inT (List.mem_append_right _ (List.mem_of_getElem? (i := 742) (by decide +kernel))) rfl)
abbrev M8_lists : z_M := (⟨"RoadCountsModel", "lists", "()V"⟩, prog_10_method_38_code, 2, none)
theorem wc_M8_lists : Cond.code M8_lists.1 M8_lists.2.1 M8_lists.2.2.1 M8_lists.2.2.2 ∈ z_T := (z_inT (List.mem_append_right _ (List.mem_of_getElem? (i := 747) (by decide +kernel))) rfl)
theorem wv_M8_lists : Cond.instanceMethod M8_lists.1 ∈ z_T := (z_inT (List.mem_append_right _ (List.mem_of_getElem? (i := 746) (by decide +kernel))) rfl)
theorem ws_M8_lists : Cond.selects M8_lists.1.cls M8_lists.1 M8_lists.1 ∈ z_T := z_inT (List.mem_append_left _ (List.mem_of_getElem? (i := 28) (by decide +kernel))) rfl
abbrev M8_doAll : z_M := (⟨"RoadCountsModel", "doAll", "(I)Z"⟩, prog_10_method_37_code, 6, some FieldType.boolean)
theorem wc_M8_doAll : Cond.code M8_doAll.1 M8_doAll.2.1 M8_doAll.2.2.1 M8_doAll.2.2.2 ∈ z_T := (z_inT (List.mem_append_right _ (List.mem_of_getElem? (i := 751) (by decide +kernel))) rfl)
theorem wv_M8_doAll : Cond.instanceMethod M8_doAll.1 ∈ z_T := (z_inT (List.mem_append_right _ (List.mem_of_getElem? (i := 750) (by decide +kernel))) rfl)
theorem ws_M8_doAll : Cond.selects M8_doAll.1.cls M8_doAll.1 M8_doAll.1 ∈ z_T := z_inT (List.mem_append_left _ (List.mem_of_getElem? (i := 29) (by decide +kernel))) rfl
abbrev M8_plan : z_M := (⟨"RoadCountsModel", "plan", "()I"⟩, prog_10_method_40_code, 6, some FieldType.int)
theorem wc_M8_plan : Cond.code M8_plan.1 M8_plan.2.1 M8_plan.2.2.1 M8_plan.2.2.2 ∈ z_T := (z_inT (List.mem_append_right _ (List.mem_of_getElem? (i := 755) (by decide +kernel))) rfl)
theorem wv_M8_plan : Cond.instanceMethod M8_plan.1 ∈ z_T := (z_inT (List.mem_append_right _ (List.mem_of_getElem? (i := 753) (by decide +kernel))) rfl)
theorem ws_M8_plan : Cond.selects M8_plan.1.cls M8_plan.1 M8_plan.1 ∈ z_T := (z_inT (List.mem_append_right _ (List.mem_of_getElem? (i := 754) (by decide +kernel))) rfl)
abbrev M8_feed : z_M := (⟨"RoadCountsModel", "feed", "(IIIII)I"⟩, prog_10_method_42_code, 6, some FieldType.int)
theorem wc_M8_feed : Cond.code M8_feed.1 M8_feed.2.1 M8_feed.2.2.1 M8_feed.2.2.2 ∈ z_T := (z_inT (List.mem_append_right _ (List.mem_of_getElem? (i := 759) (by decide +kernel))) rfl)
theorem wv_M8_feed : Cond.instanceMethod M8_feed.1 ∈ z_T := (z_inT (List.mem_append_right _ (List.mem_of_getElem? (i := 757) (by decide +kernel))) rfl)
theorem ws_M8_feed : Cond.selects M8_feed.1.cls M8_feed.1 M8_feed.1 ∈ z_T := (z_inT (List.mem_append_right _ (List.mem_of_getElem? (i := 758) (by decide +kernel))) rfl)
abbrev M8_push : z_M := (⟨"RoadCountsModel", "push", "(I)V"⟩, prog_10_method_41_code, 3, none)
theorem wc_M8_push : Cond.code M8_push.1 M8_push.2.1 M8_push.2.2.1 M8_push.2.2.2 ∈ z_T := (z_inT (List.mem_append_right _ (List.mem_of_getElem? (i := 763) (by decide +kernel))) rfl)
theorem wv_M8_push : Cond.instanceMethod M8_push.1 ∈ z_T := (z_inT (List.mem_append_right _ (List.mem_of_getElem? (i := 762) (by decide +kernel))) rfl)
theorem ws_M8_push : Cond.selects M8_push.1.cls M8_push.1 M8_push.1 ∈ z_T := z_inT (List.mem_append_left _ (List.mem_of_getElem? (i := 30) (by decide +kernel))) rfl
abbrev M8_rules : z_M := (⟨"RoadCountsModel", "rules", "(I)I"⟩, prog_10_method_49_code, 5, some FieldType.int)
theorem wc_M8_rules : Cond.code M8_rules.1 M8_rules.2.1 M8_rules.2.2.1 M8_rules.2.2.2 ∈ z_T := (z_inT (List.mem_append_right _ (List.mem_of_getElem? (i := 767) (by decide +kernel))) rfl)
theorem wv_M8_rules : Cond.instanceMethod M8_rules.1 ∈ z_T := (z_inT (List.mem_append_right _ (List.mem_of_getElem? (i := 765) (by decide +kernel))) rfl)
theorem ws_M8_rules : Cond.selects M8_rules.1.cls M8_rules.1 M8_rules.1 ∈ z_T := (z_inT (List.mem_append_right _ (List.mem_of_getElem? (i := 766) (by decide +kernel))) rfl)
abbrev M8_clause : z_M := (⟨"RoadCountsModel", "clause", "()V"⟩, prog_10_method_48_code, 5, none)
theorem wc_M8_clause : Cond.code M8_clause.1 M8_clause.2.1 M8_clause.2.2.1 M8_clause.2.2.2 ∈ z_T := (z_inT (List.mem_append_right _ (List.mem_of_getElem? (i := 771) (by decide +kernel))) rfl)
theorem wv_M8_clause : Cond.instanceMethod M8_clause.1 ∈ z_T := (z_inT (List.mem_append_right _ (List.mem_of_getElem? (i := 770) (by decide +kernel))) rfl)
theorem ws_M8_clause : Cond.selects M8_clause.1.cls M8_clause.1 M8_clause.1 ∈ z_T := z_inT (List.mem_append_left _ (List.mem_of_getElem? (i := 31) (by decide +kernel))) rfl
abbrev M8_seesDigit : z_M := (⟨"RoadCountsModel", "seesDigit", "()Z"⟩, prog_10_method_45_code, 1, some FieldType.boolean)
theorem wc_M8_seesDigit : Cond.code M8_seesDigit.1 M8_seesDigit.2.1 M8_seesDigit.2.2.1 M8_seesDigit.2.2.2 ∈ z_T := (z_inT (List.mem_append_right _ (List.mem_of_getElem? (i := 775) (by decide +kernel))) rfl)
theorem wv_M8_seesDigit : Cond.instanceMethod M8_seesDigit.1 ∈ z_T := (z_inT (List.mem_append_right _ (List.mem_of_getElem? (i := 774) (by decide +kernel))) rfl)
theorem ws_M8_seesDigit : Cond.selects M8_seesDigit.1.cls M8_seesDigit.1 M8_seesDigit.1 ∈ z_T := z_inT (List.mem_append_left _ (List.mem_of_getElem? (i := 32) (by decide +kernel))) rfl
abbrev M8_here : z_M := (⟨"RoadCountsModel", "here", "()I"⟩, prog_10_method_43_code, 1, some FieldType.int)
theorem wc_M8_here : Cond.code M8_here.1 M8_here.2.1 M8_here.2.2.1 M8_here.2.2.2 ∈ z_T := (z_inT (List.mem_append_right _ (List.mem_of_getElem? (i := 779) (by decide +kernel))) rfl)
theorem wv_M8_here : Cond.instanceMethod M8_here.1 ∈ z_T := (z_inT (List.mem_append_right _ (List.mem_of_getElem? (i := 778) (by decide +kernel))) rfl)
theorem ws_M8_here : Cond.selects M8_here.1.cls M8_here.1 M8_here.1 ∈ z_T := z_inT (List.mem_append_left _ (List.mem_of_getElem? (i := 33) (by decide +kernel))) rfl
abbrev M8_fails : z_M := (⟨"RoadCountsModel", "fails", "(II)V"⟩, prog_10_method_44_code, 3, none)
theorem wc_M8_fails : Cond.code M8_fails.1 M8_fails.2.1 M8_fails.2.2.1 M8_fails.2.2.2 ∈ z_T := (z_inT (List.mem_append_right _ (List.mem_of_getElem? (i := 785) (by decide +kernel))) rfl)
theorem wv_M8_fails : Cond.instanceMethod M8_fails.1 ∈ z_T := (z_inT (List.mem_append_right _ (List.mem_of_getElem? (i := 784) (by decide +kernel))) rfl)
theorem ws_M8_fails : Cond.selects M8_fails.1.cls M8_fails.1 M8_fails.1 ∈ z_T := z_inT (List.mem_append_left _ (List.mem_of_getElem? (i := 34) (by decide +kernel))) rfl
abbrev M8_must : z_M := (⟨"RoadCountsModel", "must", "(I)V"⟩, prog_10_method_47_code, 2, none)
theorem wc_M8_must : Cond.code M8_must.1 M8_must.2.1 M8_must.2.2.1 M8_must.2.2.2 ∈ z_T := (z_inT (List.mem_append_right _ (List.mem_of_getElem? (i := 789) (by decide +kernel))) rfl)
theorem wv_M8_must : Cond.instanceMethod M8_must.1 ∈ z_T := (z_inT (List.mem_append_right _ (List.mem_of_getElem? (i := 788) (by decide +kernel))) rfl)
theorem ws_M8_must : Cond.selects M8_must.1.cls M8_must.1 M8_must.1 ∈ z_T := z_inT (List.mem_append_left _ (List.mem_of_getElem? (i := 35) (by decide +kernel))) rfl
abbrev M8_number : z_M := (⟨"RoadCountsModel", "number", "(I)I"⟩, prog_10_method_46_code, 4, some FieldType.int)
theorem wc_M8_number : Cond.code M8_number.1 M8_number.2.1 M8_number.2.2.1 M8_number.2.2.2 ∈ z_T := (z_inT (List.mem_append_right _ (List.mem_of_getElem? (i := 793) (by decide +kernel))) rfl)
theorem wv_M8_number : Cond.instanceMethod M8_number.1 ∈ z_T := (z_inT (List.mem_append_right _ (List.mem_of_getElem? (i := 792) (by decide +kernel))) rfl)
theorem ws_M8_number : Cond.selects M8_number.1.cls M8_number.1 M8_number.1 ∈ z_T := z_inT (List.mem_append_left _ (List.mem_of_getElem? (i := 36) (by decide +kernel))) rfl
abbrev M8_pass : z_M := (⟨"RoadCountsModel", "pass", "(II)I"⟩, prog_10_method_51_code, 6, some FieldType.int)
theorem wc_M8_pass : Cond.code M8_pass.1 M8_pass.2.1 M8_pass.2.2.1 M8_pass.2.2.2 ∈ z_T := (z_inT (List.mem_append_right _ (List.mem_of_getElem? (i := 797) (by decide +kernel))) rfl)
theorem wv_M8_pass : Cond.instanceMethod M8_pass.1 ∈ z_T := (z_inT (List.mem_append_right _ (List.mem_of_getElem? (i := 795) (by decide +kernel))) rfl)
theorem ws_M8_pass : Cond.selects M8_pass.1.cls M8_pass.1 M8_pass.1 ∈ z_T := (z_inT (List.mem_append_right _ (List.mem_of_getElem? (i := 796) (by decide +kernel))) rfl)
abbrev M8_kindOf : z_M := (⟨"RoadCountsModel", "kindOf", "(II)I"⟩, prog_10_method_50_code, 6, some FieldType.int)
theorem wc_M8_kindOf : Cond.code M8_kindOf.1 M8_kindOf.2.1 M8_kindOf.2.2.1 M8_kindOf.2.2.2 ∈ z_T := (z_inT (List.mem_append_right _ (List.mem_of_getElem? (i := 801) (by decide +kernel))) rfl)
theorem wv_M8_kindOf : Cond.instanceMethod M8_kindOf.1 ∈ z_T := (z_inT (List.mem_append_right _ (List.mem_of_getElem? (i := 800) (by decide +kernel))) rfl)
theorem ws_M8_kindOf : Cond.selects M8_kindOf.1.cls M8_kindOf.1 M8_kindOf.1 ∈ z_T := z_inT (List.mem_append_left _ (List.mem_of_getElem? (i := 37) (by decide +kernel))) rfl
abbrev M8_kinds : z_M := (⟨"RoadCountsModel", "kinds", "(II)I"⟩, prog_10_method_52_code, 3, some FieldType.int)
theorem wc_M8_kinds : Cond.code M8_kinds.1 M8_kinds.2.1 M8_kinds.2.2.1 M8_kinds.2.2.2 ∈ z_T := (z_inT (List.mem_append_right _ (List.mem_of_getElem? (i := 805) (by decide +kernel))) rfl)
theorem wv_M8_kinds : Cond.instanceMethod M8_kinds.1 ∈ z_T := (z_inT (List.mem_append_right _ (List.mem_of_getElem? (i := 803) (by decide +kernel))) rfl)
theorem ws_M8_kinds : Cond.selects M8_kinds.1.cls M8_kinds.1 M8_kinds.1 ∈ z_T := (z_inT (List.mem_append_right _ (List.mem_of_getElem? (i := 804) (by decide +kernel))) rfl)
abbrev M8_look : z_M := (⟨"RoadCountsModel", "look", "(II)I"⟩, prog_10_method_53_code, 3, some FieldType.int)
theorem wc_M8_look : Cond.code M8_look.1 M8_look.2.1 M8_look.2.2.1 M8_look.2.2.2 ∈ z_T := (z_inT (List.mem_append_right _ (List.mem_of_getElem? (i := 810) (by decide +kernel))) rfl)
theorem wv_M8_look : Cond.instanceMethod M8_look.1 ∈ z_T := (z_inT (List.mem_append_right _ (List.mem_of_getElem? (i := 808) (by decide +kernel))) rfl)
theorem ws_M8_look : Cond.selects M8_look.1.cls M8_look.1 M8_look.1 ∈ z_T := (z_inT (List.mem_append_right _ (List.mem_of_getElem? (i := 809) (by decide +kernel))) rfl)
abbrev M8_tell : z_M := (⟨"RoadCountsModel", "tell", "(I)I"⟩, prog_10_method_54_code, 2, some FieldType.int)
theorem wc_M8_tell : Cond.code M8_tell.1 M8_tell.2.1 M8_tell.2.2.1 M8_tell.2.2.2 ∈ z_T := (z_inT (List.mem_append_right _ (List.mem_of_getElem? (i := 816) (by decide +kernel))) rfl)
theorem wv_M8_tell : Cond.instanceMethod M8_tell.1 ∈ z_T := (z_inT (List.mem_append_right _ (List.mem_of_getElem? (i := 814) (by decide +kernel))) rfl)
theorem ws_M8_tell : Cond.selects M8_tell.1.cls M8_tell.1 M8_tell.1 ∈ z_T := (z_inT (List.mem_append_right _ (List.mem_of_getElem? (i := 815) (by decide +kernel))) rfl)
theorem lc_L_7 : Cond.classLink "RoadCountsLaw" 7 "RoadCounts" ∈ z_T := (z_inT (List.mem_append_right _ (List.mem_of_getElem? (i := 12) (by decide +kernel))) rfl)
theorem wn_7 : Cond.instantiable "RoadCounts" 6 ∈ z_T := (z_inT (List.mem_append_right _ (List.mem_of_getElem? (i := 13) (by decide +kernel))) rfl)
theorem lm_L_9 : z_MI "RoadCountsLaw" 9 M7_init 0 := ⟨⟨wc_M7_init, wi_7, ⟨by decide +kernel, by decide +kernel⟩, by decide +kernel, Or.inl (z_inT (List.mem_append_right _ (List.mem_of_getElem? (i := 14) (by decide +kernel))) rfl)⟩, wv_M7_init, rfl, rfl⟩
theorem lo_7_1 : Cond.methodLink "RoadCounts" 1 objectInit ∈ z_T := (z_inT (List.mem_append_right _ (List.mem_of_getElem? (i := 17) (by decide +kernel))) rfl)
theorem wo_inst : Cond.instanceMethod objectInit ∈ z_T := (z_inT (List.mem_append_right _ (List.mem_of_getElem? (i := 18) (by decide +kernel))) rfl)
theorem wo_code : Cond.code objectInit ⟨#[0xb1]⟩ 1 none ∈ z_T := (z_inT (List.mem_append_right _ (List.mem_of_getElem? (i := 19) (by decide +kernel))) rfl)
theorem lc_7_7 : Cond.classLink "RoadCounts" 7 "RoadCounts$Almanac" ∈ z_T := (z_inT (List.mem_append_right _ (List.mem_of_getElem? (i := 20) (by decide +kernel))) rfl)
theorem wn_0 : Cond.instantiable "RoadCounts$Almanac" 5 ∈ z_T := (z_inT (List.mem_append_right _ (List.mem_of_getElem? (i := 21) (by decide +kernel))) rfl)
theorem lm_7_9 : z_MI "RoadCounts" 9 M0_init 0 := ⟨⟨wc_M0_init, wi_0, ⟨by decide +kernel, by decide +kernel⟩, by decide +kernel, Or.inl (z_inT (List.mem_append_right _ (List.mem_of_getElem? (i := 22) (by decide +kernel))) rfl)⟩, wv_M0_init, rfl, rfl⟩
theorem lo_0_3 : Cond.methodLink "RoadCounts$Almanac" 3 objectInit ∈ z_T := (z_inT (List.mem_append_right _ (List.mem_of_getElem? (i := 25) (by decide +kernel))) rfl)
theorem lc_0_9 : Cond.classLink "RoadCounts$Almanac" 9 "[[I" ∈ z_T := (z_inT (List.mem_append_right _ (List.mem_of_getElem? (i := 26) (by decide +kernel))) rfl)
theorem lf_0_11 : z_Fl "RoadCounts$Almanac" 11 0 0 := ⟨_, rfl, by decide, Or.inl (z_inT (List.mem_append_right _ (List.mem_of_getElem? (i := 28) (by decide +kernel))) rfl)⟩
theorem lf_0_16 : z_Fl "RoadCounts$Almanac" 16 0 1 := ⟨_, rfl, by decide, Or.inl (z_inT (List.mem_append_right _ (List.mem_of_getElem? (i := 29) (by decide +kernel))) rfl)⟩
theorem lf_0_19 : z_Fl "RoadCounts$Almanac" 19 0 2 := ⟨_, rfl, by decide, Or.inl (z_inT (List.mem_append_right _ (List.mem_of_getElem? (i := 30) (by decide +kernel))) rfl)⟩
theorem lf_1_64 : z_Fl "RoadCounts$Counts" 64 0 2 := ⟨_, rfl, by decide, Or.inr ⟨"RoadCounts", List.mem_filter.mpr ⟨(List.mem_append_right _ (List.mem_of_getElem? (i := 31) (by decide +kernel))), rfl⟩⟩⟩
theorem lf_0_23 : z_Fl "RoadCounts$Almanac" 23 0 3 := ⟨_, rfl, by decide, Or.inl (z_inT (List.mem_append_right _ (List.mem_of_getElem? (i := 32) (by decide +kernel))) rfl)⟩
theorem lf_0_27 : z_Fl "RoadCounts$Almanac" 27 0 4 := ⟨_, rfl, by decide, Or.inl (z_inT (List.mem_append_right _ (List.mem_of_getElem? (i := 33) (by decide +kernel))) rfl)⟩
theorem lf_7_182 : z_Fl "RoadCounts" 182 0 4 := ⟨_, rfl, by decide, Or.inr ⟨"RoadCounts", List.mem_filter.mpr ⟨(List.mem_append_right _ (List.mem_of_getElem? (i := 34) (by decide +kernel))), rfl⟩⟩⟩
theorem wa_int : Cond.arrayClass .int ∈ z_T := (z_inT (List.mem_append_right _ (List.mem_of_getElem? (i := 46) (by decide +kernel))) rfl)
theorem wa_boolean : Cond.arrayClass .boolean ∈ z_T := (z_inT (List.mem_append_right _ (List.mem_of_getElem? (i := 47) (by decide +kernel))) rfl)
theorem lc_7_16 : Cond.classLink "RoadCounts" 16 "RoadCounts$Network" ∈ z_T := (z_inT (List.mem_append_right _ (List.mem_of_getElem? (i := 48) (by decide +kernel))) rfl)
theorem wn_2 : Cond.instantiable "RoadCounts$Network" 9 ∈ z_T := (z_inT (List.mem_append_right _ (List.mem_of_getElem? (i := 49) (by decide +kernel))) rfl)
theorem lm_7_18 : z_MI "RoadCounts" 18 M2_init 0 := ⟨⟨wc_M2_init, wi_2, ⟨by decide +kernel, by decide +kernel⟩, by decide +kernel, Or.inr ⟨"RoadCounts", List.mem_filter.mpr ⟨(List.mem_append_right _ (List.mem_of_getElem? (i := 50) (by decide +kernel))), rfl⟩⟩⟩, wv_M2_init, rfl, rfl⟩
theorem lo_2_3 : Cond.methodLink "RoadCounts$Network" 3 objectInit ∈ z_T := (z_inT (List.mem_append_right _ (List.mem_of_getElem? (i := 53) (by decide +kernel))) rfl)
theorem lc_2_9 : Cond.classLink "RoadCounts$Network" 9 "RoadCounts$Road" ∈ z_T := (z_inT (List.mem_append_right _ (List.mem_of_getElem? (i := 54) (by decide +kernel))) rfl)
theorem lf_2_11 : z_Fl "RoadCounts$Network" 11 2 0 := ⟨_, rfl, by decide, Or.inl (z_inT (List.mem_append_right _ (List.mem_of_getElem? (i := 56) (by decide +kernel))) rfl)⟩
theorem lf_2_17 : z_Fl "RoadCounts$Network" 17 2 1 := ⟨_, rfl, by decide, Or.inl (z_inT (List.mem_append_right _ (List.mem_of_getElem? (i := 57) (by decide +kernel))) rfl)⟩
theorem lf_2_21 : z_Fl "RoadCounts$Network" 21 2 2 := ⟨_, rfl, by decide, Or.inl (z_inT (List.mem_append_right _ (List.mem_of_getElem? (i := 58) (by decide +kernel))) rfl)⟩
theorem lf_2_25 : z_Fl "RoadCounts$Network" 25 2 3 := ⟨_, rfl, by decide, Or.inl (z_inT (List.mem_append_right _ (List.mem_of_getElem? (i := 59) (by decide +kernel))) rfl)⟩
theorem lf_2_28 : z_Fl "RoadCounts$Network" 28 2 4 := ⟨_, rfl, by decide, Or.inl (z_inT (List.mem_append_right _ (List.mem_of_getElem? (i := 60) (by decide +kernel))) rfl)⟩
theorem lf_2_74 : z_Fl "RoadCounts$Network" 74 2 5 := ⟨_, rfl, by decide, Or.inl (z_inT (List.mem_append_right _ (List.mem_of_getElem? (i := 61) (by decide +kernel))) rfl)⟩
theorem lf_2_31 : z_Fl "RoadCounts$Network" 31 2 6 := ⟨_, rfl, by decide, Or.inl (z_inT (List.mem_append_right _ (List.mem_of_getElem? (i := 62) (by decide +kernel))) rfl)⟩
theorem lf_7_181 : z_Fl "RoadCounts" 181 2 6 := ⟨_, rfl, by decide, Or.inr ⟨"RoadCounts", List.mem_filter.mpr ⟨(List.mem_append_right _ (List.mem_of_getElem? (i := 63) (by decide +kernel))), rfl⟩⟩⟩
theorem lf_2_42 : z_Fl "RoadCounts$Network" 42 2 7 := ⟨_, rfl, by decide, Or.inl (z_inT (List.mem_append_right _ (List.mem_of_getElem? (i := 64) (by decide +kernel))) rfl)⟩
theorem lf_7_186 : z_Fl "RoadCounts" 186 2 7 := ⟨_, rfl, by decide, Or.inr ⟨"RoadCounts", List.mem_filter.mpr ⟨(List.mem_append_right _ (List.mem_of_getElem? (i := 65) (by decide +kernel))), rfl⟩⟩⟩
theorem lf_2_45 : z_Fl "RoadCounts$Network" 45 2 8 := ⟨_, rfl, by decide, Or.inl (z_inT (List.mem_append_right _ (List.mem_of_getElem? (i := 66) (by decide +kernel))) rfl)⟩
theorem lf_7_194 : z_Fl "RoadCounts" 194 2 8 := ⟨_, rfl, by decide, Or.inr ⟨"RoadCounts", List.mem_filter.mpr ⟨(List.mem_append_right _ (List.mem_of_getElem? (i := 67) (by decide +kernel))), rfl⟩⟩⟩
theorem wa_long : Cond.arrayClass .long ∈ z_T := (z_inT (List.mem_append_right _ (List.mem_of_getElem? (i := 87) (by decide +kernel))) rfl)
theorem lc_7_23 : Cond.classLink "RoadCounts" 23 "RoadCounts$Tape" ∈ z_T := (z_inT (List.mem_append_right _ (List.mem_of_getElem? (i := 88) (by decide +kernel))) rfl)
theorem wn_6 : Cond.instantiable "RoadCounts$Tape" 2 ∈ z_T := (z_inT (List.mem_append_right _ (List.mem_of_getElem? (i := 89) (by decide +kernel))) rfl)
theorem lm_7_25 : z_MI "RoadCounts" 25 M6_init 0 := ⟨⟨wc_M6_init, wi_6, ⟨by decide +kernel, by decide +kernel⟩, by decide +kernel, Or.inr ⟨"RoadCounts", List.mem_filter.mpr ⟨(List.mem_append_right _ (List.mem_of_getElem? (i := 90) (by decide +kernel))), rfl⟩⟩⟩, wv_M6_init, rfl, rfl⟩
theorem lo_6_3 : Cond.methodLink "RoadCounts$Tape" 3 objectInit ∈ z_T := (z_inT (List.mem_append_right _ (List.mem_of_getElem? (i := 93) (by decide +kernel))) rfl)
theorem lf_6_9 : z_Fl "RoadCounts$Tape" 9 6 0 := ⟨_, rfl, by decide, Or.inl (z_inT (List.mem_append_right _ (List.mem_of_getElem? (i := 94) (by decide +kernel))) rfl)⟩
theorem lf_6_15 : z_Fl "RoadCounts$Tape" 15 6 1 := ⟨_, rfl, by decide, Or.inl (z_inT (List.mem_append_right _ (List.mem_of_getElem? (i := 95) (by decide +kernel))) rfl)⟩
theorem lf_7_138 : z_Fl "RoadCounts" 138 6 1 := ⟨_, rfl, by decide, Or.inr ⟨"RoadCounts", List.mem_filter.mpr ⟨(List.mem_append_right _ (List.mem_of_getElem? (i := 96) (by decide +kernel))), rfl⟩⟩⟩
theorem lc_7_30 : Cond.classLink "RoadCounts" 30 "RoadCounts$RulesReader" ∈ z_T := (z_inT (List.mem_append_right _ (List.mem_of_getElem? (i := 102) (by decide +kernel))) rfl)
theorem wn_5 : Cond.instantiable "RoadCounts$RulesReader" 4 ∈ z_T := (z_inT (List.mem_append_right _ (List.mem_of_getElem? (i := 103) (by decide +kernel))) rfl)
theorem lm_7_32 : z_MI "RoadCounts" 32 M5_init 1 := ⟨⟨wc_M5_init, wi_5, ⟨by decide +kernel, by decide +kernel⟩, by decide +kernel, Or.inl (z_inT (List.mem_append_right _ (List.mem_of_getElem? (i := 104) (by decide +kernel))) rfl)⟩, wv_M5_init, rfl, rfl⟩
theorem lo_5_3 : Cond.methodLink "RoadCounts$RulesReader" 3 objectInit ∈ z_T := (z_inT (List.mem_append_right _ (List.mem_of_getElem? (i := 107) (by decide +kernel))) rfl)
theorem lf_5_9 : z_Fl "RoadCounts$RulesReader" 9 5 0 := ⟨_, rfl, by decide, Or.inl (z_inT (List.mem_append_right _ (List.mem_of_getElem? (i := 108) (by decide +kernel))) rfl)⟩
theorem lf_5_15 : z_Fl "RoadCounts$RulesReader" 15 5 1 := ⟨_, rfl, by decide, Or.inl (z_inT (List.mem_append_right _ (List.mem_of_getElem? (i := 109) (by decide +kernel))) rfl)⟩
theorem lf_5_19 : z_Fl "RoadCounts$RulesReader" 19 5 2 := ⟨_, rfl, by decide, Or.inl (z_inT (List.mem_append_right _ (List.mem_of_getElem? (i := 110) (by decide +kernel))) rfl)⟩
theorem lf_5_53 : z_Fl "RoadCounts$RulesReader" 53 5 3 := ⟨_, rfl, by decide, Or.inl (z_inT (List.mem_append_right _ (List.mem_of_getElem? (i := 111) (by decide +kernel))) rfl)⟩
theorem lc_7_39 : Cond.classLink "RoadCounts" 39 "RoadCounts$Rules" ∈ z_T := (z_inT (List.mem_append_right _ (List.mem_of_getElem? (i := 121) (by decide +kernel))) rfl)
theorem wn_4 : Cond.instantiable "RoadCounts$Rules" 5 ∈ z_T := (z_inT (List.mem_append_right _ (List.mem_of_getElem? (i := 122) (by decide +kernel))) rfl)
theorem lm_7_41 : z_MI "RoadCounts" 41 M4_init 0 := ⟨⟨wc_M4_init, wi_4, ⟨by decide +kernel, by decide +kernel⟩, by decide +kernel, Or.inr ⟨"RoadCounts", List.mem_filter.mpr ⟨(List.mem_append_right _ (List.mem_of_getElem? (i := 123) (by decide +kernel))), rfl⟩⟩⟩, wv_M4_init, rfl, rfl⟩
theorem lo_4_3 : Cond.methodLink "RoadCounts$Rules" 3 objectInit ∈ z_T := (z_inT (List.mem_append_right _ (List.mem_of_getElem? (i := 126) (by decide +kernel))) rfl)
theorem lc_4_18 : Cond.classLink "RoadCounts$Rules" 18 "[[I" ∈ z_T := (z_inT (List.mem_append_right _ (List.mem_of_getElem? (i := 127) (by decide +kernel))) rfl)
theorem lf_4_9 : z_Fl "RoadCounts$Rules" 9 4 0 := ⟨_, rfl, by decide, Or.inl (z_inT (List.mem_append_right _ (List.mem_of_getElem? (i := 128) (by decide +kernel))) rfl)⟩
theorem lf_4_15 : z_Fl "RoadCounts$Rules" 15 4 1 := ⟨_, rfl, by decide, Or.inl (z_inT (List.mem_append_right _ (List.mem_of_getElem? (i := 129) (by decide +kernel))) rfl)⟩
theorem lf_4_20 : z_Fl "RoadCounts$Rules" 20 4 2 := ⟨_, rfl, by decide, Or.inl (z_inT (List.mem_append_right _ (List.mem_of_getElem? (i := 130) (by decide +kernel))) rfl)⟩
theorem lf_4_23 : z_Fl "RoadCounts$Rules" 23 4 3 := ⟨_, rfl, by decide, Or.inl (z_inT (List.mem_append_right _ (List.mem_of_getElem? (i := 131) (by decide +kernel))) rfl)⟩
theorem lf_4_26 : z_Fl "RoadCounts$Rules" 26 4 4 := ⟨_, rfl, by decide, Or.inl (z_inT (List.mem_append_right _ (List.mem_of_getElem? (i := 132) (by decide +kernel))) rfl)⟩
theorem lf_5_22 : z_Fl "RoadCounts$RulesReader" 22 4 4 := ⟨_, rfl, by decide, Or.inr ⟨"RoadCounts", List.mem_filter.mpr ⟨(List.mem_append_right _ (List.mem_of_getElem? (i := 133) (by decide +kernel))), rfl⟩⟩⟩
theorem lf_7_185 : z_Fl "RoadCounts" 185 4 4 := ⟨_, rfl, by decide, Or.inr ⟨"RoadCounts", List.mem_filter.mpr ⟨(List.mem_append_right _ (List.mem_of_getElem? (i := 134) (by decide +kernel))), rfl⟩⟩⟩
theorem lf_7_10 : z_Fl "RoadCounts" 10 7 0 := ⟨_, rfl, by decide, Or.inl (z_inT (List.mem_append_right _ (List.mem_of_getElem? (i := 146) (by decide +kernel))) rfl)⟩
theorem lf_7_19 : z_Fl "RoadCounts" 19 7 1 := ⟨_, rfl, by decide, Or.inl (z_inT (List.mem_append_right _ (List.mem_of_getElem? (i := 147) (by decide +kernel))) rfl)⟩
theorem lf_7_26 : z_Fl "RoadCounts" 26 7 2 := ⟨_, rfl, by decide, Or.inl (z_inT (List.mem_append_right _ (List.mem_of_getElem? (i := 148) (by decide +kernel))) rfl)⟩
theorem lf_7_35 : z_Fl "RoadCounts" 35 7 3 := ⟨_, rfl, by decide, Or.inl (z_inT (List.mem_append_right _ (List.mem_of_getElem? (i := 149) (by decide +kernel))) rfl)⟩
theorem lf_7_42 : z_Fl "RoadCounts" 42 7 4 := ⟨_, rfl, by decide, Or.inl (z_inT (List.mem_append_right _ (List.mem_of_getElem? (i := 150) (by decide +kernel))) rfl)⟩
theorem lf_7_46 : z_Fl "RoadCounts" 46 7 5 := ⟨_, rfl, by decide, Or.inl (z_inT (List.mem_append_right _ (List.mem_of_getElem? (i := 151) (by decide +kernel))) rfl)⟩
theorem lm_L_13 : z_MV "RoadCountsLaw" 13 M7_weekday 3 7 := ⟨⟨wc_M7_weekday, wi_7, ⟨by decide +kernel, by decide +kernel⟩, by decide +kernel, Or.inl (z_inT (List.mem_append_right _ (List.mem_of_getElem? (i := 165) (by decide +kernel))) rfl)⟩, wv_M7_weekday, ws_M7_weekday, _, rfl, rfl⟩
theorem lm_7_49 : z_MS "RoadCounts" 49 M7_isBelow 2 := ⟨⟨wc_M7_isBelow, wi_7, ⟨by decide +kernel, by decide +kernel⟩, by decide +kernel, Or.inl (z_inT (List.mem_append_right _ (List.mem_of_getElem? (i := 169) (by decide +kernel))) rfl)⟩, wt_M7_isBelow⟩
theorem lm_7_53 : z_MS "RoadCounts" 53 M7_isWeight 1 := ⟨⟨wc_M7_isWeight, wi_7, ⟨by decide +kernel, by decide +kernel⟩, by decide +kernel, Or.inl (z_inT (List.mem_append_right _ (List.mem_of_getElem? (i := 172) (by decide +kernel))) rfl)⟩, wt_M7_isWeight⟩
theorem lm_7_57 : z_MV "RoadCounts" 57 M0_weighWeekday 3 0 := ⟨⟨wc_M0_weighWeekday, wi_0, ⟨by decide +kernel, by decide +kernel⟩, by decide +kernel, Or.inl (z_inT (List.mem_append_right _ (List.mem_of_getElem? (i := 175) (by decide +kernel))) rfl)⟩, wv_M0_weighWeekday, ws_M0_weighWeekday, _, rfl, rfl⟩
theorem lm_L_18 : z_MV "RoadCountsLaw" 18 M7_month 3 7 := ⟨⟨wc_M7_month, wi_7, ⟨by decide +kernel, by decide +kernel⟩, by decide +kernel, Or.inl (z_inT (List.mem_append_right _ (List.mem_of_getElem? (i := 179) (by decide +kernel))) rfl)⟩, wv_M7_month, ws_M7_month, _, rfl, rfl⟩
theorem lm_7_61 : z_MV "RoadCounts" 61 M0_weighMonth 3 0 := ⟨⟨wc_M0_weighMonth, wi_0, ⟨by decide +kernel, by decide +kernel⟩, by decide +kernel, Or.inl (z_inT (List.mem_append_right _ (List.mem_of_getElem? (i := 183) (by decide +kernel))) rfl)⟩, wv_M0_weighMonth, ws_M0_weighMonth, _, rfl, rfl⟩
theorem lm_L_22 : z_MV "RoadCountsLaw" 22 M7_holiday 1 7 := ⟨⟨wc_M7_holiday, wi_7, ⟨by decide +kernel, by decide +kernel⟩, by decide +kernel, Or.inl (z_inT (List.mem_append_right _ (List.mem_of_getElem? (i := 187) (by decide +kernel))) rfl)⟩, wv_M7_holiday, ws_M7_holiday, _, rfl, rfl⟩
theorem lm_7_64 : z_MV "RoadCounts" 64 M0_addHoliday 1 0 := ⟨⟨wc_M0_addHoliday, wi_0, ⟨by decide +kernel, by decide +kernel⟩, by decide +kernel, Or.inl (z_inT (List.mem_append_right _ (List.mem_of_getElem? (i := 191) (by decide +kernel))) rfl)⟩, wv_M0_addHoliday, ws_M0_addHoliday, _, rfl, rfl⟩
theorem lm_L_27 : z_MV "RoadCountsLaw" 27 M7_road 3 7 := ⟨⟨wc_M7_road, wi_7, ⟨by decide +kernel, by decide +kernel⟩, by decide +kernel, Or.inl (z_inT (List.mem_append_right _ (List.mem_of_getElem? (i := 195) (by decide +kernel))) rfl)⟩, wv_M7_road, ws_M7_road, _, rfl, rfl⟩
theorem lm_7_67 : z_MS "RoadCounts" 67 M7_isEnd 1 := ⟨⟨wc_M7_isEnd, wi_7, ⟨by decide +kernel, by decide +kernel⟩, by decide +kernel, Or.inl (z_inT (List.mem_append_right _ (List.mem_of_getElem? (i := 199) (by decide +kernel))) rfl)⟩, wt_M7_isEnd⟩
theorem lm_7_70 : z_MV "RoadCounts" 70 M2_add 3 2 := ⟨⟨wc_M2_add, wi_2, ⟨by decide +kernel, by decide +kernel⟩, by decide +kernel, Or.inl (z_inT (List.mem_append_right _ (List.mem_of_getElem? (i := 202) (by decide +kernel))) rfl)⟩, wv_M2_add, ws_M2_add, _, rfl, rfl⟩
theorem wn_3 : Cond.instantiable "RoadCounts$Road" 6 ∈ z_T := (z_inT (List.mem_append_right _ (List.mem_of_getElem? (i := 206) (by decide +kernel))) rfl)
theorem lm_2_35 : z_MI "RoadCounts$Network" 35 M3_init 3 := ⟨⟨wc_M3_init, wi_3, ⟨by decide +kernel, by decide +kernel⟩, by decide +kernel, Or.inl (z_inT (List.mem_append_right _ (List.mem_of_getElem? (i := 207) (by decide +kernel))) rfl)⟩, wv_M3_init, rfl, rfl⟩
theorem lo_3_3 : Cond.methodLink "RoadCounts$Road" 3 objectInit ∈ z_T := (z_inT (List.mem_append_right _ (List.mem_of_getElem? (i := 210) (by decide +kernel))) rfl)
theorem lc_3_9 : Cond.classLink "RoadCounts$Road" 9 "RoadCounts$Counts" ∈ z_T := (z_inT (List.mem_append_right _ (List.mem_of_getElem? (i := 211) (by decide +kernel))) rfl)
theorem wn_1 : Cond.instantiable "RoadCounts$Counts" 3 ∈ z_T := (z_inT (List.mem_append_right _ (List.mem_of_getElem? (i := 212) (by decide +kernel))) rfl)
theorem lm_3_11 : z_MI "RoadCounts$Road" 11 M1_init 0 := ⟨⟨wc_M1_init, wi_1, ⟨by decide +kernel, by decide +kernel⟩, by decide +kernel, Or.inr ⟨"RoadCounts", List.mem_filter.mpr ⟨(List.mem_append_right _ (List.mem_of_getElem? (i := 213) (by decide +kernel))), rfl⟩⟩⟩, wv_M1_init, rfl, rfl⟩
theorem lo_1_3 : Cond.methodLink "RoadCounts$Counts" 3 objectInit ∈ z_T := (z_inT (List.mem_append_right _ (List.mem_of_getElem? (i := 216) (by decide +kernel))) rfl)
theorem lf_1_9 : z_Fl "RoadCounts$Counts" 9 1 0 := ⟨_, rfl, by decide, Or.inl (z_inT (List.mem_append_right _ (List.mem_of_getElem? (i := 217) (by decide +kernel))) rfl)⟩
theorem lf_1_15 : z_Fl "RoadCounts$Counts" 15 1 1 := ⟨_, rfl, by decide, Or.inl (z_inT (List.mem_append_right _ (List.mem_of_getElem? (i := 218) (by decide +kernel))) rfl)⟩
theorem lf_1_22 : z_Fl "RoadCounts$Counts" 22 1 2 := ⟨_, rfl, by decide, Or.inl (z_inT (List.mem_append_right _ (List.mem_of_getElem? (i := 219) (by decide +kernel))) rfl)⟩
theorem lf_7_172 : z_Fl "RoadCounts" 172 1 2 := ⟨_, rfl, by decide, Or.inr ⟨"RoadCounts", List.mem_filter.mpr ⟨(List.mem_append_right _ (List.mem_of_getElem? (i := 220) (by decide +kernel))), rfl⟩⟩⟩
theorem lf_3_22 : z_Fl "RoadCounts$Road" 22 3 0 := ⟨_, rfl, by decide, Or.inl (z_inT (List.mem_append_right _ (List.mem_of_getElem? (i := 228) (by decide +kernel))) rfl)⟩
theorem lf_7_163 : z_Fl "RoadCounts" 163 3 0 := ⟨_, rfl, by decide, Or.inr ⟨"RoadCounts", List.mem_filter.mpr ⟨(List.mem_append_right _ (List.mem_of_getElem? (i := 229) (by decide +kernel))), rfl⟩⟩⟩
theorem lf_3_26 : z_Fl "RoadCounts$Road" 26 3 1 := ⟨_, rfl, by decide, Or.inl (z_inT (List.mem_append_right _ (List.mem_of_getElem? (i := 230) (by decide +kernel))) rfl)⟩
theorem lf_2_52 : z_Fl "RoadCounts$Network" 52 3 1 := ⟨_, rfl, by decide, Or.inr ⟨"RoadCounts", List.mem_filter.mpr ⟨(List.mem_append_right _ (List.mem_of_getElem? (i := 231) (by decide +kernel))), rfl⟩⟩⟩
theorem lf_7_166 : z_Fl "RoadCounts" 166 3 1 := ⟨_, rfl, by decide, Or.inr ⟨"RoadCounts", List.mem_filter.mpr ⟨(List.mem_append_right _ (List.mem_of_getElem? (i := 232) (by decide +kernel))), rfl⟩⟩⟩
theorem lf_3_29 : z_Fl "RoadCounts$Road" 29 3 2 := ⟨_, rfl, by decide, Or.inl (z_inT (List.mem_append_right _ (List.mem_of_getElem? (i := 233) (by decide +kernel))) rfl)⟩
theorem lf_2_87 : z_Fl "RoadCounts$Network" 87 3 2 := ⟨_, rfl, by decide, Or.inr ⟨"RoadCounts", List.mem_filter.mpr ⟨(List.mem_append_right _ (List.mem_of_getElem? (i := 234) (by decide +kernel))), rfl⟩⟩⟩
theorem lf_7_169 : z_Fl "RoadCounts" 169 3 2 := ⟨_, rfl, by decide, Or.inr ⟨"RoadCounts", List.mem_filter.mpr ⟨(List.mem_append_right _ (List.mem_of_getElem? (i := 235) (by decide +kernel))), rfl⟩⟩⟩
theorem lf_3_12 : z_Fl "RoadCounts$Road" 12 3 3 := ⟨_, rfl, by decide, Or.inl (z_inT (List.mem_append_right _ (List.mem_of_getElem? (i := 236) (by decide +kernel))) rfl)⟩
theorem lf_7_85 : z_Fl "RoadCounts" 85 3 3 := ⟨_, rfl, by decide, Or.inr ⟨"RoadCounts", List.mem_filter.mpr ⟨(List.mem_append_right _ (List.mem_of_getElem? (i := 237) (by decide +kernel))), rfl⟩⟩⟩
theorem lf_2_55 : z_Fl "RoadCounts$Network" 55 3 3 := ⟨_, rfl, by decide, Or.inr ⟨"RoadCounts", List.mem_filter.mpr ⟨(List.mem_append_right _ (List.mem_of_getElem? (i := 238) (by decide +kernel))), rfl⟩⟩⟩
theorem lf_3_18 : z_Fl "RoadCounts$Road" 18 3 4 := ⟨_, rfl, by decide, Or.inl (z_inT (List.mem_append_right _ (List.mem_of_getElem? (i := 239) (by decide +kernel))) rfl)⟩
theorem lf_7_152 : z_Fl "RoadCounts" 152 3 4 := ⟨_, rfl, by decide, Or.inr ⟨"RoadCounts", List.mem_filter.mpr ⟨(List.mem_append_right _ (List.mem_of_getElem? (i := 240) (by decide +kernel))), rfl⟩⟩⟩
theorem lf_7_78 : z_Fl "RoadCounts" 78 3 5 := ⟨_, rfl, by decide, Or.inr ⟨"RoadCounts", List.mem_filter.mpr ⟨(List.mem_append_right _ (List.mem_of_getElem? (i := 241) (by decide +kernel))), rfl⟩⟩⟩
theorem lf_2_59 : z_Fl "RoadCounts$Network" 59 3 5 := ⟨_, rfl, by decide, Or.inr ⟨"RoadCounts", List.mem_filter.mpr ⟨(List.mem_append_right _ (List.mem_of_getElem? (i := 242) (by decide +kernel))), rfl⟩⟩⟩
theorem lm_L_32 : z_MV "RoadCountsLaw" 32 M7_shape 2 7 := ⟨⟨wc_M7_shape, wi_7, ⟨by decide +kernel, by decide +kernel⟩, by decide +kernel, Or.inl (z_inT (List.mem_append_right _ (List.mem_of_getElem? (i := 256) (by decide +kernel))) rfl)⟩, wv_M7_shape, ws_M7_shape, _, rfl, rfl⟩
theorem lm_7_74 : z_MV "RoadCounts" 74 M2_at 1 2 := ⟨⟨wc_M2_at, wi_2, ⟨by decide +kernel, by decide +kernel⟩, by decide +kernel, Or.inl (z_inT (List.mem_append_right _ (List.mem_of_getElem? (i := 260) (by decide +kernel))) rfl)⟩, wv_M2_at, ws_M2_at, _, rfl, rfl⟩
theorem lm_2_38 : z_MS "RoadCounts$Network" 38 M7_isBelow 2 := ⟨⟨wc_M7_isBelow, wi_7, ⟨by decide +kernel, by decide +kernel⟩, by decide +kernel, Or.inr ⟨"RoadCounts", List.mem_filter.mpr ⟨(List.mem_append_right _ (List.mem_of_getElem? (i := 264) (by decide +kernel))), rfl⟩⟩⟩, wt_M7_isBelow⟩
theorem lm_L_37 : z_MV "RoadCountsLaw" 37 M7_count 3 7 := ⟨⟨wc_M7_count, wi_7, ⟨by decide +kernel, by decide +kernel⟩, by decide +kernel, Or.inl (z_inT (List.mem_append_right _ (List.mem_of_getElem? (i := 265) (by decide +kernel))) rfl)⟩, wv_M7_count, ws_M7_count, _, rfl, rfl⟩
theorem lk_7_84 : Cond.constant "RoadCounts" 84 (100000) ∈ z_T := (z_inT (List.mem_append_right _ (List.mem_of_getElem? (i := 269) (by decide +kernel))) rfl)
theorem lm_7_89 : z_MV "RoadCounts" 89 M1_put 2 1 := ⟨⟨wc_M1_put, wi_1, ⟨by decide +kernel, by decide +kernel⟩, by decide +kernel, Or.inl (z_inT (List.mem_append_right _ (List.mem_of_getElem? (i := 270) (by decide +kernel))) rfl)⟩, wv_M1_put, ws_M1_put, _, rfl, rfl⟩
theorem lm_1_18 : z_MV "RoadCounts$Counts" 18 M1_placeOf 1 1 := ⟨⟨wc_M1_placeOf, wi_1, ⟨by decide +kernel, by decide +kernel⟩, by decide +kernel, Or.inl (z_inT (List.mem_append_right _ (List.mem_of_getElem? (i := 274) (by decide +kernel))) rfl)⟩, wv_M1_placeOf, ws_M1_placeOf, _, rfl, rfl⟩
theorem lm_L_41 : z_MV "RoadCountsLaw" 41 M7_year 1 7 := ⟨⟨wc_M7_year, wi_7, ⟨by decide +kernel, by decide +kernel⟩, by decide +kernel, Or.inl (z_inT (List.mem_append_right _ (List.mem_of_getElem? (i := 278) (by decide +kernel))) rfl)⟩, wv_M7_year, ws_M7_year, _, rfl, rfl⟩
theorem lk_7_94 : Cond.constantLong "RoadCounts" 94 (-1) ∈ z_T := (z_inT (List.mem_append_right _ (List.mem_of_getElem? (i := 282) (by decide +kernel))) rfl)
theorem lm_7_96 : z_MV "RoadCounts" 96 M1_loadOfAll 2 1 := ⟨⟨wc_M1_loadOfAll, wi_1, ⟨by decide +kernel, by decide +kernel⟩, by decide +kernel, Or.inl (z_inT (List.mem_append_right _ (List.mem_of_getElem? (i := 283) (by decide +kernel))) rfl)⟩, wv_M1_loadOfAll, ws_M1_loadOfAll, _, rfl, rfl⟩
theorem lm_1_30 : z_MV "RoadCounts$Counts" 30 M1_usedShares 2 1 := ⟨⟨wc_M1_usedShares, wi_1, ⟨by decide +kernel, by decide +kernel⟩, by decide +kernel, Or.inl (z_inT (List.mem_append_right _ (List.mem_of_getElem? (i := 287) (by decide +kernel))) rfl)⟩, wv_M1_usedShares, ws_M1_usedShares, _, rfl, rfl⟩
theorem lm_1_26 : z_MV "RoadCounts$Counts" 26 M1_isUsed 2 1 := ⟨⟨wc_M1_isUsed, wi_1, ⟨by decide +kernel, by decide +kernel⟩, by decide +kernel, Or.inl (z_inT (List.mem_append_right _ (List.mem_of_getElem? (i := 291) (by decide +kernel))) rfl)⟩, wv_M1_isUsed, ws_M1_isUsed, _, rfl, rfl⟩
theorem lm_1_46 : z_MV "RoadCounts$Counts" 46 M0_shareOf 2 0 := ⟨⟨wc_M0_shareOf, wi_0, ⟨by decide +kernel, by decide +kernel⟩, by decide +kernel, Or.inl (z_inT (List.mem_append_right _ (List.mem_of_getElem? (i := 295) (by decide +kernel))) rfl)⟩, wv_M0_shareOf, ws_M0_shareOf, _, rfl, rfl⟩
theorem lm_1_34 : z_MV "RoadCounts$Counts" 34 M1_usedTotal 1 1 := ⟨⟨wc_M1_usedTotal, wi_1, ⟨by decide +kernel, by decide +kernel⟩, by decide +kernel, Or.inl (z_inT (List.mem_append_right _ (List.mem_of_getElem? (i := 299) (by decide +kernel))) rfl)⟩, wv_M1_usedTotal, ws_M1_usedTotal, _, rfl, rfl⟩
theorem lm_1_38 : z_MV "RoadCounts$Counts" 38 M0_wholeOf 1 0 := ⟨⟨wc_M0_wholeOf, wi_0, ⟨by decide +kernel, by decide +kernel⟩, by decide +kernel, Or.inl (z_inT (List.mem_append_right _ (List.mem_of_getElem? (i := 303) (by decide +kernel))) rfl)⟩, wv_M0_wholeOf, ws_M0_wholeOf, _, rfl, rfl⟩
theorem lk_0_31 : Cond.constantLong "RoadCounts$Almanac" 31 (4) ∈ z_T := (z_inT (List.mem_append_right _ (List.mem_of_getElem? (i := 307) (by decide +kernel))) rfl)
theorem lm_0_33 : z_MV "RoadCounts$Almanac" 33 M0_shareOf 2 0 := ⟨⟨wc_M0_shareOf, wi_0, ⟨by decide +kernel, by decide +kernel⟩, by decide +kernel, Or.inl (z_inT (List.mem_append_right _ (List.mem_of_getElem? (i := 308) (by decide +kernel))) rfl)⟩, wv_M0_shareOf, ws_M0_shareOf, _, rfl, rfl⟩
theorem lk_1_44 : Cond.constantLong "RoadCounts$Counts" 44 (-1) ∈ z_T := (z_inT (List.mem_append_right _ (List.mem_of_getElem? (i := 309) (by decide +kernel))) rfl)
theorem lm_L_46 : z_MV "RoadCountsLaw" 46 M7_span 2 7 := ⟨⟨wc_M7_span, wi_7, ⟨by decide +kernel, by decide +kernel⟩, by decide +kernel, Or.inl (z_inT (List.mem_append_right _ (List.mem_of_getElem? (i := 310) (by decide +kernel))) rfl)⟩, wv_M7_span, ws_M7_span, _, rfl, rfl⟩
theorem lm_7_100 : z_MV "RoadCounts" 100 M1_loadAtEnd 3 1 := ⟨⟨wc_M1_loadAtEnd, wi_1, ⟨by decide +kernel, by decide +kernel⟩, by decide +kernel, Or.inl (z_inT (List.mem_append_right _ (List.mem_of_getElem? (i := 314) (by decide +kernel))) rfl)⟩, wv_M1_loadAtEnd, ws_M1_loadAtEnd, _, rfl, rfl⟩
theorem lm_L_51 : z_MV "RoadCountsLaw" 51 M7_best 1 7 := ⟨⟨wc_M7_best, wi_7, ⟨by decide +kernel, by decide +kernel⟩, by decide +kernel, Or.inl (z_inT (List.mem_append_right _ (List.mem_of_getElem? (i := 318) (by decide +kernel))) rfl)⟩, wv_M7_best, ws_M7_best, _, rfl, rfl⟩
theorem lm_7_104 : z_MV "RoadCounts" 104 M1_bestShape 1 1 := ⟨⟨wc_M1_bestShape, wi_1, ⟨by decide +kernel, by decide +kernel⟩, by decide +kernel, Or.inl (z_inT (List.mem_append_right _ (List.mem_of_getElem? (i := 322) (by decide +kernel))) rfl)⟩, wv_M1_bestShape, ws_M1_bestShape, _, rfl, rfl⟩
theorem lm_1_50 : z_MV "RoadCounts$Counts" 50 M1_used 1 1 := ⟨⟨wc_M1_used, wi_1, ⟨by decide +kernel, by decide +kernel⟩, by decide +kernel, Or.inl (z_inT (List.mem_append_right _ (List.mem_of_getElem? (i := 326) (by decide +kernel))) rfl)⟩, wv_M1_used, ws_M1_used, _, rfl, rfl⟩
theorem lm_1_54 : z_MV "RoadCounts$Counts" 54 M1_misfitTimesShares 3 1 := ⟨⟨wc_M1_misfitTimesShares, wi_1, ⟨by decide +kernel, by decide +kernel⟩, by decide +kernel, Or.inl (z_inT (List.mem_append_right _ (List.mem_of_getElem? (i := 330) (by decide +kernel))) rfl)⟩, wv_M1_misfitTimesShares, ws_M1_misfitTimesShares, _, rfl, rfl⟩
theorem lm_1_58 : z_MS "RoadCounts$Counts" 58 MA_abs 1 := ⟨⟨wc_MA_abs, wi_A, ⟨by decide +kernel, by decide +kernel⟩, by decide +kernel, Or.inl (z_inT (List.mem_append_right _ (List.mem_of_getElem? (i := 334) (by decide +kernel))) rfl)⟩, wt_MA_abs⟩
theorem lm_L_56 : z_MV "RoadCountsLaw" 56 M7_how 1 7 := ⟨⟨wc_M7_how, wi_7, ⟨by decide +kernel, by decide +kernel⟩, by decide +kernel, Or.inl (z_inT (List.mem_append_right _ (List.mem_of_getElem? (i := 337) (by decide +kernel))) rfl)⟩, wv_M7_how, ws_M7_how, _, rfl, rfl⟩
theorem lm_7_108 : z_MV "RoadCounts" 108 M2_settle 1 2 := ⟨⟨wc_M2_settle, wi_2, ⟨by decide +kernel, by decide +kernel⟩, by decide +kernel, Or.inl (z_inT (List.mem_append_right _ (List.mem_of_getElem? (i := 341) (by decide +kernel))) rfl)⟩, wv_M2_settle, ws_M2_settle, _, rfl, rfl⟩
theorem lm_2_62 : z_MV "RoadCounts$Network" 62 M1_loadOfAll 2 1 := ⟨⟨wc_M1_loadOfAll, wi_1, ⟨by decide +kernel, by decide +kernel⟩, by decide +kernel, Or.inl (z_inT (List.mem_append_right _ (List.mem_of_getElem? (i := 345) (by decide +kernel))) rfl)⟩, wv_M1_loadOfAll, ws_M1_loadOfAll, _, rfl, rfl⟩
theorem lk_2_68 : Cond.constantLong "RoadCounts$Network" 68 (-1) ∈ z_T := (z_inT (List.mem_append_right _ (List.mem_of_getElem? (i := 346) (by decide +kernel))) rfl)
theorem lm_2_70 : z_MV "RoadCounts$Network" 70 M2_follow 1 2 := ⟨⟨wc_M2_follow, wi_2, ⟨by decide +kernel, by decide +kernel⟩, by decide +kernel, Or.inl (z_inT (List.mem_append_right _ (List.mem_of_getElem? (i := 347) (by decide +kernel))) rfl)⟩, wv_M2_follow, ws_M2_follow, _, rfl, rfl⟩
theorem lm_2_90 : z_MS "RoadCounts$Network" 90 MI_bitCount 1 := ⟨⟨wc_MI_bitCount, wi_I, ⟨by decide +kernel, by decide +kernel⟩, by decide +kernel, Or.inl (z_inT (List.mem_append_right _ (List.mem_of_getElem? (i := 351) (by decide +kernel))) rfl)⟩, wt_MI_bitCount⟩
theorem lk_I_265 : Cond.constant "java/lang/Integer" 265 (1431655765) ∈ z_T := (z_inT (List.mem_append_right _ (List.mem_of_getElem? (i := 354) (by decide +kernel))) rfl)
theorem lk_I_266 : Cond.constant "java/lang/Integer" 266 (858993459) ∈ z_T := (z_inT (List.mem_append_right _ (List.mem_of_getElem? (i := 355) (by decide +kernel))) rfl)
theorem lk_I_267 : Cond.constant "java/lang/Integer" 267 (252645135) ∈ z_T := (z_inT (List.mem_append_right _ (List.mem_of_getElem? (i := 356) (by decide +kernel))) rfl)
theorem lm_2_95 : z_MS "RoadCounts$Network" 95 MI_numberOfTrailingZeros 1 := ⟨⟨wc_MI_numberOfTrailingZeros, wi_I, ⟨by decide +kernel, by decide +kernel⟩, by decide +kernel, Or.inl (z_inT (List.mem_append_right _ (List.mem_of_getElem? (i := 357) (by decide +kernel))) rfl)⟩, wt_MI_numberOfTrailingZeros⟩
theorem lk_I_264 : Cond.constant "java/lang/Integer" 264 (65536) ∈ z_T := (z_inT (List.mem_append_right _ (List.mem_of_getElem? (i := 360) (by decide +kernel))) rfl)
theorem lm_2_77 : z_MV "RoadCounts$Network" 77 M2_surplus 1 2 := ⟨⟨wc_M2_surplus, wi_2, ⟨by decide +kernel, by decide +kernel⟩, by decide +kernel, Or.inl (z_inT (List.mem_append_right _ (List.mem_of_getElem? (i := 361) (by decide +kernel))) rfl)⟩, wv_M2_surplus, ws_M2_surplus, _, rfl, rfl⟩
theorem lm_2_48 : z_MV "RoadCounts$Network" 48 M2_isTold 1 2 := ⟨⟨wc_M2_isTold, wi_2, ⟨by decide +kernel, by decide +kernel⟩, by decide +kernel, Or.inl (z_inT (List.mem_append_right _ (List.mem_of_getElem? (i := 365) (by decide +kernel))) rfl)⟩, wv_M2_isTold, ws_M2_isTold, _, rfl, rfl⟩
theorem lm_7_112 : z_MV "RoadCounts" 112 M2_isKnown 1 2 := ⟨⟨wc_M2_isKnown, wi_2, ⟨by decide +kernel, by decide +kernel⟩, by decide +kernel, Or.inl (z_inT (List.mem_append_right _ (List.mem_of_getElem? (i := 369) (by decide +kernel))) rfl)⟩, wv_M2_isKnown, ws_M2_isKnown, _, rfl, rfl⟩
theorem lm_7_115 : z_MV "RoadCounts" 115 M2_isTold 1 2 := ⟨⟨wc_M2_isTold, wi_2, ⟨by decide +kernel, by decide +kernel⟩, by decide +kernel, Or.inl (z_inT (List.mem_append_right _ (List.mem_of_getElem? (i := 373) (by decide +kernel))) rfl)⟩, wv_M2_isTold, ws_M2_isTold, _, rfl, rfl⟩
theorem lm_L_60 : z_MV "RoadCountsLaw" 60 M7_load 1 7 := ⟨⟨wc_M7_load, wi_7, ⟨by decide +kernel, by decide +kernel⟩, by decide +kernel, Or.inl (z_inT (List.mem_append_right _ (List.mem_of_getElem? (i := 374) (by decide +kernel))) rfl)⟩, wv_M7_load, ws_M7_load, _, rfl, rfl⟩
theorem lm_7_118 : z_MV "RoadCounts" 118 M2_loadOf 1 2 := ⟨⟨wc_M2_loadOf, wi_2, ⟨by decide +kernel, by decide +kernel⟩, by decide +kernel, Or.inl (z_inT (List.mem_append_right _ (List.mem_of_getElem? (i := 378) (by decide +kernel))) rfl)⟩, wv_M2_loadOf, ws_M2_loadOf, _, rfl, rfl⟩
theorem lm_L_64 : z_MV "RoadCountsLaw" 64 M7_balances 1 7 := ⟨⟨wc_M7_balances, wi_7, ⟨by decide +kernel, by decide +kernel⟩, by decide +kernel, Or.inl (z_inT (List.mem_append_right _ (List.mem_of_getElem? (i := 382) (by decide +kernel))) rfl)⟩, wv_M7_balances, ws_M7_balances, _, rfl, rfl⟩
theorem lm_7_122 : z_MV "RoadCounts" 122 M2_isAllToldAt 1 2 := ⟨⟨wc_M2_isAllToldAt, wi_2, ⟨by decide +kernel, by decide +kernel⟩, by decide +kernel, Or.inl (z_inT (List.mem_append_right _ (List.mem_of_getElem? (i := 386) (by decide +kernel))) rfl)⟩, wv_M2_isAllToldAt, ws_M2_isAllToldAt, _, rfl, rfl⟩
theorem lm_L_68 : z_MV "RoadCountsLaw" 68 M7_balance 1 7 := ⟨⟨wc_M7_balance, wi_7, ⟨by decide +kernel, by decide +kernel⟩, by decide +kernel, Or.inl (z_inT (List.mem_append_right _ (List.mem_of_getElem? (i := 390) (by decide +kernel))) rfl)⟩, wv_M7_balance, ws_M7_balance, _, rfl, rfl⟩
theorem lm_7_125 : z_MV "RoadCounts" 125 M2_surplus 1 2 := ⟨⟨wc_M2_surplus, wi_2, ⟨by decide +kernel, by decide +kernel⟩, by decide +kernel, Or.inl (z_inT (List.mem_append_right _ (List.mem_of_getElem? (i := 394) (by decide +kernel))) rfl)⟩, wv_M2_surplus, ws_M2_surplus, _, rfl, rfl⟩
theorem lm_L_72 : z_MV "RoadCountsLaw" 72 M7_does 1 7 := ⟨⟨wc_M7_does, wi_7, ⟨by decide +kernel, by decide +kernel⟩, by decide +kernel, Or.inl (z_inT (List.mem_append_right _ (List.mem_of_getElem? (i := 395) (by decide +kernel))) rfl)⟩, wv_M7_does, ws_M7_does, _, rfl, rfl⟩
theorem lm_7_128 : z_MV "RoadCounts" 128 M2_hasAll 1 2 := ⟨⟨wc_M2_hasAll, wi_2, ⟨by decide +kernel, by decide +kernel⟩, by decide +kernel, Or.inl (z_inT (List.mem_append_right _ (List.mem_of_getElem? (i := 399) (by decide +kernel))) rfl)⟩, wv_M2_hasAll, ws_M2_hasAll, _, rfl, rfl⟩
theorem lm_7_131 : z_MV "RoadCounts" 131 M2_isEnough 1 2 := ⟨⟨wc_M2_isEnough, wi_2, ⟨by decide +kernel, by decide +kernel⟩, by decide +kernel, Or.inl (z_inT (List.mem_append_right _ (List.mem_of_getElem? (i := 403) (by decide +kernel))) rfl)⟩, wv_M2_isEnough, ws_M2_isEnough, _, rfl, rfl⟩
theorem lm_L_76 : z_MV "RoadCountsLaw" 76 M7_plan 0 7 := ⟨⟨wc_M7_plan, wi_7, ⟨by decide +kernel, by decide +kernel⟩, by decide +kernel, Or.inl (z_inT (List.mem_append_right _ (List.mem_of_getElem? (i := 407) (by decide +kernel))) rfl)⟩, wv_M7_plan, ws_M7_plan, _, rfl, rfl⟩
theorem lm_7_134 : z_MV "RoadCounts" 134 M2_cheapestEnough 0 2 := ⟨⟨wc_M2_cheapestEnough, wi_2, ⟨by decide +kernel, by decide +kernel⟩, by decide +kernel, Or.inl (z_inT (List.mem_append_right _ (List.mem_of_getElem? (i := 411) (by decide +kernel))) rfl)⟩, wv_M2_cheapestEnough, ws_M2_cheapestEnough, _, rfl, rfl⟩
theorem lm_2_81 : z_MV "RoadCounts$Network" 81 M2_dearestOutside 1 2 := ⟨⟨wc_M2_dearestOutside, wi_2, ⟨by decide +kernel, by decide +kernel⟩, by decide +kernel, Or.inl (z_inT (List.mem_append_right _ (List.mem_of_getElem? (i := 415) (by decide +kernel))) rfl)⟩, wv_M2_dearestOutside, ws_M2_dearestOutside, _, rfl, rfl⟩
theorem lm_2_84 : z_MV "RoadCounts$Network" 84 M2_isEnough 1 2 := ⟨⟨wc_M2_isEnough, wi_2, ⟨by decide +kernel, by decide +kernel⟩, by decide +kernel, Or.inl (z_inT (List.mem_append_right _ (List.mem_of_getElem? (i := 419) (by decide +kernel))) rfl)⟩, wv_M2_isEnough, ws_M2_isEnough, _, rfl, rfl⟩
theorem lm_L_81 : z_MV "RoadCountsLaw" 81 M7_feed 5 7 := ⟨⟨wc_M7_feed, wi_7, ⟨by decide +kernel, by decide +kernel⟩, by decide +kernel, Or.inl (z_inT (List.mem_append_right _ (List.mem_of_getElem? (i := 420) (by decide +kernel))) rfl)⟩, wv_M7_feed, ws_M7_feed, _, rfl, rfl⟩
theorem lm_7_141 : z_MV "RoadCounts" 141 M6_append 1 6 := ⟨⟨wc_M6_append, wi_6, ⟨by decide +kernel, by decide +kernel⟩, by decide +kernel, Or.inl (z_inT (List.mem_append_right _ (List.mem_of_getElem? (i := 424) (by decide +kernel))) rfl)⟩, wv_M6_append, ws_M6_append, _, rfl, rfl⟩
theorem lm_L_86 : z_MV "RoadCountsLaw" 86 M7_rules 1 7 := ⟨⟨wc_M7_rules, wi_7, ⟨by decide +kernel, by decide +kernel⟩, by decide +kernel, Or.inl (z_inT (List.mem_append_right _ (List.mem_of_getElem? (i := 428) (by decide +kernel))) rfl)⟩, wv_M7_rules, ws_M7_rules, _, rfl, rfl⟩
theorem lm_7_145 : z_MV "RoadCounts" 145 M5_read 2 5 := ⟨⟨wc_M5_read, wi_5, ⟨by decide +kernel, by decide +kernel⟩, by decide +kernel, Or.inl (z_inT (List.mem_append_right _ (List.mem_of_getElem? (i := 432) (by decide +kernel))) rfl)⟩, wv_M5_read, ws_M5_read, _, rfl, rfl⟩
theorem lm_5_27 : z_MV "RoadCounts$RulesReader" 27 M5_readClause 1 5 := ⟨⟨wc_M5_readClause, wi_5, ⟨by decide +kernel, by decide +kernel⟩, by decide +kernel, Or.inl (z_inT (List.mem_append_right _ (List.mem_of_getElem? (i := 436) (by decide +kernel))) rfl)⟩, wv_M5_readClause, ws_M5_readClause, _, rfl, rfl⟩
theorem lm_5_31 : z_MV "RoadCounts$RulesReader" 31 M5_sign 0 5 := ⟨⟨wc_M5_sign, wi_5, ⟨by decide +kernel, by decide +kernel⟩, by decide +kernel, Or.inl (z_inT (List.mem_append_right _ (List.mem_of_getElem? (i := 440) (by decide +kernel))) rfl)⟩, wv_M5_sign, ws_M5_sign, _, rfl, rfl⟩
theorem lm_5_60 : z_MV "RoadCounts$RulesReader" 60 M6_at 1 6 := ⟨⟨wc_M6_at, wi_6, ⟨by decide +kernel, by decide +kernel⟩, by decide +kernel, Or.inl (z_inT (List.mem_append_right _ (List.mem_of_getElem? (i := 444) (by decide +kernel))) rfl)⟩, wv_M6_at, ws_M6_at, _, rfl, rfl⟩
theorem lm_5_35 : z_MS "RoadCounts$RulesReader" 35 M5_isDigit 1 := ⟨⟨wc_M5_isDigit, wi_5, ⟨by decide +kernel, by decide +kernel⟩, by decide +kernel, Or.inl (z_inT (List.mem_append_right _ (List.mem_of_getElem? (i := 448) (by decide +kernel))) rfl)⟩, wt_M5_isDigit⟩
theorem lm_5_39 : z_MV "RoadCounts$RulesReader" 39 M4_addClause 1 4 := ⟨⟨wc_M4_addClause, wi_4, ⟨by decide +kernel, by decide +kernel⟩, by decide +kernel, Or.inl (z_inT (List.mem_append_right _ (List.mem_of_getElem? (i := 451) (by decide +kernel))) rfl)⟩, wv_M4_addClause, ws_M4_addClause, _, rfl, rfl⟩
theorem lm_5_43 : z_MV "RoadCounts$RulesReader" 43 M5_readSpans 1 5 := ⟨⟨wc_M5_readSpans, wi_5, ⟨by decide +kernel, by decide +kernel⟩, by decide +kernel, Or.inl (z_inT (List.mem_append_right _ (List.mem_of_getElem? (i := 455) (by decide +kernel))) rfl)⟩, wv_M5_readSpans, ws_M5_readSpans, _, rfl, rfl⟩
theorem lm_5_46 : z_MV "RoadCounts$RulesReader" 46 M5_readSpan 1 5 := ⟨⟨wc_M5_readSpan, wi_5, ⟨by decide +kernel, by decide +kernel⟩, by decide +kernel, Or.inl (z_inT (List.mem_append_right _ (List.mem_of_getElem? (i := 459) (by decide +kernel))) rfl)⟩, wv_M5_readSpan, ws_M5_readSpan, _, rfl, rfl⟩
theorem lm_5_49 : z_MV "RoadCounts$RulesReader" 49 M5_readNumber 1 5 := ⟨⟨wc_M5_readNumber, wi_5, ⟨by decide +kernel, by decide +kernel⟩, by decide +kernel, Or.inl (z_inT (List.mem_append_right _ (List.mem_of_getElem? (i := 463) (by decide +kernel))) rfl)⟩, wv_M5_readNumber, ws_M5_readNumber, _, rfl, rfl⟩
theorem lm_5_56 : z_MV "RoadCounts$RulesReader" 56 M4_addSpanToLast 2 4 := ⟨⟨wc_M4_addSpanToLast, wi_4, ⟨by decide +kernel, by decide +kernel⟩, by decide +kernel, Or.inl (z_inT (List.mem_append_right _ (List.mem_of_getElem? (i := 467) (by decide +kernel))) rfl)⟩, wv_M4_addSpanToLast, ws_M4_addSpanToLast, _, rfl, rfl⟩
theorem lm_L_90 : z_MV "RoadCountsLaw" 90 M7_pass 2 7 := ⟨⟨wc_M7_pass, wi_7, ⟨by decide +kernel, by decide +kernel⟩, by decide +kernel, Or.inl (z_inT (List.mem_append_right _ (List.mem_of_getElem? (i := 471) (by decide +kernel))) rfl)⟩, wv_M7_pass, ws_M7_pass, _, rfl, rfl⟩
theorem lm_7_149 : z_MV "RoadCounts" 149 M6_at 1 6 := ⟨⟨wc_M6_at, wi_6, ⟨by decide +kernel, by decide +kernel⟩, by decide +kernel, Or.inl (z_inT (List.mem_append_right _ (List.mem_of_getElem? (i := 475) (by decide +kernel))) rfl)⟩, wv_M6_at, ws_M6_at, _, rfl, rfl⟩
theorem lm_7_156 : z_MV "RoadCounts" 156 M4_kindOf 3 4 := ⟨⟨wc_M4_kindOf, wi_4, ⟨by decide +kernel, by decide +kernel⟩, by decide +kernel, Or.inl (z_inT (List.mem_append_right _ (List.mem_of_getElem? (i := 476) (by decide +kernel))) rfl)⟩, wv_M4_kindOf, ws_M4_kindOf, _, rfl, rfl⟩
theorem lm_4_30 : z_MV "RoadCounts$Rules" 30 M4_isWithin 3 4 := ⟨⟨wc_M4_isWithin, wi_4, ⟨by decide +kernel, by decide +kernel⟩, by decide +kernel, Or.inl (z_inT (List.mem_append_right _ (List.mem_of_getElem? (i := 480) (by decide +kernel))) rfl)⟩, wv_M4_isWithin, ws_M4_isWithin, _, rfl, rfl⟩
theorem lm_4_34 : z_MV "RoadCounts$Rules" 34 M6_at 1 6 := ⟨⟨wc_M6_at, wi_6, ⟨by decide +kernel, by decide +kernel⟩, by decide +kernel, Or.inl (z_inT (List.mem_append_right _ (List.mem_of_getElem? (i := 484) (by decide +kernel))) rfl)⟩, wv_M6_at, ws_M6_at, _, rfl, rfl⟩
theorem lm_L_95 : z_MV "RoadCountsLaw" 95 M7_kinds 2 7 := ⟨⟨wc_M7_kinds, wi_7, ⟨by decide +kernel, by decide +kernel⟩, by decide +kernel, Or.inl (z_inT (List.mem_append_right _ (List.mem_of_getElem? (i := 485) (by decide +kernel))) rfl)⟩, wv_M7_kinds, ws_M7_kinds, _, rfl, rfl⟩
theorem lm_L_99 : z_MV "RoadCountsLaw" 99 M7_whole 1 7 := ⟨⟨wc_M7_whole, wi_7, ⟨by decide +kernel, by decide +kernel⟩, by decide +kernel, Or.inl (z_inT (List.mem_append_right _ (List.mem_of_getElem? (i := 489) (by decide +kernel))) rfl)⟩, wv_M7_whole, ws_M7_whole, _, rfl, rfl⟩
theorem lm_7_160 : z_MV "RoadCounts" 160 M0_wholeOf 1 0 := ⟨⟨wc_M0_wholeOf, wi_0, ⟨by decide +kernel, by decide +kernel⟩, by decide +kernel, Or.inl (z_inT (List.mem_append_right _ (List.mem_of_getElem? (i := 493) (by decide +kernel))) rfl)⟩, wv_M0_wholeOf, ws_M0_wholeOf, _, rfl, rfl⟩
theorem lm_L_103 : z_MV "RoadCountsLaw" 103 M7_look 2 7 := ⟨⟨wc_M7_look, wi_7, ⟨by decide +kernel, by decide +kernel⟩, by decide +kernel, Or.inl (z_inT (List.mem_append_right _ (List.mem_of_getElem? (i := 494) (by decide +kernel))) rfl)⟩, wv_M7_look, ws_M7_look, _, rfl, rfl⟩
theorem lm_7_175 : z_MV "RoadCounts" 175 M1_used 1 1 := ⟨⟨wc_M1_used, wi_1, ⟨by decide +kernel, by decide +kernel⟩, by decide +kernel, Or.inl (z_inT (List.mem_append_right _ (List.mem_of_getElem? (i := 498) (by decide +kernel))) rfl)⟩, wv_M1_used, ws_M1_used, _, rfl, rfl⟩
theorem lm_7_178 : z_MV "RoadCounts" 178 M1_on 1 1 := ⟨⟨wc_M1_on, wi_1, ⟨by decide +kernel, by decide +kernel⟩, by decide +kernel, Or.inl (z_inT (List.mem_append_right _ (List.mem_of_getElem? (i := 499) (by decide +kernel))) rfl)⟩, wv_M1_on, ws_M1_on, _, rfl, rfl⟩
theorem lm_L_107 : z_MV "RoadCountsLaw" 107 M7_tell 1 7 := ⟨⟨wc_M7_tell, wi_7, ⟨by decide +kernel, by decide +kernel⟩, by decide +kernel, Or.inl (z_inT (List.mem_append_right _ (List.mem_of_getElem? (i := 503) (by decide +kernel))) rfl)⟩, wv_M7_tell, ws_M7_tell, _, rfl, rfl⟩
theorem lm_7_189 : z_MS "RoadCounts" 189 MI_bitCount 1 := ⟨⟨wc_MI_bitCount, wi_I, ⟨by decide +kernel, by decide +kernel⟩, by decide +kernel, Or.inl (z_inT (List.mem_append_right _ (List.mem_of_getElem? (i := 507) (by decide +kernel))) rfl)⟩, wt_MI_bitCount⟩
theorem lc_L_10 : Cond.classLink "RoadCountsLaw" 10 "RoadCountsModel" ∈ z_T := (z_inT (List.mem_append_right _ (List.mem_of_getElem? (i := 508) (by decide +kernel))) rfl)
theorem wn_8 : Cond.instantiable "RoadCountsModel" 27 ∈ z_T := (z_inT (List.mem_append_right _ (List.mem_of_getElem? (i := 509) (by decide +kernel))) rfl)
theorem lm_L_12 : z_MI "RoadCountsLaw" 12 M8_init 0 := ⟨⟨wc_M8_init, wi_8, ⟨by decide +kernel, by decide +kernel⟩, by decide +kernel, Or.inl (z_inT (List.mem_append_right _ (List.mem_of_getElem? (i := 510) (by decide +kernel))) rfl)⟩, wv_M8_init, rfl, rfl⟩
theorem lo_8_1 : Cond.methodLink "RoadCountsModel" 1 objectInit ∈ z_T := (z_inT (List.mem_append_right _ (List.mem_of_getElem? (i := 513) (by decide +kernel))) rfl)
theorem lf_8_7 : z_Fl "RoadCountsModel" 7 8 0 := ⟨_, rfl, by decide, Or.inl (z_inT (List.mem_append_right _ (List.mem_of_getElem? (i := 514) (by decide +kernel))) rfl)⟩
theorem lf_8_172 : z_Fl "RoadCountsModel" 172 8 1 := ⟨_, rfl, by decide, Or.inl (z_inT (List.mem_append_right _ (List.mem_of_getElem? (i := 515) (by decide +kernel))) rfl)⟩
theorem lf_8_70 : z_Fl "RoadCountsModel" 70 8 2 := ⟨_, rfl, by decide, Or.inl (z_inT (List.mem_append_right _ (List.mem_of_getElem? (i := 516) (by decide +kernel))) rfl)⟩
theorem lf_8_92 : z_Fl "RoadCountsModel" 92 8 3 := ⟨_, rfl, by decide, Or.inl (z_inT (List.mem_append_right _ (List.mem_of_getElem? (i := 517) (by decide +kernel))) rfl)⟩
theorem lf_8_13 : z_Fl "RoadCountsModel" 13 8 4 := ⟨_, rfl, by decide, Or.inl (z_inT (List.mem_append_right _ (List.mem_of_getElem? (i := 518) (by decide +kernel))) rfl)⟩
theorem lf_8_17 : z_Fl "RoadCountsModel" 17 8 5 := ⟨_, rfl, by decide, Or.inl (z_inT (List.mem_append_right _ (List.mem_of_getElem? (i := 519) (by decide +kernel))) rfl)⟩
theorem lf_8_21 : z_Fl "RoadCountsModel" 21 8 6 := ⟨_, rfl, by decide, Or.inl (z_inT (List.mem_append_right _ (List.mem_of_getElem? (i := 520) (by decide +kernel))) rfl)⟩
theorem lf_8_24 : z_Fl "RoadCountsModel" 24 8 7 := ⟨_, rfl, by decide, Or.inl (z_inT (List.mem_append_right _ (List.mem_of_getElem? (i := 521) (by decide +kernel))) rfl)⟩
theorem lf_8_27 : z_Fl "RoadCountsModel" 27 8 8 := ⟨_, rfl, by decide, Or.inl (z_inT (List.mem_append_right _ (List.mem_of_getElem? (i := 522) (by decide +kernel))) rfl)⟩
theorem lf_8_30 : z_Fl "RoadCountsModel" 30 8 9 := ⟨_, rfl, by decide, Or.inl (z_inT (List.mem_append_right _ (List.mem_of_getElem? (i := 523) (by decide +kernel))) rfl)⟩
theorem lf_8_33 : z_Fl "RoadCountsModel" 33 8 10 := ⟨_, rfl, by decide, Or.inl (z_inT (List.mem_append_right _ (List.mem_of_getElem? (i := 524) (by decide +kernel))) rfl)⟩
theorem lf_8_36 : z_Fl "RoadCountsModel" 36 8 11 := ⟨_, rfl, by decide, Or.inl (z_inT (List.mem_append_right _ (List.mem_of_getElem? (i := 525) (by decide +kernel))) rfl)⟩
theorem lf_8_39 : z_Fl "RoadCountsModel" 39 8 12 := ⟨_, rfl, by decide, Or.inl (z_inT (List.mem_append_right _ (List.mem_of_getElem? (i := 526) (by decide +kernel))) rfl)⟩
theorem lf_8_42 : z_Fl "RoadCountsModel" 42 8 13 := ⟨_, rfl, by decide, Or.inl (z_inT (List.mem_append_right _ (List.mem_of_getElem? (i := 527) (by decide +kernel))) rfl)⟩
theorem lf_8_215 : z_Fl "RoadCountsModel" 215 8 14 := ⟨_, rfl, by decide, Or.inl (z_inT (List.mem_append_right _ (List.mem_of_getElem? (i := 528) (by decide +kernel))) rfl)⟩
theorem lf_8_203 : z_Fl "RoadCountsModel" 203 8 15 := ⟨_, rfl, by decide, Or.inl (z_inT (List.mem_append_right _ (List.mem_of_getElem? (i := 529) (by decide +kernel))) rfl)⟩
theorem lf_8_45 : z_Fl "RoadCountsModel" 45 8 16 := ⟨_, rfl, by decide, Or.inl (z_inT (List.mem_append_right _ (List.mem_of_getElem? (i := 530) (by decide +kernel))) rfl)⟩
theorem lf_8_48 : z_Fl "RoadCountsModel" 48 8 17 := ⟨_, rfl, by decide, Or.inl (z_inT (List.mem_append_right _ (List.mem_of_getElem? (i := 531) (by decide +kernel))) rfl)⟩
theorem lf_8_51 : z_Fl "RoadCountsModel" 51 8 18 := ⟨_, rfl, by decide, Or.inl (z_inT (List.mem_append_right _ (List.mem_of_getElem? (i := 532) (by decide +kernel))) rfl)⟩
theorem lf_8_54 : z_Fl "RoadCountsModel" 54 8 19 := ⟨_, rfl, by decide, Or.inl (z_inT (List.mem_append_right _ (List.mem_of_getElem? (i := 533) (by decide +kernel))) rfl)⟩
theorem lf_8_57 : z_Fl "RoadCountsModel" 57 8 20 := ⟨_, rfl, by decide, Or.inl (z_inT (List.mem_append_right _ (List.mem_of_getElem? (i := 534) (by decide +kernel))) rfl)⟩
theorem lf_8_60 : z_Fl "RoadCountsModel" 60 8 21 := ⟨_, rfl, by decide, Or.inl (z_inT (List.mem_append_right _ (List.mem_of_getElem? (i := 535) (by decide +kernel))) rfl)⟩
theorem lf_8_63 : z_Fl "RoadCountsModel" 63 8 22 := ⟨_, rfl, by decide, Or.inl (z_inT (List.mem_append_right _ (List.mem_of_getElem? (i := 536) (by decide +kernel))) rfl)⟩
theorem lf_8_67 : z_Fl "RoadCountsModel" 67 8 23 := ⟨_, rfl, by decide, Or.inl (z_inT (List.mem_append_right _ (List.mem_of_getElem? (i := 537) (by decide +kernel))) rfl)⟩
theorem lf_8_179 : z_Fl "RoadCountsModel" 179 8 24 := ⟨_, rfl, by decide, Or.inl (z_inT (List.mem_append_right _ (List.mem_of_getElem? (i := 538) (by decide +kernel))) rfl)⟩
theorem lf_8_182 : z_Fl "RoadCountsModel" 182 8 25 := ⟨_, rfl, by decide, Or.inl (z_inT (List.mem_append_right _ (List.mem_of_getElem? (i := 539) (by decide +kernel))) rfl)⟩
theorem lf_8_185 : z_Fl "RoadCountsModel" 185 8 26 := ⟨_, rfl, by decide, Or.inl (z_inT (List.mem_append_right _ (List.mem_of_getElem? (i := 540) (by decide +kernel))) rfl)⟩
theorem wa_byte : Cond.arrayClass .byte ∈ z_T := (z_inT (List.mem_append_right _ (List.mem_of_getElem? (i := 596) (by decide +kernel))) rfl)
theorem lm_L_17 : z_MV "RoadCountsLaw" 17 M8_weekday 3 8 := ⟨⟨wc_M8_weekday, wi_8, ⟨by decide +kernel, by decide +kernel⟩, by decide +kernel, Or.inl (z_inT (List.mem_append_right _ (List.mem_of_getElem? (i := 597) (by decide +kernel))) rfl)⟩, wv_M8_weekday, ws_M8_weekday, _, rfl, rfl⟩
theorem lm_8_80 : z_MS "RoadCountsModel" 80 M8_isShape 1 := ⟨⟨wc_M8_isShape, wi_8, ⟨by decide +kernel, by decide +kernel⟩, by decide +kernel, Or.inl (z_inT (List.mem_append_right _ (List.mem_of_getElem? (i := 601) (by decide +kernel))) rfl)⟩, wt_M8_isShape⟩
theorem lk_8_78 : Cond.constantLong "RoadCountsModel" 78 (3) ∈ z_T := (z_inT (List.mem_append_right _ (List.mem_of_getElem? (i := 604) (by decide +kernel))) rfl)
theorem lm_8_74 : z_MS "RoadCountsModel" 74 M8_lies 3 := ⟨⟨wc_M8_lies, wi_8, ⟨by decide +kernel, by decide +kernel⟩, by decide +kernel, Or.inl (z_inT (List.mem_append_right _ (List.mem_of_getElem? (i := 605) (by decide +kernel))) rfl)⟩, wt_M8_lies⟩
theorem lk_8_84 : Cond.constantLong "RoadCountsModel" 84 (6) ∈ z_T := (z_inT (List.mem_append_right _ (List.mem_of_getElem? (i := 608) (by decide +kernel))) rfl)
theorem lk_8_86 : Cond.constantLong "RoadCountsModel" 86 (99) ∈ z_T := (z_inT (List.mem_append_right _ (List.mem_of_getElem? (i := 609) (by decide +kernel))) rfl)
theorem lm_L_21 : z_MV "RoadCountsLaw" 21 M8_month 3 8 := ⟨⟨wc_M8_month, wi_8, ⟨by decide +kernel, by decide +kernel⟩, by decide +kernel, Or.inl (z_inT (List.mem_append_right _ (List.mem_of_getElem? (i := 610) (by decide +kernel))) rfl)⟩, wv_M8_month, ws_M8_month, _, rfl, rfl⟩
theorem lk_8_88 : Cond.constantLong "RoadCountsModel" 88 (12) ∈ z_T := (z_inT (List.mem_append_right _ (List.mem_of_getElem? (i := 614) (by decide +kernel))) rfl)
theorem lm_L_26 : z_MV "RoadCountsLaw" 26 M8_holiday 1 8 := ⟨⟨wc_M8_holiday, wi_8, ⟨by decide +kernel, by decide +kernel⟩, by decide +kernel, Or.inl (z_inT (List.mem_append_right _ (List.mem_of_getElem? (i := 615) (by decide +kernel))) rfl)⟩, wv_M8_holiday, ws_M8_holiday, _, rfl, rfl⟩
theorem lk_8_90 : Cond.constantLong "RoadCountsModel" 90 (363) ∈ z_T := (z_inT (List.mem_append_right _ (List.mem_of_getElem? (i := 619) (by decide +kernel))) rfl)
theorem lm_L_102 : z_MV "RoadCountsLaw" 102 M8_whole 1 8 := ⟨⟨wc_M8_whole, wi_8, ⟨by decide +kernel, by decide +kernel⟩, by decide +kernel, Or.inl (z_inT (List.mem_append_right _ (List.mem_of_getElem? (i := 620) (by decide +kernel))) rfl)⟩, wv_M8_whole, ws_M8_whole, _, rfl, rfl⟩
theorem lm_8_99 : z_MV "RoadCountsModel" 99 M8_wholeOf 1 8 := ⟨⟨wc_M8_wholeOf, wi_8, ⟨by decide +kernel, by decide +kernel⟩, by decide +kernel, Or.inl (z_inT (List.mem_append_right _ (List.mem_of_getElem? (i := 624) (by decide +kernel))) rfl)⟩, wv_M8_wholeOf, ws_M8_wholeOf, _, rfl, rfl⟩
theorem lm_8_95 : z_MV "RoadCountsModel" 95 M8_share 2 8 := ⟨⟨wc_M8_share, wi_8, ⟨by decide +kernel, by decide +kernel⟩, by decide +kernel, Or.inl (z_inT (List.mem_append_right _ (List.mem_of_getElem? (i := 628) (by decide +kernel))) rfl)⟩, wv_M8_share, ws_M8_share, _, rfl, rfl⟩
theorem lk_8_103 : Cond.constantLong "RoadCountsModel" 103 (-1) ∈ z_T := (z_inT (List.mem_append_right _ (List.mem_of_getElem? (i := 632) (by decide +kernel))) rfl)
theorem lm_L_31 : z_MV "RoadCountsLaw" 31 M8_road 3 8 := ⟨⟨wc_M8_road, wi_8, ⟨by decide +kernel, by decide +kernel⟩, by decide +kernel, Or.inl (z_inT (List.mem_append_right _ (List.mem_of_getElem? (i := 633) (by decide +kernel))) rfl)⟩, wv_M8_road, ws_M8_road, _, rfl, rfl⟩
theorem lm_8_107 : z_MS "RoadCountsModel" 107 M8_isEnd 1 := ⟨⟨wc_M8_isEnd, wi_8, ⟨by decide +kernel, by decide +kernel⟩, by decide +kernel, Or.inl (z_inT (List.mem_append_right _ (List.mem_of_getElem? (i := 637) (by decide +kernel))) rfl)⟩, wt_M8_isEnd⟩
theorem lk_8_105 : Cond.constantLong "RoadCountsModel" 105 (7) ∈ z_T := (z_inT (List.mem_append_right _ (List.mem_of_getElem? (i := 640) (by decide +kernel))) rfl)
theorem lk_8_110 : Cond.constantLong "RoadCountsModel" 110 (9999) ∈ z_T := (z_inT (List.mem_append_right _ (List.mem_of_getElem? (i := 641) (by decide +kernel))) rfl)
theorem lm_L_36 : z_MV "RoadCountsLaw" 36 M8_shape 2 8 := ⟨⟨wc_M8_shape, wi_8, ⟨by decide +kernel, by decide +kernel⟩, by decide +kernel, Or.inl (z_inT (List.mem_append_right _ (List.mem_of_getElem? (i := 642) (by decide +kernel))) rfl)⟩, wv_M8_shape, ws_M8_shape, _, rfl, rfl⟩
theorem lm_8_112 : z_MV "RoadCountsModel" 112 M8_isRoad 1 8 := ⟨⟨wc_M8_isRoad, wi_8, ⟨by decide +kernel, by decide +kernel⟩, by decide +kernel, Or.inl (z_inT (List.mem_append_right _ (List.mem_of_getElem? (i := 646) (by decide +kernel))) rfl)⟩, wv_M8_isRoad, ws_M8_isRoad, _, rfl, rfl⟩
theorem lm_L_40 : z_MV "RoadCountsLaw" 40 M8_count 3 8 := ⟨⟨wc_M8_count, wi_8, ⟨by decide +kernel, by decide +kernel⟩, by decide +kernel, Or.inl (z_inT (List.mem_append_right _ (List.mem_of_getElem? (i := 650) (by decide +kernel))) rfl)⟩, wv_M8_count, ws_M8_count, _, rfl, rfl⟩
theorem lk_8_115 : Cond.constantLong "RoadCountsModel" 115 (100000) ∈ z_T := (z_inT (List.mem_append_right _ (List.mem_of_getElem? (i := 654) (by decide +kernel))) rfl)
theorem lm_L_45 : z_MV "RoadCountsLaw" 45 M8_year 1 8 := ⟨⟨wc_M8_year, wi_8, ⟨by decide +kernel, by decide +kernel⟩, by decide +kernel, Or.inl (z_inT (List.mem_append_right _ (List.mem_of_getElem? (i := 655) (by decide +kernel))) rfl)⟩, wv_M8_year, ws_M8_year, _, rfl, rfl⟩
theorem lm_8_127 : z_MV "RoadCountsModel" 127 M8_usedOf 1 8 := ⟨⟨wc_M8_usedOf, wi_8, ⟨by decide +kernel, by decide +kernel⟩, by decide +kernel, Or.inl (z_inT (List.mem_append_right _ (List.mem_of_getElem? (i := 659) (by decide +kernel))) rfl)⟩, wv_M8_usedOf, ws_M8_usedOf, _, rfl, rfl⟩
theorem lm_8_117 : z_MV "RoadCountsModel" 117 M8_isUsed 2 8 := ⟨⟨wc_M8_isUsed, wi_8, ⟨by decide +kernel, by decide +kernel⟩, by decide +kernel, Or.inl (z_inT (List.mem_append_right _ (List.mem_of_getElem? (i := 663) (by decide +kernel))) rfl)⟩, wv_M8_isUsed, ws_M8_isUsed, _, rfl, rfl⟩
theorem lm_8_131 : z_MV "RoadCountsModel" 131 M8_yearOf 1 8 := ⟨⟨wc_M8_yearOf, wi_8, ⟨by decide +kernel, by decide +kernel⟩, by decide +kernel, Or.inl (z_inT (List.mem_append_right _ (List.mem_of_getElem? (i := 667) (by decide +kernel))) rfl)⟩, wv_M8_yearOf, ws_M8_yearOf, _, rfl, rfl⟩
theorem lm_8_121 : z_MV "RoadCountsModel" 121 M8_countsOf 1 8 := ⟨⟨wc_M8_countsOf, wi_8, ⟨by decide +kernel, by decide +kernel⟩, by decide +kernel, Or.inl (z_inT (List.mem_append_right _ (List.mem_of_getElem? (i := 671) (by decide +kernel))) rfl)⟩, wv_M8_countsOf, ws_M8_countsOf, _, rfl, rfl⟩
theorem lm_8_124 : z_MV "RoadCountsModel" 124 M8_sharesOf 2 8 := ⟨⟨wc_M8_sharesOf, wi_8, ⟨by decide +kernel, by decide +kernel⟩, by decide +kernel, Or.inl (z_inT (List.mem_append_right _ (List.mem_of_getElem? (i := 675) (by decide +kernel))) rfl)⟩, wv_M8_sharesOf, ws_M8_sharesOf, _, rfl, rfl⟩
theorem lm_L_50 : z_MV "RoadCountsLaw" 50 M8_span 2 8 := ⟨⟨wc_M8_span, wi_8, ⟨by decide +kernel, by decide +kernel⟩, by decide +kernel, Or.inl (z_inT (List.mem_append_right _ (List.mem_of_getElem? (i := 679) (by decide +kernel))) rfl)⟩, wv_M8_span, ws_M8_span, _, rfl, rfl⟩
theorem lm_L_55 : z_MV "RoadCountsLaw" 55 M8_best 1 8 := ⟨⟨wc_M8_best, wi_8, ⟨by decide +kernel, by decide +kernel⟩, by decide +kernel, Or.inl (z_inT (List.mem_append_right _ (List.mem_of_getElem? (i := 683) (by decide +kernel))) rfl)⟩, wv_M8_best, ws_M8_best, _, rfl, rfl⟩
theorem lm_8_138 : z_MV "RoadCountsModel" 138 M8_misfit 2 8 := ⟨⟨wc_M8_misfit, wi_8, ⟨by decide +kernel, by decide +kernel⟩, by decide +kernel, Or.inl (z_inT (List.mem_append_right _ (List.mem_of_getElem? (i := 687) (by decide +kernel))) rfl)⟩, wv_M8_misfit, ws_M8_misfit, _, rfl, rfl⟩
theorem lm_8_134 : z_MS "RoadCountsModel" 134 M8_size 1 := ⟨⟨wc_M8_size, wi_8, ⟨by decide +kernel, by decide +kernel⟩, by decide +kernel, Or.inl (z_inT (List.mem_append_right _ (List.mem_of_getElem? (i := 691) (by decide +kernel))) rfl)⟩, wt_M8_size⟩
theorem lm_L_59 : z_MV "RoadCountsLaw" 59 M8_how 1 8 := ⟨⟨wc_M8_how, wi_8, ⟨by decide +kernel, by decide +kernel⟩, by decide +kernel, Or.inl (z_inT (List.mem_append_right _ (List.mem_of_getElem? (i := 694) (by decide +kernel))) rfl)⟩, wv_M8_how, ws_M8_how, _, rfl, rfl⟩
theorem lm_8_153 : z_MV "RoadCountsModel" 153 M8_knownRoads 0 8 := ⟨⟨wc_M8_knownRoads, wi_8, ⟨by decide +kernel, by decide +kernel⟩, by decide +kernel, Or.inl (z_inT (List.mem_append_right _ (List.mem_of_getElem? (i := 698) (by decide +kernel))) rfl)⟩, wv_M8_knownRoads, ws_M8_knownRoads, _, rfl, rfl⟩
theorem lm_8_141 : z_MS "RoadCountsModel" 141 M8_has 2 := ⟨⟨wc_M8_has, wi_8, ⟨by decide +kernel, by decide +kernel⟩, by decide +kernel, Or.inl (z_inT (List.mem_append_right _ (List.mem_of_getElem? (i := 702) (by decide +kernel))) rfl)⟩, wt_M8_has⟩
theorem lm_8_160 : z_MV "RoadCountsModel" 160 M8_works 0 8 := ⟨⟨wc_M8_works, wi_8, ⟨by decide +kernel, by decide +kernel⟩, by decide +kernel, Or.inl (z_inT (List.mem_append_right _ (List.mem_of_getElem? (i := 705) (by decide +kernel))) rfl)⟩, wv_M8_works, ws_M8_works, _, rfl, rfl⟩
theorem lm_8_157 : z_MV "RoadCountsModel" 157 M8_grows 1 8 := ⟨⟨wc_M8_grows, wi_8, ⟨by decide +kernel, by decide +kernel⟩, by decide +kernel, Or.inl (z_inT (List.mem_append_right _ (List.mem_of_getElem? (i := 709) (by decide +kernel))) rfl)⟩, wv_M8_grows, ws_M8_grows, _, rfl, rfl⟩
theorem lm_8_144 : z_MV "RoadCountsModel" 144 M8_roadsAt 1 8 := ⟨⟨wc_M8_roadsAt, wi_8, ⟨by decide +kernel, by decide +kernel⟩, by decide +kernel, Or.inl (z_inT (List.mem_append_right _ (List.mem_of_getElem? (i := 713) (by decide +kernel))) rfl)⟩, wv_M8_roadsAt, ws_M8_roadsAt, _, rfl, rfl⟩
theorem lm_8_147 : z_MS "RoadCountsModel" 147 M8_sizeOf 1 := ⟨⟨wc_M8_sizeOf, wi_8, ⟨by decide +kernel, by decide +kernel⟩, by decide +kernel, Or.inl (z_inT (List.mem_append_right _ (List.mem_of_getElem? (i := 717) (by decide +kernel))) rfl)⟩, wt_M8_sizeOf⟩
theorem lm_8_150 : z_MV "RoadCountsModel" 150 M8_excess 2 8 := ⟨⟨wc_M8_excess, wi_8, ⟨by decide +kernel, by decide +kernel⟩, by decide +kernel, Or.inl (z_inT (List.mem_append_right _ (List.mem_of_getElem? (i := 720) (by decide +kernel))) rfl)⟩, wv_M8_excess, ws_M8_excess, _, rfl, rfl⟩
theorem lm_L_63 : z_MV "RoadCountsLaw" 63 M8_load 1 8 := ⟨⟨wc_M8_load, wi_8, ⟨by decide +kernel, by decide +kernel⟩, by decide +kernel, Or.inl (z_inT (List.mem_append_right _ (List.mem_of_getElem? (i := 724) (by decide +kernel))) rfl)⟩, wv_M8_load, ws_M8_load, _, rfl, rfl⟩
theorem lm_L_67 : z_MV "RoadCountsLaw" 67 M8_balances 1 8 := ⟨⟨wc_M8_balances, wi_8, ⟨by decide +kernel, by decide +kernel⟩, by decide +kernel, Or.inl (z_inT (List.mem_append_right _ (List.mem_of_getElem? (i := 728) (by decide +kernel))) rfl)⟩, wv_M8_balances, ws_M8_balances, _, rfl, rfl⟩
theorem lm_8_163 : z_MV "RoadCountsModel" 163 M8_isBalanced 2 8 := ⟨⟨wc_M8_isBalanced, wi_8, ⟨by decide +kernel, by decide +kernel⟩, by decide +kernel, Or.inl (z_inT (List.mem_append_right _ (List.mem_of_getElem? (i := 732) (by decide +kernel))) rfl)⟩, wv_M8_isBalanced, ws_M8_isBalanced, _, rfl, rfl⟩
theorem lm_L_71 : z_MV "RoadCountsLaw" 71 M8_balance 1 8 := ⟨⟨wc_M8_balance, wi_8, ⟨by decide +kernel, by decide +kernel⟩, by decide +kernel, Or.inl (z_inT (List.mem_append_right _ (List.mem_of_getElem? (i := 736) (by decide +kernel))) rfl)⟩, wv_M8_balance, ws_M8_balance, _, rfl, rfl⟩
theorem lm_L_75 : z_MV "RoadCountsLaw" 75 M8_does 1 8 := ⟨⟨wc_M8_does, wi_8, ⟨by decide +kernel, by decide +kernel⟩, by decide +kernel, Or.inl (z_inT (List.mem_append_right _ (List.mem_of_getElem? (i := 740) (by decide +kernel))) rfl)⟩, wv_M8_does, ws_M8_does, _, rfl, rfl⟩
theorem lm_8_166 : z_MV "RoadCountsModel" 166 M8_lists 0 8 := ⟨⟨wc_M8_lists, wi_8, ⟨by decide +kernel, by decide +kernel⟩, by decide +kernel, Or.inl (z_inT (List.mem_append_right _ (List.mem_of_getElem? (i := 744) (by decide +kernel))) rfl)⟩, wv_M8_lists, ws_M8_lists, _, rfl, rfl⟩
theorem lm_8_169 : z_MV "RoadCountsModel" 169 M8_doAll 1 8 := ⟨⟨wc_M8_doAll, wi_8, ⟨by decide +kernel, by decide +kernel⟩, by decide +kernel, Or.inl (z_inT (List.mem_append_right _ (List.mem_of_getElem? (i := 748) (by decide +kernel))) rfl)⟩, wv_M8_doAll, ws_M8_doAll, _, rfl, rfl⟩
theorem lm_L_80 : z_MV "RoadCountsLaw" 80 M8_plan 0 8 := ⟨⟨wc_M8_plan, wi_8, ⟨by decide +kernel, by decide +kernel⟩, by decide +kernel, Or.inl (z_inT (List.mem_append_right _ (List.mem_of_getElem? (i := 752) (by decide +kernel))) rfl)⟩, wv_M8_plan, ws_M8_plan, _, rfl, rfl⟩
theorem lm_L_85 : z_MV "RoadCountsLaw" 85 M8_feed 5 8 := ⟨⟨wc_M8_feed, wi_8, ⟨by decide +kernel, by decide +kernel⟩, by decide +kernel, Or.inl (z_inT (List.mem_append_right _ (List.mem_of_getElem? (i := 756) (by decide +kernel))) rfl)⟩, wv_M8_feed, ws_M8_feed, _, rfl, rfl⟩
theorem lm_8_175 : z_MV "RoadCountsModel" 175 M8_push 1 8 := ⟨⟨wc_M8_push, wi_8, ⟨by decide +kernel, by decide +kernel⟩, by decide +kernel, Or.inl (z_inT (List.mem_append_right _ (List.mem_of_getElem? (i := 760) (by decide +kernel))) rfl)⟩, wv_M8_push, ws_M8_push, _, rfl, rfl⟩
theorem lm_L_89 : z_MV "RoadCountsLaw" 89 M8_rules 1 8 := ⟨⟨wc_M8_rules, wi_8, ⟨by decide +kernel, by decide +kernel⟩, by decide +kernel, Or.inl (z_inT (List.mem_append_right _ (List.mem_of_getElem? (i := 764) (by decide +kernel))) rfl)⟩, wv_M8_rules, ws_M8_rules, _, rfl, rfl⟩
theorem lm_8_212 : z_MV "RoadCountsModel" 212 M8_clause 0 8 := ⟨⟨wc_M8_clause, wi_8, ⟨by decide +kernel, by decide +kernel⟩, by decide +kernel, Or.inl (z_inT (List.mem_append_right _ (List.mem_of_getElem? (i := 768) (by decide +kernel))) rfl)⟩, wv_M8_clause, ws_M8_clause, _, rfl, rfl⟩
theorem lm_8_195 : z_MV "RoadCountsModel" 195 M8_seesDigit 0 8 := ⟨⟨wc_M8_seesDigit, wi_8, ⟨by decide +kernel, by decide +kernel⟩, by decide +kernel, Or.inl (z_inT (List.mem_append_right _ (List.mem_of_getElem? (i := 772) (by decide +kernel))) rfl)⟩, wv_M8_seesDigit, ws_M8_seesDigit, _, rfl, rfl⟩
theorem lm_8_188 : z_MV "RoadCountsModel" 188 M8_here 0 8 := ⟨⟨wc_M8_here, wi_8, ⟨by decide +kernel, by decide +kernel⟩, by decide +kernel, Or.inl (z_inT (List.mem_append_right _ (List.mem_of_getElem? (i := 776) (by decide +kernel))) rfl)⟩, wv_M8_here, ws_M8_here, _, rfl, rfl⟩
theorem lk_8_191 : Cond.constantLong "RoadCountsModel" 191 (48) ∈ z_T := (z_inT (List.mem_append_right _ (List.mem_of_getElem? (i := 780) (by decide +kernel))) rfl)
theorem lk_8_193 : Cond.constantLong "RoadCountsModel" 193 (57) ∈ z_T := (z_inT (List.mem_append_right _ (List.mem_of_getElem? (i := 781) (by decide +kernel))) rfl)
theorem lm_8_199 : z_MV "RoadCountsModel" 199 M8_fails 2 8 := ⟨⟨wc_M8_fails, wi_8, ⟨by decide +kernel, by decide +kernel⟩, by decide +kernel, Or.inl (z_inT (List.mem_append_right _ (List.mem_of_getElem? (i := 782) (by decide +kernel))) rfl)⟩, wv_M8_fails, ws_M8_fails, _, rfl, rfl⟩
theorem lm_8_206 : z_MV "RoadCountsModel" 206 M8_must 1 8 := ⟨⟨wc_M8_must, wi_8, ⟨by decide +kernel, by decide +kernel⟩, by decide +kernel, Or.inl (z_inT (List.mem_append_right _ (List.mem_of_getElem? (i := 786) (by decide +kernel))) rfl)⟩, wv_M8_must, ws_M8_must, _, rfl, rfl⟩
theorem lm_8_209 : z_MV "RoadCountsModel" 209 M8_number 1 8 := ⟨⟨wc_M8_number, wi_8, ⟨by decide +kernel, by decide +kernel⟩, by decide +kernel, Or.inl (z_inT (List.mem_append_right _ (List.mem_of_getElem? (i := 790) (by decide +kernel))) rfl)⟩, wv_M8_number, ws_M8_number, _, rfl, rfl⟩
theorem lm_L_94 : z_MV "RoadCountsLaw" 94 M8_pass 2 8 := ⟨⟨wc_M8_pass, wi_8, ⟨by decide +kernel, by decide +kernel⟩, by decide +kernel, Or.inl (z_inT (List.mem_append_right _ (List.mem_of_getElem? (i := 794) (by decide +kernel))) rfl)⟩, wv_M8_pass, ws_M8_pass, _, rfl, rfl⟩
theorem lm_8_218 : z_MV "RoadCountsModel" 218 M8_kindOf 2 8 := ⟨⟨wc_M8_kindOf, wi_8, ⟨by decide +kernel, by decide +kernel⟩, by decide +kernel, Or.inl (z_inT (List.mem_append_right _ (List.mem_of_getElem? (i := 798) (by decide +kernel))) rfl)⟩, wv_M8_kindOf, ws_M8_kindOf, _, rfl, rfl⟩
theorem lm_L_98 : z_MV "RoadCountsLaw" 98 M8_kinds 2 8 := ⟨⟨wc_M8_kinds, wi_8, ⟨by decide +kernel, by decide +kernel⟩, by decide +kernel, Or.inl (z_inT (List.mem_append_right _ (List.mem_of_getElem? (i := 802) (by decide +kernel))) rfl)⟩, wv_M8_kinds, ws_M8_kinds, _, rfl, rfl⟩
theorem lk_8_222 : Cond.constantLong "RoadCountsModel" 222 (9) ∈ z_T := (z_inT (List.mem_append_right _ (List.mem_of_getElem? (i := 806) (by decide +kernel))) rfl)
theorem lm_L_106 : z_MV "RoadCountsLaw" 106 M8_look 2 8 := ⟨⟨wc_M8_look, wi_8, ⟨by decide +kernel, by decide +kernel⟩, by decide +kernel, Or.inl (z_inT (List.mem_append_right _ (List.mem_of_getElem? (i := 807) (by decide +kernel))) rfl)⟩, wv_M8_look, ws_M8_look, _, rfl, rfl⟩
theorem lk_8_224 : Cond.constantLong "RoadCountsModel" 224 (100) ∈ z_T := (z_inT (List.mem_append_right _ (List.mem_of_getElem? (i := 811) (by decide +kernel))) rfl)
theorem lk_8_226 : Cond.constantLong "RoadCountsModel" 226 (463) ∈ z_T := (z_inT (List.mem_append_right _ (List.mem_of_getElem? (i := 812) (by decide +kernel))) rfl)
theorem lm_L_110 : z_MV "RoadCountsLaw" 110 M8_tell 1 8 := ⟨⟨wc_M8_tell, wi_8, ⟨by decide +kernel, by decide +kernel⟩, by decide +kernel, Or.inl (z_inT (List.mem_append_right _ (List.mem_of_getElem? (i := 813) (by decide +kernel))) rfl)⟩, wv_M8_tell, ws_M8_tell, _, rfl, rfl⟩
end
section
/-! what each instruction is -/
theorem d0_init_0 : decode M0_init.2.1 0 = .ok (.aload_n 0, 1) := by decide +kernel
theorem d0_init_1 : decode M0_init.2.1 1 = .ok (.invokespecial 3, 3) := by decide +kernel
theorem d0_init_4 : decode M0_init.2.1 4 = .ok (.aload_n 0, 1) := by decide +kernel
theorem d0_init_5 : decode M0_init.2.1 5 = .ok (.iconst 4, 1) := by decide +kernel
theorem d0_init_6 : decode M0_init.2.1 6 = .ok (.bipush 7, 2) := by decide +kernel
theorem d0_init_8 : decode M0_init.2.1 8 = .ok (.multianewarray 9 2, 4) := by decide +kernel
theorem d0_init_12 : decode M0_init.2.1 12 = .ok (.putfield 11, 3) := by decide +kernel
theorem d0_init_15 : decode M0_init.2.1 15 = .ok (.aload_n 0, 1) := by decide +kernel
theorem d0_init_16 : decode M0_init.2.1 16 = .ok (.iconst 4, 1) := by decide +kernel
theorem d0_init_17 : decode M0_init.2.1 17 = .ok (.bipush 13, 2) := by decide +kernel
theorem d0_init_19 : decode M0_init.2.1 19 = .ok (.multianewarray 9 2, 4) := by decide +kernel
theorem d0_init_23 : decode M0_init.2.1 23 = .ok (.putfield 16, 3) := by decide +kernel
theorem d0_init_26 : decode M0_init.2.1 26 = .ok (.aload_n 0, 1) := by decide +kernel
theorem d0_init_27 : decode M0_init.2.1 27 = .ok (.sipush 364, 3) := by decide +kernel
theorem d0_init_30 : decode M0_init.2.1 30 = .ok (.newarray .boolean, 2) := by decide +kernel
theorem d0_init_32 : decode M0_init.2.1 32 = .ok (.putfield 19, 3) := by decide +kernel
theorem d0_init_35 : decode M0_init.2.1 35 = .ok (.aload_n 0, 1) := by decide +kernel
theorem d0_init_36 : decode M0_init.2.1 36 = .ok (.bipush 20, 2) := by decide +kernel
theorem d0_init_38 : decode M0_init.2.1 38 = .ok (.newarray .int, 2) := by decide +kernel
theorem d0_init_40 : decode M0_init.2.1 40 = .ok (.putfield 23, 3) := by decide +kernel
theorem d0_init_43 : decode M0_init.2.1 43 = .ok (.iconst 0, 1) := by decide +kernel
theorem d0_init_44 : decode M0_init.2.1 44 = .ok (.istore_n 1, 1) := by decide +kernel
theorem d0_init_45 : decode M0_init.2.1 45 = .ok (.iload_n 1, 1) := by decide +kernel
theorem d0_init_46 : decode M0_init.2.1 46 = .ok (.iconst 4, 1) := by decide +kernel
theorem d0_init_47 : decode M0_init.2.1 47 = .ok (.if_icmp .ge 55, 3) := by decide +kernel
theorem d0_init_50 : decode M0_init.2.1 50 = .ok (.iconst 0, 1) := by decide +kernel
theorem d0_init_51 : decode M0_init.2.1 51 = .ok (.istore_n 2, 1) := by decide +kernel
theorem d0_init_52 : decode M0_init.2.1 52 = .ok (.iload_n 2, 1) := by decide +kernel
theorem d0_init_53 : decode M0_init.2.1 53 = .ok (.bipush 7, 2) := by decide +kernel
theorem d0_init_55 : decode M0_init.2.1 55 = .ok (.if_icmp .ge 18, 3) := by decide +kernel
theorem d0_init_58 : decode M0_init.2.1 58 = .ok (.aload_n 0, 1) := by decide +kernel
theorem d0_init_59 : decode M0_init.2.1 59 = .ok (.getfield 11, 3) := by decide +kernel
theorem d0_init_62 : decode M0_init.2.1 62 = .ok (.iload_n 1, 1) := by decide +kernel
theorem d0_init_63 : decode M0_init.2.1 63 = .ok (.aaload, 1) := by decide +kernel
theorem d0_init_64 : decode M0_init.2.1 64 = .ok (.iload_n 2, 1) := by decide +kernel
theorem d0_init_65 : decode M0_init.2.1 65 = .ok (.iconst 1, 1) := by decide +kernel
theorem d0_init_66 : decode M0_init.2.1 66 = .ok (.iastore, 1) := by decide +kernel
theorem d0_init_67 : decode M0_init.2.1 67 = .ok (.iinc 2 1, 3) := by decide +kernel
theorem d0_init_70 : decode M0_init.2.1 70 = .ok (.goto (-18), 3) := by decide +kernel
theorem d0_init_73 : decode M0_init.2.1 73 = .ok (.iconst 0, 1) := by decide +kernel
theorem d0_init_74 : decode M0_init.2.1 74 = .ok (.istore_n 2, 1) := by decide +kernel
theorem d0_init_75 : decode M0_init.2.1 75 = .ok (.iload_n 2, 1) := by decide +kernel
theorem d0_init_76 : decode M0_init.2.1 76 = .ok (.bipush 13, 2) := by decide +kernel
theorem d0_init_78 : decode M0_init.2.1 78 = .ok (.if_icmp .ge 18, 3) := by decide +kernel
theorem d0_init_81 : decode M0_init.2.1 81 = .ok (.aload_n 0, 1) := by decide +kernel
theorem d0_init_82 : decode M0_init.2.1 82 = .ok (.getfield 16, 3) := by decide +kernel
theorem d0_init_85 : decode M0_init.2.1 85 = .ok (.iload_n 1, 1) := by decide +kernel
theorem d0_init_86 : decode M0_init.2.1 86 = .ok (.aaload, 1) := by decide +kernel
theorem d0_init_87 : decode M0_init.2.1 87 = .ok (.iload_n 2, 1) := by decide +kernel
theorem d0_init_88 : decode M0_init.2.1 88 = .ok (.iconst 1, 1) := by decide +kernel
theorem d0_init_89 : decode M0_init.2.1 89 = .ok (.iastore, 1) := by decide +kernel
theorem d0_init_90 : decode M0_init.2.1 90 = .ok (.iinc 2 1, 3) := by decide +kernel
theorem d0_init_93 : decode M0_init.2.1 93 = .ok (.goto (-18), 3) := by decide +kernel
theorem d0_init_96 : decode M0_init.2.1 96 = .ok (.iinc 1 1, 3) := by decide +kernel
theorem d0_init_99 : decode M0_init.2.1 99 = .ok (.goto (-54), 3) := by decide +kernel
theorem d0_init_102 : decode M0_init.2.1 102 = .ok (.return_, 1) := by decide +kernel
theorem d0_weighWeekday_0 : decode M0_weighWeekday.2.1 0 = .ok (.aload_n 0, 1) := by decide +kernel
theorem d0_weighWeekday_1 : decode M0_weighWeekday.2.1 1 = .ok (.getfield 11, 3) := by decide +kernel
theorem d0_weighWeekday_4 : decode M0_weighWeekday.2.1 4 = .ok (.iload_n 1, 1) := by decide +kernel
theorem d0_weighWeekday_5 : decode M0_weighWeekday.2.1 5 = .ok (.aaload, 1) := by decide +kernel
theorem d0_weighWeekday_6 : decode M0_weighWeekday.2.1 6 = .ok (.iload_n 2, 1) := by decide +kernel
theorem d0_weighWeekday_7 : decode M0_weighWeekday.2.1 7 = .ok (.iload_n 3, 1) := by decide +kernel
theorem d0_weighWeekday_8 : decode M0_weighWeekday.2.1 8 = .ok (.iastore, 1) := by decide +kernel
theorem d0_weighWeekday_9 : decode M0_weighWeekday.2.1 9 = .ok (.return_, 1) := by decide +kernel
theorem d0_weighMonth_0 : decode M0_weighMonth.2.1 0 = .ok (.aload_n 0, 1) := by decide +kernel
theorem d0_weighMonth_1 : decode M0_weighMonth.2.1 1 = .ok (.getfield 16, 3) := by decide +kernel
theorem d0_weighMonth_4 : decode M0_weighMonth.2.1 4 = .ok (.iload_n 1, 1) := by decide +kernel
theorem d0_weighMonth_5 : decode M0_weighMonth.2.1 5 = .ok (.aaload, 1) := by decide +kernel
theorem d0_weighMonth_6 : decode M0_weighMonth.2.1 6 = .ok (.iload_n 2, 1) := by decide +kernel
theorem d0_weighMonth_7 : decode M0_weighMonth.2.1 7 = .ok (.iload_n 3, 1) := by decide +kernel
theorem d0_weighMonth_8 : decode M0_weighMonth.2.1 8 = .ok (.iastore, 1) := by decide +kernel
theorem d0_weighMonth_9 : decode M0_weighMonth.2.1 9 = .ok (.return_, 1) := by decide +kernel
theorem d0_addHoliday_0 : decode M0_addHoliday.2.1 0 = .ok (.aload_n 0, 1) := by decide +kernel
theorem d0_addHoliday_1 : decode M0_addHoliday.2.1 1 = .ok (.getfield 19, 3) := by decide +kernel
theorem d0_addHoliday_4 : decode M0_addHoliday.2.1 4 = .ok (.iload_n 1, 1) := by decide +kernel
theorem d0_addHoliday_5 : decode M0_addHoliday.2.1 5 = .ok (.baload, 1) := by decide +kernel
theorem d0_addHoliday_6 : decode M0_addHoliday.2.1 6 = .ok (.ifCond .ne 12, 3) := by decide +kernel
theorem d0_addHoliday_9 : decode M0_addHoliday.2.1 9 = .ok (.aload_n 0, 1) := by decide +kernel
theorem d0_addHoliday_10 : decode M0_addHoliday.2.1 10 = .ok (.getfield 27, 3) := by decide +kernel
theorem d0_addHoliday_13 : decode M0_addHoliday.2.1 13 = .ok (.bipush 20, 2) := by decide +kernel
theorem d0_addHoliday_15 : decode M0_addHoliday.2.1 15 = .ok (.if_icmp .lt 5, 3) := by decide +kernel
theorem d0_addHoliday_18 : decode M0_addHoliday.2.1 18 = .ok (.iconst 0, 1) := by decide +kernel
theorem d0_addHoliday_19 : decode M0_addHoliday.2.1 19 = .ok (.ireturn, 1) := by decide +kernel
theorem d0_addHoliday_20 : decode M0_addHoliday.2.1 20 = .ok (.aload_n 0, 1) := by decide +kernel
theorem d0_addHoliday_21 : decode M0_addHoliday.2.1 21 = .ok (.getfield 19, 3) := by decide +kernel
theorem d0_addHoliday_24 : decode M0_addHoliday.2.1 24 = .ok (.iload_n 1, 1) := by decide +kernel
theorem d0_addHoliday_25 : decode M0_addHoliday.2.1 25 = .ok (.iconst 1, 1) := by decide +kernel
theorem d0_addHoliday_26 : decode M0_addHoliday.2.1 26 = .ok (.bastore, 1) := by decide +kernel
theorem d0_addHoliday_27 : decode M0_addHoliday.2.1 27 = .ok (.aload_n 0, 1) := by decide +kernel
theorem d0_addHoliday_28 : decode M0_addHoliday.2.1 28 = .ok (.getfield 23, 3) := by decide +kernel
theorem d0_addHoliday_31 : decode M0_addHoliday.2.1 31 = .ok (.aload_n 0, 1) := by decide +kernel
theorem d0_addHoliday_32 : decode M0_addHoliday.2.1 32 = .ok (.getfield 27, 3) := by decide +kernel
theorem d0_addHoliday_35 : decode M0_addHoliday.2.1 35 = .ok (.iload_n 1, 1) := by decide +kernel
theorem d0_addHoliday_36 : decode M0_addHoliday.2.1 36 = .ok (.iastore, 1) := by decide +kernel
theorem d0_addHoliday_37 : decode M0_addHoliday.2.1 37 = .ok (.aload_n 0, 1) := by decide +kernel
theorem d0_addHoliday_38 : decode M0_addHoliday.2.1 38 = .ok (.dup, 1) := by decide +kernel
theorem d0_addHoliday_39 : decode M0_addHoliday.2.1 39 = .ok (.getfield 27, 3) := by decide +kernel
theorem d0_addHoliday_42 : decode M0_addHoliday.2.1 42 = .ok (.iconst 1, 1) := by decide +kernel
theorem d0_addHoliday_43 : decode M0_addHoliday.2.1 43 = .ok (.iadd, 1) := by decide +kernel
theorem d0_addHoliday_44 : decode M0_addHoliday.2.1 44 = .ok (.putfield 27, 3) := by decide +kernel
theorem d0_addHoliday_47 : decode M0_addHoliday.2.1 47 = .ok (.iconst 1, 1) := by decide +kernel
theorem d0_addHoliday_48 : decode M0_addHoliday.2.1 48 = .ok (.ireturn, 1) := by decide +kernel
theorem d0_shareOf_0 : decode M0_shareOf.2.1 0 = .ok (.aload_n 0, 1) := by decide +kernel
theorem d0_shareOf_1 : decode M0_shareOf.2.1 1 = .ok (.getfield 19, 3) := by decide +kernel
theorem d0_shareOf_4 : decode M0_shareOf.2.1 4 = .ok (.iload_n 2, 1) := by decide +kernel
theorem d0_shareOf_5 : decode M0_shareOf.2.1 5 = .ok (.baload, 1) := by decide +kernel
theorem d0_shareOf_6 : decode M0_shareOf.2.1 6 = .ok (.ifCond .eq 8, 3) := by decide +kernel
theorem d0_shareOf_9 : decode M0_shareOf.2.1 9 = .ok (.bipush 6, 2) := by decide +kernel
theorem d0_shareOf_11 : decode M0_shareOf.2.1 11 = .ok (.goto 7, 3) := by decide +kernel
theorem d0_shareOf_14 : decode M0_shareOf.2.1 14 = .ok (.iload_n 2, 1) := by decide +kernel
theorem d0_shareOf_15 : decode M0_shareOf.2.1 15 = .ok (.bipush 7, 2) := by decide +kernel
theorem d0_shareOf_17 : decode M0_shareOf.2.1 17 = .ok (.irem, 1) := by decide +kernel
theorem d0_shareOf_18 : decode M0_shareOf.2.1 18 = .ok (.istore_n 3, 1) := by decide +kernel
theorem d0_shareOf_19 : decode M0_shareOf.2.1 19 = .ok (.aload_n 0, 1) := by decide +kernel
theorem d0_shareOf_20 : decode M0_shareOf.2.1 20 = .ok (.getfield 11, 3) := by decide +kernel
theorem d0_shareOf_23 : decode M0_shareOf.2.1 23 = .ok (.iload_n 1, 1) := by decide +kernel
theorem d0_shareOf_24 : decode M0_shareOf.2.1 24 = .ok (.aaload, 1) := by decide +kernel
theorem d0_shareOf_25 : decode M0_shareOf.2.1 25 = .ok (.iload_n 3, 1) := by decide +kernel
theorem d0_shareOf_26 : decode M0_shareOf.2.1 26 = .ok (.iaload, 1) := by decide +kernel
theorem d0_shareOf_27 : decode M0_shareOf.2.1 27 = .ok (.aload_n 0, 1) := by decide +kernel
theorem d0_shareOf_28 : decode M0_shareOf.2.1 28 = .ok (.getfield 16, 3) := by decide +kernel
theorem d0_shareOf_31 : decode M0_shareOf.2.1 31 = .ok (.iload_n 1, 1) := by decide +kernel
theorem d0_shareOf_32 : decode M0_shareOf.2.1 32 = .ok (.aaload, 1) := by decide +kernel
theorem d0_shareOf_33 : decode M0_shareOf.2.1 33 = .ok (.iload_n 2, 1) := by decide +kernel
theorem d0_shareOf_34 : decode M0_shareOf.2.1 34 = .ok (.bipush 28, 2) := by decide +kernel
theorem d0_shareOf_36 : decode M0_shareOf.2.1 36 = .ok (.idiv, 1) := by decide +kernel
theorem d0_shareOf_37 : decode M0_shareOf.2.1 37 = .ok (.iaload, 1) := by decide +kernel
theorem d0_shareOf_38 : decode M0_shareOf.2.1 38 = .ok (.imul, 1) := by decide +kernel
theorem d0_shareOf_39 : decode M0_shareOf.2.1 39 = .ok (.i2l, 1) := by decide +kernel
theorem d0_shareOf_40 : decode M0_shareOf.2.1 40 = .ok (.lreturn, 1) := by decide +kernel
theorem d0_wholeOf_0 : decode M0_wholeOf.2.1 0 = .ok (.lconst 0, 1) := by decide +kernel
theorem d0_wholeOf_1 : decode M0_wholeOf.2.1 1 = .ok (.lstore_n 2, 1) := by decide +kernel
theorem d0_wholeOf_2 : decode M0_wholeOf.2.1 2 = .ok (.iconst 0, 1) := by decide +kernel
theorem d0_wholeOf_3 : decode M0_wholeOf.2.1 3 = .ok (.istore 4, 2) := by decide +kernel
theorem d0_wholeOf_5 : decode M0_wholeOf.2.1 5 = .ok (.iload 4, 2) := by decide +kernel
theorem d0_wholeOf_7 : decode M0_wholeOf.2.1 7 = .ok (.bipush 7, 2) := by decide +kernel
theorem d0_wholeOf_9 : decode M0_wholeOf.2.1 9 = .ok (.if_icmp .ge 22, 3) := by decide +kernel
theorem d0_wholeOf_12 : decode M0_wholeOf.2.1 12 = .ok (.lload_n 2, 1) := by decide +kernel
theorem d0_wholeOf_13 : decode M0_wholeOf.2.1 13 = .ok (.aload_n 0, 1) := by decide +kernel
theorem d0_wholeOf_14 : decode M0_wholeOf.2.1 14 = .ok (.getfield 11, 3) := by decide +kernel
theorem d0_wholeOf_17 : decode M0_wholeOf.2.1 17 = .ok (.iload_n 1, 1) := by decide +kernel
theorem d0_wholeOf_18 : decode M0_wholeOf.2.1 18 = .ok (.aaload, 1) := by decide +kernel
theorem d0_wholeOf_19 : decode M0_wholeOf.2.1 19 = .ok (.iload 4, 2) := by decide +kernel
theorem d0_wholeOf_21 : decode M0_wholeOf.2.1 21 = .ok (.iaload, 1) := by decide +kernel
theorem d0_wholeOf_22 : decode M0_wholeOf.2.1 22 = .ok (.i2l, 1) := by decide +kernel
theorem d0_wholeOf_23 : decode M0_wholeOf.2.1 23 = .ok (.ladd, 1) := by decide +kernel
theorem d0_wholeOf_24 : decode M0_wholeOf.2.1 24 = .ok (.lstore_n 2, 1) := by decide +kernel
theorem d0_wholeOf_25 : decode M0_wholeOf.2.1 25 = .ok (.iinc 4 1, 3) := by decide +kernel
theorem d0_wholeOf_28 : decode M0_wholeOf.2.1 28 = .ok (.goto (-23), 3) := by decide +kernel
theorem d0_wholeOf_31 : decode M0_wholeOf.2.1 31 = .ok (.lconst 0, 1) := by decide +kernel
theorem d0_wholeOf_32 : decode M0_wholeOf.2.1 32 = .ok (.lstore 4, 2) := by decide +kernel
theorem d0_wholeOf_34 : decode M0_wholeOf.2.1 34 = .ok (.iconst 0, 1) := by decide +kernel
theorem d0_wholeOf_35 : decode M0_wholeOf.2.1 35 = .ok (.istore 6, 2) := by decide +kernel
theorem d0_wholeOf_37 : decode M0_wholeOf.2.1 37 = .ok (.iload 6, 2) := by decide +kernel
theorem d0_wholeOf_39 : decode M0_wholeOf.2.1 39 = .ok (.bipush 13, 2) := by decide +kernel
theorem d0_wholeOf_41 : decode M0_wholeOf.2.1 41 = .ok (.if_icmp .ge 24, 3) := by decide +kernel
theorem d0_wholeOf_44 : decode M0_wholeOf.2.1 44 = .ok (.lload 4, 2) := by decide +kernel
theorem d0_wholeOf_46 : decode M0_wholeOf.2.1 46 = .ok (.aload_n 0, 1) := by decide +kernel
theorem d0_wholeOf_47 : decode M0_wholeOf.2.1 47 = .ok (.getfield 16, 3) := by decide +kernel
theorem d0_wholeOf_50 : decode M0_wholeOf.2.1 50 = .ok (.iload_n 1, 1) := by decide +kernel
theorem d0_wholeOf_51 : decode M0_wholeOf.2.1 51 = .ok (.aaload, 1) := by decide +kernel
theorem d0_wholeOf_52 : decode M0_wholeOf.2.1 52 = .ok (.iload 6, 2) := by decide +kernel
theorem d0_wholeOf_54 : decode M0_wholeOf.2.1 54 = .ok (.iaload, 1) := by decide +kernel
theorem d0_wholeOf_55 : decode M0_wholeOf.2.1 55 = .ok (.i2l, 1) := by decide +kernel
theorem d0_wholeOf_56 : decode M0_wholeOf.2.1 56 = .ok (.ladd, 1) := by decide +kernel
theorem d0_wholeOf_57 : decode M0_wholeOf.2.1 57 = .ok (.lstore 4, 2) := by decide +kernel
theorem d0_wholeOf_59 : decode M0_wholeOf.2.1 59 = .ok (.iinc 6 1, 3) := by decide +kernel
theorem d0_wholeOf_62 : decode M0_wholeOf.2.1 62 = .ok (.goto (-25), 3) := by decide +kernel
theorem d0_wholeOf_65 : decode M0_wholeOf.2.1 65 = .ok (.ldc2_w 31, 3) := by decide +kernel
theorem d0_wholeOf_68 : decode M0_wholeOf.2.1 68 = .ok (.lload_n 2, 1) := by decide +kernel
theorem d0_wholeOf_69 : decode M0_wholeOf.2.1 69 = .ok (.lmul, 1) := by decide +kernel
theorem d0_wholeOf_70 : decode M0_wholeOf.2.1 70 = .ok (.lload 4, 2) := by decide +kernel
theorem d0_wholeOf_72 : decode M0_wholeOf.2.1 72 = .ok (.lmul, 1) := by decide +kernel
theorem d0_wholeOf_73 : decode M0_wholeOf.2.1 73 = .ok (.lstore 6, 2) := by decide +kernel
theorem d0_wholeOf_75 : decode M0_wholeOf.2.1 75 = .ok (.iconst 0, 1) := by decide +kernel
theorem d0_wholeOf_76 : decode M0_wholeOf.2.1 76 = .ok (.istore 8, 2) := by decide +kernel
theorem d0_wholeOf_78 : decode M0_wholeOf.2.1 78 = .ok (.iload 8, 2) := by decide +kernel
theorem d0_wholeOf_80 : decode M0_wholeOf.2.1 80 = .ok (.aload_n 0, 1) := by decide +kernel
theorem d0_wholeOf_81 : decode M0_wholeOf.2.1 81 = .ok (.getfield 27, 3) := by decide +kernel
theorem d0_wholeOf_84 : decode M0_wholeOf.2.1 84 = .ok (.if_icmp .ge 61, 3) := by decide +kernel
theorem d0_wholeOf_87 : decode M0_wholeOf.2.1 87 = .ok (.aload_n 0, 1) := by decide +kernel
theorem d0_wholeOf_88 : decode M0_wholeOf.2.1 88 = .ok (.getfield 23, 3) := by decide +kernel
theorem d0_wholeOf_91 : decode M0_wholeOf.2.1 91 = .ok (.iload 8, 2) := by decide +kernel
theorem d0_wholeOf_93 : decode M0_wholeOf.2.1 93 = .ok (.iaload, 1) := by decide +kernel
theorem d0_wholeOf_94 : decode M0_wholeOf.2.1 94 = .ok (.istore 9, 2) := by decide +kernel
theorem d0_wholeOf_96 : decode M0_wholeOf.2.1 96 = .ok (.aload_n 0, 1) := by decide +kernel
theorem d0_wholeOf_97 : decode M0_wholeOf.2.1 97 = .ok (.getfield 11, 3) := by decide +kernel
theorem d0_wholeOf_100 : decode M0_wholeOf.2.1 100 = .ok (.iload_n 1, 1) := by decide +kernel
theorem d0_wholeOf_101 : decode M0_wholeOf.2.1 101 = .ok (.aaload, 1) := by decide +kernel
theorem d0_wholeOf_102 : decode M0_wholeOf.2.1 102 = .ok (.iload 9, 2) := by decide +kernel
theorem d0_wholeOf_104 : decode M0_wholeOf.2.1 104 = .ok (.bipush 7, 2) := by decide +kernel
theorem d0_wholeOf_106 : decode M0_wholeOf.2.1 106 = .ok (.irem, 1) := by decide +kernel
theorem d0_wholeOf_107 : decode M0_wholeOf.2.1 107 = .ok (.iaload, 1) := by decide +kernel
theorem d0_wholeOf_108 : decode M0_wholeOf.2.1 108 = .ok (.aload_n 0, 1) := by decide +kernel
theorem d0_wholeOf_109 : decode M0_wholeOf.2.1 109 = .ok (.getfield 16, 3) := by decide +kernel
theorem d0_wholeOf_112 : decode M0_wholeOf.2.1 112 = .ok (.iload_n 1, 1) := by decide +kernel
theorem d0_wholeOf_113 : decode M0_wholeOf.2.1 113 = .ok (.aaload, 1) := by decide +kernel
theorem d0_wholeOf_114 : decode M0_wholeOf.2.1 114 = .ok (.iload 9, 2) := by decide +kernel
theorem d0_wholeOf_116 : decode M0_wholeOf.2.1 116 = .ok (.bipush 28, 2) := by decide +kernel
theorem d0_wholeOf_118 : decode M0_wholeOf.2.1 118 = .ok (.idiv, 1) := by decide +kernel
theorem d0_wholeOf_119 : decode M0_wholeOf.2.1 119 = .ok (.iaload, 1) := by decide +kernel
theorem d0_wholeOf_120 : decode M0_wholeOf.2.1 120 = .ok (.imul, 1) := by decide +kernel
theorem d0_wholeOf_121 : decode M0_wholeOf.2.1 121 = .ok (.i2l, 1) := by decide +kernel
theorem d0_wholeOf_122 : decode M0_wholeOf.2.1 122 = .ok (.lstore 10, 2) := by decide +kernel
theorem d0_wholeOf_124 : decode M0_wholeOf.2.1 124 = .ok (.lload 6, 2) := by decide +kernel
theorem d0_wholeOf_126 : decode M0_wholeOf.2.1 126 = .ok (.aload_n 0, 1) := by decide +kernel
theorem d0_wholeOf_127 : decode M0_wholeOf.2.1 127 = .ok (.iload_n 1, 1) := by decide +kernel
theorem d0_wholeOf_128 : decode M0_wholeOf.2.1 128 = .ok (.iload 9, 2) := by decide +kernel
theorem d0_wholeOf_130 : decode M0_wholeOf.2.1 130 = .ok (.invokevirtual 33, 3) := by decide +kernel
theorem d0_wholeOf_133 : decode M0_wholeOf.2.1 133 = .ok (.lload 10, 2) := by decide +kernel
theorem d0_wholeOf_135 : decode M0_wholeOf.2.1 135 = .ok (.lsub, 1) := by decide +kernel
theorem d0_wholeOf_136 : decode M0_wholeOf.2.1 136 = .ok (.ladd, 1) := by decide +kernel
theorem d0_wholeOf_137 : decode M0_wholeOf.2.1 137 = .ok (.lstore 6, 2) := by decide +kernel
theorem d0_wholeOf_139 : decode M0_wholeOf.2.1 139 = .ok (.iinc 8 1, 3) := by decide +kernel
theorem d0_wholeOf_142 : decode M0_wholeOf.2.1 142 = .ok (.goto (-64), 3) := by decide +kernel
theorem d0_wholeOf_145 : decode M0_wholeOf.2.1 145 = .ok (.lload 6, 2) := by decide +kernel
theorem d0_wholeOf_147 : decode M0_wholeOf.2.1 147 = .ok (.lreturn, 1) := by decide +kernel
theorem d1_init_0 : decode M1_init.2.1 0 = .ok (.aload_n 0, 1) := by decide +kernel
theorem d1_init_1 : decode M1_init.2.1 1 = .ok (.invokespecial 3, 3) := by decide +kernel
theorem d1_init_4 : decode M1_init.2.1 4 = .ok (.aload_n 0, 1) := by decide +kernel
theorem d1_init_5 : decode M1_init.2.1 5 = .ok (.bipush 14, 2) := by decide +kernel
theorem d1_init_7 : decode M1_init.2.1 7 = .ok (.newarray .int, 2) := by decide +kernel
theorem d1_init_9 : decode M1_init.2.1 9 = .ok (.putfield 9, 3) := by decide +kernel
theorem d1_init_12 : decode M1_init.2.1 12 = .ok (.aload_n 0, 1) := by decide +kernel
theorem d1_init_13 : decode M1_init.2.1 13 = .ok (.bipush 14, 2) := by decide +kernel
theorem d1_init_15 : decode M1_init.2.1 15 = .ok (.newarray .int, 2) := by decide +kernel
theorem d1_init_17 : decode M1_init.2.1 17 = .ok (.putfield 15, 3) := by decide +kernel
theorem d1_init_20 : decode M1_init.2.1 20 = .ok (.return_, 1) := by decide +kernel
theorem d1_put_0 : decode M1_put.2.1 0 = .ok (.aload_n 0, 1) := by decide +kernel
theorem d1_put_1 : decode M1_put.2.1 1 = .ok (.iload_n 1, 1) := by decide +kernel
theorem d1_put_2 : decode M1_put.2.1 2 = .ok (.invokevirtual 18, 3) := by decide +kernel
theorem d1_put_5 : decode M1_put.2.1 5 = .ok (.istore_n 3, 1) := by decide +kernel
theorem d1_put_6 : decode M1_put.2.1 6 = .ok (.iload_n 3, 1) := by decide +kernel
theorem d1_put_7 : decode M1_put.2.1 7 = .ok (.iconst (-1), 1) := by decide +kernel
theorem d1_put_8 : decode M1_put.2.1 8 = .ok (.if_icmp .ne 29, 3) := by decide +kernel
theorem d1_put_11 : decode M1_put.2.1 11 = .ok (.aload_n 0, 1) := by decide +kernel
theorem d1_put_12 : decode M1_put.2.1 12 = .ok (.getfield 22, 3) := by decide +kernel
theorem d1_put_15 : decode M1_put.2.1 15 = .ok (.bipush 14, 2) := by decide +kernel
theorem d1_put_17 : decode M1_put.2.1 17 = .ok (.if_icmp .lt 5, 3) := by decide +kernel
theorem d1_put_20 : decode M1_put.2.1 20 = .ok (.iconst 0, 1) := by decide +kernel
theorem d1_put_21 : decode M1_put.2.1 21 = .ok (.ireturn, 1) := by decide +kernel
theorem d1_put_22 : decode M1_put.2.1 22 = .ok (.aload_n 0, 1) := by decide +kernel
theorem d1_put_23 : decode M1_put.2.1 23 = .ok (.getfield 22, 3) := by decide +kernel
theorem d1_put_26 : decode M1_put.2.1 26 = .ok (.istore_n 3, 1) := by decide +kernel
theorem d1_put_27 : decode M1_put.2.1 27 = .ok (.aload_n 0, 1) := by decide +kernel
theorem d1_put_28 : decode M1_put.2.1 28 = .ok (.dup, 1) := by decide +kernel
theorem d1_put_29 : decode M1_put.2.1 29 = .ok (.getfield 22, 3) := by decide +kernel
theorem d1_put_32 : decode M1_put.2.1 32 = .ok (.iconst 1, 1) := by decide +kernel
theorem d1_put_33 : decode M1_put.2.1 33 = .ok (.iadd, 1) := by decide +kernel
theorem d1_put_34 : decode M1_put.2.1 34 = .ok (.putfield 22, 3) := by decide +kernel
theorem d1_put_37 : decode M1_put.2.1 37 = .ok (.aload_n 0, 1) := by decide +kernel
theorem d1_put_38 : decode M1_put.2.1 38 = .ok (.getfield 9, 3) := by decide +kernel
theorem d1_put_41 : decode M1_put.2.1 41 = .ok (.iload_n 3, 1) := by decide +kernel
theorem d1_put_42 : decode M1_put.2.1 42 = .ok (.iload_n 1, 1) := by decide +kernel
theorem d1_put_43 : decode M1_put.2.1 43 = .ok (.iastore, 1) := by decide +kernel
theorem d1_put_44 : decode M1_put.2.1 44 = .ok (.aload_n 0, 1) := by decide +kernel
theorem d1_put_45 : decode M1_put.2.1 45 = .ok (.getfield 15, 3) := by decide +kernel
theorem d1_put_48 : decode M1_put.2.1 48 = .ok (.iload_n 3, 1) := by decide +kernel
theorem d1_put_49 : decode M1_put.2.1 49 = .ok (.iload_n 2, 1) := by decide +kernel
theorem d1_put_50 : decode M1_put.2.1 50 = .ok (.iastore, 1) := by decide +kernel
theorem d1_put_51 : decode M1_put.2.1 51 = .ok (.iconst 1, 1) := by decide +kernel
theorem d1_put_52 : decode M1_put.2.1 52 = .ok (.ireturn, 1) := by decide +kernel
theorem d1_on_0 : decode M1_on.2.1 0 = .ok (.aload_n 0, 1) := by decide +kernel
theorem d1_on_1 : decode M1_on.2.1 1 = .ok (.iload_n 1, 1) := by decide +kernel
theorem d1_on_2 : decode M1_on.2.1 2 = .ok (.invokevirtual 18, 3) := by decide +kernel
theorem d1_on_5 : decode M1_on.2.1 5 = .ok (.istore_n 2, 1) := by decide +kernel
theorem d1_on_6 : decode M1_on.2.1 6 = .ok (.iload_n 2, 1) := by decide +kernel
theorem d1_on_7 : decode M1_on.2.1 7 = .ok (.iconst (-1), 1) := by decide +kernel
theorem d1_on_8 : decode M1_on.2.1 8 = .ok (.if_icmp .ne 7, 3) := by decide +kernel
theorem d1_on_11 : decode M1_on.2.1 11 = .ok (.iconst (-1), 1) := by decide +kernel
theorem d1_on_12 : decode M1_on.2.1 12 = .ok (.goto 9, 3) := by decide +kernel
theorem d1_on_15 : decode M1_on.2.1 15 = .ok (.aload_n 0, 1) := by decide +kernel
theorem d1_on_16 : decode M1_on.2.1 16 = .ok (.getfield 15, 3) := by decide +kernel
theorem d1_on_19 : decode M1_on.2.1 19 = .ok (.iload_n 2, 1) := by decide +kernel
theorem d1_on_20 : decode M1_on.2.1 20 = .ok (.iaload, 1) := by decide +kernel
theorem d1_on_21 : decode M1_on.2.1 21 = .ok (.ireturn, 1) := by decide +kernel
theorem d1_used_0 : decode M1_used.2.1 0 = .ok (.iconst 0, 1) := by decide +kernel
theorem d1_used_1 : decode M1_used.2.1 1 = .ok (.istore_n 2, 1) := by decide +kernel
theorem d1_used_2 : decode M1_used.2.1 2 = .ok (.iconst 0, 1) := by decide +kernel
theorem d1_used_3 : decode M1_used.2.1 3 = .ok (.istore_n 3, 1) := by decide +kernel
theorem d1_used_4 : decode M1_used.2.1 4 = .ok (.iload_n 3, 1) := by decide +kernel
theorem d1_used_5 : decode M1_used.2.1 5 = .ok (.aload_n 0, 1) := by decide +kernel
theorem d1_used_6 : decode M1_used.2.1 6 = .ok (.getfield 22, 3) := by decide +kernel
theorem d1_used_9 : decode M1_used.2.1 9 = .ok (.if_icmp .ge 21, 3) := by decide +kernel
theorem d1_used_12 : decode M1_used.2.1 12 = .ok (.aload_n 0, 1) := by decide +kernel
theorem d1_used_13 : decode M1_used.2.1 13 = .ok (.iload_n 3, 1) := by decide +kernel
theorem d1_used_14 : decode M1_used.2.1 14 = .ok (.aload_n 1, 1) := by decide +kernel
theorem d1_used_15 : decode M1_used.2.1 15 = .ok (.invokevirtual 26, 3) := by decide +kernel
theorem d1_used_18 : decode M1_used.2.1 18 = .ok (.ifCond .eq 6, 3) := by decide +kernel
theorem d1_used_21 : decode M1_used.2.1 21 = .ok (.iinc 2 1, 3) := by decide +kernel
theorem d1_used_24 : decode M1_used.2.1 24 = .ok (.iinc 3 1, 3) := by decide +kernel
theorem d1_used_27 : decode M1_used.2.1 27 = .ok (.goto (-23), 3) := by decide +kernel
theorem d1_used_30 : decode M1_used.2.1 30 = .ok (.iload_n 2, 1) := by decide +kernel
theorem d1_used_31 : decode M1_used.2.1 31 = .ok (.ireturn, 1) := by decide +kernel
theorem d1_loadOfAll_0 : decode M1_loadOfAll.2.1 0 = .ok (.aload_n 0, 1) := by decide +kernel
theorem d1_loadOfAll_1 : decode M1_loadOfAll.2.1 1 = .ok (.aload_n 1, 1) := by decide +kernel
theorem d1_loadOfAll_2 : decode M1_loadOfAll.2.1 2 = .ok (.iload_n 2, 1) := by decide +kernel
theorem d1_loadOfAll_3 : decode M1_loadOfAll.2.1 3 = .ok (.invokevirtual 30, 3) := by decide +kernel
theorem d1_loadOfAll_6 : decode M1_loadOfAll.2.1 6 = .ok (.lstore_n 3, 1) := by decide +kernel
theorem d1_loadOfAll_7 : decode M1_loadOfAll.2.1 7 = .ok (.lload_n 3, 1) := by decide +kernel
theorem d1_loadOfAll_8 : decode M1_loadOfAll.2.1 8 = .ok (.lconst 0, 1) := by decide +kernel
theorem d1_loadOfAll_9 : decode M1_loadOfAll.2.1 9 = .ok (.lcmp, 1) := by decide +kernel
theorem d1_loadOfAll_10 : decode M1_loadOfAll.2.1 10 = .ok (.ifCond .le 19, 3) := by decide +kernel
theorem d1_loadOfAll_13 : decode M1_loadOfAll.2.1 13 = .ok (.aload_n 0, 1) := by decide +kernel
theorem d1_loadOfAll_14 : decode M1_loadOfAll.2.1 14 = .ok (.aload_n 1, 1) := by decide +kernel
theorem d1_loadOfAll_15 : decode M1_loadOfAll.2.1 15 = .ok (.invokevirtual 34, 3) := by decide +kernel
theorem d1_loadOfAll_18 : decode M1_loadOfAll.2.1 18 = .ok (.aload_n 1, 1) := by decide +kernel
theorem d1_loadOfAll_19 : decode M1_loadOfAll.2.1 19 = .ok (.iload_n 2, 1) := by decide +kernel
theorem d1_loadOfAll_20 : decode M1_loadOfAll.2.1 20 = .ok (.invokevirtual 38, 3) := by decide +kernel
theorem d1_loadOfAll_23 : decode M1_loadOfAll.2.1 23 = .ok (.lmul, 1) := by decide +kernel
theorem d1_loadOfAll_24 : decode M1_loadOfAll.2.1 24 = .ok (.lload_n 3, 1) := by decide +kernel
theorem d1_loadOfAll_25 : decode M1_loadOfAll.2.1 25 = .ok (.ldiv, 1) := by decide +kernel
theorem d1_loadOfAll_26 : decode M1_loadOfAll.2.1 26 = .ok (.goto 6, 3) := by decide +kernel
theorem d1_loadOfAll_29 : decode M1_loadOfAll.2.1 29 = .ok (.ldc2_w 44, 3) := by decide +kernel
theorem d1_loadOfAll_32 : decode M1_loadOfAll.2.1 32 = .ok (.lreturn, 1) := by decide +kernel
theorem d1_loadAtEnd_0 : decode M1_loadAtEnd.2.1 0 = .ok (.aload_n 1, 1) := by decide +kernel
theorem d1_loadAtEnd_1 : decode M1_loadAtEnd.2.1 1 = .ok (.iload_n 2, 1) := by decide +kernel
theorem d1_loadAtEnd_2 : decode M1_loadAtEnd.2.1 2 = .ok (.invokevirtual 38, 3) := by decide +kernel
theorem d1_loadAtEnd_5 : decode M1_loadAtEnd.2.1 5 = .ok (.lstore 4, 2) := by decide +kernel
theorem d1_loadAtEnd_7 : decode M1_loadAtEnd.2.1 7 = .ok (.ldc2_w 44, 3) := by decide +kernel
theorem d1_loadAtEnd_10 : decode M1_loadAtEnd.2.1 10 = .ok (.lstore 6, 2) := by decide +kernel
theorem d1_loadAtEnd_12 : decode M1_loadAtEnd.2.1 12 = .ok (.iconst 0, 1) := by decide +kernel
theorem d1_loadAtEnd_13 : decode M1_loadAtEnd.2.1 13 = .ok (.istore 8, 2) := by decide +kernel
theorem d1_loadAtEnd_15 : decode M1_loadAtEnd.2.1 15 = .ok (.iload 8, 2) := by decide +kernel
theorem d1_loadAtEnd_17 : decode M1_loadAtEnd.2.1 17 = .ok (.aload_n 0, 1) := by decide +kernel
theorem d1_loadAtEnd_18 : decode M1_loadAtEnd.2.1 18 = .ok (.getfield 22, 3) := by decide +kernel
theorem d1_loadAtEnd_21 : decode M1_loadAtEnd.2.1 21 = .ok (.if_icmp .ge 92, 3) := by decide +kernel
theorem d1_loadAtEnd_24 : decode M1_loadAtEnd.2.1 24 = .ok (.aload_n 1, 1) := by decide +kernel
theorem d1_loadAtEnd_25 : decode M1_loadAtEnd.2.1 25 = .ok (.iload_n 2, 1) := by decide +kernel
theorem d1_loadAtEnd_26 : decode M1_loadAtEnd.2.1 26 = .ok (.aload_n 0, 1) := by decide +kernel
theorem d1_loadAtEnd_27 : decode M1_loadAtEnd.2.1 27 = .ok (.getfield 9, 3) := by decide +kernel
theorem d1_loadAtEnd_30 : decode M1_loadAtEnd.2.1 30 = .ok (.iload 8, 2) := by decide +kernel
theorem d1_loadAtEnd_32 : decode M1_loadAtEnd.2.1 32 = .ok (.iaload, 1) := by decide +kernel
theorem d1_loadAtEnd_33 : decode M1_loadAtEnd.2.1 33 = .ok (.invokevirtual 46, 3) := by decide +kernel
theorem d1_loadAtEnd_36 : decode M1_loadAtEnd.2.1 36 = .ok (.lstore 9, 2) := by decide +kernel
theorem d1_loadAtEnd_38 : decode M1_loadAtEnd.2.1 38 = .ok (.aload_n 0, 1) := by decide +kernel
theorem d1_loadAtEnd_39 : decode M1_loadAtEnd.2.1 39 = .ok (.iload 8, 2) := by decide +kernel
theorem d1_loadAtEnd_41 : decode M1_loadAtEnd.2.1 41 = .ok (.aload_n 1, 1) := by decide +kernel
theorem d1_loadAtEnd_42 : decode M1_loadAtEnd.2.1 42 = .ok (.invokevirtual 26, 3) := by decide +kernel
theorem d1_loadAtEnd_45 : decode M1_loadAtEnd.2.1 45 = .ok (.ifCond .eq 62, 3) := by decide +kernel
theorem d1_loadAtEnd_48 : decode M1_loadAtEnd.2.1 48 = .ok (.lload 9, 2) := by decide +kernel
theorem d1_loadAtEnd_50 : decode M1_loadAtEnd.2.1 50 = .ok (.lconst 0, 1) := by decide +kernel
theorem d1_loadAtEnd_51 : decode M1_loadAtEnd.2.1 51 = .ok (.lcmp, 1) := by decide +kernel
theorem d1_loadAtEnd_52 : decode M1_loadAtEnd.2.1 52 = .ok (.ifCond .le 55, 3) := by decide +kernel
theorem d1_loadAtEnd_55 : decode M1_loadAtEnd.2.1 55 = .ok (.aload_n 0, 1) := by decide +kernel
theorem d1_loadAtEnd_56 : decode M1_loadAtEnd.2.1 56 = .ok (.getfield 15, 3) := by decide +kernel
theorem d1_loadAtEnd_59 : decode M1_loadAtEnd.2.1 59 = .ok (.iload 8, 2) := by decide +kernel
theorem d1_loadAtEnd_61 : decode M1_loadAtEnd.2.1 61 = .ok (.iaload, 1) := by decide +kernel
theorem d1_loadAtEnd_62 : decode M1_loadAtEnd.2.1 62 = .ok (.i2l, 1) := by decide +kernel
theorem d1_loadAtEnd_63 : decode M1_loadAtEnd.2.1 63 = .ok (.lload 4, 2) := by decide +kernel
theorem d1_loadAtEnd_65 : decode M1_loadAtEnd.2.1 65 = .ok (.lmul, 1) := by decide +kernel
theorem d1_loadAtEnd_66 : decode M1_loadAtEnd.2.1 66 = .ok (.lload 9, 2) := by decide +kernel
theorem d1_loadAtEnd_68 : decode M1_loadAtEnd.2.1 68 = .ok (.ldiv, 1) := by decide +kernel
theorem d1_loadAtEnd_69 : decode M1_loadAtEnd.2.1 69 = .ok (.lstore 11, 2) := by decide +kernel
theorem d1_loadAtEnd_71 : decode M1_loadAtEnd.2.1 71 = .ok (.lload 6, 2) := by decide +kernel
theorem d1_loadAtEnd_73 : decode M1_loadAtEnd.2.1 73 = .ok (.ldc2_w 44, 3) := by decide +kernel
theorem d1_loadAtEnd_76 : decode M1_loadAtEnd.2.1 76 = .ok (.lcmp, 1) := by decide +kernel
theorem d1_loadAtEnd_77 : decode M1_loadAtEnd.2.1 77 = .ok (.ifCond .eq 26, 3) := by decide +kernel
theorem d1_loadAtEnd_80 : decode M1_loadAtEnd.2.1 80 = .ok (.iload_n 3, 1) := by decide +kernel
theorem d1_loadAtEnd_81 : decode M1_loadAtEnd.2.1 81 = .ok (.ifCond .eq 14, 3) := by decide +kernel
theorem d1_loadAtEnd_84 : decode M1_loadAtEnd.2.1 84 = .ok (.lload 11, 2) := by decide +kernel
theorem d1_loadAtEnd_86 : decode M1_loadAtEnd.2.1 86 = .ok (.lload 6, 2) := by decide +kernel
theorem d1_loadAtEnd_88 : decode M1_loadAtEnd.2.1 88 = .ok (.lcmp, 1) := by decide +kernel
theorem d1_loadAtEnd_89 : decode M1_loadAtEnd.2.1 89 = .ok (.ifCond .le 18, 3) := by decide +kernel
theorem d1_loadAtEnd_92 : decode M1_loadAtEnd.2.1 92 = .ok (.goto 11, 3) := by decide +kernel
theorem d1_loadAtEnd_95 : decode M1_loadAtEnd.2.1 95 = .ok (.lload 11, 2) := by decide +kernel
theorem d1_loadAtEnd_97 : decode M1_loadAtEnd.2.1 97 = .ok (.lload 6, 2) := by decide +kernel
theorem d1_loadAtEnd_99 : decode M1_loadAtEnd.2.1 99 = .ok (.lcmp, 1) := by decide +kernel
theorem d1_loadAtEnd_100 : decode M1_loadAtEnd.2.1 100 = .ok (.ifCond .ge 7, 3) := by decide +kernel
theorem d1_loadAtEnd_103 : decode M1_loadAtEnd.2.1 103 = .ok (.lload 11, 2) := by decide +kernel
theorem d1_loadAtEnd_105 : decode M1_loadAtEnd.2.1 105 = .ok (.lstore 6, 2) := by decide +kernel
theorem d1_loadAtEnd_107 : decode M1_loadAtEnd.2.1 107 = .ok (.iinc 8 1, 3) := by decide +kernel
theorem d1_loadAtEnd_110 : decode M1_loadAtEnd.2.1 110 = .ok (.goto (-95), 3) := by decide +kernel
theorem d1_loadAtEnd_113 : decode M1_loadAtEnd.2.1 113 = .ok (.lload 6, 2) := by decide +kernel
theorem d1_loadAtEnd_115 : decode M1_loadAtEnd.2.1 115 = .ok (.lreturn, 1) := by decide +kernel
theorem d1_bestShape_0 : decode M1_bestShape.2.1 0 = .ok (.aload_n 0, 1) := by decide +kernel
theorem d1_bestShape_1 : decode M1_bestShape.2.1 1 = .ok (.aload_n 1, 1) := by decide +kernel
theorem d1_bestShape_2 : decode M1_bestShape.2.1 2 = .ok (.invokevirtual 50, 3) := by decide +kernel
theorem d1_bestShape_5 : decode M1_bestShape.2.1 5 = .ok (.ifCond .ne 5, 3) := by decide +kernel
theorem d1_bestShape_8 : decode M1_bestShape.2.1 8 = .ok (.iconst (-1), 1) := by decide +kernel
theorem d1_bestShape_9 : decode M1_bestShape.2.1 9 = .ok (.ireturn, 1) := by decide +kernel
theorem d1_bestShape_10 : decode M1_bestShape.2.1 10 = .ok (.iconst 0, 1) := by decide +kernel
theorem d1_bestShape_11 : decode M1_bestShape.2.1 11 = .ok (.istore_n 2, 1) := by decide +kernel
theorem d1_bestShape_12 : decode M1_bestShape.2.1 12 = .ok (.aload_n 0, 1) := by decide +kernel
theorem d1_bestShape_13 : decode M1_bestShape.2.1 13 = .ok (.aload_n 1, 1) := by decide +kernel
theorem d1_bestShape_14 : decode M1_bestShape.2.1 14 = .ok (.iconst 0, 1) := by decide +kernel
theorem d1_bestShape_15 : decode M1_bestShape.2.1 15 = .ok (.invokevirtual 30, 3) := by decide +kernel
theorem d1_bestShape_18 : decode M1_bestShape.2.1 18 = .ok (.lstore_n 3, 1) := by decide +kernel
theorem d1_bestShape_19 : decode M1_bestShape.2.1 19 = .ok (.aload_n 0, 1) := by decide +kernel
theorem d1_bestShape_20 : decode M1_bestShape.2.1 20 = .ok (.aload_n 1, 1) := by decide +kernel
theorem d1_bestShape_21 : decode M1_bestShape.2.1 21 = .ok (.iconst 0, 1) := by decide +kernel
theorem d1_bestShape_22 : decode M1_bestShape.2.1 22 = .ok (.lload_n 3, 1) := by decide +kernel
theorem d1_bestShape_23 : decode M1_bestShape.2.1 23 = .ok (.invokevirtual 54, 3) := by decide +kernel
theorem d1_bestShape_26 : decode M1_bestShape.2.1 26 = .ok (.lstore 5, 2) := by decide +kernel
theorem d1_bestShape_28 : decode M1_bestShape.2.1 28 = .ok (.iconst 1, 1) := by decide +kernel
theorem d1_bestShape_29 : decode M1_bestShape.2.1 29 = .ok (.istore 7, 2) := by decide +kernel
theorem d1_bestShape_31 : decode M1_bestShape.2.1 31 = .ok (.iload 7, 2) := by decide +kernel
theorem d1_bestShape_33 : decode M1_bestShape.2.1 33 = .ok (.iconst 4, 1) := by decide +kernel
theorem d1_bestShape_34 : decode M1_bestShape.2.1 34 = .ok (.if_icmp .ge 52, 3) := by decide +kernel
theorem d1_bestShape_37 : decode M1_bestShape.2.1 37 = .ok (.aload_n 0, 1) := by decide +kernel
theorem d1_bestShape_38 : decode M1_bestShape.2.1 38 = .ok (.aload_n 1, 1) := by decide +kernel
theorem d1_bestShape_39 : decode M1_bestShape.2.1 39 = .ok (.iload 7, 2) := by decide +kernel
theorem d1_bestShape_41 : decode M1_bestShape.2.1 41 = .ok (.invokevirtual 30, 3) := by decide +kernel
theorem d1_bestShape_44 : decode M1_bestShape.2.1 44 = .ok (.lstore 8, 2) := by decide +kernel
theorem d1_bestShape_46 : decode M1_bestShape.2.1 46 = .ok (.aload_n 0, 1) := by decide +kernel
theorem d1_bestShape_47 : decode M1_bestShape.2.1 47 = .ok (.aload_n 1, 1) := by decide +kernel
theorem d1_bestShape_48 : decode M1_bestShape.2.1 48 = .ok (.iload 7, 2) := by decide +kernel
theorem d1_bestShape_50 : decode M1_bestShape.2.1 50 = .ok (.lload 8, 2) := by decide +kernel
theorem d1_bestShape_52 : decode M1_bestShape.2.1 52 = .ok (.invokevirtual 54, 3) := by decide +kernel
theorem d1_bestShape_55 : decode M1_bestShape.2.1 55 = .ok (.lstore 10, 2) := by decide +kernel
theorem d1_bestShape_57 : decode M1_bestShape.2.1 57 = .ok (.lload 10, 2) := by decide +kernel
theorem d1_bestShape_59 : decode M1_bestShape.2.1 59 = .ok (.lload_n 3, 1) := by decide +kernel
theorem d1_bestShape_60 : decode M1_bestShape.2.1 60 = .ok (.lmul, 1) := by decide +kernel
theorem d1_bestShape_61 : decode M1_bestShape.2.1 61 = .ok (.lload 5, 2) := by decide +kernel
theorem d1_bestShape_63 : decode M1_bestShape.2.1 63 = .ok (.lload 8, 2) := by decide +kernel
theorem d1_bestShape_65 : decode M1_bestShape.2.1 65 = .ok (.lmul, 1) := by decide +kernel
theorem d1_bestShape_66 : decode M1_bestShape.2.1 66 = .ok (.lcmp, 1) := by decide +kernel
theorem d1_bestShape_67 : decode M1_bestShape.2.1 67 = .ok (.ifCond .ge 13, 3) := by decide +kernel
theorem d1_bestShape_70 : decode M1_bestShape.2.1 70 = .ok (.iload 7, 2) := by decide +kernel
theorem d1_bestShape_72 : decode M1_bestShape.2.1 72 = .ok (.istore_n 2, 1) := by decide +kernel
theorem d1_bestShape_73 : decode M1_bestShape.2.1 73 = .ok (.lload 8, 2) := by decide +kernel
theorem d1_bestShape_75 : decode M1_bestShape.2.1 75 = .ok (.lstore_n 3, 1) := by decide +kernel
theorem d1_bestShape_76 : decode M1_bestShape.2.1 76 = .ok (.lload 10, 2) := by decide +kernel
theorem d1_bestShape_78 : decode M1_bestShape.2.1 78 = .ok (.lstore 5, 2) := by decide +kernel
theorem d1_bestShape_80 : decode M1_bestShape.2.1 80 = .ok (.iinc 7 1, 3) := by decide +kernel
theorem d1_bestShape_83 : decode M1_bestShape.2.1 83 = .ok (.goto (-52), 3) := by decide +kernel
theorem d1_bestShape_86 : decode M1_bestShape.2.1 86 = .ok (.iload_n 2, 1) := by decide +kernel
theorem d1_bestShape_87 : decode M1_bestShape.2.1 87 = .ok (.ireturn, 1) := by decide +kernel
theorem d1_misfitTimesShares_0 : decode M1_misfitTimesShares.2.1 0 = .ok (.aload_n 0, 1) := by decide +kernel
theorem d1_misfitTimesShares_1 : decode M1_misfitTimesShares.2.1 1 = .ok (.aload_n 1, 1) := by decide +kernel
theorem d1_misfitTimesShares_2 : decode M1_misfitTimesShares.2.1 2 = .ok (.invokevirtual 34, 3) := by decide +kernel
theorem d1_misfitTimesShares_5 : decode M1_misfitTimesShares.2.1 5 = .ok (.lstore 5, 2) := by decide +kernel
theorem d1_misfitTimesShares_7 : decode M1_misfitTimesShares.2.1 7 = .ok (.lconst 0, 1) := by decide +kernel
theorem d1_misfitTimesShares_8 : decode M1_misfitTimesShares.2.1 8 = .ok (.lstore 7, 2) := by decide +kernel
theorem d1_misfitTimesShares_10 : decode M1_misfitTimesShares.2.1 10 = .ok (.iconst 0, 1) := by decide +kernel
theorem d1_misfitTimesShares_11 : decode M1_misfitTimesShares.2.1 11 = .ok (.istore 9, 2) := by decide +kernel
theorem d1_misfitTimesShares_13 : decode M1_misfitTimesShares.2.1 13 = .ok (.iload 9, 2) := by decide +kernel
theorem d1_misfitTimesShares_15 : decode M1_misfitTimesShares.2.1 15 = .ok (.aload_n 0, 1) := by decide +kernel
theorem d1_misfitTimesShares_16 : decode M1_misfitTimesShares.2.1 16 = .ok (.getfield 22, 3) := by decide +kernel
theorem d1_misfitTimesShares_19 : decode M1_misfitTimesShares.2.1 19 = .ok (.if_icmp .ge 53, 3) := by decide +kernel
theorem d1_misfitTimesShares_22 : decode M1_misfitTimesShares.2.1 22 = .ok (.aload_n 0, 1) := by decide +kernel
theorem d1_misfitTimesShares_23 : decode M1_misfitTimesShares.2.1 23 = .ok (.iload 9, 2) := by decide +kernel
theorem d1_misfitTimesShares_25 : decode M1_misfitTimesShares.2.1 25 = .ok (.aload_n 1, 1) := by decide +kernel
theorem d1_misfitTimesShares_26 : decode M1_misfitTimesShares.2.1 26 = .ok (.invokevirtual 26, 3) := by decide +kernel
theorem d1_misfitTimesShares_29 : decode M1_misfitTimesShares.2.1 29 = .ok (.ifCond .eq 37, 3) := by decide +kernel
theorem d1_misfitTimesShares_32 : decode M1_misfitTimesShares.2.1 32 = .ok (.lload 7, 2) := by decide +kernel
theorem d1_misfitTimesShares_34 : decode M1_misfitTimesShares.2.1 34 = .ok (.aload_n 0, 1) := by decide +kernel
theorem d1_misfitTimesShares_35 : decode M1_misfitTimesShares.2.1 35 = .ok (.getfield 15, 3) := by decide +kernel
theorem d1_misfitTimesShares_38 : decode M1_misfitTimesShares.2.1 38 = .ok (.iload 9, 2) := by decide +kernel
theorem d1_misfitTimesShares_40 : decode M1_misfitTimesShares.2.1 40 = .ok (.iaload, 1) := by decide +kernel
theorem d1_misfitTimesShares_41 : decode M1_misfitTimesShares.2.1 41 = .ok (.i2l, 1) := by decide +kernel
theorem d1_misfitTimesShares_42 : decode M1_misfitTimesShares.2.1 42 = .ok (.lload_n 3, 1) := by decide +kernel
theorem d1_misfitTimesShares_43 : decode M1_misfitTimesShares.2.1 43 = .ok (.lmul, 1) := by decide +kernel
theorem d1_misfitTimesShares_44 : decode M1_misfitTimesShares.2.1 44 = .ok (.aload_n 1, 1) := by decide +kernel
theorem d1_misfitTimesShares_45 : decode M1_misfitTimesShares.2.1 45 = .ok (.iload_n 2, 1) := by decide +kernel
theorem d1_misfitTimesShares_46 : decode M1_misfitTimesShares.2.1 46 = .ok (.aload_n 0, 1) := by decide +kernel
theorem d1_misfitTimesShares_47 : decode M1_misfitTimesShares.2.1 47 = .ok (.getfield 9, 3) := by decide +kernel
theorem d1_misfitTimesShares_50 : decode M1_misfitTimesShares.2.1 50 = .ok (.iload 9, 2) := by decide +kernel
theorem d1_misfitTimesShares_52 : decode M1_misfitTimesShares.2.1 52 = .ok (.iaload, 1) := by decide +kernel
theorem d1_misfitTimesShares_53 : decode M1_misfitTimesShares.2.1 53 = .ok (.invokevirtual 46, 3) := by decide +kernel
theorem d1_misfitTimesShares_56 : decode M1_misfitTimesShares.2.1 56 = .ok (.lload 5, 2) := by decide +kernel
theorem d1_misfitTimesShares_58 : decode M1_misfitTimesShares.2.1 58 = .ok (.lmul, 1) := by decide +kernel
theorem d1_misfitTimesShares_59 : decode M1_misfitTimesShares.2.1 59 = .ok (.lsub, 1) := by decide +kernel
theorem d1_misfitTimesShares_60 : decode M1_misfitTimesShares.2.1 60 = .ok (.invokestatic 58, 3) := by decide +kernel
theorem d1_misfitTimesShares_63 : decode M1_misfitTimesShares.2.1 63 = .ok (.ladd, 1) := by decide +kernel
theorem d1_misfitTimesShares_64 : decode M1_misfitTimesShares.2.1 64 = .ok (.lstore 7, 2) := by decide +kernel
theorem d1_misfitTimesShares_66 : decode M1_misfitTimesShares.2.1 66 = .ok (.iinc 9 1, 3) := by decide +kernel
theorem d1_misfitTimesShares_69 : decode M1_misfitTimesShares.2.1 69 = .ok (.goto (-56), 3) := by decide +kernel
theorem d1_misfitTimesShares_72 : decode M1_misfitTimesShares.2.1 72 = .ok (.lload 7, 2) := by decide +kernel
theorem d1_misfitTimesShares_74 : decode M1_misfitTimesShares.2.1 74 = .ok (.lreturn, 1) := by decide +kernel
theorem d1_usedTotal_0 : decode M1_usedTotal.2.1 0 = .ok (.lconst 0, 1) := by decide +kernel
theorem d1_usedTotal_1 : decode M1_usedTotal.2.1 1 = .ok (.lstore_n 2, 1) := by decide +kernel
theorem d1_usedTotal_2 : decode M1_usedTotal.2.1 2 = .ok (.iconst 0, 1) := by decide +kernel
theorem d1_usedTotal_3 : decode M1_usedTotal.2.1 3 = .ok (.istore 4, 2) := by decide +kernel
theorem d1_usedTotal_5 : decode M1_usedTotal.2.1 5 = .ok (.iload 4, 2) := by decide +kernel
theorem d1_usedTotal_7 : decode M1_usedTotal.2.1 7 = .ok (.aload_n 0, 1) := by decide +kernel
theorem d1_usedTotal_8 : decode M1_usedTotal.2.1 8 = .ok (.getfield 22, 3) := by decide +kernel
theorem d1_usedTotal_11 : decode M1_usedTotal.2.1 11 = .ok (.if_icmp .ge 30, 3) := by decide +kernel
theorem d1_usedTotal_14 : decode M1_usedTotal.2.1 14 = .ok (.aload_n 0, 1) := by decide +kernel
theorem d1_usedTotal_15 : decode M1_usedTotal.2.1 15 = .ok (.iload 4, 2) := by decide +kernel
theorem d1_usedTotal_17 : decode M1_usedTotal.2.1 17 = .ok (.aload_n 1, 1) := by decide +kernel
theorem d1_usedTotal_18 : decode M1_usedTotal.2.1 18 = .ok (.invokevirtual 26, 3) := by decide +kernel
theorem d1_usedTotal_21 : decode M1_usedTotal.2.1 21 = .ok (.ifCond .eq 14, 3) := by decide +kernel
theorem d1_usedTotal_24 : decode M1_usedTotal.2.1 24 = .ok (.lload_n 2, 1) := by decide +kernel
theorem d1_usedTotal_25 : decode M1_usedTotal.2.1 25 = .ok (.aload_n 0, 1) := by decide +kernel
theorem d1_usedTotal_26 : decode M1_usedTotal.2.1 26 = .ok (.getfield 15, 3) := by decide +kernel
theorem d1_usedTotal_29 : decode M1_usedTotal.2.1 29 = .ok (.iload 4, 2) := by decide +kernel
theorem d1_usedTotal_31 : decode M1_usedTotal.2.1 31 = .ok (.iaload, 1) := by decide +kernel
theorem d1_usedTotal_32 : decode M1_usedTotal.2.1 32 = .ok (.i2l, 1) := by decide +kernel
theorem d1_usedTotal_33 : decode M1_usedTotal.2.1 33 = .ok (.ladd, 1) := by decide +kernel
theorem d1_usedTotal_34 : decode M1_usedTotal.2.1 34 = .ok (.lstore_n 2, 1) := by decide +kernel
theorem d1_usedTotal_35 : decode M1_usedTotal.2.1 35 = .ok (.iinc 4 1, 3) := by decide +kernel
theorem d1_usedTotal_38 : decode M1_usedTotal.2.1 38 = .ok (.goto (-33), 3) := by decide +kernel
theorem d1_usedTotal_41 : decode M1_usedTotal.2.1 41 = .ok (.lload_n 2, 1) := by decide +kernel
theorem d1_usedTotal_42 : decode M1_usedTotal.2.1 42 = .ok (.lreturn, 1) := by decide +kernel
theorem d1_usedShares_0 : decode M1_usedShares.2.1 0 = .ok (.lconst 0, 1) := by decide +kernel
theorem d1_usedShares_1 : decode M1_usedShares.2.1 1 = .ok (.lstore_n 3, 1) := by decide +kernel
theorem d1_usedShares_2 : decode M1_usedShares.2.1 2 = .ok (.iconst 0, 1) := by decide +kernel
theorem d1_usedShares_3 : decode M1_usedShares.2.1 3 = .ok (.istore 5, 2) := by decide +kernel
theorem d1_usedShares_5 : decode M1_usedShares.2.1 5 = .ok (.iload 5, 2) := by decide +kernel
theorem d1_usedShares_7 : decode M1_usedShares.2.1 7 = .ok (.aload_n 0, 1) := by decide +kernel
theorem d1_usedShares_8 : decode M1_usedShares.2.1 8 = .ok (.getfield 22, 3) := by decide +kernel
theorem d1_usedShares_11 : decode M1_usedShares.2.1 11 = .ok (.if_icmp .ge 34, 3) := by decide +kernel
theorem d1_usedShares_14 : decode M1_usedShares.2.1 14 = .ok (.aload_n 0, 1) := by decide +kernel
theorem d1_usedShares_15 : decode M1_usedShares.2.1 15 = .ok (.iload 5, 2) := by decide +kernel
theorem d1_usedShares_17 : decode M1_usedShares.2.1 17 = .ok (.aload_n 1, 1) := by decide +kernel
theorem d1_usedShares_18 : decode M1_usedShares.2.1 18 = .ok (.invokevirtual 26, 3) := by decide +kernel
theorem d1_usedShares_21 : decode M1_usedShares.2.1 21 = .ok (.ifCond .eq 18, 3) := by decide +kernel
theorem d1_usedShares_24 : decode M1_usedShares.2.1 24 = .ok (.lload_n 3, 1) := by decide +kernel
theorem d1_usedShares_25 : decode M1_usedShares.2.1 25 = .ok (.aload_n 1, 1) := by decide +kernel
theorem d1_usedShares_26 : decode M1_usedShares.2.1 26 = .ok (.iload_n 2, 1) := by decide +kernel
theorem d1_usedShares_27 : decode M1_usedShares.2.1 27 = .ok (.aload_n 0, 1) := by decide +kernel
theorem d1_usedShares_28 : decode M1_usedShares.2.1 28 = .ok (.getfield 9, 3) := by decide +kernel
theorem d1_usedShares_31 : decode M1_usedShares.2.1 31 = .ok (.iload 5, 2) := by decide +kernel
theorem d1_usedShares_33 : decode M1_usedShares.2.1 33 = .ok (.iaload, 1) := by decide +kernel
theorem d1_usedShares_34 : decode M1_usedShares.2.1 34 = .ok (.invokevirtual 46, 3) := by decide +kernel
theorem d1_usedShares_37 : decode M1_usedShares.2.1 37 = .ok (.ladd, 1) := by decide +kernel
theorem d1_usedShares_38 : decode M1_usedShares.2.1 38 = .ok (.lstore_n 3, 1) := by decide +kernel
theorem d1_usedShares_39 : decode M1_usedShares.2.1 39 = .ok (.iinc 5 1, 3) := by decide +kernel
theorem d1_usedShares_42 : decode M1_usedShares.2.1 42 = .ok (.goto (-37), 3) := by decide +kernel
theorem d1_usedShares_45 : decode M1_usedShares.2.1 45 = .ok (.lload_n 3, 1) := by decide +kernel
theorem d1_usedShares_46 : decode M1_usedShares.2.1 46 = .ok (.lreturn, 1) := by decide +kernel
theorem d1_isUsed_0 : decode M1_isUsed.2.1 0 = .ok (.aload_n 2, 1) := by decide +kernel
theorem d1_isUsed_1 : decode M1_isUsed.2.1 1 = .ok (.getfield 64, 3) := by decide +kernel
theorem d1_isUsed_4 : decode M1_isUsed.2.1 4 = .ok (.aload_n 0, 1) := by decide +kernel
theorem d1_isUsed_5 : decode M1_isUsed.2.1 5 = .ok (.getfield 9, 3) := by decide +kernel
theorem d1_isUsed_8 : decode M1_isUsed.2.1 8 = .ok (.iload_n 1, 1) := by decide +kernel
theorem d1_isUsed_9 : decode M1_isUsed.2.1 9 = .ok (.iaload, 1) := by decide +kernel
theorem d1_isUsed_10 : decode M1_isUsed.2.1 10 = .ok (.baload, 1) := by decide +kernel
theorem d1_isUsed_11 : decode M1_isUsed.2.1 11 = .ok (.ifCond .ne 7, 3) := by decide +kernel
theorem d1_isUsed_14 : decode M1_isUsed.2.1 14 = .ok (.iconst 1, 1) := by decide +kernel
theorem d1_isUsed_15 : decode M1_isUsed.2.1 15 = .ok (.goto 4, 3) := by decide +kernel
theorem d1_isUsed_18 : decode M1_isUsed.2.1 18 = .ok (.iconst 0, 1) := by decide +kernel
theorem d1_isUsed_19 : decode M1_isUsed.2.1 19 = .ok (.ireturn, 1) := by decide +kernel
theorem d1_placeOf_0 : decode M1_placeOf.2.1 0 = .ok (.iconst 0, 1) := by decide +kernel
theorem d1_placeOf_1 : decode M1_placeOf.2.1 1 = .ok (.istore_n 2, 1) := by decide +kernel
theorem d1_placeOf_2 : decode M1_placeOf.2.1 2 = .ok (.iload_n 2, 1) := by decide +kernel
theorem d1_placeOf_3 : decode M1_placeOf.2.1 3 = .ok (.aload_n 0, 1) := by decide +kernel
theorem d1_placeOf_4 : decode M1_placeOf.2.1 4 = .ok (.getfield 22, 3) := by decide +kernel
theorem d1_placeOf_7 : decode M1_placeOf.2.1 7 = .ok (.if_icmp .ge 21, 3) := by decide +kernel
theorem d1_placeOf_10 : decode M1_placeOf.2.1 10 = .ok (.aload_n 0, 1) := by decide +kernel
theorem d1_placeOf_11 : decode M1_placeOf.2.1 11 = .ok (.getfield 9, 3) := by decide +kernel
theorem d1_placeOf_14 : decode M1_placeOf.2.1 14 = .ok (.iload_n 2, 1) := by decide +kernel
theorem d1_placeOf_15 : decode M1_placeOf.2.1 15 = .ok (.iaload, 1) := by decide +kernel
theorem d1_placeOf_16 : decode M1_placeOf.2.1 16 = .ok (.iload_n 1, 1) := by decide +kernel
theorem d1_placeOf_17 : decode M1_placeOf.2.1 17 = .ok (.if_icmp .ne 5, 3) := by decide +kernel
theorem d1_placeOf_20 : decode M1_placeOf.2.1 20 = .ok (.iload_n 2, 1) := by decide +kernel
theorem d1_placeOf_21 : decode M1_placeOf.2.1 21 = .ok (.ireturn, 1) := by decide +kernel
theorem d1_placeOf_22 : decode M1_placeOf.2.1 22 = .ok (.iinc 2 1, 3) := by decide +kernel
theorem d1_placeOf_25 : decode M1_placeOf.2.1 25 = .ok (.goto (-23), 3) := by decide +kernel
theorem d1_placeOf_28 : decode M1_placeOf.2.1 28 = .ok (.iconst (-1), 1) := by decide +kernel
theorem d1_placeOf_29 : decode M1_placeOf.2.1 29 = .ok (.ireturn, 1) := by decide +kernel
theorem d2_init_0 : decode M2_init.2.1 0 = .ok (.aload_n 0, 1) := by decide +kernel
theorem d2_init_1 : decode M2_init.2.1 1 = .ok (.invokespecial 3, 3) := by decide +kernel
theorem d2_init_4 : decode M2_init.2.1 4 = .ok (.aload_n 0, 1) := by decide +kernel
theorem d2_init_5 : decode M2_init.2.1 5 = .ok (.bipush 12, 2) := by decide +kernel
theorem d2_init_7 : decode M2_init.2.1 7 = .ok (.anewarray 9, 3) := by decide +kernel
theorem d2_init_10 : decode M2_init.2.1 10 = .ok (.putfield 11, 3) := by decide +kernel
theorem d2_init_13 : decode M2_init.2.1 13 = .ok (.aload_n 0, 1) := by decide +kernel
theorem d2_init_14 : decode M2_init.2.1 14 = .ok (.bipush 8, 2) := by decide +kernel
theorem d2_init_16 : decode M2_init.2.1 16 = .ok (.newarray .int, 2) := by decide +kernel
theorem d2_init_18 : decode M2_init.2.1 18 = .ok (.putfield 17, 3) := by decide +kernel
theorem d2_init_21 : decode M2_init.2.1 21 = .ok (.aload_n 0, 1) := by decide +kernel
theorem d2_init_22 : decode M2_init.2.1 22 = .ok (.bipush 12, 2) := by decide +kernel
theorem d2_init_24 : decode M2_init.2.1 24 = .ok (.newarray .long, 2) := by decide +kernel
theorem d2_init_26 : decode M2_init.2.1 26 = .ok (.putfield 21, 3) := by decide +kernel
theorem d2_init_29 : decode M2_init.2.1 29 = .ok (.aload_n 0, 1) := by decide +kernel
theorem d2_init_30 : decode M2_init.2.1 30 = .ok (.bipush 12, 2) := by decide +kernel
theorem d2_init_32 : decode M2_init.2.1 32 = .ok (.newarray .int, 2) := by decide +kernel
theorem d2_init_34 : decode M2_init.2.1 34 = .ok (.putfield 25, 3) := by decide +kernel
theorem d2_init_37 : decode M2_init.2.1 37 = .ok (.aload_n 0, 1) := by decide +kernel
theorem d2_init_38 : decode M2_init.2.1 38 = .ok (.bipush 12, 2) := by decide +kernel
theorem d2_init_40 : decode M2_init.2.1 40 = .ok (.newarray .int, 2) := by decide +kernel
theorem d2_init_42 : decode M2_init.2.1 42 = .ok (.putfield 28, 3) := by decide +kernel
theorem d2_init_45 : decode M2_init.2.1 45 = .ok (.return_, 1) := by decide +kernel
theorem d2_add_0 : decode M2_add.2.1 0 = .ok (.aload_n 0, 1) := by decide +kernel
theorem d2_add_1 : decode M2_add.2.1 1 = .ok (.getfield 31, 3) := by decide +kernel
theorem d2_add_4 : decode M2_add.2.1 4 = .ok (.bipush 12, 2) := by decide +kernel
theorem d2_add_6 : decode M2_add.2.1 6 = .ok (.if_icmp .lt 5, 3) := by decide +kernel
theorem d2_add_9 : decode M2_add.2.1 9 = .ok (.iconst (-1), 1) := by decide +kernel
theorem d2_add_10 : decode M2_add.2.1 10 = .ok (.ireturn, 1) := by decide +kernel
theorem d2_add_11 : decode M2_add.2.1 11 = .ok (.aload_n 0, 1) := by decide +kernel
theorem d2_add_12 : decode M2_add.2.1 12 = .ok (.getfield 11, 3) := by decide +kernel
theorem d2_add_15 : decode M2_add.2.1 15 = .ok (.aload_n 0, 1) := by decide +kernel
theorem d2_add_16 : decode M2_add.2.1 16 = .ok (.getfield 31, 3) := by decide +kernel
theorem d2_add_19 : decode M2_add.2.1 19 = .ok (.new 9, 3) := by decide +kernel
theorem d2_add_22 : decode M2_add.2.1 22 = .ok (.dup, 1) := by decide +kernel
theorem d2_add_23 : decode M2_add.2.1 23 = .ok (.iload_n 1, 1) := by decide +kernel
theorem d2_add_24 : decode M2_add.2.1 24 = .ok (.iload_n 2, 1) := by decide +kernel
theorem d2_add_25 : decode M2_add.2.1 25 = .ok (.iload_n 3, 1) := by decide +kernel
theorem d2_add_26 : decode M2_add.2.1 26 = .ok (.invokespecial 35, 3) := by decide +kernel
theorem d2_add_29 : decode M2_add.2.1 29 = .ok (.aastore, 1) := by decide +kernel
theorem d2_add_30 : decode M2_add.2.1 30 = .ok (.iload_n 1, 1) := by decide +kernel
theorem d2_add_31 : decode M2_add.2.1 31 = .ok (.iconst (-1), 1) := by decide +kernel
theorem d2_add_32 : decode M2_add.2.1 32 = .ok (.if_icmp .eq 18, 3) := by decide +kernel
theorem d2_add_35 : decode M2_add.2.1 35 = .ok (.aload_n 0, 1) := by decide +kernel
theorem d2_add_36 : decode M2_add.2.1 36 = .ok (.getfield 17, 3) := by decide +kernel
theorem d2_add_39 : decode M2_add.2.1 39 = .ok (.iload_n 1, 1) := by decide +kernel
theorem d2_add_40 : decode M2_add.2.1 40 = .ok (.dup2, 1) := by decide +kernel
theorem d2_add_41 : decode M2_add.2.1 41 = .ok (.iaload, 1) := by decide +kernel
theorem d2_add_42 : decode M2_add.2.1 42 = .ok (.iconst 1, 1) := by decide +kernel
theorem d2_add_43 : decode M2_add.2.1 43 = .ok (.aload_n 0, 1) := by decide +kernel
theorem d2_add_44 : decode M2_add.2.1 44 = .ok (.getfield 31, 3) := by decide +kernel
theorem d2_add_47 : decode M2_add.2.1 47 = .ok (.ishl, 1) := by decide +kernel
theorem d2_add_48 : decode M2_add.2.1 48 = .ok (.ior, 1) := by decide +kernel
theorem d2_add_49 : decode M2_add.2.1 49 = .ok (.iastore, 1) := by decide +kernel
theorem d2_add_50 : decode M2_add.2.1 50 = .ok (.iload_n 2, 1) := by decide +kernel
theorem d2_add_51 : decode M2_add.2.1 51 = .ok (.iconst (-1), 1) := by decide +kernel
theorem d2_add_52 : decode M2_add.2.1 52 = .ok (.if_icmp .eq 18, 3) := by decide +kernel
theorem d2_add_55 : decode M2_add.2.1 55 = .ok (.aload_n 0, 1) := by decide +kernel
theorem d2_add_56 : decode M2_add.2.1 56 = .ok (.getfield 17, 3) := by decide +kernel
theorem d2_add_59 : decode M2_add.2.1 59 = .ok (.iload_n 2, 1) := by decide +kernel
theorem d2_add_60 : decode M2_add.2.1 60 = .ok (.dup2, 1) := by decide +kernel
theorem d2_add_61 : decode M2_add.2.1 61 = .ok (.iaload, 1) := by decide +kernel
theorem d2_add_62 : decode M2_add.2.1 62 = .ok (.iconst 1, 1) := by decide +kernel
theorem d2_add_63 : decode M2_add.2.1 63 = .ok (.aload_n 0, 1) := by decide +kernel
theorem d2_add_64 : decode M2_add.2.1 64 = .ok (.getfield 31, 3) := by decide +kernel
theorem d2_add_67 : decode M2_add.2.1 67 = .ok (.ishl, 1) := by decide +kernel
theorem d2_add_68 : decode M2_add.2.1 68 = .ok (.ior, 1) := by decide +kernel
theorem d2_add_69 : decode M2_add.2.1 69 = .ok (.iastore, 1) := by decide +kernel
theorem d2_add_70 : decode M2_add.2.1 70 = .ok (.aload_n 0, 1) := by decide +kernel
theorem d2_add_71 : decode M2_add.2.1 71 = .ok (.dup, 1) := by decide +kernel
theorem d2_add_72 : decode M2_add.2.1 72 = .ok (.getfield 31, 3) := by decide +kernel
theorem d2_add_75 : decode M2_add.2.1 75 = .ok (.iconst 1, 1) := by decide +kernel
theorem d2_add_76 : decode M2_add.2.1 76 = .ok (.iadd, 1) := by decide +kernel
theorem d2_add_77 : decode M2_add.2.1 77 = .ok (.putfield 31, 3) := by decide +kernel
theorem d2_add_80 : decode M2_add.2.1 80 = .ok (.aload_n 0, 1) := by decide +kernel
theorem d2_add_81 : decode M2_add.2.1 81 = .ok (.getfield 31, 3) := by decide +kernel
theorem d2_add_84 : decode M2_add.2.1 84 = .ok (.iconst 1, 1) := by decide +kernel
theorem d2_add_85 : decode M2_add.2.1 85 = .ok (.isub, 1) := by decide +kernel
theorem d2_add_86 : decode M2_add.2.1 86 = .ok (.ireturn, 1) := by decide +kernel
theorem d2_at_0 : decode M2_at.2.1 0 = .ok (.iload_n 1, 1) := by decide +kernel
theorem d2_at_1 : decode M2_at.2.1 1 = .ok (.aload_n 0, 1) := by decide +kernel
theorem d2_at_2 : decode M2_at.2.1 2 = .ok (.getfield 31, 3) := by decide +kernel
theorem d2_at_5 : decode M2_at.2.1 5 = .ok (.invokestatic 38, 3) := by decide +kernel
theorem d2_at_8 : decode M2_at.2.1 8 = .ok (.ifCond .eq 12, 3) := by decide +kernel
theorem d2_at_11 : decode M2_at.2.1 11 = .ok (.aload_n 0, 1) := by decide +kernel
theorem d2_at_12 : decode M2_at.2.1 12 = .ok (.getfield 11, 3) := by decide +kernel
theorem d2_at_15 : decode M2_at.2.1 15 = .ok (.iload_n 1, 1) := by decide +kernel
theorem d2_at_16 : decode M2_at.2.1 16 = .ok (.aaload, 1) := by decide +kernel
theorem d2_at_17 : decode M2_at.2.1 17 = .ok (.goto 4, 3) := by decide +kernel
theorem d2_at_20 : decode M2_at.2.1 20 = .ok (.aconst_null, 1) := by decide +kernel
theorem d2_at_21 : decode M2_at.2.1 21 = .ok (.areturn, 1) := by decide +kernel
theorem d2_hasAll_0 : decode M2_hasAll.2.1 0 = .ok (.iload_n 1, 1) := by decide +kernel
theorem d2_hasAll_1 : decode M2_hasAll.2.1 1 = .ok (.iconst 1, 1) := by decide +kernel
theorem d2_hasAll_2 : decode M2_hasAll.2.1 2 = .ok (.aload_n 0, 1) := by decide +kernel
theorem d2_hasAll_3 : decode M2_hasAll.2.1 3 = .ok (.getfield 31, 3) := by decide +kernel
theorem d2_hasAll_6 : decode M2_hasAll.2.1 6 = .ok (.ishl, 1) := by decide +kernel
theorem d2_hasAll_7 : decode M2_hasAll.2.1 7 = .ok (.invokestatic 38, 3) := by decide +kernel
theorem d2_hasAll_10 : decode M2_hasAll.2.1 10 = .ok (.ireturn, 1) := by decide +kernel
theorem d2_isKnown_0 : decode M2_isKnown.2.1 0 = .ok (.aload_n 0, 1) := by decide +kernel
theorem d2_isKnown_1 : decode M2_isKnown.2.1 1 = .ok (.getfield 42, 3) := by decide +kernel
theorem d2_isKnown_4 : decode M2_isKnown.2.1 4 = .ok (.iload_n 1, 1) := by decide +kernel
theorem d2_isKnown_5 : decode M2_isKnown.2.1 5 = .ok (.ishr, 1) := by decide +kernel
theorem d2_isKnown_6 : decode M2_isKnown.2.1 6 = .ok (.iconst 1, 1) := by decide +kernel
theorem d2_isKnown_7 : decode M2_isKnown.2.1 7 = .ok (.iand, 1) := by decide +kernel
theorem d2_isKnown_8 : decode M2_isKnown.2.1 8 = .ok (.iconst 1, 1) := by decide +kernel
theorem d2_isKnown_9 : decode M2_isKnown.2.1 9 = .ok (.if_icmp .ne 7, 3) := by decide +kernel
theorem d2_isKnown_12 : decode M2_isKnown.2.1 12 = .ok (.iconst 1, 1) := by decide +kernel
theorem d2_isKnown_13 : decode M2_isKnown.2.1 13 = .ok (.goto 4, 3) := by decide +kernel
theorem d2_isKnown_16 : decode M2_isKnown.2.1 16 = .ok (.iconst 0, 1) := by decide +kernel
theorem d2_isKnown_17 : decode M2_isKnown.2.1 17 = .ok (.ireturn, 1) := by decide +kernel
theorem d2_isTold_0 : decode M2_isTold.2.1 0 = .ok (.aload_n 0, 1) := by decide +kernel
theorem d2_isTold_1 : decode M2_isTold.2.1 1 = .ok (.getfield 45, 3) := by decide +kernel
theorem d2_isTold_4 : decode M2_isTold.2.1 4 = .ok (.iload_n 1, 1) := by decide +kernel
theorem d2_isTold_5 : decode M2_isTold.2.1 5 = .ok (.ishr, 1) := by decide +kernel
theorem d2_isTold_6 : decode M2_isTold.2.1 6 = .ok (.iconst 1, 1) := by decide +kernel
theorem d2_isTold_7 : decode M2_isTold.2.1 7 = .ok (.iand, 1) := by decide +kernel
theorem d2_isTold_8 : decode M2_isTold.2.1 8 = .ok (.iconst 1, 1) := by decide +kernel
theorem d2_isTold_9 : decode M2_isTold.2.1 9 = .ok (.if_icmp .ne 7, 3) := by decide +kernel
theorem d2_isTold_12 : decode M2_isTold.2.1 12 = .ok (.iconst 1, 1) := by decide +kernel
theorem d2_isTold_13 : decode M2_isTold.2.1 13 = .ok (.goto 4, 3) := by decide +kernel
theorem d2_isTold_16 : decode M2_isTold.2.1 16 = .ok (.iconst 0, 1) := by decide +kernel
theorem d2_isTold_17 : decode M2_isTold.2.1 17 = .ok (.ireturn, 1) := by decide +kernel
theorem d2_isAllToldAt_0 : decode M2_isAllToldAt.2.1 0 = .ok (.aload_n 0, 1) := by decide +kernel
theorem d2_isAllToldAt_1 : decode M2_isAllToldAt.2.1 1 = .ok (.getfield 17, 3) := by decide +kernel
theorem d2_isAllToldAt_4 : decode M2_isAllToldAt.2.1 4 = .ok (.iload_n 1, 1) := by decide +kernel
theorem d2_isAllToldAt_5 : decode M2_isAllToldAt.2.1 5 = .ok (.iaload, 1) := by decide +kernel
theorem d2_isAllToldAt_6 : decode M2_isAllToldAt.2.1 6 = .ok (.aload_n 0, 1) := by decide +kernel
theorem d2_isAllToldAt_7 : decode M2_isAllToldAt.2.1 7 = .ok (.getfield 45, 3) := by decide +kernel
theorem d2_isAllToldAt_10 : decode M2_isAllToldAt.2.1 10 = .ok (.iconst (-1), 1) := by decide +kernel
theorem d2_isAllToldAt_11 : decode M2_isAllToldAt.2.1 11 = .ok (.ixor, 1) := by decide +kernel
theorem d2_isAllToldAt_12 : decode M2_isAllToldAt.2.1 12 = .ok (.iand, 1) := by decide +kernel
theorem d2_isAllToldAt_13 : decode M2_isAllToldAt.2.1 13 = .ok (.ifCond .ne 7, 3) := by decide +kernel
theorem d2_isAllToldAt_16 : decode M2_isAllToldAt.2.1 16 = .ok (.iconst 1, 1) := by decide +kernel
theorem d2_isAllToldAt_17 : decode M2_isAllToldAt.2.1 17 = .ok (.goto 4, 3) := by decide +kernel
theorem d2_isAllToldAt_20 : decode M2_isAllToldAt.2.1 20 = .ok (.iconst 0, 1) := by decide +kernel
theorem d2_isAllToldAt_21 : decode M2_isAllToldAt.2.1 21 = .ok (.ireturn, 1) := by decide +kernel
theorem d2_loadOf_0 : decode M2_loadOf.2.1 0 = .ok (.aload_n 0, 1) := by decide +kernel
theorem d2_loadOf_1 : decode M2_loadOf.2.1 1 = .ok (.getfield 21, 3) := by decide +kernel
theorem d2_loadOf_4 : decode M2_loadOf.2.1 4 = .ok (.iload_n 1, 1) := by decide +kernel
theorem d2_loadOf_5 : decode M2_loadOf.2.1 5 = .ok (.laload, 1) := by decide +kernel
theorem d2_loadOf_6 : decode M2_loadOf.2.1 6 = .ok (.lreturn, 1) := by decide +kernel
theorem d2_surplus_0 : decode M2_surplus.2.1 0 = .ok (.lconst 0, 1) := by decide +kernel
theorem d2_surplus_1 : decode M2_surplus.2.1 1 = .ok (.lstore_n 2, 1) := by decide +kernel
theorem d2_surplus_2 : decode M2_surplus.2.1 2 = .ok (.iconst 0, 1) := by decide +kernel
theorem d2_surplus_3 : decode M2_surplus.2.1 3 = .ok (.istore 4, 2) := by decide +kernel
theorem d2_surplus_5 : decode M2_surplus.2.1 5 = .ok (.iload 4, 2) := by decide +kernel
theorem d2_surplus_7 : decode M2_surplus.2.1 7 = .ok (.aload_n 0, 1) := by decide +kernel
theorem d2_surplus_8 : decode M2_surplus.2.1 8 = .ok (.getfield 31, 3) := by decide +kernel
theorem d2_surplus_11 : decode M2_surplus.2.1 11 = .ok (.if_icmp .ge 68, 3) := by decide +kernel
theorem d2_surplus_14 : decode M2_surplus.2.1 14 = .ok (.aload_n 0, 1) := by decide +kernel
theorem d2_surplus_15 : decode M2_surplus.2.1 15 = .ok (.iload 4, 2) := by decide +kernel
theorem d2_surplus_17 : decode M2_surplus.2.1 17 = .ok (.invokevirtual 48, 3) := by decide +kernel
theorem d2_surplus_20 : decode M2_surplus.2.1 20 = .ok (.ifCond .eq 53, 3) := by decide +kernel
theorem d2_surplus_23 : decode M2_surplus.2.1 23 = .ok (.aload_n 0, 1) := by decide +kernel
theorem d2_surplus_24 : decode M2_surplus.2.1 24 = .ok (.getfield 17, 3) := by decide +kernel
theorem d2_surplus_27 : decode M2_surplus.2.1 27 = .ok (.iload_n 1, 1) := by decide +kernel
theorem d2_surplus_28 : decode M2_surplus.2.1 28 = .ok (.iaload, 1) := by decide +kernel
theorem d2_surplus_29 : decode M2_surplus.2.1 29 = .ok (.iload 4, 2) := by decide +kernel
theorem d2_surplus_31 : decode M2_surplus.2.1 31 = .ok (.ishr, 1) := by decide +kernel
theorem d2_surplus_32 : decode M2_surplus.2.1 32 = .ok (.iconst 1, 1) := by decide +kernel
theorem d2_surplus_33 : decode M2_surplus.2.1 33 = .ok (.iand, 1) := by decide +kernel
theorem d2_surplus_34 : decode M2_surplus.2.1 34 = .ok (.iconst 1, 1) := by decide +kernel
theorem d2_surplus_35 : decode M2_surplus.2.1 35 = .ok (.if_icmp .ne 38, 3) := by decide +kernel
theorem d2_surplus_38 : decode M2_surplus.2.1 38 = .ok (.lload_n 2, 1) := by decide +kernel
theorem d2_surplus_39 : decode M2_surplus.2.1 39 = .ok (.aload_n 0, 1) := by decide +kernel
theorem d2_surplus_40 : decode M2_surplus.2.1 40 = .ok (.getfield 11, 3) := by decide +kernel
theorem d2_surplus_43 : decode M2_surplus.2.1 43 = .ok (.iload 4, 2) := by decide +kernel
theorem d2_surplus_45 : decode M2_surplus.2.1 45 = .ok (.aaload, 1) := by decide +kernel
theorem d2_surplus_46 : decode M2_surplus.2.1 46 = .ok (.getfield 52, 3) := by decide +kernel
theorem d2_surplus_49 : decode M2_surplus.2.1 49 = .ok (.iload_n 1, 1) := by decide +kernel
theorem d2_surplus_50 : decode M2_surplus.2.1 50 = .ok (.if_icmp .ne 13, 3) := by decide +kernel
theorem d2_surplus_53 : decode M2_surplus.2.1 53 = .ok (.aload_n 0, 1) := by decide +kernel
theorem d2_surplus_54 : decode M2_surplus.2.1 54 = .ok (.getfield 21, 3) := by decide +kernel
theorem d2_surplus_57 : decode M2_surplus.2.1 57 = .ok (.iload 4, 2) := by decide +kernel
theorem d2_surplus_59 : decode M2_surplus.2.1 59 = .ok (.laload, 1) := by decide +kernel
theorem d2_surplus_60 : decode M2_surplus.2.1 60 = .ok (.goto 11, 3) := by decide +kernel
theorem d2_surplus_63 : decode M2_surplus.2.1 63 = .ok (.aload_n 0, 1) := by decide +kernel
theorem d2_surplus_64 : decode M2_surplus.2.1 64 = .ok (.getfield 21, 3) := by decide +kernel
theorem d2_surplus_67 : decode M2_surplus.2.1 67 = .ok (.iload 4, 2) := by decide +kernel
theorem d2_surplus_69 : decode M2_surplus.2.1 69 = .ok (.laload, 1) := by decide +kernel
theorem d2_surplus_70 : decode M2_surplus.2.1 70 = .ok (.lneg, 1) := by decide +kernel
theorem d2_surplus_71 : decode M2_surplus.2.1 71 = .ok (.ladd, 1) := by decide +kernel
theorem d2_surplus_72 : decode M2_surplus.2.1 72 = .ok (.lstore_n 2, 1) := by decide +kernel
theorem d2_surplus_73 : decode M2_surplus.2.1 73 = .ok (.iinc 4 1, 3) := by decide +kernel
theorem d2_surplus_76 : decode M2_surplus.2.1 76 = .ok (.goto (-71), 3) := by decide +kernel
theorem d2_surplus_79 : decode M2_surplus.2.1 79 = .ok (.lload_n 2, 1) := by decide +kernel
theorem d2_surplus_80 : decode M2_surplus.2.1 80 = .ok (.lreturn, 1) := by decide +kernel
theorem d2_settle_0 : decode M2_settle.2.1 0 = .ok (.aload_n 0, 1) := by decide +kernel
theorem d2_settle_1 : decode M2_settle.2.1 1 = .ok (.iconst 0, 1) := by decide +kernel
theorem d2_settle_2 : decode M2_settle.2.1 2 = .ok (.putfield 42, 3) := by decide +kernel
theorem d2_settle_5 : decode M2_settle.2.1 5 = .ok (.iconst 0, 1) := by decide +kernel
theorem d2_settle_6 : decode M2_settle.2.1 6 = .ok (.istore_n 2, 1) := by decide +kernel
theorem d2_settle_7 : decode M2_settle.2.1 7 = .ok (.iload_n 2, 1) := by decide +kernel
theorem d2_settle_8 : decode M2_settle.2.1 8 = .ok (.aload_n 0, 1) := by decide +kernel
theorem d2_settle_9 : decode M2_settle.2.1 9 = .ok (.getfield 31, 3) := by decide +kernel
theorem d2_settle_12 : decode M2_settle.2.1 12 = .ok (.if_icmp .ge 59, 3) := by decide +kernel
theorem d2_settle_15 : decode M2_settle.2.1 15 = .ok (.aload_n 0, 1) := by decide +kernel
theorem d2_settle_16 : decode M2_settle.2.1 16 = .ok (.getfield 11, 3) := by decide +kernel
theorem d2_settle_19 : decode M2_settle.2.1 19 = .ok (.iload_n 2, 1) := by decide +kernel
theorem d2_settle_20 : decode M2_settle.2.1 20 = .ok (.aaload, 1) := by decide +kernel
theorem d2_settle_21 : decode M2_settle.2.1 21 = .ok (.astore_n 3, 1) := by decide +kernel
theorem d2_settle_22 : decode M2_settle.2.1 22 = .ok (.aload_n 3, 1) := by decide +kernel
theorem d2_settle_23 : decode M2_settle.2.1 23 = .ok (.getfield 55, 3) := by decide +kernel
theorem d2_settle_26 : decode M2_settle.2.1 26 = .ok (.aload_n 1, 1) := by decide +kernel
theorem d2_settle_27 : decode M2_settle.2.1 27 = .ok (.aload_n 3, 1) := by decide +kernel
theorem d2_settle_28 : decode M2_settle.2.1 28 = .ok (.getfield 59, 3) := by decide +kernel
theorem d2_settle_31 : decode M2_settle.2.1 31 = .ok (.invokevirtual 62, 3) := by decide +kernel
theorem d2_settle_34 : decode M2_settle.2.1 34 = .ok (.lstore 4, 2) := by decide +kernel
theorem d2_settle_36 : decode M2_settle.2.1 36 = .ok (.lload 4, 2) := by decide +kernel
theorem d2_settle_38 : decode M2_settle.2.1 38 = .ok (.ldc2_w 68, 3) := by decide +kernel
theorem d2_settle_41 : decode M2_settle.2.1 41 = .ok (.lcmp, 1) := by decide +kernel
theorem d2_settle_42 : decode M2_settle.2.1 42 = .ok (.ifCond .eq 23, 3) := by decide +kernel
theorem d2_settle_45 : decode M2_settle.2.1 45 = .ok (.aload_n 0, 1) := by decide +kernel
theorem d2_settle_46 : decode M2_settle.2.1 46 = .ok (.dup, 1) := by decide +kernel
theorem d2_settle_47 : decode M2_settle.2.1 47 = .ok (.getfield 42, 3) := by decide +kernel
theorem d2_settle_50 : decode M2_settle.2.1 50 = .ok (.iconst 1, 1) := by decide +kernel
theorem d2_settle_51 : decode M2_settle.2.1 51 = .ok (.iload_n 2, 1) := by decide +kernel
theorem d2_settle_52 : decode M2_settle.2.1 52 = .ok (.ishl, 1) := by decide +kernel
theorem d2_settle_53 : decode M2_settle.2.1 53 = .ok (.ior, 1) := by decide +kernel
theorem d2_settle_54 : decode M2_settle.2.1 54 = .ok (.putfield 42, 3) := by decide +kernel
theorem d2_settle_57 : decode M2_settle.2.1 57 = .ok (.aload_n 0, 1) := by decide +kernel
theorem d2_settle_58 : decode M2_settle.2.1 58 = .ok (.getfield 21, 3) := by decide +kernel
theorem d2_settle_61 : decode M2_settle.2.1 61 = .ok (.iload_n 2, 1) := by decide +kernel
theorem d2_settle_62 : decode M2_settle.2.1 62 = .ok (.lload 4, 2) := by decide +kernel
theorem d2_settle_64 : decode M2_settle.2.1 64 = .ok (.lastore, 1) := by decide +kernel
theorem d2_settle_65 : decode M2_settle.2.1 65 = .ok (.iinc 2 1, 3) := by decide +kernel
theorem d2_settle_68 : decode M2_settle.2.1 68 = .ok (.goto (-61), 3) := by decide +kernel
theorem d2_settle_71 : decode M2_settle.2.1 71 = .ok (.aload_n 0, 1) := by decide +kernel
theorem d2_settle_72 : decode M2_settle.2.1 72 = .ok (.aload_n 0, 1) := by decide +kernel
theorem d2_settle_73 : decode M2_settle.2.1 73 = .ok (.getfield 42, 3) := by decide +kernel
theorem d2_settle_76 : decode M2_settle.2.1 76 = .ok (.putfield 45, 3) := by decide +kernel
theorem d2_settle_79 : decode M2_settle.2.1 79 = .ok (.aload_n 0, 1) := by decide +kernel
theorem d2_settle_80 : decode M2_settle.2.1 80 = .ok (.aload_n 0, 1) := by decide +kernel
theorem d2_settle_81 : decode M2_settle.2.1 81 = .ok (.getfield 42, 3) := by decide +kernel
theorem d2_settle_84 : decode M2_settle.2.1 84 = .ok (.invokevirtual 70, 3) := by decide +kernel
theorem d2_settle_87 : decode M2_settle.2.1 87 = .ok (.pop, 1) := by decide +kernel
theorem d2_settle_88 : decode M2_settle.2.1 88 = .ok (.iconst 0, 1) := by decide +kernel
theorem d2_settle_89 : decode M2_settle.2.1 89 = .ok (.istore_n 2, 1) := by decide +kernel
theorem d2_settle_90 : decode M2_settle.2.1 90 = .ok (.iload_n 2, 1) := by decide +kernel
theorem d2_settle_91 : decode M2_settle.2.1 91 = .ok (.aload_n 0, 1) := by decide +kernel
theorem d2_settle_92 : decode M2_settle.2.1 92 = .ok (.getfield 74, 3) := by decide +kernel
theorem d2_settle_95 : decode M2_settle.2.1 95 = .ok (.if_icmp .ge 72, 3) := by decide +kernel
theorem d2_settle_98 : decode M2_settle.2.1 98 = .ok (.aload_n 0, 1) := by decide +kernel
theorem d2_settle_99 : decode M2_settle.2.1 99 = .ok (.getfield 25, 3) := by decide +kernel
theorem d2_settle_102 : decode M2_settle.2.1 102 = .ok (.iload_n 2, 1) := by decide +kernel
theorem d2_settle_103 : decode M2_settle.2.1 103 = .ok (.iaload, 1) := by decide +kernel
theorem d2_settle_104 : decode M2_settle.2.1 104 = .ok (.istore_n 3, 1) := by decide +kernel
theorem d2_settle_105 : decode M2_settle.2.1 105 = .ok (.aload_n 0, 1) := by decide +kernel
theorem d2_settle_106 : decode M2_settle.2.1 106 = .ok (.getfield 28, 3) := by decide +kernel
theorem d2_settle_109 : decode M2_settle.2.1 109 = .ok (.iload_n 2, 1) := by decide +kernel
theorem d2_settle_110 : decode M2_settle.2.1 110 = .ok (.iaload, 1) := by decide +kernel
theorem d2_settle_111 : decode M2_settle.2.1 111 = .ok (.istore 4, 2) := by decide +kernel
theorem d2_settle_113 : decode M2_settle.2.1 113 = .ok (.aload_n 0, 1) := by decide +kernel
theorem d2_settle_114 : decode M2_settle.2.1 114 = .ok (.iload 4, 2) := by decide +kernel
theorem d2_settle_116 : decode M2_settle.2.1 116 = .ok (.invokevirtual 77, 3) := by decide +kernel
theorem d2_settle_119 : decode M2_settle.2.1 119 = .ok (.lstore 5, 2) := by decide +kernel
theorem d2_settle_121 : decode M2_settle.2.1 121 = .ok (.aload_n 0, 1) := by decide +kernel
theorem d2_settle_122 : decode M2_settle.2.1 122 = .ok (.getfield 21, 3) := by decide +kernel
theorem d2_settle_125 : decode M2_settle.2.1 125 = .ok (.iload_n 3, 1) := by decide +kernel
theorem d2_settle_126 : decode M2_settle.2.1 126 = .ok (.aload_n 0, 1) := by decide +kernel
theorem d2_settle_127 : decode M2_settle.2.1 127 = .ok (.getfield 11, 3) := by decide +kernel
theorem d2_settle_130 : decode M2_settle.2.1 130 = .ok (.iload_n 3, 1) := by decide +kernel
theorem d2_settle_131 : decode M2_settle.2.1 131 = .ok (.aaload, 1) := by decide +kernel
theorem d2_settle_132 : decode M2_settle.2.1 132 = .ok (.getfield 52, 3) := by decide +kernel
theorem d2_settle_135 : decode M2_settle.2.1 135 = .ok (.iload 4, 2) := by decide +kernel
theorem d2_settle_137 : decode M2_settle.2.1 137 = .ok (.if_icmp .ne 9, 3) := by decide +kernel
theorem d2_settle_140 : decode M2_settle.2.1 140 = .ok (.lload 5, 2) := by decide +kernel
theorem d2_settle_142 : decode M2_settle.2.1 142 = .ok (.lneg, 1) := by decide +kernel
theorem d2_settle_143 : decode M2_settle.2.1 143 = .ok (.goto 5, 3) := by decide +kernel
theorem d2_settle_146 : decode M2_settle.2.1 146 = .ok (.lload 5, 2) := by decide +kernel
theorem d2_settle_148 : decode M2_settle.2.1 148 = .ok (.lastore, 1) := by decide +kernel
theorem d2_settle_149 : decode M2_settle.2.1 149 = .ok (.aload_n 0, 1) := by decide +kernel
theorem d2_settle_150 : decode M2_settle.2.1 150 = .ok (.dup, 1) := by decide +kernel
theorem d2_settle_151 : decode M2_settle.2.1 151 = .ok (.getfield 45, 3) := by decide +kernel
theorem d2_settle_154 : decode M2_settle.2.1 154 = .ok (.iconst 1, 1) := by decide +kernel
theorem d2_settle_155 : decode M2_settle.2.1 155 = .ok (.iload_n 3, 1) := by decide +kernel
theorem d2_settle_156 : decode M2_settle.2.1 156 = .ok (.ishl, 1) := by decide +kernel
theorem d2_settle_157 : decode M2_settle.2.1 157 = .ok (.ior, 1) := by decide +kernel
theorem d2_settle_158 : decode M2_settle.2.1 158 = .ok (.putfield 45, 3) := by decide +kernel
theorem d2_settle_161 : decode M2_settle.2.1 161 = .ok (.iinc 2 1, 3) := by decide +kernel
theorem d2_settle_164 : decode M2_settle.2.1 164 = .ok (.goto (-74), 3) := by decide +kernel
theorem d2_settle_167 : decode M2_settle.2.1 167 = .ok (.return_, 1) := by decide +kernel
theorem d2_isEnough_0 : decode M2_isEnough.2.1 0 = .ok (.aload_n 0, 1) := by decide +kernel
theorem d2_isEnough_1 : decode M2_isEnough.2.1 1 = .ok (.iload_n 1, 1) := by decide +kernel
theorem d2_isEnough_2 : decode M2_isEnough.2.1 2 = .ok (.invokevirtual 70, 3) := by decide +kernel
theorem d2_isEnough_5 : decode M2_isEnough.2.1 5 = .ok (.iconst 1, 1) := by decide +kernel
theorem d2_isEnough_6 : decode M2_isEnough.2.1 6 = .ok (.aload_n 0, 1) := by decide +kernel
theorem d2_isEnough_7 : decode M2_isEnough.2.1 7 = .ok (.getfield 31, 3) := by decide +kernel
theorem d2_isEnough_10 : decode M2_isEnough.2.1 10 = .ok (.ishl, 1) := by decide +kernel
theorem d2_isEnough_11 : decode M2_isEnough.2.1 11 = .ok (.iconst 1, 1) := by decide +kernel
theorem d2_isEnough_12 : decode M2_isEnough.2.1 12 = .ok (.isub, 1) := by decide +kernel
theorem d2_isEnough_13 : decode M2_isEnough.2.1 13 = .ok (.if_icmp .ne 7, 3) := by decide +kernel
theorem d2_isEnough_16 : decode M2_isEnough.2.1 16 = .ok (.iconst 1, 1) := by decide +kernel
theorem d2_isEnough_17 : decode M2_isEnough.2.1 17 = .ok (.goto 4, 3) := by decide +kernel
theorem d2_isEnough_20 : decode M2_isEnough.2.1 20 = .ok (.iconst 0, 1) := by decide +kernel
theorem d2_isEnough_21 : decode M2_isEnough.2.1 21 = .ok (.ireturn, 1) := by decide +kernel
theorem d2_cheapestEnough_0 : decode M2_cheapestEnough.2.1 0 = .ok (.iconst 1, 1) := by decide +kernel
theorem d2_cheapestEnough_1 : decode M2_cheapestEnough.2.1 1 = .ok (.aload_n 0, 1) := by decide +kernel
theorem d2_cheapestEnough_2 : decode M2_cheapestEnough.2.1 2 = .ok (.getfield 31, 3) := by decide +kernel
theorem d2_cheapestEnough_5 : decode M2_cheapestEnough.2.1 5 = .ok (.ishl, 1) := by decide +kernel
theorem d2_cheapestEnough_6 : decode M2_cheapestEnough.2.1 6 = .ok (.iconst 1, 1) := by decide +kernel
theorem d2_cheapestEnough_7 : decode M2_cheapestEnough.2.1 7 = .ok (.isub, 1) := by decide +kernel
theorem d2_cheapestEnough_8 : decode M2_cheapestEnough.2.1 8 = .ok (.istore_n 1, 1) := by decide +kernel
theorem d2_cheapestEnough_9 : decode M2_cheapestEnough.2.1 9 = .ok (.iconst 0, 1) := by decide +kernel
theorem d2_cheapestEnough_10 : decode M2_cheapestEnough.2.1 10 = .ok (.istore_n 2, 1) := by decide +kernel
theorem d2_cheapestEnough_11 : decode M2_cheapestEnough.2.1 11 = .ok (.iconst 0, 1) := by decide +kernel
theorem d2_cheapestEnough_12 : decode M2_cheapestEnough.2.1 12 = .ok (.istore_n 3, 1) := by decide +kernel
theorem d2_cheapestEnough_13 : decode M2_cheapestEnough.2.1 13 = .ok (.iload_n 3, 1) := by decide +kernel
theorem d2_cheapestEnough_14 : decode M2_cheapestEnough.2.1 14 = .ok (.aload_n 0, 1) := by decide +kernel
theorem d2_cheapestEnough_15 : decode M2_cheapestEnough.2.1 15 = .ok (.getfield 31, 3) := by decide +kernel
theorem d2_cheapestEnough_18 : decode M2_cheapestEnough.2.1 18 = .ok (.if_icmp .ge 47, 3) := by decide +kernel
theorem d2_cheapestEnough_21 : decode M2_cheapestEnough.2.1 21 = .ok (.aload_n 0, 1) := by decide +kernel
theorem d2_cheapestEnough_22 : decode M2_cheapestEnough.2.1 22 = .ok (.iload_n 2, 1) := by decide +kernel
theorem d2_cheapestEnough_23 : decode M2_cheapestEnough.2.1 23 = .ok (.invokevirtual 81, 3) := by decide +kernel
theorem d2_cheapestEnough_26 : decode M2_cheapestEnough.2.1 26 = .ok (.istore 4, 2) := by decide +kernel
theorem d2_cheapestEnough_28 : decode M2_cheapestEnough.2.1 28 = .ok (.iload_n 2, 1) := by decide +kernel
theorem d2_cheapestEnough_29 : decode M2_cheapestEnough.2.1 29 = .ok (.iconst 1, 1) := by decide +kernel
theorem d2_cheapestEnough_30 : decode M2_cheapestEnough.2.1 30 = .ok (.iload 4, 2) := by decide +kernel
theorem d2_cheapestEnough_32 : decode M2_cheapestEnough.2.1 32 = .ok (.ishl, 1) := by decide +kernel
theorem d2_cheapestEnough_33 : decode M2_cheapestEnough.2.1 33 = .ok (.ior, 1) := by decide +kernel
theorem d2_cheapestEnough_34 : decode M2_cheapestEnough.2.1 34 = .ok (.istore_n 2, 1) := by decide +kernel
theorem d2_cheapestEnough_35 : decode M2_cheapestEnough.2.1 35 = .ok (.aload_n 0, 1) := by decide +kernel
theorem d2_cheapestEnough_36 : decode M2_cheapestEnough.2.1 36 = .ok (.iload_n 1, 1) := by decide +kernel
theorem d2_cheapestEnough_37 : decode M2_cheapestEnough.2.1 37 = .ok (.iconst 1, 1) := by decide +kernel
theorem d2_cheapestEnough_38 : decode M2_cheapestEnough.2.1 38 = .ok (.iload 4, 2) := by decide +kernel
theorem d2_cheapestEnough_40 : decode M2_cheapestEnough.2.1 40 = .ok (.ishl, 1) := by decide +kernel
theorem d2_cheapestEnough_41 : decode M2_cheapestEnough.2.1 41 = .ok (.iconst (-1), 1) := by decide +kernel
theorem d2_cheapestEnough_42 : decode M2_cheapestEnough.2.1 42 = .ok (.ixor, 1) := by decide +kernel
theorem d2_cheapestEnough_43 : decode M2_cheapestEnough.2.1 43 = .ok (.iand, 1) := by decide +kernel
theorem d2_cheapestEnough_44 : decode M2_cheapestEnough.2.1 44 = .ok (.invokevirtual 84, 3) := by decide +kernel
theorem d2_cheapestEnough_47 : decode M2_cheapestEnough.2.1 47 = .ok (.ifCond .eq 12, 3) := by decide +kernel
theorem d2_cheapestEnough_50 : decode M2_cheapestEnough.2.1 50 = .ok (.iload_n 1, 1) := by decide +kernel
theorem d2_cheapestEnough_51 : decode M2_cheapestEnough.2.1 51 = .ok (.iconst 1, 1) := by decide +kernel
theorem d2_cheapestEnough_52 : decode M2_cheapestEnough.2.1 52 = .ok (.iload 4, 2) := by decide +kernel
theorem d2_cheapestEnough_54 : decode M2_cheapestEnough.2.1 54 = .ok (.ishl, 1) := by decide +kernel
theorem d2_cheapestEnough_55 : decode M2_cheapestEnough.2.1 55 = .ok (.iconst (-1), 1) := by decide +kernel
theorem d2_cheapestEnough_56 : decode M2_cheapestEnough.2.1 56 = .ok (.ixor, 1) := by decide +kernel
theorem d2_cheapestEnough_57 : decode M2_cheapestEnough.2.1 57 = .ok (.iand, 1) := by decide +kernel
theorem d2_cheapestEnough_58 : decode M2_cheapestEnough.2.1 58 = .ok (.istore_n 1, 1) := by decide +kernel
theorem d2_cheapestEnough_59 : decode M2_cheapestEnough.2.1 59 = .ok (.iinc 3 1, 3) := by decide +kernel
theorem d2_cheapestEnough_62 : decode M2_cheapestEnough.2.1 62 = .ok (.goto (-49), 3) := by decide +kernel
theorem d2_cheapestEnough_65 : decode M2_cheapestEnough.2.1 65 = .ok (.iload_n 1, 1) := by decide +kernel
theorem d2_cheapestEnough_66 : decode M2_cheapestEnough.2.1 66 = .ok (.ireturn, 1) := by decide +kernel
theorem d2_dearestOutside_0 : decode M2_dearestOutside.2.1 0 = .ok (.iconst 0, 1) := by decide +kernel
theorem d2_dearestOutside_1 : decode M2_dearestOutside.2.1 1 = .ok (.istore_n 2, 1) := by decide +kernel
theorem d2_dearestOutside_2 : decode M2_dearestOutside.2.1 2 = .ok (.iconst (-1), 1) := by decide +kernel
theorem d2_dearestOutside_3 : decode M2_dearestOutside.2.1 3 = .ok (.istore_n 3, 1) := by decide +kernel
theorem d2_dearestOutside_4 : decode M2_dearestOutside.2.1 4 = .ok (.iconst 0, 1) := by decide +kernel
theorem d2_dearestOutside_5 : decode M2_dearestOutside.2.1 5 = .ok (.istore 4, 2) := by decide +kernel
theorem d2_dearestOutside_7 : decode M2_dearestOutside.2.1 7 = .ok (.iload 4, 2) := by decide +kernel
theorem d2_dearestOutside_9 : decode M2_dearestOutside.2.1 9 = .ok (.aload_n 0, 1) := by decide +kernel
theorem d2_dearestOutside_10 : decode M2_dearestOutside.2.1 10 = .ok (.getfield 31, 3) := by decide +kernel
theorem d2_dearestOutside_13 : decode M2_dearestOutside.2.1 13 = .ok (.if_icmp .ge 46, 3) := by decide +kernel
theorem d2_dearestOutside_16 : decode M2_dearestOutside.2.1 16 = .ok (.iload_n 1, 1) := by decide +kernel
theorem d2_dearestOutside_17 : decode M2_dearestOutside.2.1 17 = .ok (.iload 4, 2) := by decide +kernel
theorem d2_dearestOutside_19 : decode M2_dearestOutside.2.1 19 = .ok (.ishr, 1) := by decide +kernel
theorem d2_dearestOutside_20 : decode M2_dearestOutside.2.1 20 = .ok (.iconst 1, 1) := by decide +kernel
theorem d2_dearestOutside_21 : decode M2_dearestOutside.2.1 21 = .ok (.iand, 1) := by decide +kernel
theorem d2_dearestOutside_22 : decode M2_dearestOutside.2.1 22 = .ok (.ifCond .ne 31, 3) := by decide +kernel
theorem d2_dearestOutside_25 : decode M2_dearestOutside.2.1 25 = .ok (.aload_n 0, 1) := by decide +kernel
theorem d2_dearestOutside_26 : decode M2_dearestOutside.2.1 26 = .ok (.getfield 11, 3) := by decide +kernel
theorem d2_dearestOutside_29 : decode M2_dearestOutside.2.1 29 = .ok (.iload 4, 2) := by decide +kernel
theorem d2_dearestOutside_31 : decode M2_dearestOutside.2.1 31 = .ok (.aaload, 1) := by decide +kernel
theorem d2_dearestOutside_32 : decode M2_dearestOutside.2.1 32 = .ok (.getfield 87, 3) := by decide +kernel
theorem d2_dearestOutside_35 : decode M2_dearestOutside.2.1 35 = .ok (.iload_n 3, 1) := by decide +kernel
theorem d2_dearestOutside_36 : decode M2_dearestOutside.2.1 36 = .ok (.if_icmp .lt 17, 3) := by decide +kernel
theorem d2_dearestOutside_39 : decode M2_dearestOutside.2.1 39 = .ok (.iload 4, 2) := by decide +kernel
theorem d2_dearestOutside_41 : decode M2_dearestOutside.2.1 41 = .ok (.istore_n 2, 1) := by decide +kernel
theorem d2_dearestOutside_42 : decode M2_dearestOutside.2.1 42 = .ok (.aload_n 0, 1) := by decide +kernel
theorem d2_dearestOutside_43 : decode M2_dearestOutside.2.1 43 = .ok (.getfield 11, 3) := by decide +kernel
theorem d2_dearestOutside_46 : decode M2_dearestOutside.2.1 46 = .ok (.iload 4, 2) := by decide +kernel
theorem d2_dearestOutside_48 : decode M2_dearestOutside.2.1 48 = .ok (.aaload, 1) := by decide +kernel
theorem d2_dearestOutside_49 : decode M2_dearestOutside.2.1 49 = .ok (.getfield 87, 3) := by decide +kernel
theorem d2_dearestOutside_52 : decode M2_dearestOutside.2.1 52 = .ok (.istore_n 3, 1) := by decide +kernel
theorem d2_dearestOutside_53 : decode M2_dearestOutside.2.1 53 = .ok (.iinc 4 1, 3) := by decide +kernel
theorem d2_dearestOutside_56 : decode M2_dearestOutside.2.1 56 = .ok (.goto (-49), 3) := by decide +kernel
theorem d2_dearestOutside_59 : decode M2_dearestOutside.2.1 59 = .ok (.iload_n 2, 1) := by decide +kernel
theorem d2_dearestOutside_60 : decode M2_dearestOutside.2.1 60 = .ok (.ireturn, 1) := by decide +kernel
theorem d2_follow_0 : decode M2_follow.2.1 0 = .ok (.iload_n 1, 1) := by decide +kernel
theorem d2_follow_1 : decode M2_follow.2.1 1 = .ok (.istore_n 2, 1) := by decide +kernel
theorem d2_follow_2 : decode M2_follow.2.1 2 = .ok (.aload_n 0, 1) := by decide +kernel
theorem d2_follow_3 : decode M2_follow.2.1 3 = .ok (.iconst 0, 1) := by decide +kernel
theorem d2_follow_4 : decode M2_follow.2.1 4 = .ok (.putfield 74, 3) := by decide +kernel
theorem d2_follow_7 : decode M2_follow.2.1 7 = .ok (.iconst 1, 1) := by decide +kernel
theorem d2_follow_8 : decode M2_follow.2.1 8 = .ok (.istore_n 3, 1) := by decide +kernel
theorem d2_follow_9 : decode M2_follow.2.1 9 = .ok (.iconst 0, 1) := by decide +kernel
theorem d2_follow_10 : decode M2_follow.2.1 10 = .ok (.istore 4, 2) := by decide +kernel
theorem d2_follow_12 : decode M2_follow.2.1 12 = .ok (.iload_n 3, 1) := by decide +kernel
theorem d2_follow_13 : decode M2_follow.2.1 13 = .ok (.ifCond .eq 109, 3) := by decide +kernel
theorem d2_follow_16 : decode M2_follow.2.1 16 = .ok (.iload 4, 2) := by decide +kernel
theorem d2_follow_18 : decode M2_follow.2.1 18 = .ok (.aload_n 0, 1) := by decide +kernel
theorem d2_follow_19 : decode M2_follow.2.1 19 = .ok (.getfield 31, 3) := by decide +kernel
theorem d2_follow_22 : decode M2_follow.2.1 22 = .ok (.if_icmp .gt 100, 3) := by decide +kernel
theorem d2_follow_25 : decode M2_follow.2.1 25 = .ok (.iconst 0, 1) := by decide +kernel
theorem d2_follow_26 : decode M2_follow.2.1 26 = .ok (.istore_n 3, 1) := by decide +kernel
theorem d2_follow_27 : decode M2_follow.2.1 27 = .ok (.iconst 0, 1) := by decide +kernel
theorem d2_follow_28 : decode M2_follow.2.1 28 = .ok (.istore 5, 2) := by decide +kernel
theorem d2_follow_30 : decode M2_follow.2.1 30 = .ok (.iload 5, 2) := by decide +kernel
theorem d2_follow_32 : decode M2_follow.2.1 32 = .ok (.bipush 8, 2) := by decide +kernel
theorem d2_follow_34 : decode M2_follow.2.1 34 = .ok (.if_icmp .ge 82, 3) := by decide +kernel
theorem d2_follow_37 : decode M2_follow.2.1 37 = .ok (.aload_n 0, 1) := by decide +kernel
theorem d2_follow_38 : decode M2_follow.2.1 38 = .ok (.getfield 17, 3) := by decide +kernel
theorem d2_follow_41 : decode M2_follow.2.1 41 = .ok (.iload 5, 2) := by decide +kernel
theorem d2_follow_43 : decode M2_follow.2.1 43 = .ok (.iaload, 1) := by decide +kernel
theorem d2_follow_44 : decode M2_follow.2.1 44 = .ok (.iload_n 2, 1) := by decide +kernel
theorem d2_follow_45 : decode M2_follow.2.1 45 = .ok (.iconst (-1), 1) := by decide +kernel
theorem d2_follow_46 : decode M2_follow.2.1 46 = .ok (.ixor, 1) := by decide +kernel
theorem d2_follow_47 : decode M2_follow.2.1 47 = .ok (.iand, 1) := by decide +kernel
theorem d2_follow_48 : decode M2_follow.2.1 48 = .ok (.istore 6, 2) := by decide +kernel
theorem d2_follow_50 : decode M2_follow.2.1 50 = .ok (.iload 6, 2) := by decide +kernel
theorem d2_follow_52 : decode M2_follow.2.1 52 = .ok (.invokestatic 90, 3) := by decide +kernel
theorem d2_follow_55 : decode M2_follow.2.1 55 = .ok (.iconst 1, 1) := by decide +kernel
theorem d2_follow_56 : decode M2_follow.2.1 56 = .ok (.if_icmp .ne 54, 3) := by decide +kernel
theorem d2_follow_59 : decode M2_follow.2.1 59 = .ok (.aload_n 0, 1) := by decide +kernel
theorem d2_follow_60 : decode M2_follow.2.1 60 = .ok (.getfield 74, 3) := by decide +kernel
theorem d2_follow_63 : decode M2_follow.2.1 63 = .ok (.bipush 12, 2) := by decide +kernel
theorem d2_follow_65 : decode M2_follow.2.1 65 = .ok (.if_icmp .ge 45, 3) := by decide +kernel
theorem d2_follow_68 : decode M2_follow.2.1 68 = .ok (.aload_n 0, 1) := by decide +kernel
theorem d2_follow_69 : decode M2_follow.2.1 69 = .ok (.getfield 25, 3) := by decide +kernel
theorem d2_follow_72 : decode M2_follow.2.1 72 = .ok (.aload_n 0, 1) := by decide +kernel
theorem d2_follow_73 : decode M2_follow.2.1 73 = .ok (.getfield 74, 3) := by decide +kernel
theorem d2_follow_76 : decode M2_follow.2.1 76 = .ok (.iload 6, 2) := by decide +kernel
theorem d2_follow_78 : decode M2_follow.2.1 78 = .ok (.invokestatic 95, 3) := by decide +kernel
theorem d2_follow_81 : decode M2_follow.2.1 81 = .ok (.iastore, 1) := by decide +kernel
theorem d2_follow_82 : decode M2_follow.2.1 82 = .ok (.aload_n 0, 1) := by decide +kernel
theorem d2_follow_83 : decode M2_follow.2.1 83 = .ok (.getfield 28, 3) := by decide +kernel
theorem d2_follow_86 : decode M2_follow.2.1 86 = .ok (.aload_n 0, 1) := by decide +kernel
theorem d2_follow_87 : decode M2_follow.2.1 87 = .ok (.getfield 74, 3) := by decide +kernel
theorem d2_follow_90 : decode M2_follow.2.1 90 = .ok (.iload 5, 2) := by decide +kernel
theorem d2_follow_92 : decode M2_follow.2.1 92 = .ok (.iastore, 1) := by decide +kernel
theorem d2_follow_93 : decode M2_follow.2.1 93 = .ok (.aload_n 0, 1) := by decide +kernel
theorem d2_follow_94 : decode M2_follow.2.1 94 = .ok (.dup, 1) := by decide +kernel
theorem d2_follow_95 : decode M2_follow.2.1 95 = .ok (.getfield 74, 3) := by decide +kernel
theorem d2_follow_98 : decode M2_follow.2.1 98 = .ok (.iconst 1, 1) := by decide +kernel
theorem d2_follow_99 : decode M2_follow.2.1 99 = .ok (.iadd, 1) := by decide +kernel
theorem d2_follow_100 : decode M2_follow.2.1 100 = .ok (.putfield 74, 3) := by decide +kernel
theorem d2_follow_103 : decode M2_follow.2.1 103 = .ok (.iload_n 2, 1) := by decide +kernel
theorem d2_follow_104 : decode M2_follow.2.1 104 = .ok (.iload 6, 2) := by decide +kernel
theorem d2_follow_106 : decode M2_follow.2.1 106 = .ok (.ior, 1) := by decide +kernel
theorem d2_follow_107 : decode M2_follow.2.1 107 = .ok (.istore_n 2, 1) := by decide +kernel
theorem d2_follow_108 : decode M2_follow.2.1 108 = .ok (.iconst 1, 1) := by decide +kernel
theorem d2_follow_109 : decode M2_follow.2.1 109 = .ok (.istore_n 3, 1) := by decide +kernel
theorem d2_follow_110 : decode M2_follow.2.1 110 = .ok (.iinc 5 1, 3) := by decide +kernel
theorem d2_follow_113 : decode M2_follow.2.1 113 = .ok (.goto (-83), 3) := by decide +kernel
theorem d2_follow_116 : decode M2_follow.2.1 116 = .ok (.iinc 4 1, 3) := by decide +kernel
theorem d2_follow_119 : decode M2_follow.2.1 119 = .ok (.goto (-107), 3) := by decide +kernel
theorem d2_follow_122 : decode M2_follow.2.1 122 = .ok (.iload_n 2, 1) := by decide +kernel
theorem d2_follow_123 : decode M2_follow.2.1 123 = .ok (.ireturn, 1) := by decide +kernel
theorem d3_init_0 : decode M3_init.2.1 0 = .ok (.aload_n 0, 1) := by decide +kernel
theorem d3_init_1 : decode M3_init.2.1 1 = .ok (.invokespecial 3, 3) := by decide +kernel
theorem d3_init_4 : decode M3_init.2.1 4 = .ok (.aload_n 0, 1) := by decide +kernel
theorem d3_init_5 : decode M3_init.2.1 5 = .ok (.new 9, 3) := by decide +kernel
theorem d3_init_8 : decode M3_init.2.1 8 = .ok (.dup, 1) := by decide +kernel
theorem d3_init_9 : decode M3_init.2.1 9 = .ok (.invokespecial 11, 3) := by decide +kernel
theorem d3_init_12 : decode M3_init.2.1 12 = .ok (.putfield 12, 3) := by decide +kernel
theorem d3_init_15 : decode M3_init.2.1 15 = .ok (.aload_n 0, 1) := by decide +kernel
theorem d3_init_16 : decode M3_init.2.1 16 = .ok (.bipush 10, 2) := by decide +kernel
theorem d3_init_18 : decode M3_init.2.1 18 = .ok (.newarray .int, 2) := by decide +kernel
theorem d3_init_20 : decode M3_init.2.1 20 = .ok (.putfield 18, 3) := by decide +kernel
theorem d3_init_23 : decode M3_init.2.1 23 = .ok (.aload_n 0, 1) := by decide +kernel
theorem d3_init_24 : decode M3_init.2.1 24 = .ok (.iload_n 1, 1) := by decide +kernel
theorem d3_init_25 : decode M3_init.2.1 25 = .ok (.putfield 22, 3) := by decide +kernel
theorem d3_init_28 : decode M3_init.2.1 28 = .ok (.aload_n 0, 1) := by decide +kernel
theorem d3_init_29 : decode M3_init.2.1 29 = .ok (.iload_n 2, 1) := by decide +kernel
theorem d3_init_30 : decode M3_init.2.1 30 = .ok (.putfield 26, 3) := by decide +kernel
theorem d3_init_33 : decode M3_init.2.1 33 = .ok (.aload_n 0, 1) := by decide +kernel
theorem d3_init_34 : decode M3_init.2.1 34 = .ok (.iload_n 3, 1) := by decide +kernel
theorem d3_init_35 : decode M3_init.2.1 35 = .ok (.putfield 29, 3) := by decide +kernel
theorem d3_init_38 : decode M3_init.2.1 38 = .ok (.return_, 1) := by decide +kernel
end
section
/-! what each instruction is -/
theorem d4_init_0 : decode M4_init.2.1 0 = .ok (.aload_n 0, 1) := by decide +kernel
theorem d4_init_1 : decode M4_init.2.1 1 = .ok (.invokespecial 3, 3) := by decide +kernel
theorem d4_init_4 : decode M4_init.2.1 4 = .ok (.aload_n 0, 1) := by decide +kernel
theorem d4_init_5 : decode M4_init.2.1 5 = .ok (.bipush 9, 2) := by decide +kernel
theorem d4_init_7 : decode M4_init.2.1 7 = .ok (.newarray .int, 2) := by decide +kernel
theorem d4_init_9 : decode M4_init.2.1 9 = .ok (.putfield 9, 3) := by decide +kernel
theorem d4_init_12 : decode M4_init.2.1 12 = .ok (.aload_n 0, 1) := by decide +kernel
theorem d4_init_13 : decode M4_init.2.1 13 = .ok (.bipush 9, 2) := by decide +kernel
theorem d4_init_15 : decode M4_init.2.1 15 = .ok (.newarray .int, 2) := by decide +kernel
theorem d4_init_17 : decode M4_init.2.1 17 = .ok (.putfield 15, 3) := by decide +kernel
theorem d4_init_20 : decode M4_init.2.1 20 = .ok (.aload_n 0, 1) := by decide +kernel
theorem d4_init_21 : decode M4_init.2.1 21 = .ok (.bipush 9, 2) := by decide +kernel
theorem d4_init_23 : decode M4_init.2.1 23 = .ok (.iconst 4, 1) := by decide +kernel
theorem d4_init_24 : decode M4_init.2.1 24 = .ok (.multianewarray 18 2, 4) := by decide +kernel
theorem d4_init_28 : decode M4_init.2.1 28 = .ok (.putfield 20, 3) := by decide +kernel
theorem d4_init_31 : decode M4_init.2.1 31 = .ok (.aload_n 0, 1) := by decide +kernel
theorem d4_init_32 : decode M4_init.2.1 32 = .ok (.bipush 9, 2) := by decide +kernel
theorem d4_init_34 : decode M4_init.2.1 34 = .ok (.iconst 4, 1) := by decide +kernel
theorem d4_init_35 : decode M4_init.2.1 35 = .ok (.multianewarray 18 2, 4) := by decide +kernel
theorem d4_init_39 : decode M4_init.2.1 39 = .ok (.putfield 23, 3) := by decide +kernel
theorem d4_init_42 : decode M4_init.2.1 42 = .ok (.return_, 1) := by decide +kernel
theorem d4_addClause_0 : decode M4_addClause.2.1 0 = .ok (.aload_n 0, 1) := by decide +kernel
theorem d4_addClause_1 : decode M4_addClause.2.1 1 = .ok (.getfield 26, 3) := by decide +kernel
theorem d4_addClause_4 : decode M4_addClause.2.1 4 = .ok (.bipush 9, 2) := by decide +kernel
theorem d4_addClause_6 : decode M4_addClause.2.1 6 = .ok (.if_icmp .ge 33, 3) := by decide +kernel
theorem d4_addClause_9 : decode M4_addClause.2.1 9 = .ok (.aload_n 0, 1) := by decide +kernel
theorem d4_addClause_10 : decode M4_addClause.2.1 10 = .ok (.getfield 9, 3) := by decide +kernel
theorem d4_addClause_13 : decode M4_addClause.2.1 13 = .ok (.aload_n 0, 1) := by decide +kernel
theorem d4_addClause_14 : decode M4_addClause.2.1 14 = .ok (.getfield 26, 3) := by decide +kernel
theorem d4_addClause_17 : decode M4_addClause.2.1 17 = .ok (.iload_n 1, 1) := by decide +kernel
theorem d4_addClause_18 : decode M4_addClause.2.1 18 = .ok (.iastore, 1) := by decide +kernel
theorem d4_addClause_19 : decode M4_addClause.2.1 19 = .ok (.aload_n 0, 1) := by decide +kernel
theorem d4_addClause_20 : decode M4_addClause.2.1 20 = .ok (.getfield 15, 3) := by decide +kernel
theorem d4_addClause_23 : decode M4_addClause.2.1 23 = .ok (.aload_n 0, 1) := by decide +kernel
theorem d4_addClause_24 : decode M4_addClause.2.1 24 = .ok (.getfield 26, 3) := by decide +kernel
theorem d4_addClause_27 : decode M4_addClause.2.1 27 = .ok (.iconst 0, 1) := by decide +kernel
theorem d4_addClause_28 : decode M4_addClause.2.1 28 = .ok (.iastore, 1) := by decide +kernel
theorem d4_addClause_29 : decode M4_addClause.2.1 29 = .ok (.aload_n 0, 1) := by decide +kernel
theorem d4_addClause_30 : decode M4_addClause.2.1 30 = .ok (.dup, 1) := by decide +kernel
theorem d4_addClause_31 : decode M4_addClause.2.1 31 = .ok (.getfield 26, 3) := by decide +kernel
theorem d4_addClause_34 : decode M4_addClause.2.1 34 = .ok (.iconst 1, 1) := by decide +kernel
theorem d4_addClause_35 : decode M4_addClause.2.1 35 = .ok (.iadd, 1) := by decide +kernel
theorem d4_addClause_36 : decode M4_addClause.2.1 36 = .ok (.putfield 26, 3) := by decide +kernel
theorem d4_addClause_39 : decode M4_addClause.2.1 39 = .ok (.return_, 1) := by decide +kernel
theorem d4_addSpanToLast_0 : decode M4_addSpanToLast.2.1 0 = .ok (.aload_n 0, 1) := by decide +kernel
theorem d4_addSpanToLast_1 : decode M4_addSpanToLast.2.1 1 = .ok (.getfield 26, 3) := by decide +kernel
theorem d4_addSpanToLast_4 : decode M4_addSpanToLast.2.1 4 = .ok (.iconst 1, 1) := by decide +kernel
theorem d4_addSpanToLast_5 : decode M4_addSpanToLast.2.1 5 = .ok (.isub, 1) := by decide +kernel
theorem d4_addSpanToLast_6 : decode M4_addSpanToLast.2.1 6 = .ok (.istore_n 3, 1) := by decide +kernel
theorem d4_addSpanToLast_7 : decode M4_addSpanToLast.2.1 7 = .ok (.iload_n 3, 1) := by decide +kernel
theorem d4_addSpanToLast_8 : decode M4_addSpanToLast.2.1 8 = .ok (.ifCond .lt 51, 3) := by decide +kernel
theorem d4_addSpanToLast_11 : decode M4_addSpanToLast.2.1 11 = .ok (.aload_n 0, 1) := by decide +kernel
theorem d4_addSpanToLast_12 : decode M4_addSpanToLast.2.1 12 = .ok (.getfield 15, 3) := by decide +kernel
theorem d4_addSpanToLast_15 : decode M4_addSpanToLast.2.1 15 = .ok (.iload_n 3, 1) := by decide +kernel
theorem d4_addSpanToLast_16 : decode M4_addSpanToLast.2.1 16 = .ok (.iaload, 1) := by decide +kernel
theorem d4_addSpanToLast_17 : decode M4_addSpanToLast.2.1 17 = .ok (.iconst 4, 1) := by decide +kernel
theorem d4_addSpanToLast_18 : decode M4_addSpanToLast.2.1 18 = .ok (.if_icmp .ge 41, 3) := by decide +kernel
theorem d4_addSpanToLast_21 : decode M4_addSpanToLast.2.1 21 = .ok (.aload_n 0, 1) := by decide +kernel
theorem d4_addSpanToLast_22 : decode M4_addSpanToLast.2.1 22 = .ok (.getfield 15, 3) := by decide +kernel
theorem d4_addSpanToLast_25 : decode M4_addSpanToLast.2.1 25 = .ok (.iload_n 3, 1) := by decide +kernel
theorem d4_addSpanToLast_26 : decode M4_addSpanToLast.2.1 26 = .ok (.iaload, 1) := by decide +kernel
theorem d4_addSpanToLast_27 : decode M4_addSpanToLast.2.1 27 = .ok (.istore 4, 2) := by decide +kernel
theorem d4_addSpanToLast_29 : decode M4_addSpanToLast.2.1 29 = .ok (.aload_n 0, 1) := by decide +kernel
theorem d4_addSpanToLast_30 : decode M4_addSpanToLast.2.1 30 = .ok (.getfield 20, 3) := by decide +kernel
theorem d4_addSpanToLast_33 : decode M4_addSpanToLast.2.1 33 = .ok (.iload_n 3, 1) := by decide +kernel
theorem d4_addSpanToLast_34 : decode M4_addSpanToLast.2.1 34 = .ok (.aaload, 1) := by decide +kernel
theorem d4_addSpanToLast_35 : decode M4_addSpanToLast.2.1 35 = .ok (.iload 4, 2) := by decide +kernel
theorem d4_addSpanToLast_37 : decode M4_addSpanToLast.2.1 37 = .ok (.iload_n 1, 1) := by decide +kernel
theorem d4_addSpanToLast_38 : decode M4_addSpanToLast.2.1 38 = .ok (.iastore, 1) := by decide +kernel
theorem d4_addSpanToLast_39 : decode M4_addSpanToLast.2.1 39 = .ok (.aload_n 0, 1) := by decide +kernel
theorem d4_addSpanToLast_40 : decode M4_addSpanToLast.2.1 40 = .ok (.getfield 23, 3) := by decide +kernel
theorem d4_addSpanToLast_43 : decode M4_addSpanToLast.2.1 43 = .ok (.iload_n 3, 1) := by decide +kernel
theorem d4_addSpanToLast_44 : decode M4_addSpanToLast.2.1 44 = .ok (.aaload, 1) := by decide +kernel
theorem d4_addSpanToLast_45 : decode M4_addSpanToLast.2.1 45 = .ok (.iload 4, 2) := by decide +kernel
theorem d4_addSpanToLast_47 : decode M4_addSpanToLast.2.1 47 = .ok (.iload_n 2, 1) := by decide +kernel
theorem d4_addSpanToLast_48 : decode M4_addSpanToLast.2.1 48 = .ok (.iastore, 1) := by decide +kernel
theorem d4_addSpanToLast_49 : decode M4_addSpanToLast.2.1 49 = .ok (.aload_n 0, 1) := by decide +kernel
theorem d4_addSpanToLast_50 : decode M4_addSpanToLast.2.1 50 = .ok (.getfield 15, 3) := by decide +kernel
theorem d4_addSpanToLast_53 : decode M4_addSpanToLast.2.1 53 = .ok (.iload_n 3, 1) := by decide +kernel
theorem d4_addSpanToLast_54 : decode M4_addSpanToLast.2.1 54 = .ok (.dup2, 1) := by decide +kernel
theorem d4_addSpanToLast_55 : decode M4_addSpanToLast.2.1 55 = .ok (.iaload, 1) := by decide +kernel
theorem d4_addSpanToLast_56 : decode M4_addSpanToLast.2.1 56 = .ok (.iconst 1, 1) := by decide +kernel
theorem d4_addSpanToLast_57 : decode M4_addSpanToLast.2.1 57 = .ok (.iadd, 1) := by decide +kernel
theorem d4_addSpanToLast_58 : decode M4_addSpanToLast.2.1 58 = .ok (.iastore, 1) := by decide +kernel
theorem d4_addSpanToLast_59 : decode M4_addSpanToLast.2.1 59 = .ok (.return_, 1) := by decide +kernel
theorem d4_kindOf_0 : decode M4_kindOf.2.1 0 = .ok (.iconst 0, 1) := by decide +kernel
theorem d4_kindOf_1 : decode M4_kindOf.2.1 1 = .ok (.istore 4, 2) := by decide +kernel
theorem d4_kindOf_3 : decode M4_kindOf.2.1 3 = .ok (.iload 4, 2) := by decide +kernel
theorem d4_kindOf_5 : decode M4_kindOf.2.1 5 = .ok (.aload_n 0, 1) := by decide +kernel
theorem d4_kindOf_6 : decode M4_kindOf.2.1 6 = .ok (.getfield 26, 3) := by decide +kernel
theorem d4_kindOf_9 : decode M4_kindOf.2.1 9 = .ok (.if_icmp .ge 39, 3) := by decide +kernel
theorem d4_kindOf_12 : decode M4_kindOf.2.1 12 = .ok (.aload_n 0, 1) := by decide +kernel
theorem d4_kindOf_13 : decode M4_kindOf.2.1 13 = .ok (.getfield 15, 3) := by decide +kernel
theorem d4_kindOf_16 : decode M4_kindOf.2.1 16 = .ok (.iload 4, 2) := by decide +kernel
theorem d4_kindOf_18 : decode M4_kindOf.2.1 18 = .ok (.iaload, 1) := by decide +kernel
theorem d4_kindOf_19 : decode M4_kindOf.2.1 19 = .ok (.iload_n 3, 1) := by decide +kernel
theorem d4_kindOf_20 : decode M4_kindOf.2.1 20 = .ok (.if_icmp .ne 22, 3) := by decide +kernel
theorem d4_kindOf_23 : decode M4_kindOf.2.1 23 = .ok (.aload_n 0, 1) := by decide +kernel
theorem d4_kindOf_24 : decode M4_kindOf.2.1 24 = .ok (.iload 4, 2) := by decide +kernel
theorem d4_kindOf_26 : decode M4_kindOf.2.1 26 = .ok (.aload_n 1, 1) := by decide +kernel
theorem d4_kindOf_27 : decode M4_kindOf.2.1 27 = .ok (.iload_n 2, 1) := by decide +kernel
theorem d4_kindOf_28 : decode M4_kindOf.2.1 28 = .ok (.invokevirtual 30, 3) := by decide +kernel
theorem d4_kindOf_31 : decode M4_kindOf.2.1 31 = .ok (.ifCond .eq 11, 3) := by decide +kernel
theorem d4_kindOf_34 : decode M4_kindOf.2.1 34 = .ok (.aload_n 0, 1) := by decide +kernel
theorem d4_kindOf_35 : decode M4_kindOf.2.1 35 = .ok (.getfield 9, 3) := by decide +kernel
theorem d4_kindOf_38 : decode M4_kindOf.2.1 38 = .ok (.iload 4, 2) := by decide +kernel
theorem d4_kindOf_40 : decode M4_kindOf.2.1 40 = .ok (.iaload, 1) := by decide +kernel
theorem d4_kindOf_41 : decode M4_kindOf.2.1 41 = .ok (.ireturn, 1) := by decide +kernel
theorem d4_kindOf_42 : decode M4_kindOf.2.1 42 = .ok (.iinc 4 1, 3) := by decide +kernel
theorem d4_kindOf_45 : decode M4_kindOf.2.1 45 = .ok (.goto (-42), 3) := by decide +kernel
theorem d4_kindOf_48 : decode M4_kindOf.2.1 48 = .ok (.bipush 9, 2) := by decide +kernel
theorem d4_kindOf_50 : decode M4_kindOf.2.1 50 = .ok (.ireturn, 1) := by decide +kernel
theorem d4_isWithin_0 : decode M4_isWithin.2.1 0 = .ok (.iconst 0, 1) := by decide +kernel
theorem d4_isWithin_1 : decode M4_isWithin.2.1 1 = .ok (.istore 4, 2) := by decide +kernel
theorem d4_isWithin_3 : decode M4_isWithin.2.1 3 = .ok (.iload 4, 2) := by decide +kernel
theorem d4_isWithin_5 : decode M4_isWithin.2.1 5 = .ok (.aload_n 0, 1) := by decide +kernel
theorem d4_isWithin_6 : decode M4_isWithin.2.1 6 = .ok (.getfield 15, 3) := by decide +kernel
theorem d4_isWithin_9 : decode M4_isWithin.2.1 9 = .ok (.iload_n 1, 1) := by decide +kernel
theorem d4_isWithin_10 : decode M4_isWithin.2.1 10 = .ok (.iaload, 1) := by decide +kernel
theorem d4_isWithin_11 : decode M4_isWithin.2.1 11 = .ok (.if_icmp .ge 49, 3) := by decide +kernel
theorem d4_isWithin_14 : decode M4_isWithin.2.1 14 = .ok (.aload_n 2, 1) := by decide +kernel
theorem d4_isWithin_15 : decode M4_isWithin.2.1 15 = .ok (.iload_n 3, 1) := by decide +kernel
theorem d4_isWithin_16 : decode M4_isWithin.2.1 16 = .ok (.iload 4, 2) := by decide +kernel
theorem d4_isWithin_18 : decode M4_isWithin.2.1 18 = .ok (.iadd, 1) := by decide +kernel
theorem d4_isWithin_19 : decode M4_isWithin.2.1 19 = .ok (.invokevirtual 34, 3) := by decide +kernel
theorem d4_isWithin_22 : decode M4_isWithin.2.1 22 = .ok (.istore 5, 2) := by decide +kernel
theorem d4_isWithin_24 : decode M4_isWithin.2.1 24 = .ok (.iload 5, 2) := by decide +kernel
theorem d4_isWithin_26 : decode M4_isWithin.2.1 26 = .ok (.aload_n 0, 1) := by decide +kernel
theorem d4_isWithin_27 : decode M4_isWithin.2.1 27 = .ok (.getfield 20, 3) := by decide +kernel
theorem d4_isWithin_30 : decode M4_isWithin.2.1 30 = .ok (.iload_n 1, 1) := by decide +kernel
theorem d4_isWithin_31 : decode M4_isWithin.2.1 31 = .ok (.aaload, 1) := by decide +kernel
theorem d4_isWithin_32 : decode M4_isWithin.2.1 32 = .ok (.iload 4, 2) := by decide +kernel
theorem d4_isWithin_34 : decode M4_isWithin.2.1 34 = .ok (.iaload, 1) := by decide +kernel
theorem d4_isWithin_35 : decode M4_isWithin.2.1 35 = .ok (.if_icmp .lt 17, 3) := by decide +kernel
theorem d4_isWithin_38 : decode M4_isWithin.2.1 38 = .ok (.iload 5, 2) := by decide +kernel
theorem d4_isWithin_40 : decode M4_isWithin.2.1 40 = .ok (.aload_n 0, 1) := by decide +kernel
theorem d4_isWithin_41 : decode M4_isWithin.2.1 41 = .ok (.getfield 23, 3) := by decide +kernel
theorem d4_isWithin_44 : decode M4_isWithin.2.1 44 = .ok (.iload_n 1, 1) := by decide +kernel
theorem d4_isWithin_45 : decode M4_isWithin.2.1 45 = .ok (.aaload, 1) := by decide +kernel
theorem d4_isWithin_46 : decode M4_isWithin.2.1 46 = .ok (.iload 4, 2) := by decide +kernel
theorem d4_isWithin_48 : decode M4_isWithin.2.1 48 = .ok (.iaload, 1) := by decide +kernel
theorem d4_isWithin_49 : decode M4_isWithin.2.1 49 = .ok (.if_icmp .le 5, 3) := by decide +kernel
theorem d4_isWithin_52 : decode M4_isWithin.2.1 52 = .ok (.iconst 0, 1) := by decide +kernel
theorem d4_isWithin_53 : decode M4_isWithin.2.1 53 = .ok (.ireturn, 1) := by decide +kernel
theorem d4_isWithin_54 : decode M4_isWithin.2.1 54 = .ok (.iinc 4 1, 3) := by decide +kernel
theorem d4_isWithin_57 : decode M4_isWithin.2.1 57 = .ok (.goto (-54), 3) := by decide +kernel
theorem d4_isWithin_60 : decode M4_isWithin.2.1 60 = .ok (.iconst 1, 1) := by decide +kernel
theorem d4_isWithin_61 : decode M4_isWithin.2.1 61 = .ok (.ireturn, 1) := by decide +kernel
theorem d5_init_0 : decode M5_init.2.1 0 = .ok (.aload_n 0, 1) := by decide +kernel
theorem d5_init_1 : decode M5_init.2.1 1 = .ok (.invokespecial 3, 3) := by decide +kernel
theorem d5_init_4 : decode M5_init.2.1 4 = .ok (.aload_n 0, 1) := by decide +kernel
theorem d5_init_5 : decode M5_init.2.1 5 = .ok (.aload_n 1, 1) := by decide +kernel
theorem d5_init_6 : decode M5_init.2.1 6 = .ok (.putfield 9, 3) := by decide +kernel
theorem d5_init_9 : decode M5_init.2.1 9 = .ok (.return_, 1) := by decide +kernel
theorem d5_read_0 : decode M5_read.2.1 0 = .ok (.aload_n 0, 1) := by decide +kernel
theorem d5_read_1 : decode M5_read.2.1 1 = .ok (.iload_n 1, 1) := by decide +kernel
theorem d5_read_2 : decode M5_read.2.1 2 = .ok (.putfield 15, 3) := by decide +kernel
theorem d5_read_5 : decode M5_read.2.1 5 = .ok (.aload_n 0, 1) := by decide +kernel
theorem d5_read_6 : decode M5_read.2.1 6 = .ok (.iconst 0, 1) := by decide +kernel
theorem d5_read_7 : decode M5_read.2.1 7 = .ok (.putfield 19, 3) := by decide +kernel
theorem d5_read_10 : decode M5_read.2.1 10 = .ok (.aload_n 2, 1) := by decide +kernel
theorem d5_read_11 : decode M5_read.2.1 11 = .ok (.iconst 0, 1) := by decide +kernel
theorem d5_read_12 : decode M5_read.2.1 12 = .ok (.putfield 22, 3) := by decide +kernel
theorem d5_read_15 : decode M5_read.2.1 15 = .ok (.iconst 0, 1) := by decide +kernel
theorem d5_read_16 : decode M5_read.2.1 16 = .ok (.istore_n 3, 1) := by decide +kernel
theorem d5_read_17 : decode M5_read.2.1 17 = .ok (.iload_n 1, 1) := by decide +kernel
theorem d5_read_18 : decode M5_read.2.1 18 = .ok (.ifCond .le 7, 3) := by decide +kernel
theorem d5_read_21 : decode M5_read.2.1 21 = .ok (.iconst 1, 1) := by decide +kernel
theorem d5_read_22 : decode M5_read.2.1 22 = .ok (.goto 4, 3) := by decide +kernel
theorem d5_read_25 : decode M5_read.2.1 25 = .ok (.iconst 0, 1) := by decide +kernel
theorem d5_read_26 : decode M5_read.2.1 26 = .ok (.istore 4, 2) := by decide +kernel
theorem d5_read_28 : decode M5_read.2.1 28 = .ok (.iconst 0, 1) := by decide +kernel
theorem d5_read_29 : decode M5_read.2.1 29 = .ok (.istore 5, 2) := by decide +kernel
theorem d5_read_31 : decode M5_read.2.1 31 = .ok (.iload 4, 2) := by decide +kernel
theorem d5_read_33 : decode M5_read.2.1 33 = .ok (.ifCond .eq 57, 3) := by decide +kernel
theorem d5_read_36 : decode M5_read.2.1 36 = .ok (.iload 5, 2) := by decide +kernel
theorem d5_read_38 : decode M5_read.2.1 38 = .ok (.bipush 9, 2) := by decide +kernel
theorem d5_read_40 : decode M5_read.2.1 40 = .ok (.if_icmp .gt 50, 3) := by decide +kernel
theorem d5_read_43 : decode M5_read.2.1 43 = .ok (.aload_n 0, 1) := by decide +kernel
theorem d5_read_44 : decode M5_read.2.1 44 = .ok (.aload_n 2, 1) := by decide +kernel
theorem d5_read_45 : decode M5_read.2.1 45 = .ok (.invokevirtual 27, 3) := by decide +kernel
theorem d5_read_48 : decode M5_read.2.1 48 = .ok (.istore_n 3, 1) := by decide +kernel
theorem d5_read_49 : decode M5_read.2.1 49 = .ok (.iload_n 3, 1) := by decide +kernel
theorem d5_read_50 : decode M5_read.2.1 50 = .ok (.ifCond .ne 16, 3) := by decide +kernel
theorem d5_read_53 : decode M5_read.2.1 53 = .ok (.aload_n 0, 1) := by decide +kernel
theorem d5_read_54 : decode M5_read.2.1 54 = .ok (.invokevirtual 31, 3) := by decide +kernel
theorem d5_read_57 : decode M5_read.2.1 57 = .ok (.bipush 59, 2) := by decide +kernel
theorem d5_read_59 : decode M5_read.2.1 59 = .ok (.if_icmp .ne 7, 3) := by decide +kernel
theorem d5_read_62 : decode M5_read.2.1 62 = .ok (.iconst 1, 1) := by decide +kernel
theorem d5_read_63 : decode M5_read.2.1 63 = .ok (.goto 4, 3) := by decide +kernel
theorem d5_read_66 : decode M5_read.2.1 66 = .ok (.iconst 0, 1) := by decide +kernel
theorem d5_read_67 : decode M5_read.2.1 67 = .ok (.istore 4, 2) := by decide +kernel
theorem d5_read_69 : decode M5_read.2.1 69 = .ok (.iload 4, 2) := by decide +kernel
theorem d5_read_71 : decode M5_read.2.1 71 = .ok (.ifCond .eq 13, 3) := by decide +kernel
theorem d5_read_74 : decode M5_read.2.1 74 = .ok (.aload_n 0, 1) := by decide +kernel
theorem d5_read_75 : decode M5_read.2.1 75 = .ok (.dup, 1) := by decide +kernel
theorem d5_read_76 : decode M5_read.2.1 76 = .ok (.getfield 19, 3) := by decide +kernel
theorem d5_read_79 : decode M5_read.2.1 79 = .ok (.iconst 1, 1) := by decide +kernel
theorem d5_read_80 : decode M5_read.2.1 80 = .ok (.iadd, 1) := by decide +kernel
theorem d5_read_81 : decode M5_read.2.1 81 = .ok (.putfield 19, 3) := by decide +kernel
theorem d5_read_84 : decode M5_read.2.1 84 = .ok (.iinc 5 1, 3) := by decide +kernel
theorem d5_read_87 : decode M5_read.2.1 87 = .ok (.goto (-56), 3) := by decide +kernel
theorem d5_read_90 : decode M5_read.2.1 90 = .ok (.iload_n 3, 1) := by decide +kernel
theorem d5_read_91 : decode M5_read.2.1 91 = .ok (.ireturn, 1) := by decide +kernel
theorem d5_readClause_0 : decode M5_readClause.2.1 0 = .ok (.aload_n 0, 1) := by decide +kernel
theorem d5_readClause_1 : decode M5_readClause.2.1 1 = .ok (.invokevirtual 31, 3) := by decide +kernel
theorem d5_readClause_4 : decode M5_readClause.2.1 4 = .ok (.istore_n 2, 1) := by decide +kernel
theorem d5_readClause_5 : decode M5_readClause.2.1 5 = .ok (.iload_n 2, 1) := by decide +kernel
theorem d5_readClause_6 : decode M5_readClause.2.1 6 = .ok (.invokestatic 35, 3) := by decide +kernel
theorem d5_readClause_9 : decode M5_readClause.2.1 9 = .ok (.ifCond .ne 11, 3) := by decide +kernel
theorem d5_readClause_12 : decode M5_readClause.2.1 12 = .ok (.bipush 100, 2) := by decide +kernel
theorem d5_readClause_14 : decode M5_readClause.2.1 14 = .ok (.aload_n 0, 1) := by decide +kernel
theorem d5_readClause_15 : decode M5_readClause.2.1 15 = .ok (.getfield 19, 3) := by decide +kernel
theorem d5_readClause_18 : decode M5_readClause.2.1 18 = .ok (.iadd, 1) := by decide +kernel
theorem d5_readClause_19 : decode M5_readClause.2.1 19 = .ok (.ireturn, 1) := by decide +kernel
theorem d5_readClause_20 : decode M5_readClause.2.1 20 = .ok (.aload_n 1, 1) := by decide +kernel
theorem d5_readClause_21 : decode M5_readClause.2.1 21 = .ok (.getfield 22, 3) := by decide +kernel
theorem d5_readClause_24 : decode M5_readClause.2.1 24 = .ok (.bipush 9, 2) := by decide +kernel
theorem d5_readClause_26 : decode M5_readClause.2.1 26 = .ok (.if_icmp .lt 12, 3) := by decide +kernel
theorem d5_readClause_29 : decode M5_readClause.2.1 29 = .ok (.sipush 400, 3) := by decide +kernel
theorem d5_readClause_32 : decode M5_readClause.2.1 32 = .ok (.aload_n 0, 1) := by decide +kernel
theorem d5_readClause_33 : decode M5_readClause.2.1 33 = .ok (.getfield 19, 3) := by decide +kernel
theorem d5_readClause_36 : decode M5_readClause.2.1 36 = .ok (.iadd, 1) := by decide +kernel
theorem d5_readClause_37 : decode M5_readClause.2.1 37 = .ok (.ireturn, 1) := by decide +kernel
theorem d5_readClause_38 : decode M5_readClause.2.1 38 = .ok (.iload_n 2, 1) := by decide +kernel
theorem d5_readClause_39 : decode M5_readClause.2.1 39 = .ok (.bipush 57, 2) := by decide +kernel
theorem d5_readClause_41 : decode M5_readClause.2.1 41 = .ok (.if_icmp .ne 12, 3) := by decide +kernel
theorem d5_readClause_44 : decode M5_readClause.2.1 44 = .ok (.sipush 200, 3) := by decide +kernel
theorem d5_readClause_47 : decode M5_readClause.2.1 47 = .ok (.aload_n 0, 1) := by decide +kernel
theorem d5_readClause_48 : decode M5_readClause.2.1 48 = .ok (.getfield 19, 3) := by decide +kernel
theorem d5_readClause_51 : decode M5_readClause.2.1 51 = .ok (.iadd, 1) := by decide +kernel
theorem d5_readClause_52 : decode M5_readClause.2.1 52 = .ok (.ireturn, 1) := by decide +kernel
theorem d5_readClause_53 : decode M5_readClause.2.1 53 = .ok (.aload_n 1, 1) := by decide +kernel
theorem d5_readClause_54 : decode M5_readClause.2.1 54 = .ok (.iload_n 2, 1) := by decide +kernel
theorem d5_readClause_55 : decode M5_readClause.2.1 55 = .ok (.bipush 48, 2) := by decide +kernel
theorem d5_readClause_57 : decode M5_readClause.2.1 57 = .ok (.isub, 1) := by decide +kernel
theorem d5_readClause_58 : decode M5_readClause.2.1 58 = .ok (.invokevirtual 39, 3) := by decide +kernel
theorem d5_readClause_61 : decode M5_readClause.2.1 61 = .ok (.aload_n 0, 1) := by decide +kernel
theorem d5_readClause_62 : decode M5_readClause.2.1 62 = .ok (.dup, 1) := by decide +kernel
theorem d5_readClause_63 : decode M5_readClause.2.1 63 = .ok (.getfield 19, 3) := by decide +kernel
theorem d5_readClause_66 : decode M5_readClause.2.1 66 = .ok (.iconst 1, 1) := by decide +kernel
theorem d5_readClause_67 : decode M5_readClause.2.1 67 = .ok (.iadd, 1) := by decide +kernel
theorem d5_readClause_68 : decode M5_readClause.2.1 68 = .ok (.putfield 19, 3) := by decide +kernel
theorem d5_readClause_71 : decode M5_readClause.2.1 71 = .ok (.aload_n 0, 1) := by decide +kernel
theorem d5_readClause_72 : decode M5_readClause.2.1 72 = .ok (.invokevirtual 31, 3) := by decide +kernel
theorem d5_readClause_75 : decode M5_readClause.2.1 75 = .ok (.bipush 58, 2) := by decide +kernel
theorem d5_readClause_77 : decode M5_readClause.2.1 77 = .ok (.if_icmp .eq 11, 3) := by decide +kernel
theorem d5_readClause_80 : decode M5_readClause.2.1 80 = .ok (.bipush 100, 2) := by decide +kernel
theorem d5_readClause_82 : decode M5_readClause.2.1 82 = .ok (.aload_n 0, 1) := by decide +kernel
theorem d5_readClause_83 : decode M5_readClause.2.1 83 = .ok (.getfield 19, 3) := by decide +kernel
theorem d5_readClause_86 : decode M5_readClause.2.1 86 = .ok (.iadd, 1) := by decide +kernel
theorem d5_readClause_87 : decode M5_readClause.2.1 87 = .ok (.ireturn, 1) := by decide +kernel
theorem d5_readClause_88 : decode M5_readClause.2.1 88 = .ok (.aload_n 0, 1) := by decide +kernel
theorem d5_readClause_89 : decode M5_readClause.2.1 89 = .ok (.aload_n 1, 1) := by decide +kernel
theorem d5_readClause_90 : decode M5_readClause.2.1 90 = .ok (.invokevirtual 43, 3) := by decide +kernel
theorem d5_readClause_93 : decode M5_readClause.2.1 93 = .ok (.ireturn, 1) := by decide +kernel
theorem d5_readSpans_0 : decode M5_readSpans.2.1 0 = .ok (.iconst 1, 1) := by decide +kernel
theorem d5_readSpans_1 : decode M5_readSpans.2.1 1 = .ok (.istore_n 2, 1) := by decide +kernel
theorem d5_readSpans_2 : decode M5_readSpans.2.1 2 = .ok (.iconst 0, 1) := by decide +kernel
theorem d5_readSpans_3 : decode M5_readSpans.2.1 3 = .ok (.istore_n 3, 1) := by decide +kernel
theorem d5_readSpans_4 : decode M5_readSpans.2.1 4 = .ok (.iload_n 2, 1) := by decide +kernel
theorem d5_readSpans_5 : decode M5_readSpans.2.1 5 = .ok (.ifCond .eq 54, 3) := by decide +kernel
theorem d5_readSpans_8 : decode M5_readSpans.2.1 8 = .ok (.iload_n 3, 1) := by decide +kernel
theorem d5_readSpans_9 : decode M5_readSpans.2.1 9 = .ok (.iconst 4, 1) := by decide +kernel
theorem d5_readSpans_10 : decode M5_readSpans.2.1 10 = .ok (.if_icmp .ge 49, 3) := by decide +kernel
theorem d5_readSpans_13 : decode M5_readSpans.2.1 13 = .ok (.aload_n 0, 1) := by decide +kernel
theorem d5_readSpans_14 : decode M5_readSpans.2.1 14 = .ok (.dup, 1) := by decide +kernel
theorem d5_readSpans_15 : decode M5_readSpans.2.1 15 = .ok (.getfield 19, 3) := by decide +kernel
theorem d5_readSpans_18 : decode M5_readSpans.2.1 18 = .ok (.iconst 1, 1) := by decide +kernel
theorem d5_readSpans_19 : decode M5_readSpans.2.1 19 = .ok (.iadd, 1) := by decide +kernel
theorem d5_readSpans_20 : decode M5_readSpans.2.1 20 = .ok (.putfield 19, 3) := by decide +kernel
theorem d5_readSpans_23 : decode M5_readSpans.2.1 23 = .ok (.aload_n 0, 1) := by decide +kernel
theorem d5_readSpans_24 : decode M5_readSpans.2.1 24 = .ok (.aload_n 1, 1) := by decide +kernel
theorem d5_readSpans_25 : decode M5_readSpans.2.1 25 = .ok (.invokevirtual 46, 3) := by decide +kernel
theorem d5_readSpans_28 : decode M5_readSpans.2.1 28 = .ok (.istore 4, 2) := by decide +kernel
theorem d5_readSpans_30 : decode M5_readSpans.2.1 30 = .ok (.iload 4, 2) := by decide +kernel
theorem d5_readSpans_32 : decode M5_readSpans.2.1 32 = .ok (.ifCond .eq 6, 3) := by decide +kernel
theorem d5_readSpans_35 : decode M5_readSpans.2.1 35 = .ok (.iload 4, 2) := by decide +kernel
theorem d5_readSpans_37 : decode M5_readSpans.2.1 37 = .ok (.ireturn, 1) := by decide +kernel
theorem d5_readSpans_38 : decode M5_readSpans.2.1 38 = .ok (.aload_n 0, 1) := by decide +kernel
theorem d5_readSpans_39 : decode M5_readSpans.2.1 39 = .ok (.invokevirtual 31, 3) := by decide +kernel
theorem d5_readSpans_42 : decode M5_readSpans.2.1 42 = .ok (.bipush 44, 2) := by decide +kernel
theorem d5_readSpans_44 : decode M5_readSpans.2.1 44 = .ok (.if_icmp .ne 7, 3) := by decide +kernel
theorem d5_readSpans_47 : decode M5_readSpans.2.1 47 = .ok (.iconst 1, 1) := by decide +kernel
theorem d5_readSpans_48 : decode M5_readSpans.2.1 48 = .ok (.goto 4, 3) := by decide +kernel
theorem d5_readSpans_51 : decode M5_readSpans.2.1 51 = .ok (.iconst 0, 1) := by decide +kernel
theorem d5_readSpans_52 : decode M5_readSpans.2.1 52 = .ok (.istore_n 2, 1) := by decide +kernel
theorem d5_readSpans_53 : decode M5_readSpans.2.1 53 = .ok (.iinc 3 1, 3) := by decide +kernel
theorem d5_readSpans_56 : decode M5_readSpans.2.1 56 = .ok (.goto (-52), 3) := by decide +kernel
theorem d5_readSpans_59 : decode M5_readSpans.2.1 59 = .ok (.aload_n 0, 1) := by decide +kernel
theorem d5_readSpans_60 : decode M5_readSpans.2.1 60 = .ok (.getfield 19, 3) := by decide +kernel
theorem d5_readSpans_63 : decode M5_readSpans.2.1 63 = .ok (.aload_n 0, 1) := by decide +kernel
theorem d5_readSpans_64 : decode M5_readSpans.2.1 64 = .ok (.getfield 15, 3) := by decide +kernel
theorem d5_readSpans_67 : decode M5_readSpans.2.1 67 = .ok (.if_icmp .ge 12, 3) := by decide +kernel
theorem d5_readSpans_70 : decode M5_readSpans.2.1 70 = .ok (.aload_n 0, 1) := by decide +kernel
theorem d5_readSpans_71 : decode M5_readSpans.2.1 71 = .ok (.invokevirtual 31, 3) := by decide +kernel
theorem d5_readSpans_74 : decode M5_readSpans.2.1 74 = .ok (.bipush 59, 2) := by decide +kernel
theorem d5_readSpans_76 : decode M5_readSpans.2.1 76 = .ok (.if_icmp .ne 7, 3) := by decide +kernel
theorem d5_readSpans_79 : decode M5_readSpans.2.1 79 = .ok (.iconst 0, 1) := by decide +kernel
theorem d5_readSpans_80 : decode M5_readSpans.2.1 80 = .ok (.goto 10, 3) := by decide +kernel
theorem d5_readSpans_83 : decode M5_readSpans.2.1 83 = .ok (.bipush 100, 2) := by decide +kernel
theorem d5_readSpans_85 : decode M5_readSpans.2.1 85 = .ok (.aload_n 0, 1) := by decide +kernel
theorem d5_readSpans_86 : decode M5_readSpans.2.1 86 = .ok (.getfield 19, 3) := by decide +kernel
theorem d5_readSpans_89 : decode M5_readSpans.2.1 89 = .ok (.iadd, 1) := by decide +kernel
theorem d5_readSpans_90 : decode M5_readSpans.2.1 90 = .ok (.ireturn, 1) := by decide +kernel
theorem d5_readSpan_0 : decode M5_readSpan.2.1 0 = .ok (.aload_n 0, 1) := by decide +kernel
theorem d5_readSpan_1 : decode M5_readSpan.2.1 1 = .ok (.iconst 0, 1) := by decide +kernel
theorem d5_readSpan_2 : decode M5_readSpan.2.1 2 = .ok (.invokevirtual 49, 3) := by decide +kernel
theorem d5_readSpan_5 : decode M5_readSpan.2.1 5 = .ok (.istore_n 2, 1) := by decide +kernel
theorem d5_readSpan_6 : decode M5_readSpan.2.1 6 = .ok (.iload_n 2, 1) := by decide +kernel
theorem d5_readSpan_7 : decode M5_readSpan.2.1 7 = .ok (.ifCond .eq 5, 3) := by decide +kernel
theorem d5_readSpan_10 : decode M5_readSpan.2.1 10 = .ok (.iload_n 2, 1) := by decide +kernel
theorem d5_readSpan_11 : decode M5_readSpan.2.1 11 = .ok (.ireturn, 1) := by decide +kernel
theorem d5_readSpan_12 : decode M5_readSpan.2.1 12 = .ok (.aload_n 0, 1) := by decide +kernel
theorem d5_readSpan_13 : decode M5_readSpan.2.1 13 = .ok (.getfield 53, 3) := by decide +kernel
theorem d5_readSpan_16 : decode M5_readSpan.2.1 16 = .ok (.istore_n 3, 1) := by decide +kernel
theorem d5_readSpan_17 : decode M5_readSpan.2.1 17 = .ok (.aload_n 0, 1) := by decide +kernel
theorem d5_readSpan_18 : decode M5_readSpan.2.1 18 = .ok (.invokevirtual 31, 3) := by decide +kernel
theorem d5_readSpan_21 : decode M5_readSpan.2.1 21 = .ok (.bipush 45, 2) := by decide +kernel
theorem d5_readSpan_23 : decode M5_readSpan.2.1 23 = .ok (.if_icmp .eq 11, 3) := by decide +kernel
theorem d5_readSpan_26 : decode M5_readSpan.2.1 26 = .ok (.bipush 100, 2) := by decide +kernel
theorem d5_readSpan_28 : decode M5_readSpan.2.1 28 = .ok (.aload_n 0, 1) := by decide +kernel
theorem d5_readSpan_29 : decode M5_readSpan.2.1 29 = .ok (.getfield 19, 3) := by decide +kernel
theorem d5_readSpan_32 : decode M5_readSpan.2.1 32 = .ok (.iadd, 1) := by decide +kernel
theorem d5_readSpan_33 : decode M5_readSpan.2.1 33 = .ok (.ireturn, 1) := by decide +kernel
theorem d5_readSpan_34 : decode M5_readSpan.2.1 34 = .ok (.aload_n 0, 1) := by decide +kernel
theorem d5_readSpan_35 : decode M5_readSpan.2.1 35 = .ok (.dup, 1) := by decide +kernel
theorem d5_readSpan_36 : decode M5_readSpan.2.1 36 = .ok (.getfield 19, 3) := by decide +kernel
theorem d5_readSpan_39 : decode M5_readSpan.2.1 39 = .ok (.iconst 1, 1) := by decide +kernel
theorem d5_readSpan_40 : decode M5_readSpan.2.1 40 = .ok (.iadd, 1) := by decide +kernel
theorem d5_readSpan_41 : decode M5_readSpan.2.1 41 = .ok (.putfield 19, 3) := by decide +kernel
theorem d5_readSpan_44 : decode M5_readSpan.2.1 44 = .ok (.aload_n 0, 1) := by decide +kernel
theorem d5_readSpan_45 : decode M5_readSpan.2.1 45 = .ok (.iload_n 3, 1) := by decide +kernel
theorem d5_readSpan_46 : decode M5_readSpan.2.1 46 = .ok (.invokevirtual 49, 3) := by decide +kernel
theorem d5_readSpan_49 : decode M5_readSpan.2.1 49 = .ok (.istore_n 2, 1) := by decide +kernel
theorem d5_readSpan_50 : decode M5_readSpan.2.1 50 = .ok (.iload_n 2, 1) := by decide +kernel
theorem d5_readSpan_51 : decode M5_readSpan.2.1 51 = .ok (.ifCond .ne 12, 3) := by decide +kernel
theorem d5_readSpan_54 : decode M5_readSpan.2.1 54 = .ok (.aload_n 1, 1) := by decide +kernel
theorem d5_readSpan_55 : decode M5_readSpan.2.1 55 = .ok (.iload_n 3, 1) := by decide +kernel
theorem d5_readSpan_56 : decode M5_readSpan.2.1 56 = .ok (.aload_n 0, 1) := by decide +kernel
theorem d5_readSpan_57 : decode M5_readSpan.2.1 57 = .ok (.getfield 53, 3) := by decide +kernel
theorem d5_readSpan_60 : decode M5_readSpan.2.1 60 = .ok (.invokevirtual 56, 3) := by decide +kernel
theorem d5_readSpan_63 : decode M5_readSpan.2.1 63 = .ok (.iload_n 2, 1) := by decide +kernel
theorem d5_readSpan_64 : decode M5_readSpan.2.1 64 = .ok (.ireturn, 1) := by decide +kernel
theorem d5_readNumber_0 : decode M5_readNumber.2.1 0 = .ok (.aload_n 0, 1) := by decide +kernel
theorem d5_readNumber_1 : decode M5_readNumber.2.1 1 = .ok (.getfield 19, 3) := by decide +kernel
theorem d5_readNumber_4 : decode M5_readNumber.2.1 4 = .ok (.istore_n 2, 1) := by decide +kernel
theorem d5_readNumber_5 : decode M5_readNumber.2.1 5 = .ok (.aload_n 0, 1) := by decide +kernel
theorem d5_readNumber_6 : decode M5_readNumber.2.1 6 = .ok (.iconst 0, 1) := by decide +kernel
theorem d5_readNumber_7 : decode M5_readNumber.2.1 7 = .ok (.putfield 53, 3) := by decide +kernel
theorem d5_readNumber_10 : decode M5_readNumber.2.1 10 = .ok (.aload_n 0, 1) := by decide +kernel
theorem d5_readNumber_11 : decode M5_readNumber.2.1 11 = .ok (.getfield 19, 3) := by decide +kernel
theorem d5_readNumber_14 : decode M5_readNumber.2.1 14 = .ok (.iload_n 2, 1) := by decide +kernel
theorem d5_readNumber_15 : decode M5_readNumber.2.1 15 = .ok (.iconst 3, 1) := by decide +kernel
theorem d5_readNumber_16 : decode M5_readNumber.2.1 16 = .ok (.iadd, 1) := by decide +kernel
theorem d5_readNumber_17 : decode M5_readNumber.2.1 17 = .ok (.if_icmp .ge 45, 3) := by decide +kernel
theorem d5_readNumber_20 : decode M5_readNumber.2.1 20 = .ok (.aload_n 0, 1) := by decide +kernel
theorem d5_readNumber_21 : decode M5_readNumber.2.1 21 = .ok (.invokevirtual 31, 3) := by decide +kernel
theorem d5_readNumber_24 : decode M5_readNumber.2.1 24 = .ok (.invokestatic 35, 3) := by decide +kernel
theorem d5_readNumber_27 : decode M5_readNumber.2.1 27 = .ok (.ifCond .eq 35, 3) := by decide +kernel
theorem d5_readNumber_30 : decode M5_readNumber.2.1 30 = .ok (.aload_n 0, 1) := by decide +kernel
theorem d5_readNumber_31 : decode M5_readNumber.2.1 31 = .ok (.bipush 10, 2) := by decide +kernel
theorem d5_readNumber_33 : decode M5_readNumber.2.1 33 = .ok (.aload_n 0, 1) := by decide +kernel
theorem d5_readNumber_34 : decode M5_readNumber.2.1 34 = .ok (.getfield 53, 3) := by decide +kernel
theorem d5_readNumber_37 : decode M5_readNumber.2.1 37 = .ok (.imul, 1) := by decide +kernel
theorem d5_readNumber_38 : decode M5_readNumber.2.1 38 = .ok (.aload_n 0, 1) := by decide +kernel
theorem d5_readNumber_39 : decode M5_readNumber.2.1 39 = .ok (.invokevirtual 31, 3) := by decide +kernel
theorem d5_readNumber_42 : decode M5_readNumber.2.1 42 = .ok (.iadd, 1) := by decide +kernel
theorem d5_readNumber_43 : decode M5_readNumber.2.1 43 = .ok (.bipush 48, 2) := by decide +kernel
theorem d5_readNumber_45 : decode M5_readNumber.2.1 45 = .ok (.isub, 1) := by decide +kernel
theorem d5_readNumber_46 : decode M5_readNumber.2.1 46 = .ok (.putfield 53, 3) := by decide +kernel
theorem d5_readNumber_49 : decode M5_readNumber.2.1 49 = .ok (.aload_n 0, 1) := by decide +kernel
theorem d5_readNumber_50 : decode M5_readNumber.2.1 50 = .ok (.dup, 1) := by decide +kernel
theorem d5_readNumber_51 : decode M5_readNumber.2.1 51 = .ok (.getfield 19, 3) := by decide +kernel
theorem d5_readNumber_54 : decode M5_readNumber.2.1 54 = .ok (.iconst 1, 1) := by decide +kernel
theorem d5_readNumber_55 : decode M5_readNumber.2.1 55 = .ok (.iadd, 1) := by decide +kernel
theorem d5_readNumber_56 : decode M5_readNumber.2.1 56 = .ok (.putfield 19, 3) := by decide +kernel
theorem d5_readNumber_59 : decode M5_readNumber.2.1 59 = .ok (.goto (-49), 3) := by decide +kernel
theorem d5_readNumber_62 : decode M5_readNumber.2.1 62 = .ok (.aload_n 0, 1) := by decide +kernel
theorem d5_readNumber_63 : decode M5_readNumber.2.1 63 = .ok (.getfield 19, 3) := by decide +kernel
theorem d5_readNumber_66 : decode M5_readNumber.2.1 66 = .ok (.iload_n 2, 1) := by decide +kernel
theorem d5_readNumber_67 : decode M5_readNumber.2.1 67 = .ok (.if_icmp .eq 13, 3) := by decide +kernel
theorem d5_readNumber_70 : decode M5_readNumber.2.1 70 = .ok (.aload_n 0, 1) := by decide +kernel
theorem d5_readNumber_71 : decode M5_readNumber.2.1 71 = .ok (.invokevirtual 31, 3) := by decide +kernel
theorem d5_readNumber_74 : decode M5_readNumber.2.1 74 = .ok (.invokestatic 35, 3) := by decide +kernel
theorem d5_readNumber_77 : decode M5_readNumber.2.1 77 = .ok (.ifCond .eq 11, 3) := by decide +kernel
theorem d5_readNumber_80 : decode M5_readNumber.2.1 80 = .ok (.bipush 100, 2) := by decide +kernel
theorem d5_readNumber_82 : decode M5_readNumber.2.1 82 = .ok (.aload_n 0, 1) := by decide +kernel
theorem d5_readNumber_83 : decode M5_readNumber.2.1 83 = .ok (.getfield 19, 3) := by decide +kernel
theorem d5_readNumber_86 : decode M5_readNumber.2.1 86 = .ok (.iadd, 1) := by decide +kernel
theorem d5_readNumber_87 : decode M5_readNumber.2.1 87 = .ok (.ireturn, 1) := by decide +kernel
theorem d5_readNumber_88 : decode M5_readNumber.2.1 88 = .ok (.aload_n 0, 1) := by decide +kernel
theorem d5_readNumber_89 : decode M5_readNumber.2.1 89 = .ok (.getfield 53, 3) := by decide +kernel
theorem d5_readNumber_92 : decode M5_readNumber.2.1 92 = .ok (.iload_n 1, 1) := by decide +kernel
theorem d5_readNumber_93 : decode M5_readNumber.2.1 93 = .ok (.if_icmp .lt 13, 3) := by decide +kernel
theorem d5_readNumber_96 : decode M5_readNumber.2.1 96 = .ok (.aload_n 0, 1) := by decide +kernel
theorem d5_readNumber_97 : decode M5_readNumber.2.1 97 = .ok (.getfield 53, 3) := by decide +kernel
theorem d5_readNumber_100 : decode M5_readNumber.2.1 100 = .ok (.sipush 255, 3) := by decide +kernel
theorem d5_readNumber_103 : decode M5_readNumber.2.1 103 = .ok (.if_icmp .le 11, 3) := by decide +kernel
theorem d5_readNumber_106 : decode M5_readNumber.2.1 106 = .ok (.sipush 300, 3) := by decide +kernel
theorem d5_readNumber_109 : decode M5_readNumber.2.1 109 = .ok (.iload_n 2, 1) := by decide +kernel
theorem d5_readNumber_110 : decode M5_readNumber.2.1 110 = .ok (.iadd, 1) := by decide +kernel
theorem d5_readNumber_111 : decode M5_readNumber.2.1 111 = .ok (.goto 4, 3) := by decide +kernel
theorem d5_readNumber_114 : decode M5_readNumber.2.1 114 = .ok (.iconst 0, 1) := by decide +kernel
theorem d5_readNumber_115 : decode M5_readNumber.2.1 115 = .ok (.ireturn, 1) := by decide +kernel
theorem d5_sign_0 : decode M5_sign.2.1 0 = .ok (.aload_n 0, 1) := by decide +kernel
theorem d5_sign_1 : decode M5_sign.2.1 1 = .ok (.getfield 19, 3) := by decide +kernel
theorem d5_sign_4 : decode M5_sign.2.1 4 = .ok (.aload_n 0, 1) := by decide +kernel
theorem d5_sign_5 : decode M5_sign.2.1 5 = .ok (.getfield 15, 3) := by decide +kernel
theorem d5_sign_8 : decode M5_sign.2.1 8 = .ok (.if_icmp .ge 17, 3) := by decide +kernel
theorem d5_sign_11 : decode M5_sign.2.1 11 = .ok (.aload_n 0, 1) := by decide +kernel
theorem d5_sign_12 : decode M5_sign.2.1 12 = .ok (.getfield 9, 3) := by decide +kernel
theorem d5_sign_15 : decode M5_sign.2.1 15 = .ok (.aload_n 0, 1) := by decide +kernel
theorem d5_sign_16 : decode M5_sign.2.1 16 = .ok (.getfield 19, 3) := by decide +kernel
theorem d5_sign_19 : decode M5_sign.2.1 19 = .ok (.invokevirtual 60, 3) := by decide +kernel
theorem d5_sign_22 : decode M5_sign.2.1 22 = .ok (.goto 4, 3) := by decide +kernel
theorem d5_sign_25 : decode M5_sign.2.1 25 = .ok (.iconst (-1), 1) := by decide +kernel
theorem d5_sign_26 : decode M5_sign.2.1 26 = .ok (.ireturn, 1) := by decide +kernel
theorem d5_isDigit_0 : decode M5_isDigit.2.1 0 = .ok (.iload_n 0, 1) := by decide +kernel
theorem d5_isDigit_1 : decode M5_isDigit.2.1 1 = .ok (.bipush 48, 2) := by decide +kernel
theorem d5_isDigit_3 : decode M5_isDigit.2.1 3 = .ok (.if_icmp .lt 13, 3) := by decide +kernel
theorem d5_isDigit_6 : decode M5_isDigit.2.1 6 = .ok (.iload_n 0, 1) := by decide +kernel
theorem d5_isDigit_7 : decode M5_isDigit.2.1 7 = .ok (.bipush 57, 2) := by decide +kernel
theorem d5_isDigit_9 : decode M5_isDigit.2.1 9 = .ok (.if_icmp .gt 7, 3) := by decide +kernel
theorem d5_isDigit_12 : decode M5_isDigit.2.1 12 = .ok (.iconst 1, 1) := by decide +kernel
theorem d5_isDigit_13 : decode M5_isDigit.2.1 13 = .ok (.goto 4, 3) := by decide +kernel
theorem d5_isDigit_16 : decode M5_isDigit.2.1 16 = .ok (.iconst 0, 1) := by decide +kernel
theorem d5_isDigit_17 : decode M5_isDigit.2.1 17 = .ok (.ireturn, 1) := by decide +kernel
theorem d6_init_0 : decode M6_init.2.1 0 = .ok (.aload_n 0, 1) := by decide +kernel
theorem d6_init_1 : decode M6_init.2.1 1 = .ok (.invokespecial 3, 3) := by decide +kernel
theorem d6_init_4 : decode M6_init.2.1 4 = .ok (.aload_n 0, 1) := by decide +kernel
theorem d6_init_5 : decode M6_init.2.1 5 = .ok (.bipush 120, 2) := by decide +kernel
theorem d6_init_7 : decode M6_init.2.1 7 = .ok (.newarray .int, 2) := by decide +kernel
theorem d6_init_9 : decode M6_init.2.1 9 = .ok (.putfield 9, 3) := by decide +kernel
theorem d6_init_12 : decode M6_init.2.1 12 = .ok (.return_, 1) := by decide +kernel
theorem d6_append_0 : decode M6_append.2.1 0 = .ok (.bipush 24, 2) := by decide +kernel
theorem d6_append_2 : decode M6_append.2.1 2 = .ok (.istore_n 2, 1) := by decide +kernel
theorem d6_append_3 : decode M6_append.2.1 3 = .ok (.iload_n 2, 1) := by decide +kernel
theorem d6_append_4 : decode M6_append.2.1 4 = .ok (.ifCond .lt 44, 3) := by decide +kernel
theorem d6_append_7 : decode M6_append.2.1 7 = .ok (.aload_n 0, 1) := by decide +kernel
theorem d6_append_8 : decode M6_append.2.1 8 = .ok (.getfield 15, 3) := by decide +kernel
theorem d6_append_11 : decode M6_append.2.1 11 = .ok (.bipush 120, 2) := by decide +kernel
theorem d6_append_13 : decode M6_append.2.1 13 = .ok (.if_icmp .ge 35, 3) := by decide +kernel
theorem d6_append_16 : decode M6_append.2.1 16 = .ok (.aload_n 0, 1) := by decide +kernel
theorem d6_append_17 : decode M6_append.2.1 17 = .ok (.getfield 9, 3) := by decide +kernel
theorem d6_append_20 : decode M6_append.2.1 20 = .ok (.aload_n 0, 1) := by decide +kernel
theorem d6_append_21 : decode M6_append.2.1 21 = .ok (.getfield 15, 3) := by decide +kernel
theorem d6_append_24 : decode M6_append.2.1 24 = .ok (.iload_n 1, 1) := by decide +kernel
theorem d6_append_25 : decode M6_append.2.1 25 = .ok (.iload_n 2, 1) := by decide +kernel
theorem d6_append_26 : decode M6_append.2.1 26 = .ok (.iushr, 1) := by decide +kernel
theorem d6_append_27 : decode M6_append.2.1 27 = .ok (.sipush 255, 3) := by decide +kernel
theorem d6_append_30 : decode M6_append.2.1 30 = .ok (.iand, 1) := by decide +kernel
theorem d6_append_31 : decode M6_append.2.1 31 = .ok (.iastore, 1) := by decide +kernel
theorem d6_append_32 : decode M6_append.2.1 32 = .ok (.aload_n 0, 1) := by decide +kernel
theorem d6_append_33 : decode M6_append.2.1 33 = .ok (.dup, 1) := by decide +kernel
theorem d6_append_34 : decode M6_append.2.1 34 = .ok (.getfield 15, 3) := by decide +kernel
theorem d6_append_37 : decode M6_append.2.1 37 = .ok (.iconst 1, 1) := by decide +kernel
theorem d6_append_38 : decode M6_append.2.1 38 = .ok (.iadd, 1) := by decide +kernel
theorem d6_append_39 : decode M6_append.2.1 39 = .ok (.putfield 15, 3) := by decide +kernel
theorem d6_append_42 : decode M6_append.2.1 42 = .ok (.iinc 2 (-8), 3) := by decide +kernel
theorem d6_append_45 : decode M6_append.2.1 45 = .ok (.goto (-42), 3) := by decide +kernel
theorem d6_append_48 : decode M6_append.2.1 48 = .ok (.return_, 1) := by decide +kernel
theorem d6_at_0 : decode M6_at.2.1 0 = .ok (.iload_n 1, 1) := by decide +kernel
theorem d6_at_1 : decode M6_at.2.1 1 = .ok (.ifCond .lt 20, 3) := by decide +kernel
theorem d6_at_4 : decode M6_at.2.1 4 = .ok (.iload_n 1, 1) := by decide +kernel
theorem d6_at_5 : decode M6_at.2.1 5 = .ok (.aload_n 0, 1) := by decide +kernel
theorem d6_at_6 : decode M6_at.2.1 6 = .ok (.getfield 15, 3) := by decide +kernel
theorem d6_at_9 : decode M6_at.2.1 9 = .ok (.if_icmp .ge 12, 3) := by decide +kernel
theorem d6_at_12 : decode M6_at.2.1 12 = .ok (.aload_n 0, 1) := by decide +kernel
theorem d6_at_13 : decode M6_at.2.1 13 = .ok (.getfield 9, 3) := by decide +kernel
theorem d6_at_16 : decode M6_at.2.1 16 = .ok (.iload_n 1, 1) := by decide +kernel
theorem d6_at_17 : decode M6_at.2.1 17 = .ok (.iaload, 1) := by decide +kernel
theorem d6_at_18 : decode M6_at.2.1 18 = .ok (.goto 4, 3) := by decide +kernel
theorem d6_at_21 : decode M6_at.2.1 21 = .ok (.iconst (-1), 1) := by decide +kernel
theorem d6_at_22 : decode M6_at.2.1 22 = .ok (.ireturn, 1) := by decide +kernel
theorem d7_init_0 : decode M7_init.2.1 0 = .ok (.aload_n 0, 1) := by decide +kernel
theorem d7_init_1 : decode M7_init.2.1 1 = .ok (.invokespecial 1, 3) := by decide +kernel
theorem d7_init_4 : decode M7_init.2.1 4 = .ok (.aload_n 0, 1) := by decide +kernel
theorem d7_init_5 : decode M7_init.2.1 5 = .ok (.new 7, 3) := by decide +kernel
theorem d7_init_8 : decode M7_init.2.1 8 = .ok (.dup, 1) := by decide +kernel
theorem d7_init_9 : decode M7_init.2.1 9 = .ok (.invokespecial 9, 3) := by decide +kernel
theorem d7_init_12 : decode M7_init.2.1 12 = .ok (.putfield 10, 3) := by decide +kernel
theorem d7_init_15 : decode M7_init.2.1 15 = .ok (.aload_n 0, 1) := by decide +kernel
theorem d7_init_16 : decode M7_init.2.1 16 = .ok (.new 16, 3) := by decide +kernel
theorem d7_init_19 : decode M7_init.2.1 19 = .ok (.dup, 1) := by decide +kernel
theorem d7_init_20 : decode M7_init.2.1 20 = .ok (.invokespecial 18, 3) := by decide +kernel
theorem d7_init_23 : decode M7_init.2.1 23 = .ok (.putfield 19, 3) := by decide +kernel
theorem d7_init_26 : decode M7_init.2.1 26 = .ok (.aload_n 0, 1) := by decide +kernel
theorem d7_init_27 : decode M7_init.2.1 27 = .ok (.new 23, 3) := by decide +kernel
theorem d7_init_30 : decode M7_init.2.1 30 = .ok (.dup, 1) := by decide +kernel
theorem d7_init_31 : decode M7_init.2.1 31 = .ok (.invokespecial 25, 3) := by decide +kernel
theorem d7_init_34 : decode M7_init.2.1 34 = .ok (.putfield 26, 3) := by decide +kernel
theorem d7_init_37 : decode M7_init.2.1 37 = .ok (.aload_n 0, 1) := by decide +kernel
theorem d7_init_38 : decode M7_init.2.1 38 = .ok (.new 30, 3) := by decide +kernel
theorem d7_init_41 : decode M7_init.2.1 41 = .ok (.dup, 1) := by decide +kernel
theorem d7_init_42 : decode M7_init.2.1 42 = .ok (.aload_n 0, 1) := by decide +kernel
theorem d7_init_43 : decode M7_init.2.1 43 = .ok (.getfield 26, 3) := by decide +kernel
theorem d7_init_46 : decode M7_init.2.1 46 = .ok (.invokespecial 32, 3) := by decide +kernel
theorem d7_init_49 : decode M7_init.2.1 49 = .ok (.putfield 35, 3) := by decide +kernel
theorem d7_init_52 : decode M7_init.2.1 52 = .ok (.aload_n 0, 1) := by decide +kernel
theorem d7_init_53 : decode M7_init.2.1 53 = .ok (.new 39, 3) := by decide +kernel
theorem d7_init_56 : decode M7_init.2.1 56 = .ok (.dup, 1) := by decide +kernel
theorem d7_init_57 : decode M7_init.2.1 57 = .ok (.invokespecial 41, 3) := by decide +kernel
theorem d7_init_60 : decode M7_init.2.1 60 = .ok (.putfield 42, 3) := by decide +kernel
theorem d7_init_63 : decode M7_init.2.1 63 = .ok (.aload_n 0, 1) := by decide +kernel
theorem d7_init_64 : decode M7_init.2.1 64 = .ok (.new 39, 3) := by decide +kernel
theorem d7_init_67 : decode M7_init.2.1 67 = .ok (.dup, 1) := by decide +kernel
theorem d7_init_68 : decode M7_init.2.1 68 = .ok (.invokespecial 41, 3) := by decide +kernel
theorem d7_init_71 : decode M7_init.2.1 71 = .ok (.putfield 46, 3) := by decide +kernel
theorem d7_init_74 : decode M7_init.2.1 74 = .ok (.return_, 1) := by decide +kernel
theorem d7_weekday_0 : decode M7_weekday.2.1 0 = .ok (.iload_n 1, 1) := by decide +kernel
theorem d7_weekday_1 : decode M7_weekday.2.1 1 = .ok (.iconst 4, 1) := by decide +kernel
theorem d7_weekday_2 : decode M7_weekday.2.1 2 = .ok (.invokestatic 49, 3) := by decide +kernel
theorem d7_weekday_5 : decode M7_weekday.2.1 5 = .ok (.ifCond .eq 19, 3) := by decide +kernel
theorem d7_weekday_8 : decode M7_weekday.2.1 8 = .ok (.iload_n 2, 1) := by decide +kernel
theorem d7_weekday_9 : decode M7_weekday.2.1 9 = .ok (.bipush 7, 2) := by decide +kernel
theorem d7_weekday_11 : decode M7_weekday.2.1 11 = .ok (.invokestatic 49, 3) := by decide +kernel
theorem d7_weekday_14 : decode M7_weekday.2.1 14 = .ok (.ifCond .eq 10, 3) := by decide +kernel
theorem d7_weekday_17 : decode M7_weekday.2.1 17 = .ok (.iload_n 3, 1) := by decide +kernel
theorem d7_weekday_18 : decode M7_weekday.2.1 18 = .ok (.invokestatic 53, 3) := by decide +kernel
theorem d7_weekday_21 : decode M7_weekday.2.1 21 = .ok (.ifCond .ne 5, 3) := by decide +kernel
theorem d7_weekday_24 : decode M7_weekday.2.1 24 = .ok (.iconst 0, 1) := by decide +kernel
theorem d7_weekday_25 : decode M7_weekday.2.1 25 = .ok (.ireturn, 1) := by decide +kernel
theorem d7_weekday_26 : decode M7_weekday.2.1 26 = .ok (.aload_n 0, 1) := by decide +kernel
theorem d7_weekday_27 : decode M7_weekday.2.1 27 = .ok (.getfield 10, 3) := by decide +kernel
theorem d7_weekday_30 : decode M7_weekday.2.1 30 = .ok (.iload_n 1, 1) := by decide +kernel
theorem d7_weekday_31 : decode M7_weekday.2.1 31 = .ok (.iload_n 2, 1) := by decide +kernel
theorem d7_weekday_32 : decode M7_weekday.2.1 32 = .ok (.iload_n 3, 1) := by decide +kernel
theorem d7_weekday_33 : decode M7_weekday.2.1 33 = .ok (.invokevirtual 57, 3) := by decide +kernel
theorem d7_weekday_36 : decode M7_weekday.2.1 36 = .ok (.iconst 1, 1) := by decide +kernel
theorem d7_weekday_37 : decode M7_weekday.2.1 37 = .ok (.ireturn, 1) := by decide +kernel
theorem d7_month_0 : decode M7_month.2.1 0 = .ok (.iload_n 1, 1) := by decide +kernel
theorem d7_month_1 : decode M7_month.2.1 1 = .ok (.iconst 4, 1) := by decide +kernel
theorem d7_month_2 : decode M7_month.2.1 2 = .ok (.invokestatic 49, 3) := by decide +kernel
theorem d7_month_5 : decode M7_month.2.1 5 = .ok (.ifCond .eq 19, 3) := by decide +kernel
theorem d7_month_8 : decode M7_month.2.1 8 = .ok (.iload_n 2, 1) := by decide +kernel
theorem d7_month_9 : decode M7_month.2.1 9 = .ok (.bipush 13, 2) := by decide +kernel
theorem d7_month_11 : decode M7_month.2.1 11 = .ok (.invokestatic 49, 3) := by decide +kernel
theorem d7_month_14 : decode M7_month.2.1 14 = .ok (.ifCond .eq 10, 3) := by decide +kernel
theorem d7_month_17 : decode M7_month.2.1 17 = .ok (.iload_n 3, 1) := by decide +kernel
theorem d7_month_18 : decode M7_month.2.1 18 = .ok (.invokestatic 53, 3) := by decide +kernel
theorem d7_month_21 : decode M7_month.2.1 21 = .ok (.ifCond .ne 5, 3) := by decide +kernel
theorem d7_month_24 : decode M7_month.2.1 24 = .ok (.iconst 0, 1) := by decide +kernel
theorem d7_month_25 : decode M7_month.2.1 25 = .ok (.ireturn, 1) := by decide +kernel
theorem d7_month_26 : decode M7_month.2.1 26 = .ok (.aload_n 0, 1) := by decide +kernel
theorem d7_month_27 : decode M7_month.2.1 27 = .ok (.getfield 10, 3) := by decide +kernel
theorem d7_month_30 : decode M7_month.2.1 30 = .ok (.iload_n 1, 1) := by decide +kernel
theorem d7_month_31 : decode M7_month.2.1 31 = .ok (.iload_n 2, 1) := by decide +kernel
theorem d7_month_32 : decode M7_month.2.1 32 = .ok (.iload_n 3, 1) := by decide +kernel
theorem d7_month_33 : decode M7_month.2.1 33 = .ok (.invokevirtual 61, 3) := by decide +kernel
theorem d7_month_36 : decode M7_month.2.1 36 = .ok (.iconst 1, 1) := by decide +kernel
theorem d7_month_37 : decode M7_month.2.1 37 = .ok (.ireturn, 1) := by decide +kernel
theorem d7_holiday_0 : decode M7_holiday.2.1 0 = .ok (.iload_n 1, 1) := by decide +kernel
theorem d7_holiday_1 : decode M7_holiday.2.1 1 = .ok (.sipush 364, 3) := by decide +kernel
theorem d7_holiday_4 : decode M7_holiday.2.1 4 = .ok (.invokestatic 49, 3) := by decide +kernel
theorem d7_holiday_7 : decode M7_holiday.2.1 7 = .ok (.ifCond .eq 18, 3) := by decide +kernel
theorem d7_holiday_10 : decode M7_holiday.2.1 10 = .ok (.aload_n 0, 1) := by decide +kernel
theorem d7_holiday_11 : decode M7_holiday.2.1 11 = .ok (.getfield 10, 3) := by decide +kernel
theorem d7_holiday_14 : decode M7_holiday.2.1 14 = .ok (.iload_n 1, 1) := by decide +kernel
theorem d7_holiday_15 : decode M7_holiday.2.1 15 = .ok (.invokevirtual 64, 3) := by decide +kernel
theorem d7_holiday_18 : decode M7_holiday.2.1 18 = .ok (.ifCond .eq 7, 3) := by decide +kernel
theorem d7_holiday_21 : decode M7_holiday.2.1 21 = .ok (.iconst 1, 1) := by decide +kernel
theorem d7_holiday_22 : decode M7_holiday.2.1 22 = .ok (.goto 4, 3) := by decide +kernel
theorem d7_holiday_25 : decode M7_holiday.2.1 25 = .ok (.iconst 0, 1) := by decide +kernel
theorem d7_holiday_26 : decode M7_holiday.2.1 26 = .ok (.ireturn, 1) := by decide +kernel
theorem d7_road_0 : decode M7_road.2.1 0 = .ok (.iload_n 1, 1) := by decide +kernel
theorem d7_road_1 : decode M7_road.2.1 1 = .ok (.invokestatic 67, 3) := by decide +kernel
theorem d7_road_4 : decode M7_road.2.1 4 = .ok (.ifCond .eq 26, 3) := by decide +kernel
theorem d7_road_7 : decode M7_road.2.1 7 = .ok (.iload_n 2, 1) := by decide +kernel
theorem d7_road_8 : decode M7_road.2.1 8 = .ok (.invokestatic 67, 3) := by decide +kernel
theorem d7_road_11 : decode M7_road.2.1 11 = .ok (.ifCond .eq 19, 3) := by decide +kernel
theorem d7_road_14 : decode M7_road.2.1 14 = .ok (.iload_n 1, 1) := by decide +kernel
theorem d7_road_15 : decode M7_road.2.1 15 = .ok (.iload_n 2, 1) := by decide +kernel
theorem d7_road_16 : decode M7_road.2.1 16 = .ok (.if_icmp .eq 14, 3) := by decide +kernel
theorem d7_road_19 : decode M7_road.2.1 19 = .ok (.iload_n 3, 1) := by decide +kernel
theorem d7_road_20 : decode M7_road.2.1 20 = .ok (.ifCond .lt 10, 3) := by decide +kernel
theorem d7_road_23 : decode M7_road.2.1 23 = .ok (.iload_n 3, 1) := by decide +kernel
theorem d7_road_24 : decode M7_road.2.1 24 = .ok (.sipush 9999, 3) := by decide +kernel
theorem d7_road_27 : decode M7_road.2.1 27 = .ok (.if_icmp .le 5, 3) := by decide +kernel
theorem d7_road_30 : decode M7_road.2.1 30 = .ok (.iconst (-1), 1) := by decide +kernel
theorem d7_road_31 : decode M7_road.2.1 31 = .ok (.ireturn, 1) := by decide +kernel
theorem d7_road_32 : decode M7_road.2.1 32 = .ok (.aload_n 0, 1) := by decide +kernel
theorem d7_road_33 : decode M7_road.2.1 33 = .ok (.getfield 19, 3) := by decide +kernel
theorem d7_road_36 : decode M7_road.2.1 36 = .ok (.iload_n 1, 1) := by decide +kernel
theorem d7_road_37 : decode M7_road.2.1 37 = .ok (.iload_n 2, 1) := by decide +kernel
theorem d7_road_38 : decode M7_road.2.1 38 = .ok (.iload_n 3, 1) := by decide +kernel
theorem d7_road_39 : decode M7_road.2.1 39 = .ok (.invokevirtual 70, 3) := by decide +kernel
theorem d7_road_42 : decode M7_road.2.1 42 = .ok (.ireturn, 1) := by decide +kernel
theorem d7_shape_0 : decode M7_shape.2.1 0 = .ok (.aload_n 0, 1) := by decide +kernel
theorem d7_shape_1 : decode M7_shape.2.1 1 = .ok (.getfield 19, 3) := by decide +kernel
theorem d7_shape_4 : decode M7_shape.2.1 4 = .ok (.iload_n 1, 1) := by decide +kernel
theorem d7_shape_5 : decode M7_shape.2.1 5 = .ok (.invokevirtual 74, 3) := by decide +kernel
theorem d7_shape_8 : decode M7_shape.2.1 8 = .ok (.astore_n 3, 1) := by decide +kernel
theorem d7_shape_9 : decode M7_shape.2.1 9 = .ok (.aload_n 3, 1) := by decide +kernel
theorem d7_shape_10 : decode M7_shape.2.1 10 = .ok (.ifnull 11, 3) := by decide +kernel
theorem d7_shape_13 : decode M7_shape.2.1 13 = .ok (.iload_n 2, 1) := by decide +kernel
theorem d7_shape_14 : decode M7_shape.2.1 14 = .ok (.iconst 4, 1) := by decide +kernel
theorem d7_shape_15 : decode M7_shape.2.1 15 = .ok (.invokestatic 49, 3) := by decide +kernel
theorem d7_shape_18 : decode M7_shape.2.1 18 = .ok (.ifCond .ne 5, 3) := by decide +kernel
theorem d7_shape_21 : decode M7_shape.2.1 21 = .ok (.iconst 0, 1) := by decide +kernel
theorem d7_shape_22 : decode M7_shape.2.1 22 = .ok (.ireturn, 1) := by decide +kernel
theorem d7_shape_23 : decode M7_shape.2.1 23 = .ok (.aload_n 3, 1) := by decide +kernel
theorem d7_shape_24 : decode M7_shape.2.1 24 = .ok (.iload_n 2, 1) := by decide +kernel
theorem d7_shape_25 : decode M7_shape.2.1 25 = .ok (.putfield 78, 3) := by decide +kernel
theorem d7_shape_28 : decode M7_shape.2.1 28 = .ok (.iconst 1, 1) := by decide +kernel
theorem d7_shape_29 : decode M7_shape.2.1 29 = .ok (.ireturn, 1) := by decide +kernel
theorem d7_count_0 : decode M7_count.2.1 0 = .ok (.aload_n 0, 1) := by decide +kernel
theorem d7_count_1 : decode M7_count.2.1 1 = .ok (.getfield 19, 3) := by decide +kernel
theorem d7_count_4 : decode M7_count.2.1 4 = .ok (.iload_n 1, 1) := by decide +kernel
theorem d7_count_5 : decode M7_count.2.1 5 = .ok (.invokevirtual 74, 3) := by decide +kernel
theorem d7_count_8 : decode M7_count.2.1 8 = .ok (.astore 4, 2) := by decide +kernel
theorem d7_count_10 : decode M7_count.2.1 10 = .ok (.aload 4, 2) := by decide +kernel
theorem d7_count_12 : decode M7_count.2.1 12 = .ok (.ifnull 23, 3) := by decide +kernel
theorem d7_count_15 : decode M7_count.2.1 15 = .ok (.iload_n 2, 1) := by decide +kernel
theorem d7_count_16 : decode M7_count.2.1 16 = .ok (.sipush 364, 3) := by decide +kernel
theorem d7_count_19 : decode M7_count.2.1 19 = .ok (.invokestatic 49, 3) := by decide +kernel
theorem d7_count_22 : decode M7_count.2.1 22 = .ok (.ifCond .eq 13, 3) := by decide +kernel
theorem d7_count_25 : decode M7_count.2.1 25 = .ok (.iload_n 3, 1) := by decide +kernel
theorem d7_count_26 : decode M7_count.2.1 26 = .ok (.ifCond .lt 9, 3) := by decide +kernel
theorem d7_count_29 : decode M7_count.2.1 29 = .ok (.iload_n 3, 1) := by decide +kernel
theorem d7_count_30 : decode M7_count.2.1 30 = .ok (.ldc 84, 2) := by decide +kernel
theorem d7_count_32 : decode M7_count.2.1 32 = .ok (.if_icmp .le 5, 3) := by decide +kernel
theorem d7_count_35 : decode M7_count.2.1 35 = .ok (.iconst 0, 1) := by decide +kernel
theorem d7_count_36 : decode M7_count.2.1 36 = .ok (.ireturn, 1) := by decide +kernel
theorem d7_count_37 : decode M7_count.2.1 37 = .ok (.aload 4, 2) := by decide +kernel
theorem d7_count_39 : decode M7_count.2.1 39 = .ok (.getfield 85, 3) := by decide +kernel
theorem d7_count_42 : decode M7_count.2.1 42 = .ok (.iload_n 2, 1) := by decide +kernel
theorem d7_count_43 : decode M7_count.2.1 43 = .ok (.iload_n 3, 1) := by decide +kernel
theorem d7_count_44 : decode M7_count.2.1 44 = .ok (.invokevirtual 89, 3) := by decide +kernel
theorem d7_count_47 : decode M7_count.2.1 47 = .ok (.ireturn, 1) := by decide +kernel
theorem d7_year_0 : decode M7_year.2.1 0 = .ok (.aload_n 0, 1) := by decide +kernel
theorem d7_year_1 : decode M7_year.2.1 1 = .ok (.getfield 19, 3) := by decide +kernel
theorem d7_year_4 : decode M7_year.2.1 4 = .ok (.iload_n 1, 1) := by decide +kernel
theorem d7_year_5 : decode M7_year.2.1 5 = .ok (.invokevirtual 74, 3) := by decide +kernel
theorem d7_year_8 : decode M7_year.2.1 8 = .ok (.astore_n 2, 1) := by decide +kernel
theorem d7_year_9 : decode M7_year.2.1 9 = .ok (.aload_n 2, 1) := by decide +kernel
theorem d7_year_10 : decode M7_year.2.1 10 = .ok (.ifnonnull 9, 3) := by decide +kernel
theorem d7_year_13 : decode M7_year.2.1 13 = .ok (.ldc2_w 94, 3) := by decide +kernel
theorem d7_year_16 : decode M7_year.2.1 16 = .ok (.goto 18, 3) := by decide +kernel
theorem d7_year_19 : decode M7_year.2.1 19 = .ok (.aload_n 2, 1) := by decide +kernel
theorem d7_year_20 : decode M7_year.2.1 20 = .ok (.getfield 85, 3) := by decide +kernel
theorem d7_year_23 : decode M7_year.2.1 23 = .ok (.aload_n 0, 1) := by decide +kernel
theorem d7_year_24 : decode M7_year.2.1 24 = .ok (.getfield 10, 3) := by decide +kernel
theorem d7_year_27 : decode M7_year.2.1 27 = .ok (.aload_n 2, 1) := by decide +kernel
theorem d7_year_28 : decode M7_year.2.1 28 = .ok (.getfield 78, 3) := by decide +kernel
theorem d7_year_31 : decode M7_year.2.1 31 = .ok (.invokevirtual 96, 3) := by decide +kernel
theorem d7_year_34 : decode M7_year.2.1 34 = .ok (.lreturn, 1) := by decide +kernel
theorem d7_span_0 : decode M7_span.2.1 0 = .ok (.aload_n 0, 1) := by decide +kernel
theorem d7_span_1 : decode M7_span.2.1 1 = .ok (.getfield 19, 3) := by decide +kernel
theorem d7_span_4 : decode M7_span.2.1 4 = .ok (.iload_n 1, 1) := by decide +kernel
theorem d7_span_5 : decode M7_span.2.1 5 = .ok (.invokevirtual 74, 3) := by decide +kernel
theorem d7_span_8 : decode M7_span.2.1 8 = .ok (.astore_n 3, 1) := by decide +kernel
theorem d7_span_9 : decode M7_span.2.1 9 = .ok (.aload_n 3, 1) := by decide +kernel
theorem d7_span_10 : decode M7_span.2.1 10 = .ok (.ifnull 11, 3) := by decide +kernel
theorem d7_span_13 : decode M7_span.2.1 13 = .ok (.iload_n 2, 1) := by decide +kernel
theorem d7_span_14 : decode M7_span.2.1 14 = .ok (.iconst 2, 1) := by decide +kernel
theorem d7_span_15 : decode M7_span.2.1 15 = .ok (.invokestatic 49, 3) := by decide +kernel
theorem d7_span_18 : decode M7_span.2.1 18 = .ok (.ifCond .ne 7, 3) := by decide +kernel
theorem d7_span_21 : decode M7_span.2.1 21 = .ok (.ldc2_w 94, 3) := by decide +kernel
theorem d7_span_24 : decode M7_span.2.1 24 = .ok (.lreturn, 1) := by decide +kernel
theorem d7_span_25 : decode M7_span.2.1 25 = .ok (.aload_n 3, 1) := by decide +kernel
theorem d7_span_26 : decode M7_span.2.1 26 = .ok (.getfield 85, 3) := by decide +kernel
theorem d7_span_29 : decode M7_span.2.1 29 = .ok (.aload_n 0, 1) := by decide +kernel
theorem d7_span_30 : decode M7_span.2.1 30 = .ok (.getfield 10, 3) := by decide +kernel
theorem d7_span_33 : decode M7_span.2.1 33 = .ok (.aload_n 3, 1) := by decide +kernel
theorem d7_span_34 : decode M7_span.2.1 34 = .ok (.getfield 78, 3) := by decide +kernel
theorem d7_span_37 : decode M7_span.2.1 37 = .ok (.iload_n 2, 1) := by decide +kernel
theorem d7_span_38 : decode M7_span.2.1 38 = .ok (.iconst 1, 1) := by decide +kernel
theorem d7_span_39 : decode M7_span.2.1 39 = .ok (.if_icmp .ne 7, 3) := by decide +kernel
theorem d7_span_42 : decode M7_span.2.1 42 = .ok (.iconst 1, 1) := by decide +kernel
theorem d7_span_43 : decode M7_span.2.1 43 = .ok (.goto 4, 3) := by decide +kernel
theorem d7_span_46 : decode M7_span.2.1 46 = .ok (.iconst 0, 1) := by decide +kernel
theorem d7_span_47 : decode M7_span.2.1 47 = .ok (.invokevirtual 100, 3) := by decide +kernel
theorem d7_span_50 : decode M7_span.2.1 50 = .ok (.lreturn, 1) := by decide +kernel
theorem d7_best_0 : decode M7_best.2.1 0 = .ok (.aload_n 0, 1) := by decide +kernel
theorem d7_best_1 : decode M7_best.2.1 1 = .ok (.getfield 19, 3) := by decide +kernel
theorem d7_best_4 : decode M7_best.2.1 4 = .ok (.iload_n 1, 1) := by decide +kernel
theorem d7_best_5 : decode M7_best.2.1 5 = .ok (.invokevirtual 74, 3) := by decide +kernel
theorem d7_best_8 : decode M7_best.2.1 8 = .ok (.astore_n 2, 1) := by decide +kernel
theorem d7_best_9 : decode M7_best.2.1 9 = .ok (.aload_n 2, 1) := by decide +kernel
theorem d7_best_10 : decode M7_best.2.1 10 = .ok (.ifnonnull 7, 3) := by decide +kernel
theorem d7_best_13 : decode M7_best.2.1 13 = .ok (.iconst (-1), 1) := by decide +kernel
theorem d7_best_14 : decode M7_best.2.1 14 = .ok (.goto 14, 3) := by decide +kernel
theorem d7_best_17 : decode M7_best.2.1 17 = .ok (.aload_n 2, 1) := by decide +kernel
theorem d7_best_18 : decode M7_best.2.1 18 = .ok (.getfield 85, 3) := by decide +kernel
theorem d7_best_21 : decode M7_best.2.1 21 = .ok (.aload_n 0, 1) := by decide +kernel
theorem d7_best_22 : decode M7_best.2.1 22 = .ok (.getfield 10, 3) := by decide +kernel
theorem d7_best_25 : decode M7_best.2.1 25 = .ok (.invokevirtual 104, 3) := by decide +kernel
theorem d7_best_28 : decode M7_best.2.1 28 = .ok (.ireturn, 1) := by decide +kernel
theorem d7_how_0 : decode M7_how.2.1 0 = .ok (.aload_n 0, 1) := by decide +kernel
theorem d7_how_1 : decode M7_how.2.1 1 = .ok (.getfield 19, 3) := by decide +kernel
theorem d7_how_4 : decode M7_how.2.1 4 = .ok (.iload_n 1, 1) := by decide +kernel
theorem d7_how_5 : decode M7_how.2.1 5 = .ok (.invokevirtual 74, 3) := by decide +kernel
theorem d7_how_8 : decode M7_how.2.1 8 = .ok (.ifnonnull 5, 3) := by decide +kernel
theorem d7_how_11 : decode M7_how.2.1 11 = .ok (.iconst (-1), 1) := by decide +kernel
theorem d7_how_12 : decode M7_how.2.1 12 = .ok (.ireturn, 1) := by decide +kernel
theorem d7_how_13 : decode M7_how.2.1 13 = .ok (.aload_n 0, 1) := by decide +kernel
theorem d7_how_14 : decode M7_how.2.1 14 = .ok (.getfield 19, 3) := by decide +kernel
theorem d7_how_17 : decode M7_how.2.1 17 = .ok (.aload_n 0, 1) := by decide +kernel
theorem d7_how_18 : decode M7_how.2.1 18 = .ok (.getfield 10, 3) := by decide +kernel
theorem d7_how_21 : decode M7_how.2.1 21 = .ok (.invokevirtual 108, 3) := by decide +kernel
theorem d7_how_24 : decode M7_how.2.1 24 = .ok (.aload_n 0, 1) := by decide +kernel
theorem d7_how_25 : decode M7_how.2.1 25 = .ok (.getfield 19, 3) := by decide +kernel
theorem d7_how_28 : decode M7_how.2.1 28 = .ok (.iload_n 1, 1) := by decide +kernel
theorem d7_how_29 : decode M7_how.2.1 29 = .ok (.invokevirtual 112, 3) := by decide +kernel
theorem d7_how_32 : decode M7_how.2.1 32 = .ok (.ifCond .eq 5, 3) := by decide +kernel
theorem d7_how_35 : decode M7_how.2.1 35 = .ok (.iconst 0, 1) := by decide +kernel
theorem d7_how_36 : decode M7_how.2.1 36 = .ok (.ireturn, 1) := by decide +kernel
theorem d7_how_37 : decode M7_how.2.1 37 = .ok (.aload_n 0, 1) := by decide +kernel
theorem d7_how_38 : decode M7_how.2.1 38 = .ok (.getfield 19, 3) := by decide +kernel
theorem d7_how_41 : decode M7_how.2.1 41 = .ok (.iload_n 1, 1) := by decide +kernel
theorem d7_how_42 : decode M7_how.2.1 42 = .ok (.invokevirtual 115, 3) := by decide +kernel
theorem d7_how_45 : decode M7_how.2.1 45 = .ok (.ifCond .eq 7, 3) := by decide +kernel
theorem d7_how_48 : decode M7_how.2.1 48 = .ok (.iconst 1, 1) := by decide +kernel
theorem d7_how_49 : decode M7_how.2.1 49 = .ok (.goto 4, 3) := by decide +kernel
theorem d7_how_52 : decode M7_how.2.1 52 = .ok (.iconst 2, 1) := by decide +kernel
theorem d7_how_53 : decode M7_how.2.1 53 = .ok (.ireturn, 1) := by decide +kernel
theorem d7_load_0 : decode M7_load.2.1 0 = .ok (.aload_n 0, 1) := by decide +kernel
theorem d7_load_1 : decode M7_load.2.1 1 = .ok (.getfield 19, 3) := by decide +kernel
theorem d7_load_4 : decode M7_load.2.1 4 = .ok (.iload_n 1, 1) := by decide +kernel
theorem d7_load_5 : decode M7_load.2.1 5 = .ok (.invokevirtual 74, 3) := by decide +kernel
theorem d7_load_8 : decode M7_load.2.1 8 = .ok (.ifnonnull 5, 3) := by decide +kernel
theorem d7_load_11 : decode M7_load.2.1 11 = .ok (.lconst 0, 1) := by decide +kernel
theorem d7_load_12 : decode M7_load.2.1 12 = .ok (.lreturn, 1) := by decide +kernel
theorem d7_load_13 : decode M7_load.2.1 13 = .ok (.aload_n 0, 1) := by decide +kernel
theorem d7_load_14 : decode M7_load.2.1 14 = .ok (.getfield 19, 3) := by decide +kernel
theorem d7_load_17 : decode M7_load.2.1 17 = .ok (.aload_n 0, 1) := by decide +kernel
theorem d7_load_18 : decode M7_load.2.1 18 = .ok (.getfield 10, 3) := by decide +kernel
theorem d7_load_21 : decode M7_load.2.1 21 = .ok (.invokevirtual 108, 3) := by decide +kernel
theorem d7_load_24 : decode M7_load.2.1 24 = .ok (.aload_n 0, 1) := by decide +kernel
theorem d7_load_25 : decode M7_load.2.1 25 = .ok (.getfield 19, 3) := by decide +kernel
theorem d7_load_28 : decode M7_load.2.1 28 = .ok (.iload_n 1, 1) := by decide +kernel
theorem d7_load_29 : decode M7_load.2.1 29 = .ok (.invokevirtual 115, 3) := by decide +kernel
theorem d7_load_32 : decode M7_load.2.1 32 = .ok (.ifCond .eq 14, 3) := by decide +kernel
theorem d7_load_35 : decode M7_load.2.1 35 = .ok (.aload_n 0, 1) := by decide +kernel
theorem d7_load_36 : decode M7_load.2.1 36 = .ok (.getfield 19, 3) := by decide +kernel
theorem d7_load_39 : decode M7_load.2.1 39 = .ok (.iload_n 1, 1) := by decide +kernel
theorem d7_load_40 : decode M7_load.2.1 40 = .ok (.invokevirtual 118, 3) := by decide +kernel
theorem d7_load_43 : decode M7_load.2.1 43 = .ok (.goto 4, 3) := by decide +kernel
theorem d7_load_46 : decode M7_load.2.1 46 = .ok (.lconst 0, 1) := by decide +kernel
theorem d7_load_47 : decode M7_load.2.1 47 = .ok (.lreturn, 1) := by decide +kernel
theorem d7_balances_0 : decode M7_balances.2.1 0 = .ok (.iload_n 1, 1) := by decide +kernel
theorem d7_balances_1 : decode M7_balances.2.1 1 = .ok (.bipush 8, 2) := by decide +kernel
theorem d7_balances_3 : decode M7_balances.2.1 3 = .ok (.invokestatic 49, 3) := by decide +kernel
theorem d7_balances_6 : decode M7_balances.2.1 6 = .ok (.ifCond .ne 5, 3) := by decide +kernel
theorem d7_balances_9 : decode M7_balances.2.1 9 = .ok (.iconst (-1), 1) := by decide +kernel
theorem d7_balances_10 : decode M7_balances.2.1 10 = .ok (.ireturn, 1) := by decide +kernel
theorem d7_balances_11 : decode M7_balances.2.1 11 = .ok (.aload_n 0, 1) := by decide +kernel
theorem d7_balances_12 : decode M7_balances.2.1 12 = .ok (.getfield 19, 3) := by decide +kernel
theorem d7_balances_15 : decode M7_balances.2.1 15 = .ok (.aload_n 0, 1) := by decide +kernel
theorem d7_balances_16 : decode M7_balances.2.1 16 = .ok (.getfield 10, 3) := by decide +kernel
theorem d7_balances_19 : decode M7_balances.2.1 19 = .ok (.invokevirtual 108, 3) := by decide +kernel
theorem d7_balances_22 : decode M7_balances.2.1 22 = .ok (.aload_n 0, 1) := by decide +kernel
theorem d7_balances_23 : decode M7_balances.2.1 23 = .ok (.getfield 19, 3) := by decide +kernel
theorem d7_balances_26 : decode M7_balances.2.1 26 = .ok (.iload_n 1, 1) := by decide +kernel
theorem d7_balances_27 : decode M7_balances.2.1 27 = .ok (.invokevirtual 122, 3) := by decide +kernel
theorem d7_balances_30 : decode M7_balances.2.1 30 = .ok (.ifCond .eq 7, 3) := by decide +kernel
theorem d7_balances_33 : decode M7_balances.2.1 33 = .ok (.iconst 1, 1) := by decide +kernel
theorem d7_balances_34 : decode M7_balances.2.1 34 = .ok (.goto 4, 3) := by decide +kernel
theorem d7_balances_37 : decode M7_balances.2.1 37 = .ok (.iconst 0, 1) := by decide +kernel
theorem d7_balances_38 : decode M7_balances.2.1 38 = .ok (.ireturn, 1) := by decide +kernel
theorem d7_balance_0 : decode M7_balance.2.1 0 = .ok (.iload_n 1, 1) := by decide +kernel
theorem d7_balance_1 : decode M7_balance.2.1 1 = .ok (.bipush 8, 2) := by decide +kernel
theorem d7_balance_3 : decode M7_balance.2.1 3 = .ok (.invokestatic 49, 3) := by decide +kernel
theorem d7_balance_6 : decode M7_balance.2.1 6 = .ok (.ifCond .ne 5, 3) := by decide +kernel
theorem d7_balance_9 : decode M7_balance.2.1 9 = .ok (.lconst 0, 1) := by decide +kernel
theorem d7_balance_10 : decode M7_balance.2.1 10 = .ok (.lreturn, 1) := by decide +kernel
theorem d7_balance_11 : decode M7_balance.2.1 11 = .ok (.aload_n 0, 1) := by decide +kernel
theorem d7_balance_12 : decode M7_balance.2.1 12 = .ok (.getfield 19, 3) := by decide +kernel
theorem d7_balance_15 : decode M7_balance.2.1 15 = .ok (.aload_n 0, 1) := by decide +kernel
theorem d7_balance_16 : decode M7_balance.2.1 16 = .ok (.getfield 10, 3) := by decide +kernel
theorem d7_balance_19 : decode M7_balance.2.1 19 = .ok (.invokevirtual 108, 3) := by decide +kernel
theorem d7_balance_22 : decode M7_balance.2.1 22 = .ok (.aload_n 0, 1) := by decide +kernel
theorem d7_balance_23 : decode M7_balance.2.1 23 = .ok (.getfield 19, 3) := by decide +kernel
theorem d7_balance_26 : decode M7_balance.2.1 26 = .ok (.iload_n 1, 1) := by decide +kernel
theorem d7_balance_27 : decode M7_balance.2.1 27 = .ok (.invokevirtual 122, 3) := by decide +kernel
theorem d7_balance_30 : decode M7_balance.2.1 30 = .ok (.ifCond .eq 14, 3) := by decide +kernel
theorem d7_balance_33 : decode M7_balance.2.1 33 = .ok (.aload_n 0, 1) := by decide +kernel
theorem d7_balance_34 : decode M7_balance.2.1 34 = .ok (.getfield 19, 3) := by decide +kernel
theorem d7_balance_37 : decode M7_balance.2.1 37 = .ok (.iload_n 1, 1) := by decide +kernel
theorem d7_balance_38 : decode M7_balance.2.1 38 = .ok (.invokevirtual 125, 3) := by decide +kernel
theorem d7_balance_41 : decode M7_balance.2.1 41 = .ok (.goto 4, 3) := by decide +kernel
theorem d7_balance_44 : decode M7_balance.2.1 44 = .ok (.lconst 0, 1) := by decide +kernel
theorem d7_balance_45 : decode M7_balance.2.1 45 = .ok (.lreturn, 1) := by decide +kernel
theorem d7_does_0 : decode M7_does.2.1 0 = .ok (.aload_n 0, 1) := by decide +kernel
theorem d7_does_1 : decode M7_does.2.1 1 = .ok (.getfield 19, 3) := by decide +kernel
theorem d7_does_4 : decode M7_does.2.1 4 = .ok (.iload_n 1, 1) := by decide +kernel
theorem d7_does_5 : decode M7_does.2.1 5 = .ok (.invokevirtual 128, 3) := by decide +kernel
theorem d7_does_8 : decode M7_does.2.1 8 = .ok (.ifCond .ne 5, 3) := by decide +kernel
theorem d7_does_11 : decode M7_does.2.1 11 = .ok (.iconst (-1), 1) := by decide +kernel
theorem d7_does_12 : decode M7_does.2.1 12 = .ok (.ireturn, 1) := by decide +kernel
theorem d7_does_13 : decode M7_does.2.1 13 = .ok (.aload_n 0, 1) := by decide +kernel
theorem d7_does_14 : decode M7_does.2.1 14 = .ok (.getfield 19, 3) := by decide +kernel
theorem d7_does_17 : decode M7_does.2.1 17 = .ok (.iload_n 1, 1) := by decide +kernel
theorem d7_does_18 : decode M7_does.2.1 18 = .ok (.invokevirtual 131, 3) := by decide +kernel
theorem d7_does_21 : decode M7_does.2.1 21 = .ok (.ifCond .eq 7, 3) := by decide +kernel
theorem d7_does_24 : decode M7_does.2.1 24 = .ok (.iconst 1, 1) := by decide +kernel
theorem d7_does_25 : decode M7_does.2.1 25 = .ok (.goto 4, 3) := by decide +kernel
theorem d7_does_28 : decode M7_does.2.1 28 = .ok (.iconst 0, 1) := by decide +kernel
theorem d7_does_29 : decode M7_does.2.1 29 = .ok (.ireturn, 1) := by decide +kernel
theorem d7_plan_0 : decode M7_plan.2.1 0 = .ok (.aload_n 0, 1) := by decide +kernel
theorem d7_plan_1 : decode M7_plan.2.1 1 = .ok (.getfield 19, 3) := by decide +kernel
theorem d7_plan_4 : decode M7_plan.2.1 4 = .ok (.invokevirtual 134, 3) := by decide +kernel
theorem d7_plan_7 : decode M7_plan.2.1 7 = .ok (.ireturn, 1) := by decide +kernel
theorem d7_feed_0 : decode M7_feed.2.1 0 = .ok (.aload_n 0, 1) := by decide +kernel
theorem d7_feed_1 : decode M7_feed.2.1 1 = .ok (.getfield 26, 3) := by decide +kernel
theorem d7_feed_4 : decode M7_feed.2.1 4 = .ok (.getfield 138, 3) := by decide +kernel
theorem d7_feed_7 : decode M7_feed.2.1 7 = .ok (.bipush 20, 2) := by decide +kernel
theorem d7_feed_9 : decode M7_feed.2.1 9 = .ok (.iadd, 1) := by decide +kernel
theorem d7_feed_10 : decode M7_feed.2.1 10 = .ok (.bipush 120, 2) := by decide +kernel
theorem d7_feed_12 : decode M7_feed.2.1 12 = .ok (.if_icmp .le 5, 3) := by decide +kernel
theorem d7_feed_15 : decode M7_feed.2.1 15 = .ok (.iconst (-1), 1) := by decide +kernel
theorem d7_feed_16 : decode M7_feed.2.1 16 = .ok (.ireturn, 1) := by decide +kernel
theorem d7_feed_17 : decode M7_feed.2.1 17 = .ok (.aload_n 0, 1) := by decide +kernel
theorem d7_feed_18 : decode M7_feed.2.1 18 = .ok (.getfield 26, 3) := by decide +kernel
theorem d7_feed_21 : decode M7_feed.2.1 21 = .ok (.iload_n 1, 1) := by decide +kernel
theorem d7_feed_22 : decode M7_feed.2.1 22 = .ok (.invokevirtual 141, 3) := by decide +kernel
theorem d7_feed_25 : decode M7_feed.2.1 25 = .ok (.aload_n 0, 1) := by decide +kernel
theorem d7_feed_26 : decode M7_feed.2.1 26 = .ok (.getfield 26, 3) := by decide +kernel
theorem d7_feed_29 : decode M7_feed.2.1 29 = .ok (.iload_n 2, 1) := by decide +kernel
theorem d7_feed_30 : decode M7_feed.2.1 30 = .ok (.invokevirtual 141, 3) := by decide +kernel
theorem d7_feed_33 : decode M7_feed.2.1 33 = .ok (.aload_n 0, 1) := by decide +kernel
theorem d7_feed_34 : decode M7_feed.2.1 34 = .ok (.getfield 26, 3) := by decide +kernel
theorem d7_feed_37 : decode M7_feed.2.1 37 = .ok (.iload_n 3, 1) := by decide +kernel
theorem d7_feed_38 : decode M7_feed.2.1 38 = .ok (.invokevirtual 141, 3) := by decide +kernel
theorem d7_feed_41 : decode M7_feed.2.1 41 = .ok (.aload_n 0, 1) := by decide +kernel
theorem d7_feed_42 : decode M7_feed.2.1 42 = .ok (.getfield 26, 3) := by decide +kernel
theorem d7_feed_45 : decode M7_feed.2.1 45 = .ok (.iload 4, 2) := by decide +kernel
theorem d7_feed_47 : decode M7_feed.2.1 47 = .ok (.invokevirtual 141, 3) := by decide +kernel
theorem d7_feed_50 : decode M7_feed.2.1 50 = .ok (.aload_n 0, 1) := by decide +kernel
theorem d7_feed_51 : decode M7_feed.2.1 51 = .ok (.getfield 26, 3) := by decide +kernel
theorem d7_feed_54 : decode M7_feed.2.1 54 = .ok (.iload 5, 2) := by decide +kernel
theorem d7_feed_56 : decode M7_feed.2.1 56 = .ok (.invokevirtual 141, 3) := by decide +kernel
theorem d7_feed_59 : decode M7_feed.2.1 59 = .ok (.aload_n 0, 1) := by decide +kernel
theorem d7_feed_60 : decode M7_feed.2.1 60 = .ok (.getfield 26, 3) := by decide +kernel
theorem d7_feed_63 : decode M7_feed.2.1 63 = .ok (.getfield 138, 3) := by decide +kernel
theorem d7_feed_66 : decode M7_feed.2.1 66 = .ok (.ireturn, 1) := by decide +kernel
theorem d7_rules_0 : decode M7_rules.2.1 0 = .ok (.iload_n 1, 1) := by decide +kernel
theorem d7_rules_1 : decode M7_rules.2.1 1 = .ok (.ifCond .lt 14, 3) := by decide +kernel
theorem d7_rules_4 : decode M7_rules.2.1 4 = .ok (.iload_n 1, 1) := by decide +kernel
theorem d7_rules_5 : decode M7_rules.2.1 5 = .ok (.aload_n 0, 1) := by decide +kernel
theorem d7_rules_6 : decode M7_rules.2.1 6 = .ok (.getfield 26, 3) := by decide +kernel
theorem d7_rules_9 : decode M7_rules.2.1 9 = .ok (.getfield 138, 3) := by decide +kernel
theorem d7_rules_12 : decode M7_rules.2.1 12 = .ok (.if_icmp .le 5, 3) := by decide +kernel
theorem d7_rules_15 : decode M7_rules.2.1 15 = .ok (.iconst (-1), 1) := by decide +kernel
theorem d7_rules_16 : decode M7_rules.2.1 16 = .ok (.ireturn, 1) := by decide +kernel
theorem d7_rules_17 : decode M7_rules.2.1 17 = .ok (.aload_n 0, 1) := by decide +kernel
theorem d7_rules_18 : decode M7_rules.2.1 18 = .ok (.getfield 35, 3) := by decide +kernel
theorem d7_rules_21 : decode M7_rules.2.1 21 = .ok (.iload_n 1, 1) := by decide +kernel
theorem d7_rules_22 : decode M7_rules.2.1 22 = .ok (.aload_n 0, 1) := by decide +kernel
theorem d7_rules_23 : decode M7_rules.2.1 23 = .ok (.getfield 46, 3) := by decide +kernel
theorem d7_rules_26 : decode M7_rules.2.1 26 = .ok (.invokevirtual 145, 3) := by decide +kernel
theorem d7_rules_29 : decode M7_rules.2.1 29 = .ok (.istore_n 2, 1) := by decide +kernel
theorem d7_rules_30 : decode M7_rules.2.1 30 = .ok (.aload_n 0, 1) := by decide +kernel
theorem d7_rules_31 : decode M7_rules.2.1 31 = .ok (.getfield 26, 3) := by decide +kernel
theorem d7_rules_34 : decode M7_rules.2.1 34 = .ok (.iconst 0, 1) := by decide +kernel
theorem d7_rules_35 : decode M7_rules.2.1 35 = .ok (.putfield 138, 3) := by decide +kernel
theorem d7_rules_38 : decode M7_rules.2.1 38 = .ok (.iload_n 2, 1) := by decide +kernel
theorem d7_rules_39 : decode M7_rules.2.1 39 = .ok (.ifCond .ne 21, 3) := by decide +kernel
theorem d7_rules_42 : decode M7_rules.2.1 42 = .ok (.aload_n 0, 1) := by decide +kernel
theorem d7_rules_43 : decode M7_rules.2.1 43 = .ok (.getfield 42, 3) := by decide +kernel
theorem d7_rules_46 : decode M7_rules.2.1 46 = .ok (.astore_n 3, 1) := by decide +kernel
theorem d7_rules_47 : decode M7_rules.2.1 47 = .ok (.aload_n 0, 1) := by decide +kernel
theorem d7_rules_48 : decode M7_rules.2.1 48 = .ok (.aload_n 0, 1) := by decide +kernel
theorem d7_rules_49 : decode M7_rules.2.1 49 = .ok (.getfield 46, 3) := by decide +kernel
theorem d7_rules_52 : decode M7_rules.2.1 52 = .ok (.putfield 42, 3) := by decide +kernel
theorem d7_rules_55 : decode M7_rules.2.1 55 = .ok (.aload_n 0, 1) := by decide +kernel
theorem d7_rules_56 : decode M7_rules.2.1 56 = .ok (.aload_n 3, 1) := by decide +kernel
theorem d7_rules_57 : decode M7_rules.2.1 57 = .ok (.putfield 46, 3) := by decide +kernel
theorem d7_rules_60 : decode M7_rules.2.1 60 = .ok (.iload_n 2, 1) := by decide +kernel
theorem d7_rules_61 : decode M7_rules.2.1 61 = .ok (.ireturn, 1) := by decide +kernel
theorem d7_pass_0 : decode M7_pass.2.1 0 = .ok (.aload_n 0, 1) := by decide +kernel
theorem d7_pass_1 : decode M7_pass.2.1 1 = .ok (.getfield 19, 3) := by decide +kernel
theorem d7_pass_4 : decode M7_pass.2.1 4 = .ok (.iload_n 1, 1) := by decide +kernel
theorem d7_pass_5 : decode M7_pass.2.1 5 = .ok (.invokevirtual 74, 3) := by decide +kernel
theorem d7_pass_8 : decode M7_pass.2.1 8 = .ok (.astore_n 3, 1) := by decide +kernel
theorem d7_pass_9 : decode M7_pass.2.1 9 = .ok (.aload_n 3, 1) := by decide +kernel
theorem d7_pass_10 : decode M7_pass.2.1 10 = .ok (.ifnull 18, 3) := by decide +kernel
theorem d7_pass_13 : decode M7_pass.2.1 13 = .ok (.iload_n 2, 1) := by decide +kernel
theorem d7_pass_14 : decode M7_pass.2.1 14 = .ok (.ifCond .lt 14, 3) := by decide +kernel
theorem d7_pass_17 : decode M7_pass.2.1 17 = .ok (.iload_n 2, 1) := by decide +kernel
theorem d7_pass_18 : decode M7_pass.2.1 18 = .ok (.aload_n 0, 1) := by decide +kernel
theorem d7_pass_19 : decode M7_pass.2.1 19 = .ok (.getfield 26, 3) := by decide +kernel
theorem d7_pass_22 : decode M7_pass.2.1 22 = .ok (.getfield 138, 3) := by decide +kernel
theorem d7_pass_25 : decode M7_pass.2.1 25 = .ok (.if_icmp .le 5, 3) := by decide +kernel
theorem d7_pass_28 : decode M7_pass.2.1 28 = .ok (.iconst (-1), 1) := by decide +kernel
theorem d7_pass_29 : decode M7_pass.2.1 29 = .ok (.ireturn, 1) := by decide +kernel
theorem d7_pass_30 : decode M7_pass.2.1 30 = .ok (.iconst 0, 1) := by decide +kernel
theorem d7_pass_31 : decode M7_pass.2.1 31 = .ok (.istore 4, 2) := by decide +kernel
theorem d7_pass_33 : decode M7_pass.2.1 33 = .ok (.iconst 0, 1) := by decide +kernel
theorem d7_pass_34 : decode M7_pass.2.1 34 = .ok (.istore 5, 2) := by decide +kernel
theorem d7_pass_36 : decode M7_pass.2.1 36 = .ok (.iconst 0, 1) := by decide +kernel
theorem d7_pass_37 : decode M7_pass.2.1 37 = .ok (.istore 6, 2) := by decide +kernel
theorem d7_pass_39 : decode M7_pass.2.1 39 = .ok (.iload 6, 2) := by decide +kernel
theorem d7_pass_41 : decode M7_pass.2.1 41 = .ok (.iload_n 2, 1) := by decide +kernel
theorem d7_pass_42 : decode M7_pass.2.1 42 = .ok (.if_icmp .gt 73, 3) := by decide +kernel
theorem d7_pass_45 : decode M7_pass.2.1 45 = .ok (.iload 6, 2) := by decide +kernel
theorem d7_pass_47 : decode M7_pass.2.1 47 = .ok (.iload_n 2, 1) := by decide +kernel
theorem d7_pass_48 : decode M7_pass.2.1 48 = .ok (.if_icmp .ge 18, 3) := by decide +kernel
theorem d7_pass_51 : decode M7_pass.2.1 51 = .ok (.aload_n 0, 1) := by decide +kernel
theorem d7_pass_52 : decode M7_pass.2.1 52 = .ok (.getfield 26, 3) := by decide +kernel
theorem d7_pass_55 : decode M7_pass.2.1 55 = .ok (.iload 6, 2) := by decide +kernel
theorem d7_pass_57 : decode M7_pass.2.1 57 = .ok (.invokevirtual 149, 3) := by decide +kernel
theorem d7_pass_60 : decode M7_pass.2.1 60 = .ok (.ifCond .eq 6, 3) := by decide +kernel
theorem d7_pass_63 : decode M7_pass.2.1 63 = .ok (.goto 46, 3) := by decide +kernel
theorem d7_pass_66 : decode M7_pass.2.1 66 = .ok (.iload 6, 2) := by decide +kernel
theorem d7_pass_68 : decode M7_pass.2.1 68 = .ok (.iload 5, 2) := by decide +kernel
theorem d7_pass_70 : decode M7_pass.2.1 70 = .ok (.if_icmp .le 33, 3) := by decide +kernel
theorem d7_pass_73 : decode M7_pass.2.1 73 = .ok (.aload_n 3, 1) := by decide +kernel
theorem d7_pass_74 : decode M7_pass.2.1 74 = .ok (.getfield 152, 3) := by decide +kernel
theorem d7_pass_77 : decode M7_pass.2.1 77 = .ok (.aload_n 0, 1) := by decide +kernel
theorem d7_pass_78 : decode M7_pass.2.1 78 = .ok (.getfield 42, 3) := by decide +kernel
theorem d7_pass_81 : decode M7_pass.2.1 81 = .ok (.aload_n 0, 1) := by decide +kernel
theorem d7_pass_82 : decode M7_pass.2.1 82 = .ok (.getfield 26, 3) := by decide +kernel
theorem d7_pass_85 : decode M7_pass.2.1 85 = .ok (.iload 5, 2) := by decide +kernel
theorem d7_pass_87 : decode M7_pass.2.1 87 = .ok (.iload 6, 2) := by decide +kernel
theorem d7_pass_89 : decode M7_pass.2.1 89 = .ok (.iload 5, 2) := by decide +kernel
theorem d7_pass_91 : decode M7_pass.2.1 91 = .ok (.isub, 1) := by decide +kernel
theorem d7_pass_92 : decode M7_pass.2.1 92 = .ok (.invokevirtual 156, 3) := by decide +kernel
theorem d7_pass_95 : decode M7_pass.2.1 95 = .ok (.dup2, 1) := by decide +kernel
theorem d7_pass_96 : decode M7_pass.2.1 96 = .ok (.iaload, 1) := by decide +kernel
theorem d7_pass_97 : decode M7_pass.2.1 97 = .ok (.iconst 1, 1) := by decide +kernel
theorem d7_pass_98 : decode M7_pass.2.1 98 = .ok (.iadd, 1) := by decide +kernel
theorem d7_pass_99 : decode M7_pass.2.1 99 = .ok (.iastore, 1) := by decide +kernel
theorem d7_pass_100 : decode M7_pass.2.1 100 = .ok (.iinc 4 1, 3) := by decide +kernel
theorem d7_pass_103 : decode M7_pass.2.1 103 = .ok (.iload 6, 2) := by decide +kernel
theorem d7_pass_105 : decode M7_pass.2.1 105 = .ok (.iconst 1, 1) := by decide +kernel
theorem d7_pass_106 : decode M7_pass.2.1 106 = .ok (.iadd, 1) := by decide +kernel
theorem d7_pass_107 : decode M7_pass.2.1 107 = .ok (.istore 5, 2) := by decide +kernel
theorem d7_pass_109 : decode M7_pass.2.1 109 = .ok (.iinc 6 1, 3) := by decide +kernel
theorem d7_pass_112 : decode M7_pass.2.1 112 = .ok (.goto (-73), 3) := by decide +kernel
theorem d7_pass_115 : decode M7_pass.2.1 115 = .ok (.aload_n 0, 1) := by decide +kernel
theorem d7_pass_116 : decode M7_pass.2.1 116 = .ok (.getfield 26, 3) := by decide +kernel
theorem d7_pass_119 : decode M7_pass.2.1 119 = .ok (.iconst 0, 1) := by decide +kernel
theorem d7_pass_120 : decode M7_pass.2.1 120 = .ok (.putfield 138, 3) := by decide +kernel
theorem d7_pass_123 : decode M7_pass.2.1 123 = .ok (.iload 4, 2) := by decide +kernel
theorem d7_pass_125 : decode M7_pass.2.1 125 = .ok (.ireturn, 1) := by decide +kernel
theorem d7_kinds_0 : decode M7_kinds.2.1 0 = .ok (.aload_n 0, 1) := by decide +kernel
theorem d7_kinds_1 : decode M7_kinds.2.1 1 = .ok (.getfield 19, 3) := by decide +kernel
theorem d7_kinds_4 : decode M7_kinds.2.1 4 = .ok (.iload_n 1, 1) := by decide +kernel
theorem d7_kinds_5 : decode M7_kinds.2.1 5 = .ok (.invokevirtual 74, 3) := by decide +kernel
theorem d7_kinds_8 : decode M7_kinds.2.1 8 = .ok (.astore_n 3, 1) := by decide +kernel
theorem d7_kinds_9 : decode M7_kinds.2.1 9 = .ok (.aload_n 3, 1) := by decide +kernel
theorem d7_kinds_10 : decode M7_kinds.2.1 10 = .ok (.ifnull 12, 3) := by decide +kernel
theorem d7_kinds_13 : decode M7_kinds.2.1 13 = .ok (.iload_n 2, 1) := by decide +kernel
theorem d7_kinds_14 : decode M7_kinds.2.1 14 = .ok (.bipush 10, 2) := by decide +kernel
theorem d7_kinds_16 : decode M7_kinds.2.1 16 = .ok (.invokestatic 49, 3) := by decide +kernel
theorem d7_kinds_19 : decode M7_kinds.2.1 19 = .ok (.ifCond .ne 5, 3) := by decide +kernel
theorem d7_kinds_22 : decode M7_kinds.2.1 22 = .ok (.iconst (-1), 1) := by decide +kernel
theorem d7_kinds_23 : decode M7_kinds.2.1 23 = .ok (.ireturn, 1) := by decide +kernel
theorem d7_kinds_24 : decode M7_kinds.2.1 24 = .ok (.aload_n 3, 1) := by decide +kernel
theorem d7_kinds_25 : decode M7_kinds.2.1 25 = .ok (.getfield 152, 3) := by decide +kernel
theorem d7_kinds_28 : decode M7_kinds.2.1 28 = .ok (.iload_n 2, 1) := by decide +kernel
theorem d7_kinds_29 : decode M7_kinds.2.1 29 = .ok (.iaload, 1) := by decide +kernel
theorem d7_kinds_30 : decode M7_kinds.2.1 30 = .ok (.ireturn, 1) := by decide +kernel
theorem d7_whole_0 : decode M7_whole.2.1 0 = .ok (.iload_n 1, 1) := by decide +kernel
theorem d7_whole_1 : decode M7_whole.2.1 1 = .ok (.iconst 4, 1) := by decide +kernel
theorem d7_whole_2 : decode M7_whole.2.1 2 = .ok (.invokestatic 49, 3) := by decide +kernel
theorem d7_whole_5 : decode M7_whole.2.1 5 = .ok (.ifCond .eq 14, 3) := by decide +kernel
theorem d7_whole_8 : decode M7_whole.2.1 8 = .ok (.aload_n 0, 1) := by decide +kernel
theorem d7_whole_9 : decode M7_whole.2.1 9 = .ok (.getfield 10, 3) := by decide +kernel
theorem d7_whole_12 : decode M7_whole.2.1 12 = .ok (.iload_n 1, 1) := by decide +kernel
theorem d7_whole_13 : decode M7_whole.2.1 13 = .ok (.invokevirtual 160, 3) := by decide +kernel
theorem d7_whole_16 : decode M7_whole.2.1 16 = .ok (.goto 6, 3) := by decide +kernel
theorem d7_whole_19 : decode M7_whole.2.1 19 = .ok (.ldc2_w 94, 3) := by decide +kernel
theorem d7_whole_22 : decode M7_whole.2.1 22 = .ok (.lreturn, 1) := by decide +kernel
theorem d7_look_0 : decode M7_look.2.1 0 = .ok (.aload_n 0, 1) := by decide +kernel
theorem d7_look_1 : decode M7_look.2.1 1 = .ok (.getfield 19, 3) := by decide +kernel
theorem d7_look_4 : decode M7_look.2.1 4 = .ok (.iload_n 1, 1) := by decide +kernel
theorem d7_look_5 : decode M7_look.2.1 5 = .ok (.invokevirtual 74, 3) := by decide +kernel
theorem d7_look_8 : decode M7_look.2.1 8 = .ok (.astore_n 3, 1) := by decide +kernel
theorem d7_look_9 : decode M7_look.2.1 9 = .ok (.aload_n 3, 1) := by decide +kernel
theorem d7_look_10 : decode M7_look.2.1 10 = .ok (.ifnonnull 5, 3) := by decide +kernel
theorem d7_look_13 : decode M7_look.2.1 13 = .ok (.iconst (-1), 1) := by decide +kernel
theorem d7_look_14 : decode M7_look.2.1 14 = .ok (.ireturn, 1) := by decide +kernel
theorem d7_look_15 : decode M7_look.2.1 15 = .ok (.iload_n 2, 1) := by decide +kernel
theorem d7_look_16 : decode M7_look.2.1 16 = .ok (.tableswitch 80 0 5 #[40, 45, 50, 55, 60, 68], 40) := by decide +kernel
theorem d7_look_56 : decode M7_look.2.1 56 = .ok (.aload_n 3, 1) := by decide +kernel
theorem d7_look_57 : decode M7_look.2.1 57 = .ok (.getfield 163, 3) := by decide +kernel
theorem d7_look_60 : decode M7_look.2.1 60 = .ok (.ireturn, 1) := by decide +kernel
theorem d7_look_61 : decode M7_look.2.1 61 = .ok (.aload_n 3, 1) := by decide +kernel
theorem d7_look_62 : decode M7_look.2.1 62 = .ok (.getfield 166, 3) := by decide +kernel
theorem d7_look_65 : decode M7_look.2.1 65 = .ok (.ireturn, 1) := by decide +kernel
theorem d7_look_66 : decode M7_look.2.1 66 = .ok (.aload_n 3, 1) := by decide +kernel
theorem d7_look_67 : decode M7_look.2.1 67 = .ok (.getfield 169, 3) := by decide +kernel
theorem d7_look_70 : decode M7_look.2.1 70 = .ok (.ireturn, 1) := by decide +kernel
theorem d7_look_71 : decode M7_look.2.1 71 = .ok (.aload_n 3, 1) := by decide +kernel
theorem d7_look_72 : decode M7_look.2.1 72 = .ok (.getfield 78, 3) := by decide +kernel
theorem d7_look_75 : decode M7_look.2.1 75 = .ok (.ireturn, 1) := by decide +kernel
theorem d7_look_76 : decode M7_look.2.1 76 = .ok (.aload_n 3, 1) := by decide +kernel
theorem d7_look_77 : decode M7_look.2.1 77 = .ok (.getfield 85, 3) := by decide +kernel
theorem d7_look_80 : decode M7_look.2.1 80 = .ok (.getfield 172, 3) := by decide +kernel
theorem d7_look_83 : decode M7_look.2.1 83 = .ok (.ireturn, 1) := by decide +kernel
theorem d7_look_84 : decode M7_look.2.1 84 = .ok (.aload_n 3, 1) := by decide +kernel
theorem d7_look_85 : decode M7_look.2.1 85 = .ok (.getfield 85, 3) := by decide +kernel
theorem d7_look_88 : decode M7_look.2.1 88 = .ok (.aload_n 0, 1) := by decide +kernel
theorem d7_look_89 : decode M7_look.2.1 89 = .ok (.getfield 10, 3) := by decide +kernel
theorem d7_look_92 : decode M7_look.2.1 92 = .ok (.invokevirtual 175, 3) := by decide +kernel
theorem d7_look_95 : decode M7_look.2.1 95 = .ok (.ireturn, 1) := by decide +kernel
theorem d7_look_96 : decode M7_look.2.1 96 = .ok (.iload_n 2, 1) := by decide +kernel
theorem d7_look_97 : decode M7_look.2.1 97 = .ok (.bipush 100, 2) := by decide +kernel
theorem d7_look_99 : decode M7_look.2.1 99 = .ok (.if_icmp .ge 7, 3) := by decide +kernel
theorem d7_look_102 : decode M7_look.2.1 102 = .ok (.iconst (-1), 1) := by decide +kernel
theorem d7_look_103 : decode M7_look.2.1 103 = .ok (.goto 14, 3) := by decide +kernel
theorem d7_look_106 : decode M7_look.2.1 106 = .ok (.aload_n 3, 1) := by decide +kernel
theorem d7_look_107 : decode M7_look.2.1 107 = .ok (.getfield 85, 3) := by decide +kernel
theorem d7_look_110 : decode M7_look.2.1 110 = .ok (.iload_n 2, 1) := by decide +kernel
theorem d7_look_111 : decode M7_look.2.1 111 = .ok (.bipush 100, 2) := by decide +kernel
theorem d7_look_113 : decode M7_look.2.1 113 = .ok (.isub, 1) := by decide +kernel
theorem d7_look_114 : decode M7_look.2.1 114 = .ok (.invokevirtual 178, 3) := by decide +kernel
theorem d7_look_117 : decode M7_look.2.1 117 = .ok (.ireturn, 1) := by decide +kernel
theorem d7_tell_0 : decode M7_tell.2.1 0 = .ok (.iload_n 1, 1) := by decide +kernel
theorem d7_tell_1 : decode M7_tell.2.1 1 = .ok (.tableswitch 126 0 5 #[39, 47, 55, 63, 71, 93], 39) := by decide +kernel
theorem d7_tell_40 : decode M7_tell.2.1 40 = .ok (.aload_n 0, 1) := by decide +kernel
theorem d7_tell_41 : decode M7_tell.2.1 41 = .ok (.getfield 19, 3) := by decide +kernel
theorem d7_tell_44 : decode M7_tell.2.1 44 = .ok (.getfield 181, 3) := by decide +kernel
theorem d7_tell_47 : decode M7_tell.2.1 47 = .ok (.ireturn, 1) := by decide +kernel
theorem d7_tell_48 : decode M7_tell.2.1 48 = .ok (.aload_n 0, 1) := by decide +kernel
theorem d7_tell_49 : decode M7_tell.2.1 49 = .ok (.getfield 10, 3) := by decide +kernel
theorem d7_tell_52 : decode M7_tell.2.1 52 = .ok (.getfield 182, 3) := by decide +kernel
theorem d7_tell_55 : decode M7_tell.2.1 55 = .ok (.ireturn, 1) := by decide +kernel
theorem d7_tell_56 : decode M7_tell.2.1 56 = .ok (.aload_n 0, 1) := by decide +kernel
theorem d7_tell_57 : decode M7_tell.2.1 57 = .ok (.getfield 42, 3) := by decide +kernel
theorem d7_tell_60 : decode M7_tell.2.1 60 = .ok (.getfield 185, 3) := by decide +kernel
theorem d7_tell_63 : decode M7_tell.2.1 63 = .ok (.ireturn, 1) := by decide +kernel
theorem d7_tell_64 : decode M7_tell.2.1 64 = .ok (.aload_n 0, 1) := by decide +kernel
theorem d7_tell_65 : decode M7_tell.2.1 65 = .ok (.getfield 26, 3) := by decide +kernel
theorem d7_tell_68 : decode M7_tell.2.1 68 = .ok (.getfield 138, 3) := by decide +kernel
theorem d7_tell_71 : decode M7_tell.2.1 71 = .ok (.ireturn, 1) := by decide +kernel
theorem d7_tell_72 : decode M7_tell.2.1 72 = .ok (.aload_n 0, 1) := by decide +kernel
theorem d7_tell_73 : decode M7_tell.2.1 73 = .ok (.getfield 19, 3) := by decide +kernel
theorem d7_tell_76 : decode M7_tell.2.1 76 = .ok (.aload_n 0, 1) := by decide +kernel
theorem d7_tell_77 : decode M7_tell.2.1 77 = .ok (.getfield 10, 3) := by decide +kernel
theorem d7_tell_80 : decode M7_tell.2.1 80 = .ok (.invokevirtual 108, 3) := by decide +kernel
theorem d7_tell_83 : decode M7_tell.2.1 83 = .ok (.aload_n 0, 1) := by decide +kernel
theorem d7_tell_84 : decode M7_tell.2.1 84 = .ok (.getfield 19, 3) := by decide +kernel
theorem d7_tell_87 : decode M7_tell.2.1 87 = .ok (.getfield 186, 3) := by decide +kernel
theorem d7_tell_90 : decode M7_tell.2.1 90 = .ok (.invokestatic 189, 3) := by decide +kernel
theorem d7_tell_93 : decode M7_tell.2.1 93 = .ok (.ireturn, 1) := by decide +kernel
theorem d7_tell_94 : decode M7_tell.2.1 94 = .ok (.aload_n 0, 1) := by decide +kernel
theorem d7_tell_95 : decode M7_tell.2.1 95 = .ok (.getfield 19, 3) := by decide +kernel
theorem d7_tell_98 : decode M7_tell.2.1 98 = .ok (.aload_n 0, 1) := by decide +kernel
theorem d7_tell_99 : decode M7_tell.2.1 99 = .ok (.getfield 10, 3) := by decide +kernel
theorem d7_tell_102 : decode M7_tell.2.1 102 = .ok (.invokevirtual 108, 3) := by decide +kernel
theorem d7_tell_105 : decode M7_tell.2.1 105 = .ok (.aload_n 0, 1) := by decide +kernel
theorem d7_tell_106 : decode M7_tell.2.1 106 = .ok (.getfield 19, 3) := by decide +kernel
theorem d7_tell_109 : decode M7_tell.2.1 109 = .ok (.getfield 194, 3) := by decide +kernel
theorem d7_tell_112 : decode M7_tell.2.1 112 = .ok (.invokestatic 189, 3) := by decide +kernel
theorem d7_tell_115 : decode M7_tell.2.1 115 = .ok (.aload_n 0, 1) := by decide +kernel
theorem d7_tell_116 : decode M7_tell.2.1 116 = .ok (.getfield 19, 3) := by decide +kernel
theorem d7_tell_119 : decode M7_tell.2.1 119 = .ok (.getfield 186, 3) := by decide +kernel
theorem d7_tell_122 : decode M7_tell.2.1 122 = .ok (.invokestatic 189, 3) := by decide +kernel
theorem d7_tell_125 : decode M7_tell.2.1 125 = .ok (.isub, 1) := by decide +kernel
theorem d7_tell_126 : decode M7_tell.2.1 126 = .ok (.ireturn, 1) := by decide +kernel
theorem d7_tell_127 : decode M7_tell.2.1 127 = .ok (.iconst (-1), 1) := by decide +kernel
theorem d7_tell_128 : decode M7_tell.2.1 128 = .ok (.ireturn, 1) := by decide +kernel
theorem d7_isBelow_0 : decode M7_isBelow.2.1 0 = .ok (.iload_n 0, 1) := by decide +kernel
theorem d7_isBelow_1 : decode M7_isBelow.2.1 1 = .ok (.ifCond .lt 12, 3) := by decide +kernel
theorem d7_isBelow_4 : decode M7_isBelow.2.1 4 = .ok (.iload_n 0, 1) := by decide +kernel
theorem d7_isBelow_5 : decode M7_isBelow.2.1 5 = .ok (.iload_n 1, 1) := by decide +kernel
theorem d7_isBelow_6 : decode M7_isBelow.2.1 6 = .ok (.if_icmp .ge 7, 3) := by decide +kernel
theorem d7_isBelow_9 : decode M7_isBelow.2.1 9 = .ok (.iconst 1, 1) := by decide +kernel
theorem d7_isBelow_10 : decode M7_isBelow.2.1 10 = .ok (.goto 4, 3) := by decide +kernel
theorem d7_isBelow_13 : decode M7_isBelow.2.1 13 = .ok (.iconst 0, 1) := by decide +kernel
theorem d7_isBelow_14 : decode M7_isBelow.2.1 14 = .ok (.ireturn, 1) := by decide +kernel
theorem d7_isWeight_0 : decode M7_isWeight.2.1 0 = .ok (.iload_n 0, 1) := by decide +kernel
theorem d7_isWeight_1 : decode M7_isWeight.2.1 1 = .ok (.iconst 1, 1) := by decide +kernel
theorem d7_isWeight_2 : decode M7_isWeight.2.1 2 = .ok (.if_icmp .lt 13, 3) := by decide +kernel
theorem d7_isWeight_5 : decode M7_isWeight.2.1 5 = .ok (.iload_n 0, 1) := by decide +kernel
theorem d7_isWeight_6 : decode M7_isWeight.2.1 6 = .ok (.bipush 99, 2) := by decide +kernel
theorem d7_isWeight_8 : decode M7_isWeight.2.1 8 = .ok (.if_icmp .gt 7, 3) := by decide +kernel
theorem d7_isWeight_11 : decode M7_isWeight.2.1 11 = .ok (.iconst 1, 1) := by decide +kernel
theorem d7_isWeight_12 : decode M7_isWeight.2.1 12 = .ok (.goto 4, 3) := by decide +kernel
theorem d7_isWeight_15 : decode M7_isWeight.2.1 15 = .ok (.iconst 0, 1) := by decide +kernel
theorem d7_isWeight_16 : decode M7_isWeight.2.1 16 = .ok (.ireturn, 1) := by decide +kernel
theorem d7_isEnd_0 : decode M7_isEnd.2.1 0 = .ok (.iload_n 0, 1) := by decide +kernel
theorem d7_isEnd_1 : decode M7_isEnd.2.1 1 = .ok (.iconst (-1), 1) := by decide +kernel
theorem d7_isEnd_2 : decode M7_isEnd.2.1 2 = .ok (.if_icmp .eq 12, 3) := by decide +kernel
theorem d7_isEnd_5 : decode M7_isEnd.2.1 5 = .ok (.iload_n 0, 1) := by decide +kernel
theorem d7_isEnd_6 : decode M7_isEnd.2.1 6 = .ok (.bipush 8, 2) := by decide +kernel
theorem d7_isEnd_8 : decode M7_isEnd.2.1 8 = .ok (.invokestatic 49, 3) := by decide +kernel
theorem d7_isEnd_11 : decode M7_isEnd.2.1 11 = .ok (.ifCond .eq 7, 3) := by decide +kernel
theorem d7_isEnd_14 : decode M7_isEnd.2.1 14 = .ok (.iconst 1, 1) := by decide +kernel
theorem d7_isEnd_15 : decode M7_isEnd.2.1 15 = .ok (.goto 4, 3) := by decide +kernel
theorem d7_isEnd_18 : decode M7_isEnd.2.1 18 = .ok (.iconst 0, 1) := by decide +kernel
theorem d7_isEnd_19 : decode M7_isEnd.2.1 19 = .ok (.ireturn, 1) := by decide +kernel
theorem dI_numberOfTrailingZeros_0 : decode MI_numberOfTrailingZeros.2.1 0 = .ok (.iload_n 0, 1) := by decide +kernel
theorem dI_numberOfTrailingZeros_1 : decode MI_numberOfTrailingZeros.2.1 1 = .ok (.iconst (-1), 1) := by decide +kernel
theorem dI_numberOfTrailingZeros_2 : decode MI_numberOfTrailingZeros.2.1 2 = .ok (.ixor, 1) := by decide +kernel
theorem dI_numberOfTrailingZeros_3 : decode MI_numberOfTrailingZeros.2.1 3 = .ok (.iload_n 0, 1) := by decide +kernel
theorem dI_numberOfTrailingZeros_4 : decode MI_numberOfTrailingZeros.2.1 4 = .ok (.iconst 1, 1) := by decide +kernel
theorem dI_numberOfTrailingZeros_5 : decode MI_numberOfTrailingZeros.2.1 5 = .ok (.isub, 1) := by decide +kernel
theorem dI_numberOfTrailingZeros_6 : decode MI_numberOfTrailingZeros.2.1 6 = .ok (.iand, 1) := by decide +kernel
theorem dI_numberOfTrailingZeros_7 : decode MI_numberOfTrailingZeros.2.1 7 = .ok (.istore_n 0, 1) := by decide +kernel
theorem dI_numberOfTrailingZeros_8 : decode MI_numberOfTrailingZeros.2.1 8 = .ok (.iload_n 0, 1) := by decide +kernel
theorem dI_numberOfTrailingZeros_9 : decode MI_numberOfTrailingZeros.2.1 9 = .ok (.ifCond .gt 8, 3) := by decide +kernel
theorem dI_numberOfTrailingZeros_12 : decode MI_numberOfTrailingZeros.2.1 12 = .ok (.iload_n 0, 1) := by decide +kernel
theorem dI_numberOfTrailingZeros_13 : decode MI_numberOfTrailingZeros.2.1 13 = .ok (.bipush 32, 2) := by decide +kernel
theorem dI_numberOfTrailingZeros_15 : decode MI_numberOfTrailingZeros.2.1 15 = .ok (.iand, 1) := by decide +kernel
theorem dI_numberOfTrailingZeros_16 : decode MI_numberOfTrailingZeros.2.1 16 = .ok (.ireturn, 1) := by decide +kernel
theorem dI_numberOfTrailingZeros_17 : decode MI_numberOfTrailingZeros.2.1 17 = .ok (.iconst 1, 1) := by decide +kernel
theorem dI_numberOfTrailingZeros_18 : decode MI_numberOfTrailingZeros.2.1 18 = .ok (.istore_n 1, 1) := by decide +kernel
theorem dI_numberOfTrailingZeros_19 : decode MI_numberOfTrailingZeros.2.1 19 = .ok (.iload_n 0, 1) := by decide +kernel
theorem dI_numberOfTrailingZeros_20 : decode MI_numberOfTrailingZeros.2.1 20 = .ok (.ldc_w 264, 3) := by decide +kernel
theorem dI_numberOfTrailingZeros_23 : decode MI_numberOfTrailingZeros.2.1 23 = .ok (.if_icmp .le 11, 3) := by decide +kernel
theorem dI_numberOfTrailingZeros_26 : decode MI_numberOfTrailingZeros.2.1 26 = .ok (.iinc 1 16, 3) := by decide +kernel
theorem dI_numberOfTrailingZeros_29 : decode MI_numberOfTrailingZeros.2.1 29 = .ok (.iload_n 0, 1) := by decide +kernel
theorem dI_numberOfTrailingZeros_30 : decode MI_numberOfTrailingZeros.2.1 30 = .ok (.bipush 16, 2) := by decide +kernel
theorem dI_numberOfTrailingZeros_32 : decode MI_numberOfTrailingZeros.2.1 32 = .ok (.iushr, 1) := by decide +kernel
theorem dI_numberOfTrailingZeros_33 : decode MI_numberOfTrailingZeros.2.1 33 = .ok (.istore_n 0, 1) := by decide +kernel
theorem dI_numberOfTrailingZeros_34 : decode MI_numberOfTrailingZeros.2.1 34 = .ok (.iload_n 0, 1) := by decide +kernel
theorem dI_numberOfTrailingZeros_35 : decode MI_numberOfTrailingZeros.2.1 35 = .ok (.sipush 256, 3) := by decide +kernel
theorem dI_numberOfTrailingZeros_38 : decode MI_numberOfTrailingZeros.2.1 38 = .ok (.if_icmp .le 11, 3) := by decide +kernel
theorem dI_numberOfTrailingZeros_41 : decode MI_numberOfTrailingZeros.2.1 41 = .ok (.iinc 1 8, 3) := by decide +kernel
theorem dI_numberOfTrailingZeros_44 : decode MI_numberOfTrailingZeros.2.1 44 = .ok (.iload_n 0, 1) := by decide +kernel
theorem dI_numberOfTrailingZeros_45 : decode MI_numberOfTrailingZeros.2.1 45 = .ok (.bipush 8, 2) := by decide +kernel
theorem dI_numberOfTrailingZeros_47 : decode MI_numberOfTrailingZeros.2.1 47 = .ok (.iushr, 1) := by decide +kernel
theorem dI_numberOfTrailingZeros_48 : decode MI_numberOfTrailingZeros.2.1 48 = .ok (.istore_n 0, 1) := by decide +kernel
theorem dI_numberOfTrailingZeros_49 : decode MI_numberOfTrailingZeros.2.1 49 = .ok (.iload_n 0, 1) := by decide +kernel
theorem dI_numberOfTrailingZeros_50 : decode MI_numberOfTrailingZeros.2.1 50 = .ok (.bipush 16, 2) := by decide +kernel
theorem dI_numberOfTrailingZeros_52 : decode MI_numberOfTrailingZeros.2.1 52 = .ok (.if_icmp .le 10, 3) := by decide +kernel
theorem dI_numberOfTrailingZeros_55 : decode MI_numberOfTrailingZeros.2.1 55 = .ok (.iinc 1 4, 3) := by decide +kernel
theorem dI_numberOfTrailingZeros_58 : decode MI_numberOfTrailingZeros.2.1 58 = .ok (.iload_n 0, 1) := by decide +kernel
theorem dI_numberOfTrailingZeros_59 : decode MI_numberOfTrailingZeros.2.1 59 = .ok (.iconst 4, 1) := by decide +kernel
theorem dI_numberOfTrailingZeros_60 : decode MI_numberOfTrailingZeros.2.1 60 = .ok (.iushr, 1) := by decide +kernel
theorem dI_numberOfTrailingZeros_61 : decode MI_numberOfTrailingZeros.2.1 61 = .ok (.istore_n 0, 1) := by decide +kernel
theorem dI_numberOfTrailingZeros_62 : decode MI_numberOfTrailingZeros.2.1 62 = .ok (.iload_n 0, 1) := by decide +kernel
theorem dI_numberOfTrailingZeros_63 : decode MI_numberOfTrailingZeros.2.1 63 = .ok (.iconst 4, 1) := by decide +kernel
theorem dI_numberOfTrailingZeros_64 : decode MI_numberOfTrailingZeros.2.1 64 = .ok (.if_icmp .le 10, 3) := by decide +kernel
theorem dI_numberOfTrailingZeros_67 : decode MI_numberOfTrailingZeros.2.1 67 = .ok (.iinc 1 2, 3) := by decide +kernel
theorem dI_numberOfTrailingZeros_70 : decode MI_numberOfTrailingZeros.2.1 70 = .ok (.iload_n 0, 1) := by decide +kernel
theorem dI_numberOfTrailingZeros_71 : decode MI_numberOfTrailingZeros.2.1 71 = .ok (.iconst 2, 1) := by decide +kernel
theorem dI_numberOfTrailingZeros_72 : decode MI_numberOfTrailingZeros.2.1 72 = .ok (.iushr, 1) := by decide +kernel
theorem dI_numberOfTrailingZeros_73 : decode MI_numberOfTrailingZeros.2.1 73 = .ok (.istore_n 0, 1) := by decide +kernel
theorem dI_numberOfTrailingZeros_74 : decode MI_numberOfTrailingZeros.2.1 74 = .ok (.iload_n 1, 1) := by decide +kernel
theorem dI_numberOfTrailingZeros_75 : decode MI_numberOfTrailingZeros.2.1 75 = .ok (.iload_n 0, 1) := by decide +kernel
theorem dI_numberOfTrailingZeros_76 : decode MI_numberOfTrailingZeros.2.1 76 = .ok (.iconst 1, 1) := by decide +kernel
theorem dI_numberOfTrailingZeros_77 : decode MI_numberOfTrailingZeros.2.1 77 = .ok (.iushr, 1) := by decide +kernel
theorem dI_numberOfTrailingZeros_78 : decode MI_numberOfTrailingZeros.2.1 78 = .ok (.iadd, 1) := by decide +kernel
theorem dI_numberOfTrailingZeros_79 : decode MI_numberOfTrailingZeros.2.1 79 = .ok (.ireturn, 1) := by decide +kernel
theorem dI_bitCount_0 : decode MI_bitCount.2.1 0 = .ok (.iload_n 0, 1) := by decide +kernel
theorem dI_bitCount_1 : decode MI_bitCount.2.1 1 = .ok (.iload_n 0, 1) := by decide +kernel
theorem dI_bitCount_2 : decode MI_bitCount.2.1 2 = .ok (.iconst 1, 1) := by decide +kernel
theorem dI_bitCount_3 : decode MI_bitCount.2.1 3 = .ok (.iushr, 1) := by decide +kernel
theorem dI_bitCount_4 : decode MI_bitCount.2.1 4 = .ok (.ldc_w 265, 3) := by decide +kernel
theorem dI_bitCount_7 : decode MI_bitCount.2.1 7 = .ok (.iand, 1) := by decide +kernel
theorem dI_bitCount_8 : decode MI_bitCount.2.1 8 = .ok (.isub, 1) := by decide +kernel
theorem dI_bitCount_9 : decode MI_bitCount.2.1 9 = .ok (.istore_n 0, 1) := by decide +kernel
theorem dI_bitCount_10 : decode MI_bitCount.2.1 10 = .ok (.iload_n 0, 1) := by decide +kernel
theorem dI_bitCount_11 : decode MI_bitCount.2.1 11 = .ok (.ldc_w 266, 3) := by decide +kernel
theorem dI_bitCount_14 : decode MI_bitCount.2.1 14 = .ok (.iand, 1) := by decide +kernel
theorem dI_bitCount_15 : decode MI_bitCount.2.1 15 = .ok (.iload_n 0, 1) := by decide +kernel
theorem dI_bitCount_16 : decode MI_bitCount.2.1 16 = .ok (.iconst 2, 1) := by decide +kernel
theorem dI_bitCount_17 : decode MI_bitCount.2.1 17 = .ok (.iushr, 1) := by decide +kernel
theorem dI_bitCount_18 : decode MI_bitCount.2.1 18 = .ok (.ldc_w 266, 3) := by decide +kernel
theorem dI_bitCount_21 : decode MI_bitCount.2.1 21 = .ok (.iand, 1) := by decide +kernel
theorem dI_bitCount_22 : decode MI_bitCount.2.1 22 = .ok (.iadd, 1) := by decide +kernel
theorem dI_bitCount_23 : decode MI_bitCount.2.1 23 = .ok (.istore_n 0, 1) := by decide +kernel
theorem dI_bitCount_24 : decode MI_bitCount.2.1 24 = .ok (.iload_n 0, 1) := by decide +kernel
theorem dI_bitCount_25 : decode MI_bitCount.2.1 25 = .ok (.iload_n 0, 1) := by decide +kernel
theorem dI_bitCount_26 : decode MI_bitCount.2.1 26 = .ok (.iconst 4, 1) := by decide +kernel
theorem dI_bitCount_27 : decode MI_bitCount.2.1 27 = .ok (.iushr, 1) := by decide +kernel
theorem dI_bitCount_28 : decode MI_bitCount.2.1 28 = .ok (.iadd, 1) := by decide +kernel
theorem dI_bitCount_29 : decode MI_bitCount.2.1 29 = .ok (.ldc_w 267, 3) := by decide +kernel
theorem dI_bitCount_32 : decode MI_bitCount.2.1 32 = .ok (.iand, 1) := by decide +kernel
theorem dI_bitCount_33 : decode MI_bitCount.2.1 33 = .ok (.istore_n 0, 1) := by decide +kernel
theorem dI_bitCount_34 : decode MI_bitCount.2.1 34 = .ok (.iload_n 0, 1) := by decide +kernel
theorem dI_bitCount_35 : decode MI_bitCount.2.1 35 = .ok (.iload_n 0, 1) := by decide +kernel
theorem dI_bitCount_36 : decode MI_bitCount.2.1 36 = .ok (.bipush 8, 2) := by decide +kernel
theorem dI_bitCount_38 : decode MI_bitCount.2.1 38 = .ok (.iushr, 1) := by decide +kernel
theorem dI_bitCount_39 : decode MI_bitCount.2.1 39 = .ok (.iadd, 1) := by decide +kernel
theorem dI_bitCount_40 : decode MI_bitCount.2.1 40 = .ok (.istore_n 0, 1) := by decide +kernel
theorem dI_bitCount_41 : decode MI_bitCount.2.1 41 = .ok (.iload_n 0, 1) := by decide +kernel
theorem dI_bitCount_42 : decode MI_bitCount.2.1 42 = .ok (.iload_n 0, 1) := by decide +kernel
theorem dI_bitCount_43 : decode MI_bitCount.2.1 43 = .ok (.bipush 16, 2) := by decide +kernel
theorem dI_bitCount_45 : decode MI_bitCount.2.1 45 = .ok (.iushr, 1) := by decide +kernel
theorem dI_bitCount_46 : decode MI_bitCount.2.1 46 = .ok (.iadd, 1) := by decide +kernel
theorem dI_bitCount_47 : decode MI_bitCount.2.1 47 = .ok (.istore_n 0, 1) := by decide +kernel
theorem dI_bitCount_48 : decode MI_bitCount.2.1 48 = .ok (.iload_n 0, 1) := by decide +kernel
theorem dI_bitCount_49 : decode MI_bitCount.2.1 49 = .ok (.bipush 63, 2) := by decide +kernel
theorem dI_bitCount_51 : decode MI_bitCount.2.1 51 = .ok (.iand, 1) := by decide +kernel
theorem dI_bitCount_52 : decode MI_bitCount.2.1 52 = .ok (.ireturn, 1) := by decide +kernel
theorem dA_abs_0 : decode MA_abs.2.1 0 = .ok (.lload_n 0, 1) := by decide +kernel
theorem dA_abs_1 : decode MA_abs.2.1 1 = .ok (.lconst 0, 1) := by decide +kernel
theorem dA_abs_2 : decode MA_abs.2.1 2 = .ok (.lcmp, 1) := by decide +kernel
theorem dA_abs_3 : decode MA_abs.2.1 3 = .ok (.ifCond .ge 8, 3) := by decide +kernel
theorem dA_abs_6 : decode MA_abs.2.1 6 = .ok (.lload_n 0, 1) := by decide +kernel
theorem dA_abs_7 : decode MA_abs.2.1 7 = .ok (.lneg, 1) := by decide +kernel
theorem dA_abs_8 : decode MA_abs.2.1 8 = .ok (.goto 4, 3) := by decide +kernel
theorem dA_abs_11 : decode MA_abs.2.1 11 = .ok (.lload_n 0, 1) := by decide +kernel
theorem dA_abs_12 : decode MA_abs.2.1 12 = .ok (.lreturn, 1) := by decide +kernel
end
section
/-! what each instruction is -/
theorem d8_init_0 : decode M8_init.2.1 0 = .ok (.aload_n 0, 1) := by decide +kernel
theorem d8_init_1 : decode M8_init.2.1 1 = .ok (.invokespecial 1, 3) := by decide +kernel
theorem d8_init_4 : decode M8_init.2.1 4 = .ok (.aload_n 0, 1) := by decide +kernel
theorem d8_init_5 : decode M8_init.2.1 5 = .ok (.bipush 120, 2) := by decide +kernel
theorem d8_init_7 : decode M8_init.2.1 7 = .ok (.newarray .byte, 2) := by decide +kernel
theorem d8_init_9 : decode M8_init.2.1 9 = .ok (.putfield 7, 3) := by decide +kernel
theorem d8_init_12 : decode M8_init.2.1 12 = .ok (.aload_n 0, 1) := by decide +kernel
theorem d8_init_13 : decode M8_init.2.1 13 = .ok (.sipush 364, 3) := by decide +kernel
theorem d8_init_16 : decode M8_init.2.1 16 = .ok (.newarray .boolean, 2) := by decide +kernel
theorem d8_init_18 : decode M8_init.2.1 18 = .ok (.putfield 13, 3) := by decide +kernel
theorem d8_init_21 : decode M8_init.2.1 21 = .ok (.aload_n 0, 1) := by decide +kernel
theorem d8_init_22 : decode M8_init.2.1 22 = .ok (.bipush 28, 2) := by decide +kernel
theorem d8_init_24 : decode M8_init.2.1 24 = .ok (.newarray .int, 2) := by decide +kernel
theorem d8_init_26 : decode M8_init.2.1 26 = .ok (.putfield 17, 3) := by decide +kernel
theorem d8_init_29 : decode M8_init.2.1 29 = .ok (.aload_n 0, 1) := by decide +kernel
theorem d8_init_30 : decode M8_init.2.1 30 = .ok (.bipush 52, 2) := by decide +kernel
theorem d8_init_32 : decode M8_init.2.1 32 = .ok (.newarray .int, 2) := by decide +kernel
theorem d8_init_34 : decode M8_init.2.1 34 = .ok (.putfield 21, 3) := by decide +kernel
theorem d8_init_37 : decode M8_init.2.1 37 = .ok (.aload_n 0, 1) := by decide +kernel
theorem d8_init_38 : decode M8_init.2.1 38 = .ok (.bipush 12, 2) := by decide +kernel
theorem d8_init_40 : decode M8_init.2.1 40 = .ok (.newarray .int, 2) := by decide +kernel
theorem d8_init_42 : decode M8_init.2.1 42 = .ok (.putfield 24, 3) := by decide +kernel
theorem d8_init_45 : decode M8_init.2.1 45 = .ok (.aload_n 0, 1) := by decide +kernel
theorem d8_init_46 : decode M8_init.2.1 46 = .ok (.bipush 12, 2) := by decide +kernel
theorem d8_init_48 : decode M8_init.2.1 48 = .ok (.newarray .int, 2) := by decide +kernel
theorem d8_init_50 : decode M8_init.2.1 50 = .ok (.putfield 27, 3) := by decide +kernel
theorem d8_init_53 : decode M8_init.2.1 53 = .ok (.aload_n 0, 1) := by decide +kernel
theorem d8_init_54 : decode M8_init.2.1 54 = .ok (.bipush 12, 2) := by decide +kernel
theorem d8_init_56 : decode M8_init.2.1 56 = .ok (.newarray .int, 2) := by decide +kernel
theorem d8_init_58 : decode M8_init.2.1 58 = .ok (.putfield 30, 3) := by decide +kernel
theorem d8_init_61 : decode M8_init.2.1 61 = .ok (.aload_n 0, 1) := by decide +kernel
theorem d8_init_62 : decode M8_init.2.1 62 = .ok (.bipush 12, 2) := by decide +kernel
theorem d8_init_64 : decode M8_init.2.1 64 = .ok (.newarray .int, 2) := by decide +kernel
theorem d8_init_66 : decode M8_init.2.1 66 = .ok (.putfield 33, 3) := by decide +kernel
theorem d8_init_69 : decode M8_init.2.1 69 = .ok (.aload_n 0, 1) := by decide +kernel
theorem d8_init_70 : decode M8_init.2.1 70 = .ok (.sipush 4368, 3) := by decide +kernel
theorem d8_init_73 : decode M8_init.2.1 73 = .ok (.newarray .int, 2) := by decide +kernel
theorem d8_init_75 : decode M8_init.2.1 75 = .ok (.putfield 36, 3) := by decide +kernel
theorem d8_init_78 : decode M8_init.2.1 78 = .ok (.aload_n 0, 1) := by decide +kernel
theorem d8_init_79 : decode M8_init.2.1 79 = .ok (.bipush 12, 2) := by decide +kernel
theorem d8_init_81 : decode M8_init.2.1 81 = .ok (.newarray .int, 2) := by decide +kernel
theorem d8_init_83 : decode M8_init.2.1 83 = .ok (.putfield 39, 3) := by decide +kernel
theorem d8_init_86 : decode M8_init.2.1 86 = .ok (.aload_n 0, 1) := by decide +kernel
theorem d8_init_87 : decode M8_init.2.1 87 = .ok (.bipush 120, 2) := by decide +kernel
theorem d8_init_89 : decode M8_init.2.1 89 = .ok (.newarray .int, 2) := by decide +kernel
theorem d8_init_91 : decode M8_init.2.1 91 = .ok (.putfield 42, 3) := by decide +kernel
theorem d8_init_94 : decode M8_init.2.1 94 = .ok (.aload_n 0, 1) := by decide +kernel
theorem d8_init_95 : decode M8_init.2.1 95 = .ok (.bipush 9, 2) := by decide +kernel
theorem d8_init_97 : decode M8_init.2.1 97 = .ok (.newarray .int, 2) := by decide +kernel
theorem d8_init_99 : decode M8_init.2.1 99 = .ok (.putfield 45, 3) := by decide +kernel
theorem d8_init_102 : decode M8_init.2.1 102 = .ok (.aload_n 0, 1) := by decide +kernel
theorem d8_init_103 : decode M8_init.2.1 103 = .ok (.bipush 9, 2) := by decide +kernel
theorem d8_init_105 : decode M8_init.2.1 105 = .ok (.newarray .int, 2) := by decide +kernel
theorem d8_init_107 : decode M8_init.2.1 107 = .ok (.putfield 48, 3) := by decide +kernel
theorem d8_init_110 : decode M8_init.2.1 110 = .ok (.aload_n 0, 1) := by decide +kernel
theorem d8_init_111 : decode M8_init.2.1 111 = .ok (.bipush 72, 2) := by decide +kernel
theorem d8_init_113 : decode M8_init.2.1 113 = .ok (.newarray .int, 2) := by decide +kernel
theorem d8_init_115 : decode M8_init.2.1 115 = .ok (.putfield 51, 3) := by decide +kernel
theorem d8_init_118 : decode M8_init.2.1 118 = .ok (.aload_n 0, 1) := by decide +kernel
theorem d8_init_119 : decode M8_init.2.1 119 = .ok (.bipush 9, 2) := by decide +kernel
theorem d8_init_121 : decode M8_init.2.1 121 = .ok (.newarray .int, 2) := by decide +kernel
theorem d8_init_123 : decode M8_init.2.1 123 = .ok (.putfield 54, 3) := by decide +kernel
theorem d8_init_126 : decode M8_init.2.1 126 = .ok (.aload_n 0, 1) := by decide +kernel
theorem d8_init_127 : decode M8_init.2.1 127 = .ok (.bipush 9, 2) := by decide +kernel
theorem d8_init_129 : decode M8_init.2.1 129 = .ok (.newarray .int, 2) := by decide +kernel
theorem d8_init_131 : decode M8_init.2.1 131 = .ok (.putfield 57, 3) := by decide +kernel
theorem d8_init_134 : decode M8_init.2.1 134 = .ok (.aload_n 0, 1) := by decide +kernel
theorem d8_init_135 : decode M8_init.2.1 135 = .ok (.bipush 72, 2) := by decide +kernel
theorem d8_init_137 : decode M8_init.2.1 137 = .ok (.newarray .int, 2) := by decide +kernel
theorem d8_init_139 : decode M8_init.2.1 139 = .ok (.putfield 60, 3) := by decide +kernel
theorem d8_init_142 : decode M8_init.2.1 142 = .ok (.aload_n 0, 1) := by decide +kernel
theorem d8_init_143 : decode M8_init.2.1 143 = .ok (.bipush 12, 2) := by decide +kernel
theorem d8_init_145 : decode M8_init.2.1 145 = .ok (.newarray .long, 2) := by decide +kernel
theorem d8_init_147 : decode M8_init.2.1 147 = .ok (.putfield 63, 3) := by decide +kernel
theorem d8_init_150 : decode M8_init.2.1 150 = .ok (.aload_n 0, 1) := by decide +kernel
theorem d8_init_151 : decode M8_init.2.1 151 = .ok (.bipush 8, 2) := by decide +kernel
theorem d8_init_153 : decode M8_init.2.1 153 = .ok (.newarray .int, 2) := by decide +kernel
theorem d8_init_155 : decode M8_init.2.1 155 = .ok (.putfield 67, 3) := by decide +kernel
theorem d8_init_158 : decode M8_init.2.1 158 = .ok (.iconst 0, 1) := by decide +kernel
theorem d8_init_159 : decode M8_init.2.1 159 = .ok (.istore_n 1, 1) := by decide +kernel
theorem d8_init_160 : decode M8_init.2.1 160 = .ok (.iload_n 1, 1) := by decide +kernel
theorem d8_init_161 : decode M8_init.2.1 161 = .ok (.bipush 28, 2) := by decide +kernel
theorem d8_init_163 : decode M8_init.2.1 163 = .ok (.if_icmp .ge 16, 3) := by decide +kernel
theorem d8_init_166 : decode M8_init.2.1 166 = .ok (.aload_n 0, 1) := by decide +kernel
theorem d8_init_167 : decode M8_init.2.1 167 = .ok (.getfield 17, 3) := by decide +kernel
theorem d8_init_170 : decode M8_init.2.1 170 = .ok (.iload_n 1, 1) := by decide +kernel
theorem d8_init_171 : decode M8_init.2.1 171 = .ok (.iconst 1, 1) := by decide +kernel
theorem d8_init_172 : decode M8_init.2.1 172 = .ok (.iastore, 1) := by decide +kernel
theorem d8_init_173 : decode M8_init.2.1 173 = .ok (.iinc 1 1, 3) := by decide +kernel
theorem d8_init_176 : decode M8_init.2.1 176 = .ok (.goto (-16), 3) := by decide +kernel
theorem d8_init_179 : decode M8_init.2.1 179 = .ok (.iconst 0, 1) := by decide +kernel
theorem d8_init_180 : decode M8_init.2.1 180 = .ok (.istore_n 1, 1) := by decide +kernel
theorem d8_init_181 : decode M8_init.2.1 181 = .ok (.iload_n 1, 1) := by decide +kernel
theorem d8_init_182 : decode M8_init.2.1 182 = .ok (.bipush 52, 2) := by decide +kernel
theorem d8_init_184 : decode M8_init.2.1 184 = .ok (.if_icmp .ge 16, 3) := by decide +kernel
theorem d8_init_187 : decode M8_init.2.1 187 = .ok (.aload_n 0, 1) := by decide +kernel
theorem d8_init_188 : decode M8_init.2.1 188 = .ok (.getfield 21, 3) := by decide +kernel
theorem d8_init_191 : decode M8_init.2.1 191 = .ok (.iload_n 1, 1) := by decide +kernel
theorem d8_init_192 : decode M8_init.2.1 192 = .ok (.iconst 1, 1) := by decide +kernel
theorem d8_init_193 : decode M8_init.2.1 193 = .ok (.iastore, 1) := by decide +kernel
theorem d8_init_194 : decode M8_init.2.1 194 = .ok (.iinc 1 1, 3) := by decide +kernel
theorem d8_init_197 : decode M8_init.2.1 197 = .ok (.goto (-16), 3) := by decide +kernel
theorem d8_init_200 : decode M8_init.2.1 200 = .ok (.iconst 0, 1) := by decide +kernel
theorem d8_init_201 : decode M8_init.2.1 201 = .ok (.istore_n 1, 1) := by decide +kernel
theorem d8_init_202 : decode M8_init.2.1 202 = .ok (.iload_n 1, 1) := by decide +kernel
theorem d8_init_203 : decode M8_init.2.1 203 = .ok (.sipush 4368, 3) := by decide +kernel
theorem d8_init_206 : decode M8_init.2.1 206 = .ok (.if_icmp .ge 16, 3) := by decide +kernel
theorem d8_init_209 : decode M8_init.2.1 209 = .ok (.aload_n 0, 1) := by decide +kernel
theorem d8_init_210 : decode M8_init.2.1 210 = .ok (.getfield 36, 3) := by decide +kernel
theorem d8_init_213 : decode M8_init.2.1 213 = .ok (.iload_n 1, 1) := by decide +kernel
theorem d8_init_214 : decode M8_init.2.1 214 = .ok (.iconst (-1), 1) := by decide +kernel
theorem d8_init_215 : decode M8_init.2.1 215 = .ok (.iastore, 1) := by decide +kernel
theorem d8_init_216 : decode M8_init.2.1 216 = .ok (.iinc 1 1, 3) := by decide +kernel
theorem d8_init_219 : decode M8_init.2.1 219 = .ok (.goto (-17), 3) := by decide +kernel
theorem d8_init_222 : decode M8_init.2.1 222 = .ok (.return_, 1) := by decide +kernel
theorem d8_lies_0 : decode M8_lies.2.1 0 = .ok (.lload_n 0, 1) := by decide +kernel
theorem d8_lies_1 : decode M8_lies.2.1 1 = .ok (.lload_n 2, 1) := by decide +kernel
theorem d8_lies_2 : decode M8_lies.2.1 2 = .ok (.lcmp, 1) := by decide +kernel
theorem d8_lies_3 : decode M8_lies.2.1 3 = .ok (.ifCond .lt 14, 3) := by decide +kernel
theorem d8_lies_6 : decode M8_lies.2.1 6 = .ok (.lload_n 0, 1) := by decide +kernel
theorem d8_lies_7 : decode M8_lies.2.1 7 = .ok (.lload 4, 2) := by decide +kernel
theorem d8_lies_9 : decode M8_lies.2.1 9 = .ok (.lcmp, 1) := by decide +kernel
theorem d8_lies_10 : decode M8_lies.2.1 10 = .ok (.ifCond .gt 7, 3) := by decide +kernel
theorem d8_lies_13 : decode M8_lies.2.1 13 = .ok (.iconst 1, 1) := by decide +kernel
theorem d8_lies_14 : decode M8_lies.2.1 14 = .ok (.goto 4, 3) := by decide +kernel
theorem d8_lies_17 : decode M8_lies.2.1 17 = .ok (.iconst 0, 1) := by decide +kernel
theorem d8_lies_18 : decode M8_lies.2.1 18 = .ok (.ireturn, 1) := by decide +kernel
theorem d8_isRoad_0 : decode M8_isRoad.2.1 0 = .ok (.iload_n 1, 1) := by decide +kernel
theorem d8_isRoad_1 : decode M8_isRoad.2.1 1 = .ok (.i2l, 1) := by decide +kernel
theorem d8_isRoad_2 : decode M8_isRoad.2.1 2 = .ok (.lconst 0, 1) := by decide +kernel
theorem d8_isRoad_3 : decode M8_isRoad.2.1 3 = .ok (.aload_n 0, 1) := by decide +kernel
theorem d8_isRoad_4 : decode M8_isRoad.2.1 4 = .ok (.getfield 70, 3) := by decide +kernel
theorem d8_isRoad_7 : decode M8_isRoad.2.1 7 = .ok (.iconst 1, 1) := by decide +kernel
theorem d8_isRoad_8 : decode M8_isRoad.2.1 8 = .ok (.isub, 1) := by decide +kernel
theorem d8_isRoad_9 : decode M8_isRoad.2.1 9 = .ok (.i2l, 1) := by decide +kernel
theorem d8_isRoad_10 : decode M8_isRoad.2.1 10 = .ok (.invokestatic 74, 3) := by decide +kernel
theorem d8_isRoad_13 : decode M8_isRoad.2.1 13 = .ok (.ireturn, 1) := by decide +kernel
theorem d8_isShape_0 : decode M8_isShape.2.1 0 = .ok (.iload_n 0, 1) := by decide +kernel
theorem d8_isShape_1 : decode M8_isShape.2.1 1 = .ok (.i2l, 1) := by decide +kernel
theorem d8_isShape_2 : decode M8_isShape.2.1 2 = .ok (.lconst 0, 1) := by decide +kernel
theorem d8_isShape_3 : decode M8_isShape.2.1 3 = .ok (.ldc2_w 78, 3) := by decide +kernel
theorem d8_isShape_6 : decode M8_isShape.2.1 6 = .ok (.invokestatic 74, 3) := by decide +kernel
theorem d8_isShape_9 : decode M8_isShape.2.1 9 = .ok (.ireturn, 1) := by decide +kernel
theorem d8_has_0 : decode M8_has.2.1 0 = .ok (.iload_n 0, 1) := by decide +kernel
theorem d8_has_1 : decode M8_has.2.1 1 = .ok (.iload_n 1, 1) := by decide +kernel
theorem d8_has_2 : decode M8_has.2.1 2 = .ok (.ishr, 1) := by decide +kernel
theorem d8_has_3 : decode M8_has.2.1 3 = .ok (.iconst 1, 1) := by decide +kernel
theorem d8_has_4 : decode M8_has.2.1 4 = .ok (.iand, 1) := by decide +kernel
theorem d8_has_5 : decode M8_has.2.1 5 = .ok (.iconst 1, 1) := by decide +kernel
theorem d8_has_6 : decode M8_has.2.1 6 = .ok (.if_icmp .ne 7, 3) := by decide +kernel
theorem d8_has_9 : decode M8_has.2.1 9 = .ok (.iconst 1, 1) := by decide +kernel
theorem d8_has_10 : decode M8_has.2.1 10 = .ok (.goto 4, 3) := by decide +kernel
theorem d8_has_13 : decode M8_has.2.1 13 = .ok (.iconst 0, 1) := by decide +kernel
theorem d8_has_14 : decode M8_has.2.1 14 = .ok (.ireturn, 1) := by decide +kernel
theorem d8_size_0 : decode M8_size.2.1 0 = .ok (.lload_n 0, 1) := by decide +kernel
theorem d8_size_1 : decode M8_size.2.1 1 = .ok (.lconst 0, 1) := by decide +kernel
theorem d8_size_2 : decode M8_size.2.1 2 = .ok (.lcmp, 1) := by decide +kernel
theorem d8_size_3 : decode M8_size.2.1 3 = .ok (.ifCond .ge 8, 3) := by decide +kernel
theorem d8_size_6 : decode M8_size.2.1 6 = .ok (.lload_n 0, 1) := by decide +kernel
theorem d8_size_7 : decode M8_size.2.1 7 = .ok (.lneg, 1) := by decide +kernel
theorem d8_size_8 : decode M8_size.2.1 8 = .ok (.goto 4, 3) := by decide +kernel
theorem d8_size_11 : decode M8_size.2.1 11 = .ok (.lload_n 0, 1) := by decide +kernel
theorem d8_size_12 : decode M8_size.2.1 12 = .ok (.lreturn, 1) := by decide +kernel
theorem d8_sizeOf_0 : decode M8_sizeOf.2.1 0 = .ok (.iconst 0, 1) := by decide +kernel
theorem d8_sizeOf_1 : decode M8_sizeOf.2.1 1 = .ok (.istore_n 1, 1) := by decide +kernel
theorem d8_sizeOf_2 : decode M8_sizeOf.2.1 2 = .ok (.iload_n 0, 1) := by decide +kernel
theorem d8_sizeOf_3 : decode M8_sizeOf.2.1 3 = .ok (.istore_n 2, 1) := by decide +kernel
theorem d8_sizeOf_4 : decode M8_sizeOf.2.1 4 = .ok (.iload_n 2, 1) := by decide +kernel
theorem d8_sizeOf_5 : decode M8_sizeOf.2.1 5 = .ok (.ifCond .eq 15, 3) := by decide +kernel
theorem d8_sizeOf_8 : decode M8_sizeOf.2.1 8 = .ok (.iinc 1 1, 3) := by decide +kernel
theorem d8_sizeOf_11 : decode M8_sizeOf.2.1 11 = .ok (.iload_n 2, 1) := by decide +kernel
theorem d8_sizeOf_12 : decode M8_sizeOf.2.1 12 = .ok (.iload_n 2, 1) := by decide +kernel
theorem d8_sizeOf_13 : decode M8_sizeOf.2.1 13 = .ok (.iconst 1, 1) := by decide +kernel
theorem d8_sizeOf_14 : decode M8_sizeOf.2.1 14 = .ok (.isub, 1) := by decide +kernel
theorem d8_sizeOf_15 : decode M8_sizeOf.2.1 15 = .ok (.iand, 1) := by decide +kernel
theorem d8_sizeOf_16 : decode M8_sizeOf.2.1 16 = .ok (.istore_n 2, 1) := by decide +kernel
theorem d8_sizeOf_17 : decode M8_sizeOf.2.1 17 = .ok (.goto (-13), 3) := by decide +kernel
theorem d8_sizeOf_20 : decode M8_sizeOf.2.1 20 = .ok (.iload_n 1, 1) := by decide +kernel
theorem d8_sizeOf_21 : decode M8_sizeOf.2.1 21 = .ok (.ireturn, 1) := by decide +kernel
theorem d8_weekday_0 : decode M8_weekday.2.1 0 = .ok (.iload_n 1, 1) := by decide +kernel
theorem d8_weekday_1 : decode M8_weekday.2.1 1 = .ok (.invokestatic 80, 3) := by decide +kernel
theorem d8_weekday_4 : decode M8_weekday.2.1 4 = .ok (.ifCond .eq 27, 3) := by decide +kernel
theorem d8_weekday_7 : decode M8_weekday.2.1 7 = .ok (.iload_n 2, 1) := by decide +kernel
theorem d8_weekday_8 : decode M8_weekday.2.1 8 = .ok (.i2l, 1) := by decide +kernel
theorem d8_weekday_9 : decode M8_weekday.2.1 9 = .ok (.lconst 0, 1) := by decide +kernel
theorem d8_weekday_10 : decode M8_weekday.2.1 10 = .ok (.ldc2_w 84, 3) := by decide +kernel
theorem d8_weekday_13 : decode M8_weekday.2.1 13 = .ok (.invokestatic 74, 3) := by decide +kernel
theorem d8_weekday_16 : decode M8_weekday.2.1 16 = .ok (.ifCond .eq 15, 3) := by decide +kernel
theorem d8_weekday_19 : decode M8_weekday.2.1 19 = .ok (.iload_n 3, 1) := by decide +kernel
theorem d8_weekday_20 : decode M8_weekday.2.1 20 = .ok (.i2l, 1) := by decide +kernel
theorem d8_weekday_21 : decode M8_weekday.2.1 21 = .ok (.lconst 1, 1) := by decide +kernel
theorem d8_weekday_22 : decode M8_weekday.2.1 22 = .ok (.ldc2_w 86, 3) := by decide +kernel
theorem d8_weekday_25 : decode M8_weekday.2.1 25 = .ok (.invokestatic 74, 3) := by decide +kernel
theorem d8_weekday_28 : decode M8_weekday.2.1 28 = .ok (.ifCond .ne 5, 3) := by decide +kernel
theorem d8_weekday_31 : decode M8_weekday.2.1 31 = .ok (.iconst 0, 1) := by decide +kernel
theorem d8_weekday_32 : decode M8_weekday.2.1 32 = .ok (.ireturn, 1) := by decide +kernel
theorem d8_weekday_33 : decode M8_weekday.2.1 33 = .ok (.aload_n 0, 1) := by decide +kernel
theorem d8_weekday_34 : decode M8_weekday.2.1 34 = .ok (.getfield 17, 3) := by decide +kernel
theorem d8_weekday_37 : decode M8_weekday.2.1 37 = .ok (.bipush 7, 2) := by decide +kernel
theorem d8_weekday_39 : decode M8_weekday.2.1 39 = .ok (.iload_n 1, 1) := by decide +kernel
theorem d8_weekday_40 : decode M8_weekday.2.1 40 = .ok (.imul, 1) := by decide +kernel
theorem d8_weekday_41 : decode M8_weekday.2.1 41 = .ok (.iload_n 2, 1) := by decide +kernel
theorem d8_weekday_42 : decode M8_weekday.2.1 42 = .ok (.iadd, 1) := by decide +kernel
theorem d8_weekday_43 : decode M8_weekday.2.1 43 = .ok (.iload_n 3, 1) := by decide +kernel
theorem d8_weekday_44 : decode M8_weekday.2.1 44 = .ok (.iastore, 1) := by decide +kernel
theorem d8_weekday_45 : decode M8_weekday.2.1 45 = .ok (.iconst 1, 1) := by decide +kernel
theorem d8_weekday_46 : decode M8_weekday.2.1 46 = .ok (.ireturn, 1) := by decide +kernel
theorem d8_month_0 : decode M8_month.2.1 0 = .ok (.iload_n 1, 1) := by decide +kernel
theorem d8_month_1 : decode M8_month.2.1 1 = .ok (.invokestatic 80, 3) := by decide +kernel
theorem d8_month_4 : decode M8_month.2.1 4 = .ok (.ifCond .eq 27, 3) := by decide +kernel
theorem d8_month_7 : decode M8_month.2.1 7 = .ok (.iload_n 2, 1) := by decide +kernel
theorem d8_month_8 : decode M8_month.2.1 8 = .ok (.i2l, 1) := by decide +kernel
theorem d8_month_9 : decode M8_month.2.1 9 = .ok (.lconst 0, 1) := by decide +kernel
theorem d8_month_10 : decode M8_month.2.1 10 = .ok (.ldc2_w 88, 3) := by decide +kernel
theorem d8_month_13 : decode M8_month.2.1 13 = .ok (.invokestatic 74, 3) := by decide +kernel
theorem d8_month_16 : decode M8_month.2.1 16 = .ok (.ifCond .eq 15, 3) := by decide +kernel
theorem d8_month_19 : decode M8_month.2.1 19 = .ok (.iload_n 3, 1) := by decide +kernel
theorem d8_month_20 : decode M8_month.2.1 20 = .ok (.i2l, 1) := by decide +kernel
theorem d8_month_21 : decode M8_month.2.1 21 = .ok (.lconst 1, 1) := by decide +kernel
theorem d8_month_22 : decode M8_month.2.1 22 = .ok (.ldc2_w 86, 3) := by decide +kernel
theorem d8_month_25 : decode M8_month.2.1 25 = .ok (.invokestatic 74, 3) := by decide +kernel
theorem d8_month_28 : decode M8_month.2.1 28 = .ok (.ifCond .ne 5, 3) := by decide +kernel
theorem d8_month_31 : decode M8_month.2.1 31 = .ok (.iconst 0, 1) := by decide +kernel
theorem d8_month_32 : decode M8_month.2.1 32 = .ok (.ireturn, 1) := by decide +kernel
theorem d8_month_33 : decode M8_month.2.1 33 = .ok (.aload_n 0, 1) := by decide +kernel
theorem d8_month_34 : decode M8_month.2.1 34 = .ok (.getfield 21, 3) := by decide +kernel
theorem d8_month_37 : decode M8_month.2.1 37 = .ok (.bipush 13, 2) := by decide +kernel
theorem d8_month_39 : decode M8_month.2.1 39 = .ok (.iload_n 1, 1) := by decide +kernel
theorem d8_month_40 : decode M8_month.2.1 40 = .ok (.imul, 1) := by decide +kernel
theorem d8_month_41 : decode M8_month.2.1 41 = .ok (.iload_n 2, 1) := by decide +kernel
theorem d8_month_42 : decode M8_month.2.1 42 = .ok (.iadd, 1) := by decide +kernel
theorem d8_month_43 : decode M8_month.2.1 43 = .ok (.iload_n 3, 1) := by decide +kernel
theorem d8_month_44 : decode M8_month.2.1 44 = .ok (.iastore, 1) := by decide +kernel
theorem d8_month_45 : decode M8_month.2.1 45 = .ok (.iconst 1, 1) := by decide +kernel
theorem d8_month_46 : decode M8_month.2.1 46 = .ok (.ireturn, 1) := by decide +kernel
theorem d8_holiday_0 : decode M8_holiday.2.1 0 = .ok (.iload_n 1, 1) := by decide +kernel
theorem d8_holiday_1 : decode M8_holiday.2.1 1 = .ok (.i2l, 1) := by decide +kernel
theorem d8_holiday_2 : decode M8_holiday.2.1 2 = .ok (.lconst 0, 1) := by decide +kernel
theorem d8_holiday_3 : decode M8_holiday.2.1 3 = .ok (.ldc2_w 90, 3) := by decide +kernel
theorem d8_holiday_6 : decode M8_holiday.2.1 6 = .ok (.invokestatic 74, 3) := by decide +kernel
theorem d8_holiday_9 : decode M8_holiday.2.1 9 = .ok (.ifCond .eq 21, 3) := by decide +kernel
theorem d8_holiday_12 : decode M8_holiday.2.1 12 = .ok (.aload_n 0, 1) := by decide +kernel
theorem d8_holiday_13 : decode M8_holiday.2.1 13 = .ok (.getfield 13, 3) := by decide +kernel
theorem d8_holiday_16 : decode M8_holiday.2.1 16 = .ok (.iload_n 1, 1) := by decide +kernel
theorem d8_holiday_17 : decode M8_holiday.2.1 17 = .ok (.baload, 1) := by decide +kernel
theorem d8_holiday_18 : decode M8_holiday.2.1 18 = .ok (.ifCond .ne 12, 3) := by decide +kernel
theorem d8_holiday_21 : decode M8_holiday.2.1 21 = .ok (.aload_n 0, 1) := by decide +kernel
theorem d8_holiday_22 : decode M8_holiday.2.1 22 = .ok (.getfield 92, 3) := by decide +kernel
theorem d8_holiday_25 : decode M8_holiday.2.1 25 = .ok (.bipush 20, 2) := by decide +kernel
theorem d8_holiday_27 : decode M8_holiday.2.1 27 = .ok (.if_icmp .ne 5, 3) := by decide +kernel
theorem d8_holiday_30 : decode M8_holiday.2.1 30 = .ok (.iconst 0, 1) := by decide +kernel
theorem d8_holiday_31 : decode M8_holiday.2.1 31 = .ok (.ireturn, 1) := by decide +kernel
theorem d8_holiday_32 : decode M8_holiday.2.1 32 = .ok (.aload_n 0, 1) := by decide +kernel
theorem d8_holiday_33 : decode M8_holiday.2.1 33 = .ok (.getfield 13, 3) := by decide +kernel
theorem d8_holiday_36 : decode M8_holiday.2.1 36 = .ok (.iload_n 1, 1) := by decide +kernel
theorem d8_holiday_37 : decode M8_holiday.2.1 37 = .ok (.iconst 1, 1) := by decide +kernel
theorem d8_holiday_38 : decode M8_holiday.2.1 38 = .ok (.bastore, 1) := by decide +kernel
theorem d8_holiday_39 : decode M8_holiday.2.1 39 = .ok (.aload_n 0, 1) := by decide +kernel
theorem d8_holiday_40 : decode M8_holiday.2.1 40 = .ok (.dup, 1) := by decide +kernel
theorem d8_holiday_41 : decode M8_holiday.2.1 41 = .ok (.getfield 92, 3) := by decide +kernel
theorem d8_holiday_44 : decode M8_holiday.2.1 44 = .ok (.iconst 1, 1) := by decide +kernel
theorem d8_holiday_45 : decode M8_holiday.2.1 45 = .ok (.iadd, 1) := by decide +kernel
theorem d8_holiday_46 : decode M8_holiday.2.1 46 = .ok (.putfield 92, 3) := by decide +kernel
theorem d8_holiday_49 : decode M8_holiday.2.1 49 = .ok (.iconst 1, 1) := by decide +kernel
theorem d8_holiday_50 : decode M8_holiday.2.1 50 = .ok (.ireturn, 1) := by decide +kernel
theorem d8_share_0 : decode M8_share.2.1 0 = .ok (.aload_n 0, 1) := by decide +kernel
theorem d8_share_1 : decode M8_share.2.1 1 = .ok (.getfield 17, 3) := by decide +kernel
theorem d8_share_4 : decode M8_share.2.1 4 = .ok (.bipush 7, 2) := by decide +kernel
theorem d8_share_6 : decode M8_share.2.1 6 = .ok (.iload_n 1, 1) := by decide +kernel
theorem d8_share_7 : decode M8_share.2.1 7 = .ok (.imul, 1) := by decide +kernel
theorem d8_share_8 : decode M8_share.2.1 8 = .ok (.aload_n 0, 1) := by decide +kernel
theorem d8_share_9 : decode M8_share.2.1 9 = .ok (.getfield 13, 3) := by decide +kernel
theorem d8_share_12 : decode M8_share.2.1 12 = .ok (.iload_n 2, 1) := by decide +kernel
theorem d8_share_13 : decode M8_share.2.1 13 = .ok (.baload, 1) := by decide +kernel
theorem d8_share_14 : decode M8_share.2.1 14 = .ok (.ifCond .eq 8, 3) := by decide +kernel
theorem d8_share_17 : decode M8_share.2.1 17 = .ok (.bipush 6, 2) := by decide +kernel
theorem d8_share_19 : decode M8_share.2.1 19 = .ok (.goto 7, 3) := by decide +kernel
theorem d8_share_22 : decode M8_share.2.1 22 = .ok (.iload_n 2, 1) := by decide +kernel
theorem d8_share_23 : decode M8_share.2.1 23 = .ok (.bipush 7, 2) := by decide +kernel
theorem d8_share_25 : decode M8_share.2.1 25 = .ok (.irem, 1) := by decide +kernel
theorem d8_share_26 : decode M8_share.2.1 26 = .ok (.iadd, 1) := by decide +kernel
theorem d8_share_27 : decode M8_share.2.1 27 = .ok (.iaload, 1) := by decide +kernel
theorem d8_share_28 : decode M8_share.2.1 28 = .ok (.i2l, 1) := by decide +kernel
theorem d8_share_29 : decode M8_share.2.1 29 = .ok (.aload_n 0, 1) := by decide +kernel
theorem d8_share_30 : decode M8_share.2.1 30 = .ok (.getfield 21, 3) := by decide +kernel
theorem d8_share_33 : decode M8_share.2.1 33 = .ok (.bipush 13, 2) := by decide +kernel
theorem d8_share_35 : decode M8_share.2.1 35 = .ok (.iload_n 1, 1) := by decide +kernel
theorem d8_share_36 : decode M8_share.2.1 36 = .ok (.imul, 1) := by decide +kernel
theorem d8_share_37 : decode M8_share.2.1 37 = .ok (.iload_n 2, 1) := by decide +kernel
theorem d8_share_38 : decode M8_share.2.1 38 = .ok (.bipush 28, 2) := by decide +kernel
theorem d8_share_40 : decode M8_share.2.1 40 = .ok (.idiv, 1) := by decide +kernel
theorem d8_share_41 : decode M8_share.2.1 41 = .ok (.iadd, 1) := by decide +kernel
theorem d8_share_42 : decode M8_share.2.1 42 = .ok (.iaload, 1) := by decide +kernel
theorem d8_share_43 : decode M8_share.2.1 43 = .ok (.i2l, 1) := by decide +kernel
theorem d8_share_44 : decode M8_share.2.1 44 = .ok (.lmul, 1) := by decide +kernel
theorem d8_share_45 : decode M8_share.2.1 45 = .ok (.lreturn, 1) := by decide +kernel
theorem d8_wholeOf_0 : decode M8_wholeOf.2.1 0 = .ok (.lconst 0, 1) := by decide +kernel
theorem d8_wholeOf_1 : decode M8_wholeOf.2.1 1 = .ok (.lstore_n 2, 1) := by decide +kernel
theorem d8_wholeOf_2 : decode M8_wholeOf.2.1 2 = .ok (.iconst 0, 1) := by decide +kernel
theorem d8_wholeOf_3 : decode M8_wholeOf.2.1 3 = .ok (.istore 4, 2) := by decide +kernel
theorem d8_wholeOf_5 : decode M8_wholeOf.2.1 5 = .ok (.iload 4, 2) := by decide +kernel
theorem d8_wholeOf_7 : decode M8_wholeOf.2.1 7 = .ok (.sipush 364, 3) := by decide +kernel
theorem d8_wholeOf_10 : decode M8_wholeOf.2.1 10 = .ok (.if_icmp .ge 19, 3) := by decide +kernel
theorem d8_wholeOf_13 : decode M8_wholeOf.2.1 13 = .ok (.lload_n 2, 1) := by decide +kernel
theorem d8_wholeOf_14 : decode M8_wholeOf.2.1 14 = .ok (.aload_n 0, 1) := by decide +kernel
theorem d8_wholeOf_15 : decode M8_wholeOf.2.1 15 = .ok (.iload_n 1, 1) := by decide +kernel
theorem d8_wholeOf_16 : decode M8_wholeOf.2.1 16 = .ok (.iload 4, 2) := by decide +kernel
theorem d8_wholeOf_18 : decode M8_wholeOf.2.1 18 = .ok (.invokevirtual 95, 3) := by decide +kernel
theorem d8_wholeOf_21 : decode M8_wholeOf.2.1 21 = .ok (.ladd, 1) := by decide +kernel
theorem d8_wholeOf_22 : decode M8_wholeOf.2.1 22 = .ok (.lstore_n 2, 1) := by decide +kernel
theorem d8_wholeOf_23 : decode M8_wholeOf.2.1 23 = .ok (.iinc 4 1, 3) := by decide +kernel
theorem d8_wholeOf_26 : decode M8_wholeOf.2.1 26 = .ok (.goto (-21), 3) := by decide +kernel
theorem d8_wholeOf_29 : decode M8_wholeOf.2.1 29 = .ok (.lload_n 2, 1) := by decide +kernel
theorem d8_wholeOf_30 : decode M8_wholeOf.2.1 30 = .ok (.lreturn, 1) := by decide +kernel
theorem d8_whole_0 : decode M8_whole.2.1 0 = .ok (.iload_n 1, 1) := by decide +kernel
theorem d8_whole_1 : decode M8_whole.2.1 1 = .ok (.invokestatic 80, 3) := by decide +kernel
theorem d8_whole_4 : decode M8_whole.2.1 4 = .ok (.ifCond .eq 11, 3) := by decide +kernel
theorem d8_whole_7 : decode M8_whole.2.1 7 = .ok (.aload_n 0, 1) := by decide +kernel
theorem d8_whole_8 : decode M8_whole.2.1 8 = .ok (.iload_n 1, 1) := by decide +kernel
theorem d8_whole_9 : decode M8_whole.2.1 9 = .ok (.invokevirtual 99, 3) := by decide +kernel
theorem d8_whole_12 : decode M8_whole.2.1 12 = .ok (.goto 6, 3) := by decide +kernel
theorem d8_whole_15 : decode M8_whole.2.1 15 = .ok (.ldc2_w 103, 3) := by decide +kernel
theorem d8_whole_18 : decode M8_whole.2.1 18 = .ok (.lreturn, 1) := by decide +kernel
theorem d8_isEnd_0 : decode M8_isEnd.2.1 0 = .ok (.iload_n 0, 1) := by decide +kernel
theorem d8_isEnd_1 : decode M8_isEnd.2.1 1 = .ok (.i2l, 1) := by decide +kernel
theorem d8_isEnd_2 : decode M8_isEnd.2.1 2 = .ok (.ldc2_w 103, 3) := by decide +kernel
theorem d8_isEnd_5 : decode M8_isEnd.2.1 5 = .ok (.ldc2_w 105, 3) := by decide +kernel
theorem d8_isEnd_8 : decode M8_isEnd.2.1 8 = .ok (.invokestatic 74, 3) := by decide +kernel
theorem d8_isEnd_11 : decode M8_isEnd.2.1 11 = .ok (.ireturn, 1) := by decide +kernel
theorem d8_road_0 : decode M8_road.2.1 0 = .ok (.iload_n 1, 1) := by decide +kernel
theorem d8_road_1 : decode M8_road.2.1 1 = .ok (.invokestatic 107, 3) := by decide +kernel
theorem d8_road_4 : decode M8_road.2.1 4 = .ok (.ifCond .eq 36, 3) := by decide +kernel
theorem d8_road_7 : decode M8_road.2.1 7 = .ok (.iload_n 2, 1) := by decide +kernel
theorem d8_road_8 : decode M8_road.2.1 8 = .ok (.invokestatic 107, 3) := by decide +kernel
theorem d8_road_11 : decode M8_road.2.1 11 = .ok (.ifCond .eq 29, 3) := by decide +kernel
theorem d8_road_14 : decode M8_road.2.1 14 = .ok (.iload_n 1, 1) := by decide +kernel
theorem d8_road_15 : decode M8_road.2.1 15 = .ok (.iload_n 2, 1) := by decide +kernel
theorem d8_road_16 : decode M8_road.2.1 16 = .ok (.if_icmp .eq 24, 3) := by decide +kernel
theorem d8_road_19 : decode M8_road.2.1 19 = .ok (.iload_n 3, 1) := by decide +kernel
theorem d8_road_20 : decode M8_road.2.1 20 = .ok (.i2l, 1) := by decide +kernel
theorem d8_road_21 : decode M8_road.2.1 21 = .ok (.lconst 0, 1) := by decide +kernel
theorem d8_road_22 : decode M8_road.2.1 22 = .ok (.ldc2_w 110, 3) := by decide +kernel
theorem d8_road_25 : decode M8_road.2.1 25 = .ok (.invokestatic 74, 3) := by decide +kernel
theorem d8_road_28 : decode M8_road.2.1 28 = .ok (.ifCond .eq 12, 3) := by decide +kernel
theorem d8_road_31 : decode M8_road.2.1 31 = .ok (.aload_n 0, 1) := by decide +kernel
theorem d8_road_32 : decode M8_road.2.1 32 = .ok (.getfield 70, 3) := by decide +kernel
theorem d8_road_35 : decode M8_road.2.1 35 = .ok (.bipush 12, 2) := by decide +kernel
theorem d8_road_37 : decode M8_road.2.1 37 = .ok (.if_icmp .ne 5, 3) := by decide +kernel
theorem d8_road_40 : decode M8_road.2.1 40 = .ok (.iconst (-1), 1) := by decide +kernel
theorem d8_road_41 : decode M8_road.2.1 41 = .ok (.ireturn, 1) := by decide +kernel
theorem d8_road_42 : decode M8_road.2.1 42 = .ok (.aload_n 0, 1) := by decide +kernel
theorem d8_road_43 : decode M8_road.2.1 43 = .ok (.getfield 24, 3) := by decide +kernel
theorem d8_road_46 : decode M8_road.2.1 46 = .ok (.aload_n 0, 1) := by decide +kernel
theorem d8_road_47 : decode M8_road.2.1 47 = .ok (.getfield 70, 3) := by decide +kernel
theorem d8_road_50 : decode M8_road.2.1 50 = .ok (.iload_n 1, 1) := by decide +kernel
theorem d8_road_51 : decode M8_road.2.1 51 = .ok (.iastore, 1) := by decide +kernel
theorem d8_road_52 : decode M8_road.2.1 52 = .ok (.aload_n 0, 1) := by decide +kernel
theorem d8_road_53 : decode M8_road.2.1 53 = .ok (.getfield 27, 3) := by decide +kernel
theorem d8_road_56 : decode M8_road.2.1 56 = .ok (.aload_n 0, 1) := by decide +kernel
theorem d8_road_57 : decode M8_road.2.1 57 = .ok (.getfield 70, 3) := by decide +kernel
theorem d8_road_60 : decode M8_road.2.1 60 = .ok (.iload_n 2, 1) := by decide +kernel
theorem d8_road_61 : decode M8_road.2.1 61 = .ok (.iastore, 1) := by decide +kernel
theorem d8_road_62 : decode M8_road.2.1 62 = .ok (.aload_n 0, 1) := by decide +kernel
theorem d8_road_63 : decode M8_road.2.1 63 = .ok (.getfield 30, 3) := by decide +kernel
theorem d8_road_66 : decode M8_road.2.1 66 = .ok (.aload_n 0, 1) := by decide +kernel
theorem d8_road_67 : decode M8_road.2.1 67 = .ok (.getfield 70, 3) := by decide +kernel
theorem d8_road_70 : decode M8_road.2.1 70 = .ok (.iload_n 3, 1) := by decide +kernel
theorem d8_road_71 : decode M8_road.2.1 71 = .ok (.iastore, 1) := by decide +kernel
theorem d8_road_72 : decode M8_road.2.1 72 = .ok (.aload_n 0, 1) := by decide +kernel
theorem d8_road_73 : decode M8_road.2.1 73 = .ok (.dup, 1) := by decide +kernel
theorem d8_road_74 : decode M8_road.2.1 74 = .ok (.getfield 70, 3) := by decide +kernel
theorem d8_road_77 : decode M8_road.2.1 77 = .ok (.iconst 1, 1) := by decide +kernel
theorem d8_road_78 : decode M8_road.2.1 78 = .ok (.iadd, 1) := by decide +kernel
theorem d8_road_79 : decode M8_road.2.1 79 = .ok (.putfield 70, 3) := by decide +kernel
theorem d8_road_82 : decode M8_road.2.1 82 = .ok (.aload_n 0, 1) := by decide +kernel
theorem d8_road_83 : decode M8_road.2.1 83 = .ok (.getfield 70, 3) := by decide +kernel
theorem d8_road_86 : decode M8_road.2.1 86 = .ok (.iconst 1, 1) := by decide +kernel
theorem d8_road_87 : decode M8_road.2.1 87 = .ok (.isub, 1) := by decide +kernel
theorem d8_road_88 : decode M8_road.2.1 88 = .ok (.ireturn, 1) := by decide +kernel
theorem d8_shape_0 : decode M8_shape.2.1 0 = .ok (.aload_n 0, 1) := by decide +kernel
theorem d8_shape_1 : decode M8_shape.2.1 1 = .ok (.iload_n 1, 1) := by decide +kernel
theorem d8_shape_2 : decode M8_shape.2.1 2 = .ok (.invokevirtual 112, 3) := by decide +kernel
theorem d8_shape_5 : decode M8_shape.2.1 5 = .ok (.ifCond .eq 10, 3) := by decide +kernel
theorem d8_shape_8 : decode M8_shape.2.1 8 = .ok (.iload_n 2, 1) := by decide +kernel
theorem d8_shape_9 : decode M8_shape.2.1 9 = .ok (.invokestatic 80, 3) := by decide +kernel
theorem d8_shape_12 : decode M8_shape.2.1 12 = .ok (.ifCond .ne 5, 3) := by decide +kernel
theorem d8_shape_15 : decode M8_shape.2.1 15 = .ok (.iconst 0, 1) := by decide +kernel
theorem d8_shape_16 : decode M8_shape.2.1 16 = .ok (.ireturn, 1) := by decide +kernel
theorem d8_shape_17 : decode M8_shape.2.1 17 = .ok (.aload_n 0, 1) := by decide +kernel
theorem d8_shape_18 : decode M8_shape.2.1 18 = .ok (.getfield 33, 3) := by decide +kernel
theorem d8_shape_21 : decode M8_shape.2.1 21 = .ok (.iload_n 1, 1) := by decide +kernel
theorem d8_shape_22 : decode M8_shape.2.1 22 = .ok (.iload_n 2, 1) := by decide +kernel
theorem d8_shape_23 : decode M8_shape.2.1 23 = .ok (.iastore, 1) := by decide +kernel
theorem d8_shape_24 : decode M8_shape.2.1 24 = .ok (.iconst 1, 1) := by decide +kernel
theorem d8_shape_25 : decode M8_shape.2.1 25 = .ok (.ireturn, 1) := by decide +kernel
theorem d8_count_0 : decode M8_count.2.1 0 = .ok (.aload_n 0, 1) := by decide +kernel
theorem d8_count_1 : decode M8_count.2.1 1 = .ok (.iload_n 1, 1) := by decide +kernel
theorem d8_count_2 : decode M8_count.2.1 2 = .ok (.invokevirtual 112, 3) := by decide +kernel
theorem d8_count_5 : decode M8_count.2.1 5 = .ok (.ifCond .eq 27, 3) := by decide +kernel
theorem d8_count_8 : decode M8_count.2.1 8 = .ok (.iload_n 2, 1) := by decide +kernel
theorem d8_count_9 : decode M8_count.2.1 9 = .ok (.i2l, 1) := by decide +kernel
theorem d8_count_10 : decode M8_count.2.1 10 = .ok (.lconst 0, 1) := by decide +kernel
theorem d8_count_11 : decode M8_count.2.1 11 = .ok (.ldc2_w 90, 3) := by decide +kernel
theorem d8_count_14 : decode M8_count.2.1 14 = .ok (.invokestatic 74, 3) := by decide +kernel
theorem d8_count_17 : decode M8_count.2.1 17 = .ok (.ifCond .eq 15, 3) := by decide +kernel
theorem d8_count_20 : decode M8_count.2.1 20 = .ok (.iload_n 3, 1) := by decide +kernel
theorem d8_count_21 : decode M8_count.2.1 21 = .ok (.i2l, 1) := by decide +kernel
theorem d8_count_22 : decode M8_count.2.1 22 = .ok (.lconst 0, 1) := by decide +kernel
theorem d8_count_23 : decode M8_count.2.1 23 = .ok (.ldc2_w 115, 3) := by decide +kernel
theorem d8_count_26 : decode M8_count.2.1 26 = .ok (.invokestatic 74, 3) := by decide +kernel
theorem d8_count_29 : decode M8_count.2.1 29 = .ok (.ifCond .ne 5, 3) := by decide +kernel
theorem d8_count_32 : decode M8_count.2.1 32 = .ok (.iconst 0, 1) := by decide +kernel
theorem d8_count_33 : decode M8_count.2.1 33 = .ok (.ireturn, 1) := by decide +kernel
theorem d8_count_34 : decode M8_count.2.1 34 = .ok (.aload_n 0, 1) := by decide +kernel
theorem d8_count_35 : decode M8_count.2.1 35 = .ok (.getfield 36, 3) := by decide +kernel
theorem d8_count_38 : decode M8_count.2.1 38 = .ok (.sipush 364, 3) := by decide +kernel
theorem d8_count_41 : decode M8_count.2.1 41 = .ok (.iload_n 1, 1) := by decide +kernel
theorem d8_count_42 : decode M8_count.2.1 42 = .ok (.imul, 1) := by decide +kernel
theorem d8_count_43 : decode M8_count.2.1 43 = .ok (.iload_n 2, 1) := by decide +kernel
theorem d8_count_44 : decode M8_count.2.1 44 = .ok (.iadd, 1) := by decide +kernel
theorem d8_count_45 : decode M8_count.2.1 45 = .ok (.iaload, 1) := by decide +kernel
theorem d8_count_46 : decode M8_count.2.1 46 = .ok (.iconst (-1), 1) := by decide +kernel
theorem d8_count_47 : decode M8_count.2.1 47 = .ok (.if_icmp .ne 26, 3) := by decide +kernel
theorem d8_count_50 : decode M8_count.2.1 50 = .ok (.aload_n 0, 1) := by decide +kernel
theorem d8_count_51 : decode M8_count.2.1 51 = .ok (.getfield 39, 3) := by decide +kernel
theorem d8_count_54 : decode M8_count.2.1 54 = .ok (.iload_n 1, 1) := by decide +kernel
theorem d8_count_55 : decode M8_count.2.1 55 = .ok (.iaload, 1) := by decide +kernel
theorem d8_count_56 : decode M8_count.2.1 56 = .ok (.bipush 14, 2) := by decide +kernel
theorem d8_count_58 : decode M8_count.2.1 58 = .ok (.if_icmp .ne 5, 3) := by decide +kernel
theorem d8_count_61 : decode M8_count.2.1 61 = .ok (.iconst 0, 1) := by decide +kernel
theorem d8_count_62 : decode M8_count.2.1 62 = .ok (.ireturn, 1) := by decide +kernel
theorem d8_count_63 : decode M8_count.2.1 63 = .ok (.aload_n 0, 1) := by decide +kernel
theorem d8_count_64 : decode M8_count.2.1 64 = .ok (.getfield 39, 3) := by decide +kernel
theorem d8_count_67 : decode M8_count.2.1 67 = .ok (.iload_n 1, 1) := by decide +kernel
theorem d8_count_68 : decode M8_count.2.1 68 = .ok (.dup2, 1) := by decide +kernel
theorem d8_count_69 : decode M8_count.2.1 69 = .ok (.iaload, 1) := by decide +kernel
theorem d8_count_70 : decode M8_count.2.1 70 = .ok (.iconst 1, 1) := by decide +kernel
theorem d8_count_71 : decode M8_count.2.1 71 = .ok (.iadd, 1) := by decide +kernel
theorem d8_count_72 : decode M8_count.2.1 72 = .ok (.iastore, 1) := by decide +kernel
theorem d8_count_73 : decode M8_count.2.1 73 = .ok (.aload_n 0, 1) := by decide +kernel
theorem d8_count_74 : decode M8_count.2.1 74 = .ok (.getfield 36, 3) := by decide +kernel
theorem d8_count_77 : decode M8_count.2.1 77 = .ok (.sipush 364, 3) := by decide +kernel
theorem d8_count_80 : decode M8_count.2.1 80 = .ok (.iload_n 1, 1) := by decide +kernel
theorem d8_count_81 : decode M8_count.2.1 81 = .ok (.imul, 1) := by decide +kernel
theorem d8_count_82 : decode M8_count.2.1 82 = .ok (.iload_n 2, 1) := by decide +kernel
theorem d8_count_83 : decode M8_count.2.1 83 = .ok (.iadd, 1) := by decide +kernel
theorem d8_count_84 : decode M8_count.2.1 84 = .ok (.iload_n 3, 1) := by decide +kernel
theorem d8_count_85 : decode M8_count.2.1 85 = .ok (.iastore, 1) := by decide +kernel
theorem d8_count_86 : decode M8_count.2.1 86 = .ok (.iconst 1, 1) := by decide +kernel
theorem d8_count_87 : decode M8_count.2.1 87 = .ok (.ireturn, 1) := by decide +kernel
theorem d8_isUsed_0 : decode M8_isUsed.2.1 0 = .ok (.aload_n 0, 1) := by decide +kernel
theorem d8_isUsed_1 : decode M8_isUsed.2.1 1 = .ok (.getfield 36, 3) := by decide +kernel
theorem d8_isUsed_4 : decode M8_isUsed.2.1 4 = .ok (.sipush 364, 3) := by decide +kernel
theorem d8_isUsed_7 : decode M8_isUsed.2.1 7 = .ok (.iload_n 1, 1) := by decide +kernel
theorem d8_isUsed_8 : decode M8_isUsed.2.1 8 = .ok (.imul, 1) := by decide +kernel
theorem d8_isUsed_9 : decode M8_isUsed.2.1 9 = .ok (.iload_n 2, 1) := by decide +kernel
theorem d8_isUsed_10 : decode M8_isUsed.2.1 10 = .ok (.iadd, 1) := by decide +kernel
theorem d8_isUsed_11 : decode M8_isUsed.2.1 11 = .ok (.iaload, 1) := by decide +kernel
theorem d8_isUsed_12 : decode M8_isUsed.2.1 12 = .ok (.iconst (-1), 1) := by decide +kernel
theorem d8_isUsed_13 : decode M8_isUsed.2.1 13 = .ok (.if_icmp .eq 16, 3) := by decide +kernel
theorem d8_isUsed_16 : decode M8_isUsed.2.1 16 = .ok (.aload_n 0, 1) := by decide +kernel
theorem d8_isUsed_17 : decode M8_isUsed.2.1 17 = .ok (.getfield 13, 3) := by decide +kernel
theorem d8_isUsed_20 : decode M8_isUsed.2.1 20 = .ok (.iload_n 2, 1) := by decide +kernel
theorem d8_isUsed_21 : decode M8_isUsed.2.1 21 = .ok (.baload, 1) := by decide +kernel
theorem d8_isUsed_22 : decode M8_isUsed.2.1 22 = .ok (.ifCond .ne 7, 3) := by decide +kernel
theorem d8_isUsed_25 : decode M8_isUsed.2.1 25 = .ok (.iconst 1, 1) := by decide +kernel
theorem d8_isUsed_26 : decode M8_isUsed.2.1 26 = .ok (.goto 4, 3) := by decide +kernel
theorem d8_isUsed_29 : decode M8_isUsed.2.1 29 = .ok (.iconst 0, 1) := by decide +kernel
theorem d8_isUsed_30 : decode M8_isUsed.2.1 30 = .ok (.ireturn, 1) := by decide +kernel
theorem d8_usedOf_0 : decode M8_usedOf.2.1 0 = .ok (.iconst 0, 1) := by decide +kernel
theorem d8_usedOf_1 : decode M8_usedOf.2.1 1 = .ok (.istore_n 2, 1) := by decide +kernel
theorem d8_usedOf_2 : decode M8_usedOf.2.1 2 = .ok (.iconst 0, 1) := by decide +kernel
theorem d8_usedOf_3 : decode M8_usedOf.2.1 3 = .ok (.istore_n 3, 1) := by decide +kernel
theorem d8_usedOf_4 : decode M8_usedOf.2.1 4 = .ok (.iload_n 3, 1) := by decide +kernel
theorem d8_usedOf_5 : decode M8_usedOf.2.1 5 = .ok (.sipush 364, 3) := by decide +kernel
theorem d8_usedOf_8 : decode M8_usedOf.2.1 8 = .ok (.if_icmp .ge 26, 3) := by decide +kernel
theorem d8_usedOf_11 : decode M8_usedOf.2.1 11 = .ok (.iload_n 2, 1) := by decide +kernel
theorem d8_usedOf_12 : decode M8_usedOf.2.1 12 = .ok (.aload_n 0, 1) := by decide +kernel
theorem d8_usedOf_13 : decode M8_usedOf.2.1 13 = .ok (.iload_n 1, 1) := by decide +kernel
theorem d8_usedOf_14 : decode M8_usedOf.2.1 14 = .ok (.iload_n 3, 1) := by decide +kernel
theorem d8_usedOf_15 : decode M8_usedOf.2.1 15 = .ok (.invokevirtual 117, 3) := by decide +kernel
theorem d8_usedOf_18 : decode M8_usedOf.2.1 18 = .ok (.ifCond .eq 7, 3) := by decide +kernel
theorem d8_usedOf_21 : decode M8_usedOf.2.1 21 = .ok (.iconst 1, 1) := by decide +kernel
theorem d8_usedOf_22 : decode M8_usedOf.2.1 22 = .ok (.goto 4, 3) := by decide +kernel
theorem d8_usedOf_25 : decode M8_usedOf.2.1 25 = .ok (.iconst 0, 1) := by decide +kernel
theorem d8_usedOf_26 : decode M8_usedOf.2.1 26 = .ok (.iadd, 1) := by decide +kernel
theorem d8_usedOf_27 : decode M8_usedOf.2.1 27 = .ok (.istore_n 2, 1) := by decide +kernel
theorem d8_usedOf_28 : decode M8_usedOf.2.1 28 = .ok (.iinc 3 1, 3) := by decide +kernel
theorem d8_usedOf_31 : decode M8_usedOf.2.1 31 = .ok (.goto (-27), 3) := by decide +kernel
theorem d8_usedOf_34 : decode M8_usedOf.2.1 34 = .ok (.iload_n 2, 1) := by decide +kernel
theorem d8_usedOf_35 : decode M8_usedOf.2.1 35 = .ok (.ireturn, 1) := by decide +kernel
theorem d8_countsOf_0 : decode M8_countsOf.2.1 0 = .ok (.lconst 0, 1) := by decide +kernel
theorem d8_countsOf_1 : decode M8_countsOf.2.1 1 = .ok (.lstore_n 2, 1) := by decide +kernel
theorem d8_countsOf_2 : decode M8_countsOf.2.1 2 = .ok (.iconst 0, 1) := by decide +kernel
theorem d8_countsOf_3 : decode M8_countsOf.2.1 3 = .ok (.istore 4, 2) := by decide +kernel
theorem d8_countsOf_5 : decode M8_countsOf.2.1 5 = .ok (.iload 4, 2) := by decide +kernel
theorem d8_countsOf_7 : decode M8_countsOf.2.1 7 = .ok (.sipush 364, 3) := by decide +kernel
theorem d8_countsOf_10 : decode M8_countsOf.2.1 10 = .ok (.if_icmp .ge 40, 3) := by decide +kernel
theorem d8_countsOf_13 : decode M8_countsOf.2.1 13 = .ok (.lload_n 2, 1) := by decide +kernel
theorem d8_countsOf_14 : decode M8_countsOf.2.1 14 = .ok (.aload_n 0, 1) := by decide +kernel
theorem d8_countsOf_15 : decode M8_countsOf.2.1 15 = .ok (.iload_n 1, 1) := by decide +kernel
theorem d8_countsOf_16 : decode M8_countsOf.2.1 16 = .ok (.iload 4, 2) := by decide +kernel
theorem d8_countsOf_18 : decode M8_countsOf.2.1 18 = .ok (.invokevirtual 117, 3) := by decide +kernel
theorem d8_countsOf_21 : decode M8_countsOf.2.1 21 = .ok (.ifCond .eq 20, 3) := by decide +kernel
theorem d8_countsOf_24 : decode M8_countsOf.2.1 24 = .ok (.aload_n 0, 1) := by decide +kernel
theorem d8_countsOf_25 : decode M8_countsOf.2.1 25 = .ok (.getfield 36, 3) := by decide +kernel
theorem d8_countsOf_28 : decode M8_countsOf.2.1 28 = .ok (.sipush 364, 3) := by decide +kernel
theorem d8_countsOf_31 : decode M8_countsOf.2.1 31 = .ok (.iload_n 1, 1) := by decide +kernel
theorem d8_countsOf_32 : decode M8_countsOf.2.1 32 = .ok (.imul, 1) := by decide +kernel
theorem d8_countsOf_33 : decode M8_countsOf.2.1 33 = .ok (.iload 4, 2) := by decide +kernel
theorem d8_countsOf_35 : decode M8_countsOf.2.1 35 = .ok (.iadd, 1) := by decide +kernel
theorem d8_countsOf_36 : decode M8_countsOf.2.1 36 = .ok (.iaload, 1) := by decide +kernel
theorem d8_countsOf_37 : decode M8_countsOf.2.1 37 = .ok (.i2l, 1) := by decide +kernel
theorem d8_countsOf_38 : decode M8_countsOf.2.1 38 = .ok (.goto 4, 3) := by decide +kernel
theorem d8_countsOf_41 : decode M8_countsOf.2.1 41 = .ok (.lconst 0, 1) := by decide +kernel
theorem d8_countsOf_42 : decode M8_countsOf.2.1 42 = .ok (.ladd, 1) := by decide +kernel
theorem d8_countsOf_43 : decode M8_countsOf.2.1 43 = .ok (.lstore_n 2, 1) := by decide +kernel
theorem d8_countsOf_44 : decode M8_countsOf.2.1 44 = .ok (.iinc 4 1, 3) := by decide +kernel
theorem d8_countsOf_47 : decode M8_countsOf.2.1 47 = .ok (.goto (-42), 3) := by decide +kernel
theorem d8_countsOf_50 : decode M8_countsOf.2.1 50 = .ok (.lload_n 2, 1) := by decide +kernel
theorem d8_countsOf_51 : decode M8_countsOf.2.1 51 = .ok (.lreturn, 1) := by decide +kernel
theorem d8_sharesOf_0 : decode M8_sharesOf.2.1 0 = .ok (.lconst 0, 1) := by decide +kernel
theorem d8_sharesOf_1 : decode M8_sharesOf.2.1 1 = .ok (.lstore_n 3, 1) := by decide +kernel
theorem d8_sharesOf_2 : decode M8_sharesOf.2.1 2 = .ok (.iconst 0, 1) := by decide +kernel
theorem d8_sharesOf_3 : decode M8_sharesOf.2.1 3 = .ok (.istore 5, 2) := by decide +kernel
theorem d8_sharesOf_5 : decode M8_sharesOf.2.1 5 = .ok (.iload 5, 2) := by decide +kernel
theorem d8_sharesOf_7 : decode M8_sharesOf.2.1 7 = .ok (.sipush 364, 3) := by decide +kernel
theorem d8_sharesOf_10 : decode M8_sharesOf.2.1 10 = .ok (.if_icmp .ge 33, 3) := by decide +kernel
theorem d8_sharesOf_13 : decode M8_sharesOf.2.1 13 = .ok (.lload_n 3, 1) := by decide +kernel
theorem d8_sharesOf_14 : decode M8_sharesOf.2.1 14 = .ok (.aload_n 0, 1) := by decide +kernel
theorem d8_sharesOf_15 : decode M8_sharesOf.2.1 15 = .ok (.iload_n 1, 1) := by decide +kernel
theorem d8_sharesOf_16 : decode M8_sharesOf.2.1 16 = .ok (.iload 5, 2) := by decide +kernel
theorem d8_sharesOf_18 : decode M8_sharesOf.2.1 18 = .ok (.invokevirtual 117, 3) := by decide +kernel
theorem d8_sharesOf_21 : decode M8_sharesOf.2.1 21 = .ok (.ifCond .eq 13, 3) := by decide +kernel
theorem d8_sharesOf_24 : decode M8_sharesOf.2.1 24 = .ok (.aload_n 0, 1) := by decide +kernel
theorem d8_sharesOf_25 : decode M8_sharesOf.2.1 25 = .ok (.iload_n 2, 1) := by decide +kernel
theorem d8_sharesOf_26 : decode M8_sharesOf.2.1 26 = .ok (.iload 5, 2) := by decide +kernel
theorem d8_sharesOf_28 : decode M8_sharesOf.2.1 28 = .ok (.invokevirtual 95, 3) := by decide +kernel
theorem d8_sharesOf_31 : decode M8_sharesOf.2.1 31 = .ok (.goto 4, 3) := by decide +kernel
theorem d8_sharesOf_34 : decode M8_sharesOf.2.1 34 = .ok (.lconst 0, 1) := by decide +kernel
theorem d8_sharesOf_35 : decode M8_sharesOf.2.1 35 = .ok (.ladd, 1) := by decide +kernel
theorem d8_sharesOf_36 : decode M8_sharesOf.2.1 36 = .ok (.lstore_n 3, 1) := by decide +kernel
theorem d8_sharesOf_37 : decode M8_sharesOf.2.1 37 = .ok (.iinc 5 1, 3) := by decide +kernel
theorem d8_sharesOf_40 : decode M8_sharesOf.2.1 40 = .ok (.goto (-35), 3) := by decide +kernel
theorem d8_sharesOf_43 : decode M8_sharesOf.2.1 43 = .ok (.lload_n 3, 1) := by decide +kernel
theorem d8_sharesOf_44 : decode M8_sharesOf.2.1 44 = .ok (.lreturn, 1) := by decide +kernel
theorem d8_yearOf_0 : decode M8_yearOf.2.1 0 = .ok (.aload_n 0, 1) := by decide +kernel
theorem d8_yearOf_1 : decode M8_yearOf.2.1 1 = .ok (.iload_n 1, 1) := by decide +kernel
theorem d8_yearOf_2 : decode M8_yearOf.2.1 2 = .ok (.invokevirtual 121, 3) := by decide +kernel
theorem d8_yearOf_5 : decode M8_yearOf.2.1 5 = .ok (.aload_n 0, 1) := by decide +kernel
theorem d8_yearOf_6 : decode M8_yearOf.2.1 6 = .ok (.aload_n 0, 1) := by decide +kernel
theorem d8_yearOf_7 : decode M8_yearOf.2.1 7 = .ok (.getfield 33, 3) := by decide +kernel
theorem d8_yearOf_10 : decode M8_yearOf.2.1 10 = .ok (.iload_n 1, 1) := by decide +kernel
theorem d8_yearOf_11 : decode M8_yearOf.2.1 11 = .ok (.iaload, 1) := by decide +kernel
theorem d8_yearOf_12 : decode M8_yearOf.2.1 12 = .ok (.invokevirtual 99, 3) := by decide +kernel
theorem d8_yearOf_15 : decode M8_yearOf.2.1 15 = .ok (.lmul, 1) := by decide +kernel
theorem d8_yearOf_16 : decode M8_yearOf.2.1 16 = .ok (.aload_n 0, 1) := by decide +kernel
theorem d8_yearOf_17 : decode M8_yearOf.2.1 17 = .ok (.iload_n 1, 1) := by decide +kernel
theorem d8_yearOf_18 : decode M8_yearOf.2.1 18 = .ok (.aload_n 0, 1) := by decide +kernel
theorem d8_yearOf_19 : decode M8_yearOf.2.1 19 = .ok (.getfield 33, 3) := by decide +kernel
theorem d8_yearOf_22 : decode M8_yearOf.2.1 22 = .ok (.iload_n 1, 1) := by decide +kernel
theorem d8_yearOf_23 : decode M8_yearOf.2.1 23 = .ok (.iaload, 1) := by decide +kernel
theorem d8_yearOf_24 : decode M8_yearOf.2.1 24 = .ok (.invokevirtual 124, 3) := by decide +kernel
theorem d8_yearOf_27 : decode M8_yearOf.2.1 27 = .ok (.ldiv, 1) := by decide +kernel
theorem d8_yearOf_28 : decode M8_yearOf.2.1 28 = .ok (.lreturn, 1) := by decide +kernel
theorem d8_year_0 : decode M8_year.2.1 0 = .ok (.aload_n 0, 1) := by decide +kernel
theorem d8_year_1 : decode M8_year.2.1 1 = .ok (.iload_n 1, 1) := by decide +kernel
theorem d8_year_2 : decode M8_year.2.1 2 = .ok (.invokevirtual 112, 3) := by decide +kernel
theorem d8_year_5 : decode M8_year.2.1 5 = .ok (.ifCond .eq 19, 3) := by decide +kernel
theorem d8_year_8 : decode M8_year.2.1 8 = .ok (.aload_n 0, 1) := by decide +kernel
theorem d8_year_9 : decode M8_year.2.1 9 = .ok (.iload_n 1, 1) := by decide +kernel
theorem d8_year_10 : decode M8_year.2.1 10 = .ok (.invokevirtual 127, 3) := by decide +kernel
theorem d8_year_13 : decode M8_year.2.1 13 = .ok (.ifCond .le 11, 3) := by decide +kernel
theorem d8_year_16 : decode M8_year.2.1 16 = .ok (.aload_n 0, 1) := by decide +kernel
theorem d8_year_17 : decode M8_year.2.1 17 = .ok (.iload_n 1, 1) := by decide +kernel
theorem d8_year_18 : decode M8_year.2.1 18 = .ok (.invokevirtual 131, 3) := by decide +kernel
theorem d8_year_21 : decode M8_year.2.1 21 = .ok (.goto 6, 3) := by decide +kernel
theorem d8_year_24 : decode M8_year.2.1 24 = .ok (.ldc2_w 103, 3) := by decide +kernel
theorem d8_year_27 : decode M8_year.2.1 27 = .ok (.lreturn, 1) := by decide +kernel
theorem d8_span_0 : decode M8_span.2.1 0 = .ok (.aload_n 0, 1) := by decide +kernel
theorem d8_span_1 : decode M8_span.2.1 1 = .ok (.iload_n 1, 1) := by decide +kernel
theorem d8_span_2 : decode M8_span.2.1 2 = .ok (.invokevirtual 112, 3) := by decide +kernel
theorem d8_span_5 : decode M8_span.2.1 5 = .ok (.ifCond .eq 13, 3) := by decide +kernel
theorem d8_span_8 : decode M8_span.2.1 8 = .ok (.iload_n 2, 1) := by decide +kernel
theorem d8_span_9 : decode M8_span.2.1 9 = .ok (.i2l, 1) := by decide +kernel
theorem d8_span_10 : decode M8_span.2.1 10 = .ok (.lconst 0, 1) := by decide +kernel
theorem d8_span_11 : decode M8_span.2.1 11 = .ok (.lconst 1, 1) := by decide +kernel
theorem d8_span_12 : decode M8_span.2.1 12 = .ok (.invokestatic 74, 3) := by decide +kernel
theorem d8_span_15 : decode M8_span.2.1 15 = .ok (.ifCond .ne 7, 3) := by decide +kernel
theorem d8_span_18 : decode M8_span.2.1 18 = .ok (.ldc2_w 103, 3) := by decide +kernel
theorem d8_span_21 : decode M8_span.2.1 21 = .ok (.lreturn, 1) := by decide +kernel
theorem d8_span_22 : decode M8_span.2.1 22 = .ok (.ldc2_w 103, 3) := by decide +kernel
theorem d8_span_25 : decode M8_span.2.1 25 = .ok (.lstore_n 3, 1) := by decide +kernel
theorem d8_span_26 : decode M8_span.2.1 26 = .ok (.iconst 0, 1) := by decide +kernel
theorem d8_span_27 : decode M8_span.2.1 27 = .ok (.istore 5, 2) := by decide +kernel
theorem d8_span_29 : decode M8_span.2.1 29 = .ok (.iload 5, 2) := by decide +kernel
theorem d8_span_31 : decode M8_span.2.1 31 = .ok (.sipush 364, 3) := by decide +kernel
theorem d8_span_34 : decode M8_span.2.1 34 = .ok (.if_icmp .ge 98, 3) := by decide +kernel
theorem d8_span_37 : decode M8_span.2.1 37 = .ok (.aload_n 0, 1) := by decide +kernel
theorem d8_span_38 : decode M8_span.2.1 38 = .ok (.iload_n 1, 1) := by decide +kernel
theorem d8_span_39 : decode M8_span.2.1 39 = .ok (.iload 5, 2) := by decide +kernel
theorem d8_span_41 : decode M8_span.2.1 41 = .ok (.invokevirtual 117, 3) := by decide +kernel
theorem d8_span_44 : decode M8_span.2.1 44 = .ok (.ifCond .ne 6, 3) := by decide +kernel
theorem d8_span_47 : decode M8_span.2.1 47 = .ok (.goto 79, 3) := by decide +kernel
theorem d8_span_50 : decode M8_span.2.1 50 = .ok (.aload_n 0, 1) := by decide +kernel
theorem d8_span_51 : decode M8_span.2.1 51 = .ok (.getfield 36, 3) := by decide +kernel
theorem d8_span_54 : decode M8_span.2.1 54 = .ok (.sipush 364, 3) := by decide +kernel
theorem d8_span_57 : decode M8_span.2.1 57 = .ok (.iload_n 1, 1) := by decide +kernel
theorem d8_span_58 : decode M8_span.2.1 58 = .ok (.imul, 1) := by decide +kernel
theorem d8_span_59 : decode M8_span.2.1 59 = .ok (.iload 5, 2) := by decide +kernel
theorem d8_span_61 : decode M8_span.2.1 61 = .ok (.iadd, 1) := by decide +kernel
theorem d8_span_62 : decode M8_span.2.1 62 = .ok (.iaload, 1) := by decide +kernel
theorem d8_span_63 : decode M8_span.2.1 63 = .ok (.i2l, 1) := by decide +kernel
theorem d8_span_64 : decode M8_span.2.1 64 = .ok (.aload_n 0, 1) := by decide +kernel
theorem d8_span_65 : decode M8_span.2.1 65 = .ok (.aload_n 0, 1) := by decide +kernel
theorem d8_span_66 : decode M8_span.2.1 66 = .ok (.getfield 33, 3) := by decide +kernel
theorem d8_span_69 : decode M8_span.2.1 69 = .ok (.iload_n 1, 1) := by decide +kernel
theorem d8_span_70 : decode M8_span.2.1 70 = .ok (.iaload, 1) := by decide +kernel
theorem d8_span_71 : decode M8_span.2.1 71 = .ok (.invokevirtual 99, 3) := by decide +kernel
theorem d8_span_74 : decode M8_span.2.1 74 = .ok (.lmul, 1) := by decide +kernel
theorem d8_span_75 : decode M8_span.2.1 75 = .ok (.aload_n 0, 1) := by decide +kernel
theorem d8_span_76 : decode M8_span.2.1 76 = .ok (.aload_n 0, 1) := by decide +kernel
theorem d8_span_77 : decode M8_span.2.1 77 = .ok (.getfield 33, 3) := by decide +kernel
theorem d8_span_80 : decode M8_span.2.1 80 = .ok (.iload_n 1, 1) := by decide +kernel
theorem d8_span_81 : decode M8_span.2.1 81 = .ok (.iaload, 1) := by decide +kernel
theorem d8_span_82 : decode M8_span.2.1 82 = .ok (.iload 5, 2) := by decide +kernel
theorem d8_span_84 : decode M8_span.2.1 84 = .ok (.invokevirtual 95, 3) := by decide +kernel
theorem d8_span_87 : decode M8_span.2.1 87 = .ok (.ldiv, 1) := by decide +kernel
theorem d8_span_88 : decode M8_span.2.1 88 = .ok (.lstore 6, 2) := by decide +kernel
theorem d8_span_90 : decode M8_span.2.1 90 = .ok (.lload_n 3, 1) := by decide +kernel
theorem d8_span_91 : decode M8_span.2.1 91 = .ok (.ldc2_w 103, 3) := by decide +kernel
theorem d8_span_94 : decode M8_span.2.1 94 = .ok (.lcmp, 1) := by decide +kernel
theorem d8_span_95 : decode M8_span.2.1 95 = .ok (.ifCond .eq 24, 3) := by decide +kernel
theorem d8_span_98 : decode M8_span.2.1 98 = .ok (.iload_n 2, 1) := by decide +kernel
theorem d8_span_99 : decode M8_span.2.1 99 = .ok (.ifCond .ne 13, 3) := by decide +kernel
theorem d8_span_102 : decode M8_span.2.1 102 = .ok (.lload 6, 2) := by decide +kernel
theorem d8_span_104 : decode M8_span.2.1 104 = .ok (.lload_n 3, 1) := by decide +kernel
theorem d8_span_105 : decode M8_span.2.1 105 = .ok (.lcmp, 1) := by decide +kernel
theorem d8_span_106 : decode M8_span.2.1 106 = .ok (.ifCond .ge 18, 3) := by decide +kernel
theorem d8_span_109 : decode M8_span.2.1 109 = .ok (.goto 10, 3) := by decide +kernel
theorem d8_span_112 : decode M8_span.2.1 112 = .ok (.lload 6, 2) := by decide +kernel
theorem d8_span_114 : decode M8_span.2.1 114 = .ok (.lload_n 3, 1) := by decide +kernel
theorem d8_span_115 : decode M8_span.2.1 115 = .ok (.lcmp, 1) := by decide +kernel
theorem d8_span_116 : decode M8_span.2.1 116 = .ok (.ifCond .le 8, 3) := by decide +kernel
theorem d8_span_119 : decode M8_span.2.1 119 = .ok (.lload 6, 2) := by decide +kernel
theorem d8_span_121 : decode M8_span.2.1 121 = .ok (.goto 4, 3) := by decide +kernel
theorem d8_span_124 : decode M8_span.2.1 124 = .ok (.lload_n 3, 1) := by decide +kernel
theorem d8_span_125 : decode M8_span.2.1 125 = .ok (.lstore_n 3, 1) := by decide +kernel
theorem d8_span_126 : decode M8_span.2.1 126 = .ok (.iinc 5 1, 3) := by decide +kernel
theorem d8_span_129 : decode M8_span.2.1 129 = .ok (.goto (-100), 3) := by decide +kernel
theorem d8_span_132 : decode M8_span.2.1 132 = .ok (.lload_n 3, 1) := by decide +kernel
theorem d8_span_133 : decode M8_span.2.1 133 = .ok (.lreturn, 1) := by decide +kernel
theorem d8_misfit_0 : decode M8_misfit.2.1 0 = .ok (.aload_n 0, 1) := by decide +kernel
theorem d8_misfit_1 : decode M8_misfit.2.1 1 = .ok (.iload_n 1, 1) := by decide +kernel
theorem d8_misfit_2 : decode M8_misfit.2.1 2 = .ok (.iload_n 2, 1) := by decide +kernel
theorem d8_misfit_3 : decode M8_misfit.2.1 3 = .ok (.invokevirtual 124, 3) := by decide +kernel
theorem d8_misfit_6 : decode M8_misfit.2.1 6 = .ok (.lstore_n 3, 1) := by decide +kernel
theorem d8_misfit_7 : decode M8_misfit.2.1 7 = .ok (.aload_n 0, 1) := by decide +kernel
theorem d8_misfit_8 : decode M8_misfit.2.1 8 = .ok (.iload_n 1, 1) := by decide +kernel
theorem d8_misfit_9 : decode M8_misfit.2.1 9 = .ok (.invokevirtual 121, 3) := by decide +kernel
theorem d8_misfit_12 : decode M8_misfit.2.1 12 = .ok (.lstore 5, 2) := by decide +kernel
theorem d8_misfit_14 : decode M8_misfit.2.1 14 = .ok (.lconst 0, 1) := by decide +kernel
theorem d8_misfit_15 : decode M8_misfit.2.1 15 = .ok (.lstore 7, 2) := by decide +kernel
theorem d8_misfit_17 : decode M8_misfit.2.1 17 = .ok (.iconst 0, 1) := by decide +kernel
theorem d8_misfit_18 : decode M8_misfit.2.1 18 = .ok (.istore 9, 2) := by decide +kernel
theorem d8_misfit_20 : decode M8_misfit.2.1 20 = .ok (.iload 9, 2) := by decide +kernel
theorem d8_misfit_22 : decode M8_misfit.2.1 22 = .ok (.sipush 364, 3) := by decide +kernel
theorem d8_misfit_25 : decode M8_misfit.2.1 25 = .ok (.if_icmp .ge 58, 3) := by decide +kernel
theorem d8_misfit_28 : decode M8_misfit.2.1 28 = .ok (.lload 7, 2) := by decide +kernel
theorem d8_misfit_30 : decode M8_misfit.2.1 30 = .ok (.aload_n 0, 1) := by decide +kernel
theorem d8_misfit_31 : decode M8_misfit.2.1 31 = .ok (.iload_n 1, 1) := by decide +kernel
theorem d8_misfit_32 : decode M8_misfit.2.1 32 = .ok (.iload 9, 2) := by decide +kernel
theorem d8_misfit_34 : decode M8_misfit.2.1 34 = .ok (.invokevirtual 117, 3) := by decide +kernel
theorem d8_misfit_37 : decode M8_misfit.2.1 37 = .ok (.ifCond .eq 36, 3) := by decide +kernel
theorem d8_misfit_40 : decode M8_misfit.2.1 40 = .ok (.aload_n 0, 1) := by decide +kernel
theorem d8_misfit_41 : decode M8_misfit.2.1 41 = .ok (.getfield 36, 3) := by decide +kernel
theorem d8_misfit_44 : decode M8_misfit.2.1 44 = .ok (.sipush 364, 3) := by decide +kernel
theorem d8_misfit_47 : decode M8_misfit.2.1 47 = .ok (.iload_n 1, 1) := by decide +kernel
theorem d8_misfit_48 : decode M8_misfit.2.1 48 = .ok (.imul, 1) := by decide +kernel
theorem d8_misfit_49 : decode M8_misfit.2.1 49 = .ok (.iload 9, 2) := by decide +kernel
theorem d8_misfit_51 : decode M8_misfit.2.1 51 = .ok (.iadd, 1) := by decide +kernel
theorem d8_misfit_52 : decode M8_misfit.2.1 52 = .ok (.iaload, 1) := by decide +kernel
theorem d8_misfit_53 : decode M8_misfit.2.1 53 = .ok (.i2l, 1) := by decide +kernel
theorem d8_misfit_54 : decode M8_misfit.2.1 54 = .ok (.lload_n 3, 1) := by decide +kernel
theorem d8_misfit_55 : decode M8_misfit.2.1 55 = .ok (.lmul, 1) := by decide +kernel
theorem d8_misfit_56 : decode M8_misfit.2.1 56 = .ok (.aload_n 0, 1) := by decide +kernel
theorem d8_misfit_57 : decode M8_misfit.2.1 57 = .ok (.iload_n 2, 1) := by decide +kernel
theorem d8_misfit_58 : decode M8_misfit.2.1 58 = .ok (.iload 9, 2) := by decide +kernel
theorem d8_misfit_60 : decode M8_misfit.2.1 60 = .ok (.invokevirtual 95, 3) := by decide +kernel
theorem d8_misfit_63 : decode M8_misfit.2.1 63 = .ok (.lload 5, 2) := by decide +kernel
theorem d8_misfit_65 : decode M8_misfit.2.1 65 = .ok (.lmul, 1) := by decide +kernel
theorem d8_misfit_66 : decode M8_misfit.2.1 66 = .ok (.lsub, 1) := by decide +kernel
theorem d8_misfit_67 : decode M8_misfit.2.1 67 = .ok (.invokestatic 134, 3) := by decide +kernel
theorem d8_misfit_70 : decode M8_misfit.2.1 70 = .ok (.goto 4, 3) := by decide +kernel
theorem d8_misfit_73 : decode M8_misfit.2.1 73 = .ok (.lconst 0, 1) := by decide +kernel
theorem d8_misfit_74 : decode M8_misfit.2.1 74 = .ok (.ladd, 1) := by decide +kernel
theorem d8_misfit_75 : decode M8_misfit.2.1 75 = .ok (.lstore 7, 2) := by decide +kernel
theorem d8_misfit_77 : decode M8_misfit.2.1 77 = .ok (.iinc 9 1, 3) := by decide +kernel
theorem d8_misfit_80 : decode M8_misfit.2.1 80 = .ok (.goto (-60), 3) := by decide +kernel
theorem d8_misfit_83 : decode M8_misfit.2.1 83 = .ok (.lload 7, 2) := by decide +kernel
theorem d8_misfit_85 : decode M8_misfit.2.1 85 = .ok (.lreturn, 1) := by decide +kernel
theorem d8_best_0 : decode M8_best.2.1 0 = .ok (.aload_n 0, 1) := by decide +kernel
theorem d8_best_1 : decode M8_best.2.1 1 = .ok (.iload_n 1, 1) := by decide +kernel
theorem d8_best_2 : decode M8_best.2.1 2 = .ok (.invokevirtual 112, 3) := by decide +kernel
theorem d8_best_5 : decode M8_best.2.1 5 = .ok (.ifCond .eq 11, 3) := by decide +kernel
theorem d8_best_8 : decode M8_best.2.1 8 = .ok (.aload_n 0, 1) := by decide +kernel
theorem d8_best_9 : decode M8_best.2.1 9 = .ok (.iload_n 1, 1) := by decide +kernel
theorem d8_best_10 : decode M8_best.2.1 10 = .ok (.invokevirtual 127, 3) := by decide +kernel
theorem d8_best_13 : decode M8_best.2.1 13 = .ok (.ifCond .ne 5, 3) := by decide +kernel
theorem d8_best_16 : decode M8_best.2.1 16 = .ok (.iconst (-1), 1) := by decide +kernel
theorem d8_best_17 : decode M8_best.2.1 17 = .ok (.ireturn, 1) := by decide +kernel
theorem d8_best_18 : decode M8_best.2.1 18 = .ok (.iconst 0, 1) := by decide +kernel
theorem d8_best_19 : decode M8_best.2.1 19 = .ok (.istore_n 2, 1) := by decide +kernel
theorem d8_best_20 : decode M8_best.2.1 20 = .ok (.iconst 1, 1) := by decide +kernel
theorem d8_best_21 : decode M8_best.2.1 21 = .ok (.istore_n 3, 1) := by decide +kernel
theorem d8_best_22 : decode M8_best.2.1 22 = .ok (.iload_n 3, 1) := by decide +kernel
theorem d8_best_23 : decode M8_best.2.1 23 = .ok (.iconst 4, 1) := by decide +kernel
theorem d8_best_24 : decode M8_best.2.1 24 = .ok (.if_icmp .ge 41, 3) := by decide +kernel
theorem d8_best_27 : decode M8_best.2.1 27 = .ok (.aload_n 0, 1) := by decide +kernel
theorem d8_best_28 : decode M8_best.2.1 28 = .ok (.iload_n 1, 1) := by decide +kernel
theorem d8_best_29 : decode M8_best.2.1 29 = .ok (.iload_n 3, 1) := by decide +kernel
theorem d8_best_30 : decode M8_best.2.1 30 = .ok (.invokevirtual 138, 3) := by decide +kernel
theorem d8_best_33 : decode M8_best.2.1 33 = .ok (.aload_n 0, 1) := by decide +kernel
theorem d8_best_34 : decode M8_best.2.1 34 = .ok (.iload_n 1, 1) := by decide +kernel
theorem d8_best_35 : decode M8_best.2.1 35 = .ok (.iload_n 2, 1) := by decide +kernel
theorem d8_best_36 : decode M8_best.2.1 36 = .ok (.invokevirtual 124, 3) := by decide +kernel
theorem d8_best_39 : decode M8_best.2.1 39 = .ok (.lmul, 1) := by decide +kernel
theorem d8_best_40 : decode M8_best.2.1 40 = .ok (.aload_n 0, 1) := by decide +kernel
theorem d8_best_41 : decode M8_best.2.1 41 = .ok (.iload_n 1, 1) := by decide +kernel
theorem d8_best_42 : decode M8_best.2.1 42 = .ok (.iload_n 2, 1) := by decide +kernel
theorem d8_best_43 : decode M8_best.2.1 43 = .ok (.invokevirtual 138, 3) := by decide +kernel
theorem d8_best_46 : decode M8_best.2.1 46 = .ok (.aload_n 0, 1) := by decide +kernel
theorem d8_best_47 : decode M8_best.2.1 47 = .ok (.iload_n 1, 1) := by decide +kernel
theorem d8_best_48 : decode M8_best.2.1 48 = .ok (.iload_n 3, 1) := by decide +kernel
theorem d8_best_49 : decode M8_best.2.1 49 = .ok (.invokevirtual 124, 3) := by decide +kernel
theorem d8_best_52 : decode M8_best.2.1 52 = .ok (.lmul, 1) := by decide +kernel
theorem d8_best_53 : decode M8_best.2.1 53 = .ok (.lcmp, 1) := by decide +kernel
theorem d8_best_54 : decode M8_best.2.1 54 = .ok (.ifCond .ge 5, 3) := by decide +kernel
theorem d8_best_57 : decode M8_best.2.1 57 = .ok (.iload_n 3, 1) := by decide +kernel
theorem d8_best_58 : decode M8_best.2.1 58 = .ok (.istore_n 2, 1) := by decide +kernel
theorem d8_best_59 : decode M8_best.2.1 59 = .ok (.iinc 3 1, 3) := by decide +kernel
theorem d8_best_62 : decode M8_best.2.1 62 = .ok (.goto (-40), 3) := by decide +kernel
theorem d8_best_65 : decode M8_best.2.1 65 = .ok (.iload_n 2, 1) := by decide +kernel
theorem d8_best_66 : decode M8_best.2.1 66 = .ok (.ireturn, 1) := by decide +kernel
theorem d8_roadsAt_0 : decode M8_roadsAt.2.1 0 = .ok (.iconst 0, 1) := by decide +kernel
theorem d8_roadsAt_1 : decode M8_roadsAt.2.1 1 = .ok (.istore_n 2, 1) := by decide +kernel
theorem d8_roadsAt_2 : decode M8_roadsAt.2.1 2 = .ok (.iconst 0, 1) := by decide +kernel
theorem d8_roadsAt_3 : decode M8_roadsAt.2.1 3 = .ok (.istore_n 3, 1) := by decide +kernel
theorem d8_roadsAt_4 : decode M8_roadsAt.2.1 4 = .ok (.iload_n 3, 1) := by decide +kernel
theorem d8_roadsAt_5 : decode M8_roadsAt.2.1 5 = .ok (.aload_n 0, 1) := by decide +kernel
theorem d8_roadsAt_6 : decode M8_roadsAt.2.1 6 = .ok (.getfield 70, 3) := by decide +kernel
theorem d8_roadsAt_9 : decode M8_roadsAt.2.1 9 = .ok (.if_icmp .ge 39, 3) := by decide +kernel
theorem d8_roadsAt_12 : decode M8_roadsAt.2.1 12 = .ok (.iload_n 2, 1) := by decide +kernel
theorem d8_roadsAt_13 : decode M8_roadsAt.2.1 13 = .ok (.aload_n 0, 1) := by decide +kernel
theorem d8_roadsAt_14 : decode M8_roadsAt.2.1 14 = .ok (.getfield 24, 3) := by decide +kernel
theorem d8_roadsAt_17 : decode M8_roadsAt.2.1 17 = .ok (.iload_n 3, 1) := by decide +kernel
theorem d8_roadsAt_18 : decode M8_roadsAt.2.1 18 = .ok (.iaload, 1) := by decide +kernel
theorem d8_roadsAt_19 : decode M8_roadsAt.2.1 19 = .ok (.iload_n 1, 1) := by decide +kernel
theorem d8_roadsAt_20 : decode M8_roadsAt.2.1 20 = .ok (.if_icmp .eq 13, 3) := by decide +kernel
theorem d8_roadsAt_23 : decode M8_roadsAt.2.1 23 = .ok (.aload_n 0, 1) := by decide +kernel
theorem d8_roadsAt_24 : decode M8_roadsAt.2.1 24 = .ok (.getfield 27, 3) := by decide +kernel
theorem d8_roadsAt_27 : decode M8_roadsAt.2.1 27 = .ok (.iload_n 3, 1) := by decide +kernel
theorem d8_roadsAt_28 : decode M8_roadsAt.2.1 28 = .ok (.iaload, 1) := by decide +kernel
theorem d8_roadsAt_29 : decode M8_roadsAt.2.1 29 = .ok (.iload_n 1, 1) := by decide +kernel
theorem d8_roadsAt_30 : decode M8_roadsAt.2.1 30 = .ok (.if_icmp .ne 9, 3) := by decide +kernel
theorem d8_roadsAt_33 : decode M8_roadsAt.2.1 33 = .ok (.iconst 1, 1) := by decide +kernel
theorem d8_roadsAt_34 : decode M8_roadsAt.2.1 34 = .ok (.iload_n 3, 1) := by decide +kernel
theorem d8_roadsAt_35 : decode M8_roadsAt.2.1 35 = .ok (.ishl, 1) := by decide +kernel
theorem d8_roadsAt_36 : decode M8_roadsAt.2.1 36 = .ok (.goto 4, 3) := by decide +kernel
theorem d8_roadsAt_39 : decode M8_roadsAt.2.1 39 = .ok (.iconst 0, 1) := by decide +kernel
theorem d8_roadsAt_40 : decode M8_roadsAt.2.1 40 = .ok (.ior, 1) := by decide +kernel
theorem d8_roadsAt_41 : decode M8_roadsAt.2.1 41 = .ok (.istore_n 2, 1) := by decide +kernel
theorem d8_roadsAt_42 : decode M8_roadsAt.2.1 42 = .ok (.iinc 3 1, 3) := by decide +kernel
theorem d8_roadsAt_45 : decode M8_roadsAt.2.1 45 = .ok (.goto (-41), 3) := by decide +kernel
theorem d8_roadsAt_48 : decode M8_roadsAt.2.1 48 = .ok (.iload_n 2, 1) := by decide +kernel
theorem d8_roadsAt_49 : decode M8_roadsAt.2.1 49 = .ok (.ireturn, 1) := by decide +kernel
theorem d8_knownRoads_0 : decode M8_knownRoads.2.1 0 = .ok (.iconst 0, 1) := by decide +kernel
theorem d8_knownRoads_1 : decode M8_knownRoads.2.1 1 = .ok (.istore_n 1, 1) := by decide +kernel
theorem d8_knownRoads_2 : decode M8_knownRoads.2.1 2 = .ok (.iconst 0, 1) := by decide +kernel
theorem d8_knownRoads_3 : decode M8_knownRoads.2.1 3 = .ok (.istore_n 2, 1) := by decide +kernel
theorem d8_knownRoads_4 : decode M8_knownRoads.2.1 4 = .ok (.iload_n 2, 1) := by decide +kernel
theorem d8_knownRoads_5 : decode M8_knownRoads.2.1 5 = .ok (.aload_n 0, 1) := by decide +kernel
theorem d8_knownRoads_6 : decode M8_knownRoads.2.1 6 = .ok (.getfield 70, 3) := by decide +kernel
theorem d8_knownRoads_9 : decode M8_knownRoads.2.1 9 = .ok (.if_icmp .ge 27, 3) := by decide +kernel
theorem d8_knownRoads_12 : decode M8_knownRoads.2.1 12 = .ok (.iload_n 1, 1) := by decide +kernel
theorem d8_knownRoads_13 : decode M8_knownRoads.2.1 13 = .ok (.aload_n 0, 1) := by decide +kernel
theorem d8_knownRoads_14 : decode M8_knownRoads.2.1 14 = .ok (.iload_n 2, 1) := by decide +kernel
theorem d8_knownRoads_15 : decode M8_knownRoads.2.1 15 = .ok (.invokevirtual 127, 3) := by decide +kernel
theorem d8_knownRoads_18 : decode M8_knownRoads.2.1 18 = .ok (.ifCond .le 9, 3) := by decide +kernel
theorem d8_knownRoads_21 : decode M8_knownRoads.2.1 21 = .ok (.iconst 1, 1) := by decide +kernel
theorem d8_knownRoads_22 : decode M8_knownRoads.2.1 22 = .ok (.iload_n 2, 1) := by decide +kernel
theorem d8_knownRoads_23 : decode M8_knownRoads.2.1 23 = .ok (.ishl, 1) := by decide +kernel
theorem d8_knownRoads_24 : decode M8_knownRoads.2.1 24 = .ok (.goto 4, 3) := by decide +kernel
theorem d8_knownRoads_27 : decode M8_knownRoads.2.1 27 = .ok (.iconst 0, 1) := by decide +kernel
theorem d8_knownRoads_28 : decode M8_knownRoads.2.1 28 = .ok (.ior, 1) := by decide +kernel
theorem d8_knownRoads_29 : decode M8_knownRoads.2.1 29 = .ok (.istore_n 1, 1) := by decide +kernel
theorem d8_knownRoads_30 : decode M8_knownRoads.2.1 30 = .ok (.iinc 2 1, 3) := by decide +kernel
theorem d8_knownRoads_33 : decode M8_knownRoads.2.1 33 = .ok (.goto (-29), 3) := by decide +kernel
theorem d8_knownRoads_36 : decode M8_knownRoads.2.1 36 = .ok (.iload_n 1, 1) := by decide +kernel
theorem d8_knownRoads_37 : decode M8_knownRoads.2.1 37 = .ok (.ireturn, 1) := by decide +kernel
theorem d8_excess_0 : decode M8_excess.2.1 0 = .ok (.lconst 0, 1) := by decide +kernel
theorem d8_excess_1 : decode M8_excess.2.1 1 = .ok (.lstore_n 3, 1) := by decide +kernel
theorem d8_excess_2 : decode M8_excess.2.1 2 = .ok (.iconst 0, 1) := by decide +kernel
theorem d8_excess_3 : decode M8_excess.2.1 3 = .ok (.istore 5, 2) := by decide +kernel
theorem d8_excess_5 : decode M8_excess.2.1 5 = .ok (.iload 5, 2) := by decide +kernel
theorem d8_excess_7 : decode M8_excess.2.1 7 = .ok (.aload_n 0, 1) := by decide +kernel
theorem d8_excess_8 : decode M8_excess.2.1 8 = .ok (.getfield 70, 3) := by decide +kernel
theorem d8_excess_11 : decode M8_excess.2.1 11 = .ok (.if_icmp .ge 68, 3) := by decide +kernel
theorem d8_excess_14 : decode M8_excess.2.1 14 = .ok (.iload_n 2, 1) := by decide +kernel
theorem d8_excess_15 : decode M8_excess.2.1 15 = .ok (.iload 5, 2) := by decide +kernel
theorem d8_excess_17 : decode M8_excess.2.1 17 = .ok (.invokestatic 141, 3) := by decide +kernel
theorem d8_excess_20 : decode M8_excess.2.1 20 = .ok (.ifCond .ne 6, 3) := by decide +kernel
theorem d8_excess_23 : decode M8_excess.2.1 23 = .ok (.goto 50, 3) := by decide +kernel
theorem d8_excess_26 : decode M8_excess.2.1 26 = .ok (.lload_n 3, 1) := by decide +kernel
theorem d8_excess_27 : decode M8_excess.2.1 27 = .ok (.aload_n 0, 1) := by decide +kernel
theorem d8_excess_28 : decode M8_excess.2.1 28 = .ok (.getfield 27, 3) := by decide +kernel
theorem d8_excess_31 : decode M8_excess.2.1 31 = .ok (.iload 5, 2) := by decide +kernel
theorem d8_excess_33 : decode M8_excess.2.1 33 = .ok (.iaload, 1) := by decide +kernel
theorem d8_excess_34 : decode M8_excess.2.1 34 = .ok (.iload_n 1, 1) := by decide +kernel
theorem d8_excess_35 : decode M8_excess.2.1 35 = .ok (.if_icmp .ne 13, 3) := by decide +kernel
theorem d8_excess_38 : decode M8_excess.2.1 38 = .ok (.aload_n 0, 1) := by decide +kernel
theorem d8_excess_39 : decode M8_excess.2.1 39 = .ok (.getfield 63, 3) := by decide +kernel
theorem d8_excess_42 : decode M8_excess.2.1 42 = .ok (.iload 5, 2) := by decide +kernel
theorem d8_excess_44 : decode M8_excess.2.1 44 = .ok (.laload, 1) := by decide +kernel
theorem d8_excess_45 : decode M8_excess.2.1 45 = .ok (.goto 26, 3) := by decide +kernel
theorem d8_excess_48 : decode M8_excess.2.1 48 = .ok (.aload_n 0, 1) := by decide +kernel
theorem d8_excess_49 : decode M8_excess.2.1 49 = .ok (.getfield 24, 3) := by decide +kernel
theorem d8_excess_52 : decode M8_excess.2.1 52 = .ok (.iload 5, 2) := by decide +kernel
theorem d8_excess_54 : decode M8_excess.2.1 54 = .ok (.iaload, 1) := by decide +kernel
theorem d8_excess_55 : decode M8_excess.2.1 55 = .ok (.iload_n 1, 1) := by decide +kernel
theorem d8_excess_56 : decode M8_excess.2.1 56 = .ok (.if_icmp .ne 14, 3) := by decide +kernel
theorem d8_excess_59 : decode M8_excess.2.1 59 = .ok (.aload_n 0, 1) := by decide +kernel
theorem d8_excess_60 : decode M8_excess.2.1 60 = .ok (.getfield 63, 3) := by decide +kernel
theorem d8_excess_63 : decode M8_excess.2.1 63 = .ok (.iload 5, 2) := by decide +kernel
theorem d8_excess_65 : decode M8_excess.2.1 65 = .ok (.laload, 1) := by decide +kernel
theorem d8_excess_66 : decode M8_excess.2.1 66 = .ok (.lneg, 1) := by decide +kernel
theorem d8_excess_67 : decode M8_excess.2.1 67 = .ok (.goto 4, 3) := by decide +kernel
theorem d8_excess_70 : decode M8_excess.2.1 70 = .ok (.lconst 0, 1) := by decide +kernel
theorem d8_excess_71 : decode M8_excess.2.1 71 = .ok (.ladd, 1) := by decide +kernel
theorem d8_excess_72 : decode M8_excess.2.1 72 = .ok (.lstore_n 3, 1) := by decide +kernel
theorem d8_excess_73 : decode M8_excess.2.1 73 = .ok (.iinc 5 1, 3) := by decide +kernel
theorem d8_excess_76 : decode M8_excess.2.1 76 = .ok (.goto (-71), 3) := by decide +kernel
theorem d8_excess_79 : decode M8_excess.2.1 79 = .ok (.lload_n 3, 1) := by decide +kernel
theorem d8_excess_80 : decode M8_excess.2.1 80 = .ok (.lreturn, 1) := by decide +kernel
theorem d8_grows_0 : decode M8_grows.2.1 0 = .ok (.iload_n 1, 1) := by decide +kernel
theorem d8_grows_1 : decode M8_grows.2.1 1 = .ok (.istore_n 2, 1) := by decide +kernel
theorem d8_grows_2 : decode M8_grows.2.1 2 = .ok (.iconst (-1), 1) := by decide +kernel
theorem d8_grows_3 : decode M8_grows.2.1 3 = .ok (.istore_n 3, 1) := by decide +kernel
theorem d8_grows_4 : decode M8_grows.2.1 4 = .ok (.iload_n 3, 1) := by decide +kernel
theorem d8_grows_5 : decode M8_grows.2.1 5 = .ok (.iload_n 2, 1) := by decide +kernel
theorem d8_grows_6 : decode M8_grows.2.1 6 = .ok (.if_icmp .eq 109, 3) := by decide +kernel
theorem d8_grows_9 : decode M8_grows.2.1 9 = .ok (.iload_n 2, 1) := by decide +kernel
theorem d8_grows_10 : decode M8_grows.2.1 10 = .ok (.istore_n 3, 1) := by decide +kernel
theorem d8_grows_11 : decode M8_grows.2.1 11 = .ok (.iconst 0, 1) := by decide +kernel
theorem d8_grows_12 : decode M8_grows.2.1 12 = .ok (.istore 4, 2) := by decide +kernel
theorem d8_grows_14 : decode M8_grows.2.1 14 = .ok (.iload 4, 2) := by decide +kernel
theorem d8_grows_16 : decode M8_grows.2.1 16 = .ok (.bipush 8, 2) := by decide +kernel
theorem d8_grows_18 : decode M8_grows.2.1 18 = .ok (.if_icmp .ge 94, 3) := by decide +kernel
theorem d8_grows_21 : decode M8_grows.2.1 21 = .ok (.aload_n 0, 1) := by decide +kernel
theorem d8_grows_22 : decode M8_grows.2.1 22 = .ok (.iload 4, 2) := by decide +kernel
theorem d8_grows_24 : decode M8_grows.2.1 24 = .ok (.invokevirtual 144, 3) := by decide +kernel
theorem d8_grows_27 : decode M8_grows.2.1 27 = .ok (.iload_n 2, 1) := by decide +kernel
theorem d8_grows_28 : decode M8_grows.2.1 28 = .ok (.iconst (-1), 1) := by decide +kernel
theorem d8_grows_29 : decode M8_grows.2.1 29 = .ok (.ixor, 1) := by decide +kernel
theorem d8_grows_30 : decode M8_grows.2.1 30 = .ok (.iand, 1) := by decide +kernel
theorem d8_grows_31 : decode M8_grows.2.1 31 = .ok (.istore 5, 2) := by decide +kernel
theorem d8_grows_33 : decode M8_grows.2.1 33 = .ok (.iload 5, 2) := by decide +kernel
theorem d8_grows_35 : decode M8_grows.2.1 35 = .ok (.invokestatic 147, 3) := by decide +kernel
theorem d8_grows_38 : decode M8_grows.2.1 38 = .ok (.iconst 1, 1) := by decide +kernel
theorem d8_grows_39 : decode M8_grows.2.1 39 = .ok (.if_icmp .eq 6, 3) := by decide +kernel
theorem d8_grows_42 : decode M8_grows.2.1 42 = .ok (.goto 64, 3) := by decide +kernel
theorem d8_grows_45 : decode M8_grows.2.1 45 = .ok (.iconst 0, 1) := by decide +kernel
theorem d8_grows_46 : decode M8_grows.2.1 46 = .ok (.istore 6, 2) := by decide +kernel
theorem d8_grows_48 : decode M8_grows.2.1 48 = .ok (.iload 5, 2) := by decide +kernel
theorem d8_grows_50 : decode M8_grows.2.1 50 = .ok (.iload 6, 2) := by decide +kernel
theorem d8_grows_52 : decode M8_grows.2.1 52 = .ok (.invokestatic 141, 3) := by decide +kernel
theorem d8_grows_55 : decode M8_grows.2.1 55 = .ok (.ifCond .ne 9, 3) := by decide +kernel
theorem d8_grows_58 : decode M8_grows.2.1 58 = .ok (.iinc 6 1, 3) := by decide +kernel
theorem d8_grows_61 : decode M8_grows.2.1 61 = .ok (.goto (-13), 3) := by decide +kernel
theorem d8_grows_64 : decode M8_grows.2.1 64 = .ok (.aload_n 0, 1) := by decide +kernel
theorem d8_grows_65 : decode M8_grows.2.1 65 = .ok (.getfield 63, 3) := by decide +kernel
theorem d8_grows_68 : decode M8_grows.2.1 68 = .ok (.iload 6, 2) := by decide +kernel
theorem d8_grows_70 : decode M8_grows.2.1 70 = .ok (.aload_n 0, 1) := by decide +kernel
theorem d8_grows_71 : decode M8_grows.2.1 71 = .ok (.getfield 27, 3) := by decide +kernel
theorem d8_grows_74 : decode M8_grows.2.1 74 = .ok (.iload 6, 2) := by decide +kernel
theorem d8_grows_76 : decode M8_grows.2.1 76 = .ok (.iaload, 1) := by decide +kernel
theorem d8_grows_77 : decode M8_grows.2.1 77 = .ok (.iload 4, 2) := by decide +kernel
theorem d8_grows_79 : decode M8_grows.2.1 79 = .ok (.if_icmp .ne 14, 3) := by decide +kernel
theorem d8_grows_82 : decode M8_grows.2.1 82 = .ok (.aload_n 0, 1) := by decide +kernel
theorem d8_grows_83 : decode M8_grows.2.1 83 = .ok (.iload 4, 2) := by decide +kernel
theorem d8_grows_85 : decode M8_grows.2.1 85 = .ok (.iload_n 2, 1) := by decide +kernel
theorem d8_grows_86 : decode M8_grows.2.1 86 = .ok (.invokevirtual 150, 3) := by decide +kernel
theorem d8_grows_89 : decode M8_grows.2.1 89 = .ok (.lneg, 1) := by decide +kernel
theorem d8_grows_90 : decode M8_grows.2.1 90 = .ok (.goto 10, 3) := by decide +kernel
theorem d8_grows_93 : decode M8_grows.2.1 93 = .ok (.aload_n 0, 1) := by decide +kernel
theorem d8_grows_94 : decode M8_grows.2.1 94 = .ok (.iload 4, 2) := by decide +kernel
theorem d8_grows_96 : decode M8_grows.2.1 96 = .ok (.iload_n 2, 1) := by decide +kernel
theorem d8_grows_97 : decode M8_grows.2.1 97 = .ok (.invokevirtual 150, 3) := by decide +kernel
theorem d8_grows_100 : decode M8_grows.2.1 100 = .ok (.lastore, 1) := by decide +kernel
theorem d8_grows_101 : decode M8_grows.2.1 101 = .ok (.iload_n 2, 1) := by decide +kernel
theorem d8_grows_102 : decode M8_grows.2.1 102 = .ok (.iload 5, 2) := by decide +kernel
theorem d8_grows_104 : decode M8_grows.2.1 104 = .ok (.ior, 1) := by decide +kernel
theorem d8_grows_105 : decode M8_grows.2.1 105 = .ok (.istore_n 2, 1) := by decide +kernel
theorem d8_grows_106 : decode M8_grows.2.1 106 = .ok (.iinc 4 1, 3) := by decide +kernel
theorem d8_grows_109 : decode M8_grows.2.1 109 = .ok (.goto (-95), 3) := by decide +kernel
theorem d8_grows_112 : decode M8_grows.2.1 112 = .ok (.goto (-108), 3) := by decide +kernel
theorem d8_grows_115 : decode M8_grows.2.1 115 = .ok (.iload_n 2, 1) := by decide +kernel
theorem d8_grows_116 : decode M8_grows.2.1 116 = .ok (.ireturn, 1) := by decide +kernel
theorem d8_works_0 : decode M8_works.2.1 0 = .ok (.aload_n 0, 1) := by decide +kernel
theorem d8_works_1 : decode M8_works.2.1 1 = .ok (.invokevirtual 153, 3) := by decide +kernel
theorem d8_works_4 : decode M8_works.2.1 4 = .ok (.istore_n 1, 1) := by decide +kernel
theorem d8_works_5 : decode M8_works.2.1 5 = .ok (.iconst 0, 1) := by decide +kernel
theorem d8_works_6 : decode M8_works.2.1 6 = .ok (.istore_n 2, 1) := by decide +kernel
theorem d8_works_7 : decode M8_works.2.1 7 = .ok (.iload_n 2, 1) := by decide +kernel
theorem d8_works_8 : decode M8_works.2.1 8 = .ok (.aload_n 0, 1) := by decide +kernel
theorem d8_works_9 : decode M8_works.2.1 9 = .ok (.getfield 70, 3) := by decide +kernel
theorem d8_works_12 : decode M8_works.2.1 12 = .ok (.if_icmp .ge 32, 3) := by decide +kernel
theorem d8_works_15 : decode M8_works.2.1 15 = .ok (.aload_n 0, 1) := by decide +kernel
theorem d8_works_16 : decode M8_works.2.1 16 = .ok (.getfield 63, 3) := by decide +kernel
theorem d8_works_19 : decode M8_works.2.1 19 = .ok (.iload_n 2, 1) := by decide +kernel
theorem d8_works_20 : decode M8_works.2.1 20 = .ok (.iload_n 1, 1) := by decide +kernel
theorem d8_works_21 : decode M8_works.2.1 21 = .ok (.iload_n 2, 1) := by decide +kernel
theorem d8_works_22 : decode M8_works.2.1 22 = .ok (.invokestatic 141, 3) := by decide +kernel
theorem d8_works_25 : decode M8_works.2.1 25 = .ok (.ifCond .eq 11, 3) := by decide +kernel
theorem d8_works_28 : decode M8_works.2.1 28 = .ok (.aload_n 0, 1) := by decide +kernel
theorem d8_works_29 : decode M8_works.2.1 29 = .ok (.iload_n 2, 1) := by decide +kernel
theorem d8_works_30 : decode M8_works.2.1 30 = .ok (.invokevirtual 131, 3) := by decide +kernel
theorem d8_works_33 : decode M8_works.2.1 33 = .ok (.goto 4, 3) := by decide +kernel
theorem d8_works_36 : decode M8_works.2.1 36 = .ok (.lconst 0, 1) := by decide +kernel
theorem d8_works_37 : decode M8_works.2.1 37 = .ok (.lastore, 1) := by decide +kernel
theorem d8_works_38 : decode M8_works.2.1 38 = .ok (.iinc 2 1, 3) := by decide +kernel
theorem d8_works_41 : decode M8_works.2.1 41 = .ok (.goto (-34), 3) := by decide +kernel
theorem d8_works_44 : decode M8_works.2.1 44 = .ok (.aload_n 0, 1) := by decide +kernel
theorem d8_works_45 : decode M8_works.2.1 45 = .ok (.iload_n 1, 1) := by decide +kernel
theorem d8_works_46 : decode M8_works.2.1 46 = .ok (.invokevirtual 157, 3) := by decide +kernel
theorem d8_works_49 : decode M8_works.2.1 49 = .ok (.ireturn, 1) := by decide +kernel
theorem d8_how_0 : decode M8_how.2.1 0 = .ok (.aload_n 0, 1) := by decide +kernel
theorem d8_how_1 : decode M8_how.2.1 1 = .ok (.iload_n 1, 1) := by decide +kernel
theorem d8_how_2 : decode M8_how.2.1 2 = .ok (.invokevirtual 112, 3) := by decide +kernel
theorem d8_how_5 : decode M8_how.2.1 5 = .ok (.ifCond .ne 5, 3) := by decide +kernel
theorem d8_how_8 : decode M8_how.2.1 8 = .ok (.iconst (-1), 1) := by decide +kernel
theorem d8_how_9 : decode M8_how.2.1 9 = .ok (.ireturn, 1) := by decide +kernel
theorem d8_how_10 : decode M8_how.2.1 10 = .ok (.aload_n 0, 1) := by decide +kernel
theorem d8_how_11 : decode M8_how.2.1 11 = .ok (.invokevirtual 153, 3) := by decide +kernel
theorem d8_how_14 : decode M8_how.2.1 14 = .ok (.iload_n 1, 1) := by decide +kernel
theorem d8_how_15 : decode M8_how.2.1 15 = .ok (.invokestatic 141, 3) := by decide +kernel
theorem d8_how_18 : decode M8_how.2.1 18 = .ok (.ifCond .eq 7, 3) := by decide +kernel
theorem d8_how_21 : decode M8_how.2.1 21 = .ok (.iconst 0, 1) := by decide +kernel
theorem d8_how_22 : decode M8_how.2.1 22 = .ok (.goto 19, 3) := by decide +kernel
theorem d8_how_25 : decode M8_how.2.1 25 = .ok (.aload_n 0, 1) := by decide +kernel
theorem d8_how_26 : decode M8_how.2.1 26 = .ok (.invokevirtual 160, 3) := by decide +kernel
theorem d8_how_29 : decode M8_how.2.1 29 = .ok (.iload_n 1, 1) := by decide +kernel
theorem d8_how_30 : decode M8_how.2.1 30 = .ok (.invokestatic 141, 3) := by decide +kernel
theorem d8_how_33 : decode M8_how.2.1 33 = .ok (.ifCond .eq 7, 3) := by decide +kernel
theorem d8_how_36 : decode M8_how.2.1 36 = .ok (.iconst 1, 1) := by decide +kernel
theorem d8_how_37 : decode M8_how.2.1 37 = .ok (.goto 4, 3) := by decide +kernel
theorem d8_how_40 : decode M8_how.2.1 40 = .ok (.iconst 2, 1) := by decide +kernel
theorem d8_how_41 : decode M8_how.2.1 41 = .ok (.ireturn, 1) := by decide +kernel
theorem d8_load_0 : decode M8_load.2.1 0 = .ok (.aload_n 0, 1) := by decide +kernel
theorem d8_load_1 : decode M8_load.2.1 1 = .ok (.iload_n 1, 1) := by decide +kernel
theorem d8_load_2 : decode M8_load.2.1 2 = .ok (.invokevirtual 112, 3) := by decide +kernel
theorem d8_load_5 : decode M8_load.2.1 5 = .ok (.ifCond .eq 23, 3) := by decide +kernel
theorem d8_load_8 : decode M8_load.2.1 8 = .ok (.aload_n 0, 1) := by decide +kernel
theorem d8_load_9 : decode M8_load.2.1 9 = .ok (.invokevirtual 160, 3) := by decide +kernel
theorem d8_load_12 : decode M8_load.2.1 12 = .ok (.iload_n 1, 1) := by decide +kernel
theorem d8_load_13 : decode M8_load.2.1 13 = .ok (.invokestatic 141, 3) := by decide +kernel
theorem d8_load_16 : decode M8_load.2.1 16 = .ok (.ifCond .eq 12, 3) := by decide +kernel
theorem d8_load_19 : decode M8_load.2.1 19 = .ok (.aload_n 0, 1) := by decide +kernel
theorem d8_load_20 : decode M8_load.2.1 20 = .ok (.getfield 63, 3) := by decide +kernel
theorem d8_load_23 : decode M8_load.2.1 23 = .ok (.iload_n 1, 1) := by decide +kernel
theorem d8_load_24 : decode M8_load.2.1 24 = .ok (.laload, 1) := by decide +kernel
theorem d8_load_25 : decode M8_load.2.1 25 = .ok (.goto 4, 3) := by decide +kernel
theorem d8_load_28 : decode M8_load.2.1 28 = .ok (.lconst 0, 1) := by decide +kernel
theorem d8_load_29 : decode M8_load.2.1 29 = .ok (.lreturn, 1) := by decide +kernel
theorem d8_isBalanced_0 : decode M8_isBalanced.2.1 0 = .ok (.iload_n 1, 1) := by decide +kernel
theorem d8_isBalanced_1 : decode M8_isBalanced.2.1 1 = .ok (.i2l, 1) := by decide +kernel
theorem d8_isBalanced_2 : decode M8_isBalanced.2.1 2 = .ok (.lconst 0, 1) := by decide +kernel
theorem d8_isBalanced_3 : decode M8_isBalanced.2.1 3 = .ok (.ldc2_w 105, 3) := by decide +kernel
theorem d8_isBalanced_6 : decode M8_isBalanced.2.1 6 = .ok (.invokestatic 74, 3) := by decide +kernel
theorem d8_isBalanced_9 : decode M8_isBalanced.2.1 9 = .ok (.ifCond .eq 19, 3) := by decide +kernel
theorem d8_isBalanced_12 : decode M8_isBalanced.2.1 12 = .ok (.aload_n 0, 1) := by decide +kernel
theorem d8_isBalanced_13 : decode M8_isBalanced.2.1 13 = .ok (.iload_n 1, 1) := by decide +kernel
theorem d8_isBalanced_14 : decode M8_isBalanced.2.1 14 = .ok (.invokevirtual 144, 3) := by decide +kernel
theorem d8_isBalanced_17 : decode M8_isBalanced.2.1 17 = .ok (.iload_n 2, 1) := by decide +kernel
theorem d8_isBalanced_18 : decode M8_isBalanced.2.1 18 = .ok (.iconst (-1), 1) := by decide +kernel
theorem d8_isBalanced_19 : decode M8_isBalanced.2.1 19 = .ok (.ixor, 1) := by decide +kernel
theorem d8_isBalanced_20 : decode M8_isBalanced.2.1 20 = .ok (.iand, 1) := by decide +kernel
theorem d8_isBalanced_21 : decode M8_isBalanced.2.1 21 = .ok (.ifCond .ne 7, 3) := by decide +kernel
theorem d8_isBalanced_24 : decode M8_isBalanced.2.1 24 = .ok (.iconst 1, 1) := by decide +kernel
theorem d8_isBalanced_25 : decode M8_isBalanced.2.1 25 = .ok (.goto 4, 3) := by decide +kernel
theorem d8_isBalanced_28 : decode M8_isBalanced.2.1 28 = .ok (.iconst 0, 1) := by decide +kernel
theorem d8_isBalanced_29 : decode M8_isBalanced.2.1 29 = .ok (.ireturn, 1) := by decide +kernel
theorem d8_balances_0 : decode M8_balances.2.1 0 = .ok (.iload_n 1, 1) := by decide +kernel
theorem d8_balances_1 : decode M8_balances.2.1 1 = .ok (.i2l, 1) := by decide +kernel
theorem d8_balances_2 : decode M8_balances.2.1 2 = .ok (.lconst 0, 1) := by decide +kernel
theorem d8_balances_3 : decode M8_balances.2.1 3 = .ok (.ldc2_w 105, 3) := by decide +kernel
theorem d8_balances_6 : decode M8_balances.2.1 6 = .ok (.invokestatic 74, 3) := by decide +kernel
theorem d8_balances_9 : decode M8_balances.2.1 9 = .ok (.ifCond .ne 7, 3) := by decide +kernel
theorem d8_balances_12 : decode M8_balances.2.1 12 = .ok (.iconst (-1), 1) := by decide +kernel
theorem d8_balances_13 : decode M8_balances.2.1 13 = .ok (.goto 20, 3) := by decide +kernel
theorem d8_balances_16 : decode M8_balances.2.1 16 = .ok (.aload_n 0, 1) := by decide +kernel
theorem d8_balances_17 : decode M8_balances.2.1 17 = .ok (.iload_n 1, 1) := by decide +kernel
theorem d8_balances_18 : decode M8_balances.2.1 18 = .ok (.aload_n 0, 1) := by decide +kernel
theorem d8_balances_19 : decode M8_balances.2.1 19 = .ok (.invokevirtual 160, 3) := by decide +kernel
theorem d8_balances_22 : decode M8_balances.2.1 22 = .ok (.invokevirtual 163, 3) := by decide +kernel
theorem d8_balances_25 : decode M8_balances.2.1 25 = .ok (.ifCond .eq 7, 3) := by decide +kernel
theorem d8_balances_28 : decode M8_balances.2.1 28 = .ok (.iconst 1, 1) := by decide +kernel
theorem d8_balances_29 : decode M8_balances.2.1 29 = .ok (.goto 4, 3) := by decide +kernel
theorem d8_balances_32 : decode M8_balances.2.1 32 = .ok (.iconst 0, 1) := by decide +kernel
theorem d8_balances_33 : decode M8_balances.2.1 33 = .ok (.ireturn, 1) := by decide +kernel
theorem d8_balance_0 : decode M8_balance.2.1 0 = .ok (.aload_n 0, 1) := by decide +kernel
theorem d8_balance_1 : decode M8_balance.2.1 1 = .ok (.invokevirtual 160, 3) := by decide +kernel
theorem d8_balance_4 : decode M8_balance.2.1 4 = .ok (.istore_n 2, 1) := by decide +kernel
theorem d8_balance_5 : decode M8_balance.2.1 5 = .ok (.aload_n 0, 1) := by decide +kernel
theorem d8_balance_6 : decode M8_balance.2.1 6 = .ok (.iload_n 1, 1) := by decide +kernel
theorem d8_balance_7 : decode M8_balance.2.1 7 = .ok (.iload_n 2, 1) := by decide +kernel
theorem d8_balance_8 : decode M8_balance.2.1 8 = .ok (.invokevirtual 163, 3) := by decide +kernel
theorem d8_balance_11 : decode M8_balance.2.1 11 = .ok (.ifCond .eq 12, 3) := by decide +kernel
theorem d8_balance_14 : decode M8_balance.2.1 14 = .ok (.aload_n 0, 1) := by decide +kernel
theorem d8_balance_15 : decode M8_balance.2.1 15 = .ok (.iload_n 1, 1) := by decide +kernel
theorem d8_balance_16 : decode M8_balance.2.1 16 = .ok (.iload_n 2, 1) := by decide +kernel
theorem d8_balance_17 : decode M8_balance.2.1 17 = .ok (.invokevirtual 150, 3) := by decide +kernel
theorem d8_balance_20 : decode M8_balance.2.1 20 = .ok (.goto 4, 3) := by decide +kernel
theorem d8_balance_23 : decode M8_balance.2.1 23 = .ok (.lconst 0, 1) := by decide +kernel
theorem d8_balance_24 : decode M8_balance.2.1 24 = .ok (.lreturn, 1) := by decide +kernel
theorem d8_doAll_0 : decode M8_doAll.2.1 0 = .ok (.iload_n 1, 1) := by decide +kernel
theorem d8_doAll_1 : decode M8_doAll.2.1 1 = .ok (.istore_n 2, 1) := by decide +kernel
theorem d8_doAll_2 : decode M8_doAll.2.1 2 = .ok (.iconst (-1), 1) := by decide +kernel
theorem d8_doAll_3 : decode M8_doAll.2.1 3 = .ok (.istore_n 3, 1) := by decide +kernel
theorem d8_doAll_4 : decode M8_doAll.2.1 4 = .ok (.iload_n 3, 1) := by decide +kernel
theorem d8_doAll_5 : decode M8_doAll.2.1 5 = .ok (.iload_n 2, 1) := by decide +kernel
theorem d8_doAll_6 : decode M8_doAll.2.1 6 = .ok (.if_icmp .eq 52, 3) := by decide +kernel
theorem d8_doAll_9 : decode M8_doAll.2.1 9 = .ok (.iload_n 2, 1) := by decide +kernel
theorem d8_doAll_10 : decode M8_doAll.2.1 10 = .ok (.istore_n 3, 1) := by decide +kernel
theorem d8_doAll_11 : decode M8_doAll.2.1 11 = .ok (.iconst 0, 1) := by decide +kernel
theorem d8_doAll_12 : decode M8_doAll.2.1 12 = .ok (.istore 4, 2) := by decide +kernel
theorem d8_doAll_14 : decode M8_doAll.2.1 14 = .ok (.iload 4, 2) := by decide +kernel
theorem d8_doAll_16 : decode M8_doAll.2.1 16 = .ok (.bipush 8, 2) := by decide +kernel
theorem d8_doAll_18 : decode M8_doAll.2.1 18 = .ok (.if_icmp .ge 37, 3) := by decide +kernel
theorem d8_doAll_21 : decode M8_doAll.2.1 21 = .ok (.aload_n 0, 1) := by decide +kernel
theorem d8_doAll_22 : decode M8_doAll.2.1 22 = .ok (.getfield 67, 3) := by decide +kernel
theorem d8_doAll_25 : decode M8_doAll.2.1 25 = .ok (.iload 4, 2) := by decide +kernel
theorem d8_doAll_27 : decode M8_doAll.2.1 27 = .ok (.iaload, 1) := by decide +kernel
theorem d8_doAll_28 : decode M8_doAll.2.1 28 = .ok (.iload_n 2, 1) := by decide +kernel
theorem d8_doAll_29 : decode M8_doAll.2.1 29 = .ok (.iconst (-1), 1) := by decide +kernel
theorem d8_doAll_30 : decode M8_doAll.2.1 30 = .ok (.ixor, 1) := by decide +kernel
theorem d8_doAll_31 : decode M8_doAll.2.1 31 = .ok (.iand, 1) := by decide +kernel
theorem d8_doAll_32 : decode M8_doAll.2.1 32 = .ok (.istore 5, 2) := by decide +kernel
theorem d8_doAll_34 : decode M8_doAll.2.1 34 = .ok (.iload 5, 2) := by decide +kernel
theorem d8_doAll_36 : decode M8_doAll.2.1 36 = .ok (.iload 5, 2) := by decide +kernel
theorem d8_doAll_38 : decode M8_doAll.2.1 38 = .ok (.iconst 1, 1) := by decide +kernel
theorem d8_doAll_39 : decode M8_doAll.2.1 39 = .ok (.isub, 1) := by decide +kernel
theorem d8_doAll_40 : decode M8_doAll.2.1 40 = .ok (.iand, 1) := by decide +kernel
theorem d8_doAll_41 : decode M8_doAll.2.1 41 = .ok (.ifCond .ne 8, 3) := by decide +kernel
theorem d8_doAll_44 : decode M8_doAll.2.1 44 = .ok (.iload_n 2, 1) := by decide +kernel
theorem d8_doAll_45 : decode M8_doAll.2.1 45 = .ok (.iload 5, 2) := by decide +kernel
theorem d8_doAll_47 : decode M8_doAll.2.1 47 = .ok (.ior, 1) := by decide +kernel
theorem d8_doAll_48 : decode M8_doAll.2.1 48 = .ok (.istore_n 2, 1) := by decide +kernel
theorem d8_doAll_49 : decode M8_doAll.2.1 49 = .ok (.iinc 4 1, 3) := by decide +kernel
theorem d8_doAll_52 : decode M8_doAll.2.1 52 = .ok (.goto (-38), 3) := by decide +kernel
theorem d8_doAll_55 : decode M8_doAll.2.1 55 = .ok (.goto (-51), 3) := by decide +kernel
theorem d8_doAll_58 : decode M8_doAll.2.1 58 = .ok (.iload_n 2, 1) := by decide +kernel
theorem d8_doAll_59 : decode M8_doAll.2.1 59 = .ok (.iconst 1, 1) := by decide +kernel
theorem d8_doAll_60 : decode M8_doAll.2.1 60 = .ok (.aload_n 0, 1) := by decide +kernel
theorem d8_doAll_61 : decode M8_doAll.2.1 61 = .ok (.getfield 70, 3) := by decide +kernel
theorem d8_doAll_64 : decode M8_doAll.2.1 64 = .ok (.ishl, 1) := by decide +kernel
theorem d8_doAll_65 : decode M8_doAll.2.1 65 = .ok (.iconst 1, 1) := by decide +kernel
theorem d8_doAll_66 : decode M8_doAll.2.1 66 = .ok (.isub, 1) := by decide +kernel
theorem d8_doAll_67 : decode M8_doAll.2.1 67 = .ok (.if_icmp .ne 7, 3) := by decide +kernel
theorem d8_doAll_70 : decode M8_doAll.2.1 70 = .ok (.iconst 1, 1) := by decide +kernel
theorem d8_doAll_71 : decode M8_doAll.2.1 71 = .ok (.goto 4, 3) := by decide +kernel
theorem d8_doAll_74 : decode M8_doAll.2.1 74 = .ok (.iconst 0, 1) := by decide +kernel
theorem d8_doAll_75 : decode M8_doAll.2.1 75 = .ok (.ireturn, 1) := by decide +kernel
theorem d8_lists_0 : decode M8_lists.2.1 0 = .ok (.iconst 0, 1) := by decide +kernel
theorem d8_lists_1 : decode M8_lists.2.1 1 = .ok (.istore_n 1, 1) := by decide +kernel
theorem d8_lists_2 : decode M8_lists.2.1 2 = .ok (.iload_n 1, 1) := by decide +kernel
theorem d8_lists_3 : decode M8_lists.2.1 3 = .ok (.bipush 8, 2) := by decide +kernel
theorem d8_lists_5 : decode M8_lists.2.1 5 = .ok (.if_icmp .ge 20, 3) := by decide +kernel
theorem d8_lists_8 : decode M8_lists.2.1 8 = .ok (.aload_n 0, 1) := by decide +kernel
theorem d8_lists_9 : decode M8_lists.2.1 9 = .ok (.getfield 67, 3) := by decide +kernel
theorem d8_lists_12 : decode M8_lists.2.1 12 = .ok (.iload_n 1, 1) := by decide +kernel
theorem d8_lists_13 : decode M8_lists.2.1 13 = .ok (.aload_n 0, 1) := by decide +kernel
theorem d8_lists_14 : decode M8_lists.2.1 14 = .ok (.iload_n 1, 1) := by decide +kernel
theorem d8_lists_15 : decode M8_lists.2.1 15 = .ok (.invokevirtual 144, 3) := by decide +kernel
theorem d8_lists_18 : decode M8_lists.2.1 18 = .ok (.iastore, 1) := by decide +kernel
theorem d8_lists_19 : decode M8_lists.2.1 19 = .ok (.iinc 1 1, 3) := by decide +kernel
theorem d8_lists_22 : decode M8_lists.2.1 22 = .ok (.goto (-20), 3) := by decide +kernel
theorem d8_lists_25 : decode M8_lists.2.1 25 = .ok (.return_, 1) := by decide +kernel
theorem d8_does_0 : decode M8_does.2.1 0 = .ok (.iload_n 1, 1) := by decide +kernel
theorem d8_does_1 : decode M8_does.2.1 1 = .ok (.i2l, 1) := by decide +kernel
theorem d8_does_2 : decode M8_does.2.1 2 = .ok (.lconst 0, 1) := by decide +kernel
theorem d8_does_3 : decode M8_does.2.1 3 = .ok (.iconst 1, 1) := by decide +kernel
theorem d8_does_4 : decode M8_does.2.1 4 = .ok (.aload_n 0, 1) := by decide +kernel
theorem d8_does_5 : decode M8_does.2.1 5 = .ok (.getfield 70, 3) := by decide +kernel
theorem d8_does_8 : decode M8_does.2.1 8 = .ok (.ishl, 1) := by decide +kernel
theorem d8_does_9 : decode M8_does.2.1 9 = .ok (.iconst 1, 1) := by decide +kernel
theorem d8_does_10 : decode M8_does.2.1 10 = .ok (.isub, 1) := by decide +kernel
theorem d8_does_11 : decode M8_does.2.1 11 = .ok (.i2l, 1) := by decide +kernel
theorem d8_does_12 : decode M8_does.2.1 12 = .ok (.invokestatic 74, 3) := by decide +kernel
theorem d8_does_15 : decode M8_does.2.1 15 = .ok (.ifCond .ne 5, 3) := by decide +kernel
theorem d8_does_18 : decode M8_does.2.1 18 = .ok (.iconst (-1), 1) := by decide +kernel
theorem d8_does_19 : decode M8_does.2.1 19 = .ok (.ireturn, 1) := by decide +kernel
theorem d8_does_20 : decode M8_does.2.1 20 = .ok (.aload_n 0, 1) := by decide +kernel
theorem d8_does_21 : decode M8_does.2.1 21 = .ok (.invokevirtual 166, 3) := by decide +kernel
theorem d8_does_24 : decode M8_does.2.1 24 = .ok (.aload_n 0, 1) := by decide +kernel
theorem d8_does_25 : decode M8_does.2.1 25 = .ok (.iload_n 1, 1) := by decide +kernel
theorem d8_does_26 : decode M8_does.2.1 26 = .ok (.invokevirtual 169, 3) := by decide +kernel
theorem d8_does_29 : decode M8_does.2.1 29 = .ok (.ifCond .eq 7, 3) := by decide +kernel
theorem d8_does_32 : decode M8_does.2.1 32 = .ok (.iconst 1, 1) := by decide +kernel
theorem d8_does_33 : decode M8_does.2.1 33 = .ok (.goto 4, 3) := by decide +kernel
theorem d8_does_36 : decode M8_does.2.1 36 = .ok (.iconst 0, 1) := by decide +kernel
theorem d8_does_37 : decode M8_does.2.1 37 = .ok (.ireturn, 1) := by decide +kernel
theorem d8_plan_0 : decode M8_plan.2.1 0 = .ok (.aload_n 0, 1) := by decide +kernel
theorem d8_plan_1 : decode M8_plan.2.1 1 = .ok (.invokevirtual 166, 3) := by decide +kernel
theorem d8_plan_4 : decode M8_plan.2.1 4 = .ok (.iconst (-1), 1) := by decide +kernel
theorem d8_plan_5 : decode M8_plan.2.1 5 = .ok (.istore_n 1, 1) := by decide +kernel
theorem d8_plan_6 : decode M8_plan.2.1 6 = .ok (.iconst 0, 1) := by decide +kernel
theorem d8_plan_7 : decode M8_plan.2.1 7 = .ok (.istore_n 2, 1) := by decide +kernel
theorem d8_plan_8 : decode M8_plan.2.1 8 = .ok (.iconst 0, 1) := by decide +kernel
theorem d8_plan_9 : decode M8_plan.2.1 9 = .ok (.istore_n 3, 1) := by decide +kernel
theorem d8_plan_10 : decode M8_plan.2.1 10 = .ok (.iload_n 3, 1) := by decide +kernel
theorem d8_plan_11 : decode M8_plan.2.1 11 = .ok (.iconst 1, 1) := by decide +kernel
theorem d8_plan_12 : decode M8_plan.2.1 12 = .ok (.aload_n 0, 1) := by decide +kernel
theorem d8_plan_13 : decode M8_plan.2.1 13 = .ok (.getfield 70, 3) := by decide +kernel
theorem d8_plan_16 : decode M8_plan.2.1 16 = .ok (.ishl, 1) := by decide +kernel
theorem d8_plan_17 : decode M8_plan.2.1 17 = .ok (.if_icmp .ge 99, 3) := by decide +kernel
theorem d8_plan_20 : decode M8_plan.2.1 20 = .ok (.iconst 0, 1) := by decide +kernel
theorem d8_plan_21 : decode M8_plan.2.1 21 = .ok (.istore 4, 2) := by decide +kernel
theorem d8_plan_23 : decode M8_plan.2.1 23 = .ok (.iconst 0, 1) := by decide +kernel
theorem d8_plan_24 : decode M8_plan.2.1 24 = .ok (.istore 5, 2) := by decide +kernel
theorem d8_plan_26 : decode M8_plan.2.1 26 = .ok (.iload 5, 2) := by decide +kernel
theorem d8_plan_28 : decode M8_plan.2.1 28 = .ok (.aload_n 0, 1) := by decide +kernel
theorem d8_plan_29 : decode M8_plan.2.1 29 = .ok (.getfield 70, 3) := by decide +kernel
theorem d8_plan_32 : decode M8_plan.2.1 32 = .ok (.if_icmp .ge 34, 3) := by decide +kernel
theorem d8_plan_35 : decode M8_plan.2.1 35 = .ok (.iload 4, 2) := by decide +kernel
theorem d8_plan_37 : decode M8_plan.2.1 37 = .ok (.iload_n 3, 1) := by decide +kernel
theorem d8_plan_38 : decode M8_plan.2.1 38 = .ok (.iload 5, 2) := by decide +kernel
theorem d8_plan_40 : decode M8_plan.2.1 40 = .ok (.invokestatic 141, 3) := by decide +kernel
theorem d8_plan_43 : decode M8_plan.2.1 43 = .ok (.ifCond .eq 13, 3) := by decide +kernel
theorem d8_plan_46 : decode M8_plan.2.1 46 = .ok (.aload_n 0, 1) := by decide +kernel
theorem d8_plan_47 : decode M8_plan.2.1 47 = .ok (.getfield 30, 3) := by decide +kernel
theorem d8_plan_50 : decode M8_plan.2.1 50 = .ok (.iload 5, 2) := by decide +kernel
theorem d8_plan_52 : decode M8_plan.2.1 52 = .ok (.iaload, 1) := by decide +kernel
theorem d8_plan_53 : decode M8_plan.2.1 53 = .ok (.goto 4, 3) := by decide +kernel
theorem d8_plan_56 : decode M8_plan.2.1 56 = .ok (.iconst 0, 1) := by decide +kernel
theorem d8_plan_57 : decode M8_plan.2.1 57 = .ok (.iadd, 1) := by decide +kernel
theorem d8_plan_58 : decode M8_plan.2.1 58 = .ok (.istore 4, 2) := by decide +kernel
theorem d8_plan_60 : decode M8_plan.2.1 60 = .ok (.iinc 5 1, 3) := by decide +kernel
theorem d8_plan_63 : decode M8_plan.2.1 63 = .ok (.goto (-37), 3) := by decide +kernel
theorem d8_plan_66 : decode M8_plan.2.1 66 = .ok (.iload_n 1, 1) := by decide +kernel
theorem d8_plan_67 : decode M8_plan.2.1 67 = .ok (.iconst (-1), 1) := by decide +kernel
theorem d8_plan_68 : decode M8_plan.2.1 68 = .ok (.if_icmp .eq 26, 3) := by decide +kernel
theorem d8_plan_71 : decode M8_plan.2.1 71 = .ok (.iload 4, 2) := by decide +kernel
theorem d8_plan_73 : decode M8_plan.2.1 73 = .ok (.iload_n 2, 1) := by decide +kernel
theorem d8_plan_74 : decode M8_plan.2.1 74 = .ok (.if_icmp .gt 36, 3) := by decide +kernel
theorem d8_plan_77 : decode M8_plan.2.1 77 = .ok (.iload 4, 2) := by decide +kernel
theorem d8_plan_79 : decode M8_plan.2.1 79 = .ok (.iload_n 2, 1) := by decide +kernel
theorem d8_plan_80 : decode M8_plan.2.1 80 = .ok (.if_icmp .ne 14, 3) := by decide +kernel
theorem d8_plan_83 : decode M8_plan.2.1 83 = .ok (.iload_n 3, 1) := by decide +kernel
theorem d8_plan_84 : decode M8_plan.2.1 84 = .ok (.invokestatic 147, 3) := by decide +kernel
theorem d8_plan_87 : decode M8_plan.2.1 87 = .ok (.iload_n 1, 1) := by decide +kernel
theorem d8_plan_88 : decode M8_plan.2.1 88 = .ok (.invokestatic 147, 3) := by decide +kernel
theorem d8_plan_91 : decode M8_plan.2.1 91 = .ok (.if_icmp .ge 19, 3) := by decide +kernel
theorem d8_plan_94 : decode M8_plan.2.1 94 = .ok (.aload_n 0, 1) := by decide +kernel
theorem d8_plan_95 : decode M8_plan.2.1 95 = .ok (.iload_n 3, 1) := by decide +kernel
theorem d8_plan_96 : decode M8_plan.2.1 96 = .ok (.invokevirtual 169, 3) := by decide +kernel
theorem d8_plan_99 : decode M8_plan.2.1 99 = .ok (.ifCond .ne 6, 3) := by decide +kernel
theorem d8_plan_102 : decode M8_plan.2.1 102 = .ok (.goto 8, 3) := by decide +kernel
theorem d8_plan_105 : decode M8_plan.2.1 105 = .ok (.iload_n 3, 1) := by decide +kernel
theorem d8_plan_106 : decode M8_plan.2.1 106 = .ok (.istore_n 1, 1) := by decide +kernel
theorem d8_plan_107 : decode M8_plan.2.1 107 = .ok (.iload 4, 2) := by decide +kernel
theorem d8_plan_109 : decode M8_plan.2.1 109 = .ok (.istore_n 2, 1) := by decide +kernel
theorem d8_plan_110 : decode M8_plan.2.1 110 = .ok (.iinc 3 1, 3) := by decide +kernel
theorem d8_plan_113 : decode M8_plan.2.1 113 = .ok (.goto (-103), 3) := by decide +kernel
theorem d8_plan_116 : decode M8_plan.2.1 116 = .ok (.iload_n 1, 1) := by decide +kernel
theorem d8_plan_117 : decode M8_plan.2.1 117 = .ok (.ireturn, 1) := by decide +kernel
theorem d8_push_0 : decode M8_push.2.1 0 = .ok (.bipush 24, 2) := by decide +kernel
theorem d8_push_2 : decode M8_push.2.1 2 = .ok (.istore_n 2, 1) := by decide +kernel
theorem d8_push_3 : decode M8_push.2.1 3 = .ok (.iload_n 2, 1) := by decide +kernel
theorem d8_push_4 : decode M8_push.2.1 4 = .ok (.ifCond .lt 32, 3) := by decide +kernel
theorem d8_push_7 : decode M8_push.2.1 7 = .ok (.aload_n 0, 1) := by decide +kernel
theorem d8_push_8 : decode M8_push.2.1 8 = .ok (.getfield 7, 3) := by decide +kernel
theorem d8_push_11 : decode M8_push.2.1 11 = .ok (.aload_n 0, 1) := by decide +kernel
theorem d8_push_12 : decode M8_push.2.1 12 = .ok (.getfield 172, 3) := by decide +kernel
theorem d8_push_15 : decode M8_push.2.1 15 = .ok (.iload_n 1, 1) := by decide +kernel
theorem d8_push_16 : decode M8_push.2.1 16 = .ok (.iload_n 2, 1) := by decide +kernel
theorem d8_push_17 : decode M8_push.2.1 17 = .ok (.ishr, 1) := by decide +kernel
theorem d8_push_18 : decode M8_push.2.1 18 = .ok (.i2b, 1) := by decide +kernel
theorem d8_push_19 : decode M8_push.2.1 19 = .ok (.bastore, 1) := by decide +kernel
theorem d8_push_20 : decode M8_push.2.1 20 = .ok (.aload_n 0, 1) := by decide +kernel
theorem d8_push_21 : decode M8_push.2.1 21 = .ok (.dup, 1) := by decide +kernel
theorem d8_push_22 : decode M8_push.2.1 22 = .ok (.getfield 172, 3) := by decide +kernel
theorem d8_push_25 : decode M8_push.2.1 25 = .ok (.iconst 1, 1) := by decide +kernel
theorem d8_push_26 : decode M8_push.2.1 26 = .ok (.iadd, 1) := by decide +kernel
theorem d8_push_27 : decode M8_push.2.1 27 = .ok (.putfield 172, 3) := by decide +kernel
theorem d8_push_30 : decode M8_push.2.1 30 = .ok (.iinc 2 (-8), 3) := by decide +kernel
theorem d8_push_33 : decode M8_push.2.1 33 = .ok (.goto (-30), 3) := by decide +kernel
theorem d8_push_36 : decode M8_push.2.1 36 = .ok (.return_, 1) := by decide +kernel
theorem d8_feed_0 : decode M8_feed.2.1 0 = .ok (.aload_n 0, 1) := by decide +kernel
theorem d8_feed_1 : decode M8_feed.2.1 1 = .ok (.getfield 172, 3) := by decide +kernel
theorem d8_feed_4 : decode M8_feed.2.1 4 = .ok (.bipush 20, 2) := by decide +kernel
theorem d8_feed_6 : decode M8_feed.2.1 6 = .ok (.iadd, 1) := by decide +kernel
theorem d8_feed_7 : decode M8_feed.2.1 7 = .ok (.bipush 120, 2) := by decide +kernel
theorem d8_feed_9 : decode M8_feed.2.1 9 = .ok (.if_icmp .le 5, 3) := by decide +kernel
theorem d8_feed_12 : decode M8_feed.2.1 12 = .ok (.iconst (-1), 1) := by decide +kernel
theorem d8_feed_13 : decode M8_feed.2.1 13 = .ok (.ireturn, 1) := by decide +kernel
theorem d8_feed_14 : decode M8_feed.2.1 14 = .ok (.aload_n 0, 1) := by decide +kernel
theorem d8_feed_15 : decode M8_feed.2.1 15 = .ok (.iload_n 1, 1) := by decide +kernel
theorem d8_feed_16 : decode M8_feed.2.1 16 = .ok (.invokevirtual 175, 3) := by decide +kernel
theorem d8_feed_19 : decode M8_feed.2.1 19 = .ok (.aload_n 0, 1) := by decide +kernel
theorem d8_feed_20 : decode M8_feed.2.1 20 = .ok (.iload_n 2, 1) := by decide +kernel
theorem d8_feed_21 : decode M8_feed.2.1 21 = .ok (.invokevirtual 175, 3) := by decide +kernel
theorem d8_feed_24 : decode M8_feed.2.1 24 = .ok (.aload_n 0, 1) := by decide +kernel
theorem d8_feed_25 : decode M8_feed.2.1 25 = .ok (.iload_n 3, 1) := by decide +kernel
theorem d8_feed_26 : decode M8_feed.2.1 26 = .ok (.invokevirtual 175, 3) := by decide +kernel
theorem d8_feed_29 : decode M8_feed.2.1 29 = .ok (.aload_n 0, 1) := by decide +kernel
theorem d8_feed_30 : decode M8_feed.2.1 30 = .ok (.iload 4, 2) := by decide +kernel
theorem d8_feed_32 : decode M8_feed.2.1 32 = .ok (.invokevirtual 175, 3) := by decide +kernel
theorem d8_feed_35 : decode M8_feed.2.1 35 = .ok (.aload_n 0, 1) := by decide +kernel
theorem d8_feed_36 : decode M8_feed.2.1 36 = .ok (.iload 5, 2) := by decide +kernel
theorem d8_feed_38 : decode M8_feed.2.1 38 = .ok (.invokevirtual 175, 3) := by decide +kernel
theorem d8_feed_41 : decode M8_feed.2.1 41 = .ok (.aload_n 0, 1) := by decide +kernel
theorem d8_feed_42 : decode M8_feed.2.1 42 = .ok (.getfield 172, 3) := by decide +kernel
theorem d8_feed_45 : decode M8_feed.2.1 45 = .ok (.ireturn, 1) := by decide +kernel
theorem d8_here_0 : decode M8_here.2.1 0 = .ok (.aload_n 0, 1) := by decide +kernel
theorem d8_here_1 : decode M8_here.2.1 1 = .ok (.getfield 179, 3) := by decide +kernel
theorem d8_here_4 : decode M8_here.2.1 4 = .ok (.aload_n 0, 1) := by decide +kernel
theorem d8_here_5 : decode M8_here.2.1 5 = .ok (.getfield 182, 3) := by decide +kernel
theorem d8_here_8 : decode M8_here.2.1 8 = .ok (.if_icmp .ge 19, 3) := by decide +kernel
theorem d8_here_11 : decode M8_here.2.1 11 = .ok (.aload_n 0, 1) := by decide +kernel
theorem d8_here_12 : decode M8_here.2.1 12 = .ok (.getfield 7, 3) := by decide +kernel
theorem d8_here_15 : decode M8_here.2.1 15 = .ok (.aload_n 0, 1) := by decide +kernel
theorem d8_here_16 : decode M8_here.2.1 16 = .ok (.getfield 179, 3) := by decide +kernel
theorem d8_here_19 : decode M8_here.2.1 19 = .ok (.baload, 1) := by decide +kernel
theorem d8_here_20 : decode M8_here.2.1 20 = .ok (.sipush 255, 3) := by decide +kernel
theorem d8_here_23 : decode M8_here.2.1 23 = .ok (.iand, 1) := by decide +kernel
theorem d8_here_24 : decode M8_here.2.1 24 = .ok (.goto 4, 3) := by decide +kernel
theorem d8_here_27 : decode M8_here.2.1 27 = .ok (.iconst 0, 1) := by decide +kernel
theorem d8_here_28 : decode M8_here.2.1 28 = .ok (.ireturn, 1) := by decide +kernel
theorem d8_fails_0 : decode M8_fails.2.1 0 = .ok (.aload_n 0, 1) := by decide +kernel
theorem d8_fails_1 : decode M8_fails.2.1 1 = .ok (.aload_n 0, 1) := by decide +kernel
theorem d8_fails_2 : decode M8_fails.2.1 2 = .ok (.getfield 185, 3) := by decide +kernel
theorem d8_fails_5 : decode M8_fails.2.1 5 = .ok (.ifCond .le 10, 3) := by decide +kernel
theorem d8_fails_8 : decode M8_fails.2.1 8 = .ok (.aload_n 0, 1) := by decide +kernel
theorem d8_fails_9 : decode M8_fails.2.1 9 = .ok (.getfield 185, 3) := by decide +kernel
theorem d8_fails_12 : decode M8_fails.2.1 12 = .ok (.goto 9, 3) := by decide +kernel
theorem d8_fails_15 : decode M8_fails.2.1 15 = .ok (.bipush 100, 2) := by decide +kernel
theorem d8_fails_17 : decode M8_fails.2.1 17 = .ok (.iload_n 1, 1) := by decide +kernel
theorem d8_fails_18 : decode M8_fails.2.1 18 = .ok (.imul, 1) := by decide +kernel
theorem d8_fails_19 : decode M8_fails.2.1 19 = .ok (.iload_n 2, 1) := by decide +kernel
theorem d8_fails_20 : decode M8_fails.2.1 20 = .ok (.iadd, 1) := by decide +kernel
theorem d8_fails_21 : decode M8_fails.2.1 21 = .ok (.putfield 185, 3) := by decide +kernel
theorem d8_fails_24 : decode M8_fails.2.1 24 = .ok (.return_, 1) := by decide +kernel
theorem d8_seesDigit_0 : decode M8_seesDigit.2.1 0 = .ok (.aload_n 0, 1) := by decide +kernel
theorem d8_seesDigit_1 : decode M8_seesDigit.2.1 1 = .ok (.invokevirtual 188, 3) := by decide +kernel
theorem d8_seesDigit_4 : decode M8_seesDigit.2.1 4 = .ok (.i2l, 1) := by decide +kernel
theorem d8_seesDigit_5 : decode M8_seesDigit.2.1 5 = .ok (.ldc2_w 191, 3) := by decide +kernel
theorem d8_seesDigit_8 : decode M8_seesDigit.2.1 8 = .ok (.ldc2_w 193, 3) := by decide +kernel
theorem d8_seesDigit_11 : decode M8_seesDigit.2.1 11 = .ok (.invokestatic 74, 3) := by decide +kernel
theorem d8_seesDigit_14 : decode M8_seesDigit.2.1 14 = .ok (.ireturn, 1) := by decide +kernel
theorem d8_number_0 : decode M8_number.2.1 0 = .ok (.aload_n 0, 1) := by decide +kernel
theorem d8_number_1 : decode M8_number.2.1 1 = .ok (.getfield 179, 3) := by decide +kernel
theorem d8_number_4 : decode M8_number.2.1 4 = .ok (.istore_n 2, 1) := by decide +kernel
theorem d8_number_5 : decode M8_number.2.1 5 = .ok (.iconst 0, 1) := by decide +kernel
theorem d8_number_6 : decode M8_number.2.1 6 = .ok (.istore_n 3, 1) := by decide +kernel
theorem d8_number_7 : decode M8_number.2.1 7 = .ok (.aload_n 0, 1) := by decide +kernel
theorem d8_number_8 : decode M8_number.2.1 8 = .ok (.invokevirtual 195, 3) := by decide +kernel
theorem d8_number_11 : decode M8_number.2.1 11 = .ok (.ifCond .ne 12, 3) := by decide +kernel
theorem d8_number_14 : decode M8_number.2.1 14 = .ok (.aload_n 0, 1) := by decide +kernel
theorem d8_number_15 : decode M8_number.2.1 15 = .ok (.iconst 1, 1) := by decide +kernel
theorem d8_number_16 : decode M8_number.2.1 16 = .ok (.aload_n 0, 1) := by decide +kernel
theorem d8_number_17 : decode M8_number.2.1 17 = .ok (.getfield 179, 3) := by decide +kernel
theorem d8_number_20 : decode M8_number.2.1 20 = .ok (.invokevirtual 199, 3) := by decide +kernel
theorem d8_number_23 : decode M8_number.2.1 23 = .ok (.aload_n 0, 1) := by decide +kernel
theorem d8_number_24 : decode M8_number.2.1 24 = .ok (.getfield 185, 3) := by decide +kernel
theorem d8_number_27 : decode M8_number.2.1 27 = .ok (.ifCond .ne 55, 3) := by decide +kernel
theorem d8_number_30 : decode M8_number.2.1 30 = .ok (.aload_n 0, 1) := by decide +kernel
theorem d8_number_31 : decode M8_number.2.1 31 = .ok (.invokevirtual 195, 3) := by decide +kernel
theorem d8_number_34 : decode M8_number.2.1 34 = .ok (.ifCond .eq 48, 3) := by decide +kernel
theorem d8_number_37 : decode M8_number.2.1 37 = .ok (.aload_n 0, 1) := by decide +kernel
theorem d8_number_38 : decode M8_number.2.1 38 = .ok (.getfield 179, 3) := by decide +kernel
theorem d8_number_41 : decode M8_number.2.1 41 = .ok (.iload_n 2, 1) := by decide +kernel
theorem d8_number_42 : decode M8_number.2.1 42 = .ok (.iconst 3, 1) := by decide +kernel
theorem d8_number_43 : decode M8_number.2.1 43 = .ok (.iadd, 1) := by decide +kernel
theorem d8_number_44 : decode M8_number.2.1 44 = .ok (.if_icmp .ne 12, 3) := by decide +kernel
theorem d8_number_47 : decode M8_number.2.1 47 = .ok (.aload_n 0, 1) := by decide +kernel
theorem d8_number_48 : decode M8_number.2.1 48 = .ok (.iconst 1, 1) := by decide +kernel
theorem d8_number_49 : decode M8_number.2.1 49 = .ok (.aload_n 0, 1) := by decide +kernel
theorem d8_number_50 : decode M8_number.2.1 50 = .ok (.getfield 179, 3) := by decide +kernel
theorem d8_number_53 : decode M8_number.2.1 53 = .ok (.invokevirtual 199, 3) := by decide +kernel
theorem d8_number_56 : decode M8_number.2.1 56 = .ok (.bipush 10, 2) := by decide +kernel
theorem d8_number_58 : decode M8_number.2.1 58 = .ok (.iload_n 3, 1) := by decide +kernel
theorem d8_number_59 : decode M8_number.2.1 59 = .ok (.imul, 1) := by decide +kernel
theorem d8_number_60 : decode M8_number.2.1 60 = .ok (.aload_n 0, 1) := by decide +kernel
theorem d8_number_61 : decode M8_number.2.1 61 = .ok (.invokevirtual 188, 3) := by decide +kernel
theorem d8_number_64 : decode M8_number.2.1 64 = .ok (.iadd, 1) := by decide +kernel
theorem d8_number_65 : decode M8_number.2.1 65 = .ok (.bipush 48, 2) := by decide +kernel
theorem d8_number_67 : decode M8_number.2.1 67 = .ok (.isub, 1) := by decide +kernel
theorem d8_number_68 : decode M8_number.2.1 68 = .ok (.istore_n 3, 1) := by decide +kernel
theorem d8_number_69 : decode M8_number.2.1 69 = .ok (.aload_n 0, 1) := by decide +kernel
theorem d8_number_70 : decode M8_number.2.1 70 = .ok (.dup, 1) := by decide +kernel
theorem d8_number_71 : decode M8_number.2.1 71 = .ok (.getfield 179, 3) := by decide +kernel
theorem d8_number_74 : decode M8_number.2.1 74 = .ok (.iconst 1, 1) := by decide +kernel
theorem d8_number_75 : decode M8_number.2.1 75 = .ok (.iadd, 1) := by decide +kernel
theorem d8_number_76 : decode M8_number.2.1 76 = .ok (.putfield 179, 3) := by decide +kernel
theorem d8_number_79 : decode M8_number.2.1 79 = .ok (.goto (-56), 3) := by decide +kernel
theorem d8_number_82 : decode M8_number.2.1 82 = .ok (.iload_n 3, 1) := by decide +kernel
theorem d8_number_83 : decode M8_number.2.1 83 = .ok (.sipush 255, 3) := by decide +kernel
theorem d8_number_86 : decode M8_number.2.1 86 = .ok (.if_icmp .gt 8, 3) := by decide +kernel
theorem d8_number_89 : decode M8_number.2.1 89 = .ok (.iload_n 3, 1) := by decide +kernel
theorem d8_number_90 : decode M8_number.2.1 90 = .ok (.iload_n 1, 1) := by decide +kernel
theorem d8_number_91 : decode M8_number.2.1 91 = .ok (.if_icmp .ge 9, 3) := by decide +kernel
theorem d8_number_94 : decode M8_number.2.1 94 = .ok (.aload_n 0, 1) := by decide +kernel
theorem d8_number_95 : decode M8_number.2.1 95 = .ok (.iconst 3, 1) := by decide +kernel
theorem d8_number_96 : decode M8_number.2.1 96 = .ok (.iload_n 2, 1) := by decide +kernel
theorem d8_number_97 : decode M8_number.2.1 97 = .ok (.invokevirtual 199, 3) := by decide +kernel
theorem d8_number_100 : decode M8_number.2.1 100 = .ok (.iload_n 3, 1) := by decide +kernel
theorem d8_number_101 : decode M8_number.2.1 101 = .ok (.ireturn, 1) := by decide +kernel
theorem d8_must_0 : decode M8_must.2.1 0 = .ok (.aload_n 0, 1) := by decide +kernel
theorem d8_must_1 : decode M8_must.2.1 1 = .ok (.invokevirtual 188, 3) := by decide +kernel
theorem d8_must_4 : decode M8_must.2.1 4 = .ok (.iload_n 1, 1) := by decide +kernel
theorem d8_must_5 : decode M8_must.2.1 5 = .ok (.if_icmp .eq 12, 3) := by decide +kernel
theorem d8_must_8 : decode M8_must.2.1 8 = .ok (.aload_n 0, 1) := by decide +kernel
theorem d8_must_9 : decode M8_must.2.1 9 = .ok (.iconst 1, 1) := by decide +kernel
theorem d8_must_10 : decode M8_must.2.1 10 = .ok (.aload_n 0, 1) := by decide +kernel
theorem d8_must_11 : decode M8_must.2.1 11 = .ok (.getfield 179, 3) := by decide +kernel
theorem d8_must_14 : decode M8_must.2.1 14 = .ok (.invokevirtual 199, 3) := by decide +kernel
theorem d8_must_17 : decode M8_must.2.1 17 = .ok (.aload_n 0, 1) := by decide +kernel
theorem d8_must_18 : decode M8_must.2.1 18 = .ok (.dup, 1) := by decide +kernel
theorem d8_must_19 : decode M8_must.2.1 19 = .ok (.getfield 179, 3) := by decide +kernel
theorem d8_must_22 : decode M8_must.2.1 22 = .ok (.iconst 1, 1) := by decide +kernel
theorem d8_must_23 : decode M8_must.2.1 23 = .ok (.iadd, 1) := by decide +kernel
theorem d8_must_24 : decode M8_must.2.1 24 = .ok (.putfield 179, 3) := by decide +kernel
theorem d8_must_27 : decode M8_must.2.1 27 = .ok (.return_, 1) := by decide +kernel
theorem d8_clause_0 : decode M8_clause.2.1 0 = .ok (.aload_n 0, 1) := by decide +kernel
theorem d8_clause_1 : decode M8_clause.2.1 1 = .ok (.invokevirtual 195, 3) := by decide +kernel
theorem d8_clause_4 : decode M8_clause.2.1 4 = .ok (.ifCond .ne 15, 3) := by decide +kernel
theorem d8_clause_7 : decode M8_clause.2.1 7 = .ok (.aload_n 0, 1) := by decide +kernel
theorem d8_clause_8 : decode M8_clause.2.1 8 = .ok (.iconst 1, 1) := by decide +kernel
theorem d8_clause_9 : decode M8_clause.2.1 9 = .ok (.aload_n 0, 1) := by decide +kernel
theorem d8_clause_10 : decode M8_clause.2.1 10 = .ok (.getfield 179, 3) := by decide +kernel
theorem d8_clause_13 : decode M8_clause.2.1 13 = .ok (.invokevirtual 199, 3) := by decide +kernel
theorem d8_clause_16 : decode M8_clause.2.1 16 = .ok (.goto 42, 3) := by decide +kernel
theorem d8_clause_19 : decode M8_clause.2.1 19 = .ok (.aload_n 0, 1) := by decide +kernel
theorem d8_clause_20 : decode M8_clause.2.1 20 = .ok (.getfield 203, 3) := by decide +kernel
theorem d8_clause_23 : decode M8_clause.2.1 23 = .ok (.bipush 9, 2) := by decide +kernel
theorem d8_clause_25 : decode M8_clause.2.1 25 = .ok (.if_icmp .ne 15, 3) := by decide +kernel
theorem d8_clause_28 : decode M8_clause.2.1 28 = .ok (.aload_n 0, 1) := by decide +kernel
theorem d8_clause_29 : decode M8_clause.2.1 29 = .ok (.iconst 4, 1) := by decide +kernel
theorem d8_clause_30 : decode M8_clause.2.1 30 = .ok (.aload_n 0, 1) := by decide +kernel
theorem d8_clause_31 : decode M8_clause.2.1 31 = .ok (.getfield 179, 3) := by decide +kernel
theorem d8_clause_34 : decode M8_clause.2.1 34 = .ok (.invokevirtual 199, 3) := by decide +kernel
theorem d8_clause_37 : decode M8_clause.2.1 37 = .ok (.goto 21, 3) := by decide +kernel
theorem d8_clause_40 : decode M8_clause.2.1 40 = .ok (.aload_n 0, 1) := by decide +kernel
theorem d8_clause_41 : decode M8_clause.2.1 41 = .ok (.invokevirtual 188, 3) := by decide +kernel
theorem d8_clause_44 : decode M8_clause.2.1 44 = .ok (.bipush 57, 2) := by decide +kernel
theorem d8_clause_46 : decode M8_clause.2.1 46 = .ok (.if_icmp .ne 12, 3) := by decide +kernel
theorem d8_clause_49 : decode M8_clause.2.1 49 = .ok (.aload_n 0, 1) := by decide +kernel
theorem d8_clause_50 : decode M8_clause.2.1 50 = .ok (.iconst 2, 1) := by decide +kernel
theorem d8_clause_51 : decode M8_clause.2.1 51 = .ok (.aload_n 0, 1) := by decide +kernel
theorem d8_clause_52 : decode M8_clause.2.1 52 = .ok (.getfield 179, 3) := by decide +kernel
theorem d8_clause_55 : decode M8_clause.2.1 55 = .ok (.invokevirtual 199, 3) := by decide +kernel
theorem d8_clause_58 : decode M8_clause.2.1 58 = .ok (.aload_n 0, 1) := by decide +kernel
theorem d8_clause_59 : decode M8_clause.2.1 59 = .ok (.getfield 185, 3) := by decide +kernel
theorem d8_clause_62 : decode M8_clause.2.1 62 = .ok (.ifCond .le 4, 3) := by decide +kernel
theorem d8_clause_65 : decode M8_clause.2.1 65 = .ok (.return_, 1) := by decide +kernel
theorem d8_clause_66 : decode M8_clause.2.1 66 = .ok (.aload_n 0, 1) := by decide +kernel
theorem d8_clause_67 : decode M8_clause.2.1 67 = .ok (.getfield 54, 3) := by decide +kernel
theorem d8_clause_70 : decode M8_clause.2.1 70 = .ok (.aload_n 0, 1) := by decide +kernel
theorem d8_clause_71 : decode M8_clause.2.1 71 = .ok (.getfield 203, 3) := by decide +kernel
theorem d8_clause_74 : decode M8_clause.2.1 74 = .ok (.aload_n 0, 1) := by decide +kernel
theorem d8_clause_75 : decode M8_clause.2.1 75 = .ok (.invokevirtual 188, 3) := by decide +kernel
theorem d8_clause_78 : decode M8_clause.2.1 78 = .ok (.bipush 48, 2) := by decide +kernel
theorem d8_clause_80 : decode M8_clause.2.1 80 = .ok (.isub, 1) := by decide +kernel
theorem d8_clause_81 : decode M8_clause.2.1 81 = .ok (.iastore, 1) := by decide +kernel
theorem d8_clause_82 : decode M8_clause.2.1 82 = .ok (.aload_n 0, 1) := by decide +kernel
theorem d8_clause_83 : decode M8_clause.2.1 83 = .ok (.dup, 1) := by decide +kernel
theorem d8_clause_84 : decode M8_clause.2.1 84 = .ok (.getfield 179, 3) := by decide +kernel
theorem d8_clause_87 : decode M8_clause.2.1 87 = .ok (.iconst 1, 1) := by decide +kernel
theorem d8_clause_88 : decode M8_clause.2.1 88 = .ok (.iadd, 1) := by decide +kernel
theorem d8_clause_89 : decode M8_clause.2.1 89 = .ok (.putfield 179, 3) := by decide +kernel
theorem d8_clause_92 : decode M8_clause.2.1 92 = .ok (.aload_n 0, 1) := by decide +kernel
theorem d8_clause_93 : decode M8_clause.2.1 93 = .ok (.bipush 58, 2) := by decide +kernel
theorem d8_clause_95 : decode M8_clause.2.1 95 = .ok (.invokevirtual 206, 3) := by decide +kernel
theorem d8_clause_98 : decode M8_clause.2.1 98 = .ok (.iconst 0, 1) := by decide +kernel
theorem d8_clause_99 : decode M8_clause.2.1 99 = .ok (.istore_n 1, 1) := by decide +kernel
theorem d8_clause_100 : decode M8_clause.2.1 100 = .ok (.iconst 1, 1) := by decide +kernel
theorem d8_clause_101 : decode M8_clause.2.1 101 = .ok (.istore_n 2, 1) := by decide +kernel
theorem d8_clause_102 : decode M8_clause.2.1 102 = .ok (.iload_n 2, 1) := by decide +kernel
theorem d8_clause_103 : decode M8_clause.2.1 103 = .ok (.ifCond .eq 145, 3) := by decide +kernel
theorem d8_clause_106 : decode M8_clause.2.1 106 = .ok (.aload_n 0, 1) := by decide +kernel
theorem d8_clause_107 : decode M8_clause.2.1 107 = .ok (.getfield 185, 3) := by decide +kernel
theorem d8_clause_110 : decode M8_clause.2.1 110 = .ok (.ifCond .ne 138, 3) := by decide +kernel
theorem d8_clause_113 : decode M8_clause.2.1 113 = .ok (.aload_n 0, 1) := by decide +kernel
theorem d8_clause_114 : decode M8_clause.2.1 114 = .ok (.iconst 0, 1) := by decide +kernel
theorem d8_clause_115 : decode M8_clause.2.1 115 = .ok (.invokevirtual 209, 3) := by decide +kernel
theorem d8_clause_118 : decode M8_clause.2.1 118 = .ok (.istore_n 3, 1) := by decide +kernel
theorem d8_clause_119 : decode M8_clause.2.1 119 = .ok (.aload_n 0, 1) := by decide +kernel
theorem d8_clause_120 : decode M8_clause.2.1 120 = .ok (.getfield 185, 3) := by decide +kernel
theorem d8_clause_123 : decode M8_clause.2.1 123 = .ok (.ifCond .ne 9, 3) := by decide +kernel
theorem d8_clause_126 : decode M8_clause.2.1 126 = .ok (.aload_n 0, 1) := by decide +kernel
theorem d8_clause_127 : decode M8_clause.2.1 127 = .ok (.bipush 45, 2) := by decide +kernel
theorem d8_clause_129 : decode M8_clause.2.1 129 = .ok (.invokevirtual 206, 3) := by decide +kernel
theorem d8_clause_132 : decode M8_clause.2.1 132 = .ok (.aload_n 0, 1) := by decide +kernel
theorem d8_clause_133 : decode M8_clause.2.1 133 = .ok (.getfield 185, 3) := by decide +kernel
theorem d8_clause_136 : decode M8_clause.2.1 136 = .ok (.ifCond .ne 11, 3) := by decide +kernel
theorem d8_clause_139 : decode M8_clause.2.1 139 = .ok (.aload_n 0, 1) := by decide +kernel
theorem d8_clause_140 : decode M8_clause.2.1 140 = .ok (.iload_n 3, 1) := by decide +kernel
theorem d8_clause_141 : decode M8_clause.2.1 141 = .ok (.invokevirtual 209, 3) := by decide +kernel
theorem d8_clause_144 : decode M8_clause.2.1 144 = .ok (.goto 4, 3) := by decide +kernel
theorem d8_clause_147 : decode M8_clause.2.1 147 = .ok (.iconst 0, 1) := by decide +kernel
theorem d8_clause_148 : decode M8_clause.2.1 148 = .ok (.istore 4, 2) := by decide +kernel
theorem d8_clause_150 : decode M8_clause.2.1 150 = .ok (.aload_n 0, 1) := by decide +kernel
theorem d8_clause_151 : decode M8_clause.2.1 151 = .ok (.getfield 185, 3) := by decide +kernel
theorem d8_clause_154 : decode M8_clause.2.1 154 = .ok (.ifCond .le 4, 3) := by decide +kernel
theorem d8_clause_157 : decode M8_clause.2.1 157 = .ok (.return_, 1) := by decide +kernel
theorem d8_clause_158 : decode M8_clause.2.1 158 = .ok (.aload_n 0, 1) := by decide +kernel
theorem d8_clause_159 : decode M8_clause.2.1 159 = .ok (.getfield 60, 3) := by decide +kernel
theorem d8_clause_162 : decode M8_clause.2.1 162 = .ok (.bipush 8, 2) := by decide +kernel
theorem d8_clause_164 : decode M8_clause.2.1 164 = .ok (.aload_n 0, 1) := by decide +kernel
theorem d8_clause_165 : decode M8_clause.2.1 165 = .ok (.getfield 203, 3) := by decide +kernel
theorem d8_clause_168 : decode M8_clause.2.1 168 = .ok (.imul, 1) := by decide +kernel
theorem d8_clause_169 : decode M8_clause.2.1 169 = .ok (.iconst 2, 1) := by decide +kernel
theorem d8_clause_170 : decode M8_clause.2.1 170 = .ok (.iload_n 1, 1) := by decide +kernel
theorem d8_clause_171 : decode M8_clause.2.1 171 = .ok (.imul, 1) := by decide +kernel
theorem d8_clause_172 : decode M8_clause.2.1 172 = .ok (.iadd, 1) := by decide +kernel
theorem d8_clause_173 : decode M8_clause.2.1 173 = .ok (.iload_n 3, 1) := by decide +kernel
theorem d8_clause_174 : decode M8_clause.2.1 174 = .ok (.iastore, 1) := by decide +kernel
theorem d8_clause_175 : decode M8_clause.2.1 175 = .ok (.aload_n 0, 1) := by decide +kernel
theorem d8_clause_176 : decode M8_clause.2.1 176 = .ok (.getfield 60, 3) := by decide +kernel
theorem d8_clause_179 : decode M8_clause.2.1 179 = .ok (.bipush 8, 2) := by decide +kernel
theorem d8_clause_181 : decode M8_clause.2.1 181 = .ok (.aload_n 0, 1) := by decide +kernel
theorem d8_clause_182 : decode M8_clause.2.1 182 = .ok (.getfield 203, 3) := by decide +kernel
theorem d8_clause_185 : decode M8_clause.2.1 185 = .ok (.imul, 1) := by decide +kernel
theorem d8_clause_186 : decode M8_clause.2.1 186 = .ok (.iconst 2, 1) := by decide +kernel
theorem d8_clause_187 : decode M8_clause.2.1 187 = .ok (.iload_n 1, 1) := by decide +kernel
theorem d8_clause_188 : decode M8_clause.2.1 188 = .ok (.imul, 1) := by decide +kernel
theorem d8_clause_189 : decode M8_clause.2.1 189 = .ok (.iadd, 1) := by decide +kernel
theorem d8_clause_190 : decode M8_clause.2.1 190 = .ok (.iconst 1, 1) := by decide +kernel
theorem d8_clause_191 : decode M8_clause.2.1 191 = .ok (.iadd, 1) := by decide +kernel
theorem d8_clause_192 : decode M8_clause.2.1 192 = .ok (.iload 4, 2) := by decide +kernel
theorem d8_clause_194 : decode M8_clause.2.1 194 = .ok (.iastore, 1) := by decide +kernel
theorem d8_clause_195 : decode M8_clause.2.1 195 = .ok (.iinc 1 1, 3) := by decide +kernel
theorem d8_clause_198 : decode M8_clause.2.1 198 = .ok (.aload_n 0, 1) := by decide +kernel
theorem d8_clause_199 : decode M8_clause.2.1 199 = .ok (.invokevirtual 188, 3) := by decide +kernel
theorem d8_clause_202 : decode M8_clause.2.1 202 = .ok (.bipush 44, 2) := by decide +kernel
theorem d8_clause_204 : decode M8_clause.2.1 204 = .ok (.if_icmp .ne 7, 3) := by decide +kernel
theorem d8_clause_207 : decode M8_clause.2.1 207 = .ok (.iconst 1, 1) := by decide +kernel
theorem d8_clause_208 : decode M8_clause.2.1 208 = .ok (.goto 4, 3) := by decide +kernel
theorem d8_clause_211 : decode M8_clause.2.1 211 = .ok (.iconst 0, 1) := by decide +kernel
theorem d8_clause_212 : decode M8_clause.2.1 212 = .ok (.istore_n 2, 1) := by decide +kernel
theorem d8_clause_213 : decode M8_clause.2.1 213 = .ok (.iload_n 2, 1) := by decide +kernel
theorem d8_clause_214 : decode M8_clause.2.1 214 = .ok (.ifCond .eq 17, 3) := by decide +kernel
theorem d8_clause_217 : decode M8_clause.2.1 217 = .ok (.iload_n 1, 1) := by decide +kernel
theorem d8_clause_218 : decode M8_clause.2.1 218 = .ok (.iconst 4, 1) := by decide +kernel
theorem d8_clause_219 : decode M8_clause.2.1 219 = .ok (.if_icmp .ne 12, 3) := by decide +kernel
theorem d8_clause_222 : decode M8_clause.2.1 222 = .ok (.aload_n 0, 1) := by decide +kernel
theorem d8_clause_223 : decode M8_clause.2.1 223 = .ok (.iconst 1, 1) := by decide +kernel
theorem d8_clause_224 : decode M8_clause.2.1 224 = .ok (.aload_n 0, 1) := by decide +kernel
theorem d8_clause_225 : decode M8_clause.2.1 225 = .ok (.getfield 179, 3) := by decide +kernel
theorem d8_clause_228 : decode M8_clause.2.1 228 = .ok (.invokevirtual 199, 3) := by decide +kernel
theorem d8_clause_231 : decode M8_clause.2.1 231 = .ok (.iload_n 2, 1) := by decide +kernel
theorem d8_clause_232 : decode M8_clause.2.1 232 = .ok (.ifCond .eq 13, 3) := by decide +kernel
theorem d8_clause_235 : decode M8_clause.2.1 235 = .ok (.aload_n 0, 1) := by decide +kernel
theorem d8_clause_236 : decode M8_clause.2.1 236 = .ok (.dup, 1) := by decide +kernel
theorem d8_clause_237 : decode M8_clause.2.1 237 = .ok (.getfield 179, 3) := by decide +kernel
theorem d8_clause_240 : decode M8_clause.2.1 240 = .ok (.iconst 1, 1) := by decide +kernel
theorem d8_clause_241 : decode M8_clause.2.1 241 = .ok (.iadd, 1) := by decide +kernel
theorem d8_clause_242 : decode M8_clause.2.1 242 = .ok (.putfield 179, 3) := by decide +kernel
theorem d8_clause_245 : decode M8_clause.2.1 245 = .ok (.goto (-143), 3) := by decide +kernel
theorem d8_clause_248 : decode M8_clause.2.1 248 = .ok (.aload_n 0, 1) := by decide +kernel
theorem d8_clause_249 : decode M8_clause.2.1 249 = .ok (.getfield 57, 3) := by decide +kernel
theorem d8_clause_252 : decode M8_clause.2.1 252 = .ok (.aload_n 0, 1) := by decide +kernel
theorem d8_clause_253 : decode M8_clause.2.1 253 = .ok (.getfield 203, 3) := by decide +kernel
theorem d8_clause_256 : decode M8_clause.2.1 256 = .ok (.iload_n 1, 1) := by decide +kernel
theorem d8_clause_257 : decode M8_clause.2.1 257 = .ok (.iastore, 1) := by decide +kernel
theorem d8_clause_258 : decode M8_clause.2.1 258 = .ok (.aload_n 0, 1) := by decide +kernel
theorem d8_clause_259 : decode M8_clause.2.1 259 = .ok (.dup, 1) := by decide +kernel
theorem d8_clause_260 : decode M8_clause.2.1 260 = .ok (.getfield 203, 3) := by decide +kernel
theorem d8_clause_263 : decode M8_clause.2.1 263 = .ok (.iconst 1, 1) := by decide +kernel
theorem d8_clause_264 : decode M8_clause.2.1 264 = .ok (.iadd, 1) := by decide +kernel
theorem d8_clause_265 : decode M8_clause.2.1 265 = .ok (.putfield 203, 3) := by decide +kernel
theorem d8_clause_268 : decode M8_clause.2.1 268 = .ok (.return_, 1) := by decide +kernel
theorem d8_rules_0 : decode M8_rules.2.1 0 = .ok (.iload_n 1, 1) := by decide +kernel
theorem d8_rules_1 : decode M8_rules.2.1 1 = .ok (.ifCond .lt 11, 3) := by decide +kernel
theorem d8_rules_4 : decode M8_rules.2.1 4 = .ok (.iload_n 1, 1) := by decide +kernel
theorem d8_rules_5 : decode M8_rules.2.1 5 = .ok (.aload_n 0, 1) := by decide +kernel
theorem d8_rules_6 : decode M8_rules.2.1 6 = .ok (.getfield 172, 3) := by decide +kernel
theorem d8_rules_9 : decode M8_rules.2.1 9 = .ok (.if_icmp .le 5, 3) := by decide +kernel
theorem d8_rules_12 : decode M8_rules.2.1 12 = .ok (.iconst (-1), 1) := by decide +kernel
theorem d8_rules_13 : decode M8_rules.2.1 13 = .ok (.ireturn, 1) := by decide +kernel
theorem d8_rules_14 : decode M8_rules.2.1 14 = .ok (.aload_n 0, 1) := by decide +kernel
theorem d8_rules_15 : decode M8_rules.2.1 15 = .ok (.iconst 0, 1) := by decide +kernel
theorem d8_rules_16 : decode M8_rules.2.1 16 = .ok (.putfield 172, 3) := by decide +kernel
theorem d8_rules_19 : decode M8_rules.2.1 19 = .ok (.aload_n 0, 1) := by decide +kernel
theorem d8_rules_20 : decode M8_rules.2.1 20 = .ok (.iconst 0, 1) := by decide +kernel
theorem d8_rules_21 : decode M8_rules.2.1 21 = .ok (.putfield 179, 3) := by decide +kernel
theorem d8_rules_24 : decode M8_rules.2.1 24 = .ok (.aload_n 0, 1) := by decide +kernel
theorem d8_rules_25 : decode M8_rules.2.1 25 = .ok (.iload_n 1, 1) := by decide +kernel
theorem d8_rules_26 : decode M8_rules.2.1 26 = .ok (.putfield 182, 3) := by decide +kernel
theorem d8_rules_29 : decode M8_rules.2.1 29 = .ok (.aload_n 0, 1) := by decide +kernel
theorem d8_rules_30 : decode M8_rules.2.1 30 = .ok (.iconst 0, 1) := by decide +kernel
theorem d8_rules_31 : decode M8_rules.2.1 31 = .ok (.putfield 185, 3) := by decide +kernel
theorem d8_rules_34 : decode M8_rules.2.1 34 = .ok (.aload_n 0, 1) := by decide +kernel
theorem d8_rules_35 : decode M8_rules.2.1 35 = .ok (.iconst 0, 1) := by decide +kernel
theorem d8_rules_36 : decode M8_rules.2.1 36 = .ok (.putfield 203, 3) := by decide +kernel
theorem d8_rules_39 : decode M8_rules.2.1 39 = .ok (.iload_n 1, 1) := by decide +kernel
theorem d8_rules_40 : decode M8_rules.2.1 40 = .ok (.ifCond .le 7, 3) := by decide +kernel
theorem d8_rules_43 : decode M8_rules.2.1 43 = .ok (.iconst 1, 1) := by decide +kernel
theorem d8_rules_44 : decode M8_rules.2.1 44 = .ok (.goto 4, 3) := by decide +kernel
theorem d8_rules_47 : decode M8_rules.2.1 47 = .ok (.iconst 0, 1) := by decide +kernel
theorem d8_rules_48 : decode M8_rules.2.1 48 = .ok (.istore_n 2, 1) := by decide +kernel
theorem d8_rules_49 : decode M8_rules.2.1 49 = .ok (.iload_n 2, 1) := by decide +kernel
theorem d8_rules_50 : decode M8_rules.2.1 50 = .ok (.ifCond .eq 51, 3) := by decide +kernel
theorem d8_rules_53 : decode M8_rules.2.1 53 = .ok (.aload_n 0, 1) := by decide +kernel
theorem d8_rules_54 : decode M8_rules.2.1 54 = .ok (.getfield 185, 3) := by decide +kernel
theorem d8_rules_57 : decode M8_rules.2.1 57 = .ok (.ifCond .ne 44, 3) := by decide +kernel
theorem d8_rules_60 : decode M8_rules.2.1 60 = .ok (.aload_n 0, 1) := by decide +kernel
theorem d8_rules_61 : decode M8_rules.2.1 61 = .ok (.invokevirtual 212, 3) := by decide +kernel
theorem d8_rules_64 : decode M8_rules.2.1 64 = .ok (.aload_n 0, 1) := by decide +kernel
theorem d8_rules_65 : decode M8_rules.2.1 65 = .ok (.getfield 185, 3) := by decide +kernel
theorem d8_rules_68 : decode M8_rules.2.1 68 = .ok (.ifCond .ne 18, 3) := by decide +kernel
theorem d8_rules_71 : decode M8_rules.2.1 71 = .ok (.aload_n 0, 1) := by decide +kernel
theorem d8_rules_72 : decode M8_rules.2.1 72 = .ok (.getfield 179, 3) := by decide +kernel
theorem d8_rules_75 : decode M8_rules.2.1 75 = .ok (.aload_n 0, 1) := by decide +kernel
theorem d8_rules_76 : decode M8_rules.2.1 76 = .ok (.getfield 182, 3) := by decide +kernel
theorem d8_rules_79 : decode M8_rules.2.1 79 = .ok (.if_icmp .ge 7, 3) := by decide +kernel
theorem d8_rules_82 : decode M8_rules.2.1 82 = .ok (.iconst 1, 1) := by decide +kernel
theorem d8_rules_83 : decode M8_rules.2.1 83 = .ok (.goto 4, 3) := by decide +kernel
theorem d8_rules_86 : decode M8_rules.2.1 86 = .ok (.iconst 0, 1) := by decide +kernel
theorem d8_rules_87 : decode M8_rules.2.1 87 = .ok (.istore_n 2, 1) := by decide +kernel
theorem d8_rules_88 : decode M8_rules.2.1 88 = .ok (.iload_n 2, 1) := by decide +kernel
theorem d8_rules_89 : decode M8_rules.2.1 89 = .ok (.ifCond .eq (-40), 3) := by decide +kernel
theorem d8_rules_92 : decode M8_rules.2.1 92 = .ok (.aload_n 0, 1) := by decide +kernel
theorem d8_rules_93 : decode M8_rules.2.1 93 = .ok (.bipush 59, 2) := by decide +kernel
theorem d8_rules_95 : decode M8_rules.2.1 95 = .ok (.invokevirtual 206, 3) := by decide +kernel
theorem d8_rules_98 : decode M8_rules.2.1 98 = .ok (.goto (-49), 3) := by decide +kernel
theorem d8_rules_101 : decode M8_rules.2.1 101 = .ok (.aload_n 0, 1) := by decide +kernel
theorem d8_rules_102 : decode M8_rules.2.1 102 = .ok (.getfield 185, 3) := by decide +kernel
theorem d8_rules_105 : decode M8_rules.2.1 105 = .ok (.ifCond .le 8, 3) := by decide +kernel
theorem d8_rules_108 : decode M8_rules.2.1 108 = .ok (.aload_n 0, 1) := by decide +kernel
theorem d8_rules_109 : decode M8_rules.2.1 109 = .ok (.getfield 185, 3) := by decide +kernel
theorem d8_rules_112 : decode M8_rules.2.1 112 = .ok (.ireturn, 1) := by decide +kernel
theorem d8_rules_113 : decode M8_rules.2.1 113 = .ok (.aload_n 0, 1) := by decide +kernel
theorem d8_rules_114 : decode M8_rules.2.1 114 = .ok (.aload_n 0, 1) := by decide +kernel
theorem d8_rules_115 : decode M8_rules.2.1 115 = .ok (.getfield 203, 3) := by decide +kernel
theorem d8_rules_118 : decode M8_rules.2.1 118 = .ok (.putfield 215, 3) := by decide +kernel
theorem d8_rules_121 : decode M8_rules.2.1 121 = .ok (.iconst 0, 1) := by decide +kernel
theorem d8_rules_122 : decode M8_rules.2.1 122 = .ok (.istore_n 3, 1) := by decide +kernel
theorem d8_rules_123 : decode M8_rules.2.1 123 = .ok (.iload_n 3, 1) := by decide +kernel
theorem d8_rules_124 : decode M8_rules.2.1 124 = .ok (.aload_n 0, 1) := by decide +kernel
theorem d8_rules_125 : decode M8_rules.2.1 125 = .ok (.getfield 203, 3) := by decide +kernel
theorem d8_rules_128 : decode M8_rules.2.1 128 = .ok (.if_icmp .ge 73, 3) := by decide +kernel
theorem d8_rules_131 : decode M8_rules.2.1 131 = .ok (.aload_n 0, 1) := by decide +kernel
theorem d8_rules_132 : decode M8_rules.2.1 132 = .ok (.getfield 45, 3) := by decide +kernel
theorem d8_rules_135 : decode M8_rules.2.1 135 = .ok (.iload_n 3, 1) := by decide +kernel
theorem d8_rules_136 : decode M8_rules.2.1 136 = .ok (.aload_n 0, 1) := by decide +kernel
theorem d8_rules_137 : decode M8_rules.2.1 137 = .ok (.getfield 54, 3) := by decide +kernel
theorem d8_rules_140 : decode M8_rules.2.1 140 = .ok (.iload_n 3, 1) := by decide +kernel
theorem d8_rules_141 : decode M8_rules.2.1 141 = .ok (.iaload, 1) := by decide +kernel
theorem d8_rules_142 : decode M8_rules.2.1 142 = .ok (.iastore, 1) := by decide +kernel
theorem d8_rules_143 : decode M8_rules.2.1 143 = .ok (.aload_n 0, 1) := by decide +kernel
theorem d8_rules_144 : decode M8_rules.2.1 144 = .ok (.getfield 48, 3) := by decide +kernel
theorem d8_rules_147 : decode M8_rules.2.1 147 = .ok (.iload_n 3, 1) := by decide +kernel
theorem d8_rules_148 : decode M8_rules.2.1 148 = .ok (.aload_n 0, 1) := by decide +kernel
theorem d8_rules_149 : decode M8_rules.2.1 149 = .ok (.getfield 57, 3) := by decide +kernel
theorem d8_rules_152 : decode M8_rules.2.1 152 = .ok (.iload_n 3, 1) := by decide +kernel
theorem d8_rules_153 : decode M8_rules.2.1 153 = .ok (.iaload, 1) := by decide +kernel
theorem d8_rules_154 : decode M8_rules.2.1 154 = .ok (.iastore, 1) := by decide +kernel
theorem d8_rules_155 : decode M8_rules.2.1 155 = .ok (.iconst 0, 1) := by decide +kernel
theorem d8_rules_156 : decode M8_rules.2.1 156 = .ok (.istore 4, 2) := by decide +kernel
theorem d8_rules_158 : decode M8_rules.2.1 158 = .ok (.iload 4, 2) := by decide +kernel
theorem d8_rules_160 : decode M8_rules.2.1 160 = .ok (.bipush 8, 2) := by decide +kernel
theorem d8_rules_162 : decode M8_rules.2.1 162 = .ok (.if_icmp .ge 33, 3) := by decide +kernel
theorem d8_rules_165 : decode M8_rules.2.1 165 = .ok (.aload_n 0, 1) := by decide +kernel
theorem d8_rules_166 : decode M8_rules.2.1 166 = .ok (.getfield 51, 3) := by decide +kernel
theorem d8_rules_169 : decode M8_rules.2.1 169 = .ok (.bipush 8, 2) := by decide +kernel
theorem d8_rules_171 : decode M8_rules.2.1 171 = .ok (.iload_n 3, 1) := by decide +kernel
theorem d8_rules_172 : decode M8_rules.2.1 172 = .ok (.imul, 1) := by decide +kernel
theorem d8_rules_173 : decode M8_rules.2.1 173 = .ok (.iload 4, 2) := by decide +kernel
theorem d8_rules_175 : decode M8_rules.2.1 175 = .ok (.iadd, 1) := by decide +kernel
theorem d8_rules_176 : decode M8_rules.2.1 176 = .ok (.aload_n 0, 1) := by decide +kernel
theorem d8_rules_177 : decode M8_rules.2.1 177 = .ok (.getfield 60, 3) := by decide +kernel
theorem d8_rules_180 : decode M8_rules.2.1 180 = .ok (.bipush 8, 2) := by decide +kernel
theorem d8_rules_182 : decode M8_rules.2.1 182 = .ok (.iload_n 3, 1) := by decide +kernel
theorem d8_rules_183 : decode M8_rules.2.1 183 = .ok (.imul, 1) := by decide +kernel
theorem d8_rules_184 : decode M8_rules.2.1 184 = .ok (.iload 4, 2) := by decide +kernel
theorem d8_rules_186 : decode M8_rules.2.1 186 = .ok (.iadd, 1) := by decide +kernel
theorem d8_rules_187 : decode M8_rules.2.1 187 = .ok (.iaload, 1) := by decide +kernel
theorem d8_rules_188 : decode M8_rules.2.1 188 = .ok (.iastore, 1) := by decide +kernel
theorem d8_rules_189 : decode M8_rules.2.1 189 = .ok (.iinc 4 1, 3) := by decide +kernel
theorem d8_rules_192 : decode M8_rules.2.1 192 = .ok (.goto (-34), 3) := by decide +kernel
theorem d8_rules_195 : decode M8_rules.2.1 195 = .ok (.iinc 3 1, 3) := by decide +kernel
theorem d8_rules_198 : decode M8_rules.2.1 198 = .ok (.goto (-75), 3) := by decide +kernel
theorem d8_rules_201 : decode M8_rules.2.1 201 = .ok (.iconst 0, 1) := by decide +kernel
theorem d8_rules_202 : decode M8_rules.2.1 202 = .ok (.ireturn, 1) := by decide +kernel
theorem d8_kindOf_0 : decode M8_kindOf.2.1 0 = .ok (.iconst 0, 1) := by decide +kernel
theorem d8_kindOf_1 : decode M8_kindOf.2.1 1 = .ok (.istore_n 3, 1) := by decide +kernel
theorem d8_kindOf_2 : decode M8_kindOf.2.1 2 = .ok (.iload_n 3, 1) := by decide +kernel
theorem d8_kindOf_3 : decode M8_kindOf.2.1 3 = .ok (.aload_n 0, 1) := by decide +kernel
theorem d8_kindOf_4 : decode M8_kindOf.2.1 4 = .ok (.getfield 215, 3) := by decide +kernel
theorem d8_kindOf_7 : decode M8_kindOf.2.1 7 = .ok (.if_icmp .ge 116, 3) := by decide +kernel
theorem d8_kindOf_10 : decode M8_kindOf.2.1 10 = .ok (.aload_n 0, 1) := by decide +kernel
theorem d8_kindOf_11 : decode M8_kindOf.2.1 11 = .ok (.getfield 48, 3) := by decide +kernel
theorem d8_kindOf_14 : decode M8_kindOf.2.1 14 = .ok (.iload_n 3, 1) := by decide +kernel
theorem d8_kindOf_15 : decode M8_kindOf.2.1 15 = .ok (.iaload, 1) := by decide +kernel
theorem d8_kindOf_16 : decode M8_kindOf.2.1 16 = .ok (.iload_n 2, 1) := by decide +kernel
theorem d8_kindOf_17 : decode M8_kindOf.2.1 17 = .ok (.iload_n 1, 1) := by decide +kernel
theorem d8_kindOf_18 : decode M8_kindOf.2.1 18 = .ok (.isub, 1) := by decide +kernel
theorem d8_kindOf_19 : decode M8_kindOf.2.1 19 = .ok (.if_icmp .ne 7, 3) := by decide +kernel
theorem d8_kindOf_22 : decode M8_kindOf.2.1 22 = .ok (.iconst 1, 1) := by decide +kernel
theorem d8_kindOf_23 : decode M8_kindOf.2.1 23 = .ok (.goto 4, 3) := by decide +kernel
theorem d8_kindOf_26 : decode M8_kindOf.2.1 26 = .ok (.iconst 0, 1) := by decide +kernel
theorem d8_kindOf_27 : decode M8_kindOf.2.1 27 = .ok (.istore 4, 2) := by decide +kernel
theorem d8_kindOf_29 : decode M8_kindOf.2.1 29 = .ok (.iconst 0, 1) := by decide +kernel
theorem d8_kindOf_30 : decode M8_kindOf.2.1 30 = .ok (.istore 5, 2) := by decide +kernel
theorem d8_kindOf_32 : decode M8_kindOf.2.1 32 = .ok (.iload 5, 2) := by decide +kernel
theorem d8_kindOf_34 : decode M8_kindOf.2.1 34 = .ok (.aload_n 0, 1) := by decide +kernel
theorem d8_kindOf_35 : decode M8_kindOf.2.1 35 = .ok (.getfield 48, 3) := by decide +kernel
theorem d8_kindOf_38 : decode M8_kindOf.2.1 38 = .ok (.iload_n 3, 1) := by decide +kernel
theorem d8_kindOf_39 : decode M8_kindOf.2.1 39 = .ok (.iaload, 1) := by decide +kernel
theorem d8_kindOf_40 : decode M8_kindOf.2.1 40 = .ok (.if_icmp .ge 65, 3) := by decide +kernel
theorem d8_kindOf_43 : decode M8_kindOf.2.1 43 = .ok (.iload 4, 2) := by decide +kernel
theorem d8_kindOf_45 : decode M8_kindOf.2.1 45 = .ok (.ifCond .eq 60, 3) := by decide +kernel
theorem d8_kindOf_48 : decode M8_kindOf.2.1 48 = .ok (.aload_n 0, 1) := by decide +kernel
theorem d8_kindOf_49 : decode M8_kindOf.2.1 49 = .ok (.getfield 7, 3) := by decide +kernel
theorem d8_kindOf_52 : decode M8_kindOf.2.1 52 = .ok (.iload_n 1, 1) := by decide +kernel
theorem d8_kindOf_53 : decode M8_kindOf.2.1 53 = .ok (.iload 5, 2) := by decide +kernel
theorem d8_kindOf_55 : decode M8_kindOf.2.1 55 = .ok (.iadd, 1) := by decide +kernel
theorem d8_kindOf_56 : decode M8_kindOf.2.1 56 = .ok (.baload, 1) := by decide +kernel
theorem d8_kindOf_57 : decode M8_kindOf.2.1 57 = .ok (.sipush 255, 3) := by decide +kernel
theorem d8_kindOf_60 : decode M8_kindOf.2.1 60 = .ok (.iand, 1) := by decide +kernel
theorem d8_kindOf_61 : decode M8_kindOf.2.1 61 = .ok (.i2l, 1) := by decide +kernel
theorem d8_kindOf_62 : decode M8_kindOf.2.1 62 = .ok (.aload_n 0, 1) := by decide +kernel
theorem d8_kindOf_63 : decode M8_kindOf.2.1 63 = .ok (.getfield 51, 3) := by decide +kernel
theorem d8_kindOf_66 : decode M8_kindOf.2.1 66 = .ok (.bipush 8, 2) := by decide +kernel
theorem d8_kindOf_68 : decode M8_kindOf.2.1 68 = .ok (.iload_n 3, 1) := by decide +kernel
theorem d8_kindOf_69 : decode M8_kindOf.2.1 69 = .ok (.imul, 1) := by decide +kernel
theorem d8_kindOf_70 : decode M8_kindOf.2.1 70 = .ok (.iconst 2, 1) := by decide +kernel
theorem d8_kindOf_71 : decode M8_kindOf.2.1 71 = .ok (.iload 5, 2) := by decide +kernel
theorem d8_kindOf_73 : decode M8_kindOf.2.1 73 = .ok (.imul, 1) := by decide +kernel
theorem d8_kindOf_74 : decode M8_kindOf.2.1 74 = .ok (.iadd, 1) := by decide +kernel
theorem d8_kindOf_75 : decode M8_kindOf.2.1 75 = .ok (.iaload, 1) := by decide +kernel
theorem d8_kindOf_76 : decode M8_kindOf.2.1 76 = .ok (.i2l, 1) := by decide +kernel
theorem d8_kindOf_77 : decode M8_kindOf.2.1 77 = .ok (.aload_n 0, 1) := by decide +kernel
theorem d8_kindOf_78 : decode M8_kindOf.2.1 78 = .ok (.getfield 51, 3) := by decide +kernel
theorem d8_kindOf_81 : decode M8_kindOf.2.1 81 = .ok (.bipush 8, 2) := by decide +kernel
theorem d8_kindOf_83 : decode M8_kindOf.2.1 83 = .ok (.iload_n 3, 1) := by decide +kernel
theorem d8_kindOf_84 : decode M8_kindOf.2.1 84 = .ok (.imul, 1) := by decide +kernel
theorem d8_kindOf_85 : decode M8_kindOf.2.1 85 = .ok (.iconst 2, 1) := by decide +kernel
theorem d8_kindOf_86 : decode M8_kindOf.2.1 86 = .ok (.iload 5, 2) := by decide +kernel
theorem d8_kindOf_88 : decode M8_kindOf.2.1 88 = .ok (.imul, 1) := by decide +kernel
theorem d8_kindOf_89 : decode M8_kindOf.2.1 89 = .ok (.iadd, 1) := by decide +kernel
theorem d8_kindOf_90 : decode M8_kindOf.2.1 90 = .ok (.iconst 1, 1) := by decide +kernel
theorem d8_kindOf_91 : decode M8_kindOf.2.1 91 = .ok (.iadd, 1) := by decide +kernel
theorem d8_kindOf_92 : decode M8_kindOf.2.1 92 = .ok (.iaload, 1) := by decide +kernel
theorem d8_kindOf_93 : decode M8_kindOf.2.1 93 = .ok (.i2l, 1) := by decide +kernel
theorem d8_kindOf_94 : decode M8_kindOf.2.1 94 = .ok (.invokestatic 74, 3) := by decide +kernel
theorem d8_kindOf_97 : decode M8_kindOf.2.1 97 = .ok (.istore 4, 2) := by decide +kernel
theorem d8_kindOf_99 : decode M8_kindOf.2.1 99 = .ok (.iinc 5 1, 3) := by decide +kernel
theorem d8_kindOf_102 : decode M8_kindOf.2.1 102 = .ok (.goto (-70), 3) := by decide +kernel
theorem d8_kindOf_105 : decode M8_kindOf.2.1 105 = .ok (.iload 4, 2) := by decide +kernel
theorem d8_kindOf_107 : decode M8_kindOf.2.1 107 = .ok (.ifCond .eq 10, 3) := by decide +kernel
theorem d8_kindOf_110 : decode M8_kindOf.2.1 110 = .ok (.aload_n 0, 1) := by decide +kernel
theorem d8_kindOf_111 : decode M8_kindOf.2.1 111 = .ok (.getfield 45, 3) := by decide +kernel
theorem d8_kindOf_114 : decode M8_kindOf.2.1 114 = .ok (.iload_n 3, 1) := by decide +kernel
theorem d8_kindOf_115 : decode M8_kindOf.2.1 115 = .ok (.iaload, 1) := by decide +kernel
theorem d8_kindOf_116 : decode M8_kindOf.2.1 116 = .ok (.ireturn, 1) := by decide +kernel
theorem d8_kindOf_117 : decode M8_kindOf.2.1 117 = .ok (.iinc 3 1, 3) := by decide +kernel
theorem d8_kindOf_120 : decode M8_kindOf.2.1 120 = .ok (.goto (-118), 3) := by decide +kernel
theorem d8_kindOf_123 : decode M8_kindOf.2.1 123 = .ok (.bipush 9, 2) := by decide +kernel
theorem d8_kindOf_125 : decode M8_kindOf.2.1 125 = .ok (.ireturn, 1) := by decide +kernel
theorem d8_pass_0 : decode M8_pass.2.1 0 = .ok (.aload_n 0, 1) := by decide +kernel
theorem d8_pass_1 : decode M8_pass.2.1 1 = .ok (.iload_n 1, 1) := by decide +kernel
theorem d8_pass_2 : decode M8_pass.2.1 2 = .ok (.invokevirtual 112, 3) := by decide +kernel
theorem d8_pass_5 : decode M8_pass.2.1 5 = .ok (.ifCond .eq 15, 3) := by decide +kernel
theorem d8_pass_8 : decode M8_pass.2.1 8 = .ok (.iload_n 2, 1) := by decide +kernel
theorem d8_pass_9 : decode M8_pass.2.1 9 = .ok (.ifCond .lt 11, 3) := by decide +kernel
theorem d8_pass_12 : decode M8_pass.2.1 12 = .ok (.iload_n 2, 1) := by decide +kernel
theorem d8_pass_13 : decode M8_pass.2.1 13 = .ok (.aload_n 0, 1) := by decide +kernel
theorem d8_pass_14 : decode M8_pass.2.1 14 = .ok (.getfield 172, 3) := by decide +kernel
theorem d8_pass_17 : decode M8_pass.2.1 17 = .ok (.if_icmp .le 5, 3) := by decide +kernel
theorem d8_pass_20 : decode M8_pass.2.1 20 = .ok (.iconst (-1), 1) := by decide +kernel
theorem d8_pass_21 : decode M8_pass.2.1 21 = .ok (.ireturn, 1) := by decide +kernel
theorem d8_pass_22 : decode M8_pass.2.1 22 = .ok (.aload_n 0, 1) := by decide +kernel
theorem d8_pass_23 : decode M8_pass.2.1 23 = .ok (.iconst 0, 1) := by decide +kernel
theorem d8_pass_24 : decode M8_pass.2.1 24 = .ok (.putfield 172, 3) := by decide +kernel
theorem d8_pass_27 : decode M8_pass.2.1 27 = .ok (.iconst 0, 1) := by decide +kernel
theorem d8_pass_28 : decode M8_pass.2.1 28 = .ok (.istore_n 3, 1) := by decide +kernel
theorem d8_pass_29 : decode M8_pass.2.1 29 = .ok (.iconst 0, 1) := by decide +kernel
theorem d8_pass_30 : decode M8_pass.2.1 30 = .ok (.istore 4, 2) := by decide +kernel
theorem d8_pass_32 : decode M8_pass.2.1 32 = .ok (.iconst 0, 1) := by decide +kernel
theorem d8_pass_33 : decode M8_pass.2.1 33 = .ok (.istore 5, 2) := by decide +kernel
theorem d8_pass_35 : decode M8_pass.2.1 35 = .ok (.iload 5, 2) := by decide +kernel
theorem d8_pass_37 : decode M8_pass.2.1 37 = .ok (.iload_n 2, 1) := by decide +kernel
theorem d8_pass_38 : decode M8_pass.2.1 38 = .ok (.if_icmp .gt 66, 3) := by decide +kernel
theorem d8_pass_41 : decode M8_pass.2.1 41 = .ok (.iload 5, 2) := by decide +kernel
theorem d8_pass_43 : decode M8_pass.2.1 43 = .ok (.iload_n 2, 1) := by decide +kernel
theorem d8_pass_44 : decode M8_pass.2.1 44 = .ok (.if_icmp .ge 16, 3) := by decide +kernel
theorem d8_pass_47 : decode M8_pass.2.1 47 = .ok (.aload_n 0, 1) := by decide +kernel
theorem d8_pass_48 : decode M8_pass.2.1 48 = .ok (.getfield 7, 3) := by decide +kernel
theorem d8_pass_51 : decode M8_pass.2.1 51 = .ok (.iload 5, 2) := by decide +kernel
theorem d8_pass_53 : decode M8_pass.2.1 53 = .ok (.baload, 1) := by decide +kernel
theorem d8_pass_54 : decode M8_pass.2.1 54 = .ok (.ifCond .eq 6, 3) := by decide +kernel
theorem d8_pass_57 : decode M8_pass.2.1 57 = .ok (.goto 41, 3) := by decide +kernel
theorem d8_pass_60 : decode M8_pass.2.1 60 = .ok (.iload 5, 2) := by decide +kernel
theorem d8_pass_62 : decode M8_pass.2.1 62 = .ok (.iload 4, 2) := by decide +kernel
theorem d8_pass_64 : decode M8_pass.2.1 64 = .ok (.if_icmp .le 28, 3) := by decide +kernel
theorem d8_pass_67 : decode M8_pass.2.1 67 = .ok (.aload_n 0, 1) := by decide +kernel
theorem d8_pass_68 : decode M8_pass.2.1 68 = .ok (.getfield 42, 3) := by decide +kernel
theorem d8_pass_71 : decode M8_pass.2.1 71 = .ok (.bipush 10, 2) := by decide +kernel
theorem d8_pass_73 : decode M8_pass.2.1 73 = .ok (.iload_n 1, 1) := by decide +kernel
theorem d8_pass_74 : decode M8_pass.2.1 74 = .ok (.imul, 1) := by decide +kernel
theorem d8_pass_75 : decode M8_pass.2.1 75 = .ok (.aload_n 0, 1) := by decide +kernel
theorem d8_pass_76 : decode M8_pass.2.1 76 = .ok (.iload 4, 2) := by decide +kernel
theorem d8_pass_78 : decode M8_pass.2.1 78 = .ok (.iload 5, 2) := by decide +kernel
theorem d8_pass_80 : decode M8_pass.2.1 80 = .ok (.invokevirtual 218, 3) := by decide +kernel
theorem d8_pass_83 : decode M8_pass.2.1 83 = .ok (.iadd, 1) := by decide +kernel
theorem d8_pass_84 : decode M8_pass.2.1 84 = .ok (.dup2, 1) := by decide +kernel
theorem d8_pass_85 : decode M8_pass.2.1 85 = .ok (.iaload, 1) := by decide +kernel
theorem d8_pass_86 : decode M8_pass.2.1 86 = .ok (.iconst 1, 1) := by decide +kernel
theorem d8_pass_87 : decode M8_pass.2.1 87 = .ok (.iadd, 1) := by decide +kernel
theorem d8_pass_88 : decode M8_pass.2.1 88 = .ok (.iastore, 1) := by decide +kernel
theorem d8_pass_89 : decode M8_pass.2.1 89 = .ok (.iinc 3 1, 3) := by decide +kernel
theorem d8_pass_92 : decode M8_pass.2.1 92 = .ok (.iload 5, 2) := by decide +kernel
theorem d8_pass_94 : decode M8_pass.2.1 94 = .ok (.iconst 1, 1) := by decide +kernel
theorem d8_pass_95 : decode M8_pass.2.1 95 = .ok (.iadd, 1) := by decide +kernel
theorem d8_pass_96 : decode M8_pass.2.1 96 = .ok (.istore 4, 2) := by decide +kernel
theorem d8_pass_98 : decode M8_pass.2.1 98 = .ok (.iinc 5 1, 3) := by decide +kernel
theorem d8_pass_101 : decode M8_pass.2.1 101 = .ok (.goto (-66), 3) := by decide +kernel
theorem d8_pass_104 : decode M8_pass.2.1 104 = .ok (.iload_n 3, 1) := by decide +kernel
theorem d8_pass_105 : decode M8_pass.2.1 105 = .ok (.ireturn, 1) := by decide +kernel
theorem d8_kinds_0 : decode M8_kinds.2.1 0 = .ok (.aload_n 0, 1) := by decide +kernel
theorem d8_kinds_1 : decode M8_kinds.2.1 1 = .ok (.iload_n 1, 1) := by decide +kernel
theorem d8_kinds_2 : decode M8_kinds.2.1 2 = .ok (.invokevirtual 112, 3) := by decide +kernel
theorem d8_kinds_5 : decode M8_kinds.2.1 5 = .ok (.ifCond .eq 29, 3) := by decide +kernel
theorem d8_kinds_8 : decode M8_kinds.2.1 8 = .ok (.iload_n 2, 1) := by decide +kernel
theorem d8_kinds_9 : decode M8_kinds.2.1 9 = .ok (.i2l, 1) := by decide +kernel
theorem d8_kinds_10 : decode M8_kinds.2.1 10 = .ok (.lconst 0, 1) := by decide +kernel
theorem d8_kinds_11 : decode M8_kinds.2.1 11 = .ok (.ldc2_w 222, 3) := by decide +kernel
theorem d8_kinds_14 : decode M8_kinds.2.1 14 = .ok (.invokestatic 74, 3) := by decide +kernel
theorem d8_kinds_17 : decode M8_kinds.2.1 17 = .ok (.ifCond .eq 17, 3) := by decide +kernel
theorem d8_kinds_20 : decode M8_kinds.2.1 20 = .ok (.aload_n 0, 1) := by decide +kernel
theorem d8_kinds_21 : decode M8_kinds.2.1 21 = .ok (.getfield 42, 3) := by decide +kernel
theorem d8_kinds_24 : decode M8_kinds.2.1 24 = .ok (.bipush 10, 2) := by decide +kernel
theorem d8_kinds_26 : decode M8_kinds.2.1 26 = .ok (.iload_n 1, 1) := by decide +kernel
theorem d8_kinds_27 : decode M8_kinds.2.1 27 = .ok (.imul, 1) := by decide +kernel
theorem d8_kinds_28 : decode M8_kinds.2.1 28 = .ok (.iload_n 2, 1) := by decide +kernel
theorem d8_kinds_29 : decode M8_kinds.2.1 29 = .ok (.iadd, 1) := by decide +kernel
theorem d8_kinds_30 : decode M8_kinds.2.1 30 = .ok (.iaload, 1) := by decide +kernel
theorem d8_kinds_31 : decode M8_kinds.2.1 31 = .ok (.goto 4, 3) := by decide +kernel
theorem d8_kinds_34 : decode M8_kinds.2.1 34 = .ok (.iconst (-1), 1) := by decide +kernel
theorem d8_kinds_35 : decode M8_kinds.2.1 35 = .ok (.ireturn, 1) := by decide +kernel
theorem d8_look_0 : decode M8_look.2.1 0 = .ok (.aload_n 0, 1) := by decide +kernel
theorem d8_look_1 : decode M8_look.2.1 1 = .ok (.iload_n 1, 1) := by decide +kernel
theorem d8_look_2 : decode M8_look.2.1 2 = .ok (.invokevirtual 112, 3) := by decide +kernel
theorem d8_look_5 : decode M8_look.2.1 5 = .ok (.ifCond .ne 5, 3) := by decide +kernel
theorem d8_look_8 : decode M8_look.2.1 8 = .ok (.iconst (-1), 1) := by decide +kernel
theorem d8_look_9 : decode M8_look.2.1 9 = .ok (.ireturn, 1) := by decide +kernel
theorem d8_look_10 : decode M8_look.2.1 10 = .ok (.iload_n 2, 1) := by decide +kernel
theorem d8_look_11 : decode M8_look.2.1 11 = .ok (.i2l, 1) := by decide +kernel
theorem d8_look_12 : decode M8_look.2.1 12 = .ok (.ldc2_w 224, 3) := by decide +kernel
theorem d8_look_15 : decode M8_look.2.1 15 = .ok (.ldc2_w 226, 3) := by decide +kernel
theorem d8_look_18 : decode M8_look.2.1 18 = .ok (.invokestatic 74, 3) := by decide +kernel
theorem d8_look_21 : decode M8_look.2.1 21 = .ok (.ifCond .eq 19, 3) := by decide +kernel
theorem d8_look_24 : decode M8_look.2.1 24 = .ok (.aload_n 0, 1) := by decide +kernel
theorem d8_look_25 : decode M8_look.2.1 25 = .ok (.getfield 36, 3) := by decide +kernel
theorem d8_look_28 : decode M8_look.2.1 28 = .ok (.sipush 364, 3) := by decide +kernel
theorem d8_look_31 : decode M8_look.2.1 31 = .ok (.iload_n 1, 1) := by decide +kernel
theorem d8_look_32 : decode M8_look.2.1 32 = .ok (.imul, 1) := by decide +kernel
theorem d8_look_33 : decode M8_look.2.1 33 = .ok (.iload_n 2, 1) := by decide +kernel
theorem d8_look_34 : decode M8_look.2.1 34 = .ok (.iadd, 1) := by decide +kernel
theorem d8_look_35 : decode M8_look.2.1 35 = .ok (.bipush 100, 2) := by decide +kernel
theorem d8_look_37 : decode M8_look.2.1 37 = .ok (.isub, 1) := by decide +kernel
theorem d8_look_38 : decode M8_look.2.1 38 = .ok (.iaload, 1) := by decide +kernel
theorem d8_look_39 : decode M8_look.2.1 39 = .ok (.ireturn, 1) := by decide +kernel
theorem d8_look_40 : decode M8_look.2.1 40 = .ok (.iload_n 2, 1) := by decide +kernel
theorem d8_look_41 : decode M8_look.2.1 41 = .ok (.tableswitch 80 0 5 #[39, 46, 53, 60, 67, 74], 39) := by decide +kernel
theorem d8_look_80 : decode M8_look.2.1 80 = .ok (.aload_n 0, 1) := by decide +kernel
theorem d8_look_81 : decode M8_look.2.1 81 = .ok (.getfield 24, 3) := by decide +kernel
theorem d8_look_84 : decode M8_look.2.1 84 = .ok (.iload_n 1, 1) := by decide +kernel
theorem d8_look_85 : decode M8_look.2.1 85 = .ok (.iaload, 1) := by decide +kernel
theorem d8_look_86 : decode M8_look.2.1 86 = .ok (.ireturn, 1) := by decide +kernel
theorem d8_look_87 : decode M8_look.2.1 87 = .ok (.aload_n 0, 1) := by decide +kernel
theorem d8_look_88 : decode M8_look.2.1 88 = .ok (.getfield 27, 3) := by decide +kernel
theorem d8_look_91 : decode M8_look.2.1 91 = .ok (.iload_n 1, 1) := by decide +kernel
theorem d8_look_92 : decode M8_look.2.1 92 = .ok (.iaload, 1) := by decide +kernel
theorem d8_look_93 : decode M8_look.2.1 93 = .ok (.ireturn, 1) := by decide +kernel
theorem d8_look_94 : decode M8_look.2.1 94 = .ok (.aload_n 0, 1) := by decide +kernel
theorem d8_look_95 : decode M8_look.2.1 95 = .ok (.getfield 30, 3) := by decide +kernel
theorem d8_look_98 : decode M8_look.2.1 98 = .ok (.iload_n 1, 1) := by decide +kernel
theorem d8_look_99 : decode M8_look.2.1 99 = .ok (.iaload, 1) := by decide +kernel
theorem d8_look_100 : decode M8_look.2.1 100 = .ok (.ireturn, 1) := by decide +kernel
theorem d8_look_101 : decode M8_look.2.1 101 = .ok (.aload_n 0, 1) := by decide +kernel
theorem d8_look_102 : decode M8_look.2.1 102 = .ok (.getfield 33, 3) := by decide +kernel
theorem d8_look_105 : decode M8_look.2.1 105 = .ok (.iload_n 1, 1) := by decide +kernel
theorem d8_look_106 : decode M8_look.2.1 106 = .ok (.iaload, 1) := by decide +kernel
theorem d8_look_107 : decode M8_look.2.1 107 = .ok (.ireturn, 1) := by decide +kernel
theorem d8_look_108 : decode M8_look.2.1 108 = .ok (.aload_n 0, 1) := by decide +kernel
theorem d8_look_109 : decode M8_look.2.1 109 = .ok (.getfield 39, 3) := by decide +kernel
theorem d8_look_112 : decode M8_look.2.1 112 = .ok (.iload_n 1, 1) := by decide +kernel
theorem d8_look_113 : decode M8_look.2.1 113 = .ok (.iaload, 1) := by decide +kernel
theorem d8_look_114 : decode M8_look.2.1 114 = .ok (.ireturn, 1) := by decide +kernel
theorem d8_look_115 : decode M8_look.2.1 115 = .ok (.aload_n 0, 1) := by decide +kernel
theorem d8_look_116 : decode M8_look.2.1 116 = .ok (.iload_n 1, 1) := by decide +kernel
theorem d8_look_117 : decode M8_look.2.1 117 = .ok (.invokevirtual 127, 3) := by decide +kernel
theorem d8_look_120 : decode M8_look.2.1 120 = .ok (.ireturn, 1) := by decide +kernel
theorem d8_look_121 : decode M8_look.2.1 121 = .ok (.iconst (-1), 1) := by decide +kernel
theorem d8_look_122 : decode M8_look.2.1 122 = .ok (.ireturn, 1) := by decide +kernel
theorem d8_tell_0 : decode M8_tell.2.1 0 = .ok (.iload_n 1, 1) := by decide +kernel
theorem d8_tell_1 : decode M8_tell.2.1 1 = .ok (.tableswitch 82 0 5 #[39, 44, 49, 54, 59, 67], 39) := by decide +kernel
theorem d8_tell_40 : decode M8_tell.2.1 40 = .ok (.aload_n 0, 1) := by decide +kernel
theorem d8_tell_41 : decode M8_tell.2.1 41 = .ok (.getfield 70, 3) := by decide +kernel
theorem d8_tell_44 : decode M8_tell.2.1 44 = .ok (.ireturn, 1) := by decide +kernel
theorem d8_tell_45 : decode M8_tell.2.1 45 = .ok (.aload_n 0, 1) := by decide +kernel
theorem d8_tell_46 : decode M8_tell.2.1 46 = .ok (.getfield 92, 3) := by decide +kernel
theorem d8_tell_49 : decode M8_tell.2.1 49 = .ok (.ireturn, 1) := by decide +kernel
theorem d8_tell_50 : decode M8_tell.2.1 50 = .ok (.aload_n 0, 1) := by decide +kernel
theorem d8_tell_51 : decode M8_tell.2.1 51 = .ok (.getfield 215, 3) := by decide +kernel
theorem d8_tell_54 : decode M8_tell.2.1 54 = .ok (.ireturn, 1) := by decide +kernel
theorem d8_tell_55 : decode M8_tell.2.1 55 = .ok (.aload_n 0, 1) := by decide +kernel
theorem d8_tell_56 : decode M8_tell.2.1 56 = .ok (.getfield 172, 3) := by decide +kernel
theorem d8_tell_59 : decode M8_tell.2.1 59 = .ok (.ireturn, 1) := by decide +kernel
theorem d8_tell_60 : decode M8_tell.2.1 60 = .ok (.aload_n 0, 1) := by decide +kernel
theorem d8_tell_61 : decode M8_tell.2.1 61 = .ok (.invokevirtual 153, 3) := by decide +kernel
theorem d8_tell_64 : decode M8_tell.2.1 64 = .ok (.invokestatic 147, 3) := by decide +kernel
theorem d8_tell_67 : decode M8_tell.2.1 67 = .ok (.ireturn, 1) := by decide +kernel
theorem d8_tell_68 : decode M8_tell.2.1 68 = .ok (.aload_n 0, 1) := by decide +kernel
theorem d8_tell_69 : decode M8_tell.2.1 69 = .ok (.invokevirtual 160, 3) := by decide +kernel
theorem d8_tell_72 : decode M8_tell.2.1 72 = .ok (.aload_n 0, 1) := by decide +kernel
theorem d8_tell_73 : decode M8_tell.2.1 73 = .ok (.invokevirtual 153, 3) := by decide +kernel
theorem d8_tell_76 : decode M8_tell.2.1 76 = .ok (.iconst (-1), 1) := by decide +kernel
theorem d8_tell_77 : decode M8_tell.2.1 77 = .ok (.ixor, 1) := by decide +kernel
theorem d8_tell_78 : decode M8_tell.2.1 78 = .ok (.iand, 1) := by decide +kernel
theorem d8_tell_79 : decode M8_tell.2.1 79 = .ok (.invokestatic 147, 3) := by decide +kernel
theorem d8_tell_82 : decode M8_tell.2.1 82 = .ok (.ireturn, 1) := by decide +kernel
theorem d8_tell_83 : decode M8_tell.2.1 83 = .ok (.iconst (-1), 1) := by decide +kernel
theorem d8_tell_84 : decode M8_tell.2.1 84 = .ok (.ireturn, 1) := by decide +kernel
end
section
/-! what each instruction is -/
abbrev ML_law : z_M := (x, code, maxLocals, ret)
theorem dL_law_0 : decode ML_law.2.1 0 = .ok (.new 7, 3) := by decide +kernel
theorem dL_law_3 : decode ML_law.2.1 3 = .ok (.dup, 1) := by decide +kernel
theorem dL_law_4 : decode ML_law.2.1 4 = .ok (.invokespecial 9, 3) := by decide +kernel
theorem dL_law_7 : decode ML_law.2.1 7 = .ok (.astore_n 1, 1) := by decide +kernel
theorem dL_law_8 : decode ML_law.2.1 8 = .ok (.new 10, 3) := by decide +kernel
theorem dL_law_11 : decode ML_law.2.1 11 = .ok (.dup, 1) := by decide +kernel
theorem dL_law_12 : decode ML_law.2.1 12 = .ok (.invokespecial 12, 3) := by decide +kernel
theorem dL_law_15 : decode ML_law.2.1 15 = .ok (.astore_n 2, 1) := by decide +kernel
theorem dL_law_16 : decode ML_law.2.1 16 = .ok (.iconst 0, 1) := by decide +kernel
theorem dL_law_17 : decode ML_law.2.1 17 = .ok (.istore_n 3, 1) := by decide +kernel
theorem dL_law_18 : decode ML_law.2.1 18 = .ok (.iload_n 3, 1) := by decide +kernel
theorem dL_law_19 : decode ML_law.2.1 19 = .ok (.aload_n 0, 1) := by decide +kernel
theorem dL_law_20 : decode ML_law.2.1 20 = .ok (.arraylength, 1) := by decide +kernel
theorem dL_law_21 : decode ML_law.2.1 21 = .ok (.bipush 6, 2) := by decide +kernel
theorem dL_law_23 : decode ML_law.2.1 23 = .ok (.isub, 1) := by decide +kernel
theorem dL_law_24 : decode ML_law.2.1 24 = .ok (.if_icmp .gt 789, 3) := by decide +kernel
theorem dL_law_27 : decode ML_law.2.1 27 = .ok (.aload_n 0, 1) := by decide +kernel
theorem dL_law_28 : decode ML_law.2.1 28 = .ok (.iload_n 3, 1) := by decide +kernel
theorem dL_law_29 : decode ML_law.2.1 29 = .ok (.iaload, 1) := by decide +kernel
theorem dL_law_30 : decode ML_law.2.1 30 = .ok (.bipush 31, 2) := by decide +kernel
theorem dL_law_32 : decode ML_law.2.1 32 = .ok (.iand, 1) := by decide +kernel
theorem dL_law_33 : decode ML_law.2.1 33 = .ok (.tableswitch 774 0 21 #[103, 146, 189, 212, 255, 288, 331, 355, 389, 412, 435, 459, 482, 506, 529, 542, 605, 628, 661, 694, 718, 751], 103) := by decide +kernel
theorem dL_law_136 : decode ML_law.2.1 136 = .ok (.aload_n 1, 1) := by decide +kernel
theorem dL_law_137 : decode ML_law.2.1 137 = .ok (.aload_n 0, 1) := by decide +kernel
theorem dL_law_138 : decode ML_law.2.1 138 = .ok (.iload_n 3, 1) := by decide +kernel
theorem dL_law_139 : decode ML_law.2.1 139 = .ok (.iconst 1, 1) := by decide +kernel
theorem dL_law_140 : decode ML_law.2.1 140 = .ok (.iadd, 1) := by decide +kernel
theorem dL_law_141 : decode ML_law.2.1 141 = .ok (.iaload, 1) := by decide +kernel
theorem dL_law_142 : decode ML_law.2.1 142 = .ok (.aload_n 0, 1) := by decide +kernel
theorem dL_law_143 : decode ML_law.2.1 143 = .ok (.iload_n 3, 1) := by decide +kernel
theorem dL_law_144 : decode ML_law.2.1 144 = .ok (.iconst 2, 1) := by decide +kernel
theorem dL_law_145 : decode ML_law.2.1 145 = .ok (.iadd, 1) := by decide +kernel
theorem dL_law_146 : decode ML_law.2.1 146 = .ok (.iaload, 1) := by decide +kernel
theorem dL_law_147 : decode ML_law.2.1 147 = .ok (.aload_n 0, 1) := by decide +kernel
theorem dL_law_148 : decode ML_law.2.1 148 = .ok (.iload_n 3, 1) := by decide +kernel
theorem dL_law_149 : decode ML_law.2.1 149 = .ok (.iconst 3, 1) := by decide +kernel
theorem dL_law_150 : decode ML_law.2.1 150 = .ok (.iadd, 1) := by decide +kernel
theorem dL_law_151 : decode ML_law.2.1 151 = .ok (.iaload, 1) := by decide +kernel
theorem dL_law_152 : decode ML_law.2.1 152 = .ok (.invokevirtual 13, 3) := by decide +kernel
theorem dL_law_155 : decode ML_law.2.1 155 = .ok (.aload_n 2, 1) := by decide +kernel
theorem dL_law_156 : decode ML_law.2.1 156 = .ok (.aload_n 0, 1) := by decide +kernel
theorem dL_law_157 : decode ML_law.2.1 157 = .ok (.iload_n 3, 1) := by decide +kernel
theorem dL_law_158 : decode ML_law.2.1 158 = .ok (.iconst 1, 1) := by decide +kernel
theorem dL_law_159 : decode ML_law.2.1 159 = .ok (.iadd, 1) := by decide +kernel
theorem dL_law_160 : decode ML_law.2.1 160 = .ok (.iaload, 1) := by decide +kernel
theorem dL_law_161 : decode ML_law.2.1 161 = .ok (.aload_n 0, 1) := by decide +kernel
theorem dL_law_162 : decode ML_law.2.1 162 = .ok (.iload_n 3, 1) := by decide +kernel
theorem dL_law_163 : decode ML_law.2.1 163 = .ok (.iconst 2, 1) := by decide +kernel
theorem dL_law_164 : decode ML_law.2.1 164 = .ok (.iadd, 1) := by decide +kernel
theorem dL_law_165 : decode ML_law.2.1 165 = .ok (.iaload, 1) := by decide +kernel
theorem dL_law_166 : decode ML_law.2.1 166 = .ok (.aload_n 0, 1) := by decide +kernel
theorem dL_law_167 : decode ML_law.2.1 167 = .ok (.iload_n 3, 1) := by decide +kernel
theorem dL_law_168 : decode ML_law.2.1 168 = .ok (.iconst 3, 1) := by decide +kernel
theorem dL_law_169 : decode ML_law.2.1 169 = .ok (.iadd, 1) := by decide +kernel
theorem dL_law_170 : decode ML_law.2.1 170 = .ok (.iaload, 1) := by decide +kernel
theorem dL_law_171 : decode ML_law.2.1 171 = .ok (.invokevirtual 17, 3) := by decide +kernel
theorem dL_law_174 : decode ML_law.2.1 174 = .ok (.if_icmp .eq 633, 3) := by decide +kernel
theorem dL_law_177 : decode ML_law.2.1 177 = .ok (.iconst 0, 1) := by decide +kernel
theorem dL_law_178 : decode ML_law.2.1 178 = .ok (.ireturn, 1) := by decide +kernel
theorem dL_law_179 : decode ML_law.2.1 179 = .ok (.aload_n 1, 1) := by decide +kernel
theorem dL_law_180 : decode ML_law.2.1 180 = .ok (.aload_n 0, 1) := by decide +kernel
theorem dL_law_181 : decode ML_law.2.1 181 = .ok (.iload_n 3, 1) := by decide +kernel
theorem dL_law_182 : decode ML_law.2.1 182 = .ok (.iconst 1, 1) := by decide +kernel
theorem dL_law_183 : decode ML_law.2.1 183 = .ok (.iadd, 1) := by decide +kernel
theorem dL_law_184 : decode ML_law.2.1 184 = .ok (.iaload, 1) := by decide +kernel
theorem dL_law_185 : decode ML_law.2.1 185 = .ok (.aload_n 0, 1) := by decide +kernel
theorem dL_law_186 : decode ML_law.2.1 186 = .ok (.iload_n 3, 1) := by decide +kernel
theorem dL_law_187 : decode ML_law.2.1 187 = .ok (.iconst 2, 1) := by decide +kernel
theorem dL_law_188 : decode ML_law.2.1 188 = .ok (.iadd, 1) := by decide +kernel
theorem dL_law_189 : decode ML_law.2.1 189 = .ok (.iaload, 1) := by decide +kernel
theorem dL_law_190 : decode ML_law.2.1 190 = .ok (.aload_n 0, 1) := by decide +kernel
theorem dL_law_191 : decode ML_law.2.1 191 = .ok (.iload_n 3, 1) := by decide +kernel
theorem dL_law_192 : decode ML_law.2.1 192 = .ok (.iconst 3, 1) := by decide +kernel
theorem dL_law_193 : decode ML_law.2.1 193 = .ok (.iadd, 1) := by decide +kernel
theorem dL_law_194 : decode ML_law.2.1 194 = .ok (.iaload, 1) := by decide +kernel
theorem dL_law_195 : decode ML_law.2.1 195 = .ok (.invokevirtual 18, 3) := by decide +kernel
theorem dL_law_198 : decode ML_law.2.1 198 = .ok (.aload_n 2, 1) := by decide +kernel
theorem dL_law_199 : decode ML_law.2.1 199 = .ok (.aload_n 0, 1) := by decide +kernel
theorem dL_law_200 : decode ML_law.2.1 200 = .ok (.iload_n 3, 1) := by decide +kernel
theorem dL_law_201 : decode ML_law.2.1 201 = .ok (.iconst 1, 1) := by decide +kernel
theorem dL_law_202 : decode ML_law.2.1 202 = .ok (.iadd, 1) := by decide +kernel
theorem dL_law_203 : decode ML_law.2.1 203 = .ok (.iaload, 1) := by decide +kernel
theorem dL_law_204 : decode ML_law.2.1 204 = .ok (.aload_n 0, 1) := by decide +kernel
theorem dL_law_205 : decode ML_law.2.1 205 = .ok (.iload_n 3, 1) := by decide +kernel
theorem dL_law_206 : decode ML_law.2.1 206 = .ok (.iconst 2, 1) := by decide +kernel
theorem dL_law_207 : decode ML_law.2.1 207 = .ok (.iadd, 1) := by decide +kernel
theorem dL_law_208 : decode ML_law.2.1 208 = .ok (.iaload, 1) := by decide +kernel
theorem dL_law_209 : decode ML_law.2.1 209 = .ok (.aload_n 0, 1) := by decide +kernel
theorem dL_law_210 : decode ML_law.2.1 210 = .ok (.iload_n 3, 1) := by decide +kernel
theorem dL_law_211 : decode ML_law.2.1 211 = .ok (.iconst 3, 1) := by decide +kernel
theorem dL_law_212 : decode ML_law.2.1 212 = .ok (.iadd, 1) := by decide +kernel
theorem dL_law_213 : decode ML_law.2.1 213 = .ok (.iaload, 1) := by decide +kernel
theorem dL_law_214 : decode ML_law.2.1 214 = .ok (.invokevirtual 21, 3) := by decide +kernel
theorem dL_law_217 : decode ML_law.2.1 217 = .ok (.if_icmp .eq 590, 3) := by decide +kernel
theorem dL_law_220 : decode ML_law.2.1 220 = .ok (.iconst 0, 1) := by decide +kernel
theorem dL_law_221 : decode ML_law.2.1 221 = .ok (.ireturn, 1) := by decide +kernel
theorem dL_law_222 : decode ML_law.2.1 222 = .ok (.aload_n 1, 1) := by decide +kernel
theorem dL_law_223 : decode ML_law.2.1 223 = .ok (.aload_n 0, 1) := by decide +kernel
theorem dL_law_224 : decode ML_law.2.1 224 = .ok (.iload_n 3, 1) := by decide +kernel
theorem dL_law_225 : decode ML_law.2.1 225 = .ok (.iconst 1, 1) := by decide +kernel
theorem dL_law_226 : decode ML_law.2.1 226 = .ok (.iadd, 1) := by decide +kernel
theorem dL_law_227 : decode ML_law.2.1 227 = .ok (.iaload, 1) := by decide +kernel
theorem dL_law_228 : decode ML_law.2.1 228 = .ok (.invokevirtual 22, 3) := by decide +kernel
theorem dL_law_231 : decode ML_law.2.1 231 = .ok (.aload_n 2, 1) := by decide +kernel
theorem dL_law_232 : decode ML_law.2.1 232 = .ok (.aload_n 0, 1) := by decide +kernel
theorem dL_law_233 : decode ML_law.2.1 233 = .ok (.iload_n 3, 1) := by decide +kernel
theorem dL_law_234 : decode ML_law.2.1 234 = .ok (.iconst 1, 1) := by decide +kernel
theorem dL_law_235 : decode ML_law.2.1 235 = .ok (.iadd, 1) := by decide +kernel
theorem dL_law_236 : decode ML_law.2.1 236 = .ok (.iaload, 1) := by decide +kernel
theorem dL_law_237 : decode ML_law.2.1 237 = .ok (.invokevirtual 26, 3) := by decide +kernel
theorem dL_law_240 : decode ML_law.2.1 240 = .ok (.if_icmp .eq 567, 3) := by decide +kernel
theorem dL_law_243 : decode ML_law.2.1 243 = .ok (.iconst 0, 1) := by decide +kernel
theorem dL_law_244 : decode ML_law.2.1 244 = .ok (.ireturn, 1) := by decide +kernel
theorem dL_law_245 : decode ML_law.2.1 245 = .ok (.aload_n 1, 1) := by decide +kernel
theorem dL_law_246 : decode ML_law.2.1 246 = .ok (.aload_n 0, 1) := by decide +kernel
theorem dL_law_247 : decode ML_law.2.1 247 = .ok (.iload_n 3, 1) := by decide +kernel
theorem dL_law_248 : decode ML_law.2.1 248 = .ok (.iconst 1, 1) := by decide +kernel
theorem dL_law_249 : decode ML_law.2.1 249 = .ok (.iadd, 1) := by decide +kernel
theorem dL_law_250 : decode ML_law.2.1 250 = .ok (.iaload, 1) := by decide +kernel
theorem dL_law_251 : decode ML_law.2.1 251 = .ok (.aload_n 0, 1) := by decide +kernel
theorem dL_law_252 : decode ML_law.2.1 252 = .ok (.iload_n 3, 1) := by decide +kernel
theorem dL_law_253 : decode ML_law.2.1 253 = .ok (.iconst 2, 1) := by decide +kernel
theorem dL_law_254 : decode ML_law.2.1 254 = .ok (.iadd, 1) := by decide +kernel
theorem dL_law_255 : decode ML_law.2.1 255 = .ok (.iaload, 1) := by decide +kernel
theorem dL_law_256 : decode ML_law.2.1 256 = .ok (.aload_n 0, 1) := by decide +kernel
theorem dL_law_257 : decode ML_law.2.1 257 = .ok (.iload_n 3, 1) := by decide +kernel
theorem dL_law_258 : decode ML_law.2.1 258 = .ok (.iconst 3, 1) := by decide +kernel
theorem dL_law_259 : decode ML_law.2.1 259 = .ok (.iadd, 1) := by decide +kernel
theorem dL_law_260 : decode ML_law.2.1 260 = .ok (.iaload, 1) := by decide +kernel
theorem dL_law_261 : decode ML_law.2.1 261 = .ok (.invokevirtual 27, 3) := by decide +kernel
theorem dL_law_264 : decode ML_law.2.1 264 = .ok (.aload_n 2, 1) := by decide +kernel
theorem dL_law_265 : decode ML_law.2.1 265 = .ok (.aload_n 0, 1) := by decide +kernel
theorem dL_law_266 : decode ML_law.2.1 266 = .ok (.iload_n 3, 1) := by decide +kernel
theorem dL_law_267 : decode ML_law.2.1 267 = .ok (.iconst 1, 1) := by decide +kernel
theorem dL_law_268 : decode ML_law.2.1 268 = .ok (.iadd, 1) := by decide +kernel
theorem dL_law_269 : decode ML_law.2.1 269 = .ok (.iaload, 1) := by decide +kernel
theorem dL_law_270 : decode ML_law.2.1 270 = .ok (.aload_n 0, 1) := by decide +kernel
theorem dL_law_271 : decode ML_law.2.1 271 = .ok (.iload_n 3, 1) := by decide +kernel
theorem dL_law_272 : decode ML_law.2.1 272 = .ok (.iconst 2, 1) := by decide +kernel
theorem dL_law_273 : decode ML_law.2.1 273 = .ok (.iadd, 1) := by decide +kernel
theorem dL_law_274 : decode ML_law.2.1 274 = .ok (.iaload, 1) := by decide +kernel
theorem dL_law_275 : decode ML_law.2.1 275 = .ok (.aload_n 0, 1) := by decide +kernel
theorem dL_law_276 : decode ML_law.2.1 276 = .ok (.iload_n 3, 1) := by decide +kernel
theorem dL_law_277 : decode ML_law.2.1 277 = .ok (.iconst 3, 1) := by decide +kernel
theorem dL_law_278 : decode ML_law.2.1 278 = .ok (.iadd, 1) := by decide +kernel
theorem dL_law_279 : decode ML_law.2.1 279 = .ok (.iaload, 1) := by decide +kernel
theorem dL_law_280 : decode ML_law.2.1 280 = .ok (.invokevirtual 31, 3) := by decide +kernel
theorem dL_law_283 : decode ML_law.2.1 283 = .ok (.if_icmp .eq 524, 3) := by decide +kernel
theorem dL_law_286 : decode ML_law.2.1 286 = .ok (.iconst 0, 1) := by decide +kernel
theorem dL_law_287 : decode ML_law.2.1 287 = .ok (.ireturn, 1) := by decide +kernel
theorem dL_law_288 : decode ML_law.2.1 288 = .ok (.aload_n 1, 1) := by decide +kernel
theorem dL_law_289 : decode ML_law.2.1 289 = .ok (.aload_n 0, 1) := by decide +kernel
theorem dL_law_290 : decode ML_law.2.1 290 = .ok (.iload_n 3, 1) := by decide +kernel
theorem dL_law_291 : decode ML_law.2.1 291 = .ok (.iconst 1, 1) := by decide +kernel
theorem dL_law_292 : decode ML_law.2.1 292 = .ok (.iadd, 1) := by decide +kernel
theorem dL_law_293 : decode ML_law.2.1 293 = .ok (.iaload, 1) := by decide +kernel
theorem dL_law_294 : decode ML_law.2.1 294 = .ok (.aload_n 0, 1) := by decide +kernel
theorem dL_law_295 : decode ML_law.2.1 295 = .ok (.iload_n 3, 1) := by decide +kernel
theorem dL_law_296 : decode ML_law.2.1 296 = .ok (.iconst 2, 1) := by decide +kernel
theorem dL_law_297 : decode ML_law.2.1 297 = .ok (.iadd, 1) := by decide +kernel
theorem dL_law_298 : decode ML_law.2.1 298 = .ok (.iaload, 1) := by decide +kernel
theorem dL_law_299 : decode ML_law.2.1 299 = .ok (.invokevirtual 32, 3) := by decide +kernel
theorem dL_law_302 : decode ML_law.2.1 302 = .ok (.aload_n 2, 1) := by decide +kernel
theorem dL_law_303 : decode ML_law.2.1 303 = .ok (.aload_n 0, 1) := by decide +kernel
theorem dL_law_304 : decode ML_law.2.1 304 = .ok (.iload_n 3, 1) := by decide +kernel
theorem dL_law_305 : decode ML_law.2.1 305 = .ok (.iconst 1, 1) := by decide +kernel
theorem dL_law_306 : decode ML_law.2.1 306 = .ok (.iadd, 1) := by decide +kernel
theorem dL_law_307 : decode ML_law.2.1 307 = .ok (.iaload, 1) := by decide +kernel
theorem dL_law_308 : decode ML_law.2.1 308 = .ok (.aload_n 0, 1) := by decide +kernel
theorem dL_law_309 : decode ML_law.2.1 309 = .ok (.iload_n 3, 1) := by decide +kernel
theorem dL_law_310 : decode ML_law.2.1 310 = .ok (.iconst 2, 1) := by decide +kernel
theorem dL_law_311 : decode ML_law.2.1 311 = .ok (.iadd, 1) := by decide +kernel
theorem dL_law_312 : decode ML_law.2.1 312 = .ok (.iaload, 1) := by decide +kernel
theorem dL_law_313 : decode ML_law.2.1 313 = .ok (.invokevirtual 36, 3) := by decide +kernel
theorem dL_law_316 : decode ML_law.2.1 316 = .ok (.if_icmp .eq 491, 3) := by decide +kernel
theorem dL_law_319 : decode ML_law.2.1 319 = .ok (.iconst 0, 1) := by decide +kernel
theorem dL_law_320 : decode ML_law.2.1 320 = .ok (.ireturn, 1) := by decide +kernel
theorem dL_law_321 : decode ML_law.2.1 321 = .ok (.aload_n 1, 1) := by decide +kernel
theorem dL_law_322 : decode ML_law.2.1 322 = .ok (.aload_n 0, 1) := by decide +kernel
theorem dL_law_323 : decode ML_law.2.1 323 = .ok (.iload_n 3, 1) := by decide +kernel
theorem dL_law_324 : decode ML_law.2.1 324 = .ok (.iconst 1, 1) := by decide +kernel
theorem dL_law_325 : decode ML_law.2.1 325 = .ok (.iadd, 1) := by decide +kernel
theorem dL_law_326 : decode ML_law.2.1 326 = .ok (.iaload, 1) := by decide +kernel
theorem dL_law_327 : decode ML_law.2.1 327 = .ok (.aload_n 0, 1) := by decide +kernel
theorem dL_law_328 : decode ML_law.2.1 328 = .ok (.iload_n 3, 1) := by decide +kernel
theorem dL_law_329 : decode ML_law.2.1 329 = .ok (.iconst 2, 1) := by decide +kernel
theorem dL_law_330 : decode ML_law.2.1 330 = .ok (.iadd, 1) := by decide +kernel
theorem dL_law_331 : decode ML_law.2.1 331 = .ok (.iaload, 1) := by decide +kernel
theorem dL_law_332 : decode ML_law.2.1 332 = .ok (.aload_n 0, 1) := by decide +kernel
theorem dL_law_333 : decode ML_law.2.1 333 = .ok (.iload_n 3, 1) := by decide +kernel
theorem dL_law_334 : decode ML_law.2.1 334 = .ok (.iconst 3, 1) := by decide +kernel
theorem dL_law_335 : decode ML_law.2.1 335 = .ok (.iadd, 1) := by decide +kernel
theorem dL_law_336 : decode ML_law.2.1 336 = .ok (.iaload, 1) := by decide +kernel
theorem dL_law_337 : decode ML_law.2.1 337 = .ok (.invokevirtual 37, 3) := by decide +kernel
theorem dL_law_340 : decode ML_law.2.1 340 = .ok (.aload_n 2, 1) := by decide +kernel
theorem dL_law_341 : decode ML_law.2.1 341 = .ok (.aload_n 0, 1) := by decide +kernel
theorem dL_law_342 : decode ML_law.2.1 342 = .ok (.iload_n 3, 1) := by decide +kernel
theorem dL_law_343 : decode ML_law.2.1 343 = .ok (.iconst 1, 1) := by decide +kernel
theorem dL_law_344 : decode ML_law.2.1 344 = .ok (.iadd, 1) := by decide +kernel
theorem dL_law_345 : decode ML_law.2.1 345 = .ok (.iaload, 1) := by decide +kernel
theorem dL_law_346 : decode ML_law.2.1 346 = .ok (.aload_n 0, 1) := by decide +kernel
theorem dL_law_347 : decode ML_law.2.1 347 = .ok (.iload_n 3, 1) := by decide +kernel
theorem dL_law_348 : decode ML_law.2.1 348 = .ok (.iconst 2, 1) := by decide +kernel
theorem dL_law_349 : decode ML_law.2.1 349 = .ok (.iadd, 1) := by decide +kernel
theorem dL_law_350 : decode ML_law.2.1 350 = .ok (.iaload, 1) := by decide +kernel
theorem dL_law_351 : decode ML_law.2.1 351 = .ok (.aload_n 0, 1) := by decide +kernel
theorem dL_law_352 : decode ML_law.2.1 352 = .ok (.iload_n 3, 1) := by decide +kernel
theorem dL_law_353 : decode ML_law.2.1 353 = .ok (.iconst 3, 1) := by decide +kernel
theorem dL_law_354 : decode ML_law.2.1 354 = .ok (.iadd, 1) := by decide +kernel
theorem dL_law_355 : decode ML_law.2.1 355 = .ok (.iaload, 1) := by decide +kernel
theorem dL_law_356 : decode ML_law.2.1 356 = .ok (.invokevirtual 40, 3) := by decide +kernel
theorem dL_law_359 : decode ML_law.2.1 359 = .ok (.if_icmp .eq 448, 3) := by decide +kernel
theorem dL_law_362 : decode ML_law.2.1 362 = .ok (.iconst 0, 1) := by decide +kernel
theorem dL_law_363 : decode ML_law.2.1 363 = .ok (.ireturn, 1) := by decide +kernel
theorem dL_law_364 : decode ML_law.2.1 364 = .ok (.aload_n 1, 1) := by decide +kernel
theorem dL_law_365 : decode ML_law.2.1 365 = .ok (.aload_n 0, 1) := by decide +kernel
theorem dL_law_366 : decode ML_law.2.1 366 = .ok (.iload_n 3, 1) := by decide +kernel
theorem dL_law_367 : decode ML_law.2.1 367 = .ok (.iconst 1, 1) := by decide +kernel
theorem dL_law_368 : decode ML_law.2.1 368 = .ok (.iadd, 1) := by decide +kernel
theorem dL_law_369 : decode ML_law.2.1 369 = .ok (.iaload, 1) := by decide +kernel
theorem dL_law_370 : decode ML_law.2.1 370 = .ok (.invokevirtual 41, 3) := by decide +kernel
theorem dL_law_373 : decode ML_law.2.1 373 = .ok (.aload_n 2, 1) := by decide +kernel
theorem dL_law_374 : decode ML_law.2.1 374 = .ok (.aload_n 0, 1) := by decide +kernel
theorem dL_law_375 : decode ML_law.2.1 375 = .ok (.iload_n 3, 1) := by decide +kernel
theorem dL_law_376 : decode ML_law.2.1 376 = .ok (.iconst 1, 1) := by decide +kernel
theorem dL_law_377 : decode ML_law.2.1 377 = .ok (.iadd, 1) := by decide +kernel
theorem dL_law_378 : decode ML_law.2.1 378 = .ok (.iaload, 1) := by decide +kernel
theorem dL_law_379 : decode ML_law.2.1 379 = .ok (.invokevirtual 45, 3) := by decide +kernel
theorem dL_law_382 : decode ML_law.2.1 382 = .ok (.lcmp, 1) := by decide +kernel
theorem dL_law_383 : decode ML_law.2.1 383 = .ok (.ifCond .eq 424, 3) := by decide +kernel
theorem dL_law_386 : decode ML_law.2.1 386 = .ok (.iconst 0, 1) := by decide +kernel
theorem dL_law_387 : decode ML_law.2.1 387 = .ok (.ireturn, 1) := by decide +kernel
theorem dL_law_388 : decode ML_law.2.1 388 = .ok (.aload_n 1, 1) := by decide +kernel
theorem dL_law_389 : decode ML_law.2.1 389 = .ok (.aload_n 0, 1) := by decide +kernel
theorem dL_law_390 : decode ML_law.2.1 390 = .ok (.iload_n 3, 1) := by decide +kernel
theorem dL_law_391 : decode ML_law.2.1 391 = .ok (.iconst 1, 1) := by decide +kernel
theorem dL_law_392 : decode ML_law.2.1 392 = .ok (.iadd, 1) := by decide +kernel
theorem dL_law_393 : decode ML_law.2.1 393 = .ok (.iaload, 1) := by decide +kernel
theorem dL_law_394 : decode ML_law.2.1 394 = .ok (.aload_n 0, 1) := by decide +kernel
theorem dL_law_395 : decode ML_law.2.1 395 = .ok (.iload_n 3, 1) := by decide +kernel
theorem dL_law_396 : decode ML_law.2.1 396 = .ok (.iconst 2, 1) := by decide +kernel
theorem dL_law_397 : decode ML_law.2.1 397 = .ok (.iadd, 1) := by decide +kernel
theorem dL_law_398 : decode ML_law.2.1 398 = .ok (.iaload, 1) := by decide +kernel
theorem dL_law_399 : decode ML_law.2.1 399 = .ok (.invokevirtual 46, 3) := by decide +kernel
theorem dL_law_402 : decode ML_law.2.1 402 = .ok (.aload_n 2, 1) := by decide +kernel
theorem dL_law_403 : decode ML_law.2.1 403 = .ok (.aload_n 0, 1) := by decide +kernel
theorem dL_law_404 : decode ML_law.2.1 404 = .ok (.iload_n 3, 1) := by decide +kernel
theorem dL_law_405 : decode ML_law.2.1 405 = .ok (.iconst 1, 1) := by decide +kernel
theorem dL_law_406 : decode ML_law.2.1 406 = .ok (.iadd, 1) := by decide +kernel
theorem dL_law_407 : decode ML_law.2.1 407 = .ok (.iaload, 1) := by decide +kernel
theorem dL_law_408 : decode ML_law.2.1 408 = .ok (.aload_n 0, 1) := by decide +kernel
theorem dL_law_409 : decode ML_law.2.1 409 = .ok (.iload_n 3, 1) := by decide +kernel
theorem dL_law_410 : decode ML_law.2.1 410 = .ok (.iconst 2, 1) := by decide +kernel
theorem dL_law_411 : decode ML_law.2.1 411 = .ok (.iadd, 1) := by decide +kernel
theorem dL_law_412 : decode ML_law.2.1 412 = .ok (.iaload, 1) := by decide +kernel
theorem dL_law_413 : decode ML_law.2.1 413 = .ok (.invokevirtual 50, 3) := by decide +kernel
theorem dL_law_416 : decode ML_law.2.1 416 = .ok (.lcmp, 1) := by decide +kernel
theorem dL_law_417 : decode ML_law.2.1 417 = .ok (.ifCond .eq 390, 3) := by decide +kernel
theorem dL_law_420 : decode ML_law.2.1 420 = .ok (.iconst 0, 1) := by decide +kernel
theorem dL_law_421 : decode ML_law.2.1 421 = .ok (.ireturn, 1) := by decide +kernel
theorem dL_law_422 : decode ML_law.2.1 422 = .ok (.aload_n 1, 1) := by decide +kernel
theorem dL_law_423 : decode ML_law.2.1 423 = .ok (.aload_n 0, 1) := by decide +kernel
theorem dL_law_424 : decode ML_law.2.1 424 = .ok (.iload_n 3, 1) := by decide +kernel
theorem dL_law_425 : decode ML_law.2.1 425 = .ok (.iconst 1, 1) := by decide +kernel
theorem dL_law_426 : decode ML_law.2.1 426 = .ok (.iadd, 1) := by decide +kernel
theorem dL_law_427 : decode ML_law.2.1 427 = .ok (.iaload, 1) := by decide +kernel
theorem dL_law_428 : decode ML_law.2.1 428 = .ok (.invokevirtual 51, 3) := by decide +kernel
theorem dL_law_431 : decode ML_law.2.1 431 = .ok (.aload_n 2, 1) := by decide +kernel
theorem dL_law_432 : decode ML_law.2.1 432 = .ok (.aload_n 0, 1) := by decide +kernel
theorem dL_law_433 : decode ML_law.2.1 433 = .ok (.iload_n 3, 1) := by decide +kernel
theorem dL_law_434 : decode ML_law.2.1 434 = .ok (.iconst 1, 1) := by decide +kernel
theorem dL_law_435 : decode ML_law.2.1 435 = .ok (.iadd, 1) := by decide +kernel
theorem dL_law_436 : decode ML_law.2.1 436 = .ok (.iaload, 1) := by decide +kernel
theorem dL_law_437 : decode ML_law.2.1 437 = .ok (.invokevirtual 55, 3) := by decide +kernel
theorem dL_law_440 : decode ML_law.2.1 440 = .ok (.if_icmp .eq 367, 3) := by decide +kernel
theorem dL_law_443 : decode ML_law.2.1 443 = .ok (.iconst 0, 1) := by decide +kernel
theorem dL_law_444 : decode ML_law.2.1 444 = .ok (.ireturn, 1) := by decide +kernel
theorem dL_law_445 : decode ML_law.2.1 445 = .ok (.aload_n 1, 1) := by decide +kernel
theorem dL_law_446 : decode ML_law.2.1 446 = .ok (.aload_n 0, 1) := by decide +kernel
theorem dL_law_447 : decode ML_law.2.1 447 = .ok (.iload_n 3, 1) := by decide +kernel
theorem dL_law_448 : decode ML_law.2.1 448 = .ok (.iconst 1, 1) := by decide +kernel
theorem dL_law_449 : decode ML_law.2.1 449 = .ok (.iadd, 1) := by decide +kernel
theorem dL_law_450 : decode ML_law.2.1 450 = .ok (.iaload, 1) := by decide +kernel
theorem dL_law_451 : decode ML_law.2.1 451 = .ok (.invokevirtual 56, 3) := by decide +kernel
theorem dL_law_454 : decode ML_law.2.1 454 = .ok (.aload_n 2, 1) := by decide +kernel
theorem dL_law_455 : decode ML_law.2.1 455 = .ok (.aload_n 0, 1) := by decide +kernel
theorem dL_law_456 : decode ML_law.2.1 456 = .ok (.iload_n 3, 1) := by decide +kernel
theorem dL_law_457 : decode ML_law.2.1 457 = .ok (.iconst 1, 1) := by decide +kernel
theorem dL_law_458 : decode ML_law.2.1 458 = .ok (.iadd, 1) := by decide +kernel
theorem dL_law_459 : decode ML_law.2.1 459 = .ok (.iaload, 1) := by decide +kernel
theorem dL_law_460 : decode ML_law.2.1 460 = .ok (.invokevirtual 59, 3) := by decide +kernel
theorem dL_law_463 : decode ML_law.2.1 463 = .ok (.if_icmp .eq 344, 3) := by decide +kernel
theorem dL_law_466 : decode ML_law.2.1 466 = .ok (.iconst 0, 1) := by decide +kernel
theorem dL_law_467 : decode ML_law.2.1 467 = .ok (.ireturn, 1) := by decide +kernel
theorem dL_law_468 : decode ML_law.2.1 468 = .ok (.aload_n 1, 1) := by decide +kernel
theorem dL_law_469 : decode ML_law.2.1 469 = .ok (.aload_n 0, 1) := by decide +kernel
theorem dL_law_470 : decode ML_law.2.1 470 = .ok (.iload_n 3, 1) := by decide +kernel
theorem dL_law_471 : decode ML_law.2.1 471 = .ok (.iconst 1, 1) := by decide +kernel
theorem dL_law_472 : decode ML_law.2.1 472 = .ok (.iadd, 1) := by decide +kernel
theorem dL_law_473 : decode ML_law.2.1 473 = .ok (.iaload, 1) := by decide +kernel
theorem dL_law_474 : decode ML_law.2.1 474 = .ok (.invokevirtual 60, 3) := by decide +kernel
theorem dL_law_477 : decode ML_law.2.1 477 = .ok (.aload_n 2, 1) := by decide +kernel
theorem dL_law_478 : decode ML_law.2.1 478 = .ok (.aload_n 0, 1) := by decide +kernel
theorem dL_law_479 : decode ML_law.2.1 479 = .ok (.iload_n 3, 1) := by decide +kernel
theorem dL_law_480 : decode ML_law.2.1 480 = .ok (.iconst 1, 1) := by decide +kernel
theorem dL_law_481 : decode ML_law.2.1 481 = .ok (.iadd, 1) := by decide +kernel
theorem dL_law_482 : decode ML_law.2.1 482 = .ok (.iaload, 1) := by decide +kernel
theorem dL_law_483 : decode ML_law.2.1 483 = .ok (.invokevirtual 63, 3) := by decide +kernel
theorem dL_law_486 : decode ML_law.2.1 486 = .ok (.lcmp, 1) := by decide +kernel
theorem dL_law_487 : decode ML_law.2.1 487 = .ok (.ifCond .eq 320, 3) := by decide +kernel
theorem dL_law_490 : decode ML_law.2.1 490 = .ok (.iconst 0, 1) := by decide +kernel
theorem dL_law_491 : decode ML_law.2.1 491 = .ok (.ireturn, 1) := by decide +kernel
theorem dL_law_492 : decode ML_law.2.1 492 = .ok (.aload_n 1, 1) := by decide +kernel
theorem dL_law_493 : decode ML_law.2.1 493 = .ok (.aload_n 0, 1) := by decide +kernel
theorem dL_law_494 : decode ML_law.2.1 494 = .ok (.iload_n 3, 1) := by decide +kernel
theorem dL_law_495 : decode ML_law.2.1 495 = .ok (.iconst 1, 1) := by decide +kernel
theorem dL_law_496 : decode ML_law.2.1 496 = .ok (.iadd, 1) := by decide +kernel
theorem dL_law_497 : decode ML_law.2.1 497 = .ok (.iaload, 1) := by decide +kernel
theorem dL_law_498 : decode ML_law.2.1 498 = .ok (.invokevirtual 64, 3) := by decide +kernel
theorem dL_law_501 : decode ML_law.2.1 501 = .ok (.aload_n 2, 1) := by decide +kernel
theorem dL_law_502 : decode ML_law.2.1 502 = .ok (.aload_n 0, 1) := by decide +kernel
theorem dL_law_503 : decode ML_law.2.1 503 = .ok (.iload_n 3, 1) := by decide +kernel
theorem dL_law_504 : decode ML_law.2.1 504 = .ok (.iconst 1, 1) := by decide +kernel
theorem dL_law_505 : decode ML_law.2.1 505 = .ok (.iadd, 1) := by decide +kernel
theorem dL_law_506 : decode ML_law.2.1 506 = .ok (.iaload, 1) := by decide +kernel
theorem dL_law_507 : decode ML_law.2.1 507 = .ok (.invokevirtual 67, 3) := by decide +kernel
theorem dL_law_510 : decode ML_law.2.1 510 = .ok (.if_icmp .eq 297, 3) := by decide +kernel
theorem dL_law_513 : decode ML_law.2.1 513 = .ok (.iconst 0, 1) := by decide +kernel
theorem dL_law_514 : decode ML_law.2.1 514 = .ok (.ireturn, 1) := by decide +kernel
theorem dL_law_515 : decode ML_law.2.1 515 = .ok (.aload_n 1, 1) := by decide +kernel
theorem dL_law_516 : decode ML_law.2.1 516 = .ok (.aload_n 0, 1) := by decide +kernel
theorem dL_law_517 : decode ML_law.2.1 517 = .ok (.iload_n 3, 1) := by decide +kernel
theorem dL_law_518 : decode ML_law.2.1 518 = .ok (.iconst 1, 1) := by decide +kernel
theorem dL_law_519 : decode ML_law.2.1 519 = .ok (.iadd, 1) := by decide +kernel
theorem dL_law_520 : decode ML_law.2.1 520 = .ok (.iaload, 1) := by decide +kernel
theorem dL_law_521 : decode ML_law.2.1 521 = .ok (.invokevirtual 68, 3) := by decide +kernel
theorem dL_law_524 : decode ML_law.2.1 524 = .ok (.aload_n 2, 1) := by decide +kernel
theorem dL_law_525 : decode ML_law.2.1 525 = .ok (.aload_n 0, 1) := by decide +kernel
theorem dL_law_526 : decode ML_law.2.1 526 = .ok (.iload_n 3, 1) := by decide +kernel
theorem dL_law_527 : decode ML_law.2.1 527 = .ok (.iconst 1, 1) := by decide +kernel
theorem dL_law_528 : decode ML_law.2.1 528 = .ok (.iadd, 1) := by decide +kernel
theorem dL_law_529 : decode ML_law.2.1 529 = .ok (.iaload, 1) := by decide +kernel
theorem dL_law_530 : decode ML_law.2.1 530 = .ok (.invokevirtual 71, 3) := by decide +kernel
theorem dL_law_533 : decode ML_law.2.1 533 = .ok (.lcmp, 1) := by decide +kernel
theorem dL_law_534 : decode ML_law.2.1 534 = .ok (.ifCond .eq 273, 3) := by decide +kernel
theorem dL_law_537 : decode ML_law.2.1 537 = .ok (.iconst 0, 1) := by decide +kernel
theorem dL_law_538 : decode ML_law.2.1 538 = .ok (.ireturn, 1) := by decide +kernel
theorem dL_law_539 : decode ML_law.2.1 539 = .ok (.aload_n 1, 1) := by decide +kernel
theorem dL_law_540 : decode ML_law.2.1 540 = .ok (.aload_n 0, 1) := by decide +kernel
theorem dL_law_541 : decode ML_law.2.1 541 = .ok (.iload_n 3, 1) := by decide +kernel
theorem dL_law_542 : decode ML_law.2.1 542 = .ok (.iconst 1, 1) := by decide +kernel
theorem dL_law_543 : decode ML_law.2.1 543 = .ok (.iadd, 1) := by decide +kernel
theorem dL_law_544 : decode ML_law.2.1 544 = .ok (.iaload, 1) := by decide +kernel
theorem dL_law_545 : decode ML_law.2.1 545 = .ok (.invokevirtual 72, 3) := by decide +kernel
theorem dL_law_548 : decode ML_law.2.1 548 = .ok (.aload_n 2, 1) := by decide +kernel
theorem dL_law_549 : decode ML_law.2.1 549 = .ok (.aload_n 0, 1) := by decide +kernel
theorem dL_law_550 : decode ML_law.2.1 550 = .ok (.iload_n 3, 1) := by decide +kernel
theorem dL_law_551 : decode ML_law.2.1 551 = .ok (.iconst 1, 1) := by decide +kernel
theorem dL_law_552 : decode ML_law.2.1 552 = .ok (.iadd, 1) := by decide +kernel
theorem dL_law_553 : decode ML_law.2.1 553 = .ok (.iaload, 1) := by decide +kernel
theorem dL_law_554 : decode ML_law.2.1 554 = .ok (.invokevirtual 75, 3) := by decide +kernel
theorem dL_law_557 : decode ML_law.2.1 557 = .ok (.if_icmp .eq 250, 3) := by decide +kernel
theorem dL_law_560 : decode ML_law.2.1 560 = .ok (.iconst 0, 1) := by decide +kernel
theorem dL_law_561 : decode ML_law.2.1 561 = .ok (.ireturn, 1) := by decide +kernel
theorem dL_law_562 : decode ML_law.2.1 562 = .ok (.aload_n 1, 1) := by decide +kernel
theorem dL_law_563 : decode ML_law.2.1 563 = .ok (.invokevirtual 76, 3) := by decide +kernel
theorem dL_law_566 : decode ML_law.2.1 566 = .ok (.aload_n 2, 1) := by decide +kernel
theorem dL_law_567 : decode ML_law.2.1 567 = .ok (.invokevirtual 80, 3) := by decide +kernel
theorem dL_law_570 : decode ML_law.2.1 570 = .ok (.if_icmp .eq 237, 3) := by decide +kernel
theorem dL_law_573 : decode ML_law.2.1 573 = .ok (.iconst 0, 1) := by decide +kernel
theorem dL_law_574 : decode ML_law.2.1 574 = .ok (.ireturn, 1) := by decide +kernel
theorem dL_law_575 : decode ML_law.2.1 575 = .ok (.aload_n 1, 1) := by decide +kernel
theorem dL_law_576 : decode ML_law.2.1 576 = .ok (.aload_n 0, 1) := by decide +kernel
theorem dL_law_577 : decode ML_law.2.1 577 = .ok (.iload_n 3, 1) := by decide +kernel
theorem dL_law_578 : decode ML_law.2.1 578 = .ok (.iconst 1, 1) := by decide +kernel
theorem dL_law_579 : decode ML_law.2.1 579 = .ok (.iadd, 1) := by decide +kernel
theorem dL_law_580 : decode ML_law.2.1 580 = .ok (.iaload, 1) := by decide +kernel
theorem dL_law_581 : decode ML_law.2.1 581 = .ok (.aload_n 0, 1) := by decide +kernel
theorem dL_law_582 : decode ML_law.2.1 582 = .ok (.iload_n 3, 1) := by decide +kernel
theorem dL_law_583 : decode ML_law.2.1 583 = .ok (.iconst 2, 1) := by decide +kernel
theorem dL_law_584 : decode ML_law.2.1 584 = .ok (.iadd, 1) := by decide +kernel
theorem dL_law_585 : decode ML_law.2.1 585 = .ok (.iaload, 1) := by decide +kernel
theorem dL_law_586 : decode ML_law.2.1 586 = .ok (.aload_n 0, 1) := by decide +kernel
theorem dL_law_587 : decode ML_law.2.1 587 = .ok (.iload_n 3, 1) := by decide +kernel
theorem dL_law_588 : decode ML_law.2.1 588 = .ok (.iconst 3, 1) := by decide +kernel
theorem dL_law_589 : decode ML_law.2.1 589 = .ok (.iadd, 1) := by decide +kernel
theorem dL_law_590 : decode ML_law.2.1 590 = .ok (.iaload, 1) := by decide +kernel
theorem dL_law_591 : decode ML_law.2.1 591 = .ok (.aload_n 0, 1) := by decide +kernel
theorem dL_law_592 : decode ML_law.2.1 592 = .ok (.iload_n 3, 1) := by decide +kernel
theorem dL_law_593 : decode ML_law.2.1 593 = .ok (.iconst 4, 1) := by decide +kernel
theorem dL_law_594 : decode ML_law.2.1 594 = .ok (.iadd, 1) := by decide +kernel
theorem dL_law_595 : decode ML_law.2.1 595 = .ok (.iaload, 1) := by decide +kernel
theorem dL_law_596 : decode ML_law.2.1 596 = .ok (.aload_n 0, 1) := by decide +kernel
theorem dL_law_597 : decode ML_law.2.1 597 = .ok (.iload_n 3, 1) := by decide +kernel
theorem dL_law_598 : decode ML_law.2.1 598 = .ok (.iconst 5, 1) := by decide +kernel
theorem dL_law_599 : decode ML_law.2.1 599 = .ok (.iadd, 1) := by decide +kernel
theorem dL_law_600 : decode ML_law.2.1 600 = .ok (.iaload, 1) := by decide +kernel
theorem dL_law_601 : decode ML_law.2.1 601 = .ok (.invokevirtual 81, 3) := by decide +kernel
theorem dL_law_604 : decode ML_law.2.1 604 = .ok (.aload_n 2, 1) := by decide +kernel
theorem dL_law_605 : decode ML_law.2.1 605 = .ok (.aload_n 0, 1) := by decide +kernel
theorem dL_law_606 : decode ML_law.2.1 606 = .ok (.iload_n 3, 1) := by decide +kernel
theorem dL_law_607 : decode ML_law.2.1 607 = .ok (.iconst 1, 1) := by decide +kernel
theorem dL_law_608 : decode ML_law.2.1 608 = .ok (.iadd, 1) := by decide +kernel
theorem dL_law_609 : decode ML_law.2.1 609 = .ok (.iaload, 1) := by decide +kernel
theorem dL_law_610 : decode ML_law.2.1 610 = .ok (.aload_n 0, 1) := by decide +kernel
theorem dL_law_611 : decode ML_law.2.1 611 = .ok (.iload_n 3, 1) := by decide +kernel
theorem dL_law_612 : decode ML_law.2.1 612 = .ok (.iconst 2, 1) := by decide +kernel
theorem dL_law_613 : decode ML_law.2.1 613 = .ok (.iadd, 1) := by decide +kernel
theorem dL_law_614 : decode ML_law.2.1 614 = .ok (.iaload, 1) := by decide +kernel
theorem dL_law_615 : decode ML_law.2.1 615 = .ok (.aload_n 0, 1) := by decide +kernel
theorem dL_law_616 : decode ML_law.2.1 616 = .ok (.iload_n 3, 1) := by decide +kernel
theorem dL_law_617 : decode ML_law.2.1 617 = .ok (.iconst 3, 1) := by decide +kernel
theorem dL_law_618 : decode ML_law.2.1 618 = .ok (.iadd, 1) := by decide +kernel
theorem dL_law_619 : decode ML_law.2.1 619 = .ok (.iaload, 1) := by decide +kernel
theorem dL_law_620 : decode ML_law.2.1 620 = .ok (.aload_n 0, 1) := by decide +kernel
theorem dL_law_621 : decode ML_law.2.1 621 = .ok (.iload_n 3, 1) := by decide +kernel
theorem dL_law_622 : decode ML_law.2.1 622 = .ok (.iconst 4, 1) := by decide +kernel
theorem dL_law_623 : decode ML_law.2.1 623 = .ok (.iadd, 1) := by decide +kernel
theorem dL_law_624 : decode ML_law.2.1 624 = .ok (.iaload, 1) := by decide +kernel
theorem dL_law_625 : decode ML_law.2.1 625 = .ok (.aload_n 0, 1) := by decide +kernel
theorem dL_law_626 : decode ML_law.2.1 626 = .ok (.iload_n 3, 1) := by decide +kernel
theorem dL_law_627 : decode ML_law.2.1 627 = .ok (.iconst 5, 1) := by decide +kernel
theorem dL_law_628 : decode ML_law.2.1 628 = .ok (.iadd, 1) := by decide +kernel
theorem dL_law_629 : decode ML_law.2.1 629 = .ok (.iaload, 1) := by decide +kernel
theorem dL_law_630 : decode ML_law.2.1 630 = .ok (.invokevirtual 85, 3) := by decide +kernel
theorem dL_law_633 : decode ML_law.2.1 633 = .ok (.if_icmp .eq 174, 3) := by decide +kernel
theorem dL_law_636 : decode ML_law.2.1 636 = .ok (.iconst 0, 1) := by decide +kernel
theorem dL_law_637 : decode ML_law.2.1 637 = .ok (.ireturn, 1) := by decide +kernel
theorem dL_law_638 : decode ML_law.2.1 638 = .ok (.aload_n 1, 1) := by decide +kernel
theorem dL_law_639 : decode ML_law.2.1 639 = .ok (.aload_n 0, 1) := by decide +kernel
theorem dL_law_640 : decode ML_law.2.1 640 = .ok (.iload_n 3, 1) := by decide +kernel
theorem dL_law_641 : decode ML_law.2.1 641 = .ok (.iconst 1, 1) := by decide +kernel
theorem dL_law_642 : decode ML_law.2.1 642 = .ok (.iadd, 1) := by decide +kernel
theorem dL_law_643 : decode ML_law.2.1 643 = .ok (.iaload, 1) := by decide +kernel
theorem dL_law_644 : decode ML_law.2.1 644 = .ok (.invokevirtual 86, 3) := by decide +kernel
theorem dL_law_647 : decode ML_law.2.1 647 = .ok (.aload_n 2, 1) := by decide +kernel
theorem dL_law_648 : decode ML_law.2.1 648 = .ok (.aload_n 0, 1) := by decide +kernel
theorem dL_law_649 : decode ML_law.2.1 649 = .ok (.iload_n 3, 1) := by decide +kernel
theorem dL_law_650 : decode ML_law.2.1 650 = .ok (.iconst 1, 1) := by decide +kernel
theorem dL_law_651 : decode ML_law.2.1 651 = .ok (.iadd, 1) := by decide +kernel
theorem dL_law_652 : decode ML_law.2.1 652 = .ok (.iaload, 1) := by decide +kernel
theorem dL_law_653 : decode ML_law.2.1 653 = .ok (.invokevirtual 89, 3) := by decide +kernel
theorem dL_law_656 : decode ML_law.2.1 656 = .ok (.if_icmp .eq 151, 3) := by decide +kernel
theorem dL_law_659 : decode ML_law.2.1 659 = .ok (.iconst 0, 1) := by decide +kernel
theorem dL_law_660 : decode ML_law.2.1 660 = .ok (.ireturn, 1) := by decide +kernel
theorem dL_law_661 : decode ML_law.2.1 661 = .ok (.aload_n 1, 1) := by decide +kernel
theorem dL_law_662 : decode ML_law.2.1 662 = .ok (.aload_n 0, 1) := by decide +kernel
theorem dL_law_663 : decode ML_law.2.1 663 = .ok (.iload_n 3, 1) := by decide +kernel
theorem dL_law_664 : decode ML_law.2.1 664 = .ok (.iconst 1, 1) := by decide +kernel
theorem dL_law_665 : decode ML_law.2.1 665 = .ok (.iadd, 1) := by decide +kernel
theorem dL_law_666 : decode ML_law.2.1 666 = .ok (.iaload, 1) := by decide +kernel
theorem dL_law_667 : decode ML_law.2.1 667 = .ok (.aload_n 0, 1) := by decide +kernel
theorem dL_law_668 : decode ML_law.2.1 668 = .ok (.iload_n 3, 1) := by decide +kernel
theorem dL_law_669 : decode ML_law.2.1 669 = .ok (.iconst 2, 1) := by decide +kernel
theorem dL_law_670 : decode ML_law.2.1 670 = .ok (.iadd, 1) := by decide +kernel
theorem dL_law_671 : decode ML_law.2.1 671 = .ok (.iaload, 1) := by decide +kernel
theorem dL_law_672 : decode ML_law.2.1 672 = .ok (.invokevirtual 90, 3) := by decide +kernel
theorem dL_law_675 : decode ML_law.2.1 675 = .ok (.aload_n 2, 1) := by decide +kernel
theorem dL_law_676 : decode ML_law.2.1 676 = .ok (.aload_n 0, 1) := by decide +kernel
theorem dL_law_677 : decode ML_law.2.1 677 = .ok (.iload_n 3, 1) := by decide +kernel
theorem dL_law_678 : decode ML_law.2.1 678 = .ok (.iconst 1, 1) := by decide +kernel
theorem dL_law_679 : decode ML_law.2.1 679 = .ok (.iadd, 1) := by decide +kernel
theorem dL_law_680 : decode ML_law.2.1 680 = .ok (.iaload, 1) := by decide +kernel
theorem dL_law_681 : decode ML_law.2.1 681 = .ok (.aload_n 0, 1) := by decide +kernel
theorem dL_law_682 : decode ML_law.2.1 682 = .ok (.iload_n 3, 1) := by decide +kernel
theorem dL_law_683 : decode ML_law.2.1 683 = .ok (.iconst 2, 1) := by decide +kernel
theorem dL_law_684 : decode ML_law.2.1 684 = .ok (.iadd, 1) := by decide +kernel
theorem dL_law_685 : decode ML_law.2.1 685 = .ok (.iaload, 1) := by decide +kernel
theorem dL_law_686 : decode ML_law.2.1 686 = .ok (.invokevirtual 94, 3) := by decide +kernel
theorem dL_law_689 : decode ML_law.2.1 689 = .ok (.if_icmp .eq 118, 3) := by decide +kernel
theorem dL_law_692 : decode ML_law.2.1 692 = .ok (.iconst 0, 1) := by decide +kernel
theorem dL_law_693 : decode ML_law.2.1 693 = .ok (.ireturn, 1) := by decide +kernel
theorem dL_law_694 : decode ML_law.2.1 694 = .ok (.aload_n 1, 1) := by decide +kernel
theorem dL_law_695 : decode ML_law.2.1 695 = .ok (.aload_n 0, 1) := by decide +kernel
theorem dL_law_696 : decode ML_law.2.1 696 = .ok (.iload_n 3, 1) := by decide +kernel
theorem dL_law_697 : decode ML_law.2.1 697 = .ok (.iconst 1, 1) := by decide +kernel
theorem dL_law_698 : decode ML_law.2.1 698 = .ok (.iadd, 1) := by decide +kernel
theorem dL_law_699 : decode ML_law.2.1 699 = .ok (.iaload, 1) := by decide +kernel
theorem dL_law_700 : decode ML_law.2.1 700 = .ok (.aload_n 0, 1) := by decide +kernel
theorem dL_law_701 : decode ML_law.2.1 701 = .ok (.iload_n 3, 1) := by decide +kernel
theorem dL_law_702 : decode ML_law.2.1 702 = .ok (.iconst 2, 1) := by decide +kernel
theorem dL_law_703 : decode ML_law.2.1 703 = .ok (.iadd, 1) := by decide +kernel
theorem dL_law_704 : decode ML_law.2.1 704 = .ok (.iaload, 1) := by decide +kernel
theorem dL_law_705 : decode ML_law.2.1 705 = .ok (.invokevirtual 95, 3) := by decide +kernel
theorem dL_law_708 : decode ML_law.2.1 708 = .ok (.aload_n 2, 1) := by decide +kernel
theorem dL_law_709 : decode ML_law.2.1 709 = .ok (.aload_n 0, 1) := by decide +kernel
theorem dL_law_710 : decode ML_law.2.1 710 = .ok (.iload_n 3, 1) := by decide +kernel
theorem dL_law_711 : decode ML_law.2.1 711 = .ok (.iconst 1, 1) := by decide +kernel
theorem dL_law_712 : decode ML_law.2.1 712 = .ok (.iadd, 1) := by decide +kernel
theorem dL_law_713 : decode ML_law.2.1 713 = .ok (.iaload, 1) := by decide +kernel
theorem dL_law_714 : decode ML_law.2.1 714 = .ok (.aload_n 0, 1) := by decide +kernel
theorem dL_law_715 : decode ML_law.2.1 715 = .ok (.iload_n 3, 1) := by decide +kernel
theorem dL_law_716 : decode ML_law.2.1 716 = .ok (.iconst 2, 1) := by decide +kernel
theorem dL_law_717 : decode ML_law.2.1 717 = .ok (.iadd, 1) := by decide +kernel
theorem dL_law_718 : decode ML_law.2.1 718 = .ok (.iaload, 1) := by decide +kernel
theorem dL_law_719 : decode ML_law.2.1 719 = .ok (.invokevirtual 98, 3) := by decide +kernel
theorem dL_law_722 : decode ML_law.2.1 722 = .ok (.if_icmp .eq 85, 3) := by decide +kernel
theorem dL_law_725 : decode ML_law.2.1 725 = .ok (.iconst 0, 1) := by decide +kernel
theorem dL_law_726 : decode ML_law.2.1 726 = .ok (.ireturn, 1) := by decide +kernel
theorem dL_law_727 : decode ML_law.2.1 727 = .ok (.aload_n 1, 1) := by decide +kernel
theorem dL_law_728 : decode ML_law.2.1 728 = .ok (.aload_n 0, 1) := by decide +kernel
theorem dL_law_729 : decode ML_law.2.1 729 = .ok (.iload_n 3, 1) := by decide +kernel
theorem dL_law_730 : decode ML_law.2.1 730 = .ok (.iconst 1, 1) := by decide +kernel
theorem dL_law_731 : decode ML_law.2.1 731 = .ok (.iadd, 1) := by decide +kernel
theorem dL_law_732 : decode ML_law.2.1 732 = .ok (.iaload, 1) := by decide +kernel
theorem dL_law_733 : decode ML_law.2.1 733 = .ok (.invokevirtual 99, 3) := by decide +kernel
theorem dL_law_736 : decode ML_law.2.1 736 = .ok (.aload_n 2, 1) := by decide +kernel
theorem dL_law_737 : decode ML_law.2.1 737 = .ok (.aload_n 0, 1) := by decide +kernel
theorem dL_law_738 : decode ML_law.2.1 738 = .ok (.iload_n 3, 1) := by decide +kernel
theorem dL_law_739 : decode ML_law.2.1 739 = .ok (.iconst 1, 1) := by decide +kernel
theorem dL_law_740 : decode ML_law.2.1 740 = .ok (.iadd, 1) := by decide +kernel
theorem dL_law_741 : decode ML_law.2.1 741 = .ok (.iaload, 1) := by decide +kernel
theorem dL_law_742 : decode ML_law.2.1 742 = .ok (.invokevirtual 102, 3) := by decide +kernel
theorem dL_law_745 : decode ML_law.2.1 745 = .ok (.lcmp, 1) := by decide +kernel
theorem dL_law_746 : decode ML_law.2.1 746 = .ok (.ifCond .eq 61, 3) := by decide +kernel
theorem dL_law_749 : decode ML_law.2.1 749 = .ok (.iconst 0, 1) := by decide +kernel
theorem dL_law_750 : decode ML_law.2.1 750 = .ok (.ireturn, 1) := by decide +kernel
theorem dL_law_751 : decode ML_law.2.1 751 = .ok (.aload_n 1, 1) := by decide +kernel
theorem dL_law_752 : decode ML_law.2.1 752 = .ok (.aload_n 0, 1) := by decide +kernel
theorem dL_law_753 : decode ML_law.2.1 753 = .ok (.iload_n 3, 1) := by decide +kernel
theorem dL_law_754 : decode ML_law.2.1 754 = .ok (.iconst 1, 1) := by decide +kernel
theorem dL_law_755 : decode ML_law.2.1 755 = .ok (.iadd, 1) := by decide +kernel
theorem dL_law_756 : decode ML_law.2.1 756 = .ok (.iaload, 1) := by decide +kernel
theorem dL_law_757 : decode ML_law.2.1 757 = .ok (.aload_n 0, 1) := by decide +kernel
theorem dL_law_758 : decode ML_law.2.1 758 = .ok (.iload_n 3, 1) := by decide +kernel
theorem dL_law_759 : decode ML_law.2.1 759 = .ok (.iconst 2, 1) := by decide +kernel
theorem dL_law_760 : decode ML_law.2.1 760 = .ok (.iadd, 1) := by decide +kernel
theorem dL_law_761 : decode ML_law.2.1 761 = .ok (.iaload, 1) := by decide +kernel
theorem dL_law_762 : decode ML_law.2.1 762 = .ok (.invokevirtual 103, 3) := by decide +kernel
theorem dL_law_765 : decode ML_law.2.1 765 = .ok (.aload_n 2, 1) := by decide +kernel
theorem dL_law_766 : decode ML_law.2.1 766 = .ok (.aload_n 0, 1) := by decide +kernel
theorem dL_law_767 : decode ML_law.2.1 767 = .ok (.iload_n 3, 1) := by decide +kernel
theorem dL_law_768 : decode ML_law.2.1 768 = .ok (.iconst 1, 1) := by decide +kernel
theorem dL_law_769 : decode ML_law.2.1 769 = .ok (.iadd, 1) := by decide +kernel
theorem dL_law_770 : decode ML_law.2.1 770 = .ok (.iaload, 1) := by decide +kernel
theorem dL_law_771 : decode ML_law.2.1 771 = .ok (.aload_n 0, 1) := by decide +kernel
theorem dL_law_772 : decode ML_law.2.1 772 = .ok (.iload_n 3, 1) := by decide +kernel
theorem dL_law_773 : decode ML_law.2.1 773 = .ok (.iconst 2, 1) := by decide +kernel
theorem dL_law_774 : decode ML_law.2.1 774 = .ok (.iadd, 1) := by decide +kernel
theorem dL_law_775 : decode ML_law.2.1 775 = .ok (.iaload, 1) := by decide +kernel
theorem dL_law_776 : decode ML_law.2.1 776 = .ok (.invokevirtual 106, 3) := by decide +kernel
theorem dL_law_779 : decode ML_law.2.1 779 = .ok (.if_icmp .eq 28, 3) := by decide +kernel
theorem dL_law_782 : decode ML_law.2.1 782 = .ok (.iconst 0, 1) := by decide +kernel
theorem dL_law_783 : decode ML_law.2.1 783 = .ok (.ireturn, 1) := by decide +kernel
theorem dL_law_784 : decode ML_law.2.1 784 = .ok (.aload_n 1, 1) := by decide +kernel
theorem dL_law_785 : decode ML_law.2.1 785 = .ok (.aload_n 0, 1) := by decide +kernel
theorem dL_law_786 : decode ML_law.2.1 786 = .ok (.iload_n 3, 1) := by decide +kernel
theorem dL_law_787 : decode ML_law.2.1 787 = .ok (.iconst 1, 1) := by decide +kernel
theorem dL_law_788 : decode ML_law.2.1 788 = .ok (.iadd, 1) := by decide +kernel
theorem dL_law_789 : decode ML_law.2.1 789 = .ok (.iaload, 1) := by decide +kernel
theorem dL_law_790 : decode ML_law.2.1 790 = .ok (.invokevirtual 107, 3) := by decide +kernel
theorem dL_law_793 : decode ML_law.2.1 793 = .ok (.aload_n 2, 1) := by decide +kernel
theorem dL_law_794 : decode ML_law.2.1 794 = .ok (.aload_n 0, 1) := by decide +kernel
theorem dL_law_795 : decode ML_law.2.1 795 = .ok (.iload_n 3, 1) := by decide +kernel
theorem dL_law_796 : decode ML_law.2.1 796 = .ok (.iconst 1, 1) := by decide +kernel
theorem dL_law_797 : decode ML_law.2.1 797 = .ok (.iadd, 1) := by decide +kernel
theorem dL_law_798 : decode ML_law.2.1 798 = .ok (.iaload, 1) := by decide +kernel
theorem dL_law_799 : decode ML_law.2.1 799 = .ok (.invokevirtual 110, 3) := by decide +kernel
theorem dL_law_802 : decode ML_law.2.1 802 = .ok (.if_icmp .eq 5, 3) := by decide +kernel
theorem dL_law_805 : decode ML_law.2.1 805 = .ok (.iconst 0, 1) := by decide +kernel
theorem dL_law_806 : decode ML_law.2.1 806 = .ok (.ireturn, 1) := by decide +kernel
theorem dL_law_807 : decode ML_law.2.1 807 = .ok (.iinc 3 6, 3) := by decide +kernel
theorem dL_law_810 : decode ML_law.2.1 810 = .ok (.goto (-792), 3) := by decide +kernel
theorem dL_law_813 : decode ML_law.2.1 813 = .ok (.iconst 1, 1) := by decide +kernel
theorem dL_law_814 : decode ML_law.2.1 814 = .ok (.ireturn, 1) := by decide +kernel
end
section
/-! truth values; worlds that hold a picture -/
def zb (b : Bool) : Int32 := match b with
  | true => 1
  | false => 0
theorem zb_01 (b : Bool) : zb b = 0 ∨ zb b = 1 := by cases b <;> simp [zb]
theorem zb_0 {b : Bool} : zb b = 0 ↔ b = false := by cases b <;> simp [zb]
theorem zb_inj {a b : Bool} : zb a = zb b ↔ a = b := by cases a <;> cases b <;> simp [zb]
theorem zb_n0 {b : Bool} : ¬ zb b = 0 ↔ b = true := by cases b <;> simp [zb]
section ZB
variable {X : z_X} {l : Launch} {me : z_M} {rm : Room} {pc nx u v : Nat} {lv : List (Option Value)} {st : List Value} {P : z_H}
theorem z_ifb_eq (hX : z_is X l me rm) {b : Bool} {off : Int} (tgt : Nat) (hd : decode me.2.1 pc = .ok (.ifCond .eq off, 3)) (ht : (pc : Int) + off = (tgt : Int)) (kt : b = false → z_W X tgt lv st P nx u v) (kf : b = true → z_W X (pc + 3) lv st P nx u v) : z_W X pc lv (.int (zb b) :: st) P nx u v := z_if_eq hX tgt hd ht (fun h => kt (zb_0.mp h)) (fun h => kf (zb_n0.mp h))
theorem z_ifb_ne (hX : z_is X l me rm) {b : Bool} {off : Int} (tgt : Nat) (hd : decode me.2.1 pc = .ok (.ifCond .ne off, 3)) (ht : (pc : Int) + off = (tgt : Int)) (kt : b = true → z_W X tgt lv st P nx u v) (kf : b = false → z_W X (pc + 3) lv st P nx u v) : z_W X pc lv (.int (zb b) :: st) P nx u v := z_if_ne hX tgt hd ht (fun h => kt (zb_n0.mp h)) (fun h => kf (zb_0.mp h))
end ZB
/-- the world P holds the picture Q -/
def z_in (Q P : z_H) : Prop := ∀ (k : Nat) (c : z_C), Q k = some c → P k = some c
theorem z_in.rf {P : z_H} : z_in P P := fun _ _ h => h
theorem z_in.tr {Q R P : z_H} (h : z_in Q R) (g : z_in R P) : z_in Q P := fun k c q => g k c (h k c q)
theorem z_in.up {Q P : z_H} (h : z_in Q P) (k : Nat) (c : z_C) : z_in (z_up Q k c) (z_up P k c) := fun j d q => by
  by_cases e : j = k
  · subst e
    rw [z_up_s] at q ⊢
    exact q
  · rw [z_up_n e] at q ⊢
    exact h j d q
/-- outside the cells dm nothing has changed -/
def z_out (dm : Nat → Bool) (P0 P : z_H) : Prop := ∀ j, dm j = false → P j = P0 j
theorem z_out.rf {dm : Nat → Bool} {P : z_H} : z_out dm P P := fun _ _ => rfl
theorem z_out.tr {dm : Nat → Bool} {P0 P P1 : z_H} (h : z_out dm P0 P) (g : z_out dm P P1) : z_out dm P0 P1 := fun j hj => (g j hj).trans (h j hj)
theorem z_out.mono {dm dn : Nat → Bool} {P0 P : z_H} (h : z_out dm P0 P) (g : ∀ j, dn j = false → dm j = false) : z_out dn P0 P := fun j hj => h j (g j hj)
theorem z_out.up {dm : Nat → Bool} {P0 P : z_H} (h : z_out dm P0 P) {k : Nat} {c : z_C} (hk : dm k = true) : z_out dm P0 (z_up P k c) := fun j hj => by
  rw [z_up_n (fun e => by rw [e, hk] at hj; cases hj)]
  exact h j hj
theorem z_out.in {dm : Nat → Bool} {P0 P Q : z_H} (h : z_out dm P0 P) (g : z_in Q P0) (hq : ∀ j, dm j = true → Q j = none) : z_in Q P := fun k c q => by
  have : dm k = false := by
    cases e : dm k with
    | false => rfl
    | true => rw [hq k e] at q; cases q
  rw [h k this]
  exact g k c q
/-- behind a store: a new name for the world -/
theorem z_gen {X : z_X} {pc nx u v k : Nat} {lv : List (Option Value)} {st : List Value} {P P0 Q : z_H} {c : z_C} {dm : Nat → Bool} (hM : z_in Q P) (hO : z_out dm P0 P) (hk : dm k = true) (kk : ∀ P' : z_H, z_in (z_up Q k c) P' → z_out dm P0 P' → z_W X pc lv st P' nx u v) : z_W X pc lv st (z_up P k c) nx u v := kk _ (hM.up k c) (hO.up hk)
/-! THE MODEL's picture: its object is cell 70, its arrays 71 .. 89. iv: its numbers by their fields' places; h: which days are holidays; a: its arrays by their cells; ld: the loads -/
def zMo (iv : Nat → Int32) : z_C := .inr (8, [.ref 71, .int (iv 1), .int (iv 2), .int (iv 3), .ref 72, .ref 73, .ref 74, .ref 75, .ref 76, .ref 77, .ref 78, .ref 79, .ref 80, .ref 81, .int (iv 14), .int (iv 15), .ref 82, .ref 83, .ref 84, .ref 85, .ref 86, .ref 87, .ref 88, .ref 89, .int (iv 24), .int (iv 25), .int (iv 26)])
def zM (iv : Nat → Int32) (h : Nat → Bool) (a : Nat → Nat → Int32) (ld : Nat → Int64) : z_H := fun k => match k with
  | 70 => some (zMo iv)
  | 71 => some (.inl (2, 120, .inl (a 71)))
  | 72 => some (.inl (3, 364, .inl (fun j => zb (h j))))
  | 73 => some (.inl (0, 28, .inl (a 73)))
  | 74 => some (.inl (0, 52, .inl (a 74)))
  | 75 => some (.inl (0, 12, .inl (a 75)))
  | 76 => some (.inl (0, 12, .inl (a 76)))
  | 77 => some (.inl (0, 12, .inl (a 77)))
  | 78 => some (.inl (0, 12, .inl (a 78)))
  | 79 => some (.inl (0, 4368, .inl (a 79)))
  | 80 => some (.inl (0, 12, .inl (a 80)))
  | 81 => some (.inl (0, 120, .inl (a 81)))
  | 82 => some (.inl (0, 9, .inl (a 82)))
  | 83 => some (.inl (0, 9, .inl (a 83)))
  | 84 => some (.inl (0, 72, .inl (a 84)))
  | 85 => some (.inl (0, 9, .inl (a 85)))
  | 86 => some (.inl (0, 9, .inl (a 86)))
  | 87 => some (.inl (0, 72, .inl (a 87)))
  | 88 => some (.inl (1, 12, .inr (.inl ld)))
  | 89 => some (.inl (0, 8, .inl (a 89)))
  | _ => none
def zDm (j : Nat) : Bool := Nat.ble 70 j && Nat.ble j 89
theorem zM_dom {iv : Nat → Int32} {h : Nat → Bool} {a : Nat → Nat → Int32} {ld : Nat → Int64} {k : Nat} {c : z_C} (q : zM iv h a ld k = some c) : 70 ≤ k ∧ k ≤ 89 := by
  unfold zM at q
  split at q <;> first | (cases q; done) | omega
theorem zM_s71 {iv : Nat → Int32} {h : Nat → Bool} {a : Nat → Nat → Int32} {ld : Nat → Int64} {P : z_H} {f : Nat → Int32} (q : z_in (z_up (zM iv h a ld) 71 (.inl (2, 120, .inl f))) P) : z_in (zM iv h (va_up a 71 f) ld) P := by
  intro k c hk
  refine q k c ?_
  rw [← hk]
  obtain ⟨h1, h2⟩ := zM_dom hk
  rcases (show k = 70 ∨ k = 71 ∨ k = 72 ∨ k = 73 ∨ k = 74 ∨ k = 75 ∨ k = 76 ∨ k = 77 ∨ k = 78 ∨ k = 79 ∨ k = 80 ∨ k = 81 ∨ k = 82 ∨ k = 83 ∨ k = 84 ∨ k = 85 ∨ k = 86 ∨ k = 87 ∨ k = 88 ∨ k = 89 by omega) with e | e | e | e | e | e | e | e | e | e | e | e | e | e | e | e | e | e | e | e <;> subst e <;> rfl
theorem zM_s73 {iv : Nat → Int32} {h : Nat → Bool} {a : Nat → Nat → Int32} {ld : Nat → Int64} {P : z_H} {f : Nat → Int32} (q : z_in (z_up (zM iv h a ld) 73 (.inl (0, 28, .inl f))) P) : z_in (zM iv h (va_up a 73 f) ld) P := by
  intro k c hk
  refine q k c ?_
  rw [← hk]
  obtain ⟨h1, h2⟩ := zM_dom hk
  rcases (show k = 70 ∨ k = 71 ∨ k = 72 ∨ k = 73 ∨ k = 74 ∨ k = 75 ∨ k = 76 ∨ k = 77 ∨ k = 78 ∨ k = 79 ∨ k = 80 ∨ k = 81 ∨ k = 82 ∨ k = 83 ∨ k = 84 ∨ k = 85 ∨ k = 86 ∨ k = 87 ∨ k = 88 ∨ k = 89 by omega) with e | e | e | e | e | e | e | e | e | e | e | e | e | e | e | e | e | e | e | e <;> subst e <;> rfl
theorem zM_s74 {iv : Nat → Int32} {h : Nat → Bool} {a : Nat → Nat → Int32} {ld : Nat → Int64} {P : z_H} {f : Nat → Int32} (q : z_in (z_up (zM iv h a ld) 74 (.inl (0, 52, .inl f))) P) : z_in (zM iv h (va_up a 74 f) ld) P := by
  intro k c hk
  refine q k c ?_
  rw [← hk]
  obtain ⟨h1, h2⟩ := zM_dom hk
  rcases (show k = 70 ∨ k = 71 ∨ k = 72 ∨ k = 73 ∨ k = 74 ∨ k = 75 ∨ k = 76 ∨ k = 77 ∨ k = 78 ∨ k = 79 ∨ k = 80 ∨ k = 81 ∨ k = 82 ∨ k = 83 ∨ k = 84 ∨ k = 85 ∨ k = 86 ∨ k = 87 ∨ k = 88 ∨ k = 89 by omega) with e | e | e | e | e | e | e | e | e | e | e | e | e | e | e | e | e | e | e | e <;> subst e <;> rfl
theorem zM_s75 {iv : Nat → Int32} {h : Nat → Bool} {a : Nat → Nat → Int32} {ld : Nat → Int64} {P : z_H} {f : Nat → Int32} (q : z_in (z_up (zM iv h a ld) 75 (.inl (0, 12, .inl f))) P) : z_in (zM iv h (va_up a 75 f) ld) P := by
  intro k c hk
  refine q k c ?_
  rw [← hk]
  obtain ⟨h1, h2⟩ := zM_dom hk
  rcases (show k = 70 ∨ k = 71 ∨ k = 72 ∨ k = 73 ∨ k = 74 ∨ k = 75 ∨ k = 76 ∨ k = 77 ∨ k = 78 ∨ k = 79 ∨ k = 80 ∨ k = 81 ∨ k = 82 ∨ k = 83 ∨ k = 84 ∨ k = 85 ∨ k = 86 ∨ k = 87 ∨ k = 88 ∨ k = 89 by omega) with e | e | e | e | e | e | e | e | e | e | e | e | e | e | e | e | e | e | e | e <;> subst e <;> rfl
theorem zM_s76 {iv : Nat → Int32} {h : Nat → Bool} {a : Nat → Nat → Int32} {ld : Nat → Int64} {P : z_H} {f : Nat → Int32} (q : z_in (z_up (zM iv h a ld) 76 (.inl (0, 12, .inl f))) P) : z_in (zM iv h (va_up a 76 f) ld) P := by
  intro k c hk
  refine q k c ?_
  rw [← hk]
  obtain ⟨h1, h2⟩ := zM_dom hk
  rcases (show k = 70 ∨ k = 71 ∨ k = 72 ∨ k = 73 ∨ k = 74 ∨ k = 75 ∨ k = 76 ∨ k = 77 ∨ k = 78 ∨ k = 79 ∨ k = 80 ∨ k = 81 ∨ k = 82 ∨ k = 83 ∨ k = 84 ∨ k = 85 ∨ k = 86 ∨ k = 87 ∨ k = 88 ∨ k = 89 by omega) with e | e | e | e | e | e | e | e | e | e | e | e | e | e | e | e | e | e | e | e <;> subst e <;> rfl
theorem zM_s77 {iv : Nat → Int32} {h : Nat → Bool} {a : Nat → Nat → Int32} {ld : Nat → Int64} {P : z_H} {f : Nat → Int32} (q : z_in (z_up (zM iv h a ld) 77 (.inl (0, 12, .inl f))) P) : z_in (zM iv h (va_up a 77 f) ld) P := by
  intro k c hk
  refine q k c ?_
  rw [← hk]
  obtain ⟨h1, h2⟩ := zM_dom hk
  rcases (show k = 70 ∨ k = 71 ∨ k = 72 ∨ k = 73 ∨ k = 74 ∨ k = 75 ∨ k = 76 ∨ k = 77 ∨ k = 78 ∨ k = 79 ∨ k = 80 ∨ k = 81 ∨ k = 82 ∨ k = 83 ∨ k = 84 ∨ k = 85 ∨ k = 86 ∨ k = 87 ∨ k = 88 ∨ k = 89 by omega) with e | e | e | e | e | e | e | e | e | e | e | e | e | e | e | e | e | e | e | e <;> subst e <;> rfl
theorem zM_s78 {iv : Nat → Int32} {h : Nat → Bool} {a : Nat → Nat → Int32} {ld : Nat → Int64} {P : z_H} {f : Nat → Int32} (q : z_in (z_up (zM iv h a ld) 78 (.inl (0, 12, .inl f))) P) : z_in (zM iv h (va_up a 78 f) ld) P := by
  intro k c hk
  refine q k c ?_
  rw [← hk]
  obtain ⟨h1, h2⟩ := zM_dom hk
  rcases (show k = 70 ∨ k = 71 ∨ k = 72 ∨ k = 73 ∨ k = 74 ∨ k = 75 ∨ k = 76 ∨ k = 77 ∨ k = 78 ∨ k = 79 ∨ k = 80 ∨ k = 81 ∨ k = 82 ∨ k = 83 ∨ k = 84 ∨ k = 85 ∨ k = 86 ∨ k = 87 ∨ k = 88 ∨ k = 89 by omega) with e | e | e | e | e | e | e | e | e | e | e | e | e | e | e | e | e | e | e | e <;> subst e <;> rfl
theorem zM_s79 {iv : Nat → Int32} {h : Nat → Bool} {a : Nat → Nat → Int32} {ld : Nat → Int64} {P : z_H} {f : Nat → Int32} (q : z_in (z_up (zM iv h a ld) 79 (.inl (0, 4368, .inl f))) P) : z_in (zM iv h (va_up a 79 f) ld) P := by
  intro k c hk
  refine q k c ?_
  rw [← hk]
  obtain ⟨h1, h2⟩ := zM_dom hk
  rcases (show k = 70 ∨ k = 71 ∨ k = 72 ∨ k = 73 ∨ k = 74 ∨ k = 75 ∨ k = 76 ∨ k = 77 ∨ k = 78 ∨ k = 79 ∨ k = 80 ∨ k = 81 ∨ k = 82 ∨ k = 83 ∨ k = 84 ∨ k = 85 ∨ k = 86 ∨ k = 87 ∨ k = 88 ∨ k = 89 by omega) with e | e | e | e | e | e | e | e | e | e | e | e | e | e | e | e | e | e | e | e <;> subst e <;> rfl
theorem zM_s80 {iv : Nat → Int32} {h : Nat → Bool} {a : Nat → Nat → Int32} {ld : Nat → Int64} {P : z_H} {f : Nat → Int32} (q : z_in (z_up (zM iv h a ld) 80 (.inl (0, 12, .inl f))) P) : z_in (zM iv h (va_up a 80 f) ld) P := by
  intro k c hk
  refine q k c ?_
  rw [← hk]
  obtain ⟨h1, h2⟩ := zM_dom hk
  rcases (show k = 70 ∨ k = 71 ∨ k = 72 ∨ k = 73 ∨ k = 74 ∨ k = 75 ∨ k = 76 ∨ k = 77 ∨ k = 78 ∨ k = 79 ∨ k = 80 ∨ k = 81 ∨ k = 82 ∨ k = 83 ∨ k = 84 ∨ k = 85 ∨ k = 86 ∨ k = 87 ∨ k = 88 ∨ k = 89 by omega) with e | e | e | e | e | e | e | e | e | e | e | e | e | e | e | e | e | e | e | e <;> subst e <;> rfl
theorem zM_s81 {iv : Nat → Int32} {h : Nat → Bool} {a : Nat → Nat → Int32} {ld : Nat → Int64} {P : z_H} {f : Nat → Int32} (q : z_in (z_up (zM iv h a ld) 81 (.inl (0, 120, .inl f))) P) : z_in (zM iv h (va_up a 81 f) ld) P := by
  intro k c hk
  refine q k c ?_
  rw [← hk]
  obtain ⟨h1, h2⟩ := zM_dom hk
  rcases (show k = 70 ∨ k = 71 ∨ k = 72 ∨ k = 73 ∨ k = 74 ∨ k = 75 ∨ k = 76 ∨ k = 77 ∨ k = 78 ∨ k = 79 ∨ k = 80 ∨ k = 81 ∨ k = 82 ∨ k = 83 ∨ k = 84 ∨ k = 85 ∨ k = 86 ∨ k = 87 ∨ k = 88 ∨ k = 89 by omega) with e | e | e | e | e | e | e | e | e | e | e | e | e | e | e | e | e | e | e | e <;> subst e <;> rfl
theorem zM_s82 {iv : Nat → Int32} {h : Nat → Bool} {a : Nat → Nat → Int32} {ld : Nat → Int64} {P : z_H} {f : Nat → Int32} (q : z_in (z_up (zM iv h a ld) 82 (.inl (0, 9, .inl f))) P) : z_in (zM iv h (va_up a 82 f) ld) P := by
  intro k c hk
  refine q k c ?_
  rw [← hk]
  obtain ⟨h1, h2⟩ := zM_dom hk
  rcases (show k = 70 ∨ k = 71 ∨ k = 72 ∨ k = 73 ∨ k = 74 ∨ k = 75 ∨ k = 76 ∨ k = 77 ∨ k = 78 ∨ k = 79 ∨ k = 80 ∨ k = 81 ∨ k = 82 ∨ k = 83 ∨ k = 84 ∨ k = 85 ∨ k = 86 ∨ k = 87 ∨ k = 88 ∨ k = 89 by omega) with e | e | e | e | e | e | e | e | e | e | e | e | e | e | e | e | e | e | e | e <;> subst e <;> rfl
theorem zM_s83 {iv : Nat → Int32} {h : Nat → Bool} {a : Nat → Nat → Int32} {ld : Nat → Int64} {P : z_H} {f : Nat → Int32} (q : z_in (z_up (zM iv h a ld) 83 (.inl (0, 9, .inl f))) P) : z_in (zM iv h (va_up a 83 f) ld) P := by
  intro k c hk
  refine q k c ?_
  rw [← hk]
  obtain ⟨h1, h2⟩ := zM_dom hk
  rcases (show k = 70 ∨ k = 71 ∨ k = 72 ∨ k = 73 ∨ k = 74 ∨ k = 75 ∨ k = 76 ∨ k = 77 ∨ k = 78 ∨ k = 79 ∨ k = 80 ∨ k = 81 ∨ k = 82 ∨ k = 83 ∨ k = 84 ∨ k = 85 ∨ k = 86 ∨ k = 87 ∨ k = 88 ∨ k = 89 by omega) with e | e | e | e | e | e | e | e | e | e | e | e | e | e | e | e | e | e | e | e <;> subst e <;> rfl
theorem zM_s84 {iv : Nat → Int32} {h : Nat → Bool} {a : Nat → Nat → Int32} {ld : Nat → Int64} {P : z_H} {f : Nat → Int32} (q : z_in (z_up (zM iv h a ld) 84 (.inl (0, 72, .inl f))) P) : z_in (zM iv h (va_up a 84 f) ld) P := by
  intro k c hk
  refine q k c ?_
  rw [← hk]
  obtain ⟨h1, h2⟩ := zM_dom hk
  rcases (show k = 70 ∨ k = 71 ∨ k = 72 ∨ k = 73 ∨ k = 74 ∨ k = 75 ∨ k = 76 ∨ k = 77 ∨ k = 78 ∨ k = 79 ∨ k = 80 ∨ k = 81 ∨ k = 82 ∨ k = 83 ∨ k = 84 ∨ k = 85 ∨ k = 86 ∨ k = 87 ∨ k = 88 ∨ k = 89 by omega) with e | e | e | e | e | e | e | e | e | e | e | e | e | e | e | e | e | e | e | e <;> subst e <;> rfl
theorem zM_s85 {iv : Nat → Int32} {h : Nat → Bool} {a : Nat → Nat → Int32} {ld : Nat → Int64} {P : z_H} {f : Nat → Int32} (q : z_in (z_up (zM iv h a ld) 85 (.inl (0, 9, .inl f))) P) : z_in (zM iv h (va_up a 85 f) ld) P := by
  intro k c hk
  refine q k c ?_
  rw [← hk]
  obtain ⟨h1, h2⟩ := zM_dom hk
  rcases (show k = 70 ∨ k = 71 ∨ k = 72 ∨ k = 73 ∨ k = 74 ∨ k = 75 ∨ k = 76 ∨ k = 77 ∨ k = 78 ∨ k = 79 ∨ k = 80 ∨ k = 81 ∨ k = 82 ∨ k = 83 ∨ k = 84 ∨ k = 85 ∨ k = 86 ∨ k = 87 ∨ k = 88 ∨ k = 89 by omega) with e | e | e | e | e | e | e | e | e | e | e | e | e | e | e | e | e | e | e | e <;> subst e <;> rfl
theorem zM_s86 {iv : Nat → Int32} {h : Nat → Bool} {a : Nat → Nat → Int32} {ld : Nat → Int64} {P : z_H} {f : Nat → Int32} (q : z_in (z_up (zM iv h a ld) 86 (.inl (0, 9, .inl f))) P) : z_in (zM iv h (va_up a 86 f) ld) P := by
  intro k c hk
  refine q k c ?_
  rw [← hk]
  obtain ⟨h1, h2⟩ := zM_dom hk
  rcases (show k = 70 ∨ k = 71 ∨ k = 72 ∨ k = 73 ∨ k = 74 ∨ k = 75 ∨ k = 76 ∨ k = 77 ∨ k = 78 ∨ k = 79 ∨ k = 80 ∨ k = 81 ∨ k = 82 ∨ k = 83 ∨ k = 84 ∨ k = 85 ∨ k = 86 ∨ k = 87 ∨ k = 88 ∨ k = 89 by omega) with e | e | e | e | e | e | e | e | e | e | e | e | e | e | e | e | e | e | e | e <;> subst e <;> rfl
theorem zM_s87 {iv : Nat → Int32} {h : Nat → Bool} {a : Nat → Nat → Int32} {ld : Nat → Int64} {P : z_H} {f : Nat → Int32} (q : z_in (z_up (zM iv h a ld) 87 (.inl (0, 72, .inl f))) P) : z_in (zM iv h (va_up a 87 f) ld) P := by
  intro k c hk
  refine q k c ?_
  rw [← hk]
  obtain ⟨h1, h2⟩ := zM_dom hk
  rcases (show k = 70 ∨ k = 71 ∨ k = 72 ∨ k = 73 ∨ k = 74 ∨ k = 75 ∨ k = 76 ∨ k = 77 ∨ k = 78 ∨ k = 79 ∨ k = 80 ∨ k = 81 ∨ k = 82 ∨ k = 83 ∨ k = 84 ∨ k = 85 ∨ k = 86 ∨ k = 87 ∨ k = 88 ∨ k = 89 by omega) with e | e | e | e | e | e | e | e | e | e | e | e | e | e | e | e | e | e | e | e <;> subst e <;> rfl
theorem zM_s88 {iv : Nat → Int32} {h : Nat → Bool} {a : Nat → Nat → Int32} {ld : Nat → Int64} {P : z_H} {f : Nat → Int64} (q : z_in (z_up (zM iv h a ld) 88 (.inl (1, 12, .inr (.inl f)))) P) : z_in (zM iv h a f) P := by
  intro k c hk
  refine q k c ?_
  rw [← hk]
  obtain ⟨h1, h2⟩ := zM_dom hk
  rcases (show k = 70 ∨ k = 71 ∨ k = 72 ∨ k = 73 ∨ k = 74 ∨ k = 75 ∨ k = 76 ∨ k = 77 ∨ k = 78 ∨ k = 79 ∨ k = 80 ∨ k = 81 ∨ k = 82 ∨ k = 83 ∨ k = 84 ∨ k = 85 ∨ k = 86 ∨ k = 87 ∨ k = 88 ∨ k = 89 by omega) with e | e | e | e | e | e | e | e | e | e | e | e | e | e | e | e | e | e | e | e <;> subst e <;> rfl
theorem zM_s89 {iv : Nat → Int32} {h : Nat → Bool} {a : Nat → Nat → Int32} {ld : Nat → Int64} {P : z_H} {f : Nat → Int32} (q : z_in (z_up (zM iv h a ld) 89 (.inl (0, 8, .inl f))) P) : z_in (zM iv h (va_up a 89 f) ld) P := by
  intro k c hk
  refine q k c ?_
  rw [← hk]
  obtain ⟨h1, h2⟩ := zM_dom hk
  rcases (show k = 70 ∨ k = 71 ∨ k = 72 ∨ k = 73 ∨ k = 74 ∨ k = 75 ∨ k = 76 ∨ k = 77 ∨ k = 78 ∨ k = 79 ∨ k = 80 ∨ k = 81 ∨ k = 82 ∨ k = 83 ∨ k = 84 ∨ k = 85 ∨ k = 86 ∨ k = 87 ∨ k = 88 ∨ k = 89 by omega) with e | e | e | e | e | e | e | e | e | e | e | e | e | e | e | e | e | e | e | e <;> subst e <;> rfl
theorem zM_i1 {iv : Nat → Int32} {h : Nat → Bool} {a : Nat → Nat → Int32} {ld : Nat → Int64} {P : z_H} {x : Int32} (q : z_in (z_up (zM iv h a ld) 70 (.inr (8, [.ref 71, .int (iv 1), .int (iv 2), .int (iv 3), .ref 72, .ref 73, .ref 74, .ref 75, .ref 76, .ref 77, .ref 78, .ref 79, .ref 80, .ref 81, .int (iv 14), .int (iv 15), .ref 82, .ref 83, .ref 84, .ref 85, .ref 86, .ref 87, .ref 88, .ref 89, .int (iv 24), .int (iv 25), .int (iv 26)].set 1 (.int x)))) P) : z_in (zM (va_up iv 1 x) h a ld) P := by
  intro k c hk
  refine q k c ?_
  rw [← hk]
  obtain ⟨h1, h2⟩ := zM_dom hk
  rcases (show k = 70 ∨ k = 71 ∨ k = 72 ∨ k = 73 ∨ k = 74 ∨ k = 75 ∨ k = 76 ∨ k = 77 ∨ k = 78 ∨ k = 79 ∨ k = 80 ∨ k = 81 ∨ k = 82 ∨ k = 83 ∨ k = 84 ∨ k = 85 ∨ k = 86 ∨ k = 87 ∨ k = 88 ∨ k = 89 by omega) with e | e | e | e | e | e | e | e | e | e | e | e | e | e | e | e | e | e | e | e <;> subst e <;> rfl
theorem zM_i2 {iv : Nat → Int32} {h : Nat → Bool} {a : Nat → Nat → Int32} {ld : Nat → Int64} {P : z_H} {x : Int32} (q : z_in (z_up (zM iv h a ld) 70 (.inr (8, [.ref 71, .int (iv 1), .int (iv 2), .int (iv 3), .ref 72, .ref 73, .ref 74, .ref 75, .ref 76, .ref 77, .ref 78, .ref 79, .ref 80, .ref 81, .int (iv 14), .int (iv 15), .ref 82, .ref 83, .ref 84, .ref 85, .ref 86, .ref 87, .ref 88, .ref 89, .int (iv 24), .int (iv 25), .int (iv 26)].set 2 (.int x)))) P) : z_in (zM (va_up iv 2 x) h a ld) P := by
  intro k c hk
  refine q k c ?_
  rw [← hk]
  obtain ⟨h1, h2⟩ := zM_dom hk
  rcases (show k = 70 ∨ k = 71 ∨ k = 72 ∨ k = 73 ∨ k = 74 ∨ k = 75 ∨ k = 76 ∨ k = 77 ∨ k = 78 ∨ k = 79 ∨ k = 80 ∨ k = 81 ∨ k = 82 ∨ k = 83 ∨ k = 84 ∨ k = 85 ∨ k = 86 ∨ k = 87 ∨ k = 88 ∨ k = 89 by omega) with e | e | e | e | e | e | e | e | e | e | e | e | e | e | e | e | e | e | e | e <;> subst e <;> rfl
theorem zM_i3 {iv : Nat → Int32} {h : Nat → Bool} {a : Nat → Nat → Int32} {ld : Nat → Int64} {P : z_H} {x : Int32} (q : z_in (z_up (zM iv h a ld) 70 (.inr (8, [.ref 71, .int (iv 1), .int (iv 2), .int (iv 3), .ref 72, .ref 73, .ref 74, .ref 75, .ref 76, .ref 77, .ref 78, .ref 79, .ref 80, .ref 81, .int (iv 14), .int (iv 15), .ref 82, .ref 83, .ref 84, .ref 85, .ref 86, .ref 87, .ref 88, .ref 89, .int (iv 24), .int (iv 25), .int (iv 26)].set 3 (.int x)))) P) : z_in (zM (va_up iv 3 x) h a ld) P := by
  intro k c hk
  refine q k c ?_
  rw [← hk]
  obtain ⟨h1, h2⟩ := zM_dom hk
  rcases (show k = 70 ∨ k = 71 ∨ k = 72 ∨ k = 73 ∨ k = 74 ∨ k = 75 ∨ k = 76 ∨ k = 77 ∨ k = 78 ∨ k = 79 ∨ k = 80 ∨ k = 81 ∨ k = 82 ∨ k = 83 ∨ k = 84 ∨ k = 85 ∨ k = 86 ∨ k = 87 ∨ k = 88 ∨ k = 89 by omega) with e | e | e | e | e | e | e | e | e | e | e | e | e | e | e | e | e | e | e | e <;> subst e <;> rfl
theorem zM_i14 {iv : Nat → Int32} {h : Nat → Bool} {a : Nat → Nat → Int32} {ld : Nat → Int64} {P : z_H} {x : Int32} (q : z_in (z_up (zM iv h a ld) 70 (.inr (8, [.ref 71, .int (iv 1), .int (iv 2), .int (iv 3), .ref 72, .ref 73, .ref 74, .ref 75, .ref 76, .ref 77, .ref 78, .ref 79, .ref 80, .ref 81, .int (iv 14), .int (iv 15), .ref 82, .ref 83, .ref 84, .ref 85, .ref 86, .ref 87, .ref 88, .ref 89, .int (iv 24), .int (iv 25), .int (iv 26)].set 14 (.int x)))) P) : z_in (zM (va_up iv 14 x) h a ld) P := by
  intro k c hk
  refine q k c ?_
  rw [← hk]
  obtain ⟨h1, h2⟩ := zM_dom hk
  rcases (show k = 70 ∨ k = 71 ∨ k = 72 ∨ k = 73 ∨ k = 74 ∨ k = 75 ∨ k = 76 ∨ k = 77 ∨ k = 78 ∨ k = 79 ∨ k = 80 ∨ k = 81 ∨ k = 82 ∨ k = 83 ∨ k = 84 ∨ k = 85 ∨ k = 86 ∨ k = 87 ∨ k = 88 ∨ k = 89 by omega) with e | e | e | e | e | e | e | e | e | e | e | e | e | e | e | e | e | e | e | e <;> subst e <;> rfl
theorem zM_i15 {iv : Nat → Int32} {h : Nat → Bool} {a : Nat → Nat → Int32} {ld : Nat → Int64} {P : z_H} {x : Int32} (q : z_in (z_up (zM iv h a ld) 70 (.inr (8, [.ref 71, .int (iv 1), .int (iv 2), .int (iv 3), .ref 72, .ref 73, .ref 74, .ref 75, .ref 76, .ref 77, .ref 78, .ref 79, .ref 80, .ref 81, .int (iv 14), .int (iv 15), .ref 82, .ref 83, .ref 84, .ref 85, .ref 86, .ref 87, .ref 88, .ref 89, .int (iv 24), .int (iv 25), .int (iv 26)].set 15 (.int x)))) P) : z_in (zM (va_up iv 15 x) h a ld) P := by
  intro k c hk
  refine q k c ?_
  rw [← hk]
  obtain ⟨h1, h2⟩ := zM_dom hk
  rcases (show k = 70 ∨ k = 71 ∨ k = 72 ∨ k = 73 ∨ k = 74 ∨ k = 75 ∨ k = 76 ∨ k = 77 ∨ k = 78 ∨ k = 79 ∨ k = 80 ∨ k = 81 ∨ k = 82 ∨ k = 83 ∨ k = 84 ∨ k = 85 ∨ k = 86 ∨ k = 87 ∨ k = 88 ∨ k = 89 by omega) with e | e | e | e | e | e | e | e | e | e | e | e | e | e | e | e | e | e | e | e <;> subst e <;> rfl
theorem zM_i24 {iv : Nat → Int32} {h : Nat → Bool} {a : Nat → Nat → Int32} {ld : Nat → Int64} {P : z_H} {x : Int32} (q : z_in (z_up (zM iv h a ld) 70 (.inr (8, [.ref 71, .int (iv 1), .int (iv 2), .int (iv 3), .ref 72, .ref 73, .ref 74, .ref 75, .ref 76, .ref 77, .ref 78, .ref 79, .ref 80, .ref 81, .int (iv 14), .int (iv 15), .ref 82, .ref 83, .ref 84, .ref 85, .ref 86, .ref 87, .ref 88, .ref 89, .int (iv 24), .int (iv 25), .int (iv 26)].set 24 (.int x)))) P) : z_in (zM (va_up iv 24 x) h a ld) P := by
  intro k c hk
  refine q k c ?_
  rw [← hk]
  obtain ⟨h1, h2⟩ := zM_dom hk
  rcases (show k = 70 ∨ k = 71 ∨ k = 72 ∨ k = 73 ∨ k = 74 ∨ k = 75 ∨ k = 76 ∨ k = 77 ∨ k = 78 ∨ k = 79 ∨ k = 80 ∨ k = 81 ∨ k = 82 ∨ k = 83 ∨ k = 84 ∨ k = 85 ∨ k = 86 ∨ k = 87 ∨ k = 88 ∨ k = 89 by omega) with e | e | e | e | e | e | e | e | e | e | e | e | e | e | e | e | e | e | e | e <;> subst e <;> rfl
theorem zM_i25 {iv : Nat → Int32} {h : Nat → Bool} {a : Nat → Nat → Int32} {ld : Nat → Int64} {P : z_H} {x : Int32} (q : z_in (z_up (zM iv h a ld) 70 (.inr (8, [.ref 71, .int (iv 1), .int (iv 2), .int (iv 3), .ref 72, .ref 73, .ref 74, .ref 75, .ref 76, .ref 77, .ref 78, .ref 79, .ref 80, .ref 81, .int (iv 14), .int (iv 15), .ref 82, .ref 83, .ref 84, .ref 85, .ref 86, .ref 87, .ref 88, .ref 89, .int (iv 24), .int (iv 25), .int (iv 26)].set 25 (.int x)))) P) : z_in (zM (va_up iv 25 x) h a ld) P := by
  intro k c hk
  refine q k c ?_
  rw [← hk]
  obtain ⟨h1, h2⟩ := zM_dom hk
  rcases (show k = 70 ∨ k = 71 ∨ k = 72 ∨ k = 73 ∨ k = 74 ∨ k = 75 ∨ k = 76 ∨ k = 77 ∨ k = 78 ∨ k = 79 ∨ k = 80 ∨ k = 81 ∨ k = 82 ∨ k = 83 ∨ k = 84 ∨ k = 85 ∨ k = 86 ∨ k = 87 ∨ k = 88 ∨ k = 89 by omega) with e | e | e | e | e | e | e | e | e | e | e | e | e | e | e | e | e | e | e | e <;> subst e <;> rfl
theorem zM_i26 {iv : Nat → Int32} {h : Nat → Bool} {a : Nat → Nat → Int32} {ld : Nat → Int64} {P : z_H} {x : Int32} (q : z_in (z_up (zM iv h a ld) 70 (.inr (8, [.ref 71, .int (iv 1), .int (iv 2), .int (iv 3), .ref 72, .ref 73, .ref 74, .ref 75, .ref 76, .ref 77, .ref 78, .ref 79, .ref 80, .ref 81, .int (iv 14), .int (iv 15), .ref 82, .ref 83, .ref 84, .ref 85, .ref 86, .ref 87, .ref 88, .ref 89, .int (iv 24), .int (iv 25), .int (iv 26)].set 26 (.int x)))) P) : z_in (zM (va_up iv 26 x) h a ld) P := by
  intro k c hk
  refine q k c ?_
  rw [← hk]
  obtain ⟨h1, h2⟩ := zM_dom hk
  rcases (show k = 70 ∨ k = 71 ∨ k = 72 ∨ k = 73 ∨ k = 74 ∨ k = 75 ∨ k = 76 ∨ k = 77 ∨ k = 78 ∨ k = 79 ∨ k = 80 ∨ k = 81 ∨ k = 82 ∨ k = 83 ∨ k = 84 ∨ k = 85 ∨ k = 86 ∨ k = 87 ∨ k = 88 ∨ k = 89 by omega) with e | e | e | e | e | e | e | e | e | e | e | e | e | e | e | e | e | e | e | e <;> subst e <;> rfl
end
section
/-! rooms; small facts -/
abbrev rM0_init : Room := { frames := 1, cells := 12, slots := 472, locals := 20 }
abbrev rM0_weighWeekday : Room := { frames := 0, cells := 0, slots := 0, locals := 0 }
abbrev rM0_weighMonth : Room := { frames := 0, cells := 0, slots := 0, locals := 0 }
abbrev rM0_addHoliday : Room := { frames := 0, cells := 0, slots := 0, locals := 0 }
abbrev rM0_shareOf : Room := { frames := 0, cells := 0, slots := 0, locals := 0 }
abbrev rM0_wholeOf : Room := { frames := 1, cells := 0, slots := 0, locals := 23 }
abbrev rM1_init : Room := { frames := 1, cells := 2, slots := 28, locals := 20 }
abbrev rM1_put : Room := { frames := 1, cells := 0, slots := 0, locals := 22 }
abbrev rM1_on : Room := { frames := 1, cells := 0, slots := 0, locals := 22 }
abbrev rM1_used : Room := { frames := 1, cells := 0, slots := 0, locals := 22 }
abbrev rM1_loadOfAll : Room := { frames := 2, cells := 0, slots := 0, locals := 54 }
abbrev rM1_loadAtEnd : Room := { frames := 2, cells := 0, slots := 0, locals := 54 }
abbrev rM1_bestShape : Room := { frames := 3, cells := 0, slots := 0, locals := 75 }
abbrev rM1_misfitTimesShares : Room := { frames := 2, cells := 0, slots := 0, locals := 46 }
abbrev rM1_usedTotal : Room := { frames := 1, cells := 0, slots := 0, locals := 22 }
abbrev rM1_usedShares : Room := { frames := 1, cells := 0, slots := 0, locals := 23 }
abbrev rM1_isUsed : Room := { frames := 0, cells := 0, slots := 0, locals := 0 }
abbrev rM1_placeOf : Room := { frames := 0, cells := 0, slots := 0, locals := 0 }
abbrev rM2_init : Room := { frames := 1, cells := 5, slots := 56, locals := 20 }
abbrev rM2_add : Room := { frames := 3, cells := 5, slots := 47, locals := 63 }
abbrev rM2_at : Room := { frames := 1, cells := 0, slots := 0, locals := 21 }
abbrev rM2_hasAll : Room := { frames := 1, cells := 0, slots := 0, locals := 21 }
abbrev rM2_isKnown : Room := { frames := 0, cells := 0, slots := 0, locals := 0 }
abbrev rM2_isTold : Room := { frames := 0, cells := 0, slots := 0, locals := 0 }
abbrev rM2_isAllToldAt : Room := { frames := 0, cells := 0, slots := 0, locals := 0 }
abbrev rM2_loadOf : Room := { frames := 0, cells := 0, slots := 0, locals := 0 }
abbrev rM2_surplus : Room := { frames := 1, cells := 0, slots := 0, locals := 21 }
abbrev rM2_settle : Room := { frames := 3, cells := 0, slots := 0, locals := 78 }
abbrev rM2_isEnough : Room := { frames := 2, cells := 0, slots := 0, locals := 47 }
abbrev rM2_cheapestEnough : Room := { frames := 3, cells := 0, slots := 0, locals := 68 }
abbrev rM2_dearestOutside : Room := { frames := 0, cells := 0, slots := 0, locals := 0 }
abbrev rM2_follow : Room := { frames := 1, cells := 0, slots := 0, locals := 21 }
abbrev rM3_init : Room := { frames := 2, cells := 4, slots := 41, locals := 40 }
abbrev rM4_init : Room := { frames := 1, cells := 22, slots := 108, locals := 20 }
abbrev rM4_addClause : Room := { frames := 0, cells := 0, slots := 0, locals := 0 }
abbrev rM4_addSpanToLast : Room := { frames := 0, cells := 0, slots := 0, locals := 0 }
abbrev rM4_kindOf : Room := { frames := 2, cells := 0, slots := 0, locals := 46 }
abbrev rM4_isWithin : Room := { frames := 1, cells := 0, slots := 0, locals := 21 }
abbrev rM5_init : Room := { frames := 1, cells := 0, slots := 0, locals := 20 }
abbrev rM5_read : Room := { frames := 6, cells := 0, slots := 0, locals := 132 }
abbrev rM5_readClause : Room := { frames := 5, cells := 0, slots := 0, locals := 110 }
abbrev rM5_readSpans : Room := { frames := 4, cells := 0, slots := 0, locals := 86 }
abbrev rM5_readSpan : Room := { frames := 3, cells := 0, slots := 0, locals := 63 }
abbrev rM5_readNumber : Room := { frames := 2, cells := 0, slots := 0, locals := 41 }
abbrev rM5_sign : Room := { frames := 1, cells := 0, slots := 0, locals := 21 }
abbrev rM5_isDigit : Room := { frames := 0, cells := 0, slots := 0, locals := 0 }
abbrev rM6_init : Room := { frames := 1, cells := 1, slots := 120, locals := 20 }
abbrev rM6_append : Room := { frames := 0, cells := 0, slots := 0, locals := 0 }
abbrev rM6_at : Room := { frames := 0, cells := 0, slots := 0, locals := 0 }
abbrev rM7_init : Room := { frames := 2, cells := 68, slots := 894, locals := 42 }
abbrev rM7_weekday : Room := { frames := 1, cells := 0, slots := 0, locals := 23 }
abbrev rM7_month : Room := { frames := 1, cells := 0, slots := 0, locals := 23 }
abbrev rM7_holiday : Room := { frames := 1, cells := 0, slots := 0, locals := 21 }
abbrev rM7_road : Room := { frames := 4, cells := 5, slots := 47, locals := 86 }
abbrev rM7_shape : Room := { frames := 2, cells := 0, slots := 0, locals := 42 }
abbrev rM7_count : Room := { frames := 2, cells := 0, slots := 0, locals := 45 }
abbrev rM7_year : Room := { frames := 3, cells := 0, slots := 0, locals := 78 }
abbrev rM7_span : Room := { frames := 3, cells := 0, slots := 0, locals := 86 }
abbrev rM7_best : Room := { frames := 4, cells := 0, slots := 0, locals := 106 }
abbrev rM7_how : Room := { frames := 4, cells := 0, slots := 0, locals := 104 }
abbrev rM7_load : Room := { frames := 4, cells := 0, slots := 0, locals := 104 }
abbrev rM7_balances : Room := { frames := 4, cells := 0, slots := 0, locals := 104 }
abbrev rM7_balance : Room := { frames := 4, cells := 0, slots := 0, locals := 104 }
abbrev rM7_does : Room := { frames := 3, cells := 0, slots := 0, locals := 68 }
abbrev rM7_plan : Room := { frames := 4, cells := 0, slots := 0, locals := 92 }
abbrev rM7_feed : Room := { frames := 1, cells := 0, slots := 0, locals := 22 }
abbrev rM7_rules : Room := { frames := 7, cells := 0, slots := 0, locals := 157 }
abbrev rM7_pass : Room := { frames := 3, cells := 0, slots := 0, locals := 70 }
abbrev rM7_kinds : Room := { frames := 2, cells := 0, slots := 0, locals := 42 }
abbrev rM7_whole : Room := { frames := 2, cells := 0, slots := 0, locals := 54 }
abbrev rM7_look : Room := { frames := 2, cells := 0, slots := 0, locals := 45 }
abbrev rM7_tell : Room := { frames := 4, cells := 0, slots := 0, locals := 104 }
abbrev rM7_isBelow : Room := { frames := 0, cells := 0, slots := 0, locals := 0 }
abbrev rM7_isWeight : Room := { frames := 0, cells := 0, slots := 0, locals := 0 }
abbrev rM7_isEnd : Room := { frames := 1, cells := 0, slots := 0, locals := 21 }
abbrev rM8_init : Room := { frames := 1, cells := 19, slots := 5312, locals := 20 }
abbrev rM8_lies : Room := { frames := 0, cells := 0, slots := 0, locals := 0 }
abbrev rM8_isRoad : Room := { frames := 1, cells := 0, slots := 0, locals := 25 }
abbrev rM8_isShape : Room := { frames := 1, cells := 0, slots := 0, locals := 25 }
abbrev rM8_has : Room := { frames := 0, cells := 0, slots := 0, locals := 0 }
abbrev rM8_size : Room := { frames := 0, cells := 0, slots := 0, locals := 0 }
abbrev rM8_sizeOf : Room := { frames := 0, cells := 0, slots := 0, locals := 0 }
abbrev rM8_weekday : Room := { frames := 2, cells := 0, slots := 0, locals := 45 }
abbrev rM8_month : Room := { frames := 2, cells := 0, slots := 0, locals := 45 }
abbrev rM8_holiday : Room := { frames := 1, cells := 0, slots := 0, locals := 25 }
abbrev rM8_share : Room := { frames := 0, cells := 0, slots := 0, locals := 0 }
abbrev rM8_wholeOf : Room := { frames := 1, cells := 0, slots := 0, locals := 22 }
abbrev rM8_whole : Room := { frames := 2, cells := 0, slots := 0, locals := 46 }
abbrev rM8_isEnd : Room := { frames := 1, cells := 0, slots := 0, locals := 25 }
abbrev rM8_road : Room := { frames := 2, cells := 0, slots := 0, locals := 45 }
abbrev rM8_shape : Room := { frames := 2, cells := 0, slots := 0, locals := 46 }
abbrev rM8_count : Room := { frames := 2, cells := 0, slots := 0, locals := 46 }
abbrev rM8_isUsed : Room := { frames := 0, cells := 0, slots := 0, locals := 0 }
abbrev rM8_usedOf : Room := { frames := 1, cells := 0, slots := 0, locals := 22 }
abbrev rM8_countsOf : Room := { frames := 1, cells := 0, slots := 0, locals := 22 }
abbrev rM8_sharesOf : Room := { frames := 1, cells := 0, slots := 0, locals := 22 }
abbrev rM8_yearOf : Room := { frames := 2, cells := 0, slots := 0, locals := 47 }
abbrev rM8_year : Room := { frames := 3, cells := 0, slots := 0, locals := 68 }
abbrev rM8_span : Room := { frames := 2, cells := 0, slots := 0, locals := 46 }
abbrev rM8_misfit : Room := { frames := 2, cells := 0, slots := 0, locals := 47 }
abbrev rM8_best : Room := { frames := 3, cells := 0, slots := 0, locals := 76 }
abbrev rM8_roadsAt : Room := { frames := 0, cells := 0, slots := 0, locals := 0 }
abbrev rM8_knownRoads : Room := { frames := 2, cells := 0, slots := 0, locals := 45 }
abbrev rM8_excess : Room := { frames := 1, cells := 0, slots := 0, locals := 21 }
abbrev rM8_grows : Room := { frames := 2, cells := 0, slots := 0, locals := 46 }
abbrev rM8_works : Room := { frames := 3, cells := 0, slots := 0, locals := 72 }
abbrev rM8_how : Room := { frames := 4, cells := 0, slots := 0, locals := 94 }
abbrev rM8_load : Room := { frames := 4, cells := 0, slots := 0, locals := 94 }
abbrev rM8_isBalanced : Room := { frames := 1, cells := 0, slots := 0, locals := 25 }
abbrev rM8_balances : Room := { frames := 4, cells := 0, slots := 0, locals := 94 }
abbrev rM8_balance : Room := { frames := 4, cells := 0, slots := 0, locals := 94 }
abbrev rM8_doAll : Room := { frames := 0, cells := 0, slots := 0, locals := 0 }
abbrev rM8_lists : Room := { frames := 1, cells := 0, slots := 0, locals := 23 }
abbrev rM8_does : Room := { frames := 2, cells := 0, slots := 0, locals := 44 }
abbrev rM8_plan : Room := { frames := 2, cells := 0, slots := 0, locals := 44 }
abbrev rM8_push : Room := { frames := 0, cells := 0, slots := 0, locals := 0 }
abbrev rM8_feed : Room := { frames := 1, cells := 0, slots := 0, locals := 22 }
abbrev rM8_here : Room := { frames := 0, cells := 0, slots := 0, locals := 0 }
abbrev rM8_fails : Room := { frames := 0, cells := 0, slots := 0, locals := 0 }
abbrev rM8_seesDigit : Room := { frames := 1, cells := 0, slots := 0, locals := 25 }
abbrev rM8_number : Room := { frames := 2, cells := 0, slots := 0, locals := 45 }
abbrev rM8_must : Room := { frames := 1, cells := 0, slots := 0, locals := 22 }
abbrev rM8_clause : Room := { frames := 3, cells := 0, slots := 0, locals := 68 }
abbrev rM8_rules : Room := { frames := 4, cells := 0, slots := 0, locals := 92 }
abbrev rM8_kindOf : Room := { frames := 1, cells := 0, slots := 0, locals := 25 }
abbrev rM8_pass : Room := { frames := 2, cells := 0, slots := 0, locals := 50 }
abbrev rM8_kinds : Room := { frames := 2, cells := 0, slots := 0, locals := 46 }
abbrev rM8_look : Room := { frames := 2, cells := 0, slots := 0, locals := 46 }
abbrev rM8_tell : Room := { frames := 4, cells := 0, slots := 0, locals := 94 }
abbrev rMI_numberOfTrailingZeros : Room := { frames := 0, cells := 0, slots := 0, locals := 0 }
abbrev rMI_bitCount : Room := { frames := 0, cells := 0, slots := 0, locals := 0 }
abbrev rMA_abs : Room := { frames := 0, cells := 0, slots := 0, locals := 0 }
theorem zK1 {K : Option Value → z_H → Nat → Prop} {b : Bool} {P : z_H} {nx : Nat} (hK : K (some (.int (zb b))) P nx) (h : b = true) : K (some (.int 1)) P nx := by rw [h] at hK; exact hK
theorem zK0 {K : Option Value → z_H → Nat → Prop} {b : Bool} {P : z_H} {nx : Nat} (hK : K (some (.int (zb b))) P nx) (h : b = false) : K (some (.int 0)) P nx := by rw [h] at hK; exact hK
theorem zKe {K : Option Value → z_H → Nat → Prop} {w w' : Option Value} {P : z_H} {nx : Nat} (hK : K w P nx) (h : w' = w) : K w' P nx := by rw [h]; exact hK
theorem z32 (x : Int32) : -2147483648 ≤ x.toInt ∧ x.toInt < 2147483648 := ⟨Int32.le_toInt x, Int32.toInt_lt x⟩
theorem z64 (x : Int64) : -9223372036854775808 ≤ x.toInt ∧ x.toInt < 9223372036854775808 := ⟨Int64.le_toInt x, Int64.toInt_lt x⟩
theorem i_lt {a b : Int32} : a < b ↔ a.toInt < b.toInt := Int32.lt_iff_toInt_lt
theorem i_le {a b : Int32} : a ≤ b ↔ a.toInt ≤ b.toInt := Int32.le_iff_toInt_le
theorem i_eq {a b : Int32} : a = b ↔ a.toInt = b.toInt := Int32.toInt_inj.symm
theorem l_lt {a b : Int64} : a < b ↔ a.toInt < b.toInt := Int64.lt_iff_toInt_lt
theorem l_le {a b : Int64} : a ≤ b ↔ a.toInt ≤ b.toInt := Int64.le_iff_toInt_le
theorem l_eq {a b : Int64} : a = b ↔ a.toInt = b.toInt := Int64.toInt_inj.symm
theorem i2l_t (x : Int32) : x.toInt64.toInt = x.toInt := Int32.toInt_toInt64 x
theorem bmod32 {z : Int} (h1 : -2147483648 ≤ z) (h2 : z < 2147483648) : z.bmod 4294967296 = z := by rw [Int.bmod_def]; omega
theorem bmod64 {z : Int} (h1 : -9223372036854775808 ≤ z) (h2 : z < 9223372036854775808) : z.bmod 18446744073709551616 = z := by rw [Int.bmod_def]; omega
theorem i_add {x y : Int32} (h1 : -2147483648 ≤ x.toInt + y.toInt) (h2 : x.toInt + y.toInt < 2147483648) : (x + y).toInt = x.toInt + y.toInt := by rw [Int32.toInt_add]; exact bmod32 h1 h2
theorem i_sub {x y : Int32} (h1 : -2147483648 ≤ x.toInt - y.toInt) (h2 : x.toInt - y.toInt < 2147483648) : (x - y).toInt = x.toInt - y.toInt := by rw [Int32.toInt_sub]; exact bmod32 h1 h2
theorem i_mul {x y : Int32} (h1 : -2147483648 ≤ x.toInt * y.toInt) (h2 : x.toInt * y.toInt < 2147483648) : (x * y).toInt = x.toInt * y.toInt := by rw [Int32.toInt_mul]; exact bmod32 h1 h2
theorem l_add {x y : Int64} (h1 : -9223372036854775808 ≤ x.toInt + y.toInt) (h2 : x.toInt + y.toInt < 9223372036854775808) : (x + y).toInt = x.toInt + y.toInt := by rw [Int64.toInt_add]; exact bmod64 h1 h2
theorem l_sub {x y : Int64} (h1 : -9223372036854775808 ≤ x.toInt - y.toInt) (h2 : x.toInt - y.toInt < 9223372036854775808) : (x - y).toInt = x.toInt - y.toInt := by rw [Int64.toInt_sub]; exact bmod64 h1 h2
theorem l_mul {x y : Int64} (h1 : -9223372036854775808 ≤ x.toInt * y.toInt) (h2 : x.toInt * y.toInt < 9223372036854775808) : (x * y).toInt = x.toInt * y.toInt := by rw [Int64.toInt_mul]; exact bmod64 h1 h2
/-- an int in a range is a number -/
theorem nI_rng {x : Int32} {n : Nat} (h0 : 0 ≤ x.toInt) (h1 : x.toInt < n) : ∃ j : Nat, j < n ∧ x = nI j := by
  have := z32 x
  refine ⟨x.toInt.toNat, by omega, Int32.toInt_inj.mp ?_⟩
  rw [nI_toInt (by omega)]
  omega
theorem nI_lit (n : Nat) : (OfNat.ofNat n : Int32) = nI n := rfl
theorem lN_lit (n : Nat) : (OfNat.ofNat n : Int64) = lN n := rfl
end
section
/-! the model's small methods -/
def S8_lies : z_PT := fun as P nx K => ∃ v lo hi : Int64, as = [.long v, .long lo, .long hi] ∧ K (some (.int (zb (decide (lo.toInt ≤ v.toInt ∧ v.toInt ≤ hi.toInt))))) P nx
theorem sp8_lies (l : Launch) : z_Sp l M8_lies rM8_lies S8_lies := by
  refine z_enter (by decide) (fun as P nx K h => ?_) (fun X K as P nx hX hE _ hS => ?_)
  · obtain ⟨v, lo, hi, rfl, -⟩ := h
    exact Nat.le_refl _
  · obtain ⟨v, lo, hi, rfl, hK⟩ := hS
    show z_W X 0 [some (.long v), none, some (.long lo), none, some (.long hi), none] [] P nx 0 0
    refine z_lload_n hX d8_lies_0 rfl ?_
    refine z_lload_n hX d8_lies_1 rfl ?_
    refine z_lcmp hX d8_lies_2 ?_
    refine z_if_lt hX 17 d8_lies_3 (by decide) (fun h3 => ?_) (fun h3 => ?_)
    · skip
      rw [lg_cmp_lt, l_lt] at h3
      refine z_iconst hX (0) d8_lies_17 (by decide) ?_
      refine z_zret hX hE (by decide) (by decide) (by decide) d8_lies_18 ?_
      first | exact zK0 hK (decide_eq_false (by omega)) | exact zK1 hK (decide_eq_true (by omega))
    · skip
      rw [lg_cmp_lt, l_lt] at h3
      refine z_lload_n hX d8_lies_6 rfl ?_
      refine z_lload hX d8_lies_7 rfl ?_
      refine z_lcmp hX d8_lies_9 ?_
      refine z_if_gt hX 17 d8_lies_10 (by decide) (fun h10 => ?_) (fun h10 => ?_)
      · skip
        rw [lg_cmp_gt, l_lt] at h10
        refine z_iconst hX (0) d8_lies_17 (by decide) ?_
        refine z_zret hX hE (by decide) (by decide) (by decide) d8_lies_18 ?_
        first | exact zK0 hK (decide_eq_false (by omega)) | exact zK1 hK (decide_eq_true (by omega))
      · skip
        rw [lg_cmp_gt, l_lt] at h10
        refine z_iconst hX (1) d8_lies_13 (by decide) ?_
        refine z_goto hX 18 d8_lies_14 (by decide) ?_
        refine z_zret hX hE (by decide) (by decide) (by decide) d8_lies_18 ?_
        first | exact zK0 hK (decide_eq_false (by omega)) | exact zK1 hK (decide_eq_true (by omega))
def S8_isShape : z_PT := fun as P nx K => ∃ s : Int32, as = [.int s] ∧ K (some (.int (zb (decide (0 ≤ s.toInt ∧ s.toInt < 4))))) P nx
theorem sp8_isShape (l : Launch) : z_Sp l M8_isShape rM8_isShape S8_isShape := by
  refine z_enter (by decide) (fun as P nx K h => ?_) (fun X K as P nx hX hE _ hS => ?_)
  · obtain ⟨s, rfl, -⟩ := h
    exact Nat.le_refl _
  · obtain ⟨s, rfl, hK⟩ := hS
    show z_W X 0 [some (.int s)] [] P nx 0 0
    refine z_iload_n hX d8_isShape_0 rfl ?_
    refine z_i2l hX d8_isShape_1 ?_
    refine z_lconst hX 0 d8_isShape_2 (by decide) ?_
    refine z_ldc2 hX (3) d8_isShape_3 lk_8_78 ?_
    refine z_callS3 hX (sp8_lies l) lm_8_74 ⟨by decide, by decide, by decide, by decide⟩ (by decide) d8_isShape_6 ?_
    refine ⟨_, _, _, rfl, ?_⟩
    dsimp only [Option.toList, List.cons_append, List.nil_append]
    refine z_zret hX hE (zb_01 _) (by decide) (by decide) d8_isShape_9 ?_
    refine zKe hK ?_
    rw [i2l_t]
    congr 4
    simp only [eq_iff_iff]
    rw [show (0 : Int64).toInt = 0 from rfl, show (3 : Int64).toInt = 3 from rfl]
    omega
def S8_isEnd : z_PT := fun as P nx K => ∃ s : Int32, as = [.int s] ∧ K (some (.int (zb (decide (-1 ≤ s.toInt ∧ s.toInt < 8))))) P nx
theorem sp8_isEnd (l : Launch) : z_Sp l M8_isEnd rM8_isEnd S8_isEnd := by
  refine z_enter (by decide) (fun as P nx K h => ?_) (fun X K as P nx hX hE _ hS => ?_)
  · obtain ⟨s, rfl, -⟩ := h
    exact Nat.le_refl _
  · obtain ⟨s, rfl, hK⟩ := hS
    show z_W X 0 [some (.int s)] [] P nx 0 0
    refine z_iload_n hX d8_isEnd_0 rfl ?_
    refine z_i2l hX d8_isEnd_1 ?_
    refine z_ldc2 hX (-1) d8_isEnd_2 lk_8_103 ?_
    refine z_ldc2 hX (7) d8_isEnd_5 lk_8_105 ?_
    refine z_callS3 hX (sp8_lies l) lm_8_74 ⟨by decide, by decide, by decide, by decide⟩ (by decide) d8_isEnd_8 ?_
    refine ⟨_, _, _, rfl, ?_⟩
    dsimp only [Option.toList, List.cons_append, List.nil_append]
    refine z_zret hX hE (zb_01 _) (by decide) (by decide) d8_isEnd_11 ?_
    refine zKe hK ?_
    rw [i2l_t]
    congr 4
    simp only [eq_iff_iff]
    rw [show (-1 : Int64).toInt = -1 from rfl, show (7 : Int64).toInt = 7 from rfl]
    omega
def S8_isRoad : z_PT := fun as P nx K => ∃ (iv : Nat → Int32) (h : Nat → Bool) (a : Nat → Nat → Int32) (ld : Nat → Int64) (n : Nat) (r : Int32), as = [.ref 70, .int r] ∧ z_in (zM iv h a ld) P ∧ iv 2 = nI n ∧ n ≤ 12 ∧ K (some (.int (zb (decide (0 ≤ r.toInt ∧ r.toInt < n))))) P nx
theorem sp8_isRoad (l : Launch) : z_Sp l M8_isRoad rM8_isRoad S8_isRoad := by
  refine z_enter (by decide) (fun as P nx K h => ?_) (fun X K as P nx hX hE _ hS => ?_)
  · obtain ⟨iv, h, a, ld, n, r, rfl, -⟩ := h
    exact Nat.le_refl _
  · obtain ⟨iv, h, a, ld, n, r, rfl, hM, hn, hn12, hK⟩ := hS
    show z_W X 0 [some (.ref 70), some (.int r)] [] P nx 0 0
    refine z_iload_n hX d8_isRoad_0 rfl ?_
    refine z_i2l hX d8_isRoad_1 ?_
    refine z_lconst hX 0 d8_isRoad_2 (by decide) ?_
    refine z_aload_n hX d8_isRoad_3 rfl ?_
    refine z_get hX lf_8_70 (hM _ _ rfl) rfl d8_isRoad_4 ?_
    refine z_iconst hX (1) d8_isRoad_7 (by decide) ?_
    refine z_isub hX d8_isRoad_8 ?_
    refine z_i2l hX d8_isRoad_9 ?_
    refine z_callS3 hX (sp8_lies l) lm_8_74 ⟨by decide, by decide, by decide, by decide⟩ (by decide) d8_isRoad_10 ?_
    refine ⟨_, _, _, rfl, ?_⟩
    dsimp only [Option.toList, List.cons_append, List.nil_append]
    refine z_zret hX hE (zb_01 _) (by decide) (by decide) d8_isRoad_13 ?_
    refine zKe hK ?_
    rw [i2l_t, i2l_t, hn]
    congr 4
    simp only [eq_iff_iff]
    have h1 : (nI n).toInt = n := nI_toInt (by omega)
    have h2 : (1 : Int32).toInt = 1 := rfl
    rw [i_sub (by omega) (by omega), h1, h2, show (0 : Int64).toInt = 0 from rfl]
    omega
def S8_size : z_PT := fun as P nx K => ∃ v : Int64, as = [.long v] ∧ K (some (.long (if v < 0 then -v else v))) P nx
theorem sp8_size (l : Launch) : z_Sp l M8_size rM8_size S8_size := by
  refine z_enter (by decide) (fun as P nx K h => ?_) (fun X K as P nx hX hE _ hS => ?_)
  · obtain ⟨s, rfl, -⟩ := h
    exact Nat.le_refl _
  · obtain ⟨v, rfl, hK⟩ := hS
    show z_W X 0 [some (.long v), none] [] P nx 0 0
    refine z_lload_n hX d8_size_0 rfl ?_
    refine z_lconst hX 0 d8_size_1 (by decide) ?_
    refine z_lcmp hX d8_size_2 ?_
    refine z_if_ge hX 11 d8_size_3 (by decide) (fun h3 => ?_) (fun h3 => ?_)
    · skip
      rw [lg_cmp_ge] at h3
      refine z_lload_n hX d8_size_11 rfl ?_
      refine z_lret hX hE (by decide) (by decide) d8_size_12 ?_
      first | exact zKe hK (by rw [if_neg (Int64.not_lt.mpr h3)]) | exact zKe hK (by rw [if_pos (Int64.not_le.mp h3)])
    · skip
      rw [lg_cmp_ge] at h3
      refine z_lload_n hX d8_size_6 rfl ?_
      refine z_lneg hX d8_size_7 ?_
      refine z_goto hX 12 d8_size_8 (by decide) ?_
      refine z_lret hX hE (by decide) (by decide) d8_size_12 ?_
      first | exact zKe hK (by rw [if_neg (Int64.not_lt.mpr h3)]) | exact zKe hK (by rw [if_pos (Int64.not_le.mp h3)])
end
section
/-! the model's sums -/
theorem z_pad {X : z_X} {pc nx u v : Nat} {lv : List (Option Value)} {st : List Value} {P : z_H} (n : Nat) (k : z_W X pc (lv ++ List.replicate n none) st P nx u v) : z_W X pc lv st P nx u v := by
  obtain ⟨p, l, e, R, s, m, args, below, meth, c, cc, nL, own, D, cy, b, B, Q⟩ := X
  refine fun H locs ls hR hS hL => k H locs ls hR hS (hL.sub ?_)
  have rep : ∀ n i w, z_g (List.replicate n none) i = some w → False := by
    intro n
    induction n with
    | zero => intro i w h; rw [show List.replicate 0 (none : Option Value) = [] from rfl, z_g_nil] at h; cases h
    | succ n ih => intro i w h; cases i with
      | zero => cases h
      | succ i => exact ih i w h
  clear hL hS hR k
  induction lv with
  | nil => intro i w h; exact (rep n i w h).elim
  | cons x lv ih => intro i w h; cases i with
    | zero => exact h
    | succ i => exact ih i w h
theorem zM_s72 {iv : Nat → Int32} {h : Nat → Bool} {a : Nat → Nat → Int32} {ld : Nat → Int64} {P : z_H} {i : Nat} {b : Bool} {f : Nat → Int32} (q : z_in (z_up (zM iv h a ld) 72 (.inl (3, 364, .inl f))) P) (hf : f = fun j => zb (va_up h i b j)) : z_in (zM iv (va_up h i b) a ld) P := by
  subst hf
  intro k c hk
  refine q k c ?_
  rw [← hk]
  obtain ⟨h1, h2⟩ := zM_dom hk
  rcases (show k = 70 ∨ k = 71 ∨ k = 72 ∨ k = 73 ∨ k = 74 ∨ k = 75 ∨ k = 76 ∨ k = 77 ∨ k = 78 ∨ k = 79 ∨ k = 80 ∨ k = 81 ∨ k = 82 ∨ k = 83 ∨ k = 84 ∨ k = 85 ∨ k = 86 ∨ k = 87 ∨ k = 88 ∨ k = 89 by omega) with e | e | e | e | e | e | e | e | e | e | e | e | e | e | e | e | e | e | e | e <;> subst e <;> rfl
theorem zHol {h : Nat → Bool} {i : Nat} : upd (fun j => zb (h j)) i (vp_nar .boolean 1) = fun j => zb (va_up h i true j) := by
  funext j
  by_cases e : j = i
  · subst e
    simp [upd, va_up, zb]
    rfl
  · simp [upd, va_up, e]
/-- a sum -/
def zS (f : Nat → Int64) : Nat → Int64
  | 0 => 0
  | n + 1 => zS f n + f n
/-- how many -/
def zC (p : Nat → Bool) : Nat → Nat
  | 0 => 0
  | n + 1 => zC p n + (if p n then 1 else 0)
theorem zC_le (p : Nat → Bool) : ∀ n, zC p n ≤ n
  | 0 => Nat.le_refl 0
  | n + 1 => by
    have := zC_le p n
    unfold zC
    split <;> omega
def mShare (h : Nat → Bool) (a : Nat → Nat → Int32) (s d : Nat) : Int64 := (a 73 (7 * s + if h d then 6 else d % 7)).toInt64 * (a 74 (13 * s + d / 28)).toInt64
def mUsed (h : Nat → Bool) (a : Nat → Nat → Int32) (r d : Nat) : Bool := decide (¬ a 79 (364 * r + d) = -1) && !h d
def mCounts (h : Nat → Bool) (a : Nat → Nat → Int32) (r : Nat) : Int64 := zS (fun d => if mUsed h a r d then (a 79 (364 * r + d)).toInt64 else 0) 364
def mShares (h : Nat → Bool) (a : Nat → Nat → Int32) (r s : Nat) : Int64 := zS (fun d => if mUsed h a r d then mShare h a s d else 0) 364
def mWhole (h : Nat → Bool) (a : Nat → Nat → Int32) (s : Nat) : Int64 := zS (mShare h a s) 364
/-- an index that is a small sum of products -/
theorem ix_in {x : Int32} {k n : Nat} (h : x = nI k) (hk : k < n) (hn : n < 2 ^ 31) : vp_in x n := by rw [h]; exact vp_in_nI hk hn
theorem ix_c {x : Int32} {k : Nat} (h : x = nI k) (hk : k < 2 ^ 31) : x.toNatClampNeg = k := by rw [h, nI_clamp hk]
theorem nI_ml (m s d : Nat) : nI m * nI s + nI d = nI (m * s + d) := by rw [pk_mul, nI_add]
def S8_share : z_PT := fun as P nx K => ∃ (iv : Nat → Int32) (h : Nat → Bool) (a : Nat → Nat → Int32) (ld : Nat → Int64) (s d : Nat), as = [.ref 70, .int (nI s), .int (nI d)] ∧ z_in (zM iv h a ld) P ∧ (s < 4) ∧ (d < 364) ∧ K (some (.long (mShare h a s d))) P nx
set_option maxRecDepth 4000 in
theorem sp8_share (l : Launch) : z_Sp l M8_share rM8_share S8_share := by
  refine z_enter (by decide) (fun as P nx K h => ?_) (fun X K as P nx hX hE hin0 hS => ?_)
  · obtain ⟨iv, h, a, ld, s, d, rfl, -⟩ := h
    exact Nat.le_of_ble_eq_true rfl
  obtain ⟨iv, h, a, ld, s, d, rfl, hM, p1, p2, hK⟩ := hS
  show z_W X 0 [some (.ref 70), some (.int (nI s)), some (.int (nI d))] [] P nx 0 0
  refine z_aload_n hX d8_share_0 rfl ?_
  refine z_get hX lf_8_17 (hM _ _ rfl) rfl d8_share_1 ?_
  refine z_bipush hX (7) d8_share_4 (by decide) ?_
  refine z_iload_n hX d8_share_6 rfl ?_
  refine z_imul hX d8_share_7 ?_
  refine z_aload_n hX d8_share_8 rfl ?_
  refine z_get hX lf_8_13 (hM _ _ rfl) rfl d8_share_9 ?_
  refine z_iload_n hX d8_share_12 rfl ?_
  refine z_zald hX (hM _ _ rfl) (vp_in_nI p2 (by decide)) d8_share_13 ?_
  rw [nI_clamp (show d < 2 ^ 31 by omega)]
  refine z_ifb_eq hX 22 d8_share_14 (by decide) (fun h14 => ?_) (fun h14 => ?_)
  · skip
    have e1 : (7 : Int32) * nI s + (nI d - nI d / 7 * 7) = nI (7 * s + d % 7) := by rw [show (7 : Int32) = nI 7 from rfl, pk_rem (by omega) (by decide) (by decide), nI_ml]
    have i1 : 7 * s + d % 7 < 28 := by omega
    refine z_iload_n hX d8_share_22 rfl ?_
    refine z_bipush hX (7) d8_share_23 (by decide) ?_
    refine z_irem hX d8_share_25 (by decide) ?_
    refine z_iadd hX d8_share_26 ?_
    refine z_iald hX (hM _ _ rfl) (ix_in e1 i1 (by decide)) d8_share_27 ?_
    rw [ix_c e1 (by omega)]
    refine z_i2l hX d8_share_28 ?_
    refine z_aload_n hX d8_share_29 rfl ?_
    refine z_get hX lf_8_21 (hM _ _ rfl) rfl d8_share_30 ?_
    refine z_bipush hX (13) d8_share_33 (by decide) ?_
    refine z_iload_n hX d8_share_35 rfl ?_
    refine z_imul hX d8_share_36 ?_
    refine z_iload_n hX d8_share_37 rfl ?_
    refine z_bipush hX (28) d8_share_38 (by decide) ?_
    refine z_idiv hX d8_share_40 (by decide) ?_
    refine z_iadd hX d8_share_41 ?_
    have e2 : (13 : Int32) * nI s + nI d / 28 = nI (13 * s + d / 28) := by rw [show (28 : Int32) = nI 28 from rfl, pk_div (by omega) (by decide) (by decide)]; exact nI_ml 13 s (d / 28)
    have i2 : 13 * s + d / 28 < 52 := by omega
    refine z_iald hX (hM _ _ rfl) (ix_in e2 i2 (by decide)) d8_share_42 ?_
    rw [ix_c e2 (by omega)]
    refine z_i2l hX d8_share_43 ?_
    refine z_lmul hX d8_share_44 ?_
    refine z_lret hX hE (by decide) (by decide) d8_share_45 ?_
    exact zKe hK (by unfold mShare; rw [h14]; rfl)
  · skip
    have e1 : (7 : Int32) * nI s + 6 = nI (7 * s + 6) := nI_ml 7 s 6
    have i1 : 7 * s + 6 < 28 := by omega
    refine z_bipush hX (6) d8_share_17 (by decide) ?_
    refine z_goto hX 26 d8_share_19 (by decide) ?_
    refine z_iadd hX d8_share_26 ?_
    refine z_iald hX (hM _ _ rfl) (ix_in e1 i1 (by decide)) d8_share_27 ?_
    rw [ix_c e1 (by omega)]
    refine z_i2l hX d8_share_28 ?_
    refine z_aload_n hX d8_share_29 rfl ?_
    refine z_get hX lf_8_21 (hM _ _ rfl) rfl d8_share_30 ?_
    refine z_bipush hX (13) d8_share_33 (by decide) ?_
    refine z_iload_n hX d8_share_35 rfl ?_
    refine z_imul hX d8_share_36 ?_
    refine z_iload_n hX d8_share_37 rfl ?_
    refine z_bipush hX (28) d8_share_38 (by decide) ?_
    refine z_idiv hX d8_share_40 (by decide) ?_
    refine z_iadd hX d8_share_41 ?_
    have e2 : (13 : Int32) * nI s + nI d / 28 = nI (13 * s + d / 28) := by rw [show (28 : Int32) = nI 28 from rfl, pk_div (by omega) (by decide) (by decide)]; exact nI_ml 13 s (d / 28)
    have i2 : 13 * s + d / 28 < 52 := by omega
    refine z_iald hX (hM _ _ rfl) (ix_in e2 i2 (by decide)) d8_share_42 ?_
    rw [ix_c e2 (by omega)]
    refine z_i2l hX d8_share_43 ?_
    refine z_lmul hX d8_share_44 ?_
    refine z_lret hX hE (by decide) (by decide) d8_share_45 ?_
    exact zKe hK (by unfold mShare; rw [h14]; rfl)
def S8_wholeOf : z_PT := fun as P nx K => ∃ (iv : Nat → Int32) (h : Nat → Bool) (a : Nat → Nat → Int32) (ld : Nat → Int64) (s : Nat), as = [.ref 70, .int (nI s)] ∧ z_in (zM iv h a ld) P ∧ (s < 4) ∧ K (some (.long (mWhole h a s))) P nx
set_option maxRecDepth 4000 in
theorem sp8_wholeOf (l : Launch) : z_Sp l M8_wholeOf rM8_wholeOf S8_wholeOf := by
  refine z_enter (by decide) (fun as P nx K h => ?_) (fun X K as P nx hX hE hin0 hS => ?_)
  · obtain ⟨iv, h, a, ld, s, rfl, -⟩ := h
    exact Nat.le_of_ble_eq_true rfl
  obtain ⟨iv, h, a, ld, s, rfl, hM, p1, hK⟩ := hS
  refine z_pad 3 ?_
  show z_W X 0 [some (.ref 70), some (.int (nI s)), none, none, none] [] P nx 0 0
  have loop : ∀ (k i : Nat), i + k = 364 → z_W X 5 [some (.ref 70), some (.int (nI s)), some (.long (zS (mShare h a s) i)), none, some (.int (nI i))] [] P nx 0 0 := by
    intro k
    induction k with
    | zero =>
      intro i hi
      have hi : i = 364 := by omega
      subst hi
      refine z_iload hX d8_wholeOf_5 rfl ?_
      refine z_sipush hX (364) d8_wholeOf_7 (by decide) ?_
      refine z_icmp_ge hX 29 d8_wholeOf_10 (by decide) (fun h10 => ?_) (fun h10 => ?_)
      rotate_left
      · exact absurd (by decide) h10
      refine z_lload_n hX d8_wholeOf_29 rfl ?_
      refine z_lret hX hE (by decide) (by decide) d8_wholeOf_30 ?_
      exact hK
    | succ k ih =>
      intro i hi
      refine z_iload hX d8_wholeOf_5 rfl ?_
      refine z_sipush hX (364) d8_wholeOf_7 (by decide) ?_
      refine z_icmp_ge hX 29 d8_wholeOf_10 (by decide) (fun h10 => ?_) (fun h10 => ?_)
      · exact absurd h10 (nI_ge (b := 364) (by omega) (by decide))
      refine z_lload_n hX d8_wholeOf_13 rfl ?_
      refine z_aload_n hX d8_wholeOf_14 rfl ?_
      refine z_iload_n hX d8_wholeOf_15 rfl ?_
      refine z_iload hX d8_wholeOf_16 rfl ?_
      refine z_callV2 hX (sp8_share l) lm_8_95 (hM _ _ rfl) ⟨by decide, by decide, by decide, by decide⟩ (Nat.le_of_ble_eq_true rfl) d8_wholeOf_18 ?_
      refine ⟨iv, h, a, ld, s, i, rfl, hM, p1, by omega, ?_⟩
      dsimp only [Option.toList, List.cons_append, List.nil_append]
      refine z_ladd hX d8_wholeOf_21 ?_
      refine z_lstore_n hX 2 rfl (by decide) d8_wholeOf_22 ?_
      dsimp only [z_p1, z_p2, z_k, List.headD, List.tail]
      refine z_iinc hX (1) (by decide) rfl (by decide) d8_wholeOf_23 ?_
      dsimp only [z_p1, z_p2, z_k, List.headD, List.tail]
      refine z_goto hX 5 d8_wholeOf_26 (by decide) ?_
      rw [nI_1]
      exact ih (i + 1) (by omega)
  refine z_lconst hX 0 d8_wholeOf_0 (by decide) ?_
  refine z_lstore_n hX 2 rfl (by decide) d8_wholeOf_1 ?_
  dsimp only [z_p1, z_p2, z_k, List.headD, List.tail]
  refine z_iconst hX (0) d8_wholeOf_2 (by decide) ?_
  refine z_istore hX (by decide) d8_wholeOf_3 ?_
  dsimp only [z_p1, z_p2, z_k, List.headD, List.tail]
  exact loop 364 0 (by omega)
def S8_isUsed : z_PT := fun as P nx K => ∃ (iv : Nat → Int32) (h : Nat → Bool) (a : Nat → Nat → Int32) (ld : Nat → Int64) (r d : Nat), as = [.ref 70, .int (nI r), .int (nI d)] ∧ z_in (zM iv h a ld) P ∧ (r < 12) ∧ (d < 364) ∧ K (some (.int (zb (mUsed h a r d)))) P nx
set_option maxRecDepth 4000 in
theorem sp8_isUsed (l : Launch) : z_Sp l M8_isUsed rM8_isUsed S8_isUsed := by
  refine z_enter (by decide) (fun as P nx K h => ?_) (fun X K as P nx hX hE hin0 hS => ?_)
  · obtain ⟨iv, h, a, ld, r, d, rfl, -⟩ := h
    exact Nat.le_of_ble_eq_true rfl
  obtain ⟨iv, h, a, ld, r, d, rfl, hM, p1, p2, hK⟩ := hS
  show z_W X 0 [some (.ref 70), some (.int (nI r)), some (.int (nI d))] [] P nx 0 0
  have e1 : (364 : Int32) * nI r + nI d = nI (364 * r + d) := nI_ml 364 r d
  refine z_aload_n hX d8_isUsed_0 rfl ?_
  refine z_get hX lf_8_36 (hM _ _ rfl) rfl d8_isUsed_1 ?_
  refine z_sipush hX (364) d8_isUsed_4 (by decide) ?_
  refine z_iload_n hX d8_isUsed_7 rfl ?_
  refine z_imul hX d8_isUsed_8 ?_
  refine z_iload_n hX d8_isUsed_9 rfl ?_
  refine z_iadd hX d8_isUsed_10 ?_
  refine z_iald hX (hM _ _ rfl) (ix_in e1 (by omega) (by decide)) d8_isUsed_11 ?_
  rw [ix_c e1 (by omega)]
  refine z_iconst hX (-1) d8_isUsed_12 (by decide) ?_
  refine z_icmp_eq hX 29 d8_isUsed_13 (by decide) (fun h13 => ?_) (fun h13 => ?_)
  · skip
    refine z_iconst hX (0) d8_isUsed_29 (by decide) ?_
    refine z_zret hX hE (by decide) (by decide) (by decide) d8_isUsed_30 ?_
    first | (refine zK0 hK ?_; simp [mUsed, h13, h22]; done) | (refine zK1 hK ?_; simp [mUsed, h13, h22]; done) | (refine zK0 hK ?_; simp [mUsed, h13]; done)
  · skip
    refine z_aload_n hX d8_isUsed_16 rfl ?_
    refine z_get hX lf_8_13 (hM _ _ rfl) rfl d8_isUsed_17 ?_
    refine z_iload_n hX d8_isUsed_20 rfl ?_
    refine z_zald hX (hM _ _ rfl) (vp_in_nI p2 (by decide)) d8_isUsed_21 ?_
    rw [nI_clamp (show d < 2 ^ 31 by omega)]
    refine z_ifb_ne hX 29 d8_isUsed_22 (by decide) (fun h22 => ?_) (fun h22 => ?_)
    · skip
      refine z_iconst hX (0) d8_isUsed_29 (by decide) ?_
      refine z_zret hX hE (by decide) (by decide) (by decide) d8_isUsed_30 ?_
      first | (refine zK0 hK ?_; simp [mUsed, h13, h22]; done) | (refine zK1 hK ?_; simp [mUsed, h13, h22]; done) | (refine zK0 hK ?_; simp [mUsed, h13]; done)
    · skip
      refine z_iconst hX (1) d8_isUsed_25 (by decide) ?_
      refine z_goto hX 30 d8_isUsed_26 (by decide) ?_
      refine z_zret hX hE (by decide) (by decide) (by decide) d8_isUsed_30 ?_
      first | (refine zK0 hK ?_; simp [mUsed, h13, h22]; done) | (refine zK1 hK ?_; simp [mUsed, h13, h22]; done) | (refine zK0 hK ?_; simp [mUsed, h13]; done)
def S8_usedOf : z_PT := fun as P nx K => ∃ (iv : Nat → Int32) (h : Nat → Bool) (a : Nat → Nat → Int32) (ld : Nat → Int64) (r : Nat), as = [.ref 70, .int (nI r)] ∧ z_in (zM iv h a ld) P ∧ (r < 12) ∧ K (some (.int (nI (zC (mUsed h a r) 364)))) P nx
set_option maxRecDepth 4000 in
theorem sp8_usedOf (l : Launch) : z_Sp l M8_usedOf rM8_usedOf S8_usedOf := by
  refine z_enter (by decide) (fun as P nx K h => ?_) (fun X K as P nx hX hE hin0 hS => ?_)
  · obtain ⟨iv, h, a, ld, r, rfl, -⟩ := h
    exact Nat.le_of_ble_eq_true rfl
  obtain ⟨iv, h, a, ld, r, rfl, hM, p1, hK⟩ := hS
  refine z_pad 2 ?_
  show z_W X 0 [some (.ref 70), some (.int (nI r)), none, none] [] P nx 0 0
  have loop : ∀ (k i : Nat), i + k = 364 → z_W X 4 [some (.ref 70), some (.int (nI r)), some (.int (nI (zC (mUsed h a r) i))), some (.int (nI i))] [] P nx 0 0 := by
    intro k
    induction k with
    | zero =>
      intro i hi
      have hi : i = 364 := by omega
      subst hi
      refine z_iload_n hX d8_usedOf_4 rfl ?_
      refine z_sipush hX (364) d8_usedOf_5 (by decide) ?_
      refine z_icmp_ge hX 34 d8_usedOf_8 (by decide) (fun h8 => ?_) (fun h8 => ?_)
      rotate_left
      · exact absurd (by decide) h8
      refine z_iload_n hX d8_usedOf_34 rfl ?_
      refine z_iret hX hE (by decide) (by decide) d8_usedOf_35 ?_
      exact hK
    | succ k ih =>
      intro i hi
      refine z_iload_n hX d8_usedOf_4 rfl ?_
      refine z_sipush hX (364) d8_usedOf_5 (by decide) ?_
      refine z_icmp_ge hX 34 d8_usedOf_8 (by decide) (fun h8 => ?_) (fun h8 => ?_)
      · exact absurd h8 (nI_ge (b := 364) (by omega) (by decide))
      refine z_iload_n hX d8_usedOf_11 rfl ?_
      refine z_aload_n hX d8_usedOf_12 rfl ?_
      refine z_iload_n hX d8_usedOf_13 rfl ?_
      refine z_iload_n hX d8_usedOf_14 rfl ?_
      refine z_callV2 hX (sp8_isUsed l) lm_8_117 (hM _ _ rfl) ⟨by decide, by decide, by decide, by decide⟩ (Nat.le_of_ble_eq_true rfl) d8_usedOf_15 ?_
      refine ⟨iv, h, a, ld, r, i, rfl, hM, p1, by omega, ?_⟩
      dsimp only [Option.toList, List.cons_append, List.nil_append]
      refine z_ifb_eq hX 25 d8_usedOf_18 (by decide) (fun h18 => ?_) (fun h18 => ?_)
      · skip
        refine z_iconst hX (0) d8_usedOf_25 (by decide) ?_
        refine z_iadd hX d8_usedOf_26 ?_
        refine z_istore_n hX 2 rfl (by decide) d8_usedOf_27 ?_
        dsimp only [z_p1, z_p2, z_k, List.headD, List.tail]
        refine z_iinc hX (1) (by decide) rfl (by decide) d8_usedOf_28 ?_
        dsimp only [z_p1, z_p2, z_k, List.headD, List.tail]
        refine z_goto hX 4 d8_usedOf_31 (by decide) ?_
        have := ih (i + 1) (by omega)
        unfold zC at this
        rw [h18] at this
        simp only [nI_1, Int32.add_zero]
        exact this
      · skip
        refine z_iconst hX (1) d8_usedOf_21 (by decide) ?_
        refine z_goto hX 26 d8_usedOf_22 (by decide) ?_
        refine z_iadd hX d8_usedOf_26 ?_
        refine z_istore_n hX 2 rfl (by decide) d8_usedOf_27 ?_
        dsimp only [z_p1, z_p2, z_k, List.headD, List.tail]
        refine z_iinc hX (1) (by decide) rfl (by decide) d8_usedOf_28 ?_
        dsimp only [z_p1, z_p2, z_k, List.headD, List.tail]
        refine z_goto hX 4 d8_usedOf_31 (by decide) ?_
        have := ih (i + 1) (by omega)
        unfold zC at this
        rw [h18] at this
        simp only [nI_1, Int32.add_zero]
        exact this
  refine z_iconst hX (0) d8_usedOf_0 (by decide) ?_
  refine z_istore_n hX 2 rfl (by decide) d8_usedOf_1 ?_
  dsimp only [z_p1, z_p2, z_k, List.headD, List.tail]
  refine z_iconst hX (0) d8_usedOf_2 (by decide) ?_
  refine z_istore_n hX 3 rfl (by decide) d8_usedOf_3 ?_
  dsimp only [z_p1, z_p2, z_k, List.headD, List.tail]
  exact loop 364 0 (by omega)
def S8_countsOf : z_PT := fun as P nx K => ∃ (iv : Nat → Int32) (h : Nat → Bool) (a : Nat → Nat → Int32) (ld : Nat → Int64) (r : Nat), as = [.ref 70, .int (nI r)] ∧ z_in (zM iv h a ld) P ∧ (r < 12) ∧ K (some (.long (mCounts h a r))) P nx
set_option maxRecDepth 4000 in
theorem sp8_countsOf (l : Launch) : z_Sp l M8_countsOf rM8_countsOf S8_countsOf := by
  refine z_enter (by decide) (fun as P nx K h => ?_) (fun X K as P nx hX hE hin0 hS => ?_)
  · obtain ⟨iv, h, a, ld, r, rfl, -⟩ := h
    exact Nat.le_of_ble_eq_true rfl
  obtain ⟨iv, h, a, ld, r, rfl, hM, p1, hK⟩ := hS
  refine z_pad 3 ?_
  show z_W X 0 [some (.ref 70), some (.int (nI r)), none, none, none] [] P nx 0 0
  have loop : ∀ (k i : Nat), i + k = 364 → z_W X 5 [some (.ref 70), some (.int (nI r)), some (.long (zS (fun d => if mUsed h a r d then (a 79 (364 * r + d)).toInt64 else 0) i)), none, some (.int (nI i))] [] P nx 0 0 := by
    intro k
    induction k with
    | zero =>
      intro i hi
      have hi : i = 364 := by omega
      subst hi
      refine z_iload hX d8_countsOf_5 rfl ?_
      refine z_sipush hX (364) d8_countsOf_7 (by decide) ?_
      refine z_icmp_ge hX 50 d8_countsOf_10 (by decide) (fun h10 => ?_) (fun h10 => ?_)
      rotate_left
      · exact absurd (by decide) h10
      refine z_lload_n hX d8_countsOf_50 rfl ?_
      refine z_lret hX hE (by decide) (by decide) d8_countsOf_51 ?_
      exact hK
    | succ k ih =>
      intro i hi
      have e1 : (364 : Int32) * nI r + nI i = nI (364 * r + i) := nI_ml 364 r i
      have := ih (i + 1) (by omega)
      unfold zS at this
      refine z_iload hX d8_countsOf_5 rfl ?_
      refine z_sipush hX (364) d8_countsOf_7 (by decide) ?_
      refine z_icmp_ge hX 50 d8_countsOf_10 (by decide) (fun h10 => ?_) (fun h10 => ?_)
      · exact absurd h10 (nI_ge (b := 364) (by omega) (by decide))
      refine z_lload_n hX d8_countsOf_13 rfl ?_
      refine z_aload_n hX d8_countsOf_14 rfl ?_
      refine z_iload_n hX d8_countsOf_15 rfl ?_
      refine z_iload hX d8_countsOf_16 rfl ?_
      refine z_callV2 hX (sp8_isUsed l) lm_8_117 (hM _ _ rfl) ⟨by decide, by decide, by decide, by decide⟩ (Nat.le_of_ble_eq_true rfl) d8_countsOf_18 ?_
      refine ⟨iv, h, a, ld, r, i, rfl, hM, p1, by omega, ?_⟩
      dsimp only [Option.toList, List.cons_append, List.nil_append]
      refine z_ifb_eq hX 41 d8_countsOf_21 (by decide) (fun h21 => ?_) (fun h21 => ?_)
      · skip
        rw [if_neg (by rw [h21]; decide)] at this
        refine z_lconst hX 0 d8_countsOf_41 (by decide) ?_
        refine z_ladd hX d8_countsOf_42 ?_
        refine z_lstore_n hX 2 rfl (by decide) d8_countsOf_43 ?_
        dsimp only [z_p1, z_p2, z_k, List.headD, List.tail]
        refine z_iinc hX (1) (by decide) rfl (by decide) d8_countsOf_44 ?_
        dsimp only [z_p1, z_p2, z_k, List.headD, List.tail]
        refine z_goto hX 5 d8_countsOf_47 (by decide) ?_
        rw [nI_1]
        exact this
      · skip
        rw [if_pos h21] at this
        refine z_aload_n hX d8_countsOf_24 rfl ?_
        refine z_get hX lf_8_36 (hM _ _ rfl) rfl d8_countsOf_25 ?_
        refine z_sipush hX (364) d8_countsOf_28 (by decide) ?_
        refine z_iload_n hX d8_countsOf_31 rfl ?_
        refine z_imul hX d8_countsOf_32 ?_
        refine z_iload hX d8_countsOf_33 rfl ?_
        refine z_iadd hX d8_countsOf_35 ?_
        refine z_iald hX (hM _ _ rfl) (ix_in e1 (by omega) (by decide)) d8_countsOf_36 ?_
        rw [ix_c e1 (by omega)]
        refine z_i2l hX d8_countsOf_37 ?_
        refine z_goto hX 42 d8_countsOf_38 (by decide) ?_
        refine z_ladd hX d8_countsOf_42 ?_
        refine z_lstore_n hX 2 rfl (by decide) d8_countsOf_43 ?_
        dsimp only [z_p1, z_p2, z_k, List.headD, List.tail]
        refine z_iinc hX (1) (by decide) rfl (by decide) d8_countsOf_44 ?_
        dsimp only [z_p1, z_p2, z_k, List.headD, List.tail]
        refine z_goto hX 5 d8_countsOf_47 (by decide) ?_
        rw [nI_1]
        exact this
  refine z_lconst hX 0 d8_countsOf_0 (by decide) ?_
  refine z_lstore_n hX 2 rfl (by decide) d8_countsOf_1 ?_
  dsimp only [z_p1, z_p2, z_k, List.headD, List.tail]
  refine z_iconst hX (0) d8_countsOf_2 (by decide) ?_
  refine z_istore hX (by decide) d8_countsOf_3 ?_
  dsimp only [z_p1, z_p2, z_k, List.headD, List.tail]
  exact loop 364 0 (by omega)
def S8_sharesOf : z_PT := fun as P nx K => ∃ (iv : Nat → Int32) (h : Nat → Bool) (a : Nat → Nat → Int32) (ld : Nat → Int64) (r s : Nat), as = [.ref 70, .int (nI r), .int (nI s)] ∧ z_in (zM iv h a ld) P ∧ (r < 12) ∧ (s < 4) ∧ K (some (.long (mShares h a r s))) P nx
set_option maxRecDepth 4000 in
theorem sp8_sharesOf (l : Launch) : z_Sp l M8_sharesOf rM8_sharesOf S8_sharesOf := by
  refine z_enter (by decide) (fun as P nx K h => ?_) (fun X K as P nx hX hE hin0 hS => ?_)
  · obtain ⟨iv, h, a, ld, r, s, rfl, -⟩ := h
    exact Nat.le_of_ble_eq_true rfl
  obtain ⟨iv, h, a, ld, r, s, rfl, hM, p1, p2, hK⟩ := hS
  refine z_pad 3 ?_
  show z_W X 0 [some (.ref 70), some (.int (nI r)), some (.int (nI s)), none, none, none] [] P nx 0 0
  have loop : ∀ (k i : Nat), i + k = 364 → z_W X 5 [some (.ref 70), some (.int (nI r)), some (.int (nI s)), some (.long (zS (fun d => if mUsed h a r d then mShare h a s d else 0) i)), none, some (.int (nI i))] [] P nx 0 0 := by
    intro k
    induction k with
    | zero =>
      intro i hi
      have hi : i = 364 := by omega
      subst hi
      refine z_iload hX d8_sharesOf_5 rfl ?_
      refine z_sipush hX (364) d8_sharesOf_7 (by decide) ?_
      refine z_icmp_ge hX 43 d8_sharesOf_10 (by decide) (fun h10 => ?_) (fun h10 => ?_)
      rotate_left
      · exact absurd (by decide) h10
      refine z_lload_n hX d8_sharesOf_43 rfl ?_
      refine z_lret hX hE (by decide) (by decide) d8_sharesOf_44 ?_
      exact hK
    | succ k ih =>
      intro i hi
      have := ih (i + 1) (by omega)
      unfold zS at this
      refine z_iload hX d8_sharesOf_5 rfl ?_
      refine z_sipush hX (364) d8_sharesOf_7 (by decide) ?_
      refine z_icmp_ge hX 43 d8_sharesOf_10 (by decide) (fun h10 => ?_) (fun h10 => ?_)
      · exact absurd h10 (nI_ge (b := 364) (by omega) (by decide))
      refine z_lload_n hX d8_sharesOf_13 rfl ?_
      refine z_aload_n hX d8_sharesOf_14 rfl ?_
      refine z_iload_n hX d8_sharesOf_15 rfl ?_
      refine z_iload hX d8_sharesOf_16 rfl ?_
      refine z_callV2 hX (sp8_isUsed l) lm_8_117 (hM _ _ rfl) ⟨by decide, by decide, by decide, by decide⟩ (Nat.le_of_ble_eq_true rfl) d8_sharesOf_18 ?_
      refine ⟨iv, h, a, ld, r, i, rfl, hM, p1, by omega, ?_⟩
      dsimp only [Option.toList, List.cons_append, List.nil_append]
      refine z_ifb_eq hX 34 d8_sharesOf_21 (by decide) (fun h21 => ?_) (fun h21 => ?_)
      · skip
        rw [if_neg (by rw [h21]; decide)] at this
        refine z_lconst hX 0 d8_sharesOf_34 (by decide) ?_
        refine z_ladd hX d8_sharesOf_35 ?_
        refine z_lstore_n hX 3 rfl (by decide) d8_sharesOf_36 ?_
        dsimp only [z_p1, z_p2, z_k, List.headD, List.tail]
        refine z_iinc hX (1) (by decide) rfl (by decide) d8_sharesOf_37 ?_
        dsimp only [z_p1, z_p2, z_k, List.headD, List.tail]
        refine z_goto hX 5 d8_sharesOf_40 (by decide) ?_
        rw [nI_1]
        exact this
      · skip
        rw [if_pos h21] at this
        refine z_aload_n hX d8_sharesOf_24 rfl ?_
        refine z_iload_n hX d8_sharesOf_25 rfl ?_
        refine z_iload hX d8_sharesOf_26 rfl ?_
        refine z_callV2 hX (sp8_share l) lm_8_95 (hM _ _ rfl) ⟨by decide, by decide, by decide, by decide⟩ (Nat.le_of_ble_eq_true rfl) d8_sharesOf_28 ?_
        refine ⟨iv, h, a, ld, s, i, rfl, hM, p2, by omega, ?_⟩
        dsimp only [Option.toList, List.cons_append, List.nil_append]
        refine z_goto hX 35 d8_sharesOf_31 (by decide) ?_
        refine z_ladd hX d8_sharesOf_35 ?_
        refine z_lstore_n hX 3 rfl (by decide) d8_sharesOf_36 ?_
        dsimp only [z_p1, z_p2, z_k, List.headD, List.tail]
        refine z_iinc hX (1) (by decide) rfl (by decide) d8_sharesOf_37 ?_
        dsimp only [z_p1, z_p2, z_k, List.headD, List.tail]
        refine z_goto hX 5 d8_sharesOf_40 (by decide) ?_
        rw [nI_1]
        exact this
  refine z_lconst hX 0 d8_sharesOf_0 (by decide) ?_
  refine z_lstore_n hX 3 rfl (by decide) d8_sharesOf_1 ?_
  dsimp only [z_p1, z_p2, z_k, List.headD, List.tail]
  refine z_iconst hX (0) d8_sharesOf_2 (by decide) ?_
  refine z_istore hX (by decide) d8_sharesOf_3 ?_
  dsimp only [z_p1, z_p2, z_k, List.headD, List.tail]
  exact loop 364 0 (by omega)
def mYear (h : Nat → Bool) (a : Nat → Nat → Int32) (r s : Nat) : Int64 := mCounts h a r * mWhole h a s / mShares h a r s
def S8_yearOf : z_PT := fun as P nx K => ∃ (iv : Nat → Int32) (h : Nat → Bool) (a : Nat → Nat → Int32) (ld : Nat → Int64) (r s : Nat), as = [.ref 70, .int (nI r)] ∧ z_in (zM iv h a ld) P ∧ (r < 12) ∧ (s < 4) ∧ (a 78 r = nI s) ∧ (¬ mShares h a r s = 0) ∧ K (some (.long (mYear h a r s))) P nx
set_option maxRecDepth 4000 in
theorem sp8_yearOf (l : Launch) : z_Sp l M8_yearOf rM8_yearOf S8_yearOf := by
  refine z_enter (by decide) (fun as P nx K h => ?_) (fun X K as P nx hX hE hin0 hS => ?_)
  · obtain ⟨iv, h, a, ld, r, s, rfl, -⟩ := h
    exact Nat.le_of_ble_eq_true rfl
  obtain ⟨iv, h, a, ld, r, s, rfl, hM, p1, p2, p3, p4, hK⟩ := hS
  show z_W X 0 [some (.ref 70), some (.int (nI r))] [] P nx 0 0
  refine z_aload_n hX d8_yearOf_0 rfl ?_
  refine z_iload_n hX d8_yearOf_1 rfl ?_
  refine z_callV1 hX (sp8_countsOf l) lm_8_121 (hM _ _ rfl) ⟨by decide, by decide, by decide, by decide⟩ (Nat.le_of_ble_eq_true rfl) d8_yearOf_2 ?_
  refine ⟨iv, h, a, ld, r, rfl, hM, p1, ?_⟩
  dsimp only [Option.toList, List.cons_append, List.nil_append]
  refine z_aload_n hX d8_yearOf_5 rfl ?_
  refine z_aload_n hX d8_yearOf_6 rfl ?_
  refine z_get hX lf_8_33 (hM _ _ rfl) rfl d8_yearOf_7 ?_
  refine z_iload_n hX d8_yearOf_10 rfl ?_
  refine z_iald hX (hM _ _ rfl) (vp_in_nI p1 (by decide)) d8_yearOf_11 ?_
  rw [nI_clamp (show r < 2 ^ 31 by omega), p3]
  refine z_callV1 hX (sp8_wholeOf l) lm_8_99 (hM _ _ rfl) ⟨by decide, by decide, by decide, by decide⟩ (Nat.le_of_ble_eq_true rfl) d8_yearOf_12 ?_
  refine ⟨iv, h, a, ld, s, rfl, hM, p2, ?_⟩
  dsimp only [Option.toList, List.cons_append, List.nil_append]
  refine z_lmul hX d8_yearOf_15 ?_
  refine z_aload_n hX d8_yearOf_16 rfl ?_
  refine z_iload_n hX d8_yearOf_17 rfl ?_
  refine z_aload_n hX d8_yearOf_18 rfl ?_
  refine z_get hX lf_8_33 (hM _ _ rfl) rfl d8_yearOf_19 ?_
  refine z_iload_n hX d8_yearOf_22 rfl ?_
  refine z_iald hX (hM _ _ rfl) (vp_in_nI p1 (by decide)) d8_yearOf_23 ?_
  rw [nI_clamp (show r < 2 ^ 31 by omega), p3]
  refine z_callV2 hX (sp8_sharesOf l) lm_8_124 (hM _ _ rfl) ⟨by decide, by decide, by decide, by decide⟩ (Nat.le_of_ble_eq_true rfl) d8_yearOf_24 ?_
  refine ⟨iv, h, a, ld, r, s, rfl, hM, p1, p2, ?_⟩
  dsimp only [Option.toList, List.cons_append, List.nil_append]
  refine z_ldiv hX d8_yearOf_27 p4 ?_
  refine z_lret hX hE (by decide) (by decide) d8_yearOf_28 ?_
  exact hK
end
section
/-! the model's answers by counts -/
def mOff (h : Nat → Bool) (a : Nat → Nat → Int32) (r s d : Nat) : Int64 := (a 79 (364 * r + d)).toInt64 * mShares h a r s - mShare h a s d * mCounts h a r
def mMisfit (h : Nat → Bool) (a : Nat → Nat → Int32) (r s : Nat) : Int64 := zS (fun d => if mUsed h a r d then (if mOff h a r s d < 0 then -mOff h a r s d else mOff h a r s d) else 0) 364
def S8_misfit : z_PT := fun as P nx K => ∃ (iv : Nat → Int32) (h : Nat → Bool) (a : Nat → Nat → Int32) (ld : Nat → Int64) (r s : Nat), as = [.ref 70, .int (nI r), .int (nI s)] ∧ z_in (zM iv h a ld) P ∧ (r < 12) ∧ (s < 4) ∧ K (some (.long (mMisfit h a r s))) P nx
set_option maxRecDepth 4000 in
theorem sp8_misfit (l : Launch) : z_Sp l M8_misfit rM8_misfit S8_misfit := by
  refine z_enter (by decide) (fun as P nx K h => ?_) (fun X K as P nx hX hE hin0 hS => ?_)
  · obtain ⟨iv, h, a, ld, r, s, rfl, -⟩ := h
    exact Nat.le_of_ble_eq_true rfl
  obtain ⟨iv, h, a, ld, r, s, rfl, hM, p1, p2, hK⟩ := hS
  refine z_pad 7 ?_
  show z_W X 0 [some (.ref 70), some (.int (nI r)), some (.int (nI s)), none, none, none, none, none, none, none] [] P nx 0 0
  have loop : ∀ (k i : Nat), i + k = 364 → z_W X 20 [some (.ref 70), some (.int (nI r)), some (.int (nI s)), some (.long (mShares h a r s)), none, some (.long (mCounts h a r)), none, some (.long (zS (fun d => if mUsed h a r d then (if mOff h a r s d < 0 then -mOff h a r s d else mOff h a r s d) else 0) i)), none, some (.int (nI i))] [] P nx 0 0 := by
    intro k
    induction k with
    | zero =>
      intro i hi
      have hi : i = 364 := by omega
      subst hi
      refine z_iload hX d8_misfit_20 rfl ?_
      refine z_sipush hX (364) d8_misfit_22 (by decide) ?_
      refine z_icmp_ge hX 83 d8_misfit_25 (by decide) (fun h25 => ?_) (fun h25 => ?_)
      rotate_left
      · exact absurd (by decide) h25
      refine z_lload hX d8_misfit_83 rfl ?_
      refine z_lret hX hE (by decide) (by decide) d8_misfit_85 ?_
      exact hK
    | succ k ih =>
      intro i hi
      have e1 : (364 : Int32) * nI r + nI i = nI (364 * r + i) := nI_ml 364 r i
      have := ih (i + 1) (by omega)
      unfold zS at this
      refine z_iload hX d8_misfit_20 rfl ?_
      refine z_sipush hX (364) d8_misfit_22 (by decide) ?_
      refine z_icmp_ge hX 83 d8_misfit_25 (by decide) (fun h25 => ?_) (fun h25 => ?_)
      · exact absurd h25 (nI_ge (b := 364) (by omega) (by decide))
      refine z_lload hX d8_misfit_28 rfl ?_
      refine z_aload_n hX d8_misfit_30 rfl ?_
      refine z_iload_n hX d8_misfit_31 rfl ?_
      refine z_iload hX d8_misfit_32 rfl ?_
      refine z_callV2 hX (sp8_isUsed l) lm_8_117 (hM _ _ rfl) ⟨by decide, by decide, by decide, by decide⟩ (Nat.le_of_ble_eq_true rfl) d8_misfit_34 ?_
      refine ⟨iv, h, a, ld, r, i, rfl, hM, p1, by omega, ?_⟩
      dsimp only [Option.toList, List.cons_append, List.nil_append]
      refine z_ifb_eq hX 73 d8_misfit_37 (by decide) (fun h37 => ?_) (fun h37 => ?_)
      · skip
        rw [if_neg (by rw [h37]; decide)] at this
        refine z_lconst hX 0 d8_misfit_73 (by decide) ?_
        refine z_ladd hX d8_misfit_74 ?_
        refine z_lstore hX (by decide) d8_misfit_75 ?_
        dsimp only [z_p1, z_p2, z_k, List.headD, List.tail]
        refine z_iinc hX (1) (by decide) rfl (by decide) d8_misfit_77 ?_
        dsimp only [z_p1, z_p2, z_k, List.headD, List.tail]
        refine z_goto hX 20 d8_misfit_80 (by decide) ?_
        rw [nI_1]
        exact this
      · skip
        rw [if_pos h37] at this
        refine z_aload_n hX d8_misfit_40 rfl ?_
        refine z_get hX lf_8_36 (hM _ _ rfl) rfl d8_misfit_41 ?_
        refine z_sipush hX (364) d8_misfit_44 (by decide) ?_
        refine z_iload_n hX d8_misfit_47 rfl ?_
        refine z_imul hX d8_misfit_48 ?_
        refine z_iload hX d8_misfit_49 rfl ?_
        refine z_iadd hX d8_misfit_51 ?_
        refine z_iald hX (hM _ _ rfl) (ix_in e1 (by omega) (by decide)) d8_misfit_52 ?_
        rw [ix_c e1 (by omega)]
        refine z_i2l hX d8_misfit_53 ?_
        refine z_lload_n hX d8_misfit_54 rfl ?_
        refine z_lmul hX d8_misfit_55 ?_
        refine z_aload_n hX d8_misfit_56 rfl ?_
        refine z_iload_n hX d8_misfit_57 rfl ?_
        refine z_iload hX d8_misfit_58 rfl ?_
        refine z_callV2 hX (sp8_share l) lm_8_95 (hM _ _ rfl) ⟨by decide, by decide, by decide, by decide⟩ (Nat.le_of_ble_eq_true rfl) d8_misfit_60 ?_
        refine ⟨iv, h, a, ld, s, i, rfl, hM, p2, by omega, ?_⟩
        dsimp only [Option.toList, List.cons_append, List.nil_append]
        refine z_lload hX d8_misfit_63 rfl ?_
        refine z_lmul hX d8_misfit_65 ?_
        refine z_lsub hX d8_misfit_66 ?_
        refine z_callS1 hX (sp8_size l) lm_8_134 ⟨by decide, by decide, by decide, by decide⟩ (Nat.le_of_ble_eq_true rfl) d8_misfit_67 ?_
        refine ⟨_, rfl, ?_⟩
        dsimp only [Option.toList, List.cons_append, List.nil_append]
        refine z_goto hX 74 d8_misfit_70 (by decide) ?_
        refine z_ladd hX d8_misfit_74 ?_
        refine z_lstore hX (by decide) d8_misfit_75 ?_
        dsimp only [z_p1, z_p2, z_k, List.headD, List.tail]
        refine z_iinc hX (1) (by decide) rfl (by decide) d8_misfit_77 ?_
        dsimp only [z_p1, z_p2, z_k, List.headD, List.tail]
        refine z_goto hX 20 d8_misfit_80 (by decide) ?_
        rw [nI_1]
        exact this
  refine z_aload_n hX d8_misfit_0 rfl ?_
  refine z_iload_n hX d8_misfit_1 rfl ?_
  refine z_iload_n hX d8_misfit_2 rfl ?_
  refine z_callV2 hX (sp8_sharesOf l) lm_8_124 (hM _ _ rfl) ⟨by decide, by decide, by decide, by decide⟩ (Nat.le_of_ble_eq_true rfl) d8_misfit_3 ?_
  refine ⟨iv, h, a, ld, r, s, rfl, hM, p1, p2, ?_⟩
  dsimp only [Option.toList, List.cons_append, List.nil_append]
  refine z_lstore_n hX 3 rfl (by decide) d8_misfit_6 ?_
  dsimp only [z_p1, z_p2, z_k, List.headD, List.tail]
  refine z_aload_n hX d8_misfit_7 rfl ?_
  refine z_iload_n hX d8_misfit_8 rfl ?_
  refine z_callV1 hX (sp8_countsOf l) lm_8_121 (hM _ _ rfl) ⟨by decide, by decide, by decide, by decide⟩ (Nat.le_of_ble_eq_true rfl) d8_misfit_9 ?_
  refine ⟨iv, h, a, ld, r, rfl, hM, p1, ?_⟩
  dsimp only [Option.toList, List.cons_append, List.nil_append]
  refine z_lstore hX (by decide) d8_misfit_12 ?_
  dsimp only [z_p1, z_p2, z_k, List.headD, List.tail]
  refine z_lconst hX 0 d8_misfit_14 (by decide) ?_
  refine z_lstore hX (by decide) d8_misfit_15 ?_
  dsimp only [z_p1, z_p2, z_k, List.headD, List.tail]
  refine z_iconst hX (0) d8_misfit_17 (by decide) ?_
  refine z_istore hX (by decide) d8_misfit_18 ?_
  dsimp only [z_p1, z_p2, z_k, List.headD, List.tail]
  exact loop 364 0 (by omega)
/-- a number of roads, and each road's shape is one -/
def mWf (iv : Nat → Int32) (h : Nat → Bool) (a : Nat → Nat → Int32) (n : Nat) (sh : Nat → Nat) : Prop := iv 2 = nI n ∧ n ≤ 12 ∧ (∀ r, r < 12 → a 78 r = nI (sh r) ∧ sh r < 4) ∧ (∀ r s, r < n → s < 4 → 0 < zC (mUsed h a r) 364 → ¬ mShares h a r s = 0) ∧ ∀ s d, s < 4 → d < 364 → ¬ mShare h a s d = 0
def S8_whole : z_PT := fun as P nx K => ∃ (iv : Nat → Int32) (h : Nat → Bool) (a : Nat → Nat → Int32) (ld : Nat → Int64) (s : Int32), as = [.ref 70, .int s] ∧ z_in (zM iv h a ld) P ∧ K (some (.long (if 0 ≤ s.toInt ∧ s.toInt < 4 then mWhole h a s.toInt.toNat else -1))) P nx
set_option maxRecDepth 4000 in
theorem sp8_whole (l : Launch) : z_Sp l M8_whole rM8_whole S8_whole := by
  refine z_enter (by decide) (fun as P nx K h => ?_) (fun X K as P nx hX hE hin0 hS => ?_)
  · obtain ⟨iv, h, a, ld, s, rfl, -⟩ := h
    exact Nat.le_of_ble_eq_true rfl
  obtain ⟨iv, h, a, ld, s, rfl, hM, hK⟩ := hS
  show z_W X 0 [some (.ref 70), some (.int s)] [] P nx 0 0
  refine z_iload_n hX d8_whole_0 rfl ?_
  refine z_callS1 hX (sp8_isShape l) lm_8_80 ⟨by decide, by decide, by decide, by decide⟩ (Nat.le_of_ble_eq_true rfl) d8_whole_1 ?_
  refine ⟨_, rfl, ?_⟩
  dsimp only [Option.toList, List.cons_append, List.nil_append]
  refine z_ifb_eq hX 15 d8_whole_4 (by decide) (fun h4 => ?_) (fun h4 => ?_)
  · skip
    rw [decide_eq_false_iff_not] at h4
    rw [if_neg h4] at hK
    refine z_ldc2 hX (-1) d8_whole_15 lk_8_103 ?_
    refine z_lret hX hE (by decide) (by decide) d8_whole_18 ?_
    exact hK
  · skip
    rw [decide_eq_true_eq] at h4
    rw [if_pos h4] at hK
    obtain ⟨j, hj, rfl⟩ := nI_rng (n := 4) h4.1 h4.2
    rw [show (nI j).toInt.toNat = j by rw [nI_toInt (by omega)]; rfl] at hK
    refine z_aload_n hX d8_whole_7 rfl ?_
    refine z_iload_n hX d8_whole_8 rfl ?_
    refine z_callV1 hX (sp8_wholeOf l) lm_8_99 (hM _ _ rfl) ⟨by decide, by decide, by decide, by decide⟩ (Nat.le_of_ble_eq_true rfl) d8_whole_9 ?_
    refine ⟨iv, h, a, ld, j, rfl, hM, hj, ?_⟩
    dsimp only [Option.toList, List.cons_append, List.nil_append]
    refine z_goto hX 18 d8_whole_12 (by decide) ?_
    refine z_lret hX hE (by decide) (by decide) d8_whole_18 ?_
    exact hK
def S8_year : z_PT := fun as P nx K => ∃ (iv : Nat → Int32) (h : Nat → Bool) (a : Nat → Nat → Int32) (ld : Nat → Int64) (n : Nat) (sh : Nat → Nat) (r : Int32), as = [.ref 70, .int r] ∧ z_in (zM iv h a ld) P ∧ (mWf iv h a n sh) ∧ K (some (.long (if 0 ≤ r.toInt ∧ r.toInt < n ∧ 0 < zC (mUsed h a r.toInt.toNat) 364 then mYear h a r.toInt.toNat (sh r.toInt.toNat) else -1))) P nx
set_option maxRecDepth 4000 in
theorem sp8_year (l : Launch) : z_Sp l M8_year rM8_year S8_year := by
  refine z_enter (by decide) (fun as P nx K h => ?_) (fun X K as P nx hX hE hin0 hS => ?_)
  · obtain ⟨iv, h, a, ld, n, sh, r, rfl, -⟩ := h
    exact Nat.le_of_ble_eq_true rfl
  obtain ⟨iv, h, a, ld, n, sh, r, rfl, hM, p1, hK⟩ := hS
  show z_W X 0 [some (.ref 70), some (.int r)] [] P nx 0 0
  obtain ⟨w1, w2, w3, w4, w5⟩ := p1
  refine z_aload_n hX d8_year_0 rfl ?_
  refine z_iload_n hX d8_year_1 rfl ?_
  refine z_callV1 hX (sp8_isRoad l) lm_8_112 (hM _ _ rfl) ⟨by decide, by decide, by decide, by decide⟩ (Nat.le_of_ble_eq_true rfl) d8_year_2 ?_
  refine ⟨iv, h, a, ld, n, r, rfl, hM, w1, w2, ?_⟩
  dsimp only [Option.toList, List.cons_append, List.nil_append]
  refine z_ifb_eq hX 24 d8_year_5 (by decide) (fun h5 => ?_) (fun h5 => ?_)
  · skip
    rw [decide_eq_false_iff_not] at h5
    rw [if_neg (fun q => h5 ⟨q.1, q.2.1⟩)] at hK
    refine z_ldc2 hX (-1) d8_year_24 lk_8_103 ?_
    refine z_lret hX hE (by decide) (by decide) d8_year_27 ?_
    exact hK
  · skip
    rw [decide_eq_true_eq] at h5
    obtain ⟨j, hj, rfl⟩ := nI_rng (n := n) h5.1 h5.2
    rw [show (nI j).toInt.toNat = j by rw [nI_toInt (by omega)]; rfl] at hK
    refine z_aload_n hX d8_year_8 rfl ?_
    refine z_iload_n hX d8_year_9 rfl ?_
    refine z_callV1 hX (sp8_usedOf l) lm_8_127 (hM _ _ rfl) ⟨by decide, by decide, by decide, by decide⟩ (Nat.le_of_ble_eq_true rfl) d8_year_10 ?_
    refine ⟨iv, h, a, ld, j, rfl, hM, by omega, ?_⟩
    dsimp only [Option.toList, List.cons_append, List.nil_append]
    refine z_if_le hX 24 d8_year_13 (by decide) (fun h13 => ?_) (fun h13 => ?_)
    · skip
      have hc := zC_le (mUsed h a j) 364
      rw [i_le, nI_toInt (by omega), show (0 : Int32).toInt = 0 from rfl] at h13
      rw [if_neg (by omega)] at hK
      refine z_ldc2 hX (-1) d8_year_24 lk_8_103 ?_
      refine z_lret hX hE (by decide) (by decide) d8_year_27 ?_
      exact hK
    · skip
      have hc := zC_le (mUsed h a j) 364
      rw [i_le, nI_toInt (by omega), show (0 : Int32).toInt = 0 from rfl] at h13
      rw [if_pos ⟨h5.1, h5.2, by omega⟩] at hK
      refine z_aload_n hX d8_year_16 rfl ?_
      refine z_iload_n hX d8_year_17 rfl ?_
      refine z_callV1 hX (sp8_yearOf l) lm_8_131 (hM _ _ rfl) ⟨by decide, by decide, by decide, by decide⟩ (Nat.le_of_ble_eq_true rfl) d8_year_18 ?_
      refine ⟨iv, h, a, ld, j, sh j, rfl, hM, by omega, (w3 j (by omega)).2, (w3 j (by omega)).1, w4 j (sh j) hj (w3 j (by omega)).2 (by omega), ?_⟩
      dsimp only [Option.toList, List.cons_append, List.nil_append]
      refine z_goto hX 27 d8_year_21 (by decide) ?_
      refine z_lret hX hE (by decide) (by decide) d8_year_27 ?_
      exact hK
end
section
/-! the model's setters, span, best -/
def mRng (x : Int32) (lo hi : Int) : Prop := lo ≤ x.toInt ∧ x.toInt ≤ hi
theorem tN {j n : Nat} (h : j < n) (hn : n < 2 ^ 31) : (nI j).toInt.toNat = j := by rw [nI_toInt (by omega)]; rfl
theorem nI_r {x : Int32} {lo hi : Int} (h : lo ≤ x.toInt ∧ x.toInt ≤ hi) (h0 : 0 ≤ lo) : ∃ j : Nat, (j : Int) ≤ hi ∧ lo ≤ (j : Int) ∧ x = nI j ∧ x.toInt.toNat = j ∧ x.toInt = j := by
  have := z32 x
  refine ⟨x.toInt.toNat, by omega, by omega, Int32.toInt_inj.mp ?_, rfl, by omega⟩
  rw [nI_toInt (by omega)]
  omega
def mOkW (s d n : Int32) : Bool := decide (0 ≤ s.toInt ∧ s.toInt < 4) && (decide (0 ≤ d.toInt ∧ d.toInt ≤ 6) && decide (1 ≤ n.toInt ∧ n.toInt ≤ 99))
def mWd (a : Nat → Nat → Int32) (s d n : Int32) : Nat → Nat → Int32 := if mOkW s d n then va_up a 73 (upd (a 73) (7 * s.toInt.toNat + d.toInt.toNat) n) else a
def S8_weekday : z_PT := fun as P nx K => ∃ (iv : Nat → Int32) (h : Nat → Bool) (a : Nat → Nat → Int32) (ld : Nat → Int64) (s d n : Int32), as = [.ref 70, .int s, .int d, .int n] ∧ z_in (zM iv h a ld) P ∧ (∀ P' : z_H, z_in (zM iv h (mWd a s d n) ld) P' → z_out zDm P P' → K (some (.int (zb (mOkW s d n)))) P' nx)
set_option maxRecDepth 4000 in
theorem sp8_weekday (l : Launch) : z_Sp l M8_weekday rM8_weekday S8_weekday := by
  refine z_enter (by decide) (fun as P nx K h => ?_) (fun X K as P nx hX hE hin0 hS => ?_)
  · obtain ⟨iv, h, a, ld, s, d, n, rfl, -⟩ := h
    exact Nat.le_of_ble_eq_true rfl
  obtain ⟨iv, h, a, ld, s, d, n, rfl, hM, hK⟩ := hS
  show z_W X 0 [some (.ref 70), some (.int s), some (.int d), some (.int n)] [] P nx 0 0
  have hO : z_out zDm P P := z_out.rf
  refine z_iload_n hX d8_weekday_0 rfl ?_
  refine z_callS1 hX (sp8_isShape l) lm_8_80 ⟨by decide, by decide, by decide, by decide⟩ (Nat.le_of_ble_eq_true rfl) d8_weekday_1 ?_
  refine ⟨_, rfl, ?_⟩
  dsimp only [Option.toList, List.cons_append, List.nil_append]
  refine z_ifb_eq hX 31 d8_weekday_4 (by decide) (fun h4 => ?_) (fun h4 => ?_)
  · skip
    refine z_iconst hX (0) d8_weekday_31 (by decide) ?_
    refine z_zret hX hE (by decide) (by decide) (by decide) d8_weekday_32 ?_
    have e : mOkW s d n = false := by unfold mOkW; first | (rw [h4]; rfl) | (rw [h16]; simp; done) | (rw [h28]; simp; done)
    exact zK0 (hK P (by unfold mWd; rw [e]; exact hM) hO) e
  · skip
    refine z_iload_n hX d8_weekday_7 rfl ?_
    refine z_i2l hX d8_weekday_8 ?_
    refine z_lconst hX 0 d8_weekday_9 (by decide) ?_
    refine z_ldc2 hX (6) d8_weekday_10 lk_8_84 ?_
    refine z_callS3 hX (sp8_lies l) lm_8_74 ⟨by decide, by decide, by decide, by decide⟩ (Nat.le_of_ble_eq_true rfl) d8_weekday_13 ?_
    refine ⟨_, _, _, rfl, ?_⟩
    rw [i2l_t, show (0 : Int64).toInt = 0 from rfl, show (6 : Int64).toInt = 6 from rfl]
    dsimp only [Option.toList, List.cons_append, List.nil_append]
    refine z_ifb_eq hX 31 d8_weekday_16 (by decide) (fun h16 => ?_) (fun h16 => ?_)
    · skip
      refine z_iconst hX (0) d8_weekday_31 (by decide) ?_
      refine z_zret hX hE (by decide) (by decide) (by decide) d8_weekday_32 ?_
      have e : mOkW s d n = false := by unfold mOkW; first | (rw [h4]; rfl) | (rw [h16]; simp; done) | (rw [h28]; simp; done)
      exact zK0 (hK P (by unfold mWd; rw [e]; exact hM) hO) e
    · skip
      refine z_iload_n hX d8_weekday_19 rfl ?_
      refine z_i2l hX d8_weekday_20 ?_
      refine z_lconst hX 1 d8_weekday_21 (by decide) ?_
      refine z_ldc2 hX (99) d8_weekday_22 lk_8_86 ?_
      refine z_callS3 hX (sp8_lies l) lm_8_74 ⟨by decide, by decide, by decide, by decide⟩ (Nat.le_of_ble_eq_true rfl) d8_weekday_25 ?_
      refine ⟨_, _, _, rfl, ?_⟩
      rw [i2l_t, show (1 : Int64).toInt = 1 from rfl, show (99 : Int64).toInt = 99 from rfl]
      dsimp only [Option.toList, List.cons_append, List.nil_append]
      refine z_ifb_ne hX 33 d8_weekday_28 (by decide) (fun h28 => ?_) (fun h28 => ?_)
      · skip
        have e : mOkW s d n = true := by unfold mOkW; rw [h4, h16, h28]; rfl
        rw [decide_eq_true_eq] at h4 h16 h28
        obtain ⟨s', s1, s2, s3, s4, s5⟩ := nI_r (x := s) (lo := 0) (hi := 3) (by omega) (by omega)
        obtain ⟨d', d1, d2, d3, d4, d5⟩ := nI_r (x := d) (lo := 0) (hi := 6) (by omega) (by omega)
        have e1 : (7 : Int32) * s + d = nI (7 * s' + d') := by rw [s3, d3]; exact nI_ml 7 s' d'
        have g : mWd a s d n = va_up a 73 (upd (a 73) (7 * s' + d') n) := by unfold mWd; rw [e, s4, d4]; rfl
        refine z_aload_n hX d8_weekday_33 rfl ?_
        refine z_get hX lf_8_17 (hM _ _ rfl) rfl d8_weekday_34 ?_
        refine z_bipush hX (7) d8_weekday_37 (by decide) ?_
        refine z_iload_n hX d8_weekday_39 rfl ?_
        refine z_imul hX d8_weekday_40 ?_
        refine z_iload_n hX d8_weekday_41 rfl ?_
        refine z_iadd hX d8_weekday_42 ?_
        refine z_iload_n hX d8_weekday_43 rfl ?_
        refine z_iast hX (hM _ _ rfl) (ix_in e1 (by omega) (by decide)) d8_weekday_44 ?_
        rw [ix_c e1 (by omega)]
        refine z_gen hM hO rfl (fun P hM hO => ?_)
        have hM := zM_s73 hM
        refine z_iconst hX (1) d8_weekday_45 (by decide) ?_
        refine z_zret hX hE (by decide) (by decide) (by decide) d8_weekday_46 ?_
        exact zK1 (hK P (by rw [g]; exact hM) hO) e
      · skip
        refine z_iconst hX (0) d8_weekday_31 (by decide) ?_
        refine z_zret hX hE (by decide) (by decide) (by decide) d8_weekday_32 ?_
        have e : mOkW s d n = false := by unfold mOkW; first | (rw [h4]; rfl) | (rw [h16]; simp; done) | (rw [h28]; simp; done)
        exact zK0 (hK P (by unfold mWd; rw [e]; exact hM) hO) e
def mOkM (s d n : Int32) : Bool := decide (0 ≤ s.toInt ∧ s.toInt < 4) && (decide (0 ≤ d.toInt ∧ d.toInt ≤ 12) && decide (1 ≤ n.toInt ∧ n.toInt ≤ 99))
def mMo (a : Nat → Nat → Int32) (s d n : Int32) : Nat → Nat → Int32 := if mOkM s d n then va_up a 74 (upd (a 74) (13 * s.toInt.toNat + d.toInt.toNat) n) else a
def S8_month : z_PT := fun as P nx K => ∃ (iv : Nat → Int32) (h : Nat → Bool) (a : Nat → Nat → Int32) (ld : Nat → Int64) (s d n : Int32), as = [.ref 70, .int s, .int d, .int n] ∧ z_in (zM iv h a ld) P ∧ (∀ P' : z_H, z_in (zM iv h (mMo a s d n) ld) P' → z_out zDm P P' → K (some (.int (zb (mOkM s d n)))) P' nx)
set_option maxRecDepth 4000 in
theorem sp8_month (l : Launch) : z_Sp l M8_month rM8_month S8_month := by
  refine z_enter (by decide) (fun as P nx K h => ?_) (fun X K as P nx hX hE hin0 hS => ?_)
  · obtain ⟨iv, h, a, ld, s, d, n, rfl, -⟩ := h
    exact Nat.le_of_ble_eq_true rfl
  obtain ⟨iv, h, a, ld, s, d, n, rfl, hM, hK⟩ := hS
  show z_W X 0 [some (.ref 70), some (.int s), some (.int d), some (.int n)] [] P nx 0 0
  have hO : z_out zDm P P := z_out.rf
  refine z_iload_n hX d8_month_0 rfl ?_
  refine z_callS1 hX (sp8_isShape l) lm_8_80 ⟨by decide, by decide, by decide, by decide⟩ (Nat.le_of_ble_eq_true rfl) d8_month_1 ?_
  refine ⟨_, rfl, ?_⟩
  dsimp only [Option.toList, List.cons_append, List.nil_append]
  refine z_ifb_eq hX 31 d8_month_4 (by decide) (fun h4 => ?_) (fun h4 => ?_)
  · skip
    refine z_iconst hX (0) d8_month_31 (by decide) ?_
    refine z_zret hX hE (by decide) (by decide) (by decide) d8_month_32 ?_
    have e : mOkM s d n = false := by unfold mOkM; first | (rw [h4]; rfl) | (rw [h16]; simp; done) | (rw [h28]; simp; done)
    exact zK0 (hK P (by unfold mMo; rw [e]; exact hM) hO) e
  · skip
    refine z_iload_n hX d8_month_7 rfl ?_
    refine z_i2l hX d8_month_8 ?_
    refine z_lconst hX 0 d8_month_9 (by decide) ?_
    refine z_ldc2 hX (12) d8_month_10 lk_8_88 ?_
    refine z_callS3 hX (sp8_lies l) lm_8_74 ⟨by decide, by decide, by decide, by decide⟩ (Nat.le_of_ble_eq_true rfl) d8_month_13 ?_
    refine ⟨_, _, _, rfl, ?_⟩
    rw [i2l_t, show (0 : Int64).toInt = 0 from rfl, show (12 : Int64).toInt = 12 from rfl]
    dsimp only [Option.toList, List.cons_append, List.nil_append]
    refine z_ifb_eq hX 31 d8_month_16 (by decide) (fun h16 => ?_) (fun h16 => ?_)
    · skip
      refine z_iconst hX (0) d8_month_31 (by decide) ?_
      refine z_zret hX hE (by decide) (by decide) (by decide) d8_month_32 ?_
      have e : mOkM s d n = false := by unfold mOkM; first | (rw [h4]; rfl) | (rw [h16]; simp; done) | (rw [h28]; simp; done)
      exact zK0 (hK P (by unfold mMo; rw [e]; exact hM) hO) e
    · skip
      refine z_iload_n hX d8_month_19 rfl ?_
      refine z_i2l hX d8_month_20 ?_
      refine z_lconst hX 1 d8_month_21 (by decide) ?_
      refine z_ldc2 hX (99) d8_month_22 lk_8_86 ?_
      refine z_callS3 hX (sp8_lies l) lm_8_74 ⟨by decide, by decide, by decide, by decide⟩ (Nat.le_of_ble_eq_true rfl) d8_month_25 ?_
      refine ⟨_, _, _, rfl, ?_⟩
      rw [i2l_t, show (1 : Int64).toInt = 1 from rfl, show (99 : Int64).toInt = 99 from rfl]
      dsimp only [Option.toList, List.cons_append, List.nil_append]
      refine z_ifb_ne hX 33 d8_month_28 (by decide) (fun h28 => ?_) (fun h28 => ?_)
      · skip
        have e : mOkM s d n = true := by unfold mOkM; rw [h4, h16, h28]; rfl
        rw [decide_eq_true_eq] at h4 h16 h28
        obtain ⟨s', s1, s2, s3, s4, s5⟩ := nI_r (x := s) (lo := 0) (hi := 3) (by omega) (by omega)
        obtain ⟨d', d1, d2, d3, d4, d5⟩ := nI_r (x := d) (lo := 0) (hi := 12) (by omega) (by omega)
        have e1 : (13 : Int32) * s + d = nI (13 * s' + d') := by rw [s3, d3]; exact nI_ml 13 s' d'
        have g : mMo a s d n = va_up a 74 (upd (a 74) (13 * s' + d') n) := by unfold mMo; rw [e, s4, d4]; rfl
        refine z_aload_n hX d8_month_33 rfl ?_
        refine z_get hX lf_8_21 (hM _ _ rfl) rfl d8_month_34 ?_
        refine z_bipush hX (13) d8_month_37 (by decide) ?_
        refine z_iload_n hX d8_month_39 rfl ?_
        refine z_imul hX d8_month_40 ?_
        refine z_iload_n hX d8_month_41 rfl ?_
        refine z_iadd hX d8_month_42 ?_
        refine z_iload_n hX d8_month_43 rfl ?_
        refine z_iast hX (hM _ _ rfl) (ix_in e1 (by omega) (by decide)) d8_month_44 ?_
        rw [ix_c e1 (by omega)]
        refine z_gen hM hO rfl (fun P hM hO => ?_)
        have hM := zM_s74 hM
        refine z_iconst hX (1) d8_month_45 (by decide) ?_
        refine z_zret hX hE (by decide) (by decide) (by decide) d8_month_46 ?_
        exact zK1 (hK P (by rw [g]; exact hM) hO) e
      · skip
        refine z_iconst hX (0) d8_month_31 (by decide) ?_
        refine z_zret hX hE (by decide) (by decide) (by decide) d8_month_32 ?_
        have e : mOkM s d n = false := by unfold mOkM; first | (rw [h4]; rfl) | (rw [h16]; simp; done) | (rw [h28]; simp; done)
        exact zK0 (hK P (by unfold mMo; rw [e]; exact hM) hO) e
def mOkH (iv : Nat → Int32) (h : Nat → Bool) (d : Int32) : Bool := decide (0 ≤ d.toInt ∧ d.toInt ≤ 363) && (!h d.toInt.toNat && !decide (iv 3 = 20))
def S8_holiday : z_PT := fun as P nx K => ∃ (iv : Nat → Int32) (h : Nat → Bool) (a : Nat → Nat → Int32) (ld : Nat → Int64) (d : Int32), as = [.ref 70, .int d] ∧ z_in (zM iv h a ld) P ∧ (∀ P' : z_H, z_in (zM (if mOkH iv h d then va_up iv 3 (iv 3 + 1) else iv) (if mOkH iv h d then va_up h d.toInt.toNat true else h) a ld) P' → z_out zDm P P' → K (some (.int (zb (mOkH iv h d)))) P' nx)
set_option maxRecDepth 4000 in
theorem sp8_holiday (l : Launch) : z_Sp l M8_holiday rM8_holiday S8_holiday := by
  refine z_enter (by decide) (fun as P nx K h => ?_) (fun X K as P nx hX hE hin0 hS => ?_)
  · obtain ⟨iv, h, a, ld, d, rfl, -⟩ := h
    exact Nat.le_of_ble_eq_true rfl
  obtain ⟨iv, h, a, ld, d, rfl, hM, hK⟩ := hS
  show z_W X 0 [some (.ref 70), some (.int d)] [] P nx 0 0
  have hO : z_out zDm P P := z_out.rf
  refine z_iload_n hX d8_holiday_0 rfl ?_
  refine z_i2l hX d8_holiday_1 ?_
  refine z_lconst hX 0 d8_holiday_2 (by decide) ?_
  refine z_ldc2 hX (363) d8_holiday_3 lk_8_90 ?_
  refine z_callS3 hX (sp8_lies l) lm_8_74 ⟨by decide, by decide, by decide, by decide⟩ (Nat.le_of_ble_eq_true rfl) d8_holiday_6 ?_
  refine ⟨_, _, _, rfl, ?_⟩
  rw [i2l_t, show (0 : Int64).toInt = 0 from rfl, show (363 : Int64).toInt = 363 from rfl]
  dsimp only [Option.toList, List.cons_append, List.nil_append]
  refine z_ifb_eq hX 30 d8_holiday_9 (by decide) (fun h9 => ?_) (fun h9 => ?_)
  · skip
    have e : mOkH iv h d = false := by unfold mOkH; rw [h9]; rfl
    rw [e] at hK
    refine z_iconst hX (0) d8_holiday_30 (by decide) ?_
    refine z_zret hX hE (by decide) (by decide) (by decide) d8_holiday_31 ?_
    exact hK P hM hO
  · skip
    have h9' := of_decide_eq_true h9
    obtain ⟨d', d1, d2, d3, d4, d5⟩ := nI_r (x := d) (lo := 0) (hi := 363) h9' (by omega)
    subst d3
    rw [d4] at hK
    refine z_aload_n hX d8_holiday_12 rfl ?_
    refine z_get hX lf_8_13 (hM _ _ rfl) rfl d8_holiday_13 ?_
    refine z_iload_n hX d8_holiday_16 rfl ?_
    refine z_zald hX (hM _ _ rfl) (vp_in_nI (by omega) (by decide)) d8_holiday_17 ?_
    rw [nI_clamp (by omega)]
    refine z_ifb_ne hX 30 d8_holiday_18 (by decide) (fun h18 => ?_) (fun h18 => ?_)
    · skip
      have e : mOkH iv h (nI d') = false := by unfold mOkH; rw [d4, h18]; simp
      rw [e] at hK
      refine z_iconst hX (0) d8_holiday_30 (by decide) ?_
      refine z_zret hX hE (by decide) (by decide) (by decide) d8_holiday_31 ?_
      exact hK P hM hO
    · skip
      refine z_aload_n hX d8_holiday_21 rfl ?_
      refine z_get hX lf_8_92 (hM _ _ rfl) rfl d8_holiday_22 ?_
      refine z_bipush hX (20) d8_holiday_25 (by decide) ?_
      refine z_icmp_ne hX 32 d8_holiday_27 (by decide) (fun h27 => ?_) (fun h27 => ?_)
      · skip
        have e : mOkH iv h (nI d') = true := by unfold mOkH; rw [h9, d4, h18, decide_eq_false h27]; rfl
        rw [e] at hK
        refine z_aload_n hX d8_holiday_32 rfl ?_
        refine z_get hX lf_8_13 (hM _ _ rfl) rfl d8_holiday_33 ?_
        refine z_iload_n hX d8_holiday_36 rfl ?_
        refine z_iconst hX (1) d8_holiday_37 (by decide) ?_
        refine z_zast hX (hM _ _ rfl) (vp_in_nI (by omega) (by decide)) d8_holiday_38 ?_
        rw [nI_clamp (by omega)]
        refine z_gen hM hO rfl (fun P hM hO => ?_)
        have hM := zM_s72 hM zHol
        refine z_aload_n hX d8_holiday_39 rfl ?_
        refine z_dup hX rfl d8_holiday_40 ?_
        refine z_get hX lf_8_92 (hM _ _ rfl) rfl d8_holiday_41 ?_
        refine z_iconst hX (1) d8_holiday_44 (by decide) ?_
        refine z_iadd hX d8_holiday_45 ?_
        refine z_puti hX lf_8_92 rfl rfl (hM _ _ rfl) (Nat.le_of_ble_eq_true rfl) d8_holiday_46 ?_
        refine z_gen hM hO rfl (fun P hM hO => ?_)
        have hM := zM_i3 hM
        refine z_iconst hX (1) d8_holiday_49 (by decide) ?_
        refine z_zret hX hE (by decide) (by decide) (by decide) d8_holiday_50 ?_
        exact hK P hM hO
      · skip
        have e : mOkH iv h (nI d') = false := by unfold mOkH; rw [decide_eq_true h27]; simp
        rw [e] at hK
        refine z_iconst hX (0) d8_holiday_30 (by decide) ?_
        refine z_zret hX hE (by decide) (by decide) (by decide) d8_holiday_31 ?_
        exact hK P hM hO
def mOkR (iv : Nat → Int32) (f t p : Int32) : Bool := decide (-1 ≤ f.toInt ∧ f.toInt < 8) && (decide (-1 ≤ t.toInt ∧ t.toInt < 8) && (!decide (f = t) && (decide (0 ≤ p.toInt ∧ p.toInt ≤ 9999) && !decide (iv 2 = 12))))
def mRdA (a : Nat → Nat → Int32) (n : Nat) (f t p : Int32) : Nat → Nat → Int32 := va_up (va_up (va_up a 75 (upd (a 75) n f)) 76 (upd (a 76) n t)) 77 (upd (a 77) n p)
def S8_road : z_PT := fun as P nx K => ∃ (iv : Nat → Int32) (h : Nat → Bool) (a : Nat → Nat → Int32) (ld : Nat → Int64) (n : Nat) (f t p : Int32), as = [.ref 70, .int f, .int t, .int p] ∧ z_in (zM iv h a ld) P ∧ (iv 2 = nI n) ∧ (n ≤ 12) ∧ (∀ P' : z_H, z_in (zM (if mOkR iv f t p then va_up iv 2 (nI (n + 1)) else iv) h (if mOkR iv f t p then mRdA a n f t p else a) ld) P' → z_out zDm P P' → K (some (.int (if mOkR iv f t p then nI n else -1))) P' nx)
set_option maxRecDepth 4000 in
theorem sp8_road (l : Launch) : z_Sp l M8_road rM8_road S8_road := by
  refine z_enter (by decide) (fun as P nx K h => ?_) (fun X K as P nx hX hE hin0 hS => ?_)
  · obtain ⟨iv, h, a, ld, n, f, t, p, rfl, -⟩ := h
    exact Nat.le_of_ble_eq_true rfl
  obtain ⟨iv, h, a, ld, n, f, t, p, rfl, hM, p1, p2, hK⟩ := hS
  show z_W X 0 [some (.ref 70), some (.int f), some (.int t), some (.int p)] [] P nx 0 0
  have hO : z_out zDm P P := z_out.rf
  refine z_iload_n hX d8_road_0 rfl ?_
  refine z_callS1 hX (sp8_isEnd l) lm_8_107 ⟨by decide, by decide, by decide, by decide⟩ (Nat.le_of_ble_eq_true rfl) d8_road_1 ?_
  refine ⟨_, rfl, ?_⟩
  dsimp only [Option.toList, List.cons_append, List.nil_append]
  refine z_ifb_eq hX 40 d8_road_4 (by decide) (fun h4 => ?_) (fun h4 => ?_)
  · skip
    refine z_iconst hX (-1) d8_road_40 (by decide) ?_
    refine z_iret hX hE (by decide) (by decide) d8_road_41 ?_
    have e : mOkR iv f t p = false := by
      unfold mOkR
      first | (rw [h4]; rfl) | (rw [h11]; simp; done) | (rw [h16]; simp; done) | (rw [h28]; simp; done) | (rw [h37]; simp; done)
    rw [e] at hK
    exact hK P hM hO
  · skip
    refine z_iload_n hX d8_road_7 rfl ?_
    refine z_callS1 hX (sp8_isEnd l) lm_8_107 ⟨by decide, by decide, by decide, by decide⟩ (Nat.le_of_ble_eq_true rfl) d8_road_8 ?_
    refine ⟨_, rfl, ?_⟩
    dsimp only [Option.toList, List.cons_append, List.nil_append]
    refine z_ifb_eq hX 40 d8_road_11 (by decide) (fun h11 => ?_) (fun h11 => ?_)
    · skip
      refine z_iconst hX (-1) d8_road_40 (by decide) ?_
      refine z_iret hX hE (by decide) (by decide) d8_road_41 ?_
      have e : mOkR iv f t p = false := by
        unfold mOkR
        first | (rw [h4]; rfl) | (rw [h11]; simp; done) | (rw [h16]; simp; done) | (rw [h28]; simp; done) | (rw [h37]; simp; done)
      rw [e] at hK
      exact hK P hM hO
    · skip
      refine z_iload_n hX d8_road_14 rfl ?_
      refine z_iload_n hX d8_road_15 rfl ?_
      refine z_icmp_eq hX 40 d8_road_16 (by decide) (fun h16 => ?_) (fun h16 => ?_)
      · skip
        refine z_iconst hX (-1) d8_road_40 (by decide) ?_
        refine z_iret hX hE (by decide) (by decide) d8_road_41 ?_
        have e : mOkR iv f t p = false := by
          unfold mOkR
          first | (rw [h4]; rfl) | (rw [h11]; simp; done) | (rw [h16]; simp; done) | (rw [h28]; simp; done) | (rw [h37]; simp; done)
        rw [e] at hK
        exact hK P hM hO
      · skip
        refine z_iload_n hX d8_road_19 rfl ?_
        refine z_i2l hX d8_road_20 ?_
        refine z_lconst hX 0 d8_road_21 (by decide) ?_
        refine z_ldc2 hX (9999) d8_road_22 lk_8_110 ?_
        refine z_callS3 hX (sp8_lies l) lm_8_74 ⟨by decide, by decide, by decide, by decide⟩ (Nat.le_of_ble_eq_true rfl) d8_road_25 ?_
        refine ⟨_, _, _, rfl, ?_⟩
        rw [i2l_t, show (0 : Int64).toInt = 0 from rfl, show (9999 : Int64).toInt = 9999 from rfl]
        dsimp only [Option.toList, List.cons_append, List.nil_append]
        refine z_ifb_eq hX 40 d8_road_28 (by decide) (fun h28 => ?_) (fun h28 => ?_)
        · skip
          refine z_iconst hX (-1) d8_road_40 (by decide) ?_
          refine z_iret hX hE (by decide) (by decide) d8_road_41 ?_
          have e : mOkR iv f t p = false := by
            unfold mOkR
            first | (rw [h4]; rfl) | (rw [h11]; simp; done) | (rw [h16]; simp; done) | (rw [h28]; simp; done) | (rw [h37]; simp; done)
          rw [e] at hK
          exact hK P hM hO
        · skip
          refine z_aload_n hX d8_road_31 rfl ?_
          refine z_get hX lf_8_70 (hM _ _ rfl) rfl d8_road_32 ?_
          refine z_bipush hX (12) d8_road_35 (by decide) ?_
          refine z_icmp_ne hX 42 d8_road_37 (by decide) (fun h37 => ?_) (fun h37 => ?_)
          · skip
            have e : mOkR iv f t p = true := by unfold mOkR; rw [h4, h11, h28, decide_eq_false h16, decide_eq_false h37]; rfl
            rw [e] at hK
            have hn : n < 12 := by
              rcases Nat.lt_or_ge n 12 with q | q
              · exact q
              · exact absurd (by rw [p1, show n = 12 by omega]; rfl) h37
            refine z_aload_n hX d8_road_42 rfl ?_
            refine z_get hX lf_8_24 (hM _ _ rfl) rfl d8_road_43 ?_
            refine z_aload_n hX d8_road_46 rfl ?_
            refine z_get hX lf_8_70 (hM _ _ rfl) rfl d8_road_47 ?_
            refine z_iload_n hX d8_road_50 rfl ?_
            refine z_iast hX (hM _ _ rfl) (ix_in p1 hn (by decide)) d8_road_51 ?_
            rw [ix_c p1 (by omega)]
            refine z_gen hM hO rfl (fun P hM hO => ?_)
            have hM := zM_s75 hM
            refine z_aload_n hX d8_road_52 rfl ?_
            refine z_get hX lf_8_27 (hM _ _ rfl) rfl d8_road_53 ?_
            refine z_aload_n hX d8_road_56 rfl ?_
            refine z_get hX lf_8_70 (hM _ _ rfl) rfl d8_road_57 ?_
            refine z_iload_n hX d8_road_60 rfl ?_
            refine z_iast hX (hM _ _ rfl) (ix_in p1 hn (by decide)) d8_road_61 ?_
            rw [ix_c p1 (by omega)]
            refine z_gen hM hO rfl (fun P hM hO => ?_)
            have hM := zM_s76 hM
            refine z_aload_n hX d8_road_62 rfl ?_
            refine z_get hX lf_8_30 (hM _ _ rfl) rfl d8_road_63 ?_
            refine z_aload_n hX d8_road_66 rfl ?_
            refine z_get hX lf_8_70 (hM _ _ rfl) rfl d8_road_67 ?_
            refine z_iload_n hX d8_road_70 rfl ?_
            refine z_iast hX (hM _ _ rfl) (ix_in p1 hn (by decide)) d8_road_71 ?_
            rw [ix_c p1 (by omega)]
            refine z_gen hM hO rfl (fun P hM hO => ?_)
            have hM := zM_s77 hM
            refine z_aload_n hX d8_road_72 rfl ?_
            refine z_dup hX rfl d8_road_73 ?_
            refine z_get hX lf_8_70 (hM _ _ rfl) rfl d8_road_74 ?_
            refine z_iconst hX (1) d8_road_77 (by decide) ?_
            refine z_iadd hX d8_road_78 ?_
            rw [p1, nI_1]
            refine z_puti hX lf_8_70 rfl rfl (hM _ _ rfl) (Nat.le_of_ble_eq_true rfl) d8_road_79 ?_
            refine z_gen hM hO rfl (fun P hM hO => ?_)
            have hM := zM_i2 hM
            refine z_aload_n hX d8_road_82 rfl ?_
            refine z_get hX lf_8_70 (hM _ _ rfl) rfl d8_road_83 ?_
            refine z_iconst hX (1) d8_road_86 (by decide) ?_
            refine z_isub hX d8_road_87 ?_
            refine z_iret hX hE (by decide) (by decide) d8_road_88 ?_
            have g := hK P hM hO
            refine zKe g ?_
            show some (Value.int (nI (n + 1) - 1)) = some (Value.int (nI n))
            rw [nI_pred]
          · skip
            refine z_iconst hX (-1) d8_road_40 (by decide) ?_
            refine z_iret hX hE (by decide) (by decide) d8_road_41 ?_
            have e : mOkR iv f t p = false := by
              unfold mOkR
              first | (rw [h4]; rfl) | (rw [h11]; simp; done) | (rw [h16]; simp; done) | (rw [h28]; simp; done) | (rw [h37]; simp; done)
            rw [e] at hK
            exact hK P hM hO
def mOkS (n : Nat) (r s : Int32) : Bool := decide (0 ≤ r.toInt ∧ r.toInt < n) && decide (0 ≤ s.toInt ∧ s.toInt < 4)
def S8_shape : z_PT := fun as P nx K => ∃ (iv : Nat → Int32) (h : Nat → Bool) (a : Nat → Nat → Int32) (ld : Nat → Int64) (n : Nat) (r s : Int32), as = [.ref 70, .int r, .int s] ∧ z_in (zM iv h a ld) P ∧ (iv 2 = nI n) ∧ (n ≤ 12) ∧ (∀ P' : z_H, z_in (zM iv h (if mOkS n r s then va_up a 78 (upd (a 78) r.toInt.toNat s) else a) ld) P' → z_out zDm P P' → K (some (.int (zb (mOkS n r s)))) P' nx)
set_option maxRecDepth 4000 in
theorem sp8_shape (l : Launch) : z_Sp l M8_shape rM8_shape S8_shape := by
  refine z_enter (by decide) (fun as P nx K h => ?_) (fun X K as P nx hX hE hin0 hS => ?_)
  · obtain ⟨iv, h, a, ld, n, r, s, rfl, -⟩ := h
    exact Nat.le_of_ble_eq_true rfl
  obtain ⟨iv, h, a, ld, n, r, s, rfl, hM, p1, p2, hK⟩ := hS
  show z_W X 0 [some (.ref 70), some (.int r), some (.int s)] [] P nx 0 0
  have hO : z_out zDm P P := z_out.rf
  refine z_aload_n hX d8_shape_0 rfl ?_
  refine z_iload_n hX d8_shape_1 rfl ?_
  refine z_callV1 hX (sp8_isRoad l) lm_8_112 (hM _ _ rfl) ⟨by decide, by decide, by decide, by decide⟩ (Nat.le_of_ble_eq_true rfl) d8_shape_2 ?_
  refine ⟨iv, h, a, ld, n, r, rfl, hM, p1, p2, ?_⟩
  dsimp only [Option.toList, List.cons_append, List.nil_append]
  refine z_ifb_eq hX 15 d8_shape_5 (by decide) (fun h5 => ?_) (fun h5 => ?_)
  · skip
    refine z_iconst hX (0) d8_shape_15 (by decide) ?_
    refine z_zret hX hE (by decide) (by decide) (by decide) d8_shape_16 ?_
    have e : mOkS n r s = false := by
      unfold mOkS
      first | (rw [h5]; rfl) | (rw [h12]; simp; done)
    rw [e] at hK
    exact hK P hM hO
  · skip
    refine z_iload_n hX d8_shape_8 rfl ?_
    refine z_callS1 hX (sp8_isShape l) lm_8_80 ⟨by decide, by decide, by decide, by decide⟩ (Nat.le_of_ble_eq_true rfl) d8_shape_9 ?_
    refine ⟨_, rfl, ?_⟩
    dsimp only [Option.toList, List.cons_append, List.nil_append]
    refine z_ifb_ne hX 17 d8_shape_12 (by decide) (fun h12 => ?_) (fun h12 => ?_)
    · skip
      have e : mOkS n r s = true := by unfold mOkS; rw [h5, h12]; rfl
      rw [e] at hK
      obtain ⟨r', r1, rfl⟩ := nI_rng (of_decide_eq_true h5).1 (of_decide_eq_true h5).2
      rw [tN (n := 12) (by omega) (by decide)] at hK
      refine z_aload_n hX d8_shape_17 rfl ?_
      refine z_get hX lf_8_33 (hM _ _ rfl) rfl d8_shape_18 ?_
      refine z_iload_n hX d8_shape_21 rfl ?_
      refine z_iload_n hX d8_shape_22 rfl ?_
      refine z_iast hX (hM _ _ rfl) (vp_in_nI (by omega) (by decide)) d8_shape_23 ?_
      rw [nI_clamp (by omega)]
      refine z_gen hM hO rfl (fun P hM hO => ?_)
      have hM := zM_s78 hM
      refine z_iconst hX (1) d8_shape_24 (by decide) ?_
      refine z_zret hX hE (by decide) (by decide) (by decide) d8_shape_25 ?_
      exact hK P hM hO
    · skip
      refine z_iconst hX (0) d8_shape_15 (by decide) ?_
      refine z_zret hX hE (by decide) (by decide) (by decide) d8_shape_16 ?_
      have e : mOkS n r s = false := by
        unfold mOkS
        first | (rw [h5]; rfl) | (rw [h12]; simp; done)
      rw [e] at hK
      exact hK P hM hO
def mOkC (n : Nat) (r d c : Int32) : Bool := decide (0 ≤ r.toInt ∧ r.toInt < n) && (decide (0 ≤ d.toInt ∧ d.toInt ≤ 363) && decide (0 ≤ c.toInt ∧ c.toInt ≤ 100000))
/-- is the count taken; is it a new one -/
def mNew (a : Nat → Nat → Int32) (r d : Nat) : Bool := decide (a 79 (364 * r + d) = -1)
def mTak (a : Nat → Nat → Int32) (r d : Nat) : Bool := !(mNew a r d && decide (a 80 r = 14))
def mCoA (a : Nat → Nat → Int32) (r d : Nat) (c : Int32) : Nat → Nat → Int32 := va_up (if mNew a r d then va_up a 80 (upd (a 80) r (a 80 r + 1)) else a) 79 (upd (a 79) (364 * r + d) c)
def S8_count : z_PT := fun as P nx K => ∃ (iv : Nat → Int32) (h : Nat → Bool) (a : Nat → Nat → Int32) (ld : Nat → Int64) (n : Nat) (r d c : Int32), as = [.ref 70, .int r, .int d, .int c] ∧ z_in (zM iv h a ld) P ∧ (iv 2 = nI n) ∧ (n ≤ 12) ∧ (∀ P' : z_H, z_in (zM iv h (if mOkC n r d c && mTak a r.toInt.toNat d.toInt.toNat then mCoA a r.toInt.toNat d.toInt.toNat c else a) ld) P' → z_out zDm P P' → K (some (.int (zb (mOkC n r d c && mTak a r.toInt.toNat d.toInt.toNat)))) P' nx)
set_option maxRecDepth 4000 in
theorem sp8_count (l : Launch) : z_Sp l M8_count rM8_count S8_count := by
  refine z_enter (by decide) (fun as P nx K h => ?_) (fun X K as P nx hX hE hin0 hS => ?_)
  · obtain ⟨iv, h, a, ld, n, r, d, c, rfl, -⟩ := h
    exact Nat.le_of_ble_eq_true rfl
  obtain ⟨iv, h, a, ld, n, r, d, c, rfl, hM, p1, p2, hK⟩ := hS
  show z_W X 0 [some (.ref 70), some (.int r), some (.int d), some (.int c)] [] P nx 0 0
  have hO : z_out zDm P P := z_out.rf
  refine z_aload_n hX d8_count_0 rfl ?_
  refine z_iload_n hX d8_count_1 rfl ?_
  refine z_callV1 hX (sp8_isRoad l) lm_8_112 (hM _ _ rfl) ⟨by decide, by decide, by decide, by decide⟩ (Nat.le_of_ble_eq_true rfl) d8_count_2 ?_
  refine ⟨iv, h, a, ld, n, r, rfl, hM, p1, p2, ?_⟩
  dsimp only [Option.toList, List.cons_append, List.nil_append]
  refine z_ifb_eq hX 32 d8_count_5 (by decide) (fun h5 => ?_) (fun h5 => ?_)
  · skip
    refine z_iconst hX (0) d8_count_32 (by decide) ?_
    refine z_zret hX hE (by decide) (by decide) (by decide) d8_count_33 ?_
    have e : mOkC n r d c = false := by
      unfold mOkC
      first | (rw [h5]; rfl) | (rw [h17]; simp; done) | (rw [h29]; simp; done)
    rw [e] at hK
    exact hK P hM hO
  · skip
    refine z_iload_n hX d8_count_8 rfl ?_
    refine z_i2l hX d8_count_9 ?_
    refine z_lconst hX 0 d8_count_10 (by decide) ?_
    refine z_ldc2 hX (363) d8_count_11 lk_8_90 ?_
    refine z_callS3 hX (sp8_lies l) lm_8_74 ⟨by decide, by decide, by decide, by decide⟩ (Nat.le_of_ble_eq_true rfl) d8_count_14 ?_
    refine ⟨_, _, _, rfl, ?_⟩
    rw [i2l_t, show (0 : Int64).toInt = 0 from rfl, show (363 : Int64).toInt = 363 from rfl]
    dsimp only [Option.toList, List.cons_append, List.nil_append]
    refine z_ifb_eq hX 32 d8_count_17 (by decide) (fun h17 => ?_) (fun h17 => ?_)
    · skip
      refine z_iconst hX (0) d8_count_32 (by decide) ?_
      refine z_zret hX hE (by decide) (by decide) (by decide) d8_count_33 ?_
      have e : mOkC n r d c = false := by
        unfold mOkC
        first | (rw [h5]; rfl) | (rw [h17]; simp; done) | (rw [h29]; simp; done)
      rw [e] at hK
      exact hK P hM hO
    · skip
      refine z_iload_n hX d8_count_20 rfl ?_
      refine z_i2l hX d8_count_21 ?_
      refine z_lconst hX 0 d8_count_22 (by decide) ?_
      refine z_ldc2 hX (100000) d8_count_23 lk_8_115 ?_
      refine z_callS3 hX (sp8_lies l) lm_8_74 ⟨by decide, by decide, by decide, by decide⟩ (Nat.le_of_ble_eq_true rfl) d8_count_26 ?_
      refine ⟨_, _, _, rfl, ?_⟩
      rw [i2l_t, show (0 : Int64).toInt = 0 from rfl, show (100000 : Int64).toInt = 100000 from rfl]
      dsimp only [Option.toList, List.cons_append, List.nil_append]
      refine z_ifb_ne hX 34 d8_count_29 (by decide) (fun h29 => ?_) (fun h29 => ?_)
      · skip
        have e : mOkC n r d c = true := by unfold mOkC; rw [h5, h17, h29]; rfl
        rw [e] at hK
        obtain ⟨r', r1, rfl⟩ := nI_rng (of_decide_eq_true h5).1 (of_decide_eq_true h5).2
        obtain ⟨d', d1, d2, rfl, d4, d5⟩ := nI_r (of_decide_eq_true h17) (by omega)
        rw [tN (n := 12) (by omega) (by decide), d4] at hK
        have e1 : (364 : Int32) * nI r' + nI d' = nI (364 * r' + d') := nI_ml 364 r' d'
        refine z_aload_n hX d8_count_34 rfl ?_
        refine z_get hX lf_8_36 (hM _ _ rfl) rfl d8_count_35 ?_
        refine z_sipush hX (364) d8_count_38 (by decide) ?_
        refine z_iload_n hX d8_count_41 rfl ?_
        refine z_imul hX d8_count_42 ?_
        refine z_iload_n hX d8_count_43 rfl ?_
        refine z_iadd hX d8_count_44 ?_
        refine z_iald hX (hM _ _ rfl) (ix_in e1 (by omega) (by decide)) d8_count_45 ?_
        rw [ix_c e1 (by omega)]
        refine z_iconst hX (-1) d8_count_46 (by decide) ?_
        refine z_icmp_ne hX 73 d8_count_47 (by decide) (fun h47 => ?_) (fun h47 => ?_)
        · skip
          have f : mNew a r' d' = false := decide_eq_false h47
          have g : mTak a r' d' = true := by unfold mTak; rw [f]; rfl
          rw [g] at hK
          unfold mCoA at hK
          rw [f] at hK
          refine z_aload_n hX d8_count_73 rfl ?_
          refine z_get hX lf_8_36 (hM _ _ rfl) rfl d8_count_74 ?_
          refine z_sipush hX (364) d8_count_77 (by decide) ?_
          refine z_iload_n hX d8_count_80 rfl ?_
          refine z_imul hX d8_count_81 ?_
          refine z_iload_n hX d8_count_82 rfl ?_
          refine z_iadd hX d8_count_83 ?_
          refine z_iload_n hX d8_count_84 rfl ?_
          refine z_iast hX (hM _ _ rfl) (ix_in e1 (by omega) (by decide)) d8_count_85 ?_
          rw [ix_c e1 (by omega)]
          refine z_gen hM hO rfl (fun P hM hO => ?_)
          have hM := zM_s79 hM
          refine z_iconst hX (1) d8_count_86 (by decide) ?_
          refine z_zret hX hE (by decide) (by decide) (by decide) d8_count_87 ?_
          exact hK P hM hO
        · skip
          have f : mNew a r' d' = true := decide_eq_true h47
          refine z_aload_n hX d8_count_50 rfl ?_
          refine z_get hX lf_8_39 (hM _ _ rfl) rfl d8_count_51 ?_
          refine z_iload_n hX d8_count_54 rfl ?_
          refine z_iald hX (hM _ _ rfl) (vp_in_nI (by omega) (by decide)) d8_count_55 ?_
          rw [nI_clamp (show r' < 2 ^ 31 by omega)]
          refine z_bipush hX (14) d8_count_56 (by decide) ?_
          refine z_icmp_ne hX 63 d8_count_58 (by decide) (fun h58 => ?_) (fun h58 => ?_)
          · skip
            have g : mTak a r' d' = true := by unfold mTak; rw [f, decide_eq_false h58]; rfl
            rw [g] at hK
            unfold mCoA at hK
            rw [f] at hK
            refine z_aload_n hX d8_count_63 rfl ?_
            refine z_get hX lf_8_39 (hM _ _ rfl) rfl d8_count_64 ?_
            refine z_iload_n hX d8_count_67 rfl ?_
            refine z_dup2 hX rfl rfl d8_count_68 ?_
            refine z_iald hX (hM _ _ rfl) (vp_in_nI (by omega) (by decide)) d8_count_69 ?_
            rw [nI_clamp (show r' < 2 ^ 31 by omega)]
            refine z_iconst hX (1) d8_count_70 (by decide) ?_
            refine z_iadd hX d8_count_71 ?_
            refine z_iast hX (hM _ _ rfl) (vp_in_nI (by omega) (by decide)) d8_count_72 ?_
            rw [nI_clamp (by omega)]
            refine z_gen hM hO rfl (fun P hM hO => ?_)
            have hM := zM_s80 hM
            refine z_aload_n hX d8_count_73 rfl ?_
            refine z_get hX lf_8_36 (hM _ _ rfl) rfl d8_count_74 ?_
            refine z_sipush hX (364) d8_count_77 (by decide) ?_
            refine z_iload_n hX d8_count_80 rfl ?_
            refine z_imul hX d8_count_81 ?_
            refine z_iload_n hX d8_count_82 rfl ?_
            refine z_iadd hX d8_count_83 ?_
            refine z_iload_n hX d8_count_84 rfl ?_
            refine z_iast hX (hM _ _ rfl) (ix_in e1 (by omega) (by decide)) d8_count_85 ?_
            rw [ix_c e1 (by omega)]
            refine z_gen hM hO rfl (fun P hM hO => ?_)
            have hM := zM_s79 hM
            refine z_iconst hX (1) d8_count_86 (by decide) ?_
            refine z_zret hX hE (by decide) (by decide) (by decide) d8_count_87 ?_
            exact hK P hM hO
          · skip
            have g : mTak a r' d' = false := by unfold mTak; rw [f, decide_eq_true h58]; rfl
            rw [g] at hK
            refine z_iconst hX (0) d8_count_61 (by decide) ?_
            refine z_zret hX hE (by decide) (by decide) (by decide) d8_count_62 ?_
            exact hK P hM hO
      · skip
        refine z_iconst hX (0) d8_count_32 (by decide) ?_
        refine z_zret hX hE (by decide) (by decide) (by decide) d8_count_33 ?_
        have e : mOkC n r d c = false := by
          unfold mOkC
          first | (rw [h5]; rfl) | (rw [h17]; simp; done) | (rw [h29]; simp; done)
        rw [e] at hK
        exact hK P hM hO
end
section
/-! sets of roads as bits -/
theorem fa_and (a b : Nat) : nI a &&& nI b = nI (a &&& b) := by
  apply Int32.toBitVec_inj.1
  show BitVec.ofNat 32 a &&& BitVec.ofNat 32 b = BitVec.ofNat 32 (a &&& b)
  apply BitVec.eq_of_getLsbD_eq
  intro i hi
  simp [hi]
theorem fa_or (a b : Nat) : nI a ||| nI b = nI (a ||| b) := by
  apply Int32.toBitVec_inj.1
  show BitVec.ofNat 32 a ||| BitVec.ofNat 32 b = BitVec.ofNat 32 (a ||| b)
  apply BitVec.eq_of_getLsbD_eq
  intro i hi
  simp [hi]
/-- the roads of a that aren't in b -/
def zsd (a b : Nat) : Nat := a ^^^ (a &&& b)
theorem zsd_t (a b i : Nat) : (zsd a b).testBit i = (a.testBit i && !b.testBit i) := by
  unfold zsd
  rw [Nat.testBit_xor, Nat.testBit_and]
  cases a.testBit i <;> cases b.testBit i <;> rfl
theorem fa_sd (a b : Nat) : nI a &&& (nI b ^^^ (-1)) = nI (zsd a b) := by
  apply Int32.toBitVec_inj.1
  show BitVec.ofNat 32 a &&& (BitVec.ofNat 32 b ^^^ BitVec.allOnes 32) = BitVec.ofNat 32 (zsd a b)
  rw [BitVec.xor_allOnes]
  apply BitVec.eq_of_getLsbD_eq
  intro i hi
  rw [BitVec.getLsbD_and, BitVec.getLsbD_not, BitVec.getLsbD_ofNat, BitVec.getLsbD_ofNat, BitVec.getLsbD_ofNat, zsd_t]
  simp [hi]
theorem s_l : ∀ n, n < 32 → ((nI n &&& 31).toBitVec.smod 32).toNat = n := by decide +kernel
theorem sh1 {r : Nat} (h : r < 30) : (1 : Int32) <<< (nI r &&& 31) = nI (2 ^ r) := by
  have := pk_shlN (n := 1) (nI r &&& 31) r (s_l r (by omega)) (by rw [Nat.one_mul]; exact Nat.pow_lt_pow_right (by decide) (by omega))
  rw [Nat.one_mul] at this
  exact this
theorem hasT {m k : Nat} (hm : m < 2 ^ 31) (hk : k < 32) : (nI m >>> (nI k &&& 31)) &&& 1 = 1 ↔ m.testBit k = true := by
  rw [pk_shrN hm (nI k &&& 31) k (s_l k hk), show (1 : Int32) = nI 1 from rfl, fa_and, Nat.and_one_is_mod, Nat.testBit_eq_decide_div_mod_eq, decide_eq_true_eq]
  have h2 : m / 2 ^ k % 2 < 2 := Nat.mod_lt _ (by decide)
  exact nI_eq (by omega) (by decide)
/-- the set of those below n with p -/
def zbt (p : Nat → Bool) : Nat → Nat
  | 0 => 0
  | n + 1 => zbt p n ||| (if p n then 2 ^ n else 0)
theorem zbt_t (p : Nat → Bool) : ∀ n i, (zbt p n).testBit i = (decide (i < n) && p i)
  | 0, i => by simp [zbt]
  | n + 1, i => by
    unfold zbt
    rw [Nat.testBit_or, zbt_t p n i]
    by_cases e : i = n
    · subst e
      cases h : p i <;> simp [h, Nat.testBit_two_pow_self]
    · have e2 : (if p n then 2 ^ n else 0 : Nat).testBit i = false := by
        split
        · rw [Nat.testBit_two_pow]; simp; omega
        · simp
      rw [e2, Bool.or_false]
      congr 1
      exact decide_eq_decide.mpr (by omega)
theorem zbt_lt (p : Nat → Bool) (n : Nat) : zbt p n < 2 ^ n := by
  induction n with
  | zero => simp [zbt]
  | succ n ih =>
    unfold zbt
    refine Nat.or_lt_two_pow (Nat.lt_of_lt_of_le ih (Nat.pow_le_pow_right (by decide) (by omega))) ?_
    split
    · exact Nat.pow_lt_pow_right (by decide) (by omega)
    · exact Nat.two_pow_pos _
theorem zbt_lt12 (p : Nat → Bool) {n : Nat} (h : n ≤ 12) : zbt p n < 4096 := Nat.lt_of_lt_of_le (zbt_lt p n) (Nat.pow_le_pow_right (n := 2) (by decide) h)
def zpop (m : Nat) : Nat := zC (fun i => m.testBit i) 12
theorem z4096 {Q : Nat → Prop} (h : ∀ i, i < 64 → ∀ j, j < 64 → Q (64 * i + j)) : ∀ m, m < 4096 → Q m := fun m hm => by
  have := h (m / 64) (by omega) (m % 64) (by omega)
  rw [show 64 * (m / 64) + m % 64 = m by omega] at this
  exact this
theorem zpop_k : ∀ m, m < 4096 → m ≠ 0 → zpop (m &&& (m - 1)) + 1 = zpop m ∧ m &&& (m - 1) < 4096 := z4096 (by decide +kernel)
theorem zpop_0 : zpop 0 = 0 := by decide +kernel
theorem zpop_le (m : Nat) : zpop m ≤ 12 := zC_le _ _
theorem zpop_1 : ∀ m, m < 4096 → (m &&& (m - 1) = 0 ↔ zpop m ≤ 1) := z4096 (by decide +kernel)
theorem zpop_z : ∀ m, m < 4096 → (zpop m = 0 ↔ m = 0) := z4096 (by decide +kernel)
def S8_has : z_PT := fun as P nx K => ∃ (m k : Nat), as = [.int (nI m), .int (nI k)] ∧ (m < 2 ^ 31) ∧ (k < 32) ∧ K (some (.int (zb (m.testBit k)))) P nx
set_option maxRecDepth 4000 in
theorem sp8_has (l : Launch) : z_Sp l M8_has rM8_has S8_has := by
  refine z_enter (by decide) (fun as P nx K h => ?_) (fun X K as P nx hX hE hin0 hS => ?_)
  · obtain ⟨m, k, rfl, -⟩ := h
    exact Nat.le_of_ble_eq_true rfl
  obtain ⟨m, k, rfl, p1, p2, hK⟩ := hS
  show z_W X 0 [some (.int (nI m)), some (.int (nI k))] [] P nx 0 0
  refine z_iload_n hX d8_has_0 rfl ?_
  refine z_iload_n hX d8_has_1 rfl ?_
  refine z_ishr hX d8_has_2 ?_
  refine z_iconst hX (1) d8_has_3 (by decide) ?_
  refine z_iand hX d8_has_4 ?_
  refine z_iconst hX (1) d8_has_5 (by decide) ?_
  refine z_icmp_ne hX 13 d8_has_6 (by decide) (fun h6 => ?_) (fun h6 => ?_)
  · skip
    rw [hasT p1 p2] at h6
    refine z_iconst hX (0) d8_has_13 (by decide) ?_
    refine z_zret hX hE (by decide) (by decide) (by decide) d8_has_14 ?_
    first | exact zK1 hK h6 | exact zK0 hK (Bool.not_eq_true _ ▸ h6) | exact zK0 hK (eq_false_of_ne_true h6)
  · skip
    rw [hasT p1 p2] at h6
    refine z_iconst hX (1) d8_has_9 (by decide) ?_
    refine z_goto hX 14 d8_has_10 (by decide) ?_
    refine z_zret hX hE (by decide) (by decide) (by decide) d8_has_14 ?_
    first | exact zK1 hK h6 | exact zK0 hK (Bool.not_eq_true _ ▸ h6) | exact zK0 hK (eq_false_of_ne_true h6)
def S8_sizeOf : z_PT := fun as P nx K => ∃ (m : Nat), as = [.int (nI m)] ∧ (m < 4096) ∧ K (some (.int (nI (zpop m)))) P nx
set_option maxRecDepth 4000 in
theorem sp8_sizeOf (l : Launch) : z_Sp l M8_sizeOf rM8_sizeOf S8_sizeOf := by
  refine z_enter (by decide) (fun as P nx K h => ?_) (fun X K as P nx hX hE hin0 hS => ?_)
  · obtain ⟨m, rfl, -⟩ := h
    exact Nat.le_of_ble_eq_true rfl
  obtain ⟨m, rfl, p1, hK⟩ := hS
  refine z_pad 2 ?_
  show z_W X 0 [some (.int (nI m)), none, none] [] P nx 0 0
  have loop : ∀ (k c v : Nat), v < 4096 → zpop v = k → c + k = zpop m → z_W X 4 [some (.int (nI m)), some (.int (nI c)), some (.int (nI v))] [] P nx 0 0 := by
    intro k
    induction k with
    | zero =>
      intro c v hv h0 hc
      have e : v = 0 := (zpop_z v hv).mp h0
      subst e
      refine z_iload_n hX d8_sizeOf_4 rfl ?_
      refine z_if_eq hX 20 d8_sizeOf_5 (by decide) (fun h5 => ?_) (fun h5 => ?_)
      rotate_left
      · exact absurd rfl h5
      refine z_iload_n hX d8_sizeOf_20 rfl ?_
      refine z_iret hX hE (by decide) (by decide) d8_sizeOf_21 ?_
      rw [show c = zpop m by omega]
      exact hK
    | succ k ih =>
      intro c v hv h0 hc
      have hv0 : v ≠ 0 := fun e => by rw [e, zpop_0] at h0; omega
      obtain ⟨g1, g2⟩ := zpop_k v hv hv0
      have ev : nI v &&& (nI v - 1) = nI (v &&& (v - 1)) := by
        rw [show nI v - 1 = nI (v - 1) from by rw [show v = (v - 1) + 1 by omega, nI_pred]; rfl, fa_and]
      refine z_iload_n hX d8_sizeOf_4 rfl ?_
      refine z_if_eq hX 20 d8_sizeOf_5 (by decide) (fun h5 => ?_) (fun h5 => ?_)
      · exact absurd h5 (nI_ne0 (by omega) (by omega))
      refine z_iinc hX (1) (by decide) rfl (by decide) d8_sizeOf_8 ?_
      dsimp only [z_p1, z_p2, z_k, List.headD, List.tail]
      refine z_iload_n hX d8_sizeOf_11 rfl ?_
      refine z_iload_n hX d8_sizeOf_12 rfl ?_
      refine z_iconst hX (1) d8_sizeOf_13 (by decide) ?_
      refine z_isub hX d8_sizeOf_14 ?_
      refine z_iand hX d8_sizeOf_15 ?_
      refine z_istore_n hX 2 rfl (by decide) d8_sizeOf_16 ?_
      dsimp only [z_p1, z_p2, z_k, List.headD, List.tail]
      refine z_goto hX 4 d8_sizeOf_17 (by decide) ?_
      rw [ev, nI_1]
      exact ih (c + 1) _ g2 (by omega) (by omega)
  refine z_iconst hX (0) d8_sizeOf_0 (by decide) ?_
  refine z_istore_n hX 1 rfl (by decide) d8_sizeOf_1 ?_
  dsimp only [z_p1, z_p2, z_k, List.headD, List.tail]
  refine z_iload_n hX d8_sizeOf_2 rfl ?_
  refine z_istore_n hX 2 rfl (by decide) d8_sizeOf_3 ?_
  dsimp only [z_p1, z_p2, z_k, List.headD, List.tail]
  exact loop _ 0 m p1 rfl (by omega)
abbrev ush (x y : Int32) : Int32 := (x.toUInt32 >>> (y.toUInt32 &&& Int32.toUInt32 31)).toInt32
def bcA (x : Int32) : Int32 := x - (ush x 1 &&& 1431655765)
def bcB (x : Int32) : Int32 := (x &&& 858993459) + (ush x 2 &&& 858993459)
def bcC (x : Int32) : Int32 := (x + ush x 4) &&& 252645135
def bcD (x : Int32) : Int32 := x + ush x 8
def bcE (x : Int32) : Int32 := x + ush x 16
theorem bc_ok : ∀ m, m < 4096 → bcE (bcD (bcC (bcB (bcA (nI m))))) &&& 63 = nI (zpop m) := z4096 (by decide +kernel)
def SI_bitCount : z_PT := fun as P nx K => ∃ (m : Nat), as = [.int (nI m)] ∧ (m < 4096) ∧ K (some (.int (nI (zpop m)))) P nx
set_option maxRecDepth 4000 in
theorem spI_bitCount (l : Launch) : z_Sp l MI_bitCount rMI_bitCount SI_bitCount := by
  refine z_enter (by decide) (fun as P nx K h => ?_) (fun X K as P nx hX hE hin0 hS => ?_)
  · obtain ⟨m, rfl, -⟩ := h
    exact Nat.le_of_ble_eq_true rfl
  obtain ⟨m, rfl, p1, hK⟩ := hS
  show z_W X 0 [some (.int (nI m))] [] P nx 0 0
  refine z_iload_n hX dI_bitCount_0 rfl ?_
  refine z_iload_n hX dI_bitCount_1 rfl ?_
  refine z_iconst hX (1) dI_bitCount_2 (by decide) ?_
  refine z_iushr hX dI_bitCount_3 ?_
  refine z_ldcw hX (1431655765) dI_bitCount_4 lk_I_265 ?_
  refine z_iand hX dI_bitCount_7 ?_
  refine z_isub hX dI_bitCount_8 ?_
  refine z_istore_n hX 0 rfl (by decide) dI_bitCount_9 ?_
  dsimp only [z_p1, z_p2, z_k, List.headD, List.tail]
  refine z_iload_n hX dI_bitCount_10 rfl ?_
  refine z_ldcw hX (858993459) dI_bitCount_11 lk_I_266 ?_
  refine z_iand hX dI_bitCount_14 ?_
  refine z_iload_n hX dI_bitCount_15 rfl ?_
  refine z_iconst hX (2) dI_bitCount_16 (by decide) ?_
  refine z_iushr hX dI_bitCount_17 ?_
  refine z_ldcw hX (858993459) dI_bitCount_18 lk_I_266 ?_
  refine z_iand hX dI_bitCount_21 ?_
  refine z_iadd hX dI_bitCount_22 ?_
  refine z_istore_n hX 0 rfl (by decide) dI_bitCount_23 ?_
  dsimp only [z_p1, z_p2, z_k, List.headD, List.tail]
  refine z_iload_n hX dI_bitCount_24 rfl ?_
  refine z_iload_n hX dI_bitCount_25 rfl ?_
  refine z_iconst hX (4) dI_bitCount_26 (by decide) ?_
  refine z_iushr hX dI_bitCount_27 ?_
  refine z_iadd hX dI_bitCount_28 ?_
  refine z_ldcw hX (252645135) dI_bitCount_29 lk_I_267 ?_
  refine z_iand hX dI_bitCount_32 ?_
  refine z_istore_n hX 0 rfl (by decide) dI_bitCount_33 ?_
  dsimp only [z_p1, z_p2, z_k, List.headD, List.tail]
  refine z_iload_n hX dI_bitCount_34 rfl ?_
  refine z_iload_n hX dI_bitCount_35 rfl ?_
  refine z_bipush hX (8) dI_bitCount_36 (by decide) ?_
  refine z_iushr hX dI_bitCount_38 ?_
  refine z_iadd hX dI_bitCount_39 ?_
  refine z_istore_n hX 0 rfl (by decide) dI_bitCount_40 ?_
  dsimp only [z_p1, z_p2, z_k, List.headD, List.tail]
  refine z_iload_n hX dI_bitCount_41 rfl ?_
  refine z_iload_n hX dI_bitCount_42 rfl ?_
  refine z_bipush hX (16) dI_bitCount_43 (by decide) ?_
  refine z_iushr hX dI_bitCount_45 ?_
  refine z_iadd hX dI_bitCount_46 ?_
  refine z_istore_n hX 0 rfl (by decide) dI_bitCount_47 ?_
  dsimp only [z_p1, z_p2, z_k, List.headD, List.tail]
  refine z_iload_n hX dI_bitCount_48 rfl ?_
  refine z_bipush hX (63) dI_bitCount_49 (by decide) ?_
  refine z_iand hX dI_bitCount_51 ?_
  refine z_iret hX hE (by decide) (by decide) dI_bitCount_52 ?_
  exact zKe hK (congrArg (fun z => some (Value.int z)) (bc_ok m p1))
def nz0 (x : Int32) : Int32 := (x ^^^ -1) &&& (x - 1)
def nz1 (q : Int32 × Int32) (b k : Int32) : Int32 × Int32 := if q.2 ≤ b then q else (q.1 + k, ush q.2 k)
def nz2 (x : Int32) : Int32 × Int32 := nz1 (nz1 (nz1 (nz1 (1, x) 65536 16) 256 8) 16 4) 4 2
def ntz (x : Int32) : Int32 := if 0 < nz0 x then (nz2 (nz0 x)).1 + ush (nz2 (nz0 x)).2 1 else nz0 x &&& 32
theorem nz1_t {i x b k : Int32} (h : x ≤ b) : nz1 (i, x) b k = (i, x) := if_pos h
theorem nz1_f {i x b k : Int32} (h : ¬ x ≤ b) : nz1 (i, x) b k = (i + k, ush x k) := if_neg h
theorem ntz_ok : ∀ r, r < 12 → ntz (nI (2 ^ r)) = nI r := by decide +kernel
def SI_numberOfTrailingZeros : z_PT := fun as P nx K => ∃ (r : Nat), as = [.int (nI (2 ^ r))] ∧ (r < 12) ∧ K (some (.int (nI r))) P nx
set_option maxRecDepth 4000 in
theorem spI_numberOfTrailingZeros (l : Launch) : z_Sp l MI_numberOfTrailingZeros rMI_numberOfTrailingZeros SI_numberOfTrailingZeros := by
  refine z_enter (by decide) (fun as P nx K h => ?_) (fun X K as P nx hX hE hin0 hS => ?_)
  · obtain ⟨r, rfl, -⟩ := h
    exact Nat.le_of_ble_eq_true rfl
  obtain ⟨r, rfl, p1, hK⟩ := hS
  refine z_pad 1 ?_
  show z_W X 0 [some (.int (nI (2 ^ r))), none] [] P nx 0 0
  have e := ntz_ok r p1
  obtain ⟨x0, hx0⟩ : ∃ z, z = nI (2 ^ r) := ⟨_, rfl⟩
  rw [← hx0] at e ⊢
  refine z_iload_n hX dI_numberOfTrailingZeros_0 rfl ?_
  refine z_iconst hX (-1) dI_numberOfTrailingZeros_1 (by decide) ?_
  refine z_ixor hX dI_numberOfTrailingZeros_2 ?_
  refine z_iload_n hX dI_numberOfTrailingZeros_3 rfl ?_
  refine z_iconst hX (1) dI_numberOfTrailingZeros_4 (by decide) ?_
  refine z_isub hX dI_numberOfTrailingZeros_5 ?_
  refine z_iand hX dI_numberOfTrailingZeros_6 ?_
  refine z_istore_n hX 0 rfl (by decide) dI_numberOfTrailingZeros_7 ?_
  dsimp only [z_p1, z_p2, z_k, List.headD, List.tail]
  obtain ⟨x1, hx1⟩ : ∃ z, z = nz0 x0 := ⟨_, rfl⟩
  have e : (if 0 < x1 then (nz2 x1).1 + ush (nz2 x1).2 1 else x1 &&& 32) = nI r := by rw [hx1]; exact e
  show z_W X 8 [some (.int (nz0 x0)), none] [] P nx 0 0
  rw [← hx1]
  refine z_iload_n hX dI_numberOfTrailingZeros_8 rfl ?_
  refine z_if_gt hX 17 dI_numberOfTrailingZeros_9 (by decide) (fun h9 => ?_) (fun h9 => ?_)
  · skip
    rw [if_pos h9] at e
    refine z_iconst hX (1) dI_numberOfTrailingZeros_17 (by decide) ?_
    refine z_istore_n hX 1 rfl (by decide) dI_numberOfTrailingZeros_18 ?_
    dsimp only [z_p1, z_p2, z_k, List.headD, List.tail]
    have e : (nz1 (nz1 (nz1 (nz1 (1, x1) 65536 16) 256 8) 16 4) 4 2).1 + ush (nz1 (nz1 (nz1 (nz1 (1, x1) 65536 16) 256 8) 16 4) 4 2).2 1 = nI r := e
    refine z_iload_n hX dI_numberOfTrailingZeros_19 rfl ?_
    refine z_ldcw hX (65536) dI_numberOfTrailingZeros_20 lk_I_264 ?_
    refine z_icmp_le hX 34 dI_numberOfTrailingZeros_23 (by decide) (fun h23 => ?_) (fun h23 => ?_)
    · skip
      rw [nz1_t h23] at e
      refine z_iload_n hX dI_numberOfTrailingZeros_34 rfl ?_
      refine z_sipush hX (256) dI_numberOfTrailingZeros_35 (by decide) ?_
      refine z_icmp_le hX 49 dI_numberOfTrailingZeros_38 (by decide) (fun h38 => ?_) (fun h38 => ?_)
      · skip
        rw [nz1_t h38] at e
        refine z_iload_n hX dI_numberOfTrailingZeros_49 rfl ?_
        refine z_bipush hX (16) dI_numberOfTrailingZeros_50 (by decide) ?_
        refine z_icmp_le hX 62 dI_numberOfTrailingZeros_52 (by decide) (fun h52 => ?_) (fun h52 => ?_)
        · skip
          rw [nz1_t h52] at e
          refine z_iload_n hX dI_numberOfTrailingZeros_62 rfl ?_
          refine z_iconst hX (4) dI_numberOfTrailingZeros_63 (by decide) ?_
          refine z_icmp_le hX 74 dI_numberOfTrailingZeros_64 (by decide) (fun h64 => ?_) (fun h64 => ?_)
          · skip
            rw [nz1_t h64] at e
            refine z_iload_n hX dI_numberOfTrailingZeros_74 rfl ?_
            refine z_iload_n hX dI_numberOfTrailingZeros_75 rfl ?_
            refine z_iconst hX (1) dI_numberOfTrailingZeros_76 (by decide) ?_
            refine z_iushr hX dI_numberOfTrailingZeros_77 ?_
            refine z_iadd hX dI_numberOfTrailingZeros_78 ?_
            refine z_iret hX hE (by decide) (by decide) dI_numberOfTrailingZeros_79 ?_
            refine zKe hK ?_
            rw [← e]
          · skip
            rw [nz1_f h64] at e
            refine z_iinc hX (2) (by decide) rfl (by decide) dI_numberOfTrailingZeros_67 ?_
            dsimp only [z_p1, z_p2, z_k, List.headD, List.tail]
            refine z_iload_n hX dI_numberOfTrailingZeros_70 rfl ?_
            refine z_iconst hX (2) dI_numberOfTrailingZeros_71 (by decide) ?_
            refine z_iushr hX dI_numberOfTrailingZeros_72 ?_
            refine z_istore_n hX 0 rfl (by decide) dI_numberOfTrailingZeros_73 ?_
            dsimp only [z_p1, z_p2, z_k, List.headD, List.tail]
            refine z_iload_n hX dI_numberOfTrailingZeros_74 rfl ?_
            refine z_iload_n hX dI_numberOfTrailingZeros_75 rfl ?_
            refine z_iconst hX (1) dI_numberOfTrailingZeros_76 (by decide) ?_
            refine z_iushr hX dI_numberOfTrailingZeros_77 ?_
            refine z_iadd hX dI_numberOfTrailingZeros_78 ?_
            refine z_iret hX hE (by decide) (by decide) dI_numberOfTrailingZeros_79 ?_
            refine zKe hK ?_
            rw [← e]
        · skip
          rw [nz1_f h52] at e
          refine z_iinc hX (4) (by decide) rfl (by decide) dI_numberOfTrailingZeros_55 ?_
          dsimp only [z_p1, z_p2, z_k, List.headD, List.tail]
          refine z_iload_n hX dI_numberOfTrailingZeros_58 rfl ?_
          refine z_iconst hX (4) dI_numberOfTrailingZeros_59 (by decide) ?_
          refine z_iushr hX dI_numberOfTrailingZeros_60 ?_
          refine z_istore_n hX 0 rfl (by decide) dI_numberOfTrailingZeros_61 ?_
          dsimp only [z_p1, z_p2, z_k, List.headD, List.tail]
          refine z_iload_n hX dI_numberOfTrailingZeros_62 rfl ?_
          refine z_iconst hX (4) dI_numberOfTrailingZeros_63 (by decide) ?_
          refine z_icmp_le hX 74 dI_numberOfTrailingZeros_64 (by decide) (fun h64 => ?_) (fun h64 => ?_)
          · skip
            rw [nz1_t h64] at e
            refine z_iload_n hX dI_numberOfTrailingZeros_74 rfl ?_
            refine z_iload_n hX dI_numberOfTrailingZeros_75 rfl ?_
            refine z_iconst hX (1) dI_numberOfTrailingZeros_76 (by decide) ?_
            refine z_iushr hX dI_numberOfTrailingZeros_77 ?_
            refine z_iadd hX dI_numberOfTrailingZeros_78 ?_
            refine z_iret hX hE (by decide) (by decide) dI_numberOfTrailingZeros_79 ?_
            refine zKe hK ?_
            rw [← e]
          · skip
            rw [nz1_f h64] at e
            refine z_iinc hX (2) (by decide) rfl (by decide) dI_numberOfTrailingZeros_67 ?_
            dsimp only [z_p1, z_p2, z_k, List.headD, List.tail]
            refine z_iload_n hX dI_numberOfTrailingZeros_70 rfl ?_
            refine z_iconst hX (2) dI_numberOfTrailingZeros_71 (by decide) ?_
            refine z_iushr hX dI_numberOfTrailingZeros_72 ?_
            refine z_istore_n hX 0 rfl (by decide) dI_numberOfTrailingZeros_73 ?_
            dsimp only [z_p1, z_p2, z_k, List.headD, List.tail]
            refine z_iload_n hX dI_numberOfTrailingZeros_74 rfl ?_
            refine z_iload_n hX dI_numberOfTrailingZeros_75 rfl ?_
            refine z_iconst hX (1) dI_numberOfTrailingZeros_76 (by decide) ?_
            refine z_iushr hX dI_numberOfTrailingZeros_77 ?_
            refine z_iadd hX dI_numberOfTrailingZeros_78 ?_
            refine z_iret hX hE (by decide) (by decide) dI_numberOfTrailingZeros_79 ?_
            refine zKe hK ?_
            rw [← e]
      · skip
        rw [nz1_f h38] at e
        refine z_iinc hX (8) (by decide) rfl (by decide) dI_numberOfTrailingZeros_41 ?_
        dsimp only [z_p1, z_p2, z_k, List.headD, List.tail]
        refine z_iload_n hX dI_numberOfTrailingZeros_44 rfl ?_
        refine z_bipush hX (8) dI_numberOfTrailingZeros_45 (by decide) ?_
        refine z_iushr hX dI_numberOfTrailingZeros_47 ?_
        refine z_istore_n hX 0 rfl (by decide) dI_numberOfTrailingZeros_48 ?_
        dsimp only [z_p1, z_p2, z_k, List.headD, List.tail]
        refine z_iload_n hX dI_numberOfTrailingZeros_49 rfl ?_
        refine z_bipush hX (16) dI_numberOfTrailingZeros_50 (by decide) ?_
        refine z_icmp_le hX 62 dI_numberOfTrailingZeros_52 (by decide) (fun h52 => ?_) (fun h52 => ?_)
        · skip
          rw [nz1_t h52] at e
          refine z_iload_n hX dI_numberOfTrailingZeros_62 rfl ?_
          refine z_iconst hX (4) dI_numberOfTrailingZeros_63 (by decide) ?_
          refine z_icmp_le hX 74 dI_numberOfTrailingZeros_64 (by decide) (fun h64 => ?_) (fun h64 => ?_)
          · skip
            rw [nz1_t h64] at e
            refine z_iload_n hX dI_numberOfTrailingZeros_74 rfl ?_
            refine z_iload_n hX dI_numberOfTrailingZeros_75 rfl ?_
            refine z_iconst hX (1) dI_numberOfTrailingZeros_76 (by decide) ?_
            refine z_iushr hX dI_numberOfTrailingZeros_77 ?_
            refine z_iadd hX dI_numberOfTrailingZeros_78 ?_
            refine z_iret hX hE (by decide) (by decide) dI_numberOfTrailingZeros_79 ?_
            refine zKe hK ?_
            rw [← e]
          · skip
            rw [nz1_f h64] at e
            refine z_iinc hX (2) (by decide) rfl (by decide) dI_numberOfTrailingZeros_67 ?_
            dsimp only [z_p1, z_p2, z_k, List.headD, List.tail]
            refine z_iload_n hX dI_numberOfTrailingZeros_70 rfl ?_
            refine z_iconst hX (2) dI_numberOfTrailingZeros_71 (by decide) ?_
            refine z_iushr hX dI_numberOfTrailingZeros_72 ?_
            refine z_istore_n hX 0 rfl (by decide) dI_numberOfTrailingZeros_73 ?_
            dsimp only [z_p1, z_p2, z_k, List.headD, List.tail]
            refine z_iload_n hX dI_numberOfTrailingZeros_74 rfl ?_
            refine z_iload_n hX dI_numberOfTrailingZeros_75 rfl ?_
            refine z_iconst hX (1) dI_numberOfTrailingZeros_76 (by decide) ?_
            refine z_iushr hX dI_numberOfTrailingZeros_77 ?_
            refine z_iadd hX dI_numberOfTrailingZeros_78 ?_
            refine z_iret hX hE (by decide) (by decide) dI_numberOfTrailingZeros_79 ?_
            refine zKe hK ?_
            rw [← e]
        · skip
          rw [nz1_f h52] at e
          refine z_iinc hX (4) (by decide) rfl (by decide) dI_numberOfTrailingZeros_55 ?_
          dsimp only [z_p1, z_p2, z_k, List.headD, List.tail]
          refine z_iload_n hX dI_numberOfTrailingZeros_58 rfl ?_
          refine z_iconst hX (4) dI_numberOfTrailingZeros_59 (by decide) ?_
          refine z_iushr hX dI_numberOfTrailingZeros_60 ?_
          refine z_istore_n hX 0 rfl (by decide) dI_numberOfTrailingZeros_61 ?_
          dsimp only [z_p1, z_p2, z_k, List.headD, List.tail]
          refine z_iload_n hX dI_numberOfTrailingZeros_62 rfl ?_
          refine z_iconst hX (4) dI_numberOfTrailingZeros_63 (by decide) ?_
          refine z_icmp_le hX 74 dI_numberOfTrailingZeros_64 (by decide) (fun h64 => ?_) (fun h64 => ?_)
          · skip
            rw [nz1_t h64] at e
            refine z_iload_n hX dI_numberOfTrailingZeros_74 rfl ?_
            refine z_iload_n hX dI_numberOfTrailingZeros_75 rfl ?_
            refine z_iconst hX (1) dI_numberOfTrailingZeros_76 (by decide) ?_
            refine z_iushr hX dI_numberOfTrailingZeros_77 ?_
            refine z_iadd hX dI_numberOfTrailingZeros_78 ?_
            refine z_iret hX hE (by decide) (by decide) dI_numberOfTrailingZeros_79 ?_
            refine zKe hK ?_
            rw [← e]
          · skip
            rw [nz1_f h64] at e
            refine z_iinc hX (2) (by decide) rfl (by decide) dI_numberOfTrailingZeros_67 ?_
            dsimp only [z_p1, z_p2, z_k, List.headD, List.tail]
            refine z_iload_n hX dI_numberOfTrailingZeros_70 rfl ?_
            refine z_iconst hX (2) dI_numberOfTrailingZeros_71 (by decide) ?_
            refine z_iushr hX dI_numberOfTrailingZeros_72 ?_
            refine z_istore_n hX 0 rfl (by decide) dI_numberOfTrailingZeros_73 ?_
            dsimp only [z_p1, z_p2, z_k, List.headD, List.tail]
            refine z_iload_n hX dI_numberOfTrailingZeros_74 rfl ?_
            refine z_iload_n hX dI_numberOfTrailingZeros_75 rfl ?_
            refine z_iconst hX (1) dI_numberOfTrailingZeros_76 (by decide) ?_
            refine z_iushr hX dI_numberOfTrailingZeros_77 ?_
            refine z_iadd hX dI_numberOfTrailingZeros_78 ?_
            refine z_iret hX hE (by decide) (by decide) dI_numberOfTrailingZeros_79 ?_
            refine zKe hK ?_
            rw [← e]
    · skip
      rw [nz1_f h23] at e
      refine z_iinc hX (16) (by decide) rfl (by decide) dI_numberOfTrailingZeros_26 ?_
      dsimp only [z_p1, z_p2, z_k, List.headD, List.tail]
      refine z_iload_n hX dI_numberOfTrailingZeros_29 rfl ?_
      refine z_bipush hX (16) dI_numberOfTrailingZeros_30 (by decide) ?_
      refine z_iushr hX dI_numberOfTrailingZeros_32 ?_
      refine z_istore_n hX 0 rfl (by decide) dI_numberOfTrailingZeros_33 ?_
      dsimp only [z_p1, z_p2, z_k, List.headD, List.tail]
      refine z_iload_n hX dI_numberOfTrailingZeros_34 rfl ?_
      refine z_sipush hX (256) dI_numberOfTrailingZeros_35 (by decide) ?_
      refine z_icmp_le hX 49 dI_numberOfTrailingZeros_38 (by decide) (fun h38 => ?_) (fun h38 => ?_)
      · skip
        rw [nz1_t h38] at e
        refine z_iload_n hX dI_numberOfTrailingZeros_49 rfl ?_
        refine z_bipush hX (16) dI_numberOfTrailingZeros_50 (by decide) ?_
        refine z_icmp_le hX 62 dI_numberOfTrailingZeros_52 (by decide) (fun h52 => ?_) (fun h52 => ?_)
        · skip
          rw [nz1_t h52] at e
          refine z_iload_n hX dI_numberOfTrailingZeros_62 rfl ?_
          refine z_iconst hX (4) dI_numberOfTrailingZeros_63 (by decide) ?_
          refine z_icmp_le hX 74 dI_numberOfTrailingZeros_64 (by decide) (fun h64 => ?_) (fun h64 => ?_)
          · skip
            rw [nz1_t h64] at e
            refine z_iload_n hX dI_numberOfTrailingZeros_74 rfl ?_
            refine z_iload_n hX dI_numberOfTrailingZeros_75 rfl ?_
            refine z_iconst hX (1) dI_numberOfTrailingZeros_76 (by decide) ?_
            refine z_iushr hX dI_numberOfTrailingZeros_77 ?_
            refine z_iadd hX dI_numberOfTrailingZeros_78 ?_
            refine z_iret hX hE (by decide) (by decide) dI_numberOfTrailingZeros_79 ?_
            refine zKe hK ?_
            rw [← e]
          · skip
            rw [nz1_f h64] at e
            refine z_iinc hX (2) (by decide) rfl (by decide) dI_numberOfTrailingZeros_67 ?_
            dsimp only [z_p1, z_p2, z_k, List.headD, List.tail]
            refine z_iload_n hX dI_numberOfTrailingZeros_70 rfl ?_
            refine z_iconst hX (2) dI_numberOfTrailingZeros_71 (by decide) ?_
            refine z_iushr hX dI_numberOfTrailingZeros_72 ?_
            refine z_istore_n hX 0 rfl (by decide) dI_numberOfTrailingZeros_73 ?_
            dsimp only [z_p1, z_p2, z_k, List.headD, List.tail]
            refine z_iload_n hX dI_numberOfTrailingZeros_74 rfl ?_
            refine z_iload_n hX dI_numberOfTrailingZeros_75 rfl ?_
            refine z_iconst hX (1) dI_numberOfTrailingZeros_76 (by decide) ?_
            refine z_iushr hX dI_numberOfTrailingZeros_77 ?_
            refine z_iadd hX dI_numberOfTrailingZeros_78 ?_
            refine z_iret hX hE (by decide) (by decide) dI_numberOfTrailingZeros_79 ?_
            refine zKe hK ?_
            rw [← e]
        · skip
          rw [nz1_f h52] at e
          refine z_iinc hX (4) (by decide) rfl (by decide) dI_numberOfTrailingZeros_55 ?_
          dsimp only [z_p1, z_p2, z_k, List.headD, List.tail]
          refine z_iload_n hX dI_numberOfTrailingZeros_58 rfl ?_
          refine z_iconst hX (4) dI_numberOfTrailingZeros_59 (by decide) ?_
          refine z_iushr hX dI_numberOfTrailingZeros_60 ?_
          refine z_istore_n hX 0 rfl (by decide) dI_numberOfTrailingZeros_61 ?_
          dsimp only [z_p1, z_p2, z_k, List.headD, List.tail]
          refine z_iload_n hX dI_numberOfTrailingZeros_62 rfl ?_
          refine z_iconst hX (4) dI_numberOfTrailingZeros_63 (by decide) ?_
          refine z_icmp_le hX 74 dI_numberOfTrailingZeros_64 (by decide) (fun h64 => ?_) (fun h64 => ?_)
          · skip
            rw [nz1_t h64] at e
            refine z_iload_n hX dI_numberOfTrailingZeros_74 rfl ?_
            refine z_iload_n hX dI_numberOfTrailingZeros_75 rfl ?_
            refine z_iconst hX (1) dI_numberOfTrailingZeros_76 (by decide) ?_
            refine z_iushr hX dI_numberOfTrailingZeros_77 ?_
            refine z_iadd hX dI_numberOfTrailingZeros_78 ?_
            refine z_iret hX hE (by decide) (by decide) dI_numberOfTrailingZeros_79 ?_
            refine zKe hK ?_
            rw [← e]
          · skip
            rw [nz1_f h64] at e
            refine z_iinc hX (2) (by decide) rfl (by decide) dI_numberOfTrailingZeros_67 ?_
            dsimp only [z_p1, z_p2, z_k, List.headD, List.tail]
            refine z_iload_n hX dI_numberOfTrailingZeros_70 rfl ?_
            refine z_iconst hX (2) dI_numberOfTrailingZeros_71 (by decide) ?_
            refine z_iushr hX dI_numberOfTrailingZeros_72 ?_
            refine z_istore_n hX 0 rfl (by decide) dI_numberOfTrailingZeros_73 ?_
            dsimp only [z_p1, z_p2, z_k, List.headD, List.tail]
            refine z_iload_n hX dI_numberOfTrailingZeros_74 rfl ?_
            refine z_iload_n hX dI_numberOfTrailingZeros_75 rfl ?_
            refine z_iconst hX (1) dI_numberOfTrailingZeros_76 (by decide) ?_
            refine z_iushr hX dI_numberOfTrailingZeros_77 ?_
            refine z_iadd hX dI_numberOfTrailingZeros_78 ?_
            refine z_iret hX hE (by decide) (by decide) dI_numberOfTrailingZeros_79 ?_
            refine zKe hK ?_
            rw [← e]
      · skip
        rw [nz1_f h38] at e
        refine z_iinc hX (8) (by decide) rfl (by decide) dI_numberOfTrailingZeros_41 ?_
        dsimp only [z_p1, z_p2, z_k, List.headD, List.tail]
        refine z_iload_n hX dI_numberOfTrailingZeros_44 rfl ?_
        refine z_bipush hX (8) dI_numberOfTrailingZeros_45 (by decide) ?_
        refine z_iushr hX dI_numberOfTrailingZeros_47 ?_
        refine z_istore_n hX 0 rfl (by decide) dI_numberOfTrailingZeros_48 ?_
        dsimp only [z_p1, z_p2, z_k, List.headD, List.tail]
        refine z_iload_n hX dI_numberOfTrailingZeros_49 rfl ?_
        refine z_bipush hX (16) dI_numberOfTrailingZeros_50 (by decide) ?_
        refine z_icmp_le hX 62 dI_numberOfTrailingZeros_52 (by decide) (fun h52 => ?_) (fun h52 => ?_)
        · skip
          rw [nz1_t h52] at e
          refine z_iload_n hX dI_numberOfTrailingZeros_62 rfl ?_
          refine z_iconst hX (4) dI_numberOfTrailingZeros_63 (by decide) ?_
          refine z_icmp_le hX 74 dI_numberOfTrailingZeros_64 (by decide) (fun h64 => ?_) (fun h64 => ?_)
          · skip
            rw [nz1_t h64] at e
            refine z_iload_n hX dI_numberOfTrailingZeros_74 rfl ?_
            refine z_iload_n hX dI_numberOfTrailingZeros_75 rfl ?_
            refine z_iconst hX (1) dI_numberOfTrailingZeros_76 (by decide) ?_
            refine z_iushr hX dI_numberOfTrailingZeros_77 ?_
            refine z_iadd hX dI_numberOfTrailingZeros_78 ?_
            refine z_iret hX hE (by decide) (by decide) dI_numberOfTrailingZeros_79 ?_
            refine zKe hK ?_
            rw [← e]
          · skip
            rw [nz1_f h64] at e
            refine z_iinc hX (2) (by decide) rfl (by decide) dI_numberOfTrailingZeros_67 ?_
            dsimp only [z_p1, z_p2, z_k, List.headD, List.tail]
            refine z_iload_n hX dI_numberOfTrailingZeros_70 rfl ?_
            refine z_iconst hX (2) dI_numberOfTrailingZeros_71 (by decide) ?_
            refine z_iushr hX dI_numberOfTrailingZeros_72 ?_
            refine z_istore_n hX 0 rfl (by decide) dI_numberOfTrailingZeros_73 ?_
            dsimp only [z_p1, z_p2, z_k, List.headD, List.tail]
            refine z_iload_n hX dI_numberOfTrailingZeros_74 rfl ?_
            refine z_iload_n hX dI_numberOfTrailingZeros_75 rfl ?_
            refine z_iconst hX (1) dI_numberOfTrailingZeros_76 (by decide) ?_
            refine z_iushr hX dI_numberOfTrailingZeros_77 ?_
            refine z_iadd hX dI_numberOfTrailingZeros_78 ?_
            refine z_iret hX hE (by decide) (by decide) dI_numberOfTrailingZeros_79 ?_
            refine zKe hK ?_
            rw [← e]
        · skip
          rw [nz1_f h52] at e
          refine z_iinc hX (4) (by decide) rfl (by decide) dI_numberOfTrailingZeros_55 ?_
          dsimp only [z_p1, z_p2, z_k, List.headD, List.tail]
          refine z_iload_n hX dI_numberOfTrailingZeros_58 rfl ?_
          refine z_iconst hX (4) dI_numberOfTrailingZeros_59 (by decide) ?_
          refine z_iushr hX dI_numberOfTrailingZeros_60 ?_
          refine z_istore_n hX 0 rfl (by decide) dI_numberOfTrailingZeros_61 ?_
          dsimp only [z_p1, z_p2, z_k, List.headD, List.tail]
          refine z_iload_n hX dI_numberOfTrailingZeros_62 rfl ?_
          refine z_iconst hX (4) dI_numberOfTrailingZeros_63 (by decide) ?_
          refine z_icmp_le hX 74 dI_numberOfTrailingZeros_64 (by decide) (fun h64 => ?_) (fun h64 => ?_)
          · skip
            rw [nz1_t h64] at e
            refine z_iload_n hX dI_numberOfTrailingZeros_74 rfl ?_
            refine z_iload_n hX dI_numberOfTrailingZeros_75 rfl ?_
            refine z_iconst hX (1) dI_numberOfTrailingZeros_76 (by decide) ?_
            refine z_iushr hX dI_numberOfTrailingZeros_77 ?_
            refine z_iadd hX dI_numberOfTrailingZeros_78 ?_
            refine z_iret hX hE (by decide) (by decide) dI_numberOfTrailingZeros_79 ?_
            refine zKe hK ?_
            rw [← e]
          · skip
            rw [nz1_f h64] at e
            refine z_iinc hX (2) (by decide) rfl (by decide) dI_numberOfTrailingZeros_67 ?_
            dsimp only [z_p1, z_p2, z_k, List.headD, List.tail]
            refine z_iload_n hX dI_numberOfTrailingZeros_70 rfl ?_
            refine z_iconst hX (2) dI_numberOfTrailingZeros_71 (by decide) ?_
            refine z_iushr hX dI_numberOfTrailingZeros_72 ?_
            refine z_istore_n hX 0 rfl (by decide) dI_numberOfTrailingZeros_73 ?_
            dsimp only [z_p1, z_p2, z_k, List.headD, List.tail]
            refine z_iload_n hX dI_numberOfTrailingZeros_74 rfl ?_
            refine z_iload_n hX dI_numberOfTrailingZeros_75 rfl ?_
            refine z_iconst hX (1) dI_numberOfTrailingZeros_76 (by decide) ?_
            refine z_iushr hX dI_numberOfTrailingZeros_77 ?_
            refine z_iadd hX dI_numberOfTrailingZeros_78 ?_
            refine z_iret hX hE (by decide) (by decide) dI_numberOfTrailingZeros_79 ?_
            refine zKe hK ?_
            rw [← e]
  · skip
    rw [if_neg h9] at e
    refine z_iload_n hX dI_numberOfTrailingZeros_12 rfl ?_
    refine z_bipush hX (32) dI_numberOfTrailingZeros_13 (by decide) ?_
    refine z_iand hX dI_numberOfTrailingZeros_15 ?_
    refine z_iret hX hE (by decide) (by decide) dI_numberOfTrailingZeros_16 ?_
    exact zKe hK (by rw [e])
theorem z_mabs {X : z_X} {l : Launch} {me : z_M} {rm : Room} {pc nx u v : Nat} {lv : List (Option Value)} {st : List Value} {P : z_H} (hX : z_is X l me rm) {idx : Nat} {x : Int64} (h1 : Cond.methodLink me.1.cls idx Lib.MathLoose.abs_long.x ∈ z_T) (hf : 1 ≤ rm.frames) (hlo : (st.map Value.category).sum + 13 ≤ rm.locals) (hu : u ≤ rm.cells) (hv : v ≤ rm.slots) (hd : decode me.2.1 pc = .ok (.invokestatic idx, 3)) (k : z_W X (pc + 3) lv (.long (if x < 0 then -x else x) :: st) P nx u v) : z_W X pc lv (.long x :: st) P nx u v := by
  obtain ⟨p, l, e, R, s, m, args, below, meth, c, cc, nL, own, D, cy, b, B, Q⟩ := X
  obtain ⟨yn, yc, yL, yr⟩ := me
  obtain ⟨⟨hx, hb, hml, hown, hts, hK, hB⟩, rfl, rfl, rfl, rfl, rfl⟩ := hX
  intro H locs ls hR hS hL
  refine va_mabs_long hx hb (hml.trans hL.1.symm) hown (hts _ h1) (hts _ wt_MA_abs) (hts _ wi_A) (hts _ wc_MA_abs) hf (by rw [z_catsum]; exact hlo) hu hv hd ?_
  have e : (if 0 < x then x else -x) = if x < 0 then -x else x := by
    by_cases q : x < 0
    · rw [if_pos q, if_neg (fun z => absurd (Int64.lt_trans q z) (Int64.lt_irrefl))]
    · rw [if_neg q]
      by_cases z : 0 < x
      · rw [if_pos z]
      · rw [if_neg z]
        have : x = 0 := by
          rw [l_lt] at q z
          rw [l_eq]
          have : (0 : Int64).toInt = 0 := rfl
          omega
        rw [this]
        rfl
  rw [e]
  exact k H locs ls hR hS hL
theorem l_abs : Cond.methodLink "RoadCounts$Counts" 58 Lib.MathLoose.abs_long.x ∈ z_T := (z_inT (List.mem_append_right _ (List.mem_of_getElem? (i := 334) (by decide +kernel))) rfl)
end
section
/-! the model's span, best; which roads; what comes in -/
def mSpanV (h : Nat → Bool) (a : Nat → Nat → Int32) (r s d : Nat) : Int64 := (a 79 (364 * r + d)).toInt64 * mWhole h a s / mShare h a s d
def mSpanS (g : Bool) (b v : Int64) : Int64 := if b = -1 then v else if g then (if b < v then v else b) else (if v < b then v else b)
def mSpanF (h : Nat → Bool) (a : Nat → Nat → Int32) (r s : Nat) (g : Bool) : Nat → Int64
  | 0 => -1
  | d + 1 => if mUsed h a r d then mSpanS g (mSpanF h a r s g d) (mSpanV h a r s d) else mSpanF h a r s g d
def mSpan (h : Nat → Bool) (a : Nat → Nat → Int32) (n : Nat) (sh : Nat → Nat) (r w : Int32) : Int64 := if 0 ≤ r.toInt ∧ r.toInt < n ∧ 0 ≤ w.toInt ∧ w.toInt ≤ 1 then mSpanF h a r.toInt.toNat (sh r.toInt.toNat) (decide (w = 1)) 364 else -1
def S8_span : z_PT := fun as P nx K => ∃ (iv : Nat → Int32) (h : Nat → Bool) (a : Nat → Nat → Int32) (ld : Nat → Int64) (n : Nat) (sh : Nat → Nat) (r w : Int32), as = [.ref 70, .int r, .int w] ∧ z_in (zM iv h a ld) P ∧ (mWf iv h a n sh) ∧ K (some (.long (mSpan h a n sh r w))) P nx
set_option maxRecDepth 4000 in
theorem sp8_span (l : Launch) : z_Sp l M8_span rM8_span S8_span := by
  refine z_enter (by decide) (fun as P nx K h => ?_) (fun X K as P nx hX hE hin0 hS => ?_)
  · obtain ⟨iv, h, a, ld, n, sh, r, w, rfl, -⟩ := h
    exact Nat.le_of_ble_eq_true rfl
  obtain ⟨iv, h, a, ld, n, sh, r, w, rfl, hM, p1, hK⟩ := hS
  refine z_pad 5 ?_
  show z_W X 0 [some (.ref 70), some (.int r), some (.int w), none, none, none, none, none] [] P nx 0 0
  obtain ⟨w1, w2, w3, w4, w5⟩ := p1
  refine z_aload_n hX d8_span_0 rfl ?_
  refine z_iload_n hX d8_span_1 rfl ?_
  refine z_callV1 hX (sp8_isRoad l) lm_8_112 (hM _ _ rfl) ⟨by decide, by decide, by decide, by decide⟩ (Nat.le_of_ble_eq_true rfl) d8_span_2 ?_
  refine ⟨iv, h, a, ld, n, r, rfl, hM, w1, w2, ?_⟩
  dsimp only [Option.toList, List.cons_append, List.nil_append]
  refine z_ifb_eq hX 18 d8_span_5 (by decide) (fun h5 => ?_) (fun h5 => ?_)
  · skip
    rw [decide_eq_false_iff_not] at h5
    have e : mSpan h a n sh r w = -1 := if_neg (fun q => h5 ⟨q.1, q.2.1⟩)
    rw [e] at hK
    refine z_ldc2 hX (-1) d8_span_18 lk_8_103 ?_
    refine z_lret hX hE (by decide) (by decide) d8_span_21 ?_
    exact hK
  · skip
    refine z_iload_n hX d8_span_8 rfl ?_
    refine z_i2l hX d8_span_9 ?_
    refine z_lconst hX 0 d8_span_10 (by decide) ?_
    refine z_lconst hX 1 d8_span_11 (by decide) ?_
    refine z_callS3 hX (sp8_lies l) lm_8_74 ⟨by decide, by decide, by decide, by decide⟩ (Nat.le_of_ble_eq_true rfl) d8_span_12 ?_
    refine ⟨_, _, _, rfl, ?_⟩
    rw [i2l_t, show (0 : Int64).toInt = 0 from rfl, show (1 : Int64).toInt = 1 from rfl]
    dsimp only [Option.toList, List.cons_append, List.nil_append]
    refine z_ifb_ne hX 22 d8_span_15 (by decide) (fun h15 => ?_) (fun h15 => ?_)
    · skip
      rw [decide_eq_true_eq] at h5 h15
      have e : mSpan h a n sh r w = mSpanF h a r.toInt.toNat (sh r.toInt.toNat) (decide (w = 1)) 364 := if_pos ⟨h5.1, h5.2, h15.1, h15.2⟩
      rw [e] at hK
      obtain ⟨j, hj, rfl⟩ := nI_rng h5.1 h5.2
      rw [tN (n := 12) (by omega) (by decide)] at hK
      have s1 := (w3 j (by omega)).1
      have s2 := (w3 j (by omega)).2
      have ew : ∀ g, decide (w = 1) = g → (w = 0 ↔ g = false) := by
        intro g hg
        have : (0 : Int32).toInt = 0 := rfl
        have : (1 : Int32).toInt = 1 := rfl
        rw [← hg, decide_eq_false_iff_not, i_eq, i_eq]
        omega
      obtain ⟨g, hg⟩ : ∃ g, decide (w = 1) = g := ⟨_, rfl⟩
      have ew := ew g hg
      rw [hg] at hK
      have loop : ∀ (k i : Nat), i + k = 364 → z_W X 29 [some (.ref 70), some (.int (nI j)), some (.int w), some (.long (mSpanF h a j (sh j) g i)), none, some (.int (nI i)), none, none] [] P nx 0 0 := by
        intro k
        induction k with
        | zero =>
          intro i hi
          have hi : i = 364 := by omega
          subst hi
          refine z_iload hX d8_span_29 rfl ?_
          refine z_sipush hX (364) d8_span_31 (by decide) ?_
          refine z_icmp_ge hX 132 d8_span_34 (by decide) (fun h34 => ?_) (fun h34 => ?_)
          rotate_left
          · exact absurd (by decide) h34
          refine z_lload_n hX d8_span_132 rfl ?_
          refine z_lret hX hE (by decide) (by decide) d8_span_133 ?_
          exact hK
        | succ k ih =>
          intro i hi
          have e1 : (364 : Int32) * nI j + nI i = nI (364 * j + i) := nI_ml 364 j i
          have := ih (i + 1) (by omega)
          unfold mSpanF at this
          refine z_iload hX d8_span_29 rfl ?_
          refine z_sipush hX (364) d8_span_31 (by decide) ?_
          refine z_icmp_ge hX 132 d8_span_34 (by decide) (fun h34 => ?_) (fun h34 => ?_)
          · exact absurd h34 (nI_ge (b := 364) (by omega) (by decide))
          refine z_aload_n hX d8_span_37 rfl ?_
          refine z_iload_n hX d8_span_38 rfl ?_
          refine z_iload hX d8_span_39 rfl ?_
          refine z_callV2 hX (sp8_isUsed l) lm_8_117 (hM _ _ rfl) ⟨by decide, by decide, by decide, by decide⟩ (Nat.le_of_ble_eq_true rfl) d8_span_41 ?_
          refine ⟨iv, h, a, ld, j, i, rfl, hM, by omega, by omega, ?_⟩
          dsimp only [Option.toList, List.cons_append, List.nil_append]
          refine z_ifb_ne hX 50 d8_span_44 (by decide) (fun h44 => ?_) (fun h44 => ?_)
          · skip
            rw [if_pos h44] at this
            refine z_aload_n hX d8_span_50 rfl ?_
            refine z_get hX lf_8_36 (hM _ _ rfl) rfl d8_span_51 ?_
            refine z_sipush hX (364) d8_span_54 (by decide) ?_
            refine z_iload_n hX d8_span_57 rfl ?_
            refine z_imul hX d8_span_58 ?_
            refine z_iload hX d8_span_59 rfl ?_
            refine z_iadd hX d8_span_61 ?_
            refine z_iald hX (hM _ _ rfl) (ix_in e1 (by omega) (by decide)) d8_span_62 ?_
            rw [ix_c e1 (by omega)]
            refine z_i2l hX d8_span_63 ?_
            refine z_aload_n hX d8_span_64 rfl ?_
            refine z_aload_n hX d8_span_65 rfl ?_
            refine z_get hX lf_8_33 (hM _ _ rfl) rfl d8_span_66 ?_
            refine z_iload_n hX d8_span_69 rfl ?_
            refine z_iald hX (hM _ _ rfl) (vp_in_nI (by omega) (by decide)) d8_span_70 ?_
            rw [nI_clamp (show j < 2 ^ 31 by omega), s1]
            refine z_callV1 hX (sp8_wholeOf l) lm_8_99 (hM _ _ rfl) ⟨by decide, by decide, by decide, by decide⟩ (Nat.le_of_ble_eq_true rfl) d8_span_71 ?_
            refine ⟨iv, h, a, ld, sh j, rfl, hM, s2, ?_⟩
            dsimp only [Option.toList, List.cons_append, List.nil_append]
            refine z_lmul hX d8_span_74 ?_
            refine z_aload_n hX d8_span_75 rfl ?_
            refine z_aload_n hX d8_span_76 rfl ?_
            refine z_get hX lf_8_33 (hM _ _ rfl) rfl d8_span_77 ?_
            refine z_iload_n hX d8_span_80 rfl ?_
            refine z_iald hX (hM _ _ rfl) (vp_in_nI (by omega) (by decide)) d8_span_81 ?_
            rw [nI_clamp (show j < 2 ^ 31 by omega), s1]
            refine z_iload hX d8_span_82 rfl ?_
            refine z_callV2 hX (sp8_share l) lm_8_95 (hM _ _ rfl) ⟨by decide, by decide, by decide, by decide⟩ (Nat.le_of_ble_eq_true rfl) d8_span_84 ?_
            refine ⟨iv, h, a, ld, sh j, i, rfl, hM, s2, by omega, ?_⟩
            dsimp only [Option.toList, List.cons_append, List.nil_append]
            refine z_ldiv hX d8_span_87 (w5 (sh j) i s2 (by omega)) ?_
            refine z_lstore hX (by decide) d8_span_88 ?_
            dsimp only [z_p1, z_p2, z_k, List.headD, List.tail]
            have this : z_W X 29 [some (.ref 70), some (.int (nI j)), some (.int w), some (.long (mSpanS g (mSpanF h a j (sh j) g i) ((a 79 (364 * j + i)).toInt64 * mWhole h a (sh j) / mShare h a (sh j) i))), none, some (.int (nI (i + 1))), none, none] [] P nx 0 0 := this
            unfold mSpanS at this
            refine z_lload_n hX d8_span_90 rfl ?_
            refine z_ldc2 hX (-1) d8_span_91 lk_8_103 ?_
            refine z_lcmp hX d8_span_94 ?_
            refine z_if_eq hX 119 d8_span_95 (by decide) (fun h95 => ?_) (fun h95 => ?_)
            · skip
              rw [lg_cmp_eq] at h95
              rw [if_pos h95] at this
              refine z_lload hX d8_span_119 rfl ?_
              refine z_goto hX 125 d8_span_121 (by decide) ?_
              refine z_lstore_n hX 3 rfl (by decide) d8_span_125 ?_
              dsimp only [z_p1, z_p2, z_k, List.headD, List.tail]
              refine z_iinc hX (1) (by decide) rfl (by decide) d8_span_126 ?_
              dsimp only [z_p1, z_p2, z_k, List.headD, List.tail]
              refine z_goto hX 29 d8_span_129 (by decide) ?_
              rw [nI_1]
              exact z_sub this (by repeat' (first | exact trivial | refine ⟨rfl, ?_⟩))
            · skip
              rw [lg_cmp_eq] at h95
              rw [if_neg h95] at this
              refine z_iload_n hX d8_span_98 rfl ?_
              refine z_if_ne hX 112 d8_span_99 (by decide) (fun h99 => ?_) (fun h99 => ?_)
              · skip
                rw [if_pos (by cases g with | false => exact absurd (ew.mpr rfl) h99 | true => rfl)] at this
                refine z_lload hX d8_span_112 rfl ?_
                refine z_lload_n hX d8_span_114 rfl ?_
                refine z_lcmp hX d8_span_115 ?_
                refine z_if_le hX 124 d8_span_116 (by decide) (fun h116 => ?_) (fun h116 => ?_)
                · skip
                  rw [lg_cmp_le] at h116
                  rw [if_neg (Int64.not_lt.mpr h116)] at this
                  refine z_lload_n hX d8_span_124 rfl ?_
                  refine z_lstore_n hX 3 rfl (by decide) d8_span_125 ?_
                  dsimp only [z_p1, z_p2, z_k, List.headD, List.tail]
                  refine z_iinc hX (1) (by decide) rfl (by decide) d8_span_126 ?_
                  dsimp only [z_p1, z_p2, z_k, List.headD, List.tail]
                  refine z_goto hX 29 d8_span_129 (by decide) ?_
                  rw [nI_1]
                  exact z_sub this (by repeat' (first | exact trivial | refine ⟨rfl, ?_⟩))
                · skip
                  rw [lg_cmp_le] at h116
                  rw [if_pos (Int64.not_le.mp h116)] at this
                  refine z_lload hX d8_span_119 rfl ?_
                  refine z_goto hX 125 d8_span_121 (by decide) ?_
                  refine z_lstore_n hX 3 rfl (by decide) d8_span_125 ?_
                  dsimp only [z_p1, z_p2, z_k, List.headD, List.tail]
                  refine z_iinc hX (1) (by decide) rfl (by decide) d8_span_126 ?_
                  dsimp only [z_p1, z_p2, z_k, List.headD, List.tail]
                  refine z_goto hX 29 d8_span_129 (by decide) ?_
                  rw [nI_1]
                  exact z_sub this (by repeat' (first | exact trivial | refine ⟨rfl, ?_⟩))
              · skip
                rw [if_neg (by rw [ew.mp h99]; decide)] at this
                refine z_lload hX d8_span_102 rfl ?_
                refine z_lload_n hX d8_span_104 rfl ?_
                refine z_lcmp hX d8_span_105 ?_
                refine z_if_ge hX 124 d8_span_106 (by decide) (fun h106 => ?_) (fun h106 => ?_)
                · skip
                  rw [lg_cmp_ge] at h106
                  rw [if_neg (Int64.not_lt.mpr h106)] at this
                  refine z_lload_n hX d8_span_124 rfl ?_
                  refine z_lstore_n hX 3 rfl (by decide) d8_span_125 ?_
                  dsimp only [z_p1, z_p2, z_k, List.headD, List.tail]
                  refine z_iinc hX (1) (by decide) rfl (by decide) d8_span_126 ?_
                  dsimp only [z_p1, z_p2, z_k, List.headD, List.tail]
                  refine z_goto hX 29 d8_span_129 (by decide) ?_
                  rw [nI_1]
                  exact z_sub this (by repeat' (first | exact trivial | refine ⟨rfl, ?_⟩))
                · skip
                  rw [lg_cmp_ge] at h106
                  rw [if_pos (Int64.not_le.mp h106)] at this
                  refine z_goto hX 119 d8_span_109 (by decide) ?_
                  refine z_lload hX d8_span_119 rfl ?_
                  refine z_goto hX 125 d8_span_121 (by decide) ?_
                  refine z_lstore_n hX 3 rfl (by decide) d8_span_125 ?_
                  dsimp only [z_p1, z_p2, z_k, List.headD, List.tail]
                  refine z_iinc hX (1) (by decide) rfl (by decide) d8_span_126 ?_
                  dsimp only [z_p1, z_p2, z_k, List.headD, List.tail]
                  refine z_goto hX 29 d8_span_129 (by decide) ?_
                  rw [nI_1]
                  exact z_sub this (by repeat' (first | exact trivial | refine ⟨rfl, ?_⟩))
          · skip
            rw [if_neg (by rw [h44]; decide)] at this
            refine z_goto hX 126 d8_span_47 (by decide) ?_
            refine z_iinc hX (1) (by decide) rfl (by decide) d8_span_126 ?_
            dsimp only [z_p1, z_p2, z_k, List.headD, List.tail]
            refine z_goto hX 29 d8_span_129 (by decide) ?_
            rw [nI_1]
            exact z_sub this (by repeat' (first | exact trivial | refine ⟨rfl, ?_⟩))
      refine z_ldc2 hX (-1) d8_span_22 lk_8_103 ?_
      refine z_lstore_n hX 3 rfl (by decide) d8_span_25 ?_
      dsimp only [z_p1, z_p2, z_k, List.headD, List.tail]
      refine z_iconst hX (0) d8_span_26 (by decide) ?_
      refine z_istore hX (by decide) d8_span_27 ?_
      dsimp only [z_p1, z_p2, z_k, List.headD, List.tail]
      exact loop 364 0 (by omega)
    · skip
      rw [decide_eq_false_iff_not] at h15
      have e : mSpan h a n sh r w = -1 := if_neg (fun q => h15 ⟨q.2.2.1, q.2.2.2⟩)
      rw [e] at hK
      refine z_ldc2 hX (-1) d8_span_18 lk_8_103 ?_
      refine z_lret hX hE (by decide) (by decide) d8_span_21 ?_
      exact hK
def mBestC (h : Nat → Bool) (a : Nat → Nat → Int32) (r s b : Nat) : Bool := decide (mMisfit h a r s * mShares h a r b < mMisfit h a r b * mShares h a r s)
def mBestF (h : Nat → Bool) (a : Nat → Nat → Int32) (r : Nat) : Nat → Nat
  | 0 => 0
  | k + 1 => if mBestC h a r (k + 1) (mBestF h a r k) then k + 1 else mBestF h a r k
theorem mBestF_le (h : Nat → Bool) (a : Nat → Nat → Int32) (r : Nat) : ∀ k, mBestF h a r k ≤ k
  | 0 => Nat.le_refl 0
  | k + 1 => by
    have := mBestF_le h a r k
    unfold mBestF
    split <;> omega
def mBest (h : Nat → Bool) (a : Nat → Nat → Int32) (n : Nat) (r : Int32) : Int32 := if 0 ≤ r.toInt ∧ r.toInt < n ∧ 0 < zC (mUsed h a r.toInt.toNat) 364 then nI (mBestF h a r.toInt.toNat 3) else -1
def S8_best : z_PT := fun as P nx K => ∃ (iv : Nat → Int32) (h : Nat → Bool) (a : Nat → Nat → Int32) (ld : Nat → Int64) (n : Nat) (sh : Nat → Nat) (r : Int32), as = [.ref 70, .int r] ∧ z_in (zM iv h a ld) P ∧ (mWf iv h a n sh) ∧ K (some (.int (mBest h a n r))) P nx
set_option maxRecDepth 4000 in
theorem sp8_best (l : Launch) : z_Sp l M8_best rM8_best S8_best := by
  refine z_enter (by decide) (fun as P nx K h => ?_) (fun X K as P nx hX hE hin0 hS => ?_)
  · obtain ⟨iv, h, a, ld, n, sh, r, rfl, -⟩ := h
    exact Nat.le_of_ble_eq_true rfl
  obtain ⟨iv, h, a, ld, n, sh, r, rfl, hM, p1, hK⟩ := hS
  refine z_pad 2 ?_
  show z_W X 0 [some (.ref 70), some (.int r), none, none] [] P nx 0 0
  obtain ⟨w1, w2, w3, w4, w5⟩ := p1
  refine z_aload_n hX d8_best_0 rfl ?_
  refine z_iload_n hX d8_best_1 rfl ?_
  refine z_callV1 hX (sp8_isRoad l) lm_8_112 (hM _ _ rfl) ⟨by decide, by decide, by decide, by decide⟩ (Nat.le_of_ble_eq_true rfl) d8_best_2 ?_
  refine ⟨iv, h, a, ld, n, r, rfl, hM, w1, w2, ?_⟩
  dsimp only [Option.toList, List.cons_append, List.nil_append]
  refine z_ifb_eq hX 16 d8_best_5 (by decide) (fun h5 => ?_) (fun h5 => ?_)
  · skip
    rw [decide_eq_false_iff_not] at h5
    rw [show mBest h a n r = -1 from if_neg (fun q => h5 ⟨q.1, q.2.1⟩)] at hK
    refine z_iconst hX (-1) d8_best_16 (by decide) ?_
    refine z_iret hX hE (by decide) (by decide) d8_best_17 ?_
    exact hK
  · skip
    rw [decide_eq_true_eq] at h5
    obtain ⟨j, hj, rfl⟩ := nI_rng h5.1 h5.2
    unfold mBest at hK
    rw [tN (n := 12) (by omega) (by decide)] at hK
    have hc := zC_le (mUsed h a j) 364
    refine z_aload_n hX d8_best_8 rfl ?_
    refine z_iload_n hX d8_best_9 rfl ?_
    refine z_callV1 hX (sp8_usedOf l) lm_8_127 (hM _ _ rfl) ⟨by decide, by decide, by decide, by decide⟩ (Nat.le_of_ble_eq_true rfl) d8_best_10 ?_
    refine ⟨iv, h, a, ld, j, rfl, hM, by omega, ?_⟩
    dsimp only [Option.toList, List.cons_append, List.nil_append]
    refine z_if_ne hX 18 d8_best_13 (by decide) (fun h13 => ?_) (fun h13 => ?_)
    · skip
      rw [i_eq, nI_toInt (by omega), show (0 : Int32).toInt = 0 from rfl] at h13
      rw [if_pos ⟨h5.1, h5.2, by omega⟩] at hK
      have loop : ∀ (k i : Nat), i + k = 3 → z_W X 22 [some (.ref 70), some (.int (nI j)), some (.int (nI (mBestF h a j i))), some (.int (nI (i + 1)))] [] P nx 0 0 := by
        intro k
        induction k with
        | zero =>
          intro i hi
          have hi : i = 3 := by omega
          subst hi
          refine z_iload_n hX d8_best_22 rfl ?_
          refine z_iconst hX (4) d8_best_23 (by decide) ?_
          refine z_icmp_ge hX 65 d8_best_24 (by decide) (fun h24 => ?_) (fun h24 => ?_)
          rotate_left
          · exact absurd (by decide) h24
          refine z_iload_n hX d8_best_65 rfl ?_
          refine z_iret hX hE (by decide) (by decide) d8_best_66 ?_
          exact hK
        | succ k ih =>
          intro i hi
          have := ih (i + 1) (by omega)
          have hb := mBestF_le h a j i
          unfold mBestF at this
          refine z_iload_n hX d8_best_22 rfl ?_
          refine z_iconst hX (4) d8_best_23 (by decide) ?_
          refine z_icmp_ge hX 65 d8_best_24 (by decide) (fun h24 => ?_) (fun h24 => ?_)
          · exact absurd h24 (nI_ge (b := 4) (by omega) (by decide))
          refine z_aload_n hX d8_best_27 rfl ?_
          refine z_iload_n hX d8_best_28 rfl ?_
          refine z_iload_n hX d8_best_29 rfl ?_
          refine z_callV2 hX (sp8_misfit l) lm_8_138 (hM _ _ rfl) ⟨by decide, by decide, by decide, by decide⟩ (Nat.le_of_ble_eq_true rfl) d8_best_30 ?_
          refine ⟨iv, h, a, ld, j, i + 1, rfl, hM, by omega, by omega, ?_⟩
          dsimp only [Option.toList, List.cons_append, List.nil_append]
          refine z_aload_n hX d8_best_33 rfl ?_
          refine z_iload_n hX d8_best_34 rfl ?_
          refine z_iload_n hX d8_best_35 rfl ?_
          refine z_callV2 hX (sp8_sharesOf l) lm_8_124 (hM _ _ rfl) ⟨by decide, by decide, by decide, by decide⟩ (Nat.le_of_ble_eq_true rfl) d8_best_36 ?_
          refine ⟨iv, h, a, ld, j, _, rfl, hM, by omega, by omega, ?_⟩
          dsimp only [Option.toList, List.cons_append, List.nil_append]
          refine z_lmul hX d8_best_39 ?_
          refine z_aload_n hX d8_best_40 rfl ?_
          refine z_iload_n hX d8_best_41 rfl ?_
          refine z_iload_n hX d8_best_42 rfl ?_
          refine z_callV2 hX (sp8_misfit l) lm_8_138 (hM _ _ rfl) ⟨by decide, by decide, by decide, by decide⟩ (Nat.le_of_ble_eq_true rfl) d8_best_43 ?_
          refine ⟨iv, h, a, ld, j, _, rfl, hM, by omega, by omega, ?_⟩
          dsimp only [Option.toList, List.cons_append, List.nil_append]
          refine z_aload_n hX d8_best_46 rfl ?_
          refine z_iload_n hX d8_best_47 rfl ?_
          refine z_iload_n hX d8_best_48 rfl ?_
          refine z_callV2 hX (sp8_sharesOf l) lm_8_124 (hM _ _ rfl) ⟨by decide, by decide, by decide, by decide⟩ (Nat.le_of_ble_eq_true rfl) d8_best_49 ?_
          refine ⟨iv, h, a, ld, j, i + 1, rfl, hM, by omega, by omega, ?_⟩
          dsimp only [Option.toList, List.cons_append, List.nil_append]
          refine z_lmul hX d8_best_52 ?_
          refine z_lcmp hX d8_best_53 ?_
          refine z_if_ge hX 59 d8_best_54 (by decide) (fun h54 => ?_) (fun h54 => ?_)
          · skip
            rw [lg_cmp_ge] at h54
            rw [if_neg (by unfold mBestC; rw [decide_eq_true_eq]; exact Int64.not_lt.mpr h54)] at this
            refine z_iinc hX (1) (by decide) rfl (by decide) d8_best_59 ?_
            dsimp only [z_p1, z_p2, z_k, List.headD, List.tail]
            refine z_goto hX 22 d8_best_62 (by decide) ?_
            rw [nI_1]
            exact this
          · skip
            rw [lg_cmp_ge] at h54
            rw [if_pos (by unfold mBestC; rw [decide_eq_true_eq]; exact Int64.not_le.mp h54)] at this
            refine z_iload_n hX d8_best_57 rfl ?_
            refine z_istore_n hX 2 rfl (by decide) d8_best_58 ?_
            dsimp only [z_p1, z_p2, z_k, List.headD, List.tail]
            refine z_iinc hX (1) (by decide) rfl (by decide) d8_best_59 ?_
            dsimp only [z_p1, z_p2, z_k, List.headD, List.tail]
            refine z_goto hX 22 d8_best_62 (by decide) ?_
            rw [nI_1]
            exact this
      refine z_iconst hX (0) d8_best_18 (by decide) ?_
      refine z_istore_n hX 2 rfl (by decide) d8_best_19 ?_
      dsimp only [z_p1, z_p2, z_k, List.headD, List.tail]
      refine z_iconst hX (1) d8_best_20 (by decide) ?_
      refine z_istore_n hX 3 rfl (by decide) d8_best_21 ?_
      dsimp only [z_p1, z_p2, z_k, List.headD, List.tail]
      exact loop 3 0 (by omega)
    · skip
      rw [i_eq, nI_toInt (by omega), show (0 : Int32).toInt = 0 from rfl] at h13
      rw [if_neg (by omega)] at hK
      refine z_iconst hX (-1) d8_best_16 (by decide) ?_
      refine z_iret hX hE (by decide) (by decide) d8_best_17 ?_
      exact hK
/-- the roads at a junction -/
def mAt (a : Nat → Nat → Int32) (n : Nat) (j : Int32) : Nat := zbt (fun r => decide (a 75 r = j ∨ a 76 r = j)) n
def S8_roadsAt : z_PT := fun as P nx K => ∃ (iv : Nat → Int32) (h : Nat → Bool) (a : Nat → Nat → Int32) (ld : Nat → Int64) (n : Nat) (j : Int32), as = [.ref 70, .int j] ∧ z_in (zM iv h a ld) P ∧ (iv 2 = nI n) ∧ (n ≤ 12) ∧ K (some (.int (nI (mAt a n j)))) P nx
set_option maxRecDepth 4000 in
theorem sp8_roadsAt (l : Launch) : z_Sp l M8_roadsAt rM8_roadsAt S8_roadsAt := by
  refine z_enter (by decide) (fun as P nx K h => ?_) (fun X K as P nx hX hE hin0 hS => ?_)
  · obtain ⟨iv, h, a, ld, n, j, rfl, -⟩ := h
    exact Nat.le_of_ble_eq_true rfl
  obtain ⟨iv, h, a, ld, n, j, rfl, hM, p1, p2, hK⟩ := hS
  refine z_pad 2 ?_
  show z_W X 0 [some (.ref 70), some (.int j), none, none] [] P nx 0 0
  have loop : ∀ (k i : Nat), i + k = n → z_W X 4 [some (.ref 70), some (.int j), some (.int (nI (zbt (fun r => decide (a 75 r = j ∨ a 76 r = j)) i))), some (.int (nI i))] [] P nx 0 0 := by
    intro k
    induction k with
    | zero =>
      intro i hi
      have hi : i = n := by omega
      subst hi
      refine z_iload_n hX d8_roadsAt_4 rfl ?_
      refine z_aload_n hX d8_roadsAt_5 rfl ?_
      refine z_get hX lf_8_70 (hM _ _ rfl) rfl d8_roadsAt_6 ?_
      rw [p1]
      refine z_icmp_ge hX 48 d8_roadsAt_9 (by decide) (fun h9 => ?_) (fun h9 => ?_)
      rotate_left
      · exact absurd (Int32.le_refl _) h9
      refine z_iload_n hX d8_roadsAt_48 rfl ?_
      refine z_iret hX hE (by decide) (by decide) d8_roadsAt_49 ?_
      exact hK
    | succ k ih =>
      intro i hi
      have := ih (i + 1) (by omega)
      unfold zbt at this
      refine z_iload_n hX d8_roadsAt_4 rfl ?_
      refine z_aload_n hX d8_roadsAt_5 rfl ?_
      refine z_get hX lf_8_70 (hM _ _ rfl) rfl d8_roadsAt_6 ?_
      rw [p1]
      refine z_icmp_ge hX 48 d8_roadsAt_9 (by decide) (fun h9 => ?_) (fun h9 => ?_)
      · exact absurd h9 (nI_ge (by omega) (by omega))
      refine z_iload_n hX d8_roadsAt_12 rfl ?_
      refine z_aload_n hX d8_roadsAt_13 rfl ?_
      refine z_get hX lf_8_24 (hM _ _ rfl) rfl d8_roadsAt_14 ?_
      refine z_iload_n hX d8_roadsAt_17 rfl ?_
      refine z_iald hX (hM _ _ rfl) (vp_in_nI (by omega) (by decide)) d8_roadsAt_18 ?_
      rw [nI_clamp (show i < 2 ^ 31 by omega)]
      refine z_iload_n hX d8_roadsAt_19 rfl ?_
      refine z_icmp_eq hX 33 d8_roadsAt_20 (by decide) (fun h20 => ?_) (fun h20 => ?_)
      · skip
        rw [if_pos (decide_eq_true (Or.inl h20))] at this
        refine z_iconst hX (1) d8_roadsAt_33 (by decide) ?_
        refine z_iload_n hX d8_roadsAt_34 rfl ?_
        refine z_ishl hX d8_roadsAt_35 ?_
        rw [sh1 (by omega)]
        refine z_goto hX 40 d8_roadsAt_36 (by decide) ?_
        refine z_ior hX d8_roadsAt_40 ?_
        try rw [show ∀ z : Nat, nI z ||| 0 = nI z ||| nI 0 from fun _ => rfl]
        refine z_istore_n hX 2 rfl (by decide) d8_roadsAt_41 ?_
        dsimp only [z_p1, z_p2, z_k, List.headD, List.tail]
        refine z_iinc hX (1) (by decide) rfl (by decide) d8_roadsAt_42 ?_
        dsimp only [z_p1, z_p2, z_k, List.headD, List.tail]
        refine z_goto hX 4 d8_roadsAt_45 (by decide) ?_
        rw [nI_1, fa_or]
        exact this
      · skip
        refine z_aload_n hX d8_roadsAt_23 rfl ?_
        refine z_get hX lf_8_27 (hM _ _ rfl) rfl d8_roadsAt_24 ?_
        refine z_iload_n hX d8_roadsAt_27 rfl ?_
        refine z_iald hX (hM _ _ rfl) (vp_in_nI (by omega) (by decide)) d8_roadsAt_28 ?_
        rw [nI_clamp (show i < 2 ^ 31 by omega)]
        refine z_iload_n hX d8_roadsAt_29 rfl ?_
        refine z_icmp_ne hX 39 d8_roadsAt_30 (by decide) (fun h30 => ?_) (fun h30 => ?_)
        · skip
          rw [if_neg (by rw [decide_eq_true_eq]; exact fun q => q.elim h20 h30)] at this
          refine z_iconst hX (0) d8_roadsAt_39 (by decide) ?_
          refine z_ior hX d8_roadsAt_40 ?_
          try rw [show ∀ z : Nat, nI z ||| 0 = nI z ||| nI 0 from fun _ => rfl]
          refine z_istore_n hX 2 rfl (by decide) d8_roadsAt_41 ?_
          dsimp only [z_p1, z_p2, z_k, List.headD, List.tail]
          refine z_iinc hX (1) (by decide) rfl (by decide) d8_roadsAt_42 ?_
          dsimp only [z_p1, z_p2, z_k, List.headD, List.tail]
          refine z_goto hX 4 d8_roadsAt_45 (by decide) ?_
          rw [nI_1, fa_or]
          exact this
        · skip
          rw [if_pos (decide_eq_true (Or.inr h30))] at this
          refine z_iconst hX (1) d8_roadsAt_33 (by decide) ?_
          refine z_iload_n hX d8_roadsAt_34 rfl ?_
          refine z_ishl hX d8_roadsAt_35 ?_
          rw [sh1 (by omega)]
          refine z_goto hX 40 d8_roadsAt_36 (by decide) ?_
          refine z_ior hX d8_roadsAt_40 ?_
          try rw [show ∀ z : Nat, nI z ||| 0 = nI z ||| nI 0 from fun _ => rfl]
          refine z_istore_n hX 2 rfl (by decide) d8_roadsAt_41 ?_
          dsimp only [z_p1, z_p2, z_k, List.headD, List.tail]
          refine z_iinc hX (1) (by decide) rfl (by decide) d8_roadsAt_42 ?_
          dsimp only [z_p1, z_p2, z_k, List.headD, List.tail]
          refine z_goto hX 4 d8_roadsAt_45 (by decide) ?_
          rw [nI_1, fa_or]
          exact this
  refine z_iconst hX (0) d8_roadsAt_0 (by decide) ?_
  refine z_istore_n hX 2 rfl (by decide) d8_roadsAt_1 ?_
  dsimp only [z_p1, z_p2, z_k, List.headD, List.tail]
  refine z_iconst hX (0) d8_roadsAt_2 (by decide) ?_
  refine z_istore_n hX 3 rfl (by decide) d8_roadsAt_3 ?_
  dsimp only [z_p1, z_p2, z_k, List.headD, List.tail]
  exact loop n 0 (by omega)
def mKn (h : Nat → Bool) (a : Nat → Nat → Int32) (n : Nat) : Nat := zbt (fun r => decide (0 < zC (mUsed h a r) 364)) n
def S8_knownRoads : z_PT := fun as P nx K => ∃ (iv : Nat → Int32) (h : Nat → Bool) (a : Nat → Nat → Int32) (ld : Nat → Int64) (n : Nat), as = [.ref 70] ∧ z_in (zM iv h a ld) P ∧ (iv 2 = nI n) ∧ (n ≤ 12) ∧ K (some (.int (nI (mKn h a n)))) P nx
set_option maxRecDepth 4000 in
theorem sp8_knownRoads (l : Launch) : z_Sp l M8_knownRoads rM8_knownRoads S8_knownRoads := by
  refine z_enter (by decide) (fun as P nx K h => ?_) (fun X K as P nx hX hE hin0 hS => ?_)
  · obtain ⟨iv, h, a, ld, n, rfl, -⟩ := h
    exact Nat.le_of_ble_eq_true rfl
  obtain ⟨iv, h, a, ld, n, rfl, hM, p1, p2, hK⟩ := hS
  refine z_pad 2 ?_
  show z_W X 0 [some (.ref 70), none, none] [] P nx 0 0
  have loop : ∀ (k i : Nat), i + k = n → z_W X 4 [some (.ref 70), some (.int (nI (zbt (fun r => decide (0 < zC (mUsed h a r) 364)) i))), some (.int (nI i))] [] P nx 0 0 := by
    intro k
    induction k with
    | zero =>
      intro i hi
      have hi : i = n := by omega
      subst hi
      refine z_iload_n hX d8_knownRoads_4 rfl ?_
      refine z_aload_n hX d8_knownRoads_5 rfl ?_
      refine z_get hX lf_8_70 (hM _ _ rfl) rfl d8_knownRoads_6 ?_
      rw [p1]
      refine z_icmp_ge hX 36 d8_knownRoads_9 (by decide) (fun h9 => ?_) (fun h9 => ?_)
      rotate_left
      · exact absurd (Int32.le_refl _) h9
      refine z_iload_n hX d8_knownRoads_36 rfl ?_
      refine z_iret hX hE (by decide) (by decide) d8_knownRoads_37 ?_
      exact hK
    | succ k ih =>
      intro i hi
      have := ih (i + 1) (by omega)
      unfold zbt at this
      have hc := zC_le (mUsed h a i) 364
      refine z_iload_n hX d8_knownRoads_4 rfl ?_
      refine z_aload_n hX d8_knownRoads_5 rfl ?_
      refine z_get hX lf_8_70 (hM _ _ rfl) rfl d8_knownRoads_6 ?_
      rw [p1]
      refine z_icmp_ge hX 36 d8_knownRoads_9 (by decide) (fun h9 => ?_) (fun h9 => ?_)
      · exact absurd h9 (nI_ge (by omega) (by omega))
      refine z_iload_n hX d8_knownRoads_12 rfl ?_
      refine z_aload_n hX d8_knownRoads_13 rfl ?_
      refine z_iload_n hX d8_knownRoads_14 rfl ?_
      refine z_callV1 hX (sp8_usedOf l) lm_8_127 (hM _ _ rfl) ⟨by decide, by decide, by decide, by decide⟩ (Nat.le_of_ble_eq_true rfl) d8_knownRoads_15 ?_
      refine ⟨iv, h, a, ld, i, rfl, hM, by omega, ?_⟩
      dsimp only [Option.toList, List.cons_append, List.nil_append]
      refine z_if_le hX 27 d8_knownRoads_18 (by decide) (fun h18 => ?_) (fun h18 => ?_)
      · skip
        rw [i_le, nI_toInt (by omega), show (0 : Int32).toInt = 0 from rfl] at h18
        rw [if_neg (by rw [decide_eq_true_eq]; omega)] at this
        refine z_iconst hX (0) d8_knownRoads_27 (by decide) ?_
        refine z_ior hX d8_knownRoads_28 ?_
        try rw [show ∀ z : Nat, nI z ||| 0 = nI z ||| nI 0 from fun _ => rfl]
        refine z_istore_n hX 1 rfl (by decide) d8_knownRoads_29 ?_
        dsimp only [z_p1, z_p2, z_k, List.headD, List.tail]
        refine z_iinc hX (1) (by decide) rfl (by decide) d8_knownRoads_30 ?_
        dsimp only [z_p1, z_p2, z_k, List.headD, List.tail]
        refine z_goto hX 4 d8_knownRoads_33 (by decide) ?_
        rw [nI_1, fa_or]
        exact this
      · skip
        rw [i_le, nI_toInt (by omega), show (0 : Int32).toInt = 0 from rfl] at h18
        rw [if_pos (by rw [decide_eq_true_eq]; omega)] at this
        refine z_iconst hX (1) d8_knownRoads_21 (by decide) ?_
        refine z_iload_n hX d8_knownRoads_22 rfl ?_
        refine z_ishl hX d8_knownRoads_23 ?_
        rw [sh1 (by omega)]
        refine z_goto hX 28 d8_knownRoads_24 (by decide) ?_
        refine z_ior hX d8_knownRoads_28 ?_
        try rw [show ∀ z : Nat, nI z ||| 0 = nI z ||| nI 0 from fun _ => rfl]
        refine z_istore_n hX 1 rfl (by decide) d8_knownRoads_29 ?_
        dsimp only [z_p1, z_p2, z_k, List.headD, List.tail]
        refine z_iinc hX (1) (by decide) rfl (by decide) d8_knownRoads_30 ?_
        dsimp only [z_p1, z_p2, z_k, List.headD, List.tail]
        refine z_goto hX 4 d8_knownRoads_33 (by decide) ?_
        rw [nI_1, fa_or]
        exact this
  refine z_iconst hX (0) d8_knownRoads_0 (by decide) ?_
  refine z_istore_n hX 1 rfl (by decide) d8_knownRoads_1 ?_
  dsimp only [z_p1, z_p2, z_k, List.headD, List.tail]
  refine z_iconst hX (0) d8_knownRoads_2 (by decide) ?_
  refine z_istore_n hX 2 rfl (by decide) d8_knownRoads_3 ?_
  dsimp only [z_p1, z_p2, z_k, List.headD, List.tail]
  exact loop n 0 (by omega)
def mExT (a : Nat → Nat → Int32) (ld : Nat → Int64) (j : Int32) (set r : Nat) : Int64 := if a 76 r = j then ld r else if a 75 r = j then -ld r else 0
def mEx (a : Nat → Nat → Int32) (ld : Nat → Int64) (j : Int32) (set : Nat) : Nat → Int64
  | 0 => 0
  | r + 1 => if set.testBit r then mEx a ld j set r + mExT a ld j set r else mEx a ld j set r
def S8_excess : z_PT := fun as P nx K => ∃ (iv : Nat → Int32) (h : Nat → Bool) (a : Nat → Nat → Int32) (ld : Nat → Int64) (n : Nat) (j : Int32) (set : Nat), as = [.ref 70, .int j, .int (nI set)] ∧ z_in (zM iv h a ld) P ∧ (iv 2 = nI n) ∧ (n ≤ 12) ∧ (set < 4096) ∧ K (some (.long (mEx a ld j set n))) P nx
set_option maxRecDepth 4000 in
theorem sp8_excess (l : Launch) : z_Sp l M8_excess rM8_excess S8_excess := by
  refine z_enter (by decide) (fun as P nx K h => ?_) (fun X K as P nx hX hE hin0 hS => ?_)
  · obtain ⟨iv, h, a, ld, n, j, set, rfl, -⟩ := h
    exact Nat.le_of_ble_eq_true rfl
  obtain ⟨iv, h, a, ld, n, j, set, rfl, hM, p1, p2, p3, hK⟩ := hS
  refine z_pad 3 ?_
  show z_W X 0 [some (.ref 70), some (.int j), some (.int (nI set)), none, none, none] [] P nx 0 0
  have loop : ∀ (k i : Nat), i + k = n → z_W X 5 [some (.ref 70), some (.int j), some (.int (nI set)), some (.long (mEx a ld j set i)), none, some (.int (nI i))] [] P nx 0 0 := by
    intro k
    induction k with
    | zero =>
      intro i hi
      have hi : i = n := by omega
      subst hi
      refine z_iload hX d8_excess_5 rfl ?_
      refine z_aload_n hX d8_excess_7 rfl ?_
      refine z_get hX lf_8_70 (hM _ _ rfl) rfl d8_excess_8 ?_
      rw [p1]
      refine z_icmp_ge hX 79 d8_excess_11 (by decide) (fun h11 => ?_) (fun h11 => ?_)
      rotate_left
      · exact absurd (Int32.le_refl _) h11
      refine z_lload_n hX d8_excess_79 rfl ?_
      refine z_lret hX hE (by decide) (by decide) d8_excess_80 ?_
      exact hK
    | succ k ih =>
      intro i hi
      have := ih (i + 1) (by omega)
      unfold mEx at this
      refine z_iload hX d8_excess_5 rfl ?_
      refine z_aload_n hX d8_excess_7 rfl ?_
      refine z_get hX lf_8_70 (hM _ _ rfl) rfl d8_excess_8 ?_
      rw [p1]
      refine z_icmp_ge hX 79 d8_excess_11 (by decide) (fun h11 => ?_) (fun h11 => ?_)
      · exact absurd h11 (nI_ge (by omega) (by omega))
      refine z_iload_n hX d8_excess_14 rfl ?_
      refine z_iload hX d8_excess_15 rfl ?_
      refine z_callS2 hX (sp8_has l) lm_8_141 ⟨by decide, by decide, by decide, by decide⟩ (Nat.le_of_ble_eq_true rfl) d8_excess_17 ?_
      refine ⟨set, i, rfl, by omega, by omega, ?_⟩
      dsimp only [Option.toList, List.cons_append, List.nil_append]
      refine z_ifb_ne hX 26 d8_excess_20 (by decide) (fun h20 => ?_) (fun h20 => ?_)
      · skip
        rw [if_pos h20] at this
        unfold mExT at this
        refine z_lload_n hX d8_excess_26 rfl ?_
        refine z_aload_n hX d8_excess_27 rfl ?_
        refine z_get hX lf_8_27 (hM _ _ rfl) rfl d8_excess_28 ?_
        refine z_iload hX d8_excess_31 rfl ?_
        refine z_iald hX (hM _ _ rfl) (vp_in_nI (by omega) (by decide)) d8_excess_33 ?_
        rw [nI_clamp (show i < 2 ^ 31 by omega)]
        refine z_iload_n hX d8_excess_34 rfl ?_
        refine z_icmp_ne hX 48 d8_excess_35 (by decide) (fun h35 => ?_) (fun h35 => ?_)
        · skip
          rw [if_neg h35] at this
          refine z_aload_n hX d8_excess_48 rfl ?_
          refine z_get hX lf_8_24 (hM _ _ rfl) rfl d8_excess_49 ?_
          refine z_iload hX d8_excess_52 rfl ?_
          refine z_iald hX (hM _ _ rfl) (vp_in_nI (by omega) (by decide)) d8_excess_54 ?_
          rw [nI_clamp (show i < 2 ^ 31 by omega)]
          refine z_iload_n hX d8_excess_55 rfl ?_
          refine z_icmp_ne hX 70 d8_excess_56 (by decide) (fun h56 => ?_) (fun h56 => ?_)
          · skip
            rw [if_neg h56] at this
            refine z_lconst hX 0 d8_excess_70 (by decide) ?_
            refine z_ladd hX d8_excess_71 ?_
            refine z_lstore_n hX 3 rfl (by decide) d8_excess_72 ?_
            dsimp only [z_p1, z_p2, z_k, List.headD, List.tail]
            refine z_iinc hX (1) (by decide) rfl (by decide) d8_excess_73 ?_
            dsimp only [z_p1, z_p2, z_k, List.headD, List.tail]
            refine z_goto hX 5 d8_excess_76 (by decide) ?_
            rw [nI_1]
            exact this
          · skip
            rw [if_pos h56] at this
            refine z_aload_n hX d8_excess_59 rfl ?_
            refine z_get hX lf_8_63 (hM _ _ rfl) rfl d8_excess_60 ?_
            refine z_iload hX d8_excess_63 rfl ?_
            refine z_lald hX (hM _ _ rfl) (vp_in_nI (by omega) (by decide)) d8_excess_65 ?_
            rw [nI_clamp (show i < 2 ^ 31 by omega)]
            refine z_lneg hX d8_excess_66 ?_
            refine z_goto hX 71 d8_excess_67 (by decide) ?_
            refine z_ladd hX d8_excess_71 ?_
            refine z_lstore_n hX 3 rfl (by decide) d8_excess_72 ?_
            dsimp only [z_p1, z_p2, z_k, List.headD, List.tail]
            refine z_iinc hX (1) (by decide) rfl (by decide) d8_excess_73 ?_
            dsimp only [z_p1, z_p2, z_k, List.headD, List.tail]
            refine z_goto hX 5 d8_excess_76 (by decide) ?_
            rw [nI_1]
            exact this
        · skip
          rw [if_pos h35] at this
          refine z_aload_n hX d8_excess_38 rfl ?_
          refine z_get hX lf_8_63 (hM _ _ rfl) rfl d8_excess_39 ?_
          refine z_iload hX d8_excess_42 rfl ?_
          refine z_lald hX (hM _ _ rfl) (vp_in_nI (by omega) (by decide)) d8_excess_44 ?_
          rw [nI_clamp (show i < 2 ^ 31 by omega)]
          refine z_goto hX 71 d8_excess_45 (by decide) ?_
          refine z_ladd hX d8_excess_71 ?_
          refine z_lstore_n hX 3 rfl (by decide) d8_excess_72 ?_
          dsimp only [z_p1, z_p2, z_k, List.headD, List.tail]
          refine z_iinc hX (1) (by decide) rfl (by decide) d8_excess_73 ?_
          dsimp only [z_p1, z_p2, z_k, List.headD, List.tail]
          refine z_goto hX 5 d8_excess_76 (by decide) ?_
          rw [nI_1]
          exact this
      · skip
        rw [if_neg (by rw [h20]; decide)] at this
        refine z_goto hX 73 d8_excess_23 (by decide) ?_
        refine z_iinc hX (1) (by decide) rfl (by decide) d8_excess_73 ?_
        dsimp only [z_p1, z_p2, z_k, List.headD, List.tail]
        refine z_goto hX 5 d8_excess_76 (by decide) ?_
        rw [nI_1]
        exact this
  refine z_lconst hX 0 d8_excess_0 (by decide) ?_
  refine z_lstore_n hX 3 rfl (by decide) d8_excess_1 ?_
  dsimp only [z_p1, z_p2, z_k, List.headD, List.tail]
  refine z_iconst hX (0) d8_excess_2 (by decide) ?_
  refine z_istore hX (by decide) d8_excess_3 ?_
  dsimp only [z_p1, z_p2, z_k, List.headD, List.tail]
  exact loop n 0 (by omega)
end
section
/-! what follows: pure, and the model's walk -/
/-- one junction's turn over a set; turns j .. j + k - 1; rounds till nothing changes -/
def aS (A : Nat → Nat) (j all : Nat) : Nat := if zpop (zsd (A j) all) = 1 then all ||| zsd (A j) all else all
def aF (A : Nat → Nat) : Nat → Nat → Nat → Nat
  | 0, _, all => all
  | k + 1, j, all => aF A k (j + 1) (aS A j all)
def aL (A : Nat → Nat) : Nat → Nat → Nat
  | 0, all => all
  | f + 1, all => if aF A 8 0 all = all then aF A 8 0 all else aL A f (aF A 8 0 all)
def mA (a : Nat → Nat → Int32) (n : Nat) : Nat → Nat := fun j => mAt a n (nI j)
def gS (a : Nat → Nat → Int32) (n j : Nat) (q : Nat × (Nat → Int64)) : Nat × (Nat → Int64) :=
  if zpop (zsd (mA a n j) q.1) = 1 then (q.1 ||| zsd (mA a n j) q.1, vp_updL q.2 (Nat.log2 (zsd (mA a n j) q.1)) (if a 76 (Nat.log2 (zsd (mA a n j) q.1)) = nI j then -mEx a q.2 (nI j) q.1 n else mEx a q.2 (nI j) q.1 n)) else q
def gF (a : Nat → Nat → Int32) (n : Nat) : Nat → Nat → Nat × (Nat → Int64) → Nat × (Nat → Int64)
  | 0, _, q => q
  | k + 1, j, q => gF a n k (j + 1) (gS a n j q)
def gL (a : Nat → Nat → Int32) (n : Nat) : Nat → Nat × (Nat → Int64) → Nat × (Nat → Int64)
  | 0, q => q
  | f + 1, q => if (gF a n 8 0 q).1 = q.1 then gF a n 8 0 q else gL a n f (gF a n 8 0 q)
theorem gS_1 (a : Nat → Nat → Int32) (n j : Nat) (q : Nat × (Nat → Int64)) : (gS a n j q).1 = aS (mA a n) j q.1 := by
  unfold gS aS
  split <;> rfl
theorem gF_1 (a : Nat → Nat → Int32) (n : Nat) : ∀ k j q, (gF a n k j q).1 = aF (mA a n) k j q.1
  | 0, j, q => rfl
  | k + 1, j, q => by
    unfold gF aF
    rw [gF_1 a n k (j + 1), gS_1]
theorem gL_1 (a : Nat → Nat → Int32) (n : Nat) : ∀ f q, (gL a n f q).1 = aL (mA a n) f q.1
  | 0, q => rfl
  | f + 1, q => by
    unfold gL aL
    rw [gF_1]
    split
    · rw [gF_1]
    · rw [gL_1 a n f, gF_1]
/-- a set's bits -/
def zsub (a b : Nat) : Prop := ∀ i, a.testBit i = true → b.testBit i = true
theorem lt4096_t {m i : Nat} (h : m < 4096) (hi : 12 ≤ i) : m.testBit i = false := Nat.testBit_lt_two_pow (Nat.lt_of_lt_of_le h (show 2 ^ 12 ≤ 2 ^ i from Nat.pow_le_pow_right (by decide) hi))
theorem zC_mono {p q : Nat → Bool} (h : ∀ i, p i = true → q i = true) : ∀ n, zC p n ≤ zC q n
  | 0 => Nat.le_refl _
  | n + 1 => by
    have ih := zC_mono h n
    unfold zC
    cases hp : p n with
    | false => simp; omega
    | true => rw [h n hp]; simp; omega
theorem zC_lt {p q : Nat → Bool} (h : ∀ i, p i = true → q i = true) : ∀ {n k : Nat}, k < n → p k = false → q k = true → zC p n < zC q n
  | 0, k, hk, _, _ => absurd hk (Nat.not_lt_zero k)
  | n + 1, k, hk, h1, h2 => by
    unfold zC
    by_cases e : k = n
    · subst e
      have := zC_mono h k
      rw [h1, h2]
      simp
      omega
    · have := zC_lt h (show k < n by omega) h1 h2
      cases hp : p n with
      | false => simp; omega
      | true => rw [h n hp]; simp; omega
theorem zpop_lt {a b : Nat} (hb : b < 4096) (h : zsub a b) (hne : ¬ b = a) : zpop a < zpop b := by
  have : ∃ k, k < 12 ∧ a.testBit k = false ∧ b.testBit k = true := by
    refine Classical.byContradiction fun q => hne ?_
    apply Nat.eq_of_testBit_eq
    intro i
    cases hbi : b.testBit i with
    | false =>
      cases hai : a.testBit i with
      | false => rfl
      | true => rw [h i hai] at hbi; cases hbi
    | true =>
      cases hai : a.testBit i with
      | true => rfl
      | false =>
        rcases Nat.lt_or_ge i 12 with z | z
        · exact absurd ⟨i, z, hai, hbi⟩ q
        · rw [lt4096_t hb z] at hbi; cases hbi
  obtain ⟨k, h1, h2, h3⟩ := this
  exact zC_lt h h1 h2 h3
theorem or_lt4096 {a b : Nat} (ha : a < 4096) (hb : b < 4096) : a ||| b < 4096 := Nat.or_lt_two_pow (n := 12) ha hb
theorem zsd_lt {a b : Nat} (ha : a < 4096) : zsd a b < 4096 := Nat.xor_lt_two_pow (n := 12) ha (Nat.lt_of_le_of_lt Nat.and_le_left ha)
theorem aS_lt {A : Nat → Nat} (hA : ∀ j, A j < 4096) {j all : Nat} (h : all < 4096) : aS A j all < 4096 := by
  unfold aS
  split
  · exact or_lt4096 h (zsd_lt (hA j))
  · exact h
theorem aS_sub (A : Nat → Nat) (j all : Nat) : zsub all (aS A j all) := by
  intro i hi
  unfold aS
  split
  · rw [Nat.testBit_or, hi]; rfl
  · exact hi
theorem aF_lt {A : Nat → Nat} (hA : ∀ j, A j < 4096) : ∀ k j {all : Nat}, all < 4096 → aF A k j all < 4096
  | 0, j, all, h => h
  | k + 1, j, all, h => aF_lt hA k (j + 1) (aS_lt hA h)
theorem aF_sub (A : Nat → Nat) : ∀ k j all, zsub all (aF A k j all)
  | 0, j, all => fun _ h => h
  | k + 1, j, all => fun i hi => aF_sub A k (j + 1) (aS A j all) i (aS_sub A j all i hi)
theorem mAt_lt {a : Nat → Nat → Int32} {n : Nat} (hn : n ≤ 12) (j : Int32) : mAt a n j < 4096 := zbt_lt12 _ hn
theorem one_log : ∀ m, m < 4096 → zpop m = 1 → m = 2 ^ Nat.log2 m ∧ Nat.log2 m < 12 := z4096 (by decide +kernel)
def S8_grows : z_PT := fun as P nx K => ∃ (iv : Nat → Int32) (h : Nat → Bool) (a : Nat → Nat → Int32) (ld : Nat → Int64) (n set : Nat), as = [.ref 70, .int (nI set)] ∧ z_in (zM iv h a ld) P ∧ (iv 2 = nI n) ∧ (n ≤ 12) ∧ (set < 4096) ∧ (∀ P' : z_H, z_in (zM iv h a (gL a n 13 (set, ld)).2) P' → z_out zDm P P' → K (some (.int (nI (gL a n 13 (set, ld)).1))) P' nx)
set_option maxRecDepth 4000 in
theorem sp8_grows (l : Launch) : z_Sp l M8_grows rM8_grows S8_grows := by
  refine z_enter (by decide) (fun as P nx K h => ?_) (fun X K as P nx hX hE hin0 hS => ?_)
  · obtain ⟨iv, h, a, ld, n, set, rfl, -⟩ := h
    exact Nat.le_of_ble_eq_true rfl
  obtain ⟨iv, h, a, ld, n, set, rfl, hM, p1, p2, p3, hK⟩ := hS
  refine z_pad 5 ?_
  show z_W X 0 [some (.ref 70), some (.int (nI set)), none, none, none, none, none] [] P nx 0 0
  have hO : z_out zDm P P := z_out.rf
  obtain ⟨P0, hP0⟩ : ∃ P0, P0 = P := ⟨_, rfl⟩
  rw [← hP0] at hK
  have hO : z_out zDm P0 P := by rw [hP0]; exact z_out.rf
  have inner : ∀ (hd : Int32) (k j : Nat) (q : Nat × (Nat → Int64)) (P : z_H), j + k = 8 → q.1 < 4096 → z_in (zM iv h a q.2) P → z_out zDm P0 P → (∀ P' : z_H, z_in (zM iv h a (gF a n k j q).2) P' → z_out zDm P0 P' → z_W X 4 [some (.ref 70), some (.int (nI set)), some (.int (nI (gF a n k j q).1)), some (.int hd), none, none, none] [] P' nx 0 0) → z_W X 14 [some (.ref 70), some (.int (nI set)), some (.int (nI q.1)), some (.int hd), some (.int (nI j)), none, none] [] P nx 0 0 := by
    intro hd k
    induction k with
    | zero =>
      intro j q P hj hq hM hO cont
      have hj : j = 8 := by omega
      subst hj
      refine z_sub (lv' := [some (.ref 70), some (.int (nI set)), some (.int (nI q.1)), some (.int hd), some (.int (nI 8)), none, none]) ?_ (by repeat' (first | exact trivial | refine ⟨rfl, ?_⟩))
      have cont : ∀ P' : z_H, z_in (zM iv h a q.2) P' → z_out zDm P0 P' → z_W X 4 [some (.ref 70), some (.int (nI set)), some (.int (nI q.1)), some (.int hd), some (.int (nI 8)), none, none] [] P' nx 0 0 := fun P' h1 h2 => z_sub (cont P' h1 h2) (by repeat' (first | exact trivial | refine ⟨rfl, ?_⟩))
      refine z_iload hX d8_grows_14 rfl ?_
      refine z_bipush hX (8) d8_grows_16 (by decide) ?_
      refine z_icmp_ge hX 112 d8_grows_18 (by decide) (fun h18 => ?_) (fun h18 => ?_)
      rotate_left
      · exact absurd (by decide) h18
      refine z_goto hX 4 d8_grows_112 (by decide) ?_
      exact cont P hM hO
    | succ k ih =>
      intro j q P hj hq hM hO cont
      have cont : ∀ P' : z_H, z_in (zM iv h a (gF a n k (j + 1) (gS a n j q)).2) P' → z_out zDm P0 P' → z_W X 4 [some (.ref 70), some (.int (nI set)), some (.int (nI (gF a n k (j + 1) (gS a n j q)).1)), some (.int hd), none, none, none] [] P' nx 0 0 := cont
      refine z_iload hX d8_grows_14 rfl ?_
      refine z_bipush hX (8) d8_grows_16 (by decide) ?_
      refine z_icmp_ge hX 112 d8_grows_18 (by decide) (fun h18 => ?_) (fun h18 => ?_)
      · exact absurd h18 (nI_ge (b := 8) (by omega) (by decide))
      refine z_aload_n hX d8_grows_21 rfl ?_
      refine z_iload hX d8_grows_22 rfl ?_
      refine z_callV1 hX (sp8_roadsAt l) lm_8_144 (hM _ _ rfl) ⟨by decide, by decide, by decide, by decide⟩ (Nat.le_of_ble_eq_true rfl) d8_grows_24 ?_
      refine ⟨iv, h, a, q.2, n, nI j, rfl, hM, p1, p2, ?_⟩
      dsimp only [Option.toList, List.cons_append, List.nil_append]
      refine z_iload_n hX d8_grows_27 rfl ?_
      refine z_iconst hX (-1) d8_grows_28 (by decide) ?_
      refine z_ixor hX d8_grows_29 ?_
      refine z_iand hX d8_grows_30 ?_
      rw [fa_sd]
      obtain ⟨o, ho⟩ : ∃ o, o = zsd (mAt a n (nI j)) q.1 := ⟨_, rfl⟩
      rw [← ho]
      have ho4 : o < 4096 := by rw [ho]; exact zsd_lt (mAt_lt p2 _)
      have hpo := zpop_le o
      refine z_istore hX (by decide) d8_grows_31 ?_
      dsimp only [z_p1, z_p2, z_k, List.headD, List.tail]
      refine z_iload hX d8_grows_33 rfl ?_
      refine z_callS1 hX (sp8_sizeOf l) lm_8_147 ⟨by decide, by decide, by decide, by decide⟩ (Nat.le_of_ble_eq_true rfl) d8_grows_35 ?_
      refine ⟨o, rfl, ho4, ?_⟩
      dsimp only [Option.toList, List.cons_append, List.nil_append]
      refine z_iconst hX (1) d8_grows_38 (by decide) ?_
      refine z_icmp_eq hX 45 d8_grows_39 (by decide) (fun h39 => ?_) (fun h39 => ?_)
      · skip
        have e1 : zpop o = 1 := (nI_eq (b := 1) (by omega) (by decide)).mp h39
        obtain ⟨g1, g2⟩ := one_log o ho4 e1
        have es : gS a n j q = (q.1 ||| o, vp_updL q.2 (Nat.log2 o) (if a 76 (Nat.log2 o) = nI j then -mEx a q.2 (nI j) q.1 n else mEx a q.2 (nI j) q.1 n)) := by
          unfold gS
          rw [show zsd (mA a n j) q.1 = o from ho.symm, if_pos e1]
        have hbit : ∀ i, o.testBit i = decide (Nat.log2 o = i) := fun i => by
          have := Nat.testBit_two_pow (n := Nat.log2 o) (m := i)
          rw [← g1] at this
          exact this
        have low : ∀ (k2 i : Nat), i + k2 = Nat.log2 o → z_W X 48 [some (.ref 70), some (.int (nI set)), some (.int (nI q.1)), some (.int hd), some (.int (nI j)), some (.int (nI o)), some (.int (nI i))] [] P nx 0 0 := by
          intro k2
          induction k2 with
          | zero =>
            intro i hi
            have hi : i = Nat.log2 o := by omega
            rw [← hi] at es g2 hbit
            refine z_iload hX d8_grows_48 rfl ?_
            refine z_iload hX d8_grows_50 rfl ?_
            refine z_callS2 hX (sp8_has l) lm_8_141 ⟨by decide, by decide, by decide, by decide⟩ (Nat.le_of_ble_eq_true rfl) d8_grows_52 ?_
            refine ⟨_, _, rfl, by omega, by omega, ?_⟩
            dsimp only [Option.toList, List.cons_append, List.nil_append]
            refine z_ifb_ne hX 64 d8_grows_55 (by decide) (fun h55 => ?_) (fun h55 => ?_)
            rotate_left
            · rw [hbit, decide_eq_false_iff_not] at h55
              exact absurd rfl h55
            refine z_aload_n hX d8_grows_64 rfl ?_
            refine z_get hX lf_8_63 (hM _ _ rfl) rfl d8_grows_65 ?_
            refine z_iload hX d8_grows_68 rfl ?_
            refine z_aload_n hX d8_grows_70 rfl ?_
            refine z_get hX lf_8_27 (hM _ _ rfl) rfl d8_grows_71 ?_
            refine z_iload hX d8_grows_74 rfl ?_
            refine z_iald hX (hM _ _ rfl) (vp_in_nI (by omega) (by decide)) d8_grows_76 ?_
            rw [nI_clamp (show i < 2 ^ 31 by omega)]
            refine z_iload hX d8_grows_77 rfl ?_
            refine z_icmp_ne hX 93 d8_grows_79 (by decide) (fun h79 => ?_) (fun h79 => ?_)
            · skip
              rw [if_neg h79] at es
              refine z_aload_n hX d8_grows_93 rfl ?_
              refine z_iload hX d8_grows_94 rfl ?_
              refine z_iload_n hX d8_grows_96 rfl ?_
              refine z_callV2 hX (sp8_excess l) lm_8_150 (hM _ _ rfl) ⟨by decide, by decide, by decide, by decide⟩ (Nat.le_of_ble_eq_true rfl) d8_grows_97 ?_
              refine ⟨iv, h, a, q.2, n, nI j, q.1, rfl, hM, p1, p2, hq, ?_⟩
              dsimp only [Option.toList, List.cons_append, List.nil_append]
              refine z_last hX (hM _ _ rfl) (vp_in_nI (by omega) (by decide)) d8_grows_100 ?_
              rw [nI_clamp (show i < 2 ^ 31 by omega)]
              refine z_gen hM hO rfl (fun P hM hO => ?_)
              have hM := zM_s88 hM
              refine z_iload_n hX d8_grows_101 rfl ?_
              refine z_iload hX d8_grows_102 rfl ?_
              refine z_ior hX d8_grows_104 ?_
              refine z_istore_n hX 2 rfl (by decide) d8_grows_105 ?_
              dsimp only [z_p1, z_p2, z_k, List.headD, List.tail]
              refine z_iinc hX (1) (by decide) rfl (by decide) d8_grows_106 ?_
              dsimp only [z_p1, z_p2, z_k, List.headD, List.tail]
              refine z_goto hX 14 d8_grows_109 (by decide) ?_
              rw [nI_1, fa_or]
              refine z_sub (ih (j + 1) (gS a n j q) P (by omega) (by rw [gS_1]; exact aS_lt (fun _ => mAt_lt p2 _) hq) (by rw [es]; exact hM) hO cont) ?_
              rw [es]
              repeat' (first | exact trivial | refine ⟨rfl, ?_⟩)
            · skip
              rw [if_pos h79] at es
              refine z_aload_n hX d8_grows_82 rfl ?_
              refine z_iload hX d8_grows_83 rfl ?_
              refine z_iload_n hX d8_grows_85 rfl ?_
              refine z_callV2 hX (sp8_excess l) lm_8_150 (hM _ _ rfl) ⟨by decide, by decide, by decide, by decide⟩ (Nat.le_of_ble_eq_true rfl) d8_grows_86 ?_
              refine ⟨iv, h, a, q.2, n, nI j, q.1, rfl, hM, p1, p2, hq, ?_⟩
              dsimp only [Option.toList, List.cons_append, List.nil_append]
              refine z_lneg hX d8_grows_89 ?_
              refine z_goto hX 100 d8_grows_90 (by decide) ?_
              refine z_last hX (hM _ _ rfl) (vp_in_nI (by omega) (by decide)) d8_grows_100 ?_
              rw [nI_clamp (show i < 2 ^ 31 by omega)]
              refine z_gen hM hO rfl (fun P hM hO => ?_)
              have hM := zM_s88 hM
              refine z_iload_n hX d8_grows_101 rfl ?_
              refine z_iload hX d8_grows_102 rfl ?_
              refine z_ior hX d8_grows_104 ?_
              refine z_istore_n hX 2 rfl (by decide) d8_grows_105 ?_
              dsimp only [z_p1, z_p2, z_k, List.headD, List.tail]
              refine z_iinc hX (1) (by decide) rfl (by decide) d8_grows_106 ?_
              dsimp only [z_p1, z_p2, z_k, List.headD, List.tail]
              refine z_goto hX 14 d8_grows_109 (by decide) ?_
              rw [nI_1, fa_or]
              refine z_sub (ih (j + 1) (gS a n j q) P (by omega) (by rw [gS_1]; exact aS_lt (fun _ => mAt_lt p2 _) hq) (by rw [es]; exact hM) hO cont) ?_
              rw [es]
              repeat' (first | exact trivial | refine ⟨rfl, ?_⟩)
          | succ k2 low =>
            intro i hi
            refine z_iload hX d8_grows_48 rfl ?_
            refine z_iload hX d8_grows_50 rfl ?_
            refine z_callS2 hX (sp8_has l) lm_8_141 ⟨by decide, by decide, by decide, by decide⟩ (Nat.le_of_ble_eq_true rfl) d8_grows_52 ?_
            refine ⟨_, _, rfl, by omega, by omega, ?_⟩
            dsimp only [Option.toList, List.cons_append, List.nil_append]
            refine z_ifb_ne hX 64 d8_grows_55 (by decide) (fun h55 => ?_) (fun h55 => ?_)
            · rw [hbit, decide_eq_true_eq] at h55
              omega
            refine z_iinc hX (1) (by decide) rfl (by decide) d8_grows_58 ?_
            dsimp only [z_p1, z_p2, z_k, List.headD, List.tail]
            refine z_goto hX 48 d8_grows_61 (by decide) ?_
            rw [nI_1]
            exact low (i + 1) (by omega)
        refine z_iconst hX (0) d8_grows_45 (by decide) ?_
        refine z_istore hX (by decide) d8_grows_46 ?_
        dsimp only [z_p1, z_p2, z_k, List.headD, List.tail]
        exact low (Nat.log2 o) 0 (by omega)
      · skip
        have e1 : ¬ zpop o = 1 := fun z => h39 (by rw [z]; rfl)
        have es : gS a n j q = q := if_neg (by rw [show zsd (mA a n j) q.1 = o from ho.symm]; exact e1)
        refine z_goto hX 106 d8_grows_42 (by decide) ?_
        refine z_iinc hX (1) (by decide) rfl (by decide) d8_grows_106 ?_
        dsimp only [z_p1, z_p2, z_k, List.headD, List.tail]
        refine z_goto hX 14 d8_grows_109 (by decide) ?_
        rw [nI_1]
        refine z_sub (ih (j + 1) (gS a n j q) P (by omega) (by rw [es]; exact hq) (by rw [es]; exact hM) hO cont) ?_
        rw [es]
        repeat' (first | exact trivial | refine ⟨rfl, ?_⟩)
  have outer : ∀ (f : Nat) (q : Nat × (Nat → Int64)) (hd : Int32) (P : z_H), 12 < f + zpop q.1 → q.1 < 4096 → ¬ hd = nI q.1 → z_in (zM iv h a q.2) P → z_out zDm P0 P → (∀ P' : z_H, z_in (zM iv h a (gL a n f q).2) P' → z_out zDm P0 P' → K (some (.int (nI (gL a n f q).1))) P' nx) → z_W X 4 [some (.ref 70), some (.int (nI set)), some (.int (nI q.1)), some (.int hd), none, none, none] [] P nx 0 0 := by
    intro f
    induction f with
    | zero =>
      intro q hd P h1 hq
      have := zpop_le q.1
      omega
    | succ f ih =>
      intro q hd P h1 hq hne hM hO cont
      unfold gL at cont
      refine z_iload_n hX d8_grows_4 rfl ?_
      refine z_iload_n hX d8_grows_5 rfl ?_
      refine z_icmp_eq hX 115 d8_grows_6 (by decide) (fun h6 => ?_) (fun h6 => ?_)
      · exact absurd h6 hne
      refine z_iload_n hX d8_grows_9 rfl ?_
      refine z_istore_n hX 3 rfl (by decide) d8_grows_10 ?_
      dsimp only [z_p1, z_p2, z_k, List.headD, List.tail]
      refine z_iconst hX (0) d8_grows_11 (by decide) ?_
      refine z_istore hX (by decide) d8_grows_12 ?_
      dsimp only [z_p1, z_p2, z_k, List.headD, List.tail]
      refine inner (nI q.1) 8 0 q P rfl hq hM hO (fun P' g1 g2 => ?_)
      by_cases e : (gF a n 8 0 q).1 = q.1
      · rw [if_pos e] at cont
        refine z_iload_n hX d8_grows_4 rfl ?_
        refine z_iload_n hX d8_grows_5 rfl ?_
        refine z_icmp_eq hX 115 d8_grows_6 (by decide) (fun h6 => ?_) (fun h6 => ?_)
        rotate_left
        · exact absurd (by rw [e]) h6
        refine z_iload_n hX d8_grows_115 rfl ?_
        refine z_iret hX hE (by decide) (by decide) d8_grows_116 ?_
        exact cont P' g1 g2
      · rw [if_neg e] at cont
        have l1 : (gF a n 8 0 q).1 < 4096 := by rw [gF_1]; exact aF_lt (fun _ => mAt_lt p2 _) 8 0 hq
        have l2 : zpop q.1 < zpop (gF a n 8 0 q).1 := zpop_lt l1 (by rw [gF_1]; exact aF_sub _ 8 0 q.1) e
        exact ih (gF a n 8 0 q) (nI q.1) P' (by omega) l1 (fun z => e ((nI_eq (by omega) (by omega)).mp z).symm) g1 g2 cont
  refine z_iload_n hX d8_grows_0 rfl ?_
  refine z_istore_n hX 2 rfl (by decide) d8_grows_1 ?_
  dsimp only [z_p1, z_p2, z_k, List.headD, List.tail]
  refine z_iconst hX (-1) d8_grows_2 (by decide) ?_
  refine z_istore_n hX 3 rfl (by decide) d8_grows_3 ?_
  dsimp only [z_p1, z_p2, z_k, List.headD, List.tail]
  exact outer 13 (set, ld) (-1) P (by omega) p3 (fun z => by rw [i_eq, nI_toInt (show set < 2 ^ 31 by omega), show (-1 : Int32).toInt = -1 from rfl] at z; omega) hM hO hK
end
section
/-! the model's loads, balances, sets that do -/
def wLd (h : Nat → Bool) (a : Nat → Nat → Int32) (sh : Nat → Nat) (n : Nat) (ld : Nat → Int64) : Nat → Nat → Int64
  | 0 => ld
  | i + 1 => vp_updL (wLd h a sh n ld i) i (if (mKn h a n).testBit i then mYear h a i (sh i) else 0)
def mW (h : Nat → Bool) (a : Nat → Nat → Int32) (n : Nat) (sh : Nat → Nat) (ld : Nat → Int64) : Nat × (Nat → Int64) := gL a n 13 (mKn h a n, wLd h a sh n ld n)
theorem mKn_lt {h : Nat → Bool} {a : Nat → Nat → Int32} {n : Nat} (hn : n ≤ 12) : mKn h a n < 4096 := zbt_lt12 _ hn
theorem mKn_t {h : Nat → Bool} {a : Nat → Nat → Int32} {n i : Nat} (hi : i < n) : (mKn h a n).testBit i = decide (0 < zC (mUsed h a i) 364) := by
  unfold mKn
  rw [zbt_t, decide_eq_true hi, Bool.true_and]
theorem aL_lt {A : Nat → Nat} (hA : ∀ j, A j < 4096) : ∀ f {all : Nat}, all < 4096 → aL A f all < 4096
  | 0, all, h => h
  | f + 1, all, h => by
    unfold aL
    split
    · exact aF_lt hA 8 0 h
    · exact aL_lt hA f (aF_lt hA 8 0 h)
theorem mW_lt {h : Nat → Bool} {a : Nat → Nat → Int32} {n : Nat} {sh : Nat → Nat} {ld : Nat → Int64} (hn : n ≤ 12) : (mW h a n sh ld).1 < 4096 := by
  unfold mW
  rw [gL_1]
  exact aL_lt (fun _ => mAt_lt hn _) 13 (mKn_lt hn)
def S8_works : z_PT := fun as P nx K => ∃ (iv : Nat → Int32) (h : Nat → Bool) (a : Nat → Nat → Int32) (ld : Nat → Int64) (n : Nat) (sh : Nat → Nat), as = [.ref 70] ∧ z_in (zM iv h a ld) P ∧ (mWf iv h a n sh) ∧ (∀ P' : z_H, z_in (zM iv h a (mW h a n sh ld).2) P' → z_out zDm P P' → K (some (.int (nI (mW h a n sh ld).1))) P' nx)
set_option maxRecDepth 4000 in
theorem sp8_works (l : Launch) : z_Sp l M8_works rM8_works S8_works := by
  refine z_enter (by decide) (fun as P nx K h => ?_) (fun X K as P nx hX hE hin0 hS => ?_)
  · obtain ⟨iv, h, a, ld, n, sh, rfl, -⟩ := h
    exact Nat.le_of_ble_eq_true rfl
  obtain ⟨iv, h, a, ld, n, sh, rfl, hM, p1, hK⟩ := hS
  refine z_pad 2 ?_
  show z_W X 0 [some (.ref 70), none, none] [] P nx 0 0
  have hO : z_out zDm P P := z_out.rf
  obtain ⟨w1, w2, w3, w4, w5⟩ := p1
  have hk4 := mKn_lt (h := h) (a := a) w2
  obtain ⟨P0, hP0⟩ : ∃ P0, P0 = P := ⟨_, rfl⟩
  rw [← hP0] at hK
  have hO : z_out zDm P0 P := by rw [hP0]; exact z_out.rf
  have loop : ∀ (k i : Nat) (P : z_H), i + k = n → z_in (zM iv h a (wLd h a sh n ld i)) P → z_out zDm P0 P → z_W X 7 [some (.ref 70), some (.int (nI (mKn h a n))), some (.int (nI i))] [] P nx 0 0 := by
    intro k
    induction k with
    | zero =>
      intro i P hi hM hO
      have hi : i = n := by omega
      subst hi
      refine z_iload_n hX d8_works_7 rfl ?_
      refine z_aload_n hX d8_works_8 rfl ?_
      refine z_get hX lf_8_70 (hM _ _ rfl) rfl d8_works_9 ?_
      rw [w1]
      refine z_icmp_ge hX 44 d8_works_12 (by decide) (fun h12 => ?_) (fun h12 => ?_)
      rotate_left
      · exact absurd (Int32.le_refl _) h12
      refine z_aload_n hX d8_works_44 rfl ?_
      refine z_iload_n hX d8_works_45 rfl ?_
      refine z_callV1 hX (sp8_grows l) lm_8_157 (hM _ _ rfl) ⟨by decide, by decide, by decide, by decide⟩ (Nat.le_of_ble_eq_true rfl) d8_works_46 ?_
      refine ⟨iv, h, a, _, i, mKn h a i, rfl, hM, w1, w2, hk4, fun P' g1 g2 => ?_⟩
      dsimp only [Option.toList, List.cons_append, List.nil_append]
      refine z_iret hX hE (by decide) (by decide) d8_works_49 ?_
      exact hK P' g1 (hO.tr g2)
    | succ k ih =>
      intro i P hi hM hO
      have hkt := mKn_t (h := h) (a := a) (show i < n by omega)
      refine z_iload_n hX d8_works_7 rfl ?_
      refine z_aload_n hX d8_works_8 rfl ?_
      refine z_get hX lf_8_70 (hM _ _ rfl) rfl d8_works_9 ?_
      rw [w1]
      refine z_icmp_ge hX 44 d8_works_12 (by decide) (fun h12 => ?_) (fun h12 => ?_)
      · exact absurd h12 (nI_ge (by omega) (by omega))
      refine z_aload_n hX d8_works_15 rfl ?_
      refine z_get hX lf_8_63 (hM _ _ rfl) rfl d8_works_16 ?_
      refine z_iload_n hX d8_works_19 rfl ?_
      refine z_iload_n hX d8_works_20 rfl ?_
      refine z_iload_n hX d8_works_21 rfl ?_
      refine z_callS2 hX (sp8_has l) lm_8_141 ⟨by decide, by decide, by decide, by decide⟩ (Nat.le_of_ble_eq_true rfl) d8_works_22 ?_
      refine ⟨_, i, rfl, by omega, by omega, ?_⟩
      dsimp only [Option.toList, List.cons_append, List.nil_append]
      refine z_ifb_eq hX 36 d8_works_25 (by decide) (fun h25 => ?_) (fun h25 => ?_)
      · skip
        refine z_lconst hX 0 d8_works_36 (by decide) ?_
        refine z_last hX (hM _ _ rfl) (vp_in_nI (by omega) (by decide)) d8_works_37 ?_
        rw [nI_clamp (show i < 2 ^ 31 by omega)]
        refine z_gen hM hO rfl (fun P hM hO => ?_)
        have hM := zM_s88 hM
        refine z_iinc hX (1) (by decide) rfl (by decide) d8_works_38 ?_
        dsimp only [z_p1, z_p2, z_k, List.headD, List.tail]
        refine z_goto hX 7 d8_works_41 (by decide) ?_
        rw [nI_1]
        refine ih (i + 1) P (by omega) ?_ hO
        unfold wLd
        rw [h25]
        exact hM
      · skip
        refine z_aload_n hX d8_works_28 rfl ?_
        refine z_iload_n hX d8_works_29 rfl ?_
        refine z_callV1 hX (sp8_yearOf l) lm_8_131 (hM _ _ rfl) ⟨by decide, by decide, by decide, by decide⟩ (Nat.le_of_ble_eq_true rfl) d8_works_30 ?_
        refine ⟨iv, h, a, _, i, sh i, rfl, hM, by omega, (w3 i (by omega)).2, (w3 i (by omega)).1, w4 i (sh i) (by omega) (w3 i (by omega)).2 (by rw [hkt, decide_eq_true_eq] at h25; exact h25), ?_⟩
        dsimp only [Option.toList, List.cons_append, List.nil_append]
        refine z_goto hX 37 d8_works_33 (by decide) ?_
        refine z_last hX (hM _ _ rfl) (vp_in_nI (by omega) (by decide)) d8_works_37 ?_
        rw [nI_clamp (show i < 2 ^ 31 by omega)]
        refine z_gen hM hO rfl (fun P hM hO => ?_)
        have hM := zM_s88 hM
        refine z_iinc hX (1) (by decide) rfl (by decide) d8_works_38 ?_
        dsimp only [z_p1, z_p2, z_k, List.headD, List.tail]
        refine z_goto hX 7 d8_works_41 (by decide) ?_
        rw [nI_1]
        refine ih (i + 1) P (by omega) ?_ hO
        unfold wLd
        rw [h25]
        exact hM
  refine z_aload_n hX d8_works_0 rfl ?_
  refine z_callV0 hX (sp8_knownRoads l) lm_8_153 (hM _ _ rfl) ⟨by decide, by decide, by decide, by decide⟩ (Nat.le_of_ble_eq_true rfl) d8_works_1 ?_
  refine ⟨iv, h, a, ld, n, rfl, hM, w1, w2, ?_⟩
  dsimp only [Option.toList, List.cons_append, List.nil_append]
  refine z_istore_n hX 1 rfl (by decide) d8_works_4 ?_
  dsimp only [z_p1, z_p2, z_k, List.headD, List.tail]
  refine z_iconst hX (0) d8_works_5 (by decide) ?_
  refine z_istore_n hX 2 rfl (by decide) d8_works_6 ?_
  dsimp only [z_p1, z_p2, z_k, List.headD, List.tail]
  exact loop n 0 P (by omega) hM hO
def mHow (h : Nat → Bool) (a : Nat → Nat → Int32) (n : Nat) (sh : Nat → Nat) (ld : Nat → Int64) (r : Int32) : Int32 := if 0 ≤ r.toInt ∧ r.toInt < n then (if (mKn h a n).testBit r.toInt.toNat then 0 else if (mW h a n sh ld).1.testBit r.toInt.toNat then 1 else 2) else -1
def S8_how : z_PT := fun as P nx K => ∃ (iv : Nat → Int32) (h : Nat → Bool) (a : Nat → Nat → Int32) (ld : Nat → Int64) (n : Nat) (sh : Nat → Nat) (r : Int32), as = [.ref 70, .int r] ∧ z_in (zM iv h a ld) P ∧ (mWf iv h a n sh) ∧ (∀ (ld2 : Nat → Int64) (P' : z_H), z_in (zM iv h a ld2) P' → z_out zDm P P' → K (some (.int (mHow h a n sh ld r))) P' nx)
set_option maxRecDepth 4000 in
theorem sp8_how (l : Launch) : z_Sp l M8_how rM8_how S8_how := by
  refine z_enter (by decide) (fun as P nx K h => ?_) (fun X K as P nx hX hE hin0 hS => ?_)
  · obtain ⟨iv, h, a, ld, n, sh, r, rfl, -⟩ := h
    exact Nat.le_of_ble_eq_true rfl
  obtain ⟨iv, h, a, ld, n, sh, r, rfl, hM, p1, hK⟩ := hS
  show z_W X 0 [some (.ref 70), some (.int r)] [] P nx 0 0
  have hO : z_out zDm P P := z_out.rf
  have pw := p1
  obtain ⟨w1, w2, w3, w4, w5⟩ := p1
  have hk4 := mKn_lt (h := h) (a := a) w2
  have hw4 := mW_lt (h := h) (a := a) (sh := sh) (ld := ld) w2
  unfold mHow at hK
  refine z_aload_n hX d8_how_0 rfl ?_
  refine z_iload_n hX d8_how_1 rfl ?_
  refine z_callV1 hX (sp8_isRoad l) lm_8_112 (hM _ _ rfl) ⟨by decide, by decide, by decide, by decide⟩ (Nat.le_of_ble_eq_true rfl) d8_how_2 ?_
  refine ⟨iv, h, a, ld, n, r, rfl, hM, w1, w2, ?_⟩
  dsimp only [Option.toList, List.cons_append, List.nil_append]
  refine z_ifb_ne hX 10 d8_how_5 (by decide) (fun h5 => ?_) (fun h5 => ?_)
  · skip
    rw [decide_eq_true_eq] at h5
    rw [if_pos h5] at hK
    obtain ⟨j, hj, rfl⟩ := nI_rng h5.1 h5.2
    rw [tN (n := 12) (by omega) (by decide)] at hK
    refine z_aload_n hX d8_how_10 rfl ?_
    refine z_callV0 hX (sp8_knownRoads l) lm_8_153 (hM _ _ rfl) ⟨by decide, by decide, by decide, by decide⟩ (Nat.le_of_ble_eq_true rfl) d8_how_11 ?_
    refine ⟨iv, h, a, ld, n, rfl, hM, w1, w2, ?_⟩
    dsimp only [Option.toList, List.cons_append, List.nil_append]
    refine z_iload_n hX d8_how_14 rfl ?_
    refine z_callS2 hX (sp8_has l) lm_8_141 ⟨by decide, by decide, by decide, by decide⟩ (Nat.le_of_ble_eq_true rfl) d8_how_15 ?_
    refine ⟨_, j, rfl, by omega, by omega, ?_⟩
    dsimp only [Option.toList, List.cons_append, List.nil_append]
    refine z_ifb_eq hX 25 d8_how_18 (by decide) (fun h18 => ?_) (fun h18 => ?_)
    · skip
      rw [if_neg (by rw [h18]; decide)] at hK
      refine z_aload_n hX d8_how_25 rfl ?_
      refine z_callV0 hX (sp8_works l) lm_8_160 (hM _ _ rfl) ⟨by decide, by decide, by decide, by decide⟩ (Nat.le_of_ble_eq_true rfl) d8_how_26 ?_
      refine ⟨iv, h, a, ld, n, sh, rfl, hM, pw, fun P' g1 g2 => ?_⟩
      dsimp only [Option.toList, List.cons_append, List.nil_append]
      refine z_iload_n hX d8_how_29 rfl ?_
      refine z_callS2 hX (sp8_has l) lm_8_141 ⟨by decide, by decide, by decide, by decide⟩ (Nat.le_of_ble_eq_true rfl) d8_how_30 ?_
      refine ⟨_, j, rfl, by omega, by omega, ?_⟩
      dsimp only [Option.toList, List.cons_append, List.nil_append]
      refine z_ifb_eq hX 40 d8_how_33 (by decide) (fun h33 => ?_) (fun h33 => ?_)
      · skip
        rw [if_neg (by rw [h33]; decide)] at hK
        refine z_iconst hX (2) d8_how_40 (by decide) ?_
        refine z_iret hX hE (by decide) (by decide) d8_how_41 ?_
        first | exact hK _ P' g1 g2 | exact hK ld P hM hO
      · skip
        rw [if_pos h33] at hK
        refine z_iconst hX (1) d8_how_36 (by decide) ?_
        refine z_goto hX 41 d8_how_37 (by decide) ?_
        refine z_iret hX hE (by decide) (by decide) d8_how_41 ?_
        first | exact hK _ P' g1 g2 | exact hK ld P hM hO
    · skip
      rw [if_pos h18] at hK
      refine z_iconst hX (0) d8_how_21 (by decide) ?_
      refine z_goto hX 41 d8_how_22 (by decide) ?_
      refine z_iret hX hE (by decide) (by decide) d8_how_41 ?_
      first | exact hK _ P' g1 g2 | exact hK ld P hM hO
  · skip
    rw [decide_eq_false_iff_not] at h5
    rw [if_neg h5] at hK
    refine z_iconst hX (-1) d8_how_8 (by decide) ?_
    refine z_iret hX hE (by decide) (by decide) d8_how_9 ?_
    exact hK ld P hM hO
def mLoad (h : Nat → Bool) (a : Nat → Nat → Int32) (n : Nat) (sh : Nat → Nat) (ld : Nat → Int64) (r : Int32) : Int64 := if 0 ≤ r.toInt ∧ r.toInt < n then (if (mW h a n sh ld).1.testBit r.toInt.toNat then (mW h a n sh ld).2 r.toInt.toNat else 0) else 0
def S8_load : z_PT := fun as P nx K => ∃ (iv : Nat → Int32) (h : Nat → Bool) (a : Nat → Nat → Int32) (ld : Nat → Int64) (n : Nat) (sh : Nat → Nat) (r : Int32), as = [.ref 70, .int r] ∧ z_in (zM iv h a ld) P ∧ (mWf iv h a n sh) ∧ (∀ (ld2 : Nat → Int64) (P' : z_H), z_in (zM iv h a ld2) P' → z_out zDm P P' → K (some (.long (mLoad h a n sh ld r))) P' nx)
set_option maxRecDepth 4000 in
theorem sp8_load (l : Launch) : z_Sp l M8_load rM8_load S8_load := by
  refine z_enter (by decide) (fun as P nx K h => ?_) (fun X K as P nx hX hE hin0 hS => ?_)
  · obtain ⟨iv, h, a, ld, n, sh, r, rfl, -⟩ := h
    exact Nat.le_of_ble_eq_true rfl
  obtain ⟨iv, h, a, ld, n, sh, r, rfl, hM, p1, hK⟩ := hS
  show z_W X 0 [some (.ref 70), some (.int r)] [] P nx 0 0
  have hO : z_out zDm P P := z_out.rf
  have pw := p1
  obtain ⟨w1, w2, w3, w4, w5⟩ := p1
  have hw4 := mW_lt (h := h) (a := a) (sh := sh) (ld := ld) w2
  unfold mLoad at hK
  refine z_aload_n hX d8_load_0 rfl ?_
  refine z_iload_n hX d8_load_1 rfl ?_
  refine z_callV1 hX (sp8_isRoad l) lm_8_112 (hM _ _ rfl) ⟨by decide, by decide, by decide, by decide⟩ (Nat.le_of_ble_eq_true rfl) d8_load_2 ?_
  refine ⟨iv, h, a, ld, n, r, rfl, hM, w1, w2, ?_⟩
  dsimp only [Option.toList, List.cons_append, List.nil_append]
  refine z_ifb_eq hX 28 d8_load_5 (by decide) (fun h5 => ?_) (fun h5 => ?_)
  · skip
    rw [decide_eq_false_iff_not] at h5
    rw [if_neg h5] at hK
    refine z_lconst hX 0 d8_load_28 (by decide) ?_
    refine z_lret hX hE (by decide) (by decide) d8_load_29 ?_
    first | exact hK _ P' g1 g2 | exact hK ld P hM hO
  · skip
    rw [decide_eq_true_eq] at h5
    rw [if_pos h5] at hK
    obtain ⟨j, hj, rfl⟩ := nI_rng h5.1 h5.2
    rw [tN (n := 12) (by omega) (by decide)] at hK
    refine z_aload_n hX d8_load_8 rfl ?_
    refine z_callV0 hX (sp8_works l) lm_8_160 (hM _ _ rfl) ⟨by decide, by decide, by decide, by decide⟩ (Nat.le_of_ble_eq_true rfl) d8_load_9 ?_
    refine ⟨iv, h, a, ld, n, sh, rfl, hM, pw, fun P' g1 g2 => ?_⟩
    dsimp only [Option.toList, List.cons_append, List.nil_append]
    refine z_iload_n hX d8_load_12 rfl ?_
    refine z_callS2 hX (sp8_has l) lm_8_141 ⟨by decide, by decide, by decide, by decide⟩ (Nat.le_of_ble_eq_true rfl) d8_load_13 ?_
    refine ⟨_, j, rfl, by omega, by omega, ?_⟩
    dsimp only [Option.toList, List.cons_append, List.nil_append]
    refine z_ifb_eq hX 28 d8_load_16 (by decide) (fun h16 => ?_) (fun h16 => ?_)
    · skip
      rw [if_neg (by rw [h16]; decide)] at hK
      refine z_lconst hX 0 d8_load_28 (by decide) ?_
      refine z_lret hX hE (by decide) (by decide) d8_load_29 ?_
      first | exact hK _ P' g1 g2 | exact hK ld P hM hO
    · skip
      rw [if_pos h16] at hK
      refine z_aload_n hX d8_load_19 rfl ?_
      refine z_get hX lf_8_63 (g1 _ _ rfl) rfl d8_load_20 ?_
      refine z_iload_n hX d8_load_23 rfl ?_
      refine z_lald hX (g1 _ _ rfl) (vp_in_nI (by omega) (by decide)) d8_load_24 ?_
      rw [nI_clamp (show j < 2 ^ 31 by omega)]
      refine z_goto hX 29 d8_load_25 (by decide) ?_
      refine z_lret hX hE (by decide) (by decide) d8_load_29 ?_
      first | exact hK _ P' g1 g2 | exact hK ld P hM hO
def mBd (a : Nat → Nat → Int32) (n : Nat) (j : Int32) (all : Nat) : Bool := decide (0 ≤ j.toInt ∧ j.toInt ≤ 7) && decide (zsd (mAt a n j) all = 0)
def S8_isBalanced : z_PT := fun as P nx K => ∃ (iv : Nat → Int32) (h : Nat → Bool) (a : Nat → Nat → Int32) (ld : Nat → Int64) (n : Nat) (j : Int32) (all : Nat), as = [.ref 70, .int j, .int (nI all)] ∧ z_in (zM iv h a ld) P ∧ (iv 2 = nI n) ∧ (n ≤ 12) ∧ K (some (.int (zb (mBd a n j all)))) P nx
set_option maxRecDepth 4000 in
theorem sp8_isBalanced (l : Launch) : z_Sp l M8_isBalanced rM8_isBalanced S8_isBalanced := by
  refine z_enter (by decide) (fun as P nx K h => ?_) (fun X K as P nx hX hE hin0 hS => ?_)
  · obtain ⟨iv, h, a, ld, n, j, all, rfl, -⟩ := h
    exact Nat.le_of_ble_eq_true rfl
  obtain ⟨iv, h, a, ld, n, j, all, rfl, hM, p1, p2, hK⟩ := hS
  show z_W X 0 [some (.ref 70), some (.int j), some (.int (nI all))] [] P nx 0 0
  refine z_iload_n hX d8_isBalanced_0 rfl ?_
  refine z_i2l hX d8_isBalanced_1 ?_
  refine z_lconst hX 0 d8_isBalanced_2 (by decide) ?_
  refine z_ldc2 hX (7) d8_isBalanced_3 lk_8_105 ?_
  refine z_callS3 hX (sp8_lies l) lm_8_74 ⟨by decide, by decide, by decide, by decide⟩ (Nat.le_of_ble_eq_true rfl) d8_isBalanced_6 ?_
  refine ⟨_, _, _, rfl, ?_⟩
  rw [i2l_t, show (0 : Int64).toInt = 0 from rfl, show (7 : Int64).toInt = 7 from rfl]
  dsimp only [Option.toList, List.cons_append, List.nil_append]
  refine z_ifb_eq hX 28 d8_isBalanced_9 (by decide) (fun h9 => ?_) (fun h9 => ?_)
  · skip
    have e : mBd a n j all = false := by unfold mBd; rw [h9]; rfl
    rw [e] at hK
    refine z_iconst hX (0) d8_isBalanced_28 (by decide) ?_
    refine z_zret hX hE (by decide) (by decide) (by decide) d8_isBalanced_29 ?_
    exact hK
  · skip
    refine z_aload_n hX d8_isBalanced_12 rfl ?_
    refine z_iload_n hX d8_isBalanced_13 rfl ?_
    refine z_callV1 hX (sp8_roadsAt l) lm_8_144 (hM _ _ rfl) ⟨by decide, by decide, by decide, by decide⟩ (Nat.le_of_ble_eq_true rfl) d8_isBalanced_14 ?_
    refine ⟨iv, h, a, ld, n, j, rfl, hM, p1, p2, ?_⟩
    dsimp only [Option.toList, List.cons_append, List.nil_append]
    refine z_iload_n hX d8_isBalanced_17 rfl ?_
    refine z_iconst hX (-1) d8_isBalanced_18 (by decide) ?_
    refine z_ixor hX d8_isBalanced_19 ?_
    refine z_iand hX d8_isBalanced_20 ?_
    rw [fa_sd]
    have h4 : zsd (mAt a n j) all < 4096 := zsd_lt (mAt_lt p2 _)
    refine z_if_ne hX 28 d8_isBalanced_21 (by decide) (fun h21 => ?_) (fun h21 => ?_)
    · skip
      have e : mBd a n j all = false := by unfold mBd; rw [h9, decide_eq_false (fun z => h21 (by rw [z]; rfl))]; rfl
      rw [e] at hK
      refine z_iconst hX (0) d8_isBalanced_28 (by decide) ?_
      refine z_zret hX hE (by decide) (by decide) (by decide) d8_isBalanced_29 ?_
      exact hK
    · skip
      have e : mBd a n j all = true := by unfold mBd; rw [h9, decide_eq_true ((nI_eq (b := 0) (by omega) (by decide)).mp h21)]; rfl
      rw [e] at hK
      refine z_iconst hX (1) d8_isBalanced_24 (by decide) ?_
      refine z_goto hX 29 d8_isBalanced_25 (by decide) ?_
      refine z_zret hX hE (by decide) (by decide) (by decide) d8_isBalanced_29 ?_
      exact hK
def mBals (h : Nat → Bool) (a : Nat → Nat → Int32) (n : Nat) (sh : Nat → Nat) (ld : Nat → Int64) (j : Int32) : Int32 := if 0 ≤ j.toInt ∧ j.toInt ≤ 7 then zb (mBd a n j (mW h a n sh ld).1) else -1
def S8_balances : z_PT := fun as P nx K => ∃ (iv : Nat → Int32) (h : Nat → Bool) (a : Nat → Nat → Int32) (ld : Nat → Int64) (n : Nat) (sh : Nat → Nat) (j : Int32), as = [.ref 70, .int j] ∧ z_in (zM iv h a ld) P ∧ (mWf iv h a n sh) ∧ (∀ (ld2 : Nat → Int64) (P' : z_H), z_in (zM iv h a ld2) P' → z_out zDm P P' → K (some (.int (mBals h a n sh ld j))) P' nx)
set_option maxRecDepth 4000 in
theorem sp8_balances (l : Launch) : z_Sp l M8_balances rM8_balances S8_balances := by
  refine z_enter (by decide) (fun as P nx K h => ?_) (fun X K as P nx hX hE hin0 hS => ?_)
  · obtain ⟨iv, h, a, ld, n, sh, j, rfl, -⟩ := h
    exact Nat.le_of_ble_eq_true rfl
  obtain ⟨iv, h, a, ld, n, sh, j, rfl, hM, p1, hK⟩ := hS
  show z_W X 0 [some (.ref 70), some (.int j)] [] P nx 0 0
  have hO : z_out zDm P P := z_out.rf
  have pw := p1
  obtain ⟨w1, w2, w3, w4, w5⟩ := p1
  have hw4 := mW_lt (h := h) (a := a) (sh := sh) (ld := ld) w2
  unfold mBals at hK
  refine z_iload_n hX d8_balances_0 rfl ?_
  refine z_i2l hX d8_balances_1 ?_
  refine z_lconst hX 0 d8_balances_2 (by decide) ?_
  refine z_ldc2 hX (7) d8_balances_3 lk_8_105 ?_
  refine z_callS3 hX (sp8_lies l) lm_8_74 ⟨by decide, by decide, by decide, by decide⟩ (Nat.le_of_ble_eq_true rfl) d8_balances_6 ?_
  refine ⟨_, _, _, rfl, ?_⟩
  rw [i2l_t, show (0 : Int64).toInt = 0 from rfl, show (7 : Int64).toInt = 7 from rfl]
  dsimp only [Option.toList, List.cons_append, List.nil_append]
  refine z_ifb_ne hX 16 d8_balances_9 (by decide) (fun h9 => ?_) (fun h9 => ?_)
  · skip
    rw [decide_eq_true_eq] at h9
    rw [if_pos h9] at hK
    refine z_aload_n hX d8_balances_16 rfl ?_
    refine z_iload_n hX d8_balances_17 rfl ?_
    refine z_aload_n hX d8_balances_18 rfl ?_
    refine z_callV0 hX (sp8_works l) lm_8_160 (hM _ _ rfl) ⟨by decide, by decide, by decide, by decide⟩ (Nat.le_of_ble_eq_true rfl) d8_balances_19 ?_
    refine ⟨iv, h, a, ld, n, sh, rfl, hM, pw, fun P' g1 g2 => ?_⟩
    dsimp only [Option.toList, List.cons_append, List.nil_append]
    refine z_callV2 hX (sp8_isBalanced l) lm_8_163 (g1 _ _ rfl) ⟨by decide, by decide, by decide, by decide⟩ (Nat.le_of_ble_eq_true rfl) d8_balances_22 ?_
    refine ⟨iv, h, a, _, n, j, _, rfl, g1, w1, w2, ?_⟩
    dsimp only [Option.toList, List.cons_append, List.nil_append]
    refine z_ifb_eq hX 32 d8_balances_25 (by decide) (fun h25 => ?_) (fun h25 => ?_)
    · skip
      rw [h25] at hK
      refine z_iconst hX (0) d8_balances_32 (by decide) ?_
      refine z_iret hX hE (by decide) (by decide) d8_balances_33 ?_
      first | exact hK _ P' g1 g2 | exact hK ld P hM hO
    · skip
      rw [h25] at hK
      refine z_iconst hX (1) d8_balances_28 (by decide) ?_
      refine z_goto hX 33 d8_balances_29 (by decide) ?_
      refine z_iret hX hE (by decide) (by decide) d8_balances_33 ?_
      first | exact hK _ P' g1 g2 | exact hK ld P hM hO
  · skip
    rw [decide_eq_false_iff_not] at h9
    rw [if_neg h9] at hK
    refine z_iconst hX (-1) d8_balances_12 (by decide) ?_
    refine z_goto hX 33 d8_balances_13 (by decide) ?_
    refine z_iret hX hE (by decide) (by decide) d8_balances_33 ?_
    first | exact hK _ P' g1 g2 | exact hK ld P hM hO
def mBal (h : Nat → Bool) (a : Nat → Nat → Int32) (n : Nat) (sh : Nat → Nat) (ld : Nat → Int64) (j : Int32) : Int64 := if mBd a n j (mW h a n sh ld).1 then mEx a (mW h a n sh ld).2 j (mW h a n sh ld).1 n else 0
def S8_balance : z_PT := fun as P nx K => ∃ (iv : Nat → Int32) (h : Nat → Bool) (a : Nat → Nat → Int32) (ld : Nat → Int64) (n : Nat) (sh : Nat → Nat) (j : Int32), as = [.ref 70, .int j] ∧ z_in (zM iv h a ld) P ∧ (mWf iv h a n sh) ∧ (∀ (ld2 : Nat → Int64) (P' : z_H), z_in (zM iv h a ld2) P' → z_out zDm P P' → K (some (.long (mBal h a n sh ld j))) P' nx)
set_option maxRecDepth 4000 in
theorem sp8_balance (l : Launch) : z_Sp l M8_balance rM8_balance S8_balance := by
  refine z_enter (by decide) (fun as P nx K h => ?_) (fun X K as P nx hX hE hin0 hS => ?_)
  · obtain ⟨iv, h, a, ld, n, sh, j, rfl, -⟩ := h
    exact Nat.le_of_ble_eq_true rfl
  obtain ⟨iv, h, a, ld, n, sh, j, rfl, hM, p1, hK⟩ := hS
  refine z_pad 1 ?_
  show z_W X 0 [some (.ref 70), some (.int j), none] [] P nx 0 0
  have hO : z_out zDm P P := z_out.rf
  have pw := p1
  obtain ⟨w1, w2, w3, w4, w5⟩ := p1
  have hw4 := mW_lt (h := h) (a := a) (sh := sh) (ld := ld) w2
  unfold mBal at hK
  refine z_aload_n hX d8_balance_0 rfl ?_
  refine z_callV0 hX (sp8_works l) lm_8_160 (hM _ _ rfl) ⟨by decide, by decide, by decide, by decide⟩ (Nat.le_of_ble_eq_true rfl) d8_balance_1 ?_
  refine ⟨iv, h, a, ld, n, sh, rfl, hM, pw, fun P' g1 g2 => ?_⟩
  dsimp only [Option.toList, List.cons_append, List.nil_append]
  refine z_istore_n hX 2 rfl (by decide) d8_balance_4 ?_
  dsimp only [z_p1, z_p2, z_k, List.headD, List.tail]
  refine z_aload_n hX d8_balance_5 rfl ?_
  refine z_iload_n hX d8_balance_6 rfl ?_
  refine z_iload_n hX d8_balance_7 rfl ?_
  refine z_callV2 hX (sp8_isBalanced l) lm_8_163 (g1 _ _ rfl) ⟨by decide, by decide, by decide, by decide⟩ (Nat.le_of_ble_eq_true rfl) d8_balance_8 ?_
  refine ⟨iv, h, a, _, n, j, _, rfl, g1, w1, w2, ?_⟩
  dsimp only [Option.toList, List.cons_append, List.nil_append]
  refine z_ifb_eq hX 23 d8_balance_11 (by decide) (fun h11 => ?_) (fun h11 => ?_)
  · skip
    rw [if_neg (by rw [h11]; decide)] at hK
    refine z_lconst hX 0 d8_balance_23 (by decide) ?_
    refine z_lret hX hE (by decide) (by decide) d8_balance_24 ?_
    exact hK _ P' g1 g2
  · skip
    rw [if_pos h11] at hK
    refine z_aload_n hX d8_balance_14 rfl ?_
    refine z_iload_n hX d8_balance_15 rfl ?_
    refine z_iload_n hX d8_balance_16 rfl ?_
    refine z_callV2 hX (sp8_excess l) lm_8_150 (g1 _ _ rfl) ⟨by decide, by decide, by decide, by decide⟩ (Nat.le_of_ble_eq_true rfl) d8_balance_17 ?_
    refine ⟨iv, h, a, _, n, j, _, rfl, g1, w1, w2, hw4, ?_⟩
    dsimp only [Option.toList, List.cons_append, List.nil_append]
    refine z_goto hX 24 d8_balance_20 (by decide) ?_
    refine z_lret hX hE (by decide) (by decide) d8_balance_24 ?_
    exact hK _ P' g1 g2
end
section
/-! the model's sets that do, and its plan -/
theorem mA_89 {a : Nat → Nat → Int32} {f : Nat → Int32} {n : Nat} : mA (va_up a 89 f) n = mA a n := rfl
theorem zpop_or0 {A : Nat → Nat} {j all : Nat} (hA : A j < 4096) (h : zpop (zsd (A j) all) ≤ 1) : all ||| zsd (A j) all = aS A j all := by
  unfold aS
  split
  · rfl
  · have : zsd (A j) all = 0 := (zpop_z _ (zsd_lt hA)).mp (by omega)
    rw [this, Nat.or_zero]
theorem aS_no {A : Nat → Nat} {j all : Nat} (h : ¬ zpop (zsd (A j) all) ≤ 1) : aS A j all = all := by
  unfold aS
  rw [if_neg (by omega)]
theorem pw_le {n : Nat} (h : n ≤ 12) : 2 ^ n ≤ 4096 := show 2 ^ n ≤ 2 ^ 12 from Nat.pow_le_pow_right (by decide) h
theorem pw_s {n : Nat} (h : n ≤ 12) : (1 : Int32) <<< (nI n &&& 31) - 1 = nI (2 ^ n - 1) := by
  rw [sh1 (by omega)]
  have := Nat.two_pow_pos n
  rw [show nI (2 ^ n) - 1 = nI ((2 ^ n - 1) + 1) - 1 from by rw [show 2 ^ n - 1 + 1 = 2 ^ n by omega], nI_pred]
/-- do meters on a set do? -/
def pOk (A : Nat → Nat) (n set : Nat) : Bool := decide (aL A 13 set = 2 ^ n - 1)
def S8_doAll : z_PT := fun as P nx K => ∃ (iv : Nat → Int32) (h : Nat → Bool) (a : Nat → Nat → Int32) (ld : Nat → Int64) (n set : Nat), as = [.ref 70, .int (nI set)] ∧ z_in (zM iv h a ld) P ∧ (iv 2 = nI n) ∧ (n ≤ 12) ∧ (set < 4096) ∧ (∀ j, j < 8 → a 89 j = nI (mA a n j)) ∧ K (some (.int (zb (pOk (mA a n) n set)))) P nx
set_option maxRecDepth 4000 in
theorem sp8_doAll (l : Launch) : z_Sp l M8_doAll rM8_doAll S8_doAll := by
  refine z_enter (by decide) (fun as P nx K h => ?_) (fun X K as P nx hX hE hin0 hS => ?_)
  · obtain ⟨iv, h, a, ld, n, set, rfl, -⟩ := h
    exact Nat.le_of_ble_eq_true rfl
  obtain ⟨iv, h, a, ld, n, set, rfl, hM, p1, p2, p3, p4, hK⟩ := hS
  refine z_pad 4 ?_
  show z_W X 0 [some (.ref 70), some (.int (nI set)), none, none, none, none] [] P nx 0 0
  have hA : ∀ j, mA a n j < 4096 := fun _ => mAt_lt p2 _
  have hpw := pw_le p2
  have inner : ∀ (hd : Int32) (k j all : Nat), j + k = 8 → all < 4096 → z_W X 4 [some (.ref 70), some (.int (nI set)), some (.int (nI (aF (mA a n) k j all))), some (.int hd), none, none] [] P nx 0 0 → z_W X 14 [some (.ref 70), some (.int (nI set)), some (.int (nI all)), some (.int hd), some (.int (nI j)), none] [] P nx 0 0 := by
    intro hd k
    induction k with
    | zero =>
      intro j all hj hq cont
      have hj : j = 8 := by omega
      subst hj
      have cont : z_W X 4 [some (.ref 70), some (.int (nI set)), some (.int (nI all)), some (.int hd), some (.int (nI 8)), none] [] P nx 0 0 := z_sub cont (by repeat' (first | exact trivial | refine ⟨rfl, ?_⟩))
      refine z_iload hX d8_doAll_14 rfl ?_
      refine z_bipush hX (8) d8_doAll_16 (by decide) ?_
      refine z_icmp_ge hX 55 d8_doAll_18 (by decide) (fun h18 => ?_) (fun h18 => ?_)
      rotate_left
      · exact absurd (by decide) h18
      refine z_goto hX 4 d8_doAll_55 (by decide) ?_
      exact cont
    | succ k ih =>
      intro j all hj hq cont
      have cont : z_W X 4 [some (.ref 70), some (.int (nI set)), some (.int (nI (aF (mA a n) k (j + 1) (aS (mA a n) j all)))), some (.int hd), none, none] [] P nx 0 0 := cont
      have nxt := ih (j + 1) (aS (mA a n) j all) (by omega) (aS_lt hA hq) cont
      have ho4 : zsd (mA a n j) all < 4096 := zsd_lt (hA j)
      refine z_iload hX d8_doAll_14 rfl ?_
      refine z_bipush hX (8) d8_doAll_16 (by decide) ?_
      refine z_icmp_ge hX 55 d8_doAll_18 (by decide) (fun h18 => ?_) (fun h18 => ?_)
      · exact absurd h18 (nI_ge (b := 8) (by omega) (by decide))
      refine z_aload_n hX d8_doAll_21 rfl ?_
      refine z_get hX lf_8_67 (hM _ _ rfl) rfl d8_doAll_22 ?_
      refine z_iload hX d8_doAll_25 rfl ?_
      refine z_iald hX (hM _ _ rfl) (vp_in_nI (by omega) (by decide)) d8_doAll_27 ?_
      rw [nI_clamp (show j < 2 ^ 31 by omega), p4 j (by omega)]
      refine z_iload_n hX d8_doAll_28 rfl ?_
      refine z_iconst hX (-1) d8_doAll_29 (by decide) ?_
      refine z_ixor hX d8_doAll_30 ?_
      refine z_iand hX d8_doAll_31 ?_
      rw [fa_sd]
      refine z_istore hX (by decide) d8_doAll_32 ?_
      dsimp only [z_p1, z_p2, z_k, List.headD, List.tail]
      refine z_iload hX d8_doAll_34 rfl ?_
      refine z_iload hX d8_doAll_36 rfl ?_
      refine z_iconst hX (1) d8_doAll_38 (by decide) ?_
      refine z_isub hX d8_doAll_39 ?_
      refine z_iand hX d8_doAll_40 ?_
      rw [show nI (zsd (mA a n j) all) &&& (nI (zsd (mA a n j) all) - 1) = nI (zsd (mA a n j) all &&& (zsd (mA a n j) all - 1)) from by
        by_cases z : zsd (mA a n j) all = 0
        · rw [z]; rfl
        · rw [show nI (zsd (mA a n j) all) - 1 = nI (zsd (mA a n j) all - 1) from by rw [show zsd (mA a n j) all = (zsd (mA a n j) all - 1) + 1 by omega, nI_pred]; rfl, fa_and]]
      have hz := zpop_1 _ ho4
      have hle : zsd (mA a n j) all &&& (zsd (mA a n j) all - 1) ≤ zsd (mA a n j) all := Nat.and_le_left
      refine z_if_ne hX 49 d8_doAll_41 (by decide) (fun h41 => ?_) (fun h41 => ?_)
      · skip
        rw [aS_no (fun q => h41 (by rw [hz.mpr q]; rfl))] at nxt
        refine z_iinc hX (1) (by decide) rfl (by decide) d8_doAll_49 ?_
        dsimp only [z_p1, z_p2, z_k, List.headD, List.tail]
        refine z_goto hX 14 d8_doAll_52 (by decide) ?_
        rw [nI_1]
        exact z_sub nxt (by repeat' (first | exact trivial | refine ⟨rfl, ?_⟩))
      · skip
        rw [← zpop_or0 (hA j) (hz.mp ((nI_eq (b := 0) (by omega) (by decide)).mp h41)), ← fa_or] at nxt
        refine z_iload_n hX d8_doAll_44 rfl ?_
        refine z_iload hX d8_doAll_45 rfl ?_
        refine z_ior hX d8_doAll_47 ?_
        refine z_istore_n hX 2 rfl (by decide) d8_doAll_48 ?_
        dsimp only [z_p1, z_p2, z_k, List.headD, List.tail]
        refine z_iinc hX (1) (by decide) rfl (by decide) d8_doAll_49 ?_
        dsimp only [z_p1, z_p2, z_k, List.headD, List.tail]
        refine z_goto hX 14 d8_doAll_52 (by decide) ?_
        rw [nI_1]
        exact z_sub nxt (by repeat' (first | exact trivial | refine ⟨rfl, ?_⟩))
  have outer : ∀ (f all : Nat) (hd : Int32), 12 < f + zpop all → all < 4096 → ¬ hd = nI all → aL (mA a n) f all = aL (mA a n) 13 set → z_W X 4 [some (.ref 70), some (.int (nI set)), some (.int (nI all)), some (.int hd), none, none] [] P nx 0 0 := by
    intro f
    induction f with
    | zero =>
      intro all hd h1 hq
      have := zpop_le all
      omega
    | succ f ih =>
      intro all hd h1 hq hne cont
      have cont : (if aF (mA a n) 8 0 all = all then aF (mA a n) 8 0 all else aL (mA a n) f (aF (mA a n) 8 0 all)) = aL (mA a n) 13 set := cont
      have l1 : aF (mA a n) 8 0 all < 4096 := aF_lt hA 8 0 hq
      refine z_iload_n hX d8_doAll_4 rfl ?_
      refine z_iload_n hX d8_doAll_5 rfl ?_
      refine z_icmp_eq hX 58 d8_doAll_6 (by decide) (fun h6 => ?_) (fun h6 => ?_)
      · exact absurd h6 hne
      refine z_iload_n hX d8_doAll_9 rfl ?_
      refine z_istore_n hX 3 rfl (by decide) d8_doAll_10 ?_
      dsimp only [z_p1, z_p2, z_k, List.headD, List.tail]
      refine z_iconst hX (0) d8_doAll_11 (by decide) ?_
      refine z_istore hX (by decide) d8_doAll_12 ?_
      dsimp only [z_p1, z_p2, z_k, List.headD, List.tail]
      refine inner (nI all) 8 0 all rfl hq ?_
      by_cases e : aF (mA a n) 8 0 all = all
      · rw [if_pos e] at cont
        refine z_iload_n hX d8_doAll_4 rfl ?_
        refine z_iload_n hX d8_doAll_5 rfl ?_
        refine z_icmp_eq hX 58 d8_doAll_6 (by decide) (fun h6 => ?_) (fun h6 => ?_)
        rotate_left
        · exact absurd (by rw [e]) h6
        refine z_iload_n hX d8_doAll_58 rfl ?_
        refine z_iconst hX (1) d8_doAll_59 (by decide) ?_
        refine z_aload_n hX d8_doAll_60 rfl ?_
        refine z_get hX lf_8_70 (hM _ _ rfl) rfl d8_doAll_61 ?_
        refine z_ishl hX d8_doAll_64 ?_
        refine z_iconst hX (1) d8_doAll_65 (by decide) ?_
        refine z_isub hX d8_doAll_66 ?_
        rw [p1, pw_s p2]
        refine z_icmp_ne hX 74 d8_doAll_67 (by decide) (fun h67 => ?_) (fun h67 => ?_)
        · skip
          rw [show pOk (mA a n) n set = false from decide_eq_false (fun z => h67 (by rw [cont, z]))] at hK
          refine z_iconst hX (0) d8_doAll_74 (by decide) ?_
          refine z_zret hX hE (by decide) (by decide) (by decide) d8_doAll_75 ?_
          exact hK
        · skip
          rw [show pOk (mA a n) n set = true from decide_eq_true (by rw [← cont]; exact (nI_eq (by omega) (by omega)).mp h67)] at hK
          refine z_iconst hX (1) d8_doAll_70 (by decide) ?_
          refine z_goto hX 75 d8_doAll_71 (by decide) ?_
          refine z_zret hX hE (by decide) (by decide) (by decide) d8_doAll_75 ?_
          exact hK
      · rw [if_neg e] at cont
        have l2 : zpop all < zpop (aF (mA a n) 8 0 all) := zpop_lt l1 (aF_sub _ 8 0 all) e
        exact ih _ (nI all) (by omega) l1 (fun z => e ((nI_eq (by omega) (by omega)).mp z).symm) cont
  refine z_iload_n hX d8_doAll_0 rfl ?_
  refine z_istore_n hX 2 rfl (by decide) d8_doAll_1 ?_
  dsimp only [z_p1, z_p2, z_k, List.headD, List.tail]
  refine z_iconst hX (-1) d8_doAll_2 (by decide) ?_
  refine z_istore_n hX 3 rfl (by decide) d8_doAll_3 ?_
  dsimp only [z_p1, z_p2, z_k, List.headD, List.tail]
  exact outer 13 set (-1) (by omega) p3 (fun z => by rw [i_eq, nI_toInt (show set < 2 ^ 31 by omega), show (-1 : Int32).toInt = -1 from rfl] at z; omega) rfl
def S8_lists : z_PT := fun as P nx K => ∃ (iv : Nat → Int32) (h : Nat → Bool) (a : Nat → Nat → Int32) (ld : Nat → Int64) (n : Nat), as = [.ref 70] ∧ z_in (zM iv h a ld) P ∧ iv 2 = nI n ∧ n ≤ 12 ∧ ∀ (f : Nat → Int32) (P' : z_H), (∀ j, j < 8 → f j = nI (mA a n j)) → z_in (zM iv h (va_up a 89 f) ld) P' → z_out zDm P P' → K none P' nx
theorem va_upup {a : Nat → Nat → Int32} {f g : Nat → Int32} {k : Nat} : va_up (va_up a k f) k g = va_up a k g := by
  funext j
  by_cases e : j = k
  · simp [va_up, e]
  · simp [va_up, e]
theorem sp8_lists (l : Launch) : z_Sp l M8_lists rM8_lists S8_lists := by
  refine z_enter (by decide) (fun as P nx K h => ?_) (fun X K as P nx hX hE hin0 hS => ?_)
  · obtain ⟨iv, h, a, ld, n, rfl, -⟩ := h
    exact Nat.le_of_ble_eq_true rfl
  obtain ⟨iv, h, a, ld, n, rfl, hM, p1, p2, hK⟩ := hS
  refine z_pad 1 ?_
  show z_W X 0 [some (.ref 70), none] [] P nx 0 0
  obtain ⟨P0, hP0⟩ : ∃ P0, P0 = P := ⟨_, rfl⟩
  rw [← hP0] at hK
  have hO : z_out zDm P0 P := by rw [hP0]; exact z_out.rf
  have loop : ∀ (k i : Nat) (f : Nat → Int32) (P : z_H), i + k = 8 → (∀ j, j < i → f j = nI (mA a n j)) → z_in (zM iv h (va_up a 89 f) ld) P → z_out zDm P0 P → z_W X 2 [some (.ref 70), some (.int (nI i))] [] P nx 0 0 := by
    intro k
    induction k with
    | zero =>
      intro i f P hi hf hM hO
      have hi : i = 8 := by omega
      subst hi
      refine z_iload_n hX d8_lists_2 rfl ?_
      refine z_bipush hX (8) d8_lists_3 (by decide) ?_
      refine z_icmp_ge hX 25 d8_lists_5 (by decide) (fun h5 => ?_) (fun h5 => ?_)
      rotate_left
      · exact absurd (by decide) h5
      refine z_vret hX hE (by decide) (by decide) d8_lists_25 ?_
      exact hK f P hf hM hO
    | succ k ih =>
      intro i f P hi hf hM hO
      refine z_iload_n hX d8_lists_2 rfl ?_
      refine z_bipush hX (8) d8_lists_3 (by decide) ?_
      refine z_icmp_ge hX 25 d8_lists_5 (by decide) (fun h5 => ?_) (fun h5 => ?_)
      · exact absurd h5 (nI_ge (b := 8) (by omega) (by decide))
      refine z_aload_n hX d8_lists_8 rfl ?_
      refine z_get hX lf_8_67 (hM _ _ rfl) rfl d8_lists_9 ?_
      refine z_iload_n hX d8_lists_12 rfl ?_
      refine z_aload_n hX d8_lists_13 rfl ?_
      refine z_iload_n hX d8_lists_14 rfl ?_
      refine z_callV1 hX (sp8_roadsAt l) lm_8_144 (hM _ _ rfl) ⟨by decide, by decide, by decide, by decide⟩ (Nat.le_of_ble_eq_true rfl) d8_lists_15 ?_
      refine ⟨iv, h, _, ld, n, nI i, rfl, hM, p1, p2, ?_⟩
      dsimp only [Option.toList, List.cons_append, List.nil_append]
      refine z_iast hX (hM _ _ rfl) (vp_in_nI (by omega) (by decide)) d8_lists_18 ?_
      rw [nI_clamp (show i < 2 ^ 31 by omega)]
      refine z_gen hM hO rfl (fun P hM hO => ?_)
      have hM := zM_s89 hM
      rw [va_upup] at hM
      refine z_iinc hX (1) (by decide) rfl (by decide) d8_lists_19 ?_
      dsimp only [z_p1, z_p2, z_k, List.headD, List.tail]
      refine z_goto hX 2 d8_lists_22 (by decide) ?_
      rw [nI_1]
      refine ih (i + 1) _ P (by omega) (fun j hj => ?_) hM hO
      by_cases e : j = i
      · subst e
        rw [pk_us]
        rfl
      · rw [pk_un e]
        exact hf j (by omega)
  refine z_iconst hX (0) d8_lists_0 (by decide) ?_
  refine z_istore_n hX 1 rfl (by decide) d8_lists_1 ?_
  dsimp only [z_p1, z_p2, z_k, List.headD, List.tail]
  exact loop 8 0 (a 89) P (by omega) (fun j hj => absurd hj (Nat.not_lt_zero j)) (by rw [show va_up a 89 (a 89) = a from by funext j; by_cases e : j = 89 <;> simp [va_up, e]]; exact hM) hO
def mDoes (a : Nat → Nat → Int32) (n : Nat) (s : Int32) : Int32 := if 0 ≤ s.toInt ∧ s.toInt < (2 ^ n : Nat) then zb (pOk (mA a n) n s.toInt.toNat) else -1
def S8_does : z_PT := fun as P nx K => ∃ (iv : Nat → Int32) (h : Nat → Bool) (a : Nat → Nat → Int32) (ld : Nat → Int64) (n : Nat) (s : Int32), as = [.ref 70, .int s] ∧ z_in (zM iv h a ld) P ∧ (iv 2 = nI n) ∧ (n ≤ 12) ∧ (∀ (f : Nat → Int32) (P' : z_H), z_in (zM iv h (va_up a 89 f) ld) P' → z_out zDm P P' → K (some (.int (mDoes a n s))) P' nx)
set_option maxRecDepth 4000 in
theorem sp8_does (l : Launch) : z_Sp l M8_does rM8_does S8_does := by
  refine z_enter (by decide) (fun as P nx K h => ?_) (fun X K as P nx hX hE hin0 hS => ?_)
  · obtain ⟨iv, h, a, ld, n, s, rfl, -⟩ := h
    exact Nat.le_of_ble_eq_true rfl
  obtain ⟨iv, h, a, ld, n, s, rfl, hM, p1, p2, hK⟩ := hS
  show z_W X 0 [some (.ref 70), some (.int s)] [] P nx 0 0
  have hO : z_out zDm P P := z_out.rf
  have hpw := pw_le p2
  have hp2 := Nat.two_pow_pos n
  unfold mDoes at hK
  refine z_iload_n hX d8_does_0 rfl ?_
  refine z_i2l hX d8_does_1 ?_
  refine z_lconst hX 0 d8_does_2 (by decide) ?_
  refine z_iconst hX (1) d8_does_3 (by decide) ?_
  refine z_aload_n hX d8_does_4 rfl ?_
  refine z_get hX lf_8_70 (hM _ _ rfl) rfl d8_does_5 ?_
  refine z_ishl hX d8_does_8 ?_
  refine z_iconst hX (1) d8_does_9 (by decide) ?_
  refine z_isub hX d8_does_10 ?_
  rw [p1, pw_s p2]
  refine z_i2l hX d8_does_11 ?_
  refine z_callS3 hX (sp8_lies l) lm_8_74 ⟨by decide, by decide, by decide, by decide⟩ (Nat.le_of_ble_eq_true rfl) d8_does_12 ?_
  refine ⟨_, _, _, rfl, ?_⟩
  rw [i2l_t, i2l_t, nI_toInt (by omega), show (0 : Int64).toInt = 0 from rfl]
  dsimp only [Option.toList, List.cons_append, List.nil_append]
  refine z_ifb_ne hX 20 d8_does_15 (by decide) (fun h15 => ?_) (fun h15 => ?_)
  · skip
    rw [decide_eq_true_eq] at h15
    rw [if_pos (by omega)] at hK
    obtain ⟨j, hj, rfl⟩ := nI_rng (n := 2 ^ n) h15.1 (by omega)
    rw [tN (n := 4096) (by omega) (by decide)] at hK
    refine z_aload_n hX d8_does_20 rfl ?_
    refine z_callV0 hX (sp8_lists l) lm_8_166 (hM _ _ rfl) ⟨by decide, by decide, by decide, by decide⟩ (Nat.le_of_ble_eq_true rfl) d8_does_21 ?_
    refine ⟨iv, h, a, ld, n, rfl, hM, p1, p2, fun f P' hf g1 g2 => ?_⟩
    dsimp only [Option.toList, List.cons_append, List.nil_append]
    refine z_aload_n hX d8_does_24 rfl ?_
    refine z_iload_n hX d8_does_25 rfl ?_
    refine z_callV1 hX (sp8_doAll l) lm_8_169 (g1 _ _ rfl) ⟨by decide, by decide, by decide, by decide⟩ (Nat.le_of_ble_eq_true rfl) d8_does_26 ?_
    refine ⟨iv, h, _, ld, n, j, rfl, g1, p1, p2, by omega, hf, ?_⟩
    dsimp only [Option.toList, List.cons_append, List.nil_append]
    refine z_ifb_eq hX 36 d8_does_29 (by decide) (fun h29 => ?_) (fun h29 => ?_)
    · skip
      rw [mA_89] at h29
      rw [h29] at hK
      refine z_iconst hX (0) d8_does_36 (by decide) ?_
      refine z_iret hX hE (by decide) (by decide) d8_does_37 ?_
      exact hK f P' g1 g2
    · skip
      rw [mA_89] at h29
      rw [h29] at hK
      refine z_iconst hX (1) d8_does_32 (by decide) ?_
      refine z_goto hX 37 d8_does_33 (by decide) ?_
      refine z_iret hX hE (by decide) (by decide) d8_does_37 ?_
      exact hK f P' g1 g2
  · skip
    rw [decide_eq_false_iff_not] at h15
    rw [if_neg (by omega)] at hK
    refine z_iconst hX (-1) d8_does_18 (by decide) ?_
    refine z_iret hX hE (by decide) (by decide) d8_does_19 ?_
    exact hK (a 89) P (by rw [show va_up a 89 (a 89) = a from by funext j; by_cases e : j = 89 <;> simp [va_up, e]]; exact hM) hO
def pPr (pr : Nat → Nat) (set : Nat) : Nat → Nat
  | 0 => 0
  | r + 1 => pPr pr set r + (if set.testBit r then pr r else 0)
theorem pPr_le {pr : Nat → Nat} {set : Nat} : ∀ {n : Nat}, (∀ r, r < n → pr r ≤ 9999) → pPr pr set n ≤ 9999 * n
  | 0, _ => Nat.le_refl _
  | n + 1, h => by
    have := pPr_le (set := set) (fun r hr => h r (Nat.lt_succ_of_lt hr))
    have := h n (Nat.lt_succ_self n)
    unfold pPr
    split <;> omega
def pSt (A : Nat → Nat) (n : Nat) (pr : Nat → Nat) (set : Nat) (b : Option (Nat × Nat)) : Option (Nat × Nat) := match b with
  | none => if pOk A n set then some (set, pPr pr set n) else none
  | some q => if q.2 < pPr pr set n ∨ (pPr pr set n = q.2 ∧ zpop q.1 ≤ zpop set) then some q else if pOk A n set then some (set, pPr pr set n) else some q
def pFd (A : Nat → Nat) (n : Nat) (pr : Nat → Nat) : Nat → Option (Nat × Nat)
  | 0 => none
  | s + 1 => pSt A n pr s (pFd A n pr s)
def pB (b : Option (Nat × Nat)) : Int32 := match b with
  | none => -1
  | some q => nI q.1
def pC (b : Option (Nat × Nat)) : Int32 := match b with
  | none => 0
  | some q => nI q.2
theorem pFd_lt {A : Nat → Nat} {n : Nat} {pr : Nat → Nat} (hp : ∀ r, r < n → pr r ≤ 9999) : ∀ s q, pFd A n pr s = some q → q.1 < s ∧ q.2 ≤ 9999 * n
  | 0, q, h => by cases h
  | s + 1, q, h => by
    unfold pFd at h
    have hl := pPr_le (set := s) hp
    cases hb : pFd A n pr s with
    | none =>
      rw [hb] at h
      unfold pSt at h
      dsimp only at h
      split at h
      · cases h; exact ⟨Nat.lt_succ_self s, hl⟩
      · cases h
    | some q' =>
      obtain ⟨h1, h2⟩ := pFd_lt hp s q' hb
      rw [hb] at h
      unfold pSt at h
      dsimp only at h
      split at h
      · cases h; exact ⟨by omega, h2⟩
      · split at h
        · cases h; exact ⟨Nat.lt_succ_self s, hl⟩
        · cases h; exact ⟨by omega, h2⟩
def S8_plan : z_PT := fun as P nx K => ∃ (iv : Nat → Int32) (h : Nat → Bool) (a : Nat → Nat → Int32) (ld : Nat → Int64) (n : Nat) (pr : Nat → Nat), as = [.ref 70] ∧ z_in (zM iv h a ld) P ∧ (iv 2 = nI n) ∧ (n ≤ 12) ∧ (∀ r, r < n → a 77 r = nI (pr r) ∧ pr r ≤ 9999) ∧ (∀ (f : Nat → Int32) (P' : z_H), z_in (zM iv h (va_up a 89 f) ld) P' → z_out zDm P P' → K (some (.int (pB (pFd (mA a n) n pr (2 ^ n))))) P' nx)
set_option maxRecDepth 4000 in
theorem sp8_plan (l : Launch) : z_Sp l M8_plan rM8_plan S8_plan := by
  refine z_enter (by decide) (fun as P nx K h => ?_) (fun X K as P nx hX hE hin0 hS => ?_)
  · obtain ⟨iv, h, a, ld, n, pr, rfl, -⟩ := h
    exact Nat.le_of_ble_eq_true rfl
  obtain ⟨iv, h, a, ld, n, pr, rfl, hM, p1, p2, p3, hK⟩ := hS
  refine z_pad 5 ?_
  show z_W X 0 [some (.ref 70), none, none, none, none, none] [] P nx 0 0
  have hO : z_out zDm P P := z_out.rf
  have hpw := pw_le p2
  have hp2 := Nat.two_pow_pos n
  have hpr : ∀ r, r < n → pr r ≤ 9999 := fun r hr => (p3 r hr).2
  refine z_aload_n hX d8_plan_0 rfl ?_
  refine z_callV0 hX (sp8_lists l) lm_8_166 (hM _ _ rfl) ⟨by decide, by decide, by decide, by decide⟩ (Nat.le_of_ble_eq_true rfl) d8_plan_1 ?_
  refine ⟨iv, h, a, ld, n, rfl, hM, p1, p2, fun f P' hf g1 g2 => ?_⟩
  dsimp only [Option.toList, List.cons_append, List.nil_append]
  refine z_iconst hX (-1) d8_plan_4 (by decide) ?_
  refine z_istore_n hX 1 rfl (by decide) d8_plan_5 ?_
  dsimp only [z_p1, z_p2, z_k, List.headD, List.tail]
  refine z_iconst hX (0) d8_plan_6 (by decide) ?_
  refine z_istore_n hX 2 rfl (by decide) d8_plan_7 ?_
  dsimp only [z_p1, z_p2, z_k, List.headD, List.tail]
  refine z_iconst hX (0) d8_plan_8 (by decide) ?_
  refine z_istore_n hX 3 rfl (by decide) d8_plan_9 ?_
  dsimp only [z_p1, z_p2, z_k, List.headD, List.tail]
  have hK := hK f P' g1 g2
  have hM := g1
  have price : ∀ (s : Nat) (b c : Int32), s < 4096 → z_W X 66 [some (.ref 70), some (.int b), some (.int c), some (.int (nI s)), some (.int (nI (pPr pr s n))), some (.int (nI n))] [] P' nx 0 0 → ∀ (k i : Nat), i + k = n → z_W X 26 [some (.ref 70), some (.int b), some (.int c), some (.int (nI s)), some (.int (nI (pPr pr s i))), some (.int (nI i))] [] P' nx 0 0 := by
    intro s b c hs cont k
    induction k with
    | zero =>
      intro i hi
      have hi : i = n := by omega
      subst hi
      refine z_iload hX d8_plan_26 rfl ?_
      skip
      refine z_aload_n hX d8_plan_28 rfl ?_
      refine z_get hX lf_8_70 (hM _ _ rfl) rfl d8_plan_29 ?_
      rw [p1]
      refine z_icmp_ge hX 66 d8_plan_32 (by decide) (fun h32 => ?_) (fun h32 => ?_)
      rotate_left
      · exact absurd (Int32.le_refl _) h32
      exact cont
    | succ k ih =>
      intro i hi
      have := ih (i + 1) (by omega)
      unfold pPr at this
      refine z_iload hX d8_plan_26 rfl ?_
      refine z_aload_n hX d8_plan_28 rfl ?_
      refine z_get hX lf_8_70 (hM _ _ rfl) rfl d8_plan_29 ?_
      rw [p1]
      refine z_icmp_ge hX 66 d8_plan_32 (by decide) (fun h32 => ?_) (fun h32 => ?_)
      · exact absurd h32 (nI_ge (by omega) (by omega))
      refine z_iload hX d8_plan_35 rfl ?_
      refine z_iload_n hX d8_plan_37 rfl ?_
      refine z_iload hX d8_plan_38 rfl ?_
      refine z_callS2 hX (sp8_has l) lm_8_141 ⟨by decide, by decide, by decide, by decide⟩ (Nat.le_of_ble_eq_true rfl) d8_plan_40 ?_
      refine ⟨s, i, rfl, by omega, by omega, ?_⟩
      dsimp only [Option.toList, List.cons_append, List.nil_append]
      refine z_ifb_eq hX 56 d8_plan_43 (by decide) (fun h43 => ?_) (fun h43 => ?_)
      · skip
        rw [if_neg (by rw [h43]; decide)] at this
        refine z_iconst hX (0) d8_plan_56 (by decide) ?_
        refine z_iadd hX d8_plan_57 ?_
        try rw [nI_add]
        refine z_istore hX (by decide) d8_plan_58 ?_
        dsimp only [z_p1, z_p2, z_k, List.headD, List.tail]
        refine z_iinc hX (1) (by decide) rfl (by decide) d8_plan_60 ?_
        dsimp only [z_p1, z_p2, z_k, List.headD, List.tail]
        refine z_goto hX 26 d8_plan_63 (by decide) ?_
        rw [nI_1]
        first | exact this | (rw [Int32.add_zero]; exact this)
      · skip
        rw [if_pos h43] at this
        refine z_aload_n hX d8_plan_46 rfl ?_
        refine z_get hX lf_8_30 (hM _ _ rfl) rfl d8_plan_47 ?_
        refine z_iload hX d8_plan_50 rfl ?_
        refine z_iald hX (hM _ _ rfl) (vp_in_nI (by omega) (by decide)) d8_plan_52 ?_
        rw [nI_clamp (show i < 2 ^ 31 by omega), show (va_up a 89 f) 77 i = nI (pr i) from (p3 i (by omega)).1]
        refine z_goto hX 57 d8_plan_53 (by decide) ?_
        refine z_iadd hX d8_plan_57 ?_
        try rw [nI_add]
        refine z_istore hX (by decide) d8_plan_58 ?_
        dsimp only [z_p1, z_p2, z_k, List.headD, List.tail]
        refine z_iinc hX (1) (by decide) rfl (by decide) d8_plan_60 ?_
        dsimp only [z_p1, z_p2, z_k, List.headD, List.tail]
        refine z_goto hX 26 d8_plan_63 (by decide) ?_
        rw [nI_1]
        first | exact this | (rw [Int32.add_zero]; exact this)
  have loop : ∀ (k s : Nat), s + k = 2 ^ n → z_W X 10 [some (.ref 70), some (.int (pB (pFd (mA a n) n pr s))), some (.int (pC (pFd (mA a n) n pr s))), some (.int (nI s)), none, none] [] P' nx 0 0 := by
    intro k
    induction k with
    | zero =>
      intro s hs
      have hs : s = 2 ^ n := by omega
      subst hs
      refine z_iload_n hX d8_plan_10 rfl ?_
      refine z_iconst hX (1) d8_plan_11 (by decide) ?_
      refine z_aload_n hX d8_plan_12 rfl ?_
      refine z_get hX lf_8_70 (hM _ _ rfl) rfl d8_plan_13 ?_
      refine z_ishl hX d8_plan_16 ?_
      rw [p1, sh1 (by omega)]
      refine z_icmp_ge hX 116 d8_plan_17 (by decide) (fun h17 => ?_) (fun h17 => ?_)
      rotate_left
      · exact absurd (Int32.le_refl _) h17
      refine z_iload_n hX d8_plan_116 rfl ?_
      refine z_iret hX hE (by decide) (by decide) d8_plan_117 ?_
      exact hK
    | succ k ih =>
      intro s hs
      have nxt := ih (s + 1) (by omega)
      unfold pFd at nxt
      have hl := pPr_le (set := s) hpr
      have two : z_W X 66 [some (.ref 70), some (.int (pB (pFd (mA a n) n pr s))), some (.int (pC (pFd (mA a n) n pr s))), some (.int (nI s)), some (.int (nI (pPr pr s n))), some (.int (nI n))] [] P' nx 0 0 := by
        refine z_iload_n hX d8_plan_66 rfl ?_
        refine z_iconst hX (-1) d8_plan_67 (by decide) ?_
        refine z_icmp_eq hX 94 d8_plan_68 (by decide) (fun h68 => ?_) (fun h68 => ?_)
        · skip
          have hb : pFd (mA a n) n pr s = none := by
            cases hb : pFd (mA a n) n pr s with
            | none => rfl
            | some q =>
              rw [hb] at h68
              have h68 : nI q.1 = -1 := h68
              obtain ⟨q1, q2⟩ := pFd_lt hpr s q hb
              rw [i_eq, nI_toInt (by omega), show (-1 : Int32).toInt = -1 from rfl] at h68
              omega
          rw [hb] at nxt ⊢
          show z_W X 94 [some (.ref 70), some (.int (-1)), some (.int 0), some (.int (nI s)), some (.int (nI (pPr pr s n))), some (.int (nI n))] [] P' nx 0 0
          unfold pSt at nxt
          dsimp only at nxt
          refine z_aload_n hX d8_plan_94 rfl ?_
          refine z_iload_n hX d8_plan_95 rfl ?_
          refine z_callV1 hX (sp8_doAll l) lm_8_169 (hM _ _ rfl) ⟨by decide, by decide, by decide, by decide⟩ (Nat.le_of_ble_eq_true rfl) d8_plan_96 ?_
          refine ⟨iv, h, _, ld, n, s, rfl, hM, p1, p2, by omega, hf, ?_⟩
          rw [mA_89]
          dsimp only [Option.toList, List.cons_append, List.nil_append]
          refine z_ifb_ne hX 105 d8_plan_99 (by decide) (fun h99 => ?_) (fun h99 => ?_)
          · skip
            rw [if_pos h99] at nxt
            refine z_iload_n hX d8_plan_105 rfl ?_
            refine z_istore_n hX 1 rfl (by decide) d8_plan_106 ?_
            dsimp only [z_p1, z_p2, z_k, List.headD, List.tail]
            refine z_iload hX d8_plan_107 rfl ?_
            refine z_istore_n hX 2 rfl (by decide) d8_plan_109 ?_
            dsimp only [z_p1, z_p2, z_k, List.headD, List.tail]
            refine z_iinc hX (1) (by decide) rfl (by decide) d8_plan_110 ?_
            dsimp only [z_p1, z_p2, z_k, List.headD, List.tail]
            refine z_goto hX 10 d8_plan_113 (by decide) ?_
            rw [nI_1]
            exact z_sub nxt (by repeat' (first | exact trivial | refine ⟨rfl, ?_⟩))
          · skip
            rw [if_neg (by rw [h99]; decide)] at nxt
            refine z_goto hX 110 d8_plan_102 (by decide) ?_
            refine z_iinc hX (1) (by decide) rfl (by decide) d8_plan_110 ?_
            dsimp only [z_p1, z_p2, z_k, List.headD, List.tail]
            refine z_goto hX 10 d8_plan_113 (by decide) ?_
            rw [nI_1]
            exact z_sub nxt (by repeat' (first | exact trivial | refine ⟨rfl, ?_⟩))
        · skip
          have hne : ∃ q, pFd (mA a n) n pr s = some q := by
            cases hb : pFd (mA a n) n pr s with
            | none => rw [hb] at h68; exact absurd rfl h68
            | some q => exact ⟨q, rfl⟩
          obtain ⟨q, hb⟩ := hne
          obtain ⟨q1, q2⟩ := pFd_lt hpr s q hb
          rw [hb] at nxt ⊢
          show z_W X 71 [some (.ref 70), some (.int (nI q.1)), some (.int (nI q.2)), some (.int (nI s)), some (.int (nI (pPr pr s n))), some (.int (nI n))] [] P' nx 0 0
          unfold pSt at nxt
          dsimp only at nxt
          refine z_iload hX d8_plan_71 rfl ?_
          refine z_iload_n hX d8_plan_73 rfl ?_
          refine z_icmp_gt hX 110 d8_plan_74 (by decide) (fun h74 => ?_) (fun h74 => ?_)
          · skip
            rw [i_lt, nI_toInt (by omega), nI_toInt (by omega)] at h74
            rw [if_pos (Or.inl (by omega))] at nxt
            refine z_iinc hX (1) (by decide) rfl (by decide) d8_plan_110 ?_
            dsimp only [z_p1, z_p2, z_k, List.headD, List.tail]
            refine z_goto hX 10 d8_plan_113 (by decide) ?_
            rw [nI_1]
            exact z_sub nxt (by repeat' (first | exact trivial | refine ⟨rfl, ?_⟩))
          · skip
            rw [i_lt, nI_toInt (by omega), nI_toInt (by omega)] at h74
            refine z_iload hX d8_plan_77 rfl ?_
            refine z_iload_n hX d8_plan_79 rfl ?_
            refine z_icmp_ne hX 94 d8_plan_80 (by decide) (fun h80 => ?_) (fun h80 => ?_)
            · skip
              rw [nI_eq (by omega) (by omega)] at h80
              rw [if_neg (by omega)] at nxt
              refine z_aload_n hX d8_plan_94 rfl ?_
              refine z_iload_n hX d8_plan_95 rfl ?_
              refine z_callV1 hX (sp8_doAll l) lm_8_169 (hM _ _ rfl) ⟨by decide, by decide, by decide, by decide⟩ (Nat.le_of_ble_eq_true rfl) d8_plan_96 ?_
              refine ⟨iv, h, _, ld, n, s, rfl, hM, p1, p2, by omega, hf, ?_⟩
              rw [mA_89]
              dsimp only [Option.toList, List.cons_append, List.nil_append]
              refine z_ifb_ne hX 105 d8_plan_99 (by decide) (fun h99 => ?_) (fun h99 => ?_)
              · skip
                rw [if_pos h99] at nxt
                refine z_iload_n hX d8_plan_105 rfl ?_
                refine z_istore_n hX 1 rfl (by decide) d8_plan_106 ?_
                dsimp only [z_p1, z_p2, z_k, List.headD, List.tail]
                refine z_iload hX d8_plan_107 rfl ?_
                refine z_istore_n hX 2 rfl (by decide) d8_plan_109 ?_
                dsimp only [z_p1, z_p2, z_k, List.headD, List.tail]
                refine z_iinc hX (1) (by decide) rfl (by decide) d8_plan_110 ?_
                dsimp only [z_p1, z_p2, z_k, List.headD, List.tail]
                refine z_goto hX 10 d8_plan_113 (by decide) ?_
                rw [nI_1]
                exact z_sub nxt (by repeat' (first | exact trivial | refine ⟨rfl, ?_⟩))
              · skip
                rw [if_neg (by rw [h99]; decide)] at nxt
                refine z_goto hX 110 d8_plan_102 (by decide) ?_
                refine z_iinc hX (1) (by decide) rfl (by decide) d8_plan_110 ?_
                dsimp only [z_p1, z_p2, z_k, List.headD, List.tail]
                refine z_goto hX 10 d8_plan_113 (by decide) ?_
                rw [nI_1]
                exact z_sub nxt (by repeat' (first | exact trivial | refine ⟨rfl, ?_⟩))
            · skip
              rw [nI_eq (by omega) (by omega)] at h80
              refine z_iload_n hX d8_plan_83 rfl ?_
              refine z_callS1 hX (sp8_sizeOf l) lm_8_147 ⟨by decide, by decide, by decide, by decide⟩ (Nat.le_of_ble_eq_true rfl) d8_plan_84 ?_
              refine ⟨s, rfl, by omega, ?_⟩
              dsimp only [Option.toList, List.cons_append, List.nil_append]
              refine z_iload_n hX d8_plan_87 rfl ?_
              refine z_callS1 hX (sp8_sizeOf l) lm_8_147 ⟨by decide, by decide, by decide, by decide⟩ (Nat.le_of_ble_eq_true rfl) d8_plan_88 ?_
              refine ⟨q.1, rfl, by omega, ?_⟩
              dsimp only [Option.toList, List.cons_append, List.nil_append]
              refine z_icmp_ge hX 110 d8_plan_91 (by decide) (fun h91 => ?_) (fun h91 => ?_)
              · skip
                have z1 := zpop_le s
                have z2 := zpop_le q.1
                rw [nI_leI (by omega) (by omega)] at h91
                rw [if_pos (Or.inr ⟨by omega, h91⟩)] at nxt
                refine z_iinc hX (1) (by decide) rfl (by decide) d8_plan_110 ?_
                dsimp only [z_p1, z_p2, z_k, List.headD, List.tail]
                refine z_goto hX 10 d8_plan_113 (by decide) ?_
                rw [nI_1]
                exact z_sub nxt (by repeat' (first | exact trivial | refine ⟨rfl, ?_⟩))
              · skip
                have z1 := zpop_le s
                have z2 := zpop_le q.1
                rw [nI_leI (by omega) (by omega)] at h91
                rw [if_neg (by omega)] at nxt
                refine z_aload_n hX d8_plan_94 rfl ?_
                refine z_iload_n hX d8_plan_95 rfl ?_
                refine z_callV1 hX (sp8_doAll l) lm_8_169 (hM _ _ rfl) ⟨by decide, by decide, by decide, by decide⟩ (Nat.le_of_ble_eq_true rfl) d8_plan_96 ?_
                refine ⟨iv, h, _, ld, n, s, rfl, hM, p1, p2, by omega, hf, ?_⟩
                rw [mA_89]
                dsimp only [Option.toList, List.cons_append, List.nil_append]
                refine z_ifb_ne hX 105 d8_plan_99 (by decide) (fun h99 => ?_) (fun h99 => ?_)
                · skip
                  rw [if_pos h99] at nxt
                  refine z_iload_n hX d8_plan_105 rfl ?_
                  refine z_istore_n hX 1 rfl (by decide) d8_plan_106 ?_
                  dsimp only [z_p1, z_p2, z_k, List.headD, List.tail]
                  refine z_iload hX d8_plan_107 rfl ?_
                  refine z_istore_n hX 2 rfl (by decide) d8_plan_109 ?_
                  dsimp only [z_p1, z_p2, z_k, List.headD, List.tail]
                  refine z_iinc hX (1) (by decide) rfl (by decide) d8_plan_110 ?_
                  dsimp only [z_p1, z_p2, z_k, List.headD, List.tail]
                  refine z_goto hX 10 d8_plan_113 (by decide) ?_
                  rw [nI_1]
                  exact z_sub nxt (by repeat' (first | exact trivial | refine ⟨rfl, ?_⟩))
                · skip
                  rw [if_neg (by rw [h99]; decide)] at nxt
                  refine z_goto hX 110 d8_plan_102 (by decide) ?_
                  refine z_iinc hX (1) (by decide) rfl (by decide) d8_plan_110 ?_
                  dsimp only [z_p1, z_p2, z_k, List.headD, List.tail]
                  refine z_goto hX 10 d8_plan_113 (by decide) ?_
                  rw [nI_1]
                  exact z_sub nxt (by repeat' (first | exact trivial | refine ⟨rfl, ?_⟩))
      have one := price s _ _ (by omega) two n 0 (by omega)
      refine z_iload_n hX d8_plan_10 rfl ?_
      refine z_iconst hX (1) d8_plan_11 (by decide) ?_
      refine z_aload_n hX d8_plan_12 rfl ?_
      refine z_get hX lf_8_70 (hM _ _ rfl) rfl d8_plan_13 ?_
      refine z_ishl hX d8_plan_16 ?_
      rw [p1, sh1 (by omega)]
      refine z_icmp_ge hX 116 d8_plan_17 (by decide) (fun h17 => ?_) (fun h17 => ?_)
      · exact absurd h17 (nI_ge (by omega) (by omega))
      refine z_iconst hX (0) d8_plan_20 (by decide) ?_
      refine z_istore hX (by decide) d8_plan_21 ?_
      dsimp only [z_p1, z_p2, z_k, List.headD, List.tail]
      refine z_iconst hX (0) d8_plan_23 (by decide) ?_
      refine z_istore hX (by decide) d8_plan_24 ?_
      dsimp only [z_p1, z_p2, z_k, List.headD, List.tail]
      exact one
  exact loop (2 ^ n) 0 (by omega)
end
section
/-! the model's tape, kinds, look, tell -/
def mB (v : Int32) (k : Nat) : Int32 := (v >>> (nI k &&& 31)).toInt8.toInt32
theorem mB_nar (v : Int32) (k : Nat) : vp_nar .byte (mB v k) = mB v k := pk_vb _
def pushF (f : Nat → Int32) (t : Nat) (v : Int32) : Nat → Int32 := upd (upd (upd (upd f t (mB v 24)) (t + 1) (mB v 16)) (t + 2) (mB v 8)) (t + 3) (mB v 0)
theorem iv_upup {iv : Nat → Int32} {x y : Int32} {k : Nat} : va_up (va_up iv k x) k y = va_up iv k y := by
  funext j
  by_cases e : j = k <;> simp [va_up, e]
def S8_push : z_PT := fun as P nx K => ∃ (iv : Nat → Int32) (h : Nat → Bool) (a : Nat → Nat → Int32) (ld : Nat → Int64) (t : Nat) (v : Int32), as = [.ref 70, .int v] ∧ z_in (zM iv h a ld) P ∧ (iv 1 = nI t) ∧ (t + 4 ≤ 120) ∧ (∀ P' : z_H, z_in (zM (va_up iv 1 (nI (t + 4))) h (va_up a 71 (pushF (a 71) t v)) ld) P' → z_out zDm P P' → K none P' nx)
set_option maxRecDepth 4000 in
theorem sp8_push (l : Launch) : z_Sp l M8_push rM8_push S8_push := by
  refine z_enter (by decide) (fun as P nx K h => ?_) (fun X K as P nx hX hE hin0 hS => ?_)
  · obtain ⟨iv, h, a, ld, t, v, rfl, -⟩ := h
    exact Nat.le_of_ble_eq_true rfl
  obtain ⟨iv, h, a, ld, t, v, rfl, hM, p1, p2, hK⟩ := hS
  refine z_pad 1 ?_
  show z_W X 0 [some (.ref 70), some (.int v), none] [] P nx 0 0
  have hO : z_out zDm P P := z_out.rf
  obtain ⟨P0, hP0⟩ : ∃ P0, P0 = P := ⟨_, rfl⟩
  rw [← hP0] at hK
  have hO : z_out zDm P0 P := by rw [hP0]; exact z_out.rf
  have step : ∀ (kk t : Nat) (f : Nat → Int32) (P : z_H), kk ≤ 24 → t < 120 → z_in (zM (va_up iv 1 (nI t)) h (va_up a 71 f) ld) P → z_out zDm P0 P → (∀ P' : z_H, z_in (zM (va_up iv 1 (nI (t + 1))) h (va_up a 71 (upd f t (mB v kk))) ld) P' → z_out zDm P0 P' → z_W X 3 [some (.ref 70), some (.int v), some (.int (nI kk + (-8)))] [] P' nx 0 0) → z_W X 3 [some (.ref 70), some (.int v), some (.int (nI kk))] [] P nx 0 0 := by
    intro kk t f P hkk ht hM hO cont
    refine z_iload_n hX d8_push_3 rfl ?_
    refine z_if_lt hX 36 d8_push_4 (by decide) (fun h4 => ?_) (fun h4 => ?_)
    · exact absurd h4 (nI_pos (by omega))
    refine z_aload_n hX d8_push_7 rfl ?_
    refine z_get hX lf_8_7 (hM _ _ rfl) rfl d8_push_8 ?_
    refine z_aload_n hX d8_push_11 rfl ?_
    refine z_get hX lf_8_172 (hM _ _ rfl) rfl d8_push_12 ?_
    refine z_iload_n hX d8_push_15 rfl ?_
    refine z_iload_n hX d8_push_16 rfl ?_
    rw [show (va_up iv 1 (nI t)) 1 = nI t from rfl]
    refine z_ishr hX d8_push_17 ?_
    refine z_i2b hX d8_push_18 ?_
    refine z_bast hX (hM _ _ rfl) (vp_in_nI (by omega) (by decide)) d8_push_19 ?_
    rw [nI_clamp (show t < 2 ^ 31 by omega), show vp_nar .byte (v >>> (nI kk &&& 31)).toInt8.toInt32 = mB v kk from mB_nar v kk]
    refine z_gen hM hO rfl (fun P hM hO => ?_)
    have hM := zM_s71 hM
    rw [va_upup] at hM
    refine z_aload_n hX d8_push_20 rfl ?_
    refine z_dup hX rfl d8_push_21 ?_
    refine z_get hX lf_8_172 (hM _ _ rfl) rfl d8_push_22 ?_
    refine z_iconst hX (1) d8_push_25 (by decide) ?_
    refine z_iadd hX d8_push_26 ?_
    refine z_puti hX lf_8_172 rfl rfl (hM _ _ rfl) (Nat.le_of_ble_eq_true rfl) d8_push_27 ?_
    refine z_gen hM hO rfl (fun P hM hO => ?_)
    have hM := zM_i1 hM
    rw [iv_upup, show (va_up iv 1 (nI t)) 1 + 1 = nI (t + 1) from nI_1 t] at hM
    refine z_iinc hX (-8) (by decide) rfl (by decide) d8_push_30 ?_
    dsimp only [z_p1, z_p2, z_k, List.headD, List.tail]
    refine z_goto hX 3 d8_push_33 (by decide) ?_
    exact cont P hM hO
  refine z_bipush hX (24) d8_push_0 (by decide) ?_
  refine z_istore_n hX 2 rfl (by decide) d8_push_2 ?_
  dsimp only [z_p1, z_p2, z_k, List.headD, List.tail]
  refine step 24 t (a 71) P (by omega) (by omega) (by rw [show va_up iv 1 (nI t) = iv from by rw [← p1]; funext j; by_cases e : j = 1 <;> simp [va_up, e], show va_up a 71 (a 71) = a from by funext j; by_cases e : j = 71 <;> simp [va_up, e]]; exact hM) hO (fun P hM hO => ?_)
  refine step 16 (t + 1) _ P (by omega) (by omega) hM hO (fun P hM hO => ?_)
  refine step 8 (t + 1 + 1) _ P (by omega) (by omega) hM hO (fun P hM hO => ?_)
  refine step 0 (t + 1 + 1 + 1) _ P (by omega) (by omega) hM hO (fun P hM hO => ?_)
  refine z_iload_n hX d8_push_3 rfl ?_
  refine z_if_lt hX 36 d8_push_4 (by decide) (fun h4 => ?_) (fun h4 => ?_)
  rotate_left
  · exact absurd (by decide) h4
  refine z_vret hX hE (by decide) (by decide) d8_push_36 ?_
  exact hK P hM hO
def feedF (f : Nat → Int32) (t : Nat) (a b c d e : Int32) : Nat → Int32 := pushF (pushF (pushF (pushF (pushF f t a) (t + 4) b) (t + 8) c) (t + 12) d) (t + 16) e
def S8_feed : z_PT := fun as P nx K => ∃ (iv : Nat → Int32) (h : Nat → Bool) (a : Nat → Nat → Int32) (ld : Nat → Int64) (t : Nat) (v1 v2 v3 v4 v5 : Int32), as = [.ref 70, .int v1, .int v2, .int v3, .int v4, .int v5] ∧ z_in (zM iv h a ld) P ∧ (iv 1 = nI t) ∧ (t ≤ 120) ∧ (∀ P' : z_H, z_in (zM (if t ≤ 100 then va_up iv 1 (nI (t + 20)) else iv) h (if t ≤ 100 then va_up a 71 (feedF (a 71) t v1 v2 v3 v4 v5) else a) ld) P' → z_out zDm P P' → K (some (.int (if t ≤ 100 then nI (t + 20) else -1))) P' nx)
set_option maxRecDepth 4000 in
theorem sp8_feed (l : Launch) : z_Sp l M8_feed rM8_feed S8_feed := by
  refine z_enter (by decide) (fun as P nx K h => ?_) (fun X K as P nx hX hE hin0 hS => ?_)
  · obtain ⟨iv, h, a, ld, t, v1, v2, v3, v4, v5, rfl, -⟩ := h
    exact Nat.le_of_ble_eq_true rfl
  obtain ⟨iv, h, a, ld, t, v1, v2, v3, v4, v5, rfl, hM, p1, p2, hK⟩ := hS
  show z_W X 0 [some (.ref 70), some (.int v1), some (.int v2), some (.int v3), some (.int v4), some (.int v5)] [] P nx 0 0
  have hO : z_out zDm P P := z_out.rf
  refine z_aload_n hX d8_feed_0 rfl ?_
  refine z_get hX lf_8_172 (hM _ _ rfl) rfl d8_feed_1 ?_
  refine z_bipush hX (20) d8_feed_4 (by decide) ?_
  refine z_iadd hX d8_feed_6 ?_
  refine z_bipush hX (120) d8_feed_7 (by decide) ?_
  rw [p1, show nI t + 20 = nI (t + 20) from nI_add t 20]
  refine z_icmp_le hX 14 d8_feed_9 (by decide) (fun h9 => ?_) (fun h9 => ?_)
  · skip
    rw [i_le, nI_toInt (by omega), show (120 : Int32).toInt = 120 from rfl] at h9
    simp only [if_pos (show t ≤ 100 by omega)] at hK
    refine z_aload_n hX d8_feed_14 rfl ?_
    refine z_iload_n hX d8_feed_15 rfl ?_
    refine z_callV1 hX (sp8_push l) lm_8_175 (hM _ _ rfl) ⟨by decide, by decide, by decide, by decide⟩ (Nat.le_of_ble_eq_true rfl) d8_feed_16 ?_
    refine ⟨iv, h, a, ld, t, v1, rfl, hM, p1, by omega, fun P hM hO1 => ?_⟩
    have hO := hO.tr hO1
    dsimp only [Option.toList, List.cons_append, List.nil_append]
    refine z_aload_n hX d8_feed_19 rfl ?_
    refine z_iload_n hX d8_feed_20 rfl ?_
    refine z_callV1 hX (sp8_push l) lm_8_175 (hM _ _ rfl) ⟨by decide, by decide, by decide, by decide⟩ (Nat.le_of_ble_eq_true rfl) d8_feed_21 ?_
    refine ⟨_, h, _, ld, t + 4, v2, rfl, hM, rfl, by omega, fun P hM hO1 => ?_⟩
    have hO := hO.tr hO1
    rw [iv_upup, va_upup] at hM
    dsimp only [Option.toList, List.cons_append, List.nil_append]
    refine z_aload_n hX d8_feed_24 rfl ?_
    refine z_iload_n hX d8_feed_25 rfl ?_
    refine z_callV1 hX (sp8_push l) lm_8_175 (hM _ _ rfl) ⟨by decide, by decide, by decide, by decide⟩ (Nat.le_of_ble_eq_true rfl) d8_feed_26 ?_
    refine ⟨_, h, _, ld, t + 4 + 4, v3, rfl, hM, rfl, by omega, fun P hM hO1 => ?_⟩
    have hO := hO.tr hO1
    rw [iv_upup, va_upup] at hM
    dsimp only [Option.toList, List.cons_append, List.nil_append]
    refine z_aload_n hX d8_feed_29 rfl ?_
    refine z_iload hX d8_feed_30 rfl ?_
    refine z_callV1 hX (sp8_push l) lm_8_175 (hM _ _ rfl) ⟨by decide, by decide, by decide, by decide⟩ (Nat.le_of_ble_eq_true rfl) d8_feed_32 ?_
    refine ⟨_, h, _, ld, t + 4 + 4 + 4, v4, rfl, hM, rfl, by omega, fun P hM hO1 => ?_⟩
    have hO := hO.tr hO1
    rw [iv_upup, va_upup] at hM
    dsimp only [Option.toList, List.cons_append, List.nil_append]
    refine z_aload_n hX d8_feed_35 rfl ?_
    refine z_iload hX d8_feed_36 rfl ?_
    refine z_callV1 hX (sp8_push l) lm_8_175 (hM _ _ rfl) ⟨by decide, by decide, by decide, by decide⟩ (Nat.le_of_ble_eq_true rfl) d8_feed_38 ?_
    refine ⟨_, h, _, ld, t + 4 + 4 + 4 + 4, v5, rfl, hM, rfl, by omega, fun P hM hO1 => ?_⟩
    have hO := hO.tr hO1
    rw [iv_upup, va_upup] at hM
    dsimp only [Option.toList, List.cons_append, List.nil_append]
    refine z_aload_n hX d8_feed_41 rfl ?_
    refine z_get hX lf_8_172 (hM _ _ rfl) rfl d8_feed_42 ?_
    refine z_iret hX hE (by decide) (by decide) d8_feed_45 ?_
    exact hK P hM hO
  · skip
    rw [i_le, nI_toInt (by omega), show (120 : Int32).toInt = 120 from rfl] at h9
    simp only [if_neg (show ¬ t ≤ 100 by omega)] at hK
    refine z_iconst hX (-1) d8_feed_12 (by decide) ?_
    refine z_iret hX hE (by decide) (by decide) d8_feed_13 ?_
    exact hK P hM hO
def mKinds (a : Nat → Nat → Int32) (n : Nat) (r k : Int32) : Int32 := if 0 ≤ r.toInt ∧ r.toInt < n ∧ 0 ≤ k.toInt ∧ k.toInt ≤ 9 then a 81 (10 * r.toInt.toNat + k.toInt.toNat) else -1
def S8_kinds : z_PT := fun as P nx K => ∃ (iv : Nat → Int32) (h : Nat → Bool) (a : Nat → Nat → Int32) (ld : Nat → Int64) (n : Nat) (r k : Int32), as = [.ref 70, .int r, .int k] ∧ z_in (zM iv h a ld) P ∧ (iv 2 = nI n) ∧ (n ≤ 12) ∧ K (some (.int (mKinds a n r k))) P nx
set_option maxRecDepth 4000 in
theorem sp8_kinds (l : Launch) : z_Sp l M8_kinds rM8_kinds S8_kinds := by
  refine z_enter (by decide) (fun as P nx K h => ?_) (fun X K as P nx hX hE hin0 hS => ?_)
  · obtain ⟨iv, h, a, ld, n, r, k, rfl, -⟩ := h
    exact Nat.le_of_ble_eq_true rfl
  obtain ⟨iv, h, a, ld, n, r, k, rfl, hM, p1, p2, hK⟩ := hS
  show z_W X 0 [some (.ref 70), some (.int r), some (.int k)] [] P nx 0 0
  refine z_aload_n hX d8_kinds_0 rfl ?_
  refine z_iload_n hX d8_kinds_1 rfl ?_
  refine z_callV1 hX (sp8_isRoad l) lm_8_112 (hM _ _ rfl) ⟨by decide, by decide, by decide, by decide⟩ (Nat.le_of_ble_eq_true rfl) d8_kinds_2 ?_
  refine ⟨iv, h, a, ld, n, r, rfl, hM, p1, p2, ?_⟩
  dsimp only [Option.toList, List.cons_append, List.nil_append]
  refine z_ifb_eq hX 34 d8_kinds_5 (by decide) (fun h5 => ?_) (fun h5 => ?_)
  · skip
    rw [decide_eq_false_iff_not] at h5
    rw [show mKinds a n r k = -1 from if_neg (fun q => h5 ⟨q.1, q.2.1⟩)] at hK
    refine z_iconst hX (-1) d8_kinds_34 (by decide) ?_
    refine z_iret hX hE (by decide) (by decide) d8_kinds_35 ?_
    exact hK
  · skip
    refine z_iload_n hX d8_kinds_8 rfl ?_
    refine z_i2l hX d8_kinds_9 ?_
    refine z_lconst hX 0 d8_kinds_10 (by decide) ?_
    refine z_ldc2 hX (9) d8_kinds_11 lk_8_222 ?_
    refine z_callS3 hX (sp8_lies l) lm_8_74 ⟨by decide, by decide, by decide, by decide⟩ (Nat.le_of_ble_eq_true rfl) d8_kinds_14 ?_
    refine ⟨_, _, _, rfl, ?_⟩
    rw [i2l_t, show (0 : Int64).toInt = 0 from rfl, show (9 : Int64).toInt = 9 from rfl]
    dsimp only [Option.toList, List.cons_append, List.nil_append]
    refine z_ifb_eq hX 34 d8_kinds_17 (by decide) (fun h17 => ?_) (fun h17 => ?_)
    · skip
      rw [decide_eq_false_iff_not] at h17
      rw [show mKinds a n r k = -1 from if_neg (fun q => h17 q.2.2)] at hK
      refine z_iconst hX (-1) d8_kinds_34 (by decide) ?_
      refine z_iret hX hE (by decide) (by decide) d8_kinds_35 ?_
      exact hK
    · skip
      rw [decide_eq_true_eq] at h5 h17
      rw [show mKinds a n r k = a 81 (10 * r.toInt.toNat + k.toInt.toNat) from if_pos ⟨h5.1, h5.2, h17⟩] at hK
      obtain ⟨j, hj, rfl⟩ := nI_rng h5.1 h5.2
      obtain ⟨k', k1, k2, rfl, k4, k5⟩ := nI_r h17 (by omega)
      rw [tN (n := 12) (by omega) (by decide), k4] at hK
      have e1 : (10 : Int32) * nI j + nI k' = nI (10 * j + k') := nI_ml 10 j k'
      refine z_aload_n hX d8_kinds_20 rfl ?_
      refine z_get hX lf_8_42 (hM _ _ rfl) rfl d8_kinds_21 ?_
      refine z_bipush hX (10) d8_kinds_24 (by decide) ?_
      refine z_iload_n hX d8_kinds_26 rfl ?_
      refine z_imul hX d8_kinds_27 ?_
      refine z_iload_n hX d8_kinds_28 rfl ?_
      refine z_iadd hX d8_kinds_29 ?_
      refine z_iald hX (hM _ _ rfl) (ix_in e1 (by omega) (by decide)) d8_kinds_30 ?_
      rw [ix_c e1 (by omega)]
      refine z_goto hX 35 d8_kinds_31 (by decide) ?_
      refine z_iret hX hE (by decide) (by decide) d8_kinds_35 ?_
      exact hK
def mLook (h : Nat → Bool) (a : Nat → Nat → Int32) (n : Nat) (r w : Int32) : Int32 :=
  if 0 ≤ r.toInt ∧ r.toInt < n then
    (if 100 ≤ w.toInt ∧ w.toInt ≤ 463 then a 79 (364 * r.toInt.toNat + (w.toInt.toNat - 100))
    else if w.toInt = 0 then a 75 r.toInt.toNat else if w.toInt = 1 then a 76 r.toInt.toNat else if w.toInt = 2 then a 77 r.toInt.toNat else if w.toInt = 3 then a 78 r.toInt.toNat else if w.toInt = 4 then a 80 r.toInt.toNat else if w.toInt = 5 then nI (zC (mUsed h a r.toInt.toNat) 364) else -1)
  else -1
def S8_look : z_PT := fun as P nx K => ∃ (iv : Nat → Int32) (h : Nat → Bool) (a : Nat → Nat → Int32) (ld : Nat → Int64) (n : Nat) (r w : Int32), as = [.ref 70, .int r, .int w] ∧ z_in (zM iv h a ld) P ∧ (iv 2 = nI n) ∧ (n ≤ 12) ∧ K (some (.int (mLook h a n r w))) P nx
set_option maxRecDepth 4000 in
theorem sp8_look (l : Launch) : z_Sp l M8_look rM8_look S8_look := by
  refine z_enter (by decide) (fun as P nx K h => ?_) (fun X K as P nx hX hE hin0 hS => ?_)
  · obtain ⟨iv, h, a, ld, n, r, w, rfl, -⟩ := h
    exact Nat.le_of_ble_eq_true rfl
  obtain ⟨iv, h, a, ld, n, r, w, rfl, hM, p1, p2, hK⟩ := hS
  show z_W X 0 [some (.ref 70), some (.int r), some (.int w)] [] P nx 0 0
  unfold mLook at hK
  refine z_aload_n hX d8_look_0 rfl ?_
  refine z_iload_n hX d8_look_1 rfl ?_
  refine z_callV1 hX (sp8_isRoad l) lm_8_112 (hM _ _ rfl) ⟨by decide, by decide, by decide, by decide⟩ (Nat.le_of_ble_eq_true rfl) d8_look_2 ?_
  refine ⟨iv, h, a, ld, n, r, rfl, hM, p1, p2, ?_⟩
  dsimp only [Option.toList, List.cons_append, List.nil_append]
  refine z_ifb_ne hX 10 d8_look_5 (by decide) (fun h5 => ?_) (fun h5 => ?_)
  · skip
    rw [decide_eq_true_eq] at h5
    rw [if_pos h5] at hK
    obtain ⟨j, hj, rfl⟩ := nI_rng h5.1 h5.2
    rw [tN (n := 12) (by omega) (by decide)] at hK
    refine z_iload_n hX d8_look_10 rfl ?_
    refine z_i2l hX d8_look_11 ?_
    refine z_ldc2 hX (100) d8_look_12 lk_8_224 ?_
    refine z_ldc2 hX (463) d8_look_15 lk_8_226 ?_
    refine z_callS3 hX (sp8_lies l) lm_8_74 ⟨by decide, by decide, by decide, by decide⟩ (Nat.le_of_ble_eq_true rfl) d8_look_18 ?_
    refine ⟨_, _, _, rfl, ?_⟩
    rw [i2l_t, show (100 : Int64).toInt = 100 from rfl, show (463 : Int64).toInt = 463 from rfl]
    dsimp only [Option.toList, List.cons_append, List.nil_append]
    refine z_ifb_eq hX 40 d8_look_21 (by decide) (fun h21 => ?_) (fun h21 => ?_)
    · skip
      rw [decide_eq_false_iff_not] at h21
      rw [if_neg h21] at hK
      refine z_iload_n hX d8_look_40 rfl ?_
      rcases (show w.toInt = 0 ∨ w.toInt = 1 ∨ w.toInt = 2 ∨ w.toInt = 3 ∨ w.toInt = 4 ∨ w.toInt = 5 ∨ (w.toInt < 0 ∨ 5 < w.toInt) by omega) with e | e | e | e | e | e | e
      · refine z_tabIn hX 80 d8_look_41 (by omega) (by omega) (by rw [e]; rfl) (by decide) ?_
        rw [if_pos e] at hK
        refine z_aload_n hX d8_look_80 rfl ?_
        refine z_get hX lf_8_24 (hM _ _ rfl) rfl d8_look_81 ?_
        refine z_iload_n hX d8_look_84 rfl ?_
        refine z_iald hX (hM _ _ rfl) (vp_in_nI (by omega) (by decide)) d8_look_85 ?_
        rw [nI_clamp (show j < 2 ^ 31 by omega)]
        refine z_iret hX hE (by decide) (by decide) d8_look_86 ?_
        exact hK
      · refine z_tabIn hX 87 d8_look_41 (by omega) (by omega) (by rw [e]; rfl) (by decide) ?_
        rw [if_neg (by omega), if_pos e] at hK
        refine z_aload_n hX d8_look_87 rfl ?_
        refine z_get hX lf_8_27 (hM _ _ rfl) rfl d8_look_88 ?_
        refine z_iload_n hX d8_look_91 rfl ?_
        refine z_iald hX (hM _ _ rfl) (vp_in_nI (by omega) (by decide)) d8_look_92 ?_
        rw [nI_clamp (show j < 2 ^ 31 by omega)]
        refine z_iret hX hE (by decide) (by decide) d8_look_93 ?_
        exact hK
      · refine z_tabIn hX 94 d8_look_41 (by omega) (by omega) (by rw [e]; rfl) (by decide) ?_
        rw [if_neg (by omega), if_neg (by omega), if_pos e] at hK
        refine z_aload_n hX d8_look_94 rfl ?_
        refine z_get hX lf_8_30 (hM _ _ rfl) rfl d8_look_95 ?_
        refine z_iload_n hX d8_look_98 rfl ?_
        refine z_iald hX (hM _ _ rfl) (vp_in_nI (by omega) (by decide)) d8_look_99 ?_
        rw [nI_clamp (show j < 2 ^ 31 by omega)]
        refine z_iret hX hE (by decide) (by decide) d8_look_100 ?_
        exact hK
      · refine z_tabIn hX 101 d8_look_41 (by omega) (by omega) (by rw [e]; rfl) (by decide) ?_
        rw [if_neg (by omega), if_neg (by omega), if_neg (by omega), if_pos e] at hK
        refine z_aload_n hX d8_look_101 rfl ?_
        refine z_get hX lf_8_33 (hM _ _ rfl) rfl d8_look_102 ?_
        refine z_iload_n hX d8_look_105 rfl ?_
        refine z_iald hX (hM _ _ rfl) (vp_in_nI (by omega) (by decide)) d8_look_106 ?_
        rw [nI_clamp (show j < 2 ^ 31 by omega)]
        refine z_iret hX hE (by decide) (by decide) d8_look_107 ?_
        exact hK
      · refine z_tabIn hX 108 d8_look_41 (by omega) (by omega) (by rw [e]; rfl) (by decide) ?_
        rw [if_neg (by omega), if_neg (by omega), if_neg (by omega), if_neg (by omega), if_pos e] at hK
        refine z_aload_n hX d8_look_108 rfl ?_
        refine z_get hX lf_8_39 (hM _ _ rfl) rfl d8_look_109 ?_
        refine z_iload_n hX d8_look_112 rfl ?_
        refine z_iald hX (hM _ _ rfl) (vp_in_nI (by omega) (by decide)) d8_look_113 ?_
        rw [nI_clamp (show j < 2 ^ 31 by omega)]
        refine z_iret hX hE (by decide) (by decide) d8_look_114 ?_
        exact hK
      · refine z_tabIn hX 115 d8_look_41 (by omega) (by omega) (by rw [e]; rfl) (by decide) ?_
        rw [if_neg (by omega), if_neg (by omega), if_neg (by omega), if_neg (by omega), if_neg (by omega), if_pos e] at hK
        refine z_aload_n hX d8_look_115 rfl ?_
        refine z_iload_n hX d8_look_116 rfl ?_
        refine z_callV1 hX (sp8_usedOf l) lm_8_127 (hM _ _ rfl) ⟨by decide, by decide, by decide, by decide⟩ (Nat.le_of_ble_eq_true rfl) d8_look_117 ?_
        refine ⟨iv, h, a, ld, j, rfl, hM, by omega, ?_⟩
        dsimp only [Option.toList, List.cons_append, List.nil_append]
        refine z_iret hX hE (by decide) (by decide) d8_look_120 ?_
        exact hK
      · refine z_tabOut hX 121 d8_look_41 e (by decide) ?_
        rw [if_neg (by omega), if_neg (by omega), if_neg (by omega), if_neg (by omega), if_neg (by omega), if_neg (by omega)] at hK
        refine z_iconst hX (-1) d8_look_121 (by decide) ?_
        refine z_iret hX hE (by decide) (by decide) d8_look_122 ?_
        exact hK
    · skip
      rw [decide_eq_true_eq] at h21
      rw [if_pos h21] at hK
      obtain ⟨k', k1, k2, rfl, k4, k5⟩ := nI_r h21 (by omega)
      rw [k4] at hK
      have e1 : (364 : Int32) * nI j + nI k' - 100 = nI (364 * j + (k' - 100)) := by rw [show (364 : Int32) * nI j + nI k' = nI (364 * j + k') from nI_ml 364 j k', show (100 : Int32) = nI 100 from rfl, pk_sub (by omega)]; congr 1; omega
      refine z_aload_n hX d8_look_24 rfl ?_
      refine z_get hX lf_8_36 (hM _ _ rfl) rfl d8_look_25 ?_
      refine z_sipush hX (364) d8_look_28 (by decide) ?_
      refine z_iload_n hX d8_look_31 rfl ?_
      refine z_imul hX d8_look_32 ?_
      refine z_iload_n hX d8_look_33 rfl ?_
      refine z_iadd hX d8_look_34 ?_
      refine z_bipush hX (100) d8_look_35 (by decide) ?_
      refine z_isub hX d8_look_37 ?_
      refine z_iald hX (hM _ _ rfl) (ix_in e1 (by omega) (by decide)) d8_look_38 ?_
      rw [ix_c e1 (by omega)]
      refine z_iret hX hE (by decide) (by decide) d8_look_39 ?_
      exact hK
  · skip
    rw [decide_eq_false_iff_not] at h5
    rw [if_neg h5] at hK
    refine z_iconst hX (-1) d8_look_8 (by decide) ?_
    refine z_iret hX hE (by decide) (by decide) d8_look_9 ?_
    exact hK
def mTell (iv : Nat → Int32) (h : Nat → Bool) (a : Nat → Nat → Int32) (n : Nat) (sh : Nat → Nat) (ld : Nat → Int64) (w : Int32) : Int32 :=
  if w.toInt = 0 then iv 2 else if w.toInt = 1 then iv 3 else if w.toInt = 2 then iv 14 else if w.toInt = 3 then iv 1 else if w.toInt = 4 then nI (zpop (mKn h a n)) else if w.toInt = 5 then nI (zpop (zsd (mW h a n sh ld).1 (mKn h a n))) else -1
def S8_tell : z_PT := fun as P nx K => ∃ (iv : Nat → Int32) (h : Nat → Bool) (a : Nat → Nat → Int32) (ld : Nat → Int64) (n : Nat) (sh : Nat → Nat) (w : Int32), as = [.ref 70, .int w] ∧ z_in (zM iv h a ld) P ∧ (mWf iv h a n sh) ∧ (∀ (ld2 : Nat → Int64) (P' : z_H), z_in (zM iv h a ld2) P' → z_out zDm P P' → K (some (.int (mTell iv h a n sh ld w))) P' nx)
set_option maxRecDepth 4000 in
theorem sp8_tell (l : Launch) : z_Sp l M8_tell rM8_tell S8_tell := by
  refine z_enter (by decide) (fun as P nx K h => ?_) (fun X K as P nx hX hE hin0 hS => ?_)
  · obtain ⟨iv, h, a, ld, n, sh, w, rfl, -⟩ := h
    exact Nat.le_of_ble_eq_true rfl
  obtain ⟨iv, h, a, ld, n, sh, w, rfl, hM, p1, hK⟩ := hS
  show z_W X 0 [some (.ref 70), some (.int w)] [] P nx 0 0
  have hO : z_out zDm P P := z_out.rf
  have pw := p1
  obtain ⟨w1, w2, w3, w4, w5⟩ := p1
  have hk4 := mKn_lt (h := h) (a := a) w2
  have hw4 := mW_lt (h := h) (a := a) (sh := sh) (ld := ld) w2
  unfold mTell at hK
  refine z_iload_n hX d8_tell_0 rfl ?_
  rcases (show w.toInt = 0 ∨ w.toInt = 1 ∨ w.toInt = 2 ∨ w.toInt = 3 ∨ w.toInt = 4 ∨ w.toInt = 5 ∨ (w.toInt < 0 ∨ 5 < w.toInt) by omega) with e | e | e | e | e | e | e
  · refine z_tabIn hX 40 d8_tell_1 (by omega) (by omega) (by rw [e]; rfl) (by decide) ?_
    rw [if_pos e] at hK
    refine z_aload_n hX d8_tell_40 rfl ?_
    refine z_get hX lf_8_70 (hM _ _ rfl) rfl d8_tell_41 ?_
    refine z_iret hX hE (by decide) (by decide) d8_tell_44 ?_
    exact hK _ P hM hO
  · refine z_tabIn hX 45 d8_tell_1 (by omega) (by omega) (by rw [e]; rfl) (by decide) ?_
    rw [if_neg (by omega), if_pos e] at hK
    refine z_aload_n hX d8_tell_45 rfl ?_
    refine z_get hX lf_8_92 (hM _ _ rfl) rfl d8_tell_46 ?_
    refine z_iret hX hE (by decide) (by decide) d8_tell_49 ?_
    exact hK _ P hM hO
  · refine z_tabIn hX 50 d8_tell_1 (by omega) (by omega) (by rw [e]; rfl) (by decide) ?_
    rw [if_neg (by omega), if_neg (by omega), if_pos e] at hK
    refine z_aload_n hX d8_tell_50 rfl ?_
    refine z_get hX lf_8_215 (hM _ _ rfl) rfl d8_tell_51 ?_
    refine z_iret hX hE (by decide) (by decide) d8_tell_54 ?_
    exact hK _ P hM hO
  · refine z_tabIn hX 55 d8_tell_1 (by omega) (by omega) (by rw [e]; rfl) (by decide) ?_
    rw [if_neg (by omega), if_neg (by omega), if_neg (by omega), if_pos e] at hK
    refine z_aload_n hX d8_tell_55 rfl ?_
    refine z_get hX lf_8_172 (hM _ _ rfl) rfl d8_tell_56 ?_
    refine z_iret hX hE (by decide) (by decide) d8_tell_59 ?_
    exact hK _ P hM hO
  · refine z_tabIn hX 60 d8_tell_1 (by omega) (by omega) (by rw [e]; rfl) (by decide) ?_
    rw [if_neg (by omega), if_neg (by omega), if_neg (by omega), if_neg (by omega), if_pos e] at hK
    refine z_aload_n hX d8_tell_60 rfl ?_
    refine z_callV0 hX (sp8_knownRoads l) lm_8_153 (hM _ _ rfl) ⟨by decide, by decide, by decide, by decide⟩ (Nat.le_of_ble_eq_true rfl) d8_tell_61 ?_
    refine ⟨iv, h, a, ld, n, rfl, hM, w1, w2, ?_⟩
    dsimp only [Option.toList, List.cons_append, List.nil_append]
    refine z_callS1 hX (sp8_sizeOf l) lm_8_147 ⟨by decide, by decide, by decide, by decide⟩ (Nat.le_of_ble_eq_true rfl) d8_tell_64 ?_
    refine ⟨_, rfl, hk4, ?_⟩
    dsimp only [Option.toList, List.cons_append, List.nil_append]
    refine z_iret hX hE (by decide) (by decide) d8_tell_67 ?_
    exact hK _ P hM hO
  · refine z_tabIn hX 68 d8_tell_1 (by omega) (by omega) (by rw [e]; rfl) (by decide) ?_
    rw [if_neg (by omega), if_neg (by omega), if_neg (by omega), if_neg (by omega), if_neg (by omega), if_pos e] at hK
    refine z_aload_n hX d8_tell_68 rfl ?_
    refine z_callV0 hX (sp8_works l) lm_8_160 (hM _ _ rfl) ⟨by decide, by decide, by decide, by decide⟩ (Nat.le_of_ble_eq_true rfl) d8_tell_69 ?_
    refine ⟨iv, h, a, ld, n, sh, rfl, hM, pw, fun P hM hO1 => ?_⟩
    have hO := hO.tr hO1
    dsimp only [Option.toList, List.cons_append, List.nil_append]
    refine z_aload_n hX d8_tell_72 rfl ?_
    refine z_callV0 hX (sp8_knownRoads l) lm_8_153 (hM _ _ rfl) ⟨by decide, by decide, by decide, by decide⟩ (Nat.le_of_ble_eq_true rfl) d8_tell_73 ?_
    refine ⟨iv, h, a, _, n, rfl, hM, w1, w2, ?_⟩
    dsimp only [Option.toList, List.cons_append, List.nil_append]
    refine z_iconst hX (-1) d8_tell_76 (by decide) ?_
    refine z_ixor hX d8_tell_77 ?_
    refine z_iand hX d8_tell_78 ?_
    rw [fa_sd]
    refine z_callS1 hX (sp8_sizeOf l) lm_8_147 ⟨by decide, by decide, by decide, by decide⟩ (Nat.le_of_ble_eq_true rfl) d8_tell_79 ?_
    refine ⟨_, rfl, zsd_lt hw4, ?_⟩
    dsimp only [Option.toList, List.cons_append, List.nil_append]
    refine z_iret hX hE (by decide) (by decide) d8_tell_82 ?_
    exact hK _ P hM hO
  · refine z_tabOut hX 83 d8_tell_1 e (by decide) ?_
    rw [if_neg (by omega), if_neg (by omega), if_neg (by omega), if_neg (by omega), if_neg (by omega), if_neg (by omega)] at hK
    refine z_iconst hX (-1) d8_tell_83 (by decide) ?_
    refine z_iret hX hE (by decide) (by decide) d8_tell_84 ?_
    exact hK _ P hM hO
end
