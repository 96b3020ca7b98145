section
-- ===== PART A: goes FIRST, ahead of the names: the tables' words, and 'selects' of the private methods out of them =====
/-- a private method of a class that the tables say can be made, by its rows of tables_1 -/
def lw_okq (q : MethodName × Nat) : Prop := (q.1.cls ≠ "java/lang/invoke/MethodHandle" ∧ q.1.cls ≠ "java/lang/invoke/VarHandle") ∧ Cond.instantiable q.1.cls q.2 ∈ tables_1 ∧ Cond.privateMethod q.1 ∈ tables_1 ∧ Cond.instanceMethod q.1 ∈ tables_1
theorem lw_p0 : lw_okq (⟨"RoadCounts$Counts", "placeOf", "(I)I"⟩, 3) := ⟨⟨by decide +kernel, by decide +kernel⟩, List.mem_of_getElem? (i := 212) (by decide +kernel), List.mem_of_getElem? (i := 275) (by decide +kernel), List.mem_of_getElem? (i := 276) (by decide +kernel)⟩
theorem lw_p1 : lw_okq (⟨"RoadCounts$Counts", "usedShares", "(LRoadCounts$Almanac;I)J"⟩, 3) := ⟨⟨by decide +kernel, by decide +kernel⟩, List.mem_of_getElem? (i := 212) (by decide +kernel), List.mem_of_getElem? (i := 288) (by decide +kernel), List.mem_of_getElem? (i := 289) (by decide +kernel)⟩
theorem lw_p2 : lw_okq (⟨"RoadCounts$Counts", "isUsed", "(ILRoadCounts$Almanac;)Z"⟩, 3) := ⟨⟨by decide +kernel, by decide +kernel⟩, List.mem_of_getElem? (i := 212) (by decide +kernel), List.mem_of_getElem? (i := 292) (by decide +kernel), List.mem_of_getElem? (i := 293) (by decide +kernel)⟩
theorem lw_p3 : lw_okq (⟨"RoadCounts$Counts", "usedTotal", "(LRoadCounts$Almanac;)J"⟩, 3) := ⟨⟨by decide +kernel, by decide +kernel⟩, List.mem_of_getElem? (i := 212) (by decide +kernel), List.mem_of_getElem? (i := 300) (by decide +kernel), List.mem_of_getElem? (i := 301) (by decide +kernel)⟩
theorem lw_p4 : lw_okq (⟨"RoadCounts$Counts", "misfitTimesShares", "(LRoadCounts$Almanac;IJ)J"⟩, 3) := ⟨⟨by decide +kernel, by decide +kernel⟩, List.mem_of_getElem? (i := 212) (by decide +kernel), List.mem_of_getElem? (i := 331) (by decide +kernel), List.mem_of_getElem? (i := 332) (by decide +kernel)⟩
theorem lw_p5 : lw_okq (⟨"RoadCounts$Network", "follow", "(I)I"⟩, 9) := ⟨⟨by decide +kernel, by decide +kernel⟩, List.mem_of_getElem? (i := 49) (by decide +kernel), List.mem_of_getElem? (i := 348) (by decide +kernel), List.mem_of_getElem? (i := 349) (by decide +kernel)⟩
theorem lw_p6 : lw_okq (⟨"RoadCounts$Network", "dearestOutside", "(I)I"⟩, 9) := ⟨⟨by decide +kernel, by decide +kernel⟩, List.mem_of_getElem? (i := 49) (by decide +kernel), List.mem_of_getElem? (i := 416) (by decide +kernel), List.mem_of_getElem? (i := 417) (by decide +kernel)⟩
theorem lw_p7 : lw_okq (⟨"RoadCounts$RulesReader", "readClause", "(LRoadCounts$Rules;)I"⟩, 4) := ⟨⟨by decide +kernel, by decide +kernel⟩, List.mem_of_getElem? (i := 103) (by decide +kernel), List.mem_of_getElem? (i := 437) (by decide +kernel), List.mem_of_getElem? (i := 438) (by decide +kernel)⟩
theorem lw_p8 : lw_okq (⟨"RoadCounts$RulesReader", "sign", "()I"⟩, 4) := ⟨⟨by decide +kernel, by decide +kernel⟩, List.mem_of_getElem? (i := 103) (by decide +kernel), List.mem_of_getElem? (i := 441) (by decide +kernel), List.mem_of_getElem? (i := 442) (by decide +kernel)⟩
theorem lw_p9 : lw_okq (⟨"RoadCounts$RulesReader", "readSpans", "(LRoadCounts$Rules;)I"⟩, 4) := ⟨⟨by decide +kernel, by decide +kernel⟩, List.mem_of_getElem? (i := 103) (by decide +kernel), List.mem_of_getElem? (i := 456) (by decide +kernel), List.mem_of_getElem? (i := 457) (by decide +kernel)⟩
theorem lw_p10 : lw_okq (⟨"RoadCounts$RulesReader", "readSpan", "(LRoadCounts$Rules;)I"⟩, 4) := ⟨⟨by decide +kernel, by decide +kernel⟩, List.mem_of_getElem? (i := 103) (by decide +kernel), List.mem_of_getElem? (i := 460) (by decide +kernel), List.mem_of_getElem? (i := 461) (by decide +kernel)⟩
theorem lw_p11 : lw_okq (⟨"RoadCounts$RulesReader", "readNumber", "(I)I"⟩, 4) := ⟨⟨by decide +kernel, by decide +kernel⟩, List.mem_of_getElem? (i := 103) (by decide +kernel), List.mem_of_getElem? (i := 464) (by decide +kernel), List.mem_of_getElem? (i := 465) (by decide +kernel)⟩
theorem lw_p12 : lw_okq (⟨"RoadCounts$Rules", "isWithin", "(ILRoadCounts$Tape;I)Z"⟩, 5) := ⟨⟨by decide +kernel, by decide +kernel⟩, List.mem_of_getElem? (i := 122) (by decide +kernel), List.mem_of_getElem? (i := 481) (by decide +kernel), List.mem_of_getElem? (i := 482) (by decide +kernel)⟩
theorem lw_p13 : lw_okq (⟨"RoadCountsModel", "wholeOf", "(I)J"⟩, 27) := ⟨⟨by decide +kernel, by decide +kernel⟩, List.mem_of_getElem? (i := 509) (by decide +kernel), List.mem_of_getElem? (i := 625) (by decide +kernel), List.mem_of_getElem? (i := 626) (by decide +kernel)⟩
theorem lw_p14 : lw_okq (⟨"RoadCountsModel", "share", "(II)J"⟩, 27) := ⟨⟨by decide +kernel, by decide +kernel⟩, List.mem_of_getElem? (i := 509) (by decide +kernel), List.mem_of_getElem? (i := 629) (by decide +kernel), List.mem_of_getElem? (i := 630) (by decide +kernel)⟩
theorem lw_p15 : lw_okq (⟨"RoadCountsModel", "isRoad", "(I)Z"⟩, 27) := ⟨⟨by decide +kernel, by decide +kernel⟩, List.mem_of_getElem? (i := 509) (by decide +kernel), List.mem_of_getElem? (i := 647) (by decide +kernel), List.mem_of_getElem? (i := 648) (by decide +kernel)⟩
def lw_privs_1 : List (MethodName × Nat) := [(⟨"RoadCounts$Counts", "placeOf", "(I)I"⟩, 3), (⟨"RoadCounts$Counts", "usedShares", "(LRoadCounts$Almanac;I)J"⟩, 3), (⟨"RoadCounts$Counts", "isUsed", "(ILRoadCounts$Almanac;)Z"⟩, 3), (⟨"RoadCounts$Counts", "usedTotal", "(LRoadCounts$Almanac;)J"⟩, 3), (⟨"RoadCounts$Counts", "misfitTimesShares", "(LRoadCounts$Almanac;IJ)J"⟩, 3), (⟨"RoadCounts$Network", "follow", "(I)I"⟩, 9), (⟨"RoadCounts$Network", "dearestOutside", "(I)I"⟩, 9), (⟨"RoadCounts$RulesReader", "readClause", "(LRoadCounts$Rules;)I"⟩, 4), (⟨"RoadCounts$RulesReader", "sign", "()I"⟩, 4), (⟨"RoadCounts$RulesReader", "readSpans", "(LRoadCounts$Rules;)I"⟩, 4), (⟨"RoadCounts$RulesReader", "readSpan", "(LRoadCounts$Rules;)I"⟩, 4), (⟨"RoadCounts$RulesReader", "readNumber", "(I)I"⟩, 4), (⟨"RoadCounts$Rules", "isWithin", "(ILRoadCounts$Tape;I)Z"⟩, 5), (⟨"RoadCountsModel", "wholeOf", "(I)J"⟩, 27), (⟨"RoadCountsModel", "share", "(II)J"⟩, 27), (⟨"RoadCountsModel", "isRoad", "(I)Z"⟩, 27)]
theorem lw_r1 : ∀ q ∈ lw_privs_1, lw_okq q := List.forall_mem_cons.mpr ⟨lw_p0, List.forall_mem_cons.mpr ⟨lw_p1, List.forall_mem_cons.mpr ⟨lw_p2, List.forall_mem_cons.mpr ⟨lw_p3, List.forall_mem_cons.mpr ⟨lw_p4, List.forall_mem_cons.mpr ⟨lw_p5, List.forall_mem_cons.mpr ⟨lw_p6, List.forall_mem_cons.mpr ⟨lw_p7, List.forall_mem_cons.mpr ⟨lw_p8, List.forall_mem_cons.mpr ⟨lw_p9, List.forall_mem_cons.mpr ⟨lw_p10, List.forall_mem_cons.mpr ⟨lw_p11, List.forall_mem_cons.mpr ⟨lw_p12, List.forall_mem_cons.mpr ⟨lw_p13, List.forall_mem_cons.mpr ⟨lw_p14, List.forall_mem_cons.mpr ⟨lw_p15, fun _ h => absurd h List.not_mem_nil⟩⟩⟩⟩⟩⟩⟩⟩⟩⟩⟩⟩⟩⟩⟩⟩
theorem lw_p16 : lw_okq (⟨"RoadCountsModel", "usedOf", "(I)I"⟩, 27) := ⟨⟨by decide +kernel, by decide +kernel⟩, List.mem_of_getElem? (i := 509) (by decide +kernel), List.mem_of_getElem? (i := 660) (by decide +kernel), List.mem_of_getElem? (i := 661) (by decide +kernel)⟩
theorem lw_p17 : lw_okq (⟨"RoadCountsModel", "isUsed", "(II)Z"⟩, 27) := ⟨⟨by decide +kernel, by decide +kernel⟩, List.mem_of_getElem? (i := 509) (by decide +kernel), List.mem_of_getElem? (i := 664) (by decide +kernel), List.mem_of_getElem? (i := 665) (by decide +kernel)⟩
theorem lw_p18 : lw_okq (⟨"RoadCountsModel", "yearOf", "(I)J"⟩, 27) := ⟨⟨by decide +kernel, by decide +kernel⟩, List.mem_of_getElem? (i := 509) (by decide +kernel), List.mem_of_getElem? (i := 668) (by decide +kernel), List.mem_of_getElem? (i := 669) (by decide +kernel)⟩
theorem lw_p19 : lw_okq (⟨"RoadCountsModel", "countsOf", "(I)J"⟩, 27) := ⟨⟨by decide +kernel, by decide +kernel⟩, List.mem_of_getElem? (i := 509) (by decide +kernel), List.mem_of_getElem? (i := 672) (by decide +kernel), List.mem_of_getElem? (i := 673) (by decide +kernel)⟩
theorem lw_p20 : lw_okq (⟨"RoadCountsModel", "sharesOf", "(II)J"⟩, 27) := ⟨⟨by decide +kernel, by decide +kernel⟩, List.mem_of_getElem? (i := 509) (by decide +kernel), List.mem_of_getElem? (i := 676) (by decide +kernel), List.mem_of_getElem? (i := 677) (by decide +kernel)⟩
theorem lw_p21 : lw_okq (⟨"RoadCountsModel", "misfit", "(II)J"⟩, 27) := ⟨⟨by decide +kernel, by decide +kernel⟩, List.mem_of_getElem? (i := 509) (by decide +kernel), List.mem_of_getElem? (i := 688) (by decide +kernel), List.mem_of_getElem? (i := 689) (by decide +kernel)⟩
theorem lw_p22 : lw_okq (⟨"RoadCountsModel", "knownRoads", "()I"⟩, 27) := ⟨⟨by decide +kernel, by decide +kernel⟩, List.mem_of_getElem? (i := 509) (by decide +kernel), List.mem_of_getElem? (i := 699) (by decide +kernel), List.mem_of_getElem? (i := 700) (by decide +kernel)⟩
theorem lw_p23 : lw_okq (⟨"RoadCountsModel", "works", "()I"⟩, 27) := ⟨⟨by decide +kernel, by decide +kernel⟩, List.mem_of_getElem? (i := 509) (by decide +kernel), List.mem_of_getElem? (i := 706) (by decide +kernel), List.mem_of_getElem? (i := 707) (by decide +kernel)⟩
theorem lw_p24 : lw_okq (⟨"RoadCountsModel", "grows", "(I)I"⟩, 27) := ⟨⟨by decide +kernel, by decide +kernel⟩, List.mem_of_getElem? (i := 509) (by decide +kernel), List.mem_of_getElem? (i := 710) (by decide +kernel), List.mem_of_getElem? (i := 711) (by decide +kernel)⟩
theorem lw_p25 : lw_okq (⟨"RoadCountsModel", "roadsAt", "(I)I"⟩, 27) := ⟨⟨by decide +kernel, by decide +kernel⟩, List.mem_of_getElem? (i := 509) (by decide +kernel), List.mem_of_getElem? (i := 714) (by decide +kernel), List.mem_of_getElem? (i := 715) (by decide +kernel)⟩
theorem lw_p26 : lw_okq (⟨"RoadCountsModel", "excess", "(II)J"⟩, 27) := ⟨⟨by decide +kernel, by decide +kernel⟩, List.mem_of_getElem? (i := 509) (by decide +kernel), List.mem_of_getElem? (i := 721) (by decide +kernel), List.mem_of_getElem? (i := 722) (by decide +kernel)⟩
theorem lw_p27 : lw_okq (⟨"RoadCountsModel", "isBalanced", "(II)Z"⟩, 27) := ⟨⟨by decide +kernel, by decide +kernel⟩, List.mem_of_getElem? (i := 509) (by decide +kernel), List.mem_of_getElem? (i := 733) (by decide +kernel), List.mem_of_getElem? (i := 734) (by decide +kernel)⟩
theorem lw_p28 : lw_okq (⟨"RoadCountsModel", "lists", "()V"⟩, 27) := ⟨⟨by decide +kernel, by decide +kernel⟩, List.mem_of_getElem? (i := 509) (by decide +kernel), List.mem_of_getElem? (i := 745) (by decide +kernel), List.mem_of_getElem? (i := 746) (by decide +kernel)⟩
theorem lw_p29 : lw_okq (⟨"RoadCountsModel", "doAll", "(I)Z"⟩, 27) := ⟨⟨by decide +kernel, by decide +kernel⟩, List.mem_of_getElem? (i := 509) (by decide +kernel), List.mem_of_getElem? (i := 749) (by decide +kernel), List.mem_of_getElem? (i := 750) (by decide +kernel)⟩
theorem lw_p30 : lw_okq (⟨"RoadCountsModel", "push", "(I)V"⟩, 27) := ⟨⟨by decide +kernel, by decide +kernel⟩, List.mem_of_getElem? (i := 509) (by decide +kernel), List.mem_of_getElem? (i := 761) (by decide +kernel), List.mem_of_getElem? (i := 762) (by decide +kernel)⟩
theorem lw_p31 : lw_okq (⟨"RoadCountsModel", "clause", "()V"⟩, 27) := ⟨⟨by decide +kernel, by decide +kernel⟩, List.mem_of_getElem? (i := 509) (by decide +kernel), List.mem_of_getElem? (i := 769) (by decide +kernel), List.mem_of_getElem? (i := 770) (by decide +kernel)⟩
def lw_privs_2 : List (MethodName × Nat) := [(⟨"RoadCountsModel", "usedOf", "(I)I"⟩, 27), (⟨"RoadCountsModel", "isUsed", "(II)Z"⟩, 27), (⟨"RoadCountsModel", "yearOf", "(I)J"⟩, 27), (⟨"RoadCountsModel", "countsOf", "(I)J"⟩, 27), (⟨"RoadCountsModel", "sharesOf", "(II)J"⟩, 27), (⟨"RoadCountsModel", "misfit", "(II)J"⟩, 27), (⟨"RoadCountsModel", "knownRoads", "()I"⟩, 27), (⟨"RoadCountsModel", "works", "()I"⟩, 27), (⟨"RoadCountsModel", "grows", "(I)I"⟩, 27), (⟨"RoadCountsModel", "roadsAt", "(I)I"⟩, 27), (⟨"RoadCountsModel", "excess", "(II)J"⟩, 27), (⟨"RoadCountsModel", "isBalanced", "(II)Z"⟩, 27), (⟨"RoadCountsModel", "lists", "()V"⟩, 27), (⟨"RoadCountsModel", "doAll", "(I)Z"⟩, 27), (⟨"RoadCountsModel", "push", "(I)V"⟩, 27), (⟨"RoadCountsModel", "clause", "()V"⟩, 27)]
theorem lw_r2 : ∀ q ∈ lw_privs_2, lw_okq q := List.forall_mem_cons.mpr ⟨lw_p16, List.forall_mem_cons.mpr ⟨lw_p17, List.forall_mem_cons.mpr ⟨lw_p18, List.forall_mem_cons.mpr ⟨lw_p19, List.forall_mem_cons.mpr ⟨lw_p20, List.forall_mem_cons.mpr ⟨lw_p21, List.forall_mem_cons.mpr ⟨lw_p22, List.forall_mem_cons.mpr ⟨lw_p23, List.forall_mem_cons.mpr ⟨lw_p24, List.forall_mem_cons.mpr ⟨lw_p25, List.forall_mem_cons.mpr ⟨lw_p26, List.forall_mem_cons.mpr ⟨lw_p27, List.forall_mem_cons.mpr ⟨lw_p28, List.forall_mem_cons.mpr ⟨lw_p29, List.forall_mem_cons.mpr ⟨lw_p30, List.forall_mem_cons.mpr ⟨lw_p31, fun _ h => absurd h List.not_mem_nil⟩⟩⟩⟩⟩⟩⟩⟩⟩⟩⟩⟩⟩⟩⟩⟩
theorem lw_p32 : lw_okq (⟨"RoadCountsModel", "seesDigit", "()Z"⟩, 27) := ⟨⟨by decide +kernel, by decide +kernel⟩, List.mem_of_getElem? (i := 509) (by decide +kernel), List.mem_of_getElem? (i := 773) (by decide +kernel), List.mem_of_getElem? (i := 774) (by decide +kernel)⟩
theorem lw_p33 : lw_okq (⟨"RoadCountsModel", "here", "()I"⟩, 27) := ⟨⟨by decide +kernel, by decide +kernel⟩, List.mem_of_getElem? (i := 509) (by decide +kernel), List.mem_of_getElem? (i := 777) (by decide +kernel), List.mem_of_getElem? (i := 778) (by decide +kernel)⟩
theorem lw_p34 : lw_okq (⟨"RoadCountsModel", "fails", "(II)V"⟩, 27) := ⟨⟨by decide +kernel, by decide +kernel⟩, List.mem_of_getElem? (i := 509) (by decide +kernel), List.mem_of_getElem? (i := 783) (by decide +kernel), List.mem_of_getElem? (i := 784) (by decide +kernel)⟩
theorem lw_p35 : lw_okq (⟨"RoadCountsModel", "must", "(I)V"⟩, 27) := ⟨⟨by decide +kernel, by decide +kernel⟩, List.mem_of_getElem? (i := 509) (by decide +kernel), List.mem_of_getElem? (i := 787) (by decide +kernel), List.mem_of_getElem? (i := 788) (by decide +kernel)⟩
theorem lw_p36 : lw_okq (⟨"RoadCountsModel", "number", "(I)I"⟩, 27) := ⟨⟨by decide +kernel, by decide +kernel⟩, List.mem_of_getElem? (i := 509) (by decide +kernel), List.mem_of_getElem? (i := 791) (by decide +kernel), List.mem_of_getElem? (i := 792) (by decide +kernel)⟩
theorem lw_p37 : lw_okq (⟨"RoadCountsModel", "kindOf", "(II)I"⟩, 27) := ⟨⟨by decide +kernel, by decide +kernel⟩, List.mem_of_getElem? (i := 509) (by decide +kernel), List.mem_of_getElem? (i := 799) (by decide +kernel), List.mem_of_getElem? (i := 800) (by decide +kernel)⟩
def lw_privs_3 : List (MethodName × Nat) := [(⟨"RoadCountsModel", "seesDigit", "()Z"⟩, 27), (⟨"RoadCountsModel", "here", "()I"⟩, 27), (⟨"RoadCountsModel", "fails", "(II)V"⟩, 27), (⟨"RoadCountsModel", "must", "(I)V"⟩, 27), (⟨"RoadCountsModel", "number", "(I)I"⟩, 27), (⟨"RoadCountsModel", "kindOf", "(II)I"⟩, 27)]
theorem lw_r3 : ∀ q ∈ lw_privs_3, lw_okq q := List.forall_mem_cons.mpr ⟨lw_p32, List.forall_mem_cons.mpr ⟨lw_p33, List.forall_mem_cons.mpr ⟨lw_p34, List.forall_mem_cons.mpr ⟨lw_p35, List.forall_mem_cons.mpr ⟨lw_p36, List.forall_mem_cons.mpr ⟨lw_p37, fun _ h => absurd h List.not_mem_nil⟩⟩⟩⟩⟩⟩
def lw_privs : List (MethodName × Nat) := lw_privs_1 ++ (lw_privs_2 ++ (lw_privs_3))
def lw_tbl : List Cond := k2_sels lw_privs ++ tables_1
theorem lw_privs_ok : ∀ q ∈ lw_privs, lw_okq q := by
  show ∀ q ∈ lw_privs_1 ++ (lw_privs_2 ++ (lw_privs_3)), lw_okq q
  exact List.forall_mem_append.mpr ⟨lw_r1, List.forall_mem_append.mpr ⟨lw_r2, lw_r3⟩⟩

/-! classes: 0 Almanac 1 Counts 2 Network 3 Road 4 Rules 5 RulesReader 6 Tape 7 RoadCounts 8 RoadCountsModel -/
def z_R0 : String := "RoadCounts$Almanac"
def z_F0 : u_T := fun k => match k with
  | 0 => ("RoadCounts$Almanac", "weekdayWeights", "[[I", true)
  | 1 => ("RoadCounts$Almanac", "monthWeights", "[[I", true)
  | 2 => ("RoadCounts$Almanac", "isHoliday", "[Z", true)
  | 3 => ("RoadCounts$Almanac", "holidayDays", "[I", true)
  | _ => ("RoadCounts$Almanac", "holidays", "I", false)
def z_t0 : Nat → FieldType := fun k => match k with
  | 0 => (.array (.array .int))
  | 1 => (.array (.array .int))
  | 2 => (.array .boolean)
  | 3 => (.array .int)
  | _ => .int
theorem z_n0 : ∀ a, a < 5 → ∀ b, b < 5 → a ≠ b → (z_F0 a).2.1 ≠ (z_F0 b).2.1 := by decide +kernel
theorem z_to0 : ∀ k, k < 5 → parseFieldDescriptor (z_F0 k).2.2.1 = some (z_t0 k) := by decide +kernel
def z_d0 : List Value := [.null, .null, .null, .null, .int 0]
theorem z_do0 : ∀ j, j < 5 → defaultValue (z_t0 j) = vp_V z_d0 j := by decide +kernel
def z_R1 : String := "RoadCounts$Counts"
def z_F1 : u_T := fun k => match k with
  | 0 => ("RoadCounts$Counts", "days", "[I", true)
  | 1 => ("RoadCounts$Counts", "counted", "[I", true)
  | _ => ("RoadCounts$Counts", "size", "I", false)
def z_t1 : Nat → FieldType := fun k => match k with
  | 0 => (.array .int)
  | 1 => (.array .int)
  | _ => .int
theorem z_n1 : ∀ a, a < 3 → ∀ b, b < 3 → a ≠ b → (z_F1 a).2.1 ≠ (z_F1 b).2.1 := by decide +kernel
theorem z_to1 : ∀ k, k < 3 → parseFieldDescriptor (z_F1 k).2.2.1 = some (z_t1 k) := by decide +kernel
def z_d1 : List Value := [.null, .null, .int 0]
theorem z_do1 : ∀ j, j < 3 → defaultValue (z_t1 j) = vp_V z_d1 j := by decide +kernel
def z_R2 : String := "RoadCounts$Network"
def z_F2 : u_T := fun k => match k with
  | 0 => ("RoadCounts$Network", "roads", "[LRoadCounts$Road;", true)
  | 1 => ("RoadCounts$Network", "roadsAt", "[I", true)
  | 2 => ("RoadCounts$Network", "loads", "[J", true)
  | 3 => ("RoadCounts$Network", "followers", "[I", true)
  | 4 => ("RoadCounts$Network", "followedAt", "[I", true)
  | 5 => ("RoadCounts$Network", "steps", "I", false)
  | 6 => ("RoadCounts$Network", "size", "I", false)
  | 7 => ("RoadCounts$Network", "known", "I", false)
  | _ => ("RoadCounts$Network", "told", "I", false)
def z_t2 : Nat → FieldType := fun k => match k with
  | 0 => (.array (.object "RoadCounts$Road"))
  | 1 => (.array .int)
  | 2 => (.array .long)
  | 3 => (.array .int)
  | 4 => (.array .int)
  | 5 => .int
  | 6 => .int
  | 7 => .int
  | _ => .int
theorem z_n2 : ∀ a, a < 9 → ∀ b, b < 9 → a ≠ b → (z_F2 a).2.1 ≠ (z_F2 b).2.1 := by decide +kernel
theorem z_to2 : ∀ k, k < 9 → parseFieldDescriptor (z_F2 k).2.2.1 = some (z_t2 k) := by decide +kernel
def z_d2 : List Value := [.null, .null, .null, .null, .null, .int 0, .int 0, .int 0, .int 0]
theorem z_do2 : ∀ j, j < 9 → defaultValue (z_t2 j) = vp_V z_d2 j := by decide +kernel
def z_R3 : String := "RoadCounts$Road"
def z_F3 : u_T := fun k => match k with
  | 0 => ("RoadCounts$Road", "from", "I", true)
  | 1 => ("RoadCounts$Road", "to", "I", true)
  | 2 => ("RoadCounts$Road", "price", "I", true)
  | 3 => ("RoadCounts$Road", "counts", "LRoadCounts$Counts;", true)
  | 4 => ("RoadCounts$Road", "passed", "[I", true)
  | _ => ("RoadCounts$Road", "form", "I", false)
def z_t3 : Nat → FieldType := fun k => match k with
  | 0 => .int
  | 1 => .int
  | 2 => .int
  | 3 => (.object "RoadCounts$Counts")
  | 4 => (.array .int)
  | _ => .int
theorem z_n3 : ∀ a, a < 6 → ∀ b, b < 6 → a ≠ b → (z_F3 a).2.1 ≠ (z_F3 b).2.1 := by decide +kernel
theorem z_to3 : ∀ k, k < 6 → parseFieldDescriptor (z_F3 k).2.2.1 = some (z_t3 k) := by decide +kernel
def z_d3 : List Value := [.int 0, .int 0, .int 0, .null, .null, .int 0]
theorem z_do3 : ∀ j, j < 6 → defaultValue (z_t3 j) = vp_V z_d3 j := by decide +kernel
def z_R4 : String := "RoadCounts$Rules"
def z_F4 : u_T := fun k => match k with
  | 0 => ("RoadCounts$Rules", "kindOfClause", "[I", true)
  | 1 => ("RoadCounts$Rules", "spansOfClause", "[I", true)
  | 2 => ("RoadCounts$Rules", "least", "[[I", true)
  | 3 => ("RoadCounts$Rules", "greatest", "[[I", true)
  | _ => ("RoadCounts$Rules", "size", "I", false)
def z_t4 : Nat → FieldType := fun k => match k with
  | 0 => (.array .int)
  | 1 => (.array .int)
  | 2 => (.array (.array .int))
  | 3 => (.array (.array .int))
  | _ => .int
theorem z_n4 : ∀ a, a < 5 → ∀ b, b < 5 → a ≠ b → (z_F4 a).2.1 ≠ (z_F4 b).2.1 := by decide +kernel
theorem z_to4 : ∀ k, k < 5 → parseFieldDescriptor (z_F4 k).2.2.1 = some (z_t4 k) := by decide +kernel
def z_d4 : List Value := [.null, .null, .null, .null, .int 0]
theorem z_do4 : ∀ j, j < 5 → defaultValue (z_t4 j) = vp_V z_d4 j := by decide +kernel
def z_R5 : String := "RoadCounts$RulesReader"
def z_F5 : u_T := fun k => match k with
  | 0 => ("RoadCounts$RulesReader", "text", "LRoadCounts$Tape;", true)
  | 1 => ("RoadCounts$RulesReader", "length", "I", false)
  | 2 => ("RoadCounts$RulesReader", "place", "I", false)
  | _ => ("RoadCounts$RulesReader", "number", "I", false)
def z_t5 : Nat → FieldType := fun k => match k with
  | 0 => (.object "RoadCounts$Tape")
  | 1 => .int
  | 2 => .int
  | _ => .int
theorem z_n5 : ∀ a, a < 4 → ∀ b, b < 4 → a ≠ b → (z_F5 a).2.1 ≠ (z_F5 b).2.1 := by decide +kernel
theorem z_to5 : ∀ k, k < 4 → parseFieldDescriptor (z_F5 k).2.2.1 = some (z_t5 k) := by decide +kernel
def z_d5 : List Value := [.null, .int 0, .int 0, .int 0]
theorem z_do5 : ∀ j, j < 4 → defaultValue (z_t5 j) = vp_V z_d5 j := by decide +kernel
def z_R6 : String := "RoadCounts$Tape"
def z_F6 : u_T := fun k => match k with
  | 0 => ("RoadCounts$Tape", "bytes", "[I", true)
  | _ => ("RoadCounts$Tape", "length", "I", false)
def z_t6 : Nat → FieldType := fun k => match k with
  | 0 => (.array .int)
  | _ => .int
theorem z_n6 : ∀ a, a < 2 → ∀ b, b < 2 → a ≠ b → (z_F6 a).2.1 ≠ (z_F6 b).2.1 := by decide +kernel
theorem z_to6 : ∀ k, k < 2 → parseFieldDescriptor (z_F6 k).2.2.1 = some (z_t6 k) := by decide +kernel
def z_d6 : List Value := [.null, .int 0]
theorem z_do6 : ∀ j, j < 2 → defaultValue (z_t6 j) = vp_V z_d6 j := by decide +kernel
def z_R7 : String := "RoadCounts"
def z_F7 : u_T := fun k => match k with
  | 0 => ("RoadCounts", "almanac", "LRoadCounts$Almanac;", true)
  | 1 => ("RoadCounts", "network", "LRoadCounts$Network;", true)
  | 2 => ("RoadCounts", "tape", "LRoadCounts$Tape;", true)
  | 3 => ("RoadCounts", "reader", "LRoadCounts$RulesReader;", true)
  | 4 => ("RoadCounts", "inForce", "LRoadCounts$Rules;", false)
  | _ => ("RoadCounts", "spare", "LRoadCounts$Rules;", false)
def z_t7 : Nat → FieldType := fun k => match k with
  | 0 => (.object "RoadCounts$Almanac")
  | 1 => (.object "RoadCounts$Network")
  | 2 => (.object "RoadCounts$Tape")
  | 3 => (.object "RoadCounts$RulesReader")
  | 4 => (.object "RoadCounts$Rules")
  | _ => (.object "RoadCounts$Rules")
theorem z_n7 : ∀ a, a < 6 → ∀ b, b < 6 → a ≠ b → (z_F7 a).2.1 ≠ (z_F7 b).2.1 := by decide +kernel
theorem z_to7 : ∀ k, k < 6 → parseFieldDescriptor (z_F7 k).2.2.1 = some (z_t7 k) := by decide +kernel
def z_d7 : List Value := [.null, .null, .null, .null, .null, .null]
theorem z_do7 : ∀ j, j < 6 → defaultValue (z_t7 j) = vp_V z_d7 j := by decide +kernel
def z_R8 : String := "RoadCountsModel"
def z_F8 : u_T := fun k => match k with
  | 0 => ("RoadCountsModel", "tape", "[B", true)
  | 1 => ("RoadCountsModel", "taped", "I", false)
  | 2 => ("RoadCountsModel", "roads", "I", false)
  | 3 => ("RoadCountsModel", "holidays", "I", false)
  | 4 => ("RoadCountsModel", "isHoliday", "[Z", true)
  | 5 => ("RoadCountsModel", "byWeekday", "[I", true)
  | 6 => ("RoadCountsModel", "byMonth", "[I", true)
  | 7 => ("RoadCountsModel", "from", "[I", true)
  | 8 => ("RoadCountsModel", "to", "[I", true)
  | 9 => ("RoadCountsModel", "price", "[I", true)
  | 10 => ("RoadCountsModel", "shape", "[I", true)
  | 11 => ("RoadCountsModel", "counted", "[I", true)
  | 12 => ("RoadCountsModel", "counts", "[I", true)
  | 13 => ("RoadCountsModel", "passed", "[I", true)
  | 14 => ("RoadCountsModel", "clauses", "I", false)
  | 15 => ("RoadCountsModel", "read", "I", false)
  | 16 => ("RoadCountsModel", "kind", "[I", true)
  | 17 => ("RoadCountsModel", "spans", "[I", true)
  | 18 => ("RoadCountsModel", "ends", "[I", true)
  | 19 => ("RoadCountsModel", "readKind", "[I", true)
  | 20 => ("RoadCountsModel", "readSpans", "[I", true)
  | 21 => ("RoadCountsModel", "readEnds", "[I", true)
  | 22 => ("RoadCountsModel", "load", "[J", true)
  | 23 => ("RoadCountsModel", "at", "[I", true)
  | 24 => ("RoadCountsModel", "place", "I", false)
  | 25 => ("RoadCountsModel", "end", "I", false)
  | _ => ("RoadCountsModel", "bad", "I", false)
def z_t8 : Nat → FieldType := fun k => match k with
  | 0 => (.array .byte)
  | 1 => .int
  | 2 => .int
  | 3 => .int
  | 4 => (.array .boolean)
  | 5 => (.array .int)
  | 6 => (.array .int)
  | 7 => (.array .int)
  | 8 => (.array .int)
  | 9 => (.array .int)
  | 10 => (.array .int)
  | 11 => (.array .int)
  | 12 => (.array .int)
  | 13 => (.array .int)
  | 14 => .int
  | 15 => .int
  | 16 => (.array .int)
  | 17 => (.array .int)
  | 18 => (.array .int)
  | 19 => (.array .int)
  | 20 => (.array .int)
  | 21 => (.array .int)
  | 22 => (.array .long)
  | 23 => (.array .int)
  | 24 => .int
  | 25 => .int
  | _ => .int
theorem z_n8 : ∀ a, a < 27 → ∀ b, b < 27 → a ≠ b → (z_F8 a).2.1 ≠ (z_F8 b).2.1 := by decide +kernel
theorem z_to8 : ∀ k, k < 27 → parseFieldDescriptor (z_F8 k).2.2.1 = some (z_t8 k) := by decide +kernel
def z_d8 : List Value := [.null, .int 0, .int 0, .int 0, .null, .null, .null, .null, .null, .null, .null, .null, .null, .null, .int 0, .int 0, .null, .null, .null, .null, .null, .null, .null, .null, .int 0, .int 0, .int 0]
theorem z_do8 : ∀ j, j < 27 → defaultValue (z_t8 j) = vp_V z_d8 j := by decide +kernel
abbrev z_cl : List vw_C := [(z_R0, z_F0, 5), (z_R1, z_F1, 3), (z_R2, z_F2, 9), (z_R3, z_F3, 6), (z_R4, z_F4, 5), (z_R5, z_F5, 4), (z_R6, z_F6, 2), (z_R7, z_F7, 6), (z_R8, z_F8, 27)]
/-- the words that every method has: those that stay -/
def z_T : List Cond := lw_tbl.filter goodWord
/-- the words on nest mates, and arrays of references -/
def z_N : List Cond := lw_tbl.filter (fun w => match w with | .fieldLinkNest .. => true | .methodLinkNest .. => true | _ => false)
theorem z_inT {w : Cond} (h : w ∈ lw_tbl) (g : goodWord w = true) : w ∈ z_T := List.mem_filter.mpr ⟨h, g⟩
theorem z_goodT : GoodIn z_T z_T := fun w h => ⟨h, good_of_word (List.mem_filter.mp h).2⟩
theorem z_w0 : ∀ w ∈ u_ws z_R0 z_F0 5, w ∈ z_T := by
  intro w hw
  have h : u_ws z_R0 z_F0 5 = [35, 37, 39, 41, 43].filterMap (fun i => tables_1[i]?) := by decide +kernel
  have g : (u_ws z_R0 z_F0 5).all goodWord = true := by decide +kernel
  refine z_inT (List.mem_append_right _ ?_) (List.all_eq_true.mp g w hw)
  rw [h] at hw
  obtain ⟨i, -, hi⟩ := List.mem_filterMap.mp hw
  exact List.mem_of_getElem? hi
theorem z_w1 : ∀ w ∈ u_ws z_R1 z_F1 3, w ∈ z_T := by
  intro w hw
  have h : u_ws z_R1 z_F1 3 = [221, 223, 225].filterMap (fun i => tables_1[i]?) := by decide +kernel
  have g : (u_ws z_R1 z_F1 3).all goodWord = true := by decide +kernel
  refine z_inT (List.mem_append_right _ ?_) (List.all_eq_true.mp g w hw)
  rw [h] at hw
  obtain ⟨i, -, hi⟩ := List.mem_filterMap.mp hw
  exact List.mem_of_getElem? hi
theorem z_w2 : ∀ w ∈ u_ws z_R2 z_F2 9, w ∈ z_T := by
  intro w hw
  have h : u_ws z_R2 z_F2 9 = [68, 70, 72, 74, 76, 78, 80, 82, 84].filterMap (fun i => tables_1[i]?) := by decide +kernel
  have g : (u_ws z_R2 z_F2 9).all goodWord = true := by decide +kernel
  refine z_inT (List.mem_append_right _ ?_) (List.all_eq_true.mp g w hw)
  rw [h] at hw
  obtain ⟨i, -, hi⟩ := List.mem_filterMap.mp hw
  exact List.mem_of_getElem? hi
theorem z_w3 : ∀ w ∈ u_ws z_R3 z_F3 6, w ∈ z_T := by
  intro w hw
  have h : u_ws z_R3 z_F3 6 = [243, 245, 247, 249, 251, 253].filterMap (fun i => tables_1[i]?) := by decide +kernel
  have g : (u_ws z_R3 z_F3 6).all goodWord = true := by decide +kernel
  refine z_inT (List.mem_append_right _ ?_) (List.all_eq_true.mp g w hw)
  rw [h] at hw
  obtain ⟨i, -, hi⟩ := List.mem_filterMap.mp hw
  exact List.mem_of_getElem? hi
theorem z_w4 : ∀ w ∈ u_ws z_R4 z_F4 5, w ∈ z_T := by
  intro w hw
  have h : u_ws z_R4 z_F4 5 = [135, 137, 139, 141, 143].filterMap (fun i => tables_1[i]?) := by decide +kernel
  have g : (u_ws z_R4 z_F4 5).all goodWord = true := by decide +kernel
  refine z_inT (List.mem_append_right _ ?_) (List.all_eq_true.mp g w hw)
  rw [h] at hw
  obtain ⟨i, -, hi⟩ := List.mem_filterMap.mp hw
  exact List.mem_of_getElem? hi
theorem z_w5 : ∀ w ∈ u_ws z_R5 z_F5 4, w ∈ z_T := by
  intro w hw
  have h : u_ws z_R5 z_F5 4 = [112, 114, 116, 118].filterMap (fun i => tables_1[i]?) := by decide +kernel
  have g : (u_ws z_R5 z_F5 4).all goodWord = true := by decide +kernel
  refine z_inT (List.mem_append_right _ ?_) (List.all_eq_true.mp g w hw)
  rw [h] at hw
  obtain ⟨i, -, hi⟩ := List.mem_filterMap.mp hw
  exact List.mem_of_getElem? hi
theorem z_w6 : ∀ w ∈ u_ws z_R6 z_F6 2, w ∈ z_T := by
  intro w hw
  have h : u_ws z_R6 z_F6 2 = [97, 99].filterMap (fun i => tables_1[i]?) := by decide +kernel
  have g : (u_ws z_R6 z_F6 2).all goodWord = true := by decide +kernel
  refine z_inT (List.mem_append_right _ ?_) (List.all_eq_true.mp g w hw)
  rw [h] at hw
  obtain ⟨i, -, hi⟩ := List.mem_filterMap.mp hw
  exact List.mem_of_getElem? hi
theorem z_w7 : ∀ w ∈ u_ws z_R7 z_F7 6, w ∈ z_T := by
  intro w hw
  have h : u_ws z_R7 z_F7 6 = [152, 154, 156, 158, 160, 162].filterMap (fun i => tables_1[i]?) := by decide +kernel
  have g : (u_ws z_R7 z_F7 6).all goodWord = true := by decide +kernel
  refine z_inT (List.mem_append_right _ ?_) (List.all_eq_true.mp g w hw)
  rw [h] at hw
  obtain ⟨i, -, hi⟩ := List.mem_filterMap.mp hw
  exact List.mem_of_getElem? hi
theorem z_w8 : ∀ w ∈ u_ws z_R8 z_F8 27, w ∈ z_T := by
  intro w hw
  have h : u_ws z_R8 z_F8 27 = [541, 543, 545, 547, 549, 551, 553, 555, 557, 559, 561, 563, 565, 567, 569, 571, 573, 575, 577, 579, 581, 583, 585, 587, 589, 591, 593].filterMap (fun i => tables_1[i]?) := by decide +kernel
  have g : (u_ws z_R8 z_F8 27).all goodWord = true := by decide +kernel
  refine z_inT (List.mem_append_right _ ?_) (List.all_eq_true.mp g w hw)
  rw [h] at hw
  obtain ⟨i, -, hi⟩ := List.mem_filterMap.mp hw
  exact List.mem_of_getElem? hi
theorem z_wT : ∀ (ci : Nat) (r : vw_C), z_cl[ci]? = some r → ∀ w ∈ u_ws r.1 r.2.1 r.2.2, w ∈ z_T := by
  intro ci r h
  match ci, h with
  | 0, h => cases h; exact z_w0
  | 1, h => cases h; exact z_w1
  | 2, h => cases h; exact z_w2
  | 3, h => cases h; exact z_w3
  | 4, h => cases h; exact z_w4
  | 5, h => cases h; exact z_w5
  | 6, h => cases h; exact z_w6
  | 7, h => cases h; exact z_w7
  | 8, h => cases h; exact z_w8
  | k + 9, h => simp [z_cl] at h
def z_ty (ci : Nat) : Nat → FieldType := match ci with
  | 0 => z_t0
  | 1 => z_t1
  | 2 => z_t2
  | 3 => z_t3
  | 4 => z_t4
  | 5 => z_t5
  | 6 => z_t6
  | 7 => z_t7
  | _ => z_t8
def z_df (ci : Nat) : List Value := match ci with
  | 0 => z_d0
  | 1 => z_d1
  | 2 => z_d2
  | 3 => z_d3
  | 4 => z_d4
  | 5 => z_d5
  | 6 => z_d6
  | 7 => z_d7
  | _ => z_d8
theorem z_nT : ∀ (ci : Nat) (r : vw_C), z_cl[ci]? = some r → ∀ a, a < r.2.2 → ∀ b, b < r.2.2 → a ≠ b → (r.2.1 a).2.1 ≠ (r.2.1 b).2.1 := by
  intro ci r h
  match ci, h with
  | 0, h => cases h; exact z_n0
  | 1, h => cases h; exact z_n1
  | 2, h => cases h; exact z_n2
  | 3, h => cases h; exact z_n3
  | 4, h => cases h; exact z_n4
  | 5, h => cases h; exact z_n5
  | 6, h => cases h; exact z_n6
  | 7, h => cases h; exact z_n7
  | 8, h => cases h; exact z_n8
  | k + 9, h => simp [z_cl] at h
theorem z_tyT : ∀ (ci : Nat) (r : vw_C), z_cl[ci]? = some r → ∀ k, k < r.2.2 → parseFieldDescriptor (r.2.1 k).2.2.1 = some (z_ty ci k) := by
  intro ci r h
  match ci, h with
  | 0, h => cases h; exact z_to0
  | 1, h => cases h; exact z_to1
  | 2, h => cases h; exact z_to2
  | 3, h => cases h; exact z_to3
  | 4, h => cases h; exact z_to4
  | 5, h => cases h; exact z_to5
  | 6, h => cases h; exact z_to6
  | 7, h => cases h; exact z_to7
  | 8, h => cases h; exact z_to8
  | k + 9, h => simp [z_cl] at h
theorem z_dfT : ∀ (ci : Nat) (r : vw_C), z_cl[ci]? = some r → ∀ j, j < r.2.2 → defaultValue (z_ty ci j) = vp_V (z_df ci) j := by
  intro ci r h
  match ci, h with
  | 0, h => cases h; exact z_do0
  | 1, h => cases h; exact z_do1
  | 2, h => cases h; exact z_do2
  | 3, h => cases h; exact z_do3
  | 4, h => cases h; exact z_do4
  | 5, h => cases h; exact z_do5
  | 6, h => cases h; exact z_do6
  | 7, h => cases h; exact z_do7
  | 8, h => cases h; exact z_do8
  | k + 9, h => simp [z_cl] at h
end
section
/-! THE ABSTRACT MACHINE: cells have numbers (0: the script, that lies outside; k + 1: the cell at B + k); a world is a function from numbers to contents.
Kinds of arrays: 0 int, 1 long, 2 byte, 3 boolean, 4 references to Road, 5 references to int arrays -/
abbrev z_C : Type := (Nat × vp_A) ⊕ (Nat × List Value)
abbrev z_H : Type := Nat → Option z_C
def z_up (P : z_H) (k : Nat) (c : z_C) : z_H := fun j => if j = k then some c else P j
theorem z_up_s {P : z_H} {k : Nat} {c : z_C} : z_up P k c k = some c := by simp [z_up]
theorem z_up_n {P : z_H} {k j : Nat} {c : z_C} (h : j ≠ k) : z_up P k c j = P j := by simp [z_up, h]
def z_ad (b B : Nat) : Nat → Nat
  | 0 => b
  | k + 1 => B + k
def z_V (b B : Nat) : Value → Value
  | .ref k => .ref (z_ad b B k)
  | v => v
theorem z_V_cat (b B : Nat) (v : Value) : (z_V b B v).category = v.category := by cases v <;> rfl
def z_A (b B : Nat) (a : vp_A) : vp_A := match a with
  | (n, .inl f) => (n, .inl f)
  | (n, .inr (.inl f)) => (n, .inr (.inl f))
  | (n, .inr (.inr (.inl f))) => (n, .inr (.inr (.inl f)))
  | (n, .inr (.inr (.inr (.inl f)))) => (n, .inr (.inr (.inr (.inl f))))
  | (n, .inr (.inr (.inr (.inr f)))) => (n, .inr (.inr (.inr (.inr (fun j => (f j).map (z_ad b B))))))
def z_E (cy : Nat → ClassId) (b B : Nat) (c : z_C) : va_E := match c with
  | .inl a => .inl (cy a.1, z_A b B a.2)
  | .inr o => .inr (o.1, o.2.map (z_V b B))
/-- the heap holds the world P; nx is the number of the next cell -/
def z_R (D : va_G) (cy : Nat → ClassId) (b B : Nat) (P : z_H) (nx : Nat) (H : Heap) : Prop := H.size + 1 = B + nx ∧ 0 < nx ∧ P 0 = none ∧ ∀ (k : Nat) (c : z_C), P (k + 1) = some c → va_at D z_cl (B + k, z_E cy b B c) H
/-- locals -/
def z_g : List (Option Value) → Nat → Option Value
  | [], _ => none
  | a :: _, 0 => a
  | _ :: l, i + 1 => z_g l i
def z_k : Option Value → Option Value
  | some (.long _) => none
  | some (.double _) => none
  | o => o
def z_p1 (v : Value) : Nat → List (Option Value) → List (Option Value)
  | 0, l => some v :: l.tail
  | 1, l => z_k (l.headD none) :: some v :: l.tail.tail
  | i + 2, l => l.headD none :: z_p1 v (i + 1) l.tail
def z_p2 (v : Value) : Nat → List (Option Value) → List (Option Value)
  | 0, l => some v :: none :: l.tail.tail
  | 1, l => z_k (l.headD none) :: some v :: none :: l.tail.tail.tail
  | i + 2, l => l.headD none :: z_p2 v (i + 1) l.tail
theorem z_g_nil (i : Nat) : z_g [] i = none := by cases i <;> rfl
theorem z_g_tail (l : List (Option Value)) (i : Nat) : z_g l.tail i = z_g l (i + 1) := by
  cases l with
  | nil => simp [z_g_nil]
  | cons a l => rfl
theorem z_g_head (l : List (Option Value)) : l.headD none = z_g l 0 := by cases l <;> rfl
theorem z_k_some {o : Option Value} {w : Value} (h : z_k o = some w) : o = some w ∧ w.category ≠ 2 := by
  cases o with
  | none => cases h
  | some x => cases x <;> (try (simp [z_k] at h; done)) <;> (simp only [z_k, Option.some.injEq] at h; subst h; exact ⟨rfl, by simp [Value.category]⟩)
theorem z_p1_g (v : Value) : ∀ (i : Nat) (l : List (Option Value)) (j : Nat) (w : Value), z_g (z_p1 v i l) j = some w → (j = i ∧ w = v) ∨ (j ≠ i ∧ z_g l j = some w ∧ ¬ (j + 1 = i ∧ w.category = 2))
  | 0, l, 0, w, h => Or.inl ⟨rfl, (Option.some.inj h).symm⟩
  | 0, l, j + 1, w, h => Or.inr ⟨by omega, by rw [← z_g_tail]; exact h, by omega⟩
  | 1, l, 0, w, h => by
    obtain ⟨h1, h2⟩ := z_k_some (show z_k (l.headD none) = some w from h)
    exact Or.inr ⟨by omega, by rw [← z_g_head]; exact h1, fun q => h2 q.2⟩
  | 1, l, 1, w, h => Or.inl ⟨rfl, (Option.some.inj h).symm⟩
  | 1, l, j + 2, w, h => Or.inr ⟨by omega, by rw [← z_g_tail, ← z_g_tail]; exact h, by omega⟩
  | i + 2, l, 0, w, h => Or.inr ⟨by omega, by rw [← z_g_head]; exact h, by omega⟩
  | i + 2, l, j + 1, w, h => by
    rcases z_p1_g v (i + 1) l.tail j w h with ⟨h1, h2⟩ | ⟨h1, h2, h3⟩
    · exact Or.inl ⟨by omega, h2⟩
    · exact Or.inr ⟨by omega, by rw [← z_g_tail]; exact h2, fun q => h3 ⟨by omega, q.2⟩⟩
theorem z_p2_g (v : Value) : ∀ (i : Nat) (l : List (Option Value)) (j : Nat) (w : Value), z_g (z_p2 v i l) j = some w → (j = i ∧ w = v) ∨ (j ≠ i ∧ j ≠ i + 1 ∧ z_g l j = some w ∧ ¬ (j + 1 = i ∧ w.category = 2))
  | 0, l, 0, w, h => Or.inl ⟨rfl, (Option.some.inj h).symm⟩
  | 0, l, 1, w, h => by cases h
  | 0, l, j + 2, w, h => Or.inr ⟨by omega, by omega, by rw [← z_g_tail, ← z_g_tail]; exact h, by omega⟩
  | 1, l, 0, w, h => by
    obtain ⟨h1, h2⟩ := z_k_some (show z_k (l.headD none) = some w from h)
    exact Or.inr ⟨by omega, by omega, by rw [← z_g_head]; exact h1, fun q => h2 q.2⟩
  | 1, l, 1, w, h => Or.inl ⟨rfl, (Option.some.inj h).symm⟩
  | 1, l, 2, w, h => by cases h
  | 1, l, j + 3, w, h => Or.inr ⟨by omega, by omega, by rw [← z_g_tail, ← z_g_tail, ← z_g_tail]; exact h, by omega⟩
  | i + 2, l, 0, w, h => Or.inr ⟨by omega, by omega, by rw [← z_g_head]; exact h, by omega⟩
  | i + 2, l, j + 1, w, h => by
    rcases z_p2_g v (i + 1) l.tail j w h with ⟨h1, h2⟩ | ⟨h1, h2, h3, h4⟩
    · exact Or.inl ⟨by omega, h2⟩
    · exact Or.inr ⟨by omega, by omega, by rw [← z_g_tail]; exact h3, fun q => h4 ⟨by omega, q.2⟩⟩
def z_L (b B : Nat) (ls : Array Slot) (nL : Nat) (lv : List (Option Value)) : Prop := ls.size = nL ∧ lv_wf ls ∧ ∀ (i : Nat) (v : Value), z_g lv i = some v → ls[i]? = some (.val (z_V b B v))
/-- a list of all locals, as the kit has them -/
def z_Ll (b B nL : Nat) (lv : List (Option Value)) : List (Nat × Value) := (List.range nL).filterMap (fun i => (z_g lv i).map (fun v => (i, z_V b B v)))
theorem z_L.has {b B nL : Nat} {ls : Array Slot} {lv : List (Option Value)} (h : z_L b B ls nL lv) : lv_has ls nL (z_Ll b B nL lv) := by
  refine ⟨h.1, h.2.1, fun q hq => ?_⟩
  obtain ⟨i, -, hi⟩ := List.mem_filterMap.mp hq
  cases hg : z_g lv i with
  | none => rw [hg] at hi; cases hi
  | some v =>
    rw [hg] at hi
    cases hi
    exact h.2.2 i v hg
theorem z_L.inl {b B nL : Nat} {ls : Array Slot} {lv : List (Option Value)} (h : z_L b B ls nL lv) {i : Nat} {v : Value} (hg : z_g lv i = some v) : (i, z_V b B v) ∈ z_Ll b B nL lv := by
  refine List.mem_filterMap.mpr ⟨i, List.mem_range.mpr ?_, by rw [hg]; rfl⟩
  have := h.2.2 i v hg
  rw [← h.1]
  exact lv_lt this
theorem z_L.p1 {b B nL : Nat} {ls ls' : Array Slot} {lv : List (Option Value)} {i : Nat} {v : Value} (h : z_L b B ls nL lv) (h' : lv_has ls' nL ((i, z_V b B v) :: (z_Ll b B nL lv).filter (fun q => !(q.1 == i) && !(q.1 + 1 == i && q.2.category == 2)))) : z_L b B ls' nL (z_p1 v i lv) := by
  refine ⟨h'.1, h'.2.1, fun j w hj => ?_⟩
  rcases z_p1_g v i lv j w hj with ⟨rfl, rfl⟩ | ⟨h1, h2, h3⟩
  · exact h'.2.2 _ List.mem_cons_self
  · refine h'.2.2 (j, z_V b B w) (List.mem_cons_of_mem _ (List.mem_filter.mpr ⟨h.inl h2, ?_⟩))
    show (!(j == i) && !(j + 1 == i && (z_V b B w).category == 2)) = true
    rw [z_V_cat]
    simp only [Bool.and_eq_true, Bool.not_eq_true', beq_eq_false_iff_ne, ne_eq, Bool.and_eq_false_iff]
    refine ⟨h1, ?_⟩
    by_cases q : j + 1 = i
    · exact Or.inr (fun z => h3 ⟨q, z⟩)
    · exact Or.inl q
theorem z_L.p2 {b B nL : Nat} {ls ls' : Array Slot} {lv : List (Option Value)} {i : Nat} {v : Value} (h : z_L b B ls nL lv) (h' : lv_has ls' nL ((i, z_V b B v) :: (z_Ll b B nL lv).filter (fun q => !(q.1 == i) && (!(q.1 == i + 1) && !(q.1 + 1 == i && q.2.category == 2))))) : z_L b B ls' nL (z_p2 v i lv) := by
  refine ⟨h'.1, h'.2.1, fun j w hj => ?_⟩
  rcases z_p2_g v i lv j w hj with ⟨rfl, rfl⟩ | ⟨h1, h0, h2, h3⟩
  · exact h'.2.2 _ List.mem_cons_self
  · refine h'.2.2 (j, z_V b B w) (List.mem_cons_of_mem _ (List.mem_filter.mpr ⟨h.inl h2, ?_⟩))
    show (!(j == i) && (!(j == i + 1) && !(j + 1 == i && (z_V b B w).category == 2))) = true
    rw [z_V_cat]
    simp only [Bool.and_eq_true, Bool.not_eq_true', beq_eq_false_iff_ne, ne_eq, Bool.and_eq_false_iff]
    refine ⟨h1, h0, ?_⟩
    by_cases q : j + 1 = i
    · exact Or.inr (fun z => h3 ⟨q, z⟩)
    · exact Or.inl q
/-- fewer locals -/
theorem z_L.sub {b B nL : Nat} {ls : Array Slot} {lv lv' : List (Option Value)} (h : z_L b B ls nL lv) (hs : ∀ i v, z_g lv' i = some v → z_g lv i = some v) : z_L b B ls nL lv' := ⟨h.1, h.2.1, fun i v hg => h.2.2 i v (hs i v hg)⟩
/-- .. by places: each is as it was, or forgotten -/
def z_lt : List (Option Value) → List (Option Value) → Prop
  | [], _ => True
  | none :: l, m => z_lt l m.tail
  | some v :: l, m => m.headD none = some v ∧ z_lt l m.tail
theorem z_lt_g : ∀ (l m : List (Option Value)), z_lt l m → ∀ i v, z_g l i = some v → z_g m i = some v
  | [], m, _, i, v, h => by rw [z_g_nil] at h; cases h
  | none :: l, m, hl, 0, v, h => by cases h
  | none :: l, m, hl, i + 1, v, h => by rw [← z_g_tail]; exact z_lt_g l m.tail hl i v h
  | some x :: l, m, hl, 0, v, h => by cases h; rw [← z_g_head]; exact hl.1
  | some x :: l, m, hl, i + 1, v, h => by rw [← z_g_tail]; exact z_lt_g l m.tail hl.2 i v h
/-- the arguments in their places -/
def z_args : List Value → List (Option Value)
  | [] => []
  | v :: l => if v.category = 2 then some v :: none :: z_args l else some v :: z_args l
theorem z_args_g (b B : Nat) : ∀ (as : List Value) (k i : Nat) (v : Value), z_g (z_args as) i = some v → (k + i, z_V b B v) ∈ lv_args k (as.map (z_V b B))
  | [], k, i, v, h => by rw [show z_args [] = [] from rfl, z_g_nil] at h; cases h
  | a :: as, k, i, v, h => by
    unfold z_args at h
    by_cases hc : a.category = 2
    · rw [if_pos hc] at h
      have e : lv_args k ((a :: as).map (z_V b B)) = (k, z_V b B a) :: lv_args (k + 2) (as.map (z_V b B)) := by
        simp [lv_args, z_V_cat, hc]
      rw [e]
      match i, h with
      | 0, h => cases h; exact List.mem_cons_self
      | 1, h => cases h
      | i + 2, h =>
        have := z_args_g b B as (k + 2) i v h
        rw [show k + (i + 2) = k + 2 + i by omega]
        exact List.mem_cons_of_mem _ this
    · rw [if_neg hc] at h
      have e : lv_args k ((a :: as).map (z_V b B)) = (k, z_V b B a) :: lv_args (k + 1) (as.map (z_V b B)) := by
        have h1 : a.category = 1 := (lv_cat a).resolve_right hc
        simp [lv_args, z_V_cat, h1]
      rw [e]
      match i, h with
      | 0, h => cases h; exact List.mem_cons_self
      | i + 1, h =>
        have := z_args_g b B as (k + 1) i v h
        rw [show k + (i + 1) = k + 1 + i by omega]
        exact List.mem_cons_of_mem _ this
end
section
/-! what is fixed in a run of a method -/
abbrev z_X : Type := Program × Launch × Env × Room × State × MethodId × Array Value × List Frame × Method × Code × ByteArray × Nat × String × va_G × (Nat → ClassId) × Nat × Nat × (State → Prop)
abbrev z_tys (cy : Nat → ClassId) : List (ClassId × FieldType) := [(cy 0, .int), (cy 1, .long), (cy 2, .byte), (cy 3, .boolean), (cy 4, .object "RoadCounts$Road"), (cy 5, .array .int)]
/-- what is known of the tables -/
def z_Kn (D : va_G) (cy : Nat → ClassId) (s : State) : Prop := va_K D z_cl (z_tys cy) s ∧ va_AO "RoadCounts$Road" s ∧ (Cond.arrayOver (.array .int)).before #[] s = true ∧ ∀ w ∈ z_N, va_Nw w s
/-- a method: its name, code, how many locals, what it returns -/
abbrev z_M : Type := MethodName × ByteArray × Nat × Option FieldType
/-- X is a run of method y, with the room rm -/
def z_is : z_X → Launch → z_M → Room → Prop := fun (p, l, e, R, s, m, args, below, meth, c, cc, nL, own, D, cy, b, B, Q) l' (yn, yc, yL, yr) rm =>
  (p.tables.exec = Jvm.exec ∧ c.code = cc ∧ c.maxLocals = nL ∧ s.vm.findClass own = some m.cls ∧ (∀ w ∈ z_T, w.before args s = true) ∧ z_Kn D cy s ∧ B ≤ s.heap.size) ∧ l = l' ∧ cc = yc ∧ nL = yL ∧ own = yn.cls ∧ R = rm
/-- THE JUDGEMENT: at pc, with these locals, this stack, this world, the machine comes to its end -/
def z_W : z_X → Nat → List (Option Value) → List Value → z_H → Nat → Nat → Nat → Prop := fun (p, l, e, R, s, m, args, below, meth, c, cc, nL, own, D, cy, b, B, Q) pc lv st P nx u v =>
  ∀ (H : Heap) (locs : List Loc) (ls : Array Slot), z_R D cy b B P nx H → va_S (fun q => B ≤ q) s.heap H locs → z_L b B ls nL lv → W p l e R s m args below meth c H locs u v Q (F0 m pc ls (st.map (z_V b B)))
section ZR
variable {X : z_X} {l : Launch} {me : z_M} {rm : Room} {pc nx u v : Nat} {lv : List (Option Value)} {st : List Value} {P : z_H}
theorem z_sub {lv' : List (Option Value)} (k : z_W X pc lv' st P nx u v) (h : z_lt lv' lv) : z_W X pc lv st P nx u v := by
  obtain ⟨p, l, e, R, s, m, args, below, meth, c, cc, nL, own, D, cy, b, B, Q⟩ := X
  exact fun H locs ls hR hS hL => k H locs ls hR hS (hL.sub (z_lt_g _ _ h))
theorem z_widen {u' v' : Nat} (h1 : u ≤ u') (h2 : v ≤ v') (k : z_W X pc lv st P nx u' v') : z_W X pc lv st P nx u v := by
  obtain ⟨p, l, e, R, s, m, args, below, meth, c, cc, nL, own, D, cy, b, B, Q⟩ := X
  exact fun H locs ls hR hS hL => W.widen h1 h2 (k H locs ls hR hS hL)
theorem z_iadd (hX : z_is X l me rm) {x y : Int32} (hd : decode me.2.1 pc = .ok (.iadd, 1)) (k : z_W X (pc + 1) lv (.int (x + y) :: st) P nx u v) : z_W X pc lv (.int y :: .int x :: st) P nx u v := by
  obtain ⟨p, l, e, R, s, m, args, below, meth, c, cc, nL, own, D, cy, b, B, Q⟩ := X
  obtain ⟨yn, yc, yL, yr⟩ := me
  obtain ⟨⟨hx, hb, hml, hown, hts, hK, hB⟩, rfl, rfl, rfl, rfl, rfl⟩ := hX
  intro H locs ls hR hS hL
  exact lv_iadd hx hb hd (k H locs ls hR hS hL)
theorem z_isub (hX : z_is X l me rm) {x y : Int32} (hd : decode me.2.1 pc = .ok (.isub, 1)) (k : z_W X (pc + 1) lv (.int (x - y) :: st) P nx u v) : z_W X pc lv (.int y :: .int x :: st) P nx u v := by
  obtain ⟨p, l, e, R, s, m, args, below, meth, c, cc, nL, own, D, cy, b, B, Q⟩ := X
  obtain ⟨yn, yc, yL, yr⟩ := me
  obtain ⟨⟨hx, hb, hml, hown, hts, hK, hB⟩, rfl, rfl, rfl, rfl, rfl⟩ := hX
  intro H locs ls hR hS hL
  exact lv_isub hx hb hd (k H locs ls hR hS hL)
theorem z_imul (hX : z_is X l me rm) {x y : Int32} (hd : decode me.2.1 pc = .ok (.imul, 1)) (k : z_W X (pc + 1) lv (.int (x * y) :: st) P nx u v) : z_W X pc lv (.int y :: .int x :: st) P nx u v := by
  obtain ⟨p, l, e, R, s, m, args, below, meth, c, cc, nL, own, D, cy, b, B, Q⟩ := X
  obtain ⟨yn, yc, yL, yr⟩ := me
  obtain ⟨⟨hx, hb, hml, hown, hts, hK, hB⟩, rfl, rfl, rfl, rfl, rfl⟩ := hX
  intro H locs ls hR hS hL
  exact lv_imul hx hb hd (k H locs ls hR hS hL)
theorem z_iand (hX : z_is X l me rm) {x y : Int32} (hd : decode me.2.1 pc = .ok (.iand, 1)) (k : z_W X (pc + 1) lv (.int (x &&& y) :: st) P nx u v) : z_W X pc lv (.int y :: .int x :: st) P nx u v := by
  obtain ⟨p, l, e, R, s, m, args, below, meth, c, cc, nL, own, D, cy, b, B, Q⟩ := X
  obtain ⟨yn, yc, yL, yr⟩ := me
  obtain ⟨⟨hx, hb, hml, hown, hts, hK, hB⟩, rfl, rfl, rfl, rfl, rfl⟩ := hX
  intro H locs ls hR hS hL
  exact lv_iand hx hb hd (k H locs ls hR hS hL)
theorem z_ior (hX : z_is X l me rm) {x y : Int32} (hd : decode me.2.1 pc = .ok (.ior, 1)) (k : z_W X (pc + 1) lv (.int (x ||| y) :: st) P nx u v) : z_W X pc lv (.int y :: .int x :: st) P nx u v := by
  obtain ⟨p, l, e, R, s, m, args, below, meth, c, cc, nL, own, D, cy, b, B, Q⟩ := X
  obtain ⟨yn, yc, yL, yr⟩ := me
  obtain ⟨⟨hx, hb, hml, hown, hts, hK, hB⟩, rfl, rfl, rfl, rfl, rfl⟩ := hX
  intro H locs ls hR hS hL
  exact lv_ior hx hb hd (k H locs ls hR hS hL)
theorem z_ixor (hX : z_is X l me rm) {x y : Int32} (hd : decode me.2.1 pc = .ok (.ixor, 1)) (k : z_W X (pc + 1) lv (.int (x ^^^ y) :: st) P nx u v) : z_W X pc lv (.int y :: .int x :: st) P nx u v := by
  obtain ⟨p, l, e, R, s, m, args, below, meth, c, cc, nL, own, D, cy, b, B, Q⟩ := X
  obtain ⟨yn, yc, yL, yr⟩ := me
  obtain ⟨⟨hx, hb, hml, hown, hts, hK, hB⟩, rfl, rfl, rfl, rfl, rfl⟩ := hX
  intro H locs ls hR hS hL
  exact lv_ixor hx hb hd (k H locs ls hR hS hL)
theorem z_ishl (hX : z_is X l me rm) {x y : Int32} (hd : decode me.2.1 pc = .ok (.ishl, 1)) (k : z_W X (pc + 1) lv (.int (x <<< (y &&& 31)) :: st) P nx u v) : z_W X pc lv (.int y :: .int x :: st) P nx u v := by
  obtain ⟨p, l, e, R, s, m, args, below, meth, c, cc, nL, own, D, cy, b, B, Q⟩ := X
  obtain ⟨yn, yc, yL, yr⟩ := me
  obtain ⟨⟨hx, hb, hml, hown, hts, hK, hB⟩, rfl, rfl, rfl, rfl, rfl⟩ := hX
  intro H locs ls hR hS hL
  exact lv_ishl hx hb hd (k H locs ls hR hS hL)
theorem z_ishr (hX : z_is X l me rm) {x y : Int32} (hd : decode me.2.1 pc = .ok (.ishr, 1)) (k : z_W X (pc + 1) lv (.int (x >>> (y &&& 31)) :: st) P nx u v) : z_W X pc lv (.int y :: .int x :: st) P nx u v := by
  obtain ⟨p, l, e, R, s, m, args, below, meth, c, cc, nL, own, D, cy, b, B, Q⟩ := X
  obtain ⟨yn, yc, yL, yr⟩ := me
  obtain ⟨⟨hx, hb, hml, hown, hts, hK, hB⟩, rfl, rfl, rfl, rfl, rfl⟩ := hX
  intro H locs ls hR hS hL
  exact lv_ishr hx hb hd (k H locs ls hR hS hL)
theorem z_idiv (hX : z_is X l me rm) {x y : Int32} (hd : decode me.2.1 pc = .ok (.idiv, 1)) (hne : ¬ y = 0) (k : z_W X (pc + 1) lv (.int (x / y) :: st) P nx u v) : z_W X pc lv (.int y :: .int x :: st) P nx u v := by
  obtain ⟨p, l, e, R, s, m, args, below, meth, c, cc, nL, own, D, cy, b, B, Q⟩ := X
  obtain ⟨yn, yc, yL, yr⟩ := me
  obtain ⟨⟨hx, hb, hml, hown, hts, hK, hB⟩, rfl, rfl, rfl, rfl, rfl⟩ := hX
  intro H locs ls hR hS hL
  exact lv_idiv hx hb hd hne (k H locs ls hR hS hL)
theorem z_irem (hX : z_is X l me rm) {x y : Int32} (hd : decode me.2.1 pc = .ok (.irem, 1)) (hne : ¬ y = 0) (k : z_W X (pc + 1) lv (.int (x - x / y * y) :: st) P nx u v) : z_W X pc lv (.int y :: .int x :: st) P nx u v := by
  obtain ⟨p, l, e, R, s, m, args, below, meth, c, cc, nL, own, D, cy, b, B, Q⟩ := X
  obtain ⟨yn, yc, yL, yr⟩ := me
  obtain ⟨⟨hx, hb, hml, hown, hts, hK, hB⟩, rfl, rfl, rfl, rfl, rfl⟩ := hX
  intro H locs ls hR hS hL
  exact lv_irem hx hb hd hne (k H locs ls hR hS hL)
theorem z_ladd (hX : z_is X l me rm) {x y : Int64} (hd : decode me.2.1 pc = .ok (.ladd, 1)) (k : z_W X (pc + 1) lv (.long (x + y) :: st) P nx u v) : z_W X pc lv (.long y :: .long x :: st) P nx u v := by
  obtain ⟨p, l, e, R, s, m, args, below, meth, c, cc, nL, own, D, cy, b, B, Q⟩ := X
  obtain ⟨yn, yc, yL, yr⟩ := me
  obtain ⟨⟨hx, hb, hml, hown, hts, hK, hB⟩, rfl, rfl, rfl, rfl, rfl⟩ := hX
  intro H locs ls hR hS hL
  exact lv_ladd hx hb hd (k H locs ls hR hS hL)
theorem z_lsub (hX : z_is X l me rm) {x y : Int64} (hd : decode me.2.1 pc = .ok (.lsub, 1)) (k : z_W X (pc + 1) lv (.long (x - y) :: st) P nx u v) : z_W X pc lv (.long y :: .long x :: st) P nx u v := by
  obtain ⟨p, l, e, R, s, m, args, below, meth, c, cc, nL, own, D, cy, b, B, Q⟩ := X
  obtain ⟨yn, yc, yL, yr⟩ := me
  obtain ⟨⟨hx, hb, hml, hown, hts, hK, hB⟩, rfl, rfl, rfl, rfl, rfl⟩ := hX
  intro H locs ls hR hS hL
  exact lv_lsub hx hb hd (k H locs ls hR hS hL)
theorem z_lmul (hX : z_is X l me rm) {x y : Int64} (hd : decode me.2.1 pc = .ok (.lmul, 1)) (k : z_W X (pc + 1) lv (.long (x * y) :: st) P nx u v) : z_W X pc lv (.long y :: .long x :: st) P nx u v := by
  obtain ⟨p, l, e, R, s, m, args, below, meth, c, cc, nL, own, D, cy, b, B, Q⟩ := X
  obtain ⟨yn, yc, yL, yr⟩ := me
  obtain ⟨⟨hx, hb, hml, hown, hts, hK, hB⟩, rfl, rfl, rfl, rfl, rfl⟩ := hX
  intro H locs ls hR hS hL
  exact lv_lmul hx hb hd (k H locs ls hR hS hL)
theorem z_ldiv (hX : z_is X l me rm) {x y : Int64} (hd : decode me.2.1 pc = .ok (.ldiv, 1)) (hne : ¬ y = 0) (k : z_W X (pc + 1) lv (.long (x / y) :: st) P nx u v) : z_W X pc lv (.long y :: .long x :: st) P nx u v := by
  obtain ⟨p, l, e, R, s, m, args, below, meth, c, cc, nL, own, D, cy, b, B, Q⟩ := X
  obtain ⟨yn, yc, yL, yr⟩ := me
  obtain ⟨⟨hx, hb, hml, hown, hts, hK, hB⟩, rfl, rfl, rfl, rfl, rfl⟩ := hX
  intro H locs ls hR hS hL
  exact lv_ldiv hx hb hd hne (k H locs ls hR hS hL)
theorem z_lneg (hX : z_is X l me rm) {x : Int64} (hd : decode me.2.1 pc = .ok (.lneg, 1)) (k : z_W X (pc + 1) lv (.long (-x) :: st) P nx u v) : z_W X pc lv (.long x :: st) P nx u v := by
  obtain ⟨p, l, e, R, s, m, args, below, meth, c, cc, nL, own, D, cy, b, B, Q⟩ := X
  obtain ⟨yn, yc, yL, yr⟩ := me
  obtain ⟨⟨hx, hb, hml, hown, hts, hK, hB⟩, rfl, rfl, rfl, rfl, rfl⟩ := hX
  intro H locs ls hR hS hL
  exact lv_lneg hx hb hd (k H locs ls hR hS hL)
theorem z_lcmp (hX : z_is X l me rm) {x y : Int64} (hd : decode me.2.1 pc = .ok (.lcmp, 1)) (k : z_W X (pc + 1) lv (.int (lg_cmp x y) :: st) P nx u v) : z_W X pc lv (.long y :: .long x :: st) P nx u v := by
  obtain ⟨p, l, e, R, s, m, args, below, meth, c, cc, nL, own, D, cy, b, B, Q⟩ := X
  obtain ⟨yn, yc, yL, yr⟩ := me
  obtain ⟨⟨hx, hb, hml, hown, hts, hK, hB⟩, rfl, rfl, rfl, rfl, rfl⟩ := hX
  intro H locs ls hR hS hL
  exact W.lcmp hx hb hd (k H locs ls hR hS hL)
theorem z_i2l (hX : z_is X l me rm) {x : Int32} (hd : decode me.2.1 pc = .ok (.i2l, 1)) (k : z_W X (pc + 1) lv (.long x.toInt64 :: st) P nx u v) : z_W X pc lv (.int x :: st) P nx u v := by
  obtain ⟨p, l, e, R, s, m, args, below, meth, c, cc, nL, own, D, cy, b, B, Q⟩ := X
  obtain ⟨yn, yc, yL, yr⟩ := me
  obtain ⟨⟨hx, hb, hml, hown, hts, hK, hB⟩, rfl, rfl, rfl, rfl, rfl⟩ := hX
  intro H locs ls hR hS hL
  exact lv_i2l hx hb hd rfl (k H locs ls hR hS hL)
theorem z_i2b (hX : z_is X l me rm) {x : Int32} (hd : decode me.2.1 pc = .ok (.i2b, 1)) (k : z_W X (pc + 1) lv (.int x.toInt8.toInt32 :: st) P nx u v) : z_W X pc lv (.int x :: st) P nx u v := by
  obtain ⟨p, l, e, R, s, m, args, below, meth, c, cc, nL, own, D, cy, b, B, Q⟩ := X
  obtain ⟨yn, yc, yL, yr⟩ := me
  obtain ⟨⟨hx, hb, hml, hown, hts, hK, hB⟩, rfl, rfl, rfl, rfl, rfl⟩ := hX
  intro H locs ls hR hS hL
  exact lv_i2b hx hb hd rfl (k H locs ls hR hS hL)
theorem z_iushr (hX : z_is X l me rm) {x y : Int32} (hd : decode me.2.1 pc = .ok (.iushr, 1)) (k : z_W X (pc + 1) lv (.int (x.toUInt32 >>> (y.toUInt32 &&& Int32.toUInt32 31)).toInt32 :: st) P nx u v) : z_W X pc lv (.int y :: .int x :: st) P nx u v := by
  obtain ⟨p, l, e, R, s, m, args, below, meth, c, cc, nL, own, D, cy, b, B, Q⟩ := X
  obtain ⟨yn, yc, yL, yr⟩ := me
  obtain ⟨⟨hx, hb, hml, hown, hts, hK, hB⟩, rfl, rfl, rfl, rfl, rfl⟩ := hX
  intro H locs ls hR hS hL
  exact lv_iushr hx hb hd rfl (k H locs ls hR hS hL)
theorem z_iconst (hX : z_is X l me rm) {n : Int} (z : Int32) (hd : decode me.2.1 pc = .ok (.iconst n, 1)) (hz : Int32.ofInt n = z) (k : z_W X (pc + 1) lv (.int z :: st) P nx u v) : z_W X pc lv (st) P nx u v := by
  obtain ⟨p, l, e, R, s, m, args, below, meth, c, cc, nL, own, D, cy, b, B, Q⟩ := X
  obtain ⟨yn, yc, yL, yr⟩ := me
  obtain ⟨⟨hx, hb, hml, hown, hts, hK, hB⟩, rfl, rfl, rfl, rfl, rfl⟩ := hX
  intro H locs ls hR hS hL
  exact lv_iconst hx hb hd hz (k H locs ls hR hS hL)
theorem z_bipush (hX : z_is X l me rm) {n : Int} (z : Int32) (hd : decode me.2.1 pc = .ok (.bipush n, 2)) (hz : (Int8.ofInt n).toInt32 = z) (k : z_W X (pc + 2) lv (.int z :: st) P nx u v) : z_W X pc lv (st) P nx u v := by
  obtain ⟨p, l, e, R, s, m, args, below, meth, c, cc, nL, own, D, cy, b, B, Q⟩ := X
  obtain ⟨yn, yc, yL, yr⟩ := me
  obtain ⟨⟨hx, hb, hml, hown, hts, hK, hB⟩, rfl, rfl, rfl, rfl, rfl⟩ := hX
  intro H locs ls hR hS hL
  exact lv_bipush hx hb hd hz (k H locs ls hR hS hL)
theorem z_sipush (hX : z_is X l me rm) {n : Int} (z : Int32) (hd : decode me.2.1 pc = .ok (.sipush n, 3)) (hz : (Int16.ofInt n).toInt32 = z) (k : z_W X (pc + 3) lv (.int z :: st) P nx u v) : z_W X pc lv (st) P nx u v := by
  obtain ⟨p, l, e, R, s, m, args, below, meth, c, cc, nL, own, D, cy, b, B, Q⟩ := X
  obtain ⟨yn, yc, yL, yr⟩ := me
  obtain ⟨⟨hx, hb, hml, hown, hts, hK, hB⟩, rfl, rfl, rfl, rfl, rfl⟩ := hX
  intro H locs ls hR hS hL
  exact lv_sipush hx hb hd hz (k H locs ls hR hS hL)
theorem z_lconst (hX : z_is X l me rm) {n : Fin 2} (z : Int64) (hd : decode me.2.1 pc = .ok (.lconst n, 1)) (hz : Int64.ofNat (n : Nat) = z) (k : z_W X (pc + 1) lv (.long z :: st) P nx u v) : z_W X pc lv (st) P nx u v := by
  obtain ⟨p, l, e, R, s, m, args, below, meth, c, cc, nL, own, D, cy, b, B, Q⟩ := X
  obtain ⟨yn, yc, yL, yr⟩ := me
  obtain ⟨⟨hx, hb, hml, hown, hts, hK, hB⟩, rfl, rfl, rfl, rfl, rfl⟩ := hX
  intro H locs ls hR hS hL
  exact lv_lconst hx hb hd hz (k H locs ls hR hS hL)
theorem z_null (hX : z_is X l me rm) (hd : decode me.2.1 pc = .ok (.aconst_null, 1)) (k : z_W X (pc + 1) lv (.null :: st) P nx u v) : z_W X pc lv (st) P nx u v := by
  obtain ⟨p, l, e, R, s, m, args, below, meth, c, cc, nL, own, D, cy, b, B, Q⟩ := X
  obtain ⟨yn, yc, yL, yr⟩ := me
  obtain ⟨⟨hx, hb, hml, hown, hts, hK, hB⟩, rfl, rfl, rfl, rfl, rfl⟩ := hX
  intro H locs ls hR hS hL
  exact lv_null hx hb hd (k H locs ls hR hS hL)
theorem z_ldc (hX : z_is X l me rm) {i : Nat} (z : Int32) (hd : decode me.2.1 pc = .ok (.ldc i, 2)) (hw : Cond.constant me.1.cls i z ∈ z_T) (k : z_W X (pc + 2) lv (.int z :: st) P nx u v) : z_W X pc lv st P nx u v := by
  obtain ⟨p, l, e, R, s, m, args, below, meth, c, cc, nL, own, D, cy, b, B, Q⟩ := X
  obtain ⟨yn, yc, yL, yr⟩ := me
  obtain ⟨⟨hx, hb, hml, hown, hts, hK, hB⟩, rfl, rfl, rfl, rfl, rfl⟩ := hX
  intro H locs ls hR hS hL
  exact lv_ldc hx hb hown (hts _ hw) hd (k H locs ls hR hS hL)
theorem z_ldcw (hX : z_is X l me rm) {i : Nat} (z : Int32) (hd : decode me.2.1 pc = .ok (.ldc_w i, 3)) (hw : Cond.constant me.1.cls i z ∈ z_T) (k : z_W X (pc + 3) lv (.int z :: st) P nx u v) : z_W X pc lv st P nx u v := by
  obtain ⟨p, l, e, R, s, m, args, below, meth, c, cc, nL, own, D, cy, b, B, Q⟩ := X
  obtain ⟨yn, yc, yL, yr⟩ := me
  obtain ⟨⟨hx, hb, hml, hown, hts, hK, hB⟩, rfl, rfl, rfl, rfl, rfl⟩ := hX
  intro H locs ls hR hS hL
  exact lv_ldcw hx hb hown (hts _ hw) hd (k H locs ls hR hS hL)
theorem z_ldc2 (hX : z_is X l me rm) {i : Nat} (z : Int64) (hd : decode me.2.1 pc = .ok (.ldc2_w i, 3)) (hw : Cond.constantLong me.1.cls i z ∈ z_T) (k : z_W X (pc + 3) lv (.long z :: st) P nx u v) : z_W X pc lv st P nx u v := by
  obtain ⟨p, l, e, R, s, m, args, below, meth, c, cc, nL, own, D, cy, b, B, Q⟩ := X
  obtain ⟨yn, yc, yL, yr⟩ := me
  obtain ⟨⟨hx, hb, hml, hown, hts, hK, hB⟩, rfl, rfl, rfl, rfl, rfl⟩ := hX
  intro H locs ls hR hS hL
  exact lv_ldc2 hx hb hown (hts _ hw) hd (k H locs ls hR hS hL)
theorem z_iload_n (hX : z_is X l me rm) {j : Fin 4} {x : Int32} (hd : decode me.2.1 pc = .ok (.iload_n j, 1)) (hg : z_g lv j = some (.int x)) (k : z_W X (pc + 1) lv (.int x :: st) P nx u v) : z_W X pc lv st P nx u v := by
  obtain ⟨p, l, e, R, s, m, args, below, meth, c, cc, nL, own, D, cy, b, B, Q⟩ := X
  obtain ⟨yn, yc, yL, yr⟩ := me
  obtain ⟨⟨hx, hb, hml, hown, hts, hK, hB⟩, rfl, rfl, rfl, rfl, rfl⟩ := hX
  intro H locs ls hR hS hL
  exact lv_iload_n hx hb hd rfl (hL.2.2 _ _ hg) (k H locs ls hR hS hL)
theorem z_iload (hX : z_is X l me rm) {j : Nat} {x : Int32} (hd : decode me.2.1 pc = .ok (.iload j, 2)) (hg : z_g lv j = some (.int x)) (k : z_W X (pc + 2) lv (.int x :: st) P nx u v) : z_W X pc lv st P nx u v := by
  obtain ⟨p, l, e, R, s, m, args, below, meth, c, cc, nL, own, D, cy, b, B, Q⟩ := X
  obtain ⟨yn, yc, yL, yr⟩ := me
  obtain ⟨⟨hx, hb, hml, hown, hts, hK, hB⟩, rfl, rfl, rfl, rfl, rfl⟩ := hX
  intro H locs ls hR hS hL
  exact lv_iload hx hb hd (hL.2.2 _ _ hg) (k H locs ls hR hS hL)
theorem z_lload_n (hX : z_is X l me rm) {j : Fin 4} {x : Int64} (hd : decode me.2.1 pc = .ok (.lload_n j, 1)) (hg : z_g lv j = some (.long x)) (k : z_W X (pc + 1) lv (.long x :: st) P nx u v) : z_W X pc lv st P nx u v := by
  obtain ⟨p, l, e, R, s, m, args, below, meth, c, cc, nL, own, D, cy, b, B, Q⟩ := X
  obtain ⟨yn, yc, yL, yr⟩ := me
  obtain ⟨⟨hx, hb, hml, hown, hts, hK, hB⟩, rfl, rfl, rfl, rfl, rfl⟩ := hX
  intro H locs ls hR hS hL
  exact lv_lload_n hx hb hd rfl (hL.2.2 _ _ hg) (k H locs ls hR hS hL)
theorem z_lload (hX : z_is X l me rm) {j : Nat} {x : Int64} (hd : decode me.2.1 pc = .ok (.lload j, 2)) (hg : z_g lv j = some (.long x)) (k : z_W X (pc + 2) lv (.long x :: st) P nx u v) : z_W X pc lv st P nx u v := by
  obtain ⟨p, l, e, R, s, m, args, below, meth, c, cc, nL, own, D, cy, b, B, Q⟩ := X
  obtain ⟨yn, yc, yL, yr⟩ := me
  obtain ⟨⟨hx, hb, hml, hown, hts, hK, hB⟩, rfl, rfl, rfl, rfl, rfl⟩ := hX
  intro H locs ls hR hS hL
  exact lv_lload hx hb hd (hL.2.2 _ _ hg) (k H locs ls hR hS hL)
theorem z_aload_n (hX : z_is X l me rm) {j : Fin 4} {x : Nat} (hd : decode me.2.1 pc = .ok (.aload_n j, 1)) (hg : z_g lv j = some (.ref x)) (k : z_W X (pc + 1) lv (.ref x :: st) P nx u v) : z_W X pc lv st P nx u v := by
  obtain ⟨p, l, e, R, s, m, args, below, meth, c, cc, nL, own, D, cy, b, B, Q⟩ := X
  obtain ⟨yn, yc, yL, yr⟩ := me
  obtain ⟨⟨hx, hb, hml, hown, hts, hK, hB⟩, rfl, rfl, rfl, rfl, rfl⟩ := hX
  intro H locs ls hR hS hL
  exact lv_aload_n hx hb hd rfl (hL.2.2 _ _ hg) (k H locs ls hR hS hL)
theorem z_aload_nN (hX : z_is X l me rm) {j : Fin 4} (hd : decode me.2.1 pc = .ok (.aload_n j, 1)) (hg : z_g lv j = some .null) (k : z_W X (pc + 1) lv (.null :: st) P nx u v) : z_W X pc lv st P nx u v := by
  obtain ⟨p, l, e, R, s, m, args, below, meth, c, cc, nL, own, D, cy, b, B, Q⟩ := X
  obtain ⟨yn, yc, yL, yr⟩ := me
  obtain ⟨⟨hx, hb, hml, hown, hts, hK, hB⟩, rfl, rfl, rfl, rfl, rfl⟩ := hX
  intro H locs ls hR hS hL
  exact lv_aload_nN hx hb hd rfl (hL.2.2 _ _ hg) (k H locs ls hR hS hL)
theorem z_aload (hX : z_is X l me rm) {j : Nat} {x : Nat} (hd : decode me.2.1 pc = .ok (.aload j, 2)) (hg : z_g lv j = some (.ref x)) (k : z_W X (pc + 2) lv (.ref x :: st) P nx u v) : z_W X pc lv st P nx u v := by
  obtain ⟨p, l, e, R, s, m, args, below, meth, c, cc, nL, own, D, cy, b, B, Q⟩ := X
  obtain ⟨yn, yc, yL, yr⟩ := me
  obtain ⟨⟨hx, hb, hml, hown, hts, hK, hB⟩, rfl, rfl, rfl, rfl, rfl⟩ := hX
  intro H locs ls hR hS hL
  exact lv_aload hx hb hd (hL.2.2 _ _ hg) (k H locs ls hR hS hL)
theorem z_istore_n (hX : z_is X l me rm) {j0 : Fin 4} (j : Nat) {x : Int32} (hj : (j0 : Nat) = j) (hn : j < me.2.2.1) (hd : decode me.2.1 pc = .ok (.istore_n j0, 1)) (k : z_W X (pc + 1) (z_p1 (.int x) j lv) st P nx u v) : z_W X pc lv (.int x :: st) P nx u v := by
  obtain ⟨p, l, e, R, s, m, args, below, meth, c, cc, nL, own, D, cy, b, B, Q⟩ := X
  obtain ⟨yn, yc, yL, yr⟩ := me
  obtain ⟨⟨hx, hb, hml, hown, hts, hK, hB⟩, rfl, rfl, rfl, rfl, rfl⟩ := hX
  intro H locs ls hR hS hL
  exact lv_istore_n hx hb hd hj hL.has hn rfl (fun ls' h' => k H locs ls' hR hS (hL.p1 h'))
theorem z_istore (hX : z_is X l me rm) {j : Nat} {x : Int32} (hn : j < me.2.2.1) (hd : decode me.2.1 pc = .ok (.istore j, 2)) (k : z_W X (pc + 2) (z_p1 (.int x) j lv) st P nx u v) : z_W X pc lv (.int x :: st) P nx u v := by
  obtain ⟨p, l, e, R, s, m, args, below, meth, c, cc, nL, own, D, cy, b, B, Q⟩ := X
  obtain ⟨yn, yc, yL, yr⟩ := me
  obtain ⟨⟨hx, hb, hml, hown, hts, hK, hB⟩, rfl, rfl, rfl, rfl, rfl⟩ := hX
  intro H locs ls hR hS hL
  exact lv_istore hx hb hd hL.has hn rfl (fun ls' h' => k H locs ls' hR hS (hL.p1 h'))
theorem z_lstore_n (hX : z_is X l me rm) {j0 : Fin 4} (j : Nat) {x : Int64} (hj : (j0 : Nat) = j) (hn : j + 1 < me.2.2.1) (hd : decode me.2.1 pc = .ok (.lstore_n j0, 1)) (k : z_W X (pc + 1) (z_p2 (.long x) j lv) st P nx u v) : z_W X pc lv (.long x :: st) P nx u v := by
  obtain ⟨p, l, e, R, s, m, args, below, meth, c, cc, nL, own, D, cy, b, B, Q⟩ := X
  obtain ⟨yn, yc, yL, yr⟩ := me
  obtain ⟨⟨hx, hb, hml, hown, hts, hK, hB⟩, rfl, rfl, rfl, rfl, rfl⟩ := hX
  intro H locs ls hR hS hL
  exact lv_lstore_n hx hb hd hj hL.has hn rfl (fun ls' h' => k H locs ls' hR hS (hL.p2 h'))
theorem z_lstore (hX : z_is X l me rm) {j : Nat} {x : Int64} (hn : j + 1 < me.2.2.1) (hd : decode me.2.1 pc = .ok (.lstore j, 2)) (k : z_W X (pc + 2) (z_p2 (.long x) j lv) st P nx u v) : z_W X pc lv (.long x :: st) P nx u v := by
  obtain ⟨p, l, e, R, s, m, args, below, meth, c, cc, nL, own, D, cy, b, B, Q⟩ := X
  obtain ⟨yn, yc, yL, yr⟩ := me
  obtain ⟨⟨hx, hb, hml, hown, hts, hK, hB⟩, rfl, rfl, rfl, rfl, rfl⟩ := hX
  intro H locs ls hR hS hL
  exact lv_lstore hx hb hd hL.has hn rfl (fun ls' h' => k H locs ls' hR hS (hL.p2 h'))
theorem z_astore_n (hX : z_is X l me rm) {j0 : Fin 4} (j : Nat) {x : Nat} (hj : (j0 : Nat) = j) (hn : j < me.2.2.1) (hd : decode me.2.1 pc = .ok (.astore_n j0, 1)) (k : z_W X (pc + 1) (z_p1 (.ref x) j lv) st P nx u v) : z_W X pc lv (.ref x :: st) P nx u v := by
  obtain ⟨p, l, e, R, s, m, args, below, meth, c, cc, nL, own, D, cy, b, B, Q⟩ := X
  obtain ⟨yn, yc, yL, yr⟩ := me
  obtain ⟨⟨hx, hb, hml, hown, hts, hK, hB⟩, rfl, rfl, rfl, rfl, rfl⟩ := hX
  intro H locs ls hR hS hL
  exact lv_astore_n hx hb hd hj hL.has hn rfl (fun ls' h' => k H locs ls' hR hS (hL.p1 h'))
theorem z_astore (hX : z_is X l me rm) {j : Nat} {x : Nat} (hn : j < me.2.2.1) (hd : decode me.2.1 pc = .ok (.astore j, 2)) (k : z_W X (pc + 2) (z_p1 (.ref x) j lv) st P nx u v) : z_W X pc lv (.ref x :: st) P nx u v := by
  obtain ⟨p, l, e, R, s, m, args, below, meth, c, cc, nL, own, D, cy, b, B, Q⟩ := X
  obtain ⟨yn, yc, yL, yr⟩ := me
  obtain ⟨⟨hx, hb, hml, hown, hts, hK, hB⟩, rfl, rfl, rfl, rfl, rfl⟩ := hX
  intro H locs ls hR hS hL
  exact lv_astore hx hb hd hL.has hn rfl (fun ls' h' => k H locs ls' hR hS (hL.p1 h'))
theorem z_iinc (hX : z_is X l me rm) {j : Nat} {n : Int} {x : Int32} (z : Int32) (hz : Int32.ofInt n = z) (hg : z_g lv j = some (.int x)) (hn : j < me.2.2.1) (hd : decode me.2.1 pc = .ok (.iinc j n, 3)) (k : z_W X (pc + 3) (z_p1 (.int (x + z)) j lv) st P nx u v) : z_W X pc lv st P nx u v := by
  obtain ⟨p, l, e, R, s, m, args, below, meth, c, cc, nL, own, D, cy, b, B, Q⟩ := X
  obtain ⟨yn, yc, yL, yr⟩ := me
  obtain ⟨⟨hx, hb, hml, hown, hts, hK, hB⟩, rfl, rfl, rfl, rfl, rfl⟩ := hX
  intro H locs ls hR hS hL
  obtain ⟨i, hi⟩ := List.getElem?_of_mem (hL.inl hg)
  exact lv_iinc (v := x + z) hx hb hd hL.has (k := i) hi (by rw [hz]) hn rfl (fun ls' h' => k H locs ls' hR hS (hL.p1 h'))
theorem z_dup (hX : z_is X l me rm) {w : Value} (hw : w.category = 1) (hd : decode me.2.1 pc = .ok (.dup, 1)) (k : z_W X (pc + 1) lv (w :: w :: st) P nx u v) : z_W X pc lv (w :: st) P nx u v := by
  obtain ⟨p, l, e, R, s, m, args, below, meth, c, cc, nL, own, D, cy, b, B, Q⟩ := X
  obtain ⟨yn, yc, yL, yr⟩ := me
  obtain ⟨⟨hx, hb, hml, hown, hts, hK, hB⟩, rfl, rfl, rfl, rfl, rfl⟩ := hX
  intro H locs ls hR hS hL
  exact lv_dup hx hb hd (by rw [z_V_cat]; exact hw) (k H locs ls hR hS hL)
theorem z_pop (hX : z_is X l me rm) {w : Value} (hw : w.category = 1) (hd : decode me.2.1 pc = .ok (.pop, 1)) (k : z_W X (pc + 1) lv st P nx u v) : z_W X pc lv (w :: st) P nx u v := by
  obtain ⟨p, l, e, R, s, m, args, below, meth, c, cc, nL, own, D, cy, b, B, Q⟩ := X
  obtain ⟨yn, yc, yL, yr⟩ := me
  obtain ⟨⟨hx, hb, hml, hown, hts, hK, hB⟩, rfl, rfl, rfl, rfl, rfl⟩ := hX
  intro H locs ls hR hS hL
  exact lv_pop hx hb hd (by rw [z_V_cat]; exact hw) (k H locs ls hR hS hL)
theorem z_dup2 (hX : z_is X l me rm) {w w2 : Value} (hw : w.category = 1) (hw2 : w2.category = 1) (hd : decode me.2.1 pc = .ok (.dup2, 1)) (k : z_W X (pc + 1) lv (w :: w2 :: w :: w2 :: st) P nx u v) : z_W X pc lv (w :: w2 :: st) P nx u v := by
  obtain ⟨p, l, e, R, s, m, args, below, meth, c, cc, nL, own, D, cy, b, B, Q⟩ := X
  obtain ⟨yn, yc, yL, yr⟩ := me
  obtain ⟨⟨hx, hb, hml, hown, hts, hK, hB⟩, rfl, rfl, rfl, rfl, rfl⟩ := hX
  intro H locs ls hR hS hL
  exact lv_dup2_11 hx hb hd (by rw [z_V_cat]; exact hw) (by rw [z_V_cat]; exact hw2) (k H locs ls hR hS hL)
theorem z_if_eq (hX : z_is X l me rm) {x : Int32} {off : Int} (tgt : Nat) (hd : decode me.2.1 pc = .ok (.ifCond .eq off, 3)) (ht : (pc : Int) + off = (tgt : Int)) (kt : x = 0 → z_W X tgt lv st P nx u v) (kf : ¬ x = 0 → z_W X (pc + 3) lv st P nx u v) : z_W X pc lv (.int x :: st) P nx u v := by
  obtain ⟨p, l, e, R, s, m, args, below, meth, c, cc, nL, own, D, cy, b, B, Q⟩ := X
  obtain ⟨yn, yc, yL, yr⟩ := me
  obtain ⟨⟨hx, hb, hml, hown, hts, hK, hB⟩, rfl, rfl, rfl, rfl, rfl⟩ := hX
  intro H locs ls hR hS hL
  exact lv_if_eq hx hb hd ht (fun q => kt q H locs ls hR hS hL) (fun q => kf q H locs ls hR hS hL)
theorem z_icmp_eq (hX : z_is X l me rm) {x y : Int32} {off : Int} (tgt : Nat) (hd : decode me.2.1 pc = .ok (.if_icmp .eq off, 3)) (ht : (pc : Int) + off = (tgt : Int)) (kt : x = y → z_W X tgt lv st P nx u v) (kf : ¬ x = y → z_W X (pc + 3) lv st P nx u v) : z_W X pc lv (.int y :: .int x :: st) P nx u v := by
  obtain ⟨p, l, e, R, s, m, args, below, meth, c, cc, nL, own, D, cy, b, B, Q⟩ := X
  obtain ⟨yn, yc, yL, yr⟩ := me
  obtain ⟨⟨hx, hb, hml, hown, hts, hK, hB⟩, rfl, rfl, rfl, rfl, rfl⟩ := hX
  intro H locs ls hR hS hL
  exact lv_icmp_eq hx hb hd ht (fun q => kt q H locs ls hR hS hL) (fun q => kf q H locs ls hR hS hL)
theorem z_if_ne (hX : z_is X l me rm) {x : Int32} {off : Int} (tgt : Nat) (hd : decode me.2.1 pc = .ok (.ifCond .ne off, 3)) (ht : (pc : Int) + off = (tgt : Int)) (kt : ¬ x = 0 → z_W X tgt lv st P nx u v) (kf : x = 0 → z_W X (pc + 3) lv st P nx u v) : z_W X pc lv (.int x :: st) P nx u v := by
  obtain ⟨p, l, e, R, s, m, args, below, meth, c, cc, nL, own, D, cy, b, B, Q⟩ := X
  obtain ⟨yn, yc, yL, yr⟩ := me
  obtain ⟨⟨hx, hb, hml, hown, hts, hK, hB⟩, rfl, rfl, rfl, rfl, rfl⟩ := hX
  intro H locs ls hR hS hL
  exact lv_if_ne hx hb hd ht (fun q => kt q H locs ls hR hS hL) (fun q => kf q H locs ls hR hS hL)
theorem z_icmp_ne (hX : z_is X l me rm) {x y : Int32} {off : Int} (tgt : Nat) (hd : decode me.2.1 pc = .ok (.if_icmp .ne off, 3)) (ht : (pc : Int) + off = (tgt : Int)) (kt : ¬ x = y → z_W X tgt lv st P nx u v) (kf : x = y → z_W X (pc + 3) lv st P nx u v) : z_W X pc lv (.int y :: .int x :: st) P nx u v := by
  obtain ⟨p, l, e, R, s, m, args, below, meth, c, cc, nL, own, D, cy, b, B, Q⟩ := X
  obtain ⟨yn, yc, yL, yr⟩ := me
  obtain ⟨⟨hx, hb, hml, hown, hts, hK, hB⟩, rfl, rfl, rfl, rfl, rfl⟩ := hX
  intro H locs ls hR hS hL
  exact lv_icmp_ne hx hb hd ht (fun q => kt q H locs ls hR hS hL) (fun q => kf q H locs ls hR hS hL)
theorem z_if_lt (hX : z_is X l me rm) {x : Int32} {off : Int} (tgt : Nat) (hd : decode me.2.1 pc = .ok (.ifCond .lt off, 3)) (ht : (pc : Int) + off = (tgt : Int)) (kt : x < 0 → z_W X tgt lv st P nx u v) (kf : ¬ x < 0 → z_W X (pc + 3) lv st P nx u v) : z_W X pc lv (.int x :: st) P nx u v := by
  obtain ⟨p, l, e, R, s, m, args, below, meth, c, cc, nL, own, D, cy, b, B, Q⟩ := X
  obtain ⟨yn, yc, yL, yr⟩ := me
  obtain ⟨⟨hx, hb, hml, hown, hts, hK, hB⟩, rfl, rfl, rfl, rfl, rfl⟩ := hX
  intro H locs ls hR hS hL
  exact lv_if_lt hx hb hd ht (fun q => kt q H locs ls hR hS hL) (fun q => kf q H locs ls hR hS hL)
theorem z_icmp_lt (hX : z_is X l me rm) {x y : Int32} {off : Int} (tgt : Nat) (hd : decode me.2.1 pc = .ok (.if_icmp .lt off, 3)) (ht : (pc : Int) + off = (tgt : Int)) (kt : x < y → z_W X tgt lv st P nx u v) (kf : ¬ x < y → z_W X (pc + 3) lv st P nx u v) : z_W X pc lv (.int y :: .int x :: st) P nx u v := by
  obtain ⟨p, l, e, R, s, m, args, below, meth, c, cc, nL, own, D, cy, b, B, Q⟩ := X
  obtain ⟨yn, yc, yL, yr⟩ := me
  obtain ⟨⟨hx, hb, hml, hown, hts, hK, hB⟩, rfl, rfl, rfl, rfl, rfl⟩ := hX
  intro H locs ls hR hS hL
  exact lv_icmp_lt hx hb hd ht (fun q => kt q H locs ls hR hS hL) (fun q => kf q H locs ls hR hS hL)
theorem z_if_ge (hX : z_is X l me rm) {x : Int32} {off : Int} (tgt : Nat) (hd : decode me.2.1 pc = .ok (.ifCond .ge off, 3)) (ht : (pc : Int) + off = (tgt : Int)) (kt : 0 ≤ x → z_W X tgt lv st P nx u v) (kf : ¬ 0 ≤ x → z_W X (pc + 3) lv st P nx u v) : z_W X pc lv (.int x :: st) P nx u v := by
  obtain ⟨p, l, e, R, s, m, args, below, meth, c, cc, nL, own, D, cy, b, B, Q⟩ := X
  obtain ⟨yn, yc, yL, yr⟩ := me
  obtain ⟨⟨hx, hb, hml, hown, hts, hK, hB⟩, rfl, rfl, rfl, rfl, rfl⟩ := hX
  intro H locs ls hR hS hL
  exact lv_if_ge hx hb hd ht (fun q => kt q H locs ls hR hS hL) (fun q => kf q H locs ls hR hS hL)
theorem z_icmp_ge (hX : z_is X l me rm) {x y : Int32} {off : Int} (tgt : Nat) (hd : decode me.2.1 pc = .ok (.if_icmp .ge off, 3)) (ht : (pc : Int) + off = (tgt : Int)) (kt : y ≤ x → z_W X tgt lv st P nx u v) (kf : ¬ y ≤ x → z_W X (pc + 3) lv st P nx u v) : z_W X pc lv (.int y :: .int x :: st) P nx u v := by
  obtain ⟨p, l, e, R, s, m, args, below, meth, c, cc, nL, own, D, cy, b, B, Q⟩ := X
  obtain ⟨yn, yc, yL, yr⟩ := me
  obtain ⟨⟨hx, hb, hml, hown, hts, hK, hB⟩, rfl, rfl, rfl, rfl, rfl⟩ := hX
  intro H locs ls hR hS hL
  exact lv_icmp_ge hx hb hd ht (fun q => kt q H locs ls hR hS hL) (fun q => kf q H locs ls hR hS hL)
theorem z_if_gt (hX : z_is X l me rm) {x : Int32} {off : Int} (tgt : Nat) (hd : decode me.2.1 pc = .ok (.ifCond .gt off, 3)) (ht : (pc : Int) + off = (tgt : Int)) (kt : 0 < x → z_W X tgt lv st P nx u v) (kf : ¬ 0 < x → z_W X (pc + 3) lv st P nx u v) : z_W X pc lv (.int x :: st) P nx u v := by
  obtain ⟨p, l, e, R, s, m, args, below, meth, c, cc, nL, own, D, cy, b, B, Q⟩ := X
  obtain ⟨yn, yc, yL, yr⟩ := me
  obtain ⟨⟨hx, hb, hml, hown, hts, hK, hB⟩, rfl, rfl, rfl, rfl, rfl⟩ := hX
  intro H locs ls hR hS hL
  exact lv_if_gt hx hb hd ht (fun q => kt q H locs ls hR hS hL) (fun q => kf q H locs ls hR hS hL)
theorem z_icmp_gt (hX : z_is X l me rm) {x y : Int32} {off : Int} (tgt : Nat) (hd : decode me.2.1 pc = .ok (.if_icmp .gt off, 3)) (ht : (pc : Int) + off = (tgt : Int)) (kt : y < x → z_W X tgt lv st P nx u v) (kf : ¬ y < x → z_W X (pc + 3) lv st P nx u v) : z_W X pc lv (.int y :: .int x :: st) P nx u v := by
  obtain ⟨p, l, e, R, s, m, args, below, meth, c, cc, nL, own, D, cy, b, B, Q⟩ := X
  obtain ⟨yn, yc, yL, yr⟩ := me
  obtain ⟨⟨hx, hb, hml, hown, hts, hK, hB⟩, rfl, rfl, rfl, rfl, rfl⟩ := hX
  intro H locs ls hR hS hL
  exact lv_icmp_gt hx hb hd ht (fun q => kt q H locs ls hR hS hL) (fun q => kf q H locs ls hR hS hL)
theorem z_if_le (hX : z_is X l me rm) {x : Int32} {off : Int} (tgt : Nat) (hd : decode me.2.1 pc = .ok (.ifCond .le off, 3)) (ht : (pc : Int) + off = (tgt : Int)) (kt : x ≤ 0 → z_W X tgt lv st P nx u v) (kf : ¬ x ≤ 0 → z_W X (pc + 3) lv st P nx u v) : z_W X pc lv (.int x :: st) P nx u v := by
  obtain ⟨p, l, e, R, s, m, args, below, meth, c, cc, nL, own, D, cy, b, B, Q⟩ := X
  obtain ⟨yn, yc, yL, yr⟩ := me
  obtain ⟨⟨hx, hb, hml, hown, hts, hK, hB⟩, rfl, rfl, rfl, rfl, rfl⟩ := hX
  intro H locs ls hR hS hL
  exact lv_if_le hx hb hd ht (fun q => kt q H locs ls hR hS hL) (fun q => kf q H locs ls hR hS hL)
theorem z_icmp_le (hX : z_is X l me rm) {x y : Int32} {off : Int} (tgt : Nat) (hd : decode me.2.1 pc = .ok (.if_icmp .le off, 3)) (ht : (pc : Int) + off = (tgt : Int)) (kt : x ≤ y → z_W X tgt lv st P nx u v) (kf : ¬ x ≤ y → z_W X (pc + 3) lv st P nx u v) : z_W X pc lv (.int y :: .int x :: st) P nx u v := by
  obtain ⟨p, l, e, R, s, m, args, below, meth, c, cc, nL, own, D, cy, b, B, Q⟩ := X
  obtain ⟨yn, yc, yL, yr⟩ := me
  obtain ⟨⟨hx, hb, hml, hown, hts, hK, hB⟩, rfl, rfl, rfl, rfl, rfl⟩ := hX
  intro H locs ls hR hS hL
  exact lv_icmp_le hx hb hd ht (fun q => kt q H locs ls hR hS hL) (fun q => kf q H locs ls hR hS hL)
theorem z_goto (hX : z_is X l me rm) {off : Int} (tgt : Nat) (hd : decode me.2.1 pc = .ok (.goto off, 3)) (ht : (pc : Int) + off = (tgt : Int)) (k : z_W X tgt lv st P nx u v) : z_W X pc lv st P nx u v := by
  obtain ⟨p, l, e, R, s, m, args, below, meth, c, cc, nL, own, D, cy, b, B, Q⟩ := X
  obtain ⟨yn, yc, yL, yr⟩ := me
  obtain ⟨⟨hx, hb, hml, hown, hts, hK, hB⟩, rfl, rfl, rfl, rfl, rfl⟩ := hX
  intro H locs ls hR hS hL
  exact lv_goto hx hb hd ht (k H locs ls hR hS hL)
theorem z_ifnull (hX : z_is X l me rm) {off : Int} {a : Nat} (hd : decode me.2.1 pc = .ok (.ifnull off, 3)) (k : z_W X (pc + 3) lv st P nx u v) : z_W X pc lv (.ref a :: st) P nx u v := by
  obtain ⟨p, l, e, R, s, m, args, below, meth, c, cc, nL, own, D, cy, b, B, Q⟩ := X
  obtain ⟨yn, yc, yL, yr⟩ := me
  obtain ⟨⟨hx, hb, hml, hown, hts, hK, hB⟩, rfl, rfl, rfl, rfl, rfl⟩ := hX
  intro H locs ls hR hS hL
  exact lv_ifnull hx hb hd (k H locs ls hR hS hL)
theorem z_ifnullN (hX : z_is X l me rm) {off : Int} (tgt : Nat) (hd : decode me.2.1 pc = .ok (.ifnull off, 3)) (ht : (pc : Int) + off = (tgt : Int)) (k : z_W X tgt lv st P nx u v) : z_W X pc lv (.null :: st) P nx u v := by
  obtain ⟨p, l, e, R, s, m, args, below, meth, c, cc, nL, own, D, cy, b, B, Q⟩ := X
  obtain ⟨yn, yc, yL, yr⟩ := me
  obtain ⟨⟨hx, hb, hml, hown, hts, hK, hB⟩, rfl, rfl, rfl, rfl, rfl⟩ := hX
  intro H locs ls hR hS hL
  exact lv_ifnullN hx hb hd ht (k H locs ls hR hS hL)
theorem z_ifnonnull (hX : z_is X l me rm) {off : Int} {a : Nat} (tgt : Nat) (hd : decode me.2.1 pc = .ok (.ifnonnull off, 3)) (ht : (pc : Int) + off = (tgt : Int)) (k : z_W X tgt lv st P nx u v) : z_W X pc lv (.ref a :: st) P nx u v := by
  obtain ⟨p, l, e, R, s, m, args, below, meth, c, cc, nL, own, D, cy, b, B, Q⟩ := X
  obtain ⟨yn, yc, yL, yr⟩ := me
  obtain ⟨⟨hx, hb, hml, hown, hts, hK, hB⟩, rfl, rfl, rfl, rfl, rfl⟩ := hX
  intro H locs ls hR hS hL
  exact lv_ifnonnull hx hb hd ht (k H locs ls hR hS hL)
theorem z_ifnonnullN (hX : z_is X l me rm) {off : Int} (hd : decode me.2.1 pc = .ok (.ifnonnull off, 3)) (k : z_W X (pc + 3) lv st P nx u v) : z_W X pc lv (.null :: st) P nx u v := by
  obtain ⟨p, l, e, R, s, m, args, below, meth, c, cc, nL, own, D, cy, b, B, Q⟩ := X
  obtain ⟨yn, yc, yL, yr⟩ := me
  obtain ⟨⟨hx, hb, hml, hown, hts, hK, hB⟩, rfl, rfl, rfl, rfl, rfl⟩ := hX
  intro H locs ls hR hS hL
  exact lv_ifnonnullN hx hb hd (k H locs ls hR hS hL)
theorem z_tabIn (hX : z_is X l me rm) {dflt lo hi : Int} {offs : Array Int} {len : Nat} {x : Int32} {off : Int} (tgt : Nat) (hd : decode me.2.1 pc = .ok (.tableswitch dflt lo hi offs, len)) (h1 : ¬ x.toInt < lo) (h2 : ¬ hi < x.toInt) (ho : offs[(x.toInt - lo).toNat]? = some off) (ht : (pc : Int) + off = (tgt : Int)) (k : z_W X tgt lv st P nx u v) : z_W X pc lv (.int x :: st) P nx u v := by
  obtain ⟨p, l, e, R, s, m, args, below, meth, c, cc, nL, own, D, cy, b, B, Q⟩ := X
  obtain ⟨yn, yc, yL, yr⟩ := me
  obtain ⟨⟨hx, hb, hml, hown, hts, hK, hB⟩, rfl, rfl, rfl, rfl, rfl⟩ := hX
  intro H locs ls hR hS hL
  exact lv_tableIn hx hb hd h1 h2 ho ht (k H locs ls hR hS hL)
theorem z_tabOut (hX : z_is X l me rm) {dflt lo hi : Int} {offs : Array Int} {len : Nat} {x : Int32} (tgt : Nat) (hd : decode me.2.1 pc = .ok (.tableswitch dflt lo hi offs, len)) (h : x.toInt < lo ∨ hi < x.toInt) (ht : (pc : Int) + dflt = (tgt : Int)) (k : z_W X tgt lv st P nx u v) : z_W X pc lv (.int x :: st) P nx u v := by
  obtain ⟨p, l, e, R, s, m, args, below, meth, c, cc, nL, own, D, cy, b, B, Q⟩ := X
  obtain ⟨yn, yc, yL, yr⟩ := me
  obtain ⟨⟨hx, hb, hml, hown, hts, hK, hB⟩, rfl, rfl, rfl, rfl, rfl⟩ := hX
  intro H locs ls hR hS hL
  exact lv_tableOut hx hb hd h ht (k H locs ls hR hS hL)
end ZR
end
section
/-! memory: fields, arrays, new -/
theorem z_one {D : va_G} {cl : List vw_C} {q : Nat × va_E} {H : Heap} (h : va_at D cl q H) : va_P D cl [q] H := fun k x hx => by
  have h0 : k < 1 := (List.getElem?_eq_some_iff.mp hx).1
  rw [show k = 0 by omega] at hx
  cases hx
  exact h
theorem z_R.at {D : va_G} {cy : Nat → ClassId} {b B nx a : Nat} {P : z_H} {H : Heap} {c : z_C} (hR : z_R D cy b B P nx H) (hP : P a = some c) : va_at D z_cl (z_ad b B a, z_E cy b B c) H ∧ B ≤ z_ad b B a := by
  cases a with
  | zero => rw [hR.2.2.1] at hP; cases hP
  | succ k => exact ⟨hR.2.2.2 k c hP, Nat.le_add_right B k⟩
theorem z_R.set {D : va_G} {cy : Nat → ClassId} {b B nx a : Nat} {P : z_H} {H H1 : Heap} {c c' : z_C} (hR : z_R D cy b B P nx H) (hP : P a = some c) (z : H1.size = H.size) (he : va_at D z_cl (z_ad b B a, z_E cy b B c') H1) (oq : ∀ q : Nat, q ≠ z_ad b B a → H1[q]? = H[q]?) : z_R D cy b B (z_up P a c') nx H1 := by
  cases a with
  | zero => rw [hR.2.2.1] at hP; cases hP
  | succ k =>
    refine ⟨by rw [z]; exact hR.1, hR.2.1, by rw [z_up_n (by omega)]; exact hR.2.2.1, fun j d hd => ?_⟩
    by_cases hj : j = k
    · subst hj
      rw [z_up_s] at hd
      cases hd
      exact he
    · rw [z_up_n (by omega)] at hd
      exact (hR.2.2.2 j d hd).kept (oq _ (by show B + j ≠ B + k; omega))
theorem z_R.push {D : va_G} {cy : Nat → ClassId} {b B nx : Nat} {P : z_H} {H H1 : Heap} {c : z_C} (hR : z_R D cy b B P nx H) (z : H1.size = H.size + 1) (he : va_at D z_cl (H.size, z_E cy b B c) H1) (oq : ∀ q : Nat, q < H.size → H1[q]? = H[q]?) : z_R D cy b B (z_up P nx c) (nx + 1) H1 ∧ z_ad b B nx = H.size := by
  obtain ⟨h1, h2, h3, h4⟩ := hR
  cases nx with
  | zero => omega
  | succ n =>
    have e : H.size = B + n := by omega
    refine ⟨⟨by omega, by omega, by rw [z_up_n (by omega)]; exact h3, fun j d hd => ?_⟩, e.symm⟩
    by_cases hj : j = n
    · subst hj
      rw [z_up_s] at hd
      cases hd
      rw [e] at he
      exact he
    · rw [z_up_n (by omega)] at hd
      exact (h4 j d hd).kept (oq _ ((h4 j d hd).lt))
theorem z_S.grow {A : Nat → Prop} {H0 H H1 : Heap} {locs : List Loc} (hS : va_S A H0 H locs) (z : H.size ≤ H1.size) (oq : ∀ q : Nat, q < H.size → H1[q]? = H[q]?) : va_S A H0 H1 locs := ⟨Nat.le_trans hS.1 z, fun q h1 h2 => (oq q (Nat.lt_of_lt_of_le h1 hS.1)).trans (hS.2.1 q h1 h2), hS.2.2⟩
/-- a field's link: constant pool entry idx of class own is field k of class ci -/
def z_Fl (own : String) (idx ci k : Nat) : Prop := ∃ r : vw_C, z_cl[ci]? = some r ∧ k < r.2.2 ∧ (Cond.fieldLink own idx (r.2.1 k).1 (r.2.1 k).2.1 (r.2.1 k).2.2.1 ∈ z_T ∨ ∃ host, Cond.fieldLinkNest own idx (r.2.1 k).1 (r.2.1 k).2.1 (r.2.1 k).2.2.1 host ∈ z_N)
def z_fin (ci k : Nat) : Bool := match z_cl[ci]? with
  | some r => (r.2.1 k).2.2.2
  | none => true
def z_ini : z_X → Prop := fun (p, l, e, R, s, m, args, below, meth, c, cc, nL, own, D, cy, b, B, Q) => meth.name = "<init>"
theorem z_fitr {ty : FieldType} (h : ty.isReference = true) (a : Nat) : narrow ty (.ref a) = .ref a ∧ fits ty (.ref a) = true := by
  cases ty <;> first | (cases h; done) | exact ⟨rfl, rfl⟩
section ZM
variable {X : z_X} {l : Launch} {me : z_M} {rm : Room} {pc nx u v : Nat} {lv : List (Option Value)} {st : List Value} {P : z_H}
theorem z_get (hX : z_is X l me rm) {idx ci k a : Nat} {fs : List Value} {w : Value} (hf : z_Fl me.1.cls idx ci k) (hP : P a = some (.inr (ci, fs))) (hv : fs[k]? = some w) (hd : decode me.2.1 pc = .ok (.getfield idx, 3)) (kk : z_W X (pc + 3) lv (w :: st) P nx u v) : z_W X pc lv (.ref a :: st) P nx u v := by
  obtain ⟨p, l, e, R, s, m, args, below, meth, c, cc, nL, own, D, cy, b, B, Q⟩ := X
  obtain ⟨yn, yc, yL, yr⟩ := me
  obtain ⟨⟨hx, hb, hml, hown, hts, hK, hB⟩, rfl, rfl, rfl, rfl, rfl⟩ := hX
  intro H locs ls hR hS hL
  obtain ⟨r, hc, hk, hl⟩ := hf
  obtain ⟨hat, -⟩ := hR.at hP
  have hv' : (fs.map (z_V b B))[k]? = some (z_V b B w) := by rw [List.getElem?_map, hv]; rfl
  rcases hl with hl | ⟨host, hl⟩
  · exact va_get hx hb hts (z_wT ci r hc) hown hK.1 (z_one hat) 0 rfl hc k hk (hts _ hl) (fun _ h => h) hv' hd (kk H locs ls hR hS hL)
  · exact va_getN hx hb hts (z_wT ci r hc) hown hK.1 (z_one hat) 0 rfl hc k hk (va_Nw.use rfl (hK.2.2.2 _ hl)) (fun _ h => h) hv' hd (kk H locs ls hR hS hL)
theorem z_put0 (hX : z_is X l me rm) {idx ci k a : Nat} {fs : List Value} {w : Value} (hf : z_Fl me.1.cls idx ci k) (hfin : z_fin ci k = false) (hw : ∀ b B, narrow (z_ty ci k) (z_V b B w) = z_V b B w ∧ fits (z_ty ci k) (z_V b B w) = true) (hP : P a = some (.inr (ci, fs))) (hl : k < fs.length) (hd : decode me.2.1 pc = .ok (.putfield idx, 3)) (kk : z_W X (pc + 3) lv st (z_up P a (.inr (ci, fs.set k w))) nx u v) : z_W X pc lv (w :: .ref a :: st) P nx u v := by
  obtain ⟨p, l, e, R, s, m, args, below, meth, c, cc, nL, own, D, cy, b, B, Q⟩ := X
  obtain ⟨yn, yc, yL, yr⟩ := me
  obtain ⟨⟨hx, hb, hml, hown, hts, hK, hB⟩, rfl, rfl, rfl, rfl, rfl⟩ := hX
  intro H locs ls hR hS hL
  obtain ⟨r, hc, hk, hlk⟩ := hf
  have hfin' : (r.2.1 k).2.2.2 = false := by unfold z_fin at hfin; rw [hc] at hfin; exact hfin
  obtain ⟨hat, hBa⟩ := hR.at hP
  have hin := z_wT ci r hc
  have hap := va_apart (own := yn.cls) hts hin (z_ty ci) (z_tyT ci r hc) (z_nT ci r hc) hK.1 hc
  obtain ⟨r', h1, cell, q1, q2, q3, q4⟩ := hat
  have hr : r' = r := Option.some.inj (h1.symm.trans hc)
  subst hr
  obtain ⟨hS', hfc, kC, hkC, hkind⟩ := hK.1.1 ci _ hc
  obtain ⟨cf, kf, fi, f, hi, hsl⟩ := hS' k hk
  have hlay := hts _ (hin _ (u_in_lay hk))
  unfold u_lay at hlay
  rw [if_neg (by rw [hfin']; decide)] at hlay
  have hst := (u_facts hfc hkC (u_lays hts hin hk) hi).1
  have h6 := u_store hfc hkC hkind hlay hi (z_tyT ci _ hc k hk) (hw b B).1 (hw b B).2
  have hl' : k < (fs.map (z_V b B)).length := by rw [List.length_map]; exact hl
  have fin : ∀ H' : Heap, H'[z_ad b B a]? = some (cell.setSlot (D.2 ci k) (z_V b B w)) → H'.size = H.size → (∀ q, q ≠ z_ad b B a → H'[q]? = H[q]?) → z_R D cy b B (z_up P a (.inr (ci, fs.set k w))) nx H' := fun H' e1 e2 e3 => by
    refine hR.set hP e2 ?_ e3
    show va_at D z_cl (z_ad b B a, .inr (ci, (fs.set k w).map (z_V b B))) H'
    rw [List.map_set]
    exact ⟨_, hc, t_OB.to (V := updV (vp_V (fs.map (z_V b B))) k (z_V b B w)) ⟨_, e1, q2, q3, t_set q4 hap hk _⟩ (fun j _ => vp_updV_set hl' _ j)⟩
  rcases hlk with hlk | ⟨host, hlk⟩
  · refine W.putK hx hb (f := f) ⟨hown, hts _ hlk, ⟨_, _, _, hi⟩, hst⟩ (by rw [q2]; exact h6) q1 q3 (by rw [hsl]; exact k2_hasslot (q4 k hk)) rfl rfl hd fun H' e1 e2 e3 => ?_
    rw [hsl] at e1 ⊢
    exact kk H' _ ls (fin H' e1 e2 e3) (hS.put e2 e3 hBa) hL
  · refine va_WputK hx hb (f := f) hown (va_Nw.use rfl (hK.2.2.2 _ hlk)) hi hst (by rw [q2]; exact h6) q1 q3 (by rw [hsl]; exact k2_hasslot (q4 k hk)) rfl rfl hd fun H' e1 e2 e3 => ?_
    rw [hsl] at e1 ⊢
    exact kk H' _ ls (fin H' e1 e2 e3) (hS.put e2 e3 hBa) hL
theorem z_puti (hX : z_is X l me rm) {idx ci k a : Nat} {fs : List Value} {x : Int32} (hf : z_Fl me.1.cls idx ci k) (hfin : z_fin ci k = false) (ht : z_ty ci k = .int) (hP : P a = some (.inr (ci, fs))) (hl : k < fs.length) (hd : decode me.2.1 pc = .ok (.putfield idx, 3)) (kk : z_W X (pc + 3) lv st (z_up P a (.inr (ci, fs.set k (.int x)))) nx u v) : z_W X pc lv (.int x :: .ref a :: st) P nx u v :=
  z_put0 hX hf hfin (fun b B => by rw [ht]; exact ⟨rfl, rfl⟩) hP hl hd kk
theorem z_putr (hX : z_is X l me rm) {idx ci k a d : Nat} {fs : List Value} (hf : z_Fl me.1.cls idx ci k) (hfin : z_fin ci k = false) (ht : (z_ty ci k).isReference = true) (hP : P a = some (.inr (ci, fs))) (hl : k < fs.length) (hd : decode me.2.1 pc = .ok (.putfield idx, 3)) (kk : z_W X (pc + 3) lv st (z_up P a (.inr (ci, fs.set k (.ref d)))) nx u v) : z_W X pc lv (.ref d :: .ref a :: st) P nx u v :=
  z_put0 hX hf hfin (fun b B => z_fitr ht _) hP hl hd kk
/-- a final field, in a constructor of its own class -/
theorem z_putF (hX : z_is X l me rm) (hin2 : z_ini X) {idx ci k a : Nat} {r : vw_C} {fs : List Value} {w : Value} (hc : z_cl[ci]? = some r) (hk : k < r.2.2) (hlk : Cond.fieldLink me.1.cls idx (r.2.1 k).1 (r.2.1 k).2.1 (r.2.1 k).2.2.1 ∈ z_T) (hfin : (r.2.1 k).2.2.2 = true) (hdecl : (r.2.1 k).1 = me.1.cls) (hw : ∀ b B, narrow (z_ty ci k) (z_V b B w) = z_V b B w ∧ fits (z_ty ci k) (z_V b B w) = true) (hP : P a = some (.inr (ci, fs))) (hl : k < fs.length) (hd : decode me.2.1 pc = .ok (.putfield idx, 3)) (kk : z_W X (pc + 3) lv st (z_up P a (.inr (ci, fs.set k w))) nx u v) : z_W X pc lv (w :: .ref a :: st) P nx u v := by
  obtain ⟨p, l, e, R, s, m, args, below, meth, c, cc, nL, own, D, cy, b, B, Q⟩ := X
  obtain ⟨yn, yc, yL, yr⟩ := me
  obtain ⟨⟨hx, hb, hml, hown, hts, hK, hB⟩, rfl, rfl, rfl, rfl, rfl⟩ := hX
  intro H locs ls hR hS hL
  obtain ⟨hat, hBa⟩ := hR.at hP
  have hin := z_wT ci r hc
  have hap := va_apart (own := yn.cls) hts hin (z_ty ci) (z_tyT ci r hc) (z_nT ci r hc) hK.1 hc
  obtain ⟨r', h1, cell, q1, q2, q3, q4⟩ := hat
  have hr : r' = r := Option.some.inj (h1.symm.trans hc)
  subst hr
  obtain ⟨hS', hfc, kC, hkC, hkind⟩ := hK.1.1 ci _ hc
  obtain ⟨cf, kf, fi, f, hi, hsl⟩ := hS' k hk
  have hlay := hts _ (hin _ (u_in_lay hk))
  unfold u_lay at hlay
  rw [if_pos hfin] at hlay
  have hst := (u_facts hfc hkC (u_lays hts hin hk) hi).1
  have hcf : m.cls = cf := by
    obtain ⟨_, _, c', _, _, _, -, -, hf', -, -, -, hown2, -⟩ := Cond.laysFinal_spec hlay
    have e1 : c' = cf := by have := hi.symm.trans hf'; simp at this; exact this.1.symm
    rw [hdecl] at hown2
    rw [← e1]; exact Option.some.inj (hown.symm.trans hown2)
  have h6 := u_fits hfc hkC hkind (Or.inr hlay) hi (z_tyT ci _ hc k hk) (hw b B).1 (hw b B).2
  have hl' : k < (fs.map (z_V b B)).length := by rw [List.length_map]; exact hl
  refine W.putFinK hx hb hown (hts _ hlk) hi hst hcf hin2 (by rw [q2]; exact h6) q1 q3 (by rw [hsl]; exact k2_hasslot (q4 k hk)) rfl rfl hd fun H' e1 e2 e3 => ?_
  rw [hsl] at e1 ⊢
  refine kk H' _ ls (hR.set hP e2 ?_ e3) (hS.put e2 e3 hBa) hL
  show va_at D z_cl (z_ad b B a, .inr (ci, (fs.set k w).map (z_V b B))) H'
  rw [List.map_set]
  exact ⟨_, hc, t_OB.to (V := updV (vp_V (fs.map (z_V b B))) k (z_V b B w)) ⟨_, e1, q2, q3, t_set q4 hap hk _⟩ (fun j _ => vp_updV_set hl' _ j)⟩
theorem z_iald (hX : z_is X l me rm) {a n : Nat} {f : Nat → Int32} {i : Int32} (hP : P a = some (.inl (0, n, .inl f))) (hin : vp_in i n) (hd : decode me.2.1 pc = .ok (.iaload, 1)) (kk : z_W X (pc + 1) lv (.int (f i.toNatClampNeg) :: st) P nx u v) : z_W X pc lv (.int i :: .ref a :: st) P nx u v := by
  obtain ⟨p, l, e, R, s, m, args, below, meth, c, cc, nL, own, D, cy, b, B, Q⟩ := X
  obtain ⟨yn, yc, yL, yr⟩ := me
  obtain ⟨⟨hx, hb, hml, hown, hts, hK, hB⟩, rfl, rfl, rfl, rfl, rfl⟩ := hX
  intro H locs ls hR hS hL
  exact va_iald hx hb hK.1 (z_one (hR.at hP).1) 0 0 rfl rfl hin hd (kk H locs ls hR hS hL)
theorem z_lald (hX : z_is X l me rm) {a n : Nat} {f : Nat → Int64} {i : Int32} (hP : P a = some (.inl (1, n, .inr (.inl f)))) (hin : vp_in i n) (hd : decode me.2.1 pc = .ok (.laload, 1)) (kk : z_W X (pc + 1) lv (.long (f i.toNatClampNeg) :: st) P nx u v) : z_W X pc lv (.int i :: .ref a :: st) P nx u v := by
  obtain ⟨p, l, e, R, s, m, args, below, meth, c, cc, nL, own, D, cy, b, B, Q⟩ := X
  obtain ⟨yn, yc, yL, yr⟩ := me
  obtain ⟨⟨hx, hb, hml, hown, hts, hK, hB⟩, rfl, rfl, rfl, rfl, rfl⟩ := hX
  intro H locs ls hR hS hL
  exact va_lald hx hb hK.1 (z_one (hR.at hP).1) 0 1 rfl rfl hin hd (kk H locs ls hR hS hL)
theorem z_bald (hX : z_is X l me rm) {a n : Nat} {f : Nat → Int32} {i : Int32} (hP : P a = some (.inl (2, n, .inl f))) (hin : vp_in i n) (hd : decode me.2.1 pc = .ok (.baload, 1)) (kk : z_W X (pc + 1) lv (.int (f i.toNatClampNeg) :: st) P nx u v) : z_W X pc lv (.int i :: .ref a :: st) P nx u v := by
  obtain ⟨p, l, e, R, s, m, args, below, meth, c, cc, nL, own, D, cy, b, B, Q⟩ := X
  obtain ⟨yn, yc, yL, yr⟩ := me
  obtain ⟨⟨hx, hb, hml, hown, hts, hK, hB⟩, rfl, rfl, rfl, rfl, rfl⟩ := hX
  intro H locs ls hR hS hL
  exact va_bald hx hb hK.1 (z_one (hR.at hP).1) 0 2 rfl rfl hin hd (kk H locs ls hR hS hL)
theorem z_zald (hX : z_is X l me rm) {a n : Nat} {f : Nat → Int32} {i : Int32} (hP : P a = some (.inl (3, n, .inl f))) (hin : vp_in i n) (hd : decode me.2.1 pc = .ok (.baload, 1)) (kk : z_W X (pc + 1) lv (.int (f i.toNatClampNeg) :: st) P nx u v) : z_W X pc lv (.int i :: .ref a :: st) P nx u v := by
  obtain ⟨p, l, e, R, s, m, args, below, meth, c, cc, nL, own, D, cy, b, B, Q⟩ := X
  obtain ⟨yn, yc, yL, yr⟩ := me
  obtain ⟨⟨hx, hb, hml, hown, hts, hK, hB⟩, rfl, rfl, rfl, rfl, rfl⟩ := hX
  intro H locs ls hR hS hL
  exact va_zald hx hb hK.1 (z_one (hR.at hP).1) 0 3 rfl rfl hin hd (kk H locs ls hR hS hL)
/-- arrays of references: what is there is a cell -/
theorem z_aald (hX : z_is X l me rm) {a n r : Nat} {f : Nat → Option Nat} {i : Int32} (hP : P a = some (.inl (4, n, .inr (.inr (.inr (.inr f)))))) (hin : vp_in i n) (hf : f i.toNatClampNeg = some r) (hd : decode me.2.1 pc = .ok (.aaload, 1)) (kk : z_W X (pc + 1) lv (.ref r :: st) P nx u v) : z_W X pc lv (.int i :: .ref a :: st) P nx u v := by
  obtain ⟨p, l, e, R, s, m, args, below, meth, c, cc, nL, own, D, cy, b, B, Q⟩ := X
  obtain ⟨yn, yc, yL, yr⟩ := me
  obtain ⟨⟨hx, hb, hml, hown, hts, hK, hB⟩, rfl, rfl, rfl, rfl, rfl⟩ := hX
  intro H locs ls hR hS hL
  refine va_aldq hx hb hK.1 (z_one (hR.at hP).1) 0 4 rfl rfl hin hd ?_
  show W p l e R s m args below meth c H locs u v Q (F0 m (pc + 1) ls (va_rf (Option.map (z_ad b B) (f i.toNatClampNeg)) :: List.map (z_V b B) st))
  rw [hf]
  exact kk H locs ls hR hS hL
theorem z_aaldA (hX : z_is X l me rm) {a n r : Nat} {f : Nat → Option Nat} {i : Int32} (hP : P a = some (.inl (5, n, .inr (.inr (.inr (.inr f)))))) (hin : vp_in i n) (hf : f i.toNatClampNeg = some r) (hd : decode me.2.1 pc = .ok (.aaload, 1)) (kk : z_W X (pc + 1) lv (.ref r :: st) P nx u v) : z_W X pc lv (.int i :: .ref a :: st) P nx u v := by
  obtain ⟨p, l, e, R, s, m, args, below, meth, c, cc, nL, own, D, cy, b, B, Q⟩ := X
  obtain ⟨yn, yc, yL, yr⟩ := me
  obtain ⟨⟨hx, hb, hml, hown, hts, hK, hB⟩, rfl, rfl, rfl, rfl, rfl⟩ := hX
  intro H locs ls hR hS hL
  have hlt : i.toNatClampNeg < n := Nat.not_le.mp fun q => hin (Or.inr q)
  have hat : H[z_ad b B a]? = some (vp_cell (cy 5) (n, .inr (.inr (.inr (.inr (fun j => (f j).map (z_ad b B))))))) := (hR.at hP).1
  refine W.aald (v := .ref (z_ad b B r)) (ty := .array .int) hx hb hat ((hK.1.2 5 _ rfl).1 n (fun j => va_rf ((f j).map (z_ad b B)))) rfl (fun q => by cases q) (by show ¬ (i < 0 ∨ (arrV _ _ _).slots.size ≤ _); rw [arrV_size]; exact hin) (by show (arrV _ _ _).slots[_]? = _; rw [arrV_read _ _ hlt]; show some (va_rf (Option.map (z_ad b B) (f i.toNatClampNeg))) = _; rw [hf]; rfl) rfl rfl hd (kk H locs ls hR hS hL)
theorem z_iast (hX : z_is X l me rm) {a n : Nat} {f : Nat → Int32} {i x : Int32} (hP : P a = some (.inl (0, n, .inl f))) (hin : vp_in i n) (hd : decode me.2.1 pc = .ok (.iastore, 1)) (kk : z_W X (pc + 1) lv st (z_up P a (.inl (0, n, .inl (upd f i.toNatClampNeg x)))) nx u v) : z_W X pc lv (.int x :: .int i :: .ref a :: st) P nx u v := by
  obtain ⟨p, l, e, R, s, m, args, below, meth, c, cc, nL, own, D, cy, b, B, Q⟩ := X
  obtain ⟨yn, yc, yL, yr⟩ := me
  obtain ⟨⟨hx, hb, hml, hown, hts, hK, hB⟩, rfl, rfl, rfl, rfl, rfl⟩ := hX
  intro H locs ls hR hS hL
  obtain ⟨hat, hBa⟩ := hR.at hP
  refine W.iast hx hb hat ((hK.1.2 0 _ rfl).1 n (fun j => .int (f j))) (fun q => by cases q) (by show ¬ (i < 0 ∨ (arrV _ _ _).slots.size ≤ _); rw [arrV_size]; exact hin) rfl rfl hd fun H1 e z oq => ?_
  refine kk H1 _ ls (hR.set hP z ?_ oq) (hS.put z oq hBa) hL
  show H1[z_ad b B a]? = some (vp_cell (cy 0) (n, .inl _))
  rw [e]
  show some (Cell.setSlot (vp_cell (cy 0) (n, .inl f)) _ _) = _
  rw [vp_cell_i, vp_cell_i, arrV_store]
  congr 2
  funext q
  by_cases hq : q = i.toNatClampNeg
  · subst hq
    simp [updV, upd]
  · simp [updV, upd, hq]
theorem z_bast (hX : z_is X l me rm) {a n : Nat} {f : Nat → Int32} {i x : Int32} (hP : P a = some (.inl (2, n, .inl f))) (hin : vp_in i n) (hd : decode me.2.1 pc = .ok (.bastore, 1)) (kk : z_W X (pc + 1) lv st (z_up P a (.inl (2, n, .inl (upd f i.toNatClampNeg (vp_nar .byte x))))) nx u v) : z_W X pc lv (.int x :: .int i :: .ref a :: st) P nx u v := by
  obtain ⟨p, l, e, R, s, m, args, below, meth, c, cc, nL, own, D, cy, b, B, Q⟩ := X
  obtain ⟨yn, yc, yL, yr⟩ := me
  obtain ⟨⟨hx, hb, hml, hown, hts, hK, hB⟩, rfl, rfl, rfl, rfl, rfl⟩ := hX
  intro H locs ls hR hS hL
  obtain ⟨hat, hBa⟩ := hR.at hP
  refine W.bast hx hb hat ((hK.1.2 2 _ rfl).1 n (fun j => .int (f j))) (fun q => by cases q) (by show ¬ (i < 0 ∨ (arrV _ _ _).slots.size ≤ _); rw [arrV_size]; exact hin) rfl rfl hd fun H1 e z oq => ?_
  refine kk H1 _ ls (hR.set hP z ?_ oq) (hS.put z oq hBa) hL
  show H1[z_ad b B a]? = some (vp_cell (cy 2) (n, .inl _))
  rw [e]
  show some (Cell.setSlot (vp_cell (cy 2) (n, .inl f)) _ _) = _
  rw [vp_cell_i, vp_cell_i, arrV_store]
  congr 2
  funext q
  by_cases hq : q = i.toNatClampNeg
  · subst hq
    simp [updV, upd, vp_nar]
    try rfl
  · simp [updV, upd, hq]
theorem z_zast (hX : z_is X l me rm) {a n : Nat} {f : Nat → Int32} {i x : Int32} (hP : P a = some (.inl (3, n, .inl f))) (hin : vp_in i n) (hd : decode me.2.1 pc = .ok (.bastore, 1)) (kk : z_W X (pc + 1) lv st (z_up P a (.inl (3, n, .inl (upd f i.toNatClampNeg (vp_nar .boolean x))))) nx u v) : z_W X pc lv (.int x :: .int i :: .ref a :: st) P nx u v := by
  obtain ⟨p, l, e, R, s, m, args, below, meth, c, cc, nL, own, D, cy, b, B, Q⟩ := X
  obtain ⟨yn, yc, yL, yr⟩ := me
  obtain ⟨⟨hx, hb, hml, hown, hts, hK, hB⟩, rfl, rfl, rfl, rfl, rfl⟩ := hX
  intro H locs ls hR hS hL
  obtain ⟨hat, hBa⟩ := hR.at hP
  refine W.zast hx hb hat ((hK.1.2 3 _ rfl).1 n (fun j => .int (f j))) (fun q => by cases q) (by show ¬ (i < 0 ∨ (arrV _ _ _).slots.size ≤ _); rw [arrV_size]; exact hin) rfl rfl hd fun H1 e z oq => ?_
  refine kk H1 _ ls (hR.set hP z ?_ oq) (hS.put z oq hBa) hL
  show H1[z_ad b B a]? = some (vp_cell (cy 3) (n, .inl _))
  rw [e]
  show some (Cell.setSlot (vp_cell (cy 3) (n, .inl f)) _ _) = _
  rw [vp_cell_i, vp_cell_i, arrV_store]
  congr 2
  funext q
  by_cases hq : q = i.toNatClampNeg
  · subst hq
    simp [updV, upd, vp_nar]
    try rfl
  · simp [updV, upd, hq]
theorem z_last (hX : z_is X l me rm) {a n : Nat} {f : Nat → Int64} {i : Int32} {x : Int64} (hP : P a = some (.inl (1, n, .inr (.inl f)))) (hin : vp_in i n) (hd : decode me.2.1 pc = .ok (.lastore, 1)) (kk : z_W X (pc + 1) lv st (z_up P a (.inl (1, n, .inr (.inl (vp_updL f i.toNatClampNeg x))))) nx u v) : z_W X pc lv (.long x :: .int i :: .ref a :: st) P nx u v := by
  obtain ⟨p, l, e, R, s, m, args, below, meth, c, cc, nL, own, D, cy, b, B, Q⟩ := X
  obtain ⟨yn, yc, yL, yr⟩ := me
  obtain ⟨⟨hx, hb, hml, hown, hts, hK, hB⟩, rfl, rfl, rfl, rfl, rfl⟩ := hX
  intro H locs ls hR hS hL
  obtain ⟨hat, hBa⟩ := hR.at hP
  refine W.last hx hb hat ((hK.1.2 1 _ rfl).1 n (fun j => .long (f j))) (fun q => by cases q) (by show ¬ (i < 0 ∨ (arrV _ _ _).slots.size ≤ _); rw [arrV_size]; exact hin) rfl rfl hd fun H1 e z oq => ?_
  refine kk H1 _ ls (hR.set hP z ?_ oq) (hS.put z oq hBa) hL
  show H1[z_ad b B a]? = some (vp_cell (cy 1) (n, .inr (.inl _)))
  rw [e]
  show some (Cell.setSlot (vp_cell (cy 1) (n, .inr (.inl f))) _ _) = _
  rw [vp_cell_l, vp_cell_l, arrV_store]
  congr 2
  funext q
  by_cases hq : q = i.toNatClampNeg
  · subst hq
    simp [updV, vp_updL]
  · simp [updV, vp_updL, hq]
/-- a Road into an array of Roads -/
theorem z_aast (hX : z_is X l me rm) {a n d : Nat} {f : Nat → Option Nat} {i : Int32} {gs : List Value} (hP : P a = some (.inl (4, n, .inr (.inr (.inr (.inr f)))))) (hV : P d = some (.inr (3, gs))) (hin : vp_in i n) (hd : decode me.2.1 pc = .ok (.aastore, 1)) (kk : z_W X (pc + 1) lv st (z_up P a (.inl (4, n, .inr (.inr (.inr (.inr (va_up f i.toNatClampNeg (some d)))))))) nx u v) : z_W X pc lv (.ref d :: .int i :: .ref a :: st) P nx u v := by
  obtain ⟨p, l, e, R, s, m, args, below, meth, c, cc, nL, own, D, cy, b, B, Q⟩ := X
  obtain ⟨yn, yc, yL, yr⟩ := me
  obtain ⟨⟨hx, hb, hml, hown, hts, hK, hB⟩, rfl, rfl, rfl, rfl, rfl⟩ := hX
  intro H locs ls hR hS hL
  obtain ⟨hat, hBa⟩ := hR.at hP
  have hlt : i.toNatClampNeg < n := Nat.not_le.mp fun q => hin (Or.inr q)
  have h0 : ¬ i < 0 := fun q => hin (Or.inl q)
  obtain ⟨r', hr', cellV, g1, g2, g3, -⟩ := (hR.at hV).1
  have hcls := (hK.1.1 3 _ rfl).2
  obtain ⟨kA, comp, k1, k2, k3, -⟩ := (hK.1.2 4 _ rfl).2
  have hcomp : comp = D.1 3 := Option.some.inj (k3.symm.trans hcls.1)
  subst hcomp
  obtain ⟨kC, hkC, -⟩ := hcls.2
  refine W.aast hx hb hat (fun q h => by cases h) (fun h => by cases h) k1 k2 rfl hkC ⟨h0, by show _ < (arrV _ _ _).slots.size; rw [arrV_size]; exact hlt⟩ g1 (fun q h => by rw [g3] at h; cases h) (by rw [g2]; exact hkC) (by rw [g2]; exact va_assign hcls) rfl rfl hd fun H1 e z oq => ?_
  refine kk H1 _ ls (hR.set hP z ?_ oq) (hS.put z oq hBa) hL
  show H1[z_ad b B a]? = some (vp_cell (cy 4) (n, .inr (.inr (.inr (.inr _)))))
  rw [e]
  show some (Cell.setSlot (vp_cell (cy 4) (n, .inr (.inr (.inr (.inr _))))) _ _) = _
  rw [vp_cell_q, vp_cell_q, arrV_store]
  congr 2
  funext q
  by_cases hq : q = i.toNatClampNeg
  · subst hq
    simp [updV, va_up, va_rf]
  · simp [updV, va_up, hq]
end ZM
end
section
/-! new int[n][k] over the machine's own words: the states on the way, one state a row -/
section
/-- the outer array with i rows hung in -/
def z_go (cA : ClassId) (N h i : Nat) : Cell := arrV cA N (fun j => va_rf (if j < i then some (h + 1 + j) else none))
/-- the state with i rows made -/
def z_gs (s : State) (cA cR : ClassId) (N M : Nat) : Nat → State
  | 0 => s.pushCell (z_go cA N s.heap.size 0)
  | i + 1 => ((z_gs s cA cR N M i).pushCell (arrV cR M (fun _ => .int 0))).setCell s.heap.size (z_go cA N s.heap.size (i + 1))
theorem z_go_zero (cA : ClassId) (N h : Nat) : z_go cA N h 0 = arrV cA N (fun _ => .null) :=
  congrArg (arrV cA N) (funext fun j => by simp [va_rf])
theorem z_go_hang (cA : ClassId) (N h i : Nat) : (z_go cA N h i).setSlot i (.ref (h + 1 + i)) = z_go cA N h (i + 1) := by
  unfold z_go
  rw [arrV_store]
  refine congrArg (arrV cA N) (funext fun j => ?_)
  rcases Nat.lt_trichotomy j i with h1 | h1 | h1
  · simp [updV, Nat.ne_of_lt h1, h1, Nat.lt_succ_of_lt h1]
  · subst h1
    simp [updV, va_rf]
  · simp [updV, Nat.ne_of_gt h1, Nat.not_lt.mpr (Nat.le_of_lt h1), show ¬ j < i + 1 by omega]
/-- what such a state holds -/
theorem z_gs_is (s : State) (cA cR : ClassId) (N M : Nat) (i : Nat) : (z_gs s cA cR N M i).vm = s.vm ∧ (z_gs s cA cR N M i).heap.size = s.heap.size + 1 + i ∧ (z_gs s cA cR N M i).slotsUsed = s.slotsUsed + N + i * M ∧ (z_gs s cA cR N M i).heap[s.heap.size]? = some (z_go cA N s.heap.size i) ∧ (∀ x : Nat, x < s.heap.size → (z_gs s cA cR N M i).heap[x]? = s.heap[x]?) ∧ ∀ j : Nat, j < i → (z_gs s cA cR N M i).heap[s.heap.size + 1 + j]? = some (arrV cR M (fun _ => .int 0)) := by
  induction i with
  | zero => exact ⟨rfl, by simp [z_gs], by simp [z_gs, z_go, arrV_size], by simp [z_gs], fun x hx => State.heap_pushCell_of_lt _ _ hx, fun j hj => absurd hj (Nat.not_lt_zero j)⟩
  | succ i ih =>
    obtain ⟨i1, i2, i3, i4, i5, i6⟩ := ih
    have old : ∀ x : Nat, x < s.heap.size + 1 + i → ((z_gs s cA cR N M i).pushCell (arrV cR M (fun _ => .int 0))).heap[x]? = (z_gs s cA cR N M i).heap[x]? := fun x hx => State.heap_pushCell_of_lt _ _ (i2.symm ▸ hx)
    have far : ∀ x : Nat, s.heap.size ≠ x → (z_gs s cA cR N M (i + 1)).heap[x]? = ((z_gs s cA cR N M i).pushCell (arrV cR M (fun _ => .int 0))).heap[x]? := fun x hx => State.heap_setCell_other hx
    refine ⟨by simp [z_gs, i1], by simp [z_gs, State.setCell, i2]; omega, by simp [z_gs, i3, arrV_size, Nat.succ_mul]; omega, ?_, fun x hx => ?_, fun j hj => ?_⟩
    · exact State.heap_setCell_self ((old _ (by omega)).trans i4)
    · rw [far x (by omega), old x (by omega)]
      exact i5 x hx
    · rw [far _ (by omega)]
      rcases Nat.lt_or_ge j i with h | h
      · rw [old _ (by omega)]
        exact i6 j h
      · have e1 : s.heap.size + 1 + j = (z_gs s cA cR N M i).heap.size := by omega
        rw [e1]
        exact State.heap_pushCell_size _ _
theorem z_gs_top (s : State) (g : JFrame) (cA cR : ClassId) (N M i : Nat) : z_gs (s.setTop g) cA cR N M i = (z_gs s cA cR N M i).setTop g := by
  induction i with
  | zero => rfl
  | succ i ih =>
    unfold z_gs
    rw [ih, State.heap_setTop, State.pushCell_setTop, State.setCell_setTop]
end
section
variable {E : CtlPost} {e : Env} {d : Bool} {acts : List Action} {s : State}
/-- a loop over 0 .. N - 1 whose states have a name each -/
theorem z_for {G : Nat → State} {N : Nat} {f : Nat → PUnit → Sem (ForInStep PUnit)} (hf : ∀ i : Nat, i < N → ∀ (d1 : Bool) (a1 : List Action) (Q1 : ForInStep PUnit → Pre), (∀ d2 a2, Q1 (.yield PUnit.unit) d2 a2 (G (i + 1))) → wp (f i PUnit.unit) Q1 E e d1 a1 (G i)) {Q : PUnit → Pre} (hQ : ∀ d2 a2, Q PUnit.unit d2 a2 (G N)) (j : Nat) : ∀ (i : Nat) (d1 : Bool) (a1 : List Action), i + j = N → wp (forIn (List.range' i j 1) PUnit.unit f) Q E e d1 a1 (G i) := by
  induction j with
  | zero =>
    intro i d1 a1 h
    rw [List.range'_zero, List.forIn_nil, wp_pure']
    have : i = N := by omega
    subst this
    exact hQ d1 a1
  | succ j ih =>
    intro i d1 a1 h
    rw [List.range'_succ, List.forIn_cons, wp_bind']
    exact hf i (by omega) d1 a1 _ (fun d2 a2 => ih (i + 1) d2 a2 (by omega))
/-- one new array, its slots all at their first value -/
theorem z_wnew {cA cR : ClassId} {k : Class} {ty : FieldType} {n : Nat} {x : Value} (hk : s.vm.classes[cA]? = some k) (hd : k.kind = .array cR ty) (hx : fits ty x = true) (hl : n ≤ e.platform.arrayLengthLimit) (hb : n * componentBytes ty ≤ e.platform.maxHeapBytes) (hc : s.heap.size < e.platform.maxCells) (hs : s.slotsUsed + n ≤ e.platform.maxSlots) {Q : Addr → Pre} (hQ : ∀ a2, Q s.heap.size d a2 (s.pushCell (arrV cA n (fun _ => x)))) : wp (Jvm.newArray cA n x) Q E e d acts s := by
  have g1 : ¬ n > e.platform.arrayLengthLimit := Nat.not_lt.mpr hl
  have g2 : ¬ n * componentBytes ty > e.platform.maxHeapBytes := Nat.not_lt.mpr hb
  have g3 : ¬ n > e.platform.maxSlots := by omega
  simp only [Jvm.newArray, Jvm.arrayFits, wp_bind', W.ask, W.ite, g1, if_false, wp_pure', W.theClass, hk, hd, g2, g3, W.alloc, W.stop, Option.some.injEq, exists_eq_left', Array.size_replicate]
  refine ⟨hc, hs, fun i v hv => ?_, ?_⟩
  · rw [Array.getElem?_replicate] at hv
    by_cases hi : i < n
    · rw [if_pos hi] at hv
      cases hv
      simp [State.fitsSlot, State.slotType?, hk, hd, hx]
    · rw [if_neg hi] at hv
      cases hv
  · rw [arrV_new]
    exact hQ _
end
section
variable {E : CtlPost} {e : Env} {d : Bool} {acts : List Action} {s : State}
/-- a row: the machine's way to an array of one length -/
theorem z_wrow {cR cI : ClassId} {kR : Class} {k : Int32} (hR : s.vm.classes[cR]? = some kR) (hr : kR.kind = .array cI .int) (hk : ¬ k < 0) (hl : k.toNatClampNeg ≤ e.platform.arrayLengthLimit) (hb : k.toNatClampNeg * 4 ≤ e.platform.maxHeapBytes) (hc : s.heap.size < e.platform.maxCells) (hs : s.slotsUsed + k.toNatClampNeg ≤ e.platform.maxSlots) {Q : Addr → Pre} (hQ : ∀ a2, Q s.heap.size d a2 (s.pushCell (arrV cR k.toNatClampNeg (fun _ => .int 0)))) : wp (multianewarray.make cR [k]) Q E e d acts s := by
  unfold multianewarray.make
  simp only [wp_bind', W.ite, hk, if_false, wp_pure', W.theClass, hR, hr, Option.some.injEq, exists_eq_left']
  exact z_wnew (ty := .int) hR hr rfl hl hb hc hs hQ
/-- the grid: the outer array, then row after row, each hung in as it is made -/
theorem z_wgrid {cA cR cI : ClassId} {kA kR : Class} {n k : Int32} (hA : s.vm.classes[cA]? = some kA) (ha : kA.kind = .array cR (.array .int)) (hR : s.vm.classes[cR]? = some kR) (hr : kR.kind = .array cI .int) (hn : ¬ n < 0) (hk : ¬ k < 0) (hl : n.toNatClampNeg ≤ e.platform.arrayLengthLimit) (hb : n.toNatClampNeg * 4 ≤ e.platform.maxHeapBytes) (hl2 : k.toNatClampNeg ≤ e.platform.arrayLengthLimit) (hb2 : k.toNatClampNeg * 4 ≤ e.platform.maxHeapBytes) (hc : s.heap.size + (1 + n.toNatClampNeg) ≤ e.platform.maxCells) (hs : s.slotsUsed + (n.toNatClampNeg + n.toNatClampNeg * k.toNatClampNeg) ≤ e.platform.maxSlots) {Q : Addr → Pre} (hQ : ∀ d2 a2, Q s.heap.size d2 a2 (z_gs s cA cR n.toNatClampNeg k.toNatClampNeg n.toNatClampNeg)) : wp (multianewarray.make cA [n, k]) Q E e d acts s := by
  have hnone : [k].find? (· < 0) = none := by simp [hk]
  unfold multianewarray.make
  simp only [wp_bind', W.ite, hn, if_false, wp_pure', W.theClass, hA, ha, Option.some.injEq, exists_eq_left']
  refine z_wnew (ty := .array .int) hA ha rfl hl hb (by omega) (by omega) (fun a2 => ?_)
  simp only [hnone]
  rw [ite_self, wp_bind', Std.Legacy.Range.forIn_eq_forIn_range']
  have hz : ([:n.toNatClampNeg] : Std.Legacy.Range).size = n.toNatClampNeg := by simp [Std.Legacy.Range.size]
  rw [hz, ← z_go_zero cA n.toNatClampNeg s.heap.size]
  refine z_for (G := z_gs s cA cR n.toNatClampNeg k.toNatClampNeg) (N := n.toNatClampNeg) (fun i hi d1 a1 Q1 h1 => ?_) (fun d2 a3 => ?_) n.toNatClampNeg 0 d a2 (Nat.zero_add _)
  · obtain ⟨i1, i2, i3, i4, -, -⟩ := z_gs_is s cA cR n.toNatClampNeg k.toNatClampNeg i
    have hmul : i * k.toNatClampNeg + k.toNatClampNeg ≤ n.toNatClampNeg * k.toNatClampNeg := by
      rw [← Nat.succ_mul]
      exact Nat.mul_le_mul_right _ hi
    simp only [wp_bind']
    refine z_wrow (by rw [i1]; exact hR) hr hk hl2 hb2 (by omega) (by omega) (fun a4 => ?_)
    simp only [wp_bind', W.writeLoc, wp_pure']
    have hlt : s.heap.size < (z_gs s cA cR n.toNatClampNeg k.toNatClampNeg i).heap.size := by omega
    refine ⟨z_go cA n.toNatClampNeg s.heap.size i, (State.heap_pushCell_of_lt _ _ hlt).trans i4, by simp [z_go, arrV], by simp [z_go, arrV_size, hi], ?_, ?_⟩
    · simp [z_go, arrV, State.fitsSlot, State.slotType?, i1, hA, ha, fits]
    · rw [i2, z_go_hang]
      exact h1 _ _
  · simp only [wp_pure']
    exact hQ _ _
end
section
variable {p : Program} {l : Launch} {e : Env} {R : Room} {s : State} {m : MethodId} {args : Array Value} {below : List Frame} {meth : Method} {c : Code} {T : State} {locs : List Loc} {cells slots : Nat}
theorem z_gs_st (X : Stand p l e R s m args below meth c T locs cells slots) (cA cR : ClassId) (N M i : Nat) : Stand p l e R s m args below meth c (z_gs T cA cR N M i) locs (cells + 1 + i) (slots + N + i * M) := by
  induction i with
  | zero =>
    have h := X.pushed (z_go cA N T.heap.size 0)
    rw [show (z_go cA N T.heap.size 0).slots.size = N from arrV_size _ _ _] at h
    rw [Nat.zero_mul]
    exact h
  | succ i ih =>
    obtain ⟨-, i2, -, i4, -, -⟩ := z_gs_is T cA cR N M i
    have hlt : T.heap.size < (z_gs T cA cR N M i).heap.size := by omega
    have h := (ih.pushed (arrV cR M (fun _ => .int 0))).stored ((State.heap_pushCell_of_lt _ _ hlt).trans i4) i (.ref (T.heap.size + 1 + i))
    rw [arrV_size, z_go_hang] at h
    have h2 := h.dropFresh (fun x hx => by cases List.mem_singleton.mp hx; exact X.heapGrown)
    rw [Nat.succ_mul, ← Nat.add_assoc (slots + N), ← Nat.add_assoc (cells + 1)]
    exact h2
/-- THE INSTRUCTION, of int[n][k] -/
theorem z_mna0 (X : Stand p l e R s m args below meth c T locs cells slots) (hx : p.tables.exec = Jvm.exec) {own : String} {idx : Nat} (hown : s.vm.findClass own = some m.cls) (hcl : (Cond.classLink own idx ("[" ++ (FieldType.array .int).toString)).before args s = true) (hov : (Cond.arrayOver (.array .int)).before args s = true) (har : (Cond.arrayClass .int).before args s = true) {g : JFrame} (hg : g.method = m) (hd : decode c.code g.pc = .ok (.multianewarray idx 2, 4)) {n k : Int32} {rest : List Value} (hst : g.stack = .int k :: .int n :: rest) (hn : ¬ n < 0) (hk : ¬ k < 0) (hb1 : n.toNatClampNeg * 4 ≤ 536870912) (hb2 : k.toNatClampNeg * 4 ≤ 536870912) (hu : cells + (1 + n.toNatClampNeg) ≤ R.cells) (hv : slots + (n.toNatClampNeg + n.toNatClampNeg * k.toNatClampNeg) ≤ R.slots) : ∃ (vm₁ : Vm) (cA cR : ClassId), s.vm.findClass ("[" ++ (FieldType.array .int).toString) = some cA ∧ s.vm.findClass (FieldType.array .int).toString = some cR ∧ Stand p l e R s m args below meth c (z_gs (T.setVm vm₁) cA cR n.toNatClampNeg k.toNatClampNeg n.toNatClampNeg) locs (cells + 1 + n.toNatClampNeg) (slots + n.toNatClampNeg + n.toNatClampNeg * k.toNatClampNeg) ∧ ∀ t, Steps p.tables e below ((z_gs (T.setVm vm₁) cA cR n.toNatClampNeg k.toNatClampNeg n.toNatClampNeg).setTop { g with pc := g.pc + 4, stack := .ref T.heap.size :: rest }) t → Steps p.tables e below (T.setTop g) t := by
  subst hg
  obtain ⟨cR, cA, kA, fR, -, hA, ha, fA⟩ := arrayOverA_spec hov
  obtain ⟨cR', kR, cI, fR', hR, hr⟩ := Cond.arrayClass_spec har
  cases fR.symm.trans fR'
  obtain ⟨cA', fA', hlk⟩ := Cond.classLink_spec hown hcl e.platform (by rw [X.admits.platform])
  cases fA.symm.trans fA'
  obtain ⟨hgive, hwarm, -⟩ := State.classEntry (e := e) X.warmed hlk
  generalize T.vm.noted g.method.cls idx (.cls cA) = vm₁ at hgive hwarm
  obtain ⟨kA1, hA1, eA⟩ := hwarm.alike.2.2 _ _ hA
  obtain ⟨kR1, hR1, eR⟩ := hwarm.alike.2.2 _ _ hR
  have X2 := z_gs_st (X.noted hwarm) cA cR n.toNatClampNeg k.toNatClampNeg n.toNatClampNeg
  obtain ⟨hrc, hrs⟩ := X.roomAbove hu hv
  refine ⟨vm₁, cA, cR, fA, fR, X2, fun t ht => ?_⟩
  have lim := Launch.admits_arrayLengthLimit X.admits
  have byt := Launch.admits_maxHeapBytes X.admits
  jvm_step X.here [hx, hd]
  simp only [multianewarray.sem, wp_bind', W.resolveClassAt_links (State.method?_setTop g X.here.top) hgive]
  rw [W.popN, if_neg (by decide)]
  refine ⟨g, State.topJava?_setTop' (s := T.setVm vm₁) g X.here.top, [.int n, .int k], rest, rfl, hst, ?_⟩
  simp only [List.mapM_cons, List.mapM_nil, wp_bind', wp_pure']
  refine z_wgrid (s := ((T.setTop g).setVm vm₁).setTop { g with stack := rest }) (kA := kA1) (kR := kR1) (cI := cI) hA1 (by rw [eA]; exact ha) hR1 (by rw [eR]; exact hr) hn hk (by omega) (by omega) (by omega) (by omega) hrc hrs (fun d2 a2 => ?_)
  have e1 : ((T.setTop g).setVm vm₁).setTop { g with stack := rest } = (T.setVm vm₁).setTop { g with stack := rest } := State.setTop_setTop (T.setVm vm₁) g { g with stack := rest }
  rw [e1, z_gs_top]
  simp only [wp_bind', W.mark, W.pushRef, State.topJava?_setTop' _ X2.here.top, Option.some.injEq, exists_eq_left', State.setTop_setTop, State.heap_setTop]
  intro a3
  simp [jvm, X2.here.top]
  exact ht
end
end
section
/-! new cells; calls; returns; a method's entry -/
section ZN
variable {X : z_X} {l : Launch} {me : z_M} {rm : Room} {pc nx u v : Nat} {lv : List (Option Value)} {st : List Value} {P : z_H}
theorem z_new (hX : z_is X l me rm) {idx ci : Nat} {r : vw_C} (hc : z_cl[ci]? = some r) (hcl : Cond.classLink me.1.cls idx r.1 ∈ z_T) (hin : Cond.instantiable r.1 r.2.2 ∈ z_T) (hini : Cond.initialized r.1 ∈ z_T) (hu : u + 1 ≤ rm.cells) (hv : v + r.2.2 ≤ rm.slots) (hd : decode me.2.1 pc = .ok (.new idx, 3)) (kk : z_W X (pc + 3) lv (.ref nx :: st) (z_up P nx (.inr (ci, z_df ci))) (nx + 1) (u + 1) (v + r.2.2)) : z_W X pc lv st P nx u v := by
  obtain ⟨p, l, e, R, s, m, args, below, meth, c, cc, nL, own, D, cy, b, B, Q⟩ := X
  obtain ⟨yn, yc, yL, yr⟩ := me
  obtain ⟨⟨hx, hb, hml, hown, hts, hK, hB⟩, rfl, rfl, rfl, rfl, rfl⟩ := hX
  intro H locs ls hR hS hL
  have hKn := hK.1.1 ci _ hc
  refine W.newcK hx hb hown (hts _ hcl) (hts _ hin) (hts _ hini) rfl hd hu hv hKn.2.1 rfl fun H1 kC hkC e1 z1 o1 => ?_
  have hat : va_at D z_cl (H.size, z_E cy b B (.inr (ci, z_df ci))) H1 := by
    refine ⟨_, hc, ((u_born (z_ty ci) hts (z_wT ci r hc) hKn hkC e1 (z_tyT ci r hc)).to (fun j hj => ?_))⟩
    rw [z_dfT ci r hc j hj]
    show vp_V (z_df ci) j = vp_V ((z_df ci).map (z_V b B)) j
    have : (z_df ci).map (z_V b B) = z_df ci := by
      match ci, hc with
      | 0, hc => rfl
      | 1, hc => rfl
      | 2, hc => rfl
      | 3, hc => rfl
      | 4, hc => rfl
      | 5, hc => rfl
      | 6, hc => rfl
      | 7, hc => rfl
      | 8, hc => rfl
      | k + 9, hc => simp [z_cl] at hc
    rw [this]
  obtain ⟨hR1, ha⟩ := hR.push z1 hat o1
  have := kk H1 locs ls hR1 (z_S.grow hS (by omega) o1) hL
  rw [List.map_cons, show z_V b B (.ref nx) = .ref H.size from congrArg Value.ref ha] at this
  exact this
/-- newarray: the kind of cell that it makes -/
theorem z_newa0 (hX : z_is X l me rm) {at0 : ArrayType} {n : Int32} {N kd : Nat} {a0 : vp_A} (hw : Cond.arrayClass (newarray.typeOf at0) ∈ z_T) (hk : ∀ cy : Nat → ClassId, (z_tys cy)[kd]? = some (cy kd, newarray.typeOf at0)) (hf : ∀ (s : State) (c1 c2 : ClassId), va_RA s c1 (newarray.typeOf at0) → s.vm.findClass ("[" ++ (newarray.typeOf at0).toString) = some c2 → c1 = c2) (ha : ∀ cA : ClassId, vp_cell cA a0 = arrV cA N (fun _ => defaultValue (newarray.typeOf at0))) (ha2 : ∀ b B, z_A b B a0 = a0) (hn : ¬ n < 0) (hN : n.toNatClampNeg = N) (hby : N * componentBytes (newarray.typeOf at0) ≤ 536870912) (hu : u + 1 ≤ rm.cells) (hv : v + N ≤ rm.slots) (hd : decode me.2.1 pc = .ok (.newarray at0, 2)) (kk : z_W X (pc + 2) lv (.ref nx :: st) (z_up P nx (.inl (kd, a0))) (nx + 1) (u + 1) (v + N)) : z_W X pc lv (.int n :: st) P nx u v := by
  obtain ⟨p, l, e, R, s, m, args, below, meth, c, cc, nL, own, D, cy, b, B, Q⟩ := X
  obtain ⟨yn, yc, yL, yr⟩ := me
  obtain ⟨⟨hx, hb, hml, hown, hts, hK, hB⟩, rfl, rfl, rfl, rfl, rfl⟩ := hX
  intro H locs ls hR hS hL
  refine va_newaK hx hb (hts _ hw) rfl hd rfl hn hN hby hu hv rfl fun H1 cA e1 z1 o1 hAr hNm => ?_
  have hcA : cy kd = cA := hf s _ _ (hK.1.2 kd _ (hk cy)).2 hNm
  have hat : va_at D z_cl (H.size, z_E cy b B (.inl (kd, a0))) H1 := by
    show H1[H.size]? = some (vp_cell (cy kd) (z_A b B a0))
    rw [ha2, hcA, ha, e1]
  obtain ⟨hR1, hadr⟩ := hR.push z1 hat o1
  have := kk H1 locs ls hR1 (z_S.grow hS (by omega) o1) hL
  rw [List.map_cons, show z_V b B (.ref nx) = .ref H.size from congrArg Value.ref hadr] at this
  exact this
theorem z_fcu {s : State} {c1 c2 : ClassId} {t : String} (h1 : s.vm.findClass t = some c1) (h2 : s.vm.findClass t = some c2) : c1 = c2 := Option.some.inj (h1.symm.trans h2)
theorem z_newi (hX : z_is X l me rm) {n : Int32} (N : Nat) (hw : Cond.arrayClass .int ∈ z_T) (hn : ¬ n < 0) (hN : n.toNatClampNeg = N) (hby : N * 4 ≤ 536870912) (hu : u + 1 ≤ rm.cells) (hv : v + N ≤ rm.slots) (hd : decode me.2.1 pc = .ok (.newarray .int, 2)) (kk : z_W X (pc + 2) lv (.ref nx :: st) (z_up P nx (.inl (0, N, .inl (fun _ => 0)))) (nx + 1) (u + 1) (v + N)) : z_W X pc lv (.int n :: st) P nx u v :=
  z_newa0 (at0 := .int) hX hw (fun _ => rfl) (fun s c1 c2 h1 h2 => z_fcu h1 h2) (fun _ => rfl) (fun _ _ => rfl) hn hN hby hu hv hd kk
theorem z_newl (hX : z_is X l me rm) {n : Int32} (N : Nat) (hw : Cond.arrayClass .long ∈ z_T) (hn : ¬ n < 0) (hN : n.toNatClampNeg = N) (hby : N * 8 ≤ 536870912) (hu : u + 1 ≤ rm.cells) (hv : v + N ≤ rm.slots) (hd : decode me.2.1 pc = .ok (.newarray .long, 2)) (kk : z_W X (pc + 2) lv (.ref nx :: st) (z_up P nx (.inl (1, N, .inr (.inl (fun _ => 0))))) (nx + 1) (u + 1) (v + N)) : z_W X pc lv (.int n :: st) P nx u v :=
  z_newa0 (at0 := .long) hX hw (fun _ => rfl) (fun s c1 c2 h1 h2 => z_fcu h1 h2) (fun _ => rfl) (fun _ _ => rfl) hn hN hby hu hv hd kk
theorem z_newb (hX : z_is X l me rm) {n : Int32} (N : Nat) (hw : Cond.arrayClass .byte ∈ z_T) (hn : ¬ n < 0) (hN : n.toNatClampNeg = N) (hby : N * 1 ≤ 536870912) (hu : u + 1 ≤ rm.cells) (hv : v + N ≤ rm.slots) (hd : decode me.2.1 pc = .ok (.newarray .byte, 2)) (kk : z_W X (pc + 2) lv (.ref nx :: st) (z_up P nx (.inl (2, N, .inl (fun _ => 0)))) (nx + 1) (u + 1) (v + N)) : z_W X pc lv (.int n :: st) P nx u v :=
  z_newa0 (at0 := .byte) hX hw (fun _ => rfl) (fun s c1 c2 h1 h2 => z_fcu h1 h2) (fun _ => rfl) (fun _ _ => rfl) hn hN hby hu hv hd kk
theorem z_newz (hX : z_is X l me rm) {n : Int32} (N : Nat) (hw : Cond.arrayClass .boolean ∈ z_T) (hn : ¬ n < 0) (hN : n.toNatClampNeg = N) (hby : N * 1 ≤ 536870912) (hu : u + 1 ≤ rm.cells) (hv : v + N ≤ rm.slots) (hd : decode me.2.1 pc = .ok (.newarray .boolean, 2)) (kk : z_W X (pc + 2) lv (.ref nx :: st) (z_up P nx (.inl (3, N, .inl (fun _ => 0)))) (nx + 1) (u + 1) (v + N)) : z_W X pc lv (.int n :: st) P nx u v :=
  z_newa0 (at0 := .boolean) hX hw (fun _ => rfl) (fun s c1 c2 h1 h2 => z_fcu h1 h2) (fun _ => rfl) (fun _ _ => rfl) hn hN hby hu hv hd kk
theorem z_anew (hX : z_is X l me rm) {idx : Nat} {n : Int32} (N : Nat) (hcl : Cond.classLink me.1.cls idx "RoadCounts$Road" ∈ z_T) (hn : ¬ n < 0) (hN : n.toNatClampNeg = N) (hby : N * 4 ≤ 536870912) (hu : u + 1 ≤ rm.cells) (hv : v + N ≤ rm.slots) (hd : decode me.2.1 pc = .ok (.anewarray idx, 3)) (kk : z_W X (pc + 3) lv (.ref nx :: st) (z_up P nx (.inl (4, N, .inr (.inr (.inr (.inr (fun _ => none))))))) (nx + 1) (u + 1) (v + N)) : z_W X pc lv (.int n :: st) P nx u v := by
  obtain ⟨p, l, e, R, s, m, args, below, meth, c, cc, nL, own, D, cy, b, B, Q⟩ := X
  obtain ⟨yn, yc, yL, yr⟩ := me
  obtain ⟨⟨hx, hb, hml, hown, hts, hK, hB⟩, rfl, rfl, rfl, rfl, rfl⟩ := hX
  intro H locs ls hR hS hL
  subst hN
  refine W.anew hx hb hown (hts _ hcl) (va_AO.use hK.2.1) rfl hd rfl hn hby hu hv fun cA kA comp f1 f2 f3 f4 => ?_
  generalize hH1 : H.push ({ cls := cA, slots := Array.replicate n.toNatClampNeg .null, vm := .none } : Cell) = H1
  have z1 : H1.size = H.size + 1 := by rw [← hH1, Array.size_push]
  have e1 : H1[H.size]? = some (arrV cA n.toNatClampNeg (fun _ => .null)) := by rw [← hH1, Array.getElem?_push_size, ← arrV_new]
  have o1 : ∀ q : Nat, q < H.size → H1[q]? = H[q]? := fun q hq => by rw [← hH1, Array.getElem?_push, if_neg (Nat.ne_of_lt hq)]
  obtain ⟨-, -, -, -, -, k4⟩ := (hK.1.2 4 _ rfl).2
  have hcA : cy 4 = cA := z_fcu k4 f1
  have hat : va_at D z_cl (H.size, z_E cy b B (.inl (4, n.toNatClampNeg, .inr (.inr (.inr (.inr (fun _ => none))))))) H1 := by
    show H1[H.size]? = some (vp_cell (cy 4) (n.toNatClampNeg, .inr (.inr (.inr (.inr (fun _ => none))))))
    rw [hcA, vp_cell_q]
    exact e1
  obtain ⟨hR1, hadr⟩ := hR.push z1 hat o1
  have := kk H1 locs ls hR1 (z_S.grow hS (by omega) o1) hL
  rw [List.map_cons, show z_V b B (.ref nx) = .ref H.size from congrArg Value.ref hadr] at this
  exact this
/-- the world behind new int[N][M]: the outer array nx, its rows nx + 1 .. nx + N -/
def z_grid (P : z_H) (nx N M : Nat) : z_H := fun j => if j = nx then some (.inl (5, N, .inr (.inr (.inr (.inr (fun i => if i < N then some (nx + 1 + i) else none)))))) else if nx < j ∧ j ≤ nx + N then some (.inl (0, M, .inl (fun _ => 0))) else P j
theorem z_mna (hX : z_is X l me rm) {idx : Nat} {n k : Int32} (N M : Nat) (hcl : Cond.classLink me.1.cls idx "[[I" ∈ z_T) (hw : Cond.arrayClass .int ∈ z_T) (hn : ¬ n < 0) (hk : ¬ k < 0) (hN : n.toNatClampNeg = N) (hM : k.toNatClampNeg = M) (hb1 : N * 4 ≤ 536870912) (hb2 : M * 4 ≤ 536870912) (hu : u + (1 + N) ≤ rm.cells) (hv : v + (N + N * M) ≤ rm.slots) (hd : decode me.2.1 pc = .ok (.multianewarray idx 2, 4)) (kk : z_W X (pc + 4) lv (.ref nx :: st) (z_grid P nx N M) (nx + 1 + N) (u + 1 + N) (v + N + N * M)) : z_W X pc lv (.int k :: .int n :: st) P nx u v := by
  obtain ⟨p, l, e, R, s, m, args, below, meth, c, cc, nL, own, D, cy, b, B, Q⟩ := X
  obtain ⟨yn, yc, yL, yr⟩ := me
  obtain ⟨⟨hx, hb, hml, hown, hts, hK, hB⟩, rfl, rfl, rfl, rfl, rfl⟩ := hX
  intro H locs ls hR hS hL
  subst hN
  subst hM
  intro T hT Xs
  obtain ⟨vm₁, cA, comp, fA, fC, X', step⟩ := z_mna0 Xs hx hown (hts _ hcl) hK.2.2.1 (hts _ hw) (g := F0 m pc ls (.int k :: .int n :: st.map (z_V b B))) rfl (by rw [hb]; exact hd) rfl hn hk hb1 hb2 hu hv
  obtain ⟨-, f1, -, f2, hold, hin⟩ := z_gs_is (T.setVm vm₁) cA comp n.toNatClampNeg k.toNatClampNeg n.toNatClampNeg
  generalize z_gs (T.setVm vm₁) cA comp n.toNatClampNeg k.toNatClampNeg n.toNatClampNeg = F at X' step f1 f2 hold hin
  have hTh : (T.setVm vm₁).heap = H := hT
  rw [hTh] at f1 f2 hold hin
  have hc5 : cy 5 = cA := z_fcu (hK.1.2 5 _ rfl).2 fA
  have hc0 : cy 0 = comp := z_fcu (hK.1.2 0 _ rfl).2 fC
  have hrow : ∀ j : Nat, j < n.toNatClampNeg → F.heap[H.size + 1 + j]? = some (vp_cell (cy 0) (k.toNatClampNeg, .inl (fun _ => 0))) := fun j hj => by
    rw [hin j hj, hc0, vp_cell_i]
  unfold z_go at f2
  obtain ⟨r1, r2, r3, r4⟩ := hR
  obtain ⟨nn, rfl⟩ : ∃ nn, nx = nn + 1 := ⟨nx - 1, by omega⟩
  have eH : H.size = B + nn := by omega
  have hR1 : z_R D cy b B (z_grid P (nn + 1) n.toNatClampNeg k.toNatClampNeg) (nn + 1 + 1 + n.toNatClampNeg) F.heap := by
    refine ⟨by omega, by omega, ?_, fun j d hd2 => ?_⟩
    · show (if 0 = nn + 1 then _ else if nn + 1 < 0 ∧ 0 ≤ nn + 1 + n.toNatClampNeg then _ else P 0) = none
      rw [if_neg (by omega), if_neg (by omega)]
      exact r3
    · unfold z_grid at hd2
      by_cases e1 : j + 1 = nn + 1
      · rw [if_pos e1] at hd2
        cases hd2
        have : j = nn := by omega
        subst this
        show F.heap[B + j]? = some (vp_cell (cy 5) (n.toNatClampNeg, .inr (.inr (.inr (.inr (fun i => Option.map (z_ad b B) (if i < n.toNatClampNeg then some (j + 1 + 1 + i) else none)))))))
        rw [← eH, f2, hc5, vp_cell_q]
        refine congrArg some (congrArg (arrV cA _) (funext fun i => ?_))
        by_cases hi : i < n.toNatClampNeg
        · rw [if_pos hi, if_pos hi]
          show Value.ref (H.size + 1 + i) = Value.ref (z_ad b B (j + 1 + 1 + i))
          have : j + 1 + 1 + i = (j + 1 + i) + 1 := by omega
          rw [this]
          exact congrArg Value.ref (show H.size + 1 + i = B + (j + 1 + i) by omega)
        · rw [if_neg hi, if_neg hi]
          rfl
      · rw [if_neg e1] at hd2
        by_cases e2 : nn + 1 < j + 1 ∧ j + 1 ≤ nn + 1 + n.toNatClampNeg
        · rw [if_pos e2] at hd2
          cases hd2
          have := hrow (j - nn - 1) (by omega)
          rw [show H.size + 1 + (j - nn - 1) = B + j by omega] at this
          exact this
        · rw [if_neg e2] at hd2
          exact (r4 j d hd2).kept (hold _ ((r4 j d hd2).lt))
  obtain ⟨t, a1, b1⟩ := kk F.heap locs ls hR1 (z_S.grow hS (by omega) hold) hL F rfl X'
  refine ⟨t, step t ?_, b1⟩
  have e9 : T.heap.size = z_ad b B (nn + 1) := by rw [hT]; exact eH
  rw [e9]
  exact a1
end ZN
end
section
/-! calls, returns, contracts -/
def z_Pc (D : va_G) (cy : Nat → ClassId) (b B : Nat) (as : List Value) (P : z_H) (nx : Nat) : Array Value → State → Prop := fun a U => a = (as.map (z_V b B)).toArray ∧ z_Kn D cy U ∧ z_R D cy b B P nx U.heap ∧ B ≤ U.heap.size
def z_Qc (D : va_G) (cy : Nat → ClassId) (b B : Nat) (K : Option Value → z_H → Nat → Prop) : Array Value → State → Outcome → State → Prop := fun _ s o t => ∃ (w : Option Value) (P : z_H) (nx : Nat), o = .returned (w.map (z_V b B)) ∧ z_R D cy b B P nx t.heap ∧ K w P nx ∧ va_F (fun q => B ≤ q) s t
abbrev z_PT : Type := List Value → z_H → Nat → (Option Value → z_H → Nat → Prop) → Prop
def z_ws (y : z_M) : List Cond := Cond.code y.1 y.2.1 y.2.2.1 y.2.2.2 :: z_T
/-- THE CONTRACT of a method, as a predicate transformer S -/
def z_Sp (l : Launch) (y : z_M) (rm : Room) (S : z_PT) : Prop := ∀ (D : va_G) (cy : Nat → ClassId) (b B : Nat) (as : List Value) (P : z_H) (nx : Nat) (K : Option Value → z_H → Nat → Prop), S as P nx K → Met l y.1 (z_ws y) rm (z_Pc D cy b B as P nx) (z_Qc D cy b B K) rm.cells rm.slots (fun q => B ≤ q)
theorem z_Kn.warm {D : va_G} {cy : Nat → ClassId} {s U : State} (h : z_Kn D cy s) (hW : s.WarmedH U.vm) : z_Kn D cy U := by
  refine ⟨va_K.moved hW.alike h.1, va_AO.moved hW.alike h.2.1, over_moved hW.alike h.2.2.1, fun w hw => ?_⟩
  have h1 := h.2.2.2 w hw
  have h2 := (List.mem_filter.mp hw).2
  cases w <;> first | (cases h2; done) | exact va_Nw.warmF hW h1 | exact va_Nw.warmM hW h1
theorem z_Pc.blind {D : va_G} {cy : Nat → ClassId} {b B : Nat} {as : List Value} {P : z_H} {nx : Nat} : FrameBlind (z_Pc D cy b B as P nx) := by
  intro a U g mk h
  obtain ⟨h1, h2, h3, h4⟩ := h
  refine ⟨h1, ⟨va_K.moved (u := U) (U := U.calling g mk a) (Vm.Alike.refl U.vm) h2.1, va_AO.moved (u := U) (U := U.calling g mk a) (Vm.Alike.refl U.vm) h2.2.1, over_moved (u := U) (E := U.calling g mk a) (Vm.Alike.refl U.vm) h2.2.2.1, fun w hw => ?_⟩, h3, h4⟩
  have h5 := (List.mem_filter.mp hw).2
  have h6 := h2.2.2.2 w hw
  cases w <;> first | (cases h5; done) | exact va_Nw.same (u := U) (U := U.calling g mk a) rfl rfl h6
/-- a method's link -/
def z_Ml (own : String) (idx : Nat) (y : z_M) (n : Nat) : Prop := Cond.code y.1 y.2.1 y.2.2.1 y.2.2.2 ∈ z_T ∧ Cond.initialized y.1.cls ∈ z_T ∧ (y.1.cls ≠ "java/lang/invoke/MethodHandle" ∧ y.1.cls ≠ "java/lang/invoke/VarHandle") ∧ (parseMethodDescriptor y.1.desc).map (fun d => d.parameters.length) = some n ∧ (Cond.methodLink own idx y.1 ∈ z_T ∨ ∃ host, Cond.methodLinkNest own idx y.1 host ∈ z_N)
def z_MV (own : String) (idx : Nat) (y : z_M) (n ci : Nat) : Prop := z_Ml own idx y n ∧ Cond.instanceMethod y.1 ∈ z_T ∧ Cond.selects y.1.cls y.1 y.1 ∈ z_T ∧ ∃ r : vw_C, z_cl[ci]? = some r ∧ r.1 = y.1.cls
def z_MS (own : String) (idx : Nat) (y : z_M) (n : Nat) : Prop := z_Ml own idx y n ∧ Cond.static y.1 ∈ z_T
def z_MI (own : String) (idx : Nat) (y : z_M) (n : Nat) : Prop := z_Ml own idx y n ∧ Cond.instanceMethod y.1 ∈ z_T ∧ y.1.name = "<init>" ∧ y.2.2.2 = none
def z_fitR (y2 : z_M) (rm2 rm : Room) (u v : Nat) : Prop := rm2.frames + 1 ≤ rm.frames ∧ 8 + (y2.2.2.1 + 11) + rm2.locals ≤ rm.locals ∧ u + rm2.cells ≤ rm.cells ∧ v + rm2.slots ≤ rm.slots
section ZC
variable {X : z_X} {l : Launch} {me : z_M} {rm : Room} {pc nx u v : Nat} {lv : List (Option Value)} {st : List Value} {P : z_H}
theorem z_catsum (b B : Nat) (st : List Value) : ((st.map (z_V b B)).map fun v => v.category).sum = (st.map Value.category).sum := by
  rw [List.map_map]
  congr 1
  refine List.map_congr_left (fun w _ => ?_)
  exact z_V_cat b B w
theorem z_lenP {y : z_M} {n : Nat} (h : (parseMethodDescriptor y.1.desc).map (fun d => d.parameters.length) = some n) : ∀ sig, parseMethodDescriptor y.1.desc = some sig → n = sig.parameters.length := fun sig q => by
  rw [q] at h
  exact (Option.some.inj h).symm
theorem z_goodW {y : z_M} (h : Cond.code y.1 y.2.1 y.2.2.1 y.2.2.2 ∈ z_T) : GoodIn z_T (z_ws y) := fun w hw => by
  rcases List.mem_cons.mp hw with e | e
  · rw [e]; exact z_goodT _ h
  · exact z_goodT _ e
/-- behind a call -/
theorem z_back {p : Program} {e : Env} {R : Room} {s : State} {m : MethodId} {args : Array Value} {below : List Frame} {meth : Method} {c : Code} {nL : Nat} {D : va_G} {cy : Nat → ClassId} {b B : Nat} {Q : State → Prop} {H : Heap} {locs : List Loc} {ls : Array Slot} {mc ms : Nat} {K : Option Value → z_H → Nat → Prop} {st0 : List Value} {a0 : Array Value}
    (hr : va_Run p l e R s m args below meth c H locs u v mc ms (F0 m pc ls st0) (st.map (z_V b B)) (z_Qc D cy b B K a0) (fun q => B ≤ q)) (hS : va_S (fun q => B ≤ q) s.heap H locs) (hL : z_L b B ls nL lv)
    (kk : ∀ w P' nx', K w P' nx' → ∀ (H1 : Heap) (locs1 : List Loc), z_R D cy b B P' nx' H1 → va_S (fun q => B ≤ q) s.heap H1 locs1 → W p l e R s m args below meth c H1 locs1 (u + mc) (v + ms) Q (F0 m (pc + 3) ls ((w.toList ++ st).map (z_V b B)))) : W p l e R s m args below meth c H locs u v Q (F0 m pc ls st0) := by
  intro T hT X
  obtain ⟨w0, st₀, t, T', L, h0, X', hLc, e1, e2, ⟨w, P', nx', hw, hR1, hK1, hz, hk⟩, stp⟩ := hr T hT X
  cases Outcome.returned.inj hw
  rw [h0] at hz hk
  obtain ⟨t2, a1, b1⟩ := kk w P' nx' hK1 T'.heap (locs ++ L) (by rw [e1]; exact hR1) ⟨Nat.le_trans hS.1 (by rw [e1]; exact hz), fun q h1 h2 => by rw [e1, hk q (Nat.lt_of_lt_of_le h1 hS.1) h2]; exact hS.2.1 q h1 h2, fun q hq => by
      rcases List.mem_append.mp hq with h | h
      · exact hS.2.2 q h
      · exact hLc q h⟩ T' rfl X'
  refine ⟨t2, stp t2 ?_, b1⟩
  have : (w.toList ++ st).map (z_V b B) = (w.map (z_V b B)).toList ++ st.map (z_V b B) := by
    rw [List.map_append]
    cases w <;> rfl
  rw [← this]
  exact a1
theorem z_callV (hX : z_is X l me rm) {y2 : z_M} {rm2 : Room} {S : z_PT} {idx n a ci : Nat} {As fs : List Value} (hS : z_Sp l y2 rm2 S) (hl : z_MV me.1.cls idx y2 n ci) (hP : P a = some (.inr (ci, fs))) (hn : As.length = n) (hrm : z_fitR y2 rm2 rm u v) (hst : (st.map Value.category).sum ≤ 8) (hd : decode me.2.1 pc = .ok (.invokevirtual idx, 3)) (kk : S (.ref a :: As) P nx (fun w P' nx' => z_W X (pc + 3) lv (w.toList ++ st) P' nx' (u + rm2.cells) (v + rm2.slots))) : z_W X pc lv (As.reverse ++ .ref a :: st) P nx u v := by
  obtain ⟨p, l, e, R, s, m, args, below, meth, c, cc, nL, own, D, cy, b, B, Q⟩ := X
  obtain ⟨yn, yc, yL, yr⟩ := me
  obtain ⟨⟨hx, hb, hml, hown, hts, hK, hB⟩, rfl, rfl, rfl, rfl, rfl⟩ := hX
  obtain ⟨⟨w1, w2, w3, w4, w5⟩, w6, w7, r, hc, hrc⟩ := hl
  obtain ⟨f1, f2, f3, f4⟩ := hrm
  intro H locs ls hR hS0 hL
  have hpV : PreV s H y2.1.cls (z_ad b B a) (z_Pc D cy b B (.ref a :: As) P nx) (As.map (z_V b B)) := by
    refine ⟨z_Pc.blind, ?_, fun U hU hW => ⟨rfl, hK.warm hW, by rw [hU]; exact hR, by rw [hU]; exact Nat.le_trans hB hS0.1⟩⟩
    have := va_recv (q0 := 0) hK.1 (z_one (hR.at hP).1) hc rfl
    rw [hrc] at this
    exact this
  have hst' : ((st.map (z_V b B)).map fun v => v.category).sum ≤ 8 := by rw [z_catsum]; exact hst
  rw [List.map_append, List.map_reverse]
  rcases w5 with w5 | ⟨host, w5⟩
  · exact z_back (va_runV (n := n) ⟨hx, hb, hml, hown, hts⟩ (hS D cy b B _ P nx _ kk) ⟨⟨rfl, rfl, f1, f2, pay_in hts (z_goodW w1), List.mem_cons_self, hts _ w1, hts _ w2, w3, z_lenP w4, hts _ w5⟩, hts _ w6, hts _ w7⟩ hpV rfl (by rw [List.length_map]; exact hn) hL.1 rfl (lv_room hst') hd ⟨f3, f4⟩) hS0 hL (fun w P' nx' hk H1 locs1 hR1 hS1 => hk H1 locs1 ls hR1 hS1 hL)
  · exact z_back (va_runVN (n := n) ⟨hx, hb, hml, hown, hts⟩ (hS D cy b B _ P nx _ kk) ⟨⟨⟨rfl, rfl, f1, f2, pay_in hts (z_goodW w1), List.mem_cons_self⟩, hts _ w1, hts _ w2, w3, z_lenP w4, va_Nw.use rfl (hK.2.2.2 _ w5)⟩, hts _ w6, hts _ w7⟩ hpV rfl (by rw [List.length_map]; exact hn) hL.1 rfl (lv_room hst') hd ⟨f3, f4⟩) hS0 hL (fun w P' nx' hk H1 locs1 hR1 hS1 => hk H1 locs1 ls hR1 hS1 hL)
theorem z_callS (hX : z_is X l me rm) {y2 : z_M} {rm2 : Room} {S : z_PT} {idx n : Nat} {As : List Value} (hS : z_Sp l y2 rm2 S) (hl : z_MS me.1.cls idx y2 n) (hn : As.length = n) (hrm : z_fitR y2 rm2 rm u v) (hst : (st.map Value.category).sum ≤ 8) (hd : decode me.2.1 pc = .ok (.invokestatic idx, 3)) (kk : S As P nx (fun w P' nx' => z_W X (pc + 3) lv (w.toList ++ st) P' nx' (u + rm2.cells) (v + rm2.slots))) : z_W X pc lv (As.reverse ++ st) P nx u v := by
  obtain ⟨p, l, e, R, s, m, args, below, meth, c, cc, nL, own, D, cy, b, B, Q⟩ := X
  obtain ⟨yn, yc, yL, yr⟩ := me
  obtain ⟨⟨hx, hb, hml, hown, hts, hK, hB⟩, rfl, rfl, rfl, rfl, rfl⟩ := hX
  obtain ⟨⟨w1, w2, w3, w4, w5⟩, w6⟩ := hl
  obtain ⟨f1, f2, f3, f4⟩ := hrm
  intro H locs ls hR hS0 hL
  have hpV : PreS s H (z_Pc D cy b B As P nx) (As.map (z_V b B)) := ⟨z_Pc.blind, fun U hU hW => ⟨rfl, hK.warm hW, by rw [hU]; exact hR, by rw [hU]; exact Nat.le_trans hB hS0.1⟩⟩
  have hst' : ((st.map (z_V b B)).map fun v => v.category).sum ≤ 8 := by rw [z_catsum]; exact hst
  rw [List.map_append, List.map_reverse]
  rcases w5 with w5 | ⟨host, w5⟩
  · exact z_back (va_runS (n := n) ⟨hx, hb, hml, hown, hts⟩ (hS D cy b B _ P nx _ kk) ⟨⟨rfl, rfl, f1, f2, pay_in hts (z_goodW w1), List.mem_cons_self, hts _ w1, hts _ w2, w3, z_lenP w4, hts _ w5⟩, hts _ w6⟩ hpV rfl (by rw [List.length_map]; exact hn) hL.1 rfl (lv_room hst') hd ⟨f3, f4⟩) hS0 hL (fun w P' nx' hk H1 locs1 hR1 hS1 => hk H1 locs1 ls hR1 hS1 hL)
  · exact z_back (va_runSN (n := n) ⟨hx, hb, hml, hown, hts⟩ (hS D cy b B _ P nx _ kk) ⟨⟨⟨rfl, rfl, f1, f2, pay_in hts (z_goodW w1), List.mem_cons_self⟩, hts _ w1, hts _ w2, w3, z_lenP w4, va_Nw.use rfl (hK.2.2.2 _ w5)⟩, hts _ w6, trivial⟩ hpV rfl (by rw [List.length_map]; exact hn) hL.1 rfl (lv_room hst') hd ⟨f3, f4⟩) hS0 hL (fun w P' nx' hk H1 locs1 hR1 hS1 => hk H1 locs1 ls hR1 hS1 hL)
theorem z_callI (hX : z_is X l me rm) {y2 : z_M} {rm2 : Room} {S : z_PT} {idx n a : Nat} {As : List Value} (hS : z_Sp l y2 rm2 S) (hl : z_MI me.1.cls idx y2 n) (hn : As.length = n) (hrm : z_fitR y2 rm2 rm u v) (hst : (st.map Value.category).sum ≤ 8) (hd : decode me.2.1 pc = .ok (.invokespecial idx, 3)) (kk : S (.ref a :: As) P nx (fun w P' nx' => z_W X (pc + 3) lv (w.toList ++ st) P' nx' (u + rm2.cells) (v + rm2.slots))) : z_W X pc lv (As.reverse ++ .ref a :: st) P nx u v := by
  obtain ⟨p, l, e, R, s, m, args, below, meth, c, cc, nL, own, D, cy, b, B, Q⟩ := X
  obtain ⟨yn, yc, yL, yr⟩ := me
  obtain ⟨⟨hx, hb, hml, hown, hts, hK, hB⟩, rfl, rfl, rfl, rfl, rfl⟩ := hX
  obtain ⟨⟨w1, w2, w3, w4, w5⟩, w6, w7, w8⟩ := hl
  obtain ⟨f1, f2, f3, f4⟩ := hrm
  intro H locs ls hR hS0 hL
  have hpV : PreS s H (z_Pc D cy b B (.ref a :: As) P nx) (.ref (z_ad b B a) :: As.map (z_V b B)) := ⟨z_Pc.blind, fun U hU hW => ⟨rfl, hK.warm hW, by rw [hU]; exact hR, by rw [hU]; exact Nat.le_trans hB hS0.1⟩⟩
  have hst' : ((st.map (z_V b B)).map fun v => v.category).sum ≤ 8 := by rw [z_catsum]; exact hst
  have w1' : Cond.code y2.1 y2.2.1 y2.2.2.1 none ∈ z_T := by rw [← w8]; exact w1
  have w9 : Cond.code y2.1 y2.2.1 y2.2.2.1 none ∈ z_ws y2 := by rw [← w8]; exact List.mem_cons_self
  rw [List.map_append, List.map_reverse]
  rcases w5 with w5 | ⟨host, w5⟩
  · exact z_back (va_runI (n := n) ⟨hx, hb, hml, hown, hts⟩ (hS D cy b B _ P nx _ kk) ⟨⟨rfl, rfl, f1, f2, pay_in hts (z_goodW w1), w9, hts _ w1', hts _ w2, w3, z_lenP w4, hts _ w5⟩, w7, hts _ w6⟩ hpV rfl (by rw [List.length_map]; exact hn) hL.1 rfl (lv_room hst') hd ⟨f3, f4⟩) hS0 hL (fun w P' nx' hk H1 locs1 hR1 hS1 => hk H1 locs1 ls hR1 hS1 hL)
  · exact z_back (va_runIN (n := n) ⟨hx, hb, hml, hown, hts⟩ (hS D cy b B _ P nx _ kk) ⟨⟨⟨rfl, rfl, f1, f2, pay_in hts (z_goodW w1), w9⟩, hts _ w1', hts _ w2, w3, z_lenP w4, va_Nw.use rfl (hK.2.2.2 _ w5)⟩, w7, hts _ w6⟩ hpV rfl (by rw [List.length_map]; exact hn) hL.1 rfl (lv_room hst') hd ⟨f3, f4⟩) hS0 hL (fun w P' nx' hk H1 locs1 hR1 hS1 => hk H1 locs1 ls hR1 hS1 hL)
/-- Object's constructor -/
theorem z_objI (hX : z_is X l me rm) {idx a : Nat} (h1 : Cond.methodLink me.1.cls idx objectInit ∈ z_T) (h2 : Cond.instanceMethod objectInit ∈ z_T) (h3 : Cond.code objectInit ⟨#[0xb1]⟩ 1 none ∈ z_T) (hf : 1 ≤ rm.frames) (hlo : (st.map Value.category).sum + 12 ≤ rm.locals) (hd : decode me.2.1 pc = .ok (.invokespecial idx, 3)) (kk : z_W X (pc + 3) lv st P nx u v) : z_W X pc lv (.ref a :: st) P nx u v := by
  obtain ⟨p, l, e, R, s, m, args, below, meth, c, cc, nL, own, D, cy, b, B, Q⟩ := X
  obtain ⟨yn, yc, yL, yr⟩ := me
  obtain ⟨⟨hx, hb, hml, hown, hts, hK, hB⟩, rfl, rfl, rfl, rfl, rfl⟩ := hX
  intro H locs ls hR hS hL
  refine W.objInit hx hb hown (hts _ h1) (hts _ h2) (hts _ h3) rfl (by rw [hml]; exact hL.1) (a := z_ad b B a) (rest := st.map (z_V b B)) rfl hd hf ?_ (kk H locs ls hR hS hL)
  show 2 * 0 + ((st.map (z_V b B)).map fun v => v.category).sum + 12 ≤ R.locals
  rw [z_catsum]
  omega
end ZC
end
