/-! what each instruction is -/
theorem d4_init_0 : decode M4_init.2.1 0 = .ok (.aload_n 0, 1) := by decide +kernel
theorem d4_init_1 : decode M4_init.2.1 1 = .ok (.invokespecial 3, 3) := by decide +kernel
theorem d4_init_4 : decode M4_init.2.1 4 = .ok (.aload_n 0, 1) := by decide +kernel
theorem d4_init_5 : decode M4_init.2.1 5 = .ok (.bipush 9, 2) := by decide +kernel
theorem d4_init_7 : decode M4_init.2.1 7 = .ok (.newarray .int, 2) := by decide +kernel
theorem d4_init_9 : decode M4_init.2.1 9 = .ok (.putfield 9, 3) := by decide +kernel
theorem d4_init_12 : decode M4_init.2.1 12 = .ok (.aload_n 0, 1) := by decide +kernel
theorem d4_init_13 : decode M4_init.2.1 13 = .ok (.bipush 9, 2) := by decide +kernel
theorem d4_init_15 : decode M4_init.2.1 15 = .ok (.newarray .int, 2) := by decide +kernel
theorem d4_init_17 : decode M4_init.2.1 17 = .ok (.putfield 15, 3) := by decide +kernel
theorem d4_init_20 : decode M4_init.2.1 20 = .ok (.aload_n 0, 1) := by decide +kernel
theorem d4_init_21 : decode M4_init.2.1 21 = .ok (.bipush 9, 2) := by decide +kernel
theorem d4_init_23 : decode M4_init.2.1 23 = .ok (.iconst 4, 1) := by decide +kernel
theorem d4_init_24 : decode M4_init.2.1 24 = .ok (.multianewarray 18 2, 4) := by decide +kernel
theorem d4_init_28 : decode M4_init.2.1 28 = .ok (.putfield 20, 3) := by decide +kernel
theorem d4_init_31 : decode M4_init.2.1 31 = .ok (.aload_n 0, 1) := by decide +kernel
theorem d4_init_32 : decode M4_init.2.1 32 = .ok (.bipush 9, 2) := by decide +kernel
theorem d4_init_34 : decode M4_init.2.1 34 = .ok (.iconst 4, 1) := by decide +kernel
theorem d4_init_35 : decode M4_init.2.1 35 = .ok (.multianewarray 18 2, 4) := by decide +kernel
theorem d4_init_39 : decode M4_init.2.1 39 = .ok (.putfield 23, 3) := by decide +kernel
theorem d4_init_42 : decode M4_init.2.1 42 = .ok (.return_, 1) := by decide +kernel
theorem d4_addClause_0 : decode M4_addClause.2.1 0 = .ok (.aload_n 0, 1) := by decide +kernel
theorem d4_addClause_1 : decode M4_addClause.2.1 1 = .ok (.getfield 26, 3) := by decide +kernel
theorem d4_addClause_4 : decode M4_addClause.2.1 4 = .ok (.bipush 9, 2) := by decide +kernel
theorem d4_addClause_6 : decode M4_addClause.2.1 6 = .ok (.if_icmp .ge 33, 3) := by decide +kernel
theorem d4_addClause_9 : decode M4_addClause.2.1 9 = .ok (.aload_n 0, 1) := by decide +kernel
theorem d4_addClause_10 : decode M4_addClause.2.1 10 = .ok (.getfield 9, 3) := by decide +kernel
theorem d4_addClause_13 : decode M4_addClause.2.1 13 = .ok (.aload_n 0, 1) := by decide +kernel
theorem d4_addClause_14 : decode M4_addClause.2.1 14 = .ok (.getfield 26, 3) := by decide +kernel
theorem d4_addClause_17 : decode M4_addClause.2.1 17 = .ok (.iload_n 1, 1) := by decide +kernel
theorem d4_addClause_18 : decode M4_addClause.2.1 18 = .ok (.iastore, 1) := by decide +kernel
theorem d4_addClause_19 : decode M4_addClause.2.1 19 = .ok (.aload_n 0, 1) := by decide +kernel
theorem d4_addClause_20 : decode M4_addClause.2.1 20 = .ok (.getfield 15, 3) := by decide +kernel
theorem d4_addClause_23 : decode M4_addClause.2.1 23 = .ok (.aload_n 0, 1) := by decide +kernel
theorem d4_addClause_24 : decode M4_addClause.2.1 24 = .ok (.getfield 26, 3) := by decide +kernel
theorem d4_addClause_27 : decode M4_addClause.2.1 27 = .ok (.iconst 0, 1) := by decide +kernel
theorem d4_addClause_28 : decode M4_addClause.2.1 28 = .ok (.iastore, 1) := by decide +kernel
theorem d4_addClause_29 : decode M4_addClause.2.1 29 = .ok (.aload_n 0, 1) := by decide +kernel
theorem d4_addClause_30 : decode M4_addClause.2.1 30 = .ok (.dup, 1) := by decide +kernel
theorem d4_addClause_31 : decode M4_addClause.2.1 31 = .ok (.getfield 26, 3) := by decide +kernel
theorem d4_addClause_34 : decode M4_addClause.2.1 34 = .ok (.iconst 1, 1) := by decide +kernel
theorem d4_addClause_35 : decode M4_addClause.2.1 35 = .ok (.iadd, 1) := by decide +kernel
theorem d4_addClause_36 : decode M4_addClause.2.1 36 = .ok (.putfield 26, 3) := by decide +kernel
theorem d4_addClause_39 : decode M4_addClause.2.1 39 = .ok (.return_, 1) := by decide +kernel
theorem d4_addSpanToLast_0 : decode M4_addSpanToLast.2.1 0 = .ok (.aload_n 0, 1) := by decide +kernel
theorem d4_addSpanToLast_1 : decode M4_addSpanToLast.2.1 1 = .ok (.getfield 26, 3) := by decide +kernel
theorem d4_addSpanToLast_4 : decode M4_addSpanToLast.2.1 4 = .ok (.iconst 1, 1) := by decide +kernel
theorem d4_addSpanToLast_5 : decode M4_addSpanToLast.2.1 5 = .ok (.isub, 1) := by decide +kernel
theorem d4_addSpanToLast_6 : decode M4_addSpanToLast.2.1 6 = .ok (.istore_n 3, 1) := by decide +kernel
theorem d4_addSpanToLast_7 : decode M4_addSpanToLast.2.1 7 = .ok (.iload_n 3, 1) := by decide +kernel
theorem d4_addSpanToLast_8 : decode M4_addSpanToLast.2.1 8 = .ok (.ifCond .lt 51, 3) := by decide +kernel
theorem d4_addSpanToLast_11 : decode M4_addSpanToLast.2.1 11 = .ok (.aload_n 0, 1) := by decide +kernel
theorem d4_addSpanToLast_12 : decode M4_addSpanToLast.2.1 12 = .ok (.getfield 15, 3) := by decide +kernel
theorem d4_addSpanToLast_15 : decode M4_addSpanToLast.2.1 15 = .ok (.iload_n 3, 1) := by decide +kernel
theorem d4_addSpanToLast_16 : decode M4_addSpanToLast.2.1 16 = .ok (.iaload, 1) := by decide +kernel
theorem d4_addSpanToLast_17 : decode M4_addSpanToLast.2.1 17 = .ok (.iconst 4, 1) := by decide +kernel
theorem d4_addSpanToLast_18 : decode M4_addSpanToLast.2.1 18 = .ok (.if_icmp .ge 41, 3) := by decide +kernel
theorem d4_addSpanToLast_21 : decode M4_addSpanToLast.2.1 21 = .ok (.aload_n 0, 1) := by decide +kernel
theorem d4_addSpanToLast_22 : decode M4_addSpanToLast.2.1 22 = .ok (.getfield 15, 3) := by decide +kernel
theorem d4_addSpanToLast_25 : decode M4_addSpanToLast.2.1 25 = .ok (.iload_n 3, 1) := by decide +kernel
theorem d4_addSpanToLast_26 : decode M4_addSpanToLast.2.1 26 = .ok (.iaload, 1) := by decide +kernel
theorem d4_addSpanToLast_27 : decode M4_addSpanToLast.2.1 27 = .ok (.istore 4, 2) := by decide +kernel
theorem d4_addSpanToLast_29 : decode M4_addSpanToLast.2.1 29 = .ok (.aload_n 0, 1) := by decide +kernel
theorem d4_addSpanToLast_30 : decode M4_addSpanToLast.2.1 30 = .ok (.getfield 20, 3) := by decide +kernel
theorem d4_addSpanToLast_33 : decode M4_addSpanToLast.2.1 33 = .ok (.iload_n 3, 1) := by decide +kernel
theorem d4_addSpanToLast_34 : decode M4_addSpanToLast.2.1 34 = .ok (.aaload, 1) := by decide +kernel
theorem d4_addSpanToLast_35 : decode M4_addSpanToLast.2.1 35 = .ok (.iload 4, 2) := by decide +kernel
theorem d4_addSpanToLast_37 : decode M4_addSpanToLast.2.1 37 = .ok (.iload_n 1, 1) := by decide +kernel
theorem d4_addSpanToLast_38 : decode M4_addSpanToLast.2.1 38 = .ok (.iastore, 1) := by decide +kernel
theorem d4_addSpanToLast_39 : decode M4_addSpanToLast.2.1 39 = .ok (.aload_n 0, 1) := by decide +kernel
theorem d4_addSpanToLast_40 : decode M4_addSpanToLast.2.1 40 = .ok (.getfield 23, 3) := by decide +kernel
theorem d4_addSpanToLast_43 : decode M4_addSpanToLast.2.1 43 = .ok (.iload_n 3, 1) := by decide +kernel
theorem d4_addSpanToLast_44 : decode M4_addSpanToLast.2.1 44 = .ok (.aaload, 1) := by decide +kernel
theorem d4_addSpanToLast_45 : decode M4_addSpanToLast.2.1 45 = .ok (.iload 4, 2) := by decide +kernel
theorem d4_addSpanToLast_47 : decode M4_addSpanToLast.2.1 47 = .ok (.iload_n 2, 1) := by decide +kernel
theorem d4_addSpanToLast_48 : decode M4_addSpanToLast.2.1 48 = .ok (.iastore, 1) := by decide +kernel
theorem d4_addSpanToLast_49 : decode M4_addSpanToLast.2.1 49 = .ok (.aload_n 0, 1) := by decide +kernel
theorem d4_addSpanToLast_50 : decode M4_addSpanToLast.2.1 50 = .ok (.getfield 15, 3) := by decide +kernel
theorem d4_addSpanToLast_53 : decode M4_addSpanToLast.2.1 53 = .ok (.iload_n 3, 1) := by decide +kernel
theorem d4_addSpanToLast_54 : decode M4_addSpanToLast.2.1 54 = .ok (.dup2, 1) := by decide +kernel
theorem d4_addSpanToLast_55 : decode M4_addSpanToLast.2.1 55 = .ok (.iaload, 1) := by decide +kernel
theorem d4_addSpanToLast_56 : decode M4_addSpanToLast.2.1 56 = .ok (.iconst 1, 1) := by decide +kernel
theorem d4_addSpanToLast_57 : decode M4_addSpanToLast.2.1 57 = .ok (.iadd, 1) := by decide +kernel
theorem d4_addSpanToLast_58 : decode M4_addSpanToLast.2.1 58 = .ok (.iastore, 1) := by decide +kernel
theorem d4_addSpanToLast_59 : decode M4_addSpanToLast.2.1 59 = .ok (.return_, 1) := by decide +kernel
theorem d4_kindOf_0 : decode M4_kindOf.2.1 0 = .ok (.iconst 0, 1) := by decide +kernel
theorem d4_kindOf_1 : decode M4_kindOf.2.1 1 = .ok (.istore 4, 2) := by decide +kernel
theorem d4_kindOf_3 : decode M4_kindOf.2.1 3 = .ok (.iload 4, 2) := by decide +kernel
theorem d4_kindOf_5 : decode M4_kindOf.2.1 5 = .ok (.aload_n 0, 1) := by decide +kernel
theorem d4_kindOf_6 : decode M4_kindOf.2.1 6 = .ok (.getfield 26, 3) := by decide +kernel
theorem d4_kindOf_9 : decode M4_kindOf.2.1 9 = .ok (.if_icmp .ge 39, 3) := by decide +kernel
theorem d4_kindOf_12 : decode M4_kindOf.2.1 12 = .ok (.aload_n 0, 1) := by decide +kernel
theorem d4_kindOf_13 : decode M4_kindOf.2.1 13 = .ok (.getfield 15, 3) := by decide +kernel
theorem d4_kindOf_16 : decode M4_kindOf.2.1 16 = .ok (.iload 4, 2) := by decide +kernel
theorem d4_kindOf_18 : decode M4_kindOf.2.1 18 = .ok (.iaload, 1) := by decide +kernel
theorem d4_kindOf_19 : decode M4_kindOf.2.1 19 = .ok (.iload_n 3, 1) := by decide +kernel
theorem d4_kindOf_20 : decode M4_kindOf.2.1 20 = .ok (.if_icmp .ne 22, 3) := by decide +kernel
theorem d4_kindOf_23 : decode M4_kindOf.2.1 23 = .ok (.aload_n 0, 1) := by decide +kernel
theorem d4_kindOf_24 : decode M4_kindOf.2.1 24 = .ok (.iload 4, 2) := by decide +kernel
theorem d4_kindOf_26 : decode M4_kindOf.2.1 26 = .ok (.aload_n 1, 1) := by decide +kernel
theorem d4_kindOf_27 : decode M4_kindOf.2.1 27 = .ok (.iload_n 2, 1) := by decide +kernel
theorem d4_kindOf_28 : decode M4_kindOf.2.1 28 = .ok (.invokevirtual 30, 3) := by decide +kernel
theorem d4_kindOf_31 : decode M4_kindOf.2.1 31 = .ok (.ifCond .eq 11, 3) := by decide +kernel
theorem d4_kindOf_34 : decode M4_kindOf.2.1 34 = .ok (.aload_n 0, 1) := by decide +kernel
theorem d4_kindOf_35 : decode M4_kindOf.2.1 35 = .ok (.getfield 9, 3) := by decide +kernel
theorem d4_kindOf_38 : decode M4_kindOf.2.1 38 = .ok (.iload 4, 2) := by decide +kernel
theorem d4_kindOf_40 : decode M4_kindOf.2.1 40 = .ok (.iaload, 1) := by decide +kernel
theorem d4_kindOf_41 : decode M4_kindOf.2.1 41 = .ok (.ireturn, 1) := by decide +kernel
theorem d4_kindOf_42 : decode M4_kindOf.2.1 42 = .ok (.iinc 4 1, 3) := by decide +kernel
theorem d4_kindOf_45 : decode M4_kindOf.2.1 45 = .ok (.goto (-42), 3) := by decide +kernel
theorem d4_kindOf_48 : decode M4_kindOf.2.1 48 = .ok (.bipush 9, 2) := by decide +kernel
theorem d4_kindOf_50 : decode M4_kindOf.2.1 50 = .ok (.ireturn, 1) := by decide +kernel
theorem d4_isWithin_0 : decode M4_isWithin.2.1 0 = .ok (.iconst 0, 1) := by decide +kernel
theorem d4_isWithin_1 : decode M4_isWithin.2.1 1 = .ok (.istore 4, 2) := by decide +kernel
theorem d4_isWithin_3 : decode M4_isWithin.2.1 3 = .ok (.iload 4, 2) := by decide +kernel
theorem d4_isWithin_5 : decode M4_isWithin.2.1 5 = .ok (.aload_n 0, 1) := by decide +kernel
theorem d4_isWithin_6 : decode M4_isWithin.2.1 6 = .ok (.getfield 15, 3) := by decide +kernel
theorem d4_isWithin_9 : decode M4_isWithin.2.1 9 = .ok (.iload_n 1, 1) := by decide +kernel
theorem d4_isWithin_10 : decode M4_isWithin.2.1 10 = .ok (.iaload, 1) := by decide +kernel
theorem d4_isWithin_11 : decode M4_isWithin.2.1 11 = .ok (.if_icmp .ge 49, 3) := by decide +kernel
theorem d4_isWithin_14 : decode M4_isWithin.2.1 14 = .ok (.aload_n 2, 1) := by decide +kernel
theorem d4_isWithin_15 : decode M4_isWithin.2.1 15 = .ok (.iload_n 3, 1) := by decide +kernel
theorem d4_isWithin_16 : decode M4_isWithin.2.1 16 = .ok (.iload 4, 2) := by decide +kernel
theorem d4_isWithin_18 : decode M4_isWithin.2.1 18 = .ok (.iadd, 1) := by decide +kernel
theorem d4_isWithin_19 : decode M4_isWithin.2.1 19 = .ok (.invokevirtual 34, 3) := by decide +kernel
theorem d4_isWithin_22 : decode M4_isWithin.2.1 22 = .ok (.istore 5, 2) := by decide +kernel
theorem d4_isWithin_24 : decode M4_isWithin.2.1 24 = .ok (.iload 5, 2) := by decide +kernel
theorem d4_isWithin_26 : decode M4_isWithin.2.1 26 = .ok (.aload_n 0, 1) := by decide +kernel
theorem d4_isWithin_27 : decode M4_isWithin.2.1 27 = .ok (.getfield 20, 3) := by decide +kernel
theorem d4_isWithin_30 : decode M4_isWithin.2.1 30 = .ok (.iload_n 1, 1) := by decide +kernel
theorem d4_isWithin_31 : decode M4_isWithin.2.1 31 = .ok (.aaload, 1) := by decide +kernel
theorem d4_isWithin_32 : decode M4_isWithin.2.1 32 = .ok (.iload 4, 2) := by decide +kernel
theorem d4_isWithin_34 : decode M4_isWithin.2.1 34 = .ok (.iaload, 1) := by decide +kernel
theorem d4_isWithin_35 : decode M4_isWithin.2.1 35 = .ok (.if_icmp .lt 17, 3) := by decide +kernel
theorem d4_isWithin_38 : decode M4_isWithin.2.1 38 = .ok (.iload 5, 2) := by decide +kernel
theorem d4_isWithin_40 : decode M4_isWithin.2.1 40 = .ok (.aload_n 0, 1) := by decide +kernel
theorem d4_isWithin_41 : decode M4_isWithin.2.1 41 = .ok (.getfield 23, 3) := by decide +kernel
theorem d4_isWithin_44 : decode M4_isWithin.2.1 44 = .ok (.iload_n 1, 1) := by decide +kernel
theorem d4_isWithin_45 : decode M4_isWithin.2.1 45 = .ok (.aaload, 1) := by decide +kernel
theorem d4_isWithin_46 : decode M4_isWithin.2.1 46 = .ok (.iload 4, 2) := by decide +kernel
theorem d4_isWithin_48 : decode M4_isWithin.2.1 48 = .ok (.iaload, 1) := by decide +kernel
theorem d4_isWithin_49 : decode M4_isWithin.2.1 49 = .ok (.if_icmp .le 5, 3) := by decide +kernel
theorem d4_isWithin_52 : decode M4_isWithin.2.1 52 = .ok (.iconst 0, 1) := by decide +kernel
theorem d4_isWithin_53 : decode M4_isWithin.2.1 53 = .ok (.ireturn, 1) := by decide +kernel
theorem d4_isWithin_54 : decode M4_isWithin.2.1 54 = .ok (.iinc 4 1, 3) := by decide +kernel
theorem d4_isWithin_57 : decode M4_isWithin.2.1 57 = .ok (.goto (-54), 3) := by decide +kernel
theorem d4_isWithin_60 : decode M4_isWithin.2.1 60 = .ok (.iconst 1, 1) := by decide +kernel
theorem d4_isWithin_61 : decode M4_isWithin.2.1 61 = .ok (.ireturn, 1) := by decide +kernel
theorem d5_init_0 : decode M5_init.2.1 0 = .ok (.aload_n 0, 1) := by decide +kernel
theorem d5_init_1 : decode M5_init.2.1 1 = .ok (.invokespecial 3, 3) := by decide +kernel
theorem d5_init_4 : decode M5_init.2.1 4 = .ok (.aload_n 0, 1) := by decide +kernel
theorem d5_init_5 : decode M5_init.2.1 5 = .ok (.aload_n 1, 1) := by decide +kernel
theorem d5_init_6 : decode M5_init.2.1 6 = .ok (.putfield 9, 3) := by decide +kernel
theorem d5_init_9 : decode M5_init.2.1 9 = .ok (.return_, 1) := by decide +kernel
theorem d5_read_0 : decode M5_read.2.1 0 = .ok (.aload_n 0, 1) := by decide +kernel
theorem d5_read_1 : decode M5_read.2.1 1 = .ok (.iload_n 1, 1) := by decide +kernel
theorem d5_read_2 : decode M5_read.2.1 2 = .ok (.putfield 15, 3) := by decide +kernel
theorem d5_read_5 : decode M5_read.2.1 5 = .ok (.aload_n 0, 1) := by decide +kernel
theorem d5_read_6 : decode M5_read.2.1 6 = .ok (.iconst 0, 1) := by decide +kernel
theorem d5_read_7 : decode M5_read.2.1 7 = .ok (.putfield 19, 3) := by decide +kernel
theorem d5_read_10 : decode M5_read.2.1 10 = .ok (.aload_n 2, 1) := by decide +kernel
theorem d5_read_11 : decode M5_read.2.1 11 = .ok (.iconst 0, 1) := by decide +kernel
theorem d5_read_12 : decode M5_read.2.1 12 = .ok (.putfield 22, 3) := by decide +kernel
theorem d5_read_15 : decode M5_read.2.1 15 = .ok (.iconst 0, 1) := by decide +kernel
theorem d5_read_16 : decode M5_read.2.1 16 = .ok (.istore_n 3, 1) := by decide +kernel
theorem d5_read_17 : decode M5_read.2.1 17 = .ok (.iload_n 1, 1) := by decide +kernel
theorem d5_read_18 : decode M5_read.2.1 18 = .ok (.ifCond .le 7, 3) := by decide +kernel
theorem d5_read_21 : decode M5_read.2.1 21 = .ok (.iconst 1, 1) := by decide +kernel
theorem d5_read_22 : decode M5_read.2.1 22 = .ok (.goto 4, 3) := by decide +kernel
theorem d5_read_25 : decode M5_read.2.1 25 = .ok (.iconst 0, 1) := by decide +kernel
theorem d5_read_26 : decode M5_read.2.1 26 = .ok (.istore 4, 2) := by decide +kernel
theorem d5_read_28 : decode M5_read.2.1 28 = .ok (.iconst 0, 1) := by decide +kernel
theorem d5_read_29 : decode M5_read.2.1 29 = .ok (.istore 5, 2) := by decide +kernel
theorem d5_read_31 : decode M5_read.2.1 31 = .ok (.iload 4, 2) := by decide +kernel
theorem d5_read_33 : decode M5_read.2.1 33 = .ok (.ifCond .eq 57, 3) := by decide +kernel
theorem d5_read_36 : decode M5_read.2.1 36 = .ok (.iload 5, 2) := by decide +kernel
theorem d5_read_38 : decode M5_read.2.1 38 = .ok (.bipush 9, 2) := by decide +kernel
theorem d5_read_40 : decode M5_read.2.1 40 = .ok (.if_icmp .gt 50, 3) := by decide +kernel
theorem d5_read_43 : decode M5_read.2.1 43 = .ok (.aload_n 0, 1) := by decide +kernel
theorem d5_read_44 : decode M5_read.2.1 44 = .ok (.aload_n 2, 1) := by decide +kernel
theorem d5_read_45 : decode M5_read.2.1 45 = .ok (.invokevirtual 27, 3) := by decide +kernel
theorem d5_read_48 : decode M5_read.2.1 48 = .ok (.istore_n 3, 1) := by decide +kernel
theorem d5_read_49 : decode M5_read.2.1 49 = .ok (.iload_n 3, 1) := by decide +kernel
theorem d5_read_50 : decode M5_read.2.1 50 = .ok (.ifCond .ne 16, 3) := by decide +kernel
theorem d5_read_53 : decode M5_read.2.1 53 = .ok (.aload_n 0, 1) := by decide +kernel
theorem d5_read_54 : decode M5_read.2.1 54 = .ok (.invokevirtual 31, 3) := by decide +kernel
theorem d5_read_57 : decode M5_read.2.1 57 = .ok (.bipush 59, 2) := by decide +kernel
theorem d5_read_59 : decode M5_read.2.1 59 = .ok (.if_icmp .ne 7, 3) := by decide +kernel
theorem d5_read_62 : decode M5_read.2.1 62 = .ok (.iconst 1, 1) := by decide +kernel
theorem d5_read_63 : decode M5_read.2.1 63 = .ok (.goto 4, 3) := by decide +kernel
theorem d5_read_66 : decode M5_read.2.1 66 = .ok (.iconst 0, 1) := by decide +kernel
theorem d5_read_67 : decode M5_read.2.1 67 = .ok (.istore 4, 2) := by decide +kernel
theorem d5_read_69 : decode M5_read.2.1 69 = .ok (.iload 4, 2) := by decide +kernel
theorem d5_read_71 : decode M5_read.2.1 71 = .ok (.ifCond .eq 13, 3) := by decide +kernel
theorem d5_read_74 : decode M5_read.2.1 74 = .ok (.aload_n 0, 1) := by decide +kernel
theorem d5_read_75 : decode M5_read.2.1 75 = .ok (.dup, 1) := by decide +kernel
theorem d5_read_76 : decode M5_read.2.1 76 = .ok (.getfield 19, 3) := by decide +kernel
theorem d5_read_79 : decode M5_read.2.1 79 = .ok (.iconst 1, 1) := by decide +kernel
theorem d5_read_80 : decode M5_read.2.1 80 = .ok (.iadd, 1) := by decide +kernel
theorem d5_read_81 : decode M5_read.2.1 81 = .ok (.putfield 19, 3) := by decide +kernel
theorem d5_read_84 : decode M5_read.2.1 84 = .ok (.iinc 5 1, 3) := by decide +kernel
theorem d5_read_87 : decode M5_read.2.1 87 = .ok (.goto (-56), 3) := by decide +kernel
theorem d5_read_90 : decode M5_read.2.1 90 = .ok (.iload_n 3, 1) := by decide +kernel
theorem d5_read_91 : decode M5_read.2.1 91 = .ok (.ireturn, 1) := by decide +kernel
theorem d5_readClause_0 : decode M5_readClause.2.1 0 = .ok (.aload_n 0, 1) := by decide +kernel
theorem d5_readClause_1 : decode M5_readClause.2.1 1 = .ok (.invokevirtual 31, 3) := by decide +kernel
theorem d5_readClause_4 : decode M5_readClause.2.1 4 = .ok (.istore_n 2, 1) := by decide +kernel
theorem d5_readClause_5 : decode M5_readClause.2.1 5 = .ok (.iload_n 2, 1) := by decide +kernel
theorem d5_readClause_6 : decode M5_readClause.2.1 6 = .ok (.invokestatic 35, 3) := by decide +kernel
theorem d5_readClause_9 : decode M5_readClause.2.1 9 = .ok (.ifCond .ne 11, 3) := by decide +kernel
theorem d5_readClause_12 : decode M5_readClause.2.1 12 = .ok (.bipush 100, 2) := by decide +kernel
theorem d5_readClause_14 : decode M5_readClause.2.1 14 = .ok (.aload_n 0, 1) := by decide +kernel
theorem d5_readClause_15 : decode M5_readClause.2.1 15 = .ok (.getfield 19, 3) := by decide +kernel
theorem d5_readClause_18 : decode M5_readClause.2.1 18 = .ok (.iadd, 1) := by decide +kernel
theorem d5_readClause_19 : decode M5_readClause.2.1 19 = .ok (.ireturn, 1) := by decide +kernel
theorem d5_readClause_20 : decode M5_readClause.2.1 20 = .ok (.aload_n 1, 1) := by decide +kernel
theorem d5_readClause_21 : decode M5_readClause.2.1 21 = .ok (.getfield 22, 3) := by decide +kernel
theorem d5_readClause_24 : decode M5_readClause.2.1 24 = .ok (.bipush 9, 2) := by decide +kernel
theorem d5_readClause_26 : decode M5_readClause.2.1 26 = .ok (.if_icmp .lt 12, 3) := by decide +kernel
theorem d5_readClause_29 : decode M5_readClause.2.1 29 = .ok (.sipush 400, 3) := by decide +kernel
theorem d5_readClause_32 : decode M5_readClause.2.1 32 = .ok (.aload_n 0, 1) := by decide +kernel
theorem d5_readClause_33 : decode M5_readClause.2.1 33 = .ok (.getfield 19, 3) := by decide +kernel
theorem d5_readClause_36 : decode M5_readClause.2.1 36 = .ok (.iadd, 1) := by decide +kernel
theorem d5_readClause_37 : decode M5_readClause.2.1 37 = .ok (.ireturn, 1) := by decide +kernel
theorem d5_readClause_38 : decode M5_readClause.2.1 38 = .ok (.iload_n 2, 1) := by decide +kernel
theorem d5_readClause_39 : decode M5_readClause.2.1 39 = .ok (.bipush 57, 2) := by decide +kernel
theorem d5_readClause_41 : decode M5_readClause.2.1 41 = .ok (.if_icmp .ne 12, 3) := by decide +kernel
theorem d5_readClause_44 : decode M5_readClause.2.1 44 = .ok (.sipush 200, 3) := by decide +kernel
theorem d5_readClause_47 : decode M5_readClause.2.1 47 = .ok (.aload_n 0, 1) := by decide +kernel
theorem d5_readClause_48 : decode M5_readClause.2.1 48 = .ok (.getfield 19, 3) := by decide +kernel
theorem d5_readClause_51 : decode M5_readClause.2.1 51 = .ok (.iadd, 1) := by decide +kernel
theorem d5_readClause_52 : decode M5_readClause.2.1 52 = .ok (.ireturn, 1) := by decide +kernel
theorem d5_readClause_53 : decode M5_readClause.2.1 53 = .ok (.aload_n 1, 1) := by decide +kernel
theorem d5_readClause_54 : decode M5_readClause.2.1 54 = .ok (.iload_n 2, 1) := by decide +kernel
theorem d5_readClause_55 : decode M5_readClause.2.1 55 = .ok (.bipush 48, 2) := by decide +kernel
theorem d5_readClause_57 : decode M5_readClause.2.1 57 = .ok (.isub, 1) := by decide +kernel
theorem d5_readClause_58 : decode M5_readClause.2.1 58 = .ok (.invokevirtual 39, 3) := by decide +kernel
theorem d5_readClause_61 : decode M5_readClause.2.1 61 = .ok (.aload_n 0, 1) := by decide +kernel
theorem d5_readClause_62 : decode M5_readClause.2.1 62 = .ok (.dup, 1) := by decide +kernel
theorem d5_readClause_63 : decode M5_readClause.2.1 63 = .ok (.getfield 19, 3) := by decide +kernel
theorem d5_readClause_66 : decode M5_readClause.2.1 66 = .ok (.iconst 1, 1) := by decide +kernel
theorem d5_readClause_67 : decode M5_readClause.2.1 67 = .ok (.iadd, 1) := by decide +kernel
theorem d5_readClause_68 : decode M5_readClause.2.1 68 = .ok (.putfield 19, 3) := by decide +kernel
theorem d5_readClause_71 : decode M5_readClause.2.1 71 = .ok (.aload_n 0, 1) := by decide +kernel
theorem d5_readClause_72 : decode M5_readClause.2.1 72 = .ok (.invokevirtual 31, 3) := by decide +kernel
theorem d5_readClause_75 : decode M5_readClause.2.1 75 = .ok (.bipush 58, 2) := by decide +kernel
theorem d5_readClause_77 : decode M5_readClause.2.1 77 = .ok (.if_icmp .eq 11, 3) := by decide +kernel
theorem d5_readClause_80 : decode M5_readClause.2.1 80 = .ok (.bipush 100, 2) := by decide +kernel
theorem d5_readClause_82 : decode M5_readClause.2.1 82 = .ok (.aload_n 0, 1) := by decide +kernel
theorem d5_readClause_83 : decode M5_readClause.2.1 83 = .ok (.getfield 19, 3) := by decide +kernel
theorem d5_readClause_86 : decode M5_readClause.2.1 86 = .ok (.iadd, 1) := by decide +kernel
theorem d5_readClause_87 : decode M5_readClause.2.1 87 = .ok (.ireturn, 1) := by decide +kernel
theorem d5_readClause_88 : decode M5_readClause.2.1 88 = .ok (.aload_n 0, 1) := by decide +kernel
theorem d5_readClause_89 : decode M5_readClause.2.1 89 = .ok (.aload_n 1, 1) := by decide +kernel
theorem d5_readClause_90 : decode M5_readClause.2.1 90 = .ok (.invokevirtual 43, 3) := by decide +kernel
theorem d5_readClause_93 : decode M5_readClause.2.1 93 = .ok (.ireturn, 1) := by decide +kernel
theorem d5_readSpans_0 : decode M5_readSpans.2.1 0 = .ok (.iconst 1, 1) := by decide +kernel
theorem d5_readSpans_1 : decode M5_readSpans.2.1 1 = .ok (.istore_n 2, 1) := by decide +kernel
theorem d5_readSpans_2 : decode M5_readSpans.2.1 2 = .ok (.iconst 0, 1) := by decide +kernel
theorem d5_readSpans_3 : decode M5_readSpans.2.1 3 = .ok (.istore_n 3, 1) := by decide +kernel
theorem d5_readSpans_4 : decode M5_readSpans.2.1 4 = .ok (.iload_n 2, 1) := by decide +kernel
theorem d5_readSpans_5 : decode M5_readSpans.2.1 5 = .ok (.ifCond .eq 54, 3) := by decide +kernel
theorem d5_readSpans_8 : decode M5_readSpans.2.1 8 = .ok (.iload_n 3, 1) := by decide +kernel
theorem d5_readSpans_9 : decode M5_readSpans.2.1 9 = .ok (.iconst 4, 1) := by decide +kernel
theorem d5_readSpans_10 : decode M5_readSpans.2.1 10 = .ok (.if_icmp .ge 49, 3) := by decide +kernel
theorem d5_readSpans_13 : decode M5_readSpans.2.1 13 = .ok (.aload_n 0, 1) := by decide +kernel
theorem d5_readSpans_14 : decode M5_readSpans.2.1 14 = .ok (.dup, 1) := by decide +kernel
theorem d5_readSpans_15 : decode M5_readSpans.2.1 15 = .ok (.getfield 19, 3) := by decide +kernel
theorem d5_readSpans_18 : decode M5_readSpans.2.1 18 = .ok (.iconst 1, 1) := by decide +kernel
theorem d5_readSpans_19 : decode M5_readSpans.2.1 19 = .ok (.iadd, 1) := by decide +kernel
theorem d5_readSpans_20 : decode M5_readSpans.2.1 20 = .ok (.putfield 19, 3) := by decide +kernel
theorem d5_readSpans_23 : decode M5_readSpans.2.1 23 = .ok (.aload_n 0, 1) := by decide +kernel
theorem d5_readSpans_24 : decode M5_readSpans.2.1 24 = .ok (.aload_n 1, 1) := by decide +kernel
theorem d5_readSpans_25 : decode M5_readSpans.2.1 25 = .ok (.invokevirtual 46, 3) := by decide +kernel
theorem d5_readSpans_28 : decode M5_readSpans.2.1 28 = .ok (.istore 4, 2) := by decide +kernel
theorem d5_readSpans_30 : decode M5_readSpans.2.1 30 = .ok (.iload 4, 2) := by decide +kernel
theorem d5_readSpans_32 : decode M5_readSpans.2.1 32 = .ok (.ifCond .eq 6, 3) := by decide +kernel
theorem d5_readSpans_35 : decode M5_readSpans.2.1 35 = .ok (.iload 4, 2) := by decide +kernel
theorem d5_readSpans_37 : decode M5_readSpans.2.1 37 = .ok (.ireturn, 1) := by decide +kernel
theorem d5_readSpans_38 : decode M5_readSpans.2.1 38 = .ok (.aload_n 0, 1) := by decide +kernel
theorem d5_readSpans_39 : decode M5_readSpans.2.1 39 = .ok (.invokevirtual 31, 3) := by decide +kernel
theorem d5_readSpans_42 : decode M5_readSpans.2.1 42 = .ok (.bipush 44, 2) := by decide +kernel
theorem d5_readSpans_44 : decode M5_readSpans.2.1 44 = .ok (.if_icmp .ne 7, 3) := by decide +kernel
theorem d5_readSpans_47 : decode M5_readSpans.2.1 47 = .ok (.iconst 1, 1) := by decide +kernel
theorem d5_readSpans_48 : decode M5_readSpans.2.1 48 = .ok (.goto 4, 3) := by decide +kernel
theorem d5_readSpans_51 : decode M5_readSpans.2.1 51 = .ok (.iconst 0, 1) := by decide +kernel
theorem d5_readSpans_52 : decode M5_readSpans.2.1 52 = .ok (.istore_n 2, 1) := by decide +kernel
theorem d5_readSpans_53 : decode M5_readSpans.2.1 53 = .ok (.iinc 3 1, 3) := by decide +kernel
theorem d5_readSpans_56 : decode M5_readSpans.2.1 56 = .ok (.goto (-52), 3) := by decide +kernel
theorem d5_readSpans_59 : decode M5_readSpans.2.1 59 = .ok (.aload_n 0, 1) := by decide +kernel
theorem d5_readSpans_60 : decode M5_readSpans.2.1 60 = .ok (.getfield 19, 3) := by decide +kernel
theorem d5_readSpans_63 : decode M5_readSpans.2.1 63 = .ok (.aload_n 0, 1) := by decide +kernel
theorem d5_readSpans_64 : decode M5_readSpans.2.1 64 = .ok (.getfield 15, 3) := by decide +kernel
theorem d5_readSpans_67 : decode M5_readSpans.2.1 67 = .ok (.if_icmp .ge 12, 3) := by decide +kernel
theorem d5_readSpans_70 : decode M5_readSpans.2.1 70 = .ok (.aload_n 0, 1) := by decide +kernel
theorem d5_readSpans_71 : decode M5_readSpans.2.1 71 = .ok (.invokevirtual 31, 3) := by decide +kernel
theorem d5_readSpans_74 : decode M5_readSpans.2.1 74 = .ok (.bipush 59, 2) := by decide +kernel
theorem d5_readSpans_76 : decode M5_readSpans.2.1 76 = .ok (.if_icmp .ne 7, 3) := by decide +kernel
theorem d5_readSpans_79 : decode M5_readSpans.2.1 79 = .ok (.iconst 0, 1) := by decide +kernel
theorem d5_readSpans_80 : decode M5_readSpans.2.1 80 = .ok (.goto 10, 3) := by decide +kernel
theorem d5_readSpans_83 : decode M5_readSpans.2.1 83 = .ok (.bipush 100, 2) := by decide +kernel
theorem d5_readSpans_85 : decode M5_readSpans.2.1 85 = .ok (.aload_n 0, 1) := by decide +kernel
theorem d5_readSpans_86 : decode M5_readSpans.2.1 86 = .ok (.getfield 19, 3) := by decide +kernel
theorem d5_readSpans_89 : decode M5_readSpans.2.1 89 = .ok (.iadd, 1) := by decide +kernel
theorem d5_readSpans_90 : decode M5_readSpans.2.1 90 = .ok (.ireturn, 1) := by decide +kernel
theorem d5_readSpan_0 : decode M5_readSpan.2.1 0 = .ok (.aload_n 0, 1) := by decide +kernel
theorem d5_readSpan_1 : decode M5_readSpan.2.1 1 = .ok (.iconst 0, 1) := by decide +kernel
theorem d5_readSpan_2 : decode M5_readSpan.2.1 2 = .ok (.invokevirtual 49, 3) := by decide +kernel
theorem d5_readSpan_5 : decode M5_readSpan.2.1 5 = .ok (.istore_n 2, 1) := by decide +kernel
theorem d5_readSpan_6 : decode M5_readSpan.2.1 6 = .ok (.iload_n 2, 1) := by decide +kernel
theorem d5_readSpan_7 : decode M5_readSpan.2.1 7 = .ok (.ifCond .eq 5, 3) := by decide +kernel
theorem d5_readSpan_10 : decode M5_readSpan.2.1 10 = .ok (.iload_n 2, 1) := by decide +kernel
theorem d5_readSpan_11 : decode M5_readSpan.2.1 11 = .ok (.ireturn, 1) := by decide +kernel
theorem d5_readSpan_12 : decode M5_readSpan.2.1 12 = .ok (.aload_n 0, 1) := by decide +kernel
theorem d5_readSpan_13 : decode M5_readSpan.2.1 13 = .ok (.getfield 53, 3) := by decide +kernel
theorem d5_readSpan_16 : decode M5_readSpan.2.1 16 = .ok (.istore_n 3, 1) := by decide +kernel
theorem d5_readSpan_17 : decode M5_readSpan.2.1 17 = .ok (.aload_n 0, 1) := by decide +kernel
theorem d5_readSpan_18 : decode M5_readSpan.2.1 18 = .ok (.invokevirtual 31, 3) := by decide +kernel
theorem d5_readSpan_21 : decode M5_readSpan.2.1 21 = .ok (.bipush 45, 2) := by decide +kernel
theorem d5_readSpan_23 : decode M5_readSpan.2.1 23 = .ok (.if_icmp .eq 11, 3) := by decide +kernel
theorem d5_readSpan_26 : decode M5_readSpan.2.1 26 = .ok (.bipush 100, 2) := by decide +kernel
theorem d5_readSpan_28 : decode M5_readSpan.2.1 28 = .ok (.aload_n 0, 1) := by decide +kernel
theorem d5_readSpan_29 : decode M5_readSpan.2.1 29 = .ok (.getfield 19, 3) := by decide +kernel
theorem d5_readSpan_32 : decode M5_readSpan.2.1 32 = .ok (.iadd, 1) := by decide +kernel
theorem d5_readSpan_33 : decode M5_readSpan.2.1 33 = .ok (.ireturn, 1) := by decide +kernel
theorem d5_readSpan_34 : decode M5_readSpan.2.1 34 = .ok (.aload_n 0, 1) := by decide +kernel
theorem d5_readSpan_35 : decode M5_readSpan.2.1 35 = .ok (.dup, 1) := by decide +kernel
theorem d5_readSpan_36 : decode M5_readSpan.2.1 36 = .ok (.getfield 19, 3) := by decide +kernel
theorem d5_readSpan_39 : decode M5_readSpan.2.1 39 = .ok (.iconst 1, 1) := by decide +kernel
theorem d5_readSpan_40 : decode M5_readSpan.2.1 40 = .ok (.iadd, 1) := by decide +kernel
theorem d5_readSpan_41 : decode M5_readSpan.2.1 41 = .ok (.putfield 19, 3) := by decide +kernel
theorem d5_readSpan_44 : decode M5_readSpan.2.1 44 = .ok (.aload_n 0, 1) := by decide +kernel
theorem d5_readSpan_45 : decode M5_readSpan.2.1 45 = .ok (.iload_n 3, 1) := by decide +kernel
theorem d5_readSpan_46 : decode M5_readSpan.2.1 46 = .ok (.invokevirtual 49, 3) := by decide +kernel
theorem d5_readSpan_49 : decode M5_readSpan.2.1 49 = .ok (.istore_n 2, 1) := by decide +kernel
theorem d5_readSpan_50 : decode M5_readSpan.2.1 50 = .ok (.iload_n 2, 1) := by decide +kernel
theorem d5_readSpan_51 : decode M5_readSpan.2.1 51 = .ok (.ifCond .ne 12, 3) := by decide +kernel
theorem d5_readSpan_54 : decode M5_readSpan.2.1 54 = .ok (.aload_n 1, 1) := by decide +kernel
theorem d5_readSpan_55 : decode M5_readSpan.2.1 55 = .ok (.iload_n 3, 1) := by decide +kernel
theorem d5_readSpan_56 : decode M5_readSpan.2.1 56 = .ok (.aload_n 0, 1) := by decide +kernel
theorem d5_readSpan_57 : decode M5_readSpan.2.1 57 = .ok (.getfield 53, 3) := by decide +kernel
theorem d5_readSpan_60 : decode M5_readSpan.2.1 60 = .ok (.invokevirtual 56, 3) := by decide +kernel
theorem d5_readSpan_63 : decode M5_readSpan.2.1 63 = .ok (.iload_n 2, 1) := by decide +kernel
theorem d5_readSpan_64 : decode M5_readSpan.2.1 64 = .ok (.ireturn, 1) := by decide +kernel
theorem d5_readNumber_0 : decode M5_readNumber.2.1 0 = .ok (.aload_n 0, 1) := by decide +kernel
theorem d5_readNumber_1 : decode M5_readNumber.2.1 1 = .ok (.getfield 19, 3) := by decide +kernel
theorem d5_readNumber_4 : decode M5_readNumber.2.1 4 = .ok (.istore_n 2, 1) := by decide +kernel
theorem d5_readNumber_5 : decode M5_readNumber.2.1 5 = .ok (.aload_n 0, 1) := by decide +kernel
theorem d5_readNumber_6 : decode M5_readNumber.2.1 6 = .ok (.iconst 0, 1) := by decide +kernel
theorem d5_readNumber_7 : decode M5_readNumber.2.1 7 = .ok (.putfield 53, 3) := by decide +kernel
theorem d5_readNumber_10 : decode M5_readNumber.2.1 10 = .ok (.aload_n 0, 1) := by decide +kernel
theorem d5_readNumber_11 : decode M5_readNumber.2.1 11 = .ok (.getfield 19, 3) := by decide +kernel
theorem d5_readNumber_14 : decode M5_readNumber.2.1 14 = .ok (.iload_n 2, 1) := by decide +kernel
theorem d5_readNumber_15 : decode M5_readNumber.2.1 15 = .ok (.iconst 3, 1) := by decide +kernel
theorem d5_readNumber_16 : decode M5_readNumber.2.1 16 = .ok (.iadd, 1) := by decide +kernel
theorem d5_readNumber_17 : decode M5_readNumber.2.1 17 = .ok (.if_icmp .ge 45, 3) := by decide +kernel
theorem d5_readNumber_20 : decode M5_readNumber.2.1 20 = .ok (.aload_n 0, 1) := by decide +kernel
theorem d5_readNumber_21 : decode M5_readNumber.2.1 21 = .ok (.invokevirtual 31, 3) := by decide +kernel
theorem d5_readNumber_24 : decode M5_readNumber.2.1 24 = .ok (.invokestatic 35, 3) := by decide +kernel
theorem d5_readNumber_27 : decode M5_readNumber.2.1 27 = .ok (.ifCond .eq 35, 3) := by decide +kernel
theorem d5_readNumber_30 : decode M5_readNumber.2.1 30 = .ok (.aload_n 0, 1) := by decide +kernel
theorem d5_readNumber_31 : decode M5_readNumber.2.1 31 = .ok (.bipush 10, 2) := by decide +kernel
theorem d5_readNumber_33 : decode M5_readNumber.2.1 33 = .ok (.aload_n 0, 1) := by decide +kernel
theorem d5_readNumber_34 : decode M5_readNumber.2.1 34 = .ok (.getfield 53, 3) := by decide +kernel
theorem d5_readNumber_37 : decode M5_readNumber.2.1 37 = .ok (.imul, 1) := by decide +kernel
theorem d5_readNumber_38 : decode M5_readNumber.2.1 38 = .ok (.aload_n 0, 1) := by decide +kernel
theorem d5_readNumber_39 : decode M5_readNumber.2.1 39 = .ok (.invokevirtual 31, 3) := by decide +kernel
theorem d5_readNumber_42 : decode M5_readNumber.2.1 42 = .ok (.iadd, 1) := by decide +kernel
theorem d5_readNumber_43 : decode M5_readNumber.2.1 43 = .ok (.bipush 48, 2) := by decide +kernel
theorem d5_readNumber_45 : decode M5_readNumber.2.1 45 = .ok (.isub, 1) := by decide +kernel
theorem d5_readNumber_46 : decode M5_readNumber.2.1 46 = .ok (.putfield 53, 3) := by decide +kernel
theorem d5_readNumber_49 : decode M5_readNumber.2.1 49 = .ok (.aload_n 0, 1) := by decide +kernel
theorem d5_readNumber_50 : decode M5_readNumber.2.1 50 = .ok (.dup, 1) := by decide +kernel
theorem d5_readNumber_51 : decode M5_readNumber.2.1 51 = .ok (.getfield 19, 3) := by decide +kernel
theorem d5_readNumber_54 : decode M5_readNumber.2.1 54 = .ok (.iconst 1, 1) := by decide +kernel
theorem d5_readNumber_55 : decode M5_readNumber.2.1 55 = .ok (.iadd, 1) := by decide +kernel
theorem d5_readNumber_56 : decode M5_readNumber.2.1 56 = .ok (.putfield 19, 3) := by decide +kernel
theorem d5_readNumber_59 : decode M5_readNumber.2.1 59 = .ok (.goto (-49), 3) := by decide +kernel
theorem d5_readNumber_62 : decode M5_readNumber.2.1 62 = .ok (.aload_n 0, 1) := by decide +kernel
theorem d5_readNumber_63 : decode M5_readNumber.2.1 63 = .ok (.getfield 19, 3) := by decide +kernel
theorem d5_readNumber_66 : decode M5_readNumber.2.1 66 = .ok (.iload_n 2, 1) := by decide +kernel
theorem d5_readNumber_67 : decode M5_readNumber.2.1 67 = .ok (.if_icmp .eq 13, 3) := by decide +kernel
theorem d5_readNumber_70 : decode M5_readNumber.2.1 70 = .ok (.aload_n 0, 1) := by decide +kernel
theorem d5_readNumber_71 : decode M5_readNumber.2.1 71 = .ok (.invokevirtual 31, 3) := by decide +kernel
theorem d5_readNumber_74 : decode M5_readNumber.2.1 74 = .ok (.invokestatic 35, 3) := by decide +kernel
theorem d5_readNumber_77 : decode M5_readNumber.2.1 77 = .ok (.ifCond .eq 11, 3) := by decide +kernel
theorem d5_readNumber_80 : decode M5_readNumber.2.1 80 = .ok (.bipush 100, 2) := by decide +kernel
theorem d5_readNumber_82 : decode M5_readNumber.2.1 82 = .ok (.aload_n 0, 1) := by decide +kernel
theorem d5_readNumber_83 : decode M5_readNumber.2.1 83 = .ok (.getfield 19, 3) := by decide +kernel
theorem d5_readNumber_86 : decode M5_readNumber.2.1 86 = .ok (.iadd, 1) := by decide +kernel
theorem d5_readNumber_87 : decode M5_readNumber.2.1 87 = .ok (.ireturn, 1) := by decide +kernel
theorem d5_readNumber_88 : decode M5_readNumber.2.1 88 = .ok (.aload_n 0, 1) := by decide +kernel
theorem d5_readNumber_89 : decode M5_readNumber.2.1 89 = .ok (.getfield 53, 3) := by decide +kernel
theorem d5_readNumber_92 : decode M5_readNumber.2.1 92 = .ok (.iload_n 1, 1) := by decide +kernel
theorem d5_readNumber_93 : decode M5_readNumber.2.1 93 = .ok (.if_icmp .lt 13, 3) := by decide +kernel
theorem d5_readNumber_96 : decode M5_readNumber.2.1 96 = .ok (.aload_n 0, 1) := by decide +kernel
theorem d5_readNumber_97 : decode M5_readNumber.2.1 97 = .ok (.getfield 53, 3) := by decide +kernel
theorem d5_readNumber_100 : decode M5_readNumber.2.1 100 = .ok (.sipush 255, 3) := by decide +kernel
theorem d5_readNumber_103 : decode M5_readNumber.2.1 103 = .ok (.if_icmp .le 11, 3) := by decide +kernel
theorem d5_readNumber_106 : decode M5_readNumber.2.1 106 = .ok (.sipush 300, 3) := by decide +kernel
theorem d5_readNumber_109 : decode M5_readNumber.2.1 109 = .ok (.iload_n 2, 1) := by decide +kernel
theorem d5_readNumber_110 : decode M5_readNumber.2.1 110 = .ok (.iadd, 1) := by decide +kernel
theorem d5_readNumber_111 : decode M5_readNumber.2.1 111 = .ok (.goto 4, 3) := by decide +kernel
theorem d5_readNumber_114 : decode M5_readNumber.2.1 114 = .ok (.iconst 0, 1) := by decide +kernel
theorem d5_readNumber_115 : decode M5_readNumber.2.1 115 = .ok (.ireturn, 1) := by decide +kernel
theorem d5_sign_0 : decode M5_sign.2.1 0 = .ok (.aload_n 0, 1) := by decide +kernel
theorem d5_sign_1 : decode M5_sign.2.1 1 = .ok (.getfield 19, 3) := by decide +kernel
theorem d5_sign_4 : decode M5_sign.2.1 4 = .ok (.aload_n 0, 1) := by decide +kernel
theorem d5_sign_5 : decode M5_sign.2.1 5 = .ok (.getfield 15, 3) := by decide +kernel
theorem d5_sign_8 : decode M5_sign.2.1 8 = .ok (.if_icmp .ge 17, 3) := by decide +kernel
theorem d5_sign_11 : decode M5_sign.2.1 11 = .ok (.aload_n 0, 1) := by decide +kernel
theorem d5_sign_12 : decode M5_sign.2.1 12 = .ok (.getfield 9, 3) := by decide +kernel
theorem d5_sign_15 : decode M5_sign.2.1 15 = .ok (.aload_n 0, 1) := by decide +kernel
theorem d5_sign_16 : decode M5_sign.2.1 16 = .ok (.getfield 19, 3) := by decide +kernel
theorem d5_sign_19 : decode M5_sign.2.1 19 = .ok (.invokevirtual 60, 3) := by decide +kernel
theorem d5_sign_22 : decode M5_sign.2.1 22 = .ok (.goto 4, 3) := by decide +kernel
theorem d5_sign_25 : decode M5_sign.2.1 25 = .ok (.iconst (-1), 1) := by decide +kernel
theorem d5_sign_26 : decode M5_sign.2.1 26 = .ok (.ireturn, 1) := by decide +kernel
theorem d5_isDigit_0 : decode M5_isDigit.2.1 0 = .ok (.iload_n 0, 1) := by decide +kernel
theorem d5_isDigit_1 : decode M5_isDigit.2.1 1 = .ok (.bipush 48, 2) := by decide +kernel
theorem d5_isDigit_3 : decode M5_isDigit.2.1 3 = .ok (.if_icmp .lt 13, 3) := by decide +kernel
theorem d5_isDigit_6 : decode M5_isDigit.2.1 6 = .ok (.iload_n 0, 1) := by decide +kernel
theorem d5_isDigit_7 : decode M5_isDigit.2.1 7 = .ok (.bipush 57, 2) := by decide +kernel
theorem d5_isDigit_9 : decode M5_isDigit.2.1 9 = .ok (.if_icmp .gt 7, 3) := by decide +kernel
theorem d5_isDigit_12 : decode M5_isDigit.2.1 12 = .ok (.iconst 1, 1) := by decide +kernel
theorem d5_isDigit_13 : decode M5_isDigit.2.1 13 = .ok (.goto 4, 3) := by decide +kernel
theorem d5_isDigit_16 : decode M5_isDigit.2.1 16 = .ok (.iconst 0, 1) := by decide +kernel
theorem d5_isDigit_17 : decode M5_isDigit.2.1 17 = .ok (.ireturn, 1) := by decide +kernel
theorem d6_init_0 : decode M6_init.2.1 0 = .ok (.aload_n 0, 1) := by decide +kernel
theorem d6_init_1 : decode M6_init.2.1 1 = .ok (.invokespecial 3, 3) := by decide +kernel
theorem d6_init_4 : decode M6_init.2.1 4 = .ok (.aload_n 0, 1) := by decide +kernel
theorem d6_init_5 : decode M6_init.2.1 5 = .ok (.bipush 120, 2) := by decide +kernel
theorem d6_init_7 : decode M6_init.2.1 7 = .ok (.newarray .int, 2) := by decide +kernel
theorem d6_init_9 : decode M6_init.2.1 9 = .ok (.putfield 9, 3) := by decide +kernel
theorem d6_init_12 : decode M6_init.2.1 12 = .ok (.return_, 1) := by decide +kernel
theorem d6_append_0 : decode M6_append.2.1 0 = .ok (.bipush 24, 2) := by decide +kernel
theorem d6_append_2 : decode M6_append.2.1 2 = .ok (.istore_n 2, 1) := by decide +kernel
theorem d6_append_3 : decode M6_append.2.1 3 = .ok (.iload_n 2, 1) := by decide +kernel
theorem d6_append_4 : decode M6_append.2.1 4 = .ok (.ifCond .lt 44, 3) := by decide +kernel
theorem d6_append_7 : decode M6_append.2.1 7 = .ok (.aload_n 0, 1) := by decide +kernel
theorem d6_append_8 : decode M6_append.2.1 8 = .ok (.getfield 15, 3) := by decide +kernel
theorem d6_append_11 : decode M6_append.2.1 11 = .ok (.bipush 120, 2) := by decide +kernel
theorem d6_append_13 : decode M6_append.2.1 13 = .ok (.if_icmp .ge 35, 3) := by decide +kernel
theorem d6_append_16 : decode M6_append.2.1 16 = .ok (.aload_n 0, 1) := by decide +kernel
theorem d6_append_17 : decode M6_append.2.1 17 = .ok (.getfield 9, 3) := by decide +kernel
theorem d6_append_20 : decode M6_append.2.1 20 = .ok (.aload_n 0, 1) := by decide +kernel
theorem d6_append_21 : decode M6_append.2.1 21 = .ok (.getfield 15, 3) := by decide +kernel
theorem d6_append_24 : decode M6_append.2.1 24 = .ok (.iload_n 1, 1) := by decide +kernel
theorem d6_append_25 : decode M6_append.2.1 25 = .ok (.iload_n 2, 1) := by decide +kernel
theorem d6_append_26 : decode M6_append.2.1 26 = .ok (.iushr, 1) := by decide +kernel
theorem d6_append_27 : decode M6_append.2.1 27 = .ok (.sipush 255, 3) := by decide +kernel
theorem d6_append_30 : decode M6_append.2.1 30 = .ok (.iand, 1) := by decide +kernel
theorem d6_append_31 : decode M6_append.2.1 31 = .ok (.iastore, 1) := by decide +kernel
theorem d6_append_32 : decode M6_append.2.1 32 = .ok (.aload_n 0, 1) := by decide +kernel
theorem d6_append_33 : decode M6_append.2.1 33 = .ok (.dup, 1) := by decide +kernel
theorem d6_append_34 : decode M6_append.2.1 34 = .ok (.getfield 15, 3) := by decide +kernel
theorem d6_append_37 : decode M6_append.2.1 37 = .ok (.iconst 1, 1) := by decide +kernel
theorem d6_append_38 : decode M6_append.2.1 38 = .ok (.iadd, 1) := by decide +kernel
theorem d6_append_39 : decode M6_append.2.1 39 = .ok (.putfield 15, 3) := by decide +kernel
theorem d6_append_42 : decode M6_append.2.1 42 = .ok (.iinc 2 (-8), 3) := by decide +kernel
theorem d6_append_45 : decode M6_append.2.1 45 = .ok (.goto (-42), 3) := by decide +kernel
theorem d6_append_48 : decode M6_append.2.1 48 = .ok (.return_, 1) := by decide +kernel
theorem d6_at_0 : decode M6_at.2.1 0 = .ok (.iload_n 1, 1) := by decide +kernel
theorem d6_at_1 : decode M6_at.2.1 1 = .ok (.ifCond .lt 20, 3) := by decide +kernel
theorem d6_at_4 : decode M6_at.2.1 4 = .ok (.iload_n 1, 1) := by decide +kernel
theorem d6_at_5 : decode M6_at.2.1 5 = .ok (.aload_n 0, 1) := by decide +kernel
theorem d6_at_6 : decode M6_at.2.1 6 = .ok (.getfield 15, 3) := by decide +kernel
theorem d6_at_9 : decode M6_at.2.1 9 = .ok (.if_icmp .ge 12, 3) := by decide +kernel
theorem d6_at_12 : decode M6_at.2.1 12 = .ok (.aload_n 0, 1) := by decide +kernel
theorem d6_at_13 : decode M6_at.2.1 13 = .ok (.getfield 9, 3) := by decide +kernel
theorem d6_at_16 : decode M6_at.2.1 16 = .ok (.iload_n 1, 1) := by decide +kernel
theorem d6_at_17 : decode M6_at.2.1 17 = .ok (.iaload, 1) := by decide +kernel
theorem d6_at_18 : decode M6_at.2.1 18 = .ok (.goto 4, 3) := by decide +kernel
theorem d6_at_21 : decode M6_at.2.1 21 = .ok (.iconst (-1), 1) := by decide +kernel
theorem d6_at_22 : decode M6_at.2.1 22 = .ok (.ireturn, 1) := by decide +kernel
theorem d7_init_0 : decode M7_init.2.1 0 = .ok (.aload_n 0, 1) := by decide +kernel
theorem d7_init_1 : decode M7_init.2.1 1 = .ok (.invokespecial 1, 3) := by decide +kernel
theorem d7_init_4 : decode M7_init.2.1 4 = .ok (.aload_n 0, 1) := by decide +kernel
theorem d7_init_5 : decode M7_init.2.1 5 = .ok (.new 7, 3) := by decide +kernel
theorem d7_init_8 : decode M7_init.2.1 8 = .ok (.dup, 1) := by decide +kernel
theorem d7_init_9 : decode M7_init.2.1 9 = .ok (.invokespecial 9, 3) := by decide +kernel
theorem d7_init_12 : decode M7_init.2.1 12 = .ok (.putfield 10, 3) := by decide +kernel
theorem d7_init_15 : decode M7_init.2.1 15 = .ok (.aload_n 0, 1) := by decide +kernel
theorem d7_init_16 : decode M7_init.2.1 16 = .ok (.new 16, 3) := by decide +kernel
theorem d7_init_19 : decode M7_init.2.1 19 = .ok (.dup, 1) := by decide +kernel
theorem d7_init_20 : decode M7_init.2.1 20 = .ok (.invokespecial 18, 3) := by decide +kernel
theorem d7_init_23 : decode M7_init.2.1 23 = .ok (.putfield 19, 3) := by decide +kernel
theorem d7_init_26 : decode M7_init.2.1 26 = .ok (.aload_n 0, 1) := by decide +kernel
theorem d7_init_27 : decode M7_init.2.1 27 = .ok (.new 23, 3) := by decide +kernel
theorem d7_init_30 : decode M7_init.2.1 30 = .ok (.dup, 1) := by decide +kernel
theorem d7_init_31 : decode M7_init.2.1 31 = .ok (.invokespecial 25, 3) := by decide +kernel
theorem d7_init_34 : decode M7_init.2.1 34 = .ok (.putfield 26, 3) := by decide +kernel
theorem d7_init_37 : decode M7_init.2.1 37 = .ok (.aload_n 0, 1) := by decide +kernel
theorem d7_init_38 : decode M7_init.2.1 38 = .ok (.new 30, 3) := by decide +kernel
theorem d7_init_41 : decode M7_init.2.1 41 = .ok (.dup, 1) := by decide +kernel
theorem d7_init_42 : decode M7_init.2.1 42 = .ok (.aload_n 0, 1) := by decide +kernel
theorem d7_init_43 : decode M7_init.2.1 43 = .ok (.getfield 26, 3) := by decide +kernel
theorem d7_init_46 : decode M7_init.2.1 46 = .ok (.invokespecial 32, 3) := by decide +kernel
theorem d7_init_49 : decode M7_init.2.1 49 = .ok (.putfield 35, 3) := by decide +kernel
theorem d7_init_52 : decode M7_init.2.1 52 = .ok (.aload_n 0, 1) := by decide +kernel
theorem d7_init_53 : decode M7_init.2.1 53 = .ok (.new 39, 3) := by decide +kernel
theorem d7_init_56 : decode M7_init.2.1 56 = .ok (.dup, 1) := by decide +kernel
theorem d7_init_57 : decode M7_init.2.1 57 = .ok (.invokespecial 41, 3) := by decide +kernel
theorem d7_init_60 : decode M7_init.2.1 60 = .ok (.putfield 42, 3) := by decide +kernel
theorem d7_init_63 : decode M7_init.2.1 63 = .ok (.aload_n 0, 1) := by decide +kernel
theorem d7_init_64 : decode M7_init.2.1 64 = .ok (.new 39, 3) := by decide +kernel
theorem d7_init_67 : decode M7_init.2.1 67 = .ok (.dup, 1) := by decide +kernel
theorem d7_init_68 : decode M7_init.2.1 68 = .ok (.invokespecial 41, 3) := by decide +kernel
theorem d7_init_71 : decode M7_init.2.1 71 = .ok (.putfield 46, 3) := by decide +kernel
theorem d7_init_74 : decode M7_init.2.1 74 = .ok (.return_, 1) := by decide +kernel
theorem d7_weekday_0 : decode M7_weekday.2.1 0 = .ok (.iload_n 1, 1) := by decide +kernel
theorem d7_weekday_1 : decode M7_weekday.2.1 1 = .ok (.iconst 4, 1) := by decide +kernel
theorem d7_weekday_2 : decode M7_weekday.2.1 2 = .ok (.invokestatic 49, 3) := by decide +kernel
theorem d7_weekday_5 : decode M7_weekday.2.1 5 = .ok (.ifCond .eq 19, 3) := by decide +kernel
theorem d7_weekday_8 : decode M7_weekday.2.1 8 = .ok (.iload_n 2, 1) := by decide +kernel
theorem d7_weekday_9 : decode M7_weekday.2.1 9 = .ok (.bipush 7, 2) := by decide +kernel
theorem d7_weekday_11 : decode M7_weekday.2.1 11 = .ok (.invokestatic 49, 3) := by decide +kernel
theorem d7_weekday_14 : decode M7_weekday.2.1 14 = .ok (.ifCond .eq 10, 3) := by decide +kernel
theorem d7_weekday_17 : decode M7_weekday.2.1 17 = .ok (.iload_n 3, 1) := by decide +kernel
theorem d7_weekday_18 : decode M7_weekday.2.1 18 = .ok (.invokestatic 53, 3) := by decide +kernel
theorem d7_weekday_21 : decode M7_weekday.2.1 21 = .ok (.ifCond .ne 5, 3) := by decide +kernel
theorem d7_weekday_24 : decode M7_weekday.2.1 24 = .ok (.iconst 0, 1) := by decide +kernel
theorem d7_weekday_25 : decode M7_weekday.2.1 25 = .ok (.ireturn, 1) := by decide +kernel
theorem d7_weekday_26 : decode M7_weekday.2.1 26 = .ok (.aload_n 0, 1) := by decide +kernel
theorem d7_weekday_27 : decode M7_weekday.2.1 27 = .ok (.getfield 10, 3) := by decide +kernel
theorem d7_weekday_30 : decode M7_weekday.2.1 30 = .ok (.iload_n 1, 1) := by decide +kernel
theorem d7_weekday_31 : decode M7_weekday.2.1 31 = .ok (.iload_n 2, 1) := by decide +kernel
theorem d7_weekday_32 : decode M7_weekday.2.1 32 = .ok (.iload_n 3, 1) := by decide +kernel
theorem d7_weekday_33 : decode M7_weekday.2.1 33 = .ok (.invokevirtual 57, 3) := by decide +kernel
theorem d7_weekday_36 : decode M7_weekday.2.1 36 = .ok (.iconst 1, 1) := by decide +kernel
theorem d7_weekday_37 : decode M7_weekday.2.1 37 = .ok (.ireturn, 1) := by decide +kernel
theorem d7_month_0 : decode M7_month.2.1 0 = .ok (.iload_n 1, 1) := by decide +kernel
theorem d7_month_1 : decode M7_month.2.1 1 = .ok (.iconst 4, 1) := by decide +kernel
theorem d7_month_2 : decode M7_month.2.1 2 = .ok (.invokestatic 49, 3) := by decide +kernel
theorem d7_month_5 : decode M7_month.2.1 5 = .ok (.ifCond .eq 19, 3) := by decide +kernel
theorem d7_month_8 : decode M7_month.2.1 8 = .ok (.iload_n 2, 1) := by decide +kernel
theorem d7_month_9 : decode M7_month.2.1 9 = .ok (.bipush 13, 2) := by decide +kernel
theorem d7_month_11 : decode M7_month.2.1 11 = .ok (.invokestatic 49, 3) := by decide +kernel
theorem d7_month_14 : decode M7_month.2.1 14 = .ok (.ifCond .eq 10, 3) := by decide +kernel
theorem d7_month_17 : decode M7_month.2.1 17 = .ok (.iload_n 3, 1) := by decide +kernel
theorem d7_month_18 : decode M7_month.2.1 18 = .ok (.invokestatic 53, 3) := by decide +kernel
theorem d7_month_21 : decode M7_month.2.1 21 = .ok (.ifCond .ne 5, 3) := by decide +kernel
theorem d7_month_24 : decode M7_month.2.1 24 = .ok (.iconst 0, 1) := by decide +kernel
theorem d7_month_25 : decode M7_month.2.1 25 = .ok (.ireturn, 1) := by decide +kernel
theorem d7_month_26 : decode M7_month.2.1 26 = .ok (.aload_n 0, 1) := by decide +kernel
theorem d7_month_27 : decode M7_month.2.1 27 = .ok (.getfield 10, 3) := by decide +kernel
theorem d7_month_30 : decode M7_month.2.1 30 = .ok (.iload_n 1, 1) := by decide +kernel
theorem d7_month_31 : decode M7_month.2.1 31 = .ok (.iload_n 2, 1) := by decide +kernel
theorem d7_month_32 : decode M7_month.2.1 32 = .ok (.iload_n 3, 1) := by decide +kernel
theorem d7_month_33 : decode M7_month.2.1 33 = .ok (.invokevirtual 61, 3) := by decide +kernel
theorem d7_month_36 : decode M7_month.2.1 36 = .ok (.iconst 1, 1) := by decide +kernel
theorem d7_month_37 : decode M7_month.2.1 37 = .ok (.ireturn, 1) := by decide +kernel
theorem d7_holiday_0 : decode M7_holiday.2.1 0 = .ok (.iload_n 1, 1) := by decide +kernel
theorem d7_holiday_1 : decode M7_holiday.2.1 1 = .ok (.sipush 364, 3) := by decide +kernel
theorem d7_holiday_4 : decode M7_holiday.2.1 4 = .ok (.invokestatic 49, 3) := by decide +kernel
theorem d7_holiday_7 : decode M7_holiday.2.1 7 = .ok (.ifCond .eq 18, 3) := by decide +kernel
theorem d7_holiday_10 : decode M7_holiday.2.1 10 = .ok (.aload_n 0, 1) := by decide +kernel
theorem d7_holiday_11 : decode M7_holiday.2.1 11 = .ok (.getfield 10, 3) := by decide +kernel
theorem d7_holiday_14 : decode M7_holiday.2.1 14 = .ok (.iload_n 1, 1) := by decide +kernel
theorem d7_holiday_15 : decode M7_holiday.2.1 15 = .ok (.invokevirtual 64, 3) := by decide +kernel
theorem d7_holiday_18 : decode M7_holiday.2.1 18 = .ok (.ifCond .eq 7, 3) := by decide +kernel
theorem d7_holiday_21 : decode M7_holiday.2.1 21 = .ok (.iconst 1, 1) := by decide +kernel
theorem d7_holiday_22 : decode M7_holiday.2.1 22 = .ok (.goto 4, 3) := by decide +kernel
theorem d7_holiday_25 : decode M7_holiday.2.1 25 = .ok (.iconst 0, 1) := by decide +kernel
theorem d7_holiday_26 : decode M7_holiday.2.1 26 = .ok (.ireturn, 1) := by decide +kernel
theorem d7_road_0 : decode M7_road.2.1 0 = .ok (.iload_n 1, 1) := by decide +kernel
theorem d7_road_1 : decode M7_road.2.1 1 = .ok (.invokestatic 67, 3) := by decide +kernel
theorem d7_road_4 : decode M7_road.2.1 4 = .ok (.ifCond .eq 26, 3) := by decide +kernel
theorem d7_road_7 : decode M7_road.2.1 7 = .ok (.iload_n 2, 1) := by decide +kernel
theorem d7_road_8 : decode M7_road.2.1 8 = .ok (.invokestatic 67, 3) := by decide +kernel
theorem d7_road_11 : decode M7_road.2.1 11 = .ok (.ifCond .eq 19, 3) := by decide +kernel
theorem d7_road_14 : decode M7_road.2.1 14 = .ok (.iload_n 1, 1) := by decide +kernel
theorem d7_road_15 : decode M7_road.2.1 15 = .ok (.iload_n 2, 1) := by decide +kernel
theorem d7_road_16 : decode M7_road.2.1 16 = .ok (.if_icmp .eq 14, 3) := by decide +kernel
theorem d7_road_19 : decode M7_road.2.1 19 = .ok (.iload_n 3, 1) := by decide +kernel
theorem d7_road_20 : decode M7_road.2.1 20 = .ok (.ifCond .lt 10, 3) := by decide +kernel
theorem d7_road_23 : decode M7_road.2.1 23 = .ok (.iload_n 3, 1) := by decide +kernel
theorem d7_road_24 : decode M7_road.2.1 24 = .ok (.sipush 9999, 3) := by decide +kernel
theorem d7_road_27 : decode M7_road.2.1 27 = .ok (.if_icmp .le 5, 3) := by decide +kernel
theorem d7_road_30 : decode M7_road.2.1 30 = .ok (.iconst (-1), 1) := by decide +kernel
theorem d7_road_31 : decode M7_road.2.1 31 = .ok (.ireturn, 1) := by decide +kernel
theorem d7_road_32 : decode M7_road.2.1 32 = .ok (.aload_n 0, 1) := by decide +kernel
theorem d7_road_33 : decode M7_road.2.1 33 = .ok (.getfield 19, 3) := by decide +kernel
theorem d7_road_36 : decode M7_road.2.1 36 = .ok (.iload_n 1, 1) := by decide +kernel
theorem d7_road_37 : decode M7_road.2.1 37 = .ok (.iload_n 2, 1) := by decide +kernel
theorem d7_road_38 : decode M7_road.2.1 38 = .ok (.iload_n 3, 1) := by decide +kernel
theorem d7_road_39 : decode M7_road.2.1 39 = .ok (.invokevirtual 70, 3) := by decide +kernel
theorem d7_road_42 : decode M7_road.2.1 42 = .ok (.ireturn, 1) := by decide +kernel
theorem d7_shape_0 : decode M7_shape.2.1 0 = .ok (.aload_n 0, 1) := by decide +kernel
theorem d7_shape_1 : decode M7_shape.2.1 1 = .ok (.getfield 19, 3) := by decide +kernel
theorem d7_shape_4 : decode M7_shape.2.1 4 = .ok (.iload_n 1, 1) := by decide +kernel
theorem d7_shape_5 : decode M7_shape.2.1 5 = .ok (.invokevirtual 74, 3) := by decide +kernel
theorem d7_shape_8 : decode M7_shape.2.1 8 = .ok (.astore_n 3, 1) := by decide +kernel
theorem d7_shape_9 : decode M7_shape.2.1 9 = .ok (.aload_n 3, 1) := by decide +kernel
theorem d7_shape_10 : decode M7_shape.2.1 10 = .ok (.ifnull 11, 3) := by decide +kernel
theorem d7_shape_13 : decode M7_shape.2.1 13 = .ok (.iload_n 2, 1) := by decide +kernel
theorem d7_shape_14 : decode M7_shape.2.1 14 = .ok (.iconst 4, 1) := by decide +kernel
theorem d7_shape_15 : decode M7_shape.2.1 15 = .ok (.invokestatic 49, 3) := by decide +kernel
theorem d7_shape_18 : decode M7_shape.2.1 18 = .ok (.ifCond .ne 5, 3) := by decide +kernel
theorem d7_shape_21 : decode M7_shape.2.1 21 = .ok (.iconst 0, 1) := by decide +kernel
theorem d7_shape_22 : decode M7_shape.2.1 22 = .ok (.ireturn, 1) := by decide +kernel
theorem d7_shape_23 : decode M7_shape.2.1 23 = .ok (.aload_n 3, 1) := by decide +kernel
theorem d7_shape_24 : decode M7_shape.2.1 24 = .ok (.iload_n 2, 1) := by decide +kernel
theorem d7_shape_25 : decode M7_shape.2.1 25 = .ok (.putfield 78, 3) := by decide +kernel
theorem d7_shape_28 : decode M7_shape.2.1 28 = .ok (.iconst 1, 1) := by decide +kernel
theorem d7_shape_29 : decode M7_shape.2.1 29 = .ok (.ireturn, 1) := by decide +kernel
theorem d7_count_0 : decode M7_count.2.1 0 = .ok (.aload_n 0, 1) := by decide +kernel
theorem d7_count_1 : decode M7_count.2.1 1 = .ok (.getfield 19, 3) := by decide +kernel
theorem d7_count_4 : decode M7_count.2.1 4 = .ok (.iload_n 1, 1) := by decide +kernel
theorem d7_count_5 : decode M7_count.2.1 5 = .ok (.invokevirtual 74, 3) := by decide +kernel
theorem d7_count_8 : decode M7_count.2.1 8 = .ok (.astore 4, 2) := by decide +kernel
theorem d7_count_10 : decode M7_count.2.1 10 = .ok (.aload 4, 2) := by decide +kernel
theorem d7_count_12 : decode M7_count.2.1 12 = .ok (.ifnull 23, 3) := by decide +kernel
theorem d7_count_15 : decode M7_count.2.1 15 = .ok (.iload_n 2, 1) := by decide +kernel
theorem d7_count_16 : decode M7_count.2.1 16 = .ok (.sipush 364, 3) := by decide +kernel
theorem d7_count_19 : decode M7_count.2.1 19 = .ok (.invokestatic 49, 3) := by decide +kernel
theorem d7_count_22 : decode M7_count.2.1 22 = .ok (.ifCond .eq 13, 3) := by decide +kernel
theorem d7_count_25 : decode M7_count.2.1 25 = .ok (.iload_n 3, 1) := by decide +kernel
theorem d7_count_26 : decode M7_count.2.1 26 = .ok (.ifCond .lt 9, 3) := by decide +kernel
theorem d7_count_29 : decode M7_count.2.1 29 = .ok (.iload_n 3, 1) := by decide +kernel
theorem d7_count_30 : decode M7_count.2.1 30 = .ok (.ldc 84, 2) := by decide +kernel
theorem d7_count_32 : decode M7_count.2.1 32 = .ok (.if_icmp .le 5, 3) := by decide +kernel
theorem d7_count_35 : decode M7_count.2.1 35 = .ok (.iconst 0, 1) := by decide +kernel
theorem d7_count_36 : decode M7_count.2.1 36 = .ok (.ireturn, 1) := by decide +kernel
theorem d7_count_37 : decode M7_count.2.1 37 = .ok (.aload 4, 2) := by decide +kernel
theorem d7_count_39 : decode M7_count.2.1 39 = .ok (.getfield 85, 3) := by decide +kernel
theorem d7_count_42 : decode M7_count.2.1 42 = .ok (.iload_n 2, 1) := by decide +kernel
theorem d7_count_43 : decode M7_count.2.1 43 = .ok (.iload_n 3, 1) := by decide +kernel
theorem d7_count_44 : decode M7_count.2.1 44 = .ok (.invokevirtual 89, 3) := by decide +kernel
theorem d7_count_47 : decode M7_count.2.1 47 = .ok (.ireturn, 1) := by decide +kernel
theorem d7_year_0 : decode M7_year.2.1 0 = .ok (.aload_n 0, 1) := by decide +kernel
theorem d7_year_1 : decode M7_year.2.1 1 = .ok (.getfield 19, 3) := by decide +kernel
theorem d7_year_4 : decode M7_year.2.1 4 = .ok (.iload_n 1, 1) := by decide +kernel
theorem d7_year_5 : decode M7_year.2.1 5 = .ok (.invokevirtual 74, 3) := by decide +kernel
theorem d7_year_8 : decode M7_year.2.1 8 = .ok (.astore_n 2, 1) := by decide +kernel
theorem d7_year_9 : decode M7_year.2.1 9 = .ok (.aload_n 2, 1) := by decide +kernel
theorem d7_year_10 : decode M7_year.2.1 10 = .ok (.ifnonnull 9, 3) := by decide +kernel
theorem d7_year_13 : decode M7_year.2.1 13 = .ok (.ldc2_w 94, 3) := by decide +kernel
theorem d7_year_16 : decode M7_year.2.1 16 = .ok (.goto 18, 3) := by decide +kernel
theorem d7_year_19 : decode M7_year.2.1 19 = .ok (.aload_n 2, 1) := by decide +kernel
theorem d7_year_20 : decode M7_year.2.1 20 = .ok (.getfield 85, 3) := by decide +kernel
theorem d7_year_23 : decode M7_year.2.1 23 = .ok (.aload_n 0, 1) := by decide +kernel
theorem d7_year_24 : decode M7_year.2.1 24 = .ok (.getfield 10, 3) := by decide +kernel
theorem d7_year_27 : decode M7_year.2.1 27 = .ok (.aload_n 2, 1) := by decide +kernel
theorem d7_year_28 : decode M7_year.2.1 28 = .ok (.getfield 78, 3) := by decide +kernel
theorem d7_year_31 : decode M7_year.2.1 31 = .ok (.invokevirtual 96, 3) := by decide +kernel
theorem d7_year_34 : decode M7_year.2.1 34 = .ok (.lreturn, 1) := by decide +kernel
theorem d7_span_0 : decode M7_span.2.1 0 = .ok (.aload_n 0, 1) := by decide +kernel
theorem d7_span_1 : decode M7_span.2.1 1 = .ok (.getfield 19, 3) := by decide +kernel
theorem d7_span_4 : decode M7_span.2.1 4 = .ok (.iload_n 1, 1) := by decide +kernel
theorem d7_span_5 : decode M7_span.2.1 5 = .ok (.invokevirtual 74, 3) := by decide +kernel
theorem d7_span_8 : decode M7_span.2.1 8 = .ok (.astore_n 3, 1) := by decide +kernel
theorem d7_span_9 : decode M7_span.2.1 9 = .ok (.aload_n 3, 1) := by decide +kernel
theorem d7_span_10 : decode M7_span.2.1 10 = .ok (.ifnull 11, 3) := by decide +kernel
theorem d7_span_13 : decode M7_span.2.1 13 = .ok (.iload_n 2, 1) := by decide +kernel
theorem d7_span_14 : decode M7_span.2.1 14 = .ok (.iconst 2, 1) := by decide +kernel
theorem d7_span_15 : decode M7_span.2.1 15 = .ok (.invokestatic 49, 3) := by decide +kernel
theorem d7_span_18 : decode M7_span.2.1 18 = .ok (.ifCond .ne 7, 3) := by decide +kernel
theorem d7_span_21 : decode M7_span.2.1 21 = .ok (.ldc2_w 94, 3) := by decide +kernel
theorem d7_span_24 : decode M7_span.2.1 24 = .ok (.lreturn, 1) := by decide +kernel
theorem d7_span_25 : decode M7_span.2.1 25 = .ok (.aload_n 3, 1) := by decide +kernel
theorem d7_span_26 : decode M7_span.2.1 26 = .ok (.getfield 85, 3) := by decide +kernel
theorem d7_span_29 : decode M7_span.2.1 29 = .ok (.aload_n 0, 1) := by decide +kernel
theorem d7_span_30 : decode M7_span.2.1 30 = .ok (.getfield 10, 3) := by decide +kernel
theorem d7_span_33 : decode M7_span.2.1 33 = .ok (.aload_n 3, 1) := by decide +kernel
theorem d7_span_34 : decode M7_span.2.1 34 = .ok (.getfield 78, 3) := by decide +kernel
theorem d7_span_37 : decode M7_span.2.1 37 = .ok (.iload_n 2, 1) := by decide +kernel
theorem d7_span_38 : decode M7_span.2.1 38 = .ok (.iconst 1, 1) := by decide +kernel
theorem d7_span_39 : decode M7_span.2.1 39 = .ok (.if_icmp .ne 7, 3) := by decide +kernel
theorem d7_span_42 : decode M7_span.2.1 42 = .ok (.iconst 1, 1) := by decide +kernel
theorem d7_span_43 : decode M7_span.2.1 43 = .ok (.goto 4, 3) := by decide +kernel
theorem d7_span_46 : decode M7_span.2.1 46 = .ok (.iconst 0, 1) := by decide +kernel
theorem d7_span_47 : decode M7_span.2.1 47 = .ok (.invokevirtual 100, 3) := by decide +kernel
theorem d7_span_50 : decode M7_span.2.1 50 = .ok (.lreturn, 1) := by decide +kernel
theorem d7_best_0 : decode M7_best.2.1 0 = .ok (.aload_n 0, 1) := by decide +kernel
theorem d7_best_1 : decode M7_best.2.1 1 = .ok (.getfield 19, 3) := by decide +kernel
theorem d7_best_4 : decode M7_best.2.1 4 = .ok (.iload_n 1, 1) := by decide +kernel
theorem d7_best_5 : decode M7_best.2.1 5 = .ok (.invokevirtual 74, 3) := by decide +kernel
theorem d7_best_8 : decode M7_best.2.1 8 = .ok (.astore_n 2, 1) := by decide +kernel
theorem d7_best_9 : decode M7_best.2.1 9 = .ok (.aload_n 2, 1) := by decide +kernel
theorem d7_best_10 : decode M7_best.2.1 10 = .ok (.ifnonnull 7, 3) := by decide +kernel
theorem d7_best_13 : decode M7_best.2.1 13 = .ok (.iconst (-1), 1) := by decide +kernel
theorem d7_best_14 : decode M7_best.2.1 14 = .ok (.goto 14, 3) := by decide +kernel
theorem d7_best_17 : decode M7_best.2.1 17 = .ok (.aload_n 2, 1) := by decide +kernel
theorem d7_best_18 : decode M7_best.2.1 18 = .ok (.getfield 85, 3) := by decide +kernel
theorem d7_best_21 : decode M7_best.2.1 21 = .ok (.aload_n 0, 1) := by decide +kernel
theorem d7_best_22 : decode M7_best.2.1 22 = .ok (.getfield 10, 3) := by decide +kernel
theorem d7_best_25 : decode M7_best.2.1 25 = .ok (.invokevirtual 104, 3) := by decide +kernel
theorem d7_best_28 : decode M7_best.2.1 28 = .ok (.ireturn, 1) := by decide +kernel
theorem d7_how_0 : decode M7_how.2.1 0 = .ok (.aload_n 0, 1) := by decide +kernel
theorem d7_how_1 : decode M7_how.2.1 1 = .ok (.getfield 19, 3) := by decide +kernel
theorem d7_how_4 : decode M7_how.2.1 4 = .ok (.iload_n 1, 1) := by decide +kernel
theorem d7_how_5 : decode M7_how.2.1 5 = .ok (.invokevirtual 74, 3) := by decide +kernel
theorem d7_how_8 : decode M7_how.2.1 8 = .ok (.ifnonnull 5, 3) := by decide +kernel
theorem d7_how_11 : decode M7_how.2.1 11 = .ok (.iconst (-1), 1) := by decide +kernel
theorem d7_how_12 : decode M7_how.2.1 12 = .ok (.ireturn, 1) := by decide +kernel
theorem d7_how_13 : decode M7_how.2.1 13 = .ok (.aload_n 0, 1) := by decide +kernel
theorem d7_how_14 : decode M7_how.2.1 14 = .ok (.getfield 19, 3) := by decide +kernel
theorem d7_how_17 : decode M7_how.2.1 17 = .ok (.aload_n 0, 1) := by decide +kernel
theorem d7_how_18 : decode M7_how.2.1 18 = .ok (.getfield 10, 3) := by decide +kernel
theorem d7_how_21 : decode M7_how.2.1 21 = .ok (.invokevirtual 108, 3) := by decide +kernel
theorem d7_how_24 : decode M7_how.2.1 24 = .ok (.aload_n 0, 1) := by decide +kernel
theorem d7_how_25 : decode M7_how.2.1 25 = .ok (.getfield 19, 3) := by decide +kernel
theorem d7_how_28 : decode M7_how.2.1 28 = .ok (.iload_n 1, 1) := by decide +kernel
theorem d7_how_29 : decode M7_how.2.1 29 = .ok (.invokevirtual 112, 3) := by decide +kernel
theorem d7_how_32 : decode M7_how.2.1 32 = .ok (.ifCond .eq 5, 3) := by decide +kernel
theorem d7_how_35 : decode M7_how.2.1 35 = .ok (.iconst 0, 1) := by decide +kernel
theorem d7_how_36 : decode M7_how.2.1 36 = .ok (.ireturn, 1) := by decide +kernel
theorem d7_how_37 : decode M7_how.2.1 37 = .ok (.aload_n 0, 1) := by decide +kernel
theorem d7_how_38 : decode M7_how.2.1 38 = .ok (.getfield 19, 3) := by decide +kernel
theorem d7_how_41 : decode M7_how.2.1 41 = .ok (.iload_n 1, 1) := by decide +kernel
theorem d7_how_42 : decode M7_how.2.1 42 = .ok (.invokevirtual 115, 3) := by decide +kernel
theorem d7_how_45 : decode M7_how.2.1 45 = .ok (.ifCond .eq 7, 3) := by decide +kernel
theorem d7_how_48 : decode M7_how.2.1 48 = .ok (.iconst 1, 1) := by decide +kernel
theorem d7_how_49 : decode M7_how.2.1 49 = .ok (.goto 4, 3) := by decide +kernel
theorem d7_how_52 : decode M7_how.2.1 52 = .ok (.iconst 2, 1) := by decide +kernel
theorem d7_how_53 : decode M7_how.2.1 53 = .ok (.ireturn, 1) := by decide +kernel
theorem d7_load_0 : decode M7_load.2.1 0 = .ok (.aload_n 0, 1) := by decide +kernel
theorem d7_load_1 : decode M7_load.2.1 1 = .ok (.getfield 19, 3) := by decide +kernel
theorem d7_load_4 : decode M7_load.2.1 4 = .ok (.iload_n 1, 1) := by decide +kernel
theorem d7_load_5 : decode M7_load.2.1 5 = .ok (.invokevirtual 74, 3) := by decide +kernel
theorem d7_load_8 : decode M7_load.2.1 8 = .ok (.ifnonnull 5, 3) := by decide +kernel
theorem d7_load_11 : decode M7_load.2.1 11 = .ok (.lconst 0, 1) := by decide +kernel
theorem d7_load_12 : decode M7_load.2.1 12 = .ok (.lreturn, 1) := by decide +kernel
theorem d7_load_13 : decode M7_load.2.1 13 = .ok (.aload_n 0, 1) := by decide +kernel
theorem d7_load_14 : decode M7_load.2.1 14 = .ok (.getfield 19, 3) := by decide +kernel
theorem d7_load_17 : decode M7_load.2.1 17 = .ok (.aload_n 0, 1) := by decide +kernel
theorem d7_load_18 : decode M7_load.2.1 18 = .ok (.getfield 10, 3) := by decide +kernel
theorem d7_load_21 : decode M7_load.2.1 21 = .ok (.invokevirtual 108, 3) := by decide +kernel
theorem d7_load_24 : decode M7_load.2.1 24 = .ok (.aload_n 0, 1) := by decide +kernel
theorem d7_load_25 : decode M7_load.2.1 25 = .ok (.getfield 19, 3) := by decide +kernel
theorem d7_load_28 : decode M7_load.2.1 28 = .ok (.iload_n 1, 1) := by decide +kernel
theorem d7_load_29 : decode M7_load.2.1 29 = .ok (.invokevirtual 115, 3) := by decide +kernel
theorem d7_load_32 : decode M7_load.2.1 32 = .ok (.ifCond .eq 14, 3) := by decide +kernel
theorem d7_load_35 : decode M7_load.2.1 35 = .ok (.aload_n 0, 1) := by decide +kernel
theorem d7_load_36 : decode M7_load.2.1 36 = .ok (.getfield 19, 3) := by decide +kernel
theorem d7_load_39 : decode M7_load.2.1 39 = .ok (.iload_n 1, 1) := by decide +kernel
theorem d7_load_40 : decode M7_load.2.1 40 = .ok (.invokevirtual 118, 3) := by decide +kernel
theorem d7_load_43 : decode M7_load.2.1 43 = .ok (.goto 4, 3) := by decide +kernel
theorem d7_load_46 : decode M7_load.2.1 46 = .ok (.lconst 0, 1) := by decide +kernel
theorem d7_load_47 : decode M7_load.2.1 47 = .ok (.lreturn, 1) := by decide +kernel
theorem d7_balances_0 : decode M7_balances.2.1 0 = .ok (.iload_n 1, 1) := by decide +kernel
theorem d7_balances_1 : decode M7_balances.2.1 1 = .ok (.bipush 8, 2) := by decide +kernel
theorem d7_balances_3 : decode M7_balances.2.1 3 = .ok (.invokestatic 49, 3) := by decide +kernel
theorem d7_balances_6 : decode M7_balances.2.1 6 = .ok (.ifCond .ne 5, 3) := by decide +kernel
theorem d7_balances_9 : decode M7_balances.2.1 9 = .ok (.iconst (-1), 1) := by decide +kernel
theorem d7_balances_10 : decode M7_balances.2.1 10 = .ok (.ireturn, 1) := by decide +kernel
theorem d7_balances_11 : decode M7_balances.2.1 11 = .ok (.aload_n 0, 1) := by decide +kernel
theorem d7_balances_12 : decode M7_balances.2.1 12 = .ok (.getfield 19, 3) := by decide +kernel
theorem d7_balances_15 : decode M7_balances.2.1 15 = .ok (.aload_n 0, 1) := by decide +kernel
theorem d7_balances_16 : decode M7_balances.2.1 16 = .ok (.getfield 10, 3) := by decide +kernel
theorem d7_balances_19 : decode M7_balances.2.1 19 = .ok (.invokevirtual 108, 3) := by decide +kernel
theorem d7_balances_22 : decode M7_balances.2.1 22 = .ok (.aload_n 0, 1) := by decide +kernel
theorem d7_balances_23 : decode M7_balances.2.1 23 = .ok (.getfield 19, 3) := by decide +kernel
theorem d7_balances_26 : decode M7_balances.2.1 26 = .ok (.iload_n 1, 1) := by decide +kernel
theorem d7_balances_27 : decode M7_balances.2.1 27 = .ok (.invokevirtual 122, 3) := by decide +kernel
theorem d7_balances_30 : decode M7_balances.2.1 30 = .ok (.ifCond .eq 7, 3) := by decide +kernel
theorem d7_balances_33 : decode M7_balances.2.1 33 = .ok (.iconst 1, 1) := by decide +kernel
theorem d7_balances_34 : decode M7_balances.2.1 34 = .ok (.goto 4, 3) := by decide +kernel
theorem d7_balances_37 : decode M7_balances.2.1 37 = .ok (.iconst 0, 1) := by decide +kernel
theorem d7_balances_38 : decode M7_balances.2.1 38 = .ok (.ireturn, 1) := by decide +kernel
theorem d7_balance_0 : decode M7_balance.2.1 0 = .ok (.iload_n 1, 1) := by decide +kernel
theorem d7_balance_1 : decode M7_balance.2.1 1 = .ok (.bipush 8, 2) := by decide +kernel
theorem d7_balance_3 : decode M7_balance.2.1 3 = .ok (.invokestatic 49, 3) := by decide +kernel
theorem d7_balance_6 : decode M7_balance.2.1 6 = .ok (.ifCond .ne 5, 3) := by decide +kernel
theorem d7_balance_9 : decode M7_balance.2.1 9 = .ok (.lconst 0, 1) := by decide +kernel
theorem d7_balance_10 : decode M7_balance.2.1 10 = .ok (.lreturn, 1) := by decide +kernel
theorem d7_balance_11 : decode M7_balance.2.1 11 = .ok (.aload_n 0, 1) := by decide +kernel
theorem d7_balance_12 : decode M7_balance.2.1 12 = .ok (.getfield 19, 3) := by decide +kernel
theorem d7_balance_15 : decode M7_balance.2.1 15 = .ok (.aload_n 0, 1) := by decide +kernel
theorem d7_balance_16 : decode M7_balance.2.1 16 = .ok (.getfield 10, 3) := by decide +kernel
theorem d7_balance_19 : decode M7_balance.2.1 19 = .ok (.invokevirtual 108, 3) := by decide +kernel
theorem d7_balance_22 : decode M7_balance.2.1 22 = .ok (.aload_n 0, 1) := by decide +kernel
theorem d7_balance_23 : decode M7_balance.2.1 23 = .ok (.getfield 19, 3) := by decide +kernel
theorem d7_balance_26 : decode M7_balance.2.1 26 = .ok (.iload_n 1, 1) := by decide +kernel
theorem d7_balance_27 : decode M7_balance.2.1 27 = .ok (.invokevirtual 122, 3) := by decide +kernel
theorem d7_balance_30 : decode M7_balance.2.1 30 = .ok (.ifCond .eq 14, 3) := by decide +kernel
theorem d7_balance_33 : decode M7_balance.2.1 33 = .ok (.aload_n 0, 1) := by decide +kernel
theorem d7_balance_34 : decode M7_balance.2.1 34 = .ok (.getfield 19, 3) := by decide +kernel
theorem d7_balance_37 : decode M7_balance.2.1 37 = .ok (.iload_n 1, 1) := by decide +kernel
theorem d7_balance_38 : decode M7_balance.2.1 38 = .ok (.invokevirtual 125, 3) := by decide +kernel
theorem d7_balance_41 : decode M7_balance.2.1 41 = .ok (.goto 4, 3) := by decide +kernel
theorem d7_balance_44 : decode M7_balance.2.1 44 = .ok (.lconst 0, 1) := by decide +kernel
theorem d7_balance_45 : decode M7_balance.2.1 45 = .ok (.lreturn, 1) := by decide +kernel
theorem d7_does_0 : decode M7_does.2.1 0 = .ok (.aload_n 0, 1) := by decide +kernel
theorem d7_does_1 : decode M7_does.2.1 1 = .ok (.getfield 19, 3) := by decide +kernel
theorem d7_does_4 : decode M7_does.2.1 4 = .ok (.iload_n 1, 1) := by decide +kernel
theorem d7_does_5 : decode M7_does.2.1 5 = .ok (.invokevirtual 128, 3) := by decide +kernel
theorem d7_does_8 : decode M7_does.2.1 8 = .ok (.ifCond .ne 5, 3) := by decide +kernel
theorem d7_does_11 : decode M7_does.2.1 11 = .ok (.iconst (-1), 1) := by decide +kernel
theorem d7_does_12 : decode M7_does.2.1 12 = .ok (.ireturn, 1) := by decide +kernel
theorem d7_does_13 : decode M7_does.2.1 13 = .ok (.aload_n 0, 1) := by decide +kernel
theorem d7_does_14 : decode M7_does.2.1 14 = .ok (.getfield 19, 3) := by decide +kernel
theorem d7_does_17 : decode M7_does.2.1 17 = .ok (.iload_n 1, 1) := by decide +kernel
theorem d7_does_18 : decode M7_does.2.1 18 = .ok (.invokevirtual 131, 3) := by decide +kernel
theorem d7_does_21 : decode M7_does.2.1 21 = .ok (.ifCond .eq 7, 3) := by decide +kernel
theorem d7_does_24 : decode M7_does.2.1 24 = .ok (.iconst 1, 1) := by decide +kernel
theorem d7_does_25 : decode M7_does.2.1 25 = .ok (.goto 4, 3) := by decide +kernel
theorem d7_does_28 : decode M7_does.2.1 28 = .ok (.iconst 0, 1) := by decide +kernel
theorem d7_does_29 : decode M7_does.2.1 29 = .ok (.ireturn, 1) := by decide +kernel
theorem d7_plan_0 : decode M7_plan.2.1 0 = .ok (.aload_n 0, 1) := by decide +kernel
theorem d7_plan_1 : decode M7_plan.2.1 1 = .ok (.getfield 19, 3) := by decide +kernel
theorem d7_plan_4 : decode M7_plan.2.1 4 = .ok (.invokevirtual 134, 3) := by decide +kernel
theorem d7_plan_7 : decode M7_plan.2.1 7 = .ok (.ireturn, 1) := by decide +kernel
theorem d7_feed_0 : decode M7_feed.2.1 0 = .ok (.aload_n 0, 1) := by decide +kernel
theorem d7_feed_1 : decode M7_feed.2.1 1 = .ok (.getfield 26, 3) := by decide +kernel
theorem d7_feed_4 : decode M7_feed.2.1 4 = .ok (.getfield 138, 3) := by decide +kernel
theorem d7_feed_7 : decode M7_feed.2.1 7 = .ok (.bipush 20, 2) := by decide +kernel
theorem d7_feed_9 : decode M7_feed.2.1 9 = .ok (.iadd, 1) := by decide +kernel
theorem d7_feed_10 : decode M7_feed.2.1 10 = .ok (.bipush 120, 2) := by decide +kernel
theorem d7_feed_12 : decode M7_feed.2.1 12 = .ok (.if_icmp .le 5, 3) := by decide +kernel
theorem d7_feed_15 : decode M7_feed.2.1 15 = .ok (.iconst (-1), 1) := by decide +kernel
theorem d7_feed_16 : decode M7_feed.2.1 16 = .ok (.ireturn, 1) := by decide +kernel
theorem d7_feed_17 : decode M7_feed.2.1 17 = .ok (.aload_n 0, 1) := by decide +kernel
theorem d7_feed_18 : decode M7_feed.2.1 18 = .ok (.getfield 26, 3) := by decide +kernel
theorem d7_feed_21 : decode M7_feed.2.1 21 = .ok (.iload_n 1, 1) := by decide +kernel
theorem d7_feed_22 : decode M7_feed.2.1 22 = .ok (.invokevirtual 141, 3) := by decide +kernel
theorem d7_feed_25 : decode M7_feed.2.1 25 = .ok (.aload_n 0, 1) := by decide +kernel
theorem d7_feed_26 : decode M7_feed.2.1 26 = .ok (.getfield 26, 3) := by decide +kernel
theorem d7_feed_29 : decode M7_feed.2.1 29 = .ok (.iload_n 2, 1) := by decide +kernel
theorem d7_feed_30 : decode M7_feed.2.1 30 = .ok (.invokevirtual 141, 3) := by decide +kernel
theorem d7_feed_33 : decode M7_feed.2.1 33 = .ok (.aload_n 0, 1) := by decide +kernel
theorem d7_feed_34 : decode M7_feed.2.1 34 = .ok (.getfield 26, 3) := by decide +kernel
theorem d7_feed_37 : decode M7_feed.2.1 37 = .ok (.iload_n 3, 1) := by decide +kernel
theorem d7_feed_38 : decode M7_feed.2.1 38 = .ok (.invokevirtual 141, 3) := by decide +kernel
theorem d7_feed_41 : decode M7_feed.2.1 41 = .ok (.aload_n 0, 1) := by decide +kernel
theorem d7_feed_42 : decode M7_feed.2.1 42 = .ok (.getfield 26, 3) := by decide +kernel
theorem d7_feed_45 : decode M7_feed.2.1 45 = .ok (.iload 4, 2) := by decide +kernel
theorem d7_feed_47 : decode M7_feed.2.1 47 = .ok (.invokevirtual 141, 3) := by decide +kernel
theorem d7_feed_50 : decode M7_feed.2.1 50 = .ok (.aload_n 0, 1) := by decide +kernel
theorem d7_feed_51 : decode M7_feed.2.1 51 = .ok (.getfield 26, 3) := by decide +kernel
theorem d7_feed_54 : decode M7_feed.2.1 54 = .ok (.iload 5, 2) := by decide +kernel
theorem d7_feed_56 : decode M7_feed.2.1 56 = .ok (.invokevirtual 141, 3) := by decide +kernel
theorem d7_feed_59 : decode M7_feed.2.1 59 = .ok (.aload_n 0, 1) := by decide +kernel
theorem d7_feed_60 : decode M7_feed.2.1 60 = .ok (.getfield 26, 3) := by decide +kernel
theorem d7_feed_63 : decode M7_feed.2.1 63 = .ok (.getfield 138, 3) := by decide +kernel
theorem d7_feed_66 : decode M7_feed.2.1 66 = .ok (.ireturn, 1) := by decide +kernel
theorem d7_rules_0 : decode M7_rules.2.1 0 = .ok (.iload_n 1, 1) := by decide +kernel
theorem d7_rules_1 : decode M7_rules.2.1 1 = .ok (.ifCond .lt 14, 3) := by decide +kernel
theorem d7_rules_4 : decode M7_rules.2.1 4 = .ok (.iload_n 1, 1) := by decide +kernel
theorem d7_rules_5 : decode M7_rules.2.1 5 = .ok (.aload_n 0, 1) := by decide +kernel
theorem d7_rules_6 : decode M7_rules.2.1 6 = .ok (.getfield 26, 3) := by decide +kernel
theorem d7_rules_9 : decode M7_rules.2.1 9 = .ok (.getfield 138, 3) := by decide +kernel
theorem d7_rules_12 : decode M7_rules.2.1 12 = .ok (.if_icmp .le 5, 3) := by decide +kernel
theorem d7_rules_15 : decode M7_rules.2.1 15 = .ok (.iconst (-1), 1) := by decide +kernel
theorem d7_rules_16 : decode M7_rules.2.1 16 = .ok (.ireturn, 1) := by decide +kernel
theorem d7_rules_17 : decode M7_rules.2.1 17 = .ok (.aload_n 0, 1) := by decide +kernel
theorem d7_rules_18 : decode M7_rules.2.1 18 = .ok (.getfield 35, 3) := by decide +kernel
theorem d7_rules_21 : decode M7_rules.2.1 21 = .ok (.iload_n 1, 1) := by decide +kernel
theorem d7_rules_22 : decode M7_rules.2.1 22 = .ok (.aload_n 0, 1) := by decide +kernel
theorem d7_rules_23 : decode M7_rules.2.1 23 = .ok (.getfield 46, 3) := by decide +kernel
theorem d7_rules_26 : decode M7_rules.2.1 26 = .ok (.invokevirtual 145, 3) := by decide +kernel
theorem d7_rules_29 : decode M7_rules.2.1 29 = .ok (.istore_n 2, 1) := by decide +kernel
theorem d7_rules_30 : decode M7_rules.2.1 30 = .ok (.aload_n 0, 1) := by decide +kernel
theorem d7_rules_31 : decode M7_rules.2.1 31 = .ok (.getfield 26, 3) := by decide +kernel
theorem d7_rules_34 : decode M7_rules.2.1 34 = .ok (.iconst 0, 1) := by decide +kernel
theorem d7_rules_35 : decode M7_rules.2.1 35 = .ok (.putfield 138, 3) := by decide +kernel
theorem d7_rules_38 : decode M7_rules.2.1 38 = .ok (.iload_n 2, 1) := by decide +kernel
theorem d7_rules_39 : decode M7_rules.2.1 39 = .ok (.ifCond .ne 21, 3) := by decide +kernel
theorem d7_rules_42 : decode M7_rules.2.1 42 = .ok (.aload_n 0, 1) := by decide +kernel
theorem d7_rules_43 : decode M7_rules.2.1 43 = .ok (.getfield 42, 3) := by decide +kernel
theorem d7_rules_46 : decode M7_rules.2.1 46 = .ok (.astore_n 3, 1) := by decide +kernel
theorem d7_rules_47 : decode M7_rules.2.1 47 = .ok (.aload_n 0, 1) := by decide +kernel
theorem d7_rules_48 : decode M7_rules.2.1 48 = .ok (.aload_n 0, 1) := by decide +kernel
theorem d7_rules_49 : decode M7_rules.2.1 49 = .ok (.getfield 46, 3) := by decide +kernel
theorem d7_rules_52 : decode M7_rules.2.1 52 = .ok (.putfield 42, 3) := by decide +kernel
theorem d7_rules_55 : decode M7_rules.2.1 55 = .ok (.aload_n 0, 1) := by decide +kernel
theorem d7_rules_56 : decode M7_rules.2.1 56 = .ok (.aload_n 3, 1) := by decide +kernel
theorem d7_rules_57 : decode M7_rules.2.1 57 = .ok (.putfield 46, 3) := by decide +kernel
theorem d7_rules_60 : decode M7_rules.2.1 60 = .ok (.iload_n 2, 1) := by decide +kernel
theorem d7_rules_61 : decode M7_rules.2.1 61 = .ok (.ireturn, 1) := by decide +kernel
theorem d7_pass_0 : decode M7_pass.2.1 0 = .ok (.aload_n 0, 1) := by decide +kernel
theorem d7_pass_1 : decode M7_pass.2.1 1 = .ok (.getfield 19, 3) := by decide +kernel
theorem d7_pass_4 : decode M7_pass.2.1 4 = .ok (.iload_n 1, 1) := by decide +kernel
theorem d7_pass_5 : decode M7_pass.2.1 5 = .ok (.invokevirtual 74, 3) := by decide +kernel
theorem d7_pass_8 : decode M7_pass.2.1 8 = .ok (.astore_n 3, 1) := by decide +kernel
theorem d7_pass_9 : decode M7_pass.2.1 9 = .ok (.aload_n 3, 1) := by decide +kernel
theorem d7_pass_10 : decode M7_pass.2.1 10 = .ok (.ifnull 18, 3) := by decide +kernel
theorem d7_pass_13 : decode M7_pass.2.1 13 = .ok (.iload_n 2, 1) := by decide +kernel
theorem d7_pass_14 : decode M7_pass.2.1 14 = .ok (.ifCond .lt 14, 3) := by decide +kernel
theorem d7_pass_17 : decode M7_pass.2.1 17 = .ok (.iload_n 2, 1) := by decide +kernel
theorem d7_pass_18 : decode M7_pass.2.1 18 = .ok (.aload_n 0, 1) := by decide +kernel
theorem d7_pass_19 : decode M7_pass.2.1 19 = .ok (.getfield 26, 3) := by decide +kernel
theorem d7_pass_22 : decode M7_pass.2.1 22 = .ok (.getfield 138, 3) := by decide +kernel
theorem d7_pass_25 : decode M7_pass.2.1 25 = .ok (.if_icmp .le 5, 3) := by decide +kernel
theorem d7_pass_28 : decode M7_pass.2.1 28 = .ok (.iconst (-1), 1) := by decide +kernel
theorem d7_pass_29 : decode M7_pass.2.1 29 = .ok (.ireturn, 1) := by decide +kernel
theorem d7_pass_30 : decode M7_pass.2.1 30 = .ok (.iconst 0, 1) := by decide +kernel
theorem d7_pass_31 : decode M7_pass.2.1 31 = .ok (.istore 4, 2) := by decide +kernel
theorem d7_pass_33 : decode M7_pass.2.1 33 = .ok (.iconst 0, 1) := by decide +kernel
theorem d7_pass_34 : decode M7_pass.2.1 34 = .ok (.istore 5, 2) := by decide +kernel
theorem d7_pass_36 : decode M7_pass.2.1 36 = .ok (.iconst 0, 1) := by decide +kernel
theorem d7_pass_37 : decode M7_pass.2.1 37 = .ok (.istore 6, 2) := by decide +kernel
theorem d7_pass_39 : decode M7_pass.2.1 39 = .ok (.iload 6, 2) := by decide +kernel
theorem d7_pass_41 : decode M7_pass.2.1 41 = .ok (.iload_n 2, 1) := by decide +kernel
theorem d7_pass_42 : decode M7_pass.2.1 42 = .ok (.if_icmp .gt 73, 3) := by decide +kernel
theorem d7_pass_45 : decode M7_pass.2.1 45 = .ok (.iload 6, 2) := by decide +kernel
theorem d7_pass_47 : decode M7_pass.2.1 47 = .ok (.iload_n 2, 1) := by decide +kernel
theorem d7_pass_48 : decode M7_pass.2.1 48 = .ok (.if_icmp .ge 18, 3) := by decide +kernel
theorem d7_pass_51 : decode M7_pass.2.1 51 = .ok (.aload_n 0, 1) := by decide +kernel
theorem d7_pass_52 : decode M7_pass.2.1 52 = .ok (.getfield 26, 3) := by decide +kernel
theorem d7_pass_55 : decode M7_pass.2.1 55 = .ok (.iload 6, 2) := by decide +kernel
theorem d7_pass_57 : decode M7_pass.2.1 57 = .ok (.invokevirtual 149, 3) := by decide +kernel
theorem d7_pass_60 : decode M7_pass.2.1 60 = .ok (.ifCond .eq 6, 3) := by decide +kernel
theorem d7_pass_63 : decode M7_pass.2.1 63 = .ok (.goto 46, 3) := by decide +kernel
theorem d7_pass_66 : decode M7_pass.2.1 66 = .ok (.iload 6, 2) := by decide +kernel
theorem d7_pass_68 : decode M7_pass.2.1 68 = .ok (.iload 5, 2) := by decide +kernel
theorem d7_pass_70 : decode M7_pass.2.1 70 = .ok (.if_icmp .le 33, 3) := by decide +kernel
theorem d7_pass_73 : decode M7_pass.2.1 73 = .ok (.aload_n 3, 1) := by decide +kernel
theorem d7_pass_74 : decode M7_pass.2.1 74 = .ok (.getfield 152, 3) := by decide +kernel
theorem d7_pass_77 : decode M7_pass.2.1 77 = .ok (.aload_n 0, 1) := by decide +kernel
theorem d7_pass_78 : decode M7_pass.2.1 78 = .ok (.getfield 42, 3) := by decide +kernel
theorem d7_pass_81 : decode M7_pass.2.1 81 = .ok (.aload_n 0, 1) := by decide +kernel
theorem d7_pass_82 : decode M7_pass.2.1 82 = .ok (.getfield 26, 3) := by decide +kernel
theorem d7_pass_85 : decode M7_pass.2.1 85 = .ok (.iload 5, 2) := by decide +kernel
theorem d7_pass_87 : decode M7_pass.2.1 87 = .ok (.iload 6, 2) := by decide +kernel
theorem d7_pass_89 : decode M7_pass.2.1 89 = .ok (.iload 5, 2) := by decide +kernel
theorem d7_pass_91 : decode M7_pass.2.1 91 = .ok (.isub, 1) := by decide +kernel
theorem d7_pass_92 : decode M7_pass.2.1 92 = .ok (.invokevirtual 156, 3) := by decide +kernel
theorem d7_pass_95 : decode M7_pass.2.1 95 = .ok (.dup2, 1) := by decide +kernel
theorem d7_pass_96 : decode M7_pass.2.1 96 = .ok (.iaload, 1) := by decide +kernel
theorem d7_pass_97 : decode M7_pass.2.1 97 = .ok (.iconst 1, 1) := by decide +kernel
theorem d7_pass_98 : decode M7_pass.2.1 98 = .ok (.iadd, 1) := by decide +kernel
theorem d7_pass_99 : decode M7_pass.2.1 99 = .ok (.iastore, 1) := by decide +kernel
theorem d7_pass_100 : decode M7_pass.2.1 100 = .ok (.iinc 4 1, 3) := by decide +kernel
theorem d7_pass_103 : decode M7_pass.2.1 103 = .ok (.iload 6, 2) := by decide +kernel
theorem d7_pass_105 : decode M7_pass.2.1 105 = .ok (.iconst 1, 1) := by decide +kernel
theorem d7_pass_106 : decode M7_pass.2.1 106 = .ok (.iadd, 1) := by decide +kernel
theorem d7_pass_107 : decode M7_pass.2.1 107 = .ok (.istore 5, 2) := by decide +kernel
theorem d7_pass_109 : decode M7_pass.2.1 109 = .ok (.iinc 6 1, 3) := by decide +kernel
theorem d7_pass_112 : decode M7_pass.2.1 112 = .ok (.goto (-73), 3) := by decide +kernel
theorem d7_pass_115 : decode M7_pass.2.1 115 = .ok (.aload_n 0, 1) := by decide +kernel
theorem d7_pass_116 : decode M7_pass.2.1 116 = .ok (.getfield 26, 3) := by decide +kernel
theorem d7_pass_119 : decode M7_pass.2.1 119 = .ok (.iconst 0, 1) := by decide +kernel
theorem d7_pass_120 : decode M7_pass.2.1 120 = .ok (.putfield 138, 3) := by decide +kernel
theorem d7_pass_123 : decode M7_pass.2.1 123 = .ok (.iload 4, 2) := by decide +kernel
theorem d7_pass_125 : decode M7_pass.2.1 125 = .ok (.ireturn, 1) := by decide +kernel
theorem d7_kinds_0 : decode M7_kinds.2.1 0 = .ok (.aload_n 0, 1) := by decide +kernel
theorem d7_kinds_1 : decode M7_kinds.2.1 1 = .ok (.getfield 19, 3) := by decide +kernel
theorem d7_kinds_4 : decode M7_kinds.2.1 4 = .ok (.iload_n 1, 1) := by decide +kernel
theorem d7_kinds_5 : decode M7_kinds.2.1 5 = .ok (.invokevirtual 74, 3) := by decide +kernel
theorem d7_kinds_8 : decode M7_kinds.2.1 8 = .ok (.astore_n 3, 1) := by decide +kernel
theorem d7_kinds_9 : decode M7_kinds.2.1 9 = .ok (.aload_n 3, 1) := by decide +kernel
theorem d7_kinds_10 : decode M7_kinds.2.1 10 = .ok (.ifnull 12, 3) := by decide +kernel
theorem d7_kinds_13 : decode M7_kinds.2.1 13 = .ok (.iload_n 2, 1) := by decide +kernel
theorem d7_kinds_14 : decode M7_kinds.2.1 14 = .ok (.bipush 10, 2) := by decide +kernel
theorem d7_kinds_16 : decode M7_kinds.2.1 16 = .ok (.invokestatic 49, 3) := by decide +kernel
theorem d7_kinds_19 : decode M7_kinds.2.1 19 = .ok (.ifCond .ne 5, 3) := by decide +kernel
theorem d7_kinds_22 : decode M7_kinds.2.1 22 = .ok (.iconst (-1), 1) := by decide +kernel
theorem d7_kinds_23 : decode M7_kinds.2.1 23 = .ok (.ireturn, 1) := by decide +kernel
theorem d7_kinds_24 : decode M7_kinds.2.1 24 = .ok (.aload_n 3, 1) := by decide +kernel
theorem d7_kinds_25 : decode M7_kinds.2.1 25 = .ok (.getfield 152, 3) := by decide +kernel
theorem d7_kinds_28 : decode M7_kinds.2.1 28 = .ok (.iload_n 2, 1) := by decide +kernel
theorem d7_kinds_29 : decode M7_kinds.2.1 29 = .ok (.iaload, 1) := by decide +kernel
theorem d7_kinds_30 : decode M7_kinds.2.1 30 = .ok (.ireturn, 1) := by decide +kernel
theorem d7_whole_0 : decode M7_whole.2.1 0 = .ok (.iload_n 1, 1) := by decide +kernel
theorem d7_whole_1 : decode M7_whole.2.1 1 = .ok (.iconst 4, 1) := by decide +kernel
theorem d7_whole_2 : decode M7_whole.2.1 2 = .ok (.invokestatic 49, 3) := by decide +kernel
theorem d7_whole_5 : decode M7_whole.2.1 5 = .ok (.ifCond .eq 14, 3) := by decide +kernel
theorem d7_whole_8 : decode M7_whole.2.1 8 = .ok (.aload_n 0, 1) := by decide +kernel
theorem d7_whole_9 : decode M7_whole.2.1 9 = .ok (.getfield 10, 3) := by decide +kernel
theorem d7_whole_12 : decode M7_whole.2.1 12 = .ok (.iload_n 1, 1) := by decide +kernel
theorem d7_whole_13 : decode M7_whole.2.1 13 = .ok (.invokevirtual 160, 3) := by decide +kernel
theorem d7_whole_16 : decode M7_whole.2.1 16 = .ok (.goto 6, 3) := by decide +kernel
theorem d7_whole_19 : decode M7_whole.2.1 19 = .ok (.ldc2_w 94, 3) := by decide +kernel
theorem d7_whole_22 : decode M7_whole.2.1 22 = .ok (.lreturn, 1) := by decide +kernel
theorem d7_look_0 : decode M7_look.2.1 0 = .ok (.aload_n 0, 1) := by decide +kernel
theorem d7_look_1 : decode M7_look.2.1 1 = .ok (.getfield 19, 3) := by decide +kernel
theorem d7_look_4 : decode M7_look.2.1 4 = .ok (.iload_n 1, 1) := by decide +kernel
theorem d7_look_5 : decode M7_look.2.1 5 = .ok (.invokevirtual 74, 3) := by decide +kernel
theorem d7_look_8 : decode M7_look.2.1 8 = .ok (.astore_n 3, 1) := by decide +kernel
theorem d7_look_9 : decode M7_look.2.1 9 = .ok (.aload_n 3, 1) := by decide +kernel
theorem d7_look_10 : decode M7_look.2.1 10 = .ok (.ifnonnull 5, 3) := by decide +kernel
theorem d7_look_13 : decode M7_look.2.1 13 = .ok (.iconst (-1), 1) := by decide +kernel
theorem d7_look_14 : decode M7_look.2.1 14 = .ok (.ireturn, 1) := by decide +kernel
theorem d7_look_15 : decode M7_look.2.1 15 = .ok (.iload_n 2, 1) := by decide +kernel
theorem d7_look_16 : decode M7_look.2.1 16 = .ok (.tableswitch 80 0 5 #[40, 45, 50, 55, 60, 68], 40) := by decide +kernel
theorem d7_look_56 : decode M7_look.2.1 56 = .ok (.aload_n 3, 1) := by decide +kernel
theorem d7_look_57 : decode M7_look.2.1 57 = .ok (.getfield 163, 3) := by decide +kernel
theorem d7_look_60 : decode M7_look.2.1 60 = .ok (.ireturn, 1) := by decide +kernel
theorem d7_look_61 : decode M7_look.2.1 61 = .ok (.aload_n 3, 1) := by decide +kernel
theorem d7_look_62 : decode M7_look.2.1 62 = .ok (.getfield 166, 3) := by decide +kernel
theorem d7_look_65 : decode M7_look.2.1 65 = .ok (.ireturn, 1) := by decide +kernel
theorem d7_look_66 : decode M7_look.2.1 66 = .ok (.aload_n 3, 1) := by decide +kernel
theorem d7_look_67 : decode M7_look.2.1 67 = .ok (.getfield 169, 3) := by decide +kernel
theorem d7_look_70 : decode M7_look.2.1 70 = .ok (.ireturn, 1) := by decide +kernel
theorem d7_look_71 : decode M7_look.2.1 71 = .ok (.aload_n 3, 1) := by decide +kernel
theorem d7_look_72 : decode M7_look.2.1 72 = .ok (.getfield 78, 3) := by decide +kernel
theorem d7_look_75 : decode M7_look.2.1 75 = .ok (.ireturn, 1) := by decide +kernel
theorem d7_look_76 : decode M7_look.2.1 76 = .ok (.aload_n 3, 1) := by decide +kernel
theorem d7_look_77 : decode M7_look.2.1 77 = .ok (.getfield 85, 3) := by decide +kernel
theorem d7_look_80 : decode M7_look.2.1 80 = .ok (.getfield 172, 3) := by decide +kernel
theorem d7_look_83 : decode M7_look.2.1 83 = .ok (.ireturn, 1) := by decide +kernel
theorem d7_look_84 : decode M7_look.2.1 84 = .ok (.aload_n 3, 1) := by decide +kernel
theorem d7_look_85 : decode M7_look.2.1 85 = .ok (.getfield 85, 3) := by decide +kernel
theorem d7_look_88 : decode M7_look.2.1 88 = .ok (.aload_n 0, 1) := by decide +kernel
theorem d7_look_89 : decode M7_look.2.1 89 = .ok (.getfield 10, 3) := by decide +kernel
theorem d7_look_92 : decode M7_look.2.1 92 = .ok (.invokevirtual 175, 3) := by decide +kernel
theorem d7_look_95 : decode M7_look.2.1 95 = .ok (.ireturn, 1) := by decide +kernel
theorem d7_look_96 : decode M7_look.2.1 96 = .ok (.iload_n 2, 1) := by decide +kernel
theorem d7_look_97 : decode M7_look.2.1 97 = .ok (.bipush 100, 2) := by decide +kernel
theorem d7_look_99 : decode M7_look.2.1 99 = .ok (.if_icmp .ge 7, 3) := by decide +kernel
theorem d7_look_102 : decode M7_look.2.1 102 = .ok (.iconst (-1), 1) := by decide +kernel
theorem d7_look_103 : decode M7_look.2.1 103 = .ok (.goto 14, 3) := by decide +kernel
theorem d7_look_106 : decode M7_look.2.1 106 = .ok (.aload_n 3, 1) := by decide +kernel
theorem d7_look_107 : decode M7_look.2.1 107 = .ok (.getfield 85, 3) := by decide +kernel
theorem d7_look_110 : decode M7_look.2.1 110 = .ok (.iload_n 2, 1) := by decide +kernel
theorem d7_look_111 : decode M7_look.2.1 111 = .ok (.bipush 100, 2) := by decide +kernel
theorem d7_look_113 : decode M7_look.2.1 113 = .ok (.isub, 1) := by decide +kernel
theorem d7_look_114 : decode M7_look.2.1 114 = .ok (.invokevirtual 178, 3) := by decide +kernel
theorem d7_look_117 : decode M7_look.2.1 117 = .ok (.ireturn, 1) := by decide +kernel
theorem d7_tell_0 : decode M7_tell.2.1 0 = .ok (.iload_n 1, 1) := by decide +kernel
theorem d7_tell_1 : decode M7_tell.2.1 1 = .ok (.tableswitch 126 0 5 #[39, 47, 55, 63, 71, 93], 39) := by decide +kernel
theorem d7_tell_40 : decode M7_tell.2.1 40 = .ok (.aload_n 0, 1) := by decide +kernel
theorem d7_tell_41 : decode M7_tell.2.1 41 = .ok (.getfield 19, 3) := by decide +kernel
theorem d7_tell_44 : decode M7_tell.2.1 44 = .ok (.getfield 181, 3) := by decide +kernel
theorem d7_tell_47 : decode M7_tell.2.1 47 = .ok (.ireturn, 1) := by decide +kernel
theorem d7_tell_48 : decode M7_tell.2.1 48 = .ok (.aload_n 0, 1) := by decide +kernel
theorem d7_tell_49 : decode M7_tell.2.1 49 = .ok (.getfield 10, 3) := by decide +kernel
theorem d7_tell_52 : decode M7_tell.2.1 52 = .ok (.getfield 182, 3) := by decide +kernel
theorem d7_tell_55 : decode M7_tell.2.1 55 = .ok (.ireturn, 1) := by decide +kernel
theorem d7_tell_56 : decode M7_tell.2.1 56 = .ok (.aload_n 0, 1) := by decide +kernel
theorem d7_tell_57 : decode M7_tell.2.1 57 = .ok (.getfield 42, 3) := by decide +kernel
theorem d7_tell_60 : decode M7_tell.2.1 60 = .ok (.getfield 185, 3) := by decide +kernel
theorem d7_tell_63 : decode M7_tell.2.1 63 = .ok (.ireturn, 1) := by decide +kernel
theorem d7_tell_64 : decode M7_tell.2.1 64 = .ok (.aload_n 0, 1) := by decide +kernel
theorem d7_tell_65 : decode M7_tell.2.1 65 = .ok (.getfield 26, 3) := by decide +kernel
theorem d7_tell_68 : decode M7_tell.2.1 68 = .ok (.getfield 138, 3) := by decide +kernel
theorem d7_tell_71 : decode M7_tell.2.1 71 = .ok (.ireturn, 1) := by decide +kernel
theorem d7_tell_72 : decode M7_tell.2.1 72 = .ok (.aload_n 0, 1) := by decide +kernel
theorem d7_tell_73 : decode M7_tell.2.1 73 = .ok (.getfield 19, 3) := by decide +kernel
theorem d7_tell_76 : decode M7_tell.2.1 76 = .ok (.aload_n 0, 1) := by decide +kernel
theorem d7_tell_77 : decode M7_tell.2.1 77 = .ok (.getfield 10, 3) := by decide +kernel
theorem d7_tell_80 : decode M7_tell.2.1 80 = .ok (.invokevirtual 108, 3) := by decide +kernel
theorem d7_tell_83 : decode M7_tell.2.1 83 = .ok (.aload_n 0, 1) := by decide +kernel
theorem d7_tell_84 : decode M7_tell.2.1 84 = .ok (.getfield 19, 3) := by decide +kernel
theorem d7_tell_87 : decode M7_tell.2.1 87 = .ok (.getfield 186, 3) := by decide +kernel
theorem d7_tell_90 : decode M7_tell.2.1 90 = .ok (.invokestatic 189, 3) := by decide +kernel
theorem d7_tell_93 : decode M7_tell.2.1 93 = .ok (.ireturn, 1) := by decide +kernel
theorem d7_tell_94 : decode M7_tell.2.1 94 = .ok (.aload_n 0, 1) := by decide +kernel
theorem d7_tell_95 : decode M7_tell.2.1 95 = .ok (.getfield 19, 3) := by decide +kernel
theorem d7_tell_98 : decode M7_tell.2.1 98 = .ok (.aload_n 0, 1) := by decide +kernel
theorem d7_tell_99 : decode M7_tell.2.1 99 = .ok (.getfield 10, 3) := by decide +kernel
theorem d7_tell_102 : decode M7_tell.2.1 102 = .ok (.invokevirtual 108, 3) := by decide +kernel
theorem d7_tell_105 : decode M7_tell.2.1 105 = .ok (.aload_n 0, 1) := by decide +kernel
theorem d7_tell_106 : decode M7_tell.2.1 106 = .ok (.getfield 19, 3) := by decide +kernel
theorem d7_tell_109 : decode M7_tell.2.1 109 = .ok (.getfield 194, 3) := by decide +kernel
theorem d7_tell_112 : decode M7_tell.2.1 112 = .ok (.invokestatic 189, 3) := by decide +kernel
theorem d7_tell_115 : decode M7_tell.2.1 115 = .ok (.aload_n 0, 1) := by decide +kernel
theorem d7_tell_116 : decode M7_tell.2.1 116 = .ok (.getfield 19, 3) := by decide +kernel
theorem d7_tell_119 : decode M7_tell.2.1 119 = .ok (.getfield 186, 3) := by decide +kernel
theorem d7_tell_122 : decode M7_tell.2.1 122 = .ok (.invokestatic 189, 3) := by decide +kernel
theorem d7_tell_125 : decode M7_tell.2.1 125 = .ok (.isub, 1) := by decide +kernel
theorem d7_tell_126 : decode M7_tell.2.1 126 = .ok (.ireturn, 1) := by decide +kernel
theorem d7_tell_127 : decode M7_tell.2.1 127 = .ok (.iconst (-1), 1) := by decide +kernel
theorem d7_tell_128 : decode M7_tell.2.1 128 = .ok (.ireturn, 1) := by decide +kernel
theorem d7_isBelow_0 : decode M7_isBelow.2.1 0 = .ok (.iload_n 0, 1) := by decide +kernel
theorem d7_isBelow_1 : decode M7_isBelow.2.1 1 = .ok (.ifCond .lt 12, 3) := by decide +kernel
theorem d7_isBelow_4 : decode M7_isBelow.2.1 4 = .ok (.iload_n 0, 1) := by decide +kernel
theorem d7_isBelow_5 : decode M7_isBelow.2.1 5 = .ok (.iload_n 1, 1) := by decide +kernel
theorem d7_isBelow_6 : decode M7_isBelow.2.1 6 = .ok (.if_icmp .ge 7, 3) := by decide +kernel
theorem d7_isBelow_9 : decode M7_isBelow.2.1 9 = .ok (.iconst 1, 1) := by decide +kernel
theorem d7_isBelow_10 : decode M7_isBelow.2.1 10 = .ok (.goto 4, 3) := by decide +kernel
theorem d7_isBelow_13 : decode M7_isBelow.2.1 13 = .ok (.iconst 0, 1) := by decide +kernel
theorem d7_isBelow_14 : decode M7_isBelow.2.1 14 = .ok (.ireturn, 1) := by decide +kernel
theorem d7_isWeight_0 : decode M7_isWeight.2.1 0 = .ok (.iload_n 0, 1) := by decide +kernel
theorem d7_isWeight_1 : decode M7_isWeight.2.1 1 = .ok (.iconst 1, 1) := by decide +kernel
theorem d7_isWeight_2 : decode M7_isWeight.2.1 2 = .ok (.if_icmp .lt 13, 3) := by decide +kernel
theorem d7_isWeight_5 : decode M7_isWeight.2.1 5 = .ok (.iload_n 0, 1) := by decide +kernel
theorem d7_isWeight_6 : decode M7_isWeight.2.1 6 = .ok (.bipush 99, 2) := by decide +kernel
theorem d7_isWeight_8 : decode M7_isWeight.2.1 8 = .ok (.if_icmp .gt 7, 3) := by decide +kernel
theorem d7_isWeight_11 : decode M7_isWeight.2.1 11 = .ok (.iconst 1, 1) := by decide +kernel
theorem d7_isWeight_12 : decode M7_isWeight.2.1 12 = .ok (.goto 4, 3) := by decide +kernel
theorem d7_isWeight_15 : decode M7_isWeight.2.1 15 = .ok (.iconst 0, 1) := by decide +kernel
theorem d7_isWeight_16 : decode M7_isWeight.2.1 16 = .ok (.ireturn, 1) := by decide +kernel
theorem d7_isEnd_0 : decode M7_isEnd.2.1 0 = .ok (.iload_n 0, 1) := by decide +kernel
theorem d7_isEnd_1 : decode M7_isEnd.2.1 1 = .ok (.iconst (-1), 1) := by decide +kernel
theorem d7_isEnd_2 : decode M7_isEnd.2.1 2 = .ok (.if_icmp .eq 12, 3) := by decide +kernel
theorem d7_isEnd_5 : decode M7_isEnd.2.1 5 = .ok (.iload_n 0, 1) := by decide +kernel
theorem d7_isEnd_6 : decode M7_isEnd.2.1 6 = .ok (.bipush 8, 2) := by decide +kernel
theorem d7_isEnd_8 : decode M7_isEnd.2.1 8 = .ok (.invokestatic 49, 3) := by decide +kernel
theorem d7_isEnd_11 : decode M7_isEnd.2.1 11 = .ok (.ifCond .eq 7, 3) := by decide +kernel
theorem d7_isEnd_14 : decode M7_isEnd.2.1 14 = .ok (.iconst 1, 1) := by decide +kernel
theorem d7_isEnd_15 : decode M7_isEnd.2.1 15 = .ok (.goto 4, 3) := by decide +kernel
theorem d7_isEnd_18 : decode M7_isEnd.2.1 18 = .ok (.iconst 0, 1) := by decide +kernel
theorem d7_isEnd_19 : decode M7_isEnd.2.1 19 = .ok (.ireturn, 1) := by decide +kernel
theorem dI_numberOfTrailingZeros_0 : decode MI_numberOfTrailingZeros.2.1 0 = .ok (.iload_n 0, 1) := by decide +kernel
theorem dI_numberOfTrailingZeros_1 : decode MI_numberOfTrailingZeros.2.1 1 = .ok (.iconst (-1), 1) := by decide +kernel
theorem dI_numberOfTrailingZeros_2 : decode MI_numberOfTrailingZeros.2.1 2 = .ok (.ixor, 1) := by decide +kernel
theorem dI_numberOfTrailingZeros_3 : decode MI_numberOfTrailingZeros.2.1 3 = .ok (.iload_n 0, 1) := by decide +kernel
theorem dI_numberOfTrailingZeros_4 : decode MI_numberOfTrailingZeros.2.1 4 = .ok (.iconst 1, 1) := by decide +kernel
theorem dI_numberOfTrailingZeros_5 : decode MI_numberOfTrailingZeros.2.1 5 = .ok (.isub, 1) := by decide +kernel
theorem dI_numberOfTrailingZeros_6 : decode MI_numberOfTrailingZeros.2.1 6 = .ok (.iand, 1) := by decide +kernel
theorem dI_numberOfTrailingZeros_7 : decode MI_numberOfTrailingZeros.2.1 7 = .ok (.istore_n 0, 1) := by decide +kernel
theorem dI_numberOfTrailingZeros_8 : decode MI_numberOfTrailingZeros.2.1 8 = .ok (.iload_n 0, 1) := by decide +kernel
theorem dI_numberOfTrailingZeros_9 : decode MI_numberOfTrailingZeros.2.1 9 = .ok (.ifCond .gt 8, 3) := by decide +kernel
theorem dI_numberOfTrailingZeros_12 : decode MI_numberOfTrailingZeros.2.1 12 = .ok (.iload_n 0, 1) := by decide +kernel
theorem dI_numberOfTrailingZeros_13 : decode MI_numberOfTrailingZeros.2.1 13 = .ok (.bipush 32, 2) := by decide +kernel
theorem dI_numberOfTrailingZeros_15 : decode MI_numberOfTrailingZeros.2.1 15 = .ok (.iand, 1) := by decide +kernel
theorem dI_numberOfTrailingZeros_16 : decode MI_numberOfTrailingZeros.2.1 16 = .ok (.ireturn, 1) := by decide +kernel
theorem dI_numberOfTrailingZeros_17 : decode MI_numberOfTrailingZeros.2.1 17 = .ok (.iconst 1, 1) := by decide +kernel
theorem dI_numberOfTrailingZeros_18 : decode MI_numberOfTrailingZeros.2.1 18 = .ok (.istore_n 1, 1) := by decide +kernel
theorem dI_numberOfTrailingZeros_19 : decode MI_numberOfTrailingZeros.2.1 19 = .ok (.iload_n 0, 1) := by decide +kernel
theorem dI_numberOfTrailingZeros_20 : decode MI_numberOfTrailingZeros.2.1 20 = .ok (.ldc_w 264, 3) := by decide +kernel
theorem dI_numberOfTrailingZeros_23 : decode MI_numberOfTrailingZeros.2.1 23 = .ok (.if_icmp .le 11, 3) := by decide +kernel
theorem dI_numberOfTrailingZeros_26 : decode MI_numberOfTrailingZeros.2.1 26 = .ok (.iinc 1 16, 3) := by decide +kernel
theorem dI_numberOfTrailingZeros_29 : decode MI_numberOfTrailingZeros.2.1 29 = .ok (.iload_n 0, 1) := by decide +kernel
theorem dI_numberOfTrailingZeros_30 : decode MI_numberOfTrailingZeros.2.1 30 = .ok (.bipush 16, 2) := by decide +kernel
theorem dI_numberOfTrailingZeros_32 : decode MI_numberOfTrailingZeros.2.1 32 = .ok (.iushr, 1) := by decide +kernel
theorem dI_numberOfTrailingZeros_33 : decode MI_numberOfTrailingZeros.2.1 33 = .ok (.istore_n 0, 1) := by decide +kernel
theorem dI_numberOfTrailingZeros_34 : decode MI_numberOfTrailingZeros.2.1 34 = .ok (.iload_n 0, 1) := by decide +kernel
theorem dI_numberOfTrailingZeros_35 : decode MI_numberOfTrailingZeros.2.1 35 = .ok (.sipush 256, 3) := by decide +kernel
theorem dI_numberOfTrailingZeros_38 : decode MI_numberOfTrailingZeros.2.1 38 = .ok (.if_icmp .le 11, 3) := by decide +kernel
theorem dI_numberOfTrailingZeros_41 : decode MI_numberOfTrailingZeros.2.1 41 = .ok (.iinc 1 8, 3) := by decide +kernel
theorem dI_numberOfTrailingZeros_44 : decode MI_numberOfTrailingZeros.2.1 44 = .ok (.iload_n 0, 1) := by decide +kernel
theorem dI_numberOfTrailingZeros_45 : decode MI_numberOfTrailingZeros.2.1 45 = .ok (.bipush 8, 2) := by decide +kernel
theorem dI_numberOfTrailingZeros_47 : decode MI_numberOfTrailingZeros.2.1 47 = .ok (.iushr, 1) := by decide +kernel
theorem dI_numberOfTrailingZeros_48 : decode MI_numberOfTrailingZeros.2.1 48 = .ok (.istore_n 0, 1) := by decide +kernel
theorem dI_numberOfTrailingZeros_49 : decode MI_numberOfTrailingZeros.2.1 49 = .ok (.iload_n 0, 1) := by decide +kernel
theorem dI_numberOfTrailingZeros_50 : decode MI_numberOfTrailingZeros.2.1 50 = .ok (.bipush 16, 2) := by decide +kernel
theorem dI_numberOfTrailingZeros_52 : decode MI_numberOfTrailingZeros.2.1 52 = .ok (.if_icmp .le 10, 3) := by decide +kernel
theorem dI_numberOfTrailingZeros_55 : decode MI_numberOfTrailingZeros.2.1 55 = .ok (.iinc 1 4, 3) := by decide +kernel
theorem dI_numberOfTrailingZeros_58 : decode MI_numberOfTrailingZeros.2.1 58 = .ok (.iload_n 0, 1) := by decide +kernel
theorem dI_numberOfTrailingZeros_59 : decode MI_numberOfTrailingZeros.2.1 59 = .ok (.iconst 4, 1) := by decide +kernel
theorem dI_numberOfTrailingZeros_60 : decode MI_numberOfTrailingZeros.2.1 60 = .ok (.iushr, 1) := by decide +kernel
theorem dI_numberOfTrailingZeros_61 : decode MI_numberOfTrailingZeros.2.1 61 = .ok (.istore_n 0, 1) := by decide +kernel
theorem dI_numberOfTrailingZeros_62 : decode MI_numberOfTrailingZeros.2.1 62 = .ok (.iload_n 0, 1) := by decide +kernel
theorem dI_numberOfTrailingZeros_63 : decode MI_numberOfTrailingZeros.2.1 63 = .ok (.iconst 4, 1) := by decide +kernel
theorem dI_numberOfTrailingZeros_64 : decode MI_numberOfTrailingZeros.2.1 64 = .ok (.if_icmp .le 10, 3) := by decide +kernel
theorem dI_numberOfTrailingZeros_67 : decode MI_numberOfTrailingZeros.2.1 67 = .ok (.iinc 1 2, 3) := by decide +kernel
theorem dI_numberOfTrailingZeros_70 : decode MI_numberOfTrailingZeros.2.1 70 = .ok (.iload_n 0, 1) := by decide +kernel
theorem dI_numberOfTrailingZeros_71 : decode MI_numberOfTrailingZeros.2.1 71 = .ok (.iconst 2, 1) := by decide +kernel
theorem dI_numberOfTrailingZeros_72 : decode MI_numberOfTrailingZeros.2.1 72 = .ok (.iushr, 1) := by decide +kernel
theorem dI_numberOfTrailingZeros_73 : decode MI_numberOfTrailingZeros.2.1 73 = .ok (.istore_n 0, 1) := by decide +kernel
theorem dI_numberOfTrailingZeros_74 : decode MI_numberOfTrailingZeros.2.1 74 = .ok (.iload_n 1, 1) := by decide +kernel
theorem dI_numberOfTrailingZeros_75 : decode MI_numberOfTrailingZeros.2.1 75 = .ok (.iload_n 0, 1) := by decide +kernel
theorem dI_numberOfTrailingZeros_76 : decode MI_numberOfTrailingZeros.2.1 76 = .ok (.iconst 1, 1) := by decide +kernel
theorem dI_numberOfTrailingZeros_77 : decode MI_numberOfTrailingZeros.2.1 77 = .ok (.iushr, 1) := by decide +kernel
theorem dI_numberOfTrailingZeros_78 : decode MI_numberOfTrailingZeros.2.1 78 = .ok (.iadd, 1) := by decide +kernel
theorem dI_numberOfTrailingZeros_79 : decode MI_numberOfTrailingZeros.2.1 79 = .ok (.ireturn, 1) := by decide +kernel
theorem dI_bitCount_0 : decode MI_bitCount.2.1 0 = .ok (.iload_n 0, 1) := by decide +kernel
theorem dI_bitCount_1 : decode MI_bitCount.2.1 1 = .ok (.iload_n 0, 1) := by decide +kernel
theorem dI_bitCount_2 : decode MI_bitCount.2.1 2 = .ok (.iconst 1, 1) := by decide +kernel
theorem dI_bitCount_3 : decode MI_bitCount.2.1 3 = .ok (.iushr, 1) := by decide +kernel
theorem dI_bitCount_4 : decode MI_bitCount.2.1 4 = .ok (.ldc_w 265, 3) := by decide +kernel
theorem dI_bitCount_7 : decode MI_bitCount.2.1 7 = .ok (.iand, 1) := by decide +kernel
theorem dI_bitCount_8 : decode MI_bitCount.2.1 8 = .ok (.isub, 1) := by decide +kernel
theorem dI_bitCount_9 : decode MI_bitCount.2.1 9 = .ok (.istore_n 0, 1) := by decide +kernel
theorem dI_bitCount_10 : decode MI_bitCount.2.1 10 = .ok (.iload_n 0, 1) := by decide +kernel
theorem dI_bitCount_11 : decode MI_bitCount.2.1 11 = .ok (.ldc_w 266, 3) := by decide +kernel
theorem dI_bitCount_14 : decode MI_bitCount.2.1 14 = .ok (.iand, 1) := by decide +kernel
theorem dI_bitCount_15 : decode MI_bitCount.2.1 15 = .ok (.iload_n 0, 1) := by decide +kernel
theorem dI_bitCount_16 : decode MI_bitCount.2.1 16 = .ok (.iconst 2, 1) := by decide +kernel
theorem dI_bitCount_17 : decode MI_bitCount.2.1 17 = .ok (.iushr, 1) := by decide +kernel
theorem dI_bitCount_18 : decode MI_bitCount.2.1 18 = .ok (.ldc_w 266, 3) := by decide +kernel
theorem dI_bitCount_21 : decode MI_bitCount.2.1 21 = .ok (.iand, 1) := by decide +kernel
theorem dI_bitCount_22 : decode MI_bitCount.2.1 22 = .ok (.iadd, 1) := by decide +kernel
theorem dI_bitCount_23 : decode MI_bitCount.2.1 23 = .ok (.istore_n 0, 1) := by decide +kernel
theorem dI_bitCount_24 : decode MI_bitCount.2.1 24 = .ok (.iload_n 0, 1) := by decide +kernel
theorem dI_bitCount_25 : decode MI_bitCount.2.1 25 = .ok (.iload_n 0, 1) := by decide +kernel
theorem dI_bitCount_26 : decode MI_bitCount.2.1 26 = .ok (.iconst 4, 1) := by decide +kernel
theorem dI_bitCount_27 : decode MI_bitCount.2.1 27 = .ok (.iushr, 1) := by decide +kernel
theorem dI_bitCount_28 : decode MI_bitCount.2.1 28 = .ok (.iadd, 1) := by decide +kernel
theorem dI_bitCount_29 : decode MI_bitCount.2.1 29 = .ok (.ldc_w 267, 3) := by decide +kernel
theorem dI_bitCount_32 : decode MI_bitCount.2.1 32 = .ok (.iand, 1) := by decide +kernel
theorem dI_bitCount_33 : decode MI_bitCount.2.1 33 = .ok (.istore_n 0, 1) := by decide +kernel
theorem dI_bitCount_34 : decode MI_bitCount.2.1 34 = .ok (.iload_n 0, 1) := by decide +kernel
theorem dI_bitCount_35 : decode MI_bitCount.2.1 35 = .ok (.iload_n 0, 1) := by decide +kernel
theorem dI_bitCount_36 : decode MI_bitCount.2.1 36 = .ok (.bipush 8, 2) := by decide +kernel
theorem dI_bitCount_38 : decode MI_bitCount.2.1 38 = .ok (.iushr, 1) := by decide +kernel
theorem dI_bitCount_39 : decode MI_bitCount.2.1 39 = .ok (.iadd, 1) := by decide +kernel
theorem dI_bitCount_40 : decode MI_bitCount.2.1 40 = .ok (.istore_n 0, 1) := by decide +kernel
theorem dI_bitCount_41 : decode MI_bitCount.2.1 41 = .ok (.iload_n 0, 1) := by decide +kernel
theorem dI_bitCount_42 : decode MI_bitCount.2.1 42 = .ok (.iload_n 0, 1) := by decide +kernel
theorem dI_bitCount_43 : decode MI_bitCount.2.1 43 = .ok (.bipush 16, 2) := by decide +kernel
theorem dI_bitCount_45 : decode MI_bitCount.2.1 45 = .ok (.iushr, 1) := by decide +kernel
theorem dI_bitCount_46 : decode MI_bitCount.2.1 46 = .ok (.iadd, 1) := by decide +kernel
theorem dI_bitCount_47 : decode MI_bitCount.2.1 47 = .ok (.istore_n 0, 1) := by decide +kernel
theorem dI_bitCount_48 : decode MI_bitCount.2.1 48 = .ok (.iload_n 0, 1) := by decide +kernel
theorem dI_bitCount_49 : decode MI_bitCount.2.1 49 = .ok (.bipush 63, 2) := by decide +kernel
theorem dI_bitCount_51 : decode MI_bitCount.2.1 51 = .ok (.iand, 1) := by decide +kernel
theorem dI_bitCount_52 : decode MI_bitCount.2.1 52 = .ok (.ireturn, 1) := by decide +kernel
theorem dA_abs_0 : decode MA_abs.2.1 0 = .ok (.lload_n 0, 1) := by decide +kernel
theorem dA_abs_1 : decode MA_abs.2.1 1 = .ok (.lconst 0, 1) := by decide +kernel
theorem dA_abs_2 : decode MA_abs.2.1 2 = .ok (.lcmp, 1) := by decide +kernel
theorem dA_abs_3 : decode MA_abs.2.1 3 = .ok (.ifCond .ge 8, 3) := by decide +kernel
theorem dA_abs_6 : decode MA_abs.2.1 6 = .ok (.lload_n 0, 1) := by decide +kernel
theorem dA_abs_7 : decode MA_abs.2.1 7 = .ok (.lneg, 1) := by decide +kernel
theorem dA_abs_8 : decode MA_abs.2.1 8 = .ok (.goto 4, 3) := by decide +kernel
theorem dA_abs_11 : decode MA_abs.2.1 11 = .ok (.lload_n 0, 1) := by decide +kernel
theorem dA_abs_12 : decode MA_abs.2.1 12 = .ok (.lreturn, 1) := by decide +kernel
