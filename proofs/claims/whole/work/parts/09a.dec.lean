/-! what each instruction is -/
theorem d0_init_0 : decode M0_init.2.1 0 = .ok (.aload_n 0, 1) := by decide +kernel
theorem d0_init_1 : decode M0_init.2.1 1 = .ok (.invokespecial 3, 3) := by decide +kernel
theorem d0_init_4 : decode M0_init.2.1 4 = .ok (.aload_n 0, 1) := by decide +kernel
theorem d0_init_5 : decode M0_init.2.1 5 = .ok (.iconst 4, 1) := by decide +kernel
theorem d0_init_6 : decode M0_init.2.1 6 = .ok (.bipush 7, 2) := by decide +kernel
theorem d0_init_8 : decode M0_init.2.1 8 = .ok (.multianewarray 9 2, 4) := by decide +kernel
theorem d0_init_12 : decode M0_init.2.1 12 = .ok (.putfield 11, 3) := by decide +kernel
theorem d0_init_15 : decode M0_init.2.1 15 = .ok (.aload_n 0, 1) := by decide +kernel
theorem d0_init_16 : decode M0_init.2.1 16 = .ok (.iconst 4, 1) := by decide +kernel
theorem d0_init_17 : decode M0_init.2.1 17 = .ok (.bipush 13, 2) := by decide +kernel
theorem d0_init_19 : decode M0_init.2.1 19 = .ok (.multianewarray 9 2, 4) := by decide +kernel
theorem d0_init_23 : decode M0_init.2.1 23 = .ok (.putfield 16, 3) := by decide +kernel
theorem d0_init_26 : decode M0_init.2.1 26 = .ok (.aload_n 0, 1) := by decide +kernel
theorem d0_init_27 : decode M0_init.2.1 27 = .ok (.sipush 364, 3) := by decide +kernel
theorem d0_init_30 : decode M0_init.2.1 30 = .ok (.newarray .boolean, 2) := by decide +kernel
theorem d0_init_32 : decode M0_init.2.1 32 = .ok (.putfield 19, 3) := by decide +kernel
theorem d0_init_35 : decode M0_init.2.1 35 = .ok (.aload_n 0, 1) := by decide +kernel
theorem d0_init_36 : decode M0_init.2.1 36 = .ok (.bipush 20, 2) := by decide +kernel
theorem d0_init_38 : decode M0_init.2.1 38 = .ok (.newarray .int, 2) := by decide +kernel
theorem d0_init_40 : decode M0_init.2.1 40 = .ok (.putfield 23, 3) := by decide +kernel
theorem d0_init_43 : decode M0_init.2.1 43 = .ok (.iconst 0, 1) := by decide +kernel
theorem d0_init_44 : decode M0_init.2.1 44 = .ok (.istore_n 1, 1) := by decide +kernel
theorem d0_init_45 : decode M0_init.2.1 45 = .ok (.iload_n 1, 1) := by decide +kernel
theorem d0_init_46 : decode M0_init.2.1 46 = .ok (.iconst 4, 1) := by decide +kernel
theorem d0_init_47 : decode M0_init.2.1 47 = .ok (.if_icmp .ge 55, 3) := by decide +kernel
theorem d0_init_50 : decode M0_init.2.1 50 = .ok (.iconst 0, 1) := by decide +kernel
theorem d0_init_51 : decode M0_init.2.1 51 = .ok (.istore_n 2, 1) := by decide +kernel
theorem d0_init_52 : decode M0_init.2.1 52 = .ok (.iload_n 2, 1) := by decide +kernel
theorem d0_init_53 : decode M0_init.2.1 53 = .ok (.bipush 7, 2) := by decide +kernel
theorem d0_init_55 : decode M0_init.2.1 55 = .ok (.if_icmp .ge 18, 3) := by decide +kernel
theorem d0_init_58 : decode M0_init.2.1 58 = .ok (.aload_n 0, 1) := by decide +kernel
theorem d0_init_59 : decode M0_init.2.1 59 = .ok (.getfield 11, 3) := by decide +kernel
theorem d0_init_62 : decode M0_init.2.1 62 = .ok (.iload_n 1, 1) := by decide +kernel
theorem d0_init_63 : decode M0_init.2.1 63 = .ok (.aaload, 1) := by decide +kernel
theorem d0_init_64 : decode M0_init.2.1 64 = .ok (.iload_n 2, 1) := by decide +kernel
theorem d0_init_65 : decode M0_init.2.1 65 = .ok (.iconst 1, 1) := by decide +kernel
theorem d0_init_66 : decode M0_init.2.1 66 = .ok (.iastore, 1) := by decide +kernel
theorem d0_init_67 : decode M0_init.2.1 67 = .ok (.iinc 2 1, 3) := by decide +kernel
theorem d0_init_70 : decode M0_init.2.1 70 = .ok (.goto (-18), 3) := by decide +kernel
theorem d0_init_73 : decode M0_init.2.1 73 = .ok (.iconst 0, 1) := by decide +kernel
theorem d0_init_74 : decode M0_init.2.1 74 = .ok (.istore_n 2, 1) := by decide +kernel
theorem d0_init_75 : decode M0_init.2.1 75 = .ok (.iload_n 2, 1) := by decide +kernel
theorem d0_init_76 : decode M0_init.2.1 76 = .ok (.bipush 13, 2) := by decide +kernel
theorem d0_init_78 : decode M0_init.2.1 78 = .ok (.if_icmp .ge 18, 3) := by decide +kernel
theorem d0_init_81 : decode M0_init.2.1 81 = .ok (.aload_n 0, 1) := by decide +kernel
theorem d0_init_82 : decode M0_init.2.1 82 = .ok (.getfield 16, 3) := by decide +kernel
theorem d0_init_85 : decode M0_init.2.1 85 = .ok (.iload_n 1, 1) := by decide +kernel
theorem d0_init_86 : decode M0_init.2.1 86 = .ok (.aaload, 1) := by decide +kernel
theorem d0_init_87 : decode M0_init.2.1 87 = .ok (.iload_n 2, 1) := by decide +kernel
theorem d0_init_88 : decode M0_init.2.1 88 = .ok (.iconst 1, 1) := by decide +kernel
theorem d0_init_89 : decode M0_init.2.1 89 = .ok (.iastore, 1) := by decide +kernel
theorem d0_init_90 : decode M0_init.2.1 90 = .ok (.iinc 2 1, 3) := by decide +kernel
theorem d0_init_93 : decode M0_init.2.1 93 = .ok (.goto (-18), 3) := by decide +kernel
theorem d0_init_96 : decode M0_init.2.1 96 = .ok (.iinc 1 1, 3) := by decide +kernel
theorem d0_init_99 : decode M0_init.2.1 99 = .ok (.goto (-54), 3) := by decide +kernel
theorem d0_init_102 : decode M0_init.2.1 102 = .ok (.return_, 1) := by decide +kernel
theorem d0_weighWeekday_0 : decode M0_weighWeekday.2.1 0 = .ok (.aload_n 0, 1) := by decide +kernel
theorem d0_weighWeekday_1 : decode M0_weighWeekday.2.1 1 = .ok (.getfield 11, 3) := by decide +kernel
theorem d0_weighWeekday_4 : decode M0_weighWeekday.2.1 4 = .ok (.iload_n 1, 1) := by decide +kernel
theorem d0_weighWeekday_5 : decode M0_weighWeekday.2.1 5 = .ok (.aaload, 1) := by decide +kernel
theorem d0_weighWeekday_6 : decode M0_weighWeekday.2.1 6 = .ok (.iload_n 2, 1) := by decide +kernel
theorem d0_weighWeekday_7 : decode M0_weighWeekday.2.1 7 = .ok (.iload_n 3, 1) := by decide +kernel
theorem d0_weighWeekday_8 : decode M0_weighWeekday.2.1 8 = .ok (.iastore, 1) := by decide +kernel
theorem d0_weighWeekday_9 : decode M0_weighWeekday.2.1 9 = .ok (.return_, 1) := by decide +kernel
theorem d0_weighMonth_0 : decode M0_weighMonth.2.1 0 = .ok (.aload_n 0, 1) := by decide +kernel
theorem d0_weighMonth_1 : decode M0_weighMonth.2.1 1 = .ok (.getfield 16, 3) := by decide +kernel
theorem d0_weighMonth_4 : decode M0_weighMonth.2.1 4 = .ok (.iload_n 1, 1) := by decide +kernel
theorem d0_weighMonth_5 : decode M0_weighMonth.2.1 5 = .ok (.aaload, 1) := by decide +kernel
theorem d0_weighMonth_6 : decode M0_weighMonth.2.1 6 = .ok (.iload_n 2, 1) := by decide +kernel
theorem d0_weighMonth_7 : decode M0_weighMonth.2.1 7 = .ok (.iload_n 3, 1) := by decide +kernel
theorem d0_weighMonth_8 : decode M0_weighMonth.2.1 8 = .ok (.iastore, 1) := by decide +kernel
theorem d0_weighMonth_9 : decode M0_weighMonth.2.1 9 = .ok (.return_, 1) := by decide +kernel
theorem d0_addHoliday_0 : decode M0_addHoliday.2.1 0 = .ok (.aload_n 0, 1) := by decide +kernel
theorem d0_addHoliday_1 : decode M0_addHoliday.2.1 1 = .ok (.getfield 19, 3) := by decide +kernel
theorem d0_addHoliday_4 : decode M0_addHoliday.2.1 4 = .ok (.iload_n 1, 1) := by decide +kernel
theorem d0_addHoliday_5 : decode M0_addHoliday.2.1 5 = .ok (.baload, 1) := by decide +kernel
theorem d0_addHoliday_6 : decode M0_addHoliday.2.1 6 = .ok (.ifCond .ne 12, 3) := by decide +kernel
theorem d0_addHoliday_9 : decode M0_addHoliday.2.1 9 = .ok (.aload_n 0, 1) := by decide +kernel
theorem d0_addHoliday_10 : decode M0_addHoliday.2.1 10 = .ok (.getfield 27, 3) := by decide +kernel
theorem d0_addHoliday_13 : decode M0_addHoliday.2.1 13 = .ok (.bipush 20, 2) := by decide +kernel
theorem d0_addHoliday_15 : decode M0_addHoliday.2.1 15 = .ok (.if_icmp .lt 5, 3) := by decide +kernel
theorem d0_addHoliday_18 : decode M0_addHoliday.2.1 18 = .ok (.iconst 0, 1) := by decide +kernel
theorem d0_addHoliday_19 : decode M0_addHoliday.2.1 19 = .ok (.ireturn, 1) := by decide +kernel
theorem d0_addHoliday_20 : decode M0_addHoliday.2.1 20 = .ok (.aload_n 0, 1) := by decide +kernel
theorem d0_addHoliday_21 : decode M0_addHoliday.2.1 21 = .ok (.getfield 19, 3) := by decide +kernel
theorem d0_addHoliday_24 : decode M0_addHoliday.2.1 24 = .ok (.iload_n 1, 1) := by decide +kernel
theorem d0_addHoliday_25 : decode M0_addHoliday.2.1 25 = .ok (.iconst 1, 1) := by decide +kernel
theorem d0_addHoliday_26 : decode M0_addHoliday.2.1 26 = .ok (.bastore, 1) := by decide +kernel
theorem d0_addHoliday_27 : decode M0_addHoliday.2.1 27 = .ok (.aload_n 0, 1) := by decide +kernel
theorem d0_addHoliday_28 : decode M0_addHoliday.2.1 28 = .ok (.getfield 23, 3) := by decide +kernel
theorem d0_addHoliday_31 : decode M0_addHoliday.2.1 31 = .ok (.aload_n 0, 1) := by decide +kernel
theorem d0_addHoliday_32 : decode M0_addHoliday.2.1 32 = .ok (.getfield 27, 3) := by decide +kernel
theorem d0_addHoliday_35 : decode M0_addHoliday.2.1 35 = .ok (.iload_n 1, 1) := by decide +kernel
theorem d0_addHoliday_36 : decode M0_addHoliday.2.1 36 = .ok (.iastore, 1) := by decide +kernel
theorem d0_addHoliday_37 : decode M0_addHoliday.2.1 37 = .ok (.aload_n 0, 1) := by decide +kernel
theorem d0_addHoliday_38 : decode M0_addHoliday.2.1 38 = .ok (.dup, 1) := by decide +kernel
theorem d0_addHoliday_39 : decode M0_addHoliday.2.1 39 = .ok (.getfield 27, 3) := by decide +kernel
theorem d0_addHoliday_42 : decode M0_addHoliday.2.1 42 = .ok (.iconst 1, 1) := by decide +kernel
theorem d0_addHoliday_43 : decode M0_addHoliday.2.1 43 = .ok (.iadd, 1) := by decide +kernel
theorem d0_addHoliday_44 : decode M0_addHoliday.2.1 44 = .ok (.putfield 27, 3) := by decide +kernel
theorem d0_addHoliday_47 : decode M0_addHoliday.2.1 47 = .ok (.iconst 1, 1) := by decide +kernel
theorem d0_addHoliday_48 : decode M0_addHoliday.2.1 48 = .ok (.ireturn, 1) := by decide +kernel
theorem d0_shareOf_0 : decode M0_shareOf.2.1 0 = .ok (.aload_n 0, 1) := by decide +kernel
theorem d0_shareOf_1 : decode M0_shareOf.2.1 1 = .ok (.getfield 19, 3) := by decide +kernel
theorem d0_shareOf_4 : decode M0_shareOf.2.1 4 = .ok (.iload_n 2, 1) := by decide +kernel
theorem d0_shareOf_5 : decode M0_shareOf.2.1 5 = .ok (.baload, 1) := by decide +kernel
theorem d0_shareOf_6 : decode M0_shareOf.2.1 6 = .ok (.ifCond .eq 8, 3) := by decide +kernel
theorem d0_shareOf_9 : decode M0_shareOf.2.1 9 = .ok (.bipush 6, 2) := by decide +kernel
theorem d0_shareOf_11 : decode M0_shareOf.2.1 11 = .ok (.goto 7, 3) := by decide +kernel
theorem d0_shareOf_14 : decode M0_shareOf.2.1 14 = .ok (.iload_n 2, 1) := by decide +kernel
theorem d0_shareOf_15 : decode M0_shareOf.2.1 15 = .ok (.bipush 7, 2) := by decide +kernel
theorem d0_shareOf_17 : decode M0_shareOf.2.1 17 = .ok (.irem, 1) := by decide +kernel
theorem d0_shareOf_18 : decode M0_shareOf.2.1 18 = .ok (.istore_n 3, 1) := by decide +kernel
theorem d0_shareOf_19 : decode M0_shareOf.2.1 19 = .ok (.aload_n 0, 1) := by decide +kernel
theorem d0_shareOf_20 : decode M0_shareOf.2.1 20 = .ok (.getfield 11, 3) := by decide +kernel
theorem d0_shareOf_23 : decode M0_shareOf.2.1 23 = .ok (.iload_n 1, 1) := by decide +kernel
theorem d0_shareOf_24 : decode M0_shareOf.2.1 24 = .ok (.aaload, 1) := by decide +kernel
theorem d0_shareOf_25 : decode M0_shareOf.2.1 25 = .ok (.iload_n 3, 1) := by decide +kernel
theorem d0_shareOf_26 : decode M0_shareOf.2.1 26 = .ok (.iaload, 1) := by decide +kernel
theorem d0_shareOf_27 : decode M0_shareOf.2.1 27 = .ok (.aload_n 0, 1) := by decide +kernel
theorem d0_shareOf_28 : decode M0_shareOf.2.1 28 = .ok (.getfield 16, 3) := by decide +kernel
theorem d0_shareOf_31 : decode M0_shareOf.2.1 31 = .ok (.iload_n 1, 1) := by decide +kernel
theorem d0_shareOf_32 : decode M0_shareOf.2.1 32 = .ok (.aaload, 1) := by decide +kernel
theorem d0_shareOf_33 : decode M0_shareOf.2.1 33 = .ok (.iload_n 2, 1) := by decide +kernel
theorem d0_shareOf_34 : decode M0_shareOf.2.1 34 = .ok (.bipush 28, 2) := by decide +kernel
theorem d0_shareOf_36 : decode M0_shareOf.2.1 36 = .ok (.idiv, 1) := by decide +kernel
theorem d0_shareOf_37 : decode M0_shareOf.2.1 37 = .ok (.iaload, 1) := by decide +kernel
theorem d0_shareOf_38 : decode M0_shareOf.2.1 38 = .ok (.imul, 1) := by decide +kernel
theorem d0_shareOf_39 : decode M0_shareOf.2.1 39 = .ok (.i2l, 1) := by decide +kernel
theorem d0_shareOf_40 : decode M0_shareOf.2.1 40 = .ok (.lreturn, 1) := by decide +kernel
theorem d0_wholeOf_0 : decode M0_wholeOf.2.1 0 = .ok (.lconst 0, 1) := by decide +kernel
theorem d0_wholeOf_1 : decode M0_wholeOf.2.1 1 = .ok (.lstore_n 2, 1) := by decide +kernel
theorem d0_wholeOf_2 : decode M0_wholeOf.2.1 2 = .ok (.iconst 0, 1) := by decide +kernel
theorem d0_wholeOf_3 : decode M0_wholeOf.2.1 3 = .ok (.istore 4, 2) := by decide +kernel
theorem d0_wholeOf_5 : decode M0_wholeOf.2.1 5 = .ok (.iload 4, 2) := by decide +kernel
theorem d0_wholeOf_7 : decode M0_wholeOf.2.1 7 = .ok (.bipush 7, 2) := by decide +kernel
theorem d0_wholeOf_9 : decode M0_wholeOf.2.1 9 = .ok (.if_icmp .ge 22, 3) := by decide +kernel
theorem d0_wholeOf_12 : decode M0_wholeOf.2.1 12 = .ok (.lload_n 2, 1) := by decide +kernel
theorem d0_wholeOf_13 : decode M0_wholeOf.2.1 13 = .ok (.aload_n 0, 1) := by decide +kernel
theorem d0_wholeOf_14 : decode M0_wholeOf.2.1 14 = .ok (.getfield 11, 3) := by decide +kernel
theorem d0_wholeOf_17 : decode M0_wholeOf.2.1 17 = .ok (.iload_n 1, 1) := by decide +kernel
theorem d0_wholeOf_18 : decode M0_wholeOf.2.1 18 = .ok (.aaload, 1) := by decide +kernel
theorem d0_wholeOf_19 : decode M0_wholeOf.2.1 19 = .ok (.iload 4, 2) := by decide +kernel
theorem d0_wholeOf_21 : decode M0_wholeOf.2.1 21 = .ok (.iaload, 1) := by decide +kernel
theorem d0_wholeOf_22 : decode M0_wholeOf.2.1 22 = .ok (.i2l, 1) := by decide +kernel
theorem d0_wholeOf_23 : decode M0_wholeOf.2.1 23 = .ok (.ladd, 1) := by decide +kernel
theorem d0_wholeOf_24 : decode M0_wholeOf.2.1 24 = .ok (.lstore_n 2, 1) := by decide +kernel
theorem d0_wholeOf_25 : decode M0_wholeOf.2.1 25 = .ok (.iinc 4 1, 3) := by decide +kernel
theorem d0_wholeOf_28 : decode M0_wholeOf.2.1 28 = .ok (.goto (-23), 3) := by decide +kernel
theorem d0_wholeOf_31 : decode M0_wholeOf.2.1 31 = .ok (.lconst 0, 1) := by decide +kernel
theorem d0_wholeOf_32 : decode M0_wholeOf.2.1 32 = .ok (.lstore 4, 2) := by decide +kernel
theorem d0_wholeOf_34 : decode M0_wholeOf.2.1 34 = .ok (.iconst 0, 1) := by decide +kernel
theorem d0_wholeOf_35 : decode M0_wholeOf.2.1 35 = .ok (.istore 6, 2) := by decide +kernel
theorem d0_wholeOf_37 : decode M0_wholeOf.2.1 37 = .ok (.iload 6, 2) := by decide +kernel
theorem d0_wholeOf_39 : decode M0_wholeOf.2.1 39 = .ok (.bipush 13, 2) := by decide +kernel
theorem d0_wholeOf_41 : decode M0_wholeOf.2.1 41 = .ok (.if_icmp .ge 24, 3) := by decide +kernel
theorem d0_wholeOf_44 : decode M0_wholeOf.2.1 44 = .ok (.lload 4, 2) := by decide +kernel
theorem d0_wholeOf_46 : decode M0_wholeOf.2.1 46 = .ok (.aload_n 0, 1) := by decide +kernel
theorem d0_wholeOf_47 : decode M0_wholeOf.2.1 47 = .ok (.getfield 16, 3) := by decide +kernel
theorem d0_wholeOf_50 : decode M0_wholeOf.2.1 50 = .ok (.iload_n 1, 1) := by decide +kernel
theorem d0_wholeOf_51 : decode M0_wholeOf.2.1 51 = .ok (.aaload, 1) := by decide +kernel
theorem d0_wholeOf_52 : decode M0_wholeOf.2.1 52 = .ok (.iload 6, 2) := by decide +kernel
theorem d0_wholeOf_54 : decode M0_wholeOf.2.1 54 = .ok (.iaload, 1) := by decide +kernel
theorem d0_wholeOf_55 : decode M0_wholeOf.2.1 55 = .ok (.i2l, 1) := by decide +kernel
theorem d0_wholeOf_56 : decode M0_wholeOf.2.1 56 = .ok (.ladd, 1) := by decide +kernel
theorem d0_wholeOf_57 : decode M0_wholeOf.2.1 57 = .ok (.lstore 4, 2) := by decide +kernel
theorem d0_wholeOf_59 : decode M0_wholeOf.2.1 59 = .ok (.iinc 6 1, 3) := by decide +kernel
theorem d0_wholeOf_62 : decode M0_wholeOf.2.1 62 = .ok (.goto (-25), 3) := by decide +kernel
theorem d0_wholeOf_65 : decode M0_wholeOf.2.1 65 = .ok (.ldc2_w 31, 3) := by decide +kernel
theorem d0_wholeOf_68 : decode M0_wholeOf.2.1 68 = .ok (.lload_n 2, 1) := by decide +kernel
theorem d0_wholeOf_69 : decode M0_wholeOf.2.1 69 = .ok (.lmul, 1) := by decide +kernel
theorem d0_wholeOf_70 : decode M0_wholeOf.2.1 70 = .ok (.lload 4, 2) := by decide +kernel
theorem d0_wholeOf_72 : decode M0_wholeOf.2.1 72 = .ok (.lmul, 1) := by decide +kernel
theorem d0_wholeOf_73 : decode M0_wholeOf.2.1 73 = .ok (.lstore 6, 2) := by decide +kernel
theorem d0_wholeOf_75 : decode M0_wholeOf.2.1 75 = .ok (.iconst 0, 1) := by decide +kernel
theorem d0_wholeOf_76 : decode M0_wholeOf.2.1 76 = .ok (.istore 8, 2) := by decide +kernel
theorem d0_wholeOf_78 : decode M0_wholeOf.2.1 78 = .ok (.iload 8, 2) := by decide +kernel
theorem d0_wholeOf_80 : decode M0_wholeOf.2.1 80 = .ok (.aload_n 0, 1) := by decide +kernel
theorem d0_wholeOf_81 : decode M0_wholeOf.2.1 81 = .ok (.getfield 27, 3) := by decide +kernel
theorem d0_wholeOf_84 : decode M0_wholeOf.2.1 84 = .ok (.if_icmp .ge 61, 3) := by decide +kernel
theorem d0_wholeOf_87 : decode M0_wholeOf.2.1 87 = .ok (.aload_n 0, 1) := by decide +kernel
theorem d0_wholeOf_88 : decode M0_wholeOf.2.1 88 = .ok (.getfield 23, 3) := by decide +kernel
theorem d0_wholeOf_91 : decode M0_wholeOf.2.1 91 = .ok (.iload 8, 2) := by decide +kernel
theorem d0_wholeOf_93 : decode M0_wholeOf.2.1 93 = .ok (.iaload, 1) := by decide +kernel
theorem d0_wholeOf_94 : decode M0_wholeOf.2.1 94 = .ok (.istore 9, 2) := by decide +kernel
theorem d0_wholeOf_96 : decode M0_wholeOf.2.1 96 = .ok (.aload_n 0, 1) := by decide +kernel
theorem d0_wholeOf_97 : decode M0_wholeOf.2.1 97 = .ok (.getfield 11, 3) := by decide +kernel
theorem d0_wholeOf_100 : decode M0_wholeOf.2.1 100 = .ok (.iload_n 1, 1) := by decide +kernel
theorem d0_wholeOf_101 : decode M0_wholeOf.2.1 101 = .ok (.aaload, 1) := by decide +kernel
theorem d0_wholeOf_102 : decode M0_wholeOf.2.1 102 = .ok (.iload 9, 2) := by decide +kernel
theorem d0_wholeOf_104 : decode M0_wholeOf.2.1 104 = .ok (.bipush 7, 2) := by decide +kernel
theorem d0_wholeOf_106 : decode M0_wholeOf.2.1 106 = .ok (.irem, 1) := by decide +kernel
theorem d0_wholeOf_107 : decode M0_wholeOf.2.1 107 = .ok (.iaload, 1) := by decide +kernel
theorem d0_wholeOf_108 : decode M0_wholeOf.2.1 108 = .ok (.aload_n 0, 1) := by decide +kernel
theorem d0_wholeOf_109 : decode M0_wholeOf.2.1 109 = .ok (.getfield 16, 3) := by decide +kernel
theorem d0_wholeOf_112 : decode M0_wholeOf.2.1 112 = .ok (.iload_n 1, 1) := by decide +kernel
theorem d0_wholeOf_113 : decode M0_wholeOf.2.1 113 = .ok (.aaload, 1) := by decide +kernel
theorem d0_wholeOf_114 : decode M0_wholeOf.2.1 114 = .ok (.iload 9, 2) := by decide +kernel
theorem d0_wholeOf_116 : decode M0_wholeOf.2.1 116 = .ok (.bipush 28, 2) := by decide +kernel
theorem d0_wholeOf_118 : decode M0_wholeOf.2.1 118 = .ok (.idiv, 1) := by decide +kernel
theorem d0_wholeOf_119 : decode M0_wholeOf.2.1 119 = .ok (.iaload, 1) := by decide +kernel
theorem d0_wholeOf_120 : decode M0_wholeOf.2.1 120 = .ok (.imul, 1) := by decide +kernel
theorem d0_wholeOf_121 : decode M0_wholeOf.2.1 121 = .ok (.i2l, 1) := by decide +kernel
theorem d0_wholeOf_122 : decode M0_wholeOf.2.1 122 = .ok (.lstore 10, 2) := by decide +kernel
theorem d0_wholeOf_124 : decode M0_wholeOf.2.1 124 = .ok (.lload 6, 2) := by decide +kernel
theorem d0_wholeOf_126 : decode M0_wholeOf.2.1 126 = .ok (.aload_n 0, 1) := by decide +kernel
theorem d0_wholeOf_127 : decode M0_wholeOf.2.1 127 = .ok (.iload_n 1, 1) := by decide +kernel
theorem d0_wholeOf_128 : decode M0_wholeOf.2.1 128 = .ok (.iload 9, 2) := by decide +kernel
theorem d0_wholeOf_130 : decode M0_wholeOf.2.1 130 = .ok (.invokevirtual 33, 3) := by decide +kernel
theorem d0_wholeOf_133 : decode M0_wholeOf.2.1 133 = .ok (.lload 10, 2) := by decide +kernel
theorem d0_wholeOf_135 : decode M0_wholeOf.2.1 135 = .ok (.lsub, 1) := by decide +kernel
theorem d0_wholeOf_136 : decode M0_wholeOf.2.1 136 = .ok (.ladd, 1) := by decide +kernel
theorem d0_wholeOf_137 : decode M0_wholeOf.2.1 137 = .ok (.lstore 6, 2) := by decide +kernel
theorem d0_wholeOf_139 : decode M0_wholeOf.2.1 139 = .ok (.iinc 8 1, 3) := by decide +kernel
theorem d0_wholeOf_142 : decode M0_wholeOf.2.1 142 = .ok (.goto (-64), 3) := by decide +kernel
theorem d0_wholeOf_145 : decode M0_wholeOf.2.1 145 = .ok (.lload 6, 2) := by decide +kernel
theorem d0_wholeOf_147 : decode M0_wholeOf.2.1 147 = .ok (.lreturn, 1) := by decide +kernel
theorem d1_init_0 : decode M1_init.2.1 0 = .ok (.aload_n 0, 1) := by decide +kernel
theorem d1_init_1 : decode M1_init.2.1 1 = .ok (.invokespecial 3, 3) := by decide +kernel
theorem d1_init_4 : decode M1_init.2.1 4 = .ok (.aload_n 0, 1) := by decide +kernel
theorem d1_init_5 : decode M1_init.2.1 5 = .ok (.bipush 14, 2) := by decide +kernel
theorem d1_init_7 : decode M1_init.2.1 7 = .ok (.newarray .int, 2) := by decide +kernel
theorem d1_init_9 : decode M1_init.2.1 9 = .ok (.putfield 9, 3) := by decide +kernel
theorem d1_init_12 : decode M1_init.2.1 12 = .ok (.aload_n 0, 1) := by decide +kernel
theorem d1_init_13 : decode M1_init.2.1 13 = .ok (.bipush 14, 2) := by decide +kernel
theorem d1_init_15 : decode M1_init.2.1 15 = .ok (.newarray .int, 2) := by decide +kernel
theorem d1_init_17 : decode M1_init.2.1 17 = .ok (.putfield 15, 3) := by decide +kernel
theorem d1_init_20 : decode M1_init.2.1 20 = .ok (.return_, 1) := by decide +kernel
theorem d1_put_0 : decode M1_put.2.1 0 = .ok (.aload_n 0, 1) := by decide +kernel
theorem d1_put_1 : decode M1_put.2.1 1 = .ok (.iload_n 1, 1) := by decide +kernel
theorem d1_put_2 : decode M1_put.2.1 2 = .ok (.invokevirtual 18, 3) := by decide +kernel
theorem d1_put_5 : decode M1_put.2.1 5 = .ok (.istore_n 3, 1) := by decide +kernel
theorem d1_put_6 : decode M1_put.2.1 6 = .ok (.iload_n 3, 1) := by decide +kernel
theorem d1_put_7 : decode M1_put.2.1 7 = .ok (.iconst (-1), 1) := by decide +kernel
theorem d1_put_8 : decode M1_put.2.1 8 = .ok (.if_icmp .ne 29, 3) := by decide +kernel
theorem d1_put_11 : decode M1_put.2.1 11 = .ok (.aload_n 0, 1) := by decide +kernel
theorem d1_put_12 : decode M1_put.2.1 12 = .ok (.getfield 22, 3) := by decide +kernel
theorem d1_put_15 : decode M1_put.2.1 15 = .ok (.bipush 14, 2) := by decide +kernel
theorem d1_put_17 : decode M1_put.2.1 17 = .ok (.if_icmp .lt 5, 3) := by decide +kernel
theorem d1_put_20 : decode M1_put.2.1 20 = .ok (.iconst 0, 1) := by decide +kernel
theorem d1_put_21 : decode M1_put.2.1 21 = .ok (.ireturn, 1) := by decide +kernel
theorem d1_put_22 : decode M1_put.2.1 22 = .ok (.aload_n 0, 1) := by decide +kernel
theorem d1_put_23 : decode M1_put.2.1 23 = .ok (.getfield 22, 3) := by decide +kernel
theorem d1_put_26 : decode M1_put.2.1 26 = .ok (.istore_n 3, 1) := by decide +kernel
theorem d1_put_27 : decode M1_put.2.1 27 = .ok (.aload_n 0, 1) := by decide +kernel
theorem d1_put_28 : decode M1_put.2.1 28 = .ok (.dup, 1) := by decide +kernel
theorem d1_put_29 : decode M1_put.2.1 29 = .ok (.getfield 22, 3) := by decide +kernel
theorem d1_put_32 : decode M1_put.2.1 32 = .ok (.iconst 1, 1) := by decide +kernel
theorem d1_put_33 : decode M1_put.2.1 33 = .ok (.iadd, 1) := by decide +kernel
theorem d1_put_34 : decode M1_put.2.1 34 = .ok (.putfield 22, 3) := by decide +kernel
theorem d1_put_37 : decode M1_put.2.1 37 = .ok (.aload_n 0, 1) := by decide +kernel
theorem d1_put_38 : decode M1_put.2.1 38 = .ok (.getfield 9, 3) := by decide +kernel
theorem d1_put_41 : decode M1_put.2.1 41 = .ok (.iload_n 3, 1) := by decide +kernel
theorem d1_put_42 : decode M1_put.2.1 42 = .ok (.iload_n 1, 1) := by decide +kernel
theorem d1_put_43 : decode M1_put.2.1 43 = .ok (.iastore, 1) := by decide +kernel
theorem d1_put_44 : decode M1_put.2.1 44 = .ok (.aload_n 0, 1) := by decide +kernel
theorem d1_put_45 : decode M1_put.2.1 45 = .ok (.getfield 15, 3) := by decide +kernel
theorem d1_put_48 : decode M1_put.2.1 48 = .ok (.iload_n 3, 1) := by decide +kernel
theorem d1_put_49 : decode M1_put.2.1 49 = .ok (.iload_n 2, 1) := by decide +kernel
theorem d1_put_50 : decode M1_put.2.1 50 = .ok (.iastore, 1) := by decide +kernel
theorem d1_put_51 : decode M1_put.2.1 51 = .ok (.iconst 1, 1) := by decide +kernel
theorem d1_put_52 : decode M1_put.2.1 52 = .ok (.ireturn, 1) := by decide +kernel
theorem d1_on_0 : decode M1_on.2.1 0 = .ok (.aload_n 0, 1) := by decide +kernel
theorem d1_on_1 : decode M1_on.2.1 1 = .ok (.iload_n 1, 1) := by decide +kernel
theorem d1_on_2 : decode M1_on.2.1 2 = .ok (.invokevirtual 18, 3) := by decide +kernel
theorem d1_on_5 : decode M1_on.2.1 5 = .ok (.istore_n 2, 1) := by decide +kernel
theorem d1_on_6 : decode M1_on.2.1 6 = .ok (.iload_n 2, 1) := by decide +kernel
theorem d1_on_7 : decode M1_on.2.1 7 = .ok (.iconst (-1), 1) := by decide +kernel
theorem d1_on_8 : decode M1_on.2.1 8 = .ok (.if_icmp .ne 7, 3) := by decide +kernel
theorem d1_on_11 : decode M1_on.2.1 11 = .ok (.iconst (-1), 1) := by decide +kernel
theorem d1_on_12 : decode M1_on.2.1 12 = .ok (.goto 9, 3) := by decide +kernel
theorem d1_on_15 : decode M1_on.2.1 15 = .ok (.aload_n 0, 1) := by decide +kernel
theorem d1_on_16 : decode M1_on.2.1 16 = .ok (.getfield 15, 3) := by decide +kernel
theorem d1_on_19 : decode M1_on.2.1 19 = .ok (.iload_n 2, 1) := by decide +kernel
theorem d1_on_20 : decode M1_on.2.1 20 = .ok (.iaload, 1) := by decide +kernel
theorem d1_on_21 : decode M1_on.2.1 21 = .ok (.ireturn, 1) := by decide +kernel
theorem d1_used_0 : decode M1_used.2.1 0 = .ok (.iconst 0, 1) := by decide +kernel
theorem d1_used_1 : decode M1_used.2.1 1 = .ok (.istore_n 2, 1) := by decide +kernel
theorem d1_used_2 : decode M1_used.2.1 2 = .ok (.iconst 0, 1) := by decide +kernel
theorem d1_used_3 : decode M1_used.2.1 3 = .ok (.istore_n 3, 1) := by decide +kernel
theorem d1_used_4 : decode M1_used.2.1 4 = .ok (.iload_n 3, 1) := by decide +kernel
theorem d1_used_5 : decode M1_used.2.1 5 = .ok (.aload_n 0, 1) := by decide +kernel
theorem d1_used_6 : decode M1_used.2.1 6 = .ok (.getfield 22, 3) := by decide +kernel
theorem d1_used_9 : decode M1_used.2.1 9 = .ok (.if_icmp .ge 21, 3) := by decide +kernel
theorem d1_used_12 : decode M1_used.2.1 12 = .ok (.aload_n 0, 1) := by decide +kernel
theorem d1_used_13 : decode M1_used.2.1 13 = .ok (.iload_n 3, 1) := by decide +kernel
theorem d1_used_14 : decode M1_used.2.1 14 = .ok (.aload_n 1, 1) := by decide +kernel
theorem d1_used_15 : decode M1_used.2.1 15 = .ok (.invokevirtual 26, 3) := by decide +kernel
theorem d1_used_18 : decode M1_used.2.1 18 = .ok (.ifCond .eq 6, 3) := by decide +kernel
theorem d1_used_21 : decode M1_used.2.1 21 = .ok (.iinc 2 1, 3) := by decide +kernel
theorem d1_used_24 : decode M1_used.2.1 24 = .ok (.iinc 3 1, 3) := by decide +kernel
theorem d1_used_27 : decode M1_used.2.1 27 = .ok (.goto (-23), 3) := by decide +kernel
theorem d1_used_30 : decode M1_used.2.1 30 = .ok (.iload_n 2, 1) := by decide +kernel
theorem d1_used_31 : decode M1_used.2.1 31 = .ok (.ireturn, 1) := by decide +kernel
theorem d1_loadOfAll_0 : decode M1_loadOfAll.2.1 0 = .ok (.aload_n 0, 1) := by decide +kernel
theorem d1_loadOfAll_1 : decode M1_loadOfAll.2.1 1 = .ok (.aload_n 1, 1) := by decide +kernel
theorem d1_loadOfAll_2 : decode M1_loadOfAll.2.1 2 = .ok (.iload_n 2, 1) := by decide +kernel
theorem d1_loadOfAll_3 : decode M1_loadOfAll.2.1 3 = .ok (.invokevirtual 30, 3) := by decide +kernel
theorem d1_loadOfAll_6 : decode M1_loadOfAll.2.1 6 = .ok (.lstore_n 3, 1) := by decide +kernel
theorem d1_loadOfAll_7 : decode M1_loadOfAll.2.1 7 = .ok (.lload_n 3, 1) := by decide +kernel
theorem d1_loadOfAll_8 : decode M1_loadOfAll.2.1 8 = .ok (.lconst 0, 1) := by decide +kernel
theorem d1_loadOfAll_9 : decode M1_loadOfAll.2.1 9 = .ok (.lcmp, 1) := by decide +kernel
theorem d1_loadOfAll_10 : decode M1_loadOfAll.2.1 10 = .ok (.ifCond .le 19, 3) := by decide +kernel
theorem d1_loadOfAll_13 : decode M1_loadOfAll.2.1 13 = .ok (.aload_n 0, 1) := by decide +kernel
theorem d1_loadOfAll_14 : decode M1_loadOfAll.2.1 14 = .ok (.aload_n 1, 1) := by decide +kernel
theorem d1_loadOfAll_15 : decode M1_loadOfAll.2.1 15 = .ok (.invokevirtual 34, 3) := by decide +kernel
theorem d1_loadOfAll_18 : decode M1_loadOfAll.2.1 18 = .ok (.aload_n 1, 1) := by decide +kernel
theorem d1_loadOfAll_19 : decode M1_loadOfAll.2.1 19 = .ok (.iload_n 2, 1) := by decide +kernel
theorem d1_loadOfAll_20 : decode M1_loadOfAll.2.1 20 = .ok (.invokevirtual 38, 3) := by decide +kernel
theorem d1_loadOfAll_23 : decode M1_loadOfAll.2.1 23 = .ok (.lmul, 1) := by decide +kernel
theorem d1_loadOfAll_24 : decode M1_loadOfAll.2.1 24 = .ok (.lload_n 3, 1) := by decide +kernel
theorem d1_loadOfAll_25 : decode M1_loadOfAll.2.1 25 = .ok (.ldiv, 1) := by decide +kernel
theorem d1_loadOfAll_26 : decode M1_loadOfAll.2.1 26 = .ok (.goto 6, 3) := by decide +kernel
theorem d1_loadOfAll_29 : decode M1_loadOfAll.2.1 29 = .ok (.ldc2_w 44, 3) := by decide +kernel
theorem d1_loadOfAll_32 : decode M1_loadOfAll.2.1 32 = .ok (.lreturn, 1) := by decide +kernel
theorem d1_loadAtEnd_0 : decode M1_loadAtEnd.2.1 0 = .ok (.aload_n 1, 1) := by decide +kernel
theorem d1_loadAtEnd_1 : decode M1_loadAtEnd.2.1 1 = .ok (.iload_n 2, 1) := by decide +kernel
theorem d1_loadAtEnd_2 : decode M1_loadAtEnd.2.1 2 = .ok (.invokevirtual 38, 3) := by decide +kernel
theorem d1_loadAtEnd_5 : decode M1_loadAtEnd.2.1 5 = .ok (.lstore 4, 2) := by decide +kernel
theorem d1_loadAtEnd_7 : decode M1_loadAtEnd.2.1 7 = .ok (.ldc2_w 44, 3) := by decide +kernel
theorem d1_loadAtEnd_10 : decode M1_loadAtEnd.2.1 10 = .ok (.lstore 6, 2) := by decide +kernel
theorem d1_loadAtEnd_12 : decode M1_loadAtEnd.2.1 12 = .ok (.iconst 0, 1) := by decide +kernel
theorem d1_loadAtEnd_13 : decode M1_loadAtEnd.2.1 13 = .ok (.istore 8, 2) := by decide +kernel
theorem d1_loadAtEnd_15 : decode M1_loadAtEnd.2.1 15 = .ok (.iload 8, 2) := by decide +kernel
theorem d1_loadAtEnd_17 : decode M1_loadAtEnd.2.1 17 = .ok (.aload_n 0, 1) := by decide +kernel
theorem d1_loadAtEnd_18 : decode M1_loadAtEnd.2.1 18 = .ok (.getfield 22, 3) := by decide +kernel
theorem d1_loadAtEnd_21 : decode M1_loadAtEnd.2.1 21 = .ok (.if_icmp .ge 92, 3) := by decide +kernel
theorem d1_loadAtEnd_24 : decode M1_loadAtEnd.2.1 24 = .ok (.aload_n 1, 1) := by decide +kernel
theorem d1_loadAtEnd_25 : decode M1_loadAtEnd.2.1 25 = .ok (.iload_n 2, 1) := by decide +kernel
theorem d1_loadAtEnd_26 : decode M1_loadAtEnd.2.1 26 = .ok (.aload_n 0, 1) := by decide +kernel
theorem d1_loadAtEnd_27 : decode M1_loadAtEnd.2.1 27 = .ok (.getfield 9, 3) := by decide +kernel
theorem d1_loadAtEnd_30 : decode M1_loadAtEnd.2.1 30 = .ok (.iload 8, 2) := by decide +kernel
theorem d1_loadAtEnd_32 : decode M1_loadAtEnd.2.1 32 = .ok (.iaload, 1) := by decide +kernel
theorem d1_loadAtEnd_33 : decode M1_loadAtEnd.2.1 33 = .ok (.invokevirtual 46, 3) := by decide +kernel
theorem d1_loadAtEnd_36 : decode M1_loadAtEnd.2.1 36 = .ok (.lstore 9, 2) := by decide +kernel
theorem d1_loadAtEnd_38 : decode M1_loadAtEnd.2.1 38 = .ok (.aload_n 0, 1) := by decide +kernel
theorem d1_loadAtEnd_39 : decode M1_loadAtEnd.2.1 39 = .ok (.iload 8, 2) := by decide +kernel
theorem d1_loadAtEnd_41 : decode M1_loadAtEnd.2.1 41 = .ok (.aload_n 1, 1) := by decide +kernel
theorem d1_loadAtEnd_42 : decode M1_loadAtEnd.2.1 42 = .ok (.invokevirtual 26, 3) := by decide +kernel
theorem d1_loadAtEnd_45 : decode M1_loadAtEnd.2.1 45 = .ok (.ifCond .eq 62, 3) := by decide +kernel
theorem d1_loadAtEnd_48 : decode M1_loadAtEnd.2.1 48 = .ok (.lload 9, 2) := by decide +kernel
theorem d1_loadAtEnd_50 : decode M1_loadAtEnd.2.1 50 = .ok (.lconst 0, 1) := by decide +kernel
theorem d1_loadAtEnd_51 : decode M1_loadAtEnd.2.1 51 = .ok (.lcmp, 1) := by decide +kernel
theorem d1_loadAtEnd_52 : decode M1_loadAtEnd.2.1 52 = .ok (.ifCond .le 55, 3) := by decide +kernel
theorem d1_loadAtEnd_55 : decode M1_loadAtEnd.2.1 55 = .ok (.aload_n 0, 1) := by decide +kernel
theorem d1_loadAtEnd_56 : decode M1_loadAtEnd.2.1 56 = .ok (.getfield 15, 3) := by decide +kernel
theorem d1_loadAtEnd_59 : decode M1_loadAtEnd.2.1 59 = .ok (.iload 8, 2) := by decide +kernel
theorem d1_loadAtEnd_61 : decode M1_loadAtEnd.2.1 61 = .ok (.iaload, 1) := by decide +kernel
theorem d1_loadAtEnd_62 : decode M1_loadAtEnd.2.1 62 = .ok (.i2l, 1) := by decide +kernel
theorem d1_loadAtEnd_63 : decode M1_loadAtEnd.2.1 63 = .ok (.lload 4, 2) := by decide +kernel
theorem d1_loadAtEnd_65 : decode M1_loadAtEnd.2.1 65 = .ok (.lmul, 1) := by decide +kernel
theorem d1_loadAtEnd_66 : decode M1_loadAtEnd.2.1 66 = .ok (.lload 9, 2) := by decide +kernel
theorem d1_loadAtEnd_68 : decode M1_loadAtEnd.2.1 68 = .ok (.ldiv, 1) := by decide +kernel
theorem d1_loadAtEnd_69 : decode M1_loadAtEnd.2.1 69 = .ok (.lstore 11, 2) := by decide +kernel
theorem d1_loadAtEnd_71 : decode M1_loadAtEnd.2.1 71 = .ok (.lload 6, 2) := by decide +kernel
theorem d1_loadAtEnd_73 : decode M1_loadAtEnd.2.1 73 = .ok (.ldc2_w 44, 3) := by decide +kernel
theorem d1_loadAtEnd_76 : decode M1_loadAtEnd.2.1 76 = .ok (.lcmp, 1) := by decide +kernel
theorem d1_loadAtEnd_77 : decode M1_loadAtEnd.2.1 77 = .ok (.ifCond .eq 26, 3) := by decide +kernel
theorem d1_loadAtEnd_80 : decode M1_loadAtEnd.2.1 80 = .ok (.iload_n 3, 1) := by decide +kernel
theorem d1_loadAtEnd_81 : decode M1_loadAtEnd.2.1 81 = .ok (.ifCond .eq 14, 3) := by decide +kernel
theorem d1_loadAtEnd_84 : decode M1_loadAtEnd.2.1 84 = .ok (.lload 11, 2) := by decide +kernel
theorem d1_loadAtEnd_86 : decode M1_loadAtEnd.2.1 86 = .ok (.lload 6, 2) := by decide +kernel
theorem d1_loadAtEnd_88 : decode M1_loadAtEnd.2.1 88 = .ok (.lcmp, 1) := by decide +kernel
theorem d1_loadAtEnd_89 : decode M1_loadAtEnd.2.1 89 = .ok (.ifCond .le 18, 3) := by decide +kernel
theorem d1_loadAtEnd_92 : decode M1_loadAtEnd.2.1 92 = .ok (.goto 11, 3) := by decide +kernel
theorem d1_loadAtEnd_95 : decode M1_loadAtEnd.2.1 95 = .ok (.lload 11, 2) := by decide +kernel
theorem d1_loadAtEnd_97 : decode M1_loadAtEnd.2.1 97 = .ok (.lload 6, 2) := by decide +kernel
theorem d1_loadAtEnd_99 : decode M1_loadAtEnd.2.1 99 = .ok (.lcmp, 1) := by decide +kernel
theorem d1_loadAtEnd_100 : decode M1_loadAtEnd.2.1 100 = .ok (.ifCond .ge 7, 3) := by decide +kernel
theorem d1_loadAtEnd_103 : decode M1_loadAtEnd.2.1 103 = .ok (.lload 11, 2) := by decide +kernel
theorem d1_loadAtEnd_105 : decode M1_loadAtEnd.2.1 105 = .ok (.lstore 6, 2) := by decide +kernel
theorem d1_loadAtEnd_107 : decode M1_loadAtEnd.2.1 107 = .ok (.iinc 8 1, 3) := by decide +kernel
theorem d1_loadAtEnd_110 : decode M1_loadAtEnd.2.1 110 = .ok (.goto (-95), 3) := by decide +kernel
theorem d1_loadAtEnd_113 : decode M1_loadAtEnd.2.1 113 = .ok (.lload 6, 2) := by decide +kernel
theorem d1_loadAtEnd_115 : decode M1_loadAtEnd.2.1 115 = .ok (.lreturn, 1) := by decide +kernel
theorem d1_bestShape_0 : decode M1_bestShape.2.1 0 = .ok (.aload_n 0, 1) := by decide +kernel
theorem d1_bestShape_1 : decode M1_bestShape.2.1 1 = .ok (.aload_n 1, 1) := by decide +kernel
theorem d1_bestShape_2 : decode M1_bestShape.2.1 2 = .ok (.invokevirtual 50, 3) := by decide +kernel
theorem d1_bestShape_5 : decode M1_bestShape.2.1 5 = .ok (.ifCond .ne 5, 3) := by decide +kernel
theorem d1_bestShape_8 : decode M1_bestShape.2.1 8 = .ok (.iconst (-1), 1) := by decide +kernel
theorem d1_bestShape_9 : decode M1_bestShape.2.1 9 = .ok (.ireturn, 1) := by decide +kernel
theorem d1_bestShape_10 : decode M1_bestShape.2.1 10 = .ok (.iconst 0, 1) := by decide +kernel
theorem d1_bestShape_11 : decode M1_bestShape.2.1 11 = .ok (.istore_n 2, 1) := by decide +kernel
theorem d1_bestShape_12 : decode M1_bestShape.2.1 12 = .ok (.aload_n 0, 1) := by decide +kernel
theorem d1_bestShape_13 : decode M1_bestShape.2.1 13 = .ok (.aload_n 1, 1) := by decide +kernel
theorem d1_bestShape_14 : decode M1_bestShape.2.1 14 = .ok (.iconst 0, 1) := by decide +kernel
theorem d1_bestShape_15 : decode M1_bestShape.2.1 15 = .ok (.invokevirtual 30, 3) := by decide +kernel
theorem d1_bestShape_18 : decode M1_bestShape.2.1 18 = .ok (.lstore_n 3, 1) := by decide +kernel
theorem d1_bestShape_19 : decode M1_bestShape.2.1 19 = .ok (.aload_n 0, 1) := by decide +kernel
theorem d1_bestShape_20 : decode M1_bestShape.2.1 20 = .ok (.aload_n 1, 1) := by decide +kernel
theorem d1_bestShape_21 : decode M1_bestShape.2.1 21 = .ok (.iconst 0, 1) := by decide +kernel
theorem d1_bestShape_22 : decode M1_bestShape.2.1 22 = .ok (.lload_n 3, 1) := by decide +kernel
theorem d1_bestShape_23 : decode M1_bestShape.2.1 23 = .ok (.invokevirtual 54, 3) := by decide +kernel
theorem d1_bestShape_26 : decode M1_bestShape.2.1 26 = .ok (.lstore 5, 2) := by decide +kernel
theorem d1_bestShape_28 : decode M1_bestShape.2.1 28 = .ok (.iconst 1, 1) := by decide +kernel
theorem d1_bestShape_29 : decode M1_bestShape.2.1 29 = .ok (.istore 7, 2) := by decide +kernel
theorem d1_bestShape_31 : decode M1_bestShape.2.1 31 = .ok (.iload 7, 2) := by decide +kernel
theorem d1_bestShape_33 : decode M1_bestShape.2.1 33 = .ok (.iconst 4, 1) := by decide +kernel
theorem d1_bestShape_34 : decode M1_bestShape.2.1 34 = .ok (.if_icmp .ge 52, 3) := by decide +kernel
theorem d1_bestShape_37 : decode M1_bestShape.2.1 37 = .ok (.aload_n 0, 1) := by decide +kernel
theorem d1_bestShape_38 : decode M1_bestShape.2.1 38 = .ok (.aload_n 1, 1) := by decide +kernel
theorem d1_bestShape_39 : decode M1_bestShape.2.1 39 = .ok (.iload 7, 2) := by decide +kernel
theorem d1_bestShape_41 : decode M1_bestShape.2.1 41 = .ok (.invokevirtual 30, 3) := by decide +kernel
theorem d1_bestShape_44 : decode M1_bestShape.2.1 44 = .ok (.lstore 8, 2) := by decide +kernel
theorem d1_bestShape_46 : decode M1_bestShape.2.1 46 = .ok (.aload_n 0, 1) := by decide +kernel
theorem d1_bestShape_47 : decode M1_bestShape.2.1 47 = .ok (.aload_n 1, 1) := by decide +kernel
theorem d1_bestShape_48 : decode M1_bestShape.2.1 48 = .ok (.iload 7, 2) := by decide +kernel
theorem d1_bestShape_50 : decode M1_bestShape.2.1 50 = .ok (.lload 8, 2) := by decide +kernel
theorem d1_bestShape_52 : decode M1_bestShape.2.1 52 = .ok (.invokevirtual 54, 3) := by decide +kernel
theorem d1_bestShape_55 : decode M1_bestShape.2.1 55 = .ok (.lstore 10, 2) := by decide +kernel
theorem d1_bestShape_57 : decode M1_bestShape.2.1 57 = .ok (.lload 10, 2) := by decide +kernel
theorem d1_bestShape_59 : decode M1_bestShape.2.1 59 = .ok (.lload_n 3, 1) := by decide +kernel
theorem d1_bestShape_60 : decode M1_bestShape.2.1 60 = .ok (.lmul, 1) := by decide +kernel
theorem d1_bestShape_61 : decode M1_bestShape.2.1 61 = .ok (.lload 5, 2) := by decide +kernel
theorem d1_bestShape_63 : decode M1_bestShape.2.1 63 = .ok (.lload 8, 2) := by decide +kernel
theorem d1_bestShape_65 : decode M1_bestShape.2.1 65 = .ok (.lmul, 1) := by decide +kernel
theorem d1_bestShape_66 : decode M1_bestShape.2.1 66 = .ok (.lcmp, 1) := by decide +kernel
theorem d1_bestShape_67 : decode M1_bestShape.2.1 67 = .ok (.ifCond .ge 13, 3) := by decide +kernel
theorem d1_bestShape_70 : decode M1_bestShape.2.1 70 = .ok (.iload 7, 2) := by decide +kernel
theorem d1_bestShape_72 : decode M1_bestShape.2.1 72 = .ok (.istore_n 2, 1) := by decide +kernel
theorem d1_bestShape_73 : decode M1_bestShape.2.1 73 = .ok (.lload 8, 2) := by decide +kernel
theorem d1_bestShape_75 : decode M1_bestShape.2.1 75 = .ok (.lstore_n 3, 1) := by decide +kernel
theorem d1_bestShape_76 : decode M1_bestShape.2.1 76 = .ok (.lload 10, 2) := by decide +kernel
theorem d1_bestShape_78 : decode M1_bestShape.2.1 78 = .ok (.lstore 5, 2) := by decide +kernel
theorem d1_bestShape_80 : decode M1_bestShape.2.1 80 = .ok (.iinc 7 1, 3) := by decide +kernel
theorem d1_bestShape_83 : decode M1_bestShape.2.1 83 = .ok (.goto (-52), 3) := by decide +kernel
theorem d1_bestShape_86 : decode M1_bestShape.2.1 86 = .ok (.iload_n 2, 1) := by decide +kernel
theorem d1_bestShape_87 : decode M1_bestShape.2.1 87 = .ok (.ireturn, 1) := by decide +kernel
theorem d1_misfitTimesShares_0 : decode M1_misfitTimesShares.2.1 0 = .ok (.aload_n 0, 1) := by decide +kernel
theorem d1_misfitTimesShares_1 : decode M1_misfitTimesShares.2.1 1 = .ok (.aload_n 1, 1) := by decide +kernel
theorem d1_misfitTimesShares_2 : decode M1_misfitTimesShares.2.1 2 = .ok (.invokevirtual 34, 3) := by decide +kernel
theorem d1_misfitTimesShares_5 : decode M1_misfitTimesShares.2.1 5 = .ok (.lstore 5, 2) := by decide +kernel
theorem d1_misfitTimesShares_7 : decode M1_misfitTimesShares.2.1 7 = .ok (.lconst 0, 1) := by decide +kernel
theorem d1_misfitTimesShares_8 : decode M1_misfitTimesShares.2.1 8 = .ok (.lstore 7, 2) := by decide +kernel
theorem d1_misfitTimesShares_10 : decode M1_misfitTimesShares.2.1 10 = .ok (.iconst 0, 1) := by decide +kernel
theorem d1_misfitTimesShares_11 : decode M1_misfitTimesShares.2.1 11 = .ok (.istore 9, 2) := by decide +kernel
theorem d1_misfitTimesShares_13 : decode M1_misfitTimesShares.2.1 13 = .ok (.iload 9, 2) := by decide +kernel
theorem d1_misfitTimesShares_15 : decode M1_misfitTimesShares.2.1 15 = .ok (.aload_n 0, 1) := by decide +kernel
theorem d1_misfitTimesShares_16 : decode M1_misfitTimesShares.2.1 16 = .ok (.getfield 22, 3) := by decide +kernel
theorem d1_misfitTimesShares_19 : decode M1_misfitTimesShares.2.1 19 = .ok (.if_icmp .ge 53, 3) := by decide +kernel
theorem d1_misfitTimesShares_22 : decode M1_misfitTimesShares.2.1 22 = .ok (.aload_n 0, 1) := by decide +kernel
theorem d1_misfitTimesShares_23 : decode M1_misfitTimesShares.2.1 23 = .ok (.iload 9, 2) := by decide +kernel
theorem d1_misfitTimesShares_25 : decode M1_misfitTimesShares.2.1 25 = .ok (.aload_n 1, 1) := by decide +kernel
theorem d1_misfitTimesShares_26 : decode M1_misfitTimesShares.2.1 26 = .ok (.invokevirtual 26, 3) := by decide +kernel
theorem d1_misfitTimesShares_29 : decode M1_misfitTimesShares.2.1 29 = .ok (.ifCond .eq 37, 3) := by decide +kernel
theorem d1_misfitTimesShares_32 : decode M1_misfitTimesShares.2.1 32 = .ok (.lload 7, 2) := by decide +kernel
theorem d1_misfitTimesShares_34 : decode M1_misfitTimesShares.2.1 34 = .ok (.aload_n 0, 1) := by decide +kernel
theorem d1_misfitTimesShares_35 : decode M1_misfitTimesShares.2.1 35 = .ok (.getfield 15, 3) := by decide +kernel
theorem d1_misfitTimesShares_38 : decode M1_misfitTimesShares.2.1 38 = .ok (.iload 9, 2) := by decide +kernel
theorem d1_misfitTimesShares_40 : decode M1_misfitTimesShares.2.1 40 = .ok (.iaload, 1) := by decide +kernel
theorem d1_misfitTimesShares_41 : decode M1_misfitTimesShares.2.1 41 = .ok (.i2l, 1) := by decide +kernel
theorem d1_misfitTimesShares_42 : decode M1_misfitTimesShares.2.1 42 = .ok (.lload_n 3, 1) := by decide +kernel
theorem d1_misfitTimesShares_43 : decode M1_misfitTimesShares.2.1 43 = .ok (.lmul, 1) := by decide +kernel
theorem d1_misfitTimesShares_44 : decode M1_misfitTimesShares.2.1 44 = .ok (.aload_n 1, 1) := by decide +kernel
theorem d1_misfitTimesShares_45 : decode M1_misfitTimesShares.2.1 45 = .ok (.iload_n 2, 1) := by decide +kernel
theorem d1_misfitTimesShares_46 : decode M1_misfitTimesShares.2.1 46 = .ok (.aload_n 0, 1) := by decide +kernel
theorem d1_misfitTimesShares_47 : decode M1_misfitTimesShares.2.1 47 = .ok (.getfield 9, 3) := by decide +kernel
theorem d1_misfitTimesShares_50 : decode M1_misfitTimesShares.2.1 50 = .ok (.iload 9, 2) := by decide +kernel
theorem d1_misfitTimesShares_52 : decode M1_misfitTimesShares.2.1 52 = .ok (.iaload, 1) := by decide +kernel
theorem d1_misfitTimesShares_53 : decode M1_misfitTimesShares.2.1 53 = .ok (.invokevirtual 46, 3) := by decide +kernel
theorem d1_misfitTimesShares_56 : decode M1_misfitTimesShares.2.1 56 = .ok (.lload 5, 2) := by decide +kernel
theorem d1_misfitTimesShares_58 : decode M1_misfitTimesShares.2.1 58 = .ok (.lmul, 1) := by decide +kernel
theorem d1_misfitTimesShares_59 : decode M1_misfitTimesShares.2.1 59 = .ok (.lsub, 1) := by decide +kernel
theorem d1_misfitTimesShares_60 : decode M1_misfitTimesShares.2.1 60 = .ok (.invokestatic 58, 3) := by decide +kernel
theorem d1_misfitTimesShares_63 : decode M1_misfitTimesShares.2.1 63 = .ok (.ladd, 1) := by decide +kernel
theorem d1_misfitTimesShares_64 : decode M1_misfitTimesShares.2.1 64 = .ok (.lstore 7, 2) := by decide +kernel
theorem d1_misfitTimesShares_66 : decode M1_misfitTimesShares.2.1 66 = .ok (.iinc 9 1, 3) := by decide +kernel
theorem d1_misfitTimesShares_69 : decode M1_misfitTimesShares.2.1 69 = .ok (.goto (-56), 3) := by decide +kernel
theorem d1_misfitTimesShares_72 : decode M1_misfitTimesShares.2.1 72 = .ok (.lload 7, 2) := by decide +kernel
theorem d1_misfitTimesShares_74 : decode M1_misfitTimesShares.2.1 74 = .ok (.lreturn, 1) := by decide +kernel
theorem d1_usedTotal_0 : decode M1_usedTotal.2.1 0 = .ok (.lconst 0, 1) := by decide +kernel
theorem d1_usedTotal_1 : decode M1_usedTotal.2.1 1 = .ok (.lstore_n 2, 1) := by decide +kernel
theorem d1_usedTotal_2 : decode M1_usedTotal.2.1 2 = .ok (.iconst 0, 1) := by decide +kernel
theorem d1_usedTotal_3 : decode M1_usedTotal.2.1 3 = .ok (.istore 4, 2) := by decide +kernel
theorem d1_usedTotal_5 : decode M1_usedTotal.2.1 5 = .ok (.iload 4, 2) := by decide +kernel
theorem d1_usedTotal_7 : decode M1_usedTotal.2.1 7 = .ok (.aload_n 0, 1) := by decide +kernel
theorem d1_usedTotal_8 : decode M1_usedTotal.2.1 8 = .ok (.getfield 22, 3) := by decide +kernel
theorem d1_usedTotal_11 : decode M1_usedTotal.2.1 11 = .ok (.if_icmp .ge 30, 3) := by decide +kernel
theorem d1_usedTotal_14 : decode M1_usedTotal.2.1 14 = .ok (.aload_n 0, 1) := by decide +kernel
theorem d1_usedTotal_15 : decode M1_usedTotal.2.1 15 = .ok (.iload 4, 2) := by decide +kernel
theorem d1_usedTotal_17 : decode M1_usedTotal.2.1 17 = .ok (.aload_n 1, 1) := by decide +kernel
theorem d1_usedTotal_18 : decode M1_usedTotal.2.1 18 = .ok (.invokevirtual 26, 3) := by decide +kernel
theorem d1_usedTotal_21 : decode M1_usedTotal.2.1 21 = .ok (.ifCond .eq 14, 3) := by decide +kernel
theorem d1_usedTotal_24 : decode M1_usedTotal.2.1 24 = .ok (.lload_n 2, 1) := by decide +kernel
theorem d1_usedTotal_25 : decode M1_usedTotal.2.1 25 = .ok (.aload_n 0, 1) := by decide +kernel
theorem d1_usedTotal_26 : decode M1_usedTotal.2.1 26 = .ok (.getfield 15, 3) := by decide +kernel
theorem d1_usedTotal_29 : decode M1_usedTotal.2.1 29 = .ok (.iload 4, 2) := by decide +kernel
theorem d1_usedTotal_31 : decode M1_usedTotal.2.1 31 = .ok (.iaload, 1) := by decide +kernel
theorem d1_usedTotal_32 : decode M1_usedTotal.2.1 32 = .ok (.i2l, 1) := by decide +kernel
theorem d1_usedTotal_33 : decode M1_usedTotal.2.1 33 = .ok (.ladd, 1) := by decide +kernel
theorem d1_usedTotal_34 : decode M1_usedTotal.2.1 34 = .ok (.lstore_n 2, 1) := by decide +kernel
theorem d1_usedTotal_35 : decode M1_usedTotal.2.1 35 = .ok (.iinc 4 1, 3) := by decide +kernel
theorem d1_usedTotal_38 : decode M1_usedTotal.2.1 38 = .ok (.goto (-33), 3) := by decide +kernel
theorem d1_usedTotal_41 : decode M1_usedTotal.2.1 41 = .ok (.lload_n 2, 1) := by decide +kernel
theorem d1_usedTotal_42 : decode M1_usedTotal.2.1 42 = .ok (.lreturn, 1) := by decide +kernel
theorem d1_usedShares_0 : decode M1_usedShares.2.1 0 = .ok (.lconst 0, 1) := by decide +kernel
theorem d1_usedShares_1 : decode M1_usedShares.2.1 1 = .ok (.lstore_n 3, 1) := by decide +kernel
theorem d1_usedShares_2 : decode M1_usedShares.2.1 2 = .ok (.iconst 0, 1) := by decide +kernel
theorem d1_usedShares_3 : decode M1_usedShares.2.1 3 = .ok (.istore 5, 2) := by decide +kernel
theorem d1_usedShares_5 : decode M1_usedShares.2.1 5 = .ok (.iload 5, 2) := by decide +kernel
theorem d1_usedShares_7 : decode M1_usedShares.2.1 7 = .ok (.aload_n 0, 1) := by decide +kernel
theorem d1_usedShares_8 : decode M1_usedShares.2.1 8 = .ok (.getfield 22, 3) := by decide +kernel
theorem d1_usedShares_11 : decode M1_usedShares.2.1 11 = .ok (.if_icmp .ge 34, 3) := by decide +kernel
theorem d1_usedShares_14 : decode M1_usedShares.2.1 14 = .ok (.aload_n 0, 1) := by decide +kernel
theorem d1_usedShares_15 : decode M1_usedShares.2.1 15 = .ok (.iload 5, 2) := by decide +kernel
theorem d1_usedShares_17 : decode M1_usedShares.2.1 17 = .ok (.aload_n 1, 1) := by decide +kernel
theorem d1_usedShares_18 : decode M1_usedShares.2.1 18 = .ok (.invokevirtual 26, 3) := by decide +kernel
theorem d1_usedShares_21 : decode M1_usedShares.2.1 21 = .ok (.ifCond .eq 18, 3) := by decide +kernel
theorem d1_usedShares_24 : decode M1_usedShares.2.1 24 = .ok (.lload_n 3, 1) := by decide +kernel
theorem d1_usedShares_25 : decode M1_usedShares.2.1 25 = .ok (.aload_n 1, 1) := by decide +kernel
theorem d1_usedShares_26 : decode M1_usedShares.2.1 26 = .ok (.iload_n 2, 1) := by decide +kernel
theorem d1_usedShares_27 : decode M1_usedShares.2.1 27 = .ok (.aload_n 0, 1) := by decide +kernel
theorem d1_usedShares_28 : decode M1_usedShares.2.1 28 = .ok (.getfield 9, 3) := by decide +kernel
theorem d1_usedShares_31 : decode M1_usedShares.2.1 31 = .ok (.iload 5, 2) := by decide +kernel
theorem d1_usedShares_33 : decode M1_usedShares.2.1 33 = .ok (.iaload, 1) := by decide +kernel
theorem d1_usedShares_34 : decode M1_usedShares.2.1 34 = .ok (.invokevirtual 46, 3) := by decide +kernel
theorem d1_usedShares_37 : decode M1_usedShares.2.1 37 = .ok (.ladd, 1) := by decide +kernel
theorem d1_usedShares_38 : decode M1_usedShares.2.1 38 = .ok (.lstore_n 3, 1) := by decide +kernel
theorem d1_usedShares_39 : decode M1_usedShares.2.1 39 = .ok (.iinc 5 1, 3) := by decide +kernel
theorem d1_usedShares_42 : decode M1_usedShares.2.1 42 = .ok (.goto (-37), 3) := by decide +kernel
theorem d1_usedShares_45 : decode M1_usedShares.2.1 45 = .ok (.lload_n 3, 1) := by decide +kernel
theorem d1_usedShares_46 : decode M1_usedShares.2.1 46 = .ok (.lreturn, 1) := by decide +kernel
theorem d1_isUsed_0 : decode M1_isUsed.2.1 0 = .ok (.aload_n 2, 1) := by decide +kernel
theorem d1_isUsed_1 : decode M1_isUsed.2.1 1 = .ok (.getfield 64, 3) := by decide +kernel
theorem d1_isUsed_4 : decode M1_isUsed.2.1 4 = .ok (.aload_n 0, 1) := by decide +kernel
theorem d1_isUsed_5 : decode M1_isUsed.2.1 5 = .ok (.getfield 9, 3) := by decide +kernel
theorem d1_isUsed_8 : decode M1_isUsed.2.1 8 = .ok (.iload_n 1, 1) := by decide +kernel
theorem d1_isUsed_9 : decode M1_isUsed.2.1 9 = .ok (.iaload, 1) := by decide +kernel
theorem d1_isUsed_10 : decode M1_isUsed.2.1 10 = .ok (.baload, 1) := by decide +kernel
theorem d1_isUsed_11 : decode M1_isUsed.2.1 11 = .ok (.ifCond .ne 7, 3) := by decide +kernel
theorem d1_isUsed_14 : decode M1_isUsed.2.1 14 = .ok (.iconst 1, 1) := by decide +kernel
theorem d1_isUsed_15 : decode M1_isUsed.2.1 15 = .ok (.goto 4, 3) := by decide +kernel
theorem d1_isUsed_18 : decode M1_isUsed.2.1 18 = .ok (.iconst 0, 1) := by decide +kernel
theorem d1_isUsed_19 : decode M1_isUsed.2.1 19 = .ok (.ireturn, 1) := by decide +kernel
theorem d1_placeOf_0 : decode M1_placeOf.2.1 0 = .ok (.iconst 0, 1) := by decide +kernel
theorem d1_placeOf_1 : decode M1_placeOf.2.1 1 = .ok (.istore_n 2, 1) := by decide +kernel
theorem d1_placeOf_2 : decode M1_placeOf.2.1 2 = .ok (.iload_n 2, 1) := by decide +kernel
theorem d1_placeOf_3 : decode M1_placeOf.2.1 3 = .ok (.aload_n 0, 1) := by decide +kernel
theorem d1_placeOf_4 : decode M1_placeOf.2.1 4 = .ok (.getfield 22, 3) := by decide +kernel
theorem d1_placeOf_7 : decode M1_placeOf.2.1 7 = .ok (.if_icmp .ge 21, 3) := by decide +kernel
theorem d1_placeOf_10 : decode M1_placeOf.2.1 10 = .ok (.aload_n 0, 1) := by decide +kernel
theorem d1_placeOf_11 : decode M1_placeOf.2.1 11 = .ok (.getfield 9, 3) := by decide +kernel
theorem d1_placeOf_14 : decode M1_placeOf.2.1 14 = .ok (.iload_n 2, 1) := by decide +kernel
theorem d1_placeOf_15 : decode M1_placeOf.2.1 15 = .ok (.iaload, 1) := by decide +kernel
theorem d1_placeOf_16 : decode M1_placeOf.2.1 16 = .ok (.iload_n 1, 1) := by decide +kernel
theorem d1_placeOf_17 : decode M1_placeOf.2.1 17 = .ok (.if_icmp .ne 5, 3) := by decide +kernel
theorem d1_placeOf_20 : decode M1_placeOf.2.1 20 = .ok (.iload_n 2, 1) := by decide +kernel
theorem d1_placeOf_21 : decode M1_placeOf.2.1 21 = .ok (.ireturn, 1) := by decide +kernel
theorem d1_placeOf_22 : decode M1_placeOf.2.1 22 = .ok (.iinc 2 1, 3) := by decide +kernel
theorem d1_placeOf_25 : decode M1_placeOf.2.1 25 = .ok (.goto (-23), 3) := by decide +kernel
theorem d1_placeOf_28 : decode M1_placeOf.2.1 28 = .ok (.iconst (-1), 1) := by decide +kernel
theorem d1_placeOf_29 : decode M1_placeOf.2.1 29 = .ok (.ireturn, 1) := by decide +kernel
theorem d2_init_0 : decode M2_init.2.1 0 = .ok (.aload_n 0, 1) := by decide +kernel
theorem d2_init_1 : decode M2_init.2.1 1 = .ok (.invokespecial 3, 3) := by decide +kernel
theorem d2_init_4 : decode M2_init.2.1 4 = .ok (.aload_n 0, 1) := by decide +kernel
theorem d2_init_5 : decode M2_init.2.1 5 = .ok (.bipush 12, 2) := by decide +kernel
theorem d2_init_7 : decode M2_init.2.1 7 = .ok (.anewarray 9, 3) := by decide +kernel
theorem d2_init_10 : decode M2_init.2.1 10 = .ok (.putfield 11, 3) := by decide +kernel
theorem d2_init_13 : decode M2_init.2.1 13 = .ok (.aload_n 0, 1) := by decide +kernel
theorem d2_init_14 : decode M2_init.2.1 14 = .ok (.bipush 8, 2) := by decide +kernel
theorem d2_init_16 : decode M2_init.2.1 16 = .ok (.newarray .int, 2) := by decide +kernel
theorem d2_init_18 : decode M2_init.2.1 18 = .ok (.putfield 17, 3) := by decide +kernel
theorem d2_init_21 : decode M2_init.2.1 21 = .ok (.aload_n 0, 1) := by decide +kernel
theorem d2_init_22 : decode M2_init.2.1 22 = .ok (.bipush 12, 2) := by decide +kernel
theorem d2_init_24 : decode M2_init.2.1 24 = .ok (.newarray .long, 2) := by decide +kernel
theorem d2_init_26 : decode M2_init.2.1 26 = .ok (.putfield 21, 3) := by decide +kernel
theorem d2_init_29 : decode M2_init.2.1 29 = .ok (.aload_n 0, 1) := by decide +kernel
theorem d2_init_30 : decode M2_init.2.1 30 = .ok (.bipush 12, 2) := by decide +kernel
theorem d2_init_32 : decode M2_init.2.1 32 = .ok (.newarray .int, 2) := by decide +kernel
theorem d2_init_34 : decode M2_init.2.1 34 = .ok (.putfield 25, 3) := by decide +kernel
theorem d2_init_37 : decode M2_init.2.1 37 = .ok (.aload_n 0, 1) := by decide +kernel
theorem d2_init_38 : decode M2_init.2.1 38 = .ok (.bipush 12, 2) := by decide +kernel
theorem d2_init_40 : decode M2_init.2.1 40 = .ok (.newarray .int, 2) := by decide +kernel
theorem d2_init_42 : decode M2_init.2.1 42 = .ok (.putfield 28, 3) := by decide +kernel
theorem d2_init_45 : decode M2_init.2.1 45 = .ok (.return_, 1) := by decide +kernel
theorem d2_add_0 : decode M2_add.2.1 0 = .ok (.aload_n 0, 1) := by decide +kernel
theorem d2_add_1 : decode M2_add.2.1 1 = .ok (.getfield 31, 3) := by decide +kernel
theorem d2_add_4 : decode M2_add.2.1 4 = .ok (.bipush 12, 2) := by decide +kernel
theorem d2_add_6 : decode M2_add.2.1 6 = .ok (.if_icmp .lt 5, 3) := by decide +kernel
theorem d2_add_9 : decode M2_add.2.1 9 = .ok (.iconst (-1), 1) := by decide +kernel
theorem d2_add_10 : decode M2_add.2.1 10 = .ok (.ireturn, 1) := by decide +kernel
theorem d2_add_11 : decode M2_add.2.1 11 = .ok (.aload_n 0, 1) := by decide +kernel
theorem d2_add_12 : decode M2_add.2.1 12 = .ok (.getfield 11, 3) := by decide +kernel
theorem d2_add_15 : decode M2_add.2.1 15 = .ok (.aload_n 0, 1) := by decide +kernel
theorem d2_add_16 : decode M2_add.2.1 16 = .ok (.getfield 31, 3) := by decide +kernel
theorem d2_add_19 : decode M2_add.2.1 19 = .ok (.new 9, 3) := by decide +kernel
theorem d2_add_22 : decode M2_add.2.1 22 = .ok (.dup, 1) := by decide +kernel
theorem d2_add_23 : decode M2_add.2.1 23 = .ok (.iload_n 1, 1) := by decide +kernel
theorem d2_add_24 : decode M2_add.2.1 24 = .ok (.iload_n 2, 1) := by decide +kernel
theorem d2_add_25 : decode M2_add.2.1 25 = .ok (.iload_n 3, 1) := by decide +kernel
theorem d2_add_26 : decode M2_add.2.1 26 = .ok (.invokespecial 35, 3) := by decide +kernel
theorem d2_add_29 : decode M2_add.2.1 29 = .ok (.aastore, 1) := by decide +kernel
theorem d2_add_30 : decode M2_add.2.1 30 = .ok (.iload_n 1, 1) := by decide +kernel
theorem d2_add_31 : decode M2_add.2.1 31 = .ok (.iconst (-1), 1) := by decide +kernel
theorem d2_add_32 : decode M2_add.2.1 32 = .ok (.if_icmp .eq 18, 3) := by decide +kernel
theorem d2_add_35 : decode M2_add.2.1 35 = .ok (.aload_n 0, 1) := by decide +kernel
theorem d2_add_36 : decode M2_add.2.1 36 = .ok (.getfield 17, 3) := by decide +kernel
theorem d2_add_39 : decode M2_add.2.1 39 = .ok (.iload_n 1, 1) := by decide +kernel
theorem d2_add_40 : decode M2_add.2.1 40 = .ok (.dup2, 1) := by decide +kernel
theorem d2_add_41 : decode M2_add.2.1 41 = .ok (.iaload, 1) := by decide +kernel
theorem d2_add_42 : decode M2_add.2.1 42 = .ok (.iconst 1, 1) := by decide +kernel
theorem d2_add_43 : decode M2_add.2.1 43 = .ok (.aload_n 0, 1) := by decide +kernel
theorem d2_add_44 : decode M2_add.2.1 44 = .ok (.getfield 31, 3) := by decide +kernel
theorem d2_add_47 : decode M2_add.2.1 47 = .ok (.ishl, 1) := by decide +kernel
theorem d2_add_48 : decode M2_add.2.1 48 = .ok (.ior, 1) := by decide +kernel
theorem d2_add_49 : decode M2_add.2.1 49 = .ok (.iastore, 1) := by decide +kernel
theorem d2_add_50 : decode M2_add.2.1 50 = .ok (.iload_n 2, 1) := by decide +kernel
theorem d2_add_51 : decode M2_add.2.1 51 = .ok (.iconst (-1), 1) := by decide +kernel
theorem d2_add_52 : decode M2_add.2.1 52 = .ok (.if_icmp .eq 18, 3) := by decide +kernel
theorem d2_add_55 : decode M2_add.2.1 55 = .ok (.aload_n 0, 1) := by decide +kernel
theorem d2_add_56 : decode M2_add.2.1 56 = .ok (.getfield 17, 3) := by decide +kernel
theorem d2_add_59 : decode M2_add.2.1 59 = .ok (.iload_n 2, 1) := by decide +kernel
theorem d2_add_60 : decode M2_add.2.1 60 = .ok (.dup2, 1) := by decide +kernel
theorem d2_add_61 : decode M2_add.2.1 61 = .ok (.iaload, 1) := by decide +kernel
theorem d2_add_62 : decode M2_add.2.1 62 = .ok (.iconst 1, 1) := by decide +kernel
theorem d2_add_63 : decode M2_add.2.1 63 = .ok (.aload_n 0, 1) := by decide +kernel
theorem d2_add_64 : decode M2_add.2.1 64 = .ok (.getfield 31, 3) := by decide +kernel
theorem d2_add_67 : decode M2_add.2.1 67 = .ok (.ishl, 1) := by decide +kernel
theorem d2_add_68 : decode M2_add.2.1 68 = .ok (.ior, 1) := by decide +kernel
theorem d2_add_69 : decode M2_add.2.1 69 = .ok (.iastore, 1) := by decide +kernel
theorem d2_add_70 : decode M2_add.2.1 70 = .ok (.aload_n 0, 1) := by decide +kernel
theorem d2_add_71 : decode M2_add.2.1 71 = .ok (.dup, 1) := by decide +kernel
theorem d2_add_72 : decode M2_add.2.1 72 = .ok (.getfield 31, 3) := by decide +kernel
theorem d2_add_75 : decode M2_add.2.1 75 = .ok (.iconst 1, 1) := by decide +kernel
theorem d2_add_76 : decode M2_add.2.1 76 = .ok (.iadd, 1) := by decide +kernel
theorem d2_add_77 : decode M2_add.2.1 77 = .ok (.putfield 31, 3) := by decide +kernel
theorem d2_add_80 : decode M2_add.2.1 80 = .ok (.aload_n 0, 1) := by decide +kernel
theorem d2_add_81 : decode M2_add.2.1 81 = .ok (.getfield 31, 3) := by decide +kernel
theorem d2_add_84 : decode M2_add.2.1 84 = .ok (.iconst 1, 1) := by decide +kernel
theorem d2_add_85 : decode M2_add.2.1 85 = .ok (.isub, 1) := by decide +kernel
theorem d2_add_86 : decode M2_add.2.1 86 = .ok (.ireturn, 1) := by decide +kernel
theorem d2_at_0 : decode M2_at.2.1 0 = .ok (.iload_n 1, 1) := by decide +kernel
theorem d2_at_1 : decode M2_at.2.1 1 = .ok (.aload_n 0, 1) := by decide +kernel
theorem d2_at_2 : decode M2_at.2.1 2 = .ok (.getfield 31, 3) := by decide +kernel
theorem d2_at_5 : decode M2_at.2.1 5 = .ok (.invokestatic 38, 3) := by decide +kernel
theorem d2_at_8 : decode M2_at.2.1 8 = .ok (.ifCond .eq 12, 3) := by decide +kernel
theorem d2_at_11 : decode M2_at.2.1 11 = .ok (.aload_n 0, 1) := by decide +kernel
theorem d2_at_12 : decode M2_at.2.1 12 = .ok (.getfield 11, 3) := by decide +kernel
theorem d2_at_15 : decode M2_at.2.1 15 = .ok (.iload_n 1, 1) := by decide +kernel
theorem d2_at_16 : decode M2_at.2.1 16 = .ok (.aaload, 1) := by decide +kernel
theorem d2_at_17 : decode M2_at.2.1 17 = .ok (.goto 4, 3) := by decide +kernel
theorem d2_at_20 : decode M2_at.2.1 20 = .ok (.aconst_null, 1) := by decide +kernel
theorem d2_at_21 : decode M2_at.2.1 21 = .ok (.areturn, 1) := by decide +kernel
theorem d2_hasAll_0 : decode M2_hasAll.2.1 0 = .ok (.iload_n 1, 1) := by decide +kernel
theorem d2_hasAll_1 : decode M2_hasAll.2.1 1 = .ok (.iconst 1, 1) := by decide +kernel
theorem d2_hasAll_2 : decode M2_hasAll.2.1 2 = .ok (.aload_n 0, 1) := by decide +kernel
theorem d2_hasAll_3 : decode M2_hasAll.2.1 3 = .ok (.getfield 31, 3) := by decide +kernel
theorem d2_hasAll_6 : decode M2_hasAll.2.1 6 = .ok (.ishl, 1) := by decide +kernel
theorem d2_hasAll_7 : decode M2_hasAll.2.1 7 = .ok (.invokestatic 38, 3) := by decide +kernel
theorem d2_hasAll_10 : decode M2_hasAll.2.1 10 = .ok (.ireturn, 1) := by decide +kernel
theorem d2_isKnown_0 : decode M2_isKnown.2.1 0 = .ok (.aload_n 0, 1) := by decide +kernel
theorem d2_isKnown_1 : decode M2_isKnown.2.1 1 = .ok (.getfield 42, 3) := by decide +kernel
theorem d2_isKnown_4 : decode M2_isKnown.2.1 4 = .ok (.iload_n 1, 1) := by decide +kernel
theorem d2_isKnown_5 : decode M2_isKnown.2.1 5 = .ok (.ishr, 1) := by decide +kernel
theorem d2_isKnown_6 : decode M2_isKnown.2.1 6 = .ok (.iconst 1, 1) := by decide +kernel
theorem d2_isKnown_7 : decode M2_isKnown.2.1 7 = .ok (.iand, 1) := by decide +kernel
theorem d2_isKnown_8 : decode M2_isKnown.2.1 8 = .ok (.iconst 1, 1) := by decide +kernel
theorem d2_isKnown_9 : decode M2_isKnown.2.1 9 = .ok (.if_icmp .ne 7, 3) := by decide +kernel
theorem d2_isKnown_12 : decode M2_isKnown.2.1 12 = .ok (.iconst 1, 1) := by decide +kernel
theorem d2_isKnown_13 : decode M2_isKnown.2.1 13 = .ok (.goto 4, 3) := by decide +kernel
theorem d2_isKnown_16 : decode M2_isKnown.2.1 16 = .ok (.iconst 0, 1) := by decide +kernel
theorem d2_isKnown_17 : decode M2_isKnown.2.1 17 = .ok (.ireturn, 1) := by decide +kernel
theorem d2_isTold_0 : decode M2_isTold.2.1 0 = .ok (.aload_n 0, 1) := by decide +kernel
theorem d2_isTold_1 : decode M2_isTold.2.1 1 = .ok (.getfield 45, 3) := by decide +kernel
theorem d2_isTold_4 : decode M2_isTold.2.1 4 = .ok (.iload_n 1, 1) := by decide +kernel
theorem d2_isTold_5 : decode M2_isTold.2.1 5 = .ok (.ishr, 1) := by decide +kernel
theorem d2_isTold_6 : decode M2_isTold.2.1 6 = .ok (.iconst 1, 1) := by decide +kernel
theorem d2_isTold_7 : decode M2_isTold.2.1 7 = .ok (.iand, 1) := by decide +kernel
theorem d2_isTold_8 : decode M2_isTold.2.1 8 = .ok (.iconst 1, 1) := by decide +kernel
theorem d2_isTold_9 : decode M2_isTold.2.1 9 = .ok (.if_icmp .ne 7, 3) := by decide +kernel
theorem d2_isTold_12 : decode M2_isTold.2.1 12 = .ok (.iconst 1, 1) := by decide +kernel
theorem d2_isTold_13 : decode M2_isTold.2.1 13 = .ok (.goto 4, 3) := by decide +kernel
theorem d2_isTold_16 : decode M2_isTold.2.1 16 = .ok (.iconst 0, 1) := by decide +kernel
theorem d2_isTold_17 : decode M2_isTold.2.1 17 = .ok (.ireturn, 1) := by decide +kernel
theorem d2_isAllToldAt_0 : decode M2_isAllToldAt.2.1 0 = .ok (.aload_n 0, 1) := by decide +kernel
theorem d2_isAllToldAt_1 : decode M2_isAllToldAt.2.1 1 = .ok (.getfield 17, 3) := by decide +kernel
theorem d2_isAllToldAt_4 : decode M2_isAllToldAt.2.1 4 = .ok (.iload_n 1, 1) := by decide +kernel
theorem d2_isAllToldAt_5 : decode M2_isAllToldAt.2.1 5 = .ok (.iaload, 1) := by decide +kernel
theorem d2_isAllToldAt_6 : decode M2_isAllToldAt.2.1 6 = .ok (.aload_n 0, 1) := by decide +kernel
theorem d2_isAllToldAt_7 : decode M2_isAllToldAt.2.1 7 = .ok (.getfield 45, 3) := by decide +kernel
theorem d2_isAllToldAt_10 : decode M2_isAllToldAt.2.1 10 = .ok (.iconst (-1), 1) := by decide +kernel
theorem d2_isAllToldAt_11 : decode M2_isAllToldAt.2.1 11 = .ok (.ixor, 1) := by decide +kernel
theorem d2_isAllToldAt_12 : decode M2_isAllToldAt.2.1 12 = .ok (.iand, 1) := by decide +kernel
theorem d2_isAllToldAt_13 : decode M2_isAllToldAt.2.1 13 = .ok (.ifCond .ne 7, 3) := by decide +kernel
theorem d2_isAllToldAt_16 : decode M2_isAllToldAt.2.1 16 = .ok (.iconst 1, 1) := by decide +kernel
theorem d2_isAllToldAt_17 : decode M2_isAllToldAt.2.1 17 = .ok (.goto 4, 3) := by decide +kernel
theorem d2_isAllToldAt_20 : decode M2_isAllToldAt.2.1 20 = .ok (.iconst 0, 1) := by decide +kernel
theorem d2_isAllToldAt_21 : decode M2_isAllToldAt.2.1 21 = .ok (.ireturn, 1) := by decide +kernel
theorem d2_loadOf_0 : decode M2_loadOf.2.1 0 = .ok (.aload_n 0, 1) := by decide +kernel
theorem d2_loadOf_1 : decode M2_loadOf.2.1 1 = .ok (.getfield 21, 3) := by decide +kernel
theorem d2_loadOf_4 : decode M2_loadOf.2.1 4 = .ok (.iload_n 1, 1) := by decide +kernel
theorem d2_loadOf_5 : decode M2_loadOf.2.1 5 = .ok (.laload, 1) := by decide +kernel
theorem d2_loadOf_6 : decode M2_loadOf.2.1 6 = .ok (.lreturn, 1) := by decide +kernel
theorem d2_surplus_0 : decode M2_surplus.2.1 0 = .ok (.lconst 0, 1) := by decide +kernel
theorem d2_surplus_1 : decode M2_surplus.2.1 1 = .ok (.lstore_n 2, 1) := by decide +kernel
theorem d2_surplus_2 : decode M2_surplus.2.1 2 = .ok (.iconst 0, 1) := by decide +kernel
theorem d2_surplus_3 : decode M2_surplus.2.1 3 = .ok (.istore 4, 2) := by decide +kernel
theorem d2_surplus_5 : decode M2_surplus.2.1 5 = .ok (.iload 4, 2) := by decide +kernel
theorem d2_surplus_7 : decode M2_surplus.2.1 7 = .ok (.aload_n 0, 1) := by decide +kernel
theorem d2_surplus_8 : decode M2_surplus.2.1 8 = .ok (.getfield 31, 3) := by decide +kernel
theorem d2_surplus_11 : decode M2_surplus.2.1 11 = .ok (.if_icmp .ge 68, 3) := by decide +kernel
theorem d2_surplus_14 : decode M2_surplus.2.1 14 = .ok (.aload_n 0, 1) := by decide +kernel
theorem d2_surplus_15 : decode M2_surplus.2.1 15 = .ok (.iload 4, 2) := by decide +kernel
theorem d2_surplus_17 : decode M2_surplus.2.1 17 = .ok (.invokevirtual 48, 3) := by decide +kernel
theorem d2_surplus_20 : decode M2_surplus.2.1 20 = .ok (.ifCond .eq 53, 3) := by decide +kernel
theorem d2_surplus_23 : decode M2_surplus.2.1 23 = .ok (.aload_n 0, 1) := by decide +kernel
theorem d2_surplus_24 : decode M2_surplus.2.1 24 = .ok (.getfield 17, 3) := by decide +kernel
theorem d2_surplus_27 : decode M2_surplus.2.1 27 = .ok (.iload_n 1, 1) := by decide +kernel
theorem d2_surplus_28 : decode M2_surplus.2.1 28 = .ok (.iaload, 1) := by decide +kernel
theorem d2_surplus_29 : decode M2_surplus.2.1 29 = .ok (.iload 4, 2) := by decide +kernel
theorem d2_surplus_31 : decode M2_surplus.2.1 31 = .ok (.ishr, 1) := by decide +kernel
theorem d2_surplus_32 : decode M2_surplus.2.1 32 = .ok (.iconst 1, 1) := by decide +kernel
theorem d2_surplus_33 : decode M2_surplus.2.1 33 = .ok (.iand, 1) := by decide +kernel
theorem d2_surplus_34 : decode M2_surplus.2.1 34 = .ok (.iconst 1, 1) := by decide +kernel
theorem d2_surplus_35 : decode M2_surplus.2.1 35 = .ok (.if_icmp .ne 38, 3) := by decide +kernel
theorem d2_surplus_38 : decode M2_surplus.2.1 38 = .ok (.lload_n 2, 1) := by decide +kernel
theorem d2_surplus_39 : decode M2_surplus.2.1 39 = .ok (.aload_n 0, 1) := by decide +kernel
theorem d2_surplus_40 : decode M2_surplus.2.1 40 = .ok (.getfield 11, 3) := by decide +kernel
theorem d2_surplus_43 : decode M2_surplus.2.1 43 = .ok (.iload 4, 2) := by decide +kernel
theorem d2_surplus_45 : decode M2_surplus.2.1 45 = .ok (.aaload, 1) := by decide +kernel
theorem d2_surplus_46 : decode M2_surplus.2.1 46 = .ok (.getfield 52, 3) := by decide +kernel
theorem d2_surplus_49 : decode M2_surplus.2.1 49 = .ok (.iload_n 1, 1) := by decide +kernel
theorem d2_surplus_50 : decode M2_surplus.2.1 50 = .ok (.if_icmp .ne 13, 3) := by decide +kernel
theorem d2_surplus_53 : decode M2_surplus.2.1 53 = .ok (.aload_n 0, 1) := by decide +kernel
theorem d2_surplus_54 : decode M2_surplus.2.1 54 = .ok (.getfield 21, 3) := by decide +kernel
theorem d2_surplus_57 : decode M2_surplus.2.1 57 = .ok (.iload 4, 2) := by decide +kernel
theorem d2_surplus_59 : decode M2_surplus.2.1 59 = .ok (.laload, 1) := by decide +kernel
theorem d2_surplus_60 : decode M2_surplus.2.1 60 = .ok (.goto 11, 3) := by decide +kernel
theorem d2_surplus_63 : decode M2_surplus.2.1 63 = .ok (.aload_n 0, 1) := by decide +kernel
theorem d2_surplus_64 : decode M2_surplus.2.1 64 = .ok (.getfield 21, 3) := by decide +kernel
theorem d2_surplus_67 : decode M2_surplus.2.1 67 = .ok (.iload 4, 2) := by decide +kernel
theorem d2_surplus_69 : decode M2_surplus.2.1 69 = .ok (.laload, 1) := by decide +kernel
theorem d2_surplus_70 : decode M2_surplus.2.1 70 = .ok (.lneg, 1) := by decide +kernel
theorem d2_surplus_71 : decode M2_surplus.2.1 71 = .ok (.ladd, 1) := by decide +kernel
theorem d2_surplus_72 : decode M2_surplus.2.1 72 = .ok (.lstore_n 2, 1) := by decide +kernel
theorem d2_surplus_73 : decode M2_surplus.2.1 73 = .ok (.iinc 4 1, 3) := by decide +kernel
theorem d2_surplus_76 : decode M2_surplus.2.1 76 = .ok (.goto (-71), 3) := by decide +kernel
theorem d2_surplus_79 : decode M2_surplus.2.1 79 = .ok (.lload_n 2, 1) := by decide +kernel
theorem d2_surplus_80 : decode M2_surplus.2.1 80 = .ok (.lreturn, 1) := by decide +kernel
theorem d2_settle_0 : decode M2_settle.2.1 0 = .ok (.aload_n 0, 1) := by decide +kernel
theorem d2_settle_1 : decode M2_settle.2.1 1 = .ok (.iconst 0, 1) := by decide +kernel
theorem d2_settle_2 : decode M2_settle.2.1 2 = .ok (.putfield 42, 3) := by decide +kernel
theorem d2_settle_5 : decode M2_settle.2.1 5 = .ok (.iconst 0, 1) := by decide +kernel
theorem d2_settle_6 : decode M2_settle.2.1 6 = .ok (.istore_n 2, 1) := by decide +kernel
theorem d2_settle_7 : decode M2_settle.2.1 7 = .ok (.iload_n 2, 1) := by decide +kernel
theorem d2_settle_8 : decode M2_settle.2.1 8 = .ok (.aload_n 0, 1) := by decide +kernel
theorem d2_settle_9 : decode M2_settle.2.1 9 = .ok (.getfield 31, 3) := by decide +kernel
theorem d2_settle_12 : decode M2_settle.2.1 12 = .ok (.if_icmp .ge 59, 3) := by decide +kernel
theorem d2_settle_15 : decode M2_settle.2.1 15 = .ok (.aload_n 0, 1) := by decide +kernel
theorem d2_settle_16 : decode M2_settle.2.1 16 = .ok (.getfield 11, 3) := by decide +kernel
theorem d2_settle_19 : decode M2_settle.2.1 19 = .ok (.iload_n 2, 1) := by decide +kernel
theorem d2_settle_20 : decode M2_settle.2.1 20 = .ok (.aaload, 1) := by decide +kernel
theorem d2_settle_21 : decode M2_settle.2.1 21 = .ok (.astore_n 3, 1) := by decide +kernel
theorem d2_settle_22 : decode M2_settle.2.1 22 = .ok (.aload_n 3, 1) := by decide +kernel
theorem d2_settle_23 : decode M2_settle.2.1 23 = .ok (.getfield 55, 3) := by decide +kernel
theorem d2_settle_26 : decode M2_settle.2.1 26 = .ok (.aload_n 1, 1) := by decide +kernel
theorem d2_settle_27 : decode M2_settle.2.1 27 = .ok (.aload_n 3, 1) := by decide +kernel
theorem d2_settle_28 : decode M2_settle.2.1 28 = .ok (.getfield 59, 3) := by decide +kernel
theorem d2_settle_31 : decode M2_settle.2.1 31 = .ok (.invokevirtual 62, 3) := by decide +kernel
theorem d2_settle_34 : decode M2_settle.2.1 34 = .ok (.lstore 4, 2) := by decide +kernel
theorem d2_settle_36 : decode M2_settle.2.1 36 = .ok (.lload 4, 2) := by decide +kernel
theorem d2_settle_38 : decode M2_settle.2.1 38 = .ok (.ldc2_w 68, 3) := by decide +kernel
theorem d2_settle_41 : decode M2_settle.2.1 41 = .ok (.lcmp, 1) := by decide +kernel
theorem d2_settle_42 : decode M2_settle.2.1 42 = .ok (.ifCond .eq 23, 3) := by decide +kernel
theorem d2_settle_45 : decode M2_settle.2.1 45 = .ok (.aload_n 0, 1) := by decide +kernel
theorem d2_settle_46 : decode M2_settle.2.1 46 = .ok (.dup, 1) := by decide +kernel
theorem d2_settle_47 : decode M2_settle.2.1 47 = .ok (.getfield 42, 3) := by decide +kernel
theorem d2_settle_50 : decode M2_settle.2.1 50 = .ok (.iconst 1, 1) := by decide +kernel
theorem d2_settle_51 : decode M2_settle.2.1 51 = .ok (.iload_n 2, 1) := by decide +kernel
theorem d2_settle_52 : decode M2_settle.2.1 52 = .ok (.ishl, 1) := by decide +kernel
theorem d2_settle_53 : decode M2_settle.2.1 53 = .ok (.ior, 1) := by decide +kernel
theorem d2_settle_54 : decode M2_settle.2.1 54 = .ok (.putfield 42, 3) := by decide +kernel
theorem d2_settle_57 : decode M2_settle.2.1 57 = .ok (.aload_n 0, 1) := by decide +kernel
theorem d2_settle_58 : decode M2_settle.2.1 58 = .ok (.getfield 21, 3) := by decide +kernel
theorem d2_settle_61 : decode M2_settle.2.1 61 = .ok (.iload_n 2, 1) := by decide +kernel
theorem d2_settle_62 : decode M2_settle.2.1 62 = .ok (.lload 4, 2) := by decide +kernel
theorem d2_settle_64 : decode M2_settle.2.1 64 = .ok (.lastore, 1) := by decide +kernel
theorem d2_settle_65 : decode M2_settle.2.1 65 = .ok (.iinc 2 1, 3) := by decide +kernel
theorem d2_settle_68 : decode M2_settle.2.1 68 = .ok (.goto (-61), 3) := by decide +kernel
theorem d2_settle_71 : decode M2_settle.2.1 71 = .ok (.aload_n 0, 1) := by decide +kernel
theorem d2_settle_72 : decode M2_settle.2.1 72 = .ok (.aload_n 0, 1) := by decide +kernel
theorem d2_settle_73 : decode M2_settle.2.1 73 = .ok (.getfield 42, 3) := by decide +kernel
theorem d2_settle_76 : decode M2_settle.2.1 76 = .ok (.putfield 45, 3) := by decide +kernel
theorem d2_settle_79 : decode M2_settle.2.1 79 = .ok (.aload_n 0, 1) := by decide +kernel
theorem d2_settle_80 : decode M2_settle.2.1 80 = .ok (.aload_n 0, 1) := by decide +kernel
theorem d2_settle_81 : decode M2_settle.2.1 81 = .ok (.getfield 42, 3) := by decide +kernel
theorem d2_settle_84 : decode M2_settle.2.1 84 = .ok (.invokevirtual 70, 3) := by decide +kernel
theorem d2_settle_87 : decode M2_settle.2.1 87 = .ok (.pop, 1) := by decide +kernel
theorem d2_settle_88 : decode M2_settle.2.1 88 = .ok (.iconst 0, 1) := by decide +kernel
theorem d2_settle_89 : decode M2_settle.2.1 89 = .ok (.istore_n 2, 1) := by decide +kernel
theorem d2_settle_90 : decode M2_settle.2.1 90 = .ok (.iload_n 2, 1) := by decide +kernel
theorem d2_settle_91 : decode M2_settle.2.1 91 = .ok (.aload_n 0, 1) := by decide +kernel
theorem d2_settle_92 : decode M2_settle.2.1 92 = .ok (.getfield 74, 3) := by decide +kernel
theorem d2_settle_95 : decode M2_settle.2.1 95 = .ok (.if_icmp .ge 72, 3) := by decide +kernel
theorem d2_settle_98 : decode M2_settle.2.1 98 = .ok (.aload_n 0, 1) := by decide +kernel
theorem d2_settle_99 : decode M2_settle.2.1 99 = .ok (.getfield 25, 3) := by decide +kernel
theorem d2_settle_102 : decode M2_settle.2.1 102 = .ok (.iload_n 2, 1) := by decide +kernel
theorem d2_settle_103 : decode M2_settle.2.1 103 = .ok (.iaload, 1) := by decide +kernel
theorem d2_settle_104 : decode M2_settle.2.1 104 = .ok (.istore_n 3, 1) := by decide +kernel
theorem d2_settle_105 : decode M2_settle.2.1 105 = .ok (.aload_n 0, 1) := by decide +kernel
theorem d2_settle_106 : decode M2_settle.2.1 106 = .ok (.getfield 28, 3) := by decide +kernel
theorem d2_settle_109 : decode M2_settle.2.1 109 = .ok (.iload_n 2, 1) := by decide +kernel
theorem d2_settle_110 : decode M2_settle.2.1 110 = .ok (.iaload, 1) := by decide +kernel
theorem d2_settle_111 : decode M2_settle.2.1 111 = .ok (.istore 4, 2) := by decide +kernel
theorem d2_settle_113 : decode M2_settle.2.1 113 = .ok (.aload_n 0, 1) := by decide +kernel
theorem d2_settle_114 : decode M2_settle.2.1 114 = .ok (.iload 4, 2) := by decide +kernel
theorem d2_settle_116 : decode M2_settle.2.1 116 = .ok (.invokevirtual 77, 3) := by decide +kernel
theorem d2_settle_119 : decode M2_settle.2.1 119 = .ok (.lstore 5, 2) := by decide +kernel
theorem d2_settle_121 : decode M2_settle.2.1 121 = .ok (.aload_n 0, 1) := by decide +kernel
theorem d2_settle_122 : decode M2_settle.2.1 122 = .ok (.getfield 21, 3) := by decide +kernel
theorem d2_settle_125 : decode M2_settle.2.1 125 = .ok (.iload_n 3, 1) := by decide +kernel
theorem d2_settle_126 : decode M2_settle.2.1 126 = .ok (.aload_n 0, 1) := by decide +kernel
theorem d2_settle_127 : decode M2_settle.2.1 127 = .ok (.getfield 11, 3) := by decide +kernel
theorem d2_settle_130 : decode M2_settle.2.1 130 = .ok (.iload_n 3, 1) := by decide +kernel
theorem d2_settle_131 : decode M2_settle.2.1 131 = .ok (.aaload, 1) := by decide +kernel
theorem d2_settle_132 : decode M2_settle.2.1 132 = .ok (.getfield 52, 3) := by decide +kernel
theorem d2_settle_135 : decode M2_settle.2.1 135 = .ok (.iload 4, 2) := by decide +kernel
theorem d2_settle_137 : decode M2_settle.2.1 137 = .ok (.if_icmp .ne 9, 3) := by decide +kernel
theorem d2_settle_140 : decode M2_settle.2.1 140 = .ok (.lload 5, 2) := by decide +kernel
theorem d2_settle_142 : decode M2_settle.2.1 142 = .ok (.lneg, 1) := by decide +kernel
theorem d2_settle_143 : decode M2_settle.2.1 143 = .ok (.goto 5, 3) := by decide +kernel
theorem d2_settle_146 : decode M2_settle.2.1 146 = .ok (.lload 5, 2) := by decide +kernel
theorem d2_settle_148 : decode M2_settle.2.1 148 = .ok (.lastore, 1) := by decide +kernel
theorem d2_settle_149 : decode M2_settle.2.1 149 = .ok (.aload_n 0, 1) := by decide +kernel
theorem d2_settle_150 : decode M2_settle.2.1 150 = .ok (.dup, 1) := by decide +kernel
theorem d2_settle_151 : decode M2_settle.2.1 151 = .ok (.getfield 45, 3) := by decide +kernel
theorem d2_settle_154 : decode M2_settle.2.1 154 = .ok (.iconst 1, 1) := by decide +kernel
theorem d2_settle_155 : decode M2_settle.2.1 155 = .ok (.iload_n 3, 1) := by decide +kernel
theorem d2_settle_156 : decode M2_settle.2.1 156 = .ok (.ishl, 1) := by decide +kernel
theorem d2_settle_157 : decode M2_settle.2.1 157 = .ok (.ior, 1) := by decide +kernel
theorem d2_settle_158 : decode M2_settle.2.1 158 = .ok (.putfield 45, 3) := by decide +kernel
theorem d2_settle_161 : decode M2_settle.2.1 161 = .ok (.iinc 2 1, 3) := by decide +kernel
theorem d2_settle_164 : decode M2_settle.2.1 164 = .ok (.goto (-74), 3) := by decide +kernel
theorem d2_settle_167 : decode M2_settle.2.1 167 = .ok (.return_, 1) := by decide +kernel
theorem d2_isEnough_0 : decode M2_isEnough.2.1 0 = .ok (.aload_n 0, 1) := by decide +kernel
theorem d2_isEnough_1 : decode M2_isEnough.2.1 1 = .ok (.iload_n 1, 1) := by decide +kernel
theorem d2_isEnough_2 : decode M2_isEnough.2.1 2 = .ok (.invokevirtual 70, 3) := by decide +kernel
theorem d2_isEnough_5 : decode M2_isEnough.2.1 5 = .ok (.iconst 1, 1) := by decide +kernel
theorem d2_isEnough_6 : decode M2_isEnough.2.1 6 = .ok (.aload_n 0, 1) := by decide +kernel
theorem d2_isEnough_7 : decode M2_isEnough.2.1 7 = .ok (.getfield 31, 3) := by decide +kernel
theorem d2_isEnough_10 : decode M2_isEnough.2.1 10 = .ok (.ishl, 1) := by decide +kernel
theorem d2_isEnough_11 : decode M2_isEnough.2.1 11 = .ok (.iconst 1, 1) := by decide +kernel
theorem d2_isEnough_12 : decode M2_isEnough.2.1 12 = .ok (.isub, 1) := by decide +kernel
theorem d2_isEnough_13 : decode M2_isEnough.2.1 13 = .ok (.if_icmp .ne 7, 3) := by decide +kernel
theorem d2_isEnough_16 : decode M2_isEnough.2.1 16 = .ok (.iconst 1, 1) := by decide +kernel
theorem d2_isEnough_17 : decode M2_isEnough.2.1 17 = .ok (.goto 4, 3) := by decide +kernel
theorem d2_isEnough_20 : decode M2_isEnough.2.1 20 = .ok (.iconst 0, 1) := by decide +kernel
theorem d2_isEnough_21 : decode M2_isEnough.2.1 21 = .ok (.ireturn, 1) := by decide +kernel
theorem d2_cheapestEnough_0 : decode M2_cheapestEnough.2.1 0 = .ok (.iconst 1, 1) := by decide +kernel
theorem d2_cheapestEnough_1 : decode M2_cheapestEnough.2.1 1 = .ok (.aload_n 0, 1) := by decide +kernel
theorem d2_cheapestEnough_2 : decode M2_cheapestEnough.2.1 2 = .ok (.getfield 31, 3) := by decide +kernel
theorem d2_cheapestEnough_5 : decode M2_cheapestEnough.2.1 5 = .ok (.ishl, 1) := by decide +kernel
theorem d2_cheapestEnough_6 : decode M2_cheapestEnough.2.1 6 = .ok (.iconst 1, 1) := by decide +kernel
theorem d2_cheapestEnough_7 : decode M2_cheapestEnough.2.1 7 = .ok (.isub, 1) := by decide +kernel
theorem d2_cheapestEnough_8 : decode M2_cheapestEnough.2.1 8 = .ok (.istore_n 1, 1) := by decide +kernel
theorem d2_cheapestEnough_9 : decode M2_cheapestEnough.2.1 9 = .ok (.iconst 0, 1) := by decide +kernel
theorem d2_cheapestEnough_10 : decode M2_cheapestEnough.2.1 10 = .ok (.istore_n 2, 1) := by decide +kernel
theorem d2_cheapestEnough_11 : decode M2_cheapestEnough.2.1 11 = .ok (.iconst 0, 1) := by decide +kernel
theorem d2_cheapestEnough_12 : decode M2_cheapestEnough.2.1 12 = .ok (.istore_n 3, 1) := by decide +kernel
theorem d2_cheapestEnough_13 : decode M2_cheapestEnough.2.1 13 = .ok (.iload_n 3, 1) := by decide +kernel
theorem d2_cheapestEnough_14 : decode M2_cheapestEnough.2.1 14 = .ok (.aload_n 0, 1) := by decide +kernel
theorem d2_cheapestEnough_15 : decode M2_cheapestEnough.2.1 15 = .ok (.getfield 31, 3) := by decide +kernel
theorem d2_cheapestEnough_18 : decode M2_cheapestEnough.2.1 18 = .ok (.if_icmp .ge 47, 3) := by decide +kernel
theorem d2_cheapestEnough_21 : decode M2_cheapestEnough.2.1 21 = .ok (.aload_n 0, 1) := by decide +kernel
theorem d2_cheapestEnough_22 : decode M2_cheapestEnough.2.1 22 = .ok (.iload_n 2, 1) := by decide +kernel
theorem d2_cheapestEnough_23 : decode M2_cheapestEnough.2.1 23 = .ok (.invokevirtual 81, 3) := by decide +kernel
theorem d2_cheapestEnough_26 : decode M2_cheapestEnough.2.1 26 = .ok (.istore 4, 2) := by decide +kernel
theorem d2_cheapestEnough_28 : decode M2_cheapestEnough.2.1 28 = .ok (.iload_n 2, 1) := by decide +kernel
theorem d2_cheapestEnough_29 : decode M2_cheapestEnough.2.1 29 = .ok (.iconst 1, 1) := by decide +kernel
theorem d2_cheapestEnough_30 : decode M2_cheapestEnough.2.1 30 = .ok (.iload 4, 2) := by decide +kernel
theorem d2_cheapestEnough_32 : decode M2_cheapestEnough.2.1 32 = .ok (.ishl, 1) := by decide +kernel
theorem d2_cheapestEnough_33 : decode M2_cheapestEnough.2.1 33 = .ok (.ior, 1) := by decide +kernel
theorem d2_cheapestEnough_34 : decode M2_cheapestEnough.2.1 34 = .ok (.istore_n 2, 1) := by decide +kernel
theorem d2_cheapestEnough_35 : decode M2_cheapestEnough.2.1 35 = .ok (.aload_n 0, 1) := by decide +kernel
theorem d2_cheapestEnough_36 : decode M2_cheapestEnough.2.1 36 = .ok (.iload_n 1, 1) := by decide +kernel
theorem d2_cheapestEnough_37 : decode M2_cheapestEnough.2.1 37 = .ok (.iconst 1, 1) := by decide +kernel
theorem d2_cheapestEnough_38 : decode M2_cheapestEnough.2.1 38 = .ok (.iload 4, 2) := by decide +kernel
theorem d2_cheapestEnough_40 : decode M2_cheapestEnough.2.1 40 = .ok (.ishl, 1) := by decide +kernel
theorem d2_cheapestEnough_41 : decode M2_cheapestEnough.2.1 41 = .ok (.iconst (-1), 1) := by decide +kernel
theorem d2_cheapestEnough_42 : decode M2_cheapestEnough.2.1 42 = .ok (.ixor, 1) := by decide +kernel
theorem d2_cheapestEnough_43 : decode M2_cheapestEnough.2.1 43 = .ok (.iand, 1) := by decide +kernel
theorem d2_cheapestEnough_44 : decode M2_cheapestEnough.2.1 44 = .ok (.invokevirtual 84, 3) := by decide +kernel
theorem d2_cheapestEnough_47 : decode M2_cheapestEnough.2.1 47 = .ok (.ifCond .eq 12, 3) := by decide +kernel
theorem d2_cheapestEnough_50 : decode M2_cheapestEnough.2.1 50 = .ok (.iload_n 1, 1) := by decide +kernel
theorem d2_cheapestEnough_51 : decode M2_cheapestEnough.2.1 51 = .ok (.iconst 1, 1) := by decide +kernel
theorem d2_cheapestEnough_52 : decode M2_cheapestEnough.2.1 52 = .ok (.iload 4, 2) := by decide +kernel
theorem d2_cheapestEnough_54 : decode M2_cheapestEnough.2.1 54 = .ok (.ishl, 1) := by decide +kernel
theorem d2_cheapestEnough_55 : decode M2_cheapestEnough.2.1 55 = .ok (.iconst (-1), 1) := by decide +kernel
theorem d2_cheapestEnough_56 : decode M2_cheapestEnough.2.1 56 = .ok (.ixor, 1) := by decide +kernel
theorem d2_cheapestEnough_57 : decode M2_cheapestEnough.2.1 57 = .ok (.iand, 1) := by decide +kernel
theorem d2_cheapestEnough_58 : decode M2_cheapestEnough.2.1 58 = .ok (.istore_n 1, 1) := by decide +kernel
theorem d2_cheapestEnough_59 : decode M2_cheapestEnough.2.1 59 = .ok (.iinc 3 1, 3) := by decide +kernel
theorem d2_cheapestEnough_62 : decode M2_cheapestEnough.2.1 62 = .ok (.goto (-49), 3) := by decide +kernel
theorem d2_cheapestEnough_65 : decode M2_cheapestEnough.2.1 65 = .ok (.iload_n 1, 1) := by decide +kernel
theorem d2_cheapestEnough_66 : decode M2_cheapestEnough.2.1 66 = .ok (.ireturn, 1) := by decide +kernel
theorem d2_dearestOutside_0 : decode M2_dearestOutside.2.1 0 = .ok (.iconst 0, 1) := by decide +kernel
theorem d2_dearestOutside_1 : decode M2_dearestOutside.2.1 1 = .ok (.istore_n 2, 1) := by decide +kernel
theorem d2_dearestOutside_2 : decode M2_dearestOutside.2.1 2 = .ok (.iconst (-1), 1) := by decide +kernel
theorem d2_dearestOutside_3 : decode M2_dearestOutside.2.1 3 = .ok (.istore_n 3, 1) := by decide +kernel
theorem d2_dearestOutside_4 : decode M2_dearestOutside.2.1 4 = .ok (.iconst 0, 1) := by decide +kernel
theorem d2_dearestOutside_5 : decode M2_dearestOutside.2.1 5 = .ok (.istore 4, 2) := by decide +kernel
theorem d2_dearestOutside_7 : decode M2_dearestOutside.2.1 7 = .ok (.iload 4, 2) := by decide +kernel
theorem d2_dearestOutside_9 : decode M2_dearestOutside.2.1 9 = .ok (.aload_n 0, 1) := by decide +kernel
theorem d2_dearestOutside_10 : decode M2_dearestOutside.2.1 10 = .ok (.getfield 31, 3) := by decide +kernel
theorem d2_dearestOutside_13 : decode M2_dearestOutside.2.1 13 = .ok (.if_icmp .ge 46, 3) := by decide +kernel
theorem d2_dearestOutside_16 : decode M2_dearestOutside.2.1 16 = .ok (.iload_n 1, 1) := by decide +kernel
theorem d2_dearestOutside_17 : decode M2_dearestOutside.2.1 17 = .ok (.iload 4, 2) := by decide +kernel
theorem d2_dearestOutside_19 : decode M2_dearestOutside.2.1 19 = .ok (.ishr, 1) := by decide +kernel
theorem d2_dearestOutside_20 : decode M2_dearestOutside.2.1 20 = .ok (.iconst 1, 1) := by decide +kernel
theorem d2_dearestOutside_21 : decode M2_dearestOutside.2.1 21 = .ok (.iand, 1) := by decide +kernel
theorem d2_dearestOutside_22 : decode M2_dearestOutside.2.1 22 = .ok (.ifCond .ne 31, 3) := by decide +kernel
theorem d2_dearestOutside_25 : decode M2_dearestOutside.2.1 25 = .ok (.aload_n 0, 1) := by decide +kernel
theorem d2_dearestOutside_26 : decode M2_dearestOutside.2.1 26 = .ok (.getfield 11, 3) := by decide +kernel
theorem d2_dearestOutside_29 : decode M2_dearestOutside.2.1 29 = .ok (.iload 4, 2) := by decide +kernel
theorem d2_dearestOutside_31 : decode M2_dearestOutside.2.1 31 = .ok (.aaload, 1) := by decide +kernel
theorem d2_dearestOutside_32 : decode M2_dearestOutside.2.1 32 = .ok (.getfield 87, 3) := by decide +kernel
theorem d2_dearestOutside_35 : decode M2_dearestOutside.2.1 35 = .ok (.iload_n 3, 1) := by decide +kernel
theorem d2_dearestOutside_36 : decode M2_dearestOutside.2.1 36 = .ok (.if_icmp .lt 17, 3) := by decide +kernel
theorem d2_dearestOutside_39 : decode M2_dearestOutside.2.1 39 = .ok (.iload 4, 2) := by decide +kernel
theorem d2_dearestOutside_41 : decode M2_dearestOutside.2.1 41 = .ok (.istore_n 2, 1) := by decide +kernel
theorem d2_dearestOutside_42 : decode M2_dearestOutside.2.1 42 = .ok (.aload_n 0, 1) := by decide +kernel
theorem d2_dearestOutside_43 : decode M2_dearestOutside.2.1 43 = .ok (.getfield 11, 3) := by decide +kernel
theorem d2_dearestOutside_46 : decode M2_dearestOutside.2.1 46 = .ok (.iload 4, 2) := by decide +kernel
theorem d2_dearestOutside_48 : decode M2_dearestOutside.2.1 48 = .ok (.aaload, 1) := by decide +kernel
theorem d2_dearestOutside_49 : decode M2_dearestOutside.2.1 49 = .ok (.getfield 87, 3) := by decide +kernel
theorem d2_dearestOutside_52 : decode M2_dearestOutside.2.1 52 = .ok (.istore_n 3, 1) := by decide +kernel
theorem d2_dearestOutside_53 : decode M2_dearestOutside.2.1 53 = .ok (.iinc 4 1, 3) := by decide +kernel
theorem d2_dearestOutside_56 : decode M2_dearestOutside.2.1 56 = .ok (.goto (-49), 3) := by decide +kernel
theorem d2_dearestOutside_59 : decode M2_dearestOutside.2.1 59 = .ok (.iload_n 2, 1) := by decide +kernel
theorem d2_dearestOutside_60 : decode M2_dearestOutside.2.1 60 = .ok (.ireturn, 1) := by decide +kernel
theorem d2_follow_0 : decode M2_follow.2.1 0 = .ok (.iload_n 1, 1) := by decide +kernel
theorem d2_follow_1 : decode M2_follow.2.1 1 = .ok (.istore_n 2, 1) := by decide +kernel
theorem d2_follow_2 : decode M2_follow.2.1 2 = .ok (.aload_n 0, 1) := by decide +kernel
theorem d2_follow_3 : decode M2_follow.2.1 3 = .ok (.iconst 0, 1) := by decide +kernel
theorem d2_follow_4 : decode M2_follow.2.1 4 = .ok (.putfield 74, 3) := by decide +kernel
theorem d2_follow_7 : decode M2_follow.2.1 7 = .ok (.iconst 1, 1) := by decide +kernel
theorem d2_follow_8 : decode M2_follow.2.1 8 = .ok (.istore_n 3, 1) := by decide +kernel
theorem d2_follow_9 : decode M2_follow.2.1 9 = .ok (.iconst 0, 1) := by decide +kernel
theorem d2_follow_10 : decode M2_follow.2.1 10 = .ok (.istore 4, 2) := by decide +kernel
theorem d2_follow_12 : decode M2_follow.2.1 12 = .ok (.iload_n 3, 1) := by decide +kernel
theorem d2_follow_13 : decode M2_follow.2.1 13 = .ok (.ifCond .eq 109, 3) := by decide +kernel
theorem d2_follow_16 : decode M2_follow.2.1 16 = .ok (.iload 4, 2) := by decide +kernel
theorem d2_follow_18 : decode M2_follow.2.1 18 = .ok (.aload_n 0, 1) := by decide +kernel
theorem d2_follow_19 : decode M2_follow.2.1 19 = .ok (.getfield 31, 3) := by decide +kernel
theorem d2_follow_22 : decode M2_follow.2.1 22 = .ok (.if_icmp .gt 100, 3) := by decide +kernel
theorem d2_follow_25 : decode M2_follow.2.1 25 = .ok (.iconst 0, 1) := by decide +kernel
theorem d2_follow_26 : decode M2_follow.2.1 26 = .ok (.istore_n 3, 1) := by decide +kernel
theorem d2_follow_27 : decode M2_follow.2.1 27 = .ok (.iconst 0, 1) := by decide +kernel
theorem d2_follow_28 : decode M2_follow.2.1 28 = .ok (.istore 5, 2) := by decide +kernel
theorem d2_follow_30 : decode M2_follow.2.1 30 = .ok (.iload 5, 2) := by decide +kernel
theorem d2_follow_32 : decode M2_follow.2.1 32 = .ok (.bipush 8, 2) := by decide +kernel
theorem d2_follow_34 : decode M2_follow.2.1 34 = .ok (.if_icmp .ge 82, 3) := by decide +kernel
theorem d2_follow_37 : decode M2_follow.2.1 37 = .ok (.aload_n 0, 1) := by decide +kernel
theorem d2_follow_38 : decode M2_follow.2.1 38 = .ok (.getfield 17, 3) := by decide +kernel
theorem d2_follow_41 : decode M2_follow.2.1 41 = .ok (.iload 5, 2) := by decide +kernel
theorem d2_follow_43 : decode M2_follow.2.1 43 = .ok (.iaload, 1) := by decide +kernel
theorem d2_follow_44 : decode M2_follow.2.1 44 = .ok (.iload_n 2, 1) := by decide +kernel
theorem d2_follow_45 : decode M2_follow.2.1 45 = .ok (.iconst (-1), 1) := by decide +kernel
theorem d2_follow_46 : decode M2_follow.2.1 46 = .ok (.ixor, 1) := by decide +kernel
theorem d2_follow_47 : decode M2_follow.2.1 47 = .ok (.iand, 1) := by decide +kernel
theorem d2_follow_48 : decode M2_follow.2.1 48 = .ok (.istore 6, 2) := by decide +kernel
theorem d2_follow_50 : decode M2_follow.2.1 50 = .ok (.iload 6, 2) := by decide +kernel
theorem d2_follow_52 : decode M2_follow.2.1 52 = .ok (.invokestatic 90, 3) := by decide +kernel
theorem d2_follow_55 : decode M2_follow.2.1 55 = .ok (.iconst 1, 1) := by decide +kernel
theorem d2_follow_56 : decode M2_follow.2.1 56 = .ok (.if_icmp .ne 54, 3) := by decide +kernel
theorem d2_follow_59 : decode M2_follow.2.1 59 = .ok (.aload_n 0, 1) := by decide +kernel
theorem d2_follow_60 : decode M2_follow.2.1 60 = .ok (.getfield 74, 3) := by decide +kernel
theorem d2_follow_63 : decode M2_follow.2.1 63 = .ok (.bipush 12, 2) := by decide +kernel
theorem d2_follow_65 : decode M2_follow.2.1 65 = .ok (.if_icmp .ge 45, 3) := by decide +kernel
theorem d2_follow_68 : decode M2_follow.2.1 68 = .ok (.aload_n 0, 1) := by decide +kernel
theorem d2_follow_69 : decode M2_follow.2.1 69 = .ok (.getfield 25, 3) := by decide +kernel
theorem d2_follow_72 : decode M2_follow.2.1 72 = .ok (.aload_n 0, 1) := by decide +kernel
theorem d2_follow_73 : decode M2_follow.2.1 73 = .ok (.getfield 74, 3) := by decide +kernel
theorem d2_follow_76 : decode M2_follow.2.1 76 = .ok (.iload 6, 2) := by decide +kernel
theorem d2_follow_78 : decode M2_follow.2.1 78 = .ok (.invokestatic 95, 3) := by decide +kernel
theorem d2_follow_81 : decode M2_follow.2.1 81 = .ok (.iastore, 1) := by decide +kernel
theorem d2_follow_82 : decode M2_follow.2.1 82 = .ok (.aload_n 0, 1) := by decide +kernel
theorem d2_follow_83 : decode M2_follow.2.1 83 = .ok (.getfield 28, 3) := by decide +kernel
theorem d2_follow_86 : decode M2_follow.2.1 86 = .ok (.aload_n 0, 1) := by decide +kernel
theorem d2_follow_87 : decode M2_follow.2.1 87 = .ok (.getfield 74, 3) := by decide +kernel
theorem d2_follow_90 : decode M2_follow.2.1 90 = .ok (.iload 5, 2) := by decide +kernel
theorem d2_follow_92 : decode M2_follow.2.1 92 = .ok (.iastore, 1) := by decide +kernel
theorem d2_follow_93 : decode M2_follow.2.1 93 = .ok (.aload_n 0, 1) := by decide +kernel
theorem d2_follow_94 : decode M2_follow.2.1 94 = .ok (.dup, 1) := by decide +kernel
theorem d2_follow_95 : decode M2_follow.2.1 95 = .ok (.getfield 74, 3) := by decide +kernel
theorem d2_follow_98 : decode M2_follow.2.1 98 = .ok (.iconst 1, 1) := by decide +kernel
theorem d2_follow_99 : decode M2_follow.2.1 99 = .ok (.iadd, 1) := by decide +kernel
theorem d2_follow_100 : decode M2_follow.2.1 100 = .ok (.putfield 74, 3) := by decide +kernel
theorem d2_follow_103 : decode M2_follow.2.1 103 = .ok (.iload_n 2, 1) := by decide +kernel
theorem d2_follow_104 : decode M2_follow.2.1 104 = .ok (.iload 6, 2) := by decide +kernel
theorem d2_follow_106 : decode M2_follow.2.1 106 = .ok (.ior, 1) := by decide +kernel
theorem d2_follow_107 : decode M2_follow.2.1 107 = .ok (.istore_n 2, 1) := by decide +kernel
theorem d2_follow_108 : decode M2_follow.2.1 108 = .ok (.iconst 1, 1) := by decide +kernel
theorem d2_follow_109 : decode M2_follow.2.1 109 = .ok (.istore_n 3, 1) := by decide +kernel
theorem d2_follow_110 : decode M2_follow.2.1 110 = .ok (.iinc 5 1, 3) := by decide +kernel
theorem d2_follow_113 : decode M2_follow.2.1 113 = .ok (.goto (-83), 3) := by decide +kernel
theorem d2_follow_116 : decode M2_follow.2.1 116 = .ok (.iinc 4 1, 3) := by decide +kernel
theorem d2_follow_119 : decode M2_follow.2.1 119 = .ok (.goto (-107), 3) := by decide +kernel
theorem d2_follow_122 : decode M2_follow.2.1 122 = .ok (.iload_n 2, 1) := by decide +kernel
theorem d2_follow_123 : decode M2_follow.2.1 123 = .ok (.ireturn, 1) := by decide +kernel
theorem d3_init_0 : decode M3_init.2.1 0 = .ok (.aload_n 0, 1) := by decide +kernel
theorem d3_init_1 : decode M3_init.2.1 1 = .ok (.invokespecial 3, 3) := by decide +kernel
theorem d3_init_4 : decode M3_init.2.1 4 = .ok (.aload_n 0, 1) := by decide +kernel
theorem d3_init_5 : decode M3_init.2.1 5 = .ok (.new 9, 3) := by decide +kernel
theorem d3_init_8 : decode M3_init.2.1 8 = .ok (.dup, 1) := by decide +kernel
theorem d3_init_9 : decode M3_init.2.1 9 = .ok (.invokespecial 11, 3) := by decide +kernel
theorem d3_init_12 : decode M3_init.2.1 12 = .ok (.putfield 12, 3) := by decide +kernel
theorem d3_init_15 : decode M3_init.2.1 15 = .ok (.aload_n 0, 1) := by decide +kernel
theorem d3_init_16 : decode M3_init.2.1 16 = .ok (.bipush 10, 2) := by decide +kernel
theorem d3_init_18 : decode M3_init.2.1 18 = .ok (.newarray .int, 2) := by decide +kernel
theorem d3_init_20 : decode M3_init.2.1 20 = .ok (.putfield 18, 3) := by decide +kernel
theorem d3_init_23 : decode M3_init.2.1 23 = .ok (.aload_n 0, 1) := by decide +kernel
theorem d3_init_24 : decode M3_init.2.1 24 = .ok (.iload_n 1, 1) := by decide +kernel
theorem d3_init_25 : decode M3_init.2.1 25 = .ok (.putfield 22, 3) := by decide +kernel
theorem d3_init_28 : decode M3_init.2.1 28 = .ok (.aload_n 0, 1) := by decide +kernel
theorem d3_init_29 : decode M3_init.2.1 29 = .ok (.iload_n 2, 1) := by decide +kernel
theorem d3_init_30 : decode M3_init.2.1 30 = .ok (.putfield 26, 3) := by decide +kernel
theorem d3_init_33 : decode M3_init.2.1 33 = .ok (.aload_n 0, 1) := by decide +kernel
theorem d3_init_34 : decode M3_init.2.1 34 = .ok (.iload_n 3, 1) := by decide +kernel
theorem d3_init_35 : decode M3_init.2.1 35 = .ok (.putfield 29, 3) := by decide +kernel
theorem d3_init_38 : decode M3_init.2.1 38 = .ok (.return_, 1) := by decide +kernel
