/-! what each instruction is -/
theorem d8_init_0 : decode M8_init.2.1 0 = .ok (.aload_n 0, 1) := by decide +kernel
theorem d8_init_1 : decode M8_init.2.1 1 = .ok (.invokespecial 1, 3) := by decide +kernel
theorem d8_init_4 : decode M8_init.2.1 4 = .ok (.aload_n 0, 1) := by decide +kernel
theorem d8_init_5 : decode M8_init.2.1 5 = .ok (.bipush 120, 2) := by decide +kernel
theorem d8_init_7 : decode M8_init.2.1 7 = .ok (.newarray .byte, 2) := by decide +kernel
theorem d8_init_9 : decode M8_init.2.1 9 = .ok (.putfield 7, 3) := by decide +kernel
theorem d8_init_12 : decode M8_init.2.1 12 = .ok (.aload_n 0, 1) := by decide +kernel
theorem d8_init_13 : decode M8_init.2.1 13 = .ok (.sipush 364, 3) := by decide +kernel
theorem d8_init_16 : decode M8_init.2.1 16 = .ok (.newarray .boolean, 2) := by decide +kernel
theorem d8_init_18 : decode M8_init.2.1 18 = .ok (.putfield 13, 3) := by decide +kernel
theorem d8_init_21 : decode M8_init.2.1 21 = .ok (.aload_n 0, 1) := by decide +kernel
theorem d8_init_22 : decode M8_init.2.1 22 = .ok (.bipush 28, 2) := by decide +kernel
theorem d8_init_24 : decode M8_init.2.1 24 = .ok (.newarray .int, 2) := by decide +kernel
theorem d8_init_26 : decode M8_init.2.1 26 = .ok (.putfield 17, 3) := by decide +kernel
theorem d8_init_29 : decode M8_init.2.1 29 = .ok (.aload_n 0, 1) := by decide +kernel
theorem d8_init_30 : decode M8_init.2.1 30 = .ok (.bipush 52, 2) := by decide +kernel
theorem d8_init_32 : decode M8_init.2.1 32 = .ok (.newarray .int, 2) := by decide +kernel
theorem d8_init_34 : decode M8_init.2.1 34 = .ok (.putfield 21, 3) := by decide +kernel
theorem d8_init_37 : decode M8_init.2.1 37 = .ok (.aload_n 0, 1) := by decide +kernel
theorem d8_init_38 : decode M8_init.2.1 38 = .ok (.bipush 12, 2) := by decide +kernel
theorem d8_init_40 : decode M8_init.2.1 40 = .ok (.newarray .int, 2) := by decide +kernel
theorem d8_init_42 : decode M8_init.2.1 42 = .ok (.putfield 24, 3) := by decide +kernel
theorem d8_init_45 : decode M8_init.2.1 45 = .ok (.aload_n 0, 1) := by decide +kernel
theorem d8_init_46 : decode M8_init.2.1 46 = .ok (.bipush 12, 2) := by decide +kernel
theorem d8_init_48 : decode M8_init.2.1 48 = .ok (.newarray .int, 2) := by decide +kernel
theorem d8_init_50 : decode M8_init.2.1 50 = .ok (.putfield 27, 3) := by decide +kernel
theorem d8_init_53 : decode M8_init.2.1 53 = .ok (.aload_n 0, 1) := by decide +kernel
theorem d8_init_54 : decode M8_init.2.1 54 = .ok (.bipush 12, 2) := by decide +kernel
theorem d8_init_56 : decode M8_init.2.1 56 = .ok (.newarray .int, 2) := by decide +kernel
theorem d8_init_58 : decode M8_init.2.1 58 = .ok (.putfield 30, 3) := by decide +kernel
theorem d8_init_61 : decode M8_init.2.1 61 = .ok (.aload_n 0, 1) := by decide +kernel
theorem d8_init_62 : decode M8_init.2.1 62 = .ok (.bipush 12, 2) := by decide +kernel
theorem d8_init_64 : decode M8_init.2.1 64 = .ok (.newarray .int, 2) := by decide +kernel
theorem d8_init_66 : decode M8_init.2.1 66 = .ok (.putfield 33, 3) := by decide +kernel
theorem d8_init_69 : decode M8_init.2.1 69 = .ok (.aload_n 0, 1) := by decide +kernel
theorem d8_init_70 : decode M8_init.2.1 70 = .ok (.sipush 4368, 3) := by decide +kernel
theorem d8_init_73 : decode M8_init.2.1 73 = .ok (.newarray .int, 2) := by decide +kernel
theorem d8_init_75 : decode M8_init.2.1 75 = .ok (.putfield 36, 3) := by decide +kernel
theorem d8_init_78 : decode M8_init.2.1 78 = .ok (.aload_n 0, 1) := by decide +kernel
theorem d8_init_79 : decode M8_init.2.1 79 = .ok (.bipush 12, 2) := by decide +kernel
theorem d8_init_81 : decode M8_init.2.1 81 = .ok (.newarray .int, 2) := by decide +kernel
theorem d8_init_83 : decode M8_init.2.1 83 = .ok (.putfield 39, 3) := by decide +kernel
theorem d8_init_86 : decode M8_init.2.1 86 = .ok (.aload_n 0, 1) := by decide +kernel
theorem d8_init_87 : decode M8_init.2.1 87 = .ok (.bipush 120, 2) := by decide +kernel
theorem d8_init_89 : decode M8_init.2.1 89 = .ok (.newarray .int, 2) := by decide +kernel
theorem d8_init_91 : decode M8_init.2.1 91 = .ok (.putfield 42, 3) := by decide +kernel
theorem d8_init_94 : decode M8_init.2.1 94 = .ok (.aload_n 0, 1) := by decide +kernel
theorem d8_init_95 : decode M8_init.2.1 95 = .ok (.bipush 9, 2) := by decide +kernel
theorem d8_init_97 : decode M8_init.2.1 97 = .ok (.newarray .int, 2) := by decide +kernel
theorem d8_init_99 : decode M8_init.2.1 99 = .ok (.putfield 45, 3) := by decide +kernel
theorem d8_init_102 : decode M8_init.2.1 102 = .ok (.aload_n 0, 1) := by decide +kernel
theorem d8_init_103 : decode M8_init.2.1 103 = .ok (.bipush 9, 2) := by decide +kernel
theorem d8_init_105 : decode M8_init.2.1 105 = .ok (.newarray .int, 2) := by decide +kernel
theorem d8_init_107 : decode M8_init.2.1 107 = .ok (.putfield 48, 3) := by decide +kernel
theorem d8_init_110 : decode M8_init.2.1 110 = .ok (.aload_n 0, 1) := by decide +kernel
theorem d8_init_111 : decode M8_init.2.1 111 = .ok (.bipush 72, 2) := by decide +kernel
theorem d8_init_113 : decode M8_init.2.1 113 = .ok (.newarray .int, 2) := by decide +kernel
theorem d8_init_115 : decode M8_init.2.1 115 = .ok (.putfield 51, 3) := by decide +kernel
theorem d8_init_118 : decode M8_init.2.1 118 = .ok (.aload_n 0, 1) := by decide +kernel
theorem d8_init_119 : decode M8_init.2.1 119 = .ok (.bipush 9, 2) := by decide +kernel
theorem d8_init_121 : decode M8_init.2.1 121 = .ok (.newarray .int, 2) := by decide +kernel
theorem d8_init_123 : decode M8_init.2.1 123 = .ok (.putfield 54, 3) := by decide +kernel
theorem d8_init_126 : decode M8_init.2.1 126 = .ok (.aload_n 0, 1) := by decide +kernel
theorem d8_init_127 : decode M8_init.2.1 127 = .ok (.bipush 9, 2) := by decide +kernel
theorem d8_init_129 : decode M8_init.2.1 129 = .ok (.newarray .int, 2) := by decide +kernel
theorem d8_init_131 : decode M8_init.2.1 131 = .ok (.putfield 57, 3) := by decide +kernel
theorem d8_init_134 : decode M8_init.2.1 134 = .ok (.aload_n 0, 1) := by decide +kernel
theorem d8_init_135 : decode M8_init.2.1 135 = .ok (.bipush 72, 2) := by decide +kernel
theorem d8_init_137 : decode M8_init.2.1 137 = .ok (.newarray .int, 2) := by decide +kernel
theorem d8_init_139 : decode M8_init.2.1 139 = .ok (.putfield 60, 3) := by decide +kernel
theorem d8_init_142 : decode M8_init.2.1 142 = .ok (.aload_n 0, 1) := by decide +kernel
theorem d8_init_143 : decode M8_init.2.1 143 = .ok (.bipush 12, 2) := by decide +kernel
theorem d8_init_145 : decode M8_init.2.1 145 = .ok (.newarray .long, 2) := by decide +kernel
theorem d8_init_147 : decode M8_init.2.1 147 = .ok (.putfield 63, 3) := by decide +kernel
theorem d8_init_150 : decode M8_init.2.1 150 = .ok (.aload_n 0, 1) := by decide +kernel
theorem d8_init_151 : decode M8_init.2.1 151 = .ok (.bipush 8, 2) := by decide +kernel
theorem d8_init_153 : decode M8_init.2.1 153 = .ok (.newarray .int, 2) := by decide +kernel
theorem d8_init_155 : decode M8_init.2.1 155 = .ok (.putfield 67, 3) := by decide +kernel
theorem d8_init_158 : decode M8_init.2.1 158 = .ok (.iconst 0, 1) := by decide +kernel
theorem d8_init_159 : decode M8_init.2.1 159 = .ok (.istore_n 1, 1) := by decide +kernel
theorem d8_init_160 : decode M8_init.2.1 160 = .ok (.iload_n 1, 1) := by decide +kernel
theorem d8_init_161 : decode M8_init.2.1 161 = .ok (.bipush 28, 2) := by decide +kernel
theorem d8_init_163 : decode M8_init.2.1 163 = .ok (.if_icmp .ge 16, 3) := by decide +kernel
theorem d8_init_166 : decode M8_init.2.1 166 = .ok (.aload_n 0, 1) := by decide +kernel
theorem d8_init_167 : decode M8_init.2.1 167 = .ok (.getfield 17, 3) := by decide +kernel
theorem d8_init_170 : decode M8_init.2.1 170 = .ok (.iload_n 1, 1) := by decide +kernel
theorem d8_init_171 : decode M8_init.2.1 171 = .ok (.iconst 1, 1) := by decide +kernel
theorem d8_init_172 : decode M8_init.2.1 172 = .ok (.iastore, 1) := by decide +kernel
theorem d8_init_173 : decode M8_init.2.1 173 = .ok (.iinc 1 1, 3) := by decide +kernel
theorem d8_init_176 : decode M8_init.2.1 176 = .ok (.goto (-16), 3) := by decide +kernel
theorem d8_init_179 : decode M8_init.2.1 179 = .ok (.iconst 0, 1) := by decide +kernel
theorem d8_init_180 : decode M8_init.2.1 180 = .ok (.istore_n 1, 1) := by decide +kernel
theorem d8_init_181 : decode M8_init.2.1 181 = .ok (.iload_n 1, 1) := by decide +kernel
theorem d8_init_182 : decode M8_init.2.1 182 = .ok (.bipush 52, 2) := by decide +kernel
theorem d8_init_184 : decode M8_init.2.1 184 = .ok (.if_icmp .ge 16, 3) := by decide +kernel
theorem d8_init_187 : decode M8_init.2.1 187 = .ok (.aload_n 0, 1) := by decide +kernel
theorem d8_init_188 : decode M8_init.2.1 188 = .ok (.getfield 21, 3) := by decide +kernel
theorem d8_init_191 : decode M8_init.2.1 191 = .ok (.iload_n 1, 1) := by decide +kernel
theorem d8_init_192 : decode M8_init.2.1 192 = .ok (.iconst 1, 1) := by decide +kernel
theorem d8_init_193 : decode M8_init.2.1 193 = .ok (.iastore, 1) := by decide +kernel
theorem d8_init_194 : decode M8_init.2.1 194 = .ok (.iinc 1 1, 3) := by decide +kernel
theorem d8_init_197 : decode M8_init.2.1 197 = .ok (.goto (-16), 3) := by decide +kernel
theorem d8_init_200 : decode M8_init.2.1 200 = .ok (.iconst 0, 1) := by decide +kernel
theorem d8_init_201 : decode M8_init.2.1 201 = .ok (.istore_n 1, 1) := by decide +kernel
theorem d8_init_202 : decode M8_init.2.1 202 = .ok (.iload_n 1, 1) := by decide +kernel
theorem d8_init_203 : decode M8_init.2.1 203 = .ok (.sipush 4368, 3) := by decide +kernel
theorem d8_init_206 : decode M8_init.2.1 206 = .ok (.if_icmp .ge 16, 3) := by decide +kernel
theorem d8_init_209 : decode M8_init.2.1 209 = .ok (.aload_n 0, 1) := by decide +kernel
theorem d8_init_210 : decode M8_init.2.1 210 = .ok (.getfield 36, 3) := by decide +kernel
theorem d8_init_213 : decode M8_init.2.1 213 = .ok (.iload_n 1, 1) := by decide +kernel
theorem d8_init_214 : decode M8_init.2.1 214 = .ok (.iconst (-1), 1) := by decide +kernel
theorem d8_init_215 : decode M8_init.2.1 215 = .ok (.iastore, 1) := by decide +kernel
theorem d8_init_216 : decode M8_init.2.1 216 = .ok (.iinc 1 1, 3) := by decide +kernel
theorem d8_init_219 : decode M8_init.2.1 219 = .ok (.goto (-17), 3) := by decide +kernel
theorem d8_init_222 : decode M8_init.2.1 222 = .ok (.return_, 1) := by decide +kernel
theorem d8_lies_0 : decode M8_lies.2.1 0 = .ok (.lload_n 0, 1) := by decide +kernel
theorem d8_lies_1 : decode M8_lies.2.1 1 = .ok (.lload_n 2, 1) := by decide +kernel
theorem d8_lies_2 : decode M8_lies.2.1 2 = .ok (.lcmp, 1) := by decide +kernel
theorem d8_lies_3 : decode M8_lies.2.1 3 = .ok (.ifCond .lt 14, 3) := by decide +kernel
theorem d8_lies_6 : decode M8_lies.2.1 6 = .ok (.lload_n 0, 1) := by decide +kernel
theorem d8_lies_7 : decode M8_lies.2.1 7 = .ok (.lload 4, 2) := by decide +kernel
theorem d8_lies_9 : decode M8_lies.2.1 9 = .ok (.lcmp, 1) := by decide +kernel
theorem d8_lies_10 : decode M8_lies.2.1 10 = .ok (.ifCond .gt 7, 3) := by decide +kernel
theorem d8_lies_13 : decode M8_lies.2.1 13 = .ok (.iconst 1, 1) := by decide +kernel
theorem d8_lies_14 : decode M8_lies.2.1 14 = .ok (.goto 4, 3) := by decide +kernel
theorem d8_lies_17 : decode M8_lies.2.1 17 = .ok (.iconst 0, 1) := by decide +kernel
theorem d8_lies_18 : decode M8_lies.2.1 18 = .ok (.ireturn, 1) := by decide +kernel
theorem d8_isRoad_0 : decode M8_isRoad.2.1 0 = .ok (.iload_n 1, 1) := by decide +kernel
theorem d8_isRoad_1 : decode M8_isRoad.2.1 1 = .ok (.i2l, 1) := by decide +kernel
theorem d8_isRoad_2 : decode M8_isRoad.2.1 2 = .ok (.lconst 0, 1) := by decide +kernel
theorem d8_isRoad_3 : decode M8_isRoad.2.1 3 = .ok (.aload_n 0, 1) := by decide +kernel
theorem d8_isRoad_4 : decode M8_isRoad.2.1 4 = .ok (.getfield 70, 3) := by decide +kernel
theorem d8_isRoad_7 : decode M8_isRoad.2.1 7 = .ok (.iconst 1, 1) := by decide +kernel
theorem d8_isRoad_8 : decode M8_isRoad.2.1 8 = .ok (.isub, 1) := by decide +kernel
theorem d8_isRoad_9 : decode M8_isRoad.2.1 9 = .ok (.i2l, 1) := by decide +kernel
theorem d8_isRoad_10 : decode M8_isRoad.2.1 10 = .ok (.invokestatic 74, 3) := by decide +kernel
theorem d8_isRoad_13 : decode M8_isRoad.2.1 13 = .ok (.ireturn, 1) := by decide +kernel
theorem d8_isShape_0 : decode M8_isShape.2.1 0 = .ok (.iload_n 0, 1) := by decide +kernel
theorem d8_isShape_1 : decode M8_isShape.2.1 1 = .ok (.i2l, 1) := by decide +kernel
theorem d8_isShape_2 : decode M8_isShape.2.1 2 = .ok (.lconst 0, 1) := by decide +kernel
theorem d8_isShape_3 : decode M8_isShape.2.1 3 = .ok (.ldc2_w 78, 3) := by decide +kernel
theorem d8_isShape_6 : decode M8_isShape.2.1 6 = .ok (.invokestatic 74, 3) := by decide +kernel
theorem d8_isShape_9 : decode M8_isShape.2.1 9 = .ok (.ireturn, 1) := by decide +kernel
theorem d8_has_0 : decode M8_has.2.1 0 = .ok (.iload_n 0, 1) := by decide +kernel
theorem d8_has_1 : decode M8_has.2.1 1 = .ok (.iload_n 1, 1) := by decide +kernel
theorem d8_has_2 : decode M8_has.2.1 2 = .ok (.ishr, 1) := by decide +kernel
theorem d8_has_3 : decode M8_has.2.1 3 = .ok (.iconst 1, 1) := by decide +kernel
theorem d8_has_4 : decode M8_has.2.1 4 = .ok (.iand, 1) := by decide +kernel
theorem d8_has_5 : decode M8_has.2.1 5 = .ok (.iconst 1, 1) := by decide +kernel
theorem d8_has_6 : decode M8_has.2.1 6 = .ok (.if_icmp .ne 7, 3) := by decide +kernel
theorem d8_has_9 : decode M8_has.2.1 9 = .ok (.iconst 1, 1) := by decide +kernel
theorem d8_has_10 : decode M8_has.2.1 10 = .ok (.goto 4, 3) := by decide +kernel
theorem d8_has_13 : decode M8_has.2.1 13 = .ok (.iconst 0, 1) := by decide +kernel
theorem d8_has_14 : decode M8_has.2.1 14 = .ok (.ireturn, 1) := by decide +kernel
theorem d8_size_0 : decode M8_size.2.1 0 = .ok (.lload_n 0, 1) := by decide +kernel
theorem d8_size_1 : decode M8_size.2.1 1 = .ok (.lconst 0, 1) := by decide +kernel
theorem d8_size_2 : decode M8_size.2.1 2 = .ok (.lcmp, 1) := by decide +kernel
theorem d8_size_3 : decode M8_size.2.1 3 = .ok (.ifCond .ge 8, 3) := by decide +kernel
theorem d8_size_6 : decode M8_size.2.1 6 = .ok (.lload_n 0, 1) := by decide +kernel
theorem d8_size_7 : decode M8_size.2.1 7 = .ok (.lneg, 1) := by decide +kernel
theorem d8_size_8 : decode M8_size.2.1 8 = .ok (.goto 4, 3) := by decide +kernel
theorem d8_size_11 : decode M8_size.2.1 11 = .ok (.lload_n 0, 1) := by decide +kernel
theorem d8_size_12 : decode M8_size.2.1 12 = .ok (.lreturn, 1) := by decide +kernel
theorem d8_sizeOf_0 : decode M8_sizeOf.2.1 0 = .ok (.iconst 0, 1) := by decide +kernel
theorem d8_sizeOf_1 : decode M8_sizeOf.2.1 1 = .ok (.istore_n 1, 1) := by decide +kernel
theorem d8_sizeOf_2 : decode M8_sizeOf.2.1 2 = .ok (.iload_n 0, 1) := by decide +kernel
theorem d8_sizeOf_3 : decode M8_sizeOf.2.1 3 = .ok (.istore_n 2, 1) := by decide +kernel
theorem d8_sizeOf_4 : decode M8_sizeOf.2.1 4 = .ok (.iload_n 2, 1) := by decide +kernel
theorem d8_sizeOf_5 : decode M8_sizeOf.2.1 5 = .ok (.ifCond .eq 15, 3) := by decide +kernel
theorem d8_sizeOf_8 : decode M8_sizeOf.2.1 8 = .ok (.iinc 1 1, 3) := by decide +kernel
theorem d8_sizeOf_11 : decode M8_sizeOf.2.1 11 = .ok (.iload_n 2, 1) := by decide +kernel
theorem d8_sizeOf_12 : decode M8_sizeOf.2.1 12 = .ok (.iload_n 2, 1) := by decide +kernel
theorem d8_sizeOf_13 : decode M8_sizeOf.2.1 13 = .ok (.iconst 1, 1) := by decide +kernel
theorem d8_sizeOf_14 : decode M8_sizeOf.2.1 14 = .ok (.isub, 1) := by decide +kernel
theorem d8_sizeOf_15 : decode M8_sizeOf.2.1 15 = .ok (.iand, 1) := by decide +kernel
theorem d8_sizeOf_16 : decode M8_sizeOf.2.1 16 = .ok (.istore_n 2, 1) := by decide +kernel
theorem d8_sizeOf_17 : decode M8_sizeOf.2.1 17 = .ok (.goto (-13), 3) := by decide +kernel
theorem d8_sizeOf_20 : decode M8_sizeOf.2.1 20 = .ok (.iload_n 1, 1) := by decide +kernel
theorem d8_sizeOf_21 : decode M8_sizeOf.2.1 21 = .ok (.ireturn, 1) := by decide +kernel
theorem d8_weekday_0 : decode M8_weekday.2.1 0 = .ok (.iload_n 1, 1) := by decide +kernel
theorem d8_weekday_1 : decode M8_weekday.2.1 1 = .ok (.invokestatic 80, 3) := by decide +kernel
theorem d8_weekday_4 : decode M8_weekday.2.1 4 = .ok (.ifCond .eq 27, 3) := by decide +kernel
theorem d8_weekday_7 : decode M8_weekday.2.1 7 = .ok (.iload_n 2, 1) := by decide +kernel
theorem d8_weekday_8 : decode M8_weekday.2.1 8 = .ok (.i2l, 1) := by decide +kernel
theorem d8_weekday_9 : decode M8_weekday.2.1 9 = .ok (.lconst 0, 1) := by decide +kernel
theorem d8_weekday_10 : decode M8_weekday.2.1 10 = .ok (.ldc2_w 84, 3) := by decide +kernel
theorem d8_weekday_13 : decode M8_weekday.2.1 13 = .ok (.invokestatic 74, 3) := by decide +kernel
theorem d8_weekday_16 : decode M8_weekday.2.1 16 = .ok (.ifCond .eq 15, 3) := by decide +kernel
theorem d8_weekday_19 : decode M8_weekday.2.1 19 = .ok (.iload_n 3, 1) := by decide +kernel
theorem d8_weekday_20 : decode M8_weekday.2.1 20 = .ok (.i2l, 1) := by decide +kernel
theorem d8_weekday_21 : decode M8_weekday.2.1 21 = .ok (.lconst 1, 1) := by decide +kernel
theorem d8_weekday_22 : decode M8_weekday.2.1 22 = .ok (.ldc2_w 86, 3) := by decide +kernel
theorem d8_weekday_25 : decode M8_weekday.2.1 25 = .ok (.invokestatic 74, 3) := by decide +kernel
theorem d8_weekday_28 : decode M8_weekday.2.1 28 = .ok (.ifCond .ne 5, 3) := by decide +kernel
theorem d8_weekday_31 : decode M8_weekday.2.1 31 = .ok (.iconst 0, 1) := by decide +kernel
theorem d8_weekday_32 : decode M8_weekday.2.1 32 = .ok (.ireturn, 1) := by decide +kernel
theorem d8_weekday_33 : decode M8_weekday.2.1 33 = .ok (.aload_n 0, 1) := by decide +kernel
theorem d8_weekday_34 : decode M8_weekday.2.1 34 = .ok (.getfield 17, 3) := by decide +kernel
theorem d8_weekday_37 : decode M8_weekday.2.1 37 = .ok (.bipush 7, 2) := by decide +kernel
theorem d8_weekday_39 : decode M8_weekday.2.1 39 = .ok (.iload_n 1, 1) := by decide +kernel
theorem d8_weekday_40 : decode M8_weekday.2.1 40 = .ok (.imul, 1) := by decide +kernel
theorem d8_weekday_41 : decode M8_weekday.2.1 41 = .ok (.iload_n 2, 1) := by decide +kernel
theorem d8_weekday_42 : decode M8_weekday.2.1 42 = .ok (.iadd, 1) := by decide +kernel
theorem d8_weekday_43 : decode M8_weekday.2.1 43 = .ok (.iload_n 3, 1) := by decide +kernel
theorem d8_weekday_44 : decode M8_weekday.2.1 44 = .ok (.iastore, 1) := by decide +kernel
theorem d8_weekday_45 : decode M8_weekday.2.1 45 = .ok (.iconst 1, 1) := by decide +kernel
theorem d8_weekday_46 : decode M8_weekday.2.1 46 = .ok (.ireturn, 1) := by decide +kernel
theorem d8_month_0 : decode M8_month.2.1 0 = .ok (.iload_n 1, 1) := by decide +kernel
theorem d8_month_1 : decode M8_month.2.1 1 = .ok (.invokestatic 80, 3) := by decide +kernel
theorem d8_month_4 : decode M8_month.2.1 4 = .ok (.ifCond .eq 27, 3) := by decide +kernel
theorem d8_month_7 : decode M8_month.2.1 7 = .ok (.iload_n 2, 1) := by decide +kernel
theorem d8_month_8 : decode M8_month.2.1 8 = .ok (.i2l, 1) := by decide +kernel
theorem d8_month_9 : decode M8_month.2.1 9 = .ok (.lconst 0, 1) := by decide +kernel
theorem d8_month_10 : decode M8_month.2.1 10 = .ok (.ldc2_w 88, 3) := by decide +kernel
theorem d8_month_13 : decode M8_month.2.1 13 = .ok (.invokestatic 74, 3) := by decide +kernel
theorem d8_month_16 : decode M8_month.2.1 16 = .ok (.ifCond .eq 15, 3) := by decide +kernel
theorem d8_month_19 : decode M8_month.2.1 19 = .ok (.iload_n 3, 1) := by decide +kernel
theorem d8_month_20 : decode M8_month.2.1 20 = .ok (.i2l, 1) := by decide +kernel
theorem d8_month_21 : decode M8_month.2.1 21 = .ok (.lconst 1, 1) := by decide +kernel
theorem d8_month_22 : decode M8_month.2.1 22 = .ok (.ldc2_w 86, 3) := by decide +kernel
theorem d8_month_25 : decode M8_month.2.1 25 = .ok (.invokestatic 74, 3) := by decide +kernel
theorem d8_month_28 : decode M8_month.2.1 28 = .ok (.ifCond .ne 5, 3) := by decide +kernel
theorem d8_month_31 : decode M8_month.2.1 31 = .ok (.iconst 0, 1) := by decide +kernel
theorem d8_month_32 : decode M8_month.2.1 32 = .ok (.ireturn, 1) := by decide +kernel
theorem d8_month_33 : decode M8_month.2.1 33 = .ok (.aload_n 0, 1) := by decide +kernel
theorem d8_month_34 : decode M8_month.2.1 34 = .ok (.getfield 21, 3) := by decide +kernel
theorem d8_month_37 : decode M8_month.2.1 37 = .ok (.bipush 13, 2) := by decide +kernel
theorem d8_month_39 : decode M8_month.2.1 39 = .ok (.iload_n 1, 1) := by decide +kernel
theorem d8_month_40 : decode M8_month.2.1 40 = .ok (.imul, 1) := by decide +kernel
theorem d8_month_41 : decode M8_month.2.1 41 = .ok (.iload_n 2, 1) := by decide +kernel
theorem d8_month_42 : decode M8_month.2.1 42 = .ok (.iadd, 1) := by decide +kernel
theorem d8_month_43 : decode M8_month.2.1 43 = .ok (.iload_n 3, 1) := by decide +kernel
theorem d8_month_44 : decode M8_month.2.1 44 = .ok (.iastore, 1) := by decide +kernel
theorem d8_month_45 : decode M8_month.2.1 45 = .ok (.iconst 1, 1) := by decide +kernel
theorem d8_month_46 : decode M8_month.2.1 46 = .ok (.ireturn, 1) := by decide +kernel
theorem d8_holiday_0 : decode M8_holiday.2.1 0 = .ok (.iload_n 1, 1) := by decide +kernel
theorem d8_holiday_1 : decode M8_holiday.2.1 1 = .ok (.i2l, 1) := by decide +kernel
theorem d8_holiday_2 : decode M8_holiday.2.1 2 = .ok (.lconst 0, 1) := by decide +kernel
theorem d8_holiday_3 : decode M8_holiday.2.1 3 = .ok (.ldc2_w 90, 3) := by decide +kernel
theorem d8_holiday_6 : decode M8_holiday.2.1 6 = .ok (.invokestatic 74, 3) := by decide +kernel
theorem d8_holiday_9 : decode M8_holiday.2.1 9 = .ok (.ifCond .eq 21, 3) := by decide +kernel
theorem d8_holiday_12 : decode M8_holiday.2.1 12 = .ok (.aload_n 0, 1) := by decide +kernel
theorem d8_holiday_13 : decode M8_holiday.2.1 13 = .ok (.getfield 13, 3) := by decide +kernel
theorem d8_holiday_16 : decode M8_holiday.2.1 16 = .ok (.iload_n 1, 1) := by decide +kernel
theorem d8_holiday_17 : decode M8_holiday.2.1 17 = .ok (.baload, 1) := by decide +kernel
theorem d8_holiday_18 : decode M8_holiday.2.1 18 = .ok (.ifCond .ne 12, 3) := by decide +kernel
theorem d8_holiday_21 : decode M8_holiday.2.1 21 = .ok (.aload_n 0, 1) := by decide +kernel
theorem d8_holiday_22 : decode M8_holiday.2.1 22 = .ok (.getfield 92, 3) := by decide +kernel
theorem d8_holiday_25 : decode M8_holiday.2.1 25 = .ok (.bipush 20, 2) := by decide +kernel
theorem d8_holiday_27 : decode M8_holiday.2.1 27 = .ok (.if_icmp .ne 5, 3) := by decide +kernel
theorem d8_holiday_30 : decode M8_holiday.2.1 30 = .ok (.iconst 0, 1) := by decide +kernel
theorem d8_holiday_31 : decode M8_holiday.2.1 31 = .ok (.ireturn, 1) := by decide +kernel
theorem d8_holiday_32 : decode M8_holiday.2.1 32 = .ok (.aload_n 0, 1) := by decide +kernel
theorem d8_holiday_33 : decode M8_holiday.2.1 33 = .ok (.getfield 13, 3) := by decide +kernel
theorem d8_holiday_36 : decode M8_holiday.2.1 36 = .ok (.iload_n 1, 1) := by decide +kernel
theorem d8_holiday_37 : decode M8_holiday.2.1 37 = .ok (.iconst 1, 1) := by decide +kernel
theorem d8_holiday_38 : decode M8_holiday.2.1 38 = .ok (.bastore, 1) := by decide +kernel
theorem d8_holiday_39 : decode M8_holiday.2.1 39 = .ok (.aload_n 0, 1) := by decide +kernel
theorem d8_holiday_40 : decode M8_holiday.2.1 40 = .ok (.dup, 1) := by decide +kernel
theorem d8_holiday_41 : decode M8_holiday.2.1 41 = .ok (.getfield 92, 3) := by decide +kernel
theorem d8_holiday_44 : decode M8_holiday.2.1 44 = .ok (.iconst 1, 1) := by decide +kernel
theorem d8_holiday_45 : decode M8_holiday.2.1 45 = .ok (.iadd, 1) := by decide +kernel
theorem d8_holiday_46 : decode M8_holiday.2.1 46 = .ok (.putfield 92, 3) := by decide +kernel
theorem d8_holiday_49 : decode M8_holiday.2.1 49 = .ok (.iconst 1, 1) := by decide +kernel
theorem d8_holiday_50 : decode M8_holiday.2.1 50 = .ok (.ireturn, 1) := by decide +kernel
theorem d8_share_0 : decode M8_share.2.1 0 = .ok (.aload_n 0, 1) := by decide +kernel
theorem d8_share_1 : decode M8_share.2.1 1 = .ok (.getfield 17, 3) := by decide +kernel
theorem d8_share_4 : decode M8_share.2.1 4 = .ok (.bipush 7, 2) := by decide +kernel
theorem d8_share_6 : decode M8_share.2.1 6 = .ok (.iload_n 1, 1) := by decide +kernel
theorem d8_share_7 : decode M8_share.2.1 7 = .ok (.imul, 1) := by decide +kernel
theorem d8_share_8 : decode M8_share.2.1 8 = .ok (.aload_n 0, 1) := by decide +kernel
theorem d8_share_9 : decode M8_share.2.1 9 = .ok (.getfield 13, 3) := by decide +kernel
theorem d8_share_12 : decode M8_share.2.1 12 = .ok (.iload_n 2, 1) := by decide +kernel
theorem d8_share_13 : decode M8_share.2.1 13 = .ok (.baload, 1) := by decide +kernel
theorem d8_share_14 : decode M8_share.2.1 14 = .ok (.ifCond .eq 8, 3) := by decide +kernel
theorem d8_share_17 : decode M8_share.2.1 17 = .ok (.bipush 6, 2) := by decide +kernel
theorem d8_share_19 : decode M8_share.2.1 19 = .ok (.goto 7, 3) := by decide +kernel
theorem d8_share_22 : decode M8_share.2.1 22 = .ok (.iload_n 2, 1) := by decide +kernel
theorem d8_share_23 : decode M8_share.2.1 23 = .ok (.bipush 7, 2) := by decide +kernel
theorem d8_share_25 : decode M8_share.2.1 25 = .ok (.irem, 1) := by decide +kernel
theorem d8_share_26 : decode M8_share.2.1 26 = .ok (.iadd, 1) := by decide +kernel
theorem d8_share_27 : decode M8_share.2.1 27 = .ok (.iaload, 1) := by decide +kernel
theorem d8_share_28 : decode M8_share.2.1 28 = .ok (.i2l, 1) := by decide +kernel
theorem d8_share_29 : decode M8_share.2.1 29 = .ok (.aload_n 0, 1) := by decide +kernel
theorem d8_share_30 : decode M8_share.2.1 30 = .ok (.getfield 21, 3) := by decide +kernel
theorem d8_share_33 : decode M8_share.2.1 33 = .ok (.bipush 13, 2) := by decide +kernel
theorem d8_share_35 : decode M8_share.2.1 35 = .ok (.iload_n 1, 1) := by decide +kernel
theorem d8_share_36 : decode M8_share.2.1 36 = .ok (.imul, 1) := by decide +kernel
theorem d8_share_37 : decode M8_share.2.1 37 = .ok (.iload_n 2, 1) := by decide +kernel
theorem d8_share_38 : decode M8_share.2.1 38 = .ok (.bipush 28, 2) := by decide +kernel
theorem d8_share_40 : decode M8_share.2.1 40 = .ok (.idiv, 1) := by decide +kernel
theorem d8_share_41 : decode M8_share.2.1 41 = .ok (.iadd, 1) := by decide +kernel
theorem d8_share_42 : decode M8_share.2.1 42 = .ok (.iaload, 1) := by decide +kernel
theorem d8_share_43 : decode M8_share.2.1 43 = .ok (.i2l, 1) := by decide +kernel
theorem d8_share_44 : decode M8_share.2.1 44 = .ok (.lmul, 1) := by decide +kernel
theorem d8_share_45 : decode M8_share.2.1 45 = .ok (.lreturn, 1) := by decide +kernel
theorem d8_wholeOf_0 : decode M8_wholeOf.2.1 0 = .ok (.lconst 0, 1) := by decide +kernel
theorem d8_wholeOf_1 : decode M8_wholeOf.2.1 1 = .ok (.lstore_n 2, 1) := by decide +kernel
theorem d8_wholeOf_2 : decode M8_wholeOf.2.1 2 = .ok (.iconst 0, 1) := by decide +kernel
theorem d8_wholeOf_3 : decode M8_wholeOf.2.1 3 = .ok (.istore 4, 2) := by decide +kernel
theorem d8_wholeOf_5 : decode M8_wholeOf.2.1 5 = .ok (.iload 4, 2) := by decide +kernel
theorem d8_wholeOf_7 : decode M8_wholeOf.2.1 7 = .ok (.sipush 364, 3) := by decide +kernel
theorem d8_wholeOf_10 : decode M8_wholeOf.2.1 10 = .ok (.if_icmp .ge 19, 3) := by decide +kernel
theorem d8_wholeOf_13 : decode M8_wholeOf.2.1 13 = .ok (.lload_n 2, 1) := by decide +kernel
theorem d8_wholeOf_14 : decode M8_wholeOf.2.1 14 = .ok (.aload_n 0, 1) := by decide +kernel
theorem d8_wholeOf_15 : decode M8_wholeOf.2.1 15 = .ok (.iload_n 1, 1) := by decide +kernel
theorem d8_wholeOf_16 : decode M8_wholeOf.2.1 16 = .ok (.iload 4, 2) := by decide +kernel
theorem d8_wholeOf_18 : decode M8_wholeOf.2.1 18 = .ok (.invokevirtual 95, 3) := by decide +kernel
theorem d8_wholeOf_21 : decode M8_wholeOf.2.1 21 = .ok (.ladd, 1) := by decide +kernel
theorem d8_wholeOf_22 : decode M8_wholeOf.2.1 22 = .ok (.lstore_n 2, 1) := by decide +kernel
theorem d8_wholeOf_23 : decode M8_wholeOf.2.1 23 = .ok (.iinc 4 1, 3) := by decide +kernel
theorem d8_wholeOf_26 : decode M8_wholeOf.2.1 26 = .ok (.goto (-21), 3) := by decide +kernel
theorem d8_wholeOf_29 : decode M8_wholeOf.2.1 29 = .ok (.lload_n 2, 1) := by decide +kernel
theorem d8_wholeOf_30 : decode M8_wholeOf.2.1 30 = .ok (.lreturn, 1) := by decide +kernel
theorem d8_whole_0 : decode M8_whole.2.1 0 = .ok (.iload_n 1, 1) := by decide +kernel
theorem d8_whole_1 : decode M8_whole.2.1 1 = .ok (.invokestatic 80, 3) := by decide +kernel
theorem d8_whole_4 : decode M8_whole.2.1 4 = .ok (.ifCond .eq 11, 3) := by decide +kernel
theorem d8_whole_7 : decode M8_whole.2.1 7 = .ok (.aload_n 0, 1) := by decide +kernel
theorem d8_whole_8 : decode M8_whole.2.1 8 = .ok (.iload_n 1, 1) := by decide +kernel
theorem d8_whole_9 : decode M8_whole.2.1 9 = .ok (.invokevirtual 99, 3) := by decide +kernel
theorem d8_whole_12 : decode M8_whole.2.1 12 = .ok (.goto 6, 3) := by decide +kernel
theorem d8_whole_15 : decode M8_whole.2.1 15 = .ok (.ldc2_w 103, 3) := by decide +kernel
theorem d8_whole_18 : decode M8_whole.2.1 18 = .ok (.lreturn, 1) := by decide +kernel
theorem d8_isEnd_0 : decode M8_isEnd.2.1 0 = .ok (.iload_n 0, 1) := by decide +kernel
theorem d8_isEnd_1 : decode M8_isEnd.2.1 1 = .ok (.i2l, 1) := by decide +kernel
theorem d8_isEnd_2 : decode M8_isEnd.2.1 2 = .ok (.ldc2_w 103, 3) := by decide +kernel
theorem d8_isEnd_5 : decode M8_isEnd.2.1 5 = .ok (.ldc2_w 105, 3) := by decide +kernel
theorem d8_isEnd_8 : decode M8_isEnd.2.1 8 = .ok (.invokestatic 74, 3) := by decide +kernel
theorem d8_isEnd_11 : decode M8_isEnd.2.1 11 = .ok (.ireturn, 1) := by decide +kernel
theorem d8_road_0 : decode M8_road.2.1 0 = .ok (.iload_n 1, 1) := by decide +kernel
theorem d8_road_1 : decode M8_road.2.1 1 = .ok (.invokestatic 107, 3) := by decide +kernel
theorem d8_road_4 : decode M8_road.2.1 4 = .ok (.ifCond .eq 36, 3) := by decide +kernel
theorem d8_road_7 : decode M8_road.2.1 7 = .ok (.iload_n 2, 1) := by decide +kernel
theorem d8_road_8 : decode M8_road.2.1 8 = .ok (.invokestatic 107, 3) := by decide +kernel
theorem d8_road_11 : decode M8_road.2.1 11 = .ok (.ifCond .eq 29, 3) := by decide +kernel
theorem d8_road_14 : decode M8_road.2.1 14 = .ok (.iload_n 1, 1) := by decide +kernel
theorem d8_road_15 : decode M8_road.2.1 15 = .ok (.iload_n 2, 1) := by decide +kernel
theorem d8_road_16 : decode M8_road.2.1 16 = .ok (.if_icmp .eq 24, 3) := by decide +kernel
theorem d8_road_19 : decode M8_road.2.1 19 = .ok (.iload_n 3, 1) := by decide +kernel
theorem d8_road_20 : decode M8_road.2.1 20 = .ok (.i2l, 1) := by decide +kernel
theorem d8_road_21 : decode M8_road.2.1 21 = .ok (.lconst 0, 1) := by decide +kernel
theorem d8_road_22 : decode M8_road.2.1 22 = .ok (.ldc2_w 110, 3) := by decide +kernel
theorem d8_road_25 : decode M8_road.2.1 25 = .ok (.invokestatic 74, 3) := by decide +kernel
theorem d8_road_28 : decode M8_road.2.1 28 = .ok (.ifCond .eq 12, 3) := by decide +kernel
theorem d8_road_31 : decode M8_road.2.1 31 = .ok (.aload_n 0, 1) := by decide +kernel
theorem d8_road_32 : decode M8_road.2.1 32 = .ok (.getfield 70, 3) := by decide +kernel
theorem d8_road_35 : decode M8_road.2.1 35 = .ok (.bipush 12, 2) := by decide +kernel
theorem d8_road_37 : decode M8_road.2.1 37 = .ok (.if_icmp .ne 5, 3) := by decide +kernel
theorem d8_road_40 : decode M8_road.2.1 40 = .ok (.iconst (-1), 1) := by decide +kernel
theorem d8_road_41 : decode M8_road.2.1 41 = .ok (.ireturn, 1) := by decide +kernel
theorem d8_road_42 : decode M8_road.2.1 42 = .ok (.aload_n 0, 1) := by decide +kernel
theorem d8_road_43 : decode M8_road.2.1 43 = .ok (.getfield 24, 3) := by decide +kernel
theorem d8_road_46 : decode M8_road.2.1 46 = .ok (.aload_n 0, 1) := by decide +kernel
theorem d8_road_47 : decode M8_road.2.1 47 = .ok (.getfield 70, 3) := by decide +kernel
theorem d8_road_50 : decode M8_road.2.1 50 = .ok (.iload_n 1, 1) := by decide +kernel
theorem d8_road_51 : decode M8_road.2.1 51 = .ok (.iastore, 1) := by decide +kernel
theorem d8_road_52 : decode M8_road.2.1 52 = .ok (.aload_n 0, 1) := by decide +kernel
theorem d8_road_53 : decode M8_road.2.1 53 = .ok (.getfield 27, 3) := by decide +kernel
theorem d8_road_56 : decode M8_road.2.1 56 = .ok (.aload_n 0, 1) := by decide +kernel
theorem d8_road_57 : decode M8_road.2.1 57 = .ok (.getfield 70, 3) := by decide +kernel
theorem d8_road_60 : decode M8_road.2.1 60 = .ok (.iload_n 2, 1) := by decide +kernel
theorem d8_road_61 : decode M8_road.2.1 61 = .ok (.iastore, 1) := by decide +kernel
theorem d8_road_62 : decode M8_road.2.1 62 = .ok (.aload_n 0, 1) := by decide +kernel
theorem d8_road_63 : decode M8_road.2.1 63 = .ok (.getfield 30, 3) := by decide +kernel
theorem d8_road_66 : decode M8_road.2.1 66 = .ok (.aload_n 0, 1) := by decide +kernel
theorem d8_road_67 : decode M8_road.2.1 67 = .ok (.getfield 70, 3) := by decide +kernel
theorem d8_road_70 : decode M8_road.2.1 70 = .ok (.iload_n 3, 1) := by decide +kernel
theorem d8_road_71 : decode M8_road.2.1 71 = .ok (.iastore, 1) := by decide +kernel
theorem d8_road_72 : decode M8_road.2.1 72 = .ok (.aload_n 0, 1) := by decide +kernel
theorem d8_road_73 : decode M8_road.2.1 73 = .ok (.dup, 1) := by decide +kernel
theorem d8_road_74 : decode M8_road.2.1 74 = .ok (.getfield 70, 3) := by decide +kernel
theorem d8_road_77 : decode M8_road.2.1 77 = .ok (.iconst 1, 1) := by decide +kernel
theorem d8_road_78 : decode M8_road.2.1 78 = .ok (.iadd, 1) := by decide +kernel
theorem d8_road_79 : decode M8_road.2.1 79 = .ok (.putfield 70, 3) := by decide +kernel
theorem d8_road_82 : decode M8_road.2.1 82 = .ok (.aload_n 0, 1) := by decide +kernel
theorem d8_road_83 : decode M8_road.2.1 83 = .ok (.getfield 70, 3) := by decide +kernel
theorem d8_road_86 : decode M8_road.2.1 86 = .ok (.iconst 1, 1) := by decide +kernel
theorem d8_road_87 : decode M8_road.2.1 87 = .ok (.isub, 1) := by decide +kernel
theorem d8_road_88 : decode M8_road.2.1 88 = .ok (.ireturn, 1) := by decide +kernel
theorem d8_shape_0 : decode M8_shape.2.1 0 = .ok (.aload_n 0, 1) := by decide +kernel
theorem d8_shape_1 : decode M8_shape.2.1 1 = .ok (.iload_n 1, 1) := by decide +kernel
theorem d8_shape_2 : decode M8_shape.2.1 2 = .ok (.invokevirtual 112, 3) := by decide +kernel
theorem d8_shape_5 : decode M8_shape.2.1 5 = .ok (.ifCond .eq 10, 3) := by decide +kernel
theorem d8_shape_8 : decode M8_shape.2.1 8 = .ok (.iload_n 2, 1) := by decide +kernel
theorem d8_shape_9 : decode M8_shape.2.1 9 = .ok (.invokestatic 80, 3) := by decide +kernel
theorem d8_shape_12 : decode M8_shape.2.1 12 = .ok (.ifCond .ne 5, 3) := by decide +kernel
theorem d8_shape_15 : decode M8_shape.2.1 15 = .ok (.iconst 0, 1) := by decide +kernel
theorem d8_shape_16 : decode M8_shape.2.1 16 = .ok (.ireturn, 1) := by decide +kernel
theorem d8_shape_17 : decode M8_shape.2.1 17 = .ok (.aload_n 0, 1) := by decide +kernel
theorem d8_shape_18 : decode M8_shape.2.1 18 = .ok (.getfield 33, 3) := by decide +kernel
theorem d8_shape_21 : decode M8_shape.2.1 21 = .ok (.iload_n 1, 1) := by decide +kernel
theorem d8_shape_22 : decode M8_shape.2.1 22 = .ok (.iload_n 2, 1) := by decide +kernel
theorem d8_shape_23 : decode M8_shape.2.1 23 = .ok (.iastore, 1) := by decide +kernel
theorem d8_shape_24 : decode M8_shape.2.1 24 = .ok (.iconst 1, 1) := by decide +kernel
theorem d8_shape_25 : decode M8_shape.2.1 25 = .ok (.ireturn, 1) := by decide +kernel
theorem d8_count_0 : decode M8_count.2.1 0 = .ok (.aload_n 0, 1) := by decide +kernel
theorem d8_count_1 : decode M8_count.2.1 1 = .ok (.iload_n 1, 1) := by decide +kernel
theorem d8_count_2 : decode M8_count.2.1 2 = .ok (.invokevirtual 112, 3) := by decide +kernel
theorem d8_count_5 : decode M8_count.2.1 5 = .ok (.ifCond .eq 27, 3) := by decide +kernel
theorem d8_count_8 : decode M8_count.2.1 8 = .ok (.iload_n 2, 1) := by decide +kernel
theorem d8_count_9 : decode M8_count.2.1 9 = .ok (.i2l, 1) := by decide +kernel
theorem d8_count_10 : decode M8_count.2.1 10 = .ok (.lconst 0, 1) := by decide +kernel
theorem d8_count_11 : decode M8_count.2.1 11 = .ok (.ldc2_w 90, 3) := by decide +kernel
theorem d8_count_14 : decode M8_count.2.1 14 = .ok (.invokestatic 74, 3) := by decide +kernel
theorem d8_count_17 : decode M8_count.2.1 17 = .ok (.ifCond .eq 15, 3) := by decide +kernel
theorem d8_count_20 : decode M8_count.2.1 20 = .ok (.iload_n 3, 1) := by decide +kernel
theorem d8_count_21 : decode M8_count.2.1 21 = .ok (.i2l, 1) := by decide +kernel
theorem d8_count_22 : decode M8_count.2.1 22 = .ok (.lconst 0, 1) := by decide +kernel
theorem d8_count_23 : decode M8_count.2.1 23 = .ok (.ldc2_w 115, 3) := by decide +kernel
theorem d8_count_26 : decode M8_count.2.1 26 = .ok (.invokestatic 74, 3) := by decide +kernel
theorem d8_count_29 : decode M8_count.2.1 29 = .ok (.ifCond .ne 5, 3) := by decide +kernel
theorem d8_count_32 : decode M8_count.2.1 32 = .ok (.iconst 0, 1) := by decide +kernel
theorem d8_count_33 : decode M8_count.2.1 33 = .ok (.ireturn, 1) := by decide +kernel
theorem d8_count_34 : decode M8_count.2.1 34 = .ok (.aload_n 0, 1) := by decide +kernel
theorem d8_count_35 : decode M8_count.2.1 35 = .ok (.getfield 36, 3) := by decide +kernel
theorem d8_count_38 : decode M8_count.2.1 38 = .ok (.sipush 364, 3) := by decide +kernel
theorem d8_count_41 : decode M8_count.2.1 41 = .ok (.iload_n 1, 1) := by decide +kernel
theorem d8_count_42 : decode M8_count.2.1 42 = .ok (.imul, 1) := by decide +kernel
theorem d8_count_43 : decode M8_count.2.1 43 = .ok (.iload_n 2, 1) := by decide +kernel
theorem d8_count_44 : decode M8_count.2.1 44 = .ok (.iadd, 1) := by decide +kernel
theorem d8_count_45 : decode M8_count.2.1 45 = .ok (.iaload, 1) := by decide +kernel
theorem d8_count_46 : decode M8_count.2.1 46 = .ok (.iconst (-1), 1) := by decide +kernel
theorem d8_count_47 : decode M8_count.2.1 47 = .ok (.if_icmp .ne 26, 3) := by decide +kernel
theorem d8_count_50 : decode M8_count.2.1 50 = .ok (.aload_n 0, 1) := by decide +kernel
theorem d8_count_51 : decode M8_count.2.1 51 = .ok (.getfield 39, 3) := by decide +kernel
theorem d8_count_54 : decode M8_count.2.1 54 = .ok (.iload_n 1, 1) := by decide +kernel
theorem d8_count_55 : decode M8_count.2.1 55 = .ok (.iaload, 1) := by decide +kernel
theorem d8_count_56 : decode M8_count.2.1 56 = .ok (.bipush 14, 2) := by decide +kernel
theorem d8_count_58 : decode M8_count.2.1 58 = .ok (.if_icmp .ne 5, 3) := by decide +kernel
theorem d8_count_61 : decode M8_count.2.1 61 = .ok (.iconst 0, 1) := by decide +kernel
theorem d8_count_62 : decode M8_count.2.1 62 = .ok (.ireturn, 1) := by decide +kernel
theorem d8_count_63 : decode M8_count.2.1 63 = .ok (.aload_n 0, 1) := by decide +kernel
theorem d8_count_64 : decode M8_count.2.1 64 = .ok (.getfield 39, 3) := by decide +kernel
theorem d8_count_67 : decode M8_count.2.1 67 = .ok (.iload_n 1, 1) := by decide +kernel
theorem d8_count_68 : decode M8_count.2.1 68 = .ok (.dup2, 1) := by decide +kernel
theorem d8_count_69 : decode M8_count.2.1 69 = .ok (.iaload, 1) := by decide +kernel
theorem d8_count_70 : decode M8_count.2.1 70 = .ok (.iconst 1, 1) := by decide +kernel
theorem d8_count_71 : decode M8_count.2.1 71 = .ok (.iadd, 1) := by decide +kernel
theorem d8_count_72 : decode M8_count.2.1 72 = .ok (.iastore, 1) := by decide +kernel
theorem d8_count_73 : decode M8_count.2.1 73 = .ok (.aload_n 0, 1) := by decide +kernel
theorem d8_count_74 : decode M8_count.2.1 74 = .ok (.getfield 36, 3) := by decide +kernel
theorem d8_count_77 : decode M8_count.2.1 77 = .ok (.sipush 364, 3) := by decide +kernel
theorem d8_count_80 : decode M8_count.2.1 80 = .ok (.iload_n 1, 1) := by decide +kernel
theorem d8_count_81 : decode M8_count.2.1 81 = .ok (.imul, 1) := by decide +kernel
theorem d8_count_82 : decode M8_count.2.1 82 = .ok (.iload_n 2, 1) := by decide +kernel
theorem d8_count_83 : decode M8_count.2.1 83 = .ok (.iadd, 1) := by decide +kernel
theorem d8_count_84 : decode M8_count.2.1 84 = .ok (.iload_n 3, 1) := by decide +kernel
theorem d8_count_85 : decode M8_count.2.1 85 = .ok (.iastore, 1) := by decide +kernel
theorem d8_count_86 : decode M8_count.2.1 86 = .ok (.iconst 1, 1) := by decide +kernel
theorem d8_count_87 : decode M8_count.2.1 87 = .ok (.ireturn, 1) := by decide +kernel
theorem d8_isUsed_0 : decode M8_isUsed.2.1 0 = .ok (.aload_n 0, 1) := by decide +kernel
theorem d8_isUsed_1 : decode M8_isUsed.2.1 1 = .ok (.getfield 36, 3) := by decide +kernel
theorem d8_isUsed_4 : decode M8_isUsed.2.1 4 = .ok (.sipush 364, 3) := by decide +kernel
theorem d8_isUsed_7 : decode M8_isUsed.2.1 7 = .ok (.iload_n 1, 1) := by decide +kernel
theorem d8_isUsed_8 : decode M8_isUsed.2.1 8 = .ok (.imul, 1) := by decide +kernel
theorem d8_isUsed_9 : decode M8_isUsed.2.1 9 = .ok (.iload_n 2, 1) := by decide +kernel
theorem d8_isUsed_10 : decode M8_isUsed.2.1 10 = .ok (.iadd, 1) := by decide +kernel
theorem d8_isUsed_11 : decode M8_isUsed.2.1 11 = .ok (.iaload, 1) := by decide +kernel
theorem d8_isUsed_12 : decode M8_isUsed.2.1 12 = .ok (.iconst (-1), 1) := by decide +kernel
theorem d8_isUsed_13 : decode M8_isUsed.2.1 13 = .ok (.if_icmp .eq 16, 3) := by decide +kernel
theorem d8_isUsed_16 : decode M8_isUsed.2.1 16 = .ok (.aload_n 0, 1) := by decide +kernel
theorem d8_isUsed_17 : decode M8_isUsed.2.1 17 = .ok (.getfield 13, 3) := by decide +kernel
theorem d8_isUsed_20 : decode M8_isUsed.2.1 20 = .ok (.iload_n 2, 1) := by decide +kernel
theorem d8_isUsed_21 : decode M8_isUsed.2.1 21 = .ok (.baload, 1) := by decide +kernel
theorem d8_isUsed_22 : decode M8_isUsed.2.1 22 = .ok (.ifCond .ne 7, 3) := by decide +kernel
theorem d8_isUsed_25 : decode M8_isUsed.2.1 25 = .ok (.iconst 1, 1) := by decide +kernel
theorem d8_isUsed_26 : decode M8_isUsed.2.1 26 = .ok (.goto 4, 3) := by decide +kernel
theorem d8_isUsed_29 : decode M8_isUsed.2.1 29 = .ok (.iconst 0, 1) := by decide +kernel
theorem d8_isUsed_30 : decode M8_isUsed.2.1 30 = .ok (.ireturn, 1) := by decide +kernel
theorem d8_usedOf_0 : decode M8_usedOf.2.1 0 = .ok (.iconst 0, 1) := by decide +kernel
theorem d8_usedOf_1 : decode M8_usedOf.2.1 1 = .ok (.istore_n 2, 1) := by decide +kernel
theorem d8_usedOf_2 : decode M8_usedOf.2.1 2 = .ok (.iconst 0, 1) := by decide +kernel
theorem d8_usedOf_3 : decode M8_usedOf.2.1 3 = .ok (.istore_n 3, 1) := by decide +kernel
theorem d8_usedOf_4 : decode M8_usedOf.2.1 4 = .ok (.iload_n 3, 1) := by decide +kernel
theorem d8_usedOf_5 : decode M8_usedOf.2.1 5 = .ok (.sipush 364, 3) := by decide +kernel
theorem d8_usedOf_8 : decode M8_usedOf.2.1 8 = .ok (.if_icmp .ge 26, 3) := by decide +kernel
theorem d8_usedOf_11 : decode M8_usedOf.2.1 11 = .ok (.iload_n 2, 1) := by decide +kernel
theorem d8_usedOf_12 : decode M8_usedOf.2.1 12 = .ok (.aload_n 0, 1) := by decide +kernel
theorem d8_usedOf_13 : decode M8_usedOf.2.1 13 = .ok (.iload_n 1, 1) := by decide +kernel
theorem d8_usedOf_14 : decode M8_usedOf.2.1 14 = .ok (.iload_n 3, 1) := by decide +kernel
theorem d8_usedOf_15 : decode M8_usedOf.2.1 15 = .ok (.invokevirtual 117, 3) := by decide +kernel
theorem d8_usedOf_18 : decode M8_usedOf.2.1 18 = .ok (.ifCond .eq 7, 3) := by decide +kernel
theorem d8_usedOf_21 : decode M8_usedOf.2.1 21 = .ok (.iconst 1, 1) := by decide +kernel
theorem d8_usedOf_22 : decode M8_usedOf.2.1 22 = .ok (.goto 4, 3) := by decide +kernel
theorem d8_usedOf_25 : decode M8_usedOf.2.1 25 = .ok (.iconst 0, 1) := by decide +kernel
theorem d8_usedOf_26 : decode M8_usedOf.2.1 26 = .ok (.iadd, 1) := by decide +kernel
theorem d8_usedOf_27 : decode M8_usedOf.2.1 27 = .ok (.istore_n 2, 1) := by decide +kernel
theorem d8_usedOf_28 : decode M8_usedOf.2.1 28 = .ok (.iinc 3 1, 3) := by decide +kernel
theorem d8_usedOf_31 : decode M8_usedOf.2.1 31 = .ok (.goto (-27), 3) := by decide +kernel
theorem d8_usedOf_34 : decode M8_usedOf.2.1 34 = .ok (.iload_n 2, 1) := by decide +kernel
theorem d8_usedOf_35 : decode M8_usedOf.2.1 35 = .ok (.ireturn, 1) := by decide +kernel
theorem d8_countsOf_0 : decode M8_countsOf.2.1 0 = .ok (.lconst 0, 1) := by decide +kernel
theorem d8_countsOf_1 : decode M8_countsOf.2.1 1 = .ok (.lstore_n 2, 1) := by decide +kernel
theorem d8_countsOf_2 : decode M8_countsOf.2.1 2 = .ok (.iconst 0, 1) := by decide +kernel
theorem d8_countsOf_3 : decode M8_countsOf.2.1 3 = .ok (.istore 4, 2) := by decide +kernel
theorem d8_countsOf_5 : decode M8_countsOf.2.1 5 = .ok (.iload 4, 2) := by decide +kernel
theorem d8_countsOf_7 : decode M8_countsOf.2.1 7 = .ok (.sipush 364, 3) := by decide +kernel
theorem d8_countsOf_10 : decode M8_countsOf.2.1 10 = .ok (.if_icmp .ge 40, 3) := by decide +kernel
theorem d8_countsOf_13 : decode M8_countsOf.2.1 13 = .ok (.lload_n 2, 1) := by decide +kernel
theorem d8_countsOf_14 : decode M8_countsOf.2.1 14 = .ok (.aload_n 0, 1) := by decide +kernel
theorem d8_countsOf_15 : decode M8_countsOf.2.1 15 = .ok (.iload_n 1, 1) := by decide +kernel
theorem d8_countsOf_16 : decode M8_countsOf.2.1 16 = .ok (.iload 4, 2) := by decide +kernel
theorem d8_countsOf_18 : decode M8_countsOf.2.1 18 = .ok (.invokevirtual 117, 3) := by decide +kernel
theorem d8_countsOf_21 : decode M8_countsOf.2.1 21 = .ok (.ifCond .eq 20, 3) := by decide +kernel
theorem d8_countsOf_24 : decode M8_countsOf.2.1 24 = .ok (.aload_n 0, 1) := by decide +kernel
theorem d8_countsOf_25 : decode M8_countsOf.2.1 25 = .ok (.getfield 36, 3) := by decide +kernel
theorem d8_countsOf_28 : decode M8_countsOf.2.1 28 = .ok (.sipush 364, 3) := by decide +kernel
theorem d8_countsOf_31 : decode M8_countsOf.2.1 31 = .ok (.iload_n 1, 1) := by decide +kernel
theorem d8_countsOf_32 : decode M8_countsOf.2.1 32 = .ok (.imul, 1) := by decide +kernel
theorem d8_countsOf_33 : decode M8_countsOf.2.1 33 = .ok (.iload 4, 2) := by decide +kernel
theorem d8_countsOf_35 : decode M8_countsOf.2.1 35 = .ok (.iadd, 1) := by decide +kernel
theorem d8_countsOf_36 : decode M8_countsOf.2.1 36 = .ok (.iaload, 1) := by decide +kernel
theorem d8_countsOf_37 : decode M8_countsOf.2.1 37 = .ok (.i2l, 1) := by decide +kernel
theorem d8_countsOf_38 : decode M8_countsOf.2.1 38 = .ok (.goto 4, 3) := by decide +kernel
theorem d8_countsOf_41 : decode M8_countsOf.2.1 41 = .ok (.lconst 0, 1) := by decide +kernel
theorem d8_countsOf_42 : decode M8_countsOf.2.1 42 = .ok (.ladd, 1) := by decide +kernel
theorem d8_countsOf_43 : decode M8_countsOf.2.1 43 = .ok (.lstore_n 2, 1) := by decide +kernel
theorem d8_countsOf_44 : decode M8_countsOf.2.1 44 = .ok (.iinc 4 1, 3) := by decide +kernel
theorem d8_countsOf_47 : decode M8_countsOf.2.1 47 = .ok (.goto (-42), 3) := by decide +kernel
theorem d8_countsOf_50 : decode M8_countsOf.2.1 50 = .ok (.lload_n 2, 1) := by decide +kernel
theorem d8_countsOf_51 : decode M8_countsOf.2.1 51 = .ok (.lreturn, 1) := by decide +kernel
theorem d8_sharesOf_0 : decode M8_sharesOf.2.1 0 = .ok (.lconst 0, 1) := by decide +kernel
theorem d8_sharesOf_1 : decode M8_sharesOf.2.1 1 = .ok (.lstore_n 3, 1) := by decide +kernel
theorem d8_sharesOf_2 : decode M8_sharesOf.2.1 2 = .ok (.iconst 0, 1) := by decide +kernel
theorem d8_sharesOf_3 : decode M8_sharesOf.2.1 3 = .ok (.istore 5, 2) := by decide +kernel
theorem d8_sharesOf_5 : decode M8_sharesOf.2.1 5 = .ok (.iload 5, 2) := by decide +kernel
theorem d8_sharesOf_7 : decode M8_sharesOf.2.1 7 = .ok (.sipush 364, 3) := by decide +kernel
theorem d8_sharesOf_10 : decode M8_sharesOf.2.1 10 = .ok (.if_icmp .ge 33, 3) := by decide +kernel
theorem d8_sharesOf_13 : decode M8_sharesOf.2.1 13 = .ok (.lload_n 3, 1) := by decide +kernel
theorem d8_sharesOf_14 : decode M8_sharesOf.2.1 14 = .ok (.aload_n 0, 1) := by decide +kernel
theorem d8_sharesOf_15 : decode M8_sharesOf.2.1 15 = .ok (.iload_n 1, 1) := by decide +kernel
theorem d8_sharesOf_16 : decode M8_sharesOf.2.1 16 = .ok (.iload 5, 2) := by decide +kernel
theorem d8_sharesOf_18 : decode M8_sharesOf.2.1 18 = .ok (.invokevirtual 117, 3) := by decide +kernel
theorem d8_sharesOf_21 : decode M8_sharesOf.2.1 21 = .ok (.ifCond .eq 13, 3) := by decide +kernel
theorem d8_sharesOf_24 : decode M8_sharesOf.2.1 24 = .ok (.aload_n 0, 1) := by decide +kernel
theorem d8_sharesOf_25 : decode M8_sharesOf.2.1 25 = .ok (.iload_n 2, 1) := by decide +kernel
theorem d8_sharesOf_26 : decode M8_sharesOf.2.1 26 = .ok (.iload 5, 2) := by decide +kernel
theorem d8_sharesOf_28 : decode M8_sharesOf.2.1 28 = .ok (.invokevirtual 95, 3) := by decide +kernel
theorem d8_sharesOf_31 : decode M8_sharesOf.2.1 31 = .ok (.goto 4, 3) := by decide +kernel
theorem d8_sharesOf_34 : decode M8_sharesOf.2.1 34 = .ok (.lconst 0, 1) := by decide +kernel
theorem d8_sharesOf_35 : decode M8_sharesOf.2.1 35 = .ok (.ladd, 1) := by decide +kernel
theorem d8_sharesOf_36 : decode M8_sharesOf.2.1 36 = .ok (.lstore_n 3, 1) := by decide +kernel
theorem d8_sharesOf_37 : decode M8_sharesOf.2.1 37 = .ok (.iinc 5 1, 3) := by decide +kernel
theorem d8_sharesOf_40 : decode M8_sharesOf.2.1 40 = .ok (.goto (-35), 3) := by decide +kernel
theorem d8_sharesOf_43 : decode M8_sharesOf.2.1 43 = .ok (.lload_n 3, 1) := by decide +kernel
theorem d8_sharesOf_44 : decode M8_sharesOf.2.1 44 = .ok (.lreturn, 1) := by decide +kernel
theorem d8_yearOf_0 : decode M8_yearOf.2.1 0 = .ok (.aload_n 0, 1) := by decide +kernel
theorem d8_yearOf_1 : decode M8_yearOf.2.1 1 = .ok (.iload_n 1, 1) := by decide +kernel
theorem d8_yearOf_2 : decode M8_yearOf.2.1 2 = .ok (.invokevirtual 121, 3) := by decide +kernel
theorem d8_yearOf_5 : decode M8_yearOf.2.1 5 = .ok (.aload_n 0, 1) := by decide +kernel
theorem d8_yearOf_6 : decode M8_yearOf.2.1 6 = .ok (.aload_n 0, 1) := by decide +kernel
theorem d8_yearOf_7 : decode M8_yearOf.2.1 7 = .ok (.getfield 33, 3) := by decide +kernel
theorem d8_yearOf_10 : decode M8_yearOf.2.1 10 = .ok (.iload_n 1, 1) := by decide +kernel
theorem d8_yearOf_11 : decode M8_yearOf.2.1 11 = .ok (.iaload, 1) := by decide +kernel
theorem d8_yearOf_12 : decode M8_yearOf.2.1 12 = .ok (.invokevirtual 99, 3) := by decide +kernel
theorem d8_yearOf_15 : decode M8_yearOf.2.1 15 = .ok (.lmul, 1) := by decide +kernel
theorem d8_yearOf_16 : decode M8_yearOf.2.1 16 = .ok (.aload_n 0, 1) := by decide +kernel
theorem d8_yearOf_17 : decode M8_yearOf.2.1 17 = .ok (.iload_n 1, 1) := by decide +kernel
theorem d8_yearOf_18 : decode M8_yearOf.2.1 18 = .ok (.aload_n 0, 1) := by decide +kernel
theorem d8_yearOf_19 : decode M8_yearOf.2.1 19 = .ok (.getfield 33, 3) := by decide +kernel
theorem d8_yearOf_22 : decode M8_yearOf.2.1 22 = .ok (.iload_n 1, 1) := by decide +kernel
theorem d8_yearOf_23 : decode M8_yearOf.2.1 23 = .ok (.iaload, 1) := by decide +kernel
theorem d8_yearOf_24 : decode M8_yearOf.2.1 24 = .ok (.invokevirtual 124, 3) := by decide +kernel
theorem d8_yearOf_27 : decode M8_yearOf.2.1 27 = .ok (.ldiv, 1) := by decide +kernel
theorem d8_yearOf_28 : decode M8_yearOf.2.1 28 = .ok (.lreturn, 1) := by decide +kernel
theorem d8_year_0 : decode M8_year.2.1 0 = .ok (.aload_n 0, 1) := by decide +kernel
theorem d8_year_1 : decode M8_year.2.1 1 = .ok (.iload_n 1, 1) := by decide +kernel
theorem d8_year_2 : decode M8_year.2.1 2 = .ok (.invokevirtual 112, 3) := by decide +kernel
theorem d8_year_5 : decode M8_year.2.1 5 = .ok (.ifCond .eq 19, 3) := by decide +kernel
theorem d8_year_8 : decode M8_year.2.1 8 = .ok (.aload_n 0, 1) := by decide +kernel
theorem d8_year_9 : decode M8_year.2.1 9 = .ok (.iload_n 1, 1) := by decide +kernel
theorem d8_year_10 : decode M8_year.2.1 10 = .ok (.invokevirtual 127, 3) := by decide +kernel
theorem d8_year_13 : decode M8_year.2.1 13 = .ok (.ifCond .le 11, 3) := by decide +kernel
theorem d8_year_16 : decode M8_year.2.1 16 = .ok (.aload_n 0, 1) := by decide +kernel
theorem d8_year_17 : decode M8_year.2.1 17 = .ok (.iload_n 1, 1) := by decide +kernel
theorem d8_year_18 : decode M8_year.2.1 18 = .ok (.invokevirtual 131, 3) := by decide +kernel
theorem d8_year_21 : decode M8_year.2.1 21 = .ok (.goto 6, 3) := by decide +kernel
theorem d8_year_24 : decode M8_year.2.1 24 = .ok (.ldc2_w 103, 3) := by decide +kernel
theorem d8_year_27 : decode M8_year.2.1 27 = .ok (.lreturn, 1) := by decide +kernel
theorem d8_span_0 : decode M8_span.2.1 0 = .ok (.aload_n 0, 1) := by decide +kernel
theorem d8_span_1 : decode M8_span.2.1 1 = .ok (.iload_n 1, 1) := by decide +kernel
theorem d8_span_2 : decode M8_span.2.1 2 = .ok (.invokevirtual 112, 3) := by decide +kernel
theorem d8_span_5 : decode M8_span.2.1 5 = .ok (.ifCond .eq 13, 3) := by decide +kernel
theorem d8_span_8 : decode M8_span.2.1 8 = .ok (.iload_n 2, 1) := by decide +kernel
theorem d8_span_9 : decode M8_span.2.1 9 = .ok (.i2l, 1) := by decide +kernel
theorem d8_span_10 : decode M8_span.2.1 10 = .ok (.lconst 0, 1) := by decide +kernel
theorem d8_span_11 : decode M8_span.2.1 11 = .ok (.lconst 1, 1) := by decide +kernel
theorem d8_span_12 : decode M8_span.2.1 12 = .ok (.invokestatic 74, 3) := by decide +kernel
theorem d8_span_15 : decode M8_span.2.1 15 = .ok (.ifCond .ne 7, 3) := by decide +kernel
theorem d8_span_18 : decode M8_span.2.1 18 = .ok (.ldc2_w 103, 3) := by decide +kernel
theorem d8_span_21 : decode M8_span.2.1 21 = .ok (.lreturn, 1) := by decide +kernel
theorem d8_span_22 : decode M8_span.2.1 22 = .ok (.ldc2_w 103, 3) := by decide +kernel
theorem d8_span_25 : decode M8_span.2.1 25 = .ok (.lstore_n 3, 1) := by decide +kernel
theorem d8_span_26 : decode M8_span.2.1 26 = .ok (.iconst 0, 1) := by decide +kernel
theorem d8_span_27 : decode M8_span.2.1 27 = .ok (.istore 5, 2) := by decide +kernel
theorem d8_span_29 : decode M8_span.2.1 29 = .ok (.iload 5, 2) := by decide +kernel
theorem d8_span_31 : decode M8_span.2.1 31 = .ok (.sipush 364, 3) := by decide +kernel
theorem d8_span_34 : decode M8_span.2.1 34 = .ok (.if_icmp .ge 98, 3) := by decide +kernel
theorem d8_span_37 : decode M8_span.2.1 37 = .ok (.aload_n 0, 1) := by decide +kernel
theorem d8_span_38 : decode M8_span.2.1 38 = .ok (.iload_n 1, 1) := by decide +kernel
theorem d8_span_39 : decode M8_span.2.1 39 = .ok (.iload 5, 2) := by decide +kernel
theorem d8_span_41 : decode M8_span.2.1 41 = .ok (.invokevirtual 117, 3) := by decide +kernel
theorem d8_span_44 : decode M8_span.2.1 44 = .ok (.ifCond .ne 6, 3) := by decide +kernel
theorem d8_span_47 : decode M8_span.2.1 47 = .ok (.goto 79, 3) := by decide +kernel
theorem d8_span_50 : decode M8_span.2.1 50 = .ok (.aload_n 0, 1) := by decide +kernel
theorem d8_span_51 : decode M8_span.2.1 51 = .ok (.getfield 36, 3) := by decide +kernel
theorem d8_span_54 : decode M8_span.2.1 54 = .ok (.sipush 364, 3) := by decide +kernel
theorem d8_span_57 : decode M8_span.2.1 57 = .ok (.iload_n 1, 1) := by decide +kernel
theorem d8_span_58 : decode M8_span.2.1 58 = .ok (.imul, 1) := by decide +kernel
theorem d8_span_59 : decode M8_span.2.1 59 = .ok (.iload 5, 2) := by decide +kernel
theorem d8_span_61 : decode M8_span.2.1 61 = .ok (.iadd, 1) := by decide +kernel
theorem d8_span_62 : decode M8_span.2.1 62 = .ok (.iaload, 1) := by decide +kernel
theorem d8_span_63 : decode M8_span.2.1 63 = .ok (.i2l, 1) := by decide +kernel
theorem d8_span_64 : decode M8_span.2.1 64 = .ok (.aload_n 0, 1) := by decide +kernel
theorem d8_span_65 : decode M8_span.2.1 65 = .ok (.aload_n 0, 1) := by decide +kernel
theorem d8_span_66 : decode M8_span.2.1 66 = .ok (.getfield 33, 3) := by decide +kernel
theorem d8_span_69 : decode M8_span.2.1 69 = .ok (.iload_n 1, 1) := by decide +kernel
theorem d8_span_70 : decode M8_span.2.1 70 = .ok (.iaload, 1) := by decide +kernel
theorem d8_span_71 : decode M8_span.2.1 71 = .ok (.invokevirtual 99, 3) := by decide +kernel
theorem d8_span_74 : decode M8_span.2.1 74 = .ok (.lmul, 1) := by decide +kernel
theorem d8_span_75 : decode M8_span.2.1 75 = .ok (.aload_n 0, 1) := by decide +kernel
theorem d8_span_76 : decode M8_span.2.1 76 = .ok (.aload_n 0, 1) := by decide +kernel
theorem d8_span_77 : decode M8_span.2.1 77 = .ok (.getfield 33, 3) := by decide +kernel
theorem d8_span_80 : decode M8_span.2.1 80 = .ok (.iload_n 1, 1) := by decide +kernel
theorem d8_span_81 : decode M8_span.2.1 81 = .ok (.iaload, 1) := by decide +kernel
theorem d8_span_82 : decode M8_span.2.1 82 = .ok (.iload 5, 2) := by decide +kernel
theorem d8_span_84 : decode M8_span.2.1 84 = .ok (.invokevirtual 95, 3) := by decide +kernel
theorem d8_span_87 : decode M8_span.2.1 87 = .ok (.ldiv, 1) := by decide +kernel
theorem d8_span_88 : decode M8_span.2.1 88 = .ok (.lstore 6, 2) := by decide +kernel
theorem d8_span_90 : decode M8_span.2.1 90 = .ok (.lload_n 3, 1) := by decide +kernel
theorem d8_span_91 : decode M8_span.2.1 91 = .ok (.ldc2_w 103, 3) := by decide +kernel
theorem d8_span_94 : decode M8_span.2.1 94 = .ok (.lcmp, 1) := by decide +kernel
theorem d8_span_95 : decode M8_span.2.1 95 = .ok (.ifCond .eq 24, 3) := by decide +kernel
theorem d8_span_98 : decode M8_span.2.1 98 = .ok (.iload_n 2, 1) := by decide +kernel
theorem d8_span_99 : decode M8_span.2.1 99 = .ok (.ifCond .ne 13, 3) := by decide +kernel
theorem d8_span_102 : decode M8_span.2.1 102 = .ok (.lload 6, 2) := by decide +kernel
theorem d8_span_104 : decode M8_span.2.1 104 = .ok (.lload_n 3, 1) := by decide +kernel
theorem d8_span_105 : decode M8_span.2.1 105 = .ok (.lcmp, 1) := by decide +kernel
theorem d8_span_106 : decode M8_span.2.1 106 = .ok (.ifCond .ge 18, 3) := by decide +kernel
theorem d8_span_109 : decode M8_span.2.1 109 = .ok (.goto 10, 3) := by decide +kernel
theorem d8_span_112 : decode M8_span.2.1 112 = .ok (.lload 6, 2) := by decide +kernel
theorem d8_span_114 : decode M8_span.2.1 114 = .ok (.lload_n 3, 1) := by decide +kernel
theorem d8_span_115 : decode M8_span.2.1 115 = .ok (.lcmp, 1) := by decide +kernel
theorem d8_span_116 : decode M8_span.2.1 116 = .ok (.ifCond .le 8, 3) := by decide +kernel
theorem d8_span_119 : decode M8_span.2.1 119 = .ok (.lload 6, 2) := by decide +kernel
theorem d8_span_121 : decode M8_span.2.1 121 = .ok (.goto 4, 3) := by decide +kernel
theorem d8_span_124 : decode M8_span.2.1 124 = .ok (.lload_n 3, 1) := by decide +kernel
theorem d8_span_125 : decode M8_span.2.1 125 = .ok (.lstore_n 3, 1) := by decide +kernel
theorem d8_span_126 : decode M8_span.2.1 126 = .ok (.iinc 5 1, 3) := by decide +kernel
theorem d8_span_129 : decode M8_span.2.1 129 = .ok (.goto (-100), 3) := by decide +kernel
theorem d8_span_132 : decode M8_span.2.1 132 = .ok (.lload_n 3, 1) := by decide +kernel
theorem d8_span_133 : decode M8_span.2.1 133 = .ok (.lreturn, 1) := by decide +kernel
theorem d8_misfit_0 : decode M8_misfit.2.1 0 = .ok (.aload_n 0, 1) := by decide +kernel
theorem d8_misfit_1 : decode M8_misfit.2.1 1 = .ok (.iload_n 1, 1) := by decide +kernel
theorem d8_misfit_2 : decode M8_misfit.2.1 2 = .ok (.iload_n 2, 1) := by decide +kernel
theorem d8_misfit_3 : decode M8_misfit.2.1 3 = .ok (.invokevirtual 124, 3) := by decide +kernel
theorem d8_misfit_6 : decode M8_misfit.2.1 6 = .ok (.lstore_n 3, 1) := by decide +kernel
theorem d8_misfit_7 : decode M8_misfit.2.1 7 = .ok (.aload_n 0, 1) := by decide +kernel
theorem d8_misfit_8 : decode M8_misfit.2.1 8 = .ok (.iload_n 1, 1) := by decide +kernel
theorem d8_misfit_9 : decode M8_misfit.2.1 9 = .ok (.invokevirtual 121, 3) := by decide +kernel
theorem d8_misfit_12 : decode M8_misfit.2.1 12 = .ok (.lstore 5, 2) := by decide +kernel
theorem d8_misfit_14 : decode M8_misfit.2.1 14 = .ok (.lconst 0, 1) := by decide +kernel
theorem d8_misfit_15 : decode M8_misfit.2.1 15 = .ok (.lstore 7, 2) := by decide +kernel
theorem d8_misfit_17 : decode M8_misfit.2.1 17 = .ok (.iconst 0, 1) := by decide +kernel
theorem d8_misfit_18 : decode M8_misfit.2.1 18 = .ok (.istore 9, 2) := by decide +kernel
theorem d8_misfit_20 : decode M8_misfit.2.1 20 = .ok (.iload 9, 2) := by decide +kernel
theorem d8_misfit_22 : decode M8_misfit.2.1 22 = .ok (.sipush 364, 3) := by decide +kernel
theorem d8_misfit_25 : decode M8_misfit.2.1 25 = .ok (.if_icmp .ge 58, 3) := by decide +kernel
theorem d8_misfit_28 : decode M8_misfit.2.1 28 = .ok (.lload 7, 2) := by decide +kernel
theorem d8_misfit_30 : decode M8_misfit.2.1 30 = .ok (.aload_n 0, 1) := by decide +kernel
theorem d8_misfit_31 : decode M8_misfit.2.1 31 = .ok (.iload_n 1, 1) := by decide +kernel
theorem d8_misfit_32 : decode M8_misfit.2.1 32 = .ok (.iload 9, 2) := by decide +kernel
theorem d8_misfit_34 : decode M8_misfit.2.1 34 = .ok (.invokevirtual 117, 3) := by decide +kernel
theorem d8_misfit_37 : decode M8_misfit.2.1 37 = .ok (.ifCond .eq 36, 3) := by decide +kernel
theorem d8_misfit_40 : decode M8_misfit.2.1 40 = .ok (.aload_n 0, 1) := by decide +kernel
theorem d8_misfit_41 : decode M8_misfit.2.1 41 = .ok (.getfield 36, 3) := by decide +kernel
theorem d8_misfit_44 : decode M8_misfit.2.1 44 = .ok (.sipush 364, 3) := by decide +kernel
theorem d8_misfit_47 : decode M8_misfit.2.1 47 = .ok (.iload_n 1, 1) := by decide +kernel
theorem d8_misfit_48 : decode M8_misfit.2.1 48 = .ok (.imul, 1) := by decide +kernel
theorem d8_misfit_49 : decode M8_misfit.2.1 49 = .ok (.iload 9, 2) := by decide +kernel
theorem d8_misfit_51 : decode M8_misfit.2.1 51 = .ok (.iadd, 1) := by decide +kernel
theorem d8_misfit_52 : decode M8_misfit.2.1 52 = .ok (.iaload, 1) := by decide +kernel
theorem d8_misfit_53 : decode M8_misfit.2.1 53 = .ok (.i2l, 1) := by decide +kernel
theorem d8_misfit_54 : decode M8_misfit.2.1 54 = .ok (.lload_n 3, 1) := by decide +kernel
theorem d8_misfit_55 : decode M8_misfit.2.1 55 = .ok (.lmul, 1) := by decide +kernel
theorem d8_misfit_56 : decode M8_misfit.2.1 56 = .ok (.aload_n 0, 1) := by decide +kernel
theorem d8_misfit_57 : decode M8_misfit.2.1 57 = .ok (.iload_n 2, 1) := by decide +kernel
theorem d8_misfit_58 : decode M8_misfit.2.1 58 = .ok (.iload 9, 2) := by decide +kernel
theorem d8_misfit_60 : decode M8_misfit.2.1 60 = .ok (.invokevirtual 95, 3) := by decide +kernel
theorem d8_misfit_63 : decode M8_misfit.2.1 63 = .ok (.lload 5, 2) := by decide +kernel
theorem d8_misfit_65 : decode M8_misfit.2.1 65 = .ok (.lmul, 1) := by decide +kernel
theorem d8_misfit_66 : decode M8_misfit.2.1 66 = .ok (.lsub, 1) := by decide +kernel
theorem d8_misfit_67 : decode M8_misfit.2.1 67 = .ok (.invokestatic 134, 3) := by decide +kernel
theorem d8_misfit_70 : decode M8_misfit.2.1 70 = .ok (.goto 4, 3) := by decide +kernel
theorem d8_misfit_73 : decode M8_misfit.2.1 73 = .ok (.lconst 0, 1) := by decide +kernel
theorem d8_misfit_74 : decode M8_misfit.2.1 74 = .ok (.ladd, 1) := by decide +kernel
theorem d8_misfit_75 : decode M8_misfit.2.1 75 = .ok (.lstore 7, 2) := by decide +kernel
theorem d8_misfit_77 : decode M8_misfit.2.1 77 = .ok (.iinc 9 1, 3) := by decide +kernel
theorem d8_misfit_80 : decode M8_misfit.2.1 80 = .ok (.goto (-60), 3) := by decide +kernel
theorem d8_misfit_83 : decode M8_misfit.2.1 83 = .ok (.lload 7, 2) := by decide +kernel
theorem d8_misfit_85 : decode M8_misfit.2.1 85 = .ok (.lreturn, 1) := by decide +kernel
theorem d8_best_0 : decode M8_best.2.1 0 = .ok (.aload_n 0, 1) := by decide +kernel
theorem d8_best_1 : decode M8_best.2.1 1 = .ok (.iload_n 1, 1) := by decide +kernel
theorem d8_best_2 : decode M8_best.2.1 2 = .ok (.invokevirtual 112, 3) := by decide +kernel
theorem d8_best_5 : decode M8_best.2.1 5 = .ok (.ifCond .eq 11, 3) := by decide +kernel
theorem d8_best_8 : decode M8_best.2.1 8 = .ok (.aload_n 0, 1) := by decide +kernel
theorem d8_best_9 : decode M8_best.2.1 9 = .ok (.iload_n 1, 1) := by decide +kernel
theorem d8_best_10 : decode M8_best.2.1 10 = .ok (.invokevirtual 127, 3) := by decide +kernel
theorem d8_best_13 : decode M8_best.2.1 13 = .ok (.ifCond .ne 5, 3) := by decide +kernel
theorem d8_best_16 : decode M8_best.2.1 16 = .ok (.iconst (-1), 1) := by decide +kernel
theorem d8_best_17 : decode M8_best.2.1 17 = .ok (.ireturn, 1) := by decide +kernel
theorem d8_best_18 : decode M8_best.2.1 18 = .ok (.iconst 0, 1) := by decide +kernel
theorem d8_best_19 : decode M8_best.2.1 19 = .ok (.istore_n 2, 1) := by decide +kernel
theorem d8_best_20 : decode M8_best.2.1 20 = .ok (.iconst 1, 1) := by decide +kernel
theorem d8_best_21 : decode M8_best.2.1 21 = .ok (.istore_n 3, 1) := by decide +kernel
theorem d8_best_22 : decode M8_best.2.1 22 = .ok (.iload_n 3, 1) := by decide +kernel
theorem d8_best_23 : decode M8_best.2.1 23 = .ok (.iconst 4, 1) := by decide +kernel
theorem d8_best_24 : decode M8_best.2.1 24 = .ok (.if_icmp .ge 41, 3) := by decide +kernel
theorem d8_best_27 : decode M8_best.2.1 27 = .ok (.aload_n 0, 1) := by decide +kernel
theorem d8_best_28 : decode M8_best.2.1 28 = .ok (.iload_n 1, 1) := by decide +kernel
theorem d8_best_29 : decode M8_best.2.1 29 = .ok (.iload_n 3, 1) := by decide +kernel
theorem d8_best_30 : decode M8_best.2.1 30 = .ok (.invokevirtual 138, 3) := by decide +kernel
theorem d8_best_33 : decode M8_best.2.1 33 = .ok (.aload_n 0, 1) := by decide +kernel
theorem d8_best_34 : decode M8_best.2.1 34 = .ok (.iload_n 1, 1) := by decide +kernel
theorem d8_best_35 : decode M8_best.2.1 35 = .ok (.iload_n 2, 1) := by decide +kernel
theorem d8_best_36 : decode M8_best.2.1 36 = .ok (.invokevirtual 124, 3) := by decide +kernel
theorem d8_best_39 : decode M8_best.2.1 39 = .ok (.lmul, 1) := by decide +kernel
theorem d8_best_40 : decode M8_best.2.1 40 = .ok (.aload_n 0, 1) := by decide +kernel
theorem d8_best_41 : decode M8_best.2.1 41 = .ok (.iload_n 1, 1) := by decide +kernel
theorem d8_best_42 : decode M8_best.2.1 42 = .ok (.iload_n 2, 1) := by decide +kernel
theorem d8_best_43 : decode M8_best.2.1 43 = .ok (.invokevirtual 138, 3) := by decide +kernel
theorem d8_best_46 : decode M8_best.2.1 46 = .ok (.aload_n 0, 1) := by decide +kernel
theorem d8_best_47 : decode M8_best.2.1 47 = .ok (.iload_n 1, 1) := by decide +kernel
theorem d8_best_48 : decode M8_best.2.1 48 = .ok (.iload_n 3, 1) := by decide +kernel
theorem d8_best_49 : decode M8_best.2.1 49 = .ok (.invokevirtual 124, 3) := by decide +kernel
theorem d8_best_52 : decode M8_best.2.1 52 = .ok (.lmul, 1) := by decide +kernel
theorem d8_best_53 : decode M8_best.2.1 53 = .ok (.lcmp, 1) := by decide +kernel
theorem d8_best_54 : decode M8_best.2.1 54 = .ok (.ifCond .ge 5, 3) := by decide +kernel
theorem d8_best_57 : decode M8_best.2.1 57 = .ok (.iload_n 3, 1) := by decide +kernel
theorem d8_best_58 : decode M8_best.2.1 58 = .ok (.istore_n 2, 1) := by decide +kernel
theorem d8_best_59 : decode M8_best.2.1 59 = .ok (.iinc 3 1, 3) := by decide +kernel
theorem d8_best_62 : decode M8_best.2.1 62 = .ok (.goto (-40), 3) := by decide +kernel
theorem d8_best_65 : decode M8_best.2.1 65 = .ok (.iload_n 2, 1) := by decide +kernel
theorem d8_best_66 : decode M8_best.2.1 66 = .ok (.ireturn, 1) := by decide +kernel
theorem d8_roadsAt_0 : decode M8_roadsAt.2.1 0 = .ok (.iconst 0, 1) := by decide +kernel
theorem d8_roadsAt_1 : decode M8_roadsAt.2.1 1 = .ok (.istore_n 2, 1) := by decide +kernel
theorem d8_roadsAt_2 : decode M8_roadsAt.2.1 2 = .ok (.iconst 0, 1) := by decide +kernel
theorem d8_roadsAt_3 : decode M8_roadsAt.2.1 3 = .ok (.istore_n 3, 1) := by decide +kernel
theorem d8_roadsAt_4 : decode M8_roadsAt.2.1 4 = .ok (.iload_n 3, 1) := by decide +kernel
theorem d8_roadsAt_5 : decode M8_roadsAt.2.1 5 = .ok (.aload_n 0, 1) := by decide +kernel
theorem d8_roadsAt_6 : decode M8_roadsAt.2.1 6 = .ok (.getfield 70, 3) := by decide +kernel
theorem d8_roadsAt_9 : decode M8_roadsAt.2.1 9 = .ok (.if_icmp .ge 39, 3) := by decide +kernel
theorem d8_roadsAt_12 : decode M8_roadsAt.2.1 12 = .ok (.iload_n 2, 1) := by decide +kernel
theorem d8_roadsAt_13 : decode M8_roadsAt.2.1 13 = .ok (.aload_n 0, 1) := by decide +kernel
theorem d8_roadsAt_14 : decode M8_roadsAt.2.1 14 = .ok (.getfield 24, 3) := by decide +kernel
theorem d8_roadsAt_17 : decode M8_roadsAt.2.1 17 = .ok (.iload_n 3, 1) := by decide +kernel
theorem d8_roadsAt_18 : decode M8_roadsAt.2.1 18 = .ok (.iaload, 1) := by decide +kernel
theorem d8_roadsAt_19 : decode M8_roadsAt.2.1 19 = .ok (.iload_n 1, 1) := by decide +kernel
theorem d8_roadsAt_20 : decode M8_roadsAt.2.1 20 = .ok (.if_icmp .eq 13, 3) := by decide +kernel
theorem d8_roadsAt_23 : decode M8_roadsAt.2.1 23 = .ok (.aload_n 0, 1) := by decide +kernel
theorem d8_roadsAt_24 : decode M8_roadsAt.2.1 24 = .ok (.getfield 27, 3) := by decide +kernel
theorem d8_roadsAt_27 : decode M8_roadsAt.2.1 27 = .ok (.iload_n 3, 1) := by decide +kernel
theorem d8_roadsAt_28 : decode M8_roadsAt.2.1 28 = .ok (.iaload, 1) := by decide +kernel
theorem d8_roadsAt_29 : decode M8_roadsAt.2.1 29 = .ok (.iload_n 1, 1) := by decide +kernel
theorem d8_roadsAt_30 : decode M8_roadsAt.2.1 30 = .ok (.if_icmp .ne 9, 3) := by decide +kernel
theorem d8_roadsAt_33 : decode M8_roadsAt.2.1 33 = .ok (.iconst 1, 1) := by decide +kernel
theorem d8_roadsAt_34 : decode M8_roadsAt.2.1 34 = .ok (.iload_n 3, 1) := by decide +kernel
theorem d8_roadsAt_35 : decode M8_roadsAt.2.1 35 = .ok (.ishl, 1) := by decide +kernel
theorem d8_roadsAt_36 : decode M8_roadsAt.2.1 36 = .ok (.goto 4, 3) := by decide +kernel
theorem d8_roadsAt_39 : decode M8_roadsAt.2.1 39 = .ok (.iconst 0, 1) := by decide +kernel
theorem d8_roadsAt_40 : decode M8_roadsAt.2.1 40 = .ok (.ior, 1) := by decide +kernel
theorem d8_roadsAt_41 : decode M8_roadsAt.2.1 41 = .ok (.istore_n 2, 1) := by decide +kernel
theorem d8_roadsAt_42 : decode M8_roadsAt.2.1 42 = .ok (.iinc 3 1, 3) := by decide +kernel
theorem d8_roadsAt_45 : decode M8_roadsAt.2.1 45 = .ok (.goto (-41), 3) := by decide +kernel
theorem d8_roadsAt_48 : decode M8_roadsAt.2.1 48 = .ok (.iload_n 2, 1) := by decide +kernel
theorem d8_roadsAt_49 : decode M8_roadsAt.2.1 49 = .ok (.ireturn, 1) := by decide +kernel
theorem d8_knownRoads_0 : decode M8_knownRoads.2.1 0 = .ok (.iconst 0, 1) := by decide +kernel
theorem d8_knownRoads_1 : decode M8_knownRoads.2.1 1 = .ok (.istore_n 1, 1) := by decide +kernel
theorem d8_knownRoads_2 : decode M8_knownRoads.2.1 2 = .ok (.iconst 0, 1) := by decide +kernel
theorem d8_knownRoads_3 : decode M8_knownRoads.2.1 3 = .ok (.istore_n 2, 1) := by decide +kernel
theorem d8_knownRoads_4 : decode M8_knownRoads.2.1 4 = .ok (.iload_n 2, 1) := by decide +kernel
theorem d8_knownRoads_5 : decode M8_knownRoads.2.1 5 = .ok (.aload_n 0, 1) := by decide +kernel
theorem d8_knownRoads_6 : decode M8_knownRoads.2.1 6 = .ok (.getfield 70, 3) := by decide +kernel
theorem d8_knownRoads_9 : decode M8_knownRoads.2.1 9 = .ok (.if_icmp .ge 27, 3) := by decide +kernel
theorem d8_knownRoads_12 : decode M8_knownRoads.2.1 12 = .ok (.iload_n 1, 1) := by decide +kernel
theorem d8_knownRoads_13 : decode M8_knownRoads.2.1 13 = .ok (.aload_n 0, 1) := by decide +kernel
theorem d8_knownRoads_14 : decode M8_knownRoads.2.1 14 = .ok (.iload_n 2, 1) := by decide +kernel
theorem d8_knownRoads_15 : decode M8_knownRoads.2.1 15 = .ok (.invokevirtual 127, 3) := by decide +kernel
theorem d8_knownRoads_18 : decode M8_knownRoads.2.1 18 = .ok (.ifCond .le 9, 3) := by decide +kernel
theorem d8_knownRoads_21 : decode M8_knownRoads.2.1 21 = .ok (.iconst 1, 1) := by decide +kernel
theorem d8_knownRoads_22 : decode M8_knownRoads.2.1 22 = .ok (.iload_n 2, 1) := by decide +kernel
theorem d8_knownRoads_23 : decode M8_knownRoads.2.1 23 = .ok (.ishl, 1) := by decide +kernel
theorem d8_knownRoads_24 : decode M8_knownRoads.2.1 24 = .ok (.goto 4, 3) := by decide +kernel
theorem d8_knownRoads_27 : decode M8_knownRoads.2.1 27 = .ok (.iconst 0, 1) := by decide +kernel
theorem d8_knownRoads_28 : decode M8_knownRoads.2.1 28 = .ok (.ior, 1) := by decide +kernel
theorem d8_knownRoads_29 : decode M8_knownRoads.2.1 29 = .ok (.istore_n 1, 1) := by decide +kernel
theorem d8_knownRoads_30 : decode M8_knownRoads.2.1 30 = .ok (.iinc 2 1, 3) := by decide +kernel
theorem d8_knownRoads_33 : decode M8_knownRoads.2.1 33 = .ok (.goto (-29), 3) := by decide +kernel
theorem d8_knownRoads_36 : decode M8_knownRoads.2.1 36 = .ok (.iload_n 1, 1) := by decide +kernel
theorem d8_knownRoads_37 : decode M8_knownRoads.2.1 37 = .ok (.ireturn, 1) := by decide +kernel
theorem d8_excess_0 : decode M8_excess.2.1 0 = .ok (.lconst 0, 1) := by decide +kernel
theorem d8_excess_1 : decode M8_excess.2.1 1 = .ok (.lstore_n 3, 1) := by decide +kernel
theorem d8_excess_2 : decode M8_excess.2.1 2 = .ok (.iconst 0, 1) := by decide +kernel
theorem d8_excess_3 : decode M8_excess.2.1 3 = .ok (.istore 5, 2) := by decide +kernel
theorem d8_excess_5 : decode M8_excess.2.1 5 = .ok (.iload 5, 2) := by decide +kernel
theorem d8_excess_7 : decode M8_excess.2.1 7 = .ok (.aload_n 0, 1) := by decide +kernel
theorem d8_excess_8 : decode M8_excess.2.1 8 = .ok (.getfield 70, 3) := by decide +kernel
theorem d8_excess_11 : decode M8_excess.2.1 11 = .ok (.if_icmp .ge 68, 3) := by decide +kernel
theorem d8_excess_14 : decode M8_excess.2.1 14 = .ok (.iload_n 2, 1) := by decide +kernel
theorem d8_excess_15 : decode M8_excess.2.1 15 = .ok (.iload 5, 2) := by decide +kernel
theorem d8_excess_17 : decode M8_excess.2.1 17 = .ok (.invokestatic 141, 3) := by decide +kernel
theorem d8_excess_20 : decode M8_excess.2.1 20 = .ok (.ifCond .ne 6, 3) := by decide +kernel
theorem d8_excess_23 : decode M8_excess.2.1 23 = .ok (.goto 50, 3) := by decide +kernel
theorem d8_excess_26 : decode M8_excess.2.1 26 = .ok (.lload_n 3, 1) := by decide +kernel
theorem d8_excess_27 : decode M8_excess.2.1 27 = .ok (.aload_n 0, 1) := by decide +kernel
theorem d8_excess_28 : decode M8_excess.2.1 28 = .ok (.getfield 27, 3) := by decide +kernel
theorem d8_excess_31 : decode M8_excess.2.1 31 = .ok (.iload 5, 2) := by decide +kernel
theorem d8_excess_33 : decode M8_excess.2.1 33 = .ok (.iaload, 1) := by decide +kernel
theorem d8_excess_34 : decode M8_excess.2.1 34 = .ok (.iload_n 1, 1) := by decide +kernel
theorem d8_excess_35 : decode M8_excess.2.1 35 = .ok (.if_icmp .ne 13, 3) := by decide +kernel
theorem d8_excess_38 : decode M8_excess.2.1 38 = .ok (.aload_n 0, 1) := by decide +kernel
theorem d8_excess_39 : decode M8_excess.2.1 39 = .ok (.getfield 63, 3) := by decide +kernel
theorem d8_excess_42 : decode M8_excess.2.1 42 = .ok (.iload 5, 2) := by decide +kernel
theorem d8_excess_44 : decode M8_excess.2.1 44 = .ok (.laload, 1) := by decide +kernel
theorem d8_excess_45 : decode M8_excess.2.1 45 = .ok (.goto 26, 3) := by decide +kernel
theorem d8_excess_48 : decode M8_excess.2.1 48 = .ok (.aload_n 0, 1) := by decide +kernel
theorem d8_excess_49 : decode M8_excess.2.1 49 = .ok (.getfield 24, 3) := by decide +kernel
theorem d8_excess_52 : decode M8_excess.2.1 52 = .ok (.iload 5, 2) := by decide +kernel
theorem d8_excess_54 : decode M8_excess.2.1 54 = .ok (.iaload, 1) := by decide +kernel
theorem d8_excess_55 : decode M8_excess.2.1 55 = .ok (.iload_n 1, 1) := by decide +kernel
theorem d8_excess_56 : decode M8_excess.2.1 56 = .ok (.if_icmp .ne 14, 3) := by decide +kernel
theorem d8_excess_59 : decode M8_excess.2.1 59 = .ok (.aload_n 0, 1) := by decide +kernel
theorem d8_excess_60 : decode M8_excess.2.1 60 = .ok (.getfield 63, 3) := by decide +kernel
theorem d8_excess_63 : decode M8_excess.2.1 63 = .ok (.iload 5, 2) := by decide +kernel
theorem d8_excess_65 : decode M8_excess.2.1 65 = .ok (.laload, 1) := by decide +kernel
theorem d8_excess_66 : decode M8_excess.2.1 66 = .ok (.lneg, 1) := by decide +kernel
theorem d8_excess_67 : decode M8_excess.2.1 67 = .ok (.goto 4, 3) := by decide +kernel
theorem d8_excess_70 : decode M8_excess.2.1 70 = .ok (.lconst 0, 1) := by decide +kernel
theorem d8_excess_71 : decode M8_excess.2.1 71 = .ok (.ladd, 1) := by decide +kernel
theorem d8_excess_72 : decode M8_excess.2.1 72 = .ok (.lstore_n 3, 1) := by decide +kernel
theorem d8_excess_73 : decode M8_excess.2.1 73 = .ok (.iinc 5 1, 3) := by decide +kernel
theorem d8_excess_76 : decode M8_excess.2.1 76 = .ok (.goto (-71), 3) := by decide +kernel
theorem d8_excess_79 : decode M8_excess.2.1 79 = .ok (.lload_n 3, 1) := by decide +kernel
theorem d8_excess_80 : decode M8_excess.2.1 80 = .ok (.lreturn, 1) := by decide +kernel
theorem d8_grows_0 : decode M8_grows.2.1 0 = .ok (.iload_n 1, 1) := by decide +kernel
theorem d8_grows_1 : decode M8_grows.2.1 1 = .ok (.istore_n 2, 1) := by decide +kernel
theorem d8_grows_2 : decode M8_grows.2.1 2 = .ok (.iconst (-1), 1) := by decide +kernel
theorem d8_grows_3 : decode M8_grows.2.1 3 = .ok (.istore_n 3, 1) := by decide +kernel
theorem d8_grows_4 : decode M8_grows.2.1 4 = .ok (.iload_n 3, 1) := by decide +kernel
theorem d8_grows_5 : decode M8_grows.2.1 5 = .ok (.iload_n 2, 1) := by decide +kernel
theorem d8_grows_6 : decode M8_grows.2.1 6 = .ok (.if_icmp .eq 109, 3) := by decide +kernel
theorem d8_grows_9 : decode M8_grows.2.1 9 = .ok (.iload_n 2, 1) := by decide +kernel
theorem d8_grows_10 : decode M8_grows.2.1 10 = .ok (.istore_n 3, 1) := by decide +kernel
theorem d8_grows_11 : decode M8_grows.2.1 11 = .ok (.iconst 0, 1) := by decide +kernel
theorem d8_grows_12 : decode M8_grows.2.1 12 = .ok (.istore 4, 2) := by decide +kernel
theorem d8_grows_14 : decode M8_grows.2.1 14 = .ok (.iload 4, 2) := by decide +kernel
theorem d8_grows_16 : decode M8_grows.2.1 16 = .ok (.bipush 8, 2) := by decide +kernel
theorem d8_grows_18 : decode M8_grows.2.1 18 = .ok (.if_icmp .ge 94, 3) := by decide +kernel
theorem d8_grows_21 : decode M8_grows.2.1 21 = .ok (.aload_n 0, 1) := by decide +kernel
theorem d8_grows_22 : decode M8_grows.2.1 22 = .ok (.iload 4, 2) := by decide +kernel
theorem d8_grows_24 : decode M8_grows.2.1 24 = .ok (.invokevirtual 144, 3) := by decide +kernel
theorem d8_grows_27 : decode M8_grows.2.1 27 = .ok (.iload_n 2, 1) := by decide +kernel
theorem d8_grows_28 : decode M8_grows.2.1 28 = .ok (.iconst (-1), 1) := by decide +kernel
theorem d8_grows_29 : decode M8_grows.2.1 29 = .ok (.ixor, 1) := by decide +kernel
theorem d8_grows_30 : decode M8_grows.2.1 30 = .ok (.iand, 1) := by decide +kernel
theorem d8_grows_31 : decode M8_grows.2.1 31 = .ok (.istore 5, 2) := by decide +kernel
theorem d8_grows_33 : decode M8_grows.2.1 33 = .ok (.iload 5, 2) := by decide +kernel
theorem d8_grows_35 : decode M8_grows.2.1 35 = .ok (.invokestatic 147, 3) := by decide +kernel
theorem d8_grows_38 : decode M8_grows.2.1 38 = .ok (.iconst 1, 1) := by decide +kernel
theorem d8_grows_39 : decode M8_grows.2.1 39 = .ok (.if_icmp .eq 6, 3) := by decide +kernel
theorem d8_grows_42 : decode M8_grows.2.1 42 = .ok (.goto 64, 3) := by decide +kernel
theorem d8_grows_45 : decode M8_grows.2.1 45 = .ok (.iconst 0, 1) := by decide +kernel
theorem d8_grows_46 : decode M8_grows.2.1 46 = .ok (.istore 6, 2) := by decide +kernel
theorem d8_grows_48 : decode M8_grows.2.1 48 = .ok (.iload 5, 2) := by decide +kernel
theorem d8_grows_50 : decode M8_grows.2.1 50 = .ok (.iload 6, 2) := by decide +kernel
theorem d8_grows_52 : decode M8_grows.2.1 52 = .ok (.invokestatic 141, 3) := by decide +kernel
theorem d8_grows_55 : decode M8_grows.2.1 55 = .ok (.ifCond .ne 9, 3) := by decide +kernel
theorem d8_grows_58 : decode M8_grows.2.1 58 = .ok (.iinc 6 1, 3) := by decide +kernel
theorem d8_grows_61 : decode M8_grows.2.1 61 = .ok (.goto (-13), 3) := by decide +kernel
theorem d8_grows_64 : decode M8_grows.2.1 64 = .ok (.aload_n 0, 1) := by decide +kernel
theorem d8_grows_65 : decode M8_grows.2.1 65 = .ok (.getfield 63, 3) := by decide +kernel
theorem d8_grows_68 : decode M8_grows.2.1 68 = .ok (.iload 6, 2) := by decide +kernel
theorem d8_grows_70 : decode M8_grows.2.1 70 = .ok (.aload_n 0, 1) := by decide +kernel
theorem d8_grows_71 : decode M8_grows.2.1 71 = .ok (.getfield 27, 3) := by decide +kernel
theorem d8_grows_74 : decode M8_grows.2.1 74 = .ok (.iload 6, 2) := by decide +kernel
theorem d8_grows_76 : decode M8_grows.2.1 76 = .ok (.iaload, 1) := by decide +kernel
theorem d8_grows_77 : decode M8_grows.2.1 77 = .ok (.iload 4, 2) := by decide +kernel
theorem d8_grows_79 : decode M8_grows.2.1 79 = .ok (.if_icmp .ne 14, 3) := by decide +kernel
theorem d8_grows_82 : decode M8_grows.2.1 82 = .ok (.aload_n 0, 1) := by decide +kernel
theorem d8_grows_83 : decode M8_grows.2.1 83 = .ok (.iload 4, 2) := by decide +kernel
theorem d8_grows_85 : decode M8_grows.2.1 85 = .ok (.iload_n 2, 1) := by decide +kernel
theorem d8_grows_86 : decode M8_grows.2.1 86 = .ok (.invokevirtual 150, 3) := by decide +kernel
theorem d8_grows_89 : decode M8_grows.2.1 89 = .ok (.lneg, 1) := by decide +kernel
theorem d8_grows_90 : decode M8_grows.2.1 90 = .ok (.goto 10, 3) := by decide +kernel
theorem d8_grows_93 : decode M8_grows.2.1 93 = .ok (.aload_n 0, 1) := by decide +kernel
theorem d8_grows_94 : decode M8_grows.2.1 94 = .ok (.iload 4, 2) := by decide +kernel
theorem d8_grows_96 : decode M8_grows.2.1 96 = .ok (.iload_n 2, 1) := by decide +kernel
theorem d8_grows_97 : decode M8_grows.2.1 97 = .ok (.invokevirtual 150, 3) := by decide +kernel
theorem d8_grows_100 : decode M8_grows.2.1 100 = .ok (.lastore, 1) := by decide +kernel
theorem d8_grows_101 : decode M8_grows.2.1 101 = .ok (.iload_n 2, 1) := by decide +kernel
theorem d8_grows_102 : decode M8_grows.2.1 102 = .ok (.iload 5, 2) := by decide +kernel
theorem d8_grows_104 : decode M8_grows.2.1 104 = .ok (.ior, 1) := by decide +kernel
theorem d8_grows_105 : decode M8_grows.2.1 105 = .ok (.istore_n 2, 1) := by decide +kernel
theorem d8_grows_106 : decode M8_grows.2.1 106 = .ok (.iinc 4 1, 3) := by decide +kernel
theorem d8_grows_109 : decode M8_grows.2.1 109 = .ok (.goto (-95), 3) := by decide +kernel
theorem d8_grows_112 : decode M8_grows.2.1 112 = .ok (.goto (-108), 3) := by decide +kernel
theorem d8_grows_115 : decode M8_grows.2.1 115 = .ok (.iload_n 2, 1) := by decide +kernel
theorem d8_grows_116 : decode M8_grows.2.1 116 = .ok (.ireturn, 1) := by decide +kernel
theorem d8_works_0 : decode M8_works.2.1 0 = .ok (.aload_n 0, 1) := by decide +kernel
theorem d8_works_1 : decode M8_works.2.1 1 = .ok (.invokevirtual 153, 3) := by decide +kernel
theorem d8_works_4 : decode M8_works.2.1 4 = .ok (.istore_n 1, 1) := by decide +kernel
theorem d8_works_5 : decode M8_works.2.1 5 = .ok (.iconst 0, 1) := by decide +kernel
theorem d8_works_6 : decode M8_works.2.1 6 = .ok (.istore_n 2, 1) := by decide +kernel
theorem d8_works_7 : decode M8_works.2.1 7 = .ok (.iload_n 2, 1) := by decide +kernel
theorem d8_works_8 : decode M8_works.2.1 8 = .ok (.aload_n 0, 1) := by decide +kernel
theorem d8_works_9 : decode M8_works.2.1 9 = .ok (.getfield 70, 3) := by decide +kernel
theorem d8_works_12 : decode M8_works.2.1 12 = .ok (.if_icmp .ge 32, 3) := by decide +kernel
theorem d8_works_15 : decode M8_works.2.1 15 = .ok (.aload_n 0, 1) := by decide +kernel
theorem d8_works_16 : decode M8_works.2.1 16 = .ok (.getfield 63, 3) := by decide +kernel
theorem d8_works_19 : decode M8_works.2.1 19 = .ok (.iload_n 2, 1) := by decide +kernel
theorem d8_works_20 : decode M8_works.2.1 20 = .ok (.iload_n 1, 1) := by decide +kernel
theorem d8_works_21 : decode M8_works.2.1 21 = .ok (.iload_n 2, 1) := by decide +kernel
theorem d8_works_22 : decode M8_works.2.1 22 = .ok (.invokestatic 141, 3) := by decide +kernel
theorem d8_works_25 : decode M8_works.2.1 25 = .ok (.ifCond .eq 11, 3) := by decide +kernel
theorem d8_works_28 : decode M8_works.2.1 28 = .ok (.aload_n 0, 1) := by decide +kernel
theorem d8_works_29 : decode M8_works.2.1 29 = .ok (.iload_n 2, 1) := by decide +kernel
theorem d8_works_30 : decode M8_works.2.1 30 = .ok (.invokevirtual 131, 3) := by decide +kernel
theorem d8_works_33 : decode M8_works.2.1 33 = .ok (.goto 4, 3) := by decide +kernel
theorem d8_works_36 : decode M8_works.2.1 36 = .ok (.lconst 0, 1) := by decide +kernel
theorem d8_works_37 : decode M8_works.2.1 37 = .ok (.lastore, 1) := by decide +kernel
theorem d8_works_38 : decode M8_works.2.1 38 = .ok (.iinc 2 1, 3) := by decide +kernel
theorem d8_works_41 : decode M8_works.2.1 41 = .ok (.goto (-34), 3) := by decide +kernel
theorem d8_works_44 : decode M8_works.2.1 44 = .ok (.aload_n 0, 1) := by decide +kernel
theorem d8_works_45 : decode M8_works.2.1 45 = .ok (.iload_n 1, 1) := by decide +kernel
theorem d8_works_46 : decode M8_works.2.1 46 = .ok (.invokevirtual 157, 3) := by decide +kernel
theorem d8_works_49 : decode M8_works.2.1 49 = .ok (.ireturn, 1) := by decide +kernel
theorem d8_how_0 : decode M8_how.2.1 0 = .ok (.aload_n 0, 1) := by decide +kernel
theorem d8_how_1 : decode M8_how.2.1 1 = .ok (.iload_n 1, 1) := by decide +kernel
theorem d8_how_2 : decode M8_how.2.1 2 = .ok (.invokevirtual 112, 3) := by decide +kernel
theorem d8_how_5 : decode M8_how.2.1 5 = .ok (.ifCond .ne 5, 3) := by decide +kernel
theorem d8_how_8 : decode M8_how.2.1 8 = .ok (.iconst (-1), 1) := by decide +kernel
theorem d8_how_9 : decode M8_how.2.1 9 = .ok (.ireturn, 1) := by decide +kernel
theorem d8_how_10 : decode M8_how.2.1 10 = .ok (.aload_n 0, 1) := by decide +kernel
theorem d8_how_11 : decode M8_how.2.1 11 = .ok (.invokevirtual 153, 3) := by decide +kernel
theorem d8_how_14 : decode M8_how.2.1 14 = .ok (.iload_n 1, 1) := by decide +kernel
theorem d8_how_15 : decode M8_how.2.1 15 = .ok (.invokestatic 141, 3) := by decide +kernel
theorem d8_how_18 : decode M8_how.2.1 18 = .ok (.ifCond .eq 7, 3) := by decide +kernel
theorem d8_how_21 : decode M8_how.2.1 21 = .ok (.iconst 0, 1) := by decide +kernel
theorem d8_how_22 : decode M8_how.2.1 22 = .ok (.goto 19, 3) := by decide +kernel
theorem d8_how_25 : decode M8_how.2.1 25 = .ok (.aload_n 0, 1) := by decide +kernel
theorem d8_how_26 : decode M8_how.2.1 26 = .ok (.invokevirtual 160, 3) := by decide +kernel
theorem d8_how_29 : decode M8_how.2.1 29 = .ok (.iload_n 1, 1) := by decide +kernel
theorem d8_how_30 : decode M8_how.2.1 30 = .ok (.invokestatic 141, 3) := by decide +kernel
theorem d8_how_33 : decode M8_how.2.1 33 = .ok (.ifCond .eq 7, 3) := by decide +kernel
theorem d8_how_36 : decode M8_how.2.1 36 = .ok (.iconst 1, 1) := by decide +kernel
theorem d8_how_37 : decode M8_how.2.1 37 = .ok (.goto 4, 3) := by decide +kernel
theorem d8_how_40 : decode M8_how.2.1 40 = .ok (.iconst 2, 1) := by decide +kernel
theorem d8_how_41 : decode M8_how.2.1 41 = .ok (.ireturn, 1) := by decide +kernel
theorem d8_load_0 : decode M8_load.2.1 0 = .ok (.aload_n 0, 1) := by decide +kernel
theorem d8_load_1 : decode M8_load.2.1 1 = .ok (.iload_n 1, 1) := by decide +kernel
theorem d8_load_2 : decode M8_load.2.1 2 = .ok (.invokevirtual 112, 3) := by decide +kernel
theorem d8_load_5 : decode M8_load.2.1 5 = .ok (.ifCond .eq 23, 3) := by decide +kernel
theorem d8_load_8 : decode M8_load.2.1 8 = .ok (.aload_n 0, 1) := by decide +kernel
theorem d8_load_9 : decode M8_load.2.1 9 = .ok (.invokevirtual 160, 3) := by decide +kernel
theorem d8_load_12 : decode M8_load.2.1 12 = .ok (.iload_n 1, 1) := by decide +kernel
theorem d8_load_13 : decode M8_load.2.1 13 = .ok (.invokestatic 141, 3) := by decide +kernel
theorem d8_load_16 : decode M8_load.2.1 16 = .ok (.ifCond .eq 12, 3) := by decide +kernel
theorem d8_load_19 : decode M8_load.2.1 19 = .ok (.aload_n 0, 1) := by decide +kernel
theorem d8_load_20 : decode M8_load.2.1 20 = .ok (.getfield 63, 3) := by decide +kernel
theorem d8_load_23 : decode M8_load.2.1 23 = .ok (.iload_n 1, 1) := by decide +kernel
theorem d8_load_24 : decode M8_load.2.1 24 = .ok (.laload, 1) := by decide +kernel
theorem d8_load_25 : decode M8_load.2.1 25 = .ok (.goto 4, 3) := by decide +kernel
theorem d8_load_28 : decode M8_load.2.1 28 = .ok (.lconst 0, 1) := by decide +kernel
theorem d8_load_29 : decode M8_load.2.1 29 = .ok (.lreturn, 1) := by decide +kernel
theorem d8_isBalanced_0 : decode M8_isBalanced.2.1 0 = .ok (.iload_n 1, 1) := by decide +kernel
theorem d8_isBalanced_1 : decode M8_isBalanced.2.1 1 = .ok (.i2l, 1) := by decide +kernel
theorem d8_isBalanced_2 : decode M8_isBalanced.2.1 2 = .ok (.lconst 0, 1) := by decide +kernel
theorem d8_isBalanced_3 : decode M8_isBalanced.2.1 3 = .ok (.ldc2_w 105, 3) := by decide +kernel
theorem d8_isBalanced_6 : decode M8_isBalanced.2.1 6 = .ok (.invokestatic 74, 3) := by decide +kernel
theorem d8_isBalanced_9 : decode M8_isBalanced.2.1 9 = .ok (.ifCond .eq 19, 3) := by decide +kernel
theorem d8_isBalanced_12 : decode M8_isBalanced.2.1 12 = .ok (.aload_n 0, 1) := by decide +kernel
theorem d8_isBalanced_13 : decode M8_isBalanced.2.1 13 = .ok (.iload_n 1, 1) := by decide +kernel
theorem d8_isBalanced_14 : decode M8_isBalanced.2.1 14 = .ok (.invokevirtual 144, 3) := by decide +kernel
theorem d8_isBalanced_17 : decode M8_isBalanced.2.1 17 = .ok (.iload_n 2, 1) := by decide +kernel
theorem d8_isBalanced_18 : decode M8_isBalanced.2.1 18 = .ok (.iconst (-1), 1) := by decide +kernel
theorem d8_isBalanced_19 : decode M8_isBalanced.2.1 19 = .ok (.ixor, 1) := by decide +kernel
theorem d8_isBalanced_20 : decode M8_isBalanced.2.1 20 = .ok (.iand, 1) := by decide +kernel
theorem d8_isBalanced_21 : decode M8_isBalanced.2.1 21 = .ok (.ifCond .ne 7, 3) := by decide +kernel
theorem d8_isBalanced_24 : decode M8_isBalanced.2.1 24 = .ok (.iconst 1, 1) := by decide +kernel
theorem d8_isBalanced_25 : decode M8_isBalanced.2.1 25 = .ok (.goto 4, 3) := by decide +kernel
theorem d8_isBalanced_28 : decode M8_isBalanced.2.1 28 = .ok (.iconst 0, 1) := by decide +kernel
theorem d8_isBalanced_29 : decode M8_isBalanced.2.1 29 = .ok (.ireturn, 1) := by decide +kernel
theorem d8_balances_0 : decode M8_balances.2.1 0 = .ok (.iload_n 1, 1) := by decide +kernel
theorem d8_balances_1 : decode M8_balances.2.1 1 = .ok (.i2l, 1) := by decide +kernel
theorem d8_balances_2 : decode M8_balances.2.1 2 = .ok (.lconst 0, 1) := by decide +kernel
theorem d8_balances_3 : decode M8_balances.2.1 3 = .ok (.ldc2_w 105, 3) := by decide +kernel
theorem d8_balances_6 : decode M8_balances.2.1 6 = .ok (.invokestatic 74, 3) := by decide +kernel
theorem d8_balances_9 : decode M8_balances.2.1 9 = .ok (.ifCond .ne 7, 3) := by decide +kernel
theorem d8_balances_12 : decode M8_balances.2.1 12 = .ok (.iconst (-1), 1) := by decide +kernel
theorem d8_balances_13 : decode M8_balances.2.1 13 = .ok (.goto 20, 3) := by decide +kernel
theorem d8_balances_16 : decode M8_balances.2.1 16 = .ok (.aload_n 0, 1) := by decide +kernel
theorem d8_balances_17 : decode M8_balances.2.1 17 = .ok (.iload_n 1, 1) := by decide +kernel
theorem d8_balances_18 : decode M8_balances.2.1 18 = .ok (.aload_n 0, 1) := by decide +kernel
theorem d8_balances_19 : decode M8_balances.2.1 19 = .ok (.invokevirtual 160, 3) := by decide +kernel
theorem d8_balances_22 : decode M8_balances.2.1 22 = .ok (.invokevirtual 163, 3) := by decide +kernel
theorem d8_balances_25 : decode M8_balances.2.1 25 = .ok (.ifCond .eq 7, 3) := by decide +kernel
theorem d8_balances_28 : decode M8_balances.2.1 28 = .ok (.iconst 1, 1) := by decide +kernel
theorem d8_balances_29 : decode M8_balances.2.1 29 = .ok (.goto 4, 3) := by decide +kernel
theorem d8_balances_32 : decode M8_balances.2.1 32 = .ok (.iconst 0, 1) := by decide +kernel
theorem d8_balances_33 : decode M8_balances.2.1 33 = .ok (.ireturn, 1) := by decide +kernel
theorem d8_balance_0 : decode M8_balance.2.1 0 = .ok (.aload_n 0, 1) := by decide +kernel
theorem d8_balance_1 : decode M8_balance.2.1 1 = .ok (.invokevirtual 160, 3) := by decide +kernel
theorem d8_balance_4 : decode M8_balance.2.1 4 = .ok (.istore_n 2, 1) := by decide +kernel
theorem d8_balance_5 : decode M8_balance.2.1 5 = .ok (.aload_n 0, 1) := by decide +kernel
theorem d8_balance_6 : decode M8_balance.2.1 6 = .ok (.iload_n 1, 1) := by decide +kernel
theorem d8_balance_7 : decode M8_balance.2.1 7 = .ok (.iload_n 2, 1) := by decide +kernel
theorem d8_balance_8 : decode M8_balance.2.1 8 = .ok (.invokevirtual 163, 3) := by decide +kernel
theorem d8_balance_11 : decode M8_balance.2.1 11 = .ok (.ifCond .eq 12, 3) := by decide +kernel
theorem d8_balance_14 : decode M8_balance.2.1 14 = .ok (.aload_n 0, 1) := by decide +kernel
theorem d8_balance_15 : decode M8_balance.2.1 15 = .ok (.iload_n 1, 1) := by decide +kernel
theorem d8_balance_16 : decode M8_balance.2.1 16 = .ok (.iload_n 2, 1) := by decide +kernel
theorem d8_balance_17 : decode M8_balance.2.1 17 = .ok (.invokevirtual 150, 3) := by decide +kernel
theorem d8_balance_20 : decode M8_balance.2.1 20 = .ok (.goto 4, 3) := by decide +kernel
theorem d8_balance_23 : decode M8_balance.2.1 23 = .ok (.lconst 0, 1) := by decide +kernel
theorem d8_balance_24 : decode M8_balance.2.1 24 = .ok (.lreturn, 1) := by decide +kernel
theorem d8_doAll_0 : decode M8_doAll.2.1 0 = .ok (.iload_n 1, 1) := by decide +kernel
theorem d8_doAll_1 : decode M8_doAll.2.1 1 = .ok (.istore_n 2, 1) := by decide +kernel
theorem d8_doAll_2 : decode M8_doAll.2.1 2 = .ok (.iconst (-1), 1) := by decide +kernel
theorem d8_doAll_3 : decode M8_doAll.2.1 3 = .ok (.istore_n 3, 1) := by decide +kernel
theorem d8_doAll_4 : decode M8_doAll.2.1 4 = .ok (.iload_n 3, 1) := by decide +kernel
theorem d8_doAll_5 : decode M8_doAll.2.1 5 = .ok (.iload_n 2, 1) := by decide +kernel
theorem d8_doAll_6 : decode M8_doAll.2.1 6 = .ok (.if_icmp .eq 52, 3) := by decide +kernel
theorem d8_doAll_9 : decode M8_doAll.2.1 9 = .ok (.iload_n 2, 1) := by decide +kernel
theorem d8_doAll_10 : decode M8_doAll.2.1 10 = .ok (.istore_n 3, 1) := by decide +kernel
theorem d8_doAll_11 : decode M8_doAll.2.1 11 = .ok (.iconst 0, 1) := by decide +kernel
theorem d8_doAll_12 : decode M8_doAll.2.1 12 = .ok (.istore 4, 2) := by decide +kernel
theorem d8_doAll_14 : decode M8_doAll.2.1 14 = .ok (.iload 4, 2) := by decide +kernel
theorem d8_doAll_16 : decode M8_doAll.2.1 16 = .ok (.bipush 8, 2) := by decide +kernel
theorem d8_doAll_18 : decode M8_doAll.2.1 18 = .ok (.if_icmp .ge 37, 3) := by decide +kernel
theorem d8_doAll_21 : decode M8_doAll.2.1 21 = .ok (.aload_n 0, 1) := by decide +kernel
theorem d8_doAll_22 : decode M8_doAll.2.1 22 = .ok (.getfield 67, 3) := by decide +kernel
theorem d8_doAll_25 : decode M8_doAll.2.1 25 = .ok (.iload 4, 2) := by decide +kernel
theorem d8_doAll_27 : decode M8_doAll.2.1 27 = .ok (.iaload, 1) := by decide +kernel
theorem d8_doAll_28 : decode M8_doAll.2.1 28 = .ok (.iload_n 2, 1) := by decide +kernel
theorem d8_doAll_29 : decode M8_doAll.2.1 29 = .ok (.iconst (-1), 1) := by decide +kernel
theorem d8_doAll_30 : decode M8_doAll.2.1 30 = .ok (.ixor, 1) := by decide +kernel
theorem d8_doAll_31 : decode M8_doAll.2.1 31 = .ok (.iand, 1) := by decide +kernel
theorem d8_doAll_32 : decode M8_doAll.2.1 32 = .ok (.istore 5, 2) := by decide +kernel
theorem d8_doAll_34 : decode M8_doAll.2.1 34 = .ok (.iload 5, 2) := by decide +kernel
theorem d8_doAll_36 : decode M8_doAll.2.1 36 = .ok (.iload 5, 2) := by decide +kernel
theorem d8_doAll_38 : decode M8_doAll.2.1 38 = .ok (.iconst 1, 1) := by decide +kernel
theorem d8_doAll_39 : decode M8_doAll.2.1 39 = .ok (.isub, 1) := by decide +kernel
theorem d8_doAll_40 : decode M8_doAll.2.1 40 = .ok (.iand, 1) := by decide +kernel
theorem d8_doAll_41 : decode M8_doAll.2.1 41 = .ok (.ifCond .ne 8, 3) := by decide +kernel
theorem d8_doAll_44 : decode M8_doAll.2.1 44 = .ok (.iload_n 2, 1) := by decide +kernel
theorem d8_doAll_45 : decode M8_doAll.2.1 45 = .ok (.iload 5, 2) := by decide +kernel
theorem d8_doAll_47 : decode M8_doAll.2.1 47 = .ok (.ior, 1) := by decide +kernel
theorem d8_doAll_48 : decode M8_doAll.2.1 48 = .ok (.istore_n 2, 1) := by decide +kernel
theorem d8_doAll_49 : decode M8_doAll.2.1 49 = .ok (.iinc 4 1, 3) := by decide +kernel
theorem d8_doAll_52 : decode M8_doAll.2.1 52 = .ok (.goto (-38), 3) := by decide +kernel
theorem d8_doAll_55 : decode M8_doAll.2.1 55 = .ok (.goto (-51), 3) := by decide +kernel
theorem d8_doAll_58 : decode M8_doAll.2.1 58 = .ok (.iload_n 2, 1) := by decide +kernel
theorem d8_doAll_59 : decode M8_doAll.2.1 59 = .ok (.iconst 1, 1) := by decide +kernel
theorem d8_doAll_60 : decode M8_doAll.2.1 60 = .ok (.aload_n 0, 1) := by decide +kernel
theorem d8_doAll_61 : decode M8_doAll.2.1 61 = .ok (.getfield 70, 3) := by decide +kernel
theorem d8_doAll_64 : decode M8_doAll.2.1 64 = .ok (.ishl, 1) := by decide +kernel
theorem d8_doAll_65 : decode M8_doAll.2.1 65 = .ok (.iconst 1, 1) := by decide +kernel
theorem d8_doAll_66 : decode M8_doAll.2.1 66 = .ok (.isub, 1) := by decide +kernel
theorem d8_doAll_67 : decode M8_doAll.2.1 67 = .ok (.if_icmp .ne 7, 3) := by decide +kernel
theorem d8_doAll_70 : decode M8_doAll.2.1 70 = .ok (.iconst 1, 1) := by decide +kernel
theorem d8_doAll_71 : decode M8_doAll.2.1 71 = .ok (.goto 4, 3) := by decide +kernel
theorem d8_doAll_74 : decode M8_doAll.2.1 74 = .ok (.iconst 0, 1) := by decide +kernel
theorem d8_doAll_75 : decode M8_doAll.2.1 75 = .ok (.ireturn, 1) := by decide +kernel
theorem d8_lists_0 : decode M8_lists.2.1 0 = .ok (.iconst 0, 1) := by decide +kernel
theorem d8_lists_1 : decode M8_lists.2.1 1 = .ok (.istore_n 1, 1) := by decide +kernel
theorem d8_lists_2 : decode M8_lists.2.1 2 = .ok (.iload_n 1, 1) := by decide +kernel
theorem d8_lists_3 : decode M8_lists.2.1 3 = .ok (.bipush 8, 2) := by decide +kernel
theorem d8_lists_5 : decode M8_lists.2.1 5 = .ok (.if_icmp .ge 20, 3) := by decide +kernel
theorem d8_lists_8 : decode M8_lists.2.1 8 = .ok (.aload_n 0, 1) := by decide +kernel
theorem d8_lists_9 : decode M8_lists.2.1 9 = .ok (.getfield 67, 3) := by decide +kernel
theorem d8_lists_12 : decode M8_lists.2.1 12 = .ok (.iload_n 1, 1) := by decide +kernel
theorem d8_lists_13 : decode M8_lists.2.1 13 = .ok (.aload_n 0, 1) := by decide +kernel
theorem d8_lists_14 : decode M8_lists.2.1 14 = .ok (.iload_n 1, 1) := by decide +kernel
theorem d8_lists_15 : decode M8_lists.2.1 15 = .ok (.invokevirtual 144, 3) := by decide +kernel
theorem d8_lists_18 : decode M8_lists.2.1 18 = .ok (.iastore, 1) := by decide +kernel
theorem d8_lists_19 : decode M8_lists.2.1 19 = .ok (.iinc 1 1, 3) := by decide +kernel
theorem d8_lists_22 : decode M8_lists.2.1 22 = .ok (.goto (-20), 3) := by decide +kernel
theorem d8_lists_25 : decode M8_lists.2.1 25 = .ok (.return_, 1) := by decide +kernel
theorem d8_does_0 : decode M8_does.2.1 0 = .ok (.iload_n 1, 1) := by decide +kernel
theorem d8_does_1 : decode M8_does.2.1 1 = .ok (.i2l, 1) := by decide +kernel
theorem d8_does_2 : decode M8_does.2.1 2 = .ok (.lconst 0, 1) := by decide +kernel
theorem d8_does_3 : decode M8_does.2.1 3 = .ok (.iconst 1, 1) := by decide +kernel
theorem d8_does_4 : decode M8_does.2.1 4 = .ok (.aload_n 0, 1) := by decide +kernel
theorem d8_does_5 : decode M8_does.2.1 5 = .ok (.getfield 70, 3) := by decide +kernel
theorem d8_does_8 : decode M8_does.2.1 8 = .ok (.ishl, 1) := by decide +kernel
theorem d8_does_9 : decode M8_does.2.1 9 = .ok (.iconst 1, 1) := by decide +kernel
theorem d8_does_10 : decode M8_does.2.1 10 = .ok (.isub, 1) := by decide +kernel
theorem d8_does_11 : decode M8_does.2.1 11 = .ok (.i2l, 1) := by decide +kernel
theorem d8_does_12 : decode M8_does.2.1 12 = .ok (.invokestatic 74, 3) := by decide +kernel
theorem d8_does_15 : decode M8_does.2.1 15 = .ok (.ifCond .ne 5, 3) := by decide +kernel
theorem d8_does_18 : decode M8_does.2.1 18 = .ok (.iconst (-1), 1) := by decide +kernel
theorem d8_does_19 : decode M8_does.2.1 19 = .ok (.ireturn, 1) := by decide +kernel
theorem d8_does_20 : decode M8_does.2.1 20 = .ok (.aload_n 0, 1) := by decide +kernel
theorem d8_does_21 : decode M8_does.2.1 21 = .ok (.invokevirtual 166, 3) := by decide +kernel
theorem d8_does_24 : decode M8_does.2.1 24 = .ok (.aload_n 0, 1) := by decide +kernel
theorem d8_does_25 : decode M8_does.2.1 25 = .ok (.iload_n 1, 1) := by decide +kernel
theorem d8_does_26 : decode M8_does.2.1 26 = .ok (.invokevirtual 169, 3) := by decide +kernel
theorem d8_does_29 : decode M8_does.2.1 29 = .ok (.ifCond .eq 7, 3) := by decide +kernel
theorem d8_does_32 : decode M8_does.2.1 32 = .ok (.iconst 1, 1) := by decide +kernel
theorem d8_does_33 : decode M8_does.2.1 33 = .ok (.goto 4, 3) := by decide +kernel
theorem d8_does_36 : decode M8_does.2.1 36 = .ok (.iconst 0, 1) := by decide +kernel
theorem d8_does_37 : decode M8_does.2.1 37 = .ok (.ireturn, 1) := by decide +kernel
theorem d8_plan_0 : decode M8_plan.2.1 0 = .ok (.aload_n 0, 1) := by decide +kernel
theorem d8_plan_1 : decode M8_plan.2.1 1 = .ok (.invokevirtual 166, 3) := by decide +kernel
theorem d8_plan_4 : decode M8_plan.2.1 4 = .ok (.iconst (-1), 1) := by decide +kernel
theorem d8_plan_5 : decode M8_plan.2.1 5 = .ok (.istore_n 1, 1) := by decide +kernel
theorem d8_plan_6 : decode M8_plan.2.1 6 = .ok (.iconst 0, 1) := by decide +kernel
theorem d8_plan_7 : decode M8_plan.2.1 7 = .ok (.istore_n 2, 1) := by decide +kernel
theorem d8_plan_8 : decode M8_plan.2.1 8 = .ok (.iconst 0, 1) := by decide +kernel
theorem d8_plan_9 : decode M8_plan.2.1 9 = .ok (.istore_n 3, 1) := by decide +kernel
theorem d8_plan_10 : decode M8_plan.2.1 10 = .ok (.iload_n 3, 1) := by decide +kernel
theorem d8_plan_11 : decode M8_plan.2.1 11 = .ok (.iconst 1, 1) := by decide +kernel
theorem d8_plan_12 : decode M8_plan.2.1 12 = .ok (.aload_n 0, 1) := by decide +kernel
theorem d8_plan_13 : decode M8_plan.2.1 13 = .ok (.getfield 70, 3) := by decide +kernel
theorem d8_plan_16 : decode M8_plan.2.1 16 = .ok (.ishl, 1) := by decide +kernel
theorem d8_plan_17 : decode M8_plan.2.1 17 = .ok (.if_icmp .ge 99, 3) := by decide +kernel
theorem d8_plan_20 : decode M8_plan.2.1 20 = .ok (.iconst 0, 1) := by decide +kernel
theorem d8_plan_21 : decode M8_plan.2.1 21 = .ok (.istore 4, 2) := by decide +kernel
theorem d8_plan_23 : decode M8_plan.2.1 23 = .ok (.iconst 0, 1) := by decide +kernel
theorem d8_plan_24 : decode M8_plan.2.1 24 = .ok (.istore 5, 2) := by decide +kernel
theorem d8_plan_26 : decode M8_plan.2.1 26 = .ok (.iload 5, 2) := by decide +kernel
theorem d8_plan_28 : decode M8_plan.2.1 28 = .ok (.aload_n 0, 1) := by decide +kernel
theorem d8_plan_29 : decode M8_plan.2.1 29 = .ok (.getfield 70, 3) := by decide +kernel
theorem d8_plan_32 : decode M8_plan.2.1 32 = .ok (.if_icmp .ge 34, 3) := by decide +kernel
theorem d8_plan_35 : decode M8_plan.2.1 35 = .ok (.iload 4, 2) := by decide +kernel
theorem d8_plan_37 : decode M8_plan.2.1 37 = .ok (.iload_n 3, 1) := by decide +kernel
theorem d8_plan_38 : decode M8_plan.2.1 38 = .ok (.iload 5, 2) := by decide +kernel
theorem d8_plan_40 : decode M8_plan.2.1 40 = .ok (.invokestatic 141, 3) := by decide +kernel
theorem d8_plan_43 : decode M8_plan.2.1 43 = .ok (.ifCond .eq 13, 3) := by decide +kernel
theorem d8_plan_46 : decode M8_plan.2.1 46 = .ok (.aload_n 0, 1) := by decide +kernel
theorem d8_plan_47 : decode M8_plan.2.1 47 = .ok (.getfield 30, 3) := by decide +kernel
theorem d8_plan_50 : decode M8_plan.2.1 50 = .ok (.iload 5, 2) := by decide +kernel
theorem d8_plan_52 : decode M8_plan.2.1 52 = .ok (.iaload, 1) := by decide +kernel
theorem d8_plan_53 : decode M8_plan.2.1 53 = .ok (.goto 4, 3) := by decide +kernel
theorem d8_plan_56 : decode M8_plan.2.1 56 = .ok (.iconst 0, 1) := by decide +kernel
theorem d8_plan_57 : decode M8_plan.2.1 57 = .ok (.iadd, 1) := by decide +kernel
theorem d8_plan_58 : decode M8_plan.2.1 58 = .ok (.istore 4, 2) := by decide +kernel
theorem d8_plan_60 : decode M8_plan.2.1 60 = .ok (.iinc 5 1, 3) := by decide +kernel
theorem d8_plan_63 : decode M8_plan.2.1 63 = .ok (.goto (-37), 3) := by decide +kernel
theorem d8_plan_66 : decode M8_plan.2.1 66 = .ok (.iload_n 1, 1) := by decide +kernel
theorem d8_plan_67 : decode M8_plan.2.1 67 = .ok (.iconst (-1), 1) := by decide +kernel
theorem d8_plan_68 : decode M8_plan.2.1 68 = .ok (.if_icmp .eq 26, 3) := by decide +kernel
theorem d8_plan_71 : decode M8_plan.2.1 71 = .ok (.iload 4, 2) := by decide +kernel
theorem d8_plan_73 : decode M8_plan.2.1 73 = .ok (.iload_n 2, 1) := by decide +kernel
theorem d8_plan_74 : decode M8_plan.2.1 74 = .ok (.if_icmp .gt 36, 3) := by decide +kernel
theorem d8_plan_77 : decode M8_plan.2.1 77 = .ok (.iload 4, 2) := by decide +kernel
theorem d8_plan_79 : decode M8_plan.2.1 79 = .ok (.iload_n 2, 1) := by decide +kernel
theorem d8_plan_80 : decode M8_plan.2.1 80 = .ok (.if_icmp .ne 14, 3) := by decide +kernel
theorem d8_plan_83 : decode M8_plan.2.1 83 = .ok (.iload_n 3, 1) := by decide +kernel
theorem d8_plan_84 : decode M8_plan.2.1 84 = .ok (.invokestatic 147, 3) := by decide +kernel
theorem d8_plan_87 : decode M8_plan.2.1 87 = .ok (.iload_n 1, 1) := by decide +kernel
theorem d8_plan_88 : decode M8_plan.2.1 88 = .ok (.invokestatic 147, 3) := by decide +kernel
theorem d8_plan_91 : decode M8_plan.2.1 91 = .ok (.if_icmp .ge 19, 3) := by decide +kernel
theorem d8_plan_94 : decode M8_plan.2.1 94 = .ok (.aload_n 0, 1) := by decide +kernel
theorem d8_plan_95 : decode M8_plan.2.1 95 = .ok (.iload_n 3, 1) := by decide +kernel
theorem d8_plan_96 : decode M8_plan.2.1 96 = .ok (.invokevirtual 169, 3) := by decide +kernel
theorem d8_plan_99 : decode M8_plan.2.1 99 = .ok (.ifCond .ne 6, 3) := by decide +kernel
theorem d8_plan_102 : decode M8_plan.2.1 102 = .ok (.goto 8, 3) := by decide +kernel
theorem d8_plan_105 : decode M8_plan.2.1 105 = .ok (.iload_n 3, 1) := by decide +kernel
theorem d8_plan_106 : decode M8_plan.2.1 106 = .ok (.istore_n 1, 1) := by decide +kernel
theorem d8_plan_107 : decode M8_plan.2.1 107 = .ok (.iload 4, 2) := by decide +kernel
theorem d8_plan_109 : decode M8_plan.2.1 109 = .ok (.istore_n 2, 1) := by decide +kernel
theorem d8_plan_110 : decode M8_plan.2.1 110 = .ok (.iinc 3 1, 3) := by decide +kernel
theorem d8_plan_113 : decode M8_plan.2.1 113 = .ok (.goto (-103), 3) := by decide +kernel
theorem d8_plan_116 : decode M8_plan.2.1 116 = .ok (.iload_n 1, 1) := by decide +kernel
theorem d8_plan_117 : decode M8_plan.2.1 117 = .ok (.ireturn, 1) := by decide +kernel
theorem d8_push_0 : decode M8_push.2.1 0 = .ok (.bipush 24, 2) := by decide +kernel
theorem d8_push_2 : decode M8_push.2.1 2 = .ok (.istore_n 2, 1) := by decide +kernel
theorem d8_push_3 : decode M8_push.2.1 3 = .ok (.iload_n 2, 1) := by decide +kernel
theorem d8_push_4 : decode M8_push.2.1 4 = .ok (.ifCond .lt 32, 3) := by decide +kernel
theorem d8_push_7 : decode M8_push.2.1 7 = .ok (.aload_n 0, 1) := by decide +kernel
theorem d8_push_8 : decode M8_push.2.1 8 = .ok (.getfield 7, 3) := by decide +kernel
theorem d8_push_11 : decode M8_push.2.1 11 = .ok (.aload_n 0, 1) := by decide +kernel
theorem d8_push_12 : decode M8_push.2.1 12 = .ok (.getfield 172, 3) := by decide +kernel
theorem d8_push_15 : decode M8_push.2.1 15 = .ok (.iload_n 1, 1) := by decide +kernel
theorem d8_push_16 : decode M8_push.2.1 16 = .ok (.iload_n 2, 1) := by decide +kernel
theorem d8_push_17 : decode M8_push.2.1 17 = .ok (.ishr, 1) := by decide +kernel
theorem d8_push_18 : decode M8_push.2.1 18 = .ok (.i2b, 1) := by decide +kernel
theorem d8_push_19 : decode M8_push.2.1 19 = .ok (.bastore, 1) := by decide +kernel
theorem d8_push_20 : decode M8_push.2.1 20 = .ok (.aload_n 0, 1) := by decide +kernel
theorem d8_push_21 : decode M8_push.2.1 21 = .ok (.dup, 1) := by decide +kernel
theorem d8_push_22 : decode M8_push.2.1 22 = .ok (.getfield 172, 3) := by decide +kernel
theorem d8_push_25 : decode M8_push.2.1 25 = .ok (.iconst 1, 1) := by decide +kernel
theorem d8_push_26 : decode M8_push.2.1 26 = .ok (.iadd, 1) := by decide +kernel
theorem d8_push_27 : decode M8_push.2.1 27 = .ok (.putfield 172, 3) := by decide +kernel
theorem d8_push_30 : decode M8_push.2.1 30 = .ok (.iinc 2 (-8), 3) := by decide +kernel
theorem d8_push_33 : decode M8_push.2.1 33 = .ok (.goto (-30), 3) := by decide +kernel
theorem d8_push_36 : decode M8_push.2.1 36 = .ok (.return_, 1) := by decide +kernel
theorem d8_feed_0 : decode M8_feed.2.1 0 = .ok (.aload_n 0, 1) := by decide +kernel
theorem d8_feed_1 : decode M8_feed.2.1 1 = .ok (.getfield 172, 3) := by decide +kernel
theorem d8_feed_4 : decode M8_feed.2.1 4 = .ok (.bipush 20, 2) := by decide +kernel
theorem d8_feed_6 : decode M8_feed.2.1 6 = .ok (.iadd, 1) := by decide +kernel
theorem d8_feed_7 : decode M8_feed.2.1 7 = .ok (.bipush 120, 2) := by decide +kernel
theorem d8_feed_9 : decode M8_feed.2.1 9 = .ok (.if_icmp .le 5, 3) := by decide +kernel
theorem d8_feed_12 : decode M8_feed.2.1 12 = .ok (.iconst (-1), 1) := by decide +kernel
theorem d8_feed_13 : decode M8_feed.2.1 13 = .ok (.ireturn, 1) := by decide +kernel
theorem d8_feed_14 : decode M8_feed.2.1 14 = .ok (.aload_n 0, 1) := by decide +kernel
theorem d8_feed_15 : decode M8_feed.2.1 15 = .ok (.iload_n 1, 1) := by decide +kernel
theorem d8_feed_16 : decode M8_feed.2.1 16 = .ok (.invokevirtual 175, 3) := by decide +kernel
theorem d8_feed_19 : decode M8_feed.2.1 19 = .ok (.aload_n 0, 1) := by decide +kernel
theorem d8_feed_20 : decode M8_feed.2.1 20 = .ok (.iload_n 2, 1) := by decide +kernel
theorem d8_feed_21 : decode M8_feed.2.1 21 = .ok (.invokevirtual 175, 3) := by decide +kernel
theorem d8_feed_24 : decode M8_feed.2.1 24 = .ok (.aload_n 0, 1) := by decide +kernel
theorem d8_feed_25 : decode M8_feed.2.1 25 = .ok (.iload_n 3, 1) := by decide +kernel
theorem d8_feed_26 : decode M8_feed.2.1 26 = .ok (.invokevirtual 175, 3) := by decide +kernel
theorem d8_feed_29 : decode M8_feed.2.1 29 = .ok (.aload_n 0, 1) := by decide +kernel
theorem d8_feed_30 : decode M8_feed.2.1 30 = .ok (.iload 4, 2) := by decide +kernel
theorem d8_feed_32 : decode M8_feed.2.1 32 = .ok (.invokevirtual 175, 3) := by decide +kernel
theorem d8_feed_35 : decode M8_feed.2.1 35 = .ok (.aload_n 0, 1) := by decide +kernel
theorem d8_feed_36 : decode M8_feed.2.1 36 = .ok (.iload 5, 2) := by decide +kernel
theorem d8_feed_38 : decode M8_feed.2.1 38 = .ok (.invokevirtual 175, 3) := by decide +kernel
theorem d8_feed_41 : decode M8_feed.2.1 41 = .ok (.aload_n 0, 1) := by decide +kernel
theorem d8_feed_42 : decode M8_feed.2.1 42 = .ok (.getfield 172, 3) := by decide +kernel
theorem d8_feed_45 : decode M8_feed.2.1 45 = .ok (.ireturn, 1) := by decide +kernel
theorem d8_here_0 : decode M8_here.2.1 0 = .ok (.aload_n 0, 1) := by decide +kernel
theorem d8_here_1 : decode M8_here.2.1 1 = .ok (.getfield 179, 3) := by decide +kernel
theorem d8_here_4 : decode M8_here.2.1 4 = .ok (.aload_n 0, 1) := by decide +kernel
theorem d8_here_5 : decode M8_here.2.1 5 = .ok (.getfield 182, 3) := by decide +kernel
theorem d8_here_8 : decode M8_here.2.1 8 = .ok (.if_icmp .ge 19, 3) := by decide +kernel
theorem d8_here_11 : decode M8_here.2.1 11 = .ok (.aload_n 0, 1) := by decide +kernel
theorem d8_here_12 : decode M8_here.2.1 12 = .ok (.getfield 7, 3) := by decide +kernel
theorem d8_here_15 : decode M8_here.2.1 15 = .ok (.aload_n 0, 1) := by decide +kernel
theorem d8_here_16 : decode M8_here.2.1 16 = .ok (.getfield 179, 3) := by decide +kernel
theorem d8_here_19 : decode M8_here.2.1 19 = .ok (.baload, 1) := by decide +kernel
theorem d8_here_20 : decode M8_here.2.1 20 = .ok (.sipush 255, 3) := by decide +kernel
theorem d8_here_23 : decode M8_here.2.1 23 = .ok (.iand, 1) := by decide +kernel
theorem d8_here_24 : decode M8_here.2.1 24 = .ok (.goto 4, 3) := by decide +kernel
theorem d8_here_27 : decode M8_here.2.1 27 = .ok (.iconst 0, 1) := by decide +kernel
theorem d8_here_28 : decode M8_here.2.1 28 = .ok (.ireturn, 1) := by decide +kernel
theorem d8_fails_0 : decode M8_fails.2.1 0 = .ok (.aload_n 0, 1) := by decide +kernel
theorem d8_fails_1 : decode M8_fails.2.1 1 = .ok (.aload_n 0, 1) := by decide +kernel
theorem d8_fails_2 : decode M8_fails.2.1 2 = .ok (.getfield 185, 3) := by decide +kernel
theorem d8_fails_5 : decode M8_fails.2.1 5 = .ok (.ifCond .le 10, 3) := by decide +kernel
theorem d8_fails_8 : decode M8_fails.2.1 8 = .ok (.aload_n 0, 1) := by decide +kernel
theorem d8_fails_9 : decode M8_fails.2.1 9 = .ok (.getfield 185, 3) := by decide +kernel
theorem d8_fails_12 : decode M8_fails.2.1 12 = .ok (.goto 9, 3) := by decide +kernel
theorem d8_fails_15 : decode M8_fails.2.1 15 = .ok (.bipush 100, 2) := by decide +kernel
theorem d8_fails_17 : decode M8_fails.2.1 17 = .ok (.iload_n 1, 1) := by decide +kernel
theorem d8_fails_18 : decode M8_fails.2.1 18 = .ok (.imul, 1) := by decide +kernel
theorem d8_fails_19 : decode M8_fails.2.1 19 = .ok (.iload_n 2, 1) := by decide +kernel
theorem d8_fails_20 : decode M8_fails.2.1 20 = .ok (.iadd, 1) := by decide +kernel
theorem d8_fails_21 : decode M8_fails.2.1 21 = .ok (.putfield 185, 3) := by decide +kernel
theorem d8_fails_24 : decode M8_fails.2.1 24 = .ok (.return_, 1) := by decide +kernel
theorem d8_seesDigit_0 : decode M8_seesDigit.2.1 0 = .ok (.aload_n 0, 1) := by decide +kernel
theorem d8_seesDigit_1 : decode M8_seesDigit.2.1 1 = .ok (.invokevirtual 188, 3) := by decide +kernel
theorem d8_seesDigit_4 : decode M8_seesDigit.2.1 4 = .ok (.i2l, 1) := by decide +kernel
theorem d8_seesDigit_5 : decode M8_seesDigit.2.1 5 = .ok (.ldc2_w 191, 3) := by decide +kernel
theorem d8_seesDigit_8 : decode M8_seesDigit.2.1 8 = .ok (.ldc2_w 193, 3) := by decide +kernel
theorem d8_seesDigit_11 : decode M8_seesDigit.2.1 11 = .ok (.invokestatic 74, 3) := by decide +kernel
theorem d8_seesDigit_14 : decode M8_seesDigit.2.1 14 = .ok (.ireturn, 1) := by decide +kernel
theorem d8_number_0 : decode M8_number.2.1 0 = .ok (.aload_n 0, 1) := by decide +kernel
theorem d8_number_1 : decode M8_number.2.1 1 = .ok (.getfield 179, 3) := by decide +kernel
theorem d8_number_4 : decode M8_number.2.1 4 = .ok (.istore_n 2, 1) := by decide +kernel
theorem d8_number_5 : decode M8_number.2.1 5 = .ok (.iconst 0, 1) := by decide +kernel
theorem d8_number_6 : decode M8_number.2.1 6 = .ok (.istore_n 3, 1) := by decide +kernel
theorem d8_number_7 : decode M8_number.2.1 7 = .ok (.aload_n 0, 1) := by decide +kernel
theorem d8_number_8 : decode M8_number.2.1 8 = .ok (.invokevirtual 195, 3) := by decide +kernel
theorem d8_number_11 : decode M8_number.2.1 11 = .ok (.ifCond .ne 12, 3) := by decide +kernel
theorem d8_number_14 : decode M8_number.2.1 14 = .ok (.aload_n 0, 1) := by decide +kernel
theorem d8_number_15 : decode M8_number.2.1 15 = .ok (.iconst 1, 1) := by decide +kernel
theorem d8_number_16 : decode M8_number.2.1 16 = .ok (.aload_n 0, 1) := by decide +kernel
theorem d8_number_17 : decode M8_number.2.1 17 = .ok (.getfield 179, 3) := by decide +kernel
theorem d8_number_20 : decode M8_number.2.1 20 = .ok (.invokevirtual 199, 3) := by decide +kernel
theorem d8_number_23 : decode M8_number.2.1 23 = .ok (.aload_n 0, 1) := by decide +kernel
theorem d8_number_24 : decode M8_number.2.1 24 = .ok (.getfield 185, 3) := by decide +kernel
theorem d8_number_27 : decode M8_number.2.1 27 = .ok (.ifCond .ne 55, 3) := by decide +kernel
theorem d8_number_30 : decode M8_number.2.1 30 = .ok (.aload_n 0, 1) := by decide +kernel
theorem d8_number_31 : decode M8_number.2.1 31 = .ok (.invokevirtual 195, 3) := by decide +kernel
theorem d8_number_34 : decode M8_number.2.1 34 = .ok (.ifCond .eq 48, 3) := by decide +kernel
theorem d8_number_37 : decode M8_number.2.1 37 = .ok (.aload_n 0, 1) := by decide +kernel
theorem d8_number_38 : decode M8_number.2.1 38 = .ok (.getfield 179, 3) := by decide +kernel
theorem d8_number_41 : decode M8_number.2.1 41 = .ok (.iload_n 2, 1) := by decide +kernel
theorem d8_number_42 : decode M8_number.2.1 42 = .ok (.iconst 3, 1) := by decide +kernel
theorem d8_number_43 : decode M8_number.2.1 43 = .ok (.iadd, 1) := by decide +kernel
theorem d8_number_44 : decode M8_number.2.1 44 = .ok (.if_icmp .ne 12, 3) := by decide +kernel
theorem d8_number_47 : decode M8_number.2.1 47 = .ok (.aload_n 0, 1) := by decide +kernel
theorem d8_number_48 : decode M8_number.2.1 48 = .ok (.iconst 1, 1) := by decide +kernel
theorem d8_number_49 : decode M8_number.2.1 49 = .ok (.aload_n 0, 1) := by decide +kernel
theorem d8_number_50 : decode M8_number.2.1 50 = .ok (.getfield 179, 3) := by decide +kernel
theorem d8_number_53 : decode M8_number.2.1 53 = .ok (.invokevirtual 199, 3) := by decide +kernel
theorem d8_number_56 : decode M8_number.2.1 56 = .ok (.bipush 10, 2) := by decide +kernel
theorem d8_number_58 : decode M8_number.2.1 58 = .ok (.iload_n 3, 1) := by decide +kernel
theorem d8_number_59 : decode M8_number.2.1 59 = .ok (.imul, 1) := by decide +kernel
theorem d8_number_60 : decode M8_number.2.1 60 = .ok (.aload_n 0, 1) := by decide +kernel
theorem d8_number_61 : decode M8_number.2.1 61 = .ok (.invokevirtual 188, 3) := by decide +kernel
theorem d8_number_64 : decode M8_number.2.1 64 = .ok (.iadd, 1) := by decide +kernel
theorem d8_number_65 : decode M8_number.2.1 65 = .ok (.bipush 48, 2) := by decide +kernel
theorem d8_number_67 : decode M8_number.2.1 67 = .ok (.isub, 1) := by decide +kernel
theorem d8_number_68 : decode M8_number.2.1 68 = .ok (.istore_n 3, 1) := by decide +kernel
theorem d8_number_69 : decode M8_number.2.1 69 = .ok (.aload_n 0, 1) := by decide +kernel
theorem d8_number_70 : decode M8_number.2.1 70 = .ok (.dup, 1) := by decide +kernel
theorem d8_number_71 : decode M8_number.2.1 71 = .ok (.getfield 179, 3) := by decide +kernel
theorem d8_number_74 : decode M8_number.2.1 74 = .ok (.iconst 1, 1) := by decide +kernel
theorem d8_number_75 : decode M8_number.2.1 75 = .ok (.iadd, 1) := by decide +kernel
theorem d8_number_76 : decode M8_number.2.1 76 = .ok (.putfield 179, 3) := by decide +kernel
theorem d8_number_79 : decode M8_number.2.1 79 = .ok (.goto (-56), 3) := by decide +kernel
theorem d8_number_82 : decode M8_number.2.1 82 = .ok (.iload_n 3, 1) := by decide +kernel
theorem d8_number_83 : decode M8_number.2.1 83 = .ok (.sipush 255, 3) := by decide +kernel
theorem d8_number_86 : decode M8_number.2.1 86 = .ok (.if_icmp .gt 8, 3) := by decide +kernel
theorem d8_number_89 : decode M8_number.2.1 89 = .ok (.iload_n 3, 1) := by decide +kernel
theorem d8_number_90 : decode M8_number.2.1 90 = .ok (.iload_n 1, 1) := by decide +kernel
theorem d8_number_91 : decode M8_number.2.1 91 = .ok (.if_icmp .ge 9, 3) := by decide +kernel
theorem d8_number_94 : decode M8_number.2.1 94 = .ok (.aload_n 0, 1) := by decide +kernel
theorem d8_number_95 : decode M8_number.2.1 95 = .ok (.iconst 3, 1) := by decide +kernel
theorem d8_number_96 : decode M8_number.2.1 96 = .ok (.iload_n 2, 1) := by decide +kernel
theorem d8_number_97 : decode M8_number.2.1 97 = .ok (.invokevirtual 199, 3) := by decide +kernel
theorem d8_number_100 : decode M8_number.2.1 100 = .ok (.iload_n 3, 1) := by decide +kernel
theorem d8_number_101 : decode M8_number.2.1 101 = .ok (.ireturn, 1) := by decide +kernel
theorem d8_must_0 : decode M8_must.2.1 0 = .ok (.aload_n 0, 1) := by decide +kernel
theorem d8_must_1 : decode M8_must.2.1 1 = .ok (.invokevirtual 188, 3) := by decide +kernel
theorem d8_must_4 : decode M8_must.2.1 4 = .ok (.iload_n 1, 1) := by decide +kernel
theorem d8_must_5 : decode M8_must.2.1 5 = .ok (.if_icmp .eq 12, 3) := by decide +kernel
theorem d8_must_8 : decode M8_must.2.1 8 = .ok (.aload_n 0, 1) := by decide +kernel
theorem d8_must_9 : decode M8_must.2.1 9 = .ok (.iconst 1, 1) := by decide +kernel
theorem d8_must_10 : decode M8_must.2.1 10 = .ok (.aload_n 0, 1) := by decide +kernel
theorem d8_must_11 : decode M8_must.2.1 11 = .ok (.getfield 179, 3) := by decide +kernel
theorem d8_must_14 : decode M8_must.2.1 14 = .ok (.invokevirtual 199, 3) := by decide +kernel
theorem d8_must_17 : decode M8_must.2.1 17 = .ok (.aload_n 0, 1) := by decide +kernel
theorem d8_must_18 : decode M8_must.2.1 18 = .ok (.dup, 1) := by decide +kernel
theorem d8_must_19 : decode M8_must.2.1 19 = .ok (.getfield 179, 3) := by decide +kernel
theorem d8_must_22 : decode M8_must.2.1 22 = .ok (.iconst 1, 1) := by decide +kernel
theorem d8_must_23 : decode M8_must.2.1 23 = .ok (.iadd, 1) := by decide +kernel
theorem d8_must_24 : decode M8_must.2.1 24 = .ok (.putfield 179, 3) := by decide +kernel
theorem d8_must_27 : decode M8_must.2.1 27 = .ok (.return_, 1) := by decide +kernel
theorem d8_clause_0 : decode M8_clause.2.1 0 = .ok (.aload_n 0, 1) := by decide +kernel
theorem d8_clause_1 : decode M8_clause.2.1 1 = .ok (.invokevirtual 195, 3) := by decide +kernel
theorem d8_clause_4 : decode M8_clause.2.1 4 = .ok (.ifCond .ne 15, 3) := by decide +kernel
theorem d8_clause_7 : decode M8_clause.2.1 7 = .ok (.aload_n 0, 1) := by decide +kernel
theorem d8_clause_8 : decode M8_clause.2.1 8 = .ok (.iconst 1, 1) := by decide +kernel
theorem d8_clause_9 : decode M8_clause.2.1 9 = .ok (.aload_n 0, 1) := by decide +kernel
theorem d8_clause_10 : decode M8_clause.2.1 10 = .ok (.getfield 179, 3) := by decide +kernel
theorem d8_clause_13 : decode M8_clause.2.1 13 = .ok (.invokevirtual 199, 3) := by decide +kernel
theorem d8_clause_16 : decode M8_clause.2.1 16 = .ok (.goto 42, 3) := by decide +kernel
theorem d8_clause_19 : decode M8_clause.2.1 19 = .ok (.aload_n 0, 1) := by decide +kernel
theorem d8_clause_20 : decode M8_clause.2.1 20 = .ok (.getfield 203, 3) := by decide +kernel
theorem d8_clause_23 : decode M8_clause.2.1 23 = .ok (.bipush 9, 2) := by decide +kernel
theorem d8_clause_25 : decode M8_clause.2.1 25 = .ok (.if_icmp .ne 15, 3) := by decide +kernel
theorem d8_clause_28 : decode M8_clause.2.1 28 = .ok (.aload_n 0, 1) := by decide +kernel
theorem d8_clause_29 : decode M8_clause.2.1 29 = .ok (.iconst 4, 1) := by decide +kernel
theorem d8_clause_30 : decode M8_clause.2.1 30 = .ok (.aload_n 0, 1) := by decide +kernel
theorem d8_clause_31 : decode M8_clause.2.1 31 = .ok (.getfield 179, 3) := by decide +kernel
theorem d8_clause_34 : decode M8_clause.2.1 34 = .ok (.invokevirtual 199, 3) := by decide +kernel
theorem d8_clause_37 : decode M8_clause.2.1 37 = .ok (.goto 21, 3) := by decide +kernel
theorem d8_clause_40 : decode M8_clause.2.1 40 = .ok (.aload_n 0, 1) := by decide +kernel
theorem d8_clause_41 : decode M8_clause.2.1 41 = .ok (.invokevirtual 188, 3) := by decide +kernel
theorem d8_clause_44 : decode M8_clause.2.1 44 = .ok (.bipush 57, 2) := by decide +kernel
theorem d8_clause_46 : decode M8_clause.2.1 46 = .ok (.if_icmp .ne 12, 3) := by decide +kernel
theorem d8_clause_49 : decode M8_clause.2.1 49 = .ok (.aload_n 0, 1) := by decide +kernel
theorem d8_clause_50 : decode M8_clause.2.1 50 = .ok (.iconst 2, 1) := by decide +kernel
theorem d8_clause_51 : decode M8_clause.2.1 51 = .ok (.aload_n 0, 1) := by decide +kernel
theorem d8_clause_52 : decode M8_clause.2.1 52 = .ok (.getfield 179, 3) := by decide +kernel
theorem d8_clause_55 : decode M8_clause.2.1 55 = .ok (.invokevirtual 199, 3) := by decide +kernel
theorem d8_clause_58 : decode M8_clause.2.1 58 = .ok (.aload_n 0, 1) := by decide +kernel
theorem d8_clause_59 : decode M8_clause.2.1 59 = .ok (.getfield 185, 3) := by decide +kernel
theorem d8_clause_62 : decode M8_clause.2.1 62 = .ok (.ifCond .le 4, 3) := by decide +kernel
theorem d8_clause_65 : decode M8_clause.2.1 65 = .ok (.return_, 1) := by decide +kernel
theorem d8_clause_66 : decode M8_clause.2.1 66 = .ok (.aload_n 0, 1) := by decide +kernel
theorem d8_clause_67 : decode M8_clause.2.1 67 = .ok (.getfield 54, 3) := by decide +kernel
theorem d8_clause_70 : decode M8_clause.2.1 70 = .ok (.aload_n 0, 1) := by decide +kernel
theorem d8_clause_71 : decode M8_clause.2.1 71 = .ok (.getfield 203, 3) := by decide +kernel
theorem d8_clause_74 : decode M8_clause.2.1 74 = .ok (.aload_n 0, 1) := by decide +kernel
theorem d8_clause_75 : decode M8_clause.2.1 75 = .ok (.invokevirtual 188, 3) := by decide +kernel
theorem d8_clause_78 : decode M8_clause.2.1 78 = .ok (.bipush 48, 2) := by decide +kernel
theorem d8_clause_80 : decode M8_clause.2.1 80 = .ok (.isub, 1) := by decide +kernel
theorem d8_clause_81 : decode M8_clause.2.1 81 = .ok (.iastore, 1) := by decide +kernel
theorem d8_clause_82 : decode M8_clause.2.1 82 = .ok (.aload_n 0, 1) := by decide +kernel
theorem d8_clause_83 : decode M8_clause.2.1 83 = .ok (.dup, 1) := by decide +kernel
theorem d8_clause_84 : decode M8_clause.2.1 84 = .ok (.getfield 179, 3) := by decide +kernel
theorem d8_clause_87 : decode M8_clause.2.1 87 = .ok (.iconst 1, 1) := by decide +kernel
theorem d8_clause_88 : decode M8_clause.2.1 88 = .ok (.iadd, 1) := by decide +kernel
theorem d8_clause_89 : decode M8_clause.2.1 89 = .ok (.putfield 179, 3) := by decide +kernel
theorem d8_clause_92 : decode M8_clause.2.1 92 = .ok (.aload_n 0, 1) := by decide +kernel
theorem d8_clause_93 : decode M8_clause.2.1 93 = .ok (.bipush 58, 2) := by decide +kernel
theorem d8_clause_95 : decode M8_clause.2.1 95 = .ok (.invokevirtual 206, 3) := by decide +kernel
theorem d8_clause_98 : decode M8_clause.2.1 98 = .ok (.iconst 0, 1) := by decide +kernel
theorem d8_clause_99 : decode M8_clause.2.1 99 = .ok (.istore_n 1, 1) := by decide +kernel
theorem d8_clause_100 : decode M8_clause.2.1 100 = .ok (.iconst 1, 1) := by decide +kernel
theorem d8_clause_101 : decode M8_clause.2.1 101 = .ok (.istore_n 2, 1) := by decide +kernel
theorem d8_clause_102 : decode M8_clause.2.1 102 = .ok (.iload_n 2, 1) := by decide +kernel
theorem d8_clause_103 : decode M8_clause.2.1 103 = .ok (.ifCond .eq 145, 3) := by decide +kernel
theorem d8_clause_106 : decode M8_clause.2.1 106 = .ok (.aload_n 0, 1) := by decide +kernel
theorem d8_clause_107 : decode M8_clause.2.1 107 = .ok (.getfield 185, 3) := by decide +kernel
theorem d8_clause_110 : decode M8_clause.2.1 110 = .ok (.ifCond .ne 138, 3) := by decide +kernel
theorem d8_clause_113 : decode M8_clause.2.1 113 = .ok (.aload_n 0, 1) := by decide +kernel
theorem d8_clause_114 : decode M8_clause.2.1 114 = .ok (.iconst 0, 1) := by decide +kernel
theorem d8_clause_115 : decode M8_clause.2.1 115 = .ok (.invokevirtual 209, 3) := by decide +kernel
theorem d8_clause_118 : decode M8_clause.2.1 118 = .ok (.istore_n 3, 1) := by decide +kernel
theorem d8_clause_119 : decode M8_clause.2.1 119 = .ok (.aload_n 0, 1) := by decide +kernel
theorem d8_clause_120 : decode M8_clause.2.1 120 = .ok (.getfield 185, 3) := by decide +kernel
theorem d8_clause_123 : decode M8_clause.2.1 123 = .ok (.ifCond .ne 9, 3) := by decide +kernel
theorem d8_clause_126 : decode M8_clause.2.1 126 = .ok (.aload_n 0, 1) := by decide +kernel
theorem d8_clause_127 : decode M8_clause.2.1 127 = .ok (.bipush 45, 2) := by decide +kernel
theorem d8_clause_129 : decode M8_clause.2.1 129 = .ok (.invokevirtual 206, 3) := by decide +kernel
theorem d8_clause_132 : decode M8_clause.2.1 132 = .ok (.aload_n 0, 1) := by decide +kernel
theorem d8_clause_133 : decode M8_clause.2.1 133 = .ok (.getfield 185, 3) := by decide +kernel
theorem d8_clause_136 : decode M8_clause.2.1 136 = .ok (.ifCond .ne 11, 3) := by decide +kernel
theorem d8_clause_139 : decode M8_clause.2.1 139 = .ok (.aload_n 0, 1) := by decide +kernel
theorem d8_clause_140 : decode M8_clause.2.1 140 = .ok (.iload_n 3, 1) := by decide +kernel
theorem d8_clause_141 : decode M8_clause.2.1 141 = .ok (.invokevirtual 209, 3) := by decide +kernel
theorem d8_clause_144 : decode M8_clause.2.1 144 = .ok (.goto 4, 3) := by decide +kernel
theorem d8_clause_147 : decode M8_clause.2.1 147 = .ok (.iconst 0, 1) := by decide +kernel
theorem d8_clause_148 : decode M8_clause.2.1 148 = .ok (.istore 4, 2) := by decide +kernel
theorem d8_clause_150 : decode M8_clause.2.1 150 = .ok (.aload_n 0, 1) := by decide +kernel
theorem d8_clause_151 : decode M8_clause.2.1 151 = .ok (.getfield 185, 3) := by decide +kernel
theorem d8_clause_154 : decode M8_clause.2.1 154 = .ok (.ifCond .le 4, 3) := by decide +kernel
theorem d8_clause_157 : decode M8_clause.2.1 157 = .ok (.return_, 1) := by decide +kernel
theorem d8_clause_158 : decode M8_clause.2.1 158 = .ok (.aload_n 0, 1) := by decide +kernel
theorem d8_clause_159 : decode M8_clause.2.1 159 = .ok (.getfield 60, 3) := by decide +kernel
theorem d8_clause_162 : decode M8_clause.2.1 162 = .ok (.bipush 8, 2) := by decide +kernel
theorem d8_clause_164 : decode M8_clause.2.1 164 = .ok (.aload_n 0, 1) := by decide +kernel
theorem d8_clause_165 : decode M8_clause.2.1 165 = .ok (.getfield 203, 3) := by decide +kernel
theorem d8_clause_168 : decode M8_clause.2.1 168 = .ok (.imul, 1) := by decide +kernel
theorem d8_clause_169 : decode M8_clause.2.1 169 = .ok (.iconst 2, 1) := by decide +kernel
theorem d8_clause_170 : decode M8_clause.2.1 170 = .ok (.iload_n 1, 1) := by decide +kernel
theorem d8_clause_171 : decode M8_clause.2.1 171 = .ok (.imul, 1) := by decide +kernel
theorem d8_clause_172 : decode M8_clause.2.1 172 = .ok (.iadd, 1) := by decide +kernel
theorem d8_clause_173 : decode M8_clause.2.1 173 = .ok (.iload_n 3, 1) := by decide +kernel
theorem d8_clause_174 : decode M8_clause.2.1 174 = .ok (.iastore, 1) := by decide +kernel
theorem d8_clause_175 : decode M8_clause.2.1 175 = .ok (.aload_n 0, 1) := by decide +kernel
theorem d8_clause_176 : decode M8_clause.2.1 176 = .ok (.getfield 60, 3) := by decide +kernel
theorem d8_clause_179 : decode M8_clause.2.1 179 = .ok (.bipush 8, 2) := by decide +kernel
theorem d8_clause_181 : decode M8_clause.2.1 181 = .ok (.aload_n 0, 1) := by decide +kernel
theorem d8_clause_182 : decode M8_clause.2.1 182 = .ok (.getfield 203, 3) := by decide +kernel
theorem d8_clause_185 : decode M8_clause.2.1 185 = .ok (.imul, 1) := by decide +kernel
theorem d8_clause_186 : decode M8_clause.2.1 186 = .ok (.iconst 2, 1) := by decide +kernel
theorem d8_clause_187 : decode M8_clause.2.1 187 = .ok (.iload_n 1, 1) := by decide +kernel
theorem d8_clause_188 : decode M8_clause.2.1 188 = .ok (.imul, 1) := by decide +kernel
theorem d8_clause_189 : decode M8_clause.2.1 189 = .ok (.iadd, 1) := by decide +kernel
theorem d8_clause_190 : decode M8_clause.2.1 190 = .ok (.iconst 1, 1) := by decide +kernel
theorem d8_clause_191 : decode M8_clause.2.1 191 = .ok (.iadd, 1) := by decide +kernel
theorem d8_clause_192 : decode M8_clause.2.1 192 = .ok (.iload 4, 2) := by decide +kernel
theorem d8_clause_194 : decode M8_clause.2.1 194 = .ok (.iastore, 1) := by decide +kernel
theorem d8_clause_195 : decode M8_clause.2.1 195 = .ok (.iinc 1 1, 3) := by decide +kernel
theorem d8_clause_198 : decode M8_clause.2.1 198 = .ok (.aload_n 0, 1) := by decide +kernel
theorem d8_clause_199 : decode M8_clause.2.1 199 = .ok (.invokevirtual 188, 3) := by decide +kernel
theorem d8_clause_202 : decode M8_clause.2.1 202 = .ok (.bipush 44, 2) := by decide +kernel
theorem d8_clause_204 : decode M8_clause.2.1 204 = .ok (.if_icmp .ne 7, 3) := by decide +kernel
theorem d8_clause_207 : decode M8_clause.2.1 207 = .ok (.iconst 1, 1) := by decide +kernel
theorem d8_clause_208 : decode M8_clause.2.1 208 = .ok (.goto 4, 3) := by decide +kernel
theorem d8_clause_211 : decode M8_clause.2.1 211 = .ok (.iconst 0, 1) := by decide +kernel
theorem d8_clause_212 : decode M8_clause.2.1 212 = .ok (.istore_n 2, 1) := by decide +kernel
theorem d8_clause_213 : decode M8_clause.2.1 213 = .ok (.iload_n 2, 1) := by decide +kernel
theorem d8_clause_214 : decode M8_clause.2.1 214 = .ok (.ifCond .eq 17, 3) := by decide +kernel
theorem d8_clause_217 : decode M8_clause.2.1 217 = .ok (.iload_n 1, 1) := by decide +kernel
theorem d8_clause_218 : decode M8_clause.2.1 218 = .ok (.iconst 4, 1) := by decide +kernel
theorem d8_clause_219 : decode M8_clause.2.1 219 = .ok (.if_icmp .ne 12, 3) := by decide +kernel
theorem d8_clause_222 : decode M8_clause.2.1 222 = .ok (.aload_n 0, 1) := by decide +kernel
theorem d8_clause_223 : decode M8_clause.2.1 223 = .ok (.iconst 1, 1) := by decide +kernel
theorem d8_clause_224 : decode M8_clause.2.1 224 = .ok (.aload_n 0, 1) := by decide +kernel
theorem d8_clause_225 : decode M8_clause.2.1 225 = .ok (.getfield 179, 3) := by decide +kernel
theorem d8_clause_228 : decode M8_clause.2.1 228 = .ok (.invokevirtual 199, 3) := by decide +kernel
theorem d8_clause_231 : decode M8_clause.2.1 231 = .ok (.iload_n 2, 1) := by decide +kernel
theorem d8_clause_232 : decode M8_clause.2.1 232 = .ok (.ifCond .eq 13, 3) := by decide +kernel
theorem d8_clause_235 : decode M8_clause.2.1 235 = .ok (.aload_n 0, 1) := by decide +kernel
theorem d8_clause_236 : decode M8_clause.2.1 236 = .ok (.dup, 1) := by decide +kernel
theorem d8_clause_237 : decode M8_clause.2.1 237 = .ok (.getfield 179, 3) := by decide +kernel
theorem d8_clause_240 : decode M8_clause.2.1 240 = .ok (.iconst 1, 1) := by decide +kernel
theorem d8_clause_241 : decode M8_clause.2.1 241 = .ok (.iadd, 1) := by decide +kernel
theorem d8_clause_242 : decode M8_clause.2.1 242 = .ok (.putfield 179, 3) := by decide +kernel
theorem d8_clause_245 : decode M8_clause.2.1 245 = .ok (.goto (-143), 3) := by decide +kernel
theorem d8_clause_248 : decode M8_clause.2.1 248 = .ok (.aload_n 0, 1) := by decide +kernel
theorem d8_clause_249 : decode M8_clause.2.1 249 = .ok (.getfield 57, 3) := by decide +kernel
theorem d8_clause_252 : decode M8_clause.2.1 252 = .ok (.aload_n 0, 1) := by decide +kernel
theorem d8_clause_253 : decode M8_clause.2.1 253 = .ok (.getfield 203, 3) := by decide +kernel
theorem d8_clause_256 : decode M8_clause.2.1 256 = .ok (.iload_n 1, 1) := by decide +kernel
theorem d8_clause_257 : decode M8_clause.2.1 257 = .ok (.iastore, 1) := by decide +kernel
theorem d8_clause_258 : decode M8_clause.2.1 258 = .ok (.aload_n 0, 1) := by decide +kernel
theorem d8_clause_259 : decode M8_clause.2.1 259 = .ok (.dup, 1) := by decide +kernel
theorem d8_clause_260 : decode M8_clause.2.1 260 = .ok (.getfield 203, 3) := by decide +kernel
theorem d8_clause_263 : decode M8_clause.2.1 263 = .ok (.iconst 1, 1) := by decide +kernel
theorem d8_clause_264 : decode M8_clause.2.1 264 = .ok (.iadd, 1) := by decide +kernel
theorem d8_clause_265 : decode M8_clause.2.1 265 = .ok (.putfield 203, 3) := by decide +kernel
theorem d8_clause_268 : decode M8_clause.2.1 268 = .ok (.return_, 1) := by decide +kernel
theorem d8_rules_0 : decode M8_rules.2.1 0 = .ok (.iload_n 1, 1) := by decide +kernel
theorem d8_rules_1 : decode M8_rules.2.1 1 = .ok (.ifCond .lt 11, 3) := by decide +kernel
theorem d8_rules_4 : decode M8_rules.2.1 4 = .ok (.iload_n 1, 1) := by decide +kernel
theorem d8_rules_5 : decode M8_rules.2.1 5 = .ok (.aload_n 0, 1) := by decide +kernel
theorem d8_rules_6 : decode M8_rules.2.1 6 = .ok (.getfield 172, 3) := by decide +kernel
theorem d8_rules_9 : decode M8_rules.2.1 9 = .ok (.if_icmp .le 5, 3) := by decide +kernel
theorem d8_rules_12 : decode M8_rules.2.1 12 = .ok (.iconst (-1), 1) := by decide +kernel
theorem d8_rules_13 : decode M8_rules.2.1 13 = .ok (.ireturn, 1) := by decide +kernel
theorem d8_rules_14 : decode M8_rules.2.1 14 = .ok (.aload_n 0, 1) := by decide +kernel
theorem d8_rules_15 : decode M8_rules.2.1 15 = .ok (.iconst 0, 1) := by decide +kernel
theorem d8_rules_16 : decode M8_rules.2.1 16 = .ok (.putfield 172, 3) := by decide +kernel
theorem d8_rules_19 : decode M8_rules.2.1 19 = .ok (.aload_n 0, 1) := by decide +kernel
theorem d8_rules_20 : decode M8_rules.2.1 20 = .ok (.iconst 0, 1) := by decide +kernel
theorem d8_rules_21 : decode M8_rules.2.1 21 = .ok (.putfield 179, 3) := by decide +kernel
theorem d8_rules_24 : decode M8_rules.2.1 24 = .ok (.aload_n 0, 1) := by decide +kernel
theorem d8_rules_25 : decode M8_rules.2.1 25 = .ok (.iload_n 1, 1) := by decide +kernel
theorem d8_rules_26 : decode M8_rules.2.1 26 = .ok (.putfield 182, 3) := by decide +kernel
theorem d8_rules_29 : decode M8_rules.2.1 29 = .ok (.aload_n 0, 1) := by decide +kernel
theorem d8_rules_30 : decode M8_rules.2.1 30 = .ok (.iconst 0, 1) := by decide +kernel
theorem d8_rules_31 : decode M8_rules.2.1 31 = .ok (.putfield 185, 3) := by decide +kernel
theorem d8_rules_34 : decode M8_rules.2.1 34 = .ok (.aload_n 0, 1) := by decide +kernel
theorem d8_rules_35 : decode M8_rules.2.1 35 = .ok (.iconst 0, 1) := by decide +kernel
theorem d8_rules_36 : decode M8_rules.2.1 36 = .ok (.putfield 203, 3) := by decide +kernel
theorem d8_rules_39 : decode M8_rules.2.1 39 = .ok (.iload_n 1, 1) := by decide +kernel
theorem d8_rules_40 : decode M8_rules.2.1 40 = .ok (.ifCond .le 7, 3) := by decide +kernel
theorem d8_rules_43 : decode M8_rules.2.1 43 = .ok (.iconst 1, 1) := by decide +kernel
theorem d8_rules_44 : decode M8_rules.2.1 44 = .ok (.goto 4, 3) := by decide +kernel
theorem d8_rules_47 : decode M8_rules.2.1 47 = .ok (.iconst 0, 1) := by decide +kernel
theorem d8_rules_48 : decode M8_rules.2.1 48 = .ok (.istore_n 2, 1) := by decide +kernel
theorem d8_rules_49 : decode M8_rules.2.1 49 = .ok (.iload_n 2, 1) := by decide +kernel
theorem d8_rules_50 : decode M8_rules.2.1 50 = .ok (.ifCond .eq 51, 3) := by decide +kernel
theorem d8_rules_53 : decode M8_rules.2.1 53 = .ok (.aload_n 0, 1) := by decide +kernel
theorem d8_rules_54 : decode M8_rules.2.1 54 = .ok (.getfield 185, 3) := by decide +kernel
theorem d8_rules_57 : decode M8_rules.2.1 57 = .ok (.ifCond .ne 44, 3) := by decide +kernel
theorem d8_rules_60 : decode M8_rules.2.1 60 = .ok (.aload_n 0, 1) := by decide +kernel
theorem d8_rules_61 : decode M8_rules.2.1 61 = .ok (.invokevirtual 212, 3) := by decide +kernel
theorem d8_rules_64 : decode M8_rules.2.1 64 = .ok (.aload_n 0, 1) := by decide +kernel
theorem d8_rules_65 : decode M8_rules.2.1 65 = .ok (.getfield 185, 3) := by decide +kernel
theorem d8_rules_68 : decode M8_rules.2.1 68 = .ok (.ifCond .ne 18, 3) := by decide +kernel
theorem d8_rules_71 : decode M8_rules.2.1 71 = .ok (.aload_n 0, 1) := by decide +kernel
theorem d8_rules_72 : decode M8_rules.2.1 72 = .ok (.getfield 179, 3) := by decide +kernel
theorem d8_rules_75 : decode M8_rules.2.1 75 = .ok (.aload_n 0, 1) := by decide +kernel
theorem d8_rules_76 : decode M8_rules.2.1 76 = .ok (.getfield 182, 3) := by decide +kernel
theorem d8_rules_79 : decode M8_rules.2.1 79 = .ok (.if_icmp .ge 7, 3) := by decide +kernel
theorem d8_rules_82 : decode M8_rules.2.1 82 = .ok (.iconst 1, 1) := by decide +kernel
theorem d8_rules_83 : decode M8_rules.2.1 83 = .ok (.goto 4, 3) := by decide +kernel
theorem d8_rules_86 : decode M8_rules.2.1 86 = .ok (.iconst 0, 1) := by decide +kernel
theorem d8_rules_87 : decode M8_rules.2.1 87 = .ok (.istore_n 2, 1) := by decide +kernel
theorem d8_rules_88 : decode M8_rules.2.1 88 = .ok (.iload_n 2, 1) := by decide +kernel
theorem d8_rules_89 : decode M8_rules.2.1 89 = .ok (.ifCond .eq (-40), 3) := by decide +kernel
theorem d8_rules_92 : decode M8_rules.2.1 92 = .ok (.aload_n 0, 1) := by decide +kernel
theorem d8_rules_93 : decode M8_rules.2.1 93 = .ok (.bipush 59, 2) := by decide +kernel
theorem d8_rules_95 : decode M8_rules.2.1 95 = .ok (.invokevirtual 206, 3) := by decide +kernel
theorem d8_rules_98 : decode M8_rules.2.1 98 = .ok (.goto (-49), 3) := by decide +kernel
theorem d8_rules_101 : decode M8_rules.2.1 101 = .ok (.aload_n 0, 1) := by decide +kernel
theorem d8_rules_102 : decode M8_rules.2.1 102 = .ok (.getfield 185, 3) := by decide +kernel
theorem d8_rules_105 : decode M8_rules.2.1 105 = .ok (.ifCond .le 8, 3) := by decide +kernel
theorem d8_rules_108 : decode M8_rules.2.1 108 = .ok (.aload_n 0, 1) := by decide +kernel
theorem d8_rules_109 : decode M8_rules.2.1 109 = .ok (.getfield 185, 3) := by decide +kernel
theorem d8_rules_112 : decode M8_rules.2.1 112 = .ok (.ireturn, 1) := by decide +kernel
theorem d8_rules_113 : decode M8_rules.2.1 113 = .ok (.aload_n 0, 1) := by decide +kernel
theorem d8_rules_114 : decode M8_rules.2.1 114 = .ok (.aload_n 0, 1) := by decide +kernel
theorem d8_rules_115 : decode M8_rules.2.1 115 = .ok (.getfield 203, 3) := by decide +kernel
theorem d8_rules_118 : decode M8_rules.2.1 118 = .ok (.putfield 215, 3) := by decide +kernel
theorem d8_rules_121 : decode M8_rules.2.1 121 = .ok (.iconst 0, 1) := by decide +kernel
theorem d8_rules_122 : decode M8_rules.2.1 122 = .ok (.istore_n 3, 1) := by decide +kernel
theorem d8_rules_123 : decode M8_rules.2.1 123 = .ok (.iload_n 3, 1) := by decide +kernel
theorem d8_rules_124 : decode M8_rules.2.1 124 = .ok (.aload_n 0, 1) := by decide +kernel
theorem d8_rules_125 : decode M8_rules.2.1 125 = .ok (.getfield 203, 3) := by decide +kernel
theorem d8_rules_128 : decode M8_rules.2.1 128 = .ok (.if_icmp .ge 73, 3) := by decide +kernel
theorem d8_rules_131 : decode M8_rules.2.1 131 = .ok (.aload_n 0, 1) := by decide +kernel
theorem d8_rules_132 : decode M8_rules.2.1 132 = .ok (.getfield 45, 3) := by decide +kernel
theorem d8_rules_135 : decode M8_rules.2.1 135 = .ok (.iload_n 3, 1) := by decide +kernel
theorem d8_rules_136 : decode M8_rules.2.1 136 = .ok (.aload_n 0, 1) := by decide +kernel
theorem d8_rules_137 : decode M8_rules.2.1 137 = .ok (.getfield 54, 3) := by decide +kernel
theorem d8_rules_140 : decode M8_rules.2.1 140 = .ok (.iload_n 3, 1) := by decide +kernel
theorem d8_rules_141 : decode M8_rules.2.1 141 = .ok (.iaload, 1) := by decide +kernel
theorem d8_rules_142 : decode M8_rules.2.1 142 = .ok (.iastore, 1) := by decide +kernel
theorem d8_rules_143 : decode M8_rules.2.1 143 = .ok (.aload_n 0, 1) := by decide +kernel
theorem d8_rules_144 : decode M8_rules.2.1 144 = .ok (.getfield 48, 3) := by decide +kernel
theorem d8_rules_147 : decode M8_rules.2.1 147 = .ok (.iload_n 3, 1) := by decide +kernel
theorem d8_rules_148 : decode M8_rules.2.1 148 = .ok (.aload_n 0, 1) := by decide +kernel
theorem d8_rules_149 : decode M8_rules.2.1 149 = .ok (.getfield 57, 3) := by decide +kernel
theorem d8_rules_152 : decode M8_rules.2.1 152 = .ok (.iload_n 3, 1) := by decide +kernel
theorem d8_rules_153 : decode M8_rules.2.1 153 = .ok (.iaload, 1) := by decide +kernel
theorem d8_rules_154 : decode M8_rules.2.1 154 = .ok (.iastore, 1) := by decide +kernel
theorem d8_rules_155 : decode M8_rules.2.1 155 = .ok (.iconst 0, 1) := by decide +kernel
theorem d8_rules_156 : decode M8_rules.2.1 156 = .ok (.istore 4, 2) := by decide +kernel
theorem d8_rules_158 : decode M8_rules.2.1 158 = .ok (.iload 4, 2) := by decide +kernel
theorem d8_rules_160 : decode M8_rules.2.1 160 = .ok (.bipush 8, 2) := by decide +kernel
theorem d8_rules_162 : decode M8_rules.2.1 162 = .ok (.if_icmp .ge 33, 3) := by decide +kernel
theorem d8_rules_165 : decode M8_rules.2.1 165 = .ok (.aload_n 0, 1) := by decide +kernel
theorem d8_rules_166 : decode M8_rules.2.1 166 = .ok (.getfield 51, 3) := by decide +kernel
theorem d8_rules_169 : decode M8_rules.2.1 169 = .ok (.bipush 8, 2) := by decide +kernel
theorem d8_rules_171 : decode M8_rules.2.1 171 = .ok (.iload_n 3, 1) := by decide +kernel
theorem d8_rules_172 : decode M8_rules.2.1 172 = .ok (.imul, 1) := by decide +kernel
theorem d8_rules_173 : decode M8_rules.2.1 173 = .ok (.iload 4, 2) := by decide +kernel
theorem d8_rules_175 : decode M8_rules.2.1 175 = .ok (.iadd, 1) := by decide +kernel
theorem d8_rules_176 : decode M8_rules.2.1 176 = .ok (.aload_n 0, 1) := by decide +kernel
theorem d8_rules_177 : decode M8_rules.2.1 177 = .ok (.getfield 60, 3) := by decide +kernel
theorem d8_rules_180 : decode M8_rules.2.1 180 = .ok (.bipush 8, 2) := by decide +kernel
theorem d8_rules_182 : decode M8_rules.2.1 182 = .ok (.iload_n 3, 1) := by decide +kernel
theorem d8_rules_183 : decode M8_rules.2.1 183 = .ok (.imul, 1) := by decide +kernel
theorem d8_rules_184 : decode M8_rules.2.1 184 = .ok (.iload 4, 2) := by decide +kernel
theorem d8_rules_186 : decode M8_rules.2.1 186 = .ok (.iadd, 1) := by decide +kernel
theorem d8_rules_187 : decode M8_rules.2.1 187 = .ok (.iaload, 1) := by decide +kernel
theorem d8_rules_188 : decode M8_rules.2.1 188 = .ok (.iastore, 1) := by decide +kernel
theorem d8_rules_189 : decode M8_rules.2.1 189 = .ok (.iinc 4 1, 3) := by decide +kernel
theorem d8_rules_192 : decode M8_rules.2.1 192 = .ok (.goto (-34), 3) := by decide +kernel
theorem d8_rules_195 : decode M8_rules.2.1 195 = .ok (.iinc 3 1, 3) := by decide +kernel
theorem d8_rules_198 : decode M8_rules.2.1 198 = .ok (.goto (-75), 3) := by decide +kernel
theorem d8_rules_201 : decode M8_rules.2.1 201 = .ok (.iconst 0, 1) := by decide +kernel
theorem d8_rules_202 : decode M8_rules.2.1 202 = .ok (.ireturn, 1) := by decide +kernel
theorem d8_kindOf_0 : decode M8_kindOf.2.1 0 = .ok (.iconst 0, 1) := by decide +kernel
theorem d8_kindOf_1 : decode M8_kindOf.2.1 1 = .ok (.istore_n 3, 1) := by decide +kernel
theorem d8_kindOf_2 : decode M8_kindOf.2.1 2 = .ok (.iload_n 3, 1) := by decide +kernel
theorem d8_kindOf_3 : decode M8_kindOf.2.1 3 = .ok (.aload_n 0, 1) := by decide +kernel
theorem d8_kindOf_4 : decode M8_kindOf.2.1 4 = .ok (.getfield 215, 3) := by decide +kernel
theorem d8_kindOf_7 : decode M8_kindOf.2.1 7 = .ok (.if_icmp .ge 116, 3) := by decide +kernel
theorem d8_kindOf_10 : decode M8_kindOf.2.1 10 = .ok (.aload_n 0, 1) := by decide +kernel
theorem d8_kindOf_11 : decode M8_kindOf.2.1 11 = .ok (.getfield 48, 3) := by decide +kernel
theorem d8_kindOf_14 : decode M8_kindOf.2.1 14 = .ok (.iload_n 3, 1) := by decide +kernel
theorem d8_kindOf_15 : decode M8_kindOf.2.1 15 = .ok (.iaload, 1) := by decide +kernel
theorem d8_kindOf_16 : decode M8_kindOf.2.1 16 = .ok (.iload_n 2, 1) := by decide +kernel
theorem d8_kindOf_17 : decode M8_kindOf.2.1 17 = .ok (.iload_n 1, 1) := by decide +kernel
theorem d8_kindOf_18 : decode M8_kindOf.2.1 18 = .ok (.isub, 1) := by decide +kernel
theorem d8_kindOf_19 : decode M8_kindOf.2.1 19 = .ok (.if_icmp .ne 7, 3) := by decide +kernel
theorem d8_kindOf_22 : decode M8_kindOf.2.1 22 = .ok (.iconst 1, 1) := by decide +kernel
theorem d8_kindOf_23 : decode M8_kindOf.2.1 23 = .ok (.goto 4, 3) := by decide +kernel
theorem d8_kindOf_26 : decode M8_kindOf.2.1 26 = .ok (.iconst 0, 1) := by decide +kernel
theorem d8_kindOf_27 : decode M8_kindOf.2.1 27 = .ok (.istore 4, 2) := by decide +kernel
theorem d8_kindOf_29 : decode M8_kindOf.2.1 29 = .ok (.iconst 0, 1) := by decide +kernel
theorem d8_kindOf_30 : decode M8_kindOf.2.1 30 = .ok (.istore 5, 2) := by decide +kernel
theorem d8_kindOf_32 : decode M8_kindOf.2.1 32 = .ok (.iload 5, 2) := by decide +kernel
theorem d8_kindOf_34 : decode M8_kindOf.2.1 34 = .ok (.aload_n 0, 1) := by decide +kernel
theorem d8_kindOf_35 : decode M8_kindOf.2.1 35 = .ok (.getfield 48, 3) := by decide +kernel
theorem d8_kindOf_38 : decode M8_kindOf.2.1 38 = .ok (.iload_n 3, 1) := by decide +kernel
theorem d8_kindOf_39 : decode M8_kindOf.2.1 39 = .ok (.iaload, 1) := by decide +kernel
theorem d8_kindOf_40 : decode M8_kindOf.2.1 40 = .ok (.if_icmp .ge 65, 3) := by decide +kernel
theorem d8_kindOf_43 : decode M8_kindOf.2.1 43 = .ok (.iload 4, 2) := by decide +kernel
theorem d8_kindOf_45 : decode M8_kindOf.2.1 45 = .ok (.ifCond .eq 60, 3) := by decide +kernel
theorem d8_kindOf_48 : decode M8_kindOf.2.1 48 = .ok (.aload_n 0, 1) := by decide +kernel
theorem d8_kindOf_49 : decode M8_kindOf.2.1 49 = .ok (.getfield 7, 3) := by decide +kernel
theorem d8_kindOf_52 : decode M8_kindOf.2.1 52 = .ok (.iload_n 1, 1) := by decide +kernel
theorem d8_kindOf_53 : decode M8_kindOf.2.1 53 = .ok (.iload 5, 2) := by decide +kernel
theorem d8_kindOf_55 : decode M8_kindOf.2.1 55 = .ok (.iadd, 1) := by decide +kernel
theorem d8_kindOf_56 : decode M8_kindOf.2.1 56 = .ok (.baload, 1) := by decide +kernel
theorem d8_kindOf_57 : decode M8_kindOf.2.1 57 = .ok (.sipush 255, 3) := by decide +kernel
theorem d8_kindOf_60 : decode M8_kindOf.2.1 60 = .ok (.iand, 1) := by decide +kernel
theorem d8_kindOf_61 : decode M8_kindOf.2.1 61 = .ok (.i2l, 1) := by decide +kernel
theorem d8_kindOf_62 : decode M8_kindOf.2.1 62 = .ok (.aload_n 0, 1) := by decide +kernel
theorem d8_kindOf_63 : decode M8_kindOf.2.1 63 = .ok (.getfield 51, 3) := by decide +kernel
theorem d8_kindOf_66 : decode M8_kindOf.2.1 66 = .ok (.bipush 8, 2) := by decide +kernel
theorem d8_kindOf_68 : decode M8_kindOf.2.1 68 = .ok (.iload_n 3, 1) := by decide +kernel
theorem d8_kindOf_69 : decode M8_kindOf.2.1 69 = .ok (.imul, 1) := by decide +kernel
theorem d8_kindOf_70 : decode M8_kindOf.2.1 70 = .ok (.iconst 2, 1) := by decide +kernel
theorem d8_kindOf_71 : decode M8_kindOf.2.1 71 = .ok (.iload 5, 2) := by decide +kernel
theorem d8_kindOf_73 : decode M8_kindOf.2.1 73 = .ok (.imul, 1) := by decide +kernel
theorem d8_kindOf_74 : decode M8_kindOf.2.1 74 = .ok (.iadd, 1) := by decide +kernel
theorem d8_kindOf_75 : decode M8_kindOf.2.1 75 = .ok (.iaload, 1) := by decide +kernel
theorem d8_kindOf_76 : decode M8_kindOf.2.1 76 = .ok (.i2l, 1) := by decide +kernel
theorem d8_kindOf_77 : decode M8_kindOf.2.1 77 = .ok (.aload_n 0, 1) := by decide +kernel
theorem d8_kindOf_78 : decode M8_kindOf.2.1 78 = .ok (.getfield 51, 3) := by decide +kernel
theorem d8_kindOf_81 : decode M8_kindOf.2.1 81 = .ok (.bipush 8, 2) := by decide +kernel
theorem d8_kindOf_83 : decode M8_kindOf.2.1 83 = .ok (.iload_n 3, 1) := by decide +kernel
theorem d8_kindOf_84 : decode M8_kindOf.2.1 84 = .ok (.imul, 1) := by decide +kernel
theorem d8_kindOf_85 : decode M8_kindOf.2.1 85 = .ok (.iconst 2, 1) := by decide +kernel
theorem d8_kindOf_86 : decode M8_kindOf.2.1 86 = .ok (.iload 5, 2) := by decide +kernel
theorem d8_kindOf_88 : decode M8_kindOf.2.1 88 = .ok (.imul, 1) := by decide +kernel
theorem d8_kindOf_89 : decode M8_kindOf.2.1 89 = .ok (.iadd, 1) := by decide +kernel
theorem d8_kindOf_90 : decode M8_kindOf.2.1 90 = .ok (.iconst 1, 1) := by decide +kernel
theorem d8_kindOf_91 : decode M8_kindOf.2.1 91 = .ok (.iadd, 1) := by decide +kernel
theorem d8_kindOf_92 : decode M8_kindOf.2.1 92 = .ok (.iaload, 1) := by decide +kernel
theorem d8_kindOf_93 : decode M8_kindOf.2.1 93 = .ok (.i2l, 1) := by decide +kernel
theorem d8_kindOf_94 : decode M8_kindOf.2.1 94 = .ok (.invokestatic 74, 3) := by decide +kernel
theorem d8_kindOf_97 : decode M8_kindOf.2.1 97 = .ok (.istore 4, 2) := by decide +kernel
theorem d8_kindOf_99 : decode M8_kindOf.2.1 99 = .ok (.iinc 5 1, 3) := by decide +kernel
theorem d8_kindOf_102 : decode M8_kindOf.2.1 102 = .ok (.goto (-70), 3) := by decide +kernel
theorem d8_kindOf_105 : decode M8_kindOf.2.1 105 = .ok (.iload 4, 2) := by decide +kernel
theorem d8_kindOf_107 : decode M8_kindOf.2.1 107 = .ok (.ifCond .eq 10, 3) := by decide +kernel
theorem d8_kindOf_110 : decode M8_kindOf.2.1 110 = .ok (.aload_n 0, 1) := by decide +kernel
theorem d8_kindOf_111 : decode M8_kindOf.2.1 111 = .ok (.getfield 45, 3) := by decide +kernel
theorem d8_kindOf_114 : decode M8_kindOf.2.1 114 = .ok (.iload_n 3, 1) := by decide +kernel
theorem d8_kindOf_115 : decode M8_kindOf.2.1 115 = .ok (.iaload, 1) := by decide +kernel
theorem d8_kindOf_116 : decode M8_kindOf.2.1 116 = .ok (.ireturn, 1) := by decide +kernel
theorem d8_kindOf_117 : decode M8_kindOf.2.1 117 = .ok (.iinc 3 1, 3) := by decide +kernel
theorem d8_kindOf_120 : decode M8_kindOf.2.1 120 = .ok (.goto (-118), 3) := by decide +kernel
theorem d8_kindOf_123 : decode M8_kindOf.2.1 123 = .ok (.bipush 9, 2) := by decide +kernel
theorem d8_kindOf_125 : decode M8_kindOf.2.1 125 = .ok (.ireturn, 1) := by decide +kernel
theorem d8_pass_0 : decode M8_pass.2.1 0 = .ok (.aload_n 0, 1) := by decide +kernel
theorem d8_pass_1 : decode M8_pass.2.1 1 = .ok (.iload_n 1, 1) := by decide +kernel
theorem d8_pass_2 : decode M8_pass.2.1 2 = .ok (.invokevirtual 112, 3) := by decide +kernel
theorem d8_pass_5 : decode M8_pass.2.1 5 = .ok (.ifCond .eq 15, 3) := by decide +kernel
theorem d8_pass_8 : decode M8_pass.2.1 8 = .ok (.iload_n 2, 1) := by decide +kernel
theorem d8_pass_9 : decode M8_pass.2.1 9 = .ok (.ifCond .lt 11, 3) := by decide +kernel
theorem d8_pass_12 : decode M8_pass.2.1 12 = .ok (.iload_n 2, 1) := by decide +kernel
theorem d8_pass_13 : decode M8_pass.2.1 13 = .ok (.aload_n 0, 1) := by decide +kernel
theorem d8_pass_14 : decode M8_pass.2.1 14 = .ok (.getfield 172, 3) := by decide +kernel
theorem d8_pass_17 : decode M8_pass.2.1 17 = .ok (.if_icmp .le 5, 3) := by decide +kernel
theorem d8_pass_20 : decode M8_pass.2.1 20 = .ok (.iconst (-1), 1) := by decide +kernel
theorem d8_pass_21 : decode M8_pass.2.1 21 = .ok (.ireturn, 1) := by decide +kernel
theorem d8_pass_22 : decode M8_pass.2.1 22 = .ok (.aload_n 0, 1) := by decide +kernel
theorem d8_pass_23 : decode M8_pass.2.1 23 = .ok (.iconst 0, 1) := by decide +kernel
theorem d8_pass_24 : decode M8_pass.2.1 24 = .ok (.putfield 172, 3) := by decide +kernel
theorem d8_pass_27 : decode M8_pass.2.1 27 = .ok (.iconst 0, 1) := by decide +kernel
theorem d8_pass_28 : decode M8_pass.2.1 28 = .ok (.istore_n 3, 1) := by decide +kernel
theorem d8_pass_29 : decode M8_pass.2.1 29 = .ok (.iconst 0, 1) := by decide +kernel
theorem d8_pass_30 : decode M8_pass.2.1 30 = .ok (.istore 4, 2) := by decide +kernel
theorem d8_pass_32 : decode M8_pass.2.1 32 = .ok (.iconst 0, 1) := by decide +kernel
theorem d8_pass_33 : decode M8_pass.2.1 33 = .ok (.istore 5, 2) := by decide +kernel
theorem d8_pass_35 : decode M8_pass.2.1 35 = .ok (.iload 5, 2) := by decide +kernel
theorem d8_pass_37 : decode M8_pass.2.1 37 = .ok (.iload_n 2, 1) := by decide +kernel
theorem d8_pass_38 : decode M8_pass.2.1 38 = .ok (.if_icmp .gt 66, 3) := by decide +kernel
theorem d8_pass_41 : decode M8_pass.2.1 41 = .ok (.iload 5, 2) := by decide +kernel
theorem d8_pass_43 : decode M8_pass.2.1 43 = .ok (.iload_n 2, 1) := by decide +kernel
theorem d8_pass_44 : decode M8_pass.2.1 44 = .ok (.if_icmp .ge 16, 3) := by decide +kernel
theorem d8_pass_47 : decode M8_pass.2.1 47 = .ok (.aload_n 0, 1) := by decide +kernel
theorem d8_pass_48 : decode M8_pass.2.1 48 = .ok (.getfield 7, 3) := by decide +kernel
theorem d8_pass_51 : decode M8_pass.2.1 51 = .ok (.iload 5, 2) := by decide +kernel
theorem d8_pass_53 : decode M8_pass.2.1 53 = .ok (.baload, 1) := by decide +kernel
theorem d8_pass_54 : decode M8_pass.2.1 54 = .ok (.ifCond .eq 6, 3) := by decide +kernel
theorem d8_pass_57 : decode M8_pass.2.1 57 = .ok (.goto 41, 3) := by decide +kernel
theorem d8_pass_60 : decode M8_pass.2.1 60 = .ok (.iload 5, 2) := by decide +kernel
theorem d8_pass_62 : decode M8_pass.2.1 62 = .ok (.iload 4, 2) := by decide +kernel
theorem d8_pass_64 : decode M8_pass.2.1 64 = .ok (.if_icmp .le 28, 3) := by decide +kernel
theorem d8_pass_67 : decode M8_pass.2.1 67 = .ok (.aload_n 0, 1) := by decide +kernel
theorem d8_pass_68 : decode M8_pass.2.1 68 = .ok (.getfield 42, 3) := by decide +kernel
theorem d8_pass_71 : decode M8_pass.2.1 71 = .ok (.bipush 10, 2) := by decide +kernel
theorem d8_pass_73 : decode M8_pass.2.1 73 = .ok (.iload_n 1, 1) := by decide +kernel
theorem d8_pass_74 : decode M8_pass.2.1 74 = .ok (.imul, 1) := by decide +kernel
theorem d8_pass_75 : decode M8_pass.2.1 75 = .ok (.aload_n 0, 1) := by decide +kernel
theorem d8_pass_76 : decode M8_pass.2.1 76 = .ok (.iload 4, 2) := by decide +kernel
theorem d8_pass_78 : decode M8_pass.2.1 78 = .ok (.iload 5, 2) := by decide +kernel
theorem d8_pass_80 : decode M8_pass.2.1 80 = .ok (.invokevirtual 218, 3) := by decide +kernel
theorem d8_pass_83 : decode M8_pass.2.1 83 = .ok (.iadd, 1) := by decide +kernel
theorem d8_pass_84 : decode M8_pass.2.1 84 = .ok (.dup2, 1) := by decide +kernel
theorem d8_pass_85 : decode M8_pass.2.1 85 = .ok (.iaload, 1) := by decide +kernel
theorem d8_pass_86 : decode M8_pass.2.1 86 = .ok (.iconst 1, 1) := by decide +kernel
theorem d8_pass_87 : decode M8_pass.2.1 87 = .ok (.iadd, 1) := by decide +kernel
theorem d8_pass_88 : decode M8_pass.2.1 88 = .ok (.iastore, 1) := by decide +kernel
theorem d8_pass_89 : decode M8_pass.2.1 89 = .ok (.iinc 3 1, 3) := by decide +kernel
theorem d8_pass_92 : decode M8_pass.2.1 92 = .ok (.iload 5, 2) := by decide +kernel
theorem d8_pass_94 : decode M8_pass.2.1 94 = .ok (.iconst 1, 1) := by decide +kernel
theorem d8_pass_95 : decode M8_pass.2.1 95 = .ok (.iadd, 1) := by decide +kernel
theorem d8_pass_96 : decode M8_pass.2.1 96 = .ok (.istore 4, 2) := by decide +kernel
theorem d8_pass_98 : decode M8_pass.2.1 98 = .ok (.iinc 5 1, 3) := by decide +kernel
theorem d8_pass_101 : decode M8_pass.2.1 101 = .ok (.goto (-66), 3) := by decide +kernel
theorem d8_pass_104 : decode M8_pass.2.1 104 = .ok (.iload_n 3, 1) := by decide +kernel
theorem d8_pass_105 : decode M8_pass.2.1 105 = .ok (.ireturn, 1) := by decide +kernel
theorem d8_kinds_0 : decode M8_kinds.2.1 0 = .ok (.aload_n 0, 1) := by decide +kernel
theorem d8_kinds_1 : decode M8_kinds.2.1 1 = .ok (.iload_n 1, 1) := by decide +kernel
theorem d8_kinds_2 : decode M8_kinds.2.1 2 = .ok (.invokevirtual 112, 3) := by decide +kernel
theorem d8_kinds_5 : decode M8_kinds.2.1 5 = .ok (.ifCond .eq 29, 3) := by decide +kernel
theorem d8_kinds_8 : decode M8_kinds.2.1 8 = .ok (.iload_n 2, 1) := by decide +kernel
theorem d8_kinds_9 : decode M8_kinds.2.1 9 = .ok (.i2l, 1) := by decide +kernel
theorem d8_kinds_10 : decode M8_kinds.2.1 10 = .ok (.lconst 0, 1) := by decide +kernel
theorem d8_kinds_11 : decode M8_kinds.2.1 11 = .ok (.ldc2_w 222, 3) := by decide +kernel
theorem d8_kinds_14 : decode M8_kinds.2.1 14 = .ok (.invokestatic 74, 3) := by decide +kernel
theorem d8_kinds_17 : decode M8_kinds.2.1 17 = .ok (.ifCond .eq 17, 3) := by decide +kernel
theorem d8_kinds_20 : decode M8_kinds.2.1 20 = .ok (.aload_n 0, 1) := by decide +kernel
theorem d8_kinds_21 : decode M8_kinds.2.1 21 = .ok (.getfield 42, 3) := by decide +kernel
theorem d8_kinds_24 : decode M8_kinds.2.1 24 = .ok (.bipush 10, 2) := by decide +kernel
theorem d8_kinds_26 : decode M8_kinds.2.1 26 = .ok (.iload_n 1, 1) := by decide +kernel
theorem d8_kinds_27 : decode M8_kinds.2.1 27 = .ok (.imul, 1) := by decide +kernel
theorem d8_kinds_28 : decode M8_kinds.2.1 28 = .ok (.iload_n 2, 1) := by decide +kernel
theorem d8_kinds_29 : decode M8_kinds.2.1 29 = .ok (.iadd, 1) := by decide +kernel
theorem d8_kinds_30 : decode M8_kinds.2.1 30 = .ok (.iaload, 1) := by decide +kernel
theorem d8_kinds_31 : decode M8_kinds.2.1 31 = .ok (.goto 4, 3) := by decide +kernel
theorem d8_kinds_34 : decode M8_kinds.2.1 34 = .ok (.iconst (-1), 1) := by decide +kernel
theorem d8_kinds_35 : decode M8_kinds.2.1 35 = .ok (.ireturn, 1) := by decide +kernel
theorem d8_look_0 : decode M8_look.2.1 0 = .ok (.aload_n 0, 1) := by decide +kernel
theorem d8_look_1 : decode M8_look.2.1 1 = .ok (.iload_n 1, 1) := by decide +kernel
theorem d8_look_2 : decode M8_look.2.1 2 = .ok (.invokevirtual 112, 3) := by decide +kernel
theorem d8_look_5 : decode M8_look.2.1 5 = .ok (.ifCond .ne 5, 3) := by decide +kernel
theorem d8_look_8 : decode M8_look.2.1 8 = .ok (.iconst (-1), 1) := by decide +kernel
theorem d8_look_9 : decode M8_look.2.1 9 = .ok (.ireturn, 1) := by decide +kernel
theorem d8_look_10 : decode M8_look.2.1 10 = .ok (.iload_n 2, 1) := by decide +kernel
theorem d8_look_11 : decode M8_look.2.1 11 = .ok (.i2l, 1) := by decide +kernel
theorem d8_look_12 : decode M8_look.2.1 12 = .ok (.ldc2_w 224, 3) := by decide +kernel
theorem d8_look_15 : decode M8_look.2.1 15 = .ok (.ldc2_w 226, 3) := by decide +kernel
theorem d8_look_18 : decode M8_look.2.1 18 = .ok (.invokestatic 74, 3) := by decide +kernel
theorem d8_look_21 : decode M8_look.2.1 21 = .ok (.ifCond .eq 19, 3) := by decide +kernel
theorem d8_look_24 : decode M8_look.2.1 24 = .ok (.aload_n 0, 1) := by decide +kernel
theorem d8_look_25 : decode M8_look.2.1 25 = .ok (.getfield 36, 3) := by decide +kernel
theorem d8_look_28 : decode M8_look.2.1 28 = .ok (.sipush 364, 3) := by decide +kernel
theorem d8_look_31 : decode M8_look.2.1 31 = .ok (.iload_n 1, 1) := by decide +kernel
theorem d8_look_32 : decode M8_look.2.1 32 = .ok (.imul, 1) := by decide +kernel
theorem d8_look_33 : decode M8_look.2.1 33 = .ok (.iload_n 2, 1) := by decide +kernel
theorem d8_look_34 : decode M8_look.2.1 34 = .ok (.iadd, 1) := by decide +kernel
theorem d8_look_35 : decode M8_look.2.1 35 = .ok (.bipush 100, 2) := by decide +kernel
theorem d8_look_37 : decode M8_look.2.1 37 = .ok (.isub, 1) := by decide +kernel
theorem d8_look_38 : decode M8_look.2.1 38 = .ok (.iaload, 1) := by decide +kernel
theorem d8_look_39 : decode M8_look.2.1 39 = .ok (.ireturn, 1) := by decide +kernel
theorem d8_look_40 : decode M8_look.2.1 40 = .ok (.iload_n 2, 1) := by decide +kernel
theorem d8_look_41 : decode M8_look.2.1 41 = .ok (.tableswitch 80 0 5 #[39, 46, 53, 60, 67, 74], 39) := by decide +kernel
theorem d8_look_80 : decode M8_look.2.1 80 = .ok (.aload_n 0, 1) := by decide +kernel
theorem d8_look_81 : decode M8_look.2.1 81 = .ok (.getfield 24, 3) := by decide +kernel
theorem d8_look_84 : decode M8_look.2.1 84 = .ok (.iload_n 1, 1) := by decide +kernel
theorem d8_look_85 : decode M8_look.2.1 85 = .ok (.iaload, 1) := by decide +kernel
theorem d8_look_86 : decode M8_look.2.1 86 = .ok (.ireturn, 1) := by decide +kernel
theorem d8_look_87 : decode M8_look.2.1 87 = .ok (.aload_n 0, 1) := by decide +kernel
theorem d8_look_88 : decode M8_look.2.1 88 = .ok (.getfield 27, 3) := by decide +kernel
theorem d8_look_91 : decode M8_look.2.1 91 = .ok (.iload_n 1, 1) := by decide +kernel
theorem d8_look_92 : decode M8_look.2.1 92 = .ok (.iaload, 1) := by decide +kernel
theorem d8_look_93 : decode M8_look.2.1 93 = .ok (.ireturn, 1) := by decide +kernel
theorem d8_look_94 : decode M8_look.2.1 94 = .ok (.aload_n 0, 1) := by decide +kernel
theorem d8_look_95 : decode M8_look.2.1 95 = .ok (.getfield 30, 3) := by decide +kernel
theorem d8_look_98 : decode M8_look.2.1 98 = .ok (.iload_n 1, 1) := by decide +kernel
theorem d8_look_99 : decode M8_look.2.1 99 = .ok (.iaload, 1) := by decide +kernel
theorem d8_look_100 : decode M8_look.2.1 100 = .ok (.ireturn, 1) := by decide +kernel
theorem d8_look_101 : decode M8_look.2.1 101 = .ok (.aload_n 0, 1) := by decide +kernel
theorem d8_look_102 : decode M8_look.2.1 102 = .ok (.getfield 33, 3) := by decide +kernel
theorem d8_look_105 : decode M8_look.2.1 105 = .ok (.iload_n 1, 1) := by decide +kernel
theorem d8_look_106 : decode M8_look.2.1 106 = .ok (.iaload, 1) := by decide +kernel
theorem d8_look_107 : decode M8_look.2.1 107 = .ok (.ireturn, 1) := by decide +kernel
theorem d8_look_108 : decode M8_look.2.1 108 = .ok (.aload_n 0, 1) := by decide +kernel
theorem d8_look_109 : decode M8_look.2.1 109 = .ok (.getfield 39, 3) := by decide +kernel
theorem d8_look_112 : decode M8_look.2.1 112 = .ok (.iload_n 1, 1) := by decide +kernel
theorem d8_look_113 : decode M8_look.2.1 113 = .ok (.iaload, 1) := by decide +kernel
theorem d8_look_114 : decode M8_look.2.1 114 = .ok (.ireturn, 1) := by decide +kernel
theorem d8_look_115 : decode M8_look.2.1 115 = .ok (.aload_n 0, 1) := by decide +kernel
theorem d8_look_116 : decode M8_look.2.1 116 = .ok (.iload_n 1, 1) := by decide +kernel
theorem d8_look_117 : decode M8_look.2.1 117 = .ok (.invokevirtual 127, 3) := by decide +kernel
theorem d8_look_120 : decode M8_look.2.1 120 = .ok (.ireturn, 1) := by decide +kernel
theorem d8_look_121 : decode M8_look.2.1 121 = .ok (.iconst (-1), 1) := by decide +kernel
theorem d8_look_122 : decode M8_look.2.1 122 = .ok (.ireturn, 1) := by decide +kernel
theorem d8_tell_0 : decode M8_tell.2.1 0 = .ok (.iload_n 1, 1) := by decide +kernel
theorem d8_tell_1 : decode M8_tell.2.1 1 = .ok (.tableswitch 82 0 5 #[39, 44, 49, 54, 59, 67], 39) := by decide +kernel
theorem d8_tell_40 : decode M8_tell.2.1 40 = .ok (.aload_n 0, 1) := by decide +kernel
theorem d8_tell_41 : decode M8_tell.2.1 41 = .ok (.getfield 70, 3) := by decide +kernel
theorem d8_tell_44 : decode M8_tell.2.1 44 = .ok (.ireturn, 1) := by decide +kernel
theorem d8_tell_45 : decode M8_tell.2.1 45 = .ok (.aload_n 0, 1) := by decide +kernel
theorem d8_tell_46 : decode M8_tell.2.1 46 = .ok (.getfield 92, 3) := by decide +kernel
theorem d8_tell_49 : decode M8_tell.2.1 49 = .ok (.ireturn, 1) := by decide +kernel
theorem d8_tell_50 : decode M8_tell.2.1 50 = .ok (.aload_n 0, 1) := by decide +kernel
theorem d8_tell_51 : decode M8_tell.2.1 51 = .ok (.getfield 215, 3) := by decide +kernel
theorem d8_tell_54 : decode M8_tell.2.1 54 = .ok (.ireturn, 1) := by decide +kernel
theorem d8_tell_55 : decode M8_tell.2.1 55 = .ok (.aload_n 0, 1) := by decide +kernel
theorem d8_tell_56 : decode M8_tell.2.1 56 = .ok (.getfield 172, 3) := by decide +kernel
theorem d8_tell_59 : decode M8_tell.2.1 59 = .ok (.ireturn, 1) := by decide +kernel
theorem d8_tell_60 : decode M8_tell.2.1 60 = .ok (.aload_n 0, 1) := by decide +kernel
theorem d8_tell_61 : decode M8_tell.2.1 61 = .ok (.invokevirtual 153, 3) := by decide +kernel
theorem d8_tell_64 : decode M8_tell.2.1 64 = .ok (.invokestatic 147, 3) := by decide +kernel
theorem d8_tell_67 : decode M8_tell.2.1 67 = .ok (.ireturn, 1) := by decide +kernel
theorem d8_tell_68 : decode M8_tell.2.1 68 = .ok (.aload_n 0, 1) := by decide +kernel
theorem d8_tell_69 : decode M8_tell.2.1 69 = .ok (.invokevirtual 160, 3) := by decide +kernel
theorem d8_tell_72 : decode M8_tell.2.1 72 = .ok (.aload_n 0, 1) := by decide +kernel
theorem d8_tell_73 : decode M8_tell.2.1 73 = .ok (.invokevirtual 153, 3) := by decide +kernel
theorem d8_tell_76 : decode M8_tell.2.1 76 = .ok (.iconst (-1), 1) := by decide +kernel
theorem d8_tell_77 : decode M8_tell.2.1 77 = .ok (.ixor, 1) := by decide +kernel
theorem d8_tell_78 : decode M8_tell.2.1 78 = .ok (.iand, 1) := by decide +kernel
theorem d8_tell_79 : decode M8_tell.2.1 79 = .ok (.invokestatic 147, 3) := by decide +kernel
theorem d8_tell_82 : decode M8_tell.2.1 82 = .ok (.ireturn, 1) := by decide +kernel
theorem d8_tell_83 : decode M8_tell.2.1 83 = .ok (.iconst (-1), 1) := by decide +kernel
theorem d8_tell_84 : decode M8_tell.2.1 84 = .ok (.ireturn, 1) := by decide +kernel
