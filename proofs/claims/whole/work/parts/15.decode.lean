/-! DECODE ROWS X12 -/
theorem dX12_isIn_0 : decode cX12_isIn 0 = .ok (.lload_n 0, 1) := by decide +kernel
theorem dX12_isIn_1 : decode cX12_isIn 1 = .ok (.lload_n 2, 1) := by decide +kernel
theorem dX12_isIn_2 : decode cX12_isIn 2 = .ok (.lcmp, 1) := by decide +kernel
theorem dX12_isIn_3 : decode cX12_isIn 3 = .ok (.ifCond .lt 14, 3) := by decide +kernel
theorem dX12_isIn_6 : decode cX12_isIn 6 = .ok (.lload_n 0, 1) := by decide +kernel
theorem dX12_isIn_7 : decode cX12_isIn 7 = .ok (.lload 4, 2) := by decide +kernel
theorem dX12_isIn_9 : decode cX12_isIn 9 = .ok (.lcmp, 1) := by decide +kernel
theorem dX12_isIn_10 : decode cX12_isIn 10 = .ok (.ifCond .gt 7, 3) := by decide +kernel
theorem dX12_isIn_13 : decode cX12_isIn 13 = .ok (.iconst 1, 1) := by decide +kernel
theorem dX12_isIn_14 : decode cX12_isIn 14 = .ok (.goto 4, 3) := by decide +kernel
theorem dX12_isIn_17 : decode cX12_isIn 17 = .ok (.iconst 0, 1) := by decide +kernel
theorem dX12_isIn_18 : decode cX12_isIn 18 = .ok (.ireturn, 1) := by decide +kernel
theorem dX12_one_0 : decode cX12_one 0 = .ok (.iload_n 0, 1) := by decide +kernel
theorem dX12_one_1 : decode cX12_one 1 = .ok (.ifCond .eq 7, 3) := by decide +kernel
theorem dX12_one_4 : decode cX12_one 4 = .ok (.iconst 1, 1) := by decide +kernel
theorem dX12_one_5 : decode cX12_one 5 = .ok (.goto 4, 3) := by decide +kernel
theorem dX12_one_8 : decode cX12_one 8 = .ok (.iconst 0, 1) := by decide +kernel
theorem dX12_one_9 : decode cX12_one 9 = .ok (.ireturn, 1) := by decide +kernel
theorem dX12_init_0 : decode cX12_init 0 = .ok (.aload_n 0, 1) := by decide +kernel
theorem dX12_init_1 : decode cX12_init 1 = .ok (.invokespecial 3, 3) := by decide +kernel
theorem dX12_init_4 : decode cX12_init 4 = .ok (.aload_n 0, 1) := by decide +kernel
theorem dX12_init_5 : decode cX12_init 5 = .ok (.iconst 5, 1) := by decide +kernel
theorem dX12_init_6 : decode cX12_init 6 = .ok (.newarray .int, 2) := by decide +kernel
theorem dX12_init_8 : decode cX12_init 8 = .ok (.putfield 9, 3) := by decide +kernel
theorem dX12_init_11 : decode cX12_init 11 = .ok (.aload_n 0, 1) := by decide +kernel
theorem dX12_init_12 : decode cX12_init 12 = .ok (.bipush 100, 2) := by decide +kernel
theorem dX12_init_14 : decode cX12_init 14 = .ok (.newarray .int, 2) := by decide +kernel
theorem dX12_init_16 : decode cX12_init 16 = .ok (.putfield 15, 3) := by decide +kernel
theorem dX12_init_19 : decode cX12_init 19 = .ok (.aload_n 0, 1) := by decide +kernel
theorem dX12_init_20 : decode cX12_init 20 = .ok (.sipush 800, 3) := by decide +kernel
theorem dX12_init_23 : decode cX12_init 23 = .ok (.newarray .int, 2) := by decide +kernel
theorem dX12_init_25 : decode cX12_init 25 = .ok (.putfield 18, 3) := by decide +kernel
theorem dX12_init_28 : decode cX12_init 28 = .ok (.aload_n 0, 1) := by decide +kernel
theorem dX12_init_29 : decode cX12_init 29 = .ok (.iconst (-1), 1) := by decide +kernel
theorem dX12_init_30 : decode cX12_init 30 = .ok (.putfield 21, 3) := by decide +kernel
theorem dX12_init_33 : decode cX12_init 33 = .ok (.aload_n 0, 1) := by decide +kernel
theorem dX12_init_34 : decode cX12_init 34 = .ok (.iconst (-1), 1) := by decide +kernel
theorem dX12_init_35 : decode cX12_init 35 = .ok (.putfield 25, 3) := by decide +kernel
theorem dX12_init_38 : decode cX12_init 38 = .ok (.aload_n 0, 1) := by decide +kernel
theorem dX12_init_39 : decode cX12_init 39 = .ok (.iconst (-1), 1) := by decide +kernel
theorem dX12_init_40 : decode cX12_init 40 = .ok (.putfield 28, 3) := by decide +kernel
theorem dX12_init_43 : decode cX12_init 43 = .ok (.aload_n 0, 1) := by decide +kernel
theorem dX12_init_44 : decode cX12_init 44 = .ok (.iconst (-1), 1) := by decide +kernel
theorem dX12_init_45 : decode cX12_init 45 = .ok (.putfield 31, 3) := by decide +kernel
theorem dX12_init_48 : decode cX12_init 48 = .ok (.aload_n 0, 1) := by decide +kernel
theorem dX12_init_49 : decode cX12_init 49 = .ok (.ldc 34, 2) := by decide +kernel
theorem dX12_init_51 : decode cX12_init 51 = .ok (.newarray .long, 2) := by decide +kernel
theorem dX12_init_53 : decode cX12_init 53 = .ok (.putfield 35, 3) := by decide +kernel
theorem dX12_init_56 : decode cX12_init 56 = .ok (.aload_n 0, 1) := by decide +kernel
theorem dX12_init_57 : decode cX12_init 57 = .ok (.iconst (-1), 1) := by decide +kernel
theorem dX12_init_58 : decode cX12_init 58 = .ok (.putfield 39, 3) := by decide +kernel
theorem dX12_init_61 : decode cX12_init 61 = .ok (.aload_n 0, 1) := by decide +kernel
theorem dX12_init_62 : decode cX12_init 62 = .ok (.sipush 6001, 3) := by decide +kernel
theorem dX12_init_65 : decode cX12_init 65 = .ok (.newarray .long, 2) := by decide +kernel
theorem dX12_init_67 : decode cX12_init 67 = .ok (.putfield 42, 3) := by decide +kernel
theorem dX12_init_70 : decode cX12_init 70 = .ok (.aload_n 0, 1) := by decide +kernel
theorem dX12_init_71 : decode cX12_init 71 = .ok (.iconst 5, 1) := by decide +kernel
theorem dX12_init_72 : decode cX12_init 72 = .ok (.newarray .int, 2) := by decide +kernel
theorem dX12_init_74 : decode cX12_init 74 = .ok (.putfield 45, 3) := by decide +kernel
theorem dX12_init_77 : decode cX12_init 77 = .ok (.aload_n 0, 1) := by decide +kernel
theorem dX12_init_78 : decode cX12_init 78 = .ok (.iconst 5, 1) := by decide +kernel
theorem dX12_init_79 : decode cX12_init 79 = .ok (.newarray .int, 2) := by decide +kernel
theorem dX12_init_81 : decode cX12_init 81 = .ok (.putfield 48, 3) := by decide +kernel
theorem dX12_init_84 : decode cX12_init 84 = .ok (.aload_n 0, 1) := by decide +kernel
theorem dX12_init_85 : decode cX12_init 85 = .ok (.sipush 600, 3) := by decide +kernel
theorem dX12_init_88 : decode cX12_init 88 = .ok (.newarray .int, 2) := by decide +kernel
theorem dX12_init_90 : decode cX12_init 90 = .ok (.putfield 51, 3) := by decide +kernel
theorem dX12_init_93 : decode cX12_init 93 = .ok (.aload_n 0, 1) := by decide +kernel
theorem dX12_init_94 : decode cX12_init 94 = .ok (.bipush 120, 2) := by decide +kernel
theorem dX12_init_96 : decode cX12_init 96 = .ok (.newarray .long, 2) := by decide +kernel
theorem dX12_init_98 : decode cX12_init 98 = .ok (.putfield 54, 3) := by decide +kernel
theorem dX12_init_101 : decode cX12_init 101 = .ok (.aload_n 0, 1) := by decide +kernel
theorem dX12_init_102 : decode cX12_init 102 = .ok (.iconst 5, 1) := by decide +kernel
theorem dX12_init_103 : decode cX12_init 103 = .ok (.newarray .int, 2) := by decide +kernel
theorem dX12_init_105 : decode cX12_init 105 = .ok (.putfield 57, 3) := by decide +kernel
theorem dX12_init_108 : decode cX12_init 108 = .ok (.aload_n 0, 1) := by decide +kernel
theorem dX12_init_109 : decode cX12_init 109 = .ok (.bipush 60, 2) := by decide +kernel
theorem dX12_init_111 : decode cX12_init 111 = .ok (.newarray .int, 2) := by decide +kernel
theorem dX12_init_113 : decode cX12_init 113 = .ok (.putfield 60, 3) := by decide +kernel
theorem dX12_init_116 : decode cX12_init 116 = .ok (.aload_n 0, 1) := by decide +kernel
theorem dX12_init_117 : decode cX12_init 117 = .ok (.sipush 1800, 3) := by decide +kernel
theorem dX12_init_120 : decode cX12_init 120 = .ok (.newarray .int, 2) := by decide +kernel
theorem dX12_init_122 : decode cX12_init 122 = .ok (.putfield 63, 3) := by decide +kernel
theorem dX12_init_125 : decode cX12_init 125 = .ok (.aload_n 0, 1) := by decide +kernel
theorem dX12_init_126 : decode cX12_init 126 = .ok (.sipush 1800, 3) := by decide +kernel
theorem dX12_init_129 : decode cX12_init 129 = .ok (.newarray .int, 2) := by decide +kernel
theorem dX12_init_131 : decode cX12_init 131 = .ok (.putfield 66, 3) := by decide +kernel
theorem dX12_init_134 : decode cX12_init 134 = .ok (.aload_n 0, 1) := by decide +kernel
theorem dX12_init_135 : decode cX12_init 135 = .ok (.iconst 4, 1) := by decide +kernel
theorem dX12_init_136 : decode cX12_init 136 = .ok (.newarray .int, 2) := by decide +kernel
theorem dX12_init_138 : decode cX12_init 138 = .ok (.putfield 69, 3) := by decide +kernel
theorem dX12_init_141 : decode cX12_init 141 = .ok (.aload_n 0, 1) := by decide +kernel
theorem dX12_init_142 : decode cX12_init 142 = .ok (.bipush 6, 2) := by decide +kernel
theorem dX12_init_144 : decode cX12_init 144 = .ok (.newarray .int, 2) := by decide +kernel
theorem dX12_init_146 : decode cX12_init 146 = .ok (.putfield 72, 3) := by decide +kernel
theorem dX12_init_149 : decode cX12_init 149 = .ok (.aload_n 0, 1) := by decide +kernel
theorem dX12_init_150 : decode cX12_init 150 = .ok (.sipush 130, 3) := by decide +kernel
theorem dX12_init_153 : decode cX12_init 153 = .ok (.newarray .long, 2) := by decide +kernel
theorem dX12_init_155 : decode cX12_init 155 = .ok (.putfield 75, 3) := by decide +kernel
theorem dX12_init_158 : decode cX12_init 158 = .ok (.aload_n 0, 1) := by decide +kernel
theorem dX12_init_159 : decode cX12_init 159 = .ok (.bipush 7, 2) := by decide +kernel
theorem dX12_init_161 : decode cX12_init 161 = .ok (.newarray .int, 2) := by decide +kernel
theorem dX12_init_163 : decode cX12_init 163 = .ok (.putfield 78, 3) := by decide +kernel
theorem dX12_init_166 : decode cX12_init 166 = .ok (.aload_n 0, 1) := by decide +kernel
theorem dX12_init_167 : decode cX12_init 167 = .ok (.sipush 360, 3) := by decide +kernel
theorem dX12_init_170 : decode cX12_init 170 = .ok (.newarray .long, 2) := by decide +kernel
theorem dX12_init_172 : decode cX12_init 172 = .ok (.putfield 81, 3) := by decide +kernel
theorem dX12_init_175 : decode cX12_init 175 = .ok (.aload_n 0, 1) := by decide +kernel
theorem dX12_init_176 : decode cX12_init 176 = .ok (.sipush 6001, 3) := by decide +kernel
theorem dX12_init_179 : decode cX12_init 179 = .ok (.newarray .boolean, 2) := by decide +kernel
theorem dX12_init_181 : decode cX12_init 181 = .ok (.putfield 84, 3) := by decide +kernel
theorem dX12_init_184 : decode cX12_init 184 = .ok (.aload_n 0, 1) := by decide +kernel
theorem dX12_init_185 : decode cX12_init 185 = .ok (.sipush 3000, 3) := by decide +kernel
theorem dX12_init_188 : decode cX12_init 188 = .ok (.newarray .int, 2) := by decide +kernel
theorem dX12_init_190 : decode cX12_init 190 = .ok (.putfield 88, 3) := by decide +kernel
theorem dX12_init_193 : decode cX12_init 193 = .ok (.return_, 1) := by decide +kernel
theorem dX12_of_0 : decode cX12_of 0 = .ok (.aload_n 0, 1) := by decide +kernel
theorem dX12_of_1 : decode cX12_of 1 = .ok (.getfield 15, 3) := by decide +kernel
theorem dX12_of_4 : decode cX12_of 4 = .ok (.iconst 4, 1) := by decide +kernel
theorem dX12_of_5 : decode cX12_of 5 = .ok (.iconst 5, 1) := by decide +kernel
theorem dX12_of_6 : decode cX12_of 6 = .ok (.iload_n 1, 1) := by decide +kernel
theorem dX12_of_7 : decode cX12_of 7 = .ok (.imul, 1) := by decide +kernel
theorem dX12_of_8 : decode cX12_of 8 = .ok (.iload_n 2, 1) := by decide +kernel
theorem dX12_of_9 : decode cX12_of 9 = .ok (.iadd, 1) := by decide +kernel
theorem dX12_of_10 : decode cX12_of 10 = .ok (.imul, 1) := by decide +kernel
theorem dX12_of_11 : decode cX12_of 11 = .ok (.iload_n 3, 1) := by decide +kernel
theorem dX12_of_12 : decode cX12_of 12 = .ok (.iadd, 1) := by decide +kernel
theorem dX12_of_13 : decode cX12_of 13 = .ok (.iaload, 1) := by decide +kernel
theorem dX12_of_14 : decode cX12_of 14 = .ok (.ireturn, 1) := by decide +kernel
theorem dX12_plain_0 : decode cX12_plain 0 = .ok (.iload_n 0, 1) := by decide +kernel
theorem dX12_plain_1 : decode cX12_plain 1 = .ok (.ifCond .ne 7, 3) := by decide +kernel
theorem dX12_plain_4 : decode cX12_plain 4 = .ok (.lload_n 1, 1) := by decide +kernel
theorem dX12_plain_5 : decode cX12_plain 5 = .ok (.goto 51, 3) := by decide +kernel
theorem dX12_plain_8 : decode cX12_plain 8 = .ok (.iload_n 0, 1) := by decide +kernel
theorem dX12_plain_9 : decode cX12_plain 9 = .ok (.iconst 1, 1) := by decide +kernel
theorem dX12_plain_10 : decode cX12_plain 10 = .ok (.if_icmp .ne 9, 3) := by decide +kernel
theorem dX12_plain_13 : decode cX12_plain 13 = .ok (.lload_n 1, 1) := by decide +kernel
theorem dX12_plain_14 : decode cX12_plain 14 = .ok (.lload_n 1, 1) := by decide +kernel
theorem dX12_plain_15 : decode cX12_plain 15 = .ok (.lmul, 1) := by decide +kernel
theorem dX12_plain_16 : decode cX12_plain 16 = .ok (.goto 40, 3) := by decide +kernel
theorem dX12_plain_19 : decode cX12_plain 19 = .ok (.iload_n 0, 1) := by decide +kernel
theorem dX12_plain_20 : decode cX12_plain 20 = .ok (.iconst 2, 1) := by decide +kernel
theorem dX12_plain_21 : decode cX12_plain 21 = .ok (.if_icmp .ne 11, 3) := by decide +kernel
theorem dX12_plain_24 : decode cX12_plain 24 = .ok (.lload_n 1, 1) := by decide +kernel
theorem dX12_plain_25 : decode cX12_plain 25 = .ok (.lload_n 1, 1) := by decide +kernel
theorem dX12_plain_26 : decode cX12_plain 26 = .ok (.lmul, 1) := by decide +kernel
theorem dX12_plain_27 : decode cX12_plain 27 = .ok (.lload_n 1, 1) := by decide +kernel
theorem dX12_plain_28 : decode cX12_plain 28 = .ok (.lmul, 1) := by decide +kernel
theorem dX12_plain_29 : decode cX12_plain 29 = .ok (.goto 27, 3) := by decide +kernel
theorem dX12_plain_32 : decode cX12_plain 32 = .ok (.iload_n 0, 1) := by decide +kernel
theorem dX12_plain_33 : decode cX12_plain 33 = .ok (.iconst 3, 1) := by decide +kernel
theorem dX12_plain_34 : decode cX12_plain 34 = .ok (.if_icmp .ne 13, 3) := by decide +kernel
theorem dX12_plain_37 : decode cX12_plain 37 = .ok (.lload_n 1, 1) := by decide +kernel
theorem dX12_plain_38 : decode cX12_plain 38 = .ok (.lload_n 1, 1) := by decide +kernel
theorem dX12_plain_39 : decode cX12_plain 39 = .ok (.lmul, 1) := by decide +kernel
theorem dX12_plain_40 : decode cX12_plain 40 = .ok (.lload_n 1, 1) := by decide +kernel
theorem dX12_plain_41 : decode cX12_plain 41 = .ok (.lmul, 1) := by decide +kernel
theorem dX12_plain_42 : decode cX12_plain 42 = .ok (.lload_n 1, 1) := by decide +kernel
theorem dX12_plain_43 : decode cX12_plain 43 = .ok (.lmul, 1) := by decide +kernel
theorem dX12_plain_44 : decode cX12_plain 44 = .ok (.goto 12, 3) := by decide +kernel
theorem dX12_plain_47 : decode cX12_plain 47 = .ok (.lload_n 1, 1) := by decide +kernel
theorem dX12_plain_48 : decode cX12_plain 48 = .ok (.lload_n 1, 1) := by decide +kernel
theorem dX12_plain_49 : decode cX12_plain 49 = .ok (.lconst 1, 1) := by decide +kernel
theorem dX12_plain_50 : decode cX12_plain 50 = .ok (.ladd, 1) := by decide +kernel
theorem dX12_plain_51 : decode cX12_plain 51 = .ok (.lmul, 1) := by decide +kernel
theorem dX12_plain_52 : decode cX12_plain 52 = .ok (.ldc2_w 91, 3) := by decide +kernel
theorem dX12_plain_55 : decode cX12_plain 55 = .ok (.ldiv, 1) := by decide +kernel
theorem dX12_plain_56 : decode cX12_plain 56 = .ok (.lreturn, 1) := by decide +kernel
theorem dX12_valueOf_0 : decode cX12_valueOf 0 = .ok (.aload_n 0, 1) := by decide +kernel
theorem dX12_valueOf_1 : decode cX12_valueOf 1 = .ok (.iload_n 1, 1) := by decide +kernel
theorem dX12_valueOf_2 : decode cX12_valueOf 2 = .ok (.iload_n 2, 1) := by decide +kernel
theorem dX12_valueOf_3 : decode cX12_valueOf 3 = .ok (.iconst 0, 1) := by decide +kernel
theorem dX12_valueOf_4 : decode cX12_valueOf 4 = .ok (.invokevirtual 93, 3) := by decide +kernel
theorem dX12_valueOf_7 : decode cX12_valueOf 7 = .ok (.i2l, 1) := by decide +kernel
theorem dX12_valueOf_8 : decode cX12_valueOf 8 = .ok (.aload_n 0, 1) := by decide +kernel
theorem dX12_valueOf_9 : decode cX12_valueOf 9 = .ok (.iload_n 1, 1) := by decide +kernel
theorem dX12_valueOf_10 : decode cX12_valueOf 10 = .ok (.iload_n 2, 1) := by decide +kernel
theorem dX12_valueOf_11 : decode cX12_valueOf 11 = .ok (.iconst 1, 1) := by decide +kernel
theorem dX12_valueOf_12 : decode cX12_valueOf 12 = .ok (.invokevirtual 93, 3) := by decide +kernel
theorem dX12_valueOf_15 : decode cX12_valueOf 15 = .ok (.lload_n 3, 1) := by decide +kernel
theorem dX12_valueOf_16 : decode cX12_valueOf 16 = .ok (.invokestatic 97, 3) := by decide +kernel
theorem dX12_valueOf_19 : decode cX12_valueOf 19 = .ok (.lmul, 1) := by decide +kernel
theorem dX12_valueOf_20 : decode cX12_valueOf 20 = .ok (.lreturn, 1) := by decide +kernel
theorem dX12_isSmall_0 : decode cX12_isSmall 0 = .ok (.lload_n 0, 1) := by decide +kernel
theorem dX12_isSmall_1 : decode cX12_isSmall 1 = .ok (.ldc2_w 101, 3) := by decide +kernel
theorem dX12_isSmall_4 : decode cX12_isSmall 4 = .ok (.ldc2_w 103, 3) := by decide +kernel
theorem dX12_isSmall_7 : decode cX12_isSmall 7 = .ok (.invokestatic 105, 3) := by decide +kernel
theorem dX12_isSmall_10 : decode cX12_isSmall 10 = .ok (.ireturn, 1) := by decide +kernel
theorem dX12_isSlot_0 : decode cX12_isSlot 0 = .ok (.iload_n 0, 1) := by decide +kernel
theorem dX12_isSlot_1 : decode cX12_isSlot 1 = .ok (.i2l, 1) := by decide +kernel
theorem dX12_isSlot_2 : decode cX12_isSlot 2 = .ok (.lconst 0, 1) := by decide +kernel
theorem dX12_isSlot_3 : decode cX12_isSlot 3 = .ok (.ldc2_w 109, 3) := by decide +kernel
theorem dX12_isSlot_6 : decode cX12_isSlot 6 = .ok (.invokestatic 105, 3) := by decide +kernel
theorem dX12_isSlot_9 : decode cX12_isSlot 9 = .ok (.ireturn, 1) := by decide +kernel
theorem dX12_isForm_0 : decode cX12_isForm 0 = .ok (.iload_n 1, 1) := by decide +kernel
theorem dX12_isForm_1 : decode cX12_isForm 1 = .ok (.invokestatic 111, 3) := by decide +kernel
theorem dX12_isForm_4 : decode cX12_isForm 4 = .ok (.ifCond .eq 16, 3) := by decide +kernel
theorem dX12_isForm_7 : decode cX12_isForm 7 = .ok (.aload_n 0, 1) := by decide +kernel
theorem dX12_isForm_8 : decode cX12_isForm 8 = .ok (.getfield 9, 3) := by decide +kernel
theorem dX12_isForm_11 : decode cX12_isForm 11 = .ok (.iload_n 1, 1) := by decide +kernel
theorem dX12_isForm_12 : decode cX12_isForm 12 = .ok (.iaload, 1) := by decide +kernel
theorem dX12_isForm_13 : decode cX12_isForm 13 = .ok (.ifCond .le 7, 3) := by decide +kernel
theorem dX12_isForm_16 : decode cX12_isForm 16 = .ok (.iconst 1, 1) := by decide +kernel
theorem dX12_isForm_17 : decode cX12_isForm 17 = .ok (.goto 4, 3) := by decide +kernel
theorem dX12_isForm_20 : decode cX12_isForm 20 = .ok (.iconst 0, 1) := by decide +kernel
theorem dX12_isForm_21 : decode cX12_isForm 21 = .ok (.ireturn, 1) := by decide +kernel
theorem dX12_isTerm_0 : decode cX12_isTerm 0 = .ok (.iload_n 1, 1) := by decide +kernel
theorem dX12_isTerm_1 : decode cX12_isTerm 1 = .ok (.invokestatic 111, 3) := by decide +kernel
theorem dX12_isTerm_4 : decode cX12_isTerm 4 = .ok (.ifCond .eq 25, 3) := by decide +kernel
theorem dX12_isTerm_7 : decode cX12_isTerm 7 = .ok (.iload_n 2, 1) := by decide +kernel
theorem dX12_isTerm_8 : decode cX12_isTerm 8 = .ok (.i2l, 1) := by decide +kernel
theorem dX12_isTerm_9 : decode cX12_isTerm 9 = .ok (.lconst 0, 1) := by decide +kernel
theorem dX12_isTerm_10 : decode cX12_isTerm 10 = .ok (.aload_n 0, 1) := by decide +kernel
theorem dX12_isTerm_11 : decode cX12_isTerm 11 = .ok (.getfield 9, 3) := by decide +kernel
theorem dX12_isTerm_14 : decode cX12_isTerm 14 = .ok (.iload_n 1, 1) := by decide +kernel
theorem dX12_isTerm_15 : decode cX12_isTerm 15 = .ok (.iaload, 1) := by decide +kernel
theorem dX12_isTerm_16 : decode cX12_isTerm 16 = .ok (.iconst 1, 1) := by decide +kernel
theorem dX12_isTerm_17 : decode cX12_isTerm 17 = .ok (.isub, 1) := by decide +kernel
theorem dX12_isTerm_18 : decode cX12_isTerm 18 = .ok (.i2l, 1) := by decide +kernel
theorem dX12_isTerm_19 : decode cX12_isTerm 19 = .ok (.invokestatic 105, 3) := by decide +kernel
theorem dX12_isTerm_22 : decode cX12_isTerm 22 = .ok (.ifCond .eq 7, 3) := by decide +kernel
theorem dX12_isTerm_25 : decode cX12_isTerm 25 = .ok (.iconst 1, 1) := by decide +kernel
theorem dX12_isTerm_26 : decode cX12_isTerm 26 = .ok (.goto 4, 3) := by decide +kernel
theorem dX12_isTerm_29 : decode cX12_isTerm 29 = .ok (.iconst 0, 1) := by decide +kernel
theorem dX12_isTerm_30 : decode cX12_isTerm 30 = .ok (.ireturn, 1) := by decide +kernel
theorem dX12_greatest_0 : decode cX12_greatest 0 = .ok (.iconst 0, 1) := by decide +kernel
theorem dX12_greatest_1 : decode cX12_greatest 1 = .ok (.istore_n 2, 1) := by decide +kernel
theorem dX12_greatest_2 : decode cX12_greatest 2 = .ok (.iload_n 0, 1) := by decide +kernel
theorem dX12_greatest_3 : decode cX12_greatest 3 = .ok (.i2l, 1) := by decide +kernel
theorem dX12_greatest_4 : decode cX12_greatest 4 = .ok (.iload_n 1, 1) := by decide +kernel
theorem dX12_greatest_5 : decode cX12_greatest 5 = .ok (.iload_n 2, 1) := by decide +kernel
theorem dX12_greatest_6 : decode cX12_greatest 6 = .ok (.iconst 1, 1) := by decide +kernel
theorem dX12_greatest_7 : decode cX12_greatest 7 = .ok (.iadd, 1) := by decide +kernel
theorem dX12_greatest_8 : decode cX12_greatest 8 = .ok (.i2l, 1) := by decide +kernel
theorem dX12_greatest_9 : decode cX12_greatest 9 = .ok (.invokestatic 97, 3) := by decide +kernel
theorem dX12_greatest_12 : decode cX12_greatest 12 = .ok (.lmul, 1) := by decide +kernel
theorem dX12_greatest_13 : decode cX12_greatest 13 = .ok (.ldc2_w 103, 3) := by decide +kernel
theorem dX12_greatest_16 : decode cX12_greatest 16 = .ok (.lcmp, 1) := by decide +kernel
theorem dX12_greatest_17 : decode cX12_greatest 17 = .ok (.ifCond .gt 9, 3) := by decide +kernel
theorem dX12_greatest_20 : decode cX12_greatest 20 = .ok (.iinc 2 1, 3) := by decide +kernel
theorem dX12_greatest_23 : decode cX12_greatest 23 = .ok (.goto (-21), 3) := by decide +kernel
theorem dX12_greatest_26 : decode cX12_greatest 26 = .ok (.iload_n 2, 1) := by decide +kernel
theorem dX12_greatest_27 : decode cX12_greatest 27 = .ok (.ireturn, 1) := by decide +kernel
theorem dX12_four_0 : decode cX12_four 0 = .ok (.bipush 24, 2) := by decide +kernel
theorem dX12_four_2 : decode cX12_four 2 = .ok (.istore_n 2, 1) := by decide +kernel
theorem dX12_four_3 : decode cX12_four 3 = .ok (.iload_n 2, 1) := by decide +kernel
theorem dX12_four_4 : decode cX12_four 4 = .ok (.ifCond .lt 35, 3) := by decide +kernel
theorem dX12_four_7 : decode cX12_four 7 = .ok (.aload_n 0, 1) := by decide +kernel
theorem dX12_four_8 : decode cX12_four 8 = .ok (.getfield 18, 3) := by decide +kernel
theorem dX12_four_11 : decode cX12_four 11 = .ok (.aload_n 0, 1) := by decide +kernel
theorem dX12_four_12 : decode cX12_four 12 = .ok (.getfield 115, 3) := by decide +kernel
theorem dX12_four_15 : decode cX12_four 15 = .ok (.iload_n 1, 1) := by decide +kernel
theorem dX12_four_16 : decode cX12_four 16 = .ok (.iload_n 2, 1) := by decide +kernel
theorem dX12_four_17 : decode cX12_four 17 = .ok (.ishr, 1) := by decide +kernel
theorem dX12_four_18 : decode cX12_four 18 = .ok (.sipush 255, 3) := by decide +kernel
theorem dX12_four_21 : decode cX12_four 21 = .ok (.iand, 1) := by decide +kernel
theorem dX12_four_22 : decode cX12_four 22 = .ok (.iastore, 1) := by decide +kernel
theorem dX12_four_23 : decode cX12_four 23 = .ok (.aload_n 0, 1) := by decide +kernel
theorem dX12_four_24 : decode cX12_four 24 = .ok (.dup, 1) := by decide +kernel
theorem dX12_four_25 : decode cX12_four 25 = .ok (.getfield 115, 3) := by decide +kernel
theorem dX12_four_28 : decode cX12_four 28 = .ok (.iconst 1, 1) := by decide +kernel
theorem dX12_four_29 : decode cX12_four 29 = .ok (.iadd, 1) := by decide +kernel
theorem dX12_four_30 : decode cX12_four 30 = .ok (.putfield 115, 3) := by decide +kernel
theorem dX12_four_33 : decode cX12_four 33 = .ok (.iinc 2 (-8), 3) := by decide +kernel
theorem dX12_four_36 : decode cX12_four 36 = .ok (.goto (-33), 3) := by decide +kernel
theorem dX12_four_39 : decode cX12_four 39 = .ok (.return_, 1) := by decide +kernel
theorem dX12_feed_0 : decode cX12_feed 0 = .ok (.aload_n 0, 1) := by decide +kernel
theorem dX12_feed_1 : decode cX12_feed 1 = .ok (.getfield 115, 3) := by decide +kernel
theorem dX12_feed_4 : decode cX12_feed 4 = .ok (.bipush 20, 2) := by decide +kernel
theorem dX12_feed_6 : decode cX12_feed 6 = .ok (.iadd, 1) := by decide +kernel
theorem dX12_feed_7 : decode cX12_feed 7 = .ok (.sipush 800, 3) := by decide +kernel
theorem dX12_feed_10 : decode cX12_feed 10 = .ok (.if_icmp .le 5, 3) := by decide +kernel
theorem dX12_feed_13 : decode cX12_feed 13 = .ok (.iconst (-1), 1) := by decide +kernel
theorem dX12_feed_14 : decode cX12_feed 14 = .ok (.ireturn, 1) := by decide +kernel
theorem dX12_feed_15 : decode cX12_feed 15 = .ok (.aload_n 0, 1) := by decide +kernel
theorem dX12_feed_16 : decode cX12_feed 16 = .ok (.iload_n 1, 1) := by decide +kernel
theorem dX12_feed_17 : decode cX12_feed 17 = .ok (.invokevirtual 118, 3) := by decide +kernel
theorem dX12_feed_20 : decode cX12_feed 20 = .ok (.aload_n 0, 1) := by decide +kernel
theorem dX12_feed_21 : decode cX12_feed 21 = .ok (.iload_n 2, 1) := by decide +kernel
theorem dX12_feed_22 : decode cX12_feed 22 = .ok (.invokevirtual 118, 3) := by decide +kernel
theorem dX12_feed_25 : decode cX12_feed 25 = .ok (.aload_n 0, 1) := by decide +kernel
theorem dX12_feed_26 : decode cX12_feed 26 = .ok (.iload_n 3, 1) := by decide +kernel
theorem dX12_feed_27 : decode cX12_feed 27 = .ok (.invokevirtual 118, 3) := by decide +kernel
theorem dX12_feed_30 : decode cX12_feed 30 = .ok (.aload_n 0, 1) := by decide +kernel
theorem dX12_feed_31 : decode cX12_feed 31 = .ok (.iload 4, 2) := by decide +kernel
theorem dX12_feed_33 : decode cX12_feed 33 = .ok (.invokevirtual 118, 3) := by decide +kernel
theorem dX12_feed_36 : decode cX12_feed 36 = .ok (.aload_n 0, 1) := by decide +kernel
theorem dX12_feed_37 : decode cX12_feed 37 = .ok (.iload 5, 2) := by decide +kernel
theorem dX12_feed_39 : decode cX12_feed 39 = .ok (.invokevirtual 118, 3) := by decide +kernel
theorem dX12_feed_42 : decode cX12_feed 42 = .ok (.aload_n 0, 1) := by decide +kernel
theorem dX12_feed_43 : decode cX12_feed 43 = .ok (.getfield 115, 3) := by decide +kernel
theorem dX12_feed_46 : decode cX12_feed 46 = .ok (.ireturn, 1) := by decide +kernel
theorem dX12_end_0 : decode cX12_end 0 = .ok (.iload_n 1, 1) := by decide +kernel
theorem dX12_end_1 : decode cX12_end 1 = .ok (.i2l, 1) := by decide +kernel
theorem dX12_end_2 : decode cX12_end 2 = .ok (.lconst 0, 1) := by decide +kernel
theorem dX12_end_3 : decode cX12_end 3 = .ok (.aload_n 0, 1) := by decide +kernel
theorem dX12_end_4 : decode cX12_end 4 = .ok (.getfield 115, 3) := by decide +kernel
theorem dX12_end_7 : decode cX12_end 7 = .ok (.i2l, 1) := by decide +kernel
theorem dX12_end_8 : decode cX12_end 8 = .ok (.invokestatic 105, 3) := by decide +kernel
theorem dX12_end_11 : decode cX12_end 11 = .ok (.ifCond .ne 5, 3) := by decide +kernel
theorem dX12_end_14 : decode cX12_end 14 = .ok (.iconst 0, 1) := by decide +kernel
theorem dX12_end_15 : decode cX12_end 15 = .ok (.ireturn, 1) := by decide +kernel
theorem dX12_end_16 : decode cX12_end 16 = .ok (.aload_n 0, 1) := by decide +kernel
theorem dX12_end_17 : decode cX12_end 17 = .ok (.iload_n 1, 1) := by decide +kernel
theorem dX12_end_18 : decode cX12_end 18 = .ok (.putfield 115, 3) := by decide +kernel
theorem dX12_end_21 : decode cX12_end 21 = .ok (.iconst 1, 1) := by decide +kernel
theorem dX12_end_22 : decode cX12_end 22 = .ok (.ireturn, 1) := by decide +kernel
theorem dX12_see_0 : decode cX12_see 0 = .ok (.iload_n 1, 1) := by decide +kernel
theorem dX12_see_1 : decode cX12_see 1 = .ok (.aload_n 0, 1) := by decide +kernel
theorem dX12_see_2 : decode cX12_see 2 = .ok (.getfield 115, 3) := by decide +kernel
theorem dX12_see_5 : decode cX12_see 5 = .ok (.if_icmp .ge 12, 3) := by decide +kernel
theorem dX12_see_8 : decode cX12_see 8 = .ok (.aload_n 0, 1) := by decide +kernel
theorem dX12_see_9 : decode cX12_see 9 = .ok (.getfield 18, 3) := by decide +kernel
theorem dX12_see_12 : decode cX12_see 12 = .ok (.iload_n 1, 1) := by decide +kernel
theorem dX12_see_13 : decode cX12_see 13 = .ok (.iaload, 1) := by decide +kernel
theorem dX12_see_14 : decode cX12_see 14 = .ok (.goto 4, 3) := by decide +kernel
theorem dX12_see_17 : decode cX12_see 17 = .ok (.iconst (-1), 1) := by decide +kernel
theorem dX12_see_18 : decode cX12_see 18 = .ok (.ireturn, 1) := by decide +kernel
theorem dX12_next_0 : decode cX12_next 0 = .ok (.aload_n 0, 1) := by decide +kernel
theorem dX12_next_1 : decode cX12_next 1 = .ok (.aload_n 0, 1) := by decide +kernel
theorem dX12_next_2 : decode cX12_next 2 = .ok (.getfield 122, 3) := by decide +kernel
theorem dX12_next_5 : decode cX12_next 5 = .ok (.invokevirtual 125, 3) := by decide +kernel
theorem dX12_next_8 : decode cX12_next 8 = .ok (.bipush 32, 2) := by decide +kernel
theorem dX12_next_10 : decode cX12_next 10 = .ok (.if_icmp .eq 16, 3) := by decide +kernel
theorem dX12_next_13 : decode cX12_next 13 = .ok (.aload_n 0, 1) := by decide +kernel
theorem dX12_next_14 : decode cX12_next 14 = .ok (.aload_n 0, 1) := by decide +kernel
theorem dX12_next_15 : decode cX12_next 15 = .ok (.getfield 122, 3) := by decide +kernel
theorem dX12_next_18 : decode cX12_next 18 = .ok (.invokevirtual 125, 3) := by decide +kernel
theorem dX12_next_21 : decode cX12_next 21 = .ok (.bipush 10, 2) := by decide +kernel
theorem dX12_next_23 : decode cX12_next 23 = .ok (.if_icmp .ne 16, 3) := by decide +kernel
theorem dX12_next_26 : decode cX12_next 26 = .ok (.aload_n 0, 1) := by decide +kernel
theorem dX12_next_27 : decode cX12_next 27 = .ok (.dup, 1) := by decide +kernel
theorem dX12_next_28 : decode cX12_next 28 = .ok (.getfield 122, 3) := by decide +kernel
theorem dX12_next_31 : decode cX12_next 31 = .ok (.iconst 1, 1) := by decide +kernel
theorem dX12_next_32 : decode cX12_next 32 = .ok (.iadd, 1) := by decide +kernel
theorem dX12_next_33 : decode cX12_next 33 = .ok (.putfield 122, 3) := by decide +kernel
theorem dX12_next_36 : decode cX12_next 36 = .ok (.goto (-36), 3) := by decide +kernel
theorem dX12_next_39 : decode cX12_next 39 = .ok (.aload_n 0, 1) := by decide +kernel
theorem dX12_next_40 : decode cX12_next 40 = .ok (.aload_n 0, 1) := by decide +kernel
theorem dX12_next_41 : decode cX12_next 41 = .ok (.getfield 122, 3) := by decide +kernel
theorem dX12_next_44 : decode cX12_next 44 = .ok (.putfield 129, 3) := by decide +kernel
theorem dX12_next_47 : decode cX12_next 47 = .ok (.aload_n 0, 1) := by decide +kernel
theorem dX12_next_48 : decode cX12_next 48 = .ok (.aload_n 0, 1) := by decide +kernel
theorem dX12_next_49 : decode cX12_next 49 = .ok (.getfield 122, 3) := by decide +kernel
theorem dX12_next_52 : decode cX12_next 52 = .ok (.invokevirtual 125, 3) := by decide +kernel
theorem dX12_next_55 : decode cX12_next 55 = .ok (.istore_n 1, 1) := by decide +kernel
theorem dX12_next_56 : decode cX12_next 56 = .ok (.aload_n 0, 1) := by decide +kernel
theorem dX12_next_57 : decode cX12_next 57 = .ok (.lconst 0, 1) := by decide +kernel
theorem dX12_next_58 : decode cX12_next 58 = .ok (.putfield 132, 3) := by decide +kernel
theorem dX12_next_61 : decode cX12_next 61 = .ok (.aload_n 0, 1) := by decide +kernel
theorem dX12_next_62 : decode cX12_next 62 = .ok (.iconst 0, 1) := by decide +kernel
theorem dX12_next_63 : decode cX12_next 63 = .ok (.putfield 136, 3) := by decide +kernel
theorem dX12_next_66 : decode cX12_next 66 = .ok (.aload_n 0, 1) := by decide +kernel
theorem dX12_next_67 : decode cX12_next 67 = .ok (.iconst 0, 1) := by decide +kernel
theorem dX12_next_68 : decode cX12_next 68 = .ok (.putfield 139, 3) := by decide +kernel
theorem dX12_next_71 : decode cX12_next 71 = .ok (.iload_n 1, 1) := by decide +kernel
theorem dX12_next_72 : decode cX12_next 72 = .ok (.iconst (-1), 1) := by decide +kernel
theorem dX12_next_73 : decode cX12_next 73 = .ok (.if_icmp .ne 11, 3) := by decide +kernel
theorem dX12_next_76 : decode cX12_next 76 = .ok (.aload_n 0, 1) := by decide +kernel
theorem dX12_next_77 : decode cX12_next 77 = .ok (.iconst 0, 1) := by decide +kernel
theorem dX12_next_78 : decode cX12_next 78 = .ok (.putfield 142, 3) := by decide +kernel
theorem dX12_next_81 : decode cX12_next 81 = .ok (.goto 202, 3) := by decide +kernel
theorem dX12_next_84 : decode cX12_next 84 = .ok (.iload_n 1, 1) := by decide +kernel
theorem dX12_next_85 : decode cX12_next 85 = .ok (.i2l, 1) := by decide +kernel
theorem dX12_next_86 : decode cX12_next 86 = .ok (.ldc2_w 145, 3) := by decide +kernel
theorem dX12_next_89 : decode cX12_next 89 = .ok (.ldc2_w 147, 3) := by decide +kernel
theorem dX12_next_92 : decode cX12_next 92 = .ok (.invokestatic 105, 3) := by decide +kernel
theorem dX12_next_95 : decode cX12_next 95 = .ok (.ifCond .eq 79, 3) := by decide +kernel
theorem dX12_next_98 : decode cX12_next 98 = .ok (.aload_n 0, 1) := by decide +kernel
theorem dX12_next_99 : decode cX12_next 99 = .ok (.iconst 1, 1) := by decide +kernel
theorem dX12_next_100 : decode cX12_next 100 = .ok (.putfield 142, 3) := by decide +kernel
theorem dX12_next_103 : decode cX12_next 103 = .ok (.aload_n 0, 1) := by decide +kernel
theorem dX12_next_104 : decode cX12_next 104 = .ok (.aload_n 0, 1) := by decide +kernel
theorem dX12_next_105 : decode cX12_next 105 = .ok (.getfield 122, 3) := by decide +kernel
theorem dX12_next_108 : decode cX12_next 108 = .ok (.invokevirtual 125, 3) := by decide +kernel
theorem dX12_next_111 : decode cX12_next 111 = .ok (.i2l, 1) := by decide +kernel
theorem dX12_next_112 : decode cX12_next 112 = .ok (.ldc2_w 145, 3) := by decide +kernel
theorem dX12_next_115 : decode cX12_next 115 = .ok (.ldc2_w 147, 3) := by decide +kernel
theorem dX12_next_118 : decode cX12_next 118 = .ok (.invokestatic 105, 3) := by decide +kernel
theorem dX12_next_121 : decode cX12_next 121 = .ok (.ifCond .eq 162, 3) := by decide +kernel
theorem dX12_next_124 : decode cX12_next 124 = .ok (.aload_n 0, 1) := by decide +kernel
theorem dX12_next_125 : decode cX12_next 125 = .ok (.getfield 122, 3) := by decide +kernel
theorem dX12_next_128 : decode cX12_next 128 = .ok (.aload_n 0, 1) := by decide +kernel
theorem dX12_next_129 : decode cX12_next 129 = .ok (.getfield 129, 3) := by decide +kernel
theorem dX12_next_132 : decode cX12_next 132 = .ok (.isub, 1) := by decide +kernel
theorem dX12_next_133 : decode cX12_next 133 = .ok (.bipush 7, 2) := by decide +kernel
theorem dX12_next_135 : decode cX12_next 135 = .ok (.if_icmp .ge 26, 3) := by decide +kernel
theorem dX12_next_138 : decode cX12_next 138 = .ok (.aload_n 0, 1) := by decide +kernel
theorem dX12_next_139 : decode cX12_next 139 = .ok (.aload_n 0, 1) := by decide +kernel
theorem dX12_next_140 : decode cX12_next 140 = .ok (.getfield 132, 3) := by decide +kernel
theorem dX12_next_143 : decode cX12_next 143 = .ok (.iconst 5, 1) := by decide +kernel
theorem dX12_next_144 : decode cX12_next 144 = .ok (.lshl, 1) := by decide +kernel
theorem dX12_next_145 : decode cX12_next 145 = .ok (.aload_n 0, 1) := by decide +kernel
theorem dX12_next_146 : decode cX12_next 146 = .ok (.aload_n 0, 1) := by decide +kernel
theorem dX12_next_147 : decode cX12_next 147 = .ok (.getfield 122, 3) := by decide +kernel
theorem dX12_next_150 : decode cX12_next 150 = .ok (.invokevirtual 125, 3) := by decide +kernel
theorem dX12_next_153 : decode cX12_next 153 = .ok (.bipush 96, 2) := by decide +kernel
theorem dX12_next_155 : decode cX12_next 155 = .ok (.isub, 1) := by decide +kernel
theorem dX12_next_156 : decode cX12_next 156 = .ok (.i2l, 1) := by decide +kernel
theorem dX12_next_157 : decode cX12_next 157 = .ok (.lor, 1) := by decide +kernel
theorem dX12_next_158 : decode cX12_next 158 = .ok (.putfield 132, 3) := by decide +kernel
theorem dX12_next_161 : decode cX12_next 161 = .ok (.aload_n 0, 1) := by decide +kernel
theorem dX12_next_162 : decode cX12_next 162 = .ok (.dup, 1) := by decide +kernel
theorem dX12_next_163 : decode cX12_next 163 = .ok (.getfield 122, 3) := by decide +kernel
theorem dX12_next_166 : decode cX12_next 166 = .ok (.iconst 1, 1) := by decide +kernel
theorem dX12_next_167 : decode cX12_next 167 = .ok (.iadd, 1) := by decide +kernel
theorem dX12_next_168 : decode cX12_next 168 = .ok (.putfield 122, 3) := by decide +kernel
theorem dX12_next_171 : decode cX12_next 171 = .ok (.goto (-68), 3) := by decide +kernel
theorem dX12_next_174 : decode cX12_next 174 = .ok (.iload_n 1, 1) := by decide +kernel
theorem dX12_next_175 : decode cX12_next 175 = .ok (.i2l, 1) := by decide +kernel
theorem dX12_next_176 : decode cX12_next 176 = .ok (.ldc2_w 149, 3) := by decide +kernel
theorem dX12_next_179 : decode cX12_next 179 = .ok (.ldc2_w 151, 3) := by decide +kernel
theorem dX12_next_182 : decode cX12_next 182 = .ok (.invokestatic 105, 3) := by decide +kernel
theorem dX12_next_185 : decode cX12_next 185 = .ok (.ifCond .eq 78, 3) := by decide +kernel
theorem dX12_next_188 : decode cX12_next 188 = .ok (.aload_n 0, 1) := by decide +kernel
theorem dX12_next_189 : decode cX12_next 189 = .ok (.iconst 2, 1) := by decide +kernel
theorem dX12_next_190 : decode cX12_next 190 = .ok (.putfield 142, 3) := by decide +kernel
theorem dX12_next_193 : decode cX12_next 193 = .ok (.aload_n 0, 1) := by decide +kernel
theorem dX12_next_194 : decode cX12_next 194 = .ok (.aload_n 0, 1) := by decide +kernel
theorem dX12_next_195 : decode cX12_next 195 = .ok (.getfield 122, 3) := by decide +kernel
theorem dX12_next_198 : decode cX12_next 198 = .ok (.invokevirtual 125, 3) := by decide +kernel
theorem dX12_next_201 : decode cX12_next 201 = .ok (.i2l, 1) := by decide +kernel
theorem dX12_next_202 : decode cX12_next 202 = .ok (.ldc2_w 149, 3) := by decide +kernel
theorem dX12_next_205 : decode cX12_next 205 = .ok (.ldc2_w 151, 3) := by decide +kernel
theorem dX12_next_208 : decode cX12_next 208 = .ok (.invokestatic 105, 3) := by decide +kernel
theorem dX12_next_211 : decode cX12_next 211 = .ok (.ifCond .eq 72, 3) := by decide +kernel
theorem dX12_next_214 : decode cX12_next 214 = .ok (.aload_n 0, 1) := by decide +kernel
theorem dX12_next_215 : decode cX12_next 215 = .ok (.getfield 122, 3) := by decide +kernel
theorem dX12_next_218 : decode cX12_next 218 = .ok (.aload_n 0, 1) := by decide +kernel
theorem dX12_next_219 : decode cX12_next 219 = .ok (.getfield 129, 3) := by decide +kernel
theorem dX12_next_222 : decode cX12_next 222 = .ok (.isub, 1) := by decide +kernel
theorem dX12_next_223 : decode cX12_next 223 = .ok (.iconst 4, 1) := by decide +kernel
theorem dX12_next_224 : decode cX12_next 224 = .ok (.if_icmp .ge 26, 3) := by decide +kernel
theorem dX12_next_227 : decode cX12_next 227 = .ok (.aload_n 0, 1) := by decide +kernel
theorem dX12_next_228 : decode cX12_next 228 = .ok (.bipush 10, 2) := by decide +kernel
theorem dX12_next_230 : decode cX12_next 230 = .ok (.aload_n 0, 1) := by decide +kernel
theorem dX12_next_231 : decode cX12_next 231 = .ok (.getfield 136, 3) := by decide +kernel
theorem dX12_next_234 : decode cX12_next 234 = .ok (.imul, 1) := by decide +kernel
theorem dX12_next_235 : decode cX12_next 235 = .ok (.aload_n 0, 1) := by decide +kernel
theorem dX12_next_236 : decode cX12_next 236 = .ok (.aload_n 0, 1) := by decide +kernel
theorem dX12_next_237 : decode cX12_next 237 = .ok (.getfield 122, 3) := by decide +kernel
theorem dX12_next_240 : decode cX12_next 240 = .ok (.invokevirtual 125, 3) := by decide +kernel
theorem dX12_next_243 : decode cX12_next 243 = .ok (.iadd, 1) := by decide +kernel
theorem dX12_next_244 : decode cX12_next 244 = .ok (.bipush 48, 2) := by decide +kernel
theorem dX12_next_246 : decode cX12_next 246 = .ok (.isub, 1) := by decide +kernel
theorem dX12_next_247 : decode cX12_next 247 = .ok (.putfield 136, 3) := by decide +kernel
theorem dX12_next_250 : decode cX12_next 250 = .ok (.aload_n 0, 1) := by decide +kernel
theorem dX12_next_251 : decode cX12_next 251 = .ok (.dup, 1) := by decide +kernel
theorem dX12_next_252 : decode cX12_next 252 = .ok (.getfield 122, 3) := by decide +kernel
theorem dX12_next_255 : decode cX12_next 255 = .ok (.iconst 1, 1) := by decide +kernel
theorem dX12_next_256 : decode cX12_next 256 = .ok (.iadd, 1) := by decide +kernel
theorem dX12_next_257 : decode cX12_next 257 = .ok (.putfield 122, 3) := by decide +kernel
theorem dX12_next_260 : decode cX12_next 260 = .ok (.goto (-67), 3) := by decide +kernel
theorem dX12_next_263 : decode cX12_next 263 = .ok (.aload_n 0, 1) := by decide +kernel
theorem dX12_next_264 : decode cX12_next 264 = .ok (.iconst 3, 1) := by decide +kernel
theorem dX12_next_265 : decode cX12_next 265 = .ok (.putfield 142, 3) := by decide +kernel
theorem dX12_next_268 : decode cX12_next 268 = .ok (.aload_n 0, 1) := by decide +kernel
theorem dX12_next_269 : decode cX12_next 269 = .ok (.iload_n 1, 1) := by decide +kernel
theorem dX12_next_270 : decode cX12_next 270 = .ok (.putfield 139, 3) := by decide +kernel
theorem dX12_next_273 : decode cX12_next 273 = .ok (.aload_n 0, 1) := by decide +kernel
theorem dX12_next_274 : decode cX12_next 274 = .ok (.dup, 1) := by decide +kernel
theorem dX12_next_275 : decode cX12_next 275 = .ok (.getfield 122, 3) := by decide +kernel
theorem dX12_next_278 : decode cX12_next 278 = .ok (.iconst 1, 1) := by decide +kernel
theorem dX12_next_279 : decode cX12_next 279 = .ok (.iadd, 1) := by decide +kernel
theorem dX12_next_280 : decode cX12_next 280 = .ok (.putfield 122, 3) := by decide +kernel
theorem dX12_next_283 : decode cX12_next 283 = .ok (.return_, 1) := by decide +kernel
theorem dX12_fails_0 : decode cX12_fails 0 = .ok (.aload_n 0, 1) := by decide +kernel
theorem dX12_fails_1 : decode cX12_fails 1 = .ok (.getfield 153, 3) := by decide +kernel
theorem dX12_fails_4 : decode cX12_fails 4 = .ok (.ifCond .eq 5, 3) := by decide +kernel
theorem dX12_fails_7 : decode cX12_fails 7 = .ok (.iconst 0, 1) := by decide +kernel
theorem dX12_fails_8 : decode cX12_fails 8 = .ok (.ireturn, 1) := by decide +kernel
theorem dX12_fails_9 : decode cX12_fails 9 = .ok (.aload_n 0, 1) := by decide +kernel
theorem dX12_fails_10 : decode cX12_fails 10 = .ok (.iload_n 1, 1) := by decide +kernel
theorem dX12_fails_11 : decode cX12_fails 11 = .ok (.putfield 153, 3) := by decide +kernel
theorem dX12_fails_14 : decode cX12_fails 14 = .ok (.aload_n 0, 1) := by decide +kernel
theorem dX12_fails_15 : decode cX12_fails 15 = .ok (.aload_n 0, 1) := by decide +kernel
theorem dX12_fails_16 : decode cX12_fails 16 = .ok (.getfield 129, 3) := by decide +kernel
theorem dX12_fails_19 : decode cX12_fails 19 = .ok (.putfield 156, 3) := by decide +kernel
theorem dX12_fails_22 : decode cX12_fails 22 = .ok (.aload_n 0, 1) := by decide +kernel
theorem dX12_fails_23 : decode cX12_fails 23 = .ok (.aload_n 0, 1) := by decide +kernel
theorem dX12_fails_24 : decode cX12_fails 24 = .ok (.getfield 159, 3) := by decide +kernel
theorem dX12_fails_27 : decode cX12_fails 27 = .ok (.putfield 162, 3) := by decide +kernel
theorem dX12_fails_30 : decode cX12_fails 30 = .ok (.aload_n 0, 1) := by decide +kernel
theorem dX12_fails_31 : decode cX12_fails 31 = .ok (.aload_n 0, 1) := by decide +kernel
theorem dX12_fails_32 : decode cX12_fails 32 = .ok (.getfield 165, 3) := by decide +kernel
theorem dX12_fails_35 : decode cX12_fails 35 = .ok (.putfield 168, 3) := by decide +kernel
theorem dX12_fails_38 : decode cX12_fails 38 = .ok (.iconst 0, 1) := by decide +kernel
theorem dX12_fails_39 : decode cX12_fails 39 = .ok (.ireturn, 1) := by decide +kernel
theorem dX12_packed_0 : decode cX12_packed 0 = .ok (.lconst 0, 1) := by decide +kernel
theorem dX12_packed_1 : decode cX12_packed 1 = .ok (.lstore_n 1, 1) := by decide +kernel
theorem dX12_packed_2 : decode cX12_packed 2 = .ok (.iconst 0, 1) := by decide +kernel
theorem dX12_packed_3 : decode cX12_packed 3 = .ok (.istore_n 3, 1) := by decide +kernel
theorem dX12_packed_4 : decode cX12_packed 4 = .ok (.iload_n 3, 1) := by decide +kernel
theorem dX12_packed_5 : decode cX12_packed 5 = .ok (.aload_n 0, 1) := by decide +kernel
theorem dX12_packed_6 : decode cX12_packed 6 = .ok (.invokevirtual 171, 3) := by decide +kernel
theorem dX12_packed_9 : decode cX12_packed 9 = .ok (.if_icmp .ge 23, 3) := by decide +kernel
theorem dX12_packed_12 : decode cX12_packed 12 = .ok (.lload_n 1, 1) := by decide +kernel
theorem dX12_packed_13 : decode cX12_packed 13 = .ok (.iconst 5, 1) := by decide +kernel
theorem dX12_packed_14 : decode cX12_packed 14 = .ok (.lshl, 1) := by decide +kernel
theorem dX12_packed_15 : decode cX12_packed 15 = .ok (.aload_n 0, 1) := by decide +kernel
theorem dX12_packed_16 : decode cX12_packed 16 = .ok (.iload_n 3, 1) := by decide +kernel
theorem dX12_packed_17 : decode cX12_packed 17 = .ok (.invokevirtual 176, 3) := by decide +kernel
theorem dX12_packed_20 : decode cX12_packed 20 = .ok (.bipush 96, 2) := by decide +kernel
theorem dX12_packed_22 : decode cX12_packed 22 = .ok (.isub, 1) := by decide +kernel
theorem dX12_packed_23 : decode cX12_packed 23 = .ok (.i2l, 1) := by decide +kernel
theorem dX12_packed_24 : decode cX12_packed 24 = .ok (.lor, 1) := by decide +kernel
theorem dX12_packed_25 : decode cX12_packed 25 = .ok (.lstore_n 1, 1) := by decide +kernel
theorem dX12_packed_26 : decode cX12_packed 26 = .ok (.iinc 3 1, 3) := by decide +kernel
theorem dX12_packed_29 : decode cX12_packed 29 = .ok (.goto (-25), 3) := by decide +kernel
theorem dX12_packed_32 : decode cX12_packed 32 = .ok (.lload_n 1, 1) := by decide +kernel
theorem dX12_packed_33 : decode cX12_packed 33 = .ok (.lreturn, 1) := by decide +kernel
theorem dX12_isWord_0 : decode cX12_isWord 0 = .ok (.aload_n 0, 1) := by decide +kernel
theorem dX12_isWord_1 : decode cX12_isWord 1 = .ok (.getfield 142, 3) := by decide +kernel
theorem dX12_isWord_4 : decode cX12_isWord 4 = .ok (.iconst 1, 1) := by decide +kernel
theorem dX12_isWord_5 : decode cX12_isWord 5 = .ok (.if_icmp .ne 35, 3) := by decide +kernel
theorem dX12_isWord_8 : decode cX12_isWord 8 = .ok (.aload_n 0, 1) := by decide +kernel
theorem dX12_isWord_9 : decode cX12_isWord 9 = .ok (.getfield 122, 3) := by decide +kernel
theorem dX12_isWord_12 : decode cX12_isWord 12 = .ok (.aload_n 0, 1) := by decide +kernel
theorem dX12_isWord_13 : decode cX12_isWord 13 = .ok (.getfield 129, 3) := by decide +kernel
theorem dX12_isWord_16 : decode cX12_isWord 16 = .ok (.isub, 1) := by decide +kernel
theorem dX12_isWord_17 : decode cX12_isWord 17 = .ok (.aload_n 1, 1) := by decide +kernel
theorem dX12_isWord_18 : decode cX12_isWord 18 = .ok (.invokevirtual 171, 3) := by decide +kernel
theorem dX12_isWord_21 : decode cX12_isWord 21 = .ok (.if_icmp .ne 19, 3) := by decide +kernel
theorem dX12_isWord_24 : decode cX12_isWord 24 = .ok (.aload_n 0, 1) := by decide +kernel
theorem dX12_isWord_25 : decode cX12_isWord 25 = .ok (.getfield 132, 3) := by decide +kernel
theorem dX12_isWord_28 : decode cX12_isWord 28 = .ok (.aload_n 1, 1) := by decide +kernel
theorem dX12_isWord_29 : decode cX12_isWord 29 = .ok (.invokestatic 180, 3) := by decide +kernel
theorem dX12_isWord_32 : decode cX12_isWord 32 = .ok (.lcmp, 1) := by decide +kernel
theorem dX12_isWord_33 : decode cX12_isWord 33 = .ok (.ifCond .ne 7, 3) := by decide +kernel
theorem dX12_isWord_36 : decode cX12_isWord 36 = .ok (.iconst 1, 1) := by decide +kernel
theorem dX12_isWord_37 : decode cX12_isWord 37 = .ok (.goto 4, 3) := by decide +kernel
theorem dX12_isWord_40 : decode cX12_isWord 40 = .ok (.iconst 0, 1) := by decide +kernel
theorem dX12_isWord_41 : decode cX12_isWord 41 = .ok (.ireturn, 1) := by decide +kernel
theorem dX12_isSign_0 : decode cX12_isSign 0 = .ok (.aload_n 0, 1) := by decide +kernel
theorem dX12_isSign_1 : decode cX12_isSign 1 = .ok (.getfield 142, 3) := by decide +kernel
theorem dX12_isSign_4 : decode cX12_isSign 4 = .ok (.iconst 3, 1) := by decide +kernel
theorem dX12_isSign_5 : decode cX12_isSign 5 = .ok (.if_icmp .ne 15, 3) := by decide +kernel
theorem dX12_isSign_8 : decode cX12_isSign 8 = .ok (.aload_n 0, 1) := by decide +kernel
theorem dX12_isSign_9 : decode cX12_isSign 9 = .ok (.getfield 139, 3) := by decide +kernel
theorem dX12_isSign_12 : decode cX12_isSign 12 = .ok (.iload_n 1, 1) := by decide +kernel
theorem dX12_isSign_13 : decode cX12_isSign 13 = .ok (.if_icmp .ne 7, 3) := by decide +kernel
theorem dX12_isSign_16 : decode cX12_isSign 16 = .ok (.iconst 1, 1) := by decide +kernel
theorem dX12_isSign_17 : decode cX12_isSign 17 = .ok (.goto 4, 3) := by decide +kernel
theorem dX12_isSign_20 : decode cX12_isSign 20 = .ok (.iconst 0, 1) := by decide +kernel
theorem dX12_isSign_21 : decode cX12_isSign 21 = .ok (.ireturn, 1) := by decide +kernel
theorem dX12_isNumber_0 : decode cX12_isNumber 0 = .ok (.aload_n 0, 1) := by decide +kernel
theorem dX12_isNumber_1 : decode cX12_isNumber 1 = .ok (.getfield 142, 3) := by decide +kernel
theorem dX12_isNumber_4 : decode cX12_isNumber 4 = .ok (.iconst 2, 1) := by decide +kernel
theorem dX12_isNumber_5 : decode cX12_isNumber 5 = .ok (.if_icmp .ne 20, 3) := by decide +kernel
theorem dX12_isNumber_8 : decode cX12_isNumber 8 = .ok (.aload_n 0, 1) := by decide +kernel
theorem dX12_isNumber_9 : decode cX12_isNumber 9 = .ok (.getfield 122, 3) := by decide +kernel
theorem dX12_isNumber_12 : decode cX12_isNumber 12 = .ok (.aload_n 0, 1) := by decide +kernel
theorem dX12_isNumber_13 : decode cX12_isNumber 13 = .ok (.getfield 129, 3) := by decide +kernel
theorem dX12_isNumber_16 : decode cX12_isNumber 16 = .ok (.isub, 1) := by decide +kernel
theorem dX12_isNumber_17 : decode cX12_isNumber 17 = .ok (.iconst 4, 1) := by decide +kernel
theorem dX12_isNumber_18 : decode cX12_isNumber 18 = .ok (.if_icmp .gt 7, 3) := by decide +kernel
theorem dX12_isNumber_21 : decode cX12_isNumber 21 = .ok (.iconst 1, 1) := by decide +kernel
theorem dX12_isNumber_22 : decode cX12_isNumber 22 = .ok (.goto 4, 3) := by decide +kernel
theorem dX12_isNumber_25 : decode cX12_isNumber 25 = .ok (.iconst 0, 1) := by decide +kernel
theorem dX12_isNumber_26 : decode cX12_isNumber 26 = .ok (.ireturn, 1) := by decide +kernel
theorem dX12_takesSign_0 : decode cX12_takesSign 0 = .ok (.aload_n 0, 1) := by decide +kernel
theorem dX12_takesSign_1 : decode cX12_takesSign 1 = .ok (.iload_n 1, 1) := by decide +kernel
theorem dX12_takesSign_2 : decode cX12_takesSign 2 = .ok (.invokevirtual 184, 3) := by decide +kernel
theorem dX12_takesSign_5 : decode cX12_takesSign 5 = .ok (.ifCond .ne 9, 3) := by decide +kernel
theorem dX12_takesSign_8 : decode cX12_takesSign 8 = .ok (.aload_n 0, 1) := by decide +kernel
theorem dX12_takesSign_9 : decode cX12_takesSign 9 = .ok (.iconst 1, 1) := by decide +kernel
theorem dX12_takesSign_10 : decode cX12_takesSign 10 = .ok (.invokevirtual 187, 3) := by decide +kernel
theorem dX12_takesSign_13 : decode cX12_takesSign 13 = .ok (.ireturn, 1) := by decide +kernel
theorem dX12_takesSign_14 : decode cX12_takesSign 14 = .ok (.aload_n 0, 1) := by decide +kernel
theorem dX12_takesSign_15 : decode cX12_takesSign 15 = .ok (.invokevirtual 190, 3) := by decide +kernel
theorem dX12_takesSign_18 : decode cX12_takesSign 18 = .ok (.iconst 1, 1) := by decide +kernel
theorem dX12_takesSign_19 : decode cX12_takesSign 19 = .ok (.ireturn, 1) := by decide +kernel
theorem dX12_begins_0 : decode cX12_begins 0 = .ok (.aload_n 0, 1) := by decide +kernel
theorem dX12_begins_1 : decode cX12_begins 1 = .ok (.iconst 0, 1) := by decide +kernel
theorem dX12_begins_2 : decode cX12_begins 2 = .ok (.putfield 122, 3) := by decide +kernel
theorem dX12_begins_5 : decode cX12_begins 5 = .ok (.aload_n 0, 1) := by decide +kernel
theorem dX12_begins_6 : decode cX12_begins 6 = .ok (.iconst 0, 1) := by decide +kernel
theorem dX12_begins_7 : decode cX12_begins 7 = .ok (.putfield 153, 3) := by decide +kernel
theorem dX12_begins_10 : decode cX12_begins 10 = .ok (.aload_n 0, 1) := by decide +kernel
theorem dX12_begins_11 : decode cX12_begins 11 = .ok (.iconst (-1), 1) := by decide +kernel
theorem dX12_begins_12 : decode cX12_begins 12 = .ok (.putfield 156, 3) := by decide +kernel
theorem dX12_begins_15 : decode cX12_begins 15 = .ok (.aload_n 0, 1) := by decide +kernel
theorem dX12_begins_16 : decode cX12_begins 16 = .ok (.iconst (-1), 1) := by decide +kernel
theorem dX12_begins_17 : decode cX12_begins 17 = .ok (.putfield 162, 3) := by decide +kernel
theorem dX12_begins_20 : decode cX12_begins 20 = .ok (.aload_n 0, 1) := by decide +kernel
theorem dX12_begins_21 : decode cX12_begins 21 = .ok (.iconst (-1), 1) := by decide +kernel
theorem dX12_begins_22 : decode cX12_begins 22 = .ok (.putfield 168, 3) := by decide +kernel
theorem dX12_begins_25 : decode cX12_begins 25 = .ok (.aload_n 0, 1) := by decide +kernel
theorem dX12_begins_26 : decode cX12_begins 26 = .ok (.iconst 0, 1) := by decide +kernel
theorem dX12_begins_27 : decode cX12_begins 27 = .ok (.putfield 159, 3) := by decide +kernel
theorem dX12_begins_30 : decode cX12_begins 30 = .ok (.aload_n 0, 1) := by decide +kernel
theorem dX12_begins_31 : decode cX12_begins 31 = .ok (.iconst (-1), 1) := by decide +kernel
theorem dX12_begins_32 : decode cX12_begins 32 = .ok (.putfield 165, 3) := by decide +kernel
theorem dX12_begins_35 : decode cX12_begins 35 = .ok (.aload_n 0, 1) := by decide +kernel
theorem dX12_begins_36 : decode cX12_begins 36 = .ok (.invokevirtual 190, 3) := by decide +kernel
theorem dX12_begins_39 : decode cX12_begins 39 = .ok (.return_, 1) := by decide +kernel
theorem dX12_isRead_0 : decode cX12_isRead 0 = .ok (.aload_n 0, 1) := by decide +kernel
theorem dX12_isRead_1 : decode cX12_isRead 1 = .ok (.iconst 0, 1) := by decide +kernel
theorem dX12_isRead_2 : decode cX12_isRead 2 = .ok (.putfield 115, 3) := by decide +kernel
theorem dX12_isRead_5 : decode cX12_isRead 5 = .ok (.aload_n 0, 1) := by decide +kernel
theorem dX12_isRead_6 : decode cX12_isRead 6 = .ok (.aload_n 0, 1) := by decide +kernel
theorem dX12_isRead_7 : decode cX12_isRead 7 = .ok (.getfield 153, 3) := by decide +kernel
theorem dX12_isRead_10 : decode cX12_isRead 10 = .ok (.putfield 193, 3) := by decide +kernel
theorem dX12_isRead_13 : decode cX12_isRead 13 = .ok (.aload_n 0, 1) := by decide +kernel
theorem dX12_isRead_14 : decode cX12_isRead 14 = .ok (.aload_n 0, 1) := by decide +kernel
theorem dX12_isRead_15 : decode cX12_isRead 15 = .ok (.getfield 156, 3) := by decide +kernel
theorem dX12_isRead_18 : decode cX12_isRead 18 = .ok (.putfield 21, 3) := by decide +kernel
theorem dX12_isRead_21 : decode cX12_isRead 21 = .ok (.aload_n 0, 1) := by decide +kernel
theorem dX12_isRead_22 : decode cX12_isRead 22 = .ok (.aload_n 0, 1) := by decide +kernel
theorem dX12_isRead_23 : decode cX12_isRead 23 = .ok (.getfield 162, 3) := by decide +kernel
theorem dX12_isRead_26 : decode cX12_isRead 26 = .ok (.putfield 25, 3) := by decide +kernel
theorem dX12_isRead_29 : decode cX12_isRead 29 = .ok (.aload_n 0, 1) := by decide +kernel
theorem dX12_isRead_30 : decode cX12_isRead 30 = .ok (.aload_n 0, 1) := by decide +kernel
theorem dX12_isRead_31 : decode cX12_isRead 31 = .ok (.getfield 168, 3) := by decide +kernel
theorem dX12_isRead_34 : decode cX12_isRead 34 = .ok (.putfield 28, 3) := by decide +kernel
theorem dX12_isRead_37 : decode cX12_isRead 37 = .ok (.aload_n 0, 1) := by decide +kernel
theorem dX12_isRead_38 : decode cX12_isRead 38 = .ok (.getfield 153, 3) := by decide +kernel
theorem dX12_isRead_41 : decode cX12_isRead 41 = .ok (.ifCond .ne 7, 3) := by decide +kernel
theorem dX12_isRead_44 : decode cX12_isRead 44 = .ok (.iconst 1, 1) := by decide +kernel
theorem dX12_isRead_45 : decode cX12_isRead 45 = .ok (.goto 4, 3) := by decide +kernel
theorem dX12_isRead_48 : decode cX12_isRead 48 = .ok (.iconst 0, 1) := by decide +kernel
theorem dX12_isRead_49 : decode cX12_isRead 49 = .ok (.ireturn, 1) := by decide +kernel
theorem dX12_fault_0 : decode cX12_fault 0 = .ok (.iload_n 1, 1) := by decide +kernel
theorem dX12_fault_1 : decode cX12_fault 1 = .ok (.ifCond .ne 10, 3) := by decide +kernel
theorem dX12_fault_4 : decode cX12_fault 4 = .ok (.aload_n 0, 1) := by decide +kernel
theorem dX12_fault_5 : decode cX12_fault 5 = .ok (.getfield 193, 3) := by decide +kernel
theorem dX12_fault_8 : decode cX12_fault 8 = .ok (.goto 40, 3) := by decide +kernel
theorem dX12_fault_11 : decode cX12_fault 11 = .ok (.iload_n 1, 1) := by decide +kernel
theorem dX12_fault_12 : decode cX12_fault 12 = .ok (.iconst 1, 1) := by decide +kernel
theorem dX12_fault_13 : decode cX12_fault 13 = .ok (.if_icmp .ne 10, 3) := by decide +kernel
theorem dX12_fault_16 : decode cX12_fault 16 = .ok (.aload_n 0, 1) := by decide +kernel
theorem dX12_fault_17 : decode cX12_fault 17 = .ok (.getfield 21, 3) := by decide +kernel
theorem dX12_fault_20 : decode cX12_fault 20 = .ok (.goto 28, 3) := by decide +kernel
theorem dX12_fault_23 : decode cX12_fault 23 = .ok (.iload_n 1, 1) := by decide +kernel
theorem dX12_fault_24 : decode cX12_fault 24 = .ok (.iconst 2, 1) := by decide +kernel
theorem dX12_fault_25 : decode cX12_fault 25 = .ok (.if_icmp .ne 10, 3) := by decide +kernel
theorem dX12_fault_28 : decode cX12_fault 28 = .ok (.aload_n 0, 1) := by decide +kernel
theorem dX12_fault_29 : decode cX12_fault 29 = .ok (.getfield 25, 3) := by decide +kernel
theorem dX12_fault_32 : decode cX12_fault 32 = .ok (.goto 16, 3) := by decide +kernel
theorem dX12_fault_35 : decode cX12_fault 35 = .ok (.iload_n 1, 1) := by decide +kernel
theorem dX12_fault_36 : decode cX12_fault 36 = .ok (.iconst 3, 1) := by decide +kernel
theorem dX12_fault_37 : decode cX12_fault 37 = .ok (.if_icmp .ne 10, 3) := by decide +kernel
theorem dX12_fault_40 : decode cX12_fault 40 = .ok (.aload_n 0, 1) := by decide +kernel
theorem dX12_fault_41 : decode cX12_fault 41 = .ok (.getfield 28, 3) := by decide +kernel
theorem dX12_fault_44 : decode cX12_fault 44 = .ok (.goto 4, 3) := by decide +kernel
theorem dX12_fault_47 : decode cX12_fault 47 = .ok (.iconst (-1), 1) := by decide +kernel
theorem dX12_fault_48 : decode cX12_fault 48 = .ok (.ireturn, 1) := by decide +kernel
theorem dX12_kindHere_0 : decode cX12_kindHere 0 = .ok (.aload_n 0, 1) := by decide +kernel
theorem dX12_kindHere_1 : decode cX12_kindHere 1 = .ok (.ldc 196, 2) := by decide +kernel
theorem dX12_kindHere_3 : decode cX12_kindHere 3 = .ok (.invokevirtual 198, 3) := by decide +kernel
theorem dX12_kindHere_6 : decode cX12_kindHere 6 = .ok (.ifCond .eq 7, 3) := by decide +kernel
theorem dX12_kindHere_9 : decode cX12_kindHere 9 = .ok (.iconst 0, 1) := by decide +kernel
theorem dX12_kindHere_10 : decode cX12_kindHere 10 = .ok (.goto 56, 3) := by decide +kernel
theorem dX12_kindHere_13 : decode cX12_kindHere 13 = .ok (.aload_n 0, 1) := by decide +kernel
theorem dX12_kindHere_14 : decode cX12_kindHere 14 = .ok (.ldc 202, 2) := by decide +kernel
theorem dX12_kindHere_16 : decode cX12_kindHere 16 = .ok (.invokevirtual 198, 3) := by decide +kernel
theorem dX12_kindHere_19 : decode cX12_kindHere 19 = .ok (.ifCond .eq 7, 3) := by decide +kernel
theorem dX12_kindHere_22 : decode cX12_kindHere 22 = .ok (.iconst 1, 1) := by decide +kernel
theorem dX12_kindHere_23 : decode cX12_kindHere 23 = .ok (.goto 43, 3) := by decide +kernel
theorem dX12_kindHere_26 : decode cX12_kindHere 26 = .ok (.aload_n 0, 1) := by decide +kernel
theorem dX12_kindHere_27 : decode cX12_kindHere 27 = .ok (.ldc 204, 2) := by decide +kernel
theorem dX12_kindHere_29 : decode cX12_kindHere 29 = .ok (.invokevirtual 198, 3) := by decide +kernel
theorem dX12_kindHere_32 : decode cX12_kindHere 32 = .ok (.ifCond .eq 7, 3) := by decide +kernel
theorem dX12_kindHere_35 : decode cX12_kindHere 35 = .ok (.iconst 2, 1) := by decide +kernel
theorem dX12_kindHere_36 : decode cX12_kindHere 36 = .ok (.goto 30, 3) := by decide +kernel
theorem dX12_kindHere_39 : decode cX12_kindHere 39 = .ok (.aload_n 0, 1) := by decide +kernel
theorem dX12_kindHere_40 : decode cX12_kindHere 40 = .ok (.ldc 206, 2) := by decide +kernel
theorem dX12_kindHere_42 : decode cX12_kindHere 42 = .ok (.invokevirtual 198, 3) := by decide +kernel
theorem dX12_kindHere_45 : decode cX12_kindHere 45 = .ok (.ifCond .eq 7, 3) := by decide +kernel
theorem dX12_kindHere_48 : decode cX12_kindHere 48 = .ok (.iconst 3, 1) := by decide +kernel
theorem dX12_kindHere_49 : decode cX12_kindHere 49 = .ok (.goto 17, 3) := by decide +kernel
theorem dX12_kindHere_52 : decode cX12_kindHere 52 = .ok (.aload_n 0, 1) := by decide +kernel
theorem dX12_kindHere_53 : decode cX12_kindHere 53 = .ok (.ldc 208, 2) := by decide +kernel
theorem dX12_kindHere_55 : decode cX12_kindHere 55 = .ok (.invokevirtual 198, 3) := by decide +kernel
theorem dX12_kindHere_58 : decode cX12_kindHere 58 = .ok (.ifCond .eq 7, 3) := by decide +kernel
theorem dX12_kindHere_61 : decode cX12_kindHere 61 = .ok (.iconst 4, 1) := by decide +kernel
theorem dX12_kindHere_62 : decode cX12_kindHere 62 = .ok (.goto 4, 3) := by decide +kernel
theorem dX12_kindHere_65 : decode cX12_kindHere 65 = .ok (.iconst (-1), 1) := by decide +kernel
theorem dX12_kindHere_66 : decode cX12_kindHere 66 = .ok (.ireturn, 1) := by decide +kernel
theorem dX12_comesToWhole_0 : decode cX12_comesToWhole 0 = .ok (.aload_n 0, 1) := by decide +kernel
theorem dX12_comesToWhole_1 : decode cX12_comesToWhole 1 = .ok (.aload_n 0, 1) := by decide +kernel
theorem dX12_comesToWhole_2 : decode cX12_comesToWhole 2 = .ok (.bipush 45, 2) := by decide +kernel
theorem dX12_comesToWhole_4 : decode cX12_comesToWhole 4 = .ok (.invokevirtual 184, 3) := by decide +kernel
theorem dX12_comesToWhole_7 : decode cX12_comesToWhole 7 = .ok (.putfield 210, 3) := by decide +kernel
theorem dX12_comesToWhole_10 : decode cX12_comesToWhole 10 = .ok (.aload_n 0, 1) := by decide +kernel
theorem dX12_comesToWhole_11 : decode cX12_comesToWhole 11 = .ok (.getfield 210, 3) := by decide +kernel
theorem dX12_comesToWhole_14 : decode cX12_comesToWhole 14 = .ok (.ifCond .eq 7, 3) := by decide +kernel
theorem dX12_comesToWhole_17 : decode cX12_comesToWhole 17 = .ok (.aload_n 0, 1) := by decide +kernel
theorem dX12_comesToWhole_18 : decode cX12_comesToWhole 18 = .ok (.invokevirtual 190, 3) := by decide +kernel
theorem dX12_comesToWhole_21 : decode cX12_comesToWhole 21 = .ok (.aload_n 0, 1) := by decide +kernel
theorem dX12_comesToWhole_22 : decode cX12_comesToWhole 22 = .ok (.invokevirtual 214, 3) := by decide +kernel
theorem dX12_comesToWhole_25 : decode cX12_comesToWhole 25 = .ok (.ifCond .ne 11, 3) := by decide +kernel
theorem dX12_comesToWhole_28 : decode cX12_comesToWhole 28 = .ok (.aload_n 0, 1) := by decide +kernel
theorem dX12_comesToWhole_29 : decode cX12_comesToWhole 29 = .ok (.iconst 1, 1) := by decide +kernel
theorem dX12_comesToWhole_30 : decode cX12_comesToWhole 30 = .ok (.invokevirtual 187, 3) := by decide +kernel
theorem dX12_comesToWhole_33 : decode cX12_comesToWhole 33 = .ok (.ifCond .eq 7, 3) := by decide +kernel
theorem dX12_comesToWhole_36 : decode cX12_comesToWhole 36 = .ok (.iconst 1, 1) := by decide +kernel
theorem dX12_comesToWhole_37 : decode cX12_comesToWhole 37 = .ok (.goto 4, 3) := by decide +kernel
theorem dX12_comesToWhole_40 : decode cX12_comesToWhole 40 = .ok (.iconst 0, 1) := by decide +kernel
theorem dX12_comesToWhole_41 : decode cX12_comesToWhole 41 = .ok (.ireturn, 1) := by decide +kernel
theorem dX12_whole_0 : decode cX12_whole 0 = .ok (.aload_n 0, 1) := by decide +kernel
theorem dX12_whole_1 : decode cX12_whole 1 = .ok (.getfield 210, 3) := by decide +kernel
theorem dX12_whole_4 : decode cX12_whole 4 = .ok (.ifCond .eq 11, 3) := by decide +kernel
theorem dX12_whole_7 : decode cX12_whole 7 = .ok (.aload_n 0, 1) := by decide +kernel
theorem dX12_whole_8 : decode cX12_whole 8 = .ok (.getfield 136, 3) := by decide +kernel
theorem dX12_whole_11 : decode cX12_whole 11 = .ok (.ineg, 1) := by decide +kernel
theorem dX12_whole_12 : decode cX12_whole 12 = .ok (.goto 7, 3) := by decide +kernel
theorem dX12_whole_15 : decode cX12_whole 15 = .ok (.aload_n 0, 1) := by decide +kernel
theorem dX12_whole_16 : decode cX12_whole 16 = .ok (.getfield 136, 3) := by decide +kernel
theorem dX12_whole_19 : decode cX12_whole 19 = .ok (.ireturn, 1) := by decide +kernel
theorem dX12_readTerm_0 : decode cX12_readTerm 0 = .ok (.aload_n 0, 1) := by decide +kernel
theorem dX12_readTerm_1 : decode cX12_readTerm 1 = .ok (.getfield 9, 3) := by decide +kernel
theorem dX12_readTerm_4 : decode cX12_readTerm 4 = .ok (.iconst 4, 1) := by decide +kernel
theorem dX12_readTerm_5 : decode cX12_readTerm 5 = .ok (.iaload, 1) := by decide +kernel
theorem dX12_readTerm_6 : decode cX12_readTerm 6 = .ok (.istore_n 1, 1) := by decide +kernel
theorem dX12_readTerm_7 : decode cX12_readTerm 7 = .ok (.aload_n 0, 1) := by decide +kernel
theorem dX12_readTerm_8 : decode cX12_readTerm 8 = .ok (.invokevirtual 214, 3) := by decide +kernel
theorem dX12_readTerm_11 : decode cX12_readTerm 11 = .ok (.ifCond .ne 11, 3) := by decide +kernel
theorem dX12_readTerm_14 : decode cX12_readTerm 14 = .ok (.aload_n 0, 1) := by decide +kernel
theorem dX12_readTerm_15 : decode cX12_readTerm 15 = .ok (.invokevirtual 218, 3) := by decide +kernel
theorem dX12_readTerm_18 : decode cX12_readTerm 18 = .ok (.iconst (-1), 1) := by decide +kernel
theorem dX12_readTerm_19 : decode cX12_readTerm 19 = .ok (.if_icmp .eq 7, 3) := by decide +kernel
theorem dX12_readTerm_22 : decode cX12_readTerm 22 = .ok (.iconst 1, 1) := by decide +kernel
theorem dX12_readTerm_23 : decode cX12_readTerm 23 = .ok (.goto 4, 3) := by decide +kernel
theorem dX12_readTerm_26 : decode cX12_readTerm 26 = .ok (.iconst 0, 1) := by decide +kernel
theorem dX12_readTerm_27 : decode cX12_readTerm 27 = .ok (.istore_n 2, 1) := by decide +kernel
theorem dX12_readTerm_28 : decode cX12_readTerm 28 = .ok (.iload_n 2, 1) := by decide +kernel
theorem dX12_readTerm_29 : decode cX12_readTerm 29 = .ok (.ifCond .ne 9, 3) := by decide +kernel
theorem dX12_readTerm_32 : decode cX12_readTerm 32 = .ok (.aload_n 0, 1) := by decide +kernel
theorem dX12_readTerm_33 : decode cX12_readTerm 33 = .ok (.iconst 1, 1) := by decide +kernel
theorem dX12_readTerm_34 : decode cX12_readTerm 34 = .ok (.invokevirtual 187, 3) := by decide +kernel
theorem dX12_readTerm_37 : decode cX12_readTerm 37 = .ok (.ireturn, 1) := by decide +kernel
theorem dX12_readTerm_38 : decode cX12_readTerm 38 = .ok (.aload_n 0, 1) := by decide +kernel
theorem dX12_readTerm_39 : decode cX12_readTerm 39 = .ok (.invokevirtual 214, 3) := by decide +kernel
theorem dX12_readTerm_42 : decode cX12_readTerm 42 = .ok (.ifCond .eq 24, 3) := by decide +kernel
theorem dX12_readTerm_45 : decode cX12_readTerm 45 = .ok (.aload_n 0, 1) := by decide +kernel
theorem dX12_readTerm_46 : decode cX12_readTerm 46 = .ok (.getfield 136, 3) := by decide +kernel
theorem dX12_readTerm_49 : decode cX12_readTerm 49 = .ok (.i2l, 1) := by decide +kernel
theorem dX12_readTerm_50 : decode cX12_readTerm 50 = .ok (.lconst 1, 1) := by decide +kernel
theorem dX12_readTerm_51 : decode cX12_readTerm 51 = .ok (.ldc2_w 221, 3) := by decide +kernel
theorem dX12_readTerm_54 : decode cX12_readTerm 54 = .ok (.invokestatic 105, 3) := by decide +kernel
theorem dX12_readTerm_57 : decode cX12_readTerm 57 = .ok (.ifCond .ne 9, 3) := by decide +kernel
theorem dX12_readTerm_60 : decode cX12_readTerm 60 = .ok (.aload_n 0, 1) := by decide +kernel
theorem dX12_readTerm_61 : decode cX12_readTerm 61 = .ok (.iconst 2, 1) := by decide +kernel
theorem dX12_readTerm_62 : decode cX12_readTerm 62 = .ok (.invokevirtual 187, 3) := by decide +kernel
theorem dX12_readTerm_65 : decode cX12_readTerm 65 = .ok (.ireturn, 1) := by decide +kernel
theorem dX12_readTerm_66 : decode cX12_readTerm 66 = .ok (.iload_n 1, 1) := by decide +kernel
theorem dX12_readTerm_67 : decode cX12_readTerm 67 = .ok (.iconst 5, 1) := by decide +kernel
theorem dX12_readTerm_68 : decode cX12_readTerm 68 = .ok (.if_icmp .ne 9, 3) := by decide +kernel
theorem dX12_readTerm_71 : decode cX12_readTerm 71 = .ok (.aload_n 0, 1) := by decide +kernel
theorem dX12_readTerm_72 : decode cX12_readTerm 72 = .ok (.iconst 4, 1) := by decide +kernel
theorem dX12_readTerm_73 : decode cX12_readTerm 73 = .ok (.invokevirtual 187, 3) := by decide +kernel
theorem dX12_readTerm_76 : decode cX12_readTerm 76 = .ok (.ireturn, 1) := by decide +kernel
theorem dX12_readTerm_77 : decode cX12_readTerm 77 = .ok (.iconst 4, 1) := by decide +kernel
theorem dX12_readTerm_78 : decode cX12_readTerm 78 = .ok (.bipush 20, 2) := by decide +kernel
theorem dX12_readTerm_80 : decode cX12_readTerm 80 = .ok (.iload_n 1, 1) := by decide +kernel
theorem dX12_readTerm_81 : decode cX12_readTerm 81 = .ok (.iadd, 1) := by decide +kernel
theorem dX12_readTerm_82 : decode cX12_readTerm 82 = .ok (.imul, 1) := by decide +kernel
theorem dX12_readTerm_83 : decode cX12_readTerm 83 = .ok (.istore_n 3, 1) := by decide +kernel
theorem dX12_readTerm_84 : decode cX12_readTerm 84 = .ok (.aload_n 0, 1) := by decide +kernel
theorem dX12_readTerm_85 : decode cX12_readTerm 85 = .ok (.getfield 15, 3) := by decide +kernel
theorem dX12_readTerm_88 : decode cX12_readTerm 88 = .ok (.iload_n 3, 1) := by decide +kernel
theorem dX12_readTerm_89 : decode cX12_readTerm 89 = .ok (.iconst 0, 1) := by decide +kernel
theorem dX12_readTerm_90 : decode cX12_readTerm 90 = .ok (.iadd, 1) := by decide +kernel
theorem dX12_readTerm_91 : decode cX12_readTerm 91 = .ok (.iconst 1, 1) := by decide +kernel
theorem dX12_readTerm_92 : decode cX12_readTerm 92 = .ok (.iastore, 1) := by decide +kernel
theorem dX12_readTerm_93 : decode cX12_readTerm 93 = .ok (.aload_n 0, 1) := by decide +kernel
theorem dX12_readTerm_94 : decode cX12_readTerm 94 = .ok (.getfield 142, 3) := by decide +kernel
theorem dX12_readTerm_97 : decode cX12_readTerm 97 = .ok (.iconst 2, 1) := by decide +kernel
theorem dX12_readTerm_98 : decode cX12_readTerm 98 = .ok (.if_icmp .ne 19, 3) := by decide +kernel
theorem dX12_readTerm_101 : decode cX12_readTerm 101 = .ok (.aload_n 0, 1) := by decide +kernel
theorem dX12_readTerm_102 : decode cX12_readTerm 102 = .ok (.getfield 15, 3) := by decide +kernel
theorem dX12_readTerm_105 : decode cX12_readTerm 105 = .ok (.iload_n 3, 1) := by decide +kernel
theorem dX12_readTerm_106 : decode cX12_readTerm 106 = .ok (.iconst 0, 1) := by decide +kernel
theorem dX12_readTerm_107 : decode cX12_readTerm 107 = .ok (.iadd, 1) := by decide +kernel
theorem dX12_readTerm_108 : decode cX12_readTerm 108 = .ok (.aload_n 0, 1) := by decide +kernel
theorem dX12_readTerm_109 : decode cX12_readTerm 109 = .ok (.getfield 136, 3) := by decide +kernel
theorem dX12_readTerm_112 : decode cX12_readTerm 112 = .ok (.iastore, 1) := by decide +kernel
theorem dX12_readTerm_113 : decode cX12_readTerm 113 = .ok (.aload_n 0, 1) := by decide +kernel
theorem dX12_readTerm_114 : decode cX12_readTerm 114 = .ok (.invokevirtual 190, 3) := by decide +kernel
theorem dX12_readTerm_117 : decode cX12_readTerm 117 = .ok (.aload_n 0, 1) := by decide +kernel
theorem dX12_readTerm_118 : decode cX12_readTerm 118 = .ok (.invokevirtual 218, 3) := by decide +kernel
theorem dX12_readTerm_121 : decode cX12_readTerm 121 = .ok (.istore 4, 2) := by decide +kernel
theorem dX12_readTerm_123 : decode cX12_readTerm 123 = .ok (.iload 4, 2) := by decide +kernel
theorem dX12_readTerm_125 : decode cX12_readTerm 125 = .ok (.iconst (-1), 1) := by decide +kernel
theorem dX12_readTerm_126 : decode cX12_readTerm 126 = .ok (.if_icmp .ne 9, 3) := by decide +kernel
theorem dX12_readTerm_129 : decode cX12_readTerm 129 = .ok (.aload_n 0, 1) := by decide +kernel
theorem dX12_readTerm_130 : decode cX12_readTerm 130 = .ok (.iconst 1, 1) := by decide +kernel
theorem dX12_readTerm_131 : decode cX12_readTerm 131 = .ok (.invokevirtual 187, 3) := by decide +kernel
theorem dX12_readTerm_134 : decode cX12_readTerm 134 = .ok (.ireturn, 1) := by decide +kernel
theorem dX12_readTerm_135 : decode cX12_readTerm 135 = .ok (.aload_n 0, 1) := by decide +kernel
theorem dX12_readTerm_136 : decode cX12_readTerm 136 = .ok (.getfield 15, 3) := by decide +kernel
theorem dX12_readTerm_139 : decode cX12_readTerm 139 = .ok (.iload_n 3, 1) := by decide +kernel
theorem dX12_readTerm_140 : decode cX12_readTerm 140 = .ok (.iconst 1, 1) := by decide +kernel
theorem dX12_readTerm_141 : decode cX12_readTerm 141 = .ok (.iadd, 1) := by decide +kernel
theorem dX12_readTerm_142 : decode cX12_readTerm 142 = .ok (.iload 4, 2) := by decide +kernel
theorem dX12_readTerm_144 : decode cX12_readTerm 144 = .ok (.iastore, 1) := by decide +kernel
theorem dX12_readTerm_145 : decode cX12_readTerm 145 = .ok (.aload_n 0, 1) := by decide +kernel
theorem dX12_readTerm_146 : decode cX12_readTerm 146 = .ok (.getfield 15, 3) := by decide +kernel
theorem dX12_readTerm_149 : decode cX12_readTerm 149 = .ok (.iload_n 3, 1) := by decide +kernel
theorem dX12_readTerm_150 : decode cX12_readTerm 150 = .ok (.iconst 2, 1) := by decide +kernel
theorem dX12_readTerm_151 : decode cX12_readTerm 151 = .ok (.iadd, 1) := by decide +kernel
theorem dX12_readTerm_152 : decode cX12_readTerm 152 = .ok (.iconst 0, 1) := by decide +kernel
theorem dX12_readTerm_153 : decode cX12_readTerm 153 = .ok (.iastore, 1) := by decide +kernel
theorem dX12_readTerm_154 : decode cX12_readTerm 154 = .ok (.aload_n 0, 1) := by decide +kernel
theorem dX12_readTerm_155 : decode cX12_readTerm 155 = .ok (.getfield 15, 3) := by decide +kernel
theorem dX12_readTerm_158 : decode cX12_readTerm 158 = .ok (.iload_n 3, 1) := by decide +kernel
theorem dX12_readTerm_159 : decode cX12_readTerm 159 = .ok (.iconst 3, 1) := by decide +kernel
theorem dX12_readTerm_160 : decode cX12_readTerm 160 = .ok (.iadd, 1) := by decide +kernel
theorem dX12_readTerm_161 : decode cX12_readTerm 161 = .ok (.aload_n 0, 1) := by decide +kernel
theorem dX12_readTerm_162 : decode cX12_readTerm 162 = .ok (.getfield 15, 3) := by decide +kernel
theorem dX12_readTerm_165 : decode cX12_readTerm 165 = .ok (.iload_n 3, 1) := by decide +kernel
theorem dX12_readTerm_166 : decode cX12_readTerm 166 = .ok (.iconst 0, 1) := by decide +kernel
theorem dX12_readTerm_167 : decode cX12_readTerm 167 = .ok (.iadd, 1) := by decide +kernel
theorem dX12_readTerm_168 : decode cX12_readTerm 168 = .ok (.iaload, 1) := by decide +kernel
theorem dX12_readTerm_169 : decode cX12_readTerm 169 = .ok (.iload 4, 2) := by decide +kernel
theorem dX12_readTerm_171 : decode cX12_readTerm 171 = .ok (.invokestatic 223, 3) := by decide +kernel
theorem dX12_readTerm_174 : decode cX12_readTerm 174 = .ok (.iastore, 1) := by decide +kernel
theorem dX12_readTerm_175 : decode cX12_readTerm 175 = .ok (.aload_n 0, 1) := by decide +kernel
theorem dX12_readTerm_176 : decode cX12_readTerm 176 = .ok (.invokevirtual 190, 3) := by decide +kernel
theorem dX12_readTerm_179 : decode cX12_readTerm 179 = .ok (.aload_n 0, 1) := by decide +kernel
theorem dX12_readTerm_180 : decode cX12_readTerm 180 = .ok (.ldc 227, 2) := by decide +kernel
theorem dX12_readTerm_182 : decode cX12_readTerm 182 = .ok (.invokevirtual 198, 3) := by decide +kernel
theorem dX12_readTerm_185 : decode cX12_readTerm 185 = .ok (.ifCond .eq 137, 3) := by decide +kernel
theorem dX12_readTerm_188 : decode cX12_readTerm 188 = .ok (.aload_n 0, 1) := by decide +kernel
theorem dX12_readTerm_189 : decode cX12_readTerm 189 = .ok (.invokevirtual 190, 3) := by decide +kernel
theorem dX12_readTerm_192 : decode cX12_readTerm 192 = .ok (.aload_n 0, 1) := by decide +kernel
theorem dX12_readTerm_193 : decode cX12_readTerm 193 = .ok (.invokevirtual 228, 3) := by decide +kernel
theorem dX12_readTerm_196 : decode cX12_readTerm 196 = .ok (.ifCond .ne 5, 3) := by decide +kernel
theorem dX12_readTerm_199 : decode cX12_readTerm 199 = .ok (.iconst 0, 1) := by decide +kernel
theorem dX12_readTerm_200 : decode cX12_readTerm 200 = .ok (.ireturn, 1) := by decide +kernel
theorem dX12_readTerm_201 : decode cX12_readTerm 201 = .ok (.aload_n 0, 1) := by decide +kernel
theorem dX12_readTerm_202 : decode cX12_readTerm 202 = .ok (.iconst 4, 1) := by decide +kernel
theorem dX12_readTerm_203 : decode cX12_readTerm 203 = .ok (.iload_n 1, 1) := by decide +kernel
theorem dX12_readTerm_204 : decode cX12_readTerm 204 = .ok (.aload_n 0, 1) := by decide +kernel
theorem dX12_readTerm_205 : decode cX12_readTerm 205 = .ok (.invokevirtual 231, 3) := by decide +kernel
theorem dX12_readTerm_208 : decode cX12_readTerm 208 = .ok (.i2l, 1) := by decide +kernel
theorem dX12_readTerm_209 : decode cX12_readTerm 209 = .ok (.invokevirtual 234, 3) := by decide +kernel
theorem dX12_readTerm_212 : decode cX12_readTerm 212 = .ok (.invokestatic 238, 3) := by decide +kernel
theorem dX12_readTerm_215 : decode cX12_readTerm 215 = .ok (.ifCond .ne 9, 3) := by decide +kernel
theorem dX12_readTerm_218 : decode cX12_readTerm 218 = .ok (.aload_n 0, 1) := by decide +kernel
theorem dX12_readTerm_219 : decode cX12_readTerm 219 = .ok (.iconst 3, 1) := by decide +kernel
theorem dX12_readTerm_220 : decode cX12_readTerm 220 = .ok (.invokevirtual 187, 3) := by decide +kernel
theorem dX12_readTerm_223 : decode cX12_readTerm 223 = .ok (.ireturn, 1) := by decide +kernel
theorem dX12_readTerm_224 : decode cX12_readTerm 224 = .ok (.aload_n 0, 1) := by decide +kernel
theorem dX12_readTerm_225 : decode cX12_readTerm 225 = .ok (.getfield 15, 3) := by decide +kernel
theorem dX12_readTerm_228 : decode cX12_readTerm 228 = .ok (.iload_n 3, 1) := by decide +kernel
theorem dX12_readTerm_229 : decode cX12_readTerm 229 = .ok (.iconst 2, 1) := by decide +kernel
theorem dX12_readTerm_230 : decode cX12_readTerm 230 = .ok (.iadd, 1) := by decide +kernel
theorem dX12_readTerm_231 : decode cX12_readTerm 231 = .ok (.aload_n 0, 1) := by decide +kernel
theorem dX12_readTerm_232 : decode cX12_readTerm 232 = .ok (.invokevirtual 231, 3) := by decide +kernel
theorem dX12_readTerm_235 : decode cX12_readTerm 235 = .ok (.iastore, 1) := by decide +kernel
theorem dX12_readTerm_236 : decode cX12_readTerm 236 = .ok (.aload_n 0, 1) := by decide +kernel
theorem dX12_readTerm_237 : decode cX12_readTerm 237 = .ok (.invokevirtual 190, 3) := by decide +kernel
theorem dX12_readTerm_240 : decode cX12_readTerm 240 = .ok (.aload_n 0, 1) := by decide +kernel
theorem dX12_readTerm_241 : decode cX12_readTerm 241 = .ok (.ldc 242, 2) := by decide +kernel
theorem dX12_readTerm_243 : decode cX12_readTerm 243 = .ok (.invokevirtual 198, 3) := by decide +kernel
theorem dX12_readTerm_246 : decode cX12_readTerm 246 = .ok (.ifCond .ne 9, 3) := by decide +kernel
theorem dX12_readTerm_249 : decode cX12_readTerm 249 = .ok (.aload_n 0, 1) := by decide +kernel
theorem dX12_readTerm_250 : decode cX12_readTerm 250 = .ok (.iconst 1, 1) := by decide +kernel
theorem dX12_readTerm_251 : decode cX12_readTerm 251 = .ok (.invokevirtual 187, 3) := by decide +kernel
theorem dX12_readTerm_254 : decode cX12_readTerm 254 = .ok (.ireturn, 1) := by decide +kernel
theorem dX12_readTerm_255 : decode cX12_readTerm 255 = .ok (.aload_n 0, 1) := by decide +kernel
theorem dX12_readTerm_256 : decode cX12_readTerm 256 = .ok (.invokevirtual 190, 3) := by decide +kernel
theorem dX12_readTerm_259 : decode cX12_readTerm 259 = .ok (.aload_n 0, 1) := by decide +kernel
theorem dX12_readTerm_260 : decode cX12_readTerm 260 = .ok (.invokevirtual 228, 3) := by decide +kernel
theorem dX12_readTerm_263 : decode cX12_readTerm 263 = .ok (.ifCond .ne 5, 3) := by decide +kernel
theorem dX12_readTerm_266 : decode cX12_readTerm 266 = .ok (.iconst 0, 1) := by decide +kernel
theorem dX12_readTerm_267 : decode cX12_readTerm 267 = .ok (.ireturn, 1) := by decide +kernel
theorem dX12_readTerm_268 : decode cX12_readTerm 268 = .ok (.aload_n 0, 1) := by decide +kernel
theorem dX12_readTerm_269 : decode cX12_readTerm 269 = .ok (.invokevirtual 231, 3) := by decide +kernel
theorem dX12_readTerm_272 : decode cX12_readTerm 272 = .ok (.aload_n 0, 1) := by decide +kernel
theorem dX12_readTerm_273 : decode cX12_readTerm 273 = .ok (.getfield 15, 3) := by decide +kernel
theorem dX12_readTerm_276 : decode cX12_readTerm 276 = .ok (.iload_n 3, 1) := by decide +kernel
theorem dX12_readTerm_277 : decode cX12_readTerm 277 = .ok (.iconst 2, 1) := by decide +kernel
theorem dX12_readTerm_278 : decode cX12_readTerm 278 = .ok (.iadd, 1) := by decide +kernel
theorem dX12_readTerm_279 : decode cX12_readTerm 279 = .ok (.iaload, 1) := by decide +kernel
theorem dX12_readTerm_280 : decode cX12_readTerm 280 = .ok (.if_icmp .lt 20, 3) := by decide +kernel
theorem dX12_readTerm_283 : decode cX12_readTerm 283 = .ok (.aload_n 0, 1) := by decide +kernel
theorem dX12_readTerm_284 : decode cX12_readTerm 284 = .ok (.iconst 4, 1) := by decide +kernel
theorem dX12_readTerm_285 : decode cX12_readTerm 285 = .ok (.iload_n 1, 1) := by decide +kernel
theorem dX12_readTerm_286 : decode cX12_readTerm 286 = .ok (.aload_n 0, 1) := by decide +kernel
theorem dX12_readTerm_287 : decode cX12_readTerm 287 = .ok (.invokevirtual 231, 3) := by decide +kernel
theorem dX12_readTerm_290 : decode cX12_readTerm 290 = .ok (.i2l, 1) := by decide +kernel
theorem dX12_readTerm_291 : decode cX12_readTerm 291 = .ok (.invokevirtual 234, 3) := by decide +kernel
theorem dX12_readTerm_294 : decode cX12_readTerm 294 = .ok (.invokestatic 238, 3) := by decide +kernel
theorem dX12_readTerm_297 : decode cX12_readTerm 297 = .ok (.ifCond .ne 9, 3) := by decide +kernel
theorem dX12_readTerm_300 : decode cX12_readTerm 300 = .ok (.aload_n 0, 1) := by decide +kernel
theorem dX12_readTerm_301 : decode cX12_readTerm 301 = .ok (.iconst 3, 1) := by decide +kernel
theorem dX12_readTerm_302 : decode cX12_readTerm 302 = .ok (.invokevirtual 187, 3) := by decide +kernel
theorem dX12_readTerm_305 : decode cX12_readTerm 305 = .ok (.ireturn, 1) := by decide +kernel
theorem dX12_readTerm_306 : decode cX12_readTerm 306 = .ok (.aload_n 0, 1) := by decide +kernel
theorem dX12_readTerm_307 : decode cX12_readTerm 307 = .ok (.getfield 15, 3) := by decide +kernel
theorem dX12_readTerm_310 : decode cX12_readTerm 310 = .ok (.iload_n 3, 1) := by decide +kernel
theorem dX12_readTerm_311 : decode cX12_readTerm 311 = .ok (.iconst 3, 1) := by decide +kernel
theorem dX12_readTerm_312 : decode cX12_readTerm 312 = .ok (.iadd, 1) := by decide +kernel
theorem dX12_readTerm_313 : decode cX12_readTerm 313 = .ok (.aload_n 0, 1) := by decide +kernel
theorem dX12_readTerm_314 : decode cX12_readTerm 314 = .ok (.invokevirtual 231, 3) := by decide +kernel
theorem dX12_readTerm_317 : decode cX12_readTerm 317 = .ok (.iastore, 1) := by decide +kernel
theorem dX12_readTerm_318 : decode cX12_readTerm 318 = .ok (.aload_n 0, 1) := by decide +kernel
theorem dX12_readTerm_319 : decode cX12_readTerm 319 = .ok (.invokevirtual 190, 3) := by decide +kernel
theorem dX12_readTerm_322 : decode cX12_readTerm 322 = .ok (.aload_n 0, 1) := by decide +kernel
theorem dX12_readTerm_323 : decode cX12_readTerm 323 = .ok (.getfield 9, 3) := by decide +kernel
theorem dX12_readTerm_326 : decode cX12_readTerm 326 = .ok (.iconst 4, 1) := by decide +kernel
theorem dX12_readTerm_327 : decode cX12_readTerm 327 = .ok (.dup2, 1) := by decide +kernel
theorem dX12_readTerm_328 : decode cX12_readTerm 328 = .ok (.iaload, 1) := by decide +kernel
theorem dX12_readTerm_329 : decode cX12_readTerm 329 = .ok (.iconst 1, 1) := by decide +kernel
theorem dX12_readTerm_330 : decode cX12_readTerm 330 = .ok (.iadd, 1) := by decide +kernel
theorem dX12_readTerm_331 : decode cX12_readTerm 331 = .ok (.iastore, 1) := by decide +kernel
theorem dX12_readTerm_332 : decode cX12_readTerm 332 = .ok (.iconst 1, 1) := by decide +kernel
theorem dX12_readTerm_333 : decode cX12_readTerm 333 = .ok (.ireturn, 1) := by decide +kernel
theorem dX12_copies_0 : decode cX12_copies 0 = .ok (.iconst 0, 1) := by decide +kernel
theorem dX12_copies_1 : decode cX12_copies 1 = .ok (.istore 5, 2) := by decide +kernel
theorem dX12_copies_3 : decode cX12_copies 3 = .ok (.iload 5, 2) := by decide +kernel
theorem dX12_copies_5 : decode cX12_copies 5 = .ok (.iconst 4, 1) := by decide +kernel
theorem dX12_copies_6 : decode cX12_copies 6 = .ok (.if_icmp .ge 40, 3) := by decide +kernel
theorem dX12_copies_9 : decode cX12_copies 9 = .ok (.aload_n 0, 1) := by decide +kernel
theorem dX12_copies_10 : decode cX12_copies 10 = .ok (.getfield 15, 3) := by decide +kernel
theorem dX12_copies_13 : decode cX12_copies 13 = .ok (.iconst 4, 1) := by decide +kernel
theorem dX12_copies_14 : decode cX12_copies 14 = .ok (.iconst 5, 1) := by decide +kernel
theorem dX12_copies_15 : decode cX12_copies 15 = .ok (.iload_n 3, 1) := by decide +kernel
theorem dX12_copies_16 : decode cX12_copies 16 = .ok (.imul, 1) := by decide +kernel
theorem dX12_copies_17 : decode cX12_copies 17 = .ok (.iload 4, 2) := by decide +kernel
theorem dX12_copies_19 : decode cX12_copies 19 = .ok (.iadd, 1) := by decide +kernel
theorem dX12_copies_20 : decode cX12_copies 20 = .ok (.imul, 1) := by decide +kernel
theorem dX12_copies_21 : decode cX12_copies 21 = .ok (.iload 5, 2) := by decide +kernel
theorem dX12_copies_23 : decode cX12_copies 23 = .ok (.iadd, 1) := by decide +kernel
theorem dX12_copies_24 : decode cX12_copies 24 = .ok (.aload_n 0, 1) := by decide +kernel
theorem dX12_copies_25 : decode cX12_copies 25 = .ok (.getfield 15, 3) := by decide +kernel
theorem dX12_copies_28 : decode cX12_copies 28 = .ok (.iconst 4, 1) := by decide +kernel
theorem dX12_copies_29 : decode cX12_copies 29 = .ok (.iconst 5, 1) := by decide +kernel
theorem dX12_copies_30 : decode cX12_copies 30 = .ok (.iload_n 1, 1) := by decide +kernel
theorem dX12_copies_31 : decode cX12_copies 31 = .ok (.imul, 1) := by decide +kernel
theorem dX12_copies_32 : decode cX12_copies 32 = .ok (.iload_n 2, 1) := by decide +kernel
theorem dX12_copies_33 : decode cX12_copies 33 = .ok (.iadd, 1) := by decide +kernel
theorem dX12_copies_34 : decode cX12_copies 34 = .ok (.imul, 1) := by decide +kernel
theorem dX12_copies_35 : decode cX12_copies 35 = .ok (.iload 5, 2) := by decide +kernel
theorem dX12_copies_37 : decode cX12_copies 37 = .ok (.iadd, 1) := by decide +kernel
theorem dX12_copies_38 : decode cX12_copies 38 = .ok (.iaload, 1) := by decide +kernel
theorem dX12_copies_39 : decode cX12_copies 39 = .ok (.iastore, 1) := by decide +kernel
theorem dX12_copies_40 : decode cX12_copies 40 = .ok (.iinc 5 1, 3) := by decide +kernel
theorem dX12_copies_43 : decode cX12_copies 43 = .ok (.goto (-40), 3) := by decide +kernel
theorem dX12_copies_46 : decode cX12_copies 46 = .ok (.return_, 1) := by decide +kernel
theorem dX12_takesOver_0 : decode cX12_takesOver 0 = .ok (.aload_n 0, 1) := by decide +kernel
theorem dX12_takesOver_1 : decode cX12_takesOver 1 = .ok (.getfield 9, 3) := by decide +kernel
theorem dX12_takesOver_4 : decode cX12_takesOver 4 = .ok (.iload_n 1, 1) := by decide +kernel
theorem dX12_takesOver_5 : decode cX12_takesOver 5 = .ok (.aload_n 0, 1) := by decide +kernel
theorem dX12_takesOver_6 : decode cX12_takesOver 6 = .ok (.getfield 9, 3) := by decide +kernel
theorem dX12_takesOver_9 : decode cX12_takesOver 9 = .ok (.iconst 4, 1) := by decide +kernel
theorem dX12_takesOver_10 : decode cX12_takesOver 10 = .ok (.iaload, 1) := by decide +kernel
theorem dX12_takesOver_11 : decode cX12_takesOver 11 = .ok (.iastore, 1) := by decide +kernel
theorem dX12_takesOver_12 : decode cX12_takesOver 12 = .ok (.iconst 0, 1) := by decide +kernel
theorem dX12_takesOver_13 : decode cX12_takesOver 13 = .ok (.istore_n 2, 1) := by decide +kernel
theorem dX12_takesOver_14 : decode cX12_takesOver 14 = .ok (.iload_n 2, 1) := by decide +kernel
theorem dX12_takesOver_15 : decode cX12_takesOver 15 = .ok (.iconst 5, 1) := by decide +kernel
theorem dX12_takesOver_16 : decode cX12_takesOver 16 = .ok (.if_icmp .ge 17, 3) := by decide +kernel
theorem dX12_takesOver_19 : decode cX12_takesOver 19 = .ok (.aload_n 0, 1) := by decide +kernel
theorem dX12_takesOver_20 : decode cX12_takesOver 20 = .ok (.iconst 4, 1) := by decide +kernel
theorem dX12_takesOver_21 : decode cX12_takesOver 21 = .ok (.iload_n 2, 1) := by decide +kernel
theorem dX12_takesOver_22 : decode cX12_takesOver 22 = .ok (.iload_n 1, 1) := by decide +kernel
theorem dX12_takesOver_23 : decode cX12_takesOver 23 = .ok (.iload_n 2, 1) := by decide +kernel
theorem dX12_takesOver_24 : decode cX12_takesOver 24 = .ok (.invokevirtual 243, 3) := by decide +kernel
theorem dX12_takesOver_27 : decode cX12_takesOver 27 = .ok (.iinc 2 1, 3) := by decide +kernel
theorem dX12_takesOver_30 : decode cX12_takesOver 30 = .ok (.goto (-16), 3) := by decide +kernel
theorem dX12_takesOver_33 : decode cX12_takesOver 33 = .ok (.aload_n 0, 1) := by decide +kernel
theorem dX12_takesOver_34 : decode cX12_takesOver 34 = .ok (.iconst (-1), 1) := by decide +kernel
theorem dX12_takesOver_35 : decode cX12_takesOver 35 = .ok (.putfield 31, 3) := by decide +kernel
theorem dX12_takesOver_38 : decode cX12_takesOver 38 = .ok (.aload_n 0, 1) := by decide +kernel
theorem dX12_takesOver_39 : decode cX12_takesOver 39 = .ok (.iconst (-1), 1) := by decide +kernel
theorem dX12_takesOver_40 : decode cX12_takesOver 40 = .ok (.putfield 39, 3) := by decide +kernel
theorem dX12_takesOver_43 : decode cX12_takesOver 43 = .ok (.return_, 1) := by decide +kernel
theorem dX12_form_0 : decode cX12_form 0 = .ok (.aload_n 0, 1) := by decide +kernel
theorem dX12_form_1 : decode cX12_form 1 = .ok (.invokevirtual 247, 3) := by decide +kernel
theorem dX12_form_4 : decode cX12_form 4 = .ok (.aload_n 0, 1) := by decide +kernel
theorem dX12_form_5 : decode cX12_form 5 = .ok (.getfield 9, 3) := by decide +kernel
theorem dX12_form_8 : decode cX12_form 8 = .ok (.iconst 4, 1) := by decide +kernel
theorem dX12_form_9 : decode cX12_form 9 = .ok (.iconst 0, 1) := by decide +kernel
theorem dX12_form_10 : decode cX12_form 10 = .ok (.iastore, 1) := by decide +kernel
theorem dX12_form_11 : decode cX12_form 11 = .ok (.iload_n 1, 1) := by decide +kernel
theorem dX12_form_12 : decode cX12_form 12 = .ok (.invokestatic 111, 3) := by decide +kernel
theorem dX12_form_15 : decode cX12_form 15 = .ok (.istore_n 2, 1) := by decide +kernel
theorem dX12_form_16 : decode cX12_form 16 = .ok (.iload_n 2, 1) := by decide +kernel
theorem dX12_form_17 : decode cX12_form 17 = .ok (.istore_n 3, 1) := by decide +kernel
theorem dX12_form_18 : decode cX12_form 18 = .ok (.iload_n 3, 1) := by decide +kernel
theorem dX12_form_19 : decode cX12_form 19 = .ok (.ifCond .eq 47, 3) := by decide +kernel
theorem dX12_form_22 : decode cX12_form 22 = .ok (.aload_n 0, 1) := by decide +kernel
theorem dX12_form_23 : decode cX12_form 23 = .ok (.aload_n 0, 1) := by decide +kernel
theorem dX12_form_24 : decode cX12_form 24 = .ok (.getfield 9, 3) := by decide +kernel
theorem dX12_form_27 : decode cX12_form 27 = .ok (.iconst 4, 1) := by decide +kernel
theorem dX12_form_28 : decode cX12_form 28 = .ok (.iaload, 1) := by decide +kernel
theorem dX12_form_29 : decode cX12_form 29 = .ok (.putfield 159, 3) := by decide +kernel
theorem dX12_form_32 : decode cX12_form 32 = .ok (.aload_n 0, 1) := by decide +kernel
theorem dX12_form_33 : decode cX12_form 33 = .ok (.invokevirtual 250, 3) := by decide +kernel
theorem dX12_form_36 : decode cX12_form 36 = .ok (.ifCond .eq 14, 3) := by decide +kernel
theorem dX12_form_39 : decode cX12_form 39 = .ok (.aload_n 0, 1) := by decide +kernel
theorem dX12_form_40 : decode cX12_form 40 = .ok (.getfield 142, 3) := by decide +kernel
theorem dX12_form_43 : decode cX12_form 43 = .ok (.ifCond .eq 7, 3) := by decide +kernel
theorem dX12_form_46 : decode cX12_form 46 = .ok (.iconst 1, 1) := by decide +kernel
theorem dX12_form_47 : decode cX12_form 47 = .ok (.goto 4, 3) := by decide +kernel
theorem dX12_form_50 : decode cX12_form 50 = .ok (.iconst 0, 1) := by decide +kernel
theorem dX12_form_51 : decode cX12_form 51 = .ok (.istore_n 3, 1) := by decide +kernel
theorem dX12_form_52 : decode cX12_form 52 = .ok (.iload_n 3, 1) := by decide +kernel
theorem dX12_form_53 : decode cX12_form 53 = .ok (.ifCond .eq (-35), 3) := by decide +kernel
theorem dX12_form_56 : decode cX12_form 56 = .ok (.aload_n 0, 1) := by decide +kernel
theorem dX12_form_57 : decode cX12_form 57 = .ok (.bipush 43, 2) := by decide +kernel
theorem dX12_form_59 : decode cX12_form 59 = .ok (.invokevirtual 253, 3) := by decide +kernel
theorem dX12_form_62 : decode cX12_form 62 = .ok (.istore_n 3, 1) := by decide +kernel
theorem dX12_form_63 : decode cX12_form 63 = .ok (.goto (-45), 3) := by decide +kernel
theorem dX12_form_66 : decode cX12_form 66 = .ok (.aload_n 0, 1) := by decide +kernel
theorem dX12_form_67 : decode cX12_form 67 = .ok (.invokevirtual 256, 3) := by decide +kernel
theorem dX12_form_70 : decode cX12_form 70 = .ok (.pop, 1) := by decide +kernel
theorem dX12_form_71 : decode cX12_form 71 = .ok (.iload_n 2, 1) := by decide +kernel
theorem dX12_form_72 : decode cX12_form 72 = .ok (.ifCond .ne 6, 3) := by decide +kernel
theorem dX12_form_75 : decode cX12_form 75 = .ok (.bipush (-2), 2) := by decide +kernel
theorem dX12_form_77 : decode cX12_form 77 = .ok (.ireturn, 1) := by decide +kernel
theorem dX12_form_78 : decode cX12_form 78 = .ok (.aload_n 0, 1) := by decide +kernel
theorem dX12_form_79 : decode cX12_form 79 = .ok (.getfield 153, 3) := by decide +kernel
theorem dX12_form_82 : decode cX12_form 82 = .ok (.ifCond .eq 5, 3) := by decide +kernel
theorem dX12_form_85 : decode cX12_form 85 = .ok (.iconst (-1), 1) := by decide +kernel
theorem dX12_form_86 : decode cX12_form 86 = .ok (.ireturn, 1) := by decide +kernel
theorem dX12_form_87 : decode cX12_form 87 = .ok (.aload_n 0, 1) := by decide +kernel
theorem dX12_form_88 : decode cX12_form 88 = .ok (.iload_n 1, 1) := by decide +kernel
theorem dX12_form_89 : decode cX12_form 89 = .ok (.invokevirtual 259, 3) := by decide +kernel
theorem dX12_form_92 : decode cX12_form 92 = .ok (.aload_n 0, 1) := by decide +kernel
theorem dX12_form_93 : decode cX12_form 93 = .ok (.getfield 9, 3) := by decide +kernel
theorem dX12_form_96 : decode cX12_form 96 = .ok (.iload_n 1, 1) := by decide +kernel
theorem dX12_form_97 : decode cX12_form 97 = .ok (.iaload, 1) := by decide +kernel
theorem dX12_form_98 : decode cX12_form 98 = .ok (.ireturn, 1) := by decide +kernel
theorem dX12_laysLayer_0 : decode cX12_laysLayer 0 = .ok (.iconst 0, 1) := by decide +kernel
theorem dX12_laysLayer_1 : decode cX12_laysLayer 1 = .ok (.istore 7, 2) := by decide +kernel
theorem dX12_laysLayer_3 : decode cX12_laysLayer 3 = .ok (.iload 7, 2) := by decide +kernel
theorem dX12_laysLayer_5 : decode cX12_laysLayer 5 = .ok (.sipush 30001, 3) := by decide +kernel
theorem dX12_laysLayer_8 : decode cX12_laysLayer 8 = .ok (.if_icmp .ge 134, 3) := by decide +kernel
theorem dX12_laysLayer_11 : decode cX12_laysLayer 11 = .ok (.lconst 0, 1) := by decide +kernel
theorem dX12_laysLayer_12 : decode cX12_laysLayer 12 = .ok (.lstore 8, 2) := by decide +kernel
theorem dX12_laysLayer_14 : decode cX12_laysLayer 14 = .ok (.iload 4, 2) := by decide +kernel
theorem dX12_laysLayer_16 : decode cX12_laysLayer 16 = .ok (.ifCond .ne 63, 3) := by decide +kernel
theorem dX12_laysLayer_19 : decode cX12_laysLayer 19 = .ok (.iload 7, 2) := by decide +kernel
theorem dX12_laysLayer_21 : decode cX12_laysLayer 21 = .ok (.iload_n 3, 1) := by decide +kernel
theorem dX12_laysLayer_22 : decode cX12_laysLayer 22 = .ok (.if_icmp .lt 21, 3) := by decide +kernel
theorem dX12_laysLayer_25 : decode cX12_laysLayer 25 = .ok (.aload_n 0, 1) := by decide +kernel
theorem dX12_laysLayer_26 : decode cX12_laysLayer 26 = .ok (.getfield 35, 3) := by decide +kernel
theorem dX12_laysLayer_29 : decode cX12_laysLayer 29 = .ok (.sipush 30001, 3) := by decide +kernel
theorem dX12_laysLayer_32 : decode cX12_laysLayer 32 = .ok (.iload_n 1, 1) := by decide +kernel
theorem dX12_laysLayer_33 : decode cX12_laysLayer 33 = .ok (.imul, 1) := by decide +kernel
theorem dX12_laysLayer_34 : decode cX12_laysLayer 34 = .ok (.iload 7, 2) := by decide +kernel
theorem dX12_laysLayer_36 : decode cX12_laysLayer 36 = .ok (.iadd, 1) := by decide +kernel
theorem dX12_laysLayer_37 : decode cX12_laysLayer 37 = .ok (.iload_n 3, 1) := by decide +kernel
theorem dX12_laysLayer_38 : decode cX12_laysLayer 38 = .ok (.isub, 1) := by decide +kernel
theorem dX12_laysLayer_39 : decode cX12_laysLayer 39 = .ok (.laload, 1) := by decide +kernel
theorem dX12_laysLayer_40 : decode cX12_laysLayer 40 = .ok (.goto 4, 3) := by decide +kernel
theorem dX12_laysLayer_43 : decode cX12_laysLayer 43 = .ok (.lconst 0, 1) := by decide +kernel
theorem dX12_laysLayer_44 : decode cX12_laysLayer 44 = .ok (.aload_n 0, 1) := by decide +kernel
theorem dX12_laysLayer_45 : decode cX12_laysLayer 45 = .ok (.iload_n 2, 1) := by decide +kernel
theorem dX12_laysLayer_46 : decode cX12_laysLayer 46 = .ok (.iload 7, 2) := by decide +kernel
theorem dX12_laysLayer_48 : decode cX12_laysLayer 48 = .ok (.iload_n 3, 1) := by decide +kernel
theorem dX12_laysLayer_49 : decode cX12_laysLayer 49 = .ok (.iload 5, 2) := by decide +kernel
theorem dX12_laysLayer_51 : decode cX12_laysLayer 51 = .ok (.imul, 1) := by decide +kernel
theorem dX12_laysLayer_52 : decode cX12_laysLayer 52 = .ok (.isub, 1) := by decide +kernel
theorem dX12_laysLayer_53 : decode cX12_laysLayer 53 = .ok (.i2l, 1) := by decide +kernel
theorem dX12_laysLayer_54 : decode cX12_laysLayer 54 = .ok (.invokevirtual 262, 3) := by decide +kernel
theorem dX12_laysLayer_57 : decode cX12_laysLayer 57 = .ok (.ladd, 1) := by decide +kernel
theorem dX12_laysLayer_58 : decode cX12_laysLayer 58 = .ok (.aload_n 0, 1) := by decide +kernel
theorem dX12_laysLayer_59 : decode cX12_laysLayer 59 = .ok (.iload_n 2, 1) := by decide +kernel
theorem dX12_laysLayer_60 : decode cX12_laysLayer 60 = .ok (.iload 7, 2) := by decide +kernel
theorem dX12_laysLayer_62 : decode cX12_laysLayer 62 = .ok (.iload_n 3, 1) := by decide +kernel
theorem dX12_laysLayer_63 : decode cX12_laysLayer 63 = .ok (.iload 6, 2) := by decide +kernel
theorem dX12_laysLayer_65 : decode cX12_laysLayer 65 = .ok (.iconst 1, 1) := by decide +kernel
theorem dX12_laysLayer_66 : decode cX12_laysLayer 66 = .ok (.iadd, 1) := by decide +kernel
theorem dX12_laysLayer_67 : decode cX12_laysLayer 67 = .ok (.imul, 1) := by decide +kernel
theorem dX12_laysLayer_68 : decode cX12_laysLayer 68 = .ok (.isub, 1) := by decide +kernel
theorem dX12_laysLayer_69 : decode cX12_laysLayer 69 = .ok (.i2l, 1) := by decide +kernel
theorem dX12_laysLayer_70 : decode cX12_laysLayer 70 = .ok (.invokevirtual 262, 3) := by decide +kernel
theorem dX12_laysLayer_73 : decode cX12_laysLayer 73 = .ok (.lsub, 1) := by decide +kernel
theorem dX12_laysLayer_74 : decode cX12_laysLayer 74 = .ok (.lstore 8, 2) := by decide +kernel
theorem dX12_laysLayer_76 : decode cX12_laysLayer 76 = .ok (.goto 45, 3) := by decide +kernel
theorem dX12_laysLayer_79 : decode cX12_laysLayer 79 = .ok (.iload 5, 2) := by decide +kernel
theorem dX12_laysLayer_81 : decode cX12_laysLayer 81 = .ok (.istore 10, 2) := by decide +kernel
theorem dX12_laysLayer_83 : decode cX12_laysLayer 83 = .ok (.iload 10, 2) := by decide +kernel
theorem dX12_laysLayer_85 : decode cX12_laysLayer 85 = .ok (.iload 6, 2) := by decide +kernel
theorem dX12_laysLayer_87 : decode cX12_laysLayer 87 = .ok (.if_icmp .gt 34, 3) := by decide +kernel
theorem dX12_laysLayer_90 : decode cX12_laysLayer 90 = .ok (.lload 8, 2) := by decide +kernel
theorem dX12_laysLayer_92 : decode cX12_laysLayer 92 = .ok (.aload_n 0, 1) := by decide +kernel
theorem dX12_laysLayer_93 : decode cX12_laysLayer 93 = .ok (.iload_n 2, 1) := by decide +kernel
theorem dX12_laysLayer_94 : decode cX12_laysLayer 94 = .ok (.iload 7, 2) := by decide +kernel
theorem dX12_laysLayer_96 : decode cX12_laysLayer 96 = .ok (.i2l, 1) := by decide +kernel
theorem dX12_laysLayer_97 : decode cX12_laysLayer 97 = .ok (.iload_n 3, 1) := by decide +kernel
theorem dX12_laysLayer_98 : decode cX12_laysLayer 98 = .ok (.i2l, 1) := by decide +kernel
theorem dX12_laysLayer_99 : decode cX12_laysLayer 99 = .ok (.iload 4, 2) := by decide +kernel
theorem dX12_laysLayer_101 : decode cX12_laysLayer 101 = .ok (.iload 10, 2) := by decide +kernel
theorem dX12_laysLayer_103 : decode cX12_laysLayer 103 = .ok (.i2l, 1) := by decide +kernel
theorem dX12_laysLayer_104 : decode cX12_laysLayer 104 = .ok (.invokestatic 97, 3) := by decide +kernel
theorem dX12_laysLayer_107 : decode cX12_laysLayer 107 = .ok (.lmul, 1) := by decide +kernel
theorem dX12_laysLayer_108 : decode cX12_laysLayer 108 = .ok (.lsub, 1) := by decide +kernel
theorem dX12_laysLayer_109 : decode cX12_laysLayer 109 = .ok (.invokevirtual 262, 3) := by decide +kernel
theorem dX12_laysLayer_112 : decode cX12_laysLayer 112 = .ok (.ladd, 1) := by decide +kernel
theorem dX12_laysLayer_113 : decode cX12_laysLayer 113 = .ok (.lstore 8, 2) := by decide +kernel
theorem dX12_laysLayer_115 : decode cX12_laysLayer 115 = .ok (.iinc 10 1, 3) := by decide +kernel
theorem dX12_laysLayer_118 : decode cX12_laysLayer 118 = .ok (.goto (-35), 3) := by decide +kernel
theorem dX12_laysLayer_121 : decode cX12_laysLayer 121 = .ok (.aload_n 0, 1) := by decide +kernel
theorem dX12_laysLayer_122 : decode cX12_laysLayer 122 = .ok (.getfield 35, 3) := by decide +kernel
theorem dX12_laysLayer_125 : decode cX12_laysLayer 125 = .ok (.sipush 30001, 3) := by decide +kernel
theorem dX12_laysLayer_128 : decode cX12_laysLayer 128 = .ok (.iload_n 1, 1) := by decide +kernel
theorem dX12_laysLayer_129 : decode cX12_laysLayer 129 = .ok (.imul, 1) := by decide +kernel
theorem dX12_laysLayer_130 : decode cX12_laysLayer 130 = .ok (.iload 7, 2) := by decide +kernel
theorem dX12_laysLayer_132 : decode cX12_laysLayer 132 = .ok (.iadd, 1) := by decide +kernel
theorem dX12_laysLayer_133 : decode cX12_laysLayer 133 = .ok (.lload 8, 2) := by decide +kernel
theorem dX12_laysLayer_135 : decode cX12_laysLayer 135 = .ok (.lastore, 1) := by decide +kernel
theorem dX12_laysLayer_136 : decode cX12_laysLayer 136 = .ok (.iinc 7 1, 3) := by decide +kernel
theorem dX12_laysLayer_139 : decode cX12_laysLayer 139 = .ok (.goto (-136), 3) := by decide +kernel
theorem dX12_laysLayer_142 : decode cX12_laysLayer 142 = .ok (.return_, 1) := by decide +kernel
theorem dX12_at_0 : decode cX12_at 0 = .ok (.lload_n 2, 1) := by decide +kernel
theorem dX12_at_1 : decode cX12_at 1 = .ok (.lconst 0, 1) := by decide +kernel
theorem dX12_at_2 : decode cX12_at 2 = .ok (.ldc2_w 265, 3) := by decide +kernel
theorem dX12_at_5 : decode cX12_at 5 = .ok (.invokestatic 105, 3) := by decide +kernel
theorem dX12_at_8 : decode cX12_at 8 = .ok (.ifCond .eq 19, 3) := by decide +kernel
theorem dX12_at_11 : decode cX12_at 11 = .ok (.aload_n 0, 1) := by decide +kernel
theorem dX12_at_12 : decode cX12_at 12 = .ok (.getfield 35, 3) := by decide +kernel
theorem dX12_at_15 : decode cX12_at 15 = .ok (.sipush 30001, 3) := by decide +kernel
theorem dX12_at_18 : decode cX12_at 18 = .ok (.iload_n 1, 1) := by decide +kernel
theorem dX12_at_19 : decode cX12_at 19 = .ok (.imul, 1) := by decide +kernel
theorem dX12_at_20 : decode cX12_at 20 = .ok (.lload_n 2, 1) := by decide +kernel
theorem dX12_at_21 : decode cX12_at 21 = .ok (.l2i, 1) := by decide +kernel
theorem dX12_at_22 : decode cX12_at 22 = .ok (.iadd, 1) := by decide +kernel
theorem dX12_at_23 : decode cX12_at 23 = .ok (.laload, 1) := by decide +kernel
theorem dX12_at_24 : decode cX12_at 24 = .ok (.goto 4, 3) := by decide +kernel
theorem dX12_at_27 : decode cX12_at 27 = .ok (.lconst 0, 1) := by decide +kernel
theorem dX12_at_28 : decode cX12_at 28 = .ok (.lreturn, 1) := by decide +kernel
theorem dX12_laysNought_0 : decode cX12_laysNought 0 = .ok (.iconst 0, 1) := by decide +kernel
theorem dX12_laysNought_1 : decode cX12_laysNought 1 = .ok (.istore_n 2, 1) := by decide +kernel
theorem dX12_laysNought_2 : decode cX12_laysNought 2 = .ok (.iload_n 2, 1) := by decide +kernel
theorem dX12_laysNought_3 : decode cX12_laysNought 3 = .ok (.sipush 30001, 3) := by decide +kernel
theorem dX12_laysNought_6 : decode cX12_laysNought 6 = .ok (.if_icmp .ge 22, 3) := by decide +kernel
theorem dX12_laysNought_9 : decode cX12_laysNought 9 = .ok (.aload_n 0, 1) := by decide +kernel
theorem dX12_laysNought_10 : decode cX12_laysNought 10 = .ok (.getfield 35, 3) := by decide +kernel
theorem dX12_laysNought_13 : decode cX12_laysNought 13 = .ok (.sipush 30001, 3) := by decide +kernel
theorem dX12_laysNought_16 : decode cX12_laysNought 16 = .ok (.iload_n 1, 1) := by decide +kernel
theorem dX12_laysNought_17 : decode cX12_laysNought 17 = .ok (.imul, 1) := by decide +kernel
theorem dX12_laysNought_18 : decode cX12_laysNought 18 = .ok (.iload_n 2, 1) := by decide +kernel
theorem dX12_laysNought_19 : decode cX12_laysNought 19 = .ok (.iadd, 1) := by decide +kernel
theorem dX12_laysNought_20 : decode cX12_laysNought 20 = .ok (.lconst 0, 1) := by decide +kernel
theorem dX12_laysNought_21 : decode cX12_laysNought 21 = .ok (.lastore, 1) := by decide +kernel
theorem dX12_laysNought_22 : decode cX12_laysNought 22 = .ok (.iinc 2 1, 3) := by decide +kernel
theorem dX12_laysNought_25 : decode cX12_laysNought 25 = .ok (.goto (-23), 3) := by decide +kernel
theorem dX12_laysNought_28 : decode cX12_laysNought 28 = .ok (.aload_n 0, 1) := by decide +kernel
theorem dX12_laysNought_29 : decode cX12_laysNought 29 = .ok (.getfield 35, 3) := by decide +kernel
theorem dX12_laysNought_32 : decode cX12_laysNought 32 = .ok (.sipush 30001, 3) := by decide +kernel
theorem dX12_laysNought_35 : decode cX12_laysNought 35 = .ok (.iload_n 1, 1) := by decide +kernel
theorem dX12_laysNought_36 : decode cX12_laysNought 36 = .ok (.imul, 1) := by decide +kernel
theorem dX12_laysNought_37 : decode cX12_laysNought 37 = .ok (.sipush 15000, 3) := by decide +kernel
theorem dX12_laysNought_40 : decode cX12_laysNought 40 = .ok (.iadd, 1) := by decide +kernel
theorem dX12_laysNought_41 : decode cX12_laysNought 41 = .ok (.lconst 1, 1) := by decide +kernel
theorem dX12_laysNought_42 : decode cX12_laysNought 42 = .ok (.lastore, 1) := by decide +kernel
theorem dX12_laysNought_43 : decode cX12_laysNought 43 = .ok (.return_, 1) := by decide +kernel
theorem dX12_lays_0 : decode cX12_lays 0 = .ok (.aload_n 0, 1) := by decide +kernel
theorem dX12_lays_1 : decode cX12_lays 1 = .ok (.getfield 31, 3) := by decide +kernel
theorem dX12_lays_4 : decode cX12_lays 4 = .ok (.iload_n 1, 1) := by decide +kernel
theorem dX12_lays_5 : decode cX12_lays 5 = .ok (.if_icmp .ne 4, 3) := by decide +kernel
theorem dX12_lays_8 : decode cX12_lays 8 = .ok (.return_, 1) := by decide +kernel
theorem dX12_lays_9 : decode cX12_lays 9 = .ok (.aload_n 0, 1) := by decide +kernel
theorem dX12_lays_10 : decode cX12_lays 10 = .ok (.iload_n 1, 1) := by decide +kernel
theorem dX12_lays_11 : decode cX12_lays 11 = .ok (.putfield 31, 3) := by decide +kernel
theorem dX12_lays_14 : decode cX12_lays 14 = .ok (.aload_n 0, 1) := by decide +kernel
theorem dX12_lays_15 : decode cX12_lays 15 = .ok (.getfield 9, 3) := by decide +kernel
theorem dX12_lays_18 : decode cX12_lays 18 = .ok (.iload_n 1, 1) := by decide +kernel
theorem dX12_lays_19 : decode cX12_lays 19 = .ok (.iaload, 1) := by decide +kernel
theorem dX12_lays_20 : decode cX12_lays 20 = .ok (.istore_n 2, 1) := by decide +kernel
theorem dX12_lays_21 : decode cX12_lays 21 = .ok (.aload_n 0, 1) := by decide +kernel
theorem dX12_lays_22 : decode cX12_lays 22 = .ok (.iload_n 2, 1) := by decide +kernel
theorem dX12_lays_23 : decode cX12_lays 23 = .ok (.invokevirtual 267, 3) := by decide +kernel
theorem dX12_lays_26 : decode cX12_lays 26 = .ok (.iload_n 2, 1) := by decide +kernel
theorem dX12_lays_27 : decode cX12_lays 27 = .ok (.iconst 1, 1) := by decide +kernel
theorem dX12_lays_28 : decode cX12_lays 28 = .ok (.isub, 1) := by decide +kernel
theorem dX12_lays_29 : decode cX12_lays 29 = .ok (.istore_n 3, 1) := by decide +kernel
theorem dX12_lays_30 : decode cX12_lays 30 = .ok (.iload_n 3, 1) := by decide +kernel
theorem dX12_lays_31 : decode cX12_lays 31 = .ok (.ifCond .lt 45, 3) := by decide +kernel
theorem dX12_lays_34 : decode cX12_lays 34 = .ok (.aload_n 0, 1) := by decide +kernel
theorem dX12_lays_35 : decode cX12_lays 35 = .ok (.iload_n 3, 1) := by decide +kernel
theorem dX12_lays_36 : decode cX12_lays 36 = .ok (.iload_n 3, 1) := by decide +kernel
theorem dX12_lays_37 : decode cX12_lays 37 = .ok (.iconst 1, 1) := by decide +kernel
theorem dX12_lays_38 : decode cX12_lays 38 = .ok (.iadd, 1) := by decide +kernel
theorem dX12_lays_39 : decode cX12_lays 39 = .ok (.aload_n 0, 1) := by decide +kernel
theorem dX12_lays_40 : decode cX12_lays 40 = .ok (.iload_n 1, 1) := by decide +kernel
theorem dX12_lays_41 : decode cX12_lays 41 = .ok (.iload_n 3, 1) := by decide +kernel
theorem dX12_lays_42 : decode cX12_lays 42 = .ok (.iconst 0, 1) := by decide +kernel
theorem dX12_lays_43 : decode cX12_lays 43 = .ok (.invokevirtual 93, 3) := by decide +kernel
theorem dX12_lays_46 : decode cX12_lays 46 = .ok (.aload_n 0, 1) := by decide +kernel
theorem dX12_lays_47 : decode cX12_lays 47 = .ok (.iload_n 1, 1) := by decide +kernel
theorem dX12_lays_48 : decode cX12_lays 48 = .ok (.iload_n 3, 1) := by decide +kernel
theorem dX12_lays_49 : decode cX12_lays 49 = .ok (.iconst 1, 1) := by decide +kernel
theorem dX12_lays_50 : decode cX12_lays 50 = .ok (.invokevirtual 93, 3) := by decide +kernel
theorem dX12_lays_53 : decode cX12_lays 53 = .ok (.aload_n 0, 1) := by decide +kernel
theorem dX12_lays_54 : decode cX12_lays 54 = .ok (.iload_n 1, 1) := by decide +kernel
theorem dX12_lays_55 : decode cX12_lays 55 = .ok (.iload_n 3, 1) := by decide +kernel
theorem dX12_lays_56 : decode cX12_lays 56 = .ok (.iconst 2, 1) := by decide +kernel
theorem dX12_lays_57 : decode cX12_lays 57 = .ok (.invokevirtual 93, 3) := by decide +kernel
theorem dX12_lays_60 : decode cX12_lays 60 = .ok (.aload_n 0, 1) := by decide +kernel
theorem dX12_lays_61 : decode cX12_lays 61 = .ok (.iload_n 1, 1) := by decide +kernel
theorem dX12_lays_62 : decode cX12_lays 62 = .ok (.iload_n 3, 1) := by decide +kernel
theorem dX12_lays_63 : decode cX12_lays 63 = .ok (.iconst 3, 1) := by decide +kernel
theorem dX12_lays_64 : decode cX12_lays 64 = .ok (.invokevirtual 93, 3) := by decide +kernel
theorem dX12_lays_67 : decode cX12_lays 67 = .ok (.invokevirtual 270, 3) := by decide +kernel
theorem dX12_lays_70 : decode cX12_lays 70 = .ok (.iinc 3 (-1), 3) := by decide +kernel
theorem dX12_lays_73 : decode cX12_lays 73 = .ok (.goto (-43), 3) := by decide +kernel
theorem dX12_lays_76 : decode cX12_lays 76 = .ok (.return_, 1) := by decide +kernel
theorem dX12_waysOf_0 : decode cX12_waysOf 0 = .ok (.aload_n 0, 1) := by decide +kernel
theorem dX12_waysOf_1 : decode cX12_waysOf 1 = .ok (.iconst 0, 1) := by decide +kernel
theorem dX12_waysOf_2 : decode cX12_waysOf 2 = .ok (.iload_n 1, 1) := by decide +kernel
theorem dX12_waysOf_3 : decode cX12_waysOf 3 = .ok (.sipush 15000, 3) := by decide +kernel
theorem dX12_waysOf_6 : decode cX12_waysOf 6 = .ok (.iadd, 1) := by decide +kernel
theorem dX12_waysOf_7 : decode cX12_waysOf 7 = .ok (.i2l, 1) := by decide +kernel
theorem dX12_waysOf_8 : decode cX12_waysOf 8 = .ok (.invokevirtual 262, 3) := by decide +kernel
theorem dX12_waysOf_11 : decode cX12_waysOf 11 = .ok (.lreturn, 1) := by decide +kernel
theorem dX12_isN_0 : decode cX12_isN 0 = .ok (.iload_n 0, 1) := by decide +kernel
theorem dX12_isN_1 : decode cX12_isN 1 = .ok (.i2l, 1) := by decide +kernel
theorem dX12_isN_2 : decode cX12_isN 2 = .ok (.ldc2_w 101, 3) := by decide +kernel
theorem dX12_isN_5 : decode cX12_isN 5 = .ok (.ldc2_w 103, 3) := by decide +kernel
theorem dX12_isN_8 : decode cX12_isN 8 = .ok (.invokestatic 105, 3) := by decide +kernel
theorem dX12_isN_11 : decode cX12_isN 11 = .ok (.ireturn, 1) := by decide +kernel
theorem dX12_ways_0 : decode cX12_ways 0 = .ok (.aload_n 0, 1) := by decide +kernel
theorem dX12_ways_1 : decode cX12_ways 1 = .ok (.iload_n 1, 1) := by decide +kernel
theorem dX12_ways_2 : decode cX12_ways 2 = .ok (.invokevirtual 274, 3) := by decide +kernel
theorem dX12_ways_5 : decode cX12_ways 5 = .ok (.ifCond .eq 10, 3) := by decide +kernel
theorem dX12_ways_8 : decode cX12_ways 8 = .ok (.iload_n 2, 1) := by decide +kernel
theorem dX12_ways_9 : decode cX12_ways 9 = .ok (.invokestatic 277, 3) := by decide +kernel
theorem dX12_ways_12 : decode cX12_ways 12 = .ok (.ifCond .ne 7, 3) := by decide +kernel
theorem dX12_ways_15 : decode cX12_ways 15 = .ok (.ldc2_w 280, 3) := by decide +kernel
theorem dX12_ways_18 : decode cX12_ways 18 = .ok (.lreturn, 1) := by decide +kernel
theorem dX12_ways_19 : decode cX12_ways 19 = .ok (.aload_n 0, 1) := by decide +kernel
theorem dX12_ways_20 : decode cX12_ways 20 = .ok (.iload_n 1, 1) := by decide +kernel
theorem dX12_ways_21 : decode cX12_ways 21 = .ok (.invokevirtual 282, 3) := by decide +kernel
theorem dX12_ways_24 : decode cX12_ways 24 = .ok (.aload_n 0, 1) := by decide +kernel
theorem dX12_ways_25 : decode cX12_ways 25 = .ok (.iload_n 2, 1) := by decide +kernel
theorem dX12_ways_26 : decode cX12_ways 26 = .ok (.invokevirtual 285, 3) := by decide +kernel
theorem dX12_ways_29 : decode cX12_ways 29 = .ok (.lreturn, 1) := by decide +kernel
theorem dX12_areLike_0 : decode cX12_areLike 0 = .ok (.iconst 0, 1) := by decide +kernel
theorem dX12_areLike_1 : decode cX12_areLike 1 = .ok (.istore 4, 2) := by decide +kernel
theorem dX12_areLike_3 : decode cX12_areLike 3 = .ok (.iload 4, 2) := by decide +kernel
theorem dX12_areLike_5 : decode cX12_areLike 5 = .ok (.iconst 4, 1) := by decide +kernel
theorem dX12_areLike_6 : decode cX12_areLike 6 = .ok (.if_icmp .ge 30, 3) := by decide +kernel
theorem dX12_areLike_9 : decode cX12_areLike 9 = .ok (.aload_n 0, 1) := by decide +kernel
theorem dX12_areLike_10 : decode cX12_areLike 10 = .ok (.iload_n 1, 1) := by decide +kernel
theorem dX12_areLike_11 : decode cX12_areLike 11 = .ok (.iload_n 2, 1) := by decide +kernel
theorem dX12_areLike_12 : decode cX12_areLike 12 = .ok (.iload 4, 2) := by decide +kernel
theorem dX12_areLike_14 : decode cX12_areLike 14 = .ok (.invokevirtual 93, 3) := by decide +kernel
theorem dX12_areLike_17 : decode cX12_areLike 17 = .ok (.aload_n 0, 1) := by decide +kernel
theorem dX12_areLike_18 : decode cX12_areLike 18 = .ok (.iload_n 1, 1) := by decide +kernel
theorem dX12_areLike_19 : decode cX12_areLike 19 = .ok (.iload_n 3, 1) := by decide +kernel
theorem dX12_areLike_20 : decode cX12_areLike 20 = .ok (.iload 4, 2) := by decide +kernel
theorem dX12_areLike_22 : decode cX12_areLike 22 = .ok (.invokevirtual 93, 3) := by decide +kernel
theorem dX12_areLike_25 : decode cX12_areLike 25 = .ok (.if_icmp .eq 5, 3) := by decide +kernel
theorem dX12_areLike_28 : decode cX12_areLike 28 = .ok (.iconst 0, 1) := by decide +kernel
theorem dX12_areLike_29 : decode cX12_areLike 29 = .ok (.ireturn, 1) := by decide +kernel
theorem dX12_areLike_30 : decode cX12_areLike 30 = .ok (.iinc 4 1, 3) := by decide +kernel
theorem dX12_areLike_33 : decode cX12_areLike 33 = .ok (.goto (-30), 3) := by decide +kernel
theorem dX12_areLike_36 : decode cX12_areLike 36 = .ok (.iconst 1, 1) := by decide +kernel
theorem dX12_areLike_37 : decode cX12_areLike 37 = .ok (.ireturn, 1) := by decide +kernel
theorem dX12_laysUnlike_0 : decode cX12_laysUnlike 0 = .ok (.aload_n 0, 1) := by decide +kernel
theorem dX12_laysUnlike_1 : decode cX12_laysUnlike 1 = .ok (.getfield 39, 3) := by decide +kernel
theorem dX12_laysUnlike_4 : decode cX12_laysUnlike 4 = .ok (.iload_n 1, 1) := by decide +kernel
theorem dX12_laysUnlike_5 : decode cX12_laysUnlike 5 = .ok (.if_icmp .ne 4, 3) := by decide +kernel
theorem dX12_laysUnlike_8 : decode cX12_laysUnlike 8 = .ok (.return_, 1) := by decide +kernel
theorem dX12_laysUnlike_9 : decode cX12_laysUnlike 9 = .ok (.aload_n 0, 1) := by decide +kernel
theorem dX12_laysUnlike_10 : decode cX12_laysUnlike 10 = .ok (.iload_n 1, 1) := by decide +kernel
theorem dX12_laysUnlike_11 : decode cX12_laysUnlike 11 = .ok (.putfield 39, 3) := by decide +kernel
theorem dX12_laysUnlike_14 : decode cX12_laysUnlike 14 = .ok (.aload_n 0, 1) := by decide +kernel
theorem dX12_laysUnlike_15 : decode cX12_laysUnlike 15 = .ok (.iconst (-1), 1) := by decide +kernel
theorem dX12_laysUnlike_16 : decode cX12_laysUnlike 16 = .ok (.putfield 31, 3) := by decide +kernel
theorem dX12_laysUnlike_19 : decode cX12_laysUnlike 19 = .ok (.iconst 0, 1) := by decide +kernel
theorem dX12_laysUnlike_20 : decode cX12_laysUnlike 20 = .ok (.istore_n 2, 1) := by decide +kernel
theorem dX12_laysUnlike_21 : decode cX12_laysUnlike 21 = .ok (.iload_n 2, 1) := by decide +kernel
theorem dX12_laysUnlike_22 : decode cX12_laysUnlike 22 = .ok (.sipush 6001, 3) := by decide +kernel
theorem dX12_laysUnlike_25 : decode cX12_laysUnlike 25 = .ok (.if_icmp .ge 16, 3) := by decide +kernel
theorem dX12_laysUnlike_28 : decode cX12_laysUnlike 28 = .ok (.aload_n 0, 1) := by decide +kernel
theorem dX12_laysUnlike_29 : decode cX12_laysUnlike 29 = .ok (.getfield 42, 3) := by decide +kernel
theorem dX12_laysUnlike_32 : decode cX12_laysUnlike 32 = .ok (.iload_n 2, 1) := by decide +kernel
theorem dX12_laysUnlike_33 : decode cX12_laysUnlike 33 = .ok (.lconst 0, 1) := by decide +kernel
theorem dX12_laysUnlike_34 : decode cX12_laysUnlike 34 = .ok (.lastore, 1) := by decide +kernel
theorem dX12_laysUnlike_35 : decode cX12_laysUnlike 35 = .ok (.iinc 2 1, 3) := by decide +kernel
theorem dX12_laysUnlike_38 : decode cX12_laysUnlike 38 = .ok (.goto (-17), 3) := by decide +kernel
theorem dX12_laysUnlike_41 : decode cX12_laysUnlike 41 = .ok (.iconst 0, 1) := by decide +kernel
theorem dX12_laysUnlike_42 : decode cX12_laysUnlike 42 = .ok (.istore_n 2, 1) := by decide +kernel
theorem dX12_laysUnlike_43 : decode cX12_laysUnlike 43 = .ok (.iload_n 2, 1) := by decide +kernel
theorem dX12_laysUnlike_44 : decode cX12_laysUnlike 44 = .ok (.bipush 8, 2) := by decide +kernel
theorem dX12_laysUnlike_46 : decode cX12_laysUnlike 46 = .ok (.if_icmp .ge 16, 3) := by decide +kernel
theorem dX12_laysUnlike_49 : decode cX12_laysUnlike 49 = .ok (.aload_n 0, 1) := by decide +kernel
theorem dX12_laysUnlike_50 : decode cX12_laysUnlike 50 = .ok (.getfield 54, 3) := by decide +kernel
theorem dX12_laysUnlike_53 : decode cX12_laysUnlike 53 = .ok (.iload_n 2, 1) := by decide +kernel
theorem dX12_laysUnlike_54 : decode cX12_laysUnlike 54 = .ok (.lconst 0, 1) := by decide +kernel
theorem dX12_laysUnlike_55 : decode cX12_laysUnlike 55 = .ok (.lastore, 1) := by decide +kernel
theorem dX12_laysUnlike_56 : decode cX12_laysUnlike 56 = .ok (.iinc 2 1, 3) := by decide +kernel
theorem dX12_laysUnlike_59 : decode cX12_laysUnlike 59 = .ok (.goto (-16), 3) := by decide +kernel
theorem dX12_laysUnlike_62 : decode cX12_laysUnlike 62 = .ok (.aload_n 0, 1) := by decide +kernel
theorem dX12_laysUnlike_63 : decode cX12_laysUnlike 63 = .ok (.iconst 0, 1) := by decide +kernel
theorem dX12_laysUnlike_64 : decode cX12_laysUnlike 64 = .ok (.putfield 289, 3) := by decide +kernel
theorem dX12_laysUnlike_67 : decode cX12_laysUnlike 67 = .ok (.aload_n 0, 1) := by decide +kernel
theorem dX12_laysUnlike_68 : decode cX12_laysUnlike 68 = .ok (.iload_n 1, 1) := by decide +kernel
theorem dX12_laysUnlike_69 : decode cX12_laysUnlike 69 = .ok (.iconst 0, 1) := by decide +kernel
theorem dX12_laysUnlike_70 : decode cX12_laysUnlike 70 = .ok (.iconst 0, 1) := by decide +kernel
theorem dX12_laysUnlike_71 : decode cX12_laysUnlike 71 = .ok (.invokevirtual 292, 3) := by decide +kernel
theorem dX12_laysUnlike_74 : decode cX12_laysUnlike 74 = .ok (.lconst 0, 1) := by decide +kernel
theorem dX12_laysUnlike_75 : decode cX12_laysUnlike 75 = .ok (.lstore_n 2, 1) := by decide +kernel
theorem dX12_laysUnlike_76 : decode cX12_laysUnlike 76 = .ok (.iconst 0, 1) := by decide +kernel
theorem dX12_laysUnlike_77 : decode cX12_laysUnlike 77 = .ok (.istore 4, 2) := by decide +kernel
theorem dX12_laysUnlike_79 : decode cX12_laysUnlike 79 = .ok (.iload 4, 2) := by decide +kernel
theorem dX12_laysUnlike_81 : decode cX12_laysUnlike 81 = .ok (.aload_n 0, 1) := by decide +kernel
theorem dX12_laysUnlike_82 : decode cX12_laysUnlike 82 = .ok (.getfield 289, 3) := by decide +kernel
theorem dX12_laysUnlike_85 : decode cX12_laysUnlike 85 = .ok (.if_icmp .ge 73, 3) := by decide +kernel
theorem dX12_laysUnlike_88 : decode cX12_laysUnlike 88 = .ok (.aload_n 0, 1) := by decide +kernel
theorem dX12_laysUnlike_89 : decode cX12_laysUnlike 89 = .ok (.iload_n 1, 1) := by decide +kernel
theorem dX12_laysUnlike_90 : decode cX12_laysUnlike 90 = .ok (.iload 4, 2) := by decide +kernel
theorem dX12_laysUnlike_92 : decode cX12_laysUnlike 92 = .ok (.invokevirtual 296, 3) := by decide +kernel
theorem dX12_laysUnlike_95 : decode cX12_laysUnlike 95 = .ok (.lload_n 2, 1) := by decide +kernel
theorem dX12_laysUnlike_96 : decode cX12_laysUnlike 96 = .ok (.aload_n 0, 1) := by decide +kernel
theorem dX12_laysUnlike_97 : decode cX12_laysUnlike 97 = .ok (.getfield 54, 3) := by decide +kernel
theorem dX12_laysUnlike_100 : decode cX12_laysUnlike 100 = .ok (.iload 4, 2) := by decide +kernel
theorem dX12_laysUnlike_102 : decode cX12_laysUnlike 102 = .ok (.laload, 1) := by decide +kernel
theorem dX12_laysUnlike_103 : decode cX12_laysUnlike 103 = .ok (.ladd, 1) := by decide +kernel
theorem dX12_laysUnlike_104 : decode cX12_laysUnlike 104 = .ok (.lstore_n 2, 1) := by decide +kernel
theorem dX12_laysUnlike_105 : decode cX12_laysUnlike 105 = .ok (.sipush (-3000), 3) := by decide +kernel
theorem dX12_laysUnlike_108 : decode cX12_laysUnlike 108 = .ok (.istore 5, 2) := by decide +kernel
theorem dX12_laysUnlike_110 : decode cX12_laysUnlike 110 = .ok (.iload 5, 2) := by decide +kernel
theorem dX12_laysUnlike_112 : decode cX12_laysUnlike 112 = .ok (.sipush 3000, 3) := by decide +kernel
theorem dX12_laysUnlike_115 : decode cX12_laysUnlike 115 = .ok (.if_icmp .gt 37, 3) := by decide +kernel
theorem dX12_laysUnlike_118 : decode cX12_laysUnlike 118 = .ok (.aload_n 0, 1) := by decide +kernel
theorem dX12_laysUnlike_119 : decode cX12_laysUnlike 119 = .ok (.getfield 42, 3) := by decide +kernel
theorem dX12_laysUnlike_122 : decode cX12_laysUnlike 122 = .ok (.iload 5, 2) := by decide +kernel
theorem dX12_laysUnlike_124 : decode cX12_laysUnlike 124 = .ok (.sipush 3000, 3) := by decide +kernel
theorem dX12_laysUnlike_127 : decode cX12_laysUnlike 127 = .ok (.iadd, 1) := by decide +kernel
theorem dX12_laysUnlike_128 : decode cX12_laysUnlike 128 = .ok (.dup2, 1) := by decide +kernel
theorem dX12_laysUnlike_129 : decode cX12_laysUnlike 129 = .ok (.laload, 1) := by decide +kernel
theorem dX12_laysUnlike_130 : decode cX12_laysUnlike 130 = .ok (.aload_n 0, 1) := by decide +kernel
theorem dX12_laysUnlike_131 : decode cX12_laysUnlike 131 = .ok (.getfield 54, 3) := by decide +kernel
theorem dX12_laysUnlike_134 : decode cX12_laysUnlike 134 = .ok (.iload 4, 2) := by decide +kernel
theorem dX12_laysUnlike_136 : decode cX12_laysUnlike 136 = .ok (.laload, 1) := by decide +kernel
theorem dX12_laysUnlike_137 : decode cX12_laysUnlike 137 = .ok (.aload_n 0, 1) := by decide +kernel
theorem dX12_laysUnlike_138 : decode cX12_laysUnlike 138 = .ok (.iload 5, 2) := by decide +kernel
theorem dX12_laysUnlike_140 : decode cX12_laysUnlike 140 = .ok (.invokevirtual 285, 3) := by decide +kernel
theorem dX12_laysUnlike_143 : decode cX12_laysUnlike 143 = .ok (.lmul, 1) := by decide +kernel
theorem dX12_laysUnlike_144 : decode cX12_laysUnlike 144 = .ok (.ladd, 1) := by decide +kernel
theorem dX12_laysUnlike_145 : decode cX12_laysUnlike 145 = .ok (.lastore, 1) := by decide +kernel
theorem dX12_laysUnlike_146 : decode cX12_laysUnlike 146 = .ok (.iinc 5 1, 3) := by decide +kernel
theorem dX12_laysUnlike_149 : decode cX12_laysUnlike 149 = .ok (.goto (-39), 3) := by decide +kernel
theorem dX12_laysUnlike_152 : decode cX12_laysUnlike 152 = .ok (.iinc 4 1, 3) := by decide +kernel
theorem dX12_laysUnlike_155 : decode cX12_laysUnlike 155 = .ok (.goto (-76), 3) := by decide +kernel
theorem dX12_laysUnlike_158 : decode cX12_laysUnlike 158 = .ok (.iconst 0, 1) := by decide +kernel
theorem dX12_laysUnlike_159 : decode cX12_laysUnlike 159 = .ok (.istore 4, 2) := by decide +kernel
theorem dX12_laysUnlike_161 : decode cX12_laysUnlike 161 = .ok (.iload 4, 2) := by decide +kernel
theorem dX12_laysUnlike_163 : decode cX12_laysUnlike 163 = .ok (.sipush 6001, 3) := by decide +kernel
theorem dX12_laysUnlike_166 : decode cX12_laysUnlike 166 = .ok (.if_icmp .ge 20, 3) := by decide +kernel
theorem dX12_laysUnlike_169 : decode cX12_laysUnlike 169 = .ok (.aload_n 0, 1) := by decide +kernel
theorem dX12_laysUnlike_170 : decode cX12_laysUnlike 170 = .ok (.getfield 42, 3) := by decide +kernel
theorem dX12_laysUnlike_173 : decode cX12_laysUnlike 173 = .ok (.iload 4, 2) := by decide +kernel
theorem dX12_laysUnlike_175 : decode cX12_laysUnlike 175 = .ok (.dup2, 1) := by decide +kernel
theorem dX12_laysUnlike_176 : decode cX12_laysUnlike 176 = .ok (.laload, 1) := by decide +kernel
theorem dX12_laysUnlike_177 : decode cX12_laysUnlike 177 = .ok (.lload_n 2, 1) := by decide +kernel
theorem dX12_laysUnlike_178 : decode cX12_laysUnlike 178 = .ok (.ldiv, 1) := by decide +kernel
theorem dX12_laysUnlike_179 : decode cX12_laysUnlike 179 = .ok (.lastore, 1) := by decide +kernel
theorem dX12_laysUnlike_180 : decode cX12_laysUnlike 180 = .ok (.iinc 4 1, 3) := by decide +kernel
theorem dX12_laysUnlike_183 : decode cX12_laysUnlike 183 = .ok (.goto (-22), 3) := by decide +kernel
theorem dX12_laysUnlike_186 : decode cX12_laysUnlike 186 = .ok (.return_, 1) := by decide +kernel
theorem dX12_turns_0 : decode cX12_turns 0 = .ok (.iload_n 2, 1) := by decide +kernel
theorem dX12_turns_1 : decode cX12_turns 1 = .ok (.aload_n 0, 1) := by decide +kernel
theorem dX12_turns_2 : decode cX12_turns 2 = .ok (.getfield 9, 3) := by decide +kernel
theorem dX12_turns_5 : decode cX12_turns 5 = .ok (.iload_n 1, 1) := by decide +kernel
theorem dX12_turns_6 : decode cX12_turns 6 = .ok (.iaload, 1) := by decide +kernel
theorem dX12_turns_7 : decode cX12_turns 7 = .ok (.if_icmp .ge 70, 3) := by decide +kernel
theorem dX12_turns_10 : decode cX12_turns 10 = .ok (.iconst 0, 1) := by decide +kernel
theorem dX12_turns_11 : decode cX12_turns 11 = .ok (.istore 4, 2) := by decide +kernel
theorem dX12_turns_13 : decode cX12_turns 13 = .ok (.iload 4, 2) := by decide +kernel
theorem dX12_turns_15 : decode cX12_turns 15 = .ok (.aload_n 0, 1) := by decide +kernel
theorem dX12_turns_16 : decode cX12_turns 16 = .ok (.getfield 9, 3) := by decide +kernel
theorem dX12_turns_19 : decode cX12_turns 19 = .ok (.iload_n 1, 1) := by decide +kernel
theorem dX12_turns_20 : decode cX12_turns 20 = .ok (.iaload, 1) := by decide +kernel
theorem dX12_turns_21 : decode cX12_turns 21 = .ok (.if_icmp .ge 55, 3) := by decide +kernel
theorem dX12_turns_24 : decode cX12_turns 24 = .ok (.iload_n 3, 1) := by decide +kernel
theorem dX12_turns_25 : decode cX12_turns 25 = .ok (.iload 4, 2) := by decide +kernel
theorem dX12_turns_27 : decode cX12_turns 27 = .ok (.ishr, 1) := by decide +kernel
theorem dX12_turns_28 : decode cX12_turns 28 = .ok (.iconst 1, 1) := by decide +kernel
theorem dX12_turns_29 : decode cX12_turns 29 = .ok (.iand, 1) := by decide +kernel
theorem dX12_turns_30 : decode cX12_turns 30 = .ok (.iconst 1, 1) := by decide +kernel
theorem dX12_turns_31 : decode cX12_turns 31 = .ok (.if_icmp .eq 39, 3) := by decide +kernel
theorem dX12_turns_34 : decode cX12_turns 34 = .ok (.aload_n 0, 1) := by decide +kernel
theorem dX12_turns_35 : decode cX12_turns 35 = .ok (.iload_n 1, 1) := by decide +kernel
theorem dX12_turns_36 : decode cX12_turns 36 = .ok (.iload_n 2, 1) := by decide +kernel
theorem dX12_turns_37 : decode cX12_turns 37 = .ok (.iload 4, 2) := by decide +kernel
theorem dX12_turns_39 : decode cX12_turns 39 = .ok (.invokevirtual 300, 3) := by decide +kernel
theorem dX12_turns_42 : decode cX12_turns 42 = .ok (.ifCond .ne 6, 3) := by decide +kernel
theorem dX12_turns_45 : decode cX12_turns 45 = .ok (.goto 25, 3) := by decide +kernel
theorem dX12_turns_48 : decode cX12_turns 48 = .ok (.aload_n 0, 1) := by decide +kernel
theorem dX12_turns_49 : decode cX12_turns 49 = .ok (.getfield 45, 3) := by decide +kernel
theorem dX12_turns_52 : decode cX12_turns 52 = .ok (.iload_n 2, 1) := by decide +kernel
theorem dX12_turns_53 : decode cX12_turns 53 = .ok (.iload 4, 2) := by decide +kernel
theorem dX12_turns_55 : decode cX12_turns 55 = .ok (.iastore, 1) := by decide +kernel
theorem dX12_turns_56 : decode cX12_turns 56 = .ok (.aload_n 0, 1) := by decide +kernel
theorem dX12_turns_57 : decode cX12_turns 57 = .ok (.iload_n 1, 1) := by decide +kernel
theorem dX12_turns_58 : decode cX12_turns 58 = .ok (.iload_n 2, 1) := by decide +kernel
theorem dX12_turns_59 : decode cX12_turns 59 = .ok (.iconst 1, 1) := by decide +kernel
theorem dX12_turns_60 : decode cX12_turns 60 = .ok (.iadd, 1) := by decide +kernel
theorem dX12_turns_61 : decode cX12_turns 61 = .ok (.iload_n 3, 1) := by decide +kernel
theorem dX12_turns_62 : decode cX12_turns 62 = .ok (.iconst 1, 1) := by decide +kernel
theorem dX12_turns_63 : decode cX12_turns 63 = .ok (.iload 4, 2) := by decide +kernel
theorem dX12_turns_65 : decode cX12_turns 65 = .ok (.ishl, 1) := by decide +kernel
theorem dX12_turns_66 : decode cX12_turns 66 = .ok (.ior, 1) := by decide +kernel
theorem dX12_turns_67 : decode cX12_turns 67 = .ok (.invokevirtual 292, 3) := by decide +kernel
theorem dX12_turns_70 : decode cX12_turns 70 = .ok (.iinc 4 1, 3) := by decide +kernel
theorem dX12_turns_73 : decode cX12_turns 73 = .ok (.goto (-60), 3) := by decide +kernel
theorem dX12_turns_76 : decode cX12_turns 76 = .ok (.return_, 1) := by decide +kernel
theorem dX12_turns_77 : decode cX12_turns 77 = .ok (.iconst 0, 1) := by decide +kernel
theorem dX12_turns_78 : decode cX12_turns 78 = .ok (.istore 4, 2) := by decide +kernel
theorem dX12_turns_80 : decode cX12_turns 80 = .ok (.iload 4, 2) := by decide +kernel
theorem dX12_turns_82 : decode cX12_turns 82 = .ok (.iconst 5, 1) := by decide +kernel
theorem dX12_turns_83 : decode cX12_turns 83 = .ok (.if_icmp .ge 17, 3) := by decide +kernel
theorem dX12_turns_86 : decode cX12_turns 86 = .ok (.aload_n 0, 1) := by decide +kernel
theorem dX12_turns_87 : decode cX12_turns 87 = .ok (.getfield 48, 3) := by decide +kernel
theorem dX12_turns_90 : decode cX12_turns 90 = .ok (.iload 4, 2) := by decide +kernel
theorem dX12_turns_92 : decode cX12_turns 92 = .ok (.iconst 0, 1) := by decide +kernel
theorem dX12_turns_93 : decode cX12_turns 93 = .ok (.iastore, 1) := by decide +kernel
theorem dX12_turns_94 : decode cX12_turns 94 = .ok (.iinc 4 1, 3) := by decide +kernel
theorem dX12_turns_97 : decode cX12_turns 97 = .ok (.goto (-17), 3) := by decide +kernel
theorem dX12_turns_100 : decode cX12_turns 100 = .ok (.iconst 0, 1) := by decide +kernel
theorem dX12_turns_101 : decode cX12_turns 101 = .ok (.istore 4, 2) := by decide +kernel
theorem dX12_turns_103 : decode cX12_turns 103 = .ok (.iconst 0, 1) := by decide +kernel
theorem dX12_turns_104 : decode cX12_turns 104 = .ok (.istore 5, 2) := by decide +kernel
theorem dX12_turns_106 : decode cX12_turns 106 = .ok (.iload 5, 2) := by decide +kernel
theorem dX12_turns_108 : decode cX12_turns 108 = .ok (.aload_n 0, 1) := by decide +kernel
theorem dX12_turns_109 : decode cX12_turns 109 = .ok (.getfield 9, 3) := by decide +kernel
theorem dX12_turns_112 : decode cX12_turns 112 = .ok (.iload_n 1, 1) := by decide +kernel
theorem dX12_turns_113 : decode cX12_turns 113 = .ok (.iaload, 1) := by decide +kernel
theorem dX12_turns_114 : decode cX12_turns 114 = .ok (.if_icmp .ge 59, 3) := by decide +kernel
theorem dX12_turns_117 : decode cX12_turns 117 = .ok (.iconst 0, 1) := by decide +kernel
theorem dX12_turns_118 : decode cX12_turns 118 = .ok (.istore 6, 2) := by decide +kernel
theorem dX12_turns_120 : decode cX12_turns 120 = .ok (.iload 5, 2) := by decide +kernel
theorem dX12_turns_122 : decode cX12_turns 122 = .ok (.istore 7, 2) := by decide +kernel
theorem dX12_turns_124 : decode cX12_turns 124 = .ok (.iload 4, 2) := by decide +kernel
theorem dX12_turns_126 : decode cX12_turns 126 = .ok (.iload 7, 2) := by decide +kernel
theorem dX12_turns_128 : decode cX12_turns 128 = .ok (.ishr, 1) := by decide +kernel
theorem dX12_turns_129 : decode cX12_turns 129 = .ok (.iconst 1, 1) := by decide +kernel
theorem dX12_turns_130 : decode cX12_turns 130 = .ok (.iand, 1) := by decide +kernel
theorem dX12_turns_131 : decode cX12_turns 131 = .ok (.ifCond .ne 27, 3) := by decide +kernel
theorem dX12_turns_134 : decode cX12_turns 134 = .ok (.iload 4, 2) := by decide +kernel
theorem dX12_turns_136 : decode cX12_turns 136 = .ok (.iconst 1, 1) := by decide +kernel
theorem dX12_turns_137 : decode cX12_turns 137 = .ok (.iload 7, 2) := by decide +kernel
theorem dX12_turns_139 : decode cX12_turns 139 = .ok (.ishl, 1) := by decide +kernel
theorem dX12_turns_140 : decode cX12_turns 140 = .ok (.ior, 1) := by decide +kernel
theorem dX12_turns_141 : decode cX12_turns 141 = .ok (.istore 4, 2) := by decide +kernel
theorem dX12_turns_143 : decode cX12_turns 143 = .ok (.iinc 6 1, 3) := by decide +kernel
theorem dX12_turns_146 : decode cX12_turns 146 = .ok (.aload_n 0, 1) := by decide +kernel
theorem dX12_turns_147 : decode cX12_turns 147 = .ok (.getfield 45, 3) := by decide +kernel
theorem dX12_turns_150 : decode cX12_turns 150 = .ok (.iload 7, 2) := by decide +kernel
theorem dX12_turns_152 : decode cX12_turns 152 = .ok (.iaload, 1) := by decide +kernel
theorem dX12_turns_153 : decode cX12_turns 153 = .ok (.istore 7, 2) := by decide +kernel
theorem dX12_turns_155 : decode cX12_turns 155 = .ok (.goto (-31), 3) := by decide +kernel
theorem dX12_turns_158 : decode cX12_turns 158 = .ok (.aload_n 0, 1) := by decide +kernel
theorem dX12_turns_159 : decode cX12_turns 159 = .ok (.getfield 48, 3) := by decide +kernel
theorem dX12_turns_162 : decode cX12_turns 162 = .ok (.iload 5, 2) := by decide +kernel
theorem dX12_turns_164 : decode cX12_turns 164 = .ok (.iload 6, 2) := by decide +kernel
theorem dX12_turns_166 : decode cX12_turns 166 = .ok (.iastore, 1) := by decide +kernel
theorem dX12_turns_167 : decode cX12_turns 167 = .ok (.iinc 5 1, 3) := by decide +kernel
theorem dX12_turns_170 : decode cX12_turns 170 = .ok (.goto (-64), 3) := by decide +kernel
theorem dX12_turns_173 : decode cX12_turns 173 = .ok (.aload_n 0, 1) := by decide +kernel
theorem dX12_turns_174 : decode cX12_turns 174 = .ok (.iload_n 1, 1) := by decide +kernel
theorem dX12_turns_175 : decode cX12_turns 175 = .ok (.invokevirtual 304, 3) := by decide +kernel
theorem dX12_turns_178 : decode cX12_turns 178 = .ok (.iconst 0, 1) := by decide +kernel
theorem dX12_turns_179 : decode cX12_turns 179 = .ok (.istore 5, 2) := by decide +kernel
theorem dX12_turns_181 : decode cX12_turns 181 = .ok (.iload 5, 2) := by decide +kernel
theorem dX12_turns_183 : decode cX12_turns 183 = .ok (.aload_n 0, 1) := by decide +kernel
theorem dX12_turns_184 : decode cX12_turns 184 = .ok (.getfield 289, 3) := by decide +kernel
theorem dX12_turns_187 : decode cX12_turns 187 = .ok (.if_icmp .ge 18, 3) := by decide +kernel
theorem dX12_turns_190 : decode cX12_turns 190 = .ok (.aload_n 0, 1) := by decide +kernel
theorem dX12_turns_191 : decode cX12_turns 191 = .ok (.iload 5, 2) := by decide +kernel
theorem dX12_turns_193 : decode cX12_turns 193 = .ok (.invokevirtual 307, 3) := by decide +kernel
theorem dX12_turns_196 : decode cX12_turns 196 = .ok (.ifCond .ne 9, 3) := by decide +kernel
theorem dX12_turns_199 : decode cX12_turns 199 = .ok (.iinc 5 1, 3) := by decide +kernel
theorem dX12_turns_202 : decode cX12_turns 202 = .ok (.goto (-21), 3) := by decide +kernel
theorem dX12_turns_205 : decode cX12_turns 205 = .ok (.iconst 0, 1) := by decide +kernel
theorem dX12_turns_206 : decode cX12_turns 206 = .ok (.istore 6, 2) := by decide +kernel
theorem dX12_turns_208 : decode cX12_turns 208 = .ok (.iload 6, 2) := by decide +kernel
theorem dX12_turns_210 : decode cX12_turns 210 = .ok (.iconst 5, 1) := by decide +kernel
theorem dX12_turns_211 : decode cX12_turns 211 = .ok (.if_icmp .ge 28, 3) := by decide +kernel
theorem dX12_turns_214 : decode cX12_turns 214 = .ok (.aload_n 0, 1) := by decide +kernel
theorem dX12_turns_215 : decode cX12_turns 215 = .ok (.getfield 51, 3) := by decide +kernel
theorem dX12_turns_218 : decode cX12_turns 218 = .ok (.iconst 5, 1) := by decide +kernel
theorem dX12_turns_219 : decode cX12_turns 219 = .ok (.iload 5, 2) := by decide +kernel
theorem dX12_turns_221 : decode cX12_turns 221 = .ok (.imul, 1) := by decide +kernel
theorem dX12_turns_222 : decode cX12_turns 222 = .ok (.iload 6, 2) := by decide +kernel
theorem dX12_turns_224 : decode cX12_turns 224 = .ok (.iadd, 1) := by decide +kernel
theorem dX12_turns_225 : decode cX12_turns 225 = .ok (.aload_n 0, 1) := by decide +kernel
theorem dX12_turns_226 : decode cX12_turns 226 = .ok (.getfield 48, 3) := by decide +kernel
theorem dX12_turns_229 : decode cX12_turns 229 = .ok (.iload 6, 2) := by decide +kernel
theorem dX12_turns_231 : decode cX12_turns 231 = .ok (.iaload, 1) := by decide +kernel
theorem dX12_turns_232 : decode cX12_turns 232 = .ok (.iastore, 1) := by decide +kernel
theorem dX12_turns_233 : decode cX12_turns 233 = .ok (.iinc 6 1, 3) := by decide +kernel
theorem dX12_turns_236 : decode cX12_turns 236 = .ok (.goto (-28), 3) := by decide +kernel
theorem dX12_turns_239 : decode cX12_turns 239 = .ok (.aload_n 0, 1) := by decide +kernel
theorem dX12_turns_240 : decode cX12_turns 240 = .ok (.getfield 54, 3) := by decide +kernel
theorem dX12_turns_243 : decode cX12_turns 243 = .ok (.iload 5, 2) := by decide +kernel
theorem dX12_turns_245 : decode cX12_turns 245 = .ok (.dup2, 1) := by decide +kernel
theorem dX12_turns_246 : decode cX12_turns 246 = .ok (.laload, 1) := by decide +kernel
theorem dX12_turns_247 : decode cX12_turns 247 = .ok (.lconst 1, 1) := by decide +kernel
theorem dX12_turns_248 : decode cX12_turns 248 = .ok (.ladd, 1) := by decide +kernel
theorem dX12_turns_249 : decode cX12_turns 249 = .ok (.lastore, 1) := by decide +kernel
theorem dX12_turns_250 : decode cX12_turns 250 = .ok (.iload 5, 2) := by decide +kernel
theorem dX12_turns_252 : decode cX12_turns 252 = .ok (.aload_n 0, 1) := by decide +kernel
theorem dX12_turns_253 : decode cX12_turns 253 = .ok (.getfield 289, 3) := by decide +kernel
theorem dX12_turns_256 : decode cX12_turns 256 = .ok (.if_icmp .ne 13, 3) := by decide +kernel
theorem dX12_turns_259 : decode cX12_turns 259 = .ok (.aload_n 0, 1) := by decide +kernel
theorem dX12_turns_260 : decode cX12_turns 260 = .ok (.dup, 1) := by decide +kernel
theorem dX12_turns_261 : decode cX12_turns 261 = .ok (.getfield 289, 3) := by decide +kernel
theorem dX12_turns_264 : decode cX12_turns 264 = .ok (.iconst 1, 1) := by decide +kernel
theorem dX12_turns_265 : decode cX12_turns 265 = .ok (.iadd, 1) := by decide +kernel
theorem dX12_turns_266 : decode cX12_turns 266 = .ok (.putfield 289, 3) := by decide +kernel
theorem dX12_turns_269 : decode cX12_turns 269 = .ok (.return_, 1) := by decide +kernel
theorem dX12_sorts_0 : decode cX12_sorts 0 = .ok (.iconst 0, 1) := by decide +kernel
theorem dX12_sorts_1 : decode cX12_sorts 1 = .ok (.istore_n 2, 1) := by decide +kernel
theorem dX12_sorts_2 : decode cX12_sorts 2 = .ok (.iload_n 2, 1) := by decide +kernel
theorem dX12_sorts_3 : decode cX12_sorts 3 = .ok (.aload_n 0, 1) := by decide +kernel
theorem dX12_sorts_4 : decode cX12_sorts 4 = .ok (.getfield 9, 3) := by decide +kernel
theorem dX12_sorts_7 : decode cX12_sorts 7 = .ok (.iload_n 1, 1) := by decide +kernel
theorem dX12_sorts_8 : decode cX12_sorts 8 = .ok (.iaload, 1) := by decide +kernel
theorem dX12_sorts_9 : decode cX12_sorts 9 = .ok (.if_icmp .ge 85, 3) := by decide +kernel
theorem dX12_sorts_12 : decode cX12_sorts 12 = .ok (.iload_n 2, 1) := by decide +kernel
theorem dX12_sorts_13 : decode cX12_sorts 13 = .ok (.iconst 1, 1) := by decide +kernel
theorem dX12_sorts_14 : decode cX12_sorts 14 = .ok (.iadd, 1) := by decide +kernel
theorem dX12_sorts_15 : decode cX12_sorts 15 = .ok (.istore_n 3, 1) := by decide +kernel
theorem dX12_sorts_16 : decode cX12_sorts 16 = .ok (.iload_n 3, 1) := by decide +kernel
theorem dX12_sorts_17 : decode cX12_sorts 17 = .ok (.aload_n 0, 1) := by decide +kernel
theorem dX12_sorts_18 : decode cX12_sorts 18 = .ok (.getfield 9, 3) := by decide +kernel
theorem dX12_sorts_21 : decode cX12_sorts 21 = .ok (.iload_n 1, 1) := by decide +kernel
theorem dX12_sorts_22 : decode cX12_sorts 22 = .ok (.iaload, 1) := by decide +kernel
theorem dX12_sorts_23 : decode cX12_sorts 23 = .ok (.if_icmp .ge 65, 3) := by decide +kernel
theorem dX12_sorts_26 : decode cX12_sorts 26 = .ok (.aload_n 0, 1) := by decide +kernel
theorem dX12_sorts_27 : decode cX12_sorts 27 = .ok (.iload_n 1, 1) := by decide +kernel
theorem dX12_sorts_28 : decode cX12_sorts 28 = .ok (.iload_n 2, 1) := by decide +kernel
theorem dX12_sorts_29 : decode cX12_sorts 29 = .ok (.iload_n 3, 1) := by decide +kernel
theorem dX12_sorts_30 : decode cX12_sorts 30 = .ok (.invokevirtual 300, 3) := by decide +kernel
theorem dX12_sorts_33 : decode cX12_sorts 33 = .ok (.ifCond .eq 49, 3) := by decide +kernel
theorem dX12_sorts_36 : decode cX12_sorts 36 = .ok (.aload_n 0, 1) := by decide +kernel
theorem dX12_sorts_37 : decode cX12_sorts 37 = .ok (.getfield 48, 3) := by decide +kernel
theorem dX12_sorts_40 : decode cX12_sorts 40 = .ok (.iload_n 2, 1) := by decide +kernel
theorem dX12_sorts_41 : decode cX12_sorts 41 = .ok (.iaload, 1) := by decide +kernel
theorem dX12_sorts_42 : decode cX12_sorts 42 = .ok (.aload_n 0, 1) := by decide +kernel
theorem dX12_sorts_43 : decode cX12_sorts 43 = .ok (.getfield 48, 3) := by decide +kernel
theorem dX12_sorts_46 : decode cX12_sorts 46 = .ok (.iload_n 3, 1) := by decide +kernel
theorem dX12_sorts_47 : decode cX12_sorts 47 = .ok (.iaload, 1) := by decide +kernel
theorem dX12_sorts_48 : decode cX12_sorts 48 = .ok (.if_icmp .lt 6, 3) := by decide +kernel
theorem dX12_sorts_51 : decode cX12_sorts 51 = .ok (.goto 31, 3) := by decide +kernel
theorem dX12_sorts_54 : decode cX12_sorts 54 = .ok (.aload_n 0, 1) := by decide +kernel
theorem dX12_sorts_55 : decode cX12_sorts 55 = .ok (.getfield 48, 3) := by decide +kernel
theorem dX12_sorts_58 : decode cX12_sorts 58 = .ok (.iload_n 2, 1) := by decide +kernel
theorem dX12_sorts_59 : decode cX12_sorts 59 = .ok (.iaload, 1) := by decide +kernel
theorem dX12_sorts_60 : decode cX12_sorts 60 = .ok (.istore 4, 2) := by decide +kernel
theorem dX12_sorts_62 : decode cX12_sorts 62 = .ok (.aload_n 0, 1) := by decide +kernel
theorem dX12_sorts_63 : decode cX12_sorts 63 = .ok (.getfield 48, 3) := by decide +kernel
theorem dX12_sorts_66 : decode cX12_sorts 66 = .ok (.iload_n 2, 1) := by decide +kernel
theorem dX12_sorts_67 : decode cX12_sorts 67 = .ok (.aload_n 0, 1) := by decide +kernel
theorem dX12_sorts_68 : decode cX12_sorts 68 = .ok (.getfield 48, 3) := by decide +kernel
theorem dX12_sorts_71 : decode cX12_sorts 71 = .ok (.iload_n 3, 1) := by decide +kernel
theorem dX12_sorts_72 : decode cX12_sorts 72 = .ok (.iaload, 1) := by decide +kernel
theorem dX12_sorts_73 : decode cX12_sorts 73 = .ok (.iastore, 1) := by decide +kernel
theorem dX12_sorts_74 : decode cX12_sorts 74 = .ok (.aload_n 0, 1) := by decide +kernel
theorem dX12_sorts_75 : decode cX12_sorts 75 = .ok (.getfield 48, 3) := by decide +kernel
theorem dX12_sorts_78 : decode cX12_sorts 78 = .ok (.iload_n 3, 1) := by decide +kernel
theorem dX12_sorts_79 : decode cX12_sorts 79 = .ok (.iload 4, 2) := by decide +kernel
theorem dX12_sorts_81 : decode cX12_sorts 81 = .ok (.iastore, 1) := by decide +kernel
theorem dX12_sorts_82 : decode cX12_sorts 82 = .ok (.iinc 3 1, 3) := by decide +kernel
theorem dX12_sorts_85 : decode cX12_sorts 85 = .ok (.goto (-69), 3) := by decide +kernel
theorem dX12_sorts_88 : decode cX12_sorts 88 = .ok (.iinc 2 1, 3) := by decide +kernel
theorem dX12_sorts_91 : decode cX12_sorts 91 = .ok (.goto (-89), 3) := by decide +kernel
theorem dX12_sorts_94 : decode cX12_sorts 94 = .ok (.return_, 1) := by decide +kernel
theorem dX12_isKind_0 : decode cX12_isKind 0 = .ok (.iconst 0, 1) := by decide +kernel
theorem dX12_isKind_1 : decode cX12_isKind 1 = .ok (.istore_n 2, 1) := by decide +kernel
theorem dX12_isKind_2 : decode cX12_isKind 2 = .ok (.iload_n 2, 1) := by decide +kernel
theorem dX12_isKind_3 : decode cX12_isKind 3 = .ok (.iconst 5, 1) := by decide +kernel
theorem dX12_isKind_4 : decode cX12_isKind 4 = .ok (.if_icmp .ge 30, 3) := by decide +kernel
theorem dX12_isKind_7 : decode cX12_isKind 7 = .ok (.aload_n 0, 1) := by decide +kernel
theorem dX12_isKind_8 : decode cX12_isKind 8 = .ok (.getfield 51, 3) := by decide +kernel
theorem dX12_isKind_11 : decode cX12_isKind 11 = .ok (.iconst 5, 1) := by decide +kernel
theorem dX12_isKind_12 : decode cX12_isKind 12 = .ok (.iload_n 1, 1) := by decide +kernel
theorem dX12_isKind_13 : decode cX12_isKind 13 = .ok (.imul, 1) := by decide +kernel
theorem dX12_isKind_14 : decode cX12_isKind 14 = .ok (.iload_n 2, 1) := by decide +kernel
theorem dX12_isKind_15 : decode cX12_isKind 15 = .ok (.iadd, 1) := by decide +kernel
theorem dX12_isKind_16 : decode cX12_isKind 16 = .ok (.iaload, 1) := by decide +kernel
theorem dX12_isKind_17 : decode cX12_isKind 17 = .ok (.aload_n 0, 1) := by decide +kernel
theorem dX12_isKind_18 : decode cX12_isKind 18 = .ok (.getfield 48, 3) := by decide +kernel
theorem dX12_isKind_21 : decode cX12_isKind 21 = .ok (.iload_n 2, 1) := by decide +kernel
theorem dX12_isKind_22 : decode cX12_isKind 22 = .ok (.iaload, 1) := by decide +kernel
theorem dX12_isKind_23 : decode cX12_isKind 23 = .ok (.if_icmp .eq 5, 3) := by decide +kernel
theorem dX12_isKind_26 : decode cX12_isKind 26 = .ok (.iconst 0, 1) := by decide +kernel
theorem dX12_isKind_27 : decode cX12_isKind 27 = .ok (.ireturn, 1) := by decide +kernel
theorem dX12_isKind_28 : decode cX12_isKind 28 = .ok (.iinc 2 1, 3) := by decide +kernel
theorem dX12_isKind_31 : decode cX12_isKind 31 = .ok (.goto (-29), 3) := by decide +kernel
theorem dX12_isKind_34 : decode cX12_isKind 34 = .ok (.iconst 1, 1) := by decide +kernel
theorem dX12_isKind_35 : decode cX12_isKind 35 = .ok (.ireturn, 1) := by decide +kernel
theorem dX12_laysRounds_0 : decode cX12_laysRounds 0 = .ok (.aload_n 0, 1) := by decide +kernel
theorem dX12_laysRounds_1 : decode cX12_laysRounds 1 = .ok (.iconst 0, 1) := by decide +kernel
theorem dX12_laysRounds_2 : decode cX12_laysRounds 2 = .ok (.invokevirtual 267, 3) := by decide +kernel
theorem dX12_laysRounds_5 : decode cX12_laysRounds 5 = .ok (.iconst 0, 1) := by decide +kernel
theorem dX12_laysRounds_6 : decode cX12_laysRounds 6 = .ok (.istore_n 3, 1) := by decide +kernel
theorem dX12_laysRounds_7 : decode cX12_laysRounds 7 = .ok (.iload_n 3, 1) := by decide +kernel
theorem dX12_laysRounds_8 : decode cX12_laysRounds 8 = .ok (.aload_n 0, 1) := by decide +kernel
theorem dX12_laysRounds_9 : decode cX12_laysRounds 9 = .ok (.getfield 9, 3) := by decide +kernel
theorem dX12_laysRounds_12 : decode cX12_laysRounds 12 = .ok (.iload_n 1, 1) := by decide +kernel
theorem dX12_laysRounds_13 : decode cX12_laysRounds 13 = .ok (.iaload, 1) := by decide +kernel
theorem dX12_laysRounds_14 : decode cX12_laysRounds 14 = .ok (.if_icmp .ge 101, 3) := by decide +kernel
theorem dX12_laysRounds_17 : decode cX12_laysRounds 17 = .ok (.aload_n 0, 1) := by decide +kernel
theorem dX12_laysRounds_18 : decode cX12_laysRounds 18 = .ok (.getfield 51, 3) := by decide +kernel
theorem dX12_laysRounds_21 : decode cX12_laysRounds 21 = .ok (.iconst 5, 1) := by decide +kernel
theorem dX12_laysRounds_22 : decode cX12_laysRounds 22 = .ok (.iload_n 2, 1) := by decide +kernel
theorem dX12_laysRounds_23 : decode cX12_laysRounds 23 = .ok (.imul, 1) := by decide +kernel
theorem dX12_laysRounds_24 : decode cX12_laysRounds 24 = .ok (.iload_n 3, 1) := by decide +kernel
theorem dX12_laysRounds_25 : decode cX12_laysRounds 25 = .ok (.iadd, 1) := by decide +kernel
theorem dX12_laysRounds_26 : decode cX12_laysRounds 26 = .ok (.iaload, 1) := by decide +kernel
theorem dX12_laysRounds_27 : decode cX12_laysRounds 27 = .ok (.istore 4, 2) := by decide +kernel
theorem dX12_laysRounds_29 : decode cX12_laysRounds 29 = .ok (.iload 4, 2) := by decide +kernel
theorem dX12_laysRounds_31 : decode cX12_laysRounds 31 = .ok (.ifCond .ne 6, 3) := by decide +kernel
theorem dX12_laysRounds_34 : decode cX12_laysRounds 34 = .ok (.goto 75, 3) := by decide +kernel
theorem dX12_laysRounds_37 : decode cX12_laysRounds 37 = .ok (.iconst 0, 1) := by decide +kernel
theorem dX12_laysRounds_38 : decode cX12_laysRounds 38 = .ok (.istore 5, 2) := by decide +kernel
theorem dX12_laysRounds_40 : decode cX12_laysRounds 40 = .ok (.iload 5, 2) := by decide +kernel
theorem dX12_laysRounds_42 : decode cX12_laysRounds 42 = .ok (.sipush 30001, 3) := by decide +kernel
theorem dX12_laysRounds_45 : decode cX12_laysRounds 45 = .ok (.if_icmp .ge 27, 3) := by decide +kernel
theorem dX12_laysRounds_48 : decode cX12_laysRounds 48 = .ok (.aload_n 0, 1) := by decide +kernel
theorem dX12_laysRounds_49 : decode cX12_laysRounds 49 = .ok (.getfield 35, 3) := by decide +kernel
theorem dX12_laysRounds_52 : decode cX12_laysRounds 52 = .ok (.sipush 30001, 3) := by decide +kernel
theorem dX12_laysRounds_55 : decode cX12_laysRounds 55 = .ok (.iload 5, 2) := by decide +kernel
theorem dX12_laysRounds_57 : decode cX12_laysRounds 57 = .ok (.iadd, 1) := by decide +kernel
theorem dX12_laysRounds_58 : decode cX12_laysRounds 58 = .ok (.aload_n 0, 1) := by decide +kernel
theorem dX12_laysRounds_59 : decode cX12_laysRounds 59 = .ok (.getfield 35, 3) := by decide +kernel
theorem dX12_laysRounds_62 : decode cX12_laysRounds 62 = .ok (.iload 5, 2) := by decide +kernel
theorem dX12_laysRounds_64 : decode cX12_laysRounds 64 = .ok (.laload, 1) := by decide +kernel
theorem dX12_laysRounds_65 : decode cX12_laysRounds 65 = .ok (.lastore, 1) := by decide +kernel
theorem dX12_laysRounds_66 : decode cX12_laysRounds 66 = .ok (.iinc 5 1, 3) := by decide +kernel
theorem dX12_laysRounds_69 : decode cX12_laysRounds 69 = .ok (.goto (-29), 3) := by decide +kernel
theorem dX12_laysRounds_72 : decode cX12_laysRounds 72 = .ok (.aload_n 0, 1) := by decide +kernel
theorem dX12_laysRounds_73 : decode cX12_laysRounds 73 = .ok (.iconst 0, 1) := by decide +kernel
theorem dX12_laysRounds_74 : decode cX12_laysRounds 74 = .ok (.iconst 1, 1) := by decide +kernel
theorem dX12_laysRounds_75 : decode cX12_laysRounds 75 = .ok (.iload 4, 2) := by decide +kernel
theorem dX12_laysRounds_77 : decode cX12_laysRounds 77 = .ok (.aload_n 0, 1) := by decide +kernel
theorem dX12_laysRounds_78 : decode cX12_laysRounds 78 = .ok (.iload_n 1, 1) := by decide +kernel
theorem dX12_laysRounds_79 : decode cX12_laysRounds 79 = .ok (.iload_n 3, 1) := by decide +kernel
theorem dX12_laysRounds_80 : decode cX12_laysRounds 80 = .ok (.iconst 0, 1) := by decide +kernel
theorem dX12_laysRounds_81 : decode cX12_laysRounds 81 = .ok (.invokevirtual 93, 3) := by decide +kernel
theorem dX12_laysRounds_84 : decode cX12_laysRounds 84 = .ok (.imul, 1) := by decide +kernel
theorem dX12_laysRounds_85 : decode cX12_laysRounds 85 = .ok (.aload_n 0, 1) := by decide +kernel
theorem dX12_laysRounds_86 : decode cX12_laysRounds 86 = .ok (.iload_n 1, 1) := by decide +kernel
theorem dX12_laysRounds_87 : decode cX12_laysRounds 87 = .ok (.iload_n 3, 1) := by decide +kernel
theorem dX12_laysRounds_88 : decode cX12_laysRounds 88 = .ok (.iconst 1, 1) := by decide +kernel
theorem dX12_laysRounds_89 : decode cX12_laysRounds 89 = .ok (.invokevirtual 93, 3) := by decide +kernel
theorem dX12_laysRounds_92 : decode cX12_laysRounds 92 = .ok (.aload_n 0, 1) := by decide +kernel
theorem dX12_laysRounds_93 : decode cX12_laysRounds 93 = .ok (.iload_n 1, 1) := by decide +kernel
theorem dX12_laysRounds_94 : decode cX12_laysRounds 94 = .ok (.iload_n 3, 1) := by decide +kernel
theorem dX12_laysRounds_95 : decode cX12_laysRounds 95 = .ok (.iconst 2, 1) := by decide +kernel
theorem dX12_laysRounds_96 : decode cX12_laysRounds 96 = .ok (.invokevirtual 93, 3) := by decide +kernel
theorem dX12_laysRounds_99 : decode cX12_laysRounds 99 = .ok (.aload_n 0, 1) := by decide +kernel
theorem dX12_laysRounds_100 : decode cX12_laysRounds 100 = .ok (.iload_n 1, 1) := by decide +kernel
theorem dX12_laysRounds_101 : decode cX12_laysRounds 101 = .ok (.iload_n 3, 1) := by decide +kernel
theorem dX12_laysRounds_102 : decode cX12_laysRounds 102 = .ok (.iconst 3, 1) := by decide +kernel
theorem dX12_laysRounds_103 : decode cX12_laysRounds 103 = .ok (.invokevirtual 93, 3) := by decide +kernel
theorem dX12_laysRounds_106 : decode cX12_laysRounds 106 = .ok (.invokevirtual 270, 3) := by decide +kernel
theorem dX12_laysRounds_109 : decode cX12_laysRounds 109 = .ok (.iinc 3 1, 3) := by decide +kernel
theorem dX12_laysRounds_112 : decode cX12_laysRounds 112 = .ok (.goto (-105), 3) := by decide +kernel
theorem dX12_laysRounds_115 : decode cX12_laysRounds 115 = .ok (.return_, 1) := by decide +kernel
theorem dX12_unlike_0 : decode cX12_unlike 0 = .ok (.aload_n 0, 1) := by decide +kernel
theorem dX12_unlike_1 : decode cX12_unlike 1 = .ok (.iload_n 1, 1) := by decide +kernel
theorem dX12_unlike_2 : decode cX12_unlike 2 = .ok (.invokevirtual 274, 3) := by decide +kernel
theorem dX12_unlike_5 : decode cX12_unlike 5 = .ok (.ifCond .eq 10, 3) := by decide +kernel
theorem dX12_unlike_8 : decode cX12_unlike 8 = .ok (.iload_n 2, 1) := by decide +kernel
theorem dX12_unlike_9 : decode cX12_unlike 9 = .ok (.invokestatic 277, 3) := by decide +kernel
theorem dX12_unlike_12 : decode cX12_unlike 12 = .ok (.ifCond .ne 7, 3) := by decide +kernel
theorem dX12_unlike_15 : decode cX12_unlike 15 = .ok (.ldc2_w 280, 3) := by decide +kernel
theorem dX12_unlike_18 : decode cX12_unlike 18 = .ok (.lreturn, 1) := by decide +kernel
theorem dX12_unlike_19 : decode cX12_unlike 19 = .ok (.aload_n 0, 1) := by decide +kernel
theorem dX12_unlike_20 : decode cX12_unlike 20 = .ok (.iload_n 1, 1) := by decide +kernel
theorem dX12_unlike_21 : decode cX12_unlike 21 = .ok (.invokevirtual 310, 3) := by decide +kernel
theorem dX12_unlike_24 : decode cX12_unlike 24 = .ok (.aload_n 0, 1) := by decide +kernel
theorem dX12_unlike_25 : decode cX12_unlike 25 = .ok (.getfield 42, 3) := by decide +kernel
theorem dX12_unlike_28 : decode cX12_unlike 28 = .ok (.iload_n 2, 1) := by decide +kernel
theorem dX12_unlike_29 : decode cX12_unlike 29 = .ok (.sipush 3000, 3) := by decide +kernel
theorem dX12_unlike_32 : decode cX12_unlike 32 = .ok (.iadd, 1) := by decide +kernel
theorem dX12_unlike_33 : decode cX12_unlike 33 = .ok (.laload, 1) := by decide +kernel
theorem dX12_unlike_34 : decode cX12_unlike 34 = .ok (.lreturn, 1) := by decide +kernel
theorem dX12_finds_0 : decode cX12_finds 0 = .ok (.aload_n 0, 1) := by decide +kernel
theorem dX12_finds_1 : decode cX12_finds 1 = .ok (.iload_n 1, 1) := by decide +kernel
theorem dX12_finds_2 : decode cX12_finds 2 = .ok (.invokevirtual 282, 3) := by decide +kernel
theorem dX12_finds_5 : decode cX12_finds 5 = .ok (.lload_n 3, 1) := by decide +kernel
theorem dX12_finds_6 : decode cX12_finds 6 = .ok (.lconst 0, 1) := by decide +kernel
theorem dX12_finds_7 : decode cX12_finds 7 = .ok (.aload_n 0, 1) := by decide +kernel
theorem dX12_finds_8 : decode cX12_finds 8 = .ok (.iload_n 2, 1) := by decide +kernel
theorem dX12_finds_9 : decode cX12_finds 9 = .ok (.invokevirtual 285, 3) := by decide +kernel
theorem dX12_finds_12 : decode cX12_finds 12 = .ok (.lconst 1, 1) := by decide +kernel
theorem dX12_finds_13 : decode cX12_finds 13 = .ok (.lsub, 1) := by decide +kernel
theorem dX12_finds_14 : decode cX12_finds 14 = .ok (.invokestatic 105, 3) := by decide +kernel
theorem dX12_finds_17 : decode cX12_finds 17 = .ok (.ifCond .ne 5, 3) := by decide +kernel
theorem dX12_finds_20 : decode cX12_finds 20 = .ok (.iconst 0, 1) := by decide +kernel
theorem dX12_finds_21 : decode cX12_finds 21 = .ok (.ireturn, 1) := by decide +kernel
theorem dX12_finds_22 : decode cX12_finds 22 = .ok (.lload_n 3, 1) := by decide +kernel
theorem dX12_finds_23 : decode cX12_finds 23 = .ok (.lstore 5, 2) := by decide +kernel
theorem dX12_finds_25 : decode cX12_finds 25 = .ok (.iload_n 2, 1) := by decide +kernel
theorem dX12_finds_26 : decode cX12_finds 26 = .ok (.sipush 15000, 3) := by decide +kernel
theorem dX12_finds_29 : decode cX12_finds 29 = .ok (.iadd, 1) := by decide +kernel
theorem dX12_finds_30 : decode cX12_finds 30 = .ok (.i2l, 1) := by decide +kernel
theorem dX12_finds_31 : decode cX12_finds 31 = .ok (.lstore 7, 2) := by decide +kernel
theorem dX12_finds_33 : decode cX12_finds 33 = .ok (.iconst 0, 1) := by decide +kernel
theorem dX12_finds_34 : decode cX12_finds 34 = .ok (.istore 9, 2) := by decide +kernel
theorem dX12_finds_36 : decode cX12_finds 36 = .ok (.iload 9, 2) := by decide +kernel
theorem dX12_finds_38 : decode cX12_finds 38 = .ok (.aload_n 0, 1) := by decide +kernel
theorem dX12_finds_39 : decode cX12_finds 39 = .ok (.getfield 9, 3) := by decide +kernel
theorem dX12_finds_42 : decode cX12_finds 42 = .ok (.iload_n 1, 1) := by decide +kernel
theorem dX12_finds_43 : decode cX12_finds 43 = .ok (.iaload, 1) := by decide +kernel
theorem dX12_finds_44 : decode cX12_finds 44 = .ok (.if_icmp .ge 102, 3) := by decide +kernel
theorem dX12_finds_47 : decode cX12_finds 47 = .ok (.aload_n 0, 1) := by decide +kernel
theorem dX12_finds_48 : decode cX12_finds 48 = .ok (.iload_n 1, 1) := by decide +kernel
theorem dX12_finds_49 : decode cX12_finds 49 = .ok (.iload 9, 2) := by decide +kernel
theorem dX12_finds_51 : decode cX12_finds 51 = .ok (.iconst 2, 1) := by decide +kernel
theorem dX12_finds_52 : decode cX12_finds 52 = .ok (.invokevirtual 93, 3) := by decide +kernel
theorem dX12_finds_55 : decode cX12_finds 55 = .ok (.istore 10, 2) := by decide +kernel
theorem dX12_finds_57 : decode cX12_finds 57 = .ok (.lload 5, 2) := by decide +kernel
theorem dX12_finds_59 : decode cX12_finds 59 = .ok (.aload_n 0, 1) := by decide +kernel
theorem dX12_finds_60 : decode cX12_finds 60 = .ok (.iload 9, 2) := by decide +kernel
theorem dX12_finds_62 : decode cX12_finds 62 = .ok (.iconst 1, 1) := by decide +kernel
theorem dX12_finds_63 : decode cX12_finds 63 = .ok (.iadd, 1) := by decide +kernel
theorem dX12_finds_64 : decode cX12_finds 64 = .ok (.lload 7, 2) := by decide +kernel
theorem dX12_finds_66 : decode cX12_finds 66 = .ok (.aload_n 0, 1) := by decide +kernel
theorem dX12_finds_67 : decode cX12_finds 67 = .ok (.iload_n 1, 1) := by decide +kernel
theorem dX12_finds_68 : decode cX12_finds 68 = .ok (.iload 9, 2) := by decide +kernel
theorem dX12_finds_70 : decode cX12_finds 70 = .ok (.iload 10, 2) := by decide +kernel
theorem dX12_finds_72 : decode cX12_finds 72 = .ok (.i2l, 1) := by decide +kernel
theorem dX12_finds_73 : decode cX12_finds 73 = .ok (.invokevirtual 234, 3) := by decide +kernel
theorem dX12_finds_76 : decode cX12_finds 76 = .ok (.lsub, 1) := by decide +kernel
theorem dX12_finds_77 : decode cX12_finds 77 = .ok (.invokevirtual 262, 3) := by decide +kernel
theorem dX12_finds_80 : decode cX12_finds 80 = .ok (.lcmp, 1) := by decide +kernel
theorem dX12_finds_81 : decode cX12_finds 81 = .ok (.ifCond .lt 35, 3) := by decide +kernel
theorem dX12_finds_84 : decode cX12_finds 84 = .ok (.lload 5, 2) := by decide +kernel
theorem dX12_finds_86 : decode cX12_finds 86 = .ok (.aload_n 0, 1) := by decide +kernel
theorem dX12_finds_87 : decode cX12_finds 87 = .ok (.iload 9, 2) := by decide +kernel
theorem dX12_finds_89 : decode cX12_finds 89 = .ok (.iconst 1, 1) := by decide +kernel
theorem dX12_finds_90 : decode cX12_finds 90 = .ok (.iadd, 1) := by decide +kernel
theorem dX12_finds_91 : decode cX12_finds 91 = .ok (.lload 7, 2) := by decide +kernel
theorem dX12_finds_93 : decode cX12_finds 93 = .ok (.aload_n 0, 1) := by decide +kernel
theorem dX12_finds_94 : decode cX12_finds 94 = .ok (.iload_n 1, 1) := by decide +kernel
theorem dX12_finds_95 : decode cX12_finds 95 = .ok (.iload 9, 2) := by decide +kernel
theorem dX12_finds_97 : decode cX12_finds 97 = .ok (.iload 10, 2) := by decide +kernel
theorem dX12_finds_99 : decode cX12_finds 99 = .ok (.i2l, 1) := by decide +kernel
theorem dX12_finds_100 : decode cX12_finds 100 = .ok (.invokevirtual 234, 3) := by decide +kernel
theorem dX12_finds_103 : decode cX12_finds 103 = .ok (.lsub, 1) := by decide +kernel
theorem dX12_finds_104 : decode cX12_finds 104 = .ok (.invokevirtual 262, 3) := by decide +kernel
theorem dX12_finds_107 : decode cX12_finds 107 = .ok (.lsub, 1) := by decide +kernel
theorem dX12_finds_108 : decode cX12_finds 108 = .ok (.lstore 5, 2) := by decide +kernel
theorem dX12_finds_110 : decode cX12_finds 110 = .ok (.iinc 10 1, 3) := by decide +kernel
theorem dX12_finds_113 : decode cX12_finds 113 = .ok (.goto (-56), 3) := by decide +kernel
theorem dX12_finds_116 : decode cX12_finds 116 = .ok (.aload_n 0, 1) := by decide +kernel
theorem dX12_finds_117 : decode cX12_finds 117 = .ok (.getfield 57, 3) := by decide +kernel
theorem dX12_finds_120 : decode cX12_finds 120 = .ok (.iload 9, 2) := by decide +kernel
theorem dX12_finds_122 : decode cX12_finds 122 = .ok (.iload 10, 2) := by decide +kernel
theorem dX12_finds_124 : decode cX12_finds 124 = .ok (.iastore, 1) := by decide +kernel
theorem dX12_finds_125 : decode cX12_finds 125 = .ok (.lload 7, 2) := by decide +kernel
theorem dX12_finds_127 : decode cX12_finds 127 = .ok (.aload_n 0, 1) := by decide +kernel
theorem dX12_finds_128 : decode cX12_finds 128 = .ok (.iload_n 1, 1) := by decide +kernel
theorem dX12_finds_129 : decode cX12_finds 129 = .ok (.iload 9, 2) := by decide +kernel
theorem dX12_finds_131 : decode cX12_finds 131 = .ok (.iload 10, 2) := by decide +kernel
theorem dX12_finds_133 : decode cX12_finds 133 = .ok (.i2l, 1) := by decide +kernel
theorem dX12_finds_134 : decode cX12_finds 134 = .ok (.invokevirtual 234, 3) := by decide +kernel
theorem dX12_finds_137 : decode cX12_finds 137 = .ok (.lsub, 1) := by decide +kernel
theorem dX12_finds_138 : decode cX12_finds 138 = .ok (.lstore 7, 2) := by decide +kernel
theorem dX12_finds_140 : decode cX12_finds 140 = .ok (.iinc 9 1, 3) := by decide +kernel
theorem dX12_finds_143 : decode cX12_finds 143 = .ok (.goto (-107), 3) := by decide +kernel
theorem dX12_finds_146 : decode cX12_finds 146 = .ok (.iconst 1, 1) := by decide +kernel
theorem dX12_finds_147 : decode cX12_finds 147 = .ok (.ireturn, 1) := by decide +kernel
theorem dX12_way_0 : decode cX12_way 0 = .ok (.aload_n 0, 1) := by decide +kernel
theorem dX12_way_1 : decode cX12_way 1 = .ok (.iload_n 1, 1) := by decide +kernel
theorem dX12_way_2 : decode cX12_way 2 = .ok (.invokevirtual 274, 3) := by decide +kernel
theorem dX12_way_5 : decode cX12_way 5 = .ok (.ifCond .eq 40, 3) := by decide +kernel
theorem dX12_way_8 : decode cX12_way 8 = .ok (.iload_n 2, 1) := by decide +kernel
theorem dX12_way_9 : decode cX12_way 9 = .ok (.invokestatic 277, 3) := by decide +kernel
theorem dX12_way_12 : decode cX12_way 12 = .ok (.ifCond .eq 33, 3) := by decide +kernel
theorem dX12_way_15 : decode cX12_way 15 = .ok (.aload_n 0, 1) := by decide +kernel
theorem dX12_way_16 : decode cX12_way 16 = .ok (.iload_n 1, 1) := by decide +kernel
theorem dX12_way_17 : decode cX12_way 17 = .ok (.iload 5, 2) := by decide +kernel
theorem dX12_way_19 : decode cX12_way 19 = .ok (.invokevirtual 313, 3) := by decide +kernel
theorem dX12_way_22 : decode cX12_way 22 = .ok (.ifCond .eq 23, 3) := by decide +kernel
theorem dX12_way_25 : decode cX12_way 25 = .ok (.aload_n 0, 1) := by decide +kernel
theorem dX12_way_26 : decode cX12_way 26 = .ok (.iload_n 1, 1) := by decide +kernel
theorem dX12_way_27 : decode cX12_way 27 = .ok (.iload_n 2, 1) := by decide +kernel
theorem dX12_way_28 : decode cX12_way 28 = .ok (.lload_n 3, 1) := by decide +kernel
theorem dX12_way_29 : decode cX12_way 29 = .ok (.invokevirtual 317, 3) := by decide +kernel
theorem dX12_way_32 : decode cX12_way 32 = .ok (.ifCond .eq 13, 3) := by decide +kernel
theorem dX12_way_35 : decode cX12_way 35 = .ok (.aload_n 0, 1) := by decide +kernel
theorem dX12_way_36 : decode cX12_way 36 = .ok (.getfield 57, 3) := by decide +kernel
theorem dX12_way_39 : decode cX12_way 39 = .ok (.iload 5, 2) := by decide +kernel
theorem dX12_way_41 : decode cX12_way 41 = .ok (.iaload, 1) := by decide +kernel
theorem dX12_way_42 : decode cX12_way 42 = .ok (.goto 6, 3) := by decide +kernel
theorem dX12_way_45 : decode cX12_way 45 = .ok (.ldc_w 321, 3) := by decide +kernel
theorem dX12_way_48 : decode cX12_way 48 = .ok (.ireturn, 1) := by decide +kernel
theorem dX12_number_0 : decode cX12_number 0 = .ok (.aload_n 0, 1) := by decide +kernel
theorem dX12_number_1 : decode cX12_number 1 = .ok (.iload_n 1, 1) := by decide +kernel
theorem dX12_number_2 : decode cX12_number 2 = .ok (.invokevirtual 274, 3) := by decide +kernel
theorem dX12_number_5 : decode cX12_number 5 = .ok (.ifCond .eq 10, 3) := by decide +kernel
theorem dX12_number_8 : decode cX12_number 8 = .ok (.iload_n 2, 1) := by decide +kernel
theorem dX12_number_9 : decode cX12_number 9 = .ok (.invokestatic 277, 3) := by decide +kernel
theorem dX12_number_12 : decode cX12_number 12 = .ok (.ifCond .ne 7, 3) := by decide +kernel
theorem dX12_number_15 : decode cX12_number 15 = .ok (.ldc2_w 280, 3) := by decide +kernel
theorem dX12_number_18 : decode cX12_number 18 = .ok (.lreturn, 1) := by decide +kernel
theorem dX12_number_19 : decode cX12_number 19 = .ok (.aload_n 0, 1) := by decide +kernel
theorem dX12_number_20 : decode cX12_number 20 = .ok (.getfield 57, 3) := by decide +kernel
theorem dX12_number_23 : decode cX12_number 23 = .ok (.iconst 0, 1) := by decide +kernel
theorem dX12_number_24 : decode cX12_number 24 = .ok (.iload_n 3, 1) := by decide +kernel
theorem dX12_number_25 : decode cX12_number 25 = .ok (.iastore, 1) := by decide +kernel
theorem dX12_number_26 : decode cX12_number 26 = .ok (.aload_n 0, 1) := by decide +kernel
theorem dX12_number_27 : decode cX12_number 27 = .ok (.getfield 57, 3) := by decide +kernel
theorem dX12_number_30 : decode cX12_number 30 = .ok (.iconst 1, 1) := by decide +kernel
theorem dX12_number_31 : decode cX12_number 31 = .ok (.iload 4, 2) := by decide +kernel
theorem dX12_number_33 : decode cX12_number 33 = .ok (.iastore, 1) := by decide +kernel
theorem dX12_number_34 : decode cX12_number 34 = .ok (.aload_n 0, 1) := by decide +kernel
theorem dX12_number_35 : decode cX12_number 35 = .ok (.getfield 57, 3) := by decide +kernel
theorem dX12_number_38 : decode cX12_number 38 = .ok (.iconst 2, 1) := by decide +kernel
theorem dX12_number_39 : decode cX12_number 39 = .ok (.iload 5, 2) := by decide +kernel
theorem dX12_number_41 : decode cX12_number 41 = .ok (.iastore, 1) := by decide +kernel
theorem dX12_number_42 : decode cX12_number 42 = .ok (.aload_n 0, 1) := by decide +kernel
theorem dX12_number_43 : decode cX12_number 43 = .ok (.getfield 57, 3) := by decide +kernel
theorem dX12_number_46 : decode cX12_number 46 = .ok (.iconst 3, 1) := by decide +kernel
theorem dX12_number_47 : decode cX12_number 47 = .ok (.iload 6, 2) := by decide +kernel
theorem dX12_number_49 : decode cX12_number 49 = .ok (.iastore, 1) := by decide +kernel
theorem dX12_number_50 : decode cX12_number 50 = .ok (.aload_n 0, 1) := by decide +kernel
theorem dX12_number_51 : decode cX12_number 51 = .ok (.getfield 57, 3) := by decide +kernel
theorem dX12_number_54 : decode cX12_number 54 = .ok (.iconst 4, 1) := by decide +kernel
theorem dX12_number_55 : decode cX12_number 55 = .ok (.iload 7, 2) := by decide +kernel
theorem dX12_number_57 : decode cX12_number 57 = .ok (.iastore, 1) := by decide +kernel
theorem dX12_number_58 : decode cX12_number 58 = .ok (.aload_n 0, 1) := by decide +kernel
theorem dX12_number_59 : decode cX12_number 59 = .ok (.iload_n 1, 1) := by decide +kernel
theorem dX12_number_60 : decode cX12_number 60 = .ok (.invokevirtual 282, 3) := by decide +kernel
theorem dX12_number_63 : decode cX12_number 63 = .ok (.lconst 0, 1) := by decide +kernel
theorem dX12_number_64 : decode cX12_number 64 = .ok (.lstore 8, 2) := by decide +kernel
theorem dX12_number_66 : decode cX12_number 66 = .ok (.iload_n 2, 1) := by decide +kernel
theorem dX12_number_67 : decode cX12_number 67 = .ok (.sipush 15000, 3) := by decide +kernel
theorem dX12_number_70 : decode cX12_number 70 = .ok (.iadd, 1) := by decide +kernel
theorem dX12_number_71 : decode cX12_number 71 = .ok (.i2l, 1) := by decide +kernel
theorem dX12_number_72 : decode cX12_number 72 = .ok (.lstore 10, 2) := by decide +kernel
theorem dX12_number_74 : decode cX12_number 74 = .ok (.iconst 0, 1) := by decide +kernel
theorem dX12_number_75 : decode cX12_number 75 = .ok (.istore 12, 2) := by decide +kernel
theorem dX12_number_77 : decode cX12_number 77 = .ok (.iload 12, 2) := by decide +kernel
theorem dX12_number_79 : decode cX12_number 79 = .ok (.aload_n 0, 1) := by decide +kernel
theorem dX12_number_80 : decode cX12_number 80 = .ok (.getfield 9, 3) := by decide +kernel
theorem dX12_number_83 : decode cX12_number 83 = .ok (.iload_n 1, 1) := by decide +kernel
theorem dX12_number_84 : decode cX12_number 84 = .ok (.iaload, 1) := by decide +kernel
theorem dX12_number_85 : decode cX12_number 85 = .ok (.if_icmp .ge 119, 3) := by decide +kernel
theorem dX12_number_88 : decode cX12_number 88 = .ok (.aload_n 0, 1) := by decide +kernel
theorem dX12_number_89 : decode cX12_number 89 = .ok (.getfield 57, 3) := by decide +kernel
theorem dX12_number_92 : decode cX12_number 92 = .ok (.iload 12, 2) := by decide +kernel
theorem dX12_number_94 : decode cX12_number 94 = .ok (.iaload, 1) := by decide +kernel
theorem dX12_number_95 : decode cX12_number 95 = .ok (.i2l, 1) := by decide +kernel
theorem dX12_number_96 : decode cX12_number 96 = .ok (.aload_n 0, 1) := by decide +kernel
theorem dX12_number_97 : decode cX12_number 97 = .ok (.iload_n 1, 1) := by decide +kernel
theorem dX12_number_98 : decode cX12_number 98 = .ok (.iload 12, 2) := by decide +kernel
theorem dX12_number_100 : decode cX12_number 100 = .ok (.iconst 2, 1) := by decide +kernel
theorem dX12_number_101 : decode cX12_number 101 = .ok (.invokevirtual 93, 3) := by decide +kernel
theorem dX12_number_104 : decode cX12_number 104 = .ok (.i2l, 1) := by decide +kernel
theorem dX12_number_105 : decode cX12_number 105 = .ok (.aload_n 0, 1) := by decide +kernel
theorem dX12_number_106 : decode cX12_number 106 = .ok (.iload_n 1, 1) := by decide +kernel
theorem dX12_number_107 : decode cX12_number 107 = .ok (.iload 12, 2) := by decide +kernel
theorem dX12_number_109 : decode cX12_number 109 = .ok (.iconst 3, 1) := by decide +kernel
theorem dX12_number_110 : decode cX12_number 110 = .ok (.invokevirtual 93, 3) := by decide +kernel
theorem dX12_number_113 : decode cX12_number 113 = .ok (.i2l, 1) := by decide +kernel
theorem dX12_number_114 : decode cX12_number 114 = .ok (.invokestatic 105, 3) := by decide +kernel
theorem dX12_number_117 : decode cX12_number 117 = .ok (.ifCond .ne 7, 3) := by decide +kernel
theorem dX12_number_120 : decode cX12_number 120 = .ok (.ldc2_w 280, 3) := by decide +kernel
theorem dX12_number_123 : decode cX12_number 123 = .ok (.lreturn, 1) := by decide +kernel
theorem dX12_number_124 : decode cX12_number 124 = .ok (.aload_n 0, 1) := by decide +kernel
theorem dX12_number_125 : decode cX12_number 125 = .ok (.iload_n 1, 1) := by decide +kernel
theorem dX12_number_126 : decode cX12_number 126 = .ok (.iload 12, 2) := by decide +kernel
theorem dX12_number_128 : decode cX12_number 128 = .ok (.iconst 2, 1) := by decide +kernel
theorem dX12_number_129 : decode cX12_number 129 = .ok (.invokevirtual 93, 3) := by decide +kernel
theorem dX12_number_132 : decode cX12_number 132 = .ok (.istore 13, 2) := by decide +kernel
theorem dX12_number_134 : decode cX12_number 134 = .ok (.iload 13, 2) := by decide +kernel
theorem dX12_number_136 : decode cX12_number 136 = .ok (.aload_n 0, 1) := by decide +kernel
theorem dX12_number_137 : decode cX12_number 137 = .ok (.getfield 57, 3) := by decide +kernel
theorem dX12_number_140 : decode cX12_number 140 = .ok (.iload 12, 2) := by decide +kernel
theorem dX12_number_142 : decode cX12_number 142 = .ok (.iaload, 1) := by decide +kernel
theorem dX12_number_143 : decode cX12_number 143 = .ok (.if_icmp .ge 35, 3) := by decide +kernel
theorem dX12_number_146 : decode cX12_number 146 = .ok (.lload 8, 2) := by decide +kernel
theorem dX12_number_148 : decode cX12_number 148 = .ok (.aload_n 0, 1) := by decide +kernel
theorem dX12_number_149 : decode cX12_number 149 = .ok (.iload 12, 2) := by decide +kernel
theorem dX12_number_151 : decode cX12_number 151 = .ok (.iconst 1, 1) := by decide +kernel
theorem dX12_number_152 : decode cX12_number 152 = .ok (.iadd, 1) := by decide +kernel
theorem dX12_number_153 : decode cX12_number 153 = .ok (.lload 10, 2) := by decide +kernel
theorem dX12_number_155 : decode cX12_number 155 = .ok (.aload_n 0, 1) := by decide +kernel
theorem dX12_number_156 : decode cX12_number 156 = .ok (.iload_n 1, 1) := by decide +kernel
theorem dX12_number_157 : decode cX12_number 157 = .ok (.iload 12, 2) := by decide +kernel
theorem dX12_number_159 : decode cX12_number 159 = .ok (.iload 13, 2) := by decide +kernel
theorem dX12_number_161 : decode cX12_number 161 = .ok (.i2l, 1) := by decide +kernel
theorem dX12_number_162 : decode cX12_number 162 = .ok (.invokevirtual 234, 3) := by decide +kernel
theorem dX12_number_165 : decode cX12_number 165 = .ok (.lsub, 1) := by decide +kernel
theorem dX12_number_166 : decode cX12_number 166 = .ok (.invokevirtual 262, 3) := by decide +kernel
theorem dX12_number_169 : decode cX12_number 169 = .ok (.ladd, 1) := by decide +kernel
theorem dX12_number_170 : decode cX12_number 170 = .ok (.lstore 8, 2) := by decide +kernel
theorem dX12_number_172 : decode cX12_number 172 = .ok (.iinc 13 1, 3) := by decide +kernel
theorem dX12_number_175 : decode cX12_number 175 = .ok (.goto (-41), 3) := by decide +kernel
theorem dX12_number_178 : decode cX12_number 178 = .ok (.lload 10, 2) := by decide +kernel
theorem dX12_number_180 : decode cX12_number 180 = .ok (.aload_n 0, 1) := by decide +kernel
theorem dX12_number_181 : decode cX12_number 181 = .ok (.iload_n 1, 1) := by decide +kernel
theorem dX12_number_182 : decode cX12_number 182 = .ok (.iload 12, 2) := by decide +kernel
theorem dX12_number_184 : decode cX12_number 184 = .ok (.aload_n 0, 1) := by decide +kernel
theorem dX12_number_185 : decode cX12_number 185 = .ok (.getfield 57, 3) := by decide +kernel
theorem dX12_number_188 : decode cX12_number 188 = .ok (.iload 12, 2) := by decide +kernel
theorem dX12_number_190 : decode cX12_number 190 = .ok (.iaload, 1) := by decide +kernel
theorem dX12_number_191 : decode cX12_number 191 = .ok (.i2l, 1) := by decide +kernel
theorem dX12_number_192 : decode cX12_number 192 = .ok (.invokevirtual 234, 3) := by decide +kernel
theorem dX12_number_195 : decode cX12_number 195 = .ok (.lsub, 1) := by decide +kernel
theorem dX12_number_196 : decode cX12_number 196 = .ok (.lstore 10, 2) := by decide +kernel
theorem dX12_number_198 : decode cX12_number 198 = .ok (.iinc 12 1, 3) := by decide +kernel
theorem dX12_number_201 : decode cX12_number 201 = .ok (.goto (-124), 3) := by decide +kernel
theorem dX12_number_204 : decode cX12_number 204 = .ok (.lload 10, 2) := by decide +kernel
theorem dX12_number_206 : decode cX12_number 206 = .ok (.ldc2_w 322, 3) := by decide +kernel
theorem dX12_number_209 : decode cX12_number 209 = .ok (.lcmp, 1) := by decide +kernel
theorem dX12_number_210 : decode cX12_number 210 = .ok (.ifCond .ne 8, 3) := by decide +kernel
theorem dX12_number_213 : decode cX12_number 213 = .ok (.lload 8, 2) := by decide +kernel
theorem dX12_number_215 : decode cX12_number 215 = .ok (.goto 6, 3) := by decide +kernel
theorem dX12_number_218 : decode cX12_number 218 = .ok (.ldc2_w 280, 3) := by decide +kernel
theorem dX12_number_221 : decode cX12_number 221 = .ok (.lreturn, 1) := by decide +kernel
theorem dX12_isOut_0 : decode cX12_isOut 0 = .ok (.iconst 0, 1) := by decide +kernel
theorem dX12_isOut_1 : decode cX12_isOut 1 = .ok (.istore_n 2, 1) := by decide +kernel
theorem dX12_isOut_2 : decode cX12_isOut 2 = .ok (.iload_n 2, 1) := by decide +kernel
theorem dX12_isOut_3 : decode cX12_isOut 3 = .ok (.aload_n 0, 1) := by decide +kernel
theorem dX12_isOut_4 : decode cX12_isOut 4 = .ok (.getfield 324, 3) := by decide +kernel
theorem dX12_isOut_7 : decode cX12_isOut 7 = .ok (.if_icmp .ge 21, 3) := by decide +kernel
theorem dX12_isOut_10 : decode cX12_isOut 10 = .ok (.aload_n 0, 1) := by decide +kernel
theorem dX12_isOut_11 : decode cX12_isOut 11 = .ok (.getfield 60, 3) := by decide +kernel
theorem dX12_isOut_14 : decode cX12_isOut 14 = .ok (.iload_n 2, 1) := by decide +kernel
theorem dX12_isOut_15 : decode cX12_isOut 15 = .ok (.iaload, 1) := by decide +kernel
theorem dX12_isOut_16 : decode cX12_isOut 16 = .ok (.iload_n 1, 1) := by decide +kernel
theorem dX12_isOut_17 : decode cX12_isOut 17 = .ok (.if_icmp .ne 5, 3) := by decide +kernel
theorem dX12_isOut_20 : decode cX12_isOut 20 = .ok (.iconst 1, 1) := by decide +kernel
theorem dX12_isOut_21 : decode cX12_isOut 21 = .ok (.ireturn, 1) := by decide +kernel
theorem dX12_isOut_22 : decode cX12_isOut 22 = .ok (.iinc 2 1, 3) := by decide +kernel
theorem dX12_isOut_25 : decode cX12_isOut 25 = .ok (.goto (-23), 3) := by decide +kernel
theorem dX12_isOut_28 : decode cX12_isOut 28 = .ok (.iload_n 1, 1) := by decide +kernel
theorem dX12_isOut_29 : decode cX12_isOut 29 = .ok (.invokestatic 277, 3) := by decide +kernel
theorem dX12_isOut_32 : decode cX12_isOut 32 = .ok (.ifCond .ne 7, 3) := by decide +kernel
theorem dX12_isOut_35 : decode cX12_isOut 35 = .ok (.iconst 1, 1) := by decide +kernel
theorem dX12_isOut_36 : decode cX12_isOut 36 = .ok (.goto 4, 3) := by decide +kernel
theorem dX12_isOut_39 : decode cX12_isOut 39 = .ok (.iconst 0, 1) := by decide +kernel
theorem dX12_isOut_40 : decode cX12_isOut 40 = .ok (.ireturn, 1) := by decide +kernel
theorem dX12_readLine_0 : decode cX12_readLine 0 = .ok (.aload_n 0, 1) := by decide +kernel
theorem dX12_readLine_1 : decode cX12_readLine 1 = .ok (.invokevirtual 214, 3) := by decide +kernel
theorem dX12_readLine_4 : decode cX12_readLine 4 = .ok (.ifCond .ne 12, 3) := by decide +kernel
theorem dX12_readLine_7 : decode cX12_readLine 7 = .ok (.aload_n 0, 1) := by decide +kernel
theorem dX12_readLine_8 : decode cX12_readLine 8 = .ok (.bipush 45, 2) := by decide +kernel
theorem dX12_readLine_10 : decode cX12_readLine 10 = .ok (.invokevirtual 184, 3) := by decide +kernel
theorem dX12_readLine_13 : decode cX12_readLine 13 = .ok (.ifCond .eq 7, 3) := by decide +kernel
theorem dX12_readLine_16 : decode cX12_readLine 16 = .ok (.iconst 1, 1) := by decide +kernel
theorem dX12_readLine_17 : decode cX12_readLine 17 = .ok (.goto 4, 3) := by decide +kernel
theorem dX12_readLine_20 : decode cX12_readLine 20 = .ok (.iconst 0, 1) := by decide +kernel
theorem dX12_readLine_21 : decode cX12_readLine 21 = .ok (.istore_n 2, 1) := by decide +kernel
theorem dX12_readLine_22 : decode cX12_readLine 22 = .ok (.iload_n 2, 1) := by decide +kernel
theorem dX12_readLine_23 : decode cX12_readLine 23 = .ok (.ifCond .ne 9, 3) := by decide +kernel
theorem dX12_readLine_26 : decode cX12_readLine 26 = .ok (.aload_n 0, 1) := by decide +kernel
theorem dX12_readLine_27 : decode cX12_readLine 27 = .ok (.iconst 1, 1) := by decide +kernel
theorem dX12_readLine_28 : decode cX12_readLine 28 = .ok (.invokevirtual 187, 3) := by decide +kernel
theorem dX12_readLine_31 : decode cX12_readLine 31 = .ok (.ireturn, 1) := by decide +kernel
theorem dX12_readLine_32 : decode cX12_readLine 32 = .ok (.aload_n 0, 1) := by decide +kernel
theorem dX12_readLine_33 : decode cX12_readLine 33 = .ok (.getfield 324, 3) := by decide +kernel
theorem dX12_readLine_36 : decode cX12_readLine 36 = .ok (.bipush 60, 2) := by decide +kernel
theorem dX12_readLine_38 : decode cX12_readLine 38 = .ok (.if_icmp .ne 32, 3) := by decide +kernel
theorem dX12_readLine_41 : decode cX12_readLine 41 = .ok (.aload_n 0, 1) := by decide +kernel
theorem dX12_readLine_42 : decode cX12_readLine 42 = .ok (.aload_n 0, 1) := by decide +kernel
theorem dX12_readLine_43 : decode cX12_readLine 43 = .ok (.invokevirtual 214, 3) := by decide +kernel
theorem dX12_readLine_46 : decode cX12_readLine 46 = .ok (.ifCond .eq 18, 3) := by decide +kernel
theorem dX12_readLine_49 : decode cX12_readLine 49 = .ok (.aload_n 0, 1) := by decide +kernel
theorem dX12_readLine_50 : decode cX12_readLine 50 = .ok (.aload_n 0, 1) := by decide +kernel
theorem dX12_readLine_51 : decode cX12_readLine 51 = .ok (.getfield 136, 3) := by decide +kernel
theorem dX12_readLine_54 : decode cX12_readLine 54 = .ok (.invokevirtual 327, 3) := by decide +kernel
theorem dX12_readLine_57 : decode cX12_readLine 57 = .ok (.ifCond .eq 7, 3) := by decide +kernel
theorem dX12_readLine_60 : decode cX12_readLine 60 = .ok (.iconst 5, 1) := by decide +kernel
theorem dX12_readLine_61 : decode cX12_readLine 61 = .ok (.goto 5, 3) := by decide +kernel
theorem dX12_readLine_64 : decode cX12_readLine 64 = .ok (.bipush 9, 2) := by decide +kernel
theorem dX12_readLine_66 : decode cX12_readLine 66 = .ok (.invokevirtual 187, 3) := by decide +kernel
theorem dX12_readLine_69 : decode cX12_readLine 69 = .ok (.ireturn, 1) := by decide +kernel
theorem dX12_readLine_70 : decode cX12_readLine 70 = .ok (.aload_n 0, 1) := by decide +kernel
theorem dX12_readLine_71 : decode cX12_readLine 71 = .ok (.invokevirtual 228, 3) := by decide +kernel
theorem dX12_readLine_74 : decode cX12_readLine 74 = .ok (.ifCond .ne 5, 3) := by decide +kernel
theorem dX12_readLine_77 : decode cX12_readLine 77 = .ok (.iconst 0, 1) := by decide +kernel
theorem dX12_readLine_78 : decode cX12_readLine 78 = .ok (.ireturn, 1) := by decide +kernel
theorem dX12_readLine_79 : decode cX12_readLine 79 = .ok (.aload_n 0, 1) := by decide +kernel
theorem dX12_readLine_80 : decode cX12_readLine 80 = .ok (.invokevirtual 231, 3) := by decide +kernel
theorem dX12_readLine_83 : decode cX12_readLine 83 = .ok (.istore_n 3, 1) := by decide +kernel
theorem dX12_readLine_84 : decode cX12_readLine 84 = .ok (.aload_n 0, 1) := by decide +kernel
theorem dX12_readLine_85 : decode cX12_readLine 85 = .ok (.iload_n 3, 1) := by decide +kernel
theorem dX12_readLine_86 : decode cX12_readLine 86 = .ok (.invokevirtual 327, 3) := by decide +kernel
theorem dX12_readLine_89 : decode cX12_readLine 89 = .ok (.ifCond .eq 9, 3) := by decide +kernel
theorem dX12_readLine_92 : decode cX12_readLine 92 = .ok (.aload_n 0, 1) := by decide +kernel
theorem dX12_readLine_93 : decode cX12_readLine 93 = .ok (.iconst 5, 1) := by decide +kernel
theorem dX12_readLine_94 : decode cX12_readLine 94 = .ok (.invokevirtual 187, 3) := by decide +kernel
theorem dX12_readLine_97 : decode cX12_readLine 97 = .ok (.ireturn, 1) := by decide +kernel
theorem dX12_readLine_98 : decode cX12_readLine 98 = .ok (.aload_n 0, 1) := by decide +kernel
theorem dX12_readLine_99 : decode cX12_readLine 99 = .ok (.invokevirtual 190, 3) := by decide +kernel
theorem dX12_readLine_102 : decode cX12_readLine 102 = .ok (.aload_n 0, 1) := by decide +kernel
theorem dX12_readLine_103 : decode cX12_readLine 103 = .ok (.ldc_w 330, 3) := by decide +kernel
theorem dX12_readLine_106 : decode cX12_readLine 106 = .ok (.invokevirtual 198, 3) := by decide +kernel
theorem dX12_readLine_109 : decode cX12_readLine 109 = .ok (.ifCond .eq 32, 3) := by decide +kernel
theorem dX12_readLine_112 : decode cX12_readLine 112 = .ok (.aload_n 0, 1) := by decide +kernel
theorem dX12_readLine_113 : decode cX12_readLine 113 = .ok (.iload_n 1, 1) := by decide +kernel
theorem dX12_readLine_114 : decode cX12_readLine 114 = .ok (.invokevirtual 282, 3) := by decide +kernel
theorem dX12_readLine_117 : decode cX12_readLine 117 = .ok (.aload_n 0, 1) := by decide +kernel
theorem dX12_readLine_118 : decode cX12_readLine 118 = .ok (.iload_n 3, 1) := by decide +kernel
theorem dX12_readLine_119 : decode cX12_readLine 119 = .ok (.invokevirtual 285, 3) := by decide +kernel
theorem dX12_readLine_122 : decode cX12_readLine 122 = .ok (.lconst 0, 1) := by decide +kernel
theorem dX12_readLine_123 : decode cX12_readLine 123 = .ok (.lcmp, 1) := by decide +kernel
theorem dX12_readLine_124 : decode cX12_readLine 124 = .ok (.ifCond .le 10, 3) := by decide +kernel
theorem dX12_readLine_127 : decode cX12_readLine 127 = .ok (.aload_n 0, 1) := by decide +kernel
theorem dX12_readLine_128 : decode cX12_readLine 128 = .ok (.bipush 8, 2) := by decide +kernel
theorem dX12_readLine_130 : decode cX12_readLine 130 = .ok (.invokevirtual 187, 3) := by decide +kernel
theorem dX12_readLine_133 : decode cX12_readLine 133 = .ok (.ireturn, 1) := by decide +kernel
theorem dX12_readLine_134 : decode cX12_readLine 134 = .ok (.aload_n 0, 1) := by decide +kernel
theorem dX12_readLine_135 : decode cX12_readLine 135 = .ok (.invokevirtual 190, 3) := by decide +kernel
theorem dX12_readLine_138 : decode cX12_readLine 138 = .ok (.goto 14, 3) := by decide +kernel
theorem dX12_readLine_141 : decode cX12_readLine 141 = .ok (.aload_n 0, 1) := by decide +kernel
theorem dX12_readLine_142 : decode cX12_readLine 142 = .ok (.iload_n 1, 1) := by decide +kernel
theorem dX12_readLine_143 : decode cX12_readLine 143 = .ok (.iload_n 3, 1) := by decide +kernel
theorem dX12_readLine_144 : decode cX12_readLine 144 = .ok (.invokevirtual 332, 3) := by decide +kernel
theorem dX12_readLine_147 : decode cX12_readLine 147 = .ok (.ifCond .ne 5, 3) := by decide +kernel
theorem dX12_readLine_150 : decode cX12_readLine 150 = .ok (.iconst 0, 1) := by decide +kernel
theorem dX12_readLine_151 : decode cX12_readLine 151 = .ok (.ireturn, 1) := by decide +kernel
theorem dX12_readLine_152 : decode cX12_readLine 152 = .ok (.aload_n 0, 1) := by decide +kernel
theorem dX12_readLine_153 : decode cX12_readLine 153 = .ok (.bipush 59, 2) := by decide +kernel
theorem dX12_readLine_155 : decode cX12_readLine 155 = .ok (.invokevirtual 253, 3) := by decide +kernel
theorem dX12_readLine_158 : decode cX12_readLine 158 = .ok (.ifCond .ne 5, 3) := by decide +kernel
theorem dX12_readLine_161 : decode cX12_readLine 161 = .ok (.iconst 0, 1) := by decide +kernel
theorem dX12_readLine_162 : decode cX12_readLine 162 = .ok (.ireturn, 1) := by decide +kernel
theorem dX12_readLine_163 : decode cX12_readLine 163 = .ok (.aload_n 0, 1) := by decide +kernel
theorem dX12_readLine_164 : decode cX12_readLine 164 = .ok (.getfield 60, 3) := by decide +kernel
theorem dX12_readLine_167 : decode cX12_readLine 167 = .ok (.aload_n 0, 1) := by decide +kernel
theorem dX12_readLine_168 : decode cX12_readLine 168 = .ok (.getfield 324, 3) := by decide +kernel
theorem dX12_readLine_171 : decode cX12_readLine 171 = .ok (.iload_n 3, 1) := by decide +kernel
theorem dX12_readLine_172 : decode cX12_readLine 172 = .ok (.iastore, 1) := by decide +kernel
theorem dX12_readLine_173 : decode cX12_readLine 173 = .ok (.aload_n 0, 1) := by decide +kernel
theorem dX12_readLine_174 : decode cX12_readLine 174 = .ok (.dup, 1) := by decide +kernel
theorem dX12_readLine_175 : decode cX12_readLine 175 = .ok (.getfield 324, 3) := by decide +kernel
theorem dX12_readLine_178 : decode cX12_readLine 178 = .ok (.iconst 1, 1) := by decide +kernel
theorem dX12_readLine_179 : decode cX12_readLine 179 = .ok (.iadd, 1) := by decide +kernel
theorem dX12_readLine_180 : decode cX12_readLine 180 = .ok (.putfield 324, 3) := by decide +kernel
theorem dX12_readLine_183 : decode cX12_readLine 183 = .ok (.iconst 1, 1) := by decide +kernel
theorem dX12_readLine_184 : decode cX12_readLine 184 = .ok (.ireturn, 1) := by decide +kernel
theorem dX12_readWay_0 : decode cX12_readWay 0 = .ok (.aload_n 0, 1) := by decide +kernel
theorem dX12_readWay_1 : decode cX12_readWay 1 = .ok (.bipush 61, 2) := by decide +kernel
theorem dX12_readWay_3 : decode cX12_readWay 3 = .ok (.invokevirtual 253, 3) := by decide +kernel
theorem dX12_readWay_6 : decode cX12_readWay 6 = .ok (.ifCond .ne 5, 3) := by decide +kernel
theorem dX12_readWay_9 : decode cX12_readWay 9 = .ok (.iconst 0, 1) := by decide +kernel
theorem dX12_readWay_10 : decode cX12_readWay 10 = .ok (.ireturn, 1) := by decide +kernel
theorem dX12_readWay_11 : decode cX12_readWay 11 = .ok (.lconst 0, 1) := by decide +kernel
theorem dX12_readWay_12 : decode cX12_readWay 12 = .ok (.lstore_n 3, 1) := by decide +kernel
theorem dX12_readWay_13 : decode cX12_readWay 13 = .ok (.iconst 0, 1) := by decide +kernel
theorem dX12_readWay_14 : decode cX12_readWay 14 = .ok (.istore 5, 2) := by decide +kernel
theorem dX12_readWay_16 : decode cX12_readWay 16 = .ok (.iconst 1, 1) := by decide +kernel
theorem dX12_readWay_17 : decode cX12_readWay 17 = .ok (.istore 6, 2) := by decide +kernel
theorem dX12_readWay_19 : decode cX12_readWay 19 = .ok (.iload 6, 2) := by decide +kernel
theorem dX12_readWay_21 : decode cX12_readWay 21 = .ok (.ifCond .eq 153, 3) := by decide +kernel
theorem dX12_readWay_24 : decode cX12_readWay 24 = .ok (.aload_n 0, 1) := by decide +kernel
theorem dX12_readWay_25 : decode cX12_readWay 25 = .ok (.iload 5, 2) := by decide +kernel
theorem dX12_readWay_27 : decode cX12_readWay 27 = .ok (.putfield 165, 3) := by decide +kernel
theorem dX12_readWay_30 : decode cX12_readWay 30 = .ok (.aload_n 0, 1) := by decide +kernel
theorem dX12_readWay_31 : decode cX12_readWay 31 = .ok (.invokevirtual 214, 3) := by decide +kernel
theorem dX12_readWay_34 : decode cX12_readWay 34 = .ok (.ifCond .ne 12, 3) := by decide +kernel
theorem dX12_readWay_37 : decode cX12_readWay 37 = .ok (.aload_n 0, 1) := by decide +kernel
theorem dX12_readWay_38 : decode cX12_readWay 38 = .ok (.bipush 45, 2) := by decide +kernel
theorem dX12_readWay_40 : decode cX12_readWay 40 = .ok (.invokevirtual 184, 3) := by decide +kernel
theorem dX12_readWay_43 : decode cX12_readWay 43 = .ok (.ifCond .eq 7, 3) := by decide +kernel
theorem dX12_readWay_46 : decode cX12_readWay 46 = .ok (.iconst 1, 1) := by decide +kernel
theorem dX12_readWay_47 : decode cX12_readWay 47 = .ok (.goto 4, 3) := by decide +kernel
theorem dX12_readWay_50 : decode cX12_readWay 50 = .ok (.iconst 0, 1) := by decide +kernel
theorem dX12_readWay_51 : decode cX12_readWay 51 = .ok (.istore 7, 2) := by decide +kernel
theorem dX12_readWay_53 : decode cX12_readWay 53 = .ok (.iload 7, 2) := by decide +kernel
theorem dX12_readWay_55 : decode cX12_readWay 55 = .ok (.ifCond .ne 9, 3) := by decide +kernel
theorem dX12_readWay_58 : decode cX12_readWay 58 = .ok (.aload_n 0, 1) := by decide +kernel
theorem dX12_readWay_59 : decode cX12_readWay 59 = .ok (.iconst 1, 1) := by decide +kernel
theorem dX12_readWay_60 : decode cX12_readWay 60 = .ok (.invokevirtual 187, 3) := by decide +kernel
theorem dX12_readWay_63 : decode cX12_readWay 63 = .ok (.ireturn, 1) := by decide +kernel
theorem dX12_readWay_64 : decode cX12_readWay 64 = .ok (.iload 5, 2) := by decide +kernel
theorem dX12_readWay_66 : decode cX12_readWay 66 = .ok (.aload_n 0, 1) := by decide +kernel
theorem dX12_readWay_67 : decode cX12_readWay 67 = .ok (.getfield 9, 3) := by decide +kernel
theorem dX12_readWay_70 : decode cX12_readWay 70 = .ok (.iload_n 1, 1) := by decide +kernel
theorem dX12_readWay_71 : decode cX12_readWay 71 = .ok (.iaload, 1) := by decide +kernel
theorem dX12_readWay_72 : decode cX12_readWay 72 = .ok (.if_icmp .ne 10, 3) := by decide +kernel
theorem dX12_readWay_75 : decode cX12_readWay 75 = .ok (.aload_n 0, 1) := by decide +kernel
theorem dX12_readWay_76 : decode cX12_readWay 76 = .ok (.bipush 7, 2) := by decide +kernel
theorem dX12_readWay_78 : decode cX12_readWay 78 = .ok (.invokevirtual 187, 3) := by decide +kernel
theorem dX12_readWay_81 : decode cX12_readWay 81 = .ok (.ireturn, 1) := by decide +kernel
theorem dX12_readWay_82 : decode cX12_readWay 82 = .ok (.aload_n 0, 1) := by decide +kernel
theorem dX12_readWay_83 : decode cX12_readWay 83 = .ok (.invokevirtual 228, 3) := by decide +kernel
theorem dX12_readWay_86 : decode cX12_readWay 86 = .ok (.ifCond .ne 5, 3) := by decide +kernel
theorem dX12_readWay_89 : decode cX12_readWay 89 = .ok (.iconst 0, 1) := by decide +kernel
theorem dX12_readWay_90 : decode cX12_readWay 90 = .ok (.ireturn, 1) := by decide +kernel
theorem dX12_readWay_91 : decode cX12_readWay 91 = .ok (.aload_n 0, 1) := by decide +kernel
theorem dX12_readWay_92 : decode cX12_readWay 92 = .ok (.invokevirtual 231, 3) := by decide +kernel
theorem dX12_readWay_95 : decode cX12_readWay 95 = .ok (.i2l, 1) := by decide +kernel
theorem dX12_readWay_96 : decode cX12_readWay 96 = .ok (.aload_n 0, 1) := by decide +kernel
theorem dX12_readWay_97 : decode cX12_readWay 97 = .ok (.iload_n 1, 1) := by decide +kernel
theorem dX12_readWay_98 : decode cX12_readWay 98 = .ok (.iload 5, 2) := by decide +kernel
theorem dX12_readWay_100 : decode cX12_readWay 100 = .ok (.iconst 2, 1) := by decide +kernel
theorem dX12_readWay_101 : decode cX12_readWay 101 = .ok (.invokevirtual 93, 3) := by decide +kernel
theorem dX12_readWay_104 : decode cX12_readWay 104 = .ok (.i2l, 1) := by decide +kernel
theorem dX12_readWay_105 : decode cX12_readWay 105 = .ok (.aload_n 0, 1) := by decide +kernel
theorem dX12_readWay_106 : decode cX12_readWay 106 = .ok (.iload_n 1, 1) := by decide +kernel
theorem dX12_readWay_107 : decode cX12_readWay 107 = .ok (.iload 5, 2) := by decide +kernel
theorem dX12_readWay_109 : decode cX12_readWay 109 = .ok (.iconst 3, 1) := by decide +kernel
theorem dX12_readWay_110 : decode cX12_readWay 110 = .ok (.invokevirtual 93, 3) := by decide +kernel
theorem dX12_readWay_113 : decode cX12_readWay 113 = .ok (.i2l, 1) := by decide +kernel
theorem dX12_readWay_114 : decode cX12_readWay 114 = .ok (.invokestatic 105, 3) := by decide +kernel
theorem dX12_readWay_117 : decode cX12_readWay 117 = .ok (.ifCond .ne 10, 3) := by decide +kernel
theorem dX12_readWay_120 : decode cX12_readWay 120 = .ok (.aload_n 0, 1) := by decide +kernel
theorem dX12_readWay_121 : decode cX12_readWay 121 = .ok (.bipush 6, 2) := by decide +kernel
theorem dX12_readWay_123 : decode cX12_readWay 123 = .ok (.invokevirtual 187, 3) := by decide +kernel
theorem dX12_readWay_126 : decode cX12_readWay 126 = .ok (.ireturn, 1) := by decide +kernel
theorem dX12_readWay_127 : decode cX12_readWay 127 = .ok (.lload_n 3, 1) := by decide +kernel
theorem dX12_readWay_128 : decode cX12_readWay 128 = .ok (.aload_n 0, 1) := by decide +kernel
theorem dX12_readWay_129 : decode cX12_readWay 129 = .ok (.iload_n 1, 1) := by decide +kernel
theorem dX12_readWay_130 : decode cX12_readWay 130 = .ok (.iload 5, 2) := by decide +kernel
theorem dX12_readWay_132 : decode cX12_readWay 132 = .ok (.aload_n 0, 1) := by decide +kernel
theorem dX12_readWay_133 : decode cX12_readWay 133 = .ok (.invokevirtual 231, 3) := by decide +kernel
theorem dX12_readWay_136 : decode cX12_readWay 136 = .ok (.i2l, 1) := by decide +kernel
theorem dX12_readWay_137 : decode cX12_readWay 137 = .ok (.invokevirtual 234, 3) := by decide +kernel
theorem dX12_readWay_140 : decode cX12_readWay 140 = .ok (.ladd, 1) := by decide +kernel
theorem dX12_readWay_141 : decode cX12_readWay 141 = .ok (.lstore_n 3, 1) := by decide +kernel
theorem dX12_readWay_142 : decode cX12_readWay 142 = .ok (.aload_n 0, 1) := by decide +kernel
theorem dX12_readWay_143 : decode cX12_readWay 143 = .ok (.invokevirtual 190, 3) := by decide +kernel
theorem dX12_readWay_146 : decode cX12_readWay 146 = .ok (.aload_n 0, 1) := by decide +kernel
theorem dX12_readWay_147 : decode cX12_readWay 147 = .ok (.iconst (-1), 1) := by decide +kernel
theorem dX12_readWay_148 : decode cX12_readWay 148 = .ok (.putfield 165, 3) := by decide +kernel
theorem dX12_readWay_151 : decode cX12_readWay 151 = .ok (.iinc 5 1, 3) := by decide +kernel
theorem dX12_readWay_154 : decode cX12_readWay 154 = .ok (.aload_n 0, 1) := by decide +kernel
theorem dX12_readWay_155 : decode cX12_readWay 155 = .ok (.bipush 44, 2) := by decide +kernel
theorem dX12_readWay_157 : decode cX12_readWay 157 = .ok (.invokevirtual 184, 3) := by decide +kernel
theorem dX12_readWay_160 : decode cX12_readWay 160 = .ok (.istore 6, 2) := by decide +kernel
theorem dX12_readWay_162 : decode cX12_readWay 162 = .ok (.iload 6, 2) := by decide +kernel
theorem dX12_readWay_164 : decode cX12_readWay 164 = .ok (.ifCond .eq 7, 3) := by decide +kernel
theorem dX12_readWay_167 : decode cX12_readWay 167 = .ok (.aload_n 0, 1) := by decide +kernel
theorem dX12_readWay_168 : decode cX12_readWay 168 = .ok (.invokevirtual 190, 3) := by decide +kernel
theorem dX12_readWay_171 : decode cX12_readWay 171 = .ok (.goto (-152), 3) := by decide +kernel
theorem dX12_readWay_174 : decode cX12_readWay 174 = .ok (.aload_n 0, 1) := by decide +kernel
theorem dX12_readWay_175 : decode cX12_readWay 175 = .ok (.bipush 59, 2) := by decide +kernel
theorem dX12_readWay_177 : decode cX12_readWay 177 = .ok (.invokevirtual 184, 3) := by decide +kernel
theorem dX12_readWay_180 : decode cX12_readWay 180 = .ok (.ifCond .eq 21, 3) := by decide +kernel
theorem dX12_readWay_183 : decode cX12_readWay 183 = .ok (.iload 5, 2) := by decide +kernel
theorem dX12_readWay_185 : decode cX12_readWay 185 = .ok (.aload_n 0, 1) := by decide +kernel
theorem dX12_readWay_186 : decode cX12_readWay 186 = .ok (.getfield 9, 3) := by decide +kernel
theorem dX12_readWay_189 : decode cX12_readWay 189 = .ok (.iload_n 1, 1) := by decide +kernel
theorem dX12_readWay_190 : decode cX12_readWay 190 = .ok (.iaload, 1) := by decide +kernel
theorem dX12_readWay_191 : decode cX12_readWay 191 = .ok (.if_icmp .ge 10, 3) := by decide +kernel
theorem dX12_readWay_194 : decode cX12_readWay 194 = .ok (.aload_n 0, 1) := by decide +kernel
theorem dX12_readWay_195 : decode cX12_readWay 195 = .ok (.bipush 7, 2) := by decide +kernel
theorem dX12_readWay_197 : decode cX12_readWay 197 = .ok (.invokevirtual 187, 3) := by decide +kernel
theorem dX12_readWay_200 : decode cX12_readWay 200 = .ok (.ireturn, 1) := by decide +kernel
theorem dX12_readWay_201 : decode cX12_readWay 201 = .ok (.aload_n 0, 1) := by decide +kernel
theorem dX12_readWay_202 : decode cX12_readWay 202 = .ok (.bipush 59, 2) := by decide +kernel
theorem dX12_readWay_204 : decode cX12_readWay 204 = .ok (.invokevirtual 184, 3) := by decide +kernel
theorem dX12_readWay_207 : decode cX12_readWay 207 = .ok (.ifCond .eq 19, 3) := by decide +kernel
theorem dX12_readWay_210 : decode cX12_readWay 210 = .ok (.lload_n 3, 1) := by decide +kernel
theorem dX12_readWay_211 : decode cX12_readWay 211 = .ok (.iload_n 2, 1) := by decide +kernel
theorem dX12_readWay_212 : decode cX12_readWay 212 = .ok (.i2l, 1) := by decide +kernel
theorem dX12_readWay_213 : decode cX12_readWay 213 = .ok (.lcmp, 1) := by decide +kernel
theorem dX12_readWay_214 : decode cX12_readWay 214 = .ok (.ifCond .eq 12, 3) := by decide +kernel
theorem dX12_readWay_217 : decode cX12_readWay 217 = .ok (.aload_n 0, 1) := by decide +kernel
theorem dX12_readWay_218 : decode cX12_readWay 218 = .ok (.bipush 8, 2) := by decide +kernel
theorem dX12_readWay_220 : decode cX12_readWay 220 = .ok (.invokevirtual 187, 3) := by decide +kernel
theorem dX12_readWay_223 : decode cX12_readWay 223 = .ok (.ifCond .eq 7, 3) := by decide +kernel
theorem dX12_readWay_226 : decode cX12_readWay 226 = .ok (.iconst 1, 1) := by decide +kernel
theorem dX12_readWay_227 : decode cX12_readWay 227 = .ok (.goto 4, 3) := by decide +kernel
theorem dX12_readWay_230 : decode cX12_readWay 230 = .ok (.iconst 0, 1) := by decide +kernel
theorem dX12_readWay_231 : decode cX12_readWay 231 = .ok (.ireturn, 1) := by decide +kernel
theorem dX12_prove_0 : decode cX12_prove 0 = .ok (.aload_n 0, 1) := by decide +kernel
theorem dX12_prove_1 : decode cX12_prove 1 = .ok (.invokevirtual 247, 3) := by decide +kernel
theorem dX12_prove_4 : decode cX12_prove 4 = .ok (.aload_n 0, 1) := by decide +kernel
theorem dX12_prove_5 : decode cX12_prove 5 = .ok (.iconst 0, 1) := by decide +kernel
theorem dX12_prove_6 : decode cX12_prove 6 = .ok (.putfield 324, 3) := by decide +kernel
theorem dX12_prove_9 : decode cX12_prove 9 = .ok (.aload_n 0, 1) := by decide +kernel
theorem dX12_prove_10 : decode cX12_prove 10 = .ok (.iload_n 1, 1) := by decide +kernel
theorem dX12_prove_11 : decode cX12_prove 11 = .ok (.invokevirtual 274, 3) := by decide +kernel
theorem dX12_prove_14 : decode cX12_prove 14 = .ok (.istore_n 2, 1) := by decide +kernel
theorem dX12_prove_15 : decode cX12_prove 15 = .ok (.iload_n 2, 1) := by decide +kernel
theorem dX12_prove_16 : decode cX12_prove 16 = .ok (.ifCond .eq 14, 3) := by decide +kernel
theorem dX12_prove_19 : decode cX12_prove 19 = .ok (.aload_n 0, 1) := by decide +kernel
theorem dX12_prove_20 : decode cX12_prove 20 = .ok (.getfield 142, 3) := by decide +kernel
theorem dX12_prove_23 : decode cX12_prove 23 = .ok (.ifCond .eq 7, 3) := by decide +kernel
theorem dX12_prove_26 : decode cX12_prove 26 = .ok (.iconst 1, 1) := by decide +kernel
theorem dX12_prove_27 : decode cX12_prove 27 = .ok (.goto 4, 3) := by decide +kernel
theorem dX12_prove_30 : decode cX12_prove 30 = .ok (.iconst 0, 1) := by decide +kernel
theorem dX12_prove_31 : decode cX12_prove 31 = .ok (.istore_n 3, 1) := by decide +kernel
theorem dX12_prove_32 : decode cX12_prove 32 = .ok (.iload_n 3, 1) := by decide +kernel
theorem dX12_prove_33 : decode cX12_prove 33 = .ok (.ifCond .eq 40, 3) := by decide +kernel
theorem dX12_prove_36 : decode cX12_prove 36 = .ok (.aload_n 0, 1) := by decide +kernel
theorem dX12_prove_37 : decode cX12_prove 37 = .ok (.aload_n 0, 1) := by decide +kernel
theorem dX12_prove_38 : decode cX12_prove 38 = .ok (.getfield 324, 3) := by decide +kernel
theorem dX12_prove_41 : decode cX12_prove 41 = .ok (.putfield 159, 3) := by decide +kernel
theorem dX12_prove_44 : decode cX12_prove 44 = .ok (.aload_n 0, 1) := by decide +kernel
theorem dX12_prove_45 : decode cX12_prove 45 = .ok (.iconst (-1), 1) := by decide +kernel
theorem dX12_prove_46 : decode cX12_prove 46 = .ok (.putfield 165, 3) := by decide +kernel
theorem dX12_prove_49 : decode cX12_prove 49 = .ok (.aload_n 0, 1) := by decide +kernel
theorem dX12_prove_50 : decode cX12_prove 50 = .ok (.iload_n 1, 1) := by decide +kernel
theorem dX12_prove_51 : decode cX12_prove 51 = .ok (.invokevirtual 335, 3) := by decide +kernel
theorem dX12_prove_54 : decode cX12_prove 54 = .ok (.ifCond .eq 14, 3) := by decide +kernel
theorem dX12_prove_57 : decode cX12_prove 57 = .ok (.aload_n 0, 1) := by decide +kernel
theorem dX12_prove_58 : decode cX12_prove 58 = .ok (.getfield 142, 3) := by decide +kernel
theorem dX12_prove_61 : decode cX12_prove 61 = .ok (.ifCond .eq 7, 3) := by decide +kernel
theorem dX12_prove_64 : decode cX12_prove 64 = .ok (.iconst 1, 1) := by decide +kernel
theorem dX12_prove_65 : decode cX12_prove 65 = .ok (.goto 4, 3) := by decide +kernel
theorem dX12_prove_68 : decode cX12_prove 68 = .ok (.iconst 0, 1) := by decide +kernel
theorem dX12_prove_69 : decode cX12_prove 69 = .ok (.istore_n 3, 1) := by decide +kernel
theorem dX12_prove_70 : decode cX12_prove 70 = .ok (.goto (-38), 3) := by decide +kernel
theorem dX12_prove_73 : decode cX12_prove 73 = .ok (.aload_n 0, 1) := by decide +kernel
theorem dX12_prove_74 : decode cX12_prove 74 = .ok (.invokevirtual 256, 3) := by decide +kernel
theorem dX12_prove_77 : decode cX12_prove 77 = .ok (.pop, 1) := by decide +kernel
theorem dX12_prove_78 : decode cX12_prove 78 = .ok (.iload_n 2, 1) := by decide +kernel
theorem dX12_prove_79 : decode cX12_prove 79 = .ok (.ifCond .ne 8, 3) := by decide +kernel
theorem dX12_prove_82 : decode cX12_prove 82 = .ok (.bipush (-2), 2) := by decide +kernel
theorem dX12_prove_84 : decode cX12_prove 84 = .ok (.goto 18, 3) := by decide +kernel
theorem dX12_prove_87 : decode cX12_prove 87 = .ok (.aload_n 0, 1) := by decide +kernel
theorem dX12_prove_88 : decode cX12_prove 88 = .ok (.getfield 153, 3) := by decide +kernel
theorem dX12_prove_91 : decode cX12_prove 91 = .ok (.ifCond .eq 7, 3) := by decide +kernel
theorem dX12_prove_94 : decode cX12_prove 94 = .ok (.iconst (-1), 1) := by decide +kernel
theorem dX12_prove_95 : decode cX12_prove 95 = .ok (.goto 7, 3) := by decide +kernel
theorem dX12_prove_98 : decode cX12_prove 98 = .ok (.aload_n 0, 1) := by decide +kernel
theorem dX12_prove_99 : decode cX12_prove 99 = .ok (.getfield 324, 3) := by decide +kernel
theorem dX12_prove_102 : decode cX12_prove 102 = .ok (.ireturn, 1) := by decide +kernel
theorem dX12_puts_0 : decode cX12_puts 0 = .ok (.aload_n 0, 1) := by decide +kernel
theorem dX12_puts_1 : decode cX12_puts 1 = .ok (.getfield 66, 3) := by decide +kernel
theorem dX12_puts_4 : decode cX12_puts 4 = .ok (.sipush 900, 3) := by decide +kernel
theorem dX12_puts_7 : decode cX12_puts 7 = .ok (.aload_n 0, 1) := by decide +kernel
theorem dX12_puts_8 : decode cX12_puts 8 = .ok (.getfield 338, 3) := by decide +kernel
theorem dX12_puts_11 : decode cX12_puts 11 = .ok (.iadd, 1) := by decide +kernel
theorem dX12_puts_12 : decode cX12_puts 12 = .ok (.iload_n 1, 1) := by decide +kernel
theorem dX12_puts_13 : decode cX12_puts 13 = .ok (.iastore, 1) := by decide +kernel
theorem dX12_puts_14 : decode cX12_puts 14 = .ok (.aload_n 0, 1) := by decide +kernel
theorem dX12_puts_15 : decode cX12_puts 15 = .ok (.getfield 63, 3) := by decide +kernel
theorem dX12_puts_18 : decode cX12_puts 18 = .ok (.sipush 900, 3) := by decide +kernel
theorem dX12_puts_21 : decode cX12_puts 21 = .ok (.aload_n 0, 1) := by decide +kernel
theorem dX12_puts_22 : decode cX12_puts 22 = .ok (.getfield 338, 3) := by decide +kernel
theorem dX12_puts_25 : decode cX12_puts 25 = .ok (.iadd, 1) := by decide +kernel
theorem dX12_puts_26 : decode cX12_puts 26 = .ok (.iload_n 2, 1) := by decide +kernel
theorem dX12_puts_27 : decode cX12_puts 27 = .ok (.iastore, 1) := by decide +kernel
theorem dX12_puts_28 : decode cX12_puts 28 = .ok (.aload_n 0, 1) := by decide +kernel
theorem dX12_puts_29 : decode cX12_puts 29 = .ok (.dup, 1) := by decide +kernel
theorem dX12_puts_30 : decode cX12_puts 30 = .ok (.getfield 338, 3) := by decide +kernel
theorem dX12_puts_33 : decode cX12_puts 33 = .ok (.iconst 1, 1) := by decide +kernel
theorem dX12_puts_34 : decode cX12_puts 34 = .ok (.iadd, 1) := by decide +kernel
theorem dX12_puts_35 : decode cX12_puts 35 = .ok (.putfield 338, 3) := by decide +kernel
theorem dX12_puts_38 : decode cX12_puts 38 = .ok (.return_, 1) := by decide +kernel
theorem dX12_readSum_0 : decode cX12_readSum 0 = .ok (.aload_n 0, 1) := by decide +kernel
theorem dX12_readSum_1 : decode cX12_readSum 1 = .ok (.invokevirtual 341, 3) := by decide +kernel
theorem dX12_readSum_4 : decode cX12_readSum 4 = .ok (.ifCond .ne 5, 3) := by decide +kernel
theorem dX12_readSum_7 : decode cX12_readSum 7 = .ok (.iconst 0, 1) := by decide +kernel
theorem dX12_readSum_8 : decode cX12_readSum 8 = .ok (.ireturn, 1) := by decide +kernel
theorem dX12_readSum_9 : decode cX12_readSum 9 = .ok (.aload_n 0, 1) := by decide +kernel
theorem dX12_readSum_10 : decode cX12_readSum 10 = .ok (.bipush 43, 2) := by decide +kernel
theorem dX12_readSum_12 : decode cX12_readSum 12 = .ok (.invokevirtual 184, 3) := by decide +kernel
theorem dX12_readSum_15 : decode cX12_readSum 15 = .ok (.ifCond .ne 12, 3) := by decide +kernel
theorem dX12_readSum_18 : decode cX12_readSum 18 = .ok (.aload_n 0, 1) := by decide +kernel
theorem dX12_readSum_19 : decode cX12_readSum 19 = .ok (.bipush 45, 2) := by decide +kernel
theorem dX12_readSum_21 : decode cX12_readSum 21 = .ok (.invokevirtual 184, 3) := by decide +kernel
theorem dX12_readSum_24 : decode cX12_readSum 24 = .ok (.ifCond .eq 30, 3) := by decide +kernel
theorem dX12_readSum_27 : decode cX12_readSum 27 = .ok (.aload_n 0, 1) := by decide +kernel
theorem dX12_readSum_28 : decode cX12_readSum 28 = .ok (.getfield 139, 3) := by decide +kernel
theorem dX12_readSum_31 : decode cX12_readSum 31 = .ok (.istore_n 1, 1) := by decide +kernel
theorem dX12_readSum_32 : decode cX12_readSum 32 = .ok (.aload_n 0, 1) := by decide +kernel
theorem dX12_readSum_33 : decode cX12_readSum 33 = .ok (.invokevirtual 190, 3) := by decide +kernel
theorem dX12_readSum_36 : decode cX12_readSum 36 = .ok (.aload_n 0, 1) := by decide +kernel
theorem dX12_readSum_37 : decode cX12_readSum 37 = .ok (.invokevirtual 341, 3) := by decide +kernel
theorem dX12_readSum_40 : decode cX12_readSum 40 = .ok (.ifCond .ne 5, 3) := by decide +kernel
theorem dX12_readSum_43 : decode cX12_readSum 43 = .ok (.iconst 0, 1) := by decide +kernel
theorem dX12_readSum_44 : decode cX12_readSum 44 = .ok (.ireturn, 1) := by decide +kernel
theorem dX12_readSum_45 : decode cX12_readSum 45 = .ok (.aload_n 0, 1) := by decide +kernel
theorem dX12_readSum_46 : decode cX12_readSum 46 = .ok (.iload_n 1, 1) := by decide +kernel
theorem dX12_readSum_47 : decode cX12_readSum 47 = .ok (.iconst 0, 1) := by decide +kernel
theorem dX12_readSum_48 : decode cX12_readSum 48 = .ok (.invokevirtual 344, 3) := by decide +kernel
theorem dX12_readSum_51 : decode cX12_readSum 51 = .ok (.goto (-42), 3) := by decide +kernel
theorem dX12_readSum_54 : decode cX12_readSum 54 = .ok (.iconst 1, 1) := by decide +kernel
theorem dX12_readSum_55 : decode cX12_readSum 55 = .ok (.ireturn, 1) := by decide +kernel
theorem dX12_readProduct_0 : decode cX12_readProduct 0 = .ok (.aload_n 0, 1) := by decide +kernel
theorem dX12_readProduct_1 : decode cX12_readProduct 1 = .ok (.invokevirtual 347, 3) := by decide +kernel
theorem dX12_readProduct_4 : decode cX12_readProduct 4 = .ok (.ifCond .ne 5, 3) := by decide +kernel
theorem dX12_readProduct_7 : decode cX12_readProduct 7 = .ok (.iconst 0, 1) := by decide +kernel
theorem dX12_readProduct_8 : decode cX12_readProduct 8 = .ok (.ireturn, 1) := by decide +kernel
theorem dX12_readProduct_9 : decode cX12_readProduct 9 = .ok (.aload_n 0, 1) := by decide +kernel
theorem dX12_readProduct_10 : decode cX12_readProduct 10 = .ok (.bipush 42, 2) := by decide +kernel
theorem dX12_readProduct_12 : decode cX12_readProduct 12 = .ok (.invokevirtual 184, 3) := by decide +kernel
theorem dX12_readProduct_15 : decode cX12_readProduct 15 = .ok (.ifCond .eq 26, 3) := by decide +kernel
theorem dX12_readProduct_18 : decode cX12_readProduct 18 = .ok (.aload_n 0, 1) := by decide +kernel
theorem dX12_readProduct_19 : decode cX12_readProduct 19 = .ok (.invokevirtual 190, 3) := by decide +kernel
theorem dX12_readProduct_22 : decode cX12_readProduct 22 = .ok (.aload_n 0, 1) := by decide +kernel
theorem dX12_readProduct_23 : decode cX12_readProduct 23 = .ok (.invokevirtual 347, 3) := by decide +kernel
theorem dX12_readProduct_26 : decode cX12_readProduct 26 = .ok (.ifCond .ne 5, 3) := by decide +kernel
theorem dX12_readProduct_29 : decode cX12_readProduct 29 = .ok (.iconst 0, 1) := by decide +kernel
theorem dX12_readProduct_30 : decode cX12_readProduct 30 = .ok (.ireturn, 1) := by decide +kernel
theorem dX12_readProduct_31 : decode cX12_readProduct 31 = .ok (.aload_n 0, 1) := by decide +kernel
theorem dX12_readProduct_32 : decode cX12_readProduct 32 = .ok (.bipush 42, 2) := by decide +kernel
theorem dX12_readProduct_34 : decode cX12_readProduct 34 = .ok (.iconst 0, 1) := by decide +kernel
theorem dX12_readProduct_35 : decode cX12_readProduct 35 = .ok (.invokevirtual 344, 3) := by decide +kernel
theorem dX12_readProduct_38 : decode cX12_readProduct 38 = .ok (.goto (-29), 3) := by decide +kernel
theorem dX12_readProduct_41 : decode cX12_readProduct 41 = .ok (.iconst 1, 1) := by decide +kernel
theorem dX12_readProduct_42 : decode cX12_readProduct 42 = .ok (.ireturn, 1) := by decide +kernel
theorem dX12_readPower_0 : decode cX12_readPower 0 = .ok (.aload_n 0, 1) := by decide +kernel
theorem dX12_readPower_1 : decode cX12_readPower 1 = .ok (.invokevirtual 350, 3) := by decide +kernel
