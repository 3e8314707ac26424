/-! DECODE ROWS X12 -/
theorem dX12_readPower_4 : decode cX12_readPower 4 = .ok (.ifCond .ne 5, 3) := by decide +kernel
theorem dX12_readPower_7 : decode cX12_readPower 7 = .ok (.iconst 0, 1) := by decide +kernel
theorem dX12_readPower_8 : decode cX12_readPower 8 = .ok (.ireturn, 1) := by decide +kernel
theorem dX12_readPower_9 : decode cX12_readPower 9 = .ok (.aload_n 0, 1) := by decide +kernel
theorem dX12_readPower_10 : decode cX12_readPower 10 = .ok (.bipush 94, 2) := by decide +kernel
theorem dX12_readPower_12 : decode cX12_readPower 12 = .ok (.invokevirtual 184, 3) := by decide +kernel
theorem dX12_readPower_15 : decode cX12_readPower 15 = .ok (.ifCond .ne 5, 3) := by decide +kernel
theorem dX12_readPower_18 : decode cX12_readPower 18 = .ok (.iconst 1, 1) := by decide +kernel
theorem dX12_readPower_19 : decode cX12_readPower 19 = .ok (.ireturn, 1) := by decide +kernel
theorem dX12_readPower_20 : decode cX12_readPower 20 = .ok (.aload_n 0, 1) := by decide +kernel
theorem dX12_readPower_21 : decode cX12_readPower 21 = .ok (.invokevirtual 190, 3) := by decide +kernel
theorem dX12_readPower_24 : decode cX12_readPower 24 = .ok (.aload_n 0, 1) := by decide +kernel
theorem dX12_readPower_25 : decode cX12_readPower 25 = .ok (.invokevirtual 214, 3) := by decide +kernel
theorem dX12_readPower_28 : decode cX12_readPower 28 = .ok (.ifCond .ne 9, 3) := by decide +kernel
theorem dX12_readPower_31 : decode cX12_readPower 31 = .ok (.aload_n 0, 1) := by decide +kernel
theorem dX12_readPower_32 : decode cX12_readPower 32 = .ok (.iconst 1, 1) := by decide +kernel
theorem dX12_readPower_33 : decode cX12_readPower 33 = .ok (.invokevirtual 187, 3) := by decide +kernel
theorem dX12_readPower_36 : decode cX12_readPower 36 = .ok (.ireturn, 1) := by decide +kernel
theorem dX12_readPower_37 : decode cX12_readPower 37 = .ok (.aload_n 0, 1) := by decide +kernel
theorem dX12_readPower_38 : decode cX12_readPower 38 = .ok (.getfield 136, 3) := by decide +kernel
theorem dX12_readPower_41 : decode cX12_readPower 41 = .ok (.bipush 6, 2) := by decide +kernel
theorem dX12_readPower_43 : decode cX12_readPower 43 = .ok (.if_icmp .le 10, 3) := by decide +kernel
theorem dX12_readPower_46 : decode cX12_readPower 46 = .ok (.aload_n 0, 1) := by decide +kernel
theorem dX12_readPower_47 : decode cX12_readPower 47 = .ok (.bipush 10, 2) := by decide +kernel
theorem dX12_readPower_49 : decode cX12_readPower 49 = .ok (.invokevirtual 187, 3) := by decide +kernel
theorem dX12_readPower_52 : decode cX12_readPower 52 = .ok (.ireturn, 1) := by decide +kernel
theorem dX12_readPower_53 : decode cX12_readPower 53 = .ok (.aload_n 0, 1) := by decide +kernel
theorem dX12_readPower_54 : decode cX12_readPower 54 = .ok (.bipush 94, 2) := by decide +kernel
theorem dX12_readPower_56 : decode cX12_readPower 56 = .ok (.aload_n 0, 1) := by decide +kernel
theorem dX12_readPower_57 : decode cX12_readPower 57 = .ok (.getfield 136, 3) := by decide +kernel
theorem dX12_readPower_60 : decode cX12_readPower 60 = .ok (.invokevirtual 344, 3) := by decide +kernel
theorem dX12_readPower_63 : decode cX12_readPower 63 = .ok (.aload_n 0, 1) := by decide +kernel
theorem dX12_readPower_64 : decode cX12_readPower 64 = .ok (.invokevirtual 190, 3) := by decide +kernel
theorem dX12_readPower_67 : decode cX12_readPower 67 = .ok (.iconst 1, 1) := by decide +kernel
theorem dX12_readPower_68 : decode cX12_readPower 68 = .ok (.ireturn, 1) := by decide +kernel
theorem dX12_readPart_0 : decode cX12_readPart 0 = .ok (.aload_n 0, 1) := by decide +kernel
theorem dX12_readPart_1 : decode cX12_readPart 1 = .ok (.getfield 142, 3) := by decide +kernel
theorem dX12_readPart_4 : decode cX12_readPart 4 = .ok (.iconst 1, 1) := by decide +kernel
theorem dX12_readPart_5 : decode cX12_readPart 5 = .ok (.if_icmp .ne 31, 3) := by decide +kernel
theorem dX12_readPart_8 : decode cX12_readPart 8 = .ok (.aload_n 0, 1) := by decide +kernel
theorem dX12_readPart_9 : decode cX12_readPart 9 = .ok (.getfield 122, 3) := by decide +kernel
theorem dX12_readPart_12 : decode cX12_readPart 12 = .ok (.aload_n 0, 1) := by decide +kernel
theorem dX12_readPart_13 : decode cX12_readPart 13 = .ok (.getfield 129, 3) := by decide +kernel
theorem dX12_readPart_16 : decode cX12_readPart 16 = .ok (.isub, 1) := by decide +kernel
theorem dX12_readPart_17 : decode cX12_readPart 17 = .ok (.iconst 1, 1) := by decide +kernel
theorem dX12_readPart_18 : decode cX12_readPart 18 = .ok (.if_icmp .ne 18, 3) := by decide +kernel
theorem dX12_readPart_21 : decode cX12_readPart 21 = .ok (.aload_n 0, 1) := by decide +kernel
theorem dX12_readPart_22 : decode cX12_readPart 22 = .ok (.getfield 132, 3) := by decide +kernel
theorem dX12_readPart_25 : decode cX12_readPart 25 = .ok (.ldc2_w 353, 3) := by decide +kernel
theorem dX12_readPart_28 : decode cX12_readPart 28 = .ok (.lcmp, 1) := by decide +kernel
theorem dX12_readPart_29 : decode cX12_readPart 29 = .ok (.ifCond .gt 7, 3) := by decide +kernel
theorem dX12_readPart_32 : decode cX12_readPart 32 = .ok (.iconst 1, 1) := by decide +kernel
theorem dX12_readPart_33 : decode cX12_readPart 33 = .ok (.goto 4, 3) := by decide +kernel
theorem dX12_readPart_36 : decode cX12_readPart 36 = .ok (.iconst 0, 1) := by decide +kernel
theorem dX12_readPart_37 : decode cX12_readPart 37 = .ok (.istore_n 1, 1) := by decide +kernel
theorem dX12_readPart_38 : decode cX12_readPart 38 = .ok (.aload_n 0, 1) := by decide +kernel
theorem dX12_readPart_39 : decode cX12_readPart 39 = .ok (.invokevirtual 214, 3) := by decide +kernel
theorem dX12_readPart_42 : decode cX12_readPart 42 = .ok (.ifCond .ne 22, 3) := by decide +kernel
theorem dX12_readPart_45 : decode cX12_readPart 45 = .ok (.iload_n 1, 1) := by decide +kernel
theorem dX12_readPart_46 : decode cX12_readPart 46 = .ok (.ifCond .ne 18, 3) := by decide +kernel
theorem dX12_readPart_49 : decode cX12_readPart 49 = .ok (.aload_n 0, 1) := by decide +kernel
theorem dX12_readPart_50 : decode cX12_readPart 50 = .ok (.bipush 40, 2) := by decide +kernel
theorem dX12_readPart_52 : decode cX12_readPart 52 = .ok (.invokevirtual 184, 3) := by decide +kernel
theorem dX12_readPart_55 : decode cX12_readPart 55 = .ok (.ifCond .ne 9, 3) := by decide +kernel
theorem dX12_readPart_58 : decode cX12_readPart 58 = .ok (.aload_n 0, 1) := by decide +kernel
theorem dX12_readPart_59 : decode cX12_readPart 59 = .ok (.iconst 1, 1) := by decide +kernel
theorem dX12_readPart_60 : decode cX12_readPart 60 = .ok (.invokevirtual 187, 3) := by decide +kernel
theorem dX12_readPart_63 : decode cX12_readPart 63 = .ok (.ireturn, 1) := by decide +kernel
theorem dX12_readPart_64 : decode cX12_readPart 64 = .ok (.aload_n 0, 1) := by decide +kernel
theorem dX12_readPart_65 : decode cX12_readPart 65 = .ok (.bipush 40, 2) := by decide +kernel
theorem dX12_readPart_67 : decode cX12_readPart 67 = .ok (.invokevirtual 184, 3) := by decide +kernel
theorem dX12_readPart_70 : decode cX12_readPart 70 = .ok (.ifCond .eq 19, 3) := by decide +kernel
theorem dX12_readPart_73 : decode cX12_readPart 73 = .ok (.aload_n 0, 1) := by decide +kernel
theorem dX12_readPart_74 : decode cX12_readPart 74 = .ok (.getfield 165, 3) := by decide +kernel
theorem dX12_readPart_77 : decode cX12_readPart 77 = .ok (.bipush 6, 2) := by decide +kernel
theorem dX12_readPart_79 : decode cX12_readPart 79 = .ok (.if_icmp .ne 10, 3) := by decide +kernel
theorem dX12_readPart_82 : decode cX12_readPart 82 = .ok (.aload_n 0, 1) := by decide +kernel
theorem dX12_readPart_83 : decode cX12_readPart 83 = .ok (.bipush 11, 2) := by decide +kernel
theorem dX12_readPart_85 : decode cX12_readPart 85 = .ok (.invokevirtual 187, 3) := by decide +kernel
theorem dX12_readPart_88 : decode cX12_readPart 88 = .ok (.ireturn, 1) := by decide +kernel
theorem dX12_readPart_89 : decode cX12_readPart 89 = .ok (.aload_n 0, 1) := by decide +kernel
theorem dX12_readPart_90 : decode cX12_readPart 90 = .ok (.getfield 355, 3) := by decide +kernel
theorem dX12_readPart_93 : decode cX12_readPart 93 = .ok (.bipush 60, 2) := by decide +kernel
theorem dX12_readPart_95 : decode cX12_readPart 95 = .ok (.if_icmp .ne 10, 3) := by decide +kernel
theorem dX12_readPart_98 : decode cX12_readPart 98 = .ok (.aload_n 0, 1) := by decide +kernel
theorem dX12_readPart_99 : decode cX12_readPart 99 = .ok (.bipush 12, 2) := by decide +kernel
theorem dX12_readPart_101 : decode cX12_readPart 101 = .ok (.invokevirtual 187, 3) := by decide +kernel
theorem dX12_readPart_104 : decode cX12_readPart 104 = .ok (.ireturn, 1) := by decide +kernel
theorem dX12_readPart_105 : decode cX12_readPart 105 = .ok (.aload_n 0, 1) := by decide +kernel
theorem dX12_readPart_106 : decode cX12_readPart 106 = .ok (.dup, 1) := by decide +kernel
theorem dX12_readPart_107 : decode cX12_readPart 107 = .ok (.getfield 355, 3) := by decide +kernel
theorem dX12_readPart_110 : decode cX12_readPart 110 = .ok (.iconst 1, 1) := by decide +kernel
theorem dX12_readPart_111 : decode cX12_readPart 111 = .ok (.iadd, 1) := by decide +kernel
theorem dX12_readPart_112 : decode cX12_readPart 112 = .ok (.putfield 355, 3) := by decide +kernel
theorem dX12_readPart_115 : decode cX12_readPart 115 = .ok (.aload_n 0, 1) := by decide +kernel
theorem dX12_readPart_116 : decode cX12_readPart 116 = .ok (.bipush 40, 2) := by decide +kernel
theorem dX12_readPart_118 : decode cX12_readPart 118 = .ok (.invokevirtual 184, 3) := by decide +kernel
theorem dX12_readPart_121 : decode cX12_readPart 121 = .ok (.ifCond .eq 47, 3) := by decide +kernel
theorem dX12_readPart_124 : decode cX12_readPart 124 = .ok (.aload_n 0, 1) := by decide +kernel
theorem dX12_readPart_125 : decode cX12_readPart 125 = .ok (.dup, 1) := by decide +kernel
theorem dX12_readPart_126 : decode cX12_readPart 126 = .ok (.getfield 165, 3) := by decide +kernel
theorem dX12_readPart_129 : decode cX12_readPart 129 = .ok (.iconst 1, 1) := by decide +kernel
theorem dX12_readPart_130 : decode cX12_readPart 130 = .ok (.iadd, 1) := by decide +kernel
theorem dX12_readPart_131 : decode cX12_readPart 131 = .ok (.putfield 165, 3) := by decide +kernel
theorem dX12_readPart_134 : decode cX12_readPart 134 = .ok (.aload_n 0, 1) := by decide +kernel
theorem dX12_readPart_135 : decode cX12_readPart 135 = .ok (.invokevirtual 190, 3) := by decide +kernel
theorem dX12_readPart_138 : decode cX12_readPart 138 = .ok (.aload_n 0, 1) := by decide +kernel
theorem dX12_readPart_139 : decode cX12_readPart 139 = .ok (.invokevirtual 358, 3) := by decide +kernel
theorem dX12_readPart_142 : decode cX12_readPart 142 = .ok (.ifCond .eq 12, 3) := by decide +kernel
theorem dX12_readPart_145 : decode cX12_readPart 145 = .ok (.aload_n 0, 1) := by decide +kernel
theorem dX12_readPart_146 : decode cX12_readPart 146 = .ok (.bipush 41, 2) := by decide +kernel
theorem dX12_readPart_148 : decode cX12_readPart 148 = .ok (.invokevirtual 253, 3) := by decide +kernel
theorem dX12_readPart_151 : decode cX12_readPart 151 = .ok (.ifCond .ne 5, 3) := by decide +kernel
theorem dX12_readPart_154 : decode cX12_readPart 154 = .ok (.iconst 0, 1) := by decide +kernel
theorem dX12_readPart_155 : decode cX12_readPart 155 = .ok (.ireturn, 1) := by decide +kernel
theorem dX12_readPart_156 : decode cX12_readPart 156 = .ok (.aload_n 0, 1) := by decide +kernel
theorem dX12_readPart_157 : decode cX12_readPart 157 = .ok (.dup, 1) := by decide +kernel
theorem dX12_readPart_158 : decode cX12_readPart 158 = .ok (.getfield 165, 3) := by decide +kernel
theorem dX12_readPart_161 : decode cX12_readPart 161 = .ok (.iconst 1, 1) := by decide +kernel
theorem dX12_readPart_162 : decode cX12_readPart 162 = .ok (.isub, 1) := by decide +kernel
theorem dX12_readPart_163 : decode cX12_readPart 163 = .ok (.putfield 165, 3) := by decide +kernel
theorem dX12_readPart_166 : decode cX12_readPart 166 = .ok (.iconst 1, 1) := by decide +kernel
theorem dX12_readPart_167 : decode cX12_readPart 167 = .ok (.ireturn, 1) := by decide +kernel
theorem dX12_readPart_168 : decode cX12_readPart 168 = .ok (.aload_n 0, 1) := by decide +kernel
theorem dX12_readPart_169 : decode cX12_readPart 169 = .ok (.iload_n 1, 1) := by decide +kernel
theorem dX12_readPart_170 : decode cX12_readPart 170 = .ok (.ifCond .eq 7, 3) := by decide +kernel
theorem dX12_readPart_173 : decode cX12_readPart 173 = .ok (.iconst 1, 1) := by decide +kernel
theorem dX12_readPart_174 : decode cX12_readPart 174 = .ok (.goto 4, 3) := by decide +kernel
theorem dX12_readPart_177 : decode cX12_readPart 177 = .ok (.iconst 0, 1) := by decide +kernel
theorem dX12_readPart_178 : decode cX12_readPart 178 = .ok (.iload_n 1, 1) := by decide +kernel
theorem dX12_readPart_179 : decode cX12_readPart 179 = .ok (.ifCond .eq 13, 3) := by decide +kernel
theorem dX12_readPart_182 : decode cX12_readPart 182 = .ok (.aload_n 0, 1) := by decide +kernel
theorem dX12_readPart_183 : decode cX12_readPart 183 = .ok (.getfield 132, 3) := by decide +kernel
theorem dX12_readPart_186 : decode cX12_readPart 186 = .ok (.l2i, 1) := by decide +kernel
theorem dX12_readPart_187 : decode cX12_readPart 187 = .ok (.iconst 1, 1) := by decide +kernel
theorem dX12_readPart_188 : decode cX12_readPart 188 = .ok (.isub, 1) := by decide +kernel
theorem dX12_readPart_189 : decode cX12_readPart 189 = .ok (.goto 7, 3) := by decide +kernel
theorem dX12_readPart_192 : decode cX12_readPart 192 = .ok (.aload_n 0, 1) := by decide +kernel
theorem dX12_readPart_193 : decode cX12_readPart 193 = .ok (.getfield 136, 3) := by decide +kernel
theorem dX12_readPart_196 : decode cX12_readPart 196 = .ok (.invokevirtual 344, 3) := by decide +kernel
theorem dX12_readPart_199 : decode cX12_readPart 199 = .ok (.iload_n 1, 1) := by decide +kernel
theorem dX12_readPart_200 : decode cX12_readPart 200 = .ok (.ifCond .eq 21, 3) := by decide +kernel
theorem dX12_readPart_203 : decode cX12_readPart 203 = .ok (.aload_n 0, 1) := by decide +kernel
theorem dX12_readPart_204 : decode cX12_readPart 204 = .ok (.dup, 1) := by decide +kernel
theorem dX12_readPart_205 : decode cX12_readPart 205 = .ok (.getfield 361, 3) := by decide +kernel
theorem dX12_readPart_208 : decode cX12_readPart 208 = .ok (.iconst 1, 1) := by decide +kernel
theorem dX12_readPart_209 : decode cX12_readPart 209 = .ok (.aload_n 0, 1) := by decide +kernel
theorem dX12_readPart_210 : decode cX12_readPart 210 = .ok (.getfield 132, 3) := by decide +kernel
theorem dX12_readPart_213 : decode cX12_readPart 213 = .ok (.l2i, 1) := by decide +kernel
theorem dX12_readPart_214 : decode cX12_readPart 214 = .ok (.iconst 1, 1) := by decide +kernel
theorem dX12_readPart_215 : decode cX12_readPart 215 = .ok (.isub, 1) := by decide +kernel
theorem dX12_readPart_216 : decode cX12_readPart 216 = .ok (.ishl, 1) := by decide +kernel
theorem dX12_readPart_217 : decode cX12_readPart 217 = .ok (.ior, 1) := by decide +kernel
theorem dX12_readPart_218 : decode cX12_readPart 218 = .ok (.putfield 361, 3) := by decide +kernel
theorem dX12_readPart_221 : decode cX12_readPart 221 = .ok (.aload_n 0, 1) := by decide +kernel
theorem dX12_readPart_222 : decode cX12_readPart 222 = .ok (.invokevirtual 190, 3) := by decide +kernel
theorem dX12_readPart_225 : decode cX12_readPart 225 = .ok (.iconst 1, 1) := by decide +kernel
theorem dX12_readPart_226 : decode cX12_readPart 226 = .ok (.ireturn, 1) := by decide +kernel
theorem dX12_readIdentity_0 : decode cX12_readIdentity 0 = .ok (.aload_n 0, 1) := by decide +kernel
theorem dX12_readIdentity_1 : decode cX12_readIdentity 1 = .ok (.invokevirtual 358, 3) := by decide +kernel
theorem dX12_readIdentity_4 : decode cX12_readIdentity 4 = .ok (.ifCond .ne 5, 3) := by decide +kernel
theorem dX12_readIdentity_7 : decode cX12_readIdentity 7 = .ok (.iconst 0, 1) := by decide +kernel
theorem dX12_readIdentity_8 : decode cX12_readIdentity 8 = .ok (.ireturn, 1) := by decide +kernel
theorem dX12_readIdentity_9 : decode cX12_readIdentity 9 = .ok (.aload_n 0, 1) := by decide +kernel
theorem dX12_readIdentity_10 : decode cX12_readIdentity 10 = .ok (.getfield 69, 3) := by decide +kernel
theorem dX12_readIdentity_13 : decode cX12_readIdentity 13 = .ok (.iconst 2, 1) := by decide +kernel
theorem dX12_readIdentity_14 : decode cX12_readIdentity 14 = .ok (.aload_n 0, 1) := by decide +kernel
theorem dX12_readIdentity_15 : decode cX12_readIdentity 15 = .ok (.getfield 338, 3) := by decide +kernel
theorem dX12_readIdentity_18 : decode cX12_readIdentity 18 = .ok (.iastore, 1) := by decide +kernel
theorem dX12_readIdentity_19 : decode cX12_readIdentity 19 = .ok (.aload_n 0, 1) := by decide +kernel
theorem dX12_readIdentity_20 : decode cX12_readIdentity 20 = .ok (.bipush 61, 2) := by decide +kernel
theorem dX12_readIdentity_22 : decode cX12_readIdentity 22 = .ok (.invokevirtual 253, 3) := by decide +kernel
theorem dX12_readIdentity_25 : decode cX12_readIdentity 25 = .ok (.ifCond .ne 5, 3) := by decide +kernel
theorem dX12_readIdentity_28 : decode cX12_readIdentity 28 = .ok (.iconst 0, 1) := by decide +kernel
theorem dX12_readIdentity_29 : decode cX12_readIdentity 29 = .ok (.ireturn, 1) := by decide +kernel
theorem dX12_readIdentity_30 : decode cX12_readIdentity 30 = .ok (.aload_n 0, 1) := by decide +kernel
theorem dX12_readIdentity_31 : decode cX12_readIdentity 31 = .ok (.iconst 1, 1) := by decide +kernel
theorem dX12_readIdentity_32 : decode cX12_readIdentity 32 = .ok (.putfield 159, 3) := by decide +kernel
theorem dX12_readIdentity_35 : decode cX12_readIdentity 35 = .ok (.aload_n 0, 1) := by decide +kernel
theorem dX12_readIdentity_36 : decode cX12_readIdentity 36 = .ok (.invokevirtual 358, 3) := by decide +kernel
theorem dX12_readIdentity_39 : decode cX12_readIdentity 39 = .ok (.ifCond .ne 5, 3) := by decide +kernel
theorem dX12_readIdentity_42 : decode cX12_readIdentity 42 = .ok (.iconst 0, 1) := by decide +kernel
theorem dX12_readIdentity_43 : decode cX12_readIdentity 43 = .ok (.ireturn, 1) := by decide +kernel
theorem dX12_readIdentity_44 : decode cX12_readIdentity 44 = .ok (.aload_n 0, 1) := by decide +kernel
theorem dX12_readIdentity_45 : decode cX12_readIdentity 45 = .ok (.getfield 69, 3) := by decide +kernel
theorem dX12_readIdentity_48 : decode cX12_readIdentity 48 = .ok (.iconst 3, 1) := by decide +kernel
theorem dX12_readIdentity_49 : decode cX12_readIdentity 49 = .ok (.aload_n 0, 1) := by decide +kernel
theorem dX12_readIdentity_50 : decode cX12_readIdentity 50 = .ok (.getfield 338, 3) := by decide +kernel
theorem dX12_readIdentity_53 : decode cX12_readIdentity 53 = .ok (.iastore, 1) := by decide +kernel
theorem dX12_readIdentity_54 : decode cX12_readIdentity 54 = .ok (.aload_n 0, 1) := by decide +kernel
theorem dX12_readIdentity_55 : decode cX12_readIdentity 55 = .ok (.getfield 142, 3) := by decide +kernel
theorem dX12_readIdentity_58 : decode cX12_readIdentity 58 = .ok (.ifCond .eq 11, 3) := by decide +kernel
theorem dX12_readIdentity_61 : decode cX12_readIdentity 61 = .ok (.aload_n 0, 1) := by decide +kernel
theorem dX12_readIdentity_62 : decode cX12_readIdentity 62 = .ok (.iconst 1, 1) := by decide +kernel
theorem dX12_readIdentity_63 : decode cX12_readIdentity 63 = .ok (.invokevirtual 187, 3) := by decide +kernel
theorem dX12_readIdentity_66 : decode cX12_readIdentity 66 = .ok (.ifCond .eq 7, 3) := by decide +kernel
theorem dX12_readIdentity_69 : decode cX12_readIdentity 69 = .ok (.iconst 1, 1) := by decide +kernel
theorem dX12_readIdentity_70 : decode cX12_readIdentity 70 = .ok (.goto 4, 3) := by decide +kernel
theorem dX12_readIdentity_73 : decode cX12_readIdentity 73 = .ok (.iconst 0, 1) := by decide +kernel
theorem dX12_readIdentity_74 : decode cX12_readIdentity 74 = .ok (.ireturn, 1) := by decide +kernel
theorem dX12_identity_0 : decode cX12_identity 0 = .ok (.aload_n 0, 1) := by decide +kernel
theorem dX12_identity_1 : decode cX12_identity 1 = .ok (.invokevirtual 247, 3) := by decide +kernel
theorem dX12_identity_4 : decode cX12_identity 4 = .ok (.aload_n 0, 1) := by decide +kernel
theorem dX12_identity_5 : decode cX12_identity 5 = .ok (.iconst 0, 1) := by decide +kernel
theorem dX12_identity_6 : decode cX12_identity 6 = .ok (.putfield 165, 3) := by decide +kernel
theorem dX12_identity_9 : decode cX12_identity 9 = .ok (.aload_n 0, 1) := by decide +kernel
theorem dX12_identity_10 : decode cX12_identity 10 = .ok (.iconst 0, 1) := by decide +kernel
theorem dX12_identity_11 : decode cX12_identity 11 = .ok (.putfield 338, 3) := by decide +kernel
theorem dX12_identity_14 : decode cX12_identity 14 = .ok (.aload_n 0, 1) := by decide +kernel
theorem dX12_identity_15 : decode cX12_identity 15 = .ok (.iconst 0, 1) := by decide +kernel
theorem dX12_identity_16 : decode cX12_identity 16 = .ok (.putfield 355, 3) := by decide +kernel
theorem dX12_identity_19 : decode cX12_identity 19 = .ok (.aload_n 0, 1) := by decide +kernel
theorem dX12_identity_20 : decode cX12_identity 20 = .ok (.iconst 0, 1) := by decide +kernel
theorem dX12_identity_21 : decode cX12_identity 21 = .ok (.putfield 361, 3) := by decide +kernel
theorem dX12_identity_24 : decode cX12_identity 24 = .ok (.aload_n 0, 1) := by decide +kernel
theorem dX12_identity_25 : decode cX12_identity 25 = .ok (.invokevirtual 364, 3) := by decide +kernel
theorem dX12_identity_28 : decode cX12_identity 28 = .ok (.istore_n 1, 1) := by decide +kernel
theorem dX12_identity_29 : decode cX12_identity 29 = .ok (.aload_n 0, 1) := by decide +kernel
theorem dX12_identity_30 : decode cX12_identity 30 = .ok (.invokevirtual 256, 3) := by decide +kernel
theorem dX12_identity_33 : decode cX12_identity 33 = .ok (.pop, 1) := by decide +kernel
theorem dX12_identity_34 : decode cX12_identity 34 = .ok (.iload_n 1, 1) := by decide +kernel
theorem dX12_identity_35 : decode cX12_identity 35 = .ok (.ifCond .ne 5, 3) := by decide +kernel
theorem dX12_identity_38 : decode cX12_identity 38 = .ok (.iconst (-1), 1) := by decide +kernel
theorem dX12_identity_39 : decode cX12_identity 39 = .ok (.ireturn, 1) := by decide +kernel
theorem dX12_identity_40 : decode cX12_identity 40 = .ok (.aload_n 0, 1) := by decide +kernel
theorem dX12_identity_41 : decode cX12_identity 41 = .ok (.iconst 1, 1) := by decide +kernel
theorem dX12_identity_42 : decode cX12_identity 42 = .ok (.putfield 367, 3) := by decide +kernel
theorem dX12_identity_45 : decode cX12_identity 45 = .ok (.aload_n 0, 1) := by decide +kernel
theorem dX12_identity_46 : decode cX12_identity 46 = .ok (.aload_n 0, 1) := by decide +kernel
theorem dX12_identity_47 : decode cX12_identity 47 = .ok (.getfield 355, 3) := by decide +kernel
theorem dX12_identity_50 : decode cX12_identity 50 = .ok (.putfield 370, 3) := by decide +kernel
theorem dX12_identity_53 : decode cX12_identity 53 = .ok (.aload_n 0, 1) := by decide +kernel
theorem dX12_identity_54 : decode cX12_identity 54 = .ok (.aload_n 0, 1) := by decide +kernel
theorem dX12_identity_55 : decode cX12_identity 55 = .ok (.getfield 361, 3) := by decide +kernel
theorem dX12_identity_58 : decode cX12_identity 58 = .ok (.putfield 373, 3) := by decide +kernel
theorem dX12_identity_61 : decode cX12_identity 61 = .ok (.aload_n 0, 1) := by decide +kernel
theorem dX12_identity_62 : decode cX12_identity 62 = .ok (.getfield 69, 3) := by decide +kernel
theorem dX12_identity_65 : decode cX12_identity 65 = .ok (.iconst 0, 1) := by decide +kernel
theorem dX12_identity_66 : decode cX12_identity 66 = .ok (.aload_n 0, 1) := by decide +kernel
theorem dX12_identity_67 : decode cX12_identity 67 = .ok (.getfield 69, 3) := by decide +kernel
theorem dX12_identity_70 : decode cX12_identity 70 = .ok (.iconst 2, 1) := by decide +kernel
theorem dX12_identity_71 : decode cX12_identity 71 = .ok (.iaload, 1) := by decide +kernel
theorem dX12_identity_72 : decode cX12_identity 72 = .ok (.iastore, 1) := by decide +kernel
theorem dX12_identity_73 : decode cX12_identity 73 = .ok (.aload_n 0, 1) := by decide +kernel
theorem dX12_identity_74 : decode cX12_identity 74 = .ok (.getfield 69, 3) := by decide +kernel
theorem dX12_identity_77 : decode cX12_identity 77 = .ok (.iconst 1, 1) := by decide +kernel
theorem dX12_identity_78 : decode cX12_identity 78 = .ok (.aload_n 0, 1) := by decide +kernel
theorem dX12_identity_79 : decode cX12_identity 79 = .ok (.getfield 69, 3) := by decide +kernel
theorem dX12_identity_82 : decode cX12_identity 82 = .ok (.iconst 3, 1) := by decide +kernel
theorem dX12_identity_83 : decode cX12_identity 83 = .ok (.iaload, 1) := by decide +kernel
theorem dX12_identity_84 : decode cX12_identity 84 = .ok (.iastore, 1) := by decide +kernel
theorem dX12_identity_85 : decode cX12_identity 85 = .ok (.iconst 0, 1) := by decide +kernel
theorem dX12_identity_86 : decode cX12_identity 86 = .ok (.istore_n 2, 1) := by decide +kernel
theorem dX12_identity_87 : decode cX12_identity 87 = .ok (.iload_n 2, 1) := by decide +kernel
theorem dX12_identity_88 : decode cX12_identity 88 = .ok (.aload_n 0, 1) := by decide +kernel
theorem dX12_identity_89 : decode cX12_identity 89 = .ok (.getfield 338, 3) := by decide +kernel
theorem dX12_identity_92 : decode cX12_identity 92 = .ok (.if_icmp .ge 41, 3) := by decide +kernel
theorem dX12_identity_95 : decode cX12_identity 95 = .ok (.aload_n 0, 1) := by decide +kernel
theorem dX12_identity_96 : decode cX12_identity 96 = .ok (.getfield 63, 3) := by decide +kernel
theorem dX12_identity_99 : decode cX12_identity 99 = .ok (.iload_n 2, 1) := by decide +kernel
theorem dX12_identity_100 : decode cX12_identity 100 = .ok (.aload_n 0, 1) := by decide +kernel
theorem dX12_identity_101 : decode cX12_identity 101 = .ok (.getfield 63, 3) := by decide +kernel
theorem dX12_identity_104 : decode cX12_identity 104 = .ok (.sipush 900, 3) := by decide +kernel
theorem dX12_identity_107 : decode cX12_identity 107 = .ok (.iload_n 2, 1) := by decide +kernel
theorem dX12_identity_108 : decode cX12_identity 108 = .ok (.iadd, 1) := by decide +kernel
theorem dX12_identity_109 : decode cX12_identity 109 = .ok (.iaload, 1) := by decide +kernel
theorem dX12_identity_110 : decode cX12_identity 110 = .ok (.iastore, 1) := by decide +kernel
theorem dX12_identity_111 : decode cX12_identity 111 = .ok (.aload_n 0, 1) := by decide +kernel
theorem dX12_identity_112 : decode cX12_identity 112 = .ok (.getfield 66, 3) := by decide +kernel
theorem dX12_identity_115 : decode cX12_identity 115 = .ok (.iload_n 2, 1) := by decide +kernel
theorem dX12_identity_116 : decode cX12_identity 116 = .ok (.aload_n 0, 1) := by decide +kernel
theorem dX12_identity_117 : decode cX12_identity 117 = .ok (.getfield 66, 3) := by decide +kernel
theorem dX12_identity_120 : decode cX12_identity 120 = .ok (.sipush 900, 3) := by decide +kernel
theorem dX12_identity_123 : decode cX12_identity 123 = .ok (.iload_n 2, 1) := by decide +kernel
theorem dX12_identity_124 : decode cX12_identity 124 = .ok (.iadd, 1) := by decide +kernel
theorem dX12_identity_125 : decode cX12_identity 125 = .ok (.iaload, 1) := by decide +kernel
theorem dX12_identity_126 : decode cX12_identity 126 = .ok (.iastore, 1) := by decide +kernel
theorem dX12_identity_127 : decode cX12_identity 127 = .ok (.iinc 2 1, 3) := by decide +kernel
theorem dX12_identity_130 : decode cX12_identity 130 = .ok (.goto (-43), 3) := by decide +kernel
theorem dX12_identity_133 : decode cX12_identity 133 = .ok (.aload_n 0, 1) := by decide +kernel
theorem dX12_identity_134 : decode cX12_identity 134 = .ok (.getfield 373, 3) := by decide +kernel
theorem dX12_identity_137 : decode cX12_identity 137 = .ok (.invokestatic 376, 3) := by decide +kernel
theorem dX12_identity_140 : decode cX12_identity 140 = .ok (.ireturn, 1) := by decide +kernel
theorem dX12_bits_0 : decode cX12_bits 0 = .ok (.iconst 0, 1) := by decide +kernel
theorem dX12_bits_1 : decode cX12_bits 1 = .ok (.istore_n 1, 1) := by decide +kernel
theorem dX12_bits_2 : decode cX12_bits 2 = .ok (.iload_n 0, 1) := by decide +kernel
theorem dX12_bits_3 : decode cX12_bits 3 = .ok (.istore_n 2, 1) := by decide +kernel
theorem dX12_bits_4 : decode cX12_bits 4 = .ok (.iload_n 2, 1) := by decide +kernel
theorem dX12_bits_5 : decode cX12_bits 5 = .ok (.ifCond .le 16, 3) := by decide +kernel
theorem dX12_bits_8 : decode cX12_bits 8 = .ok (.iload_n 1, 1) := by decide +kernel
theorem dX12_bits_9 : decode cX12_bits 9 = .ok (.iload_n 2, 1) := by decide +kernel
theorem dX12_bits_10 : decode cX12_bits 10 = .ok (.iconst 2, 1) := by decide +kernel
theorem dX12_bits_11 : decode cX12_bits 11 = .ok (.irem, 1) := by decide +kernel
theorem dX12_bits_12 : decode cX12_bits 12 = .ok (.iadd, 1) := by decide +kernel
theorem dX12_bits_13 : decode cX12_bits 13 = .ok (.istore_n 1, 1) := by decide +kernel
theorem dX12_bits_14 : decode cX12_bits 14 = .ok (.iload_n 2, 1) := by decide +kernel
theorem dX12_bits_15 : decode cX12_bits 15 = .ok (.iconst 2, 1) := by decide +kernel
theorem dX12_bits_16 : decode cX12_bits 16 = .ok (.idiv, 1) := by decide +kernel
theorem dX12_bits_17 : decode cX12_bits 17 = .ok (.istore_n 2, 1) := by decide +kernel
theorem dX12_bits_18 : decode cX12_bits 18 = .ok (.goto (-14), 3) := by decide +kernel
theorem dX12_bits_21 : decode cX12_bits 21 = .ok (.iload_n 1, 1) := by decide +kernel
theorem dX12_bits_22 : decode cX12_bits 22 = .ok (.ireturn, 1) := by decide +kernel
theorem dX12_times_0 : decode cX12_times 0 = .ok (.lload_n 1, 1) := by decide +kernel
theorem dX12_times_1 : decode cX12_times 1 = .ok (.lload_n 3, 1) := by decide +kernel
theorem dX12_times_2 : decode cX12_times 2 = .ok (.lmul, 1) := by decide +kernel
theorem dX12_times_3 : decode cX12_times 3 = .ok (.lstore 5, 2) := by decide +kernel
theorem dX12_times_5 : decode cX12_times 5 = .ok (.lload_n 1, 1) := by decide +kernel
theorem dX12_times_6 : decode cX12_times 6 = .ok (.lconst 0, 1) := by decide +kernel
theorem dX12_times_7 : decode cX12_times 7 = .ok (.lcmp, 1) := by decide +kernel
theorem dX12_times_8 : decode cX12_times 8 = .ok (.ifCond .eq 33, 3) := by decide +kernel
theorem dX12_times_11 : decode cX12_times 11 = .ok (.lload 5, 2) := by decide +kernel
theorem dX12_times_13 : decode cX12_times 13 = .ok (.lload_n 1, 1) := by decide +kernel
theorem dX12_times_14 : decode cX12_times 14 = .ok (.ldiv, 1) := by decide +kernel
theorem dX12_times_15 : decode cX12_times 15 = .ok (.lload_n 3, 1) := by decide +kernel
theorem dX12_times_16 : decode cX12_times 16 = .ok (.lcmp, 1) := by decide +kernel
theorem dX12_times_17 : decode cX12_times 17 = .ok (.ifCond .ne 19, 3) := by decide +kernel
theorem dX12_times_20 : decode cX12_times 20 = .ok (.lload_n 1, 1) := by decide +kernel
theorem dX12_times_21 : decode cX12_times 21 = .ok (.ldc2_w 280, 3) := by decide +kernel
theorem dX12_times_24 : decode cX12_times 24 = .ok (.lcmp, 1) := by decide +kernel
theorem dX12_times_25 : decode cX12_times 25 = .ok (.ifCond .ne 16, 3) := by decide +kernel
theorem dX12_times_28 : decode cX12_times 28 = .ok (.lload_n 3, 1) := by decide +kernel
theorem dX12_times_29 : decode cX12_times 29 = .ok (.ldc2_w 379, 3) := by decide +kernel
theorem dX12_times_32 : decode cX12_times 32 = .ok (.lcmp, 1) := by decide +kernel
theorem dX12_times_33 : decode cX12_times 33 = .ok (.ifCond .ne 8, 3) := by decide +kernel
theorem dX12_times_36 : decode cX12_times 36 = .ok (.aload_n 0, 1) := by decide +kernel
theorem dX12_times_37 : decode cX12_times 37 = .ok (.iconst 1, 1) := by decide +kernel
theorem dX12_times_38 : decode cX12_times 38 = .ok (.putfield 381, 3) := by decide +kernel
theorem dX12_times_41 : decode cX12_times 41 = .ok (.lload 5, 2) := by decide +kernel
theorem dX12_times_43 : decode cX12_times 43 = .ok (.lreturn, 1) := by decide +kernel
theorem dX12_plus_0 : decode cX12_plus 0 = .ok (.lload_n 1, 1) := by decide +kernel
theorem dX12_plus_1 : decode cX12_plus 1 = .ok (.lload_n 3, 1) := by decide +kernel
theorem dX12_plus_2 : decode cX12_plus 2 = .ok (.ladd, 1) := by decide +kernel
theorem dX12_plus_3 : decode cX12_plus 3 = .ok (.lstore 5, 2) := by decide +kernel
theorem dX12_plus_5 : decode cX12_plus 5 = .ok (.lload_n 1, 1) := by decide +kernel
theorem dX12_plus_6 : decode cX12_plus 6 = .ok (.lload 5, 2) := by decide +kernel
theorem dX12_plus_8 : decode cX12_plus 8 = .ok (.lxor, 1) := by decide +kernel
theorem dX12_plus_9 : decode cX12_plus 9 = .ok (.lload_n 3, 1) := by decide +kernel
theorem dX12_plus_10 : decode cX12_plus 10 = .ok (.lload 5, 2) := by decide +kernel
theorem dX12_plus_12 : decode cX12_plus 12 = .ok (.lxor, 1) := by decide +kernel
theorem dX12_plus_13 : decode cX12_plus 13 = .ok (.land, 1) := by decide +kernel
theorem dX12_plus_14 : decode cX12_plus 14 = .ok (.lconst 0, 1) := by decide +kernel
theorem dX12_plus_15 : decode cX12_plus 15 = .ok (.lcmp, 1) := by decide +kernel
theorem dX12_plus_16 : decode cX12_plus 16 = .ok (.ifCond .ge 8, 3) := by decide +kernel
theorem dX12_plus_19 : decode cX12_plus 19 = .ok (.aload_n 0, 1) := by decide +kernel
theorem dX12_plus_20 : decode cX12_plus 20 = .ok (.iconst 1, 1) := by decide +kernel
theorem dX12_plus_21 : decode cX12_plus 21 = .ok (.putfield 381, 3) := by decide +kernel
theorem dX12_plus_24 : decode cX12_plus 24 = .ok (.lload 5, 2) := by decide +kernel
theorem dX12_plus_26 : decode cX12_plus 26 = .ok (.lreturn, 1) := by decide +kernel
theorem dX12_minus_0 : decode cX12_minus 0 = .ok (.lload_n 1, 1) := by decide +kernel
theorem dX12_minus_1 : decode cX12_minus 1 = .ok (.lload_n 3, 1) := by decide +kernel
theorem dX12_minus_2 : decode cX12_minus 2 = .ok (.lsub, 1) := by decide +kernel
theorem dX12_minus_3 : decode cX12_minus 3 = .ok (.lstore 5, 2) := by decide +kernel
theorem dX12_minus_5 : decode cX12_minus 5 = .ok (.lload_n 1, 1) := by decide +kernel
theorem dX12_minus_6 : decode cX12_minus 6 = .ok (.lload_n 3, 1) := by decide +kernel
theorem dX12_minus_7 : decode cX12_minus 7 = .ok (.lxor, 1) := by decide +kernel
theorem dX12_minus_8 : decode cX12_minus 8 = .ok (.lload_n 1, 1) := by decide +kernel
theorem dX12_minus_9 : decode cX12_minus 9 = .ok (.lload 5, 2) := by decide +kernel
theorem dX12_minus_11 : decode cX12_minus 11 = .ok (.lxor, 1) := by decide +kernel
theorem dX12_minus_12 : decode cX12_minus 12 = .ok (.land, 1) := by decide +kernel
theorem dX12_minus_13 : decode cX12_minus 13 = .ok (.lconst 0, 1) := by decide +kernel
theorem dX12_minus_14 : decode cX12_minus 14 = .ok (.lcmp, 1) := by decide +kernel
theorem dX12_minus_15 : decode cX12_minus 15 = .ok (.ifCond .ge 8, 3) := by decide +kernel
theorem dX12_minus_18 : decode cX12_minus 18 = .ok (.aload_n 0, 1) := by decide +kernel
theorem dX12_minus_19 : decode cX12_minus 19 = .ok (.iconst 1, 1) := by decide +kernel
theorem dX12_minus_20 : decode cX12_minus 20 = .ok (.putfield 381, 3) := by decide +kernel
theorem dX12_minus_23 : decode cX12_minus 23 = .ok (.lload 5, 2) := by decide +kernel
theorem dX12_minus_25 : decode cX12_minus 25 = .ok (.lreturn, 1) := by decide +kernel
theorem dX12_raised_0 : decode cX12_raised 0 = .ok (.lconst 1, 1) := by decide +kernel
theorem dX12_raised_1 : decode cX12_raised 1 = .ok (.lstore 4, 2) := by decide +kernel
theorem dX12_raised_3 : decode cX12_raised 3 = .ok (.iconst 0, 1) := by decide +kernel
theorem dX12_raised_4 : decode cX12_raised 4 = .ok (.istore 6, 2) := by decide +kernel
theorem dX12_raised_6 : decode cX12_raised 6 = .ok (.iload 6, 2) := by decide +kernel
theorem dX12_raised_8 : decode cX12_raised 8 = .ok (.iload_n 3, 1) := by decide +kernel
theorem dX12_raised_9 : decode cX12_raised 9 = .ok (.if_icmp .ge 18, 3) := by decide +kernel
theorem dX12_raised_12 : decode cX12_raised 12 = .ok (.aload_n 0, 1) := by decide +kernel
theorem dX12_raised_13 : decode cX12_raised 13 = .ok (.lload 4, 2) := by decide +kernel
theorem dX12_raised_15 : decode cX12_raised 15 = .ok (.lload_n 1, 1) := by decide +kernel
theorem dX12_raised_16 : decode cX12_raised 16 = .ok (.invokevirtual 384, 3) := by decide +kernel
theorem dX12_raised_19 : decode cX12_raised 19 = .ok (.lstore 4, 2) := by decide +kernel
theorem dX12_raised_21 : decode cX12_raised 21 = .ok (.iinc 6 1, 3) := by decide +kernel
theorem dX12_raised_24 : decode cX12_raised 24 = .ok (.goto (-18), 3) := by decide +kernel
theorem dX12_raised_27 : decode cX12_raised 27 = .ok (.lload 4, 2) := by decide +kernel
theorem dX12_raised_29 : decode cX12_raised 29 = .ok (.lreturn, 1) := by decide +kernel
theorem dX12_sideTells_0 : decode cX12_sideTells 0 = .ok (.iconst 0, 1) := by decide +kernel
theorem dX12_sideTells_1 : decode cX12_sideTells 1 = .ok (.istore_n 2, 1) := by decide +kernel
theorem dX12_sideTells_2 : decode cX12_sideTells 2 = .ok (.iload_n 1, 1) := by decide +kernel
theorem dX12_sideTells_3 : decode cX12_sideTells 3 = .ok (.ifCond .ne 7, 3) := by decide +kernel
theorem dX12_sideTells_6 : decode cX12_sideTells 6 = .ok (.iconst 0, 1) := by decide +kernel
theorem dX12_sideTells_7 : decode cX12_sideTells 7 = .ok (.goto 9, 3) := by decide +kernel
theorem dX12_sideTells_10 : decode cX12_sideTells 10 = .ok (.aload_n 0, 1) := by decide +kernel
theorem dX12_sideTells_11 : decode cX12_sideTells 11 = .ok (.getfield 69, 3) := by decide +kernel
theorem dX12_sideTells_14 : decode cX12_sideTells 14 = .ok (.iconst 0, 1) := by decide +kernel
theorem dX12_sideTells_15 : decode cX12_sideTells 15 = .ok (.iaload, 1) := by decide +kernel
theorem dX12_sideTells_16 : decode cX12_sideTells 16 = .ok (.istore_n 3, 1) := by decide +kernel
theorem dX12_sideTells_17 : decode cX12_sideTells 17 = .ok (.iload_n 3, 1) := by decide +kernel
theorem dX12_sideTells_18 : decode cX12_sideTells 18 = .ok (.aload_n 0, 1) := by decide +kernel
theorem dX12_sideTells_19 : decode cX12_sideTells 19 = .ok (.getfield 69, 3) := by decide +kernel
theorem dX12_sideTells_22 : decode cX12_sideTells 22 = .ok (.iload_n 1, 1) := by decide +kernel
theorem dX12_sideTells_23 : decode cX12_sideTells 23 = .ok (.iaload, 1) := by decide +kernel
theorem dX12_sideTells_24 : decode cX12_sideTells 24 = .ok (.if_icmp .ge 188, 3) := by decide +kernel
theorem dX12_sideTells_27 : decode cX12_sideTells 27 = .ok (.aload_n 0, 1) := by decide +kernel
theorem dX12_sideTells_28 : decode cX12_sideTells 28 = .ok (.getfield 66, 3) := by decide +kernel
theorem dX12_sideTells_31 : decode cX12_sideTells 31 = .ok (.iload_n 3, 1) := by decide +kernel
theorem dX12_sideTells_32 : decode cX12_sideTells 32 = .ok (.iaload, 1) := by decide +kernel
theorem dX12_sideTells_33 : decode cX12_sideTells 33 = .ok (.istore 4, 2) := by decide +kernel
theorem dX12_sideTells_35 : decode cX12_sideTells 35 = .ok (.iload 4, 2) := by decide +kernel
theorem dX12_sideTells_37 : decode cX12_sideTells 37 = .ok (.ifCond .eq 9, 3) := by decide +kernel
theorem dX12_sideTells_40 : decode cX12_sideTells 40 = .ok (.iload 4, 2) := by decide +kernel
theorem dX12_sideTells_42 : decode cX12_sideTells 42 = .ok (.iconst 1, 1) := by decide +kernel
theorem dX12_sideTells_43 : decode cX12_sideTells 43 = .ok (.if_icmp .ne 42, 3) := by decide +kernel
theorem dX12_sideTells_46 : decode cX12_sideTells 46 = .ok (.aload_n 0, 1) := by decide +kernel
theorem dX12_sideTells_47 : decode cX12_sideTells 47 = .ok (.getfield 75, 3) := by decide +kernel
theorem dX12_sideTells_50 : decode cX12_sideTells 50 = .ok (.iload_n 2, 1) := by decide +kernel
theorem dX12_sideTells_51 : decode cX12_sideTells 51 = .ok (.iload 4, 2) := by decide +kernel
theorem dX12_sideTells_53 : decode cX12_sideTells 53 = .ok (.ifCond .ne 13, 3) := by decide +kernel
theorem dX12_sideTells_56 : decode cX12_sideTells 56 = .ok (.aload_n 0, 1) := by decide +kernel
theorem dX12_sideTells_57 : decode cX12_sideTells 57 = .ok (.getfield 63, 3) := by decide +kernel
theorem dX12_sideTells_60 : decode cX12_sideTells 60 = .ok (.iload_n 3, 1) := by decide +kernel
theorem dX12_sideTells_61 : decode cX12_sideTells 61 = .ok (.iaload, 1) := by decide +kernel
theorem dX12_sideTells_62 : decode cX12_sideTells 62 = .ok (.i2l, 1) := by decide +kernel
theorem dX12_sideTells_63 : decode cX12_sideTells 63 = .ok (.goto 15, 3) := by decide +kernel
theorem dX12_sideTells_66 : decode cX12_sideTells 66 = .ok (.aload_n 0, 1) := by decide +kernel
theorem dX12_sideTells_67 : decode cX12_sideTells 67 = .ok (.getfield 72, 3) := by decide +kernel
theorem dX12_sideTells_70 : decode cX12_sideTells 70 = .ok (.aload_n 0, 1) := by decide +kernel
theorem dX12_sideTells_71 : decode cX12_sideTells 71 = .ok (.getfield 63, 3) := by decide +kernel
theorem dX12_sideTells_74 : decode cX12_sideTells 74 = .ok (.iload_n 3, 1) := by decide +kernel
theorem dX12_sideTells_75 : decode cX12_sideTells 75 = .ok (.iaload, 1) := by decide +kernel
theorem dX12_sideTells_76 : decode cX12_sideTells 76 = .ok (.iaload, 1) := by decide +kernel
theorem dX12_sideTells_77 : decode cX12_sideTells 77 = .ok (.i2l, 1) := by decide +kernel
theorem dX12_sideTells_78 : decode cX12_sideTells 78 = .ok (.lastore, 1) := by decide +kernel
theorem dX12_sideTells_79 : decode cX12_sideTells 79 = .ok (.iinc 2 1, 3) := by decide +kernel
theorem dX12_sideTells_82 : decode cX12_sideTells 82 = .ok (.goto 124, 3) := by decide +kernel
theorem dX12_sideTells_85 : decode cX12_sideTells 85 = .ok (.iload 4, 2) := by decide +kernel
theorem dX12_sideTells_87 : decode cX12_sideTells 87 = .ok (.bipush 94, 2) := by decide +kernel
theorem dX12_sideTells_89 : decode cX12_sideTells 89 = .ok (.if_icmp .ne 32, 3) := by decide +kernel
theorem dX12_sideTells_92 : decode cX12_sideTells 92 = .ok (.aload_n 0, 1) := by decide +kernel
theorem dX12_sideTells_93 : decode cX12_sideTells 93 = .ok (.getfield 75, 3) := by decide +kernel
theorem dX12_sideTells_96 : decode cX12_sideTells 96 = .ok (.iload_n 2, 1) := by decide +kernel
theorem dX12_sideTells_97 : decode cX12_sideTells 97 = .ok (.iconst 1, 1) := by decide +kernel
theorem dX12_sideTells_98 : decode cX12_sideTells 98 = .ok (.isub, 1) := by decide +kernel
theorem dX12_sideTells_99 : decode cX12_sideTells 99 = .ok (.aload_n 0, 1) := by decide +kernel
theorem dX12_sideTells_100 : decode cX12_sideTells 100 = .ok (.aload_n 0, 1) := by decide +kernel
theorem dX12_sideTells_101 : decode cX12_sideTells 101 = .ok (.getfield 75, 3) := by decide +kernel
theorem dX12_sideTells_104 : decode cX12_sideTells 104 = .ok (.iload_n 2, 1) := by decide +kernel
theorem dX12_sideTells_105 : decode cX12_sideTells 105 = .ok (.iconst 1, 1) := by decide +kernel
theorem dX12_sideTells_106 : decode cX12_sideTells 106 = .ok (.isub, 1) := by decide +kernel
theorem dX12_sideTells_107 : decode cX12_sideTells 107 = .ok (.laload, 1) := by decide +kernel
theorem dX12_sideTells_108 : decode cX12_sideTells 108 = .ok (.aload_n 0, 1) := by decide +kernel
theorem dX12_sideTells_109 : decode cX12_sideTells 109 = .ok (.getfield 63, 3) := by decide +kernel
theorem dX12_sideTells_112 : decode cX12_sideTells 112 = .ok (.iload_n 3, 1) := by decide +kernel
theorem dX12_sideTells_113 : decode cX12_sideTells 113 = .ok (.iaload, 1) := by decide +kernel
theorem dX12_sideTells_114 : decode cX12_sideTells 114 = .ok (.invokevirtual 388, 3) := by decide +kernel
theorem dX12_sideTells_117 : decode cX12_sideTells 117 = .ok (.lastore, 1) := by decide +kernel
theorem dX12_sideTells_118 : decode cX12_sideTells 118 = .ok (.goto 88, 3) := by decide +kernel
theorem dX12_sideTells_121 : decode cX12_sideTells 121 = .ok (.iinc 2 (-1), 3) := by decide +kernel
theorem dX12_sideTells_124 : decode cX12_sideTells 124 = .ok (.aload_n 0, 1) := by decide +kernel
theorem dX12_sideTells_125 : decode cX12_sideTells 125 = .ok (.getfield 75, 3) := by decide +kernel
theorem dX12_sideTells_128 : decode cX12_sideTells 128 = .ok (.iload_n 2, 1) := by decide +kernel
theorem dX12_sideTells_129 : decode cX12_sideTells 129 = .ok (.iconst 1, 1) := by decide +kernel
theorem dX12_sideTells_130 : decode cX12_sideTells 130 = .ok (.isub, 1) := by decide +kernel
theorem dX12_sideTells_131 : decode cX12_sideTells 131 = .ok (.iload 4, 2) := by decide +kernel
theorem dX12_sideTells_133 : decode cX12_sideTells 133 = .ok (.bipush 43, 2) := by decide +kernel
theorem dX12_sideTells_135 : decode cX12_sideTells 135 = .ok (.if_icmp .ne 24, 3) := by decide +kernel
theorem dX12_sideTells_138 : decode cX12_sideTells 138 = .ok (.aload_n 0, 1) := by decide +kernel
theorem dX12_sideTells_139 : decode cX12_sideTells 139 = .ok (.aload_n 0, 1) := by decide +kernel
theorem dX12_sideTells_140 : decode cX12_sideTells 140 = .ok (.getfield 75, 3) := by decide +kernel
theorem dX12_sideTells_143 : decode cX12_sideTells 143 = .ok (.iload_n 2, 1) := by decide +kernel
theorem dX12_sideTells_144 : decode cX12_sideTells 144 = .ok (.iconst 1, 1) := by decide +kernel
theorem dX12_sideTells_145 : decode cX12_sideTells 145 = .ok (.isub, 1) := by decide +kernel
theorem dX12_sideTells_146 : decode cX12_sideTells 146 = .ok (.laload, 1) := by decide +kernel
theorem dX12_sideTells_147 : decode cX12_sideTells 147 = .ok (.aload_n 0, 1) := by decide +kernel
theorem dX12_sideTells_148 : decode cX12_sideTells 148 = .ok (.getfield 75, 3) := by decide +kernel
theorem dX12_sideTells_151 : decode cX12_sideTells 151 = .ok (.iload_n 2, 1) := by decide +kernel
theorem dX12_sideTells_152 : decode cX12_sideTells 152 = .ok (.laload, 1) := by decide +kernel
theorem dX12_sideTells_153 : decode cX12_sideTells 153 = .ok (.invokevirtual 392, 3) := by decide +kernel
theorem dX12_sideTells_156 : decode cX12_sideTells 156 = .ok (.goto 49, 3) := by decide +kernel
theorem dX12_sideTells_159 : decode cX12_sideTells 159 = .ok (.iload 4, 2) := by decide +kernel
theorem dX12_sideTells_161 : decode cX12_sideTells 161 = .ok (.bipush 45, 2) := by decide +kernel
theorem dX12_sideTells_163 : decode cX12_sideTells 163 = .ok (.if_icmp .ne 24, 3) := by decide +kernel
theorem dX12_sideTells_166 : decode cX12_sideTells 166 = .ok (.aload_n 0, 1) := by decide +kernel
theorem dX12_sideTells_167 : decode cX12_sideTells 167 = .ok (.aload_n 0, 1) := by decide +kernel
theorem dX12_sideTells_168 : decode cX12_sideTells 168 = .ok (.getfield 75, 3) := by decide +kernel
theorem dX12_sideTells_171 : decode cX12_sideTells 171 = .ok (.iload_n 2, 1) := by decide +kernel
theorem dX12_sideTells_172 : decode cX12_sideTells 172 = .ok (.iconst 1, 1) := by decide +kernel
theorem dX12_sideTells_173 : decode cX12_sideTells 173 = .ok (.isub, 1) := by decide +kernel
theorem dX12_sideTells_174 : decode cX12_sideTells 174 = .ok (.laload, 1) := by decide +kernel
theorem dX12_sideTells_175 : decode cX12_sideTells 175 = .ok (.aload_n 0, 1) := by decide +kernel
theorem dX12_sideTells_176 : decode cX12_sideTells 176 = .ok (.getfield 75, 3) := by decide +kernel
theorem dX12_sideTells_179 : decode cX12_sideTells 179 = .ok (.iload_n 2, 1) := by decide +kernel
theorem dX12_sideTells_180 : decode cX12_sideTells 180 = .ok (.laload, 1) := by decide +kernel
theorem dX12_sideTells_181 : decode cX12_sideTells 181 = .ok (.invokevirtual 395, 3) := by decide +kernel
theorem dX12_sideTells_184 : decode cX12_sideTells 184 = .ok (.goto 21, 3) := by decide +kernel
theorem dX12_sideTells_187 : decode cX12_sideTells 187 = .ok (.aload_n 0, 1) := by decide +kernel
theorem dX12_sideTells_188 : decode cX12_sideTells 188 = .ok (.aload_n 0, 1) := by decide +kernel
theorem dX12_sideTells_189 : decode cX12_sideTells 189 = .ok (.getfield 75, 3) := by decide +kernel
theorem dX12_sideTells_192 : decode cX12_sideTells 192 = .ok (.iload_n 2, 1) := by decide +kernel
theorem dX12_sideTells_193 : decode cX12_sideTells 193 = .ok (.iconst 1, 1) := by decide +kernel
theorem dX12_sideTells_194 : decode cX12_sideTells 194 = .ok (.isub, 1) := by decide +kernel
theorem dX12_sideTells_195 : decode cX12_sideTells 195 = .ok (.laload, 1) := by decide +kernel
theorem dX12_sideTells_196 : decode cX12_sideTells 196 = .ok (.aload_n 0, 1) := by decide +kernel
theorem dX12_sideTells_197 : decode cX12_sideTells 197 = .ok (.getfield 75, 3) := by decide +kernel
theorem dX12_sideTells_200 : decode cX12_sideTells 200 = .ok (.iload_n 2, 1) := by decide +kernel
theorem dX12_sideTells_201 : decode cX12_sideTells 201 = .ok (.laload, 1) := by decide +kernel
theorem dX12_sideTells_202 : decode cX12_sideTells 202 = .ok (.invokevirtual 384, 3) := by decide +kernel
theorem dX12_sideTells_205 : decode cX12_sideTells 205 = .ok (.lastore, 1) := by decide +kernel
theorem dX12_sideTells_206 : decode cX12_sideTells 206 = .ok (.iinc 3 1, 3) := by decide +kernel
theorem dX12_sideTells_209 : decode cX12_sideTells 209 = .ok (.goto (-192), 3) := by decide +kernel
theorem dX12_sideTells_212 : decode cX12_sideTells 212 = .ok (.aload_n 0, 1) := by decide +kernel
theorem dX12_sideTells_213 : decode cX12_sideTells 213 = .ok (.getfield 75, 3) := by decide +kernel
theorem dX12_sideTells_216 : decode cX12_sideTells 216 = .ok (.iconst 0, 1) := by decide +kernel
theorem dX12_sideTells_217 : decode cX12_sideTells 217 = .ok (.laload, 1) := by decide +kernel
theorem dX12_sideTells_218 : decode cX12_sideTells 218 = .ok (.lreturn, 1) := by decide +kernel
theorem dX12_isBroken_0 : decode cX12_isBroken 0 = .ok (.aload_n 0, 1) := by decide +kernel
theorem dX12_isBroken_1 : decode cX12_isBroken 1 = .ok (.iconst 0, 1) := by decide +kernel
theorem dX12_isBroken_2 : decode cX12_isBroken 2 = .ok (.putfield 381, 3) := by decide +kernel
theorem dX12_isBroken_5 : decode cX12_isBroken 5 = .ok (.aload_n 0, 1) := by decide +kernel
theorem dX12_isBroken_6 : decode cX12_isBroken 6 = .ok (.iconst 0, 1) := by decide +kernel
theorem dX12_isBroken_7 : decode cX12_isBroken 7 = .ok (.invokevirtual 398, 3) := by decide +kernel
theorem dX12_isBroken_10 : decode cX12_isBroken 10 = .ok (.lstore_n 1, 1) := by decide +kernel
theorem dX12_isBroken_11 : decode cX12_isBroken 11 = .ok (.aload_n 0, 1) := by decide +kernel
theorem dX12_isBroken_12 : decode cX12_isBroken 12 = .ok (.iconst 1, 1) := by decide +kernel
theorem dX12_isBroken_13 : decode cX12_isBroken 13 = .ok (.invokevirtual 398, 3) := by decide +kernel
theorem dX12_isBroken_16 : decode cX12_isBroken 16 = .ok (.lstore_n 3, 1) := by decide +kernel
theorem dX12_isBroken_17 : decode cX12_isBroken 17 = .ok (.aload_n 0, 1) := by decide +kernel
theorem dX12_isBroken_18 : decode cX12_isBroken 18 = .ok (.getfield 381, 3) := by decide +kernel
theorem dX12_isBroken_21 : decode cX12_isBroken 21 = .ok (.ifCond .ne 9, 3) := by decide +kernel
theorem dX12_isBroken_24 : decode cX12_isBroken 24 = .ok (.lload_n 1, 1) := by decide +kernel
theorem dX12_isBroken_25 : decode cX12_isBroken 25 = .ok (.lload_n 3, 1) := by decide +kernel
theorem dX12_isBroken_26 : decode cX12_isBroken 26 = .ok (.lcmp, 1) := by decide +kernel
theorem dX12_isBroken_27 : decode cX12_isBroken 27 = .ok (.ifCond .eq 7, 3) := by decide +kernel
theorem dX12_isBroken_30 : decode cX12_isBroken 30 = .ok (.iconst 1, 1) := by decide +kernel
theorem dX12_isBroken_31 : decode cX12_isBroken 31 = .ok (.goto 4, 3) := by decide +kernel
theorem dX12_isBroken_34 : decode cX12_isBroken 34 = .ok (.iconst 0, 1) := by decide +kernel
theorem dX12_isBroken_35 : decode cX12_isBroken 35 = .ok (.ireturn, 1) := by decide +kernel
theorem dX12_goesOn_0 : decode cX12_goesOn 0 = .ok (.iconst 5, 1) := by decide +kernel
theorem dX12_goesOn_1 : decode cX12_goesOn 1 = .ok (.istore_n 2, 1) := by decide +kernel
theorem dX12_goesOn_2 : decode cX12_goesOn 2 = .ok (.iload_n 2, 1) := by decide +kernel
theorem dX12_goesOn_3 : decode cX12_goesOn 3 = .ok (.ifCond .lt 53, 3) := by decide +kernel
theorem dX12_goesOn_6 : decode cX12_goesOn 6 = .ok (.aload_n 0, 1) := by decide +kernel
theorem dX12_goesOn_7 : decode cX12_goesOn 7 = .ok (.getfield 373, 3) := by decide +kernel
theorem dX12_goesOn_10 : decode cX12_goesOn 10 = .ok (.iload_n 2, 1) := by decide +kernel
theorem dX12_goesOn_11 : decode cX12_goesOn 11 = .ok (.ishr, 1) := by decide +kernel
theorem dX12_goesOn_12 : decode cX12_goesOn 12 = .ok (.iconst 1, 1) := by decide +kernel
theorem dX12_goesOn_13 : decode cX12_goesOn 13 = .ok (.iand, 1) := by decide +kernel
theorem dX12_goesOn_14 : decode cX12_goesOn 14 = .ok (.ifCond .ne 6, 3) := by decide +kernel
theorem dX12_goesOn_17 : decode cX12_goesOn 17 = .ok (.goto 33, 3) := by decide +kernel
theorem dX12_goesOn_20 : decode cX12_goesOn 20 = .ok (.aload_n 0, 1) := by decide +kernel
theorem dX12_goesOn_21 : decode cX12_goesOn 21 = .ok (.getfield 72, 3) := by decide +kernel
theorem dX12_goesOn_24 : decode cX12_goesOn 24 = .ok (.iload_n 2, 1) := by decide +kernel
theorem dX12_goesOn_25 : decode cX12_goesOn 25 = .ok (.iaload, 1) := by decide +kernel
theorem dX12_goesOn_26 : decode cX12_goesOn 26 = .ok (.iload_n 1, 1) := by decide +kernel
theorem dX12_goesOn_27 : decode cX12_goesOn 27 = .ok (.if_icmp .ge 15, 3) := by decide +kernel
theorem dX12_goesOn_30 : decode cX12_goesOn 30 = .ok (.aload_n 0, 1) := by decide +kernel
theorem dX12_goesOn_31 : decode cX12_goesOn 31 = .ok (.getfield 72, 3) := by decide +kernel
theorem dX12_goesOn_34 : decode cX12_goesOn 34 = .ok (.iload_n 2, 1) := by decide +kernel
theorem dX12_goesOn_35 : decode cX12_goesOn 35 = .ok (.dup2, 1) := by decide +kernel
theorem dX12_goesOn_36 : decode cX12_goesOn 36 = .ok (.iaload, 1) := by decide +kernel
theorem dX12_goesOn_37 : decode cX12_goesOn 37 = .ok (.iconst 1, 1) := by decide +kernel
theorem dX12_goesOn_38 : decode cX12_goesOn 38 = .ok (.iadd, 1) := by decide +kernel
theorem dX12_goesOn_39 : decode cX12_goesOn 39 = .ok (.iastore, 1) := by decide +kernel
theorem dX12_goesOn_40 : decode cX12_goesOn 40 = .ok (.iconst 1, 1) := by decide +kernel
theorem dX12_goesOn_41 : decode cX12_goesOn 41 = .ok (.ireturn, 1) := by decide +kernel
theorem dX12_goesOn_42 : decode cX12_goesOn 42 = .ok (.aload_n 0, 1) := by decide +kernel
theorem dX12_goesOn_43 : decode cX12_goesOn 43 = .ok (.getfield 72, 3) := by decide +kernel
theorem dX12_goesOn_46 : decode cX12_goesOn 46 = .ok (.iload_n 2, 1) := by decide +kernel
theorem dX12_goesOn_47 : decode cX12_goesOn 47 = .ok (.iload_n 1, 1) := by decide +kernel
theorem dX12_goesOn_48 : decode cX12_goesOn 48 = .ok (.ineg, 1) := by decide +kernel
theorem dX12_goesOn_49 : decode cX12_goesOn 49 = .ok (.iastore, 1) := by decide +kernel
theorem dX12_goesOn_50 : decode cX12_goesOn 50 = .ok (.iinc 2 (-1), 3) := by decide +kernel
theorem dX12_goesOn_53 : decode cX12_goesOn 53 = .ok (.goto (-51), 3) := by decide +kernel
theorem dX12_goesOn_56 : decode cX12_goesOn 56 = .ok (.iconst 0, 1) := by decide +kernel
theorem dX12_goesOn_57 : decode cX12_goesOn 57 = .ok (.ireturn, 1) := by decide +kernel
theorem dX12_tried_0 : decode cX12_tried 0 = .ok (.aload_n 0, 1) := by decide +kernel
theorem dX12_tried_1 : decode cX12_tried 1 = .ok (.getfield 367, 3) := by decide +kernel
theorem dX12_tried_4 : decode cX12_tried 4 = .ok (.ifCond .eq 27, 3) := by decide +kernel
theorem dX12_tried_7 : decode cX12_tried 7 = .ok (.iload_n 1, 1) := by decide +kernel
theorem dX12_tried_8 : decode cX12_tried 8 = .ok (.i2l, 1) := by decide +kernel
theorem dX12_tried_9 : decode cX12_tried 9 = .ok (.lconst 0, 1) := by decide +kernel
theorem dX12_tried_10 : decode cX12_tried 10 = .ok (.ldc2_w 109, 3) := by decide +kernel
theorem dX12_tried_13 : decode cX12_tried 13 = .ok (.invokestatic 105, 3) := by decide +kernel
theorem dX12_tried_16 : decode cX12_tried 16 = .ok (.ifCond .eq 15, 3) := by decide +kernel
theorem dX12_tried_19 : decode cX12_tried 19 = .ok (.iload_n 2, 1) := by decide +kernel
theorem dX12_tried_20 : decode cX12_tried 20 = .ok (.i2l, 1) := by decide +kernel
theorem dX12_tried_21 : decode cX12_tried 21 = .ok (.lconst 0, 1) := by decide +kernel
theorem dX12_tried_22 : decode cX12_tried 22 = .ok (.ldc2_w 401, 3) := by decide +kernel
theorem dX12_tried_25 : decode cX12_tried 25 = .ok (.invokestatic 105, 3) := by decide +kernel
theorem dX12_tried_28 : decode cX12_tried 28 = .ok (.ifCond .ne 7, 3) := by decide +kernel
theorem dX12_tried_31 : decode cX12_tried 31 = .ok (.ldc_w 321, 3) := by decide +kernel
theorem dX12_tried_34 : decode cX12_tried 34 = .ok (.ireturn, 1) := by decide +kernel
theorem dX12_tried_35 : decode cX12_tried 35 = .ok (.iconst 0, 1) := by decide +kernel
theorem dX12_tried_36 : decode cX12_tried 36 = .ok (.istore_n 3, 1) := by decide +kernel
theorem dX12_tried_37 : decode cX12_tried 37 = .ok (.iload_n 3, 1) := by decide +kernel
theorem dX12_tried_38 : decode cX12_tried 38 = .ok (.bipush 6, 2) := by decide +kernel
theorem dX12_tried_40 : decode cX12_tried 40 = .ok (.if_icmp .ge 33, 3) := by decide +kernel
theorem dX12_tried_43 : decode cX12_tried 43 = .ok (.aload_n 0, 1) := by decide +kernel
theorem dX12_tried_44 : decode cX12_tried 44 = .ok (.getfield 72, 3) := by decide +kernel
theorem dX12_tried_47 : decode cX12_tried 47 = .ok (.iload_n 3, 1) := by decide +kernel
theorem dX12_tried_48 : decode cX12_tried 48 = .ok (.aload_n 0, 1) := by decide +kernel
theorem dX12_tried_49 : decode cX12_tried 49 = .ok (.getfield 373, 3) := by decide +kernel
theorem dX12_tried_52 : decode cX12_tried 52 = .ok (.iload_n 3, 1) := by decide +kernel
theorem dX12_tried_53 : decode cX12_tried 53 = .ok (.ishr, 1) := by decide +kernel
theorem dX12_tried_54 : decode cX12_tried 54 = .ok (.iconst 1, 1) := by decide +kernel
theorem dX12_tried_55 : decode cX12_tried 55 = .ok (.iand, 1) := by decide +kernel
theorem dX12_tried_56 : decode cX12_tried 56 = .ok (.iconst 1, 1) := by decide +kernel
theorem dX12_tried_57 : decode cX12_tried 57 = .ok (.if_icmp .ne 8, 3) := by decide +kernel
theorem dX12_tried_60 : decode cX12_tried 60 = .ok (.iload_n 1, 1) := by decide +kernel
theorem dX12_tried_61 : decode cX12_tried 61 = .ok (.ineg, 1) := by decide +kernel
theorem dX12_tried_62 : decode cX12_tried 62 = .ok (.goto 4, 3) := by decide +kernel
theorem dX12_tried_65 : decode cX12_tried 65 = .ok (.iconst 0, 1) := by decide +kernel
theorem dX12_tried_66 : decode cX12_tried 66 = .ok (.iastore, 1) := by decide +kernel
theorem dX12_tried_67 : decode cX12_tried 67 = .ok (.iinc 3 1, 3) := by decide +kernel
theorem dX12_tried_70 : decode cX12_tried 70 = .ok (.goto (-33), 3) := by decide +kernel
theorem dX12_tried_73 : decode cX12_tried 73 = .ok (.iconst 0, 1) := by decide +kernel
theorem dX12_tried_74 : decode cX12_tried 74 = .ok (.istore_n 3, 1) := by decide +kernel
theorem dX12_tried_75 : decode cX12_tried 75 = .ok (.iconst 1, 1) := by decide +kernel
theorem dX12_tried_76 : decode cX12_tried 76 = .ok (.istore 4, 2) := by decide +kernel
theorem dX12_tried_78 : decode cX12_tried 78 = .ok (.iload 4, 2) := by decide +kernel
theorem dX12_tried_80 : decode cX12_tried 80 = .ok (.ifCond .eq 71, 3) := by decide +kernel
theorem dX12_tried_83 : decode cX12_tried 83 = .ok (.aload_n 0, 1) := by decide +kernel
theorem dX12_tried_84 : decode cX12_tried 84 = .ok (.invokevirtual 403, 3) := by decide +kernel
theorem dX12_tried_87 : decode cX12_tried 87 = .ok (.ifCond .eq 54, 3) := by decide +kernel
theorem dX12_tried_90 : decode cX12_tried 90 = .ok (.iload_n 3, 1) := by decide +kernel
theorem dX12_tried_91 : decode cX12_tried 91 = .ok (.ifCond .ne 47, 3) := by decide +kernel
theorem dX12_tried_94 : decode cX12_tried 94 = .ok (.iconst 0, 1) := by decide +kernel
theorem dX12_tried_95 : decode cX12_tried 95 = .ok (.istore 5, 2) := by decide +kernel
theorem dX12_tried_97 : decode cX12_tried 97 = .ok (.iload 5, 2) := by decide +kernel
theorem dX12_tried_99 : decode cX12_tried 99 = .ok (.bipush 6, 2) := by decide +kernel
theorem dX12_tried_101 : decode cX12_tried 101 = .ok (.if_icmp .ge 23, 3) := by decide +kernel
theorem dX12_tried_104 : decode cX12_tried 104 = .ok (.aload_n 0, 1) := by decide +kernel
theorem dX12_tried_105 : decode cX12_tried 105 = .ok (.getfield 78, 3) := by decide +kernel
theorem dX12_tried_108 : decode cX12_tried 108 = .ok (.iload 5, 2) := by decide +kernel
theorem dX12_tried_110 : decode cX12_tried 110 = .ok (.aload_n 0, 1) := by decide +kernel
theorem dX12_tried_111 : decode cX12_tried 111 = .ok (.getfield 72, 3) := by decide +kernel
theorem dX12_tried_114 : decode cX12_tried 114 = .ok (.iload 5, 2) := by decide +kernel
theorem dX12_tried_116 : decode cX12_tried 116 = .ok (.iaload, 1) := by decide +kernel
theorem dX12_tried_117 : decode cX12_tried 117 = .ok (.iastore, 1) := by decide +kernel
theorem dX12_tried_118 : decode cX12_tried 118 = .ok (.iinc 5 1, 3) := by decide +kernel
theorem dX12_tried_121 : decode cX12_tried 121 = .ok (.goto (-24), 3) := by decide +kernel
theorem dX12_tried_124 : decode cX12_tried 124 = .ok (.aload_n 0, 1) := by decide +kernel
theorem dX12_tried_125 : decode cX12_tried 125 = .ok (.getfield 78, 3) := by decide +kernel
theorem dX12_tried_128 : decode cX12_tried 128 = .ok (.bipush 6, 2) := by decide +kernel
theorem dX12_tried_130 : decode cX12_tried 130 = .ok (.aload_n 0, 1) := by decide +kernel
theorem dX12_tried_131 : decode cX12_tried 131 = .ok (.getfield 381, 3) := by decide +kernel
theorem dX12_tried_134 : decode cX12_tried 134 = .ok (.invokestatic 406, 3) := by decide +kernel
theorem dX12_tried_137 : decode cX12_tried 137 = .ok (.iastore, 1) := by decide +kernel
theorem dX12_tried_138 : decode cX12_tried 138 = .ok (.iinc 3 1, 3) := by decide +kernel
theorem dX12_tried_141 : decode cX12_tried 141 = .ok (.aload_n 0, 1) := by decide +kernel
theorem dX12_tried_142 : decode cX12_tried 142 = .ok (.iload_n 1, 1) := by decide +kernel
theorem dX12_tried_143 : decode cX12_tried 143 = .ok (.invokevirtual 410, 3) := by decide +kernel
theorem dX12_tried_146 : decode cX12_tried 146 = .ok (.istore 4, 2) := by decide +kernel
theorem dX12_tried_148 : decode cX12_tried 148 = .ok (.goto (-70), 3) := by decide +kernel
theorem dX12_tried_151 : decode cX12_tried 151 = .ok (.iload_n 2, 1) := by decide +kernel
theorem dX12_tried_152 : decode cX12_tried 152 = .ok (.ifCond .ne 7, 3) := by decide +kernel
theorem dX12_tried_155 : decode cX12_tried 155 = .ok (.iload_n 3, 1) := by decide +kernel
theorem dX12_tried_156 : decode cX12_tried 156 = .ok (.goto 21, 3) := by decide +kernel
theorem dX12_tried_159 : decode cX12_tried 159 = .ok (.iload_n 3, 1) := by decide +kernel
theorem dX12_tried_160 : decode cX12_tried 160 = .ok (.ifCond .ne 9, 3) := by decide +kernel
theorem dX12_tried_163 : decode cX12_tried 163 = .ok (.ldc_w 321, 3) := by decide +kernel
theorem dX12_tried_166 : decode cX12_tried 166 = .ok (.goto 11, 3) := by decide +kernel
theorem dX12_tried_169 : decode cX12_tried 169 = .ok (.aload_n 0, 1) := by decide +kernel
theorem dX12_tried_170 : decode cX12_tried 170 = .ok (.getfield 78, 3) := by decide +kernel
theorem dX12_tried_173 : decode cX12_tried 173 = .ok (.iload_n 2, 1) := by decide +kernel
theorem dX12_tried_174 : decode cX12_tried 174 = .ok (.iconst 1, 1) := by decide +kernel
theorem dX12_tried_175 : decode cX12_tried 175 = .ok (.isub, 1) := by decide +kernel
theorem dX12_tried_176 : decode cX12_tried 176 = .ok (.iaload, 1) := by decide +kernel
theorem dX12_tried_177 : decode cX12_tried 177 = .ok (.ireturn, 1) := by decide +kernel
theorem dX12_side_0 : decode cX12_side 0 = .ok (.aload_n 0, 1) := by decide +kernel
theorem dX12_side_1 : decode cX12_side 1 = .ok (.getfield 367, 3) := by decide +kernel
theorem dX12_side_4 : decode cX12_side 4 = .ok (.ifCond .eq 101, 3) := by decide +kernel
theorem dX12_side_7 : decode cX12_side 7 = .ok (.iload_n 1, 1) := by decide +kernel
theorem dX12_side_8 : decode cX12_side 8 = .ok (.i2l, 1) := by decide +kernel
theorem dX12_side_9 : decode cX12_side 9 = .ok (.lconst 0, 1) := by decide +kernel
theorem dX12_side_10 : decode cX12_side 10 = .ok (.lconst 1, 1) := by decide +kernel
theorem dX12_side_11 : decode cX12_side 11 = .ok (.invokestatic 105, 3) := by decide +kernel
theorem dX12_side_14 : decode cX12_side 14 = .ok (.ifCond .eq 91, 3) := by decide +kernel
theorem dX12_side_17 : decode cX12_side 17 = .ok (.iload_n 2, 1) := by decide +kernel
theorem dX12_side_18 : decode cX12_side 18 = .ok (.i2l, 1) := by decide +kernel
theorem dX12_side_19 : decode cX12_side 19 = .ok (.ldc2_w 413, 3) := by decide +kernel
theorem dX12_side_22 : decode cX12_side 22 = .ok (.ldc2_w 415, 3) := by decide +kernel
theorem dX12_side_25 : decode cX12_side 25 = .ok (.invokestatic 105, 3) := by decide +kernel
theorem dX12_side_28 : decode cX12_side 28 = .ok (.ifCond .eq 77, 3) := by decide +kernel
theorem dX12_side_31 : decode cX12_side 31 = .ok (.iload_n 3, 1) := by decide +kernel
theorem dX12_side_32 : decode cX12_side 32 = .ok (.i2l, 1) := by decide +kernel
theorem dX12_side_33 : decode cX12_side 33 = .ok (.ldc2_w 413, 3) := by decide +kernel
theorem dX12_side_36 : decode cX12_side 36 = .ok (.ldc2_w 415, 3) := by decide +kernel
theorem dX12_side_39 : decode cX12_side 39 = .ok (.invokestatic 105, 3) := by decide +kernel
theorem dX12_side_42 : decode cX12_side 42 = .ok (.ifCond .eq 63, 3) := by decide +kernel
theorem dX12_side_45 : decode cX12_side 45 = .ok (.iload 4, 2) := by decide +kernel
theorem dX12_side_47 : decode cX12_side 47 = .ok (.i2l, 1) := by decide +kernel
theorem dX12_side_48 : decode cX12_side 48 = .ok (.ldc2_w 413, 3) := by decide +kernel
theorem dX12_side_51 : decode cX12_side 51 = .ok (.ldc2_w 415, 3) := by decide +kernel
theorem dX12_side_54 : decode cX12_side 54 = .ok (.invokestatic 105, 3) := by decide +kernel
theorem dX12_side_57 : decode cX12_side 57 = .ok (.ifCond .eq 48, 3) := by decide +kernel
theorem dX12_side_60 : decode cX12_side 60 = .ok (.iload 5, 2) := by decide +kernel
theorem dX12_side_62 : decode cX12_side 62 = .ok (.i2l, 1) := by decide +kernel
theorem dX12_side_63 : decode cX12_side 63 = .ok (.ldc2_w 413, 3) := by decide +kernel
theorem dX12_side_66 : decode cX12_side 66 = .ok (.ldc2_w 415, 3) := by decide +kernel
theorem dX12_side_69 : decode cX12_side 69 = .ok (.invokestatic 105, 3) := by decide +kernel
theorem dX12_side_72 : decode cX12_side 72 = .ok (.ifCond .eq 33, 3) := by decide +kernel
theorem dX12_side_75 : decode cX12_side 75 = .ok (.iload 6, 2) := by decide +kernel
theorem dX12_side_77 : decode cX12_side 77 = .ok (.i2l, 1) := by decide +kernel
theorem dX12_side_78 : decode cX12_side 78 = .ok (.ldc2_w 413, 3) := by decide +kernel
theorem dX12_side_81 : decode cX12_side 81 = .ok (.ldc2_w 415, 3) := by decide +kernel
theorem dX12_side_84 : decode cX12_side 84 = .ok (.invokestatic 105, 3) := by decide +kernel
theorem dX12_side_87 : decode cX12_side 87 = .ok (.ifCond .eq 18, 3) := by decide +kernel
theorem dX12_side_90 : decode cX12_side 90 = .ok (.iload 7, 2) := by decide +kernel
theorem dX12_side_92 : decode cX12_side 92 = .ok (.i2l, 1) := by decide +kernel
theorem dX12_side_93 : decode cX12_side 93 = .ok (.ldc2_w 413, 3) := by decide +kernel
theorem dX12_side_96 : decode cX12_side 96 = .ok (.ldc2_w 415, 3) := by decide +kernel
theorem dX12_side_99 : decode cX12_side 99 = .ok (.invokestatic 105, 3) := by decide +kernel
theorem dX12_side_102 : decode cX12_side 102 = .ok (.ifCond .ne 7, 3) := by decide +kernel
theorem dX12_side_105 : decode cX12_side 105 = .ok (.ldc2_w 379, 3) := by decide +kernel
theorem dX12_side_108 : decode cX12_side 108 = .ok (.lreturn, 1) := by decide +kernel
theorem dX12_side_109 : decode cX12_side 109 = .ok (.aload_n 0, 1) := by decide +kernel
theorem dX12_side_110 : decode cX12_side 110 = .ok (.getfield 72, 3) := by decide +kernel
theorem dX12_side_113 : decode cX12_side 113 = .ok (.iconst 0, 1) := by decide +kernel
theorem dX12_side_114 : decode cX12_side 114 = .ok (.iload_n 2, 1) := by decide +kernel
theorem dX12_side_115 : decode cX12_side 115 = .ok (.iastore, 1) := by decide +kernel
theorem dX12_side_116 : decode cX12_side 116 = .ok (.aload_n 0, 1) := by decide +kernel
theorem dX12_side_117 : decode cX12_side 117 = .ok (.getfield 72, 3) := by decide +kernel
theorem dX12_side_120 : decode cX12_side 120 = .ok (.iconst 1, 1) := by decide +kernel
theorem dX12_side_121 : decode cX12_side 121 = .ok (.iload_n 3, 1) := by decide +kernel
theorem dX12_side_122 : decode cX12_side 122 = .ok (.iastore, 1) := by decide +kernel
theorem dX12_side_123 : decode cX12_side 123 = .ok (.aload_n 0, 1) := by decide +kernel
theorem dX12_side_124 : decode cX12_side 124 = .ok (.getfield 72, 3) := by decide +kernel
theorem dX12_side_127 : decode cX12_side 127 = .ok (.iconst 2, 1) := by decide +kernel
theorem dX12_side_128 : decode cX12_side 128 = .ok (.iload 4, 2) := by decide +kernel
theorem dX12_side_130 : decode cX12_side 130 = .ok (.iastore, 1) := by decide +kernel
theorem dX12_side_131 : decode cX12_side 131 = .ok (.aload_n 0, 1) := by decide +kernel
theorem dX12_side_132 : decode cX12_side 132 = .ok (.getfield 72, 3) := by decide +kernel
theorem dX12_side_135 : decode cX12_side 135 = .ok (.iconst 3, 1) := by decide +kernel
theorem dX12_side_136 : decode cX12_side 136 = .ok (.iload 5, 2) := by decide +kernel
theorem dX12_side_138 : decode cX12_side 138 = .ok (.iastore, 1) := by decide +kernel
theorem dX12_side_139 : decode cX12_side 139 = .ok (.aload_n 0, 1) := by decide +kernel
theorem dX12_side_140 : decode cX12_side 140 = .ok (.getfield 72, 3) := by decide +kernel
theorem dX12_side_143 : decode cX12_side 143 = .ok (.iconst 4, 1) := by decide +kernel
theorem dX12_side_144 : decode cX12_side 144 = .ok (.iload 6, 2) := by decide +kernel
theorem dX12_side_146 : decode cX12_side 146 = .ok (.iastore, 1) := by decide +kernel
theorem dX12_side_147 : decode cX12_side 147 = .ok (.aload_n 0, 1) := by decide +kernel
theorem dX12_side_148 : decode cX12_side 148 = .ok (.getfield 72, 3) := by decide +kernel
theorem dX12_side_151 : decode cX12_side 151 = .ok (.iconst 5, 1) := by decide +kernel
theorem dX12_side_152 : decode cX12_side 152 = .ok (.iload 7, 2) := by decide +kernel
theorem dX12_side_154 : decode cX12_side 154 = .ok (.iastore, 1) := by decide +kernel
theorem dX12_side_155 : decode cX12_side 155 = .ok (.aload_n 0, 1) := by decide +kernel
theorem dX12_side_156 : decode cX12_side 156 = .ok (.iconst 0, 1) := by decide +kernel
theorem dX12_side_157 : decode cX12_side 157 = .ok (.putfield 381, 3) := by decide +kernel
theorem dX12_side_160 : decode cX12_side 160 = .ok (.aload_n 0, 1) := by decide +kernel
theorem dX12_side_161 : decode cX12_side 161 = .ok (.iload_n 1, 1) := by decide +kernel
theorem dX12_side_162 : decode cX12_side 162 = .ok (.invokevirtual 398, 3) := by decide +kernel
theorem dX12_side_165 : decode cX12_side 165 = .ok (.lstore 8, 2) := by decide +kernel
theorem dX12_side_167 : decode cX12_side 167 = .ok (.aload_n 0, 1) := by decide +kernel
theorem dX12_side_168 : decode cX12_side 168 = .ok (.getfield 381, 3) := by decide +kernel
theorem dX12_side_171 : decode cX12_side 171 = .ok (.ifCond .eq 9, 3) := by decide +kernel
theorem dX12_side_174 : decode cX12_side 174 = .ok (.ldc2_w 379, 3) := by decide +kernel
theorem dX12_side_177 : decode cX12_side 177 = .ok (.goto 5, 3) := by decide +kernel
theorem dX12_side_180 : decode cX12_side 180 = .ok (.lload 8, 2) := by decide +kernel
theorem dX12_side_182 : decode cX12_side 182 = .ok (.lreturn, 1) := by decide +kernel
theorem dX12_term_0 : decode cX12_term 0 = .ok (.aload_n 0, 1) := by decide +kernel
theorem dX12_term_1 : decode cX12_term 1 = .ok (.iload_n 1, 1) := by decide +kernel
theorem dX12_term_2 : decode cX12_term 2 = .ok (.iload_n 2, 1) := by decide +kernel
theorem dX12_term_3 : decode cX12_term 3 = .ok (.invokevirtual 313, 3) := by decide +kernel
theorem dX12_term_6 : decode cX12_term 6 = .ok (.ifCond .eq 25, 3) := by decide +kernel
theorem dX12_term_9 : decode cX12_term 9 = .ok (.iload_n 3, 1) := by decide +kernel
theorem dX12_term_10 : decode cX12_term 10 = .ok (.i2l, 1) := by decide +kernel
theorem dX12_term_11 : decode cX12_term 11 = .ok (.lconst 0, 1) := by decide +kernel
theorem dX12_term_12 : decode cX12_term 12 = .ok (.ldc2_w 109, 3) := by decide +kernel
theorem dX12_term_15 : decode cX12_term 15 = .ok (.invokestatic 105, 3) := by decide +kernel
theorem dX12_term_18 : decode cX12_term 18 = .ok (.ifCond .eq 13, 3) := by decide +kernel
theorem dX12_term_21 : decode cX12_term 21 = .ok (.aload_n 0, 1) := by decide +kernel
theorem dX12_term_22 : decode cX12_term 22 = .ok (.iload_n 1, 1) := by decide +kernel
theorem dX12_term_23 : decode cX12_term 23 = .ok (.iload_n 2, 1) := by decide +kernel
theorem dX12_term_24 : decode cX12_term 24 = .ok (.iload_n 3, 1) := by decide +kernel
theorem dX12_term_25 : decode cX12_term 25 = .ok (.invokevirtual 93, 3) := by decide +kernel
theorem dX12_term_28 : decode cX12_term 28 = .ok (.goto 6, 3) := by decide +kernel
theorem dX12_term_31 : decode cX12_term 31 = .ok (.ldc_w 321, 3) := by decide +kernel
theorem dX12_term_34 : decode cX12_term 34 = .ok (.ireturn, 1) := by decide +kernel
theorem dX12_isSpan_0 : decode cX12_isSpan 0 = .ok (.iload_n 0, 1) := by decide +kernel
theorem dX12_isSpan_1 : decode cX12_isSpan 1 = .ok (.invokestatic 277, 3) := by decide +kernel
theorem dX12_isSpan_4 : decode cX12_isSpan 4 = .ok (.ifCond .eq 19, 3) := by decide +kernel
theorem dX12_isSpan_7 : decode cX12_isSpan 7 = .ok (.iload_n 1, 1) := by decide +kernel
theorem dX12_isSpan_8 : decode cX12_isSpan 8 = .ok (.invokestatic 277, 3) := by decide +kernel
theorem dX12_isSpan_11 : decode cX12_isSpan 11 = .ok (.ifCond .eq 12, 3) := by decide +kernel
theorem dX12_isSpan_14 : decode cX12_isSpan 14 = .ok (.iload_n 0, 1) := by decide +kernel
theorem dX12_isSpan_15 : decode cX12_isSpan 15 = .ok (.iload_n 1, 1) := by decide +kernel
theorem dX12_isSpan_16 : decode cX12_isSpan 16 = .ok (.if_icmp .gt 7, 3) := by decide +kernel
theorem dX12_isSpan_19 : decode cX12_isSpan 19 = .ok (.iconst 1, 1) := by decide +kernel
theorem dX12_isSpan_20 : decode cX12_isSpan 20 = .ok (.goto 4, 3) := by decide +kernel
theorem dX12_isSpan_23 : decode cX12_isSpan 23 = .ok (.iconst 0, 1) := by decide +kernel
theorem dX12_isSpan_24 : decode cX12_isSpan 24 = .ok (.ireturn, 1) := by decide +kernel
theorem dX12_missed_0 : decode cX12_missed 0 = .ok (.aload_n 0, 1) := by decide +kernel
theorem dX12_missed_1 : decode cX12_missed 1 = .ok (.iload_n 1, 1) := by decide +kernel
theorem dX12_missed_2 : decode cX12_missed 2 = .ok (.invokevirtual 274, 3) := by decide +kernel
theorem dX12_missed_5 : decode cX12_missed 5 = .ok (.ifCond .eq 11, 3) := by decide +kernel
theorem dX12_missed_8 : decode cX12_missed 8 = .ok (.iload_n 2, 1) := by decide +kernel
theorem dX12_missed_9 : decode cX12_missed 9 = .ok (.iload_n 3, 1) := by decide +kernel
theorem dX12_missed_10 : decode cX12_missed 10 = .ok (.invokestatic 417, 3) := by decide +kernel
theorem dX12_missed_13 : decode cX12_missed 13 = .ok (.ifCond .ne 7, 3) := by decide +kernel
theorem dX12_missed_16 : decode cX12_missed 16 = .ok (.ldc_w 321, 3) := by decide +kernel
theorem dX12_missed_19 : decode cX12_missed 19 = .ok (.ireturn, 1) := by decide +kernel
theorem dX12_missed_20 : decode cX12_missed 20 = .ok (.aload_n 0, 1) := by decide +kernel
theorem dX12_missed_21 : decode cX12_missed 21 = .ok (.iload_n 1, 1) := by decide +kernel
theorem dX12_missed_22 : decode cX12_missed 22 = .ok (.invokevirtual 282, 3) := by decide +kernel
theorem dX12_missed_25 : decode cX12_missed 25 = .ok (.iconst 0, 1) := by decide +kernel
theorem dX12_missed_26 : decode cX12_missed 26 = .ok (.istore 5, 2) := by decide +kernel
theorem dX12_missed_28 : decode cX12_missed 28 = .ok (.iload_n 2, 1) := by decide +kernel
theorem dX12_missed_29 : decode cX12_missed 29 = .ok (.istore 6, 2) := by decide +kernel
theorem dX12_missed_31 : decode cX12_missed 31 = .ok (.iload 6, 2) := by decide +kernel
theorem dX12_missed_33 : decode cX12_missed 33 = .ok (.iload_n 3, 1) := by decide +kernel
theorem dX12_missed_34 : decode cX12_missed 34 = .ok (.if_icmp .gt 36, 3) := by decide +kernel
theorem dX12_missed_37 : decode cX12_missed 37 = .ok (.aload_n 0, 1) := by decide +kernel
theorem dX12_missed_38 : decode cX12_missed 38 = .ok (.iload 6, 2) := by decide +kernel
theorem dX12_missed_40 : decode cX12_missed 40 = .ok (.invokevirtual 285, 3) := by decide +kernel
theorem dX12_missed_43 : decode cX12_missed 43 = .ok (.lconst 0, 1) := by decide +kernel
theorem dX12_missed_44 : decode cX12_missed 44 = .ok (.lcmp, 1) := by decide +kernel
theorem dX12_missed_45 : decode cX12_missed 45 = .ok (.ifCond .le 6, 3) := by decide +kernel
theorem dX12_missed_48 : decode cX12_missed 48 = .ok (.goto 16, 3) := by decide +kernel
theorem dX12_missed_51 : decode cX12_missed 51 = .ok (.iload 5, 2) := by decide +kernel
theorem dX12_missed_53 : decode cX12_missed 53 = .ok (.iload 4, 2) := by decide +kernel
theorem dX12_missed_55 : decode cX12_missed 55 = .ok (.if_icmp .ne 6, 3) := by decide +kernel
theorem dX12_missed_58 : decode cX12_missed 58 = .ok (.iload 6, 2) := by decide +kernel
theorem dX12_missed_60 : decode cX12_missed 60 = .ok (.ireturn, 1) := by decide +kernel
theorem dX12_missed_61 : decode cX12_missed 61 = .ok (.iinc 5 1, 3) := by decide +kernel
theorem dX12_missed_64 : decode cX12_missed 64 = .ok (.iinc 6 1, 3) := by decide +kernel
theorem dX12_missed_67 : decode cX12_missed 67 = .ok (.goto (-36), 3) := by decide +kernel
theorem dX12_missed_70 : decode cX12_missed 70 = .ok (.iload 4, 2) := by decide +kernel
theorem dX12_missed_72 : decode cX12_missed 72 = .ok (.iconst (-1), 1) := by decide +kernel
theorem dX12_missed_73 : decode cX12_missed 73 = .ok (.if_icmp .ne 8, 3) := by decide +kernel
theorem dX12_missed_76 : decode cX12_missed 76 = .ok (.iload 5, 2) := by decide +kernel
theorem dX12_missed_78 : decode cX12_missed 78 = .ok (.goto 6, 3) := by decide +kernel
theorem dX12_missed_81 : decode cX12_missed 81 = .ok (.ldc_w 321, 3) := by decide +kernel
theorem dX12_missed_84 : decode cX12_missed 84 = .ok (.ireturn, 1) := by decide +kernel
theorem dX12_explained_0 : decode cX12_explained 0 = .ok (.aload_n 0, 1) := by decide +kernel
theorem dX12_explained_1 : decode cX12_explained 1 = .ok (.iload_n 1, 1) := by decide +kernel
theorem dX12_explained_2 : decode cX12_explained 2 = .ok (.invokevirtual 274, 3) := by decide +kernel
theorem dX12_explained_5 : decode cX12_explained 5 = .ok (.ifCond .eq 24, 3) := by decide +kernel
theorem dX12_explained_8 : decode cX12_explained 8 = .ok (.iload_n 2, 1) := by decide +kernel
theorem dX12_explained_9 : decode cX12_explained 9 = .ok (.iload_n 3, 1) := by decide +kernel
theorem dX12_explained_10 : decode cX12_explained 10 = .ok (.invokestatic 417, 3) := by decide +kernel
theorem dX12_explained_13 : decode cX12_explained 13 = .ok (.ifCond .eq 16, 3) := by decide +kernel
theorem dX12_explained_16 : decode cX12_explained 16 = .ok (.iload 4, 2) := by decide +kernel
theorem dX12_explained_18 : decode cX12_explained 18 = .ok (.i2l, 1) := by decide +kernel
theorem dX12_explained_19 : decode cX12_explained 19 = .ok (.lconst 1, 1) := by decide +kernel
theorem dX12_explained_20 : decode cX12_explained 20 = .ok (.ldc2_w 420, 3) := by decide +kernel
theorem dX12_explained_23 : decode cX12_explained 23 = .ok (.invokestatic 105, 3) := by decide +kernel
theorem dX12_explained_26 : decode cX12_explained 26 = .ok (.ifCond .ne 5, 3) := by decide +kernel
theorem dX12_explained_29 : decode cX12_explained 29 = .ok (.iconst (-1), 1) := by decide +kernel
theorem dX12_explained_30 : decode cX12_explained 30 = .ok (.ireturn, 1) := by decide +kernel
theorem dX12_explained_31 : decode cX12_explained 31 = .ok (.aload_n 0, 1) := by decide +kernel
theorem dX12_explained_32 : decode cX12_explained 32 = .ok (.iload_n 1, 1) := by decide +kernel
theorem dX12_explained_33 : decode cX12_explained 33 = .ok (.invokevirtual 282, 3) := by decide +kernel
theorem dX12_explained_36 : decode cX12_explained 36 = .ok (.aload_n 0, 1) := by decide +kernel
theorem dX12_explained_37 : decode cX12_explained 37 = .ok (.iload_n 1, 1) := by decide +kernel
theorem dX12_explained_38 : decode cX12_explained 38 = .ok (.iload 4, 2) := by decide +kernel
theorem dX12_explained_40 : decode cX12_explained 40 = .ok (.invokevirtual 422, 3) := by decide +kernel
theorem dX12_explained_43 : decode cX12_explained 43 = .ok (.iconst 0, 1) := by decide +kernel
theorem dX12_explained_44 : decode cX12_explained 44 = .ok (.istore 5, 2) := by decide +kernel
theorem dX12_explained_46 : decode cX12_explained 46 = .ok (.iload_n 2, 1) := by decide +kernel
theorem dX12_explained_47 : decode cX12_explained 47 = .ok (.istore 6, 2) := by decide +kernel
theorem dX12_explained_49 : decode cX12_explained 49 = .ok (.iload 6, 2) := by decide +kernel
theorem dX12_explained_51 : decode cX12_explained 51 = .ok (.iload_n 3, 1) := by decide +kernel
theorem dX12_explained_52 : decode cX12_explained 52 = .ok (.if_icmp .gt 54, 3) := by decide +kernel
theorem dX12_explained_55 : decode cX12_explained 55 = .ok (.iload 5, 2) := by decide +kernel
theorem dX12_explained_57 : decode cX12_explained 57 = .ok (.aload_n 0, 1) := by decide +kernel
theorem dX12_explained_58 : decode cX12_explained 58 = .ok (.iload 6, 2) := by decide +kernel
theorem dX12_explained_60 : decode cX12_explained 60 = .ok (.invokevirtual 285, 3) := by decide +kernel
theorem dX12_explained_63 : decode cX12_explained 63 = .ok (.lconst 0, 1) := by decide +kernel
theorem dX12_explained_64 : decode cX12_explained 64 = .ok (.lcmp, 1) := by decide +kernel
theorem dX12_explained_65 : decode cX12_explained 65 = .ok (.ifCond .ne 28, 3) := by decide +kernel
theorem dX12_explained_68 : decode cX12_explained 68 = .ok (.aload_n 0, 1) := by decide +kernel
theorem dX12_explained_69 : decode cX12_explained 69 = .ok (.getfield 81, 3) := by decide +kernel
theorem dX12_explained_72 : decode cX12_explained 72 = .ok (.iload 6, 2) := by decide +kernel
theorem dX12_explained_74 : decode cX12_explained 74 = .ok (.iload 4, 2) := by decide +kernel
theorem dX12_explained_76 : decode cX12_explained 76 = .ok (.irem, 1) := by decide +kernel
theorem dX12_explained_77 : decode cX12_explained 77 = .ok (.iload 4, 2) := by decide +kernel
theorem dX12_explained_79 : decode cX12_explained 79 = .ok (.iadd, 1) := by decide +kernel
theorem dX12_explained_80 : decode cX12_explained 80 = .ok (.iload 4, 2) := by decide +kernel
theorem dX12_explained_82 : decode cX12_explained 82 = .ok (.irem, 1) := by decide +kernel
theorem dX12_explained_83 : decode cX12_explained 83 = .ok (.laload, 1) := by decide +kernel
theorem dX12_explained_84 : decode cX12_explained 84 = .ok (.lconst 0, 1) := by decide +kernel
theorem dX12_explained_85 : decode cX12_explained 85 = .ok (.lcmp, 1) := by decide +kernel
theorem dX12_explained_86 : decode cX12_explained 86 = .ok (.ifCond .ne 7, 3) := by decide +kernel
theorem dX12_explained_89 : decode cX12_explained 89 = .ok (.iconst 1, 1) := by decide +kernel
theorem dX12_explained_90 : decode cX12_explained 90 = .ok (.goto 4, 3) := by decide +kernel
theorem dX12_explained_93 : decode cX12_explained 93 = .ok (.iconst 0, 1) := by decide +kernel
theorem dX12_explained_94 : decode cX12_explained 94 = .ok (.invokestatic 406, 3) := by decide +kernel
theorem dX12_explained_97 : decode cX12_explained 97 = .ok (.iadd, 1) := by decide +kernel
theorem dX12_explained_98 : decode cX12_explained 98 = .ok (.istore 5, 2) := by decide +kernel
theorem dX12_explained_100 : decode cX12_explained 100 = .ok (.iinc 6 1, 3) := by decide +kernel
theorem dX12_explained_103 : decode cX12_explained 103 = .ok (.goto (-54), 3) := by decide +kernel
theorem dX12_explained_106 : decode cX12_explained 106 = .ok (.iload 5, 2) := by decide +kernel
theorem dX12_explained_108 : decode cX12_explained 108 = .ok (.ireturn, 1) := by decide +kernel
theorem dX12_full_0 : decode cX12_full 0 = .ok (.aload_n 0, 1) := by decide +kernel
theorem dX12_full_1 : decode cX12_full 1 = .ok (.iload_n 1, 1) := by decide +kernel
theorem dX12_full_2 : decode cX12_full 2 = .ok (.invokevirtual 274, 3) := by decide +kernel
theorem dX12_full_5 : decode cX12_full 5 = .ok (.ifCond .ne 5, 3) := by decide +kernel
theorem dX12_full_8 : decode cX12_full 8 = .ok (.iconst (-1), 1) := by decide +kernel
theorem dX12_full_9 : decode cX12_full 9 = .ok (.ireturn, 1) := by decide +kernel
theorem dX12_full_10 : decode cX12_full 10 = .ok (.aload_n 0, 1) := by decide +kernel
theorem dX12_full_11 : decode cX12_full 11 = .ok (.iload_n 1, 1) := by decide +kernel
theorem dX12_full_12 : decode cX12_full 12 = .ok (.invokevirtual 282, 3) := by decide +kernel
theorem dX12_full_15 : decode cX12_full 15 = .ok (.aload_n 0, 1) := by decide +kernel
theorem dX12_full_16 : decode cX12_full 16 = .ok (.sipush 3000, 3) := by decide +kernel
theorem dX12_full_19 : decode cX12_full 19 = .ok (.invokevirtual 285, 3) := by decide +kernel
theorem dX12_full_22 : decode cX12_full 22 = .ok (.lconst 0, 1) := by decide +kernel
theorem dX12_full_23 : decode cX12_full 23 = .ok (.lcmp, 1) := by decide +kernel
theorem dX12_full_24 : decode cX12_full 24 = .ok (.ifCond .ne 5, 3) := by decide +kernel
theorem dX12_full_27 : decode cX12_full 27 = .ok (.iconst (-1), 1) := by decide +kernel
theorem dX12_full_28 : decode cX12_full 28 = .ok (.ireturn, 1) := by decide +kernel
theorem dX12_full_29 : decode cX12_full 29 = .ok (.sipush 3000, 3) := by decide +kernel
theorem dX12_full_32 : decode cX12_full 32 = .ok (.istore_n 2, 1) := by decide +kernel
theorem dX12_full_33 : decode cX12_full 33 = .ok (.iload_n 2, 1) := by decide +kernel
theorem dX12_full_34 : decode cX12_full 34 = .ok (.ifCond .le 21, 3) := by decide +kernel
theorem dX12_full_37 : decode cX12_full 37 = .ok (.aload_n 0, 1) := by decide +kernel
theorem dX12_full_38 : decode cX12_full 38 = .ok (.iload_n 2, 1) := by decide +kernel
theorem dX12_full_39 : decode cX12_full 39 = .ok (.iconst 1, 1) := by decide +kernel
theorem dX12_full_40 : decode cX12_full 40 = .ok (.isub, 1) := by decide +kernel
theorem dX12_full_41 : decode cX12_full 41 = .ok (.invokevirtual 285, 3) := by decide +kernel
theorem dX12_full_44 : decode cX12_full 44 = .ok (.lconst 0, 1) := by decide +kernel
theorem dX12_full_45 : decode cX12_full 45 = .ok (.lcmp, 1) := by decide +kernel
theorem dX12_full_46 : decode cX12_full 46 = .ok (.ifCond .le 9, 3) := by decide +kernel
theorem dX12_full_49 : decode cX12_full 49 = .ok (.iinc 2 (-1), 3) := by decide +kernel
theorem dX12_full_52 : decode cX12_full 52 = .ok (.goto (-19), 3) := by decide +kernel
theorem dX12_full_55 : decode cX12_full 55 = .ok (.iload_n 2, 1) := by decide +kernel
theorem dX12_full_56 : decode cX12_full 56 = .ok (.ireturn, 1) := by decide +kernel
theorem dX12_xs_0 : decode cX12_xs 0 = .ok (.iload_n 0, 1) := by decide +kernel
theorem dX12_xs_1 : decode cX12_xs 1 = .ok (.iconst 4, 1) := by decide +kernel
theorem dX12_xs_2 : decode cX12_xs 2 = .ok (.if_icmp .ne 9, 3) := by decide +kernel
theorem dX12_xs_5 : decode cX12_xs 5 = .ok (.iconst 2, 1) := by decide +kernel
theorem dX12_xs_6 : decode cX12_xs 6 = .ok (.iload_n 1, 1) := by decide +kernel
theorem dX12_xs_7 : decode cX12_xs 7 = .ok (.imul, 1) := by decide +kernel
theorem dX12_xs_8 : decode cX12_xs 8 = .ok (.goto 4, 3) := by decide +kernel
theorem dX12_xs_11 : decode cX12_xs 11 = .ok (.iload_n 1, 1) := by decide +kernel
theorem dX12_xs_12 : decode cX12_xs 12 = .ok (.ireturn, 1) := by decide +kernel
theorem dX12_classOf_0 : decode cX12_classOf 0 = .ok (.aload_n 0, 1) := by decide +kernel
theorem dX12_classOf_1 : decode cX12_classOf 1 = .ok (.iload_n 1, 1) := by decide +kernel
theorem dX12_classOf_2 : decode cX12_classOf 2 = .ok (.iload_n 2, 1) := by decide +kernel
theorem dX12_classOf_3 : decode cX12_classOf 3 = .ok (.iload_n 3, 1) := by decide +kernel
theorem dX12_classOf_4 : decode cX12_classOf 4 = .ok (.i2l, 1) := by decide +kernel
theorem dX12_classOf_5 : decode cX12_classOf 5 = .ok (.invokevirtual 234, 3) := by decide +kernel
theorem dX12_classOf_8 : decode cX12_classOf 8 = .ok (.iload 4, 2) := by decide +kernel
theorem dX12_classOf_10 : decode cX12_classOf 10 = .ok (.i2l, 1) := by decide +kernel
theorem dX12_classOf_11 : decode cX12_classOf 11 = .ok (.lrem, 1) := by decide +kernel
theorem dX12_classOf_12 : decode cX12_classOf 12 = .ok (.l2i, 1) := by decide +kernel
theorem dX12_classOf_13 : decode cX12_classOf 13 = .ok (.ireturn, 1) := by decide +kernel
theorem dX12_laysClasses_0 : decode cX12_laysClasses 0 = .ok (.aload_n 0, 1) := by decide +kernel
theorem dX12_laysClasses_1 : decode cX12_laysClasses 1 = .ok (.getfield 9, 3) := by decide +kernel
theorem dX12_laysClasses_4 : decode cX12_laysClasses 4 = .ok (.iload_n 1, 1) := by decide +kernel
theorem dX12_laysClasses_5 : decode cX12_laysClasses 5 = .ok (.iaload, 1) := by decide +kernel
theorem dX12_laysClasses_6 : decode cX12_laysClasses 6 = .ok (.istore_n 3, 1) := by decide +kernel
theorem dX12_laysClasses_7 : decode cX12_laysClasses 7 = .ok (.iconst 0, 1) := by decide +kernel
theorem dX12_laysClasses_8 : decode cX12_laysClasses 8 = .ok (.istore 4, 2) := by decide +kernel
theorem dX12_laysClasses_10 : decode cX12_laysClasses 10 = .ok (.iload 4, 2) := by decide +kernel
theorem dX12_laysClasses_12 : decode cX12_laysClasses 12 = .ok (.iload_n 2, 1) := by decide +kernel
theorem dX12_laysClasses_13 : decode cX12_laysClasses 13 = .ok (.if_icmp .ge 35, 3) := by decide +kernel
theorem dX12_laysClasses_16 : decode cX12_laysClasses 16 = .ok (.aload_n 0, 1) := by decide +kernel
theorem dX12_laysClasses_17 : decode cX12_laysClasses 17 = .ok (.getfield 81, 3) := by decide +kernel
theorem dX12_laysClasses_20 : decode cX12_laysClasses 20 = .ok (.bipush 60, 2) := by decide +kernel
theorem dX12_laysClasses_22 : decode cX12_laysClasses 22 = .ok (.iload_n 3, 1) := by decide +kernel
theorem dX12_laysClasses_23 : decode cX12_laysClasses 23 = .ok (.imul, 1) := by decide +kernel
theorem dX12_laysClasses_24 : decode cX12_laysClasses 24 = .ok (.iload 4, 2) := by decide +kernel
theorem dX12_laysClasses_26 : decode cX12_laysClasses 26 = .ok (.iadd, 1) := by decide +kernel
theorem dX12_laysClasses_27 : decode cX12_laysClasses 27 = .ok (.iload 4, 2) := by decide +kernel
theorem dX12_laysClasses_29 : decode cX12_laysClasses 29 = .ok (.ifCond .ne 7, 3) := by decide +kernel
theorem dX12_laysClasses_32 : decode cX12_laysClasses 32 = .ok (.iconst 1, 1) := by decide +kernel
theorem dX12_laysClasses_33 : decode cX12_laysClasses 33 = .ok (.goto 4, 3) := by decide +kernel
theorem dX12_laysClasses_36 : decode cX12_laysClasses 36 = .ok (.iconst 0, 1) := by decide +kernel
theorem dX12_laysClasses_37 : decode cX12_laysClasses 37 = .ok (.invokestatic 406, 3) := by decide +kernel
theorem dX12_laysClasses_40 : decode cX12_laysClasses 40 = .ok (.i2l, 1) := by decide +kernel
theorem dX12_laysClasses_41 : decode cX12_laysClasses 41 = .ok (.lastore, 1) := by decide +kernel
theorem dX12_laysClasses_42 : decode cX12_laysClasses 42 = .ok (.iinc 4 1, 3) := by decide +kernel
theorem dX12_laysClasses_45 : decode cX12_laysClasses 45 = .ok (.goto (-35), 3) := by decide +kernel
theorem dX12_laysClasses_48 : decode cX12_laysClasses 48 = .ok (.iload_n 3, 1) := by decide +kernel
theorem dX12_laysClasses_49 : decode cX12_laysClasses 49 = .ok (.iconst 1, 1) := by decide +kernel
theorem dX12_laysClasses_50 : decode cX12_laysClasses 50 = .ok (.isub, 1) := by decide +kernel
theorem dX12_laysClasses_51 : decode cX12_laysClasses 51 = .ok (.istore 4, 2) := by decide +kernel
theorem dX12_laysClasses_53 : decode cX12_laysClasses 53 = .ok (.iload 4, 2) := by decide +kernel
theorem dX12_laysClasses_55 : decode cX12_laysClasses 55 = .ok (.ifCond .lt 103, 3) := by decide +kernel
theorem dX12_laysClasses_58 : decode cX12_laysClasses 58 = .ok (.iconst 0, 1) := by decide +kernel
theorem dX12_laysClasses_59 : decode cX12_laysClasses 59 = .ok (.istore 5, 2) := by decide +kernel
theorem dX12_laysClasses_61 : decode cX12_laysClasses 61 = .ok (.iload 5, 2) := by decide +kernel
theorem dX12_laysClasses_63 : decode cX12_laysClasses 63 = .ok (.iload_n 2, 1) := by decide +kernel
theorem dX12_laysClasses_64 : decode cX12_laysClasses 64 = .ok (.if_icmp .ge 88, 3) := by decide +kernel
theorem dX12_laysClasses_67 : decode cX12_laysClasses 67 = .ok (.lconst 0, 1) := by decide +kernel
theorem dX12_laysClasses_68 : decode cX12_laysClasses 68 = .ok (.lstore 6, 2) := by decide +kernel
theorem dX12_laysClasses_70 : decode cX12_laysClasses 70 = .ok (.iconst 0, 1) := by decide +kernel
theorem dX12_laysClasses_71 : decode cX12_laysClasses 71 = .ok (.istore 8, 2) := by decide +kernel
theorem dX12_laysClasses_73 : decode cX12_laysClasses 73 = .ok (.iload 8, 2) := by decide +kernel
theorem dX12_laysClasses_75 : decode cX12_laysClasses 75 = .ok (.aload_n 0, 1) := by decide +kernel
theorem dX12_laysClasses_76 : decode cX12_laysClasses 76 = .ok (.iload_n 1, 1) := by decide +kernel
theorem dX12_laysClasses_77 : decode cX12_laysClasses 77 = .ok (.iload 4, 2) := by decide +kernel
theorem dX12_laysClasses_79 : decode cX12_laysClasses 79 = .ok (.iconst 1, 1) := by decide +kernel
theorem dX12_laysClasses_80 : decode cX12_laysClasses 80 = .ok (.invokevirtual 93, 3) := by decide +kernel
theorem dX12_laysClasses_83 : decode cX12_laysClasses 83 = .ok (.iload_n 2, 1) := by decide +kernel
theorem dX12_laysClasses_84 : decode cX12_laysClasses 84 = .ok (.invokestatic 425, 3) := by decide +kernel
theorem dX12_laysClasses_87 : decode cX12_laysClasses 87 = .ok (.if_icmp .ge 44, 3) := by decide +kernel
theorem dX12_laysClasses_90 : decode cX12_laysClasses 90 = .ok (.lload 6, 2) := by decide +kernel
theorem dX12_laysClasses_92 : decode cX12_laysClasses 92 = .ok (.aload_n 0, 1) := by decide +kernel
theorem dX12_laysClasses_93 : decode cX12_laysClasses 93 = .ok (.getfield 81, 3) := by decide +kernel
theorem dX12_laysClasses_96 : decode cX12_laysClasses 96 = .ok (.bipush 60, 2) := by decide +kernel
theorem dX12_laysClasses_98 : decode cX12_laysClasses 98 = .ok (.iload 4, 2) := by decide +kernel
theorem dX12_laysClasses_100 : decode cX12_laysClasses 100 = .ok (.iconst 1, 1) := by decide +kernel
theorem dX12_laysClasses_101 : decode cX12_laysClasses 101 = .ok (.iadd, 1) := by decide +kernel
theorem dX12_laysClasses_102 : decode cX12_laysClasses 102 = .ok (.imul, 1) := by decide +kernel
theorem dX12_laysClasses_103 : decode cX12_laysClasses 103 = .ok (.iload 5, 2) := by decide +kernel
theorem dX12_laysClasses_105 : decode cX12_laysClasses 105 = .ok (.aload_n 0, 1) := by decide +kernel
theorem dX12_laysClasses_106 : decode cX12_laysClasses 106 = .ok (.iload_n 1, 1) := by decide +kernel
theorem dX12_laysClasses_107 : decode cX12_laysClasses 107 = .ok (.iload 4, 2) := by decide +kernel
theorem dX12_laysClasses_109 : decode cX12_laysClasses 109 = .ok (.iload 8, 2) := by decide +kernel
theorem dX12_laysClasses_111 : decode cX12_laysClasses 111 = .ok (.iload_n 2, 1) := by decide +kernel
theorem dX12_laysClasses_112 : decode cX12_laysClasses 112 = .ok (.invokevirtual 428, 3) := by decide +kernel
theorem dX12_laysClasses_115 : decode cX12_laysClasses 115 = .ok (.isub, 1) := by decide +kernel
theorem dX12_laysClasses_116 : decode cX12_laysClasses 116 = .ok (.iload_n 2, 1) := by decide +kernel
theorem dX12_laysClasses_117 : decode cX12_laysClasses 117 = .ok (.iadd, 1) := by decide +kernel
theorem dX12_laysClasses_118 : decode cX12_laysClasses 118 = .ok (.iload_n 2, 1) := by decide +kernel
theorem dX12_laysClasses_119 : decode cX12_laysClasses 119 = .ok (.irem, 1) := by decide +kernel
theorem dX12_laysClasses_120 : decode cX12_laysClasses 120 = .ok (.iadd, 1) := by decide +kernel
theorem dX12_laysClasses_121 : decode cX12_laysClasses 121 = .ok (.laload, 1) := by decide +kernel
theorem dX12_laysClasses_122 : decode cX12_laysClasses 122 = .ok (.ladd, 1) := by decide +kernel
theorem dX12_laysClasses_123 : decode cX12_laysClasses 123 = .ok (.lstore 6, 2) := by decide +kernel
theorem dX12_laysClasses_125 : decode cX12_laysClasses 125 = .ok (.iinc 8 1, 3) := by decide +kernel
theorem dX12_laysClasses_128 : decode cX12_laysClasses 128 = .ok (.goto (-55), 3) := by decide +kernel
theorem dX12_laysClasses_131 : decode cX12_laysClasses 131 = .ok (.aload_n 0, 1) := by decide +kernel
theorem dX12_laysClasses_132 : decode cX12_laysClasses 132 = .ok (.getfield 81, 3) := by decide +kernel
theorem dX12_laysClasses_135 : decode cX12_laysClasses 135 = .ok (.bipush 60, 2) := by decide +kernel
theorem dX12_laysClasses_137 : decode cX12_laysClasses 137 = .ok (.iload 4, 2) := by decide +kernel
theorem dX12_laysClasses_139 : decode cX12_laysClasses 139 = .ok (.imul, 1) := by decide +kernel
theorem dX12_laysClasses_140 : decode cX12_laysClasses 140 = .ok (.iload 5, 2) := by decide +kernel
theorem dX12_laysClasses_142 : decode cX12_laysClasses 142 = .ok (.iadd, 1) := by decide +kernel
theorem dX12_laysClasses_143 : decode cX12_laysClasses 143 = .ok (.lload 6, 2) := by decide +kernel
theorem dX12_laysClasses_145 : decode cX12_laysClasses 145 = .ok (.lastore, 1) := by decide +kernel
theorem dX12_laysClasses_146 : decode cX12_laysClasses 146 = .ok (.iinc 5 1, 3) := by decide +kernel
theorem dX12_laysClasses_149 : decode cX12_laysClasses 149 = .ok (.goto (-88), 3) := by decide +kernel
theorem dX12_laysClasses_152 : decode cX12_laysClasses 152 = .ok (.iinc 4 (-1), 3) := by decide +kernel
theorem dX12_laysClasses_155 : decode cX12_laysClasses 155 = .ok (.goto (-102), 3) := by decide +kernel
theorem dX12_laysClasses_158 : decode cX12_laysClasses 158 = .ok (.return_, 1) := by decide +kernel
theorem dX12_isClass_0 : decode cX12_isClass 0 = .ok (.aload_n 0, 1) := by decide +kernel
theorem dX12_isClass_1 : decode cX12_isClass 1 = .ok (.iload_n 1, 1) := by decide +kernel
theorem dX12_isClass_2 : decode cX12_isClass 2 = .ok (.invokevirtual 274, 3) := by decide +kernel
theorem dX12_isClass_5 : decode cX12_isClass 5 = .ok (.ifCond .eq 32, 3) := by decide +kernel
theorem dX12_isClass_8 : decode cX12_isClass 8 = .ok (.iload_n 2, 1) := by decide +kernel
theorem dX12_isClass_9 : decode cX12_isClass 9 = .ok (.i2l, 1) := by decide +kernel
theorem dX12_isClass_10 : decode cX12_isClass 10 = .ok (.lconst 1, 1) := by decide +kernel
theorem dX12_isClass_11 : decode cX12_isClass 11 = .ok (.ldc2_w 420, 3) := by decide +kernel
theorem dX12_isClass_14 : decode cX12_isClass 14 = .ok (.invokestatic 105, 3) := by decide +kernel
theorem dX12_isClass_17 : decode cX12_isClass 17 = .ok (.ifCond .eq 20, 3) := by decide +kernel
theorem dX12_isClass_20 : decode cX12_isClass 20 = .ok (.iload_n 3, 1) := by decide +kernel
theorem dX12_isClass_21 : decode cX12_isClass 21 = .ok (.i2l, 1) := by decide +kernel
theorem dX12_isClass_22 : decode cX12_isClass 22 = .ok (.lconst 0, 1) := by decide +kernel
theorem dX12_isClass_23 : decode cX12_isClass 23 = .ok (.iload_n 2, 1) := by decide +kernel
theorem dX12_isClass_24 : decode cX12_isClass 24 = .ok (.iconst 1, 1) := by decide +kernel
theorem dX12_isClass_25 : decode cX12_isClass 25 = .ok (.isub, 1) := by decide +kernel
theorem dX12_isClass_26 : decode cX12_isClass 26 = .ok (.i2l, 1) := by decide +kernel
theorem dX12_isClass_27 : decode cX12_isClass 27 = .ok (.invokestatic 105, 3) := by decide +kernel
theorem dX12_isClass_30 : decode cX12_isClass 30 = .ok (.ifCond .eq 7, 3) := by decide +kernel
theorem dX12_isClass_33 : decode cX12_isClass 33 = .ok (.iconst 1, 1) := by decide +kernel
theorem dX12_isClass_34 : decode cX12_isClass 34 = .ok (.goto 4, 3) := by decide +kernel
theorem dX12_isClass_37 : decode cX12_isClass 37 = .ok (.iconst 0, 1) := by decide +kernel
theorem dX12_isClass_38 : decode cX12_isClass 38 = .ok (.ireturn, 1) := by decide +kernel
theorem dX12_met_0 : decode cX12_met 0 = .ok (.aload_n 0, 1) := by decide +kernel
theorem dX12_met_1 : decode cX12_met 1 = .ok (.iload_n 1, 1) := by decide +kernel
theorem dX12_met_2 : decode cX12_met 2 = .ok (.iload_n 2, 1) := by decide +kernel
theorem dX12_met_3 : decode cX12_met 3 = .ok (.iload_n 3, 1) := by decide +kernel
theorem dX12_met_4 : decode cX12_met 4 = .ok (.invokevirtual 432, 3) := by decide +kernel
theorem dX12_met_7 : decode cX12_met 7 = .ok (.ifCond .ne 7, 3) := by decide +kernel
theorem dX12_met_10 : decode cX12_met 10 = .ok (.ldc2_w 280, 3) := by decide +kernel
theorem dX12_met_13 : decode cX12_met 13 = .ok (.lreturn, 1) := by decide +kernel
theorem dX12_met_14 : decode cX12_met 14 = .ok (.aload_n 0, 1) := by decide +kernel
theorem dX12_met_15 : decode cX12_met 15 = .ok (.iload_n 1, 1) := by decide +kernel
theorem dX12_met_16 : decode cX12_met 16 = .ok (.iload_n 2, 1) := by decide +kernel
theorem dX12_met_17 : decode cX12_met 17 = .ok (.invokevirtual 422, 3) := by decide +kernel
theorem dX12_met_20 : decode cX12_met 20 = .ok (.aload_n 0, 1) := by decide +kernel
theorem dX12_met_21 : decode cX12_met 21 = .ok (.getfield 81, 3) := by decide +kernel
theorem dX12_met_24 : decode cX12_met 24 = .ok (.iload_n 3, 1) := by decide +kernel
theorem dX12_met_25 : decode cX12_met 25 = .ok (.laload, 1) := by decide +kernel
theorem dX12_met_26 : decode cX12_met 26 = .ok (.lreturn, 1) := by decide +kernel
theorem dX12_meets_0 : decode cX12_meets 0 = .ok (.aload_n 0, 1) := by decide +kernel
theorem dX12_meets_1 : decode cX12_meets 1 = .ok (.iload_n 1, 1) := by decide +kernel
theorem dX12_meets_2 : decode cX12_meets 2 = .ok (.iload_n 2, 1) := by decide +kernel
theorem dX12_meets_3 : decode cX12_meets 3 = .ok (.iload_n 3, 1) := by decide +kernel
theorem dX12_meets_4 : decode cX12_meets 4 = .ok (.invokevirtual 432, 3) := by decide +kernel
theorem dX12_meets_7 : decode cX12_meets 7 = .ok (.ifCond .eq 13, 3) := by decide +kernel
theorem dX12_meets_10 : decode cX12_meets 10 = .ok (.aload_n 0, 1) := by decide +kernel
theorem dX12_meets_11 : decode cX12_meets 11 = .ok (.iload_n 1, 1) := by decide +kernel
theorem dX12_meets_12 : decode cX12_meets 12 = .ok (.iload 4, 2) := by decide +kernel
theorem dX12_meets_14 : decode cX12_meets 14 = .ok (.invokevirtual 313, 3) := by decide +kernel
theorem dX12_meets_17 : decode cX12_meets 17 = .ok (.ifCond .ne 5, 3) := by decide +kernel
theorem dX12_meets_20 : decode cX12_meets 20 = .ok (.iconst (-1), 1) := by decide +kernel
theorem dX12_meets_21 : decode cX12_meets 21 = .ok (.ireturn, 1) := by decide +kernel
theorem dX12_meets_22 : decode cX12_meets 22 = .ok (.aload_n 0, 1) := by decide +kernel
theorem dX12_meets_23 : decode cX12_meets 23 = .ok (.iload_n 1, 1) := by decide +kernel
theorem dX12_meets_24 : decode cX12_meets 24 = .ok (.iload_n 2, 1) := by decide +kernel
theorem dX12_meets_25 : decode cX12_meets 25 = .ok (.invokevirtual 422, 3) := by decide +kernel
theorem dX12_meets_28 : decode cX12_meets 28 = .ok (.aload_n 0, 1) := by decide +kernel
theorem dX12_meets_29 : decode cX12_meets 29 = .ok (.getfield 81, 3) := by decide +kernel
theorem dX12_meets_32 : decode cX12_meets 32 = .ok (.iload_n 3, 1) := by decide +kernel
theorem dX12_meets_33 : decode cX12_meets 33 = .ok (.laload, 1) := by decide +kernel
theorem dX12_meets_34 : decode cX12_meets 34 = .ok (.lconst 0, 1) := by decide +kernel
theorem dX12_meets_35 : decode cX12_meets 35 = .ok (.lcmp, 1) := by decide +kernel
theorem dX12_meets_36 : decode cX12_meets 36 = .ok (.ifCond .ne 5, 3) := by decide +kernel
theorem dX12_meets_39 : decode cX12_meets 39 = .ok (.iconst (-1), 1) := by decide +kernel
theorem dX12_meets_40 : decode cX12_meets 40 = .ok (.ireturn, 1) := by decide +kernel
theorem dX12_meets_41 : decode cX12_meets 41 = .ok (.iload_n 3, 1) := by decide +kernel
theorem dX12_meets_42 : decode cX12_meets 42 = .ok (.istore 5, 2) := by decide +kernel
theorem dX12_meets_44 : decode cX12_meets 44 = .ok (.iconst 0, 1) := by decide +kernel
theorem dX12_meets_45 : decode cX12_meets 45 = .ok (.istore 6, 2) := by decide +kernel
theorem dX12_meets_47 : decode cX12_meets 47 = .ok (.iconst 0, 1) := by decide +kernel
theorem dX12_meets_48 : decode cX12_meets 48 = .ok (.istore 7, 2) := by decide +kernel
theorem dX12_meets_50 : decode cX12_meets 50 = .ok (.iload 7, 2) := by decide +kernel
theorem dX12_meets_52 : decode cX12_meets 52 = .ok (.iload 4, 2) := by decide +kernel
theorem dX12_meets_54 : decode cX12_meets 54 = .ok (.if_icmp .gt 72, 3) := by decide +kernel
theorem dX12_meets_57 : decode cX12_meets 57 = .ok (.iconst 0, 1) := by decide +kernel
theorem dX12_meets_58 : decode cX12_meets 58 = .ok (.istore 6, 2) := by decide +kernel
theorem dX12_meets_60 : decode cX12_meets 60 = .ok (.aload_n 0, 1) := by decide +kernel
theorem dX12_meets_61 : decode cX12_meets 61 = .ok (.getfield 81, 3) := by decide +kernel
theorem dX12_meets_64 : decode cX12_meets 64 = .ok (.bipush 60, 2) := by decide +kernel
theorem dX12_meets_66 : decode cX12_meets 66 = .ok (.iload 7, 2) := by decide +kernel
theorem dX12_meets_68 : decode cX12_meets 68 = .ok (.iconst 1, 1) := by decide +kernel
theorem dX12_meets_69 : decode cX12_meets 69 = .ok (.iadd, 1) := by decide +kernel
theorem dX12_meets_70 : decode cX12_meets 70 = .ok (.imul, 1) := by decide +kernel
theorem dX12_meets_71 : decode cX12_meets 71 = .ok (.iload 5, 2) := by decide +kernel
theorem dX12_meets_73 : decode cX12_meets 73 = .ok (.aload_n 0, 1) := by decide +kernel
theorem dX12_meets_74 : decode cX12_meets 74 = .ok (.iload_n 1, 1) := by decide +kernel
theorem dX12_meets_75 : decode cX12_meets 75 = .ok (.iload 7, 2) := by decide +kernel
theorem dX12_meets_77 : decode cX12_meets 77 = .ok (.iload 6, 2) := by decide +kernel
theorem dX12_meets_79 : decode cX12_meets 79 = .ok (.iload_n 2, 1) := by decide +kernel
theorem dX12_meets_80 : decode cX12_meets 80 = .ok (.invokevirtual 428, 3) := by decide +kernel
theorem dX12_meets_83 : decode cX12_meets 83 = .ok (.isub, 1) := by decide +kernel
theorem dX12_meets_84 : decode cX12_meets 84 = .ok (.iload_n 2, 1) := by decide +kernel
theorem dX12_meets_85 : decode cX12_meets 85 = .ok (.iadd, 1) := by decide +kernel
theorem dX12_meets_86 : decode cX12_meets 86 = .ok (.iload_n 2, 1) := by decide +kernel
theorem dX12_meets_87 : decode cX12_meets 87 = .ok (.irem, 1) := by decide +kernel
theorem dX12_meets_88 : decode cX12_meets 88 = .ok (.iadd, 1) := by decide +kernel
theorem dX12_meets_89 : decode cX12_meets 89 = .ok (.laload, 1) := by decide +kernel
theorem dX12_meets_90 : decode cX12_meets 90 = .ok (.lconst 0, 1) := by decide +kernel
theorem dX12_meets_91 : decode cX12_meets 91 = .ok (.lcmp, 1) := by decide +kernel
theorem dX12_meets_92 : decode cX12_meets 92 = .ok (.ifCond .ne 9, 3) := by decide +kernel
theorem dX12_meets_95 : decode cX12_meets 95 = .ok (.iinc 6 1, 3) := by decide +kernel
theorem dX12_meets_98 : decode cX12_meets 98 = .ok (.goto (-38), 3) := by decide +kernel
theorem dX12_meets_101 : decode cX12_meets 101 = .ok (.iload 5, 2) := by decide +kernel
theorem dX12_meets_103 : decode cX12_meets 103 = .ok (.aload_n 0, 1) := by decide +kernel
theorem dX12_meets_104 : decode cX12_meets 104 = .ok (.iload_n 1, 1) := by decide +kernel
theorem dX12_meets_105 : decode cX12_meets 105 = .ok (.iload 7, 2) := by decide +kernel
theorem dX12_meets_107 : decode cX12_meets 107 = .ok (.iload 6, 2) := by decide +kernel
theorem dX12_meets_109 : decode cX12_meets 109 = .ok (.iload_n 2, 1) := by decide +kernel
theorem dX12_meets_110 : decode cX12_meets 110 = .ok (.invokevirtual 428, 3) := by decide +kernel
theorem dX12_meets_113 : decode cX12_meets 113 = .ok (.isub, 1) := by decide +kernel
theorem dX12_meets_114 : decode cX12_meets 114 = .ok (.iload_n 2, 1) := by decide +kernel
theorem dX12_meets_115 : decode cX12_meets 115 = .ok (.iadd, 1) := by decide +kernel
theorem dX12_meets_116 : decode cX12_meets 116 = .ok (.iload_n 2, 1) := by decide +kernel
theorem dX12_meets_117 : decode cX12_meets 117 = .ok (.irem, 1) := by decide +kernel
theorem dX12_meets_118 : decode cX12_meets 118 = .ok (.istore 5, 2) := by decide +kernel
theorem dX12_meets_120 : decode cX12_meets 120 = .ok (.iinc 7 1, 3) := by decide +kernel
theorem dX12_meets_123 : decode cX12_meets 123 = .ok (.goto (-73), 3) := by decide +kernel
theorem dX12_meets_126 : decode cX12_meets 126 = .ok (.iload 6, 2) := by decide +kernel
theorem dX12_meets_128 : decode cX12_meets 128 = .ok (.ireturn, 1) := by decide +kernel
theorem dX12_never_0 : decode cX12_never 0 = .ok (.aload_n 0, 1) := by decide +kernel
theorem dX12_never_1 : decode cX12_never 1 = .ok (.iload_n 1, 1) := by decide +kernel
theorem dX12_never_2 : decode cX12_never 2 = .ok (.iload_n 2, 1) := by decide +kernel
theorem dX12_never_3 : decode cX12_never 3 = .ok (.iconst 0, 1) := by decide +kernel
theorem dX12_never_4 : decode cX12_never 4 = .ok (.invokevirtual 432, 3) := by decide +kernel
theorem dX12_never_7 : decode cX12_never 7 = .ok (.ifCond .ne 5, 3) := by decide +kernel
theorem dX12_never_10 : decode cX12_never 10 = .ok (.iconst (-1), 1) := by decide +kernel
theorem dX12_never_11 : decode cX12_never 11 = .ok (.ireturn, 1) := by decide +kernel
theorem dX12_never_12 : decode cX12_never 12 = .ok (.aload_n 0, 1) := by decide +kernel
theorem dX12_never_13 : decode cX12_never 13 = .ok (.iload_n 1, 1) := by decide +kernel
theorem dX12_never_14 : decode cX12_never 14 = .ok (.iload_n 2, 1) := by decide +kernel
theorem dX12_never_15 : decode cX12_never 15 = .ok (.invokevirtual 422, 3) := by decide +kernel
theorem dX12_never_18 : decode cX12_never 18 = .ok (.iconst 0, 1) := by decide +kernel
theorem dX12_never_19 : decode cX12_never 19 = .ok (.istore 4, 2) := by decide +kernel
theorem dX12_never_21 : decode cX12_never 21 = .ok (.iconst 0, 1) := by decide +kernel
theorem dX12_never_22 : decode cX12_never 22 = .ok (.istore 5, 2) := by decide +kernel
theorem dX12_never_24 : decode cX12_never 24 = .ok (.iload 5, 2) := by decide +kernel
theorem dX12_never_26 : decode cX12_never 26 = .ok (.iload_n 2, 1) := by decide +kernel
theorem dX12_never_27 : decode cX12_never 27 = .ok (.if_icmp .ge 36, 3) := by decide +kernel
theorem dX12_never_30 : decode cX12_never 30 = .ok (.aload_n 0, 1) := by decide +kernel
theorem dX12_never_31 : decode cX12_never 31 = .ok (.getfield 81, 3) := by decide +kernel
theorem dX12_never_34 : decode cX12_never 34 = .ok (.iload 5, 2) := by decide +kernel
theorem dX12_never_36 : decode cX12_never 36 = .ok (.laload, 1) := by decide +kernel
theorem dX12_never_37 : decode cX12_never 37 = .ok (.lconst 0, 1) := by decide +kernel
theorem dX12_never_38 : decode cX12_never 38 = .ok (.lcmp, 1) := by decide +kernel
theorem dX12_never_39 : decode cX12_never 39 = .ok (.ifCond .le 6, 3) := by decide +kernel
theorem dX12_never_42 : decode cX12_never 42 = .ok (.goto 15, 3) := by decide +kernel
theorem dX12_never_45 : decode cX12_never 45 = .ok (.iload 4, 2) := by decide +kernel
theorem dX12_never_47 : decode cX12_never 47 = .ok (.iload_n 3, 1) := by decide +kernel
theorem dX12_never_48 : decode cX12_never 48 = .ok (.if_icmp .ne 6, 3) := by decide +kernel
theorem dX12_never_51 : decode cX12_never 51 = .ok (.iload 5, 2) := by decide +kernel
theorem dX12_never_53 : decode cX12_never 53 = .ok (.ireturn, 1) := by decide +kernel
theorem dX12_never_54 : decode cX12_never 54 = .ok (.iinc 4 1, 3) := by decide +kernel
theorem dX12_never_57 : decode cX12_never 57 = .ok (.iinc 5 1, 3) := by decide +kernel
theorem dX12_never_60 : decode cX12_never 60 = .ok (.goto (-36), 3) := by decide +kernel
theorem dX12_never_63 : decode cX12_never 63 = .ok (.iload_n 3, 1) := by decide +kernel
theorem dX12_never_64 : decode cX12_never 64 = .ok (.iconst (-1), 1) := by decide +kernel
theorem dX12_never_65 : decode cX12_never 65 = .ok (.if_icmp .ne 8, 3) := by decide +kernel
theorem dX12_never_68 : decode cX12_never 68 = .ok (.iload 4, 2) := by decide +kernel
theorem dX12_never_70 : decode cX12_never 70 = .ok (.goto 4, 3) := by decide +kernel
theorem dX12_never_73 : decode cX12_never 73 = .ok (.iconst (-1), 1) := by decide +kernel
theorem dX12_never_74 : decode cX12_never 74 = .ok (.ireturn, 1) := by decide +kernel
theorem dX12_bars_0 : decode cX12_bars 0 = .ok (.aload_n 0, 1) := by decide +kernel
theorem dX12_bars_1 : decode cX12_bars 1 = .ok (.iload_n 1, 1) := by decide +kernel
theorem dX12_bars_2 : decode cX12_bars 2 = .ok (.invokevirtual 274, 3) := by decide +kernel
theorem dX12_bars_5 : decode cX12_bars 5 = .ok (.ifCond .ne 5, 3) := by decide +kernel
theorem dX12_bars_8 : decode cX12_bars 8 = .ok (.iconst (-1), 1) := by decide +kernel
theorem dX12_bars_9 : decode cX12_bars 9 = .ok (.ireturn, 1) := by decide +kernel
theorem dX12_bars_10 : decode cX12_bars 10 = .ok (.iconst 1, 1) := by decide +kernel
theorem dX12_bars_11 : decode cX12_bars 11 = .ok (.istore_n 2, 1) := by decide +kernel
theorem dX12_bars_12 : decode cX12_bars 12 = .ok (.iload_n 2, 1) := by decide +kernel
theorem dX12_bars_13 : decode cX12_bars 13 = .ok (.bipush 60, 2) := by decide +kernel
theorem dX12_bars_15 : decode cX12_bars 15 = .ok (.if_icmp .gt 21, 3) := by decide +kernel
theorem dX12_bars_18 : decode cX12_bars 18 = .ok (.aload_n 0, 1) := by decide +kernel
theorem dX12_bars_19 : decode cX12_bars 19 = .ok (.iload_n 1, 1) := by decide +kernel
theorem dX12_bars_20 : decode cX12_bars 20 = .ok (.iload_n 2, 1) := by decide +kernel
theorem dX12_bars_21 : decode cX12_bars 21 = .ok (.iconst (-1), 1) := by decide +kernel
theorem dX12_bars_22 : decode cX12_bars 22 = .ok (.invokevirtual 435, 3) := by decide +kernel
theorem dX12_bars_25 : decode cX12_bars 25 = .ok (.ifCond .le 5, 3) := by decide +kernel
theorem dX12_bars_28 : decode cX12_bars 28 = .ok (.iload_n 2, 1) := by decide +kernel
theorem dX12_bars_29 : decode cX12_bars 29 = .ok (.ireturn, 1) := by decide +kernel
theorem dX12_bars_30 : decode cX12_bars 30 = .ok (.iinc 2 1, 3) := by decide +kernel
theorem dX12_bars_33 : decode cX12_bars 33 = .ok (.goto (-21), 3) := by decide +kernel
theorem dX12_bars_36 : decode cX12_bars 36 = .ok (.iconst (-1), 1) := by decide +kernel
theorem dX12_bars_37 : decode cX12_bars 37 = .ok (.ireturn, 1) := by decide +kernel
theorem dX12_many_0 : decode cX12_many 0 = .ok (.aload_n 0, 1) := by decide +kernel
theorem dX12_many_1 : decode cX12_many 1 = .ok (.iload_n 1, 1) := by decide +kernel
theorem dX12_many_2 : decode cX12_many 2 = .ok (.invokevirtual 274, 3) := by decide +kernel
theorem dX12_many_5 : decode cX12_many 5 = .ok (.ifCond .eq 22, 3) := by decide +kernel
theorem dX12_many_8 : decode cX12_many 8 = .ok (.iload_n 2, 1) := by decide +kernel
theorem dX12_many_9 : decode cX12_many 9 = .ok (.invokestatic 277, 3) := by decide +kernel
theorem dX12_many_12 : decode cX12_many 12 = .ok (.ifCond .eq 15, 3) := by decide +kernel
theorem dX12_many_15 : decode cX12_many 15 = .ok (.iload_n 3, 1) := by decide +kernel
theorem dX12_many_16 : decode cX12_many 16 = .ok (.i2l, 1) := by decide +kernel
theorem dX12_many_17 : decode cX12_many 17 = .ok (.lconst 1, 1) := by decide +kernel
theorem dX12_many_18 : decode cX12_many 18 = .ok (.ldc2_w 438, 3) := by decide +kernel
theorem dX12_many_21 : decode cX12_many 21 = .ok (.invokestatic 105, 3) := by decide +kernel
theorem dX12_many_24 : decode cX12_many 24 = .ok (.ifCond .ne 7, 3) := by decide +kernel
theorem dX12_many_27 : decode cX12_many 27 = .ok (.ldc_w 321, 3) := by decide +kernel
theorem dX12_many_30 : decode cX12_many 30 = .ok (.ireturn, 1) := by decide +kernel
theorem dX12_many_31 : decode cX12_many 31 = .ok (.aload_n 0, 1) := by decide +kernel
theorem dX12_many_32 : decode cX12_many 32 = .ok (.iload_n 1, 1) := by decide +kernel
theorem dX12_many_33 : decode cX12_many 33 = .ok (.invokevirtual 310, 3) := by decide +kernel
theorem dX12_many_36 : decode cX12_many 36 = .ok (.iload_n 2, 1) := by decide +kernel
theorem dX12_many_37 : decode cX12_many 37 = .ok (.istore 5, 2) := by decide +kernel
theorem dX12_many_39 : decode cX12_many 39 = .ok (.iload 5, 2) := by decide +kernel
theorem dX12_many_41 : decode cX12_many 41 = .ok (.sipush 3000, 3) := by decide +kernel
theorem dX12_many_44 : decode cX12_many 44 = .ok (.if_icmp .gt 54, 3) := by decide +kernel
theorem dX12_many_47 : decode cX12_many 47 = .ok (.iload 4, 2) := by decide +kernel
theorem dX12_many_49 : decode cX12_many 49 = .ok (.ifCond .eq 23, 3) := by decide +kernel
theorem dX12_many_52 : decode cX12_many 52 = .ok (.aload_n 0, 1) := by decide +kernel
theorem dX12_many_53 : decode cX12_many 53 = .ok (.getfield 42, 3) := by decide +kernel
theorem dX12_many_56 : decode cX12_many 56 = .ok (.iload 5, 2) := by decide +kernel
theorem dX12_many_58 : decode cX12_many 58 = .ok (.sipush 3000, 3) := by decide +kernel
theorem dX12_many_61 : decode cX12_many 61 = .ok (.iadd, 1) := by decide +kernel
theorem dX12_many_62 : decode cX12_many 62 = .ok (.laload, 1) := by decide +kernel
theorem dX12_many_63 : decode cX12_many 63 = .ok (.iload_n 3, 1) := by decide +kernel
theorem dX12_many_64 : decode cX12_many 64 = .ok (.i2l, 1) := by decide +kernel
theorem dX12_many_65 : decode cX12_many 65 = .ok (.lcmp, 1) := by decide +kernel
theorem dX12_many_66 : decode cX12_many 66 = .ok (.ifCond .ne 26, 3) := by decide +kernel
theorem dX12_many_69 : decode cX12_many 69 = .ok (.goto 20, 3) := by decide +kernel
theorem dX12_many_72 : decode cX12_many 72 = .ok (.aload_n 0, 1) := by decide +kernel
theorem dX12_many_73 : decode cX12_many 73 = .ok (.getfield 42, 3) := by decide +kernel
theorem dX12_many_76 : decode cX12_many 76 = .ok (.iload 5, 2) := by decide +kernel
theorem dX12_many_78 : decode cX12_many 78 = .ok (.sipush 3000, 3) := by decide +kernel
theorem dX12_many_81 : decode cX12_many 81 = .ok (.iadd, 1) := by decide +kernel
theorem dX12_many_82 : decode cX12_many 82 = .ok (.laload, 1) := by decide +kernel
theorem dX12_many_83 : decode cX12_many 83 = .ok (.iload_n 3, 1) := by decide +kernel
theorem dX12_many_84 : decode cX12_many 84 = .ok (.i2l, 1) := by decide +kernel
theorem dX12_many_85 : decode cX12_many 85 = .ok (.lcmp, 1) := by decide +kernel
theorem dX12_many_86 : decode cX12_many 86 = .ok (.ifCond .lt 6, 3) := by decide +kernel
theorem dX12_many_89 : decode cX12_many 89 = .ok (.iload 5, 2) := by decide +kernel
theorem dX12_many_91 : decode cX12_many 91 = .ok (.ireturn, 1) := by decide +kernel
theorem dX12_many_92 : decode cX12_many 92 = .ok (.iinc 5 1, 3) := by decide +kernel
theorem dX12_many_95 : decode cX12_many 95 = .ok (.goto (-56), 3) := by decide +kernel
theorem dX12_many_98 : decode cX12_many 98 = .ok (.ldc_w 321, 3) := by decide +kernel
theorem dX12_many_101 : decode cX12_many 101 = .ok (.ireturn, 1) := by decide +kernel
theorem dX12_greed_0 : decode cX12_greed 0 = .ok (.aload_n 0, 1) := by decide +kernel
theorem dX12_greed_1 : decode cX12_greed 1 = .ok (.iload_n 1, 1) := by decide +kernel
theorem dX12_greed_2 : decode cX12_greed 2 = .ok (.invokevirtual 274, 3) := by decide +kernel
theorem dX12_greed_5 : decode cX12_greed 5 = .ok (.ifCond .eq 24, 3) := by decide +kernel
theorem dX12_greed_8 : decode cX12_greed 8 = .ok (.iload_n 2, 1) := by decide +kernel
theorem dX12_greed_9 : decode cX12_greed 9 = .ok (.invokestatic 277, 3) := by decide +kernel
theorem dX12_greed_12 : decode cX12_greed 12 = .ok (.ifCond .eq 17, 3) := by decide +kernel
theorem dX12_greed_15 : decode cX12_greed 15 = .ok (.iload_n 3, 1) := by decide +kernel
theorem dX12_greed_16 : decode cX12_greed 16 = .ok (.iconst (-1), 1) := by decide +kernel
theorem dX12_greed_17 : decode cX12_greed 17 = .ok (.if_icmp .eq 16, 3) := by decide +kernel
theorem dX12_greed_20 : decode cX12_greed 20 = .ok (.aload_n 0, 1) := by decide +kernel
theorem dX12_greed_21 : decode cX12_greed 21 = .ok (.iload_n 1, 1) := by decide +kernel
theorem dX12_greed_22 : decode cX12_greed 22 = .ok (.iload_n 3, 1) := by decide +kernel
theorem dX12_greed_23 : decode cX12_greed 23 = .ok (.invokevirtual 313, 3) := by decide +kernel
theorem dX12_greed_26 : decode cX12_greed 26 = .ok (.ifCond .ne 7, 3) := by decide +kernel
theorem dX12_greed_29 : decode cX12_greed 29 = .ok (.ldc_w 321, 3) := by decide +kernel
theorem dX12_greed_32 : decode cX12_greed 32 = .ok (.ireturn, 1) := by decide +kernel
theorem dX12_greed_33 : decode cX12_greed 33 = .ok (.iload_n 2, 1) := by decide +kernel
theorem dX12_greed_34 : decode cX12_greed 34 = .ok (.i2l, 1) := by decide +kernel
theorem dX12_greed_35 : decode cX12_greed 35 = .ok (.lstore 4, 2) := by decide +kernel
theorem dX12_greed_37 : decode cX12_greed 37 = .ok (.iconst 0, 1) := by decide +kernel
theorem dX12_greed_38 : decode cX12_greed 38 = .ok (.istore 6, 2) := by decide +kernel
theorem dX12_greed_40 : decode cX12_greed 40 = .ok (.iload 6, 2) := by decide +kernel
theorem dX12_greed_42 : decode cX12_greed 42 = .ok (.aload_n 0, 1) := by decide +kernel
theorem dX12_greed_43 : decode cX12_greed 43 = .ok (.getfield 9, 3) := by decide +kernel
theorem dX12_greed_46 : decode cX12_greed 46 = .ok (.iload_n 1, 1) := by decide +kernel
theorem dX12_greed_47 : decode cX12_greed 47 = .ok (.iaload, 1) := by decide +kernel
theorem dX12_greed_48 : decode cX12_greed 48 = .ok (.if_icmp .ge 139, 3) := by decide +kernel
theorem dX12_greed_51 : decode cX12_greed 51 = .ok (.aload_n 0, 1) := by decide +kernel
theorem dX12_greed_52 : decode cX12_greed 52 = .ok (.iload_n 1, 1) := by decide +kernel
theorem dX12_greed_53 : decode cX12_greed 53 = .ok (.iload 6, 2) := by decide +kernel
theorem dX12_greed_55 : decode cX12_greed 55 = .ok (.iconst 2, 1) := by decide +kernel
theorem dX12_greed_56 : decode cX12_greed 56 = .ok (.invokevirtual 93, 3) := by decide +kernel
theorem dX12_greed_59 : decode cX12_greed 59 = .ok (.istore 7, 2) := by decide +kernel
theorem dX12_greed_61 : decode cX12_greed 61 = .ok (.iload 7, 2) := by decide +kernel
theorem dX12_greed_63 : decode cX12_greed 63 = .ok (.iconst 1, 1) := by decide +kernel
theorem dX12_greed_64 : decode cX12_greed 64 = .ok (.iadd, 1) := by decide +kernel
theorem dX12_greed_65 : decode cX12_greed 65 = .ok (.istore 8, 2) := by decide +kernel
theorem dX12_greed_67 : decode cX12_greed 67 = .ok (.iload 8, 2) := by decide +kernel
theorem dX12_greed_69 : decode cX12_greed 69 = .ok (.aload_n 0, 1) := by decide +kernel
theorem dX12_greed_70 : decode cX12_greed 70 = .ok (.iload_n 1, 1) := by decide +kernel
theorem dX12_greed_71 : decode cX12_greed 71 = .ok (.iload 6, 2) := by decide +kernel
theorem dX12_greed_73 : decode cX12_greed 73 = .ok (.iconst 3, 1) := by decide +kernel
theorem dX12_greed_74 : decode cX12_greed 74 = .ok (.invokevirtual 93, 3) := by decide +kernel
theorem dX12_greed_77 : decode cX12_greed 77 = .ok (.if_icmp .gt 80, 3) := by decide +kernel
theorem dX12_greed_80 : decode cX12_greed 80 = .ok (.aload_n 0, 1) := by decide +kernel
theorem dX12_greed_81 : decode cX12_greed 81 = .ok (.iload_n 1, 1) := by decide +kernel
theorem dX12_greed_82 : decode cX12_greed 82 = .ok (.iload 6, 2) := by decide +kernel
theorem dX12_greed_84 : decode cX12_greed 84 = .ok (.iload 8, 2) := by decide +kernel
theorem dX12_greed_86 : decode cX12_greed 86 = .ok (.i2l, 1) := by decide +kernel
theorem dX12_greed_87 : decode cX12_greed 87 = .ok (.invokevirtual 234, 3) := by decide +kernel
theorem dX12_greed_90 : decode cX12_greed 90 = .ok (.lstore 9, 2) := by decide +kernel
theorem dX12_greed_92 : decode cX12_greed 92 = .ok (.aload_n 0, 1) := by decide +kernel
theorem dX12_greed_93 : decode cX12_greed 93 = .ok (.iload_n 1, 1) := by decide +kernel
theorem dX12_greed_94 : decode cX12_greed 94 = .ok (.iload 6, 2) := by decide +kernel
theorem dX12_greed_96 : decode cX12_greed 96 = .ok (.iload 7, 2) := by decide +kernel
theorem dX12_greed_98 : decode cX12_greed 98 = .ok (.i2l, 1) := by decide +kernel
theorem dX12_greed_99 : decode cX12_greed 99 = .ok (.invokevirtual 234, 3) := by decide +kernel
theorem dX12_greed_102 : decode cX12_greed 102 = .ok (.lstore 11, 2) := by decide +kernel
theorem dX12_greed_104 : decode cX12_greed 104 = .ok (.lload 9, 2) := by decide +kernel
theorem dX12_greed_106 : decode cX12_greed 106 = .ok (.lload 4, 2) := by decide +kernel
theorem dX12_greed_108 : decode cX12_greed 108 = .ok (.lcmp, 1) := by decide +kernel
theorem dX12_greed_109 : decode cX12_greed 109 = .ok (.ifCond .gt 22, 3) := by decide +kernel
theorem dX12_greed_112 : decode cX12_greed 112 = .ok (.lload 11, 2) := by decide +kernel
theorem dX12_greed_114 : decode cX12_greed 114 = .ok (.lload 4, 2) := by decide +kernel
theorem dX12_greed_116 : decode cX12_greed 116 = .ok (.lcmp, 1) := by decide +kernel
theorem dX12_greed_117 : decode cX12_greed 117 = .ok (.ifCond .gt 30, 3) := by decide +kernel
theorem dX12_greed_120 : decode cX12_greed 120 = .ok (.lload 9, 2) := by decide +kernel
theorem dX12_greed_122 : decode cX12_greed 122 = .ok (.lload 11, 2) := by decide +kernel
theorem dX12_greed_124 : decode cX12_greed 124 = .ok (.lcmp, 1) := by decide +kernel
theorem dX12_greed_125 : decode cX12_greed 125 = .ok (.ifCond .le 26, 3) := by decide +kernel
theorem dX12_greed_128 : decode cX12_greed 128 = .ok (.goto 19, 3) := by decide +kernel
theorem dX12_greed_131 : decode cX12_greed 131 = .ok (.lload 11, 2) := by decide +kernel
theorem dX12_greed_133 : decode cX12_greed 133 = .ok (.lload 4, 2) := by decide +kernel
theorem dX12_greed_135 : decode cX12_greed 135 = .ok (.lcmp, 1) := by decide +kernel
theorem dX12_greed_136 : decode cX12_greed 136 = .ok (.ifCond .le 15, 3) := by decide +kernel
theorem dX12_greed_139 : decode cX12_greed 139 = .ok (.lload 9, 2) := by decide +kernel
theorem dX12_greed_141 : decode cX12_greed 141 = .ok (.lload 11, 2) := by decide +kernel
theorem dX12_greed_143 : decode cX12_greed 143 = .ok (.lcmp, 1) := by decide +kernel
theorem dX12_greed_144 : decode cX12_greed 144 = .ok (.ifCond .ge 7, 3) := by decide +kernel
theorem dX12_greed_147 : decode cX12_greed 147 = .ok (.iload 8, 2) := by decide +kernel
theorem dX12_greed_149 : decode cX12_greed 149 = .ok (.istore 7, 2) := by decide +kernel
theorem dX12_greed_151 : decode cX12_greed 151 = .ok (.iinc 8 1, 3) := by decide +kernel
theorem dX12_greed_154 : decode cX12_greed 154 = .ok (.goto (-87), 3) := by decide +kernel
theorem dX12_greed_157 : decode cX12_greed 157 = .ok (.iload 6, 2) := by decide +kernel
theorem dX12_greed_159 : decode cX12_greed 159 = .ok (.iload_n 3, 1) := by decide +kernel
theorem dX12_greed_160 : decode cX12_greed 160 = .ok (.if_icmp .ne 6, 3) := by decide +kernel
theorem dX12_greed_163 : decode cX12_greed 163 = .ok (.iload 7, 2) := by decide +kernel
theorem dX12_greed_165 : decode cX12_greed 165 = .ok (.ireturn, 1) := by decide +kernel
theorem dX12_greed_166 : decode cX12_greed 166 = .ok (.lload 4, 2) := by decide +kernel
theorem dX12_greed_168 : decode cX12_greed 168 = .ok (.aload_n 0, 1) := by decide +kernel
theorem dX12_greed_169 : decode cX12_greed 169 = .ok (.iload_n 1, 1) := by decide +kernel
theorem dX12_greed_170 : decode cX12_greed 170 = .ok (.iload 6, 2) := by decide +kernel
theorem dX12_greed_172 : decode cX12_greed 172 = .ok (.iload 7, 2) := by decide +kernel
theorem dX12_greed_174 : decode cX12_greed 174 = .ok (.i2l, 1) := by decide +kernel
theorem dX12_greed_175 : decode cX12_greed 175 = .ok (.invokevirtual 234, 3) := by decide +kernel
theorem dX12_greed_178 : decode cX12_greed 178 = .ok (.lsub, 1) := by decide +kernel
theorem dX12_greed_179 : decode cX12_greed 179 = .ok (.lstore 4, 2) := by decide +kernel
theorem dX12_greed_181 : decode cX12_greed 181 = .ok (.iinc 6 1, 3) := by decide +kernel
theorem dX12_greed_184 : decode cX12_greed 184 = .ok (.goto (-144), 3) := by decide +kernel
theorem dX12_greed_187 : decode cX12_greed 187 = .ok (.lload 4, 2) := by decide +kernel
theorem dX12_greed_189 : decode cX12_greed 189 = .ok (.l2i, 1) := by decide +kernel
theorem dX12_greed_190 : decode cX12_greed 190 = .ok (.ireturn, 1) := by decide +kernel
theorem dX12_nearest_0 : decode cX12_nearest 0 = .ok (.aload_n 0, 1) := by decide +kernel
theorem dX12_nearest_1 : decode cX12_nearest 1 = .ok (.iload_n 1, 1) := by decide +kernel
theorem dX12_nearest_2 : decode cX12_nearest 2 = .ok (.invokevirtual 274, 3) := by decide +kernel
theorem dX12_nearest_5 : decode cX12_nearest 5 = .ok (.ifCond .eq 10, 3) := by decide +kernel
theorem dX12_nearest_8 : decode cX12_nearest 8 = .ok (.iload_n 2, 1) := by decide +kernel
theorem dX12_nearest_9 : decode cX12_nearest 9 = .ok (.invokestatic 277, 3) := by decide +kernel
theorem dX12_nearest_12 : decode cX12_nearest 12 = .ok (.ifCond .ne 7, 3) := by decide +kernel
theorem dX12_nearest_15 : decode cX12_nearest 15 = .ok (.ldc_w 321, 3) := by decide +kernel
theorem dX12_nearest_18 : decode cX12_nearest 18 = .ok (.ireturn, 1) := by decide +kernel
theorem dX12_nearest_19 : decode cX12_nearest 19 = .ok (.aload_n 0, 1) := by decide +kernel
theorem dX12_nearest_20 : decode cX12_nearest 20 = .ok (.iload_n 1, 1) := by decide +kernel
theorem dX12_nearest_21 : decode cX12_nearest 21 = .ok (.invokevirtual 282, 3) := by decide +kernel
theorem dX12_nearest_24 : decode cX12_nearest 24 = .ok (.iconst 0, 1) := by decide +kernel
theorem dX12_nearest_25 : decode cX12_nearest 25 = .ok (.istore_n 3, 1) := by decide +kernel
theorem dX12_nearest_26 : decode cX12_nearest 26 = .ok (.aload_n 0, 1) := by decide +kernel
theorem dX12_nearest_27 : decode cX12_nearest 27 = .ok (.iconst 0, 1) := by decide +kernel
theorem dX12_nearest_28 : decode cX12_nearest 28 = .ok (.iload_n 2, 1) := by decide +kernel
theorem dX12_nearest_29 : decode cX12_nearest 29 = .ok (.iload_n 3, 1) := by decide +kernel
theorem dX12_nearest_30 : decode cX12_nearest 30 = .ok (.isub, 1) := by decide +kernel
theorem dX12_nearest_31 : decode cX12_nearest 31 = .ok (.sipush 15000, 3) := by decide +kernel
theorem dX12_nearest_34 : decode cX12_nearest 34 = .ok (.iadd, 1) := by decide +kernel
theorem dX12_nearest_35 : decode cX12_nearest 35 = .ok (.i2l, 1) := by decide +kernel
theorem dX12_nearest_36 : decode cX12_nearest 36 = .ok (.invokevirtual 262, 3) := by decide +kernel
theorem dX12_nearest_39 : decode cX12_nearest 39 = .ok (.lconst 0, 1) := by decide +kernel
theorem dX12_nearest_40 : decode cX12_nearest 40 = .ok (.lcmp, 1) := by decide +kernel
theorem dX12_nearest_41 : decode cX12_nearest 41 = .ok (.ifCond .ne 27, 3) := by decide +kernel
theorem dX12_nearest_44 : decode cX12_nearest 44 = .ok (.aload_n 0, 1) := by decide +kernel
theorem dX12_nearest_45 : decode cX12_nearest 45 = .ok (.iconst 0, 1) := by decide +kernel
theorem dX12_nearest_46 : decode cX12_nearest 46 = .ok (.iload_n 2, 1) := by decide +kernel
theorem dX12_nearest_47 : decode cX12_nearest 47 = .ok (.iload_n 3, 1) := by decide +kernel
theorem dX12_nearest_48 : decode cX12_nearest 48 = .ok (.iadd, 1) := by decide +kernel
theorem dX12_nearest_49 : decode cX12_nearest 49 = .ok (.sipush 15000, 3) := by decide +kernel
theorem dX12_nearest_52 : decode cX12_nearest 52 = .ok (.iadd, 1) := by decide +kernel
theorem dX12_nearest_53 : decode cX12_nearest 53 = .ok (.i2l, 1) := by decide +kernel
theorem dX12_nearest_54 : decode cX12_nearest 54 = .ok (.invokevirtual 262, 3) := by decide +kernel
theorem dX12_nearest_57 : decode cX12_nearest 57 = .ok (.lconst 0, 1) := by decide +kernel
theorem dX12_nearest_58 : decode cX12_nearest 58 = .ok (.lcmp, 1) := by decide +kernel
theorem dX12_nearest_59 : decode cX12_nearest 59 = .ok (.ifCond .ne 9, 3) := by decide +kernel
theorem dX12_nearest_62 : decode cX12_nearest 62 = .ok (.iinc 3 1, 3) := by decide +kernel
theorem dX12_nearest_65 : decode cX12_nearest 65 = .ok (.goto (-39), 3) := by decide +kernel
theorem dX12_nearest_68 : decode cX12_nearest 68 = .ok (.aload_n 0, 1) := by decide +kernel
theorem dX12_nearest_69 : decode cX12_nearest 69 = .ok (.iconst 0, 1) := by decide +kernel
theorem dX12_nearest_70 : decode cX12_nearest 70 = .ok (.iload_n 2, 1) := by decide +kernel
theorem dX12_nearest_71 : decode cX12_nearest 71 = .ok (.iload_n 3, 1) := by decide +kernel
theorem dX12_nearest_72 : decode cX12_nearest 72 = .ok (.isub, 1) := by decide +kernel
theorem dX12_nearest_73 : decode cX12_nearest 73 = .ok (.sipush 15000, 3) := by decide +kernel
theorem dX12_nearest_76 : decode cX12_nearest 76 = .ok (.iadd, 1) := by decide +kernel
theorem dX12_nearest_77 : decode cX12_nearest 77 = .ok (.i2l, 1) := by decide +kernel
theorem dX12_nearest_78 : decode cX12_nearest 78 = .ok (.invokevirtual 262, 3) := by decide +kernel
theorem dX12_nearest_81 : decode cX12_nearest 81 = .ok (.lconst 0, 1) := by decide +kernel
theorem dX12_nearest_82 : decode cX12_nearest 82 = .ok (.lcmp, 1) := by decide +kernel
theorem dX12_nearest_83 : decode cX12_nearest 83 = .ok (.ifCond .le 9, 3) := by decide +kernel
theorem dX12_nearest_86 : decode cX12_nearest 86 = .ok (.iload_n 2, 1) := by decide +kernel
theorem dX12_nearest_87 : decode cX12_nearest 87 = .ok (.iload_n 3, 1) := by decide +kernel
theorem dX12_nearest_88 : decode cX12_nearest 88 = .ok (.isub, 1) := by decide +kernel
theorem dX12_nearest_89 : decode cX12_nearest 89 = .ok (.goto 6, 3) := by decide +kernel
theorem dX12_nearest_92 : decode cX12_nearest 92 = .ok (.iload_n 2, 1) := by decide +kernel
theorem dX12_nearest_93 : decode cX12_nearest 93 = .ok (.iload_n 3, 1) := by decide +kernel
theorem dX12_nearest_94 : decode cX12_nearest 94 = .ok (.iadd, 1) := by decide +kernel
theorem dX12_nearest_95 : decode cX12_nearest 95 = .ok (.ireturn, 1) := by decide +kernel
theorem dX12_enough_0 : decode cX12_enough 0 = .ok (.aload_n 0, 1) := by decide +kernel
theorem dX12_enough_1 : decode cX12_enough 1 = .ok (.iload_n 1, 1) := by decide +kernel
theorem dX12_enough_2 : decode cX12_enough 2 = .ok (.invokevirtual 274, 3) := by decide +kernel
theorem dX12_enough_5 : decode cX12_enough 5 = .ok (.ifCond .eq 10, 3) := by decide +kernel
theorem dX12_enough_8 : decode cX12_enough 8 = .ok (.iload_n 2, 1) := by decide +kernel
theorem dX12_enough_9 : decode cX12_enough 9 = .ok (.invokestatic 277, 3) := by decide +kernel
theorem dX12_enough_12 : decode cX12_enough 12 = .ok (.ifCond .ne 5, 3) := by decide +kernel
theorem dX12_enough_15 : decode cX12_enough 15 = .ok (.iconst (-1), 1) := by decide +kernel
theorem dX12_enough_16 : decode cX12_enough 16 = .ok (.ireturn, 1) := by decide +kernel
theorem dX12_enough_17 : decode cX12_enough 17 = .ok (.aload_n 0, 1) := by decide +kernel
theorem dX12_enough_18 : decode cX12_enough 18 = .ok (.iconst (-1), 1) := by decide +kernel
theorem dX12_enough_19 : decode cX12_enough 19 = .ok (.putfield 31, 3) := by decide +kernel
theorem dX12_enough_22 : decode cX12_enough 22 = .ok (.aload_n 0, 1) := by decide +kernel
theorem dX12_enough_23 : decode cX12_enough 23 = .ok (.iconst 0, 1) := by decide +kernel
theorem dX12_enough_24 : decode cX12_enough 24 = .ok (.invokevirtual 267, 3) := by decide +kernel
theorem dX12_enough_27 : decode cX12_enough 27 = .ok (.iconst 0, 1) := by decide +kernel
theorem dX12_enough_28 : decode cX12_enough 28 = .ok (.istore_n 3, 1) := by decide +kernel
theorem dX12_enough_29 : decode cX12_enough 29 = .ok (.iload_n 3, 1) := by decide +kernel
theorem dX12_enough_30 : decode cX12_enough 30 = .ok (.aload_n 0, 1) := by decide +kernel
theorem dX12_enough_31 : decode cX12_enough 31 = .ok (.getfield 9, 3) := by decide +kernel
theorem dX12_enough_34 : decode cX12_enough 34 = .ok (.iload_n 1, 1) := by decide +kernel
theorem dX12_enough_35 : decode cX12_enough 35 = .ok (.iaload, 1) := by decide +kernel
theorem dX12_enough_36 : decode cX12_enough 36 = .ok (.if_icmp .ge 92, 3) := by decide +kernel
theorem dX12_enough_39 : decode cX12_enough 39 = .ok (.iconst 0, 1) := by decide +kernel
theorem dX12_enough_40 : decode cX12_enough 40 = .ok (.istore 4, 2) := by decide +kernel
theorem dX12_enough_42 : decode cX12_enough 42 = .ok (.iload 4, 2) := by decide +kernel
theorem dX12_enough_44 : decode cX12_enough 44 = .ok (.sipush 30001, 3) := by decide +kernel
theorem dX12_enough_47 : decode cX12_enough 47 = .ok (.if_icmp .ge 27, 3) := by decide +kernel
theorem dX12_enough_50 : decode cX12_enough 50 = .ok (.aload_n 0, 1) := by decide +kernel
theorem dX12_enough_51 : decode cX12_enough 51 = .ok (.getfield 35, 3) := by decide +kernel
theorem dX12_enough_54 : decode cX12_enough 54 = .ok (.sipush 30001, 3) := by decide +kernel
theorem dX12_enough_57 : decode cX12_enough 57 = .ok (.iload 4, 2) := by decide +kernel
theorem dX12_enough_59 : decode cX12_enough 59 = .ok (.iadd, 1) := by decide +kernel
theorem dX12_enough_60 : decode cX12_enough 60 = .ok (.aload_n 0, 1) := by decide +kernel
theorem dX12_enough_61 : decode cX12_enough 61 = .ok (.getfield 35, 3) := by decide +kernel
theorem dX12_enough_64 : decode cX12_enough 64 = .ok (.iload 4, 2) := by decide +kernel
theorem dX12_enough_66 : decode cX12_enough 66 = .ok (.laload, 1) := by decide +kernel
theorem dX12_enough_67 : decode cX12_enough 67 = .ok (.lastore, 1) := by decide +kernel
theorem dX12_enough_68 : decode cX12_enough 68 = .ok (.iinc 4 1, 3) := by decide +kernel
theorem dX12_enough_71 : decode cX12_enough 71 = .ok (.goto (-29), 3) := by decide +kernel
theorem dX12_enough_74 : decode cX12_enough 74 = .ok (.aload_n 0, 1) := by decide +kernel
theorem dX12_enough_75 : decode cX12_enough 75 = .ok (.iconst 0, 1) := by decide +kernel
theorem dX12_enough_76 : decode cX12_enough 76 = .ok (.iconst 1, 1) := by decide +kernel
theorem dX12_enough_77 : decode cX12_enough 77 = .ok (.aload_n 0, 1) := by decide +kernel
theorem dX12_enough_78 : decode cX12_enough 78 = .ok (.iload_n 1, 1) := by decide +kernel
theorem dX12_enough_79 : decode cX12_enough 79 = .ok (.iload_n 3, 1) := by decide +kernel
theorem dX12_enough_80 : decode cX12_enough 80 = .ok (.iconst 0, 1) := by decide +kernel
theorem dX12_enough_81 : decode cX12_enough 81 = .ok (.invokevirtual 93, 3) := by decide +kernel
theorem dX12_enough_84 : decode cX12_enough 84 = .ok (.aload_n 0, 1) := by decide +kernel
theorem dX12_enough_85 : decode cX12_enough 85 = .ok (.iload_n 1, 1) := by decide +kernel
theorem dX12_enough_86 : decode cX12_enough 86 = .ok (.iload_n 3, 1) := by decide +kernel
theorem dX12_enough_87 : decode cX12_enough 87 = .ok (.iconst 1, 1) := by decide +kernel
theorem dX12_enough_88 : decode cX12_enough 88 = .ok (.invokevirtual 93, 3) := by decide +kernel
theorem dX12_enough_91 : decode cX12_enough 91 = .ok (.aload_n 0, 1) := by decide +kernel
theorem dX12_enough_92 : decode cX12_enough 92 = .ok (.iload_n 1, 1) := by decide +kernel
theorem dX12_enough_93 : decode cX12_enough 93 = .ok (.iload_n 3, 1) := by decide +kernel
theorem dX12_enough_94 : decode cX12_enough 94 = .ok (.iconst 2, 1) := by decide +kernel
theorem dX12_enough_95 : decode cX12_enough 95 = .ok (.invokevirtual 93, 3) := by decide +kernel
theorem dX12_enough_98 : decode cX12_enough 98 = .ok (.aload_n 0, 1) := by decide +kernel
theorem dX12_enough_99 : decode cX12_enough 99 = .ok (.iload_n 1, 1) := by decide +kernel
theorem dX12_enough_100 : decode cX12_enough 100 = .ok (.iload_n 3, 1) := by decide +kernel
theorem dX12_enough_101 : decode cX12_enough 101 = .ok (.iconst 3, 1) := by decide +kernel
theorem dX12_enough_102 : decode cX12_enough 102 = .ok (.invokevirtual 93, 3) := by decide +kernel
theorem dX12_enough_105 : decode cX12_enough 105 = .ok (.invokevirtual 270, 3) := by decide +kernel
theorem dX12_enough_108 : decode cX12_enough 108 = .ok (.aload_n 0, 1) := by decide +kernel
theorem dX12_enough_109 : decode cX12_enough 109 = .ok (.iload_n 2, 1) := by decide +kernel
theorem dX12_enough_110 : decode cX12_enough 110 = .ok (.invokevirtual 285, 3) := by decide +kernel
theorem dX12_enough_113 : decode cX12_enough 113 = .ok (.lconst 0, 1) := by decide +kernel
theorem dX12_enough_114 : decode cX12_enough 114 = .ok (.lcmp, 1) := by decide +kernel
theorem dX12_enough_115 : decode cX12_enough 115 = .ok (.ifCond .le 7, 3) := by decide +kernel
theorem dX12_enough_118 : decode cX12_enough 118 = .ok (.iload_n 3, 1) := by decide +kernel
theorem dX12_enough_119 : decode cX12_enough 119 = .ok (.iconst 1, 1) := by decide +kernel
theorem dX12_enough_120 : decode cX12_enough 120 = .ok (.iadd, 1) := by decide +kernel
theorem dX12_enough_121 : decode cX12_enough 121 = .ok (.ireturn, 1) := by decide +kernel
theorem dX12_enough_122 : decode cX12_enough 122 = .ok (.iinc 3 1, 3) := by decide +kernel
theorem dX12_enough_125 : decode cX12_enough 125 = .ok (.goto (-96), 3) := by decide +kernel
theorem dX12_enough_128 : decode cX12_enough 128 = .ok (.iconst (-1), 1) := by decide +kernel
theorem dX12_enough_129 : decode cX12_enough 129 = .ok (.ireturn, 1) := by decide +kernel
theorem dX12_join_0 : decode cX12_join 0 = .ok (.iload_n 1, 1) := by decide +kernel
theorem dX12_join_1 : decode cX12_join 1 = .ok (.invokestatic 111, 3) := by decide +kernel
theorem dX12_join_4 : decode cX12_join 4 = .ok (.ifCond .eq 41, 3) := by decide +kernel
theorem dX12_join_7 : decode cX12_join 7 = .ok (.iload_n 2, 1) := by decide +kernel
theorem dX12_join_8 : decode cX12_join 8 = .ok (.invokestatic 111, 3) := by decide +kernel
theorem dX12_join_11 : decode cX12_join 11 = .ok (.ifCond .eq 34, 3) := by decide +kernel
theorem dX12_join_14 : decode cX12_join 14 = .ok (.iload_n 3, 1) := by decide +kernel
theorem dX12_join_15 : decode cX12_join 15 = .ok (.invokestatic 111, 3) := by decide +kernel
theorem dX12_join_18 : decode cX12_join 18 = .ok (.ifCond .eq 27, 3) := by decide +kernel
theorem dX12_join_21 : decode cX12_join 21 = .ok (.aload_n 0, 1) := by decide +kernel
theorem dX12_join_22 : decode cX12_join 22 = .ok (.getfield 9, 3) := by decide +kernel
theorem dX12_join_25 : decode cX12_join 25 = .ok (.iload_n 1, 1) := by decide +kernel
theorem dX12_join_26 : decode cX12_join 26 = .ok (.iaload, 1) := by decide +kernel
theorem dX12_join_27 : decode cX12_join 27 = .ok (.aload_n 0, 1) := by decide +kernel
theorem dX12_join_28 : decode cX12_join 28 = .ok (.getfield 9, 3) := by decide +kernel
theorem dX12_join_31 : decode cX12_join 31 = .ok (.iload_n 2, 1) := by decide +kernel
theorem dX12_join_32 : decode cX12_join 32 = .ok (.iaload, 1) := by decide +kernel
theorem dX12_join_33 : decode cX12_join 33 = .ok (.iadd, 1) := by decide +kernel
theorem dX12_join_34 : decode cX12_join 34 = .ok (.i2l, 1) := by decide +kernel
theorem dX12_join_35 : decode cX12_join 35 = .ok (.lconst 1, 1) := by decide +kernel
theorem dX12_join_36 : decode cX12_join 36 = .ok (.ldc2_w 440, 3) := by decide +kernel
theorem dX12_join_39 : decode cX12_join 39 = .ok (.invokestatic 105, 3) := by decide +kernel
theorem dX12_join_42 : decode cX12_join 42 = .ok (.ifCond .ne 5, 3) := by decide +kernel
theorem dX12_join_45 : decode cX12_join 45 = .ok (.iconst 0, 1) := by decide +kernel
theorem dX12_join_46 : decode cX12_join 46 = .ok (.ireturn, 1) := by decide +kernel
theorem dX12_join_47 : decode cX12_join 47 = .ok (.aload_n 0, 1) := by decide +kernel
theorem dX12_join_48 : decode cX12_join 48 = .ok (.getfield 9, 3) := by decide +kernel
theorem dX12_join_51 : decode cX12_join 51 = .ok (.iconst 4, 1) := by decide +kernel
theorem dX12_join_52 : decode cX12_join 52 = .ok (.aload_n 0, 1) := by decide +kernel
theorem dX12_join_53 : decode cX12_join 53 = .ok (.getfield 9, 3) := by decide +kernel
theorem dX12_join_56 : decode cX12_join 56 = .ok (.iload_n 1, 1) := by decide +kernel
theorem dX12_join_57 : decode cX12_join 57 = .ok (.iaload, 1) := by decide +kernel
theorem dX12_join_58 : decode cX12_join 58 = .ok (.aload_n 0, 1) := by decide +kernel
theorem dX12_join_59 : decode cX12_join 59 = .ok (.getfield 9, 3) := by decide +kernel
theorem dX12_join_62 : decode cX12_join 62 = .ok (.iload_n 2, 1) := by decide +kernel
theorem dX12_join_63 : decode cX12_join 63 = .ok (.iaload, 1) := by decide +kernel
theorem dX12_join_64 : decode cX12_join 64 = .ok (.iadd, 1) := by decide +kernel
theorem dX12_join_65 : decode cX12_join 65 = .ok (.iastore, 1) := by decide +kernel
theorem dX12_join_66 : decode cX12_join 66 = .ok (.iconst 0, 1) := by decide +kernel
theorem dX12_join_67 : decode cX12_join 67 = .ok (.istore 4, 2) := by decide +kernel
theorem dX12_join_69 : decode cX12_join 69 = .ok (.iload 4, 2) := by decide +kernel
theorem dX12_join_71 : decode cX12_join 71 = .ok (.aload_n 0, 1) := by decide +kernel
theorem dX12_join_72 : decode cX12_join 72 = .ok (.getfield 9, 3) := by decide +kernel
theorem dX12_join_75 : decode cX12_join 75 = .ok (.iload_n 1, 1) := by decide +kernel
theorem dX12_join_76 : decode cX12_join 76 = .ok (.iaload, 1) := by decide +kernel
theorem dX12_join_77 : decode cX12_join 77 = .ok (.if_icmp .ge 19, 3) := by decide +kernel
theorem dX12_join_80 : decode cX12_join 80 = .ok (.aload_n 0, 1) := by decide +kernel
theorem dX12_join_81 : decode cX12_join 81 = .ok (.iload_n 1, 1) := by decide +kernel
theorem dX12_join_82 : decode cX12_join 82 = .ok (.iload 4, 2) := by decide +kernel
theorem dX12_join_84 : decode cX12_join 84 = .ok (.iconst 4, 1) := by decide +kernel
theorem dX12_join_85 : decode cX12_join 85 = .ok (.iload 4, 2) := by decide +kernel
theorem dX12_join_87 : decode cX12_join 87 = .ok (.invokevirtual 243, 3) := by decide +kernel
theorem dX12_join_90 : decode cX12_join 90 = .ok (.iinc 4 1, 3) := by decide +kernel
theorem dX12_join_93 : decode cX12_join 93 = .ok (.goto (-24), 3) := by decide +kernel
theorem dX12_join_96 : decode cX12_join 96 = .ok (.iconst 0, 1) := by decide +kernel
theorem dX12_join_97 : decode cX12_join 97 = .ok (.istore 4, 2) := by decide +kernel
theorem dX12_join_99 : decode cX12_join 99 = .ok (.iload 4, 2) := by decide +kernel
theorem dX12_join_101 : decode cX12_join 101 = .ok (.aload_n 0, 1) := by decide +kernel
theorem dX12_join_102 : decode cX12_join 102 = .ok (.getfield 9, 3) := by decide +kernel
theorem dX12_join_105 : decode cX12_join 105 = .ok (.iload_n 2, 1) := by decide +kernel
theorem dX12_join_106 : decode cX12_join 106 = .ok (.iaload, 1) := by decide +kernel
theorem dX12_join_107 : decode cX12_join 107 = .ok (.if_icmp .ge 26, 3) := by decide +kernel
theorem dX12_join_110 : decode cX12_join 110 = .ok (.aload_n 0, 1) := by decide +kernel
theorem dX12_join_111 : decode cX12_join 111 = .ok (.iload_n 2, 1) := by decide +kernel
theorem dX12_join_112 : decode cX12_join 112 = .ok (.iload 4, 2) := by decide +kernel
theorem dX12_join_114 : decode cX12_join 114 = .ok (.iconst 4, 1) := by decide +kernel
theorem dX12_join_115 : decode cX12_join 115 = .ok (.aload_n 0, 1) := by decide +kernel
theorem dX12_join_116 : decode cX12_join 116 = .ok (.getfield 9, 3) := by decide +kernel
theorem dX12_join_119 : decode cX12_join 119 = .ok (.iload_n 1, 1) := by decide +kernel
theorem dX12_join_120 : decode cX12_join 120 = .ok (.iaload, 1) := by decide +kernel
theorem dX12_join_121 : decode cX12_join 121 = .ok (.iload 4, 2) := by decide +kernel
theorem dX12_join_123 : decode cX12_join 123 = .ok (.iadd, 1) := by decide +kernel
theorem dX12_join_124 : decode cX12_join 124 = .ok (.invokevirtual 243, 3) := by decide +kernel
theorem dX12_join_127 : decode cX12_join 127 = .ok (.iinc 4 1, 3) := by decide +kernel
theorem dX12_join_130 : decode cX12_join 130 = .ok (.goto (-31), 3) := by decide +kernel
theorem dX12_join_133 : decode cX12_join 133 = .ok (.aload_n 0, 1) := by decide +kernel
theorem dX12_join_134 : decode cX12_join 134 = .ok (.iload_n 3, 1) := by decide +kernel
theorem dX12_join_135 : decode cX12_join 135 = .ok (.invokevirtual 259, 3) := by decide +kernel
theorem dX12_join_138 : decode cX12_join 138 = .ok (.iconst 1, 1) := by decide +kernel
theorem dX12_join_139 : decode cX12_join 139 = .ok (.ireturn, 1) := by decide +kernel
theorem dX12_drop_0 : decode cX12_drop 0 = .ok (.aload_n 0, 1) := by decide +kernel
theorem dX12_drop_1 : decode cX12_drop 1 = .ok (.iload_n 1, 1) := by decide +kernel
theorem dX12_drop_2 : decode cX12_drop 2 = .ok (.iload_n 2, 1) := by decide +kernel
theorem dX12_drop_3 : decode cX12_drop 3 = .ok (.invokevirtual 313, 3) := by decide +kernel
theorem dX12_drop_6 : decode cX12_drop 6 = .ok (.ifCond .ne 5, 3) := by decide +kernel
theorem dX12_drop_9 : decode cX12_drop 9 = .ok (.iconst 0, 1) := by decide +kernel
theorem dX12_drop_10 : decode cX12_drop 10 = .ok (.ireturn, 1) := by decide +kernel
theorem dX12_drop_11 : decode cX12_drop 11 = .ok (.aload_n 0, 1) := by decide +kernel
theorem dX12_drop_12 : decode cX12_drop 12 = .ok (.getfield 9, 3) := by decide +kernel
theorem dX12_drop_15 : decode cX12_drop 15 = .ok (.iconst 4, 1) := by decide +kernel
theorem dX12_drop_16 : decode cX12_drop 16 = .ok (.aload_n 0, 1) := by decide +kernel
theorem dX12_drop_17 : decode cX12_drop 17 = .ok (.getfield 9, 3) := by decide +kernel
theorem dX12_drop_20 : decode cX12_drop 20 = .ok (.iload_n 1, 1) := by decide +kernel
theorem dX12_drop_21 : decode cX12_drop 21 = .ok (.iaload, 1) := by decide +kernel
theorem dX12_drop_22 : decode cX12_drop 22 = .ok (.iconst 1, 1) := by decide +kernel
theorem dX12_drop_23 : decode cX12_drop 23 = .ok (.isub, 1) := by decide +kernel
theorem dX12_drop_24 : decode cX12_drop 24 = .ok (.iastore, 1) := by decide +kernel
theorem dX12_drop_25 : decode cX12_drop 25 = .ok (.iconst 0, 1) := by decide +kernel
theorem dX12_drop_26 : decode cX12_drop 26 = .ok (.istore_n 3, 1) := by decide +kernel
theorem dX12_drop_27 : decode cX12_drop 27 = .ok (.iload_n 3, 1) := by decide +kernel
theorem dX12_drop_28 : decode cX12_drop 28 = .ok (.aload_n 0, 1) := by decide +kernel
theorem dX12_drop_29 : decode cX12_drop 29 = .ok (.getfield 9, 3) := by decide +kernel
theorem dX12_drop_32 : decode cX12_drop 32 = .ok (.iconst 4, 1) := by decide +kernel
theorem dX12_drop_33 : decode cX12_drop 33 = .ok (.iaload, 1) := by decide +kernel
theorem dX12_drop_34 : decode cX12_drop 34 = .ok (.if_icmp .ge 28, 3) := by decide +kernel
theorem dX12_drop_37 : decode cX12_drop 37 = .ok (.aload_n 0, 1) := by decide +kernel
theorem dX12_drop_38 : decode cX12_drop 38 = .ok (.iload_n 1, 1) := by decide +kernel
theorem dX12_drop_39 : decode cX12_drop 39 = .ok (.iload_n 3, 1) := by decide +kernel
theorem dX12_drop_40 : decode cX12_drop 40 = .ok (.iload_n 2, 1) := by decide +kernel
theorem dX12_drop_41 : decode cX12_drop 41 = .ok (.if_icmp .ge 7, 3) := by decide +kernel
theorem dX12_drop_44 : decode cX12_drop 44 = .ok (.iload_n 3, 1) := by decide +kernel
theorem dX12_drop_45 : decode cX12_drop 45 = .ok (.goto 6, 3) := by decide +kernel
theorem dX12_drop_48 : decode cX12_drop 48 = .ok (.iload_n 3, 1) := by decide +kernel
theorem dX12_drop_49 : decode cX12_drop 49 = .ok (.iconst 1, 1) := by decide +kernel
theorem dX12_drop_50 : decode cX12_drop 50 = .ok (.iadd, 1) := by decide +kernel
theorem dX12_drop_51 : decode cX12_drop 51 = .ok (.iconst 4, 1) := by decide +kernel
theorem dX12_drop_52 : decode cX12_drop 52 = .ok (.iload_n 3, 1) := by decide +kernel
theorem dX12_drop_53 : decode cX12_drop 53 = .ok (.invokevirtual 243, 3) := by decide +kernel
theorem dX12_drop_56 : decode cX12_drop 56 = .ok (.iinc 3 1, 3) := by decide +kernel
theorem dX12_drop_59 : decode cX12_drop 59 = .ok (.goto (-32), 3) := by decide +kernel
theorem dX12_drop_62 : decode cX12_drop 62 = .ok (.aload_n 0, 1) := by decide +kernel
theorem dX12_drop_63 : decode cX12_drop 63 = .ok (.iload_n 1, 1) := by decide +kernel
theorem dX12_drop_64 : decode cX12_drop 64 = .ok (.invokevirtual 259, 3) := by decide +kernel
theorem dX12_drop_67 : decode cX12_drop 67 = .ok (.iconst 1, 1) := by decide +kernel
theorem dX12_drop_68 : decode cX12_drop 68 = .ok (.ireturn, 1) := by decide +kernel
theorem dX12_lead_0 : decode cX12_lead 0 = .ok (.aload_n 0, 1) := by decide +kernel
theorem dX12_lead_1 : decode cX12_lead 1 = .ok (.iload_n 1, 1) := by decide +kernel
theorem dX12_lead_2 : decode cX12_lead 2 = .ok (.iload_n 2, 1) := by decide +kernel
theorem dX12_lead_3 : decode cX12_lead 3 = .ok (.invokevirtual 313, 3) := by decide +kernel
theorem dX12_lead_6 : decode cX12_lead 6 = .ok (.ifCond .ne 5, 3) := by decide +kernel
theorem dX12_lead_9 : decode cX12_lead 9 = .ok (.iconst 0, 1) := by decide +kernel
theorem dX12_lead_10 : decode cX12_lead 10 = .ok (.ireturn, 1) := by decide +kernel
theorem dX12_lead_11 : decode cX12_lead 11 = .ok (.aload_n 0, 1) := by decide +kernel
theorem dX12_lead_12 : decode cX12_lead 12 = .ok (.getfield 9, 3) := by decide +kernel
theorem dX12_lead_15 : decode cX12_lead 15 = .ok (.iconst 4, 1) := by decide +kernel
theorem dX12_lead_16 : decode cX12_lead 16 = .ok (.aload_n 0, 1) := by decide +kernel
theorem dX12_lead_17 : decode cX12_lead 17 = .ok (.getfield 9, 3) := by decide +kernel
theorem dX12_lead_20 : decode cX12_lead 20 = .ok (.iload_n 1, 1) := by decide +kernel
theorem dX12_lead_21 : decode cX12_lead 21 = .ok (.iaload, 1) := by decide +kernel
theorem dX12_lead_22 : decode cX12_lead 22 = .ok (.iastore, 1) := by decide +kernel
theorem dX12_lead_23 : decode cX12_lead 23 = .ok (.iconst 0, 1) := by decide +kernel
theorem dX12_lead_24 : decode cX12_lead 24 = .ok (.istore_n 3, 1) := by decide +kernel
theorem dX12_lead_25 : decode cX12_lead 25 = .ok (.iload_n 3, 1) := by decide +kernel
theorem dX12_lead_26 : decode cX12_lead 26 = .ok (.aload_n 0, 1) := by decide +kernel
theorem dX12_lead_27 : decode cX12_lead 27 = .ok (.getfield 9, 3) := by decide +kernel
theorem dX12_lead_30 : decode cX12_lead 30 = .ok (.iconst 4, 1) := by decide +kernel
theorem dX12_lead_31 : decode cX12_lead 31 = .ok (.iaload, 1) := by decide +kernel
theorem dX12_lead_32 : decode cX12_lead 32 = .ok (.if_icmp .ge 36, 3) := by decide +kernel
theorem dX12_lead_35 : decode cX12_lead 35 = .ok (.aload_n 0, 1) := by decide +kernel
theorem dX12_lead_36 : decode cX12_lead 36 = .ok (.iload_n 1, 1) := by decide +kernel
theorem dX12_lead_37 : decode cX12_lead 37 = .ok (.iload_n 3, 1) := by decide +kernel
theorem dX12_lead_38 : decode cX12_lead 38 = .ok (.ifCond .ne 7, 3) := by decide +kernel
theorem dX12_lead_41 : decode cX12_lead 41 = .ok (.iload_n 2, 1) := by decide +kernel
theorem dX12_lead_42 : decode cX12_lead 42 = .ok (.goto 15, 3) := by decide +kernel
theorem dX12_lead_45 : decode cX12_lead 45 = .ok (.iload_n 3, 1) := by decide +kernel
theorem dX12_lead_46 : decode cX12_lead 46 = .ok (.iload_n 2, 1) := by decide +kernel
theorem dX12_lead_47 : decode cX12_lead 47 = .ok (.if_icmp .gt 9, 3) := by decide +kernel
theorem dX12_lead_50 : decode cX12_lead 50 = .ok (.iload_n 3, 1) := by decide +kernel
theorem dX12_lead_51 : decode cX12_lead 51 = .ok (.iconst 1, 1) := by decide +kernel
theorem dX12_lead_52 : decode cX12_lead 52 = .ok (.isub, 1) := by decide +kernel
theorem dX12_lead_53 : decode cX12_lead 53 = .ok (.goto 4, 3) := by decide +kernel
theorem dX12_lead_56 : decode cX12_lead 56 = .ok (.iload_n 3, 1) := by decide +kernel
theorem dX12_lead_57 : decode cX12_lead 57 = .ok (.iconst 4, 1) := by decide +kernel
theorem dX12_lead_58 : decode cX12_lead 58 = .ok (.iload_n 3, 1) := by decide +kernel
theorem dX12_lead_59 : decode cX12_lead 59 = .ok (.invokevirtual 243, 3) := by decide +kernel
theorem dX12_lead_62 : decode cX12_lead 62 = .ok (.iinc 3 1, 3) := by decide +kernel
theorem dX12_lead_65 : decode cX12_lead 65 = .ok (.goto (-40), 3) := by decide +kernel
theorem dX12_lead_68 : decode cX12_lead 68 = .ok (.aload_n 0, 1) := by decide +kernel
theorem dX12_lead_69 : decode cX12_lead 69 = .ok (.iload_n 1, 1) := by decide +kernel
theorem dX12_lead_70 : decode cX12_lead 70 = .ok (.invokevirtual 259, 3) := by decide +kernel
theorem dX12_lead_73 : decode cX12_lead 73 = .ok (.iconst 1, 1) := by decide +kernel
theorem dX12_lead_74 : decode cX12_lead 74 = .ok (.ireturn, 1) := by decide +kernel
theorem dX12_common_0 : decode cX12_common 0 = .ok (.aload_n 0, 1) := by decide +kernel
theorem dX12_common_1 : decode cX12_common 1 = .ok (.iload_n 1, 1) := by decide +kernel
theorem dX12_common_2 : decode cX12_common 2 = .ok (.invokevirtual 274, 3) := by decide +kernel
theorem dX12_common_5 : decode cX12_common 5 = .ok (.ifCond .eq 20, 3) := by decide +kernel
theorem dX12_common_8 : decode cX12_common 8 = .ok (.aload_n 0, 1) := by decide +kernel
theorem dX12_common_9 : decode cX12_common 9 = .ok (.iload_n 2, 1) := by decide +kernel
theorem dX12_common_10 : decode cX12_common 10 = .ok (.invokevirtual 274, 3) := by decide +kernel
theorem dX12_common_13 : decode cX12_common 13 = .ok (.ifCond .eq 12, 3) := by decide +kernel
theorem dX12_common_16 : decode cX12_common 16 = .ok (.iload_n 3, 1) := by decide +kernel
theorem dX12_common_17 : decode cX12_common 17 = .ok (.iload 4, 2) := by decide +kernel
theorem dX12_common_19 : decode cX12_common 19 = .ok (.invokestatic 417, 3) := by decide +kernel
theorem dX12_common_22 : decode cX12_common 22 = .ok (.ifCond .ne 7, 3) := by decide +kernel
theorem dX12_common_25 : decode cX12_common 25 = .ok (.ldc_w 321, 3) := by decide +kernel
theorem dX12_common_28 : decode cX12_common 28 = .ok (.ireturn, 1) := by decide +kernel
theorem dX12_common_29 : decode cX12_common 29 = .ok (.aload_n 0, 1) := by decide +kernel
theorem dX12_common_30 : decode cX12_common 30 = .ok (.iload_n 1, 1) := by decide +kernel
theorem dX12_common_31 : decode cX12_common 31 = .ok (.invokevirtual 282, 3) := by decide +kernel
theorem dX12_common_34 : decode cX12_common 34 = .ok (.iload_n 3, 1) := by decide +kernel
theorem dX12_common_35 : decode cX12_common 35 = .ok (.istore 6, 2) := by decide +kernel
theorem dX12_common_37 : decode cX12_common 37 = .ok (.iload 6, 2) := by decide +kernel
theorem dX12_common_39 : decode cX12_common 39 = .ok (.iload 4, 2) := by decide +kernel
theorem dX12_common_41 : decode cX12_common 41 = .ok (.if_icmp .gt 36, 3) := by decide +kernel
theorem dX12_common_44 : decode cX12_common 44 = .ok (.aload_n 0, 1) := by decide +kernel
theorem dX12_common_45 : decode cX12_common 45 = .ok (.getfield 84, 3) := by decide +kernel
theorem dX12_common_48 : decode cX12_common 48 = .ok (.iload 6, 2) := by decide +kernel
theorem dX12_common_50 : decode cX12_common 50 = .ok (.sipush 3000, 3) := by decide +kernel
theorem dX12_common_53 : decode cX12_common 53 = .ok (.iadd, 1) := by decide +kernel
theorem dX12_common_54 : decode cX12_common 54 = .ok (.aload_n 0, 1) := by decide +kernel
theorem dX12_common_55 : decode cX12_common 55 = .ok (.iload 6, 2) := by decide +kernel
theorem dX12_common_57 : decode cX12_common 57 = .ok (.invokevirtual 285, 3) := by decide +kernel
theorem dX12_common_60 : decode cX12_common 60 = .ok (.lconst 0, 1) := by decide +kernel
theorem dX12_common_61 : decode cX12_common 61 = .ok (.lcmp, 1) := by decide +kernel
theorem dX12_common_62 : decode cX12_common 62 = .ok (.ifCond .le 7, 3) := by decide +kernel
theorem dX12_common_65 : decode cX12_common 65 = .ok (.iconst 1, 1) := by decide +kernel
theorem dX12_common_66 : decode cX12_common 66 = .ok (.goto 4, 3) := by decide +kernel
theorem dX12_common_69 : decode cX12_common 69 = .ok (.iconst 0, 1) := by decide +kernel
theorem dX12_common_70 : decode cX12_common 70 = .ok (.bastore, 1) := by decide +kernel
theorem dX12_common_71 : decode cX12_common 71 = .ok (.iinc 6 1, 3) := by decide +kernel
theorem dX12_common_74 : decode cX12_common 74 = .ok (.goto (-37), 3) := by decide +kernel
theorem dX12_common_77 : decode cX12_common 77 = .ok (.aload_n 0, 1) := by decide +kernel
theorem dX12_common_78 : decode cX12_common 78 = .ok (.iload_n 2, 1) := by decide +kernel
theorem dX12_common_79 : decode cX12_common 79 = .ok (.invokevirtual 282, 3) := by decide +kernel
theorem dX12_common_82 : decode cX12_common 82 = .ok (.iconst 0, 1) := by decide +kernel
theorem dX12_common_83 : decode cX12_common 83 = .ok (.istore 6, 2) := by decide +kernel
theorem dX12_common_85 : decode cX12_common 85 = .ok (.iload_n 3, 1) := by decide +kernel
theorem dX12_common_86 : decode cX12_common 86 = .ok (.istore 7, 2) := by decide +kernel
theorem dX12_common_88 : decode cX12_common 88 = .ok (.iload 7, 2) := by decide +kernel
theorem dX12_common_90 : decode cX12_common 90 = .ok (.iload 4, 2) := by decide +kernel
theorem dX12_common_92 : decode cX12_common 92 = .ok (.if_icmp .gt 50, 3) := by decide +kernel
theorem dX12_common_95 : decode cX12_common 95 = .ok (.aload_n 0, 1) := by decide +kernel
theorem dX12_common_96 : decode cX12_common 96 = .ok (.getfield 84, 3) := by decide +kernel
theorem dX12_common_99 : decode cX12_common 99 = .ok (.iload 7, 2) := by decide +kernel
theorem dX12_common_101 : decode cX12_common 101 = .ok (.sipush 3000, 3) := by decide +kernel
theorem dX12_common_104 : decode cX12_common 104 = .ok (.iadd, 1) := by decide +kernel
theorem dX12_common_105 : decode cX12_common 105 = .ok (.baload, 1) := by decide +kernel
theorem dX12_common_106 : decode cX12_common 106 = .ok (.ifCond .eq 30, 3) := by decide +kernel
theorem dX12_common_109 : decode cX12_common 109 = .ok (.aload_n 0, 1) := by decide +kernel
theorem dX12_common_110 : decode cX12_common 110 = .ok (.iload 7, 2) := by decide +kernel
theorem dX12_common_112 : decode cX12_common 112 = .ok (.invokevirtual 285, 3) := by decide +kernel
theorem dX12_common_115 : decode cX12_common 115 = .ok (.lconst 0, 1) := by decide +kernel
theorem dX12_common_116 : decode cX12_common 116 = .ok (.lcmp, 1) := by decide +kernel
theorem dX12_common_117 : decode cX12_common 117 = .ok (.ifCond .ne 6, 3) := by decide +kernel
theorem dX12_common_120 : decode cX12_common 120 = .ok (.goto 16, 3) := by decide +kernel
theorem dX12_common_123 : decode cX12_common 123 = .ok (.iload 6, 2) := by decide +kernel
theorem dX12_common_125 : decode cX12_common 125 = .ok (.iload 5, 2) := by decide +kernel
theorem dX12_common_127 : decode cX12_common 127 = .ok (.if_icmp .ne 6, 3) := by decide +kernel
theorem dX12_common_130 : decode cX12_common 130 = .ok (.iload 7, 2) := by decide +kernel
theorem dX12_common_132 : decode cX12_common 132 = .ok (.ireturn, 1) := by decide +kernel
theorem dX12_common_133 : decode cX12_common 133 = .ok (.iinc 6 1, 3) := by decide +kernel
theorem dX12_common_136 : decode cX12_common 136 = .ok (.iinc 7 1, 3) := by decide +kernel
theorem dX12_common_139 : decode cX12_common 139 = .ok (.goto (-51), 3) := by decide +kernel
theorem dX12_common_142 : decode cX12_common 142 = .ok (.iload 5, 2) := by decide +kernel
theorem dX12_common_144 : decode cX12_common 144 = .ok (.iconst (-1), 1) := by decide +kernel
theorem dX12_common_145 : decode cX12_common 145 = .ok (.if_icmp .ne 8, 3) := by decide +kernel
theorem dX12_common_148 : decode cX12_common 148 = .ok (.iload 6, 2) := by decide +kernel
theorem dX12_common_150 : decode cX12_common 150 = .ok (.goto 6, 3) := by decide +kernel
theorem dX12_common_153 : decode cX12_common 153 = .ok (.ldc_w 321, 3) := by decide +kernel
theorem dX12_common_156 : decode cX12_common 156 = .ok (.ireturn, 1) := by decide +kernel
theorem dX12_gap_0 : decode cX12_gap 0 = .ok (.aload_n 0, 1) := by decide +kernel
theorem dX12_gap_1 : decode cX12_gap 1 = .ok (.iload_n 1, 1) := by decide +kernel
theorem dX12_gap_2 : decode cX12_gap 2 = .ok (.invokevirtual 274, 3) := by decide +kernel
theorem dX12_gap_5 : decode cX12_gap 5 = .ok (.ifCond .eq 22, 3) := by decide +kernel
theorem dX12_gap_8 : decode cX12_gap 8 = .ok (.iload_n 2, 1) := by decide +kernel
theorem dX12_gap_9 : decode cX12_gap 9 = .ok (.iload_n 3, 1) := by decide +kernel
theorem dX12_gap_10 : decode cX12_gap 10 = .ok (.invokestatic 417, 3) := by decide +kernel
theorem dX12_gap_13 : decode cX12_gap 13 = .ok (.ifCond .eq 14, 3) := by decide +kernel
theorem dX12_gap_16 : decode cX12_gap 16 = .ok (.iload 4, 2) := by decide +kernel
theorem dX12_gap_18 : decode cX12_gap 18 = .ok (.i2l, 1) := by decide +kernel
theorem dX12_gap_19 : decode cX12_gap 19 = .ok (.lconst 0, 1) := by decide +kernel
theorem dX12_gap_20 : decode cX12_gap 20 = .ok (.lconst 1, 1) := by decide +kernel
theorem dX12_gap_21 : decode cX12_gap 21 = .ok (.invokestatic 105, 3) := by decide +kernel
theorem dX12_gap_24 : decode cX12_gap 24 = .ok (.ifCond .ne 7, 3) := by decide +kernel
theorem dX12_gap_27 : decode cX12_gap 27 = .ok (.ldc_w 321, 3) := by decide +kernel
theorem dX12_gap_30 : decode cX12_gap 30 = .ok (.ireturn, 1) := by decide +kernel
theorem dX12_gap_31 : decode cX12_gap 31 = .ok (.aload_n 0, 1) := by decide +kernel
theorem dX12_gap_32 : decode cX12_gap 32 = .ok (.iload_n 1, 1) := by decide +kernel
theorem dX12_gap_33 : decode cX12_gap 33 = .ok (.invokevirtual 282, 3) := by decide +kernel
theorem dX12_gap_36 : decode cX12_gap 36 = .ok (.iconst 0, 1) := by decide +kernel
theorem dX12_gap_37 : decode cX12_gap 37 = .ok (.istore 5, 2) := by decide +kernel
theorem dX12_gap_39 : decode cX12_gap 39 = .ok (.ldc_w 321, 3) := by decide +kernel
theorem dX12_gap_42 : decode cX12_gap 42 = .ok (.istore 6, 2) := by decide +kernel
theorem dX12_gap_44 : decode cX12_gap 44 = .ok (.iconst 0, 1) := by decide +kernel
theorem dX12_gap_45 : decode cX12_gap 45 = .ok (.istore 7, 2) := by decide +kernel
theorem dX12_gap_47 : decode cX12_gap 47 = .ok (.iload_n 2, 1) := by decide +kernel
theorem dX12_gap_48 : decode cX12_gap 48 = .ok (.istore 8, 2) := by decide +kernel
theorem dX12_gap_50 : decode cX12_gap 50 = .ok (.iload 8, 2) := by decide +kernel
theorem dX12_gap_52 : decode cX12_gap 52 = .ok (.iload_n 3, 1) := by decide +kernel
theorem dX12_gap_53 : decode cX12_gap 53 = .ok (.if_icmp .gt 53, 3) := by decide +kernel
theorem dX12_gap_56 : decode cX12_gap 56 = .ok (.aload_n 0, 1) := by decide +kernel
theorem dX12_gap_57 : decode cX12_gap 57 = .ok (.iload 8, 2) := by decide +kernel
theorem dX12_gap_59 : decode cX12_gap 59 = .ok (.invokevirtual 285, 3) := by decide +kernel
theorem dX12_gap_62 : decode cX12_gap 62 = .ok (.lconst 0, 1) := by decide +kernel
theorem dX12_gap_63 : decode cX12_gap 63 = .ok (.lcmp, 1) := by decide +kernel
theorem dX12_gap_64 : decode cX12_gap 64 = .ok (.ifCond .le 7, 3) := by decide +kernel
theorem dX12_gap_67 : decode cX12_gap 67 = .ok (.iconst 0, 1) := by decide +kernel
theorem dX12_gap_68 : decode cX12_gap 68 = .ok (.goto 7, 3) := by decide +kernel
theorem dX12_gap_71 : decode cX12_gap 71 = .ok (.iload 7, 2) := by decide +kernel
theorem dX12_gap_73 : decode cX12_gap 73 = .ok (.iconst 1, 1) := by decide +kernel
theorem dX12_gap_74 : decode cX12_gap 74 = .ok (.iadd, 1) := by decide +kernel
theorem dX12_gap_75 : decode cX12_gap 75 = .ok (.istore 7, 2) := by decide +kernel
theorem dX12_gap_77 : decode cX12_gap 77 = .ok (.iload 7, 2) := by decide +kernel
theorem dX12_gap_79 : decode cX12_gap 79 = .ok (.iload 5, 2) := by decide +kernel
theorem dX12_gap_81 : decode cX12_gap 81 = .ok (.if_icmp .gt 6, 3) := by decide +kernel
theorem dX12_gap_84 : decode cX12_gap 84 = .ok (.goto 16, 3) := by decide +kernel
theorem dX12_gap_87 : decode cX12_gap 87 = .ok (.iload 7, 2) := by decide +kernel
theorem dX12_gap_89 : decode cX12_gap 89 = .ok (.istore 5, 2) := by decide +kernel
theorem dX12_gap_91 : decode cX12_gap 91 = .ok (.iload 8, 2) := by decide +kernel
theorem dX12_gap_93 : decode cX12_gap 93 = .ok (.iload 7, 2) := by decide +kernel
theorem dX12_gap_95 : decode cX12_gap 95 = .ok (.isub, 1) := by decide +kernel
theorem dX12_gap_96 : decode cX12_gap 96 = .ok (.iconst 1, 1) := by decide +kernel
theorem dX12_gap_97 : decode cX12_gap 97 = .ok (.iadd, 1) := by decide +kernel
theorem dX12_gap_98 : decode cX12_gap 98 = .ok (.istore 6, 2) := by decide +kernel
theorem dX12_gap_100 : decode cX12_gap 100 = .ok (.iinc 8 1, 3) := by decide +kernel
theorem dX12_gap_103 : decode cX12_gap 103 = .ok (.goto (-53), 3) := by decide +kernel
theorem dX12_gap_106 : decode cX12_gap 106 = .ok (.iload 4, 2) := by decide +kernel
theorem dX12_gap_108 : decode cX12_gap 108 = .ok (.ifCond .ne 8, 3) := by decide +kernel
theorem dX12_gap_111 : decode cX12_gap 111 = .ok (.iload 5, 2) := by decide +kernel
theorem dX12_gap_113 : decode cX12_gap 113 = .ok (.goto 5, 3) := by decide +kernel
theorem dX12_gap_116 : decode cX12_gap 116 = .ok (.iload 6, 2) := by decide +kernel
theorem dX12_gap_118 : decode cX12_gap 118 = .ok (.ireturn, 1) := by decide +kernel
theorem dX12_rank_0 : decode cX12_rank 0 = .ok (.aload_n 0, 1) := by decide +kernel
theorem dX12_rank_1 : decode cX12_rank 1 = .ok (.iload_n 1, 1) := by decide +kernel
theorem dX12_rank_2 : decode cX12_rank 2 = .ok (.invokevirtual 274, 3) := by decide +kernel
theorem dX12_rank_5 : decode cX12_rank 5 = .ok (.ifCond .eq 34, 3) := by decide +kernel
theorem dX12_rank_8 : decode cX12_rank 8 = .ok (.iload_n 2, 1) := by decide +kernel
theorem dX12_rank_9 : decode cX12_rank 9 = .ok (.iload_n 3, 1) := by decide +kernel
theorem dX12_rank_10 : decode cX12_rank 10 = .ok (.invokestatic 417, 3) := by decide +kernel
theorem dX12_rank_13 : decode cX12_rank 13 = .ok (.ifCond .eq 26, 3) := by decide +kernel
theorem dX12_rank_16 : decode cX12_rank 16 = .ok (.iload_n 3, 1) := by decide +kernel
theorem dX12_rank_17 : decode cX12_rank 17 = .ok (.iload_n 2, 1) := by decide +kernel
theorem dX12_rank_18 : decode cX12_rank 18 = .ok (.isub, 1) := by decide +kernel
theorem dX12_rank_19 : decode cX12_rank 19 = .ok (.sipush 200, 3) := by decide +kernel
theorem dX12_rank_22 : decode cX12_rank 22 = .ok (.if_icmp .ge 17, 3) := by decide +kernel
theorem dX12_rank_25 : decode cX12_rank 25 = .ok (.iload 4, 2) := by decide +kernel
theorem dX12_rank_27 : decode cX12_rank 27 = .ok (.i2l, 1) := by decide +kernel
theorem dX12_rank_28 : decode cX12_rank 28 = .ok (.lconst 0, 1) := by decide +kernel
theorem dX12_rank_29 : decode cX12_rank 29 = .ok (.iload_n 3, 1) := by decide +kernel
theorem dX12_rank_30 : decode cX12_rank 30 = .ok (.iload_n 2, 1) := by decide +kernel
theorem dX12_rank_31 : decode cX12_rank 31 = .ok (.isub, 1) := by decide +kernel
theorem dX12_rank_32 : decode cX12_rank 32 = .ok (.i2l, 1) := by decide +kernel
theorem dX12_rank_33 : decode cX12_rank 33 = .ok (.invokestatic 105, 3) := by decide +kernel
theorem dX12_rank_36 : decode cX12_rank 36 = .ok (.ifCond .ne 7, 3) := by decide +kernel
theorem dX12_rank_39 : decode cX12_rank 39 = .ok (.ldc_w 321, 3) := by decide +kernel
theorem dX12_rank_42 : decode cX12_rank 42 = .ok (.ireturn, 1) := by decide +kernel
theorem dX12_rank_43 : decode cX12_rank 43 = .ok (.aload_n 0, 1) := by decide +kernel
theorem dX12_rank_44 : decode cX12_rank 44 = .ok (.iload_n 1, 1) := by decide +kernel
theorem dX12_rank_45 : decode cX12_rank 45 = .ok (.invokevirtual 282, 3) := by decide +kernel
theorem dX12_rank_48 : decode cX12_rank 48 = .ok (.iload_n 2, 1) := by decide +kernel
theorem dX12_rank_49 : decode cX12_rank 49 = .ok (.istore 5, 2) := by decide +kernel
theorem dX12_rank_51 : decode cX12_rank 51 = .ok (.iload 5, 2) := by decide +kernel
theorem dX12_rank_53 : decode cX12_rank 53 = .ok (.iload_n 3, 1) := by decide +kernel
theorem dX12_rank_54 : decode cX12_rank 54 = .ok (.if_icmp .gt 89, 3) := by decide +kernel
theorem dX12_rank_57 : decode cX12_rank 57 = .ok (.iconst 0, 1) := by decide +kernel
theorem dX12_rank_58 : decode cX12_rank 58 = .ok (.istore 6, 2) := by decide +kernel
theorem dX12_rank_60 : decode cX12_rank 60 = .ok (.iload_n 2, 1) := by decide +kernel
theorem dX12_rank_61 : decode cX12_rank 61 = .ok (.istore 7, 2) := by decide +kernel
theorem dX12_rank_63 : decode cX12_rank 63 = .ok (.iload 7, 2) := by decide +kernel
theorem dX12_rank_65 : decode cX12_rank 65 = .ok (.iload_n 3, 1) := by decide +kernel
theorem dX12_rank_66 : decode cX12_rank 66 = .ok (.if_icmp .gt 61, 3) := by decide +kernel
theorem dX12_rank_69 : decode cX12_rank 69 = .ok (.iload 6, 2) := by decide +kernel
theorem dX12_rank_71 : decode cX12_rank 71 = .ok (.aload_n 0, 1) := by decide +kernel
theorem dX12_rank_72 : decode cX12_rank 72 = .ok (.iload 7, 2) := by decide +kernel
theorem dX12_rank_74 : decode cX12_rank 74 = .ok (.invokevirtual 285, 3) := by decide +kernel
theorem dX12_rank_77 : decode cX12_rank 77 = .ok (.aload_n 0, 1) := by decide +kernel
theorem dX12_rank_78 : decode cX12_rank 78 = .ok (.iload 5, 2) := by decide +kernel
theorem dX12_rank_80 : decode cX12_rank 80 = .ok (.invokevirtual 285, 3) := by decide +kernel
theorem dX12_rank_83 : decode cX12_rank 83 = .ok (.lcmp, 1) := by decide +kernel
theorem dX12_rank_84 : decode cX12_rank 84 = .ok (.ifCond .gt 26, 3) := by decide +kernel
theorem dX12_rank_87 : decode cX12_rank 87 = .ok (.aload_n 0, 1) := by decide +kernel
theorem dX12_rank_88 : decode cX12_rank 88 = .ok (.iload 7, 2) := by decide +kernel
theorem dX12_rank_90 : decode cX12_rank 90 = .ok (.invokevirtual 285, 3) := by decide +kernel
theorem dX12_rank_93 : decode cX12_rank 93 = .ok (.aload_n 0, 1) := by decide +kernel
theorem dX12_rank_94 : decode cX12_rank 94 = .ok (.iload 5, 2) := by decide +kernel
theorem dX12_rank_96 : decode cX12_rank 96 = .ok (.invokevirtual 285, 3) := by decide +kernel
theorem dX12_rank_99 : decode cX12_rank 99 = .ok (.lcmp, 1) := by decide +kernel
theorem dX12_rank_100 : decode cX12_rank 100 = .ok (.ifCond .ne 14, 3) := by decide +kernel
theorem dX12_rank_103 : decode cX12_rank 103 = .ok (.iload 7, 2) := by decide +kernel
theorem dX12_rank_105 : decode cX12_rank 105 = .ok (.iload 5, 2) := by decide +kernel
theorem dX12_rank_107 : decode cX12_rank 107 = .ok (.if_icmp .ge 7, 3) := by decide +kernel
theorem dX12_rank_110 : decode cX12_rank 110 = .ok (.iconst 1, 1) := by decide +kernel
theorem dX12_rank_111 : decode cX12_rank 111 = .ok (.goto 4, 3) := by decide +kernel
theorem dX12_rank_114 : decode cX12_rank 114 = .ok (.iconst 0, 1) := by decide +kernel
theorem dX12_rank_115 : decode cX12_rank 115 = .ok (.invokestatic 406, 3) := by decide +kernel
theorem dX12_rank_118 : decode cX12_rank 118 = .ok (.iadd, 1) := by decide +kernel
theorem dX12_rank_119 : decode cX12_rank 119 = .ok (.istore 6, 2) := by decide +kernel
theorem dX12_rank_121 : decode cX12_rank 121 = .ok (.iinc 7 1, 3) := by decide +kernel
theorem dX12_rank_124 : decode cX12_rank 124 = .ok (.goto (-61), 3) := by decide +kernel
theorem dX12_rank_127 : decode cX12_rank 127 = .ok (.iload 6, 2) := by decide +kernel
theorem dX12_rank_129 : decode cX12_rank 129 = .ok (.iload 4, 2) := by decide +kernel
theorem dX12_rank_131 : decode cX12_rank 131 = .ok (.if_icmp .ne 6, 3) := by decide +kernel
theorem dX12_rank_134 : decode cX12_rank 134 = .ok (.iload 5, 2) := by decide +kernel
theorem dX12_rank_136 : decode cX12_rank 136 = .ok (.ireturn, 1) := by decide +kernel
theorem dX12_rank_137 : decode cX12_rank 137 = .ok (.iinc 5 1, 3) := by decide +kernel
theorem dX12_rank_140 : decode cX12_rank 140 = .ok (.goto (-89), 3) := by decide +kernel
theorem dX12_rank_143 : decode cX12_rank 143 = .ok (.ldc_w 321, 3) := by decide +kernel
theorem dX12_rank_146 : decode cX12_rank 146 = .ok (.ireturn, 1) := by decide +kernel
theorem dX12_says_0 : decode cX12_says 0 = .ok (.aload_n 0, 1) := by decide +kernel
theorem dX12_says_1 : decode cX12_says 1 = .ok (.getfield 88, 3) := by decide +kernel
theorem dX12_says_4 : decode cX12_says 4 = .ok (.aload_n 0, 1) := by decide +kernel
theorem dX12_says_5 : decode cX12_says 5 = .ok (.getfield 442, 3) := by decide +kernel
theorem dX12_says_8 : decode cX12_says 8 = .ok (.iload_n 1, 1) := by decide +kernel
theorem dX12_says_9 : decode cX12_says 9 = .ok (.iastore, 1) := by decide +kernel
theorem dX12_says_10 : decode cX12_says 10 = .ok (.aload_n 0, 1) := by decide +kernel
theorem dX12_says_11 : decode cX12_says 11 = .ok (.dup, 1) := by decide +kernel
theorem dX12_says_12 : decode cX12_says 12 = .ok (.getfield 442, 3) := by decide +kernel
theorem dX12_says_15 : decode cX12_says 15 = .ok (.iconst 1, 1) := by decide +kernel
theorem dX12_says_16 : decode cX12_says 16 = .ok (.iadd, 1) := by decide +kernel
theorem dX12_says_17 : decode cX12_says 17 = .ok (.putfield 442, 3) := by decide +kernel
theorem dX12_says_20 : decode cX12_says 20 = .ok (.return_, 1) := by decide +kernel
theorem dX12_saysWord_0 : decode cX12_saysWord 0 = .ok (.iconst 0, 1) := by decide +kernel
theorem dX12_saysWord_1 : decode cX12_saysWord 1 = .ok (.istore_n 2, 1) := by decide +kernel
theorem dX12_saysWord_2 : decode cX12_saysWord 2 = .ok (.iload_n 2, 1) := by decide +kernel
theorem dX12_saysWord_3 : decode cX12_saysWord 3 = .ok (.aload_n 1, 1) := by decide +kernel
theorem dX12_saysWord_4 : decode cX12_saysWord 4 = .ok (.invokevirtual 171, 3) := by decide +kernel
theorem dX12_saysWord_7 : decode cX12_saysWord 7 = .ok (.if_icmp .ge 18, 3) := by decide +kernel
theorem dX12_saysWord_10 : decode cX12_saysWord 10 = .ok (.aload_n 0, 1) := by decide +kernel
theorem dX12_saysWord_11 : decode cX12_saysWord 11 = .ok (.aload_n 1, 1) := by decide +kernel
theorem dX12_saysWord_12 : decode cX12_saysWord 12 = .ok (.iload_n 2, 1) := by decide +kernel
theorem dX12_saysWord_13 : decode cX12_saysWord 13 = .ok (.invokevirtual 176, 3) := by decide +kernel
theorem dX12_saysWord_16 : decode cX12_saysWord 16 = .ok (.invokevirtual 445, 3) := by decide +kernel
theorem dX12_saysWord_19 : decode cX12_saysWord 19 = .ok (.iinc 2 1, 3) := by decide +kernel
theorem dX12_saysWord_22 : decode cX12_saysWord 22 = .ok (.goto (-20), 3) := by decide +kernel
theorem dX12_saysWord_25 : decode cX12_saysWord 25 = .ok (.return_, 1) := by decide +kernel
theorem dX12_saysNumber_0 : decode cX12_saysNumber 0 = .ok (.iload_n 1, 1) := by decide +kernel
theorem dX12_saysNumber_1 : decode cX12_saysNumber 1 = .ok (.ifCond .ge 9, 3) := by decide +kernel
theorem dX12_saysNumber_4 : decode cX12_saysNumber 4 = .ok (.aload_n 0, 1) := by decide +kernel
theorem dX12_saysNumber_5 : decode cX12_saysNumber 5 = .ok (.bipush 45, 2) := by decide +kernel
theorem dX12_saysNumber_7 : decode cX12_saysNumber 7 = .ok (.invokevirtual 445, 3) := by decide +kernel
theorem dX12_saysNumber_10 : decode cX12_saysNumber 10 = .ok (.iload_n 1, 1) := by decide +kernel
theorem dX12_saysNumber_11 : decode cX12_saysNumber 11 = .ok (.ifCond .ge 8, 3) := by decide +kernel
theorem dX12_saysNumber_14 : decode cX12_saysNumber 14 = .ok (.iload_n 1, 1) := by decide +kernel
theorem dX12_saysNumber_15 : decode cX12_saysNumber 15 = .ok (.ineg, 1) := by decide +kernel
theorem dX12_saysNumber_16 : decode cX12_saysNumber 16 = .ok (.goto 4, 3) := by decide +kernel
theorem dX12_saysNumber_19 : decode cX12_saysNumber 19 = .ok (.iload_n 1, 1) := by decide +kernel
theorem dX12_saysNumber_20 : decode cX12_saysNumber 20 = .ok (.istore_n 2, 1) := by decide +kernel
theorem dX12_saysNumber_21 : decode cX12_saysNumber 21 = .ok (.iconst 1, 1) := by decide +kernel
theorem dX12_saysNumber_22 : decode cX12_saysNumber 22 = .ok (.istore_n 3, 1) := by decide +kernel
theorem dX12_saysNumber_23 : decode cX12_saysNumber 23 = .ok (.iload_n 2, 1) := by decide +kernel
theorem dX12_saysNumber_24 : decode cX12_saysNumber 24 = .ok (.iload_n 3, 1) := by decide +kernel
theorem dX12_saysNumber_25 : decode cX12_saysNumber 25 = .ok (.idiv, 1) := by decide +kernel
theorem dX12_saysNumber_26 : decode cX12_saysNumber 26 = .ok (.bipush 9, 2) := by decide +kernel
theorem dX12_saysNumber_28 : decode cX12_saysNumber 28 = .ok (.if_icmp .le 11, 3) := by decide +kernel
theorem dX12_saysNumber_31 : decode cX12_saysNumber 31 = .ok (.iload_n 3, 1) := by decide +kernel
theorem dX12_saysNumber_32 : decode cX12_saysNumber 32 = .ok (.bipush 10, 2) := by decide +kernel
theorem dX12_saysNumber_34 : decode cX12_saysNumber 34 = .ok (.imul, 1) := by decide +kernel
theorem dX12_saysNumber_35 : decode cX12_saysNumber 35 = .ok (.istore_n 3, 1) := by decide +kernel
theorem dX12_saysNumber_36 : decode cX12_saysNumber 36 = .ok (.goto (-13), 3) := by decide +kernel
theorem dX12_saysNumber_39 : decode cX12_saysNumber 39 = .ok (.iload_n 3, 1) := by decide +kernel
theorem dX12_saysNumber_40 : decode cX12_saysNumber 40 = .ok (.ifCond .le 24, 3) := by decide +kernel
theorem dX12_saysNumber_43 : decode cX12_saysNumber 43 = .ok (.aload_n 0, 1) := by decide +kernel
theorem dX12_saysNumber_44 : decode cX12_saysNumber 44 = .ok (.bipush 48, 2) := by decide +kernel
theorem dX12_saysNumber_46 : decode cX12_saysNumber 46 = .ok (.iload_n 2, 1) := by decide +kernel
theorem dX12_saysNumber_47 : decode cX12_saysNumber 47 = .ok (.iload_n 3, 1) := by decide +kernel
theorem dX12_saysNumber_48 : decode cX12_saysNumber 48 = .ok (.idiv, 1) := by decide +kernel
theorem dX12_saysNumber_49 : decode cX12_saysNumber 49 = .ok (.bipush 10, 2) := by decide +kernel
theorem dX12_saysNumber_51 : decode cX12_saysNumber 51 = .ok (.irem, 1) := by decide +kernel
theorem dX12_saysNumber_52 : decode cX12_saysNumber 52 = .ok (.iadd, 1) := by decide +kernel
theorem dX12_saysNumber_53 : decode cX12_saysNumber 53 = .ok (.invokevirtual 445, 3) := by decide +kernel
theorem dX12_saysNumber_56 : decode cX12_saysNumber 56 = .ok (.iload_n 3, 1) := by decide +kernel
theorem dX12_saysNumber_57 : decode cX12_saysNumber 57 = .ok (.bipush 10, 2) := by decide +kernel
theorem dX12_saysNumber_59 : decode cX12_saysNumber 59 = .ok (.idiv, 1) := by decide +kernel
theorem dX12_saysNumber_60 : decode cX12_saysNumber 60 = .ok (.istore_n 3, 1) := by decide +kernel
theorem dX12_saysNumber_61 : decode cX12_saysNumber 61 = .ok (.goto (-22), 3) := by decide +kernel
theorem dX12_saysNumber_64 : decode cX12_saysNumber 64 = .ok (.return_, 1) := by decide +kernel
theorem dX12_saysKind_0 : decode cX12_saysKind 0 = .ok (.iload_n 1, 1) := by decide +kernel
theorem dX12_saysKind_1 : decode cX12_saysKind 1 = .ok (.tableswitch 67 0 3 #[31, 40, 49, 58], 31) := by decide +kernel
theorem dX12_saysKind_32 : decode cX12_saysKind 32 = .ok (.aload_n 0, 1) := by decide +kernel
theorem dX12_saysKind_33 : decode cX12_saysKind 33 = .ok (.ldc 196, 2) := by decide +kernel
theorem dX12_saysKind_35 : decode cX12_saysKind 35 = .ok (.invokevirtual 448, 3) := by decide +kernel
theorem dX12_saysKind_38 : decode cX12_saysKind 38 = .ok (.goto 36, 3) := by decide +kernel
theorem dX12_saysKind_41 : decode cX12_saysKind 41 = .ok (.aload_n 0, 1) := by decide +kernel
theorem dX12_saysKind_42 : decode cX12_saysKind 42 = .ok (.ldc 202, 2) := by decide +kernel
theorem dX12_saysKind_44 : decode cX12_saysKind 44 = .ok (.invokevirtual 448, 3) := by decide +kernel
theorem dX12_saysKind_47 : decode cX12_saysKind 47 = .ok (.goto 27, 3) := by decide +kernel
theorem dX12_saysKind_50 : decode cX12_saysKind 50 = .ok (.aload_n 0, 1) := by decide +kernel
theorem dX12_saysKind_51 : decode cX12_saysKind 51 = .ok (.ldc 204, 2) := by decide +kernel
theorem dX12_saysKind_53 : decode cX12_saysKind 53 = .ok (.invokevirtual 448, 3) := by decide +kernel
theorem dX12_saysKind_56 : decode cX12_saysKind 56 = .ok (.goto 18, 3) := by decide +kernel
theorem dX12_saysKind_59 : decode cX12_saysKind 59 = .ok (.aload_n 0, 1) := by decide +kernel
theorem dX12_saysKind_60 : decode cX12_saysKind 60 = .ok (.ldc 206, 2) := by decide +kernel
theorem dX12_saysKind_62 : decode cX12_saysKind 62 = .ok (.invokevirtual 448, 3) := by decide +kernel
theorem dX12_saysKind_65 : decode cX12_saysKind 65 = .ok (.goto 9, 3) := by decide +kernel
theorem dX12_saysKind_68 : decode cX12_saysKind 68 = .ok (.aload_n 0, 1) := by decide +kernel
theorem dX12_saysKind_69 : decode cX12_saysKind 69 = .ok (.ldc 208, 2) := by decide +kernel
theorem dX12_saysKind_71 : decode cX12_saysKind 71 = .ok (.invokevirtual 448, 3) := by decide +kernel
theorem dX12_saysKind_74 : decode cX12_saysKind 74 = .ok (.return_, 1) := by decide +kernel
theorem dX12_spell_0 : decode cX12_spell 0 = .ok (.aload_n 0, 1) := by decide +kernel
theorem dX12_spell_1 : decode cX12_spell 1 = .ok (.iload_n 1, 1) := by decide +kernel
theorem dX12_spell_2 : decode cX12_spell 2 = .ok (.invokevirtual 274, 3) := by decide +kernel
theorem dX12_spell_5 : decode cX12_spell 5 = .ok (.ifCond .ne 5, 3) := by decide +kernel
theorem dX12_spell_8 : decode cX12_spell 8 = .ok (.iconst (-1), 1) := by decide +kernel
theorem dX12_spell_9 : decode cX12_spell 9 = .ok (.ireturn, 1) := by decide +kernel
theorem dX12_spell_10 : decode cX12_spell 10 = .ok (.aload_n 0, 1) := by decide +kernel
theorem dX12_spell_11 : decode cX12_spell 11 = .ok (.iconst 0, 1) := by decide +kernel
theorem dX12_spell_12 : decode cX12_spell 12 = .ok (.putfield 442, 3) := by decide +kernel
theorem dX12_spell_15 : decode cX12_spell 15 = .ok (.iconst 0, 1) := by decide +kernel
theorem dX12_spell_16 : decode cX12_spell 16 = .ok (.istore_n 2, 1) := by decide +kernel
theorem dX12_spell_17 : decode cX12_spell 17 = .ok (.iload_n 2, 1) := by decide +kernel
theorem dX12_spell_18 : decode cX12_spell 18 = .ok (.aload_n 0, 1) := by decide +kernel
theorem dX12_spell_19 : decode cX12_spell 19 = .ok (.getfield 9, 3) := by decide +kernel
theorem dX12_spell_22 : decode cX12_spell 22 = .ok (.iload_n 1, 1) := by decide +kernel
theorem dX12_spell_23 : decode cX12_spell 23 = .ok (.iaload, 1) := by decide +kernel
theorem dX12_spell_24 : decode cX12_spell 24 = .ok (.if_icmp .ge 118, 3) := by decide +kernel
theorem dX12_spell_27 : decode cX12_spell 27 = .ok (.iload_n 2, 1) := by decide +kernel
theorem dX12_spell_28 : decode cX12_spell 28 = .ok (.ifCond .le 9, 3) := by decide +kernel
theorem dX12_spell_31 : decode cX12_spell 31 = .ok (.aload_n 0, 1) := by decide +kernel
theorem dX12_spell_32 : decode cX12_spell 32 = .ok (.bipush 43, 2) := by decide +kernel
theorem dX12_spell_34 : decode cX12_spell 34 = .ok (.invokevirtual 445, 3) := by decide +kernel
theorem dX12_spell_37 : decode cX12_spell 37 = .ok (.aload_n 0, 1) := by decide +kernel
theorem dX12_spell_38 : decode cX12_spell 38 = .ok (.iload_n 1, 1) := by decide +kernel
theorem dX12_spell_39 : decode cX12_spell 39 = .ok (.iload_n 2, 1) := by decide +kernel
theorem dX12_spell_40 : decode cX12_spell 40 = .ok (.iconst 0, 1) := by decide +kernel
theorem dX12_spell_41 : decode cX12_spell 41 = .ok (.invokevirtual 93, 3) := by decide +kernel
theorem dX12_spell_44 : decode cX12_spell 44 = .ok (.istore_n 3, 1) := by decide +kernel
theorem dX12_spell_45 : decode cX12_spell 45 = .ok (.iload_n 3, 1) := by decide +kernel
theorem dX12_spell_46 : decode cX12_spell 46 = .ok (.iconst 1, 1) := by decide +kernel
theorem dX12_spell_47 : decode cX12_spell 47 = .ok (.if_icmp .eq 8, 3) := by decide +kernel
theorem dX12_spell_50 : decode cX12_spell 50 = .ok (.aload_n 0, 1) := by decide +kernel
theorem dX12_spell_51 : decode cX12_spell 51 = .ok (.iload_n 3, 1) := by decide +kernel
theorem dX12_spell_52 : decode cX12_spell 52 = .ok (.invokevirtual 452, 3) := by decide +kernel
theorem dX12_spell_55 : decode cX12_spell 55 = .ok (.aload_n 0, 1) := by decide +kernel
theorem dX12_spell_56 : decode cX12_spell 56 = .ok (.aload_n 0, 1) := by decide +kernel
theorem dX12_spell_57 : decode cX12_spell 57 = .ok (.iload_n 1, 1) := by decide +kernel
theorem dX12_spell_58 : decode cX12_spell 58 = .ok (.iload_n 2, 1) := by decide +kernel
theorem dX12_spell_59 : decode cX12_spell 59 = .ok (.iconst 1, 1) := by decide +kernel
theorem dX12_spell_60 : decode cX12_spell 60 = .ok (.invokevirtual 93, 3) := by decide +kernel
theorem dX12_spell_63 : decode cX12_spell 63 = .ok (.invokevirtual 455, 3) := by decide +kernel
theorem dX12_spell_66 : decode cX12_spell 66 = .ok (.aload_n 0, 1) := by decide +kernel
theorem dX12_spell_67 : decode cX12_spell 67 = .ok (.iload_n 1, 1) := by decide +kernel
theorem dX12_spell_68 : decode cX12_spell 68 = .ok (.iload_n 2, 1) := by decide +kernel
theorem dX12_spell_69 : decode cX12_spell 69 = .ok (.iconst 2, 1) := by decide +kernel
theorem dX12_spell_70 : decode cX12_spell 70 = .ok (.invokevirtual 93, 3) := by decide +kernel
theorem dX12_spell_73 : decode cX12_spell 73 = .ok (.ifCond .ne 27, 3) := by decide +kernel
theorem dX12_spell_76 : decode cX12_spell 76 = .ok (.aload_n 0, 1) := by decide +kernel
theorem dX12_spell_77 : decode cX12_spell 77 = .ok (.iload_n 1, 1) := by decide +kernel
theorem dX12_spell_78 : decode cX12_spell 78 = .ok (.iload_n 2, 1) := by decide +kernel
theorem dX12_spell_79 : decode cX12_spell 79 = .ok (.iconst 3, 1) := by decide +kernel
theorem dX12_spell_80 : decode cX12_spell 80 = .ok (.invokevirtual 93, 3) := by decide +kernel
theorem dX12_spell_83 : decode cX12_spell 83 = .ok (.iload_n 3, 1) := by decide +kernel
theorem dX12_spell_84 : decode cX12_spell 84 = .ok (.aload_n 0, 1) := by decide +kernel
theorem dX12_spell_85 : decode cX12_spell 85 = .ok (.iload_n 1, 1) := by decide +kernel
theorem dX12_spell_86 : decode cX12_spell 86 = .ok (.iload_n 2, 1) := by decide +kernel
theorem dX12_spell_87 : decode cX12_spell 87 = .ok (.iconst 1, 1) := by decide +kernel
theorem dX12_spell_88 : decode cX12_spell 88 = .ok (.invokevirtual 93, 3) := by decide +kernel
theorem dX12_spell_91 : decode cX12_spell 91 = .ok (.invokestatic 223, 3) := by decide +kernel
theorem dX12_spell_94 : decode cX12_spell 94 = .ok (.if_icmp .ne 6, 3) := by decide +kernel
theorem dX12_spell_97 : decode cX12_spell 97 = .ok (.goto 39, 3) := by decide +kernel
theorem dX12_spell_100 : decode cX12_spell 100 = .ok (.aload_n 0, 1) := by decide +kernel
theorem dX12_spell_101 : decode cX12_spell 101 = .ok (.ldc_w 458, 3) := by decide +kernel
theorem dX12_spell_104 : decode cX12_spell 104 = .ok (.invokevirtual 448, 3) := by decide +kernel
theorem dX12_spell_107 : decode cX12_spell 107 = .ok (.aload_n 0, 1) := by decide +kernel
theorem dX12_spell_108 : decode cX12_spell 108 = .ok (.aload_n 0, 1) := by decide +kernel
theorem dX12_spell_109 : decode cX12_spell 109 = .ok (.iload_n 1, 1) := by decide +kernel
theorem dX12_spell_110 : decode cX12_spell 110 = .ok (.iload_n 2, 1) := by decide +kernel
theorem dX12_spell_111 : decode cX12_spell 111 = .ok (.iconst 2, 1) := by decide +kernel
theorem dX12_spell_112 : decode cX12_spell 112 = .ok (.invokevirtual 93, 3) := by decide +kernel
theorem dX12_spell_115 : decode cX12_spell 115 = .ok (.invokevirtual 452, 3) := by decide +kernel
theorem dX12_spell_118 : decode cX12_spell 118 = .ok (.aload_n 0, 1) := by decide +kernel
theorem dX12_spell_119 : decode cX12_spell 119 = .ok (.ldc_w 460, 3) := by decide +kernel
theorem dX12_spell_122 : decode cX12_spell 122 = .ok (.invokevirtual 448, 3) := by decide +kernel
theorem dX12_spell_125 : decode cX12_spell 125 = .ok (.aload_n 0, 1) := by decide +kernel
theorem dX12_spell_126 : decode cX12_spell 126 = .ok (.aload_n 0, 1) := by decide +kernel
theorem dX12_spell_127 : decode cX12_spell 127 = .ok (.iload_n 1, 1) := by decide +kernel
theorem dX12_spell_128 : decode cX12_spell 128 = .ok (.iload_n 2, 1) := by decide +kernel
theorem dX12_spell_129 : decode cX12_spell 129 = .ok (.iconst 3, 1) := by decide +kernel
theorem dX12_spell_130 : decode cX12_spell 130 = .ok (.invokevirtual 93, 3) := by decide +kernel
theorem dX12_spell_133 : decode cX12_spell 133 = .ok (.invokevirtual 452, 3) := by decide +kernel
theorem dX12_spell_136 : decode cX12_spell 136 = .ok (.iinc 2 1, 3) := by decide +kernel
theorem dX12_spell_139 : decode cX12_spell 139 = .ok (.goto (-122), 3) := by decide +kernel
theorem dX12_spell_142 : decode cX12_spell 142 = .ok (.aload_n 0, 1) := by decide +kernel
theorem dX12_spell_143 : decode cX12_spell 143 = .ok (.getfield 442, 3) := by decide +kernel
theorem dX12_spell_146 : decode cX12_spell 146 = .ok (.ireturn, 1) := by decide +kernel
theorem dX12_write_0 : decode cX12_write 0 = .ok (.aload_n 0, 1) := by decide +kernel
theorem dX12_write_1 : decode cX12_write 1 = .ok (.iload_n 1, 1) := by decide +kernel
theorem dX12_write_2 : decode cX12_write 2 = .ok (.invokevirtual 274, 3) := by decide +kernel
theorem dX12_write_5 : decode cX12_write 5 = .ok (.ifCond .eq 19, 3) := by decide +kernel
theorem dX12_write_8 : decode cX12_write 8 = .ok (.iload_n 2, 1) := by decide +kernel
theorem dX12_write_9 : decode cX12_write 9 = .ok (.iload_n 3, 1) := by decide +kernel
theorem dX12_write_10 : decode cX12_write 10 = .ok (.invokestatic 417, 3) := by decide +kernel
theorem dX12_write_13 : decode cX12_write 13 = .ok (.ifCond .eq 11, 3) := by decide +kernel
theorem dX12_write_16 : decode cX12_write 16 = .ok (.iload_n 3, 1) := by decide +kernel
theorem dX12_write_17 : decode cX12_write 17 = .ok (.iload_n 2, 1) := by decide +kernel
theorem dX12_write_18 : decode cX12_write 18 = .ok (.isub, 1) := by decide +kernel
theorem dX12_write_19 : decode cX12_write 19 = .ok (.bipush 60, 2) := by decide +kernel
theorem dX12_write_21 : decode cX12_write 21 = .ok (.if_icmp .lt 5, 3) := by decide +kernel
theorem dX12_write_24 : decode cX12_write 24 = .ok (.iconst (-1), 1) := by decide +kernel
theorem dX12_write_25 : decode cX12_write 25 = .ok (.ireturn, 1) := by decide +kernel
theorem dX12_write_26 : decode cX12_write 26 = .ok (.aload_n 0, 1) := by decide +kernel
theorem dX12_write_27 : decode cX12_write 27 = .ok (.iconst 0, 1) := by decide +kernel
theorem dX12_write_28 : decode cX12_write 28 = .ok (.putfield 442, 3) := by decide +kernel
theorem dX12_write_31 : decode cX12_write 31 = .ok (.iload_n 2, 1) := by decide +kernel
theorem dX12_write_32 : decode cX12_write 32 = .ok (.istore 4, 2) := by decide +kernel
theorem dX12_write_34 : decode cX12_write 34 = .ok (.iload 4, 2) := by decide +kernel
theorem dX12_write_36 : decode cX12_write 36 = .ok (.iload_n 3, 1) := by decide +kernel
theorem dX12_write_37 : decode cX12_write 37 = .ok (.if_icmp .gt 89, 3) := by decide +kernel
theorem dX12_write_40 : decode cX12_write 40 = .ok (.aload_n 0, 1) := by decide +kernel
theorem dX12_write_41 : decode cX12_write 41 = .ok (.iload 4, 2) := by decide +kernel
theorem dX12_write_43 : decode cX12_write 43 = .ok (.invokevirtual 452, 3) := by decide +kernel
theorem dX12_write_46 : decode cX12_write 46 = .ok (.aload_n 0, 1) := by decide +kernel
theorem dX12_write_47 : decode cX12_write 47 = .ok (.iload_n 1, 1) := by decide +kernel
theorem dX12_write_48 : decode cX12_write 48 = .ok (.iload 4, 2) := by decide +kernel
theorem dX12_write_50 : decode cX12_write 50 = .ok (.lconst 0, 1) := by decide +kernel
theorem dX12_write_51 : decode cX12_write 51 = .ok (.invokevirtual 317, 3) := by decide +kernel
theorem dX12_write_54 : decode cX12_write 54 = .ok (.ifCond .eq 53, 3) := by decide +kernel
theorem dX12_write_57 : decode cX12_write 57 = .ok (.iconst 0, 1) := by decide +kernel
theorem dX12_write_58 : decode cX12_write 58 = .ok (.istore 5, 2) := by decide +kernel
theorem dX12_write_60 : decode cX12_write 60 = .ok (.iload 5, 2) := by decide +kernel
theorem dX12_write_62 : decode cX12_write 62 = .ok (.aload_n 0, 1) := by decide +kernel
theorem dX12_write_63 : decode cX12_write 63 = .ok (.getfield 9, 3) := by decide +kernel
theorem dX12_write_66 : decode cX12_write 66 = .ok (.iload_n 1, 1) := by decide +kernel
theorem dX12_write_67 : decode cX12_write 67 = .ok (.iaload, 1) := by decide +kernel
theorem dX12_write_68 : decode cX12_write 68 = .ok (.if_icmp .ge 36, 3) := by decide +kernel
theorem dX12_write_71 : decode cX12_write 71 = .ok (.aload_n 0, 1) := by decide +kernel
theorem dX12_write_72 : decode cX12_write 72 = .ok (.iload 5, 2) := by decide +kernel
theorem dX12_write_74 : decode cX12_write 74 = .ok (.ifCond .ne 8, 3) := by decide +kernel
theorem dX12_write_77 : decode cX12_write 77 = .ok (.bipush 61, 2) := by decide +kernel
theorem dX12_write_79 : decode cX12_write 79 = .ok (.goto 5, 3) := by decide +kernel
theorem dX12_write_82 : decode cX12_write 82 = .ok (.bipush 44, 2) := by decide +kernel
theorem dX12_write_84 : decode cX12_write 84 = .ok (.invokevirtual 445, 3) := by decide +kernel
theorem dX12_write_87 : decode cX12_write 87 = .ok (.aload_n 0, 1) := by decide +kernel
theorem dX12_write_88 : decode cX12_write 88 = .ok (.aload_n 0, 1) := by decide +kernel
theorem dX12_write_89 : decode cX12_write 89 = .ok (.getfield 57, 3) := by decide +kernel
theorem dX12_write_92 : decode cX12_write 92 = .ok (.iload 5, 2) := by decide +kernel
theorem dX12_write_94 : decode cX12_write 94 = .ok (.iaload, 1) := by decide +kernel
theorem dX12_write_95 : decode cX12_write 95 = .ok (.invokevirtual 452, 3) := by decide +kernel
theorem dX12_write_98 : decode cX12_write 98 = .ok (.iinc 5 1, 3) := by decide +kernel
theorem dX12_write_101 : decode cX12_write 101 = .ok (.goto (-41), 3) := by decide +kernel
theorem dX12_write_104 : decode cX12_write 104 = .ok (.goto 10, 3) := by decide +kernel
theorem dX12_write_107 : decode cX12_write 107 = .ok (.aload_n 0, 1) := by decide +kernel
theorem dX12_write_108 : decode cX12_write 108 = .ok (.ldc_w 462, 3) := by decide +kernel
theorem dX12_write_111 : decode cX12_write 111 = .ok (.invokevirtual 448, 3) := by decide +kernel
theorem dX12_write_114 : decode cX12_write 114 = .ok (.aload_n 0, 1) := by decide +kernel
theorem dX12_write_115 : decode cX12_write 115 = .ok (.bipush 59, 2) := by decide +kernel
theorem dX12_write_117 : decode cX12_write 117 = .ok (.invokevirtual 445, 3) := by decide +kernel
theorem dX12_write_120 : decode cX12_write 120 = .ok (.iinc 4 1, 3) := by decide +kernel
theorem dX12_write_123 : decode cX12_write 123 = .ok (.goto (-89), 3) := by decide +kernel
theorem dX12_write_126 : decode cX12_write 126 = .ok (.aload_n 0, 1) := by decide +kernel
theorem dX12_write_127 : decode cX12_write 127 = .ok (.getfield 442, 3) := by decide +kernel
theorem dX12_write_130 : decode cX12_write 130 = .ok (.ireturn, 1) := by decide +kernel
theorem dX12_out_0 : decode cX12_out 0 = .ok (.iload_n 1, 1) := by decide +kernel
theorem dX12_out_1 : decode cX12_out 1 = .ok (.i2l, 1) := by decide +kernel
theorem dX12_out_2 : decode cX12_out 2 = .ok (.lconst 0, 1) := by decide +kernel
theorem dX12_out_3 : decode cX12_out 3 = .ok (.aload_n 0, 1) := by decide +kernel
theorem dX12_out_4 : decode cX12_out 4 = .ok (.getfield 442, 3) := by decide +kernel
theorem dX12_out_7 : decode cX12_out 7 = .ok (.iconst 1, 1) := by decide +kernel
theorem dX12_out_8 : decode cX12_out 8 = .ok (.isub, 1) := by decide +kernel
theorem dX12_out_9 : decode cX12_out 9 = .ok (.i2l, 1) := by decide +kernel
theorem dX12_out_10 : decode cX12_out 10 = .ok (.invokestatic 105, 3) := by decide +kernel
theorem dX12_out_13 : decode cX12_out 13 = .ok (.ifCond .eq 12, 3) := by decide +kernel
theorem dX12_out_16 : decode cX12_out 16 = .ok (.aload_n 0, 1) := by decide +kernel
theorem dX12_out_17 : decode cX12_out 17 = .ok (.getfield 88, 3) := by decide +kernel
theorem dX12_out_20 : decode cX12_out 20 = .ok (.iload_n 1, 1) := by decide +kernel
theorem dX12_out_21 : decode cX12_out 21 = .ok (.iaload, 1) := by decide +kernel
theorem dX12_out_22 : decode cX12_out 22 = .ok (.goto 4, 3) := by decide +kernel
theorem dX12_out_25 : decode cX12_out 25 = .ok (.iconst (-1), 1) := by decide +kernel
theorem dX12_out_26 : decode cX12_out 26 = .ok (.ireturn, 1) := by decide +kernel
theorem dX12_look_0 : decode cX12_look 0 = .ok (.iload_n 1, 1) := by decide +kernel
theorem dX12_look_1 : decode cX12_look 1 = .ok (.i2l, 1) := by decide +kernel
theorem dX12_look_2 : decode cX12_look 2 = .ok (.lconst 0, 1) := by decide +kernel
theorem dX12_look_3 : decode cX12_look 3 = .ok (.ldc2_w 109, 3) := by decide +kernel
theorem dX12_look_6 : decode cX12_look 6 = .ok (.invokestatic 105, 3) := by decide +kernel
theorem dX12_look_9 : decode cX12_look 9 = .ok (.ifCond .eq 10, 3) := by decide +kernel
theorem dX12_look_12 : decode cX12_look 12 = .ok (.aload_n 0, 1) := by decide +kernel
theorem dX12_look_13 : decode cX12_look 13 = .ok (.getfield 9, 3) := by decide +kernel
theorem dX12_look_16 : decode cX12_look 16 = .ok (.iload_n 1, 1) := by decide +kernel
theorem dX12_look_17 : decode cX12_look 17 = .ok (.iaload, 1) := by decide +kernel
theorem dX12_look_18 : decode cX12_look 18 = .ok (.ireturn, 1) := by decide +kernel
theorem dX12_look_19 : decode cX12_look 19 = .ok (.iload_n 1, 1) := by decide +kernel
theorem dX12_look_20 : decode cX12_look 20 = .ok (.iconst 4, 1) := by decide +kernel
theorem dX12_look_21 : decode cX12_look 21 = .ok (.if_icmp .ne 10, 3) := by decide +kernel
theorem dX12_look_24 : decode cX12_look 24 = .ok (.aload_n 0, 1) := by decide +kernel
theorem dX12_look_25 : decode cX12_look 25 = .ok (.getfield 115, 3) := by decide +kernel
theorem dX12_look_28 : decode cX12_look 28 = .ok (.goto 29, 3) := by decide +kernel
theorem dX12_look_31 : decode cX12_look 31 = .ok (.iload_n 1, 1) := by decide +kernel
theorem dX12_look_32 : decode cX12_look 32 = .ok (.iconst 5, 1) := by decide +kernel
theorem dX12_look_33 : decode cX12_look 33 = .ok (.if_icmp .ne 10, 3) := by decide +kernel
theorem dX12_look_36 : decode cX12_look 36 = .ok (.aload_n 0, 1) := by decide +kernel
theorem dX12_look_37 : decode cX12_look 37 = .ok (.getfield 373, 3) := by decide +kernel
theorem dX12_look_40 : decode cX12_look 40 = .ok (.goto 17, 3) := by decide +kernel
theorem dX12_look_43 : decode cX12_look 43 = .ok (.iload_n 1, 1) := by decide +kernel
theorem dX12_look_44 : decode cX12_look 44 = .ok (.bipush 6, 2) := by decide +kernel
theorem dX12_look_46 : decode cX12_look 46 = .ok (.if_icmp .ne 10, 3) := by decide +kernel
theorem dX12_look_49 : decode cX12_look 49 = .ok (.aload_n 0, 1) := by decide +kernel
theorem dX12_look_50 : decode cX12_look 50 = .ok (.getfield 370, 3) := by decide +kernel
theorem dX12_look_53 : decode cX12_look 53 = .ok (.goto 4, 3) := by decide +kernel
theorem dX12_look_56 : decode cX12_look 56 = .ok (.iconst (-1), 1) := by decide +kernel
theorem dX12_look_57 : decode cX12_look 57 = .ok (.ireturn, 1) := by decide +kernel
