/-! DECODE ROWS X11 -/
theorem dX11_init_0 : decode cX11_init 0 = .ok (.aload_n 0, 1) := by decide +kernel
theorem dX11_init_1 : decode cX11_init 1 = .ok (.invokespecial 3, 3) := by decide +kernel
theorem dX11_init_4 : decode cX11_init 4 = .ok (.aload_n 0, 1) := by decide +kernel
theorem dX11_init_5 : decode cX11_init 5 = .ok (.new 9, 3) := by decide +kernel
theorem dX11_init_8 : decode cX11_init 8 = .ok (.dup, 1) := by decide +kernel
theorem dX11_init_9 : decode cX11_init 9 = .ok (.invokespecial 11, 3) := by decide +kernel
theorem dX11_init_12 : decode cX11_init 12 = .ok (.putfield 12, 3) := by decide +kernel
theorem dX11_init_15 : decode cX11_init 15 = .ok (.aload_n 0, 1) := by decide +kernel
theorem dX11_init_16 : decode cX11_init 16 = .ok (.iconst 4, 1) := by decide +kernel
theorem dX11_init_17 : decode cX11_init 17 = .ok (.anewarray 16, 3) := by decide +kernel
theorem dX11_init_20 : decode cX11_init 20 = .ok (.putfield 18, 3) := by decide +kernel
theorem dX11_init_23 : decode cX11_init 23 = .ok (.aload_n 0, 1) := by decide +kernel
theorem dX11_init_24 : decode cX11_init 24 = .ok (.iconst 4, 1) := by decide +kernel
theorem dX11_init_25 : decode cX11_init 25 = .ok (.anewarray 22, 3) := by decide +kernel
theorem dX11_init_28 : decode cX11_init 28 = .ok (.putfield 24, 3) := by decide +kernel
theorem dX11_init_31 : decode cX11_init 31 = .ok (.iconst 0, 1) := by decide +kernel
theorem dX11_init_32 : decode cX11_init 32 = .ok (.istore_n 1, 1) := by decide +kernel
theorem dX11_init_33 : decode cX11_init 33 = .ok (.iload_n 1, 1) := by decide +kernel
theorem dX11_init_34 : decode cX11_init 34 = .ok (.iconst 4, 1) := by decide +kernel
theorem dX11_init_35 : decode cX11_init 35 = .ok (.if_icmp .ge 35, 3) := by decide +kernel
theorem dX11_init_38 : decode cX11_init 38 = .ok (.aload_n 0, 1) := by decide +kernel
theorem dX11_init_39 : decode cX11_init 39 = .ok (.getfield 18, 3) := by decide +kernel
theorem dX11_init_42 : decode cX11_init 42 = .ok (.iload_n 1, 1) := by decide +kernel
theorem dX11_init_43 : decode cX11_init 43 = .ok (.new 16, 3) := by decide +kernel
theorem dX11_init_46 : decode cX11_init 46 = .ok (.dup, 1) := by decide +kernel
theorem dX11_init_47 : decode cX11_init 47 = .ok (.invokespecial 28, 3) := by decide +kernel
theorem dX11_init_50 : decode cX11_init 50 = .ok (.aastore, 1) := by decide +kernel
theorem dX11_init_51 : decode cX11_init 51 = .ok (.aload_n 0, 1) := by decide +kernel
theorem dX11_init_52 : decode cX11_init 52 = .ok (.getfield 24, 3) := by decide +kernel
theorem dX11_init_55 : decode cX11_init 55 = .ok (.iload_n 1, 1) := by decide +kernel
theorem dX11_init_56 : decode cX11_init 56 = .ok (.new 22, 3) := by decide +kernel
theorem dX11_init_59 : decode cX11_init 59 = .ok (.dup, 1) := by decide +kernel
theorem dX11_init_60 : decode cX11_init 60 = .ok (.invokespecial 29, 3) := by decide +kernel
theorem dX11_init_63 : decode cX11_init 63 = .ok (.aastore, 1) := by decide +kernel
theorem dX11_init_64 : decode cX11_init 64 = .ok (.iinc 1 1, 3) := by decide +kernel
theorem dX11_init_67 : decode cX11_init 67 = .ok (.goto (-34), 3) := by decide +kernel
theorem dX11_init_70 : decode cX11_init 70 = .ok (.aload_n 0, 1) := by decide +kernel
theorem dX11_init_71 : decode cX11_init 71 = .ok (.new 16, 3) := by decide +kernel
theorem dX11_init_74 : decode cX11_init 74 = .ok (.dup, 1) := by decide +kernel
theorem dX11_init_75 : decode cX11_init 75 = .ok (.invokespecial 28, 3) := by decide +kernel
theorem dX11_init_78 : decode cX11_init 78 = .ok (.putfield 30, 3) := by decide +kernel
theorem dX11_init_81 : decode cX11_init 81 = .ok (.aload_n 0, 1) := by decide +kernel
theorem dX11_init_82 : decode cX11_init 82 = .ok (.new 34, 3) := by decide +kernel
theorem dX11_init_85 : decode cX11_init 85 = .ok (.dup, 1) := by decide +kernel
theorem dX11_init_86 : decode cX11_init 86 = .ok (.aload_n 0, 1) := by decide +kernel
theorem dX11_init_87 : decode cX11_init 87 = .ok (.getfield 12, 3) := by decide +kernel
theorem dX11_init_90 : decode cX11_init 90 = .ok (.invokespecial 36, 3) := by decide +kernel
theorem dX11_init_93 : decode cX11_init 93 = .ok (.putfield 39, 3) := by decide +kernel
theorem dX11_init_96 : decode cX11_init 96 = .ok (.aload_n 0, 1) := by decide +kernel
theorem dX11_init_97 : decode cX11_init 97 = .ok (.new 43, 3) := by decide +kernel
theorem dX11_init_100 : decode cX11_init 100 = .ok (.dup, 1) := by decide +kernel
theorem dX11_init_101 : decode cX11_init 101 = .ok (.aload_n 0, 1) := by decide +kernel
theorem dX11_init_102 : decode cX11_init 102 = .ok (.getfield 12, 3) := by decide +kernel
theorem dX11_init_105 : decode cX11_init 105 = .ok (.invokespecial 45, 3) := by decide +kernel
theorem dX11_init_108 : decode cX11_init 108 = .ok (.putfield 46, 3) := by decide +kernel
theorem dX11_init_111 : decode cX11_init 111 = .ok (.aload_n 0, 1) := by decide +kernel
theorem dX11_init_112 : decode cX11_init 112 = .ok (.new 50, 3) := by decide +kernel
theorem dX11_init_115 : decode cX11_init 115 = .ok (.dup, 1) := by decide +kernel
theorem dX11_init_116 : decode cX11_init 116 = .ok (.aload_n 0, 1) := by decide +kernel
theorem dX11_init_117 : decode cX11_init 117 = .ok (.getfield 12, 3) := by decide +kernel
theorem dX11_init_120 : decode cX11_init 120 = .ok (.invokespecial 52, 3) := by decide +kernel
theorem dX11_init_123 : decode cX11_init 123 = .ok (.putfield 53, 3) := by decide +kernel
theorem dX11_init_126 : decode cX11_init 126 = .ok (.aload_n 0, 1) := by decide +kernel
theorem dX11_init_127 : decode cX11_init 127 = .ok (.new 57, 3) := by decide +kernel
theorem dX11_init_130 : decode cX11_init 130 = .ok (.dup, 1) := by decide +kernel
theorem dX11_init_131 : decode cX11_init 131 = .ok (.invokespecial 59, 3) := by decide +kernel
theorem dX11_init_134 : decode cX11_init 134 = .ok (.putfield 60, 3) := by decide +kernel
theorem dX11_init_137 : decode cX11_init 137 = .ok (.aload_n 0, 1) := by decide +kernel
theorem dX11_init_138 : decode cX11_init 138 = .ok (.new 64, 3) := by decide +kernel
theorem dX11_init_141 : decode cX11_init 141 = .ok (.dup, 1) := by decide +kernel
theorem dX11_init_142 : decode cX11_init 142 = .ok (.invokespecial 66, 3) := by decide +kernel
theorem dX11_init_145 : decode cX11_init 145 = .ok (.putfield 67, 3) := by decide +kernel
theorem dX11_init_148 : decode cX11_init 148 = .ok (.aload_n 0, 1) := by decide +kernel
theorem dX11_init_149 : decode cX11_init 149 = .ok (.new 71, 3) := by decide +kernel
theorem dX11_init_152 : decode cX11_init 152 = .ok (.dup, 1) := by decide +kernel
theorem dX11_init_153 : decode cX11_init 153 = .ok (.invokespecial 73, 3) := by decide +kernel
theorem dX11_init_156 : decode cX11_init 156 = .ok (.putfield 74, 3) := by decide +kernel
theorem dX11_init_159 : decode cX11_init 159 = .ok (.aload_n 0, 1) := by decide +kernel
theorem dX11_init_160 : decode cX11_init 160 = .ok (.new 78, 3) := by decide +kernel
theorem dX11_init_163 : decode cX11_init 163 = .ok (.dup, 1) := by decide +kernel
theorem dX11_init_164 : decode cX11_init 164 = .ok (.invokespecial 80, 3) := by decide +kernel
theorem dX11_init_167 : decode cX11_init 167 = .ok (.putfield 81, 3) := by decide +kernel
theorem dX11_init_170 : decode cX11_init 170 = .ok (.aload_n 0, 1) := by decide +kernel
theorem dX11_init_171 : decode cX11_init 171 = .ok (.iconst 5, 1) := by decide +kernel
theorem dX11_init_172 : decode cX11_init 172 = .ok (.newarray .int, 2) := by decide +kernel
theorem dX11_init_174 : decode cX11_init 174 = .ok (.putfield 85, 3) := by decide +kernel
theorem dX11_init_177 : decode cX11_init 177 = .ok (.aload_n 0, 1) := by decide +kernel
theorem dX11_init_178 : decode cX11_init 178 = .ok (.new 89, 3) := by decide +kernel
theorem dX11_init_181 : decode cX11_init 181 = .ok (.dup, 1) := by decide +kernel
theorem dX11_init_182 : decode cX11_init 182 = .ok (.invokespecial 91, 3) := by decide +kernel
theorem dX11_init_185 : decode cX11_init 185 = .ok (.putfield 92, 3) := by decide +kernel
theorem dX11_init_188 : decode cX11_init 188 = .ok (.aload_n 0, 1) := by decide +kernel
theorem dX11_init_189 : decode cX11_init 189 = .ok (.new 89, 3) := by decide +kernel
theorem dX11_init_192 : decode cX11_init 192 = .ok (.dup, 1) := by decide +kernel
theorem dX11_init_193 : decode cX11_init 193 = .ok (.invokespecial 91, 3) := by decide +kernel
theorem dX11_init_196 : decode cX11_init 196 = .ok (.putfield 96, 3) := by decide +kernel
theorem dX11_init_199 : decode cX11_init 199 = .ok (.return_, 1) := by decide +kernel
theorem dX11_feed_0 : decode cX11_feed 0 = .ok (.aload_n 0, 1) := by decide +kernel
theorem dX11_feed_1 : decode cX11_feed 1 = .ok (.getfield 12, 3) := by decide +kernel
theorem dX11_feed_4 : decode cX11_feed 4 = .ok (.getfield 99, 3) := by decide +kernel
theorem dX11_feed_7 : decode cX11_feed 7 = .ok (.bipush 20, 2) := by decide +kernel
theorem dX11_feed_9 : decode cX11_feed 9 = .ok (.iadd, 1) := by decide +kernel
theorem dX11_feed_10 : decode cX11_feed 10 = .ok (.sipush 800, 3) := by decide +kernel
theorem dX11_feed_13 : decode cX11_feed 13 = .ok (.if_icmp .le 5, 3) := by decide +kernel
theorem dX11_feed_16 : decode cX11_feed 16 = .ok (.iconst (-1), 1) := by decide +kernel
theorem dX11_feed_17 : decode cX11_feed 17 = .ok (.ireturn, 1) := by decide +kernel
theorem dX11_feed_18 : decode cX11_feed 18 = .ok (.aload_n 0, 1) := by decide +kernel
theorem dX11_feed_19 : decode cX11_feed 19 = .ok (.getfield 12, 3) := by decide +kernel
theorem dX11_feed_22 : decode cX11_feed 22 = .ok (.iload_n 1, 1) := by decide +kernel
theorem dX11_feed_23 : decode cX11_feed 23 = .ok (.invokevirtual 103, 3) := by decide +kernel
theorem dX11_feed_26 : decode cX11_feed 26 = .ok (.aload_n 0, 1) := by decide +kernel
theorem dX11_feed_27 : decode cX11_feed 27 = .ok (.getfield 12, 3) := by decide +kernel
theorem dX11_feed_30 : decode cX11_feed 30 = .ok (.iload_n 2, 1) := by decide +kernel
theorem dX11_feed_31 : decode cX11_feed 31 = .ok (.invokevirtual 103, 3) := by decide +kernel
theorem dX11_feed_34 : decode cX11_feed 34 = .ok (.aload_n 0, 1) := by decide +kernel
theorem dX11_feed_35 : decode cX11_feed 35 = .ok (.getfield 12, 3) := by decide +kernel
theorem dX11_feed_38 : decode cX11_feed 38 = .ok (.iload_n 3, 1) := by decide +kernel
theorem dX11_feed_39 : decode cX11_feed 39 = .ok (.invokevirtual 103, 3) := by decide +kernel
theorem dX11_feed_42 : decode cX11_feed 42 = .ok (.aload_n 0, 1) := by decide +kernel
theorem dX11_feed_43 : decode cX11_feed 43 = .ok (.getfield 12, 3) := by decide +kernel
theorem dX11_feed_46 : decode cX11_feed 46 = .ok (.iload 4, 2) := by decide +kernel
theorem dX11_feed_48 : decode cX11_feed 48 = .ok (.invokevirtual 103, 3) := by decide +kernel
theorem dX11_feed_51 : decode cX11_feed 51 = .ok (.aload_n 0, 1) := by decide +kernel
theorem dX11_feed_52 : decode cX11_feed 52 = .ok (.getfield 12, 3) := by decide +kernel
theorem dX11_feed_55 : decode cX11_feed 55 = .ok (.iload 5, 2) := by decide +kernel
theorem dX11_feed_57 : decode cX11_feed 57 = .ok (.invokevirtual 103, 3) := by decide +kernel
theorem dX11_feed_60 : decode cX11_feed 60 = .ok (.aload_n 0, 1) := by decide +kernel
theorem dX11_feed_61 : decode cX11_feed 61 = .ok (.getfield 12, 3) := by decide +kernel
theorem dX11_feed_64 : decode cX11_feed 64 = .ok (.getfield 99, 3) := by decide +kernel
theorem dX11_feed_67 : decode cX11_feed 67 = .ok (.ireturn, 1) := by decide +kernel
theorem dX11_end_0 : decode cX11_end 0 = .ok (.iload_n 1, 1) := by decide +kernel
theorem dX11_end_1 : decode cX11_end 1 = .ok (.ifCond .lt 14, 3) := by decide +kernel
theorem dX11_end_4 : decode cX11_end 4 = .ok (.iload_n 1, 1) := by decide +kernel
theorem dX11_end_5 : decode cX11_end 5 = .ok (.aload_n 0, 1) := by decide +kernel
theorem dX11_end_6 : decode cX11_end 6 = .ok (.getfield 12, 3) := by decide +kernel
theorem dX11_end_9 : decode cX11_end 9 = .ok (.getfield 99, 3) := by decide +kernel
theorem dX11_end_12 : decode cX11_end 12 = .ok (.if_icmp .le 5, 3) := by decide +kernel
theorem dX11_end_15 : decode cX11_end 15 = .ok (.iconst 0, 1) := by decide +kernel
theorem dX11_end_16 : decode cX11_end 16 = .ok (.ireturn, 1) := by decide +kernel
theorem dX11_end_17 : decode cX11_end 17 = .ok (.aload_n 0, 1) := by decide +kernel
theorem dX11_end_18 : decode cX11_end 18 = .ok (.getfield 12, 3) := by decide +kernel
theorem dX11_end_21 : decode cX11_end 21 = .ok (.iload_n 1, 1) := by decide +kernel
theorem dX11_end_22 : decode cX11_end 22 = .ok (.putfield 99, 3) := by decide +kernel
theorem dX11_end_25 : decode cX11_end 25 = .ok (.iconst 1, 1) := by decide +kernel
theorem dX11_end_26 : decode cX11_end 26 = .ok (.ireturn, 1) := by decide +kernel
theorem dX11_form_0 : decode cX11_form 0 = .ok (.aload_n 0, 1) := by decide +kernel
theorem dX11_form_1 : decode cX11_form 1 = .ok (.getfield 12, 3) := by decide +kernel
theorem dX11_form_4 : decode cX11_form 4 = .ok (.invokevirtual 107, 3) := by decide +kernel
theorem dX11_form_7 : decode cX11_form 7 = .ok (.bipush (-2), 2) := by decide +kernel
theorem dX11_form_9 : decode cX11_form 9 = .ok (.istore_n 2, 1) := by decide +kernel
theorem dX11_form_10 : decode cX11_form 10 = .ok (.iload_n 1, 1) := by decide +kernel
theorem dX11_form_11 : decode cX11_form 11 = .ok (.invokestatic 110, 3) := by decide +kernel
theorem dX11_form_14 : decode cX11_form 14 = .ok (.ifCond .eq 37, 3) := by decide +kernel
theorem dX11_form_17 : decode cX11_form 17 = .ok (.iconst (-1), 1) := by decide +kernel
theorem dX11_form_18 : decode cX11_form 18 = .ok (.istore_n 2, 1) := by decide +kernel
theorem dX11_form_19 : decode cX11_form 19 = .ok (.aload_n 0, 1) := by decide +kernel
theorem dX11_form_20 : decode cX11_form 20 = .ok (.getfield 39, 3) := by decide +kernel
theorem dX11_form_23 : decode cX11_form 23 = .ok (.invokevirtual 114, 3) := by decide +kernel
theorem dX11_form_26 : decode cX11_form 26 = .ok (.ifCond .eq 25, 3) := by decide +kernel
theorem dX11_form_29 : decode cX11_form 29 = .ok (.aload_n 0, 1) := by decide +kernel
theorem dX11_form_30 : decode cX11_form 30 = .ok (.iload_n 1, 1) := by decide +kernel
theorem dX11_form_31 : decode cX11_form 31 = .ok (.aload_n 0, 1) := by decide +kernel
theorem dX11_form_32 : decode cX11_form 32 = .ok (.getfield 39, 3) := by decide +kernel
theorem dX11_form_35 : decode cX11_form 35 = .ok (.getfield 118, 3) := by decide +kernel
theorem dX11_form_38 : decode cX11_form 38 = .ok (.invokevirtual 121, 3) := by decide +kernel
theorem dX11_form_41 : decode cX11_form 41 = .ok (.aload_n 0, 1) := by decide +kernel
theorem dX11_form_42 : decode cX11_form 42 = .ok (.getfield 18, 3) := by decide +kernel
theorem dX11_form_45 : decode cX11_form 45 = .ok (.iload_n 1, 1) := by decide +kernel
theorem dX11_form_46 : decode cX11_form 46 = .ok (.aaload, 1) := by decide +kernel
theorem dX11_form_47 : decode cX11_form 47 = .ok (.getfield 125, 3) := by decide +kernel
theorem dX11_form_50 : decode cX11_form 50 = .ok (.istore_n 2, 1) := by decide +kernel
theorem dX11_form_51 : decode cX11_form 51 = .ok (.aload_n 0, 1) := by decide +kernel
theorem dX11_form_52 : decode cX11_form 52 = .ok (.getfield 12, 3) := by decide +kernel
theorem dX11_form_55 : decode cX11_form 55 = .ok (.iconst 0, 1) := by decide +kernel
theorem dX11_form_56 : decode cX11_form 56 = .ok (.putfield 99, 3) := by decide +kernel
theorem dX11_form_59 : decode cX11_form 59 = .ok (.iload_n 2, 1) := by decide +kernel
theorem dX11_form_60 : decode cX11_form 60 = .ok (.ireturn, 1) := by decide +kernel
theorem dX11_prove_0 : decode cX11_prove 0 = .ok (.aload_n 0, 1) := by decide +kernel
theorem dX11_prove_1 : decode cX11_prove 1 = .ok (.getfield 12, 3) := by decide +kernel
theorem dX11_prove_4 : decode cX11_prove 4 = .ok (.invokevirtual 107, 3) := by decide +kernel
theorem dX11_prove_7 : decode cX11_prove 7 = .ok (.bipush (-2), 2) := by decide +kernel
theorem dX11_prove_9 : decode cX11_prove 9 = .ok (.istore_n 2, 1) := by decide +kernel
theorem dX11_prove_10 : decode cX11_prove 10 = .ok (.aload_n 0, 1) := by decide +kernel
theorem dX11_prove_11 : decode cX11_prove 11 = .ok (.iload_n 1, 1) := by decide +kernel
theorem dX11_prove_12 : decode cX11_prove 12 = .ok (.invokevirtual 128, 3) := by decide +kernel
theorem dX11_prove_15 : decode cX11_prove 15 = .ok (.ifCond .eq 22, 3) := by decide +kernel
theorem dX11_prove_18 : decode cX11_prove 18 = .ok (.aload_n 0, 1) := by decide +kernel
theorem dX11_prove_19 : decode cX11_prove 19 = .ok (.getfield 46, 3) := by decide +kernel
theorem dX11_prove_22 : decode cX11_prove 22 = .ok (.aload_n 0, 1) := by decide +kernel
theorem dX11_prove_23 : decode cX11_prove 23 = .ok (.getfield 18, 3) := by decide +kernel
theorem dX11_prove_26 : decode cX11_prove 26 = .ok (.iload_n 1, 1) := by decide +kernel
theorem dX11_prove_27 : decode cX11_prove 27 = .ok (.aaload, 1) := by decide +kernel
theorem dX11_prove_28 : decode cX11_prove 28 = .ok (.aload_n 0, 1) := by decide +kernel
theorem dX11_prove_29 : decode cX11_prove 29 = .ok (.iload_n 1, 1) := by decide +kernel
theorem dX11_prove_30 : decode cX11_prove 30 = .ok (.invokevirtual 131, 3) := by decide +kernel
theorem dX11_prove_33 : decode cX11_prove 33 = .ok (.invokevirtual 135, 3) := by decide +kernel
theorem dX11_prove_36 : decode cX11_prove 36 = .ok (.istore_n 2, 1) := by decide +kernel
theorem dX11_prove_37 : decode cX11_prove 37 = .ok (.aload_n 0, 1) := by decide +kernel
theorem dX11_prove_38 : decode cX11_prove 38 = .ok (.getfield 12, 3) := by decide +kernel
theorem dX11_prove_41 : decode cX11_prove 41 = .ok (.iconst 0, 1) := by decide +kernel
theorem dX11_prove_42 : decode cX11_prove 42 = .ok (.putfield 99, 3) := by decide +kernel
theorem dX11_prove_45 : decode cX11_prove 45 = .ok (.iload_n 2, 1) := by decide +kernel
theorem dX11_prove_46 : decode cX11_prove 46 = .ok (.ireturn, 1) := by decide +kernel
theorem dX11_identity_0 : decode cX11_identity 0 = .ok (.aload_n 0, 1) := by decide +kernel
theorem dX11_identity_1 : decode cX11_identity 1 = .ok (.getfield 12, 3) := by decide +kernel
theorem dX11_identity_4 : decode cX11_identity 4 = .ok (.invokevirtual 107, 3) := by decide +kernel
theorem dX11_identity_7 : decode cX11_identity 7 = .ok (.iconst (-1), 1) := by decide +kernel
theorem dX11_identity_8 : decode cX11_identity 8 = .ok (.istore_n 1, 1) := by decide +kernel
theorem dX11_identity_9 : decode cX11_identity 9 = .ok (.aload_n 0, 1) := by decide +kernel
theorem dX11_identity_10 : decode cX11_identity 10 = .ok (.getfield 53, 3) := by decide +kernel
theorem dX11_identity_13 : decode cX11_identity 13 = .ok (.aload_n 0, 1) := by decide +kernel
theorem dX11_identity_14 : decode cX11_identity 14 = .ok (.getfield 96, 3) := by decide +kernel
theorem dX11_identity_17 : decode cX11_identity 17 = .ok (.invokevirtual 138, 3) := by decide +kernel
theorem dX11_identity_20 : decode cX11_identity 20 = .ok (.ifCond .eq 29, 3) := by decide +kernel
theorem dX11_identity_23 : decode cX11_identity 23 = .ok (.aload_n 0, 1) := by decide +kernel
theorem dX11_identity_24 : decode cX11_identity 24 = .ok (.getfield 92, 3) := by decide +kernel
theorem dX11_identity_27 : decode cX11_identity 27 = .ok (.astore_n 2, 1) := by decide +kernel
theorem dX11_identity_28 : decode cX11_identity 28 = .ok (.aload_n 0, 1) := by decide +kernel
theorem dX11_identity_29 : decode cX11_identity 29 = .ok (.aload_n 0, 1) := by decide +kernel
theorem dX11_identity_30 : decode cX11_identity 30 = .ok (.getfield 96, 3) := by decide +kernel
theorem dX11_identity_33 : decode cX11_identity 33 = .ok (.putfield 92, 3) := by decide +kernel
theorem dX11_identity_36 : decode cX11_identity 36 = .ok (.aload_n 0, 1) := by decide +kernel
theorem dX11_identity_37 : decode cX11_identity 37 = .ok (.aload_n 2, 1) := by decide +kernel
theorem dX11_identity_38 : decode cX11_identity 38 = .ok (.putfield 96, 3) := by decide +kernel
theorem dX11_identity_41 : decode cX11_identity 41 = .ok (.aload_n 0, 1) := by decide +kernel
theorem dX11_identity_42 : decode cX11_identity 42 = .ok (.getfield 92, 3) := by decide +kernel
theorem dX11_identity_45 : decode cX11_identity 45 = .ok (.invokevirtual 141, 3) := by decide +kernel
theorem dX11_identity_48 : decode cX11_identity 48 = .ok (.istore_n 1, 1) := by decide +kernel
theorem dX11_identity_49 : decode cX11_identity 49 = .ok (.aload_n 0, 1) := by decide +kernel
theorem dX11_identity_50 : decode cX11_identity 50 = .ok (.getfield 12, 3) := by decide +kernel
theorem dX11_identity_53 : decode cX11_identity 53 = .ok (.iconst 0, 1) := by decide +kernel
theorem dX11_identity_54 : decode cX11_identity 54 = .ok (.putfield 99, 3) := by decide +kernel
theorem dX11_identity_57 : decode cX11_identity 57 = .ok (.iload_n 1, 1) := by decide +kernel
theorem dX11_identity_58 : decode cX11_identity 58 = .ok (.ireturn, 1) := by decide +kernel
theorem dX11_fault_0 : decode cX11_fault 0 = .ok (.iload_n 1, 1) := by decide +kernel
theorem dX11_fault_1 : decode cX11_fault 1 = .ok (.tableswitch 63 0 3 #[31, 39, 47, 55], 31) := by decide +kernel
theorem dX11_fault_32 : decode cX11_fault 32 = .ok (.aload_n 0, 1) := by decide +kernel
theorem dX11_fault_33 : decode cX11_fault 33 = .ok (.getfield 12, 3) := by decide +kernel
theorem dX11_fault_36 : decode cX11_fault 36 = .ok (.getfield 145, 3) := by decide +kernel
theorem dX11_fault_39 : decode cX11_fault 39 = .ok (.ireturn, 1) := by decide +kernel
theorem dX11_fault_40 : decode cX11_fault 40 = .ok (.aload_n 0, 1) := by decide +kernel
theorem dX11_fault_41 : decode cX11_fault 41 = .ok (.getfield 12, 3) := by decide +kernel
theorem dX11_fault_44 : decode cX11_fault 44 = .ok (.getfield 148, 3) := by decide +kernel
theorem dX11_fault_47 : decode cX11_fault 47 = .ok (.ireturn, 1) := by decide +kernel
theorem dX11_fault_48 : decode cX11_fault 48 = .ok (.aload_n 0, 1) := by decide +kernel
theorem dX11_fault_49 : decode cX11_fault 49 = .ok (.getfield 12, 3) := by decide +kernel
theorem dX11_fault_52 : decode cX11_fault 52 = .ok (.getfield 151, 3) := by decide +kernel
theorem dX11_fault_55 : decode cX11_fault 55 = .ok (.ireturn, 1) := by decide +kernel
theorem dX11_fault_56 : decode cX11_fault 56 = .ok (.aload_n 0, 1) := by decide +kernel
theorem dX11_fault_57 : decode cX11_fault 57 = .ok (.getfield 12, 3) := by decide +kernel
theorem dX11_fault_60 : decode cX11_fault 60 = .ok (.getfield 154, 3) := by decide +kernel
theorem dX11_fault_63 : decode cX11_fault 63 = .ok (.ireturn, 1) := by decide +kernel
theorem dX11_fault_64 : decode cX11_fault 64 = .ok (.iconst (-1), 1) := by decide +kernel
theorem dX11_fault_65 : decode cX11_fault 65 = .ok (.ireturn, 1) := by decide +kernel
theorem dX11_term_0 : decode cX11_term 0 = .ok (.aload_n 0, 1) := by decide +kernel
theorem dX11_term_1 : decode cX11_term 1 = .ok (.iload_n 1, 1) := by decide +kernel
theorem dX11_term_2 : decode cX11_term 2 = .ok (.iload_n 2, 1) := by decide +kernel
theorem dX11_term_3 : decode cX11_term 3 = .ok (.invokevirtual 157, 3) := by decide +kernel
theorem dX11_term_6 : decode cX11_term 6 = .ok (.ifCond .ne 6, 3) := by decide +kernel
theorem dX11_term_9 : decode cX11_term 9 = .ok (.ldc 161, 2) := by decide +kernel
theorem dX11_term_11 : decode cX11_term 11 = .ok (.ireturn, 1) := by decide +kernel
theorem dX11_term_12 : decode cX11_term 12 = .ok (.aload_n 0, 1) := by decide +kernel
theorem dX11_term_13 : decode cX11_term 13 = .ok (.getfield 18, 3) := by decide +kernel
theorem dX11_term_16 : decode cX11_term 16 = .ok (.iload_n 1, 1) := by decide +kernel
theorem dX11_term_17 : decode cX11_term 17 = .ok (.aaload, 1) := by decide +kernel
theorem dX11_term_18 : decode cX11_term 18 = .ok (.astore 4, 2) := by decide +kernel
theorem dX11_term_20 : decode cX11_term 20 = .ok (.iload_n 3, 1) := by decide +kernel
theorem dX11_term_21 : decode cX11_term 21 = .ok (.tableswitch 63 0 3 #[31, 39, 47, 55], 31) := by decide +kernel
theorem dX11_term_52 : decode cX11_term 52 = .ok (.aload 4, 2) := by decide +kernel
theorem dX11_term_54 : decode cX11_term 54 = .ok (.getfield 162, 3) := by decide +kernel
theorem dX11_term_57 : decode cX11_term 57 = .ok (.iload_n 2, 1) := by decide +kernel
theorem dX11_term_58 : decode cX11_term 58 = .ok (.iaload, 1) := by decide +kernel
theorem dX11_term_59 : decode cX11_term 59 = .ok (.ireturn, 1) := by decide +kernel
theorem dX11_term_60 : decode cX11_term 60 = .ok (.aload 4, 2) := by decide +kernel
theorem dX11_term_62 : decode cX11_term 62 = .ok (.getfield 165, 3) := by decide +kernel
theorem dX11_term_65 : decode cX11_term 65 = .ok (.iload_n 2, 1) := by decide +kernel
theorem dX11_term_66 : decode cX11_term 66 = .ok (.iaload, 1) := by decide +kernel
theorem dX11_term_67 : decode cX11_term 67 = .ok (.ireturn, 1) := by decide +kernel
theorem dX11_term_68 : decode cX11_term 68 = .ok (.aload 4, 2) := by decide +kernel
theorem dX11_term_70 : decode cX11_term 70 = .ok (.getfield 168, 3) := by decide +kernel
theorem dX11_term_73 : decode cX11_term 73 = .ok (.iload_n 2, 1) := by decide +kernel
theorem dX11_term_74 : decode cX11_term 74 = .ok (.iaload, 1) := by decide +kernel
theorem dX11_term_75 : decode cX11_term 75 = .ok (.ireturn, 1) := by decide +kernel
theorem dX11_term_76 : decode cX11_term 76 = .ok (.aload 4, 2) := by decide +kernel
theorem dX11_term_78 : decode cX11_term 78 = .ok (.getfield 171, 3) := by decide +kernel
theorem dX11_term_81 : decode cX11_term 81 = .ok (.iload_n 2, 1) := by decide +kernel
theorem dX11_term_82 : decode cX11_term 82 = .ok (.iaload, 1) := by decide +kernel
theorem dX11_term_83 : decode cX11_term 83 = .ok (.ireturn, 1) := by decide +kernel
theorem dX11_term_84 : decode cX11_term 84 = .ok (.ldc 161, 2) := by decide +kernel
theorem dX11_term_86 : decode cX11_term 86 = .ok (.ireturn, 1) := by decide +kernel
theorem dX11_ways_0 : decode cX11_ways 0 = .ok (.aload_n 0, 1) := by decide +kernel
theorem dX11_ways_1 : decode cX11_ways 1 = .ok (.iload_n 1, 1) := by decide +kernel
theorem dX11_ways_2 : decode cX11_ways 2 = .ok (.invokevirtual 128, 3) := by decide +kernel
theorem dX11_ways_5 : decode cX11_ways 5 = .ok (.ifCond .eq 10, 3) := by decide +kernel
theorem dX11_ways_8 : decode cX11_ways 8 = .ok (.iload_n 2, 1) := by decide +kernel
theorem dX11_ways_9 : decode cX11_ways 9 = .ok (.invokestatic 174, 3) := by decide +kernel
theorem dX11_ways_12 : decode cX11_ways 12 = .ok (.ifCond .ne 7, 3) := by decide +kernel
theorem dX11_ways_15 : decode cX11_ways 15 = .ok (.ldc2_w 177, 3) := by decide +kernel
theorem dX11_ways_18 : decode cX11_ways 18 = .ok (.lreturn, 1) := by decide +kernel
theorem dX11_ways_19 : decode cX11_ways 19 = .ok (.aload_n 0, 1) := by decide +kernel
theorem dX11_ways_20 : decode cX11_ways 20 = .ok (.iload_n 1, 1) := by decide +kernel
theorem dX11_ways_21 : decode cX11_ways 21 = .ok (.invokevirtual 131, 3) := by decide +kernel
theorem dX11_ways_24 : decode cX11_ways 24 = .ok (.iload_n 2, 1) := by decide +kernel
theorem dX11_ways_25 : decode cX11_ways 25 = .ok (.sipush 3000, 3) := by decide +kernel
theorem dX11_ways_28 : decode cX11_ways 28 = .ok (.iadd, 1) := by decide +kernel
theorem dX11_ways_29 : decode cX11_ways 29 = .ok (.laload, 1) := by decide +kernel
theorem dX11_ways_30 : decode cX11_ways 30 = .ok (.lreturn, 1) := by decide +kernel
theorem dX11_unlike_0 : decode cX11_unlike 0 = .ok (.aload_n 0, 1) := by decide +kernel
theorem dX11_unlike_1 : decode cX11_unlike 1 = .ok (.iload_n 1, 1) := by decide +kernel
theorem dX11_unlike_2 : decode cX11_unlike 2 = .ok (.invokevirtual 128, 3) := by decide +kernel
theorem dX11_unlike_5 : decode cX11_unlike 5 = .ok (.ifCond .eq 10, 3) := by decide +kernel
theorem dX11_unlike_8 : decode cX11_unlike 8 = .ok (.iload_n 2, 1) := by decide +kernel
theorem dX11_unlike_9 : decode cX11_unlike 9 = .ok (.invokestatic 174, 3) := by decide +kernel
theorem dX11_unlike_12 : decode cX11_unlike 12 = .ok (.ifCond .ne 7, 3) := by decide +kernel
theorem dX11_unlike_15 : decode cX11_unlike 15 = .ok (.ldc2_w 177, 3) := by decide +kernel
theorem dX11_unlike_18 : decode cX11_unlike 18 = .ok (.lreturn, 1) := by decide +kernel
theorem dX11_unlike_19 : decode cX11_unlike 19 = .ok (.aload_n 0, 1) := by decide +kernel
theorem dX11_unlike_20 : decode cX11_unlike 20 = .ok (.iload_n 1, 1) := by decide +kernel
theorem dX11_unlike_21 : decode cX11_unlike 21 = .ok (.invokevirtual 179, 3) := by decide +kernel
theorem dX11_unlike_24 : decode cX11_unlike 24 = .ok (.iload_n 2, 1) := by decide +kernel
theorem dX11_unlike_25 : decode cX11_unlike 25 = .ok (.sipush 3000, 3) := by decide +kernel
theorem dX11_unlike_28 : decode cX11_unlike 28 = .ok (.iadd, 1) := by decide +kernel
theorem dX11_unlike_29 : decode cX11_unlike 29 = .ok (.laload, 1) := by decide +kernel
theorem dX11_unlike_30 : decode cX11_unlike 30 = .ok (.lreturn, 1) := by decide +kernel
theorem dX11_way_0 : decode cX11_way 0 = .ok (.aload_n 0, 1) := by decide +kernel
theorem dX11_way_1 : decode cX11_way 1 = .ok (.iload_n 1, 1) := by decide +kernel
theorem dX11_way_2 : decode cX11_way 2 = .ok (.iload 5, 2) := by decide +kernel
theorem dX11_way_4 : decode cX11_way 4 = .ok (.invokevirtual 157, 3) := by decide +kernel
theorem dX11_way_7 : decode cX11_way 7 = .ok (.ifCond .eq 10, 3) := by decide +kernel
theorem dX11_way_10 : decode cX11_way 10 = .ok (.iload_n 2, 1) := by decide +kernel
theorem dX11_way_11 : decode cX11_way 11 = .ok (.invokestatic 174, 3) := by decide +kernel
theorem dX11_way_14 : decode cX11_way 14 = .ok (.ifCond .ne 6, 3) := by decide +kernel
theorem dX11_way_17 : decode cX11_way 17 = .ok (.ldc 161, 2) := by decide +kernel
theorem dX11_way_19 : decode cX11_way 19 = .ok (.ireturn, 1) := by decide +kernel
theorem dX11_way_20 : decode cX11_way 20 = .ok (.lload_n 3, 1) := by decide +kernel
theorem dX11_way_21 : decode cX11_way 21 = .ok (.lconst 0, 1) := by decide +kernel
theorem dX11_way_22 : decode cX11_way 22 = .ok (.lcmp, 1) := by decide +kernel
theorem dX11_way_23 : decode cX11_way 23 = .ok (.ifCond .lt 19, 3) := by decide +kernel
theorem dX11_way_26 : decode cX11_way 26 = .ok (.lload_n 3, 1) := by decide +kernel
theorem dX11_way_27 : decode cX11_way 27 = .ok (.aload_n 0, 1) := by decide +kernel
theorem dX11_way_28 : decode cX11_way 28 = .ok (.iload_n 1, 1) := by decide +kernel
theorem dX11_way_29 : decode cX11_way 29 = .ok (.invokevirtual 131, 3) := by decide +kernel
theorem dX11_way_32 : decode cX11_way 32 = .ok (.iload_n 2, 1) := by decide +kernel
theorem dX11_way_33 : decode cX11_way 33 = .ok (.sipush 3000, 3) := by decide +kernel
theorem dX11_way_36 : decode cX11_way 36 = .ok (.iadd, 1) := by decide +kernel
theorem dX11_way_37 : decode cX11_way 37 = .ok (.laload, 1) := by decide +kernel
theorem dX11_way_38 : decode cX11_way 38 = .ok (.lcmp, 1) := by decide +kernel
theorem dX11_way_39 : decode cX11_way 39 = .ok (.ifCond .lt 6, 3) := by decide +kernel
theorem dX11_way_42 : decode cX11_way 42 = .ok (.ldc 161, 2) := by decide +kernel
theorem dX11_way_44 : decode cX11_way 44 = .ok (.ireturn, 1) := by decide +kernel
theorem dX11_way_45 : decode cX11_way 45 = .ok (.aload_n 0, 1) := by decide +kernel
theorem dX11_way_46 : decode cX11_way 46 = .ok (.iload_n 1, 1) := by decide +kernel
theorem dX11_way_47 : decode cX11_way 47 = .ok (.iload_n 2, 1) := by decide +kernel
theorem dX11_way_48 : decode cX11_way 48 = .ok (.lload_n 3, 1) := by decide +kernel
theorem dX11_way_49 : decode cX11_way 49 = .ok (.invokevirtual 182, 3) := by decide +kernel
theorem dX11_way_52 : decode cX11_way 52 = .ok (.aload_n 0, 1) := by decide +kernel
theorem dX11_way_53 : decode cX11_way 53 = .ok (.getfield 85, 3) := by decide +kernel
theorem dX11_way_56 : decode cX11_way 56 = .ok (.iload 5, 2) := by decide +kernel
theorem dX11_way_58 : decode cX11_way 58 = .ok (.iaload, 1) := by decide +kernel
theorem dX11_way_59 : decode cX11_way 59 = .ok (.ireturn, 1) := by decide +kernel
theorem dX11_number_0 : decode cX11_number 0 = .ok (.aload_n 0, 1) := by decide +kernel
theorem dX11_number_1 : decode cX11_number 1 = .ok (.iload_n 1, 1) := by decide +kernel
theorem dX11_number_2 : decode cX11_number 2 = .ok (.invokevirtual 128, 3) := by decide +kernel
theorem dX11_number_5 : decode cX11_number 5 = .ok (.ifCond .eq 10, 3) := by decide +kernel
theorem dX11_number_8 : decode cX11_number 8 = .ok (.iload_n 2, 1) := by decide +kernel
theorem dX11_number_9 : decode cX11_number 9 = .ok (.invokestatic 174, 3) := by decide +kernel
theorem dX11_number_12 : decode cX11_number 12 = .ok (.ifCond .ne 7, 3) := by decide +kernel
theorem dX11_number_15 : decode cX11_number 15 = .ok (.ldc2_w 177, 3) := by decide +kernel
theorem dX11_number_18 : decode cX11_number 18 = .ok (.lreturn, 1) := by decide +kernel
theorem dX11_number_19 : decode cX11_number 19 = .ok (.aload_n 0, 1) := by decide +kernel
theorem dX11_number_20 : decode cX11_number 20 = .ok (.getfield 85, 3) := by decide +kernel
theorem dX11_number_23 : decode cX11_number 23 = .ok (.iconst 0, 1) := by decide +kernel
theorem dX11_number_24 : decode cX11_number 24 = .ok (.iload_n 3, 1) := by decide +kernel
theorem dX11_number_25 : decode cX11_number 25 = .ok (.iastore, 1) := by decide +kernel
theorem dX11_number_26 : decode cX11_number 26 = .ok (.aload_n 0, 1) := by decide +kernel
theorem dX11_number_27 : decode cX11_number 27 = .ok (.getfield 85, 3) := by decide +kernel
theorem dX11_number_30 : decode cX11_number 30 = .ok (.iconst 1, 1) := by decide +kernel
theorem dX11_number_31 : decode cX11_number 31 = .ok (.iload 4, 2) := by decide +kernel
theorem dX11_number_33 : decode cX11_number 33 = .ok (.iastore, 1) := by decide +kernel
theorem dX11_number_34 : decode cX11_number 34 = .ok (.aload_n 0, 1) := by decide +kernel
theorem dX11_number_35 : decode cX11_number 35 = .ok (.getfield 85, 3) := by decide +kernel
theorem dX11_number_38 : decode cX11_number 38 = .ok (.iconst 2, 1) := by decide +kernel
theorem dX11_number_39 : decode cX11_number 39 = .ok (.iload 5, 2) := by decide +kernel
theorem dX11_number_41 : decode cX11_number 41 = .ok (.iastore, 1) := by decide +kernel
theorem dX11_number_42 : decode cX11_number 42 = .ok (.aload_n 0, 1) := by decide +kernel
theorem dX11_number_43 : decode cX11_number 43 = .ok (.getfield 85, 3) := by decide +kernel
theorem dX11_number_46 : decode cX11_number 46 = .ok (.iconst 3, 1) := by decide +kernel
theorem dX11_number_47 : decode cX11_number 47 = .ok (.iload 6, 2) := by decide +kernel
theorem dX11_number_49 : decode cX11_number 49 = .ok (.iastore, 1) := by decide +kernel
theorem dX11_number_50 : decode cX11_number 50 = .ok (.aload_n 0, 1) := by decide +kernel
theorem dX11_number_51 : decode cX11_number 51 = .ok (.getfield 85, 3) := by decide +kernel
theorem dX11_number_54 : decode cX11_number 54 = .ok (.iconst 4, 1) := by decide +kernel
theorem dX11_number_55 : decode cX11_number 55 = .ok (.iload 7, 2) := by decide +kernel
theorem dX11_number_57 : decode cX11_number 57 = .ok (.iastore, 1) := by decide +kernel
theorem dX11_number_58 : decode cX11_number 58 = .ok (.aload_n 0, 1) := by decide +kernel
theorem dX11_number_59 : decode cX11_number 59 = .ok (.aload_n 0, 1) := by decide +kernel
theorem dX11_number_60 : decode cX11_number 60 = .ok (.getfield 18, 3) := by decide +kernel
theorem dX11_number_63 : decode cX11_number 63 = .ok (.iload_n 1, 1) := by decide +kernel
theorem dX11_number_64 : decode cX11_number 64 = .ok (.aaload, 1) := by decide +kernel
theorem dX11_number_65 : decode cX11_number 65 = .ok (.iload_n 2, 1) := by decide +kernel
theorem dX11_number_66 : decode cX11_number 66 = .ok (.invokevirtual 186, 3) := by decide +kernel
theorem dX11_number_69 : decode cX11_number 69 = .ok (.ifCond .ne 7, 3) := by decide +kernel
theorem dX11_number_72 : decode cX11_number 72 = .ok (.ldc2_w 177, 3) := by decide +kernel
theorem dX11_number_75 : decode cX11_number 75 = .ok (.lreturn, 1) := by decide +kernel
theorem dX11_number_76 : decode cX11_number 76 = .ok (.aload_n 0, 1) := by decide +kernel
theorem dX11_number_77 : decode cX11_number 77 = .ok (.iload_n 1, 1) := by decide +kernel
theorem dX11_number_78 : decode cX11_number 78 = .ok (.iload_n 2, 1) := by decide +kernel
theorem dX11_number_79 : decode cX11_number 79 = .ok (.invokevirtual 190, 3) := by decide +kernel
theorem dX11_number_82 : decode cX11_number 82 = .ok (.lreturn, 1) := by decide +kernel
theorem dX11_missed_0 : decode cX11_missed 0 = .ok (.aload_n 0, 1) := by decide +kernel
theorem dX11_missed_1 : decode cX11_missed 1 = .ok (.iload_n 1, 1) := by decide +kernel
theorem dX11_missed_2 : decode cX11_missed 2 = .ok (.invokevirtual 128, 3) := by decide +kernel
theorem dX11_missed_5 : decode cX11_missed 5 = .ok (.ifCond .eq 17, 3) := by decide +kernel
theorem dX11_missed_8 : decode cX11_missed 8 = .ok (.iload_n 2, 1) := by decide +kernel
theorem dX11_missed_9 : decode cX11_missed 9 = .ok (.iload_n 3, 1) := by decide +kernel
theorem dX11_missed_10 : decode cX11_missed 10 = .ok (.invokestatic 194, 3) := by decide +kernel
theorem dX11_missed_13 : decode cX11_missed 13 = .ok (.ifCond .eq 9, 3) := by decide +kernel
theorem dX11_missed_16 : decode cX11_missed 16 = .ok (.iload 4, 2) := by decide +kernel
theorem dX11_missed_18 : decode cX11_missed 18 = .ok (.iconst (-1), 1) := by decide +kernel
theorem dX11_missed_19 : decode cX11_missed 19 = .ok (.if_icmp .ge 6, 3) := by decide +kernel
theorem dX11_missed_22 : decode cX11_missed 22 = .ok (.ldc 161, 2) := by decide +kernel
theorem dX11_missed_24 : decode cX11_missed 24 = .ok (.ireturn, 1) := by decide +kernel
theorem dX11_missed_25 : decode cX11_missed 25 = .ok (.aload_n 0, 1) := by decide +kernel
theorem dX11_missed_26 : decode cX11_missed 26 = .ok (.iload_n 1, 1) := by decide +kernel
theorem dX11_missed_27 : decode cX11_missed 27 = .ok (.invokevirtual 131, 3) := by decide +kernel
theorem dX11_missed_30 : decode cX11_missed 30 = .ok (.astore 5, 2) := by decide +kernel
theorem dX11_missed_32 : decode cX11_missed 32 = .ok (.iconst 0, 1) := by decide +kernel
theorem dX11_missed_33 : decode cX11_missed 33 = .ok (.istore 6, 2) := by decide +kernel
theorem dX11_missed_35 : decode cX11_missed 35 = .ok (.iload_n 2, 1) := by decide +kernel
theorem dX11_missed_36 : decode cX11_missed 36 = .ok (.istore 7, 2) := by decide +kernel
theorem dX11_missed_38 : decode cX11_missed 38 = .ok (.iload 7, 2) := by decide +kernel
theorem dX11_missed_40 : decode cX11_missed 40 = .ok (.iload_n 3, 1) := by decide +kernel
theorem dX11_missed_41 : decode cX11_missed 41 = .ok (.if_icmp .gt 36, 3) := by decide +kernel
theorem dX11_missed_44 : decode cX11_missed 44 = .ok (.aload 5, 2) := by decide +kernel
theorem dX11_missed_46 : decode cX11_missed 46 = .ok (.iload 7, 2) := by decide +kernel
theorem dX11_missed_48 : decode cX11_missed 48 = .ok (.sipush 3000, 3) := by decide +kernel
theorem dX11_missed_51 : decode cX11_missed 51 = .ok (.iadd, 1) := by decide +kernel
theorem dX11_missed_52 : decode cX11_missed 52 = .ok (.laload, 1) := by decide +kernel
theorem dX11_missed_53 : decode cX11_missed 53 = .ok (.lconst 0, 1) := by decide +kernel
theorem dX11_missed_54 : decode cX11_missed 54 = .ok (.lcmp, 1) := by decide +kernel
theorem dX11_missed_55 : decode cX11_missed 55 = .ok (.ifCond .ne 16, 3) := by decide +kernel
theorem dX11_missed_58 : decode cX11_missed 58 = .ok (.iload 6, 2) := by decide +kernel
theorem dX11_missed_60 : decode cX11_missed 60 = .ok (.iload 4, 2) := by decide +kernel
theorem dX11_missed_62 : decode cX11_missed 62 = .ok (.if_icmp .ne 6, 3) := by decide +kernel
theorem dX11_missed_65 : decode cX11_missed 65 = .ok (.iload 7, 2) := by decide +kernel
theorem dX11_missed_67 : decode cX11_missed 67 = .ok (.ireturn, 1) := by decide +kernel
theorem dX11_missed_68 : decode cX11_missed 68 = .ok (.iinc 6 1, 3) := by decide +kernel
theorem dX11_missed_71 : decode cX11_missed 71 = .ok (.iinc 7 1, 3) := by decide +kernel
theorem dX11_missed_74 : decode cX11_missed 74 = .ok (.goto (-36), 3) := by decide +kernel
theorem dX11_missed_77 : decode cX11_missed 77 = .ok (.iload 4, 2) := by decide +kernel
theorem dX11_missed_79 : decode cX11_missed 79 = .ok (.iconst (-1), 1) := by decide +kernel
theorem dX11_missed_80 : decode cX11_missed 80 = .ok (.if_icmp .ne 8, 3) := by decide +kernel
theorem dX11_missed_83 : decode cX11_missed 83 = .ok (.iload 6, 2) := by decide +kernel
theorem dX11_missed_85 : decode cX11_missed 85 = .ok (.goto 5, 3) := by decide +kernel
theorem dX11_missed_88 : decode cX11_missed 88 = .ok (.ldc 161, 2) := by decide +kernel
theorem dX11_missed_90 : decode cX11_missed 90 = .ok (.ireturn, 1) := by decide +kernel
theorem dX11_explained_0 : decode cX11_explained 0 = .ok (.aload_n 0, 1) := by decide +kernel
theorem dX11_explained_1 : decode cX11_explained 1 = .ok (.iload_n 1, 1) := by decide +kernel
theorem dX11_explained_2 : decode cX11_explained 2 = .ok (.invokevirtual 128, 3) := by decide +kernel
theorem dX11_explained_5 : decode cX11_explained 5 = .ok (.ifCond .eq 19, 3) := by decide +kernel
theorem dX11_explained_8 : decode cX11_explained 8 = .ok (.iload_n 2, 1) := by decide +kernel
theorem dX11_explained_9 : decode cX11_explained 9 = .ok (.iload_n 3, 1) := by decide +kernel
theorem dX11_explained_10 : decode cX11_explained 10 = .ok (.invokestatic 194, 3) := by decide +kernel
theorem dX11_explained_13 : decode cX11_explained 13 = .ok (.ifCond .eq 11, 3) := by decide +kernel
theorem dX11_explained_16 : decode cX11_explained 16 = .ok (.iload 4, 2) := by decide +kernel
theorem dX11_explained_18 : decode cX11_explained 18 = .ok (.invokestatic 197, 3) := by decide +kernel
theorem dX11_explained_21 : decode cX11_explained 21 = .ok (.ifCond .ne 5, 3) := by decide +kernel
theorem dX11_explained_24 : decode cX11_explained 24 = .ok (.iconst (-1), 1) := by decide +kernel
theorem dX11_explained_25 : decode cX11_explained 25 = .ok (.ireturn, 1) := by decide +kernel
theorem dX11_explained_26 : decode cX11_explained 26 = .ok (.aload_n 0, 1) := by decide +kernel
theorem dX11_explained_27 : decode cX11_explained 27 = .ok (.iload_n 1, 1) := by decide +kernel
theorem dX11_explained_28 : decode cX11_explained 28 = .ok (.invokevirtual 131, 3) := by decide +kernel
theorem dX11_explained_31 : decode cX11_explained 31 = .ok (.astore 5, 2) := by decide +kernel
theorem dX11_explained_33 : decode cX11_explained 33 = .ok (.aload_n 0, 1) := by decide +kernel
theorem dX11_explained_34 : decode cX11_explained 34 = .ok (.getfield 67, 3) := by decide +kernel
theorem dX11_explained_37 : decode cX11_explained 37 = .ok (.aload_n 0, 1) := by decide +kernel
theorem dX11_explained_38 : decode cX11_explained 38 = .ok (.getfield 18, 3) := by decide +kernel
theorem dX11_explained_41 : decode cX11_explained 41 = .ok (.iload_n 1, 1) := by decide +kernel
theorem dX11_explained_42 : decode cX11_explained 42 = .ok (.aaload, 1) := by decide +kernel
theorem dX11_explained_43 : decode cX11_explained 43 = .ok (.iload 4, 2) := by decide +kernel
theorem dX11_explained_45 : decode cX11_explained 45 = .ok (.invokevirtual 200, 3) := by decide +kernel
theorem dX11_explained_48 : decode cX11_explained 48 = .ok (.iconst 0, 1) := by decide +kernel
theorem dX11_explained_49 : decode cX11_explained 49 = .ok (.istore 6, 2) := by decide +kernel
theorem dX11_explained_51 : decode cX11_explained 51 = .ok (.iload_n 2, 1) := by decide +kernel
theorem dX11_explained_52 : decode cX11_explained 52 = .ok (.istore 7, 2) := by decide +kernel
theorem dX11_explained_54 : decode cX11_explained 54 = .ok (.iload 7, 2) := by decide +kernel
theorem dX11_explained_56 : decode cX11_explained 56 = .ok (.iload_n 3, 1) := by decide +kernel
theorem dX11_explained_57 : decode cX11_explained 57 = .ok (.if_icmp .gt 46, 3) := by decide +kernel
theorem dX11_explained_60 : decode cX11_explained 60 = .ok (.aload 5, 2) := by decide +kernel
theorem dX11_explained_62 : decode cX11_explained 62 = .ok (.iload 7, 2) := by decide +kernel
theorem dX11_explained_64 : decode cX11_explained 64 = .ok (.sipush 3000, 3) := by decide +kernel
theorem dX11_explained_67 : decode cX11_explained 67 = .ok (.iadd, 1) := by decide +kernel
theorem dX11_explained_68 : decode cX11_explained 68 = .ok (.laload, 1) := by decide +kernel
theorem dX11_explained_69 : decode cX11_explained 69 = .ok (.lconst 0, 1) := by decide +kernel
theorem dX11_explained_70 : decode cX11_explained 70 = .ok (.lcmp, 1) := by decide +kernel
theorem dX11_explained_71 : decode cX11_explained 71 = .ok (.ifCond .ne 26, 3) := by decide +kernel
theorem dX11_explained_74 : decode cX11_explained 74 = .ok (.aload_n 0, 1) := by decide +kernel
theorem dX11_explained_75 : decode cX11_explained 75 = .ok (.getfield 67, 3) := by decide +kernel
theorem dX11_explained_78 : decode cX11_explained 78 = .ok (.iconst 0, 1) := by decide +kernel
theorem dX11_explained_79 : decode cX11_explained 79 = .ok (.iload 7, 2) := by decide +kernel
theorem dX11_explained_81 : decode cX11_explained 81 = .ok (.iload 4, 2) := by decide +kernel
theorem dX11_explained_83 : decode cX11_explained 83 = .ok (.invokestatic 204, 3) := by decide +kernel
theorem dX11_explained_86 : decode cX11_explained 86 = .ok (.invokevirtual 210, 3) := by decide +kernel
theorem dX11_explained_89 : decode cX11_explained 89 = .ok (.lconst 0, 1) := by decide +kernel
theorem dX11_explained_90 : decode cX11_explained 90 = .ok (.lcmp, 1) := by decide +kernel
theorem dX11_explained_91 : decode cX11_explained 91 = .ok (.ifCond .ne 6, 3) := by decide +kernel
theorem dX11_explained_94 : decode cX11_explained 94 = .ok (.iinc 6 1, 3) := by decide +kernel
theorem dX11_explained_97 : decode cX11_explained 97 = .ok (.iinc 7 1, 3) := by decide +kernel
theorem dX11_explained_100 : decode cX11_explained 100 = .ok (.goto (-46), 3) := by decide +kernel
theorem dX11_explained_103 : decode cX11_explained 103 = .ok (.iload 6, 2) := by decide +kernel
theorem dX11_explained_105 : decode cX11_explained 105 = .ok (.ireturn, 1) := by decide +kernel
theorem dX11_full_0 : decode cX11_full 0 = .ok (.aload_n 0, 1) := by decide +kernel
theorem dX11_full_1 : decode cX11_full 1 = .ok (.iload_n 1, 1) := by decide +kernel
theorem dX11_full_2 : decode cX11_full 2 = .ok (.invokevirtual 128, 3) := by decide +kernel
theorem dX11_full_5 : decode cX11_full 5 = .ok (.ifCond .ne 5, 3) := by decide +kernel
theorem dX11_full_8 : decode cX11_full 8 = .ok (.iconst (-1), 1) := by decide +kernel
theorem dX11_full_9 : decode cX11_full 9 = .ok (.ireturn, 1) := by decide +kernel
theorem dX11_full_10 : decode cX11_full 10 = .ok (.aload_n 0, 1) := by decide +kernel
theorem dX11_full_11 : decode cX11_full 11 = .ok (.iload_n 1, 1) := by decide +kernel
theorem dX11_full_12 : decode cX11_full 12 = .ok (.invokevirtual 131, 3) := by decide +kernel
theorem dX11_full_15 : decode cX11_full 15 = .ok (.astore_n 2, 1) := by decide +kernel
theorem dX11_full_16 : decode cX11_full 16 = .ok (.iconst (-1), 1) := by decide +kernel
theorem dX11_full_17 : decode cX11_full 17 = .ok (.istore_n 3, 1) := by decide +kernel
theorem dX11_full_18 : decode cX11_full 18 = .ok (.sipush 3000, 3) := by decide +kernel
theorem dX11_full_21 : decode cX11_full 21 = .ok (.istore 4, 2) := by decide +kernel
theorem dX11_full_23 : decode cX11_full 23 = .ok (.iload 4, 2) := by decide +kernel
theorem dX11_full_25 : decode cX11_full 25 = .ok (.ifCond .lt 25, 3) := by decide +kernel
theorem dX11_full_28 : decode cX11_full 28 = .ok (.aload_n 2, 1) := by decide +kernel
theorem dX11_full_29 : decode cX11_full 29 = .ok (.iload 4, 2) := by decide +kernel
theorem dX11_full_31 : decode cX11_full 31 = .ok (.sipush 3000, 3) := by decide +kernel
theorem dX11_full_34 : decode cX11_full 34 = .ok (.iadd, 1) := by decide +kernel
theorem dX11_full_35 : decode cX11_full 35 = .ok (.laload, 1) := by decide +kernel
theorem dX11_full_36 : decode cX11_full 36 = .ok (.lconst 0, 1) := by decide +kernel
theorem dX11_full_37 : decode cX11_full 37 = .ok (.lcmp, 1) := by decide +kernel
theorem dX11_full_38 : decode cX11_full 38 = .ok (.ifCond .le 12, 3) := by decide +kernel
theorem dX11_full_41 : decode cX11_full 41 = .ok (.iload 4, 2) := by decide +kernel
theorem dX11_full_43 : decode cX11_full 43 = .ok (.istore_n 3, 1) := by decide +kernel
theorem dX11_full_44 : decode cX11_full 44 = .ok (.iinc 4 (-1), 3) := by decide +kernel
theorem dX11_full_47 : decode cX11_full 47 = .ok (.goto (-24), 3) := by decide +kernel
theorem dX11_full_50 : decode cX11_full 50 = .ok (.iload_n 3, 1) := by decide +kernel
theorem dX11_full_51 : decode cX11_full 51 = .ok (.ireturn, 1) := by decide +kernel
theorem dX11_many_0 : decode cX11_many 0 = .ok (.aload_n 0, 1) := by decide +kernel
theorem dX11_many_1 : decode cX11_many 1 = .ok (.iload_n 1, 1) := by decide +kernel
theorem dX11_many_2 : decode cX11_many 2 = .ok (.invokevirtual 128, 3) := by decide +kernel
theorem dX11_many_5 : decode cX11_many 5 = .ok (.ifCond .eq 21, 3) := by decide +kernel
theorem dX11_many_8 : decode cX11_many 8 = .ok (.iload_n 2, 1) := by decide +kernel
theorem dX11_many_9 : decode cX11_many 9 = .ok (.invokestatic 174, 3) := by decide +kernel
theorem dX11_many_12 : decode cX11_many 12 = .ok (.ifCond .eq 14, 3) := by decide +kernel
theorem dX11_many_15 : decode cX11_many 15 = .ok (.iload_n 3, 1) := by decide +kernel
theorem dX11_many_16 : decode cX11_many 16 = .ok (.iconst 1, 1) := by decide +kernel
theorem dX11_many_17 : decode cX11_many 17 = .ok (.if_icmp .lt 9, 3) := by decide +kernel
theorem dX11_many_20 : decode cX11_many 20 = .ok (.iload_n 3, 1) := by decide +kernel
theorem dX11_many_21 : decode cX11_many 21 = .ok (.ldc 213, 2) := by decide +kernel
theorem dX11_many_23 : decode cX11_many 23 = .ok (.if_icmp .le 6, 3) := by decide +kernel
theorem dX11_many_26 : decode cX11_many 26 = .ok (.ldc 161, 2) := by decide +kernel
theorem dX11_many_28 : decode cX11_many 28 = .ok (.ireturn, 1) := by decide +kernel
theorem dX11_many_29 : decode cX11_many 29 = .ok (.aload_n 0, 1) := by decide +kernel
theorem dX11_many_30 : decode cX11_many 30 = .ok (.iload_n 1, 1) := by decide +kernel
theorem dX11_many_31 : decode cX11_many 31 = .ok (.invokevirtual 179, 3) := by decide +kernel
theorem dX11_many_34 : decode cX11_many 34 = .ok (.astore 5, 2) := by decide +kernel
theorem dX11_many_36 : decode cX11_many 36 = .ok (.iload_n 2, 1) := by decide +kernel
theorem dX11_many_37 : decode cX11_many 37 = .ok (.istore 6, 2) := by decide +kernel
theorem dX11_many_39 : decode cX11_many 39 = .ok (.iload 6, 2) := by decide +kernel
theorem dX11_many_41 : decode cX11_many 41 = .ok (.sipush 3000, 3) := by decide +kernel
theorem dX11_many_44 : decode cX11_many 44 = .ok (.if_icmp .gt 44, 3) := by decide +kernel
theorem dX11_many_47 : decode cX11_many 47 = .ok (.aload 5, 2) := by decide +kernel
theorem dX11_many_49 : decode cX11_many 49 = .ok (.iload 6, 2) := by decide +kernel
theorem dX11_many_51 : decode cX11_many 51 = .ok (.sipush 3000, 3) := by decide +kernel
theorem dX11_many_54 : decode cX11_many 54 = .ok (.iadd, 1) := by decide +kernel
theorem dX11_many_55 : decode cX11_many 55 = .ok (.laload, 1) := by decide +kernel
theorem dX11_many_56 : decode cX11_many 56 = .ok (.lstore 7, 2) := by decide +kernel
theorem dX11_many_58 : decode cX11_many 58 = .ok (.lload 7, 2) := by decide +kernel
theorem dX11_many_60 : decode cX11_many 60 = .ok (.iload_n 3, 1) := by decide +kernel
theorem dX11_many_61 : decode cX11_many 61 = .ok (.i2l, 1) := by decide +kernel
theorem dX11_many_62 : decode cX11_many 62 = .ok (.lcmp, 1) := by decide +kernel
theorem dX11_many_63 : decode cX11_many 63 = .ok (.ifCond .eq 16, 3) := by decide +kernel
theorem dX11_many_66 : decode cX11_many 66 = .ok (.iload 4, 2) := by decide +kernel
theorem dX11_many_68 : decode cX11_many 68 = .ok (.ifCond .ne 14, 3) := by decide +kernel
theorem dX11_many_71 : decode cX11_many 71 = .ok (.lload 7, 2) := by decide +kernel
theorem dX11_many_73 : decode cX11_many 73 = .ok (.iload_n 3, 1) := by decide +kernel
theorem dX11_many_74 : decode cX11_many 74 = .ok (.i2l, 1) := by decide +kernel
theorem dX11_many_75 : decode cX11_many 75 = .ok (.lcmp, 1) := by decide +kernel
theorem dX11_many_76 : decode cX11_many 76 = .ok (.ifCond .le 6, 3) := by decide +kernel
theorem dX11_many_79 : decode cX11_many 79 = .ok (.iload 6, 2) := by decide +kernel
theorem dX11_many_81 : decode cX11_many 81 = .ok (.ireturn, 1) := by decide +kernel
theorem dX11_many_82 : decode cX11_many 82 = .ok (.iinc 6 1, 3) := by decide +kernel
theorem dX11_many_85 : decode cX11_many 85 = .ok (.goto (-46), 3) := by decide +kernel
theorem dX11_many_88 : decode cX11_many 88 = .ok (.ldc 161, 2) := by decide +kernel
theorem dX11_many_90 : decode cX11_many 90 = .ok (.ireturn, 1) := by decide +kernel
theorem dX11_common_0 : decode cX11_common 0 = .ok (.aload_n 0, 1) := by decide +kernel
theorem dX11_common_1 : decode cX11_common 1 = .ok (.iload_n 1, 1) := by decide +kernel
theorem dX11_common_2 : decode cX11_common 2 = .ok (.invokevirtual 128, 3) := by decide +kernel
theorem dX11_common_5 : decode cX11_common 5 = .ok (.ifCond .eq 26, 3) := by decide +kernel
theorem dX11_common_8 : decode cX11_common 8 = .ok (.aload_n 0, 1) := by decide +kernel
theorem dX11_common_9 : decode cX11_common 9 = .ok (.iload_n 2, 1) := by decide +kernel
theorem dX11_common_10 : decode cX11_common 10 = .ok (.invokevirtual 128, 3) := by decide +kernel
theorem dX11_common_13 : decode cX11_common 13 = .ok (.ifCond .eq 18, 3) := by decide +kernel
theorem dX11_common_16 : decode cX11_common 16 = .ok (.iload_n 3, 1) := by decide +kernel
theorem dX11_common_17 : decode cX11_common 17 = .ok (.iload 4, 2) := by decide +kernel
theorem dX11_common_19 : decode cX11_common 19 = .ok (.invokestatic 194, 3) := by decide +kernel
theorem dX11_common_22 : decode cX11_common 22 = .ok (.ifCond .eq 9, 3) := by decide +kernel
theorem dX11_common_25 : decode cX11_common 25 = .ok (.iload 5, 2) := by decide +kernel
theorem dX11_common_27 : decode cX11_common 27 = .ok (.iconst (-1), 1) := by decide +kernel
theorem dX11_common_28 : decode cX11_common 28 = .ok (.if_icmp .ge 6, 3) := by decide +kernel
theorem dX11_common_31 : decode cX11_common 31 = .ok (.ldc 161, 2) := by decide +kernel
theorem dX11_common_33 : decode cX11_common 33 = .ok (.ireturn, 1) := by decide +kernel
theorem dX11_common_34 : decode cX11_common 34 = .ok (.aload_n 0, 1) := by decide +kernel
theorem dX11_common_35 : decode cX11_common 35 = .ok (.iload_n 1, 1) := by decide +kernel
theorem dX11_common_36 : decode cX11_common 36 = .ok (.invokevirtual 131, 3) := by decide +kernel
theorem dX11_common_39 : decode cX11_common 39 = .ok (.astore 6, 2) := by decide +kernel
theorem dX11_common_41 : decode cX11_common 41 = .ok (.aload_n 0, 1) := by decide +kernel
theorem dX11_common_42 : decode cX11_common 42 = .ok (.iload_n 2, 1) := by decide +kernel
theorem dX11_common_43 : decode cX11_common 43 = .ok (.invokevirtual 131, 3) := by decide +kernel
theorem dX11_common_46 : decode cX11_common 46 = .ok (.astore 7, 2) := by decide +kernel
theorem dX11_common_48 : decode cX11_common 48 = .ok (.iconst 0, 1) := by decide +kernel
theorem dX11_common_49 : decode cX11_common 49 = .ok (.istore 8, 2) := by decide +kernel
theorem dX11_common_51 : decode cX11_common 51 = .ok (.iload_n 3, 1) := by decide +kernel
theorem dX11_common_52 : decode cX11_common 52 = .ok (.istore 9, 2) := by decide +kernel
theorem dX11_common_54 : decode cX11_common 54 = .ok (.iload 9, 2) := by decide +kernel
theorem dX11_common_56 : decode cX11_common 56 = .ok (.iload 4, 2) := by decide +kernel
theorem dX11_common_58 : decode cX11_common 58 = .ok (.if_icmp .gt 50, 3) := by decide +kernel
theorem dX11_common_61 : decode cX11_common 61 = .ok (.aload 6, 2) := by decide +kernel
theorem dX11_common_63 : decode cX11_common 63 = .ok (.iload 9, 2) := by decide +kernel
theorem dX11_common_65 : decode cX11_common 65 = .ok (.sipush 3000, 3) := by decide +kernel
theorem dX11_common_68 : decode cX11_common 68 = .ok (.iadd, 1) := by decide +kernel
theorem dX11_common_69 : decode cX11_common 69 = .ok (.laload, 1) := by decide +kernel
theorem dX11_common_70 : decode cX11_common 70 = .ok (.lconst 0, 1) := by decide +kernel
theorem dX11_common_71 : decode cX11_common 71 = .ok (.lcmp, 1) := by decide +kernel
theorem dX11_common_72 : decode cX11_common 72 = .ok (.ifCond .le 30, 3) := by decide +kernel
theorem dX11_common_75 : decode cX11_common 75 = .ok (.aload 7, 2) := by decide +kernel
theorem dX11_common_77 : decode cX11_common 77 = .ok (.iload 9, 2) := by decide +kernel
theorem dX11_common_79 : decode cX11_common 79 = .ok (.sipush 3000, 3) := by decide +kernel
theorem dX11_common_82 : decode cX11_common 82 = .ok (.iadd, 1) := by decide +kernel
theorem dX11_common_83 : decode cX11_common 83 = .ok (.laload, 1) := by decide +kernel
theorem dX11_common_84 : decode cX11_common 84 = .ok (.lconst 0, 1) := by decide +kernel
theorem dX11_common_85 : decode cX11_common 85 = .ok (.lcmp, 1) := by decide +kernel
theorem dX11_common_86 : decode cX11_common 86 = .ok (.ifCond .le 16, 3) := by decide +kernel
theorem dX11_common_89 : decode cX11_common 89 = .ok (.iload 8, 2) := by decide +kernel
theorem dX11_common_91 : decode cX11_common 91 = .ok (.iload 5, 2) := by decide +kernel
theorem dX11_common_93 : decode cX11_common 93 = .ok (.if_icmp .ne 6, 3) := by decide +kernel
theorem dX11_common_96 : decode cX11_common 96 = .ok (.iload 9, 2) := by decide +kernel
theorem dX11_common_98 : decode cX11_common 98 = .ok (.ireturn, 1) := by decide +kernel
theorem dX11_common_99 : decode cX11_common 99 = .ok (.iinc 8 1, 3) := by decide +kernel
theorem dX11_common_102 : decode cX11_common 102 = .ok (.iinc 9 1, 3) := by decide +kernel
theorem dX11_common_105 : decode cX11_common 105 = .ok (.goto (-51), 3) := by decide +kernel
theorem dX11_common_108 : decode cX11_common 108 = .ok (.iload 5, 2) := by decide +kernel
theorem dX11_common_110 : decode cX11_common 110 = .ok (.iconst (-1), 1) := by decide +kernel
theorem dX11_common_111 : decode cX11_common 111 = .ok (.if_icmp .ne 8, 3) := by decide +kernel
theorem dX11_common_114 : decode cX11_common 114 = .ok (.iload 8, 2) := by decide +kernel
theorem dX11_common_116 : decode cX11_common 116 = .ok (.goto 5, 3) := by decide +kernel
theorem dX11_common_119 : decode cX11_common 119 = .ok (.ldc 161, 2) := by decide +kernel
theorem dX11_common_121 : decode cX11_common 121 = .ok (.ireturn, 1) := by decide +kernel
theorem dX11_gap_0 : decode cX11_gap 0 = .ok (.aload_n 0, 1) := by decide +kernel
theorem dX11_gap_1 : decode cX11_gap 1 = .ok (.iload_n 1, 1) := by decide +kernel
theorem dX11_gap_2 : decode cX11_gap 2 = .ok (.invokevirtual 128, 3) := by decide +kernel
theorem dX11_gap_5 : decode cX11_gap 5 = .ok (.ifCond .eq 22, 3) := by decide +kernel
theorem dX11_gap_8 : decode cX11_gap 8 = .ok (.iload_n 2, 1) := by decide +kernel
theorem dX11_gap_9 : decode cX11_gap 9 = .ok (.iload_n 3, 1) := by decide +kernel
theorem dX11_gap_10 : decode cX11_gap 10 = .ok (.invokestatic 194, 3) := by decide +kernel
theorem dX11_gap_13 : decode cX11_gap 13 = .ok (.ifCond .eq 14, 3) := by decide +kernel
theorem dX11_gap_16 : decode cX11_gap 16 = .ok (.iload 4, 2) := by decide +kernel
theorem dX11_gap_18 : decode cX11_gap 18 = .ok (.ifCond .lt 9, 3) := by decide +kernel
theorem dX11_gap_21 : decode cX11_gap 21 = .ok (.iload 4, 2) := by decide +kernel
theorem dX11_gap_23 : decode cX11_gap 23 = .ok (.iconst 1, 1) := by decide +kernel
theorem dX11_gap_24 : decode cX11_gap 24 = .ok (.if_icmp .le 6, 3) := by decide +kernel
theorem dX11_gap_27 : decode cX11_gap 27 = .ok (.ldc 161, 2) := by decide +kernel
theorem dX11_gap_29 : decode cX11_gap 29 = .ok (.ireturn, 1) := by decide +kernel
theorem dX11_gap_30 : decode cX11_gap 30 = .ok (.aload_n 0, 1) := by decide +kernel
theorem dX11_gap_31 : decode cX11_gap 31 = .ok (.iload_n 1, 1) := by decide +kernel
theorem dX11_gap_32 : decode cX11_gap 32 = .ok (.invokevirtual 131, 3) := by decide +kernel
theorem dX11_gap_35 : decode cX11_gap 35 = .ok (.astore 5, 2) := by decide +kernel
theorem dX11_gap_37 : decode cX11_gap 37 = .ok (.iconst 0, 1) := by decide +kernel
theorem dX11_gap_38 : decode cX11_gap 38 = .ok (.istore 6, 2) := by decide +kernel
theorem dX11_gap_40 : decode cX11_gap 40 = .ok (.ldc 161, 2) := by decide +kernel
theorem dX11_gap_42 : decode cX11_gap 42 = .ok (.istore 7, 2) := by decide +kernel
theorem dX11_gap_44 : decode cX11_gap 44 = .ok (.iconst 0, 1) := by decide +kernel
theorem dX11_gap_45 : decode cX11_gap 45 = .ok (.istore 8, 2) := by decide +kernel
theorem dX11_gap_47 : decode cX11_gap 47 = .ok (.iload_n 2, 1) := by decide +kernel
theorem dX11_gap_48 : decode cX11_gap 48 = .ok (.istore 9, 2) := by decide +kernel
theorem dX11_gap_50 : decode cX11_gap 50 = .ok (.iload 9, 2) := by decide +kernel
theorem dX11_gap_52 : decode cX11_gap 52 = .ok (.iload_n 3, 1) := by decide +kernel
theorem dX11_gap_53 : decode cX11_gap 53 = .ok (.if_icmp .gt 53, 3) := by decide +kernel
theorem dX11_gap_56 : decode cX11_gap 56 = .ok (.aload 5, 2) := by decide +kernel
theorem dX11_gap_58 : decode cX11_gap 58 = .ok (.iload 9, 2) := by decide +kernel
theorem dX11_gap_60 : decode cX11_gap 60 = .ok (.sipush 3000, 3) := by decide +kernel
theorem dX11_gap_63 : decode cX11_gap 63 = .ok (.iadd, 1) := by decide +kernel
theorem dX11_gap_64 : decode cX11_gap 64 = .ok (.laload, 1) := by decide +kernel
theorem dX11_gap_65 : decode cX11_gap 65 = .ok (.lconst 0, 1) := by decide +kernel
theorem dX11_gap_66 : decode cX11_gap 66 = .ok (.lcmp, 1) := by decide +kernel
theorem dX11_gap_67 : decode cX11_gap 67 = .ok (.ifCond .ne 10, 3) := by decide +kernel
theorem dX11_gap_70 : decode cX11_gap 70 = .ok (.iload 8, 2) := by decide +kernel
theorem dX11_gap_72 : decode cX11_gap 72 = .ok (.iconst 1, 1) := by decide +kernel
theorem dX11_gap_73 : decode cX11_gap 73 = .ok (.iadd, 1) := by decide +kernel
theorem dX11_gap_74 : decode cX11_gap 74 = .ok (.goto 4, 3) := by decide +kernel
theorem dX11_gap_77 : decode cX11_gap 77 = .ok (.iconst 0, 1) := by decide +kernel
theorem dX11_gap_78 : decode cX11_gap 78 = .ok (.istore 8, 2) := by decide +kernel
theorem dX11_gap_80 : decode cX11_gap 80 = .ok (.iload 8, 2) := by decide +kernel
theorem dX11_gap_82 : decode cX11_gap 82 = .ok (.iload 6, 2) := by decide +kernel
theorem dX11_gap_84 : decode cX11_gap 84 = .ok (.if_icmp .le 16, 3) := by decide +kernel
theorem dX11_gap_87 : decode cX11_gap 87 = .ok (.iload 8, 2) := by decide +kernel
theorem dX11_gap_89 : decode cX11_gap 89 = .ok (.istore 6, 2) := by decide +kernel
theorem dX11_gap_91 : decode cX11_gap 91 = .ok (.iload 9, 2) := by decide +kernel
theorem dX11_gap_93 : decode cX11_gap 93 = .ok (.iload 8, 2) := by decide +kernel
theorem dX11_gap_95 : decode cX11_gap 95 = .ok (.isub, 1) := by decide +kernel
theorem dX11_gap_96 : decode cX11_gap 96 = .ok (.iconst 1, 1) := by decide +kernel
theorem dX11_gap_97 : decode cX11_gap 97 = .ok (.iadd, 1) := by decide +kernel
theorem dX11_gap_98 : decode cX11_gap 98 = .ok (.istore 7, 2) := by decide +kernel
theorem dX11_gap_100 : decode cX11_gap 100 = .ok (.iinc 9 1, 3) := by decide +kernel
theorem dX11_gap_103 : decode cX11_gap 103 = .ok (.goto (-53), 3) := by decide +kernel
theorem dX11_gap_106 : decode cX11_gap 106 = .ok (.iload 4, 2) := by decide +kernel
theorem dX11_gap_108 : decode cX11_gap 108 = .ok (.ifCond .ne 8, 3) := by decide +kernel
theorem dX11_gap_111 : decode cX11_gap 111 = .ok (.iload 6, 2) := by decide +kernel
theorem dX11_gap_113 : decode cX11_gap 113 = .ok (.goto 5, 3) := by decide +kernel
theorem dX11_gap_116 : decode cX11_gap 116 = .ok (.iload 7, 2) := by decide +kernel
theorem dX11_gap_118 : decode cX11_gap 118 = .ok (.ireturn, 1) := by decide +kernel
theorem dX11_rank_0 : decode cX11_rank 0 = .ok (.aload_n 0, 1) := by decide +kernel
theorem dX11_rank_1 : decode cX11_rank 1 = .ok (.iload_n 1, 1) := by decide +kernel
theorem dX11_rank_2 : decode cX11_rank 2 = .ok (.invokevirtual 128, 3) := by decide +kernel
theorem dX11_rank_5 : decode cX11_rank 5 = .ok (.ifCond .eq 11, 3) := by decide +kernel
theorem dX11_rank_8 : decode cX11_rank 8 = .ok (.iload_n 2, 1) := by decide +kernel
theorem dX11_rank_9 : decode cX11_rank 9 = .ok (.iload_n 3, 1) := by decide +kernel
theorem dX11_rank_10 : decode cX11_rank 10 = .ok (.invokestatic 194, 3) := by decide +kernel
theorem dX11_rank_13 : decode cX11_rank 13 = .ok (.ifCond .ne 6, 3) := by decide +kernel
theorem dX11_rank_16 : decode cX11_rank 16 = .ok (.ldc 161, 2) := by decide +kernel
theorem dX11_rank_18 : decode cX11_rank 18 = .ok (.ireturn, 1) := by decide +kernel
theorem dX11_rank_19 : decode cX11_rank 19 = .ok (.iload_n 3, 1) := by decide +kernel
theorem dX11_rank_20 : decode cX11_rank 20 = .ok (.iload_n 2, 1) := by decide +kernel
theorem dX11_rank_21 : decode cX11_rank 21 = .ok (.isub, 1) := by decide +kernel
theorem dX11_rank_22 : decode cX11_rank 22 = .ok (.iconst 1, 1) := by decide +kernel
theorem dX11_rank_23 : decode cX11_rank 23 = .ok (.iadd, 1) := by decide +kernel
theorem dX11_rank_24 : decode cX11_rank 24 = .ok (.istore 5, 2) := by decide +kernel
theorem dX11_rank_26 : decode cX11_rank 26 = .ok (.iload 5, 2) := by decide +kernel
theorem dX11_rank_28 : decode cX11_rank 28 = .ok (.sipush 200, 3) := by decide +kernel
theorem dX11_rank_31 : decode cX11_rank 31 = .ok (.if_icmp .gt 15, 3) := by decide +kernel
theorem dX11_rank_34 : decode cX11_rank 34 = .ok (.iload 4, 2) := by decide +kernel
theorem dX11_rank_36 : decode cX11_rank 36 = .ok (.ifCond .lt 10, 3) := by decide +kernel
theorem dX11_rank_39 : decode cX11_rank 39 = .ok (.iload 4, 2) := by decide +kernel
theorem dX11_rank_41 : decode cX11_rank 41 = .ok (.iload 5, 2) := by decide +kernel
theorem dX11_rank_43 : decode cX11_rank 43 = .ok (.if_icmp .lt 6, 3) := by decide +kernel
theorem dX11_rank_46 : decode cX11_rank 46 = .ok (.ldc 161, 2) := by decide +kernel
theorem dX11_rank_48 : decode cX11_rank 48 = .ok (.ireturn, 1) := by decide +kernel
theorem dX11_rank_49 : decode cX11_rank 49 = .ok (.aload_n 0, 1) := by decide +kernel
theorem dX11_rank_50 : decode cX11_rank 50 = .ok (.iload_n 1, 1) := by decide +kernel
theorem dX11_rank_51 : decode cX11_rank 51 = .ok (.invokevirtual 131, 3) := by decide +kernel
theorem dX11_rank_54 : decode cX11_rank 54 = .ok (.astore 6, 2) := by decide +kernel
theorem dX11_rank_56 : decode cX11_rank 56 = .ok (.iload_n 2, 1) := by decide +kernel
theorem dX11_rank_57 : decode cX11_rank 57 = .ok (.istore 7, 2) := by decide +kernel
theorem dX11_rank_59 : decode cX11_rank 59 = .ok (.iload 7, 2) := by decide +kernel
theorem dX11_rank_61 : decode cX11_rank 61 = .ok (.iload_n 3, 1) := by decide +kernel
theorem dX11_rank_62 : decode cX11_rank 62 = .ok (.if_icmp .gt 26, 3) := by decide +kernel
theorem dX11_rank_65 : decode cX11_rank 65 = .ok (.aload 6, 2) := by decide +kernel
theorem dX11_rank_67 : decode cX11_rank 67 = .ok (.iload_n 2, 1) := by decide +kernel
theorem dX11_rank_68 : decode cX11_rank 68 = .ok (.iload_n 3, 1) := by decide +kernel
theorem dX11_rank_69 : decode cX11_rank 69 = .ok (.iload 7, 2) := by decide +kernel
theorem dX11_rank_71 : decode cX11_rank 71 = .ok (.invokestatic 214, 3) := by decide +kernel
theorem dX11_rank_74 : decode cX11_rank 74 = .ok (.iload 4, 2) := by decide +kernel
theorem dX11_rank_76 : decode cX11_rank 76 = .ok (.if_icmp .ne 6, 3) := by decide +kernel
theorem dX11_rank_79 : decode cX11_rank 79 = .ok (.iload 7, 2) := by decide +kernel
theorem dX11_rank_81 : decode cX11_rank 81 = .ok (.ireturn, 1) := by decide +kernel
theorem dX11_rank_82 : decode cX11_rank 82 = .ok (.iinc 7 1, 3) := by decide +kernel
theorem dX11_rank_85 : decode cX11_rank 85 = .ok (.goto (-26), 3) := by decide +kernel
theorem dX11_rank_88 : decode cX11_rank 88 = .ok (.ldc 161, 2) := by decide +kernel
theorem dX11_rank_90 : decode cX11_rank 90 = .ok (.ireturn, 1) := by decide +kernel
theorem dX11_met_0 : decode cX11_met 0 = .ok (.aload_n 0, 1) := by decide +kernel
theorem dX11_met_1 : decode cX11_met 1 = .ok (.iload_n 1, 1) := by decide +kernel
theorem dX11_met_2 : decode cX11_met 2 = .ok (.invokevirtual 128, 3) := by decide +kernel
theorem dX11_met_5 : decode cX11_met 5 = .ok (.ifCond .eq 11, 3) := by decide +kernel
theorem dX11_met_8 : decode cX11_met 8 = .ok (.iload_n 2, 1) := by decide +kernel
theorem dX11_met_9 : decode cX11_met 9 = .ok (.iload_n 3, 1) := by decide +kernel
theorem dX11_met_10 : decode cX11_met 10 = .ok (.invokestatic 218, 3) := by decide +kernel
theorem dX11_met_13 : decode cX11_met 13 = .ok (.ifCond .ne 7, 3) := by decide +kernel
theorem dX11_met_16 : decode cX11_met 16 = .ok (.ldc2_w 177, 3) := by decide +kernel
theorem dX11_met_19 : decode cX11_met 19 = .ok (.lreturn, 1) := by decide +kernel
theorem dX11_met_20 : decode cX11_met 20 = .ok (.aload_n 0, 1) := by decide +kernel
theorem dX11_met_21 : decode cX11_met 21 = .ok (.getfield 67, 3) := by decide +kernel
theorem dX11_met_24 : decode cX11_met 24 = .ok (.aload_n 0, 1) := by decide +kernel
theorem dX11_met_25 : decode cX11_met 25 = .ok (.getfield 18, 3) := by decide +kernel
theorem dX11_met_28 : decode cX11_met 28 = .ok (.iload_n 1, 1) := by decide +kernel
theorem dX11_met_29 : decode cX11_met 29 = .ok (.aaload, 1) := by decide +kernel
theorem dX11_met_30 : decode cX11_met 30 = .ok (.iload_n 2, 1) := by decide +kernel
theorem dX11_met_31 : decode cX11_met 31 = .ok (.invokevirtual 200, 3) := by decide +kernel
theorem dX11_met_34 : decode cX11_met 34 = .ok (.aload_n 0, 1) := by decide +kernel
theorem dX11_met_35 : decode cX11_met 35 = .ok (.getfield 67, 3) := by decide +kernel
theorem dX11_met_38 : decode cX11_met 38 = .ok (.iconst 0, 1) := by decide +kernel
theorem dX11_met_39 : decode cX11_met 39 = .ok (.iload_n 3, 1) := by decide +kernel
theorem dX11_met_40 : decode cX11_met 40 = .ok (.invokevirtual 210, 3) := by decide +kernel
theorem dX11_met_43 : decode cX11_met 43 = .ok (.lreturn, 1) := by decide +kernel
theorem dX11_meets_0 : decode cX11_meets 0 = .ok (.aload_n 0, 1) := by decide +kernel
theorem dX11_meets_1 : decode cX11_meets 1 = .ok (.iload_n 1, 1) := by decide +kernel
theorem dX11_meets_2 : decode cX11_meets 2 = .ok (.iload 4, 2) := by decide +kernel
theorem dX11_meets_4 : decode cX11_meets 4 = .ok (.invokevirtual 157, 3) := by decide +kernel
theorem dX11_meets_7 : decode cX11_meets 7 = .ok (.ifCond .eq 11, 3) := by decide +kernel
theorem dX11_meets_10 : decode cX11_meets 10 = .ok (.iload_n 2, 1) := by decide +kernel
theorem dX11_meets_11 : decode cX11_meets 11 = .ok (.iload_n 3, 1) := by decide +kernel
theorem dX11_meets_12 : decode cX11_meets 12 = .ok (.invokestatic 218, 3) := by decide +kernel
theorem dX11_meets_15 : decode cX11_meets 15 = .ok (.ifCond .ne 5, 3) := by decide +kernel
theorem dX11_meets_18 : decode cX11_meets 18 = .ok (.iconst (-1), 1) := by decide +kernel
theorem dX11_meets_19 : decode cX11_meets 19 = .ok (.ireturn, 1) := by decide +kernel
theorem dX11_meets_20 : decode cX11_meets 20 = .ok (.aload_n 0, 1) := by decide +kernel
theorem dX11_meets_21 : decode cX11_meets 21 = .ok (.getfield 67, 3) := by decide +kernel
theorem dX11_meets_24 : decode cX11_meets 24 = .ok (.aload_n 0, 1) := by decide +kernel
theorem dX11_meets_25 : decode cX11_meets 25 = .ok (.getfield 18, 3) := by decide +kernel
theorem dX11_meets_28 : decode cX11_meets 28 = .ok (.iload_n 1, 1) := by decide +kernel
theorem dX11_meets_29 : decode cX11_meets 29 = .ok (.aaload, 1) := by decide +kernel
theorem dX11_meets_30 : decode cX11_meets 30 = .ok (.iload_n 2, 1) := by decide +kernel
theorem dX11_meets_31 : decode cX11_meets 31 = .ok (.invokevirtual 200, 3) := by decide +kernel
theorem dX11_meets_34 : decode cX11_meets 34 = .ok (.aload_n 0, 1) := by decide +kernel
theorem dX11_meets_35 : decode cX11_meets 35 = .ok (.getfield 67, 3) := by decide +kernel
theorem dX11_meets_38 : decode cX11_meets 38 = .ok (.iconst 0, 1) := by decide +kernel
theorem dX11_meets_39 : decode cX11_meets 39 = .ok (.iload_n 3, 1) := by decide +kernel
theorem dX11_meets_40 : decode cX11_meets 40 = .ok (.invokevirtual 210, 3) := by decide +kernel
theorem dX11_meets_43 : decode cX11_meets 43 = .ok (.lconst 0, 1) := by decide +kernel
theorem dX11_meets_44 : decode cX11_meets 44 = .ok (.lcmp, 1) := by decide +kernel
theorem dX11_meets_45 : decode cX11_meets 45 = .ok (.ifCond .ne 5, 3) := by decide +kernel
theorem dX11_meets_48 : decode cX11_meets 48 = .ok (.iconst (-1), 1) := by decide +kernel
theorem dX11_meets_49 : decode cX11_meets 49 = .ok (.ireturn, 1) := by decide +kernel
theorem dX11_meets_50 : decode cX11_meets 50 = .ok (.aload_n 0, 1) := by decide +kernel
theorem dX11_meets_51 : decode cX11_meets 51 = .ok (.getfield 67, 3) := by decide +kernel
theorem dX11_meets_54 : decode cX11_meets 54 = .ok (.aload_n 0, 1) := by decide +kernel
theorem dX11_meets_55 : decode cX11_meets 55 = .ok (.getfield 18, 3) := by decide +kernel
theorem dX11_meets_58 : decode cX11_meets 58 = .ok (.iload_n 1, 1) := by decide +kernel
theorem dX11_meets_59 : decode cX11_meets 59 = .ok (.aaload, 1) := by decide +kernel
theorem dX11_meets_60 : decode cX11_meets 60 = .ok (.iload_n 3, 1) := by decide +kernel
theorem dX11_meets_61 : decode cX11_meets 61 = .ok (.iload 4, 2) := by decide +kernel
theorem dX11_meets_63 : decode cX11_meets 63 = .ok (.invokevirtual 221, 3) := by decide +kernel
theorem dX11_meets_66 : decode cX11_meets 66 = .ok (.ireturn, 1) := by decide +kernel
theorem dX11_never_0 : decode cX11_never 0 = .ok (.aload_n 0, 1) := by decide +kernel
theorem dX11_never_1 : decode cX11_never 1 = .ok (.iload_n 1, 1) := by decide +kernel
theorem dX11_never_2 : decode cX11_never 2 = .ok (.invokevirtual 128, 3) := by decide +kernel
theorem dX11_never_5 : decode cX11_never 5 = .ok (.ifCond .eq 15, 3) := by decide +kernel
theorem dX11_never_8 : decode cX11_never 8 = .ok (.iload_n 2, 1) := by decide +kernel
theorem dX11_never_9 : decode cX11_never 9 = .ok (.invokestatic 197, 3) := by decide +kernel
theorem dX11_never_12 : decode cX11_never 12 = .ok (.ifCond .eq 8, 3) := by decide +kernel
theorem dX11_never_15 : decode cX11_never 15 = .ok (.iload_n 3, 1) := by decide +kernel
theorem dX11_never_16 : decode cX11_never 16 = .ok (.iconst (-1), 1) := by decide +kernel
theorem dX11_never_17 : decode cX11_never 17 = .ok (.if_icmp .ge 5, 3) := by decide +kernel
theorem dX11_never_20 : decode cX11_never 20 = .ok (.iconst (-1), 1) := by decide +kernel
theorem dX11_never_21 : decode cX11_never 21 = .ok (.ireturn, 1) := by decide +kernel
theorem dX11_never_22 : decode cX11_never 22 = .ok (.aload_n 0, 1) := by decide +kernel
theorem dX11_never_23 : decode cX11_never 23 = .ok (.getfield 67, 3) := by decide +kernel
theorem dX11_never_26 : decode cX11_never 26 = .ok (.aload_n 0, 1) := by decide +kernel
theorem dX11_never_27 : decode cX11_never 27 = .ok (.getfield 18, 3) := by decide +kernel
theorem dX11_never_30 : decode cX11_never 30 = .ok (.iload_n 1, 1) := by decide +kernel
theorem dX11_never_31 : decode cX11_never 31 = .ok (.aaload, 1) := by decide +kernel
theorem dX11_never_32 : decode cX11_never 32 = .ok (.iload_n 2, 1) := by decide +kernel
theorem dX11_never_33 : decode cX11_never 33 = .ok (.invokevirtual 200, 3) := by decide +kernel
theorem dX11_never_36 : decode cX11_never 36 = .ok (.iconst 0, 1) := by decide +kernel
theorem dX11_never_37 : decode cX11_never 37 = .ok (.istore 4, 2) := by decide +kernel
theorem dX11_never_39 : decode cX11_never 39 = .ok (.iconst 0, 1) := by decide +kernel
theorem dX11_never_40 : decode cX11_never 40 = .ok (.istore 5, 2) := by decide +kernel
theorem dX11_never_42 : decode cX11_never 42 = .ok (.iload 5, 2) := by decide +kernel
theorem dX11_never_44 : decode cX11_never 44 = .ok (.iload_n 2, 1) := by decide +kernel
theorem dX11_never_45 : decode cX11_never 45 = .ok (.if_icmp .ge 36, 3) := by decide +kernel
theorem dX11_never_48 : decode cX11_never 48 = .ok (.aload_n 0, 1) := by decide +kernel
theorem dX11_never_49 : decode cX11_never 49 = .ok (.getfield 67, 3) := by decide +kernel
theorem dX11_never_52 : decode cX11_never 52 = .ok (.iconst 0, 1) := by decide +kernel
theorem dX11_never_53 : decode cX11_never 53 = .ok (.iload 5, 2) := by decide +kernel
theorem dX11_never_55 : decode cX11_never 55 = .ok (.invokevirtual 210, 3) := by decide +kernel
theorem dX11_never_58 : decode cX11_never 58 = .ok (.lconst 0, 1) := by decide +kernel
theorem dX11_never_59 : decode cX11_never 59 = .ok (.lcmp, 1) := by decide +kernel
theorem dX11_never_60 : decode cX11_never 60 = .ok (.ifCond .ne 15, 3) := by decide +kernel
theorem dX11_never_63 : decode cX11_never 63 = .ok (.iload 4, 2) := by decide +kernel
theorem dX11_never_65 : decode cX11_never 65 = .ok (.iload_n 3, 1) := by decide +kernel
theorem dX11_never_66 : decode cX11_never 66 = .ok (.if_icmp .ne 6, 3) := by decide +kernel
theorem dX11_never_69 : decode cX11_never 69 = .ok (.iload 5, 2) := by decide +kernel
theorem dX11_never_71 : decode cX11_never 71 = .ok (.ireturn, 1) := by decide +kernel
theorem dX11_never_72 : decode cX11_never 72 = .ok (.iinc 4 1, 3) := by decide +kernel
theorem dX11_never_75 : decode cX11_never 75 = .ok (.iinc 5 1, 3) := by decide +kernel
theorem dX11_never_78 : decode cX11_never 78 = .ok (.goto (-36), 3) := by decide +kernel
theorem dX11_never_81 : decode cX11_never 81 = .ok (.iload_n 3, 1) := by decide +kernel
theorem dX11_never_82 : decode cX11_never 82 = .ok (.iconst (-1), 1) := by decide +kernel
theorem dX11_never_83 : decode cX11_never 83 = .ok (.if_icmp .ne 8, 3) := by decide +kernel
theorem dX11_never_86 : decode cX11_never 86 = .ok (.iload 4, 2) := by decide +kernel
theorem dX11_never_88 : decode cX11_never 88 = .ok (.goto 4, 3) := by decide +kernel
theorem dX11_never_91 : decode cX11_never 91 = .ok (.iconst (-1), 1) := by decide +kernel
theorem dX11_never_92 : decode cX11_never 92 = .ok (.ireturn, 1) := by decide +kernel
theorem dX11_bars_0 : decode cX11_bars 0 = .ok (.aload_n 0, 1) := by decide +kernel
theorem dX11_bars_1 : decode cX11_bars 1 = .ok (.iload_n 1, 1) := by decide +kernel
theorem dX11_bars_2 : decode cX11_bars 2 = .ok (.invokevirtual 128, 3) := by decide +kernel
theorem dX11_bars_5 : decode cX11_bars 5 = .ok (.ifCond .ne 5, 3) := by decide +kernel
theorem dX11_bars_8 : decode cX11_bars 8 = .ok (.iconst (-1), 1) := by decide +kernel
theorem dX11_bars_9 : decode cX11_bars 9 = .ok (.ireturn, 1) := by decide +kernel
theorem dX11_bars_10 : decode cX11_bars 10 = .ok (.iconst 1, 1) := by decide +kernel
theorem dX11_bars_11 : decode cX11_bars 11 = .ok (.istore_n 2, 1) := by decide +kernel
theorem dX11_bars_12 : decode cX11_bars 12 = .ok (.iload_n 2, 1) := by decide +kernel
theorem dX11_bars_13 : decode cX11_bars 13 = .ok (.bipush 60, 2) := by decide +kernel
theorem dX11_bars_15 : decode cX11_bars 15 = .ok (.if_icmp .gt 52, 3) := by decide +kernel
theorem dX11_bars_18 : decode cX11_bars 18 = .ok (.aload_n 0, 1) := by decide +kernel
theorem dX11_bars_19 : decode cX11_bars 19 = .ok (.getfield 67, 3) := by decide +kernel
theorem dX11_bars_22 : decode cX11_bars 22 = .ok (.aload_n 0, 1) := by decide +kernel
theorem dX11_bars_23 : decode cX11_bars 23 = .ok (.getfield 18, 3) := by decide +kernel
theorem dX11_bars_26 : decode cX11_bars 26 = .ok (.iload_n 1, 1) := by decide +kernel
theorem dX11_bars_27 : decode cX11_bars 27 = .ok (.aaload, 1) := by decide +kernel
theorem dX11_bars_28 : decode cX11_bars 28 = .ok (.iload_n 2, 1) := by decide +kernel
theorem dX11_bars_29 : decode cX11_bars 29 = .ok (.invokevirtual 200, 3) := by decide +kernel
theorem dX11_bars_32 : decode cX11_bars 32 = .ok (.iconst 0, 1) := by decide +kernel
theorem dX11_bars_33 : decode cX11_bars 33 = .ok (.istore_n 3, 1) := by decide +kernel
theorem dX11_bars_34 : decode cX11_bars 34 = .ok (.iload_n 3, 1) := by decide +kernel
theorem dX11_bars_35 : decode cX11_bars 35 = .ok (.iload_n 2, 1) := by decide +kernel
theorem dX11_bars_36 : decode cX11_bars 36 = .ok (.if_icmp .ge 25, 3) := by decide +kernel
theorem dX11_bars_39 : decode cX11_bars 39 = .ok (.aload_n 0, 1) := by decide +kernel
theorem dX11_bars_40 : decode cX11_bars 40 = .ok (.getfield 67, 3) := by decide +kernel
theorem dX11_bars_43 : decode cX11_bars 43 = .ok (.iconst 0, 1) := by decide +kernel
theorem dX11_bars_44 : decode cX11_bars 44 = .ok (.iload_n 3, 1) := by decide +kernel
theorem dX11_bars_45 : decode cX11_bars 45 = .ok (.invokevirtual 210, 3) := by decide +kernel
theorem dX11_bars_48 : decode cX11_bars 48 = .ok (.lconst 0, 1) := by decide +kernel
theorem dX11_bars_49 : decode cX11_bars 49 = .ok (.lcmp, 1) := by decide +kernel
theorem dX11_bars_50 : decode cX11_bars 50 = .ok (.ifCond .ne 5, 3) := by decide +kernel
theorem dX11_bars_53 : decode cX11_bars 53 = .ok (.iload_n 2, 1) := by decide +kernel
theorem dX11_bars_54 : decode cX11_bars 54 = .ok (.ireturn, 1) := by decide +kernel
theorem dX11_bars_55 : decode cX11_bars 55 = .ok (.iinc 3 1, 3) := by decide +kernel
theorem dX11_bars_58 : decode cX11_bars 58 = .ok (.goto (-24), 3) := by decide +kernel
theorem dX11_bars_61 : decode cX11_bars 61 = .ok (.iinc 2 1, 3) := by decide +kernel
theorem dX11_bars_64 : decode cX11_bars 64 = .ok (.goto (-52), 3) := by decide +kernel
theorem dX11_bars_67 : decode cX11_bars 67 = .ok (.iconst (-1), 1) := by decide +kernel
theorem dX11_bars_68 : decode cX11_bars 68 = .ok (.ireturn, 1) := by decide +kernel
theorem dX11_greed_0 : decode cX11_greed 0 = .ok (.aload_n 0, 1) := by decide +kernel
theorem dX11_greed_1 : decode cX11_greed 1 = .ok (.iload_n 1, 1) := by decide +kernel
theorem dX11_greed_2 : decode cX11_greed 2 = .ok (.invokevirtual 128, 3) := by decide +kernel
theorem dX11_greed_5 : decode cX11_greed 5 = .ok (.ifCond .eq 28, 3) := by decide +kernel
theorem dX11_greed_8 : decode cX11_greed 8 = .ok (.iload_n 2, 1) := by decide +kernel
theorem dX11_greed_9 : decode cX11_greed 9 = .ok (.invokestatic 174, 3) := by decide +kernel
theorem dX11_greed_12 : decode cX11_greed 12 = .ok (.ifCond .eq 21, 3) := by decide +kernel
theorem dX11_greed_15 : decode cX11_greed 15 = .ok (.iload_n 3, 1) := by decide +kernel
theorem dX11_greed_16 : decode cX11_greed 16 = .ok (.iconst (-1), 1) := by decide +kernel
theorem dX11_greed_17 : decode cX11_greed 17 = .ok (.if_icmp .lt 16, 3) := by decide +kernel
theorem dX11_greed_20 : decode cX11_greed 20 = .ok (.iload_n 3, 1) := by decide +kernel
theorem dX11_greed_21 : decode cX11_greed 21 = .ok (.aload_n 0, 1) := by decide +kernel
theorem dX11_greed_22 : decode cX11_greed 22 = .ok (.getfield 18, 3) := by decide +kernel
theorem dX11_greed_25 : decode cX11_greed 25 = .ok (.iload_n 1, 1) := by decide +kernel
theorem dX11_greed_26 : decode cX11_greed 26 = .ok (.aaload, 1) := by decide +kernel
theorem dX11_greed_27 : decode cX11_greed 27 = .ok (.getfield 125, 3) := by decide +kernel
theorem dX11_greed_30 : decode cX11_greed 30 = .ok (.if_icmp .lt 6, 3) := by decide +kernel
theorem dX11_greed_33 : decode cX11_greed 33 = .ok (.ldc 161, 2) := by decide +kernel
theorem dX11_greed_35 : decode cX11_greed 35 = .ok (.ireturn, 1) := by decide +kernel
theorem dX11_greed_36 : decode cX11_greed 36 = .ok (.aload_n 0, 1) := by decide +kernel
theorem dX11_greed_37 : decode cX11_greed 37 = .ok (.getfield 18, 3) := by decide +kernel
theorem dX11_greed_40 : decode cX11_greed 40 = .ok (.iload_n 1, 1) := by decide +kernel
theorem dX11_greed_41 : decode cX11_greed 41 = .ok (.aaload, 1) := by decide +kernel
theorem dX11_greed_42 : decode cX11_greed 42 = .ok (.astore 4, 2) := by decide +kernel
theorem dX11_greed_44 : decode cX11_greed 44 = .ok (.iload_n 2, 1) := by decide +kernel
theorem dX11_greed_45 : decode cX11_greed 45 = .ok (.istore 5, 2) := by decide +kernel
theorem dX11_greed_47 : decode cX11_greed 47 = .ok (.iconst 0, 1) := by decide +kernel
theorem dX11_greed_48 : decode cX11_greed 48 = .ok (.istore 6, 2) := by decide +kernel
theorem dX11_greed_50 : decode cX11_greed 50 = .ok (.iload 6, 2) := by decide +kernel
theorem dX11_greed_52 : decode cX11_greed 52 = .ok (.aload 4, 2) := by decide +kernel
theorem dX11_greed_54 : decode cX11_greed 54 = .ok (.getfield 125, 3) := by decide +kernel
theorem dX11_greed_57 : decode cX11_greed 57 = .ok (.if_icmp .ge 43, 3) := by decide +kernel
theorem dX11_greed_60 : decode cX11_greed 60 = .ok (.aload 4, 2) := by decide +kernel
theorem dX11_greed_62 : decode cX11_greed 62 = .ok (.iload 6, 2) := by decide +kernel
theorem dX11_greed_64 : decode cX11_greed 64 = .ok (.iload 5, 2) := by decide +kernel
theorem dX11_greed_66 : decode cX11_greed 66 = .ok (.invokestatic 225, 3) := by decide +kernel
theorem dX11_greed_69 : decode cX11_greed 69 = .ok (.istore 7, 2) := by decide +kernel
theorem dX11_greed_71 : decode cX11_greed 71 = .ok (.iload 6, 2) := by decide +kernel
theorem dX11_greed_73 : decode cX11_greed 73 = .ok (.iload_n 3, 1) := by decide +kernel
theorem dX11_greed_74 : decode cX11_greed 74 = .ok (.if_icmp .ne 6, 3) := by decide +kernel
theorem dX11_greed_77 : decode cX11_greed 77 = .ok (.iload 7, 2) := by decide +kernel
theorem dX11_greed_79 : decode cX11_greed 79 = .ok (.ireturn, 1) := by decide +kernel
theorem dX11_greed_80 : decode cX11_greed 80 = .ok (.iload 5, 2) := by decide +kernel
theorem dX11_greed_82 : decode cX11_greed 82 = .ok (.aload 4, 2) := by decide +kernel
theorem dX11_greed_84 : decode cX11_greed 84 = .ok (.iload 6, 2) := by decide +kernel
theorem dX11_greed_86 : decode cX11_greed 86 = .ok (.iload 7, 2) := by decide +kernel
theorem dX11_greed_88 : decode cX11_greed 88 = .ok (.invokevirtual 228, 3) := by decide +kernel
theorem dX11_greed_91 : decode cX11_greed 91 = .ok (.isub, 1) := by decide +kernel
theorem dX11_greed_92 : decode cX11_greed 92 = .ok (.istore 5, 2) := by decide +kernel
theorem dX11_greed_94 : decode cX11_greed 94 = .ok (.iinc 6 1, 3) := by decide +kernel
theorem dX11_greed_97 : decode cX11_greed 97 = .ok (.goto (-47), 3) := by decide +kernel
theorem dX11_greed_100 : decode cX11_greed 100 = .ok (.iload 5, 2) := by decide +kernel
theorem dX11_greed_102 : decode cX11_greed 102 = .ok (.ireturn, 1) := by decide +kernel
theorem dX11_nearest_0 : decode cX11_nearest 0 = .ok (.aload_n 0, 1) := by decide +kernel
theorem dX11_nearest_1 : decode cX11_nearest 1 = .ok (.iload_n 1, 1) := by decide +kernel
theorem dX11_nearest_2 : decode cX11_nearest 2 = .ok (.invokevirtual 128, 3) := by decide +kernel
theorem dX11_nearest_5 : decode cX11_nearest 5 = .ok (.ifCond .eq 10, 3) := by decide +kernel
theorem dX11_nearest_8 : decode cX11_nearest 8 = .ok (.iload_n 2, 1) := by decide +kernel
theorem dX11_nearest_9 : decode cX11_nearest 9 = .ok (.invokestatic 174, 3) := by decide +kernel
theorem dX11_nearest_12 : decode cX11_nearest 12 = .ok (.ifCond .ne 6, 3) := by decide +kernel
theorem dX11_nearest_15 : decode cX11_nearest 15 = .ok (.ldc 161, 2) := by decide +kernel
theorem dX11_nearest_17 : decode cX11_nearest 17 = .ok (.ireturn, 1) := by decide +kernel
theorem dX11_nearest_18 : decode cX11_nearest 18 = .ok (.aload_n 0, 1) := by decide +kernel
theorem dX11_nearest_19 : decode cX11_nearest 19 = .ok (.getfield 18, 3) := by decide +kernel
theorem dX11_nearest_22 : decode cX11_nearest 22 = .ok (.iload_n 1, 1) := by decide +kernel
theorem dX11_nearest_23 : decode cX11_nearest 23 = .ok (.aaload, 1) := by decide +kernel
theorem dX11_nearest_24 : decode cX11_nearest 24 = .ok (.astore_n 3, 1) := by decide +kernel
theorem dX11_nearest_25 : decode cX11_nearest 25 = .ok (.aload_n 0, 1) := by decide +kernel
theorem dX11_nearest_26 : decode cX11_nearest 26 = .ok (.getfield 74, 3) := by decide +kernel
theorem dX11_nearest_29 : decode cX11_nearest 29 = .ok (.invokevirtual 231, 3) := by decide +kernel
theorem dX11_nearest_32 : decode cX11_nearest 32 = .ok (.iconst 0, 1) := by decide +kernel
theorem dX11_nearest_33 : decode cX11_nearest 33 = .ok (.istore 4, 2) := by decide +kernel
theorem dX11_nearest_35 : decode cX11_nearest 35 = .ok (.iload 4, 2) := by decide +kernel
theorem dX11_nearest_37 : decode cX11_nearest 37 = .ok (.aload_n 3, 1) := by decide +kernel
theorem dX11_nearest_38 : decode cX11_nearest 38 = .ok (.getfield 125, 3) := by decide +kernel
theorem dX11_nearest_41 : decode cX11_nearest 41 = .ok (.if_icmp .ge 19, 3) := by decide +kernel
theorem dX11_nearest_44 : decode cX11_nearest 44 = .ok (.aload_n 0, 1) := by decide +kernel
theorem dX11_nearest_45 : decode cX11_nearest 45 = .ok (.getfield 74, 3) := by decide +kernel
theorem dX11_nearest_48 : decode cX11_nearest 48 = .ok (.aload_n 3, 1) := by decide +kernel
theorem dX11_nearest_49 : decode cX11_nearest 49 = .ok (.iload 4, 2) := by decide +kernel
theorem dX11_nearest_51 : decode cX11_nearest 51 = .ok (.invokevirtual 234, 3) := by decide +kernel
theorem dX11_nearest_54 : decode cX11_nearest 54 = .ok (.iinc 4 1, 3) := by decide +kernel
theorem dX11_nearest_57 : decode cX11_nearest 57 = .ok (.goto (-22), 3) := by decide +kernel
theorem dX11_nearest_60 : decode cX11_nearest 60 = .ok (.sipush 18000, 3) := by decide +kernel
theorem dX11_nearest_63 : decode cX11_nearest 63 = .ok (.istore 4, 2) := by decide +kernel
theorem dX11_nearest_65 : decode cX11_nearest 65 = .ok (.iconst 0, 1) := by decide +kernel
theorem dX11_nearest_66 : decode cX11_nearest 66 = .ok (.istore 5, 2) := by decide +kernel
theorem dX11_nearest_68 : decode cX11_nearest 68 = .ok (.iload 5, 2) := by decide +kernel
theorem dX11_nearest_70 : decode cX11_nearest 70 = .ok (.iload 4, 2) := by decide +kernel
theorem dX11_nearest_72 : decode cX11_nearest 72 = .ok (.if_icmp .gt 47, 3) := by decide +kernel
theorem dX11_nearest_75 : decode cX11_nearest 75 = .ok (.aload_n 0, 1) := by decide +kernel
theorem dX11_nearest_76 : decode cX11_nearest 76 = .ok (.getfield 74, 3) := by decide +kernel
theorem dX11_nearest_79 : decode cX11_nearest 79 = .ok (.iload_n 2, 1) := by decide +kernel
theorem dX11_nearest_80 : decode cX11_nearest 80 = .ok (.iload 5, 2) := by decide +kernel
theorem dX11_nearest_82 : decode cX11_nearest 82 = .ok (.isub, 1) := by decide +kernel
theorem dX11_nearest_83 : decode cX11_nearest 83 = .ok (.invokevirtual 237, 3) := by decide +kernel
theorem dX11_nearest_86 : decode cX11_nearest 86 = .ok (.ifCond .eq 8, 3) := by decide +kernel
theorem dX11_nearest_89 : decode cX11_nearest 89 = .ok (.iload_n 2, 1) := by decide +kernel
theorem dX11_nearest_90 : decode cX11_nearest 90 = .ok (.iload 5, 2) := by decide +kernel
theorem dX11_nearest_92 : decode cX11_nearest 92 = .ok (.isub, 1) := by decide +kernel
theorem dX11_nearest_93 : decode cX11_nearest 93 = .ok (.ireturn, 1) := by decide +kernel
theorem dX11_nearest_94 : decode cX11_nearest 94 = .ok (.aload_n 0, 1) := by decide +kernel
theorem dX11_nearest_95 : decode cX11_nearest 95 = .ok (.getfield 74, 3) := by decide +kernel
theorem dX11_nearest_98 : decode cX11_nearest 98 = .ok (.iload_n 2, 1) := by decide +kernel
theorem dX11_nearest_99 : decode cX11_nearest 99 = .ok (.iload 5, 2) := by decide +kernel
theorem dX11_nearest_101 : decode cX11_nearest 101 = .ok (.iadd, 1) := by decide +kernel
theorem dX11_nearest_102 : decode cX11_nearest 102 = .ok (.invokevirtual 237, 3) := by decide +kernel
theorem dX11_nearest_105 : decode cX11_nearest 105 = .ok (.ifCond .eq 8, 3) := by decide +kernel
theorem dX11_nearest_108 : decode cX11_nearest 108 = .ok (.iload_n 2, 1) := by decide +kernel
theorem dX11_nearest_109 : decode cX11_nearest 109 = .ok (.iload 5, 2) := by decide +kernel
theorem dX11_nearest_111 : decode cX11_nearest 111 = .ok (.iadd, 1) := by decide +kernel
theorem dX11_nearest_112 : decode cX11_nearest 112 = .ok (.ireturn, 1) := by decide +kernel
theorem dX11_nearest_113 : decode cX11_nearest 113 = .ok (.iinc 5 1, 3) := by decide +kernel
theorem dX11_nearest_116 : decode cX11_nearest 116 = .ok (.goto (-48), 3) := by decide +kernel
theorem dX11_nearest_119 : decode cX11_nearest 119 = .ok (.ldc 161, 2) := by decide +kernel
theorem dX11_nearest_121 : decode cX11_nearest 121 = .ok (.ireturn, 1) := by decide +kernel
theorem dX11_enough_0 : decode cX11_enough 0 = .ok (.aload_n 0, 1) := by decide +kernel
theorem dX11_enough_1 : decode cX11_enough 1 = .ok (.iload_n 1, 1) := by decide +kernel
theorem dX11_enough_2 : decode cX11_enough 2 = .ok (.invokevirtual 128, 3) := by decide +kernel
theorem dX11_enough_5 : decode cX11_enough 5 = .ok (.ifCond .eq 10, 3) := by decide +kernel
theorem dX11_enough_8 : decode cX11_enough 8 = .ok (.iload_n 2, 1) := by decide +kernel
theorem dX11_enough_9 : decode cX11_enough 9 = .ok (.invokestatic 174, 3) := by decide +kernel
theorem dX11_enough_12 : decode cX11_enough 12 = .ok (.ifCond .ne 5, 3) := by decide +kernel
theorem dX11_enough_15 : decode cX11_enough 15 = .ok (.iconst (-1), 1) := by decide +kernel
theorem dX11_enough_16 : decode cX11_enough 16 = .ok (.ireturn, 1) := by decide +kernel
theorem dX11_enough_17 : decode cX11_enough 17 = .ok (.aload_n 0, 1) := by decide +kernel
theorem dX11_enough_18 : decode cX11_enough 18 = .ok (.getfield 18, 3) := by decide +kernel
theorem dX11_enough_21 : decode cX11_enough 21 = .ok (.iload_n 1, 1) := by decide +kernel
theorem dX11_enough_22 : decode cX11_enough 22 = .ok (.aaload, 1) := by decide +kernel
theorem dX11_enough_23 : decode cX11_enough 23 = .ok (.astore_n 3, 1) := by decide +kernel
theorem dX11_enough_24 : decode cX11_enough 24 = .ok (.aload_n 0, 1) := by decide +kernel
theorem dX11_enough_25 : decode cX11_enough 25 = .ok (.getfield 74, 3) := by decide +kernel
theorem dX11_enough_28 : decode cX11_enough 28 = .ok (.invokevirtual 231, 3) := by decide +kernel
theorem dX11_enough_31 : decode cX11_enough 31 = .ok (.iconst 0, 1) := by decide +kernel
theorem dX11_enough_32 : decode cX11_enough 32 = .ok (.istore 4, 2) := by decide +kernel
theorem dX11_enough_34 : decode cX11_enough 34 = .ok (.iload 4, 2) := by decide +kernel
theorem dX11_enough_36 : decode cX11_enough 36 = .ok (.aload_n 3, 1) := by decide +kernel
theorem dX11_enough_37 : decode cX11_enough 37 = .ok (.getfield 125, 3) := by decide +kernel
theorem dX11_enough_40 : decode cX11_enough 40 = .ok (.if_icmp .ge 35, 3) := by decide +kernel
theorem dX11_enough_43 : decode cX11_enough 43 = .ok (.aload_n 0, 1) := by decide +kernel
theorem dX11_enough_44 : decode cX11_enough 44 = .ok (.getfield 74, 3) := by decide +kernel
theorem dX11_enough_47 : decode cX11_enough 47 = .ok (.aload_n 3, 1) := by decide +kernel
theorem dX11_enough_48 : decode cX11_enough 48 = .ok (.iload 4, 2) := by decide +kernel
theorem dX11_enough_50 : decode cX11_enough 50 = .ok (.invokevirtual 234, 3) := by decide +kernel
theorem dX11_enough_53 : decode cX11_enough 53 = .ok (.aload_n 0, 1) := by decide +kernel
theorem dX11_enough_54 : decode cX11_enough 54 = .ok (.getfield 74, 3) := by decide +kernel
theorem dX11_enough_57 : decode cX11_enough 57 = .ok (.iload_n 2, 1) := by decide +kernel
theorem dX11_enough_58 : decode cX11_enough 58 = .ok (.invokevirtual 237, 3) := by decide +kernel
theorem dX11_enough_61 : decode cX11_enough 61 = .ok (.ifCond .eq 8, 3) := by decide +kernel
theorem dX11_enough_64 : decode cX11_enough 64 = .ok (.iload 4, 2) := by decide +kernel
theorem dX11_enough_66 : decode cX11_enough 66 = .ok (.iconst 1, 1) := by decide +kernel
theorem dX11_enough_67 : decode cX11_enough 67 = .ok (.iadd, 1) := by decide +kernel
theorem dX11_enough_68 : decode cX11_enough 68 = .ok (.ireturn, 1) := by decide +kernel
theorem dX11_enough_69 : decode cX11_enough 69 = .ok (.iinc 4 1, 3) := by decide +kernel
theorem dX11_enough_72 : decode cX11_enough 72 = .ok (.goto (-38), 3) := by decide +kernel
theorem dX11_enough_75 : decode cX11_enough 75 = .ok (.iconst (-1), 1) := by decide +kernel
theorem dX11_enough_76 : decode cX11_enough 76 = .ok (.ireturn, 1) := by decide +kernel
theorem dX11_join_0 : decode cX11_join 0 = .ok (.iload_n 1, 1) := by decide +kernel
theorem dX11_join_1 : decode cX11_join 1 = .ok (.invokestatic 110, 3) := by decide +kernel
theorem dX11_join_4 : decode cX11_join 4 = .ok (.ifCond .eq 17, 3) := by decide +kernel
theorem dX11_join_7 : decode cX11_join 7 = .ok (.iload_n 2, 1) := by decide +kernel
theorem dX11_join_8 : decode cX11_join 8 = .ok (.invokestatic 110, 3) := by decide +kernel
theorem dX11_join_11 : decode cX11_join 11 = .ok (.ifCond .eq 10, 3) := by decide +kernel
theorem dX11_join_14 : decode cX11_join 14 = .ok (.iload_n 3, 1) := by decide +kernel
theorem dX11_join_15 : decode cX11_join 15 = .ok (.invokestatic 110, 3) := by decide +kernel
theorem dX11_join_18 : decode cX11_join 18 = .ok (.ifCond .ne 5, 3) := by decide +kernel
theorem dX11_join_21 : decode cX11_join 21 = .ok (.iconst 0, 1) := by decide +kernel
theorem dX11_join_22 : decode cX11_join 22 = .ok (.ireturn, 1) := by decide +kernel
theorem dX11_join_23 : decode cX11_join 23 = .ok (.aload_n 0, 1) := by decide +kernel
theorem dX11_join_24 : decode cX11_join 24 = .ok (.getfield 18, 3) := by decide +kernel
theorem dX11_join_27 : decode cX11_join 27 = .ok (.iload_n 1, 1) := by decide +kernel
theorem dX11_join_28 : decode cX11_join 28 = .ok (.aaload, 1) := by decide +kernel
theorem dX11_join_29 : decode cX11_join 29 = .ok (.getfield 125, 3) := by decide +kernel
theorem dX11_join_32 : decode cX11_join 32 = .ok (.aload_n 0, 1) := by decide +kernel
theorem dX11_join_33 : decode cX11_join 33 = .ok (.getfield 18, 3) := by decide +kernel
theorem dX11_join_36 : decode cX11_join 36 = .ok (.iload_n 2, 1) := by decide +kernel
theorem dX11_join_37 : decode cX11_join 37 = .ok (.aaload, 1) := by decide +kernel
theorem dX11_join_38 : decode cX11_join 38 = .ok (.getfield 125, 3) := by decide +kernel
theorem dX11_join_41 : decode cX11_join 41 = .ok (.iadd, 1) := by decide +kernel
theorem dX11_join_42 : decode cX11_join 42 = .ok (.istore 4, 2) := by decide +kernel
theorem dX11_join_44 : decode cX11_join 44 = .ok (.iload 4, 2) := by decide +kernel
theorem dX11_join_46 : decode cX11_join 46 = .ok (.iconst 1, 1) := by decide +kernel
theorem dX11_join_47 : decode cX11_join 47 = .ok (.if_icmp .lt 9, 3) := by decide +kernel
theorem dX11_join_50 : decode cX11_join 50 = .ok (.iload 4, 2) := by decide +kernel
theorem dX11_join_52 : decode cX11_join 52 = .ok (.iconst 5, 1) := by decide +kernel
theorem dX11_join_53 : decode cX11_join 53 = .ok (.if_icmp .le 5, 3) := by decide +kernel
theorem dX11_join_56 : decode cX11_join 56 = .ok (.iconst 0, 1) := by decide +kernel
theorem dX11_join_57 : decode cX11_join 57 = .ok (.ireturn, 1) := by decide +kernel
theorem dX11_join_58 : decode cX11_join 58 = .ok (.aload_n 0, 1) := by decide +kernel
theorem dX11_join_59 : decode cX11_join 59 = .ok (.getfield 30, 3) := by decide +kernel
theorem dX11_join_62 : decode cX11_join 62 = .ok (.iconst 0, 1) := by decide +kernel
theorem dX11_join_63 : decode cX11_join 63 = .ok (.putfield 125, 3) := by decide +kernel
theorem dX11_join_66 : decode cX11_join 66 = .ok (.aload_n 0, 1) := by decide +kernel
theorem dX11_join_67 : decode cX11_join 67 = .ok (.getfield 30, 3) := by decide +kernel
theorem dX11_join_70 : decode cX11_join 70 = .ok (.aload_n 0, 1) := by decide +kernel
theorem dX11_join_71 : decode cX11_join 71 = .ok (.getfield 18, 3) := by decide +kernel
theorem dX11_join_74 : decode cX11_join 74 = .ok (.iload_n 1, 1) := by decide +kernel
theorem dX11_join_75 : decode cX11_join 75 = .ok (.aaload, 1) := by decide +kernel
theorem dX11_join_76 : decode cX11_join 76 = .ok (.invokevirtual 240, 3) := by decide +kernel
theorem dX11_join_79 : decode cX11_join 79 = .ok (.aload_n 0, 1) := by decide +kernel
theorem dX11_join_80 : decode cX11_join 80 = .ok (.getfield 30, 3) := by decide +kernel
theorem dX11_join_83 : decode cX11_join 83 = .ok (.aload_n 0, 1) := by decide +kernel
theorem dX11_join_84 : decode cX11_join 84 = .ok (.getfield 18, 3) := by decide +kernel
theorem dX11_join_87 : decode cX11_join 87 = .ok (.iload_n 2, 1) := by decide +kernel
theorem dX11_join_88 : decode cX11_join 88 = .ok (.aaload, 1) := by decide +kernel
theorem dX11_join_89 : decode cX11_join 89 = .ok (.invokevirtual 240, 3) := by decide +kernel
theorem dX11_join_92 : decode cX11_join 92 = .ok (.aload_n 0, 1) := by decide +kernel
theorem dX11_join_93 : decode cX11_join 93 = .ok (.iload_n 3, 1) := by decide +kernel
theorem dX11_join_94 : decode cX11_join 94 = .ok (.aload_n 0, 1) := by decide +kernel
theorem dX11_join_95 : decode cX11_join 95 = .ok (.getfield 30, 3) := by decide +kernel
theorem dX11_join_98 : decode cX11_join 98 = .ok (.invokevirtual 121, 3) := by decide +kernel
theorem dX11_join_101 : decode cX11_join 101 = .ok (.iconst 1, 1) := by decide +kernel
theorem dX11_join_102 : decode cX11_join 102 = .ok (.ireturn, 1) := by decide +kernel
theorem dX11_drop_0 : decode cX11_drop 0 = .ok (.aload_n 0, 1) := by decide +kernel
theorem dX11_drop_1 : decode cX11_drop 1 = .ok (.iload_n 1, 1) := by decide +kernel
theorem dX11_drop_2 : decode cX11_drop 2 = .ok (.iload_n 2, 1) := by decide +kernel
theorem dX11_drop_3 : decode cX11_drop 3 = .ok (.invokevirtual 157, 3) := by decide +kernel
theorem dX11_drop_6 : decode cX11_drop 6 = .ok (.ifCond .ne 5, 3) := by decide +kernel
theorem dX11_drop_9 : decode cX11_drop 9 = .ok (.iconst 0, 1) := by decide +kernel
theorem dX11_drop_10 : decode cX11_drop 10 = .ok (.ireturn, 1) := by decide +kernel
theorem dX11_drop_11 : decode cX11_drop 11 = .ok (.aload_n 0, 1) := by decide +kernel
theorem dX11_drop_12 : decode cX11_drop 12 = .ok (.getfield 30, 3) := by decide +kernel
theorem dX11_drop_15 : decode cX11_drop 15 = .ok (.iconst 0, 1) := by decide +kernel
theorem dX11_drop_16 : decode cX11_drop 16 = .ok (.putfield 125, 3) := by decide +kernel
theorem dX11_drop_19 : decode cX11_drop 19 = .ok (.iconst 0, 1) := by decide +kernel
theorem dX11_drop_20 : decode cX11_drop 20 = .ok (.istore_n 3, 1) := by decide +kernel
theorem dX11_drop_21 : decode cX11_drop 21 = .ok (.iload_n 3, 1) := by decide +kernel
theorem dX11_drop_22 : decode cX11_drop 22 = .ok (.aload_n 0, 1) := by decide +kernel
theorem dX11_drop_23 : decode cX11_drop 23 = .ok (.getfield 18, 3) := by decide +kernel
theorem dX11_drop_26 : decode cX11_drop 26 = .ok (.iload_n 1, 1) := by decide +kernel
theorem dX11_drop_27 : decode cX11_drop 27 = .ok (.aaload, 1) := by decide +kernel
theorem dX11_drop_28 : decode cX11_drop 28 = .ok (.getfield 125, 3) := by decide +kernel
theorem dX11_drop_31 : decode cX11_drop 31 = .ok (.if_icmp .ge 28, 3) := by decide +kernel
theorem dX11_drop_34 : decode cX11_drop 34 = .ok (.iload_n 3, 1) := by decide +kernel
theorem dX11_drop_35 : decode cX11_drop 35 = .ok (.iload_n 2, 1) := by decide +kernel
theorem dX11_drop_36 : decode cX11_drop 36 = .ok (.if_icmp .eq 17, 3) := by decide +kernel
theorem dX11_drop_39 : decode cX11_drop 39 = .ok (.aload_n 0, 1) := by decide +kernel
theorem dX11_drop_40 : decode cX11_drop 40 = .ok (.getfield 30, 3) := by decide +kernel
theorem dX11_drop_43 : decode cX11_drop 43 = .ok (.aload_n 0, 1) := by decide +kernel
theorem dX11_drop_44 : decode cX11_drop 44 = .ok (.getfield 18, 3) := by decide +kernel
theorem dX11_drop_47 : decode cX11_drop 47 = .ok (.iload_n 1, 1) := by decide +kernel
theorem dX11_drop_48 : decode cX11_drop 48 = .ok (.aaload, 1) := by decide +kernel
theorem dX11_drop_49 : decode cX11_drop 49 = .ok (.iload_n 3, 1) := by decide +kernel
theorem dX11_drop_50 : decode cX11_drop 50 = .ok (.invokevirtual 244, 3) := by decide +kernel
theorem dX11_drop_53 : decode cX11_drop 53 = .ok (.iinc 3 1, 3) := by decide +kernel
theorem dX11_drop_56 : decode cX11_drop 56 = .ok (.goto (-35), 3) := by decide +kernel
theorem dX11_drop_59 : decode cX11_drop 59 = .ok (.aload_n 0, 1) := by decide +kernel
theorem dX11_drop_60 : decode cX11_drop 60 = .ok (.iload_n 1, 1) := by decide +kernel
theorem dX11_drop_61 : decode cX11_drop 61 = .ok (.aload_n 0, 1) := by decide +kernel
theorem dX11_drop_62 : decode cX11_drop 62 = .ok (.getfield 30, 3) := by decide +kernel
theorem dX11_drop_65 : decode cX11_drop 65 = .ok (.invokevirtual 121, 3) := by decide +kernel
theorem dX11_drop_68 : decode cX11_drop 68 = .ok (.iconst 1, 1) := by decide +kernel
theorem dX11_drop_69 : decode cX11_drop 69 = .ok (.ireturn, 1) := by decide +kernel
theorem dX11_lead_0 : decode cX11_lead 0 = .ok (.aload_n 0, 1) := by decide +kernel
theorem dX11_lead_1 : decode cX11_lead 1 = .ok (.iload_n 1, 1) := by decide +kernel
theorem dX11_lead_2 : decode cX11_lead 2 = .ok (.iload_n 2, 1) := by decide +kernel
theorem dX11_lead_3 : decode cX11_lead 3 = .ok (.invokevirtual 157, 3) := by decide +kernel
theorem dX11_lead_6 : decode cX11_lead 6 = .ok (.ifCond .ne 5, 3) := by decide +kernel
theorem dX11_lead_9 : decode cX11_lead 9 = .ok (.iconst 0, 1) := by decide +kernel
theorem dX11_lead_10 : decode cX11_lead 10 = .ok (.ireturn, 1) := by decide +kernel
theorem dX11_lead_11 : decode cX11_lead 11 = .ok (.aload_n 0, 1) := by decide +kernel
theorem dX11_lead_12 : decode cX11_lead 12 = .ok (.getfield 30, 3) := by decide +kernel
theorem dX11_lead_15 : decode cX11_lead 15 = .ok (.iconst 0, 1) := by decide +kernel
theorem dX11_lead_16 : decode cX11_lead 16 = .ok (.putfield 125, 3) := by decide +kernel
theorem dX11_lead_19 : decode cX11_lead 19 = .ok (.aload_n 0, 1) := by decide +kernel
theorem dX11_lead_20 : decode cX11_lead 20 = .ok (.getfield 30, 3) := by decide +kernel
theorem dX11_lead_23 : decode cX11_lead 23 = .ok (.aload_n 0, 1) := by decide +kernel
theorem dX11_lead_24 : decode cX11_lead 24 = .ok (.getfield 18, 3) := by decide +kernel
theorem dX11_lead_27 : decode cX11_lead 27 = .ok (.iload_n 1, 1) := by decide +kernel
theorem dX11_lead_28 : decode cX11_lead 28 = .ok (.aaload, 1) := by decide +kernel
theorem dX11_lead_29 : decode cX11_lead 29 = .ok (.iload_n 2, 1) := by decide +kernel
theorem dX11_lead_30 : decode cX11_lead 30 = .ok (.invokevirtual 244, 3) := by decide +kernel
theorem dX11_lead_33 : decode cX11_lead 33 = .ok (.iconst 0, 1) := by decide +kernel
theorem dX11_lead_34 : decode cX11_lead 34 = .ok (.istore_n 3, 1) := by decide +kernel
theorem dX11_lead_35 : decode cX11_lead 35 = .ok (.iload_n 3, 1) := by decide +kernel
theorem dX11_lead_36 : decode cX11_lead 36 = .ok (.aload_n 0, 1) := by decide +kernel
theorem dX11_lead_37 : decode cX11_lead 37 = .ok (.getfield 18, 3) := by decide +kernel
theorem dX11_lead_40 : decode cX11_lead 40 = .ok (.iload_n 1, 1) := by decide +kernel
theorem dX11_lead_41 : decode cX11_lead 41 = .ok (.aaload, 1) := by decide +kernel
theorem dX11_lead_42 : decode cX11_lead 42 = .ok (.getfield 125, 3) := by decide +kernel
theorem dX11_lead_45 : decode cX11_lead 45 = .ok (.if_icmp .ge 28, 3) := by decide +kernel
theorem dX11_lead_48 : decode cX11_lead 48 = .ok (.iload_n 3, 1) := by decide +kernel
theorem dX11_lead_49 : decode cX11_lead 49 = .ok (.iload_n 2, 1) := by decide +kernel
theorem dX11_lead_50 : decode cX11_lead 50 = .ok (.if_icmp .eq 17, 3) := by decide +kernel
theorem dX11_lead_53 : decode cX11_lead 53 = .ok (.aload_n 0, 1) := by decide +kernel
theorem dX11_lead_54 : decode cX11_lead 54 = .ok (.getfield 30, 3) := by decide +kernel
theorem dX11_lead_57 : decode cX11_lead 57 = .ok (.aload_n 0, 1) := by decide +kernel
theorem dX11_lead_58 : decode cX11_lead 58 = .ok (.getfield 18, 3) := by decide +kernel
theorem dX11_lead_61 : decode cX11_lead 61 = .ok (.iload_n 1, 1) := by decide +kernel
theorem dX11_lead_62 : decode cX11_lead 62 = .ok (.aaload, 1) := by decide +kernel
theorem dX11_lead_63 : decode cX11_lead 63 = .ok (.iload_n 3, 1) := by decide +kernel
theorem dX11_lead_64 : decode cX11_lead 64 = .ok (.invokevirtual 244, 3) := by decide +kernel
theorem dX11_lead_67 : decode cX11_lead 67 = .ok (.iinc 3 1, 3) := by decide +kernel
theorem dX11_lead_70 : decode cX11_lead 70 = .ok (.goto (-35), 3) := by decide +kernel
theorem dX11_lead_73 : decode cX11_lead 73 = .ok (.aload_n 0, 1) := by decide +kernel
theorem dX11_lead_74 : decode cX11_lead 74 = .ok (.iload_n 1, 1) := by decide +kernel
theorem dX11_lead_75 : decode cX11_lead 75 = .ok (.aload_n 0, 1) := by decide +kernel
theorem dX11_lead_76 : decode cX11_lead 76 = .ok (.getfield 30, 3) := by decide +kernel
theorem dX11_lead_79 : decode cX11_lead 79 = .ok (.invokevirtual 121, 3) := by decide +kernel
theorem dX11_lead_82 : decode cX11_lead 82 = .ok (.iconst 1, 1) := by decide +kernel
theorem dX11_lead_83 : decode cX11_lead 83 = .ok (.ireturn, 1) := by decide +kernel
theorem dX11_tried_0 : decode cX11_tried 0 = .ok (.aload_n 0, 1) := by decide +kernel
theorem dX11_tried_1 : decode cX11_tried 1 = .ok (.getfield 92, 3) := by decide +kernel
theorem dX11_tried_4 : decode cX11_tried 4 = .ok (.invokevirtual 247, 3) := by decide +kernel
theorem dX11_tried_7 : decode cX11_tried 7 = .ok (.ifCond .eq 22, 3) := by decide +kernel
theorem dX11_tried_10 : decode cX11_tried 10 = .ok (.iload_n 1, 1) := by decide +kernel
theorem dX11_tried_11 : decode cX11_tried 11 = .ok (.ifCond .lt 18, 3) := by decide +kernel
theorem dX11_tried_14 : decode cX11_tried 14 = .ok (.iload_n 1, 1) := by decide +kernel
theorem dX11_tried_15 : decode cX11_tried 15 = .ok (.iconst 4, 1) := by decide +kernel
theorem dX11_tried_16 : decode cX11_tried 16 = .ok (.if_icmp .ge 13, 3) := by decide +kernel
theorem dX11_tried_19 : decode cX11_tried 19 = .ok (.iload_n 2, 1) := by decide +kernel
theorem dX11_tried_20 : decode cX11_tried 20 = .ok (.ifCond .lt 9, 3) := by decide +kernel
theorem dX11_tried_23 : decode cX11_tried 23 = .ok (.iload_n 2, 1) := by decide +kernel
theorem dX11_tried_24 : decode cX11_tried 24 = .ok (.bipush 7, 2) := by decide +kernel
theorem dX11_tried_26 : decode cX11_tried 26 = .ok (.if_icmp .le 6, 3) := by decide +kernel
theorem dX11_tried_29 : decode cX11_tried 29 = .ok (.ldc 161, 2) := by decide +kernel
theorem dX11_tried_31 : decode cX11_tried 31 = .ok (.ireturn, 1) := by decide +kernel
theorem dX11_tried_32 : decode cX11_tried 32 = .ok (.aload_n 0, 1) := by decide +kernel
theorem dX11_tried_33 : decode cX11_tried 33 = .ok (.getfield 92, 3) := by decide +kernel
theorem dX11_tried_36 : decode cX11_tried 36 = .ok (.iload_n 1, 1) := by decide +kernel
theorem dX11_tried_37 : decode cX11_tried 37 = .ok (.invokevirtual 250, 3) := by decide +kernel
theorem dX11_tried_40 : decode cX11_tried 40 = .ok (.iload_n 2, 1) := by decide +kernel
theorem dX11_tried_41 : decode cX11_tried 41 = .ok (.ifCond .ne 13, 3) := by decide +kernel
theorem dX11_tried_44 : decode cX11_tried 44 = .ok (.aload_n 0, 1) := by decide +kernel
theorem dX11_tried_45 : decode cX11_tried 45 = .ok (.getfield 92, 3) := by decide +kernel
theorem dX11_tried_48 : decode cX11_tried 48 = .ok (.getfield 253, 3) := by decide +kernel
theorem dX11_tried_51 : decode cX11_tried 51 = .ok (.iload_n 1, 1) := by decide +kernel
theorem dX11_tried_52 : decode cX11_tried 52 = .ok (.iaload, 1) := by decide +kernel
theorem dX11_tried_53 : decode cX11_tried 53 = .ok (.ireturn, 1) := by decide +kernel
theorem dX11_tried_54 : decode cX11_tried 54 = .ok (.aload_n 0, 1) := by decide +kernel
theorem dX11_tried_55 : decode cX11_tried 55 = .ok (.getfield 92, 3) := by decide +kernel
theorem dX11_tried_58 : decode cX11_tried 58 = .ok (.getfield 253, 3) := by decide +kernel
theorem dX11_tried_61 : decode cX11_tried 61 = .ok (.iload_n 1, 1) := by decide +kernel
theorem dX11_tried_62 : decode cX11_tried 62 = .ok (.iaload, 1) := by decide +kernel
theorem dX11_tried_63 : decode cX11_tried 63 = .ok (.ifCond .ne 6, 3) := by decide +kernel
theorem dX11_tried_66 : decode cX11_tried 66 = .ok (.ldc 161, 2) := by decide +kernel
theorem dX11_tried_68 : decode cX11_tried 68 = .ok (.ireturn, 1) := by decide +kernel
theorem dX11_tried_69 : decode cX11_tried 69 = .ok (.iload_n 2, 1) := by decide +kernel
theorem dX11_tried_70 : decode cX11_tried 70 = .ok (.bipush 6, 2) := by decide +kernel
theorem dX11_tried_72 : decode cX11_tried 72 = .ok (.if_icmp .gt 20, 3) := by decide +kernel
theorem dX11_tried_75 : decode cX11_tried 75 = .ok (.aload_n 0, 1) := by decide +kernel
theorem dX11_tried_76 : decode cX11_tried 76 = .ok (.getfield 92, 3) := by decide +kernel
theorem dX11_tried_79 : decode cX11_tried 79 = .ok (.getfield 256, 3) := by decide +kernel
theorem dX11_tried_82 : decode cX11_tried 82 = .ok (.iload_n 1, 1) := by decide +kernel
theorem dX11_tried_83 : decode cX11_tried 83 = .ok (.bipush 6, 2) := by decide +kernel
theorem dX11_tried_85 : decode cX11_tried 85 = .ok (.imul, 1) := by decide +kernel
theorem dX11_tried_86 : decode cX11_tried 86 = .ok (.iload_n 2, 1) := by decide +kernel
theorem dX11_tried_87 : decode cX11_tried 87 = .ok (.iadd, 1) := by decide +kernel
theorem dX11_tried_88 : decode cX11_tried 88 = .ok (.iconst 1, 1) := by decide +kernel
theorem dX11_tried_89 : decode cX11_tried 89 = .ok (.isub, 1) := by decide +kernel
theorem dX11_tried_90 : decode cX11_tried 90 = .ok (.iaload, 1) := by decide +kernel
theorem dX11_tried_91 : decode cX11_tried 91 = .ok (.ireturn, 1) := by decide +kernel
theorem dX11_tried_92 : decode cX11_tried 92 = .ok (.aload_n 0, 1) := by decide +kernel
theorem dX11_tried_93 : decode cX11_tried 93 = .ok (.getfield 92, 3) := by decide +kernel
theorem dX11_tried_96 : decode cX11_tried 96 = .ok (.getfield 259, 3) := by decide +kernel
theorem dX11_tried_99 : decode cX11_tried 99 = .ok (.iload_n 1, 1) := by decide +kernel
theorem dX11_tried_100 : decode cX11_tried 100 = .ok (.baload, 1) := by decide +kernel
theorem dX11_tried_101 : decode cX11_tried 101 = .ok (.ifCond .eq 7, 3) := by decide +kernel
theorem dX11_tried_104 : decode cX11_tried 104 = .ok (.iconst 1, 1) := by decide +kernel
theorem dX11_tried_105 : decode cX11_tried 105 = .ok (.goto 4, 3) := by decide +kernel
theorem dX11_tried_108 : decode cX11_tried 108 = .ok (.iconst 0, 1) := by decide +kernel
theorem dX11_tried_109 : decode cX11_tried 109 = .ok (.ireturn, 1) := by decide +kernel
theorem dX11_side_0 : decode cX11_side 0 = .ok (.aload_n 0, 1) := by decide +kernel
theorem dX11_side_1 : decode cX11_side 1 = .ok (.getfield 92, 3) := by decide +kernel
theorem dX11_side_4 : decode cX11_side 4 = .ok (.invokevirtual 247, 3) := by decide +kernel
theorem dX11_side_7 : decode cX11_side 7 = .ok (.ifCond .eq 12, 3) := by decide +kernel
theorem dX11_side_10 : decode cX11_side 10 = .ok (.iload_n 1, 1) := by decide +kernel
theorem dX11_side_11 : decode cX11_side 11 = .ok (.ifCond .lt 8, 3) := by decide +kernel
theorem dX11_side_14 : decode cX11_side 14 = .ok (.iload_n 1, 1) := by decide +kernel
theorem dX11_side_15 : decode cX11_side 15 = .ok (.iconst 1, 1) := by decide +kernel
theorem dX11_side_16 : decode cX11_side 16 = .ok (.if_icmp .le 7, 3) := by decide +kernel
theorem dX11_side_19 : decode cX11_side 19 = .ok (.ldc2_w 263, 3) := by decide +kernel
theorem dX11_side_22 : decode cX11_side 22 = .ok (.lreturn, 1) := by decide +kernel
theorem dX11_side_23 : decode cX11_side 23 = .ok (.iload_n 2, 1) := by decide +kernel
theorem dX11_side_24 : decode cX11_side 24 = .ok (.invokestatic 265, 3) := by decide +kernel
theorem dX11_side_27 : decode cX11_side 27 = .ok (.ifCond .eq 18, 3) := by decide +kernel
theorem dX11_side_30 : decode cX11_side 30 = .ok (.iload_n 3, 1) := by decide +kernel
theorem dX11_side_31 : decode cX11_side 31 = .ok (.invokestatic 265, 3) := by decide +kernel
theorem dX11_side_34 : decode cX11_side 34 = .ok (.ifCond .eq 11, 3) := by decide +kernel
theorem dX11_side_37 : decode cX11_side 37 = .ok (.iload 4, 2) := by decide +kernel
theorem dX11_side_39 : decode cX11_side 39 = .ok (.invokestatic 265, 3) := by decide +kernel
theorem dX11_side_42 : decode cX11_side 42 = .ok (.ifCond .ne 7, 3) := by decide +kernel
theorem dX11_side_45 : decode cX11_side 45 = .ok (.ldc2_w 263, 3) := by decide +kernel
theorem dX11_side_48 : decode cX11_side 48 = .ok (.lreturn, 1) := by decide +kernel
theorem dX11_side_49 : decode cX11_side 49 = .ok (.iload 5, 2) := by decide +kernel
theorem dX11_side_51 : decode cX11_side 51 = .ok (.invokestatic 265, 3) := by decide +kernel
theorem dX11_side_54 : decode cX11_side 54 = .ok (.ifCond .eq 19, 3) := by decide +kernel
theorem dX11_side_57 : decode cX11_side 57 = .ok (.iload 6, 2) := by decide +kernel
theorem dX11_side_59 : decode cX11_side 59 = .ok (.invokestatic 265, 3) := by decide +kernel
theorem dX11_side_62 : decode cX11_side 62 = .ok (.ifCond .eq 11, 3) := by decide +kernel
theorem dX11_side_65 : decode cX11_side 65 = .ok (.iload 7, 2) := by decide +kernel
theorem dX11_side_67 : decode cX11_side 67 = .ok (.invokestatic 265, 3) := by decide +kernel
theorem dX11_side_70 : decode cX11_side 70 = .ok (.ifCond .ne 7, 3) := by decide +kernel
theorem dX11_side_73 : decode cX11_side 73 = .ok (.ldc2_w 263, 3) := by decide +kernel
theorem dX11_side_76 : decode cX11_side 76 = .ok (.lreturn, 1) := by decide +kernel
theorem dX11_side_77 : decode cX11_side 77 = .ok (.aload_n 0, 1) := by decide +kernel
theorem dX11_side_78 : decode cX11_side 78 = .ok (.getfield 92, 3) := by decide +kernel
theorem dX11_side_81 : decode cX11_side 81 = .ok (.getfield 268, 3) := by decide +kernel
theorem dX11_side_84 : decode cX11_side 84 = .ok (.astore 8, 2) := by decide +kernel
theorem dX11_side_86 : decode cX11_side 86 = .ok (.aload 8, 2) := by decide +kernel
theorem dX11_side_88 : decode cX11_side 88 = .ok (.iconst 0, 1) := by decide +kernel
theorem dX11_side_89 : decode cX11_side 89 = .ok (.iload_n 2, 1) := by decide +kernel
theorem dX11_side_90 : decode cX11_side 90 = .ok (.iastore, 1) := by decide +kernel
theorem dX11_side_91 : decode cX11_side 91 = .ok (.aload 8, 2) := by decide +kernel
theorem dX11_side_93 : decode cX11_side 93 = .ok (.iconst 1, 1) := by decide +kernel
theorem dX11_side_94 : decode cX11_side 94 = .ok (.iload_n 3, 1) := by decide +kernel
theorem dX11_side_95 : decode cX11_side 95 = .ok (.iastore, 1) := by decide +kernel
theorem dX11_side_96 : decode cX11_side 96 = .ok (.aload 8, 2) := by decide +kernel
theorem dX11_side_98 : decode cX11_side 98 = .ok (.iconst 2, 1) := by decide +kernel
theorem dX11_side_99 : decode cX11_side 99 = .ok (.iload 4, 2) := by decide +kernel
theorem dX11_side_101 : decode cX11_side 101 = .ok (.iastore, 1) := by decide +kernel
theorem dX11_side_102 : decode cX11_side 102 = .ok (.aload 8, 2) := by decide +kernel
theorem dX11_side_104 : decode cX11_side 104 = .ok (.iconst 3, 1) := by decide +kernel
theorem dX11_side_105 : decode cX11_side 105 = .ok (.iload 5, 2) := by decide +kernel
theorem dX11_side_107 : decode cX11_side 107 = .ok (.iastore, 1) := by decide +kernel
theorem dX11_side_108 : decode cX11_side 108 = .ok (.aload 8, 2) := by decide +kernel
theorem dX11_side_110 : decode cX11_side 110 = .ok (.iconst 4, 1) := by decide +kernel
theorem dX11_side_111 : decode cX11_side 111 = .ok (.iload 6, 2) := by decide +kernel
theorem dX11_side_113 : decode cX11_side 113 = .ok (.iastore, 1) := by decide +kernel
theorem dX11_side_114 : decode cX11_side 114 = .ok (.aload 8, 2) := by decide +kernel
theorem dX11_side_116 : decode cX11_side 116 = .ok (.iconst 5, 1) := by decide +kernel
theorem dX11_side_117 : decode cX11_side 117 = .ok (.iload 7, 2) := by decide +kernel
theorem dX11_side_119 : decode cX11_side 119 = .ok (.iastore, 1) := by decide +kernel
theorem dX11_side_120 : decode cX11_side 120 = .ok (.aload_n 0, 1) := by decide +kernel
theorem dX11_side_121 : decode cX11_side 121 = .ok (.getfield 92, 3) := by decide +kernel
theorem dX11_side_124 : decode cX11_side 124 = .ok (.iload_n 1, 1) := by decide +kernel
theorem dX11_side_125 : decode cX11_side 125 = .ok (.invokevirtual 271, 3) := by decide +kernel
theorem dX11_side_128 : decode cX11_side 128 = .ok (.ifCond .eq 13, 3) := by decide +kernel
theorem dX11_side_131 : decode cX11_side 131 = .ok (.aload_n 0, 1) := by decide +kernel
theorem dX11_side_132 : decode cX11_side 132 = .ok (.getfield 92, 3) := by decide +kernel
theorem dX11_side_135 : decode cX11_side 135 = .ok (.getfield 274, 3) := by decide +kernel
theorem dX11_side_138 : decode cX11_side 138 = .ok (.goto 6, 3) := by decide +kernel
theorem dX11_side_141 : decode cX11_side 141 = .ok (.ldc2_w 263, 3) := by decide +kernel
theorem dX11_side_144 : decode cX11_side 144 = .ok (.lreturn, 1) := by decide +kernel
theorem dX11_spell_0 : decode cX11_spell 0 = .ok (.aload_n 0, 1) := by decide +kernel
theorem dX11_spell_1 : decode cX11_spell 1 = .ok (.iload_n 1, 1) := by decide +kernel
theorem dX11_spell_2 : decode cX11_spell 2 = .ok (.invokevirtual 128, 3) := by decide +kernel
theorem dX11_spell_5 : decode cX11_spell 5 = .ok (.ifCond .ne 5, 3) := by decide +kernel
theorem dX11_spell_8 : decode cX11_spell 8 = .ok (.iconst (-1), 1) := by decide +kernel
theorem dX11_spell_9 : decode cX11_spell 9 = .ok (.ireturn, 1) := by decide +kernel
theorem dX11_spell_10 : decode cX11_spell 10 = .ok (.aload_n 0, 1) := by decide +kernel
theorem dX11_spell_11 : decode cX11_spell 11 = .ok (.getfield 81, 3) := by decide +kernel
theorem dX11_spell_14 : decode cX11_spell 14 = .ok (.iconst 0, 1) := by decide +kernel
theorem dX11_spell_15 : decode cX11_spell 15 = .ok (.putfield 278, 3) := by decide +kernel
theorem dX11_spell_18 : decode cX11_spell 18 = .ok (.iconst 0, 1) := by decide +kernel
theorem dX11_spell_19 : decode cX11_spell 19 = .ok (.istore_n 2, 1) := by decide +kernel
theorem dX11_spell_20 : decode cX11_spell 20 = .ok (.iload_n 2, 1) := by decide +kernel
theorem dX11_spell_21 : decode cX11_spell 21 = .ok (.aload_n 0, 1) := by decide +kernel
theorem dX11_spell_22 : decode cX11_spell 22 = .ok (.getfield 18, 3) := by decide +kernel
theorem dX11_spell_25 : decode cX11_spell 25 = .ok (.iload_n 1, 1) := by decide +kernel
theorem dX11_spell_26 : decode cX11_spell 26 = .ok (.aaload, 1) := by decide +kernel
theorem dX11_spell_27 : decode cX11_spell 27 = .ok (.getfield 125, 3) := by decide +kernel
theorem dX11_spell_30 : decode cX11_spell 30 = .ok (.if_icmp .ge 33, 3) := by decide +kernel
theorem dX11_spell_33 : decode cX11_spell 33 = .ok (.iload_n 2, 1) := by decide +kernel
theorem dX11_spell_34 : decode cX11_spell 34 = .ok (.ifCond .le 12, 3) := by decide +kernel
theorem dX11_spell_37 : decode cX11_spell 37 = .ok (.aload_n 0, 1) := by decide +kernel
theorem dX11_spell_38 : decode cX11_spell 38 = .ok (.getfield 81, 3) := by decide +kernel
theorem dX11_spell_41 : decode cX11_spell 41 = .ok (.bipush 43, 2) := by decide +kernel
theorem dX11_spell_43 : decode cX11_spell 43 = .ok (.invokevirtual 281, 3) := by decide +kernel
theorem dX11_spell_46 : decode cX11_spell 46 = .ok (.aload_n 0, 1) := by decide +kernel
theorem dX11_spell_47 : decode cX11_spell 47 = .ok (.aload_n 0, 1) := by decide +kernel
theorem dX11_spell_48 : decode cX11_spell 48 = .ok (.getfield 18, 3) := by decide +kernel
theorem dX11_spell_51 : decode cX11_spell 51 = .ok (.iload_n 1, 1) := by decide +kernel
theorem dX11_spell_52 : decode cX11_spell 52 = .ok (.aaload, 1) := by decide +kernel
theorem dX11_spell_53 : decode cX11_spell 53 = .ok (.iload_n 2, 1) := by decide +kernel
theorem dX11_spell_54 : decode cX11_spell 54 = .ok (.invokevirtual 285, 3) := by decide +kernel
theorem dX11_spell_57 : decode cX11_spell 57 = .ok (.iinc 2 1, 3) := by decide +kernel
theorem dX11_spell_60 : decode cX11_spell 60 = .ok (.goto (-40), 3) := by decide +kernel
theorem dX11_spell_63 : decode cX11_spell 63 = .ok (.aload_n 0, 1) := by decide +kernel
theorem dX11_spell_64 : decode cX11_spell 64 = .ok (.getfield 81, 3) := by decide +kernel
theorem dX11_spell_67 : decode cX11_spell 67 = .ok (.getfield 278, 3) := by decide +kernel
theorem dX11_spell_70 : decode cX11_spell 70 = .ok (.ireturn, 1) := by decide +kernel
theorem dX11_write_0 : decode cX11_write 0 = .ok (.aload_n 0, 1) := by decide +kernel
theorem dX11_write_1 : decode cX11_write 1 = .ok (.iload_n 1, 1) := by decide +kernel
theorem dX11_write_2 : decode cX11_write 2 = .ok (.invokevirtual 128, 3) := by decide +kernel
theorem dX11_write_5 : decode cX11_write 5 = .ok (.ifCond .eq 19, 3) := by decide +kernel
theorem dX11_write_8 : decode cX11_write 8 = .ok (.iload_n 2, 1) := by decide +kernel
theorem dX11_write_9 : decode cX11_write 9 = .ok (.iload_n 3, 1) := by decide +kernel
theorem dX11_write_10 : decode cX11_write 10 = .ok (.invokestatic 194, 3) := by decide +kernel
theorem dX11_write_13 : decode cX11_write 13 = .ok (.ifCond .eq 11, 3) := by decide +kernel
theorem dX11_write_16 : decode cX11_write 16 = .ok (.iload_n 3, 1) := by decide +kernel
theorem dX11_write_17 : decode cX11_write 17 = .ok (.iload_n 2, 1) := by decide +kernel
theorem dX11_write_18 : decode cX11_write 18 = .ok (.isub, 1) := by decide +kernel
theorem dX11_write_19 : decode cX11_write 19 = .ok (.bipush 60, 2) := by decide +kernel
theorem dX11_write_21 : decode cX11_write 21 = .ok (.if_icmp .lt 5, 3) := by decide +kernel
theorem dX11_write_24 : decode cX11_write 24 = .ok (.iconst (-1), 1) := by decide +kernel
theorem dX11_write_25 : decode cX11_write 25 = .ok (.ireturn, 1) := by decide +kernel
theorem dX11_write_26 : decode cX11_write 26 = .ok (.aload_n 0, 1) := by decide +kernel
theorem dX11_write_27 : decode cX11_write 27 = .ok (.getfield 81, 3) := by decide +kernel
theorem dX11_write_30 : decode cX11_write 30 = .ok (.iconst 0, 1) := by decide +kernel
theorem dX11_write_31 : decode cX11_write 31 = .ok (.putfield 278, 3) := by decide +kernel
theorem dX11_write_34 : decode cX11_write 34 = .ok (.iload_n 2, 1) := by decide +kernel
theorem dX11_write_35 : decode cX11_write 35 = .ok (.istore 4, 2) := by decide +kernel
theorem dX11_write_37 : decode cX11_write 37 = .ok (.iload 4, 2) := by decide +kernel
theorem dX11_write_39 : decode cX11_write 39 = .ok (.iload_n 3, 1) := by decide +kernel
theorem dX11_write_40 : decode cX11_write 40 = .ok (.if_icmp .gt 16, 3) := by decide +kernel
theorem dX11_write_43 : decode cX11_write 43 = .ok (.aload_n 0, 1) := by decide +kernel
theorem dX11_write_44 : decode cX11_write 44 = .ok (.iload_n 1, 1) := by decide +kernel
theorem dX11_write_45 : decode cX11_write 45 = .ok (.iload 4, 2) := by decide +kernel
theorem dX11_write_47 : decode cX11_write 47 = .ok (.invokevirtual 288, 3) := by decide +kernel
theorem dX11_write_50 : decode cX11_write 50 = .ok (.iinc 4 1, 3) := by decide +kernel
theorem dX11_write_53 : decode cX11_write 53 = .ok (.goto (-16), 3) := by decide +kernel
theorem dX11_write_56 : decode cX11_write 56 = .ok (.aload_n 0, 1) := by decide +kernel
theorem dX11_write_57 : decode cX11_write 57 = .ok (.getfield 81, 3) := by decide +kernel
theorem dX11_write_60 : decode cX11_write 60 = .ok (.getfield 278, 3) := by decide +kernel
theorem dX11_write_63 : decode cX11_write 63 = .ok (.ireturn, 1) := by decide +kernel
theorem dX11_out_0 : decode cX11_out 0 = .ok (.iload_n 1, 1) := by decide +kernel
theorem dX11_out_1 : decode cX11_out 1 = .ok (.ifCond .lt 14, 3) := by decide +kernel
theorem dX11_out_4 : decode cX11_out 4 = .ok (.iload_n 1, 1) := by decide +kernel
theorem dX11_out_5 : decode cX11_out 5 = .ok (.aload_n 0, 1) := by decide +kernel
theorem dX11_out_6 : decode cX11_out 6 = .ok (.getfield 81, 3) := by decide +kernel
theorem dX11_out_9 : decode cX11_out 9 = .ok (.getfield 278, 3) := by decide +kernel
theorem dX11_out_12 : decode cX11_out 12 = .ok (.if_icmp .lt 5, 3) := by decide +kernel
theorem dX11_out_15 : decode cX11_out 15 = .ok (.iconst (-1), 1) := by decide +kernel
theorem dX11_out_16 : decode cX11_out 16 = .ok (.ireturn, 1) := by decide +kernel
theorem dX11_out_17 : decode cX11_out 17 = .ok (.aload_n 0, 1) := by decide +kernel
theorem dX11_out_18 : decode cX11_out 18 = .ok (.getfield 81, 3) := by decide +kernel
theorem dX11_out_21 : decode cX11_out 21 = .ok (.getfield 292, 3) := by decide +kernel
theorem dX11_out_24 : decode cX11_out 24 = .ok (.iload_n 1, 1) := by decide +kernel
theorem dX11_out_25 : decode cX11_out 25 = .ok (.baload, 1) := by decide +kernel
theorem dX11_out_26 : decode cX11_out 26 = .ok (.ireturn, 1) := by decide +kernel
theorem dX11_look_0 : decode cX11_look 0 = .ok (.iload_n 1, 1) := by decide +kernel
theorem dX11_look_1 : decode cX11_look 1 = .ok (.invokestatic 110, 3) := by decide +kernel
theorem dX11_look_4 : decode cX11_look 4 = .ok (.ifCond .eq 13, 3) := by decide +kernel
theorem dX11_look_7 : decode cX11_look 7 = .ok (.aload_n 0, 1) := by decide +kernel
theorem dX11_look_8 : decode cX11_look 8 = .ok (.getfield 18, 3) := by decide +kernel
theorem dX11_look_11 : decode cX11_look 11 = .ok (.iload_n 1, 1) := by decide +kernel
theorem dX11_look_12 : decode cX11_look 12 = .ok (.aaload, 1) := by decide +kernel
theorem dX11_look_13 : decode cX11_look 13 = .ok (.getfield 125, 3) := by decide +kernel
theorem dX11_look_16 : decode cX11_look 16 = .ok (.ireturn, 1) := by decide +kernel
theorem dX11_look_17 : decode cX11_look 17 = .ok (.iload_n 1, 1) := by decide +kernel
theorem dX11_look_18 : decode cX11_look 18 = .ok (.tableswitch 50 4 6 #[26, 34, 42], 26) := by decide +kernel
theorem dX11_look_44 : decode cX11_look 44 = .ok (.aload_n 0, 1) := by decide +kernel
theorem dX11_look_45 : decode cX11_look 45 = .ok (.getfield 12, 3) := by decide +kernel
theorem dX11_look_48 : decode cX11_look 48 = .ok (.getfield 99, 3) := by decide +kernel
theorem dX11_look_51 : decode cX11_look 51 = .ok (.ireturn, 1) := by decide +kernel
theorem dX11_look_52 : decode cX11_look 52 = .ok (.aload_n 0, 1) := by decide +kernel
theorem dX11_look_53 : decode cX11_look 53 = .ok (.getfield 92, 3) := by decide +kernel
theorem dX11_look_56 : decode cX11_look 56 = .ok (.getfield 296, 3) := by decide +kernel
theorem dX11_look_59 : decode cX11_look 59 = .ok (.ireturn, 1) := by decide +kernel
theorem dX11_look_60 : decode cX11_look 60 = .ok (.aload_n 0, 1) := by decide +kernel
theorem dX11_look_61 : decode cX11_look 61 = .ok (.getfield 92, 3) := by decide +kernel
theorem dX11_look_64 : decode cX11_look 64 = .ok (.getfield 299, 3) := by decide +kernel
theorem dX11_look_67 : decode cX11_look 67 = .ok (.ireturn, 1) := by decide +kernel
theorem dX11_look_68 : decode cX11_look 68 = .ok (.iconst (-1), 1) := by decide +kernel
theorem dX11_look_69 : decode cX11_look 69 = .ok (.ireturn, 1) := by decide +kernel
theorem dX11_isSlot_0 : decode cX11_isSlot 0 = .ok (.iload_n 0, 1) := by decide +kernel
theorem dX11_isSlot_1 : decode cX11_isSlot 1 = .ok (.ifCond .lt 12, 3) := by decide +kernel
theorem dX11_isSlot_4 : decode cX11_isSlot 4 = .ok (.iload_n 0, 1) := by decide +kernel
theorem dX11_isSlot_5 : decode cX11_isSlot 5 = .ok (.iconst 4, 1) := by decide +kernel
theorem dX11_isSlot_6 : decode cX11_isSlot 6 = .ok (.if_icmp .ge 7, 3) := by decide +kernel
theorem dX11_isSlot_9 : decode cX11_isSlot 9 = .ok (.iconst 1, 1) := by decide +kernel
theorem dX11_isSlot_10 : decode cX11_isSlot 10 = .ok (.goto 4, 3) := by decide +kernel
theorem dX11_isSlot_13 : decode cX11_isSlot 13 = .ok (.iconst 0, 1) := by decide +kernel
theorem dX11_isSlot_14 : decode cX11_isSlot 14 = .ok (.ireturn, 1) := by decide +kernel
theorem dX11_hasTerms_0 : decode cX11_hasTerms 0 = .ok (.iload_n 1, 1) := by decide +kernel
theorem dX11_hasTerms_1 : decode cX11_hasTerms 1 = .ok (.invokestatic 110, 3) := by decide +kernel
theorem dX11_hasTerms_4 : decode cX11_hasTerms 4 = .ok (.ifCond .eq 19, 3) := by decide +kernel
theorem dX11_hasTerms_7 : decode cX11_hasTerms 7 = .ok (.aload_n 0, 1) := by decide +kernel
theorem dX11_hasTerms_8 : decode cX11_hasTerms 8 = .ok (.getfield 18, 3) := by decide +kernel
theorem dX11_hasTerms_11 : decode cX11_hasTerms 11 = .ok (.iload_n 1, 1) := by decide +kernel
theorem dX11_hasTerms_12 : decode cX11_hasTerms 12 = .ok (.aaload, 1) := by decide +kernel
theorem dX11_hasTerms_13 : decode cX11_hasTerms 13 = .ok (.getfield 125, 3) := by decide +kernel
theorem dX11_hasTerms_16 : decode cX11_hasTerms 16 = .ok (.ifCond .le 7, 3) := by decide +kernel
theorem dX11_hasTerms_19 : decode cX11_hasTerms 19 = .ok (.iconst 1, 1) := by decide +kernel
theorem dX11_hasTerms_20 : decode cX11_hasTerms 20 = .ok (.goto 4, 3) := by decide +kernel
theorem dX11_hasTerms_23 : decode cX11_hasTerms 23 = .ok (.iconst 0, 1) := by decide +kernel
theorem dX11_hasTerms_24 : decode cX11_hasTerms 24 = .ok (.ireturn, 1) := by decide +kernel
theorem dX11_hasTerm_0 : decode cX11_hasTerm 0 = .ok (.iload_n 1, 1) := by decide +kernel
theorem dX11_hasTerm_1 : decode cX11_hasTerm 1 = .ok (.invokestatic 110, 3) := by decide +kernel
theorem dX11_hasTerm_4 : decode cX11_hasTerm 4 = .ok (.ifCond .eq 24, 3) := by decide +kernel
theorem dX11_hasTerm_7 : decode cX11_hasTerm 7 = .ok (.iload_n 2, 1) := by decide +kernel
theorem dX11_hasTerm_8 : decode cX11_hasTerm 8 = .ok (.ifCond .lt 20, 3) := by decide +kernel
theorem dX11_hasTerm_11 : decode cX11_hasTerm 11 = .ok (.iload_n 2, 1) := by decide +kernel
theorem dX11_hasTerm_12 : decode cX11_hasTerm 12 = .ok (.aload_n 0, 1) := by decide +kernel
theorem dX11_hasTerm_13 : decode cX11_hasTerm 13 = .ok (.getfield 18, 3) := by decide +kernel
theorem dX11_hasTerm_16 : decode cX11_hasTerm 16 = .ok (.iload_n 1, 1) := by decide +kernel
theorem dX11_hasTerm_17 : decode cX11_hasTerm 17 = .ok (.aaload, 1) := by decide +kernel
theorem dX11_hasTerm_18 : decode cX11_hasTerm 18 = .ok (.getfield 125, 3) := by decide +kernel
theorem dX11_hasTerm_21 : decode cX11_hasTerm 21 = .ok (.if_icmp .ge 7, 3) := by decide +kernel
theorem dX11_hasTerm_24 : decode cX11_hasTerm 24 = .ok (.iconst 1, 1) := by decide +kernel
theorem dX11_hasTerm_25 : decode cX11_hasTerm 25 = .ok (.goto 4, 3) := by decide +kernel
theorem dX11_hasTerm_28 : decode cX11_hasTerm 28 = .ok (.iconst 0, 1) := by decide +kernel
theorem dX11_hasTerm_29 : decode cX11_hasTerm 29 = .ok (.ireturn, 1) := by decide +kernel
theorem dX11_isNumber_0 : decode cX11_isNumber 0 = .ok (.iload_n 0, 1) := by decide +kernel
theorem dX11_isNumber_1 : decode cX11_isNumber 1 = .ok (.sipush (-3000), 3) := by decide +kernel
theorem dX11_isNumber_4 : decode cX11_isNumber 4 = .ok (.if_icmp .lt 14, 3) := by decide +kernel
theorem dX11_isNumber_7 : decode cX11_isNumber 7 = .ok (.iload_n 0, 1) := by decide +kernel
theorem dX11_isNumber_8 : decode cX11_isNumber 8 = .ok (.sipush 3000, 3) := by decide +kernel
theorem dX11_isNumber_11 : decode cX11_isNumber 11 = .ok (.if_icmp .gt 7, 3) := by decide +kernel
theorem dX11_isNumber_14 : decode cX11_isNumber 14 = .ok (.iconst 1, 1) := by decide +kernel
theorem dX11_isNumber_15 : decode cX11_isNumber 15 = .ok (.goto 4, 3) := by decide +kernel
theorem dX11_isNumber_18 : decode cX11_isNumber 18 = .ok (.iconst 0, 1) := by decide +kernel
theorem dX11_isNumber_19 : decode cX11_isNumber 19 = .ok (.ireturn, 1) := by decide +kernel
theorem dX11_isRange_0 : decode cX11_isRange 0 = .ok (.iload_n 0, 1) := by decide +kernel
theorem dX11_isRange_1 : decode cX11_isRange 1 = .ok (.invokestatic 174, 3) := by decide +kernel
theorem dX11_isRange_4 : decode cX11_isRange 4 = .ok (.ifCond .eq 19, 3) := by decide +kernel
theorem dX11_isRange_7 : decode cX11_isRange 7 = .ok (.iload_n 1, 1) := by decide +kernel
theorem dX11_isRange_8 : decode cX11_isRange 8 = .ok (.invokestatic 174, 3) := by decide +kernel
theorem dX11_isRange_11 : decode cX11_isRange 11 = .ok (.ifCond .eq 12, 3) := by decide +kernel
theorem dX11_isRange_14 : decode cX11_isRange 14 = .ok (.iload_n 0, 1) := by decide +kernel
theorem dX11_isRange_15 : decode cX11_isRange 15 = .ok (.iload_n 1, 1) := by decide +kernel
theorem dX11_isRange_16 : decode cX11_isRange 16 = .ok (.if_icmp .gt 7, 3) := by decide +kernel
theorem dX11_isRange_19 : decode cX11_isRange 19 = .ok (.iconst 1, 1) := by decide +kernel
theorem dX11_isRange_20 : decode cX11_isRange 20 = .ok (.goto 4, 3) := by decide +kernel
theorem dX11_isRange_23 : decode cX11_isRange 23 = .ok (.iconst 0, 1) := by decide +kernel
theorem dX11_isRange_24 : decode cX11_isRange 24 = .ok (.ireturn, 1) := by decide +kernel
theorem dX11_isModulus_0 : decode cX11_isModulus 0 = .ok (.iload_n 0, 1) := by decide +kernel
theorem dX11_isModulus_1 : decode cX11_isModulus 1 = .ok (.iconst 1, 1) := by decide +kernel
theorem dX11_isModulus_2 : decode cX11_isModulus 2 = .ok (.if_icmp .lt 13, 3) := by decide +kernel
theorem dX11_isModulus_5 : decode cX11_isModulus 5 = .ok (.iload_n 0, 1) := by decide +kernel
theorem dX11_isModulus_6 : decode cX11_isModulus 6 = .ok (.bipush 60, 2) := by decide +kernel
theorem dX11_isModulus_8 : decode cX11_isModulus 8 = .ok (.if_icmp .gt 7, 3) := by decide +kernel
theorem dX11_isModulus_11 : decode cX11_isModulus 11 = .ok (.iconst 1, 1) := by decide +kernel
theorem dX11_isModulus_12 : decode cX11_isModulus 12 = .ok (.goto 4, 3) := by decide +kernel
theorem dX11_isModulus_15 : decode cX11_isModulus 15 = .ok (.iconst 0, 1) := by decide +kernel
theorem dX11_isModulus_16 : decode cX11_isModulus 16 = .ok (.ireturn, 1) := by decide +kernel
theorem dX11_isClass_0 : decode cX11_isClass 0 = .ok (.iload_n 0, 1) := by decide +kernel
theorem dX11_isClass_1 : decode cX11_isClass 1 = .ok (.invokestatic 197, 3) := by decide +kernel
theorem dX11_isClass_4 : decode cX11_isClass 4 = .ok (.ifCond .eq 16, 3) := by decide +kernel
theorem dX11_isClass_7 : decode cX11_isClass 7 = .ok (.iload_n 1, 1) := by decide +kernel
theorem dX11_isClass_8 : decode cX11_isClass 8 = .ok (.ifCond .lt 12, 3) := by decide +kernel
theorem dX11_isClass_11 : decode cX11_isClass 11 = .ok (.iload_n 1, 1) := by decide +kernel
theorem dX11_isClass_12 : decode cX11_isClass 12 = .ok (.iload_n 0, 1) := by decide +kernel
theorem dX11_isClass_13 : decode cX11_isClass 13 = .ok (.if_icmp .ge 7, 3) := by decide +kernel
theorem dX11_isClass_16 : decode cX11_isClass 16 = .ok (.iconst 1, 1) := by decide +kernel
theorem dX11_isClass_17 : decode cX11_isClass 17 = .ok (.goto 4, 3) := by decide +kernel
theorem dX11_isClass_20 : decode cX11_isClass 20 = .ok (.iconst 0, 1) := by decide +kernel
theorem dX11_isClass_21 : decode cX11_isClass 21 = .ok (.ireturn, 1) := by decide +kernel
theorem dX11_isSideNumber_0 : decode cX11_isSideNumber 0 = .ok (.iload_n 0, 1) := by decide +kernel
theorem dX11_isSideNumber_1 : decode cX11_isSideNumber 1 = .ok (.bipush (-9), 2) := by decide +kernel
theorem dX11_isSideNumber_3 : decode cX11_isSideNumber 3 = .ok (.if_icmp .lt 13, 3) := by decide +kernel
theorem dX11_isSideNumber_6 : decode cX11_isSideNumber 6 = .ok (.iload_n 0, 1) := by decide +kernel
theorem dX11_isSideNumber_7 : decode cX11_isSideNumber 7 = .ok (.bipush 9, 2) := by decide +kernel
theorem dX11_isSideNumber_9 : decode cX11_isSideNumber 9 = .ok (.if_icmp .gt 7, 3) := by decide +kernel
theorem dX11_isSideNumber_12 : decode cX11_isSideNumber 12 = .ok (.iconst 1, 1) := by decide +kernel
theorem dX11_isSideNumber_13 : decode cX11_isSideNumber 13 = .ok (.goto 4, 3) := by decide +kernel
theorem dX11_isSideNumber_16 : decode cX11_isSideNumber 16 = .ok (.iconst 0, 1) := by decide +kernel
theorem dX11_isSideNumber_17 : decode cX11_isSideNumber 17 = .ok (.ireturn, 1) := by decide +kernel
theorem dX11_replaceForm_0 : decode cX11_replaceForm 0 = .ok (.aload_n 0, 1) := by decide +kernel
theorem dX11_replaceForm_1 : decode cX11_replaceForm 1 = .ok (.getfield 18, 3) := by decide +kernel
theorem dX11_replaceForm_4 : decode cX11_replaceForm 4 = .ok (.iload_n 1, 1) := by decide +kernel
theorem dX11_replaceForm_5 : decode cX11_replaceForm 5 = .ok (.aaload, 1) := by decide +kernel
theorem dX11_replaceForm_6 : decode cX11_replaceForm 6 = .ok (.iconst 0, 1) := by decide +kernel
theorem dX11_replaceForm_7 : decode cX11_replaceForm 7 = .ok (.putfield 125, 3) := by decide +kernel
theorem dX11_replaceForm_10 : decode cX11_replaceForm 10 = .ok (.aload_n 0, 1) := by decide +kernel
theorem dX11_replaceForm_11 : decode cX11_replaceForm 11 = .ok (.getfield 18, 3) := by decide +kernel
theorem dX11_replaceForm_14 : decode cX11_replaceForm 14 = .ok (.iload_n 1, 1) := by decide +kernel
theorem dX11_replaceForm_15 : decode cX11_replaceForm 15 = .ok (.aaload, 1) := by decide +kernel
theorem dX11_replaceForm_16 : decode cX11_replaceForm 16 = .ok (.aload_n 2, 1) := by decide +kernel
theorem dX11_replaceForm_17 : decode cX11_replaceForm 17 = .ok (.invokevirtual 240, 3) := by decide +kernel
theorem dX11_replaceForm_20 : decode cX11_replaceForm 20 = .ok (.aload_n 0, 1) := by decide +kernel
theorem dX11_replaceForm_21 : decode cX11_replaceForm 21 = .ok (.getfield 24, 3) := by decide +kernel
theorem dX11_replaceForm_24 : decode cX11_replaceForm 24 = .ok (.iload_n 1, 1) := by decide +kernel
theorem dX11_replaceForm_25 : decode cX11_replaceForm 25 = .ok (.aaload, 1) := by decide +kernel
theorem dX11_replaceForm_26 : decode cX11_replaceForm 26 = .ok (.invokevirtual 302, 3) := by decide +kernel
theorem dX11_replaceForm_29 : decode cX11_replaceForm 29 = .ok (.aload_n 0, 1) := by decide +kernel
theorem dX11_replaceForm_30 : decode cX11_replaceForm 30 = .ok (.getfield 60, 3) := by decide +kernel
theorem dX11_replaceForm_33 : decode cX11_replaceForm 33 = .ok (.iload_n 1, 1) := by decide +kernel
theorem dX11_replaceForm_34 : decode cX11_replaceForm 34 = .ok (.invokevirtual 305, 3) := by decide +kernel
theorem dX11_replaceForm_37 : decode cX11_replaceForm 37 = .ok (.return_, 1) := by decide +kernel
theorem dX11_wayCounts_0 : decode cX11_wayCounts 0 = .ok (.aload_n 0, 1) := by decide +kernel
theorem dX11_wayCounts_1 : decode cX11_wayCounts 1 = .ok (.getfield 24, 3) := by decide +kernel
theorem dX11_wayCounts_4 : decode cX11_wayCounts 4 = .ok (.iload_n 1, 1) := by decide +kernel
theorem dX11_wayCounts_5 : decode cX11_wayCounts 5 = .ok (.aaload, 1) := by decide +kernel
theorem dX11_wayCounts_6 : decode cX11_wayCounts 6 = .ok (.astore_n 2, 1) := by decide +kernel
theorem dX11_wayCounts_7 : decode cX11_wayCounts 7 = .ok (.aload_n 2, 1) := by decide +kernel
theorem dX11_wayCounts_8 : decode cX11_wayCounts 8 = .ok (.getfield 307, 3) := by decide +kernel
theorem dX11_wayCounts_11 : decode cX11_wayCounts 11 = .ok (.ifCond .eq 8, 3) := by decide +kernel
theorem dX11_wayCounts_14 : decode cX11_wayCounts 14 = .ok (.aload_n 2, 1) := by decide +kernel
theorem dX11_wayCounts_15 : decode cX11_wayCounts 15 = .ok (.getfield 311, 3) := by decide +kernel
theorem dX11_wayCounts_18 : decode cX11_wayCounts 18 = .ok (.areturn, 1) := by decide +kernel
theorem dX11_wayCounts_19 : decode cX11_wayCounts 19 = .ok (.aload_n 0, 1) := by decide +kernel
theorem dX11_wayCounts_20 : decode cX11_wayCounts 20 = .ok (.getfield 60, 3) := by decide +kernel
theorem dX11_wayCounts_23 : decode cX11_wayCounts 23 = .ok (.iload_n 1, 1) := by decide +kernel
theorem dX11_wayCounts_24 : decode cX11_wayCounts 24 = .ok (.aload_n 0, 1) := by decide +kernel
theorem dX11_wayCounts_25 : decode cX11_wayCounts 25 = .ok (.getfield 18, 3) := by decide +kernel
theorem dX11_wayCounts_28 : decode cX11_wayCounts 28 = .ok (.iload_n 1, 1) := by decide +kernel
theorem dX11_wayCounts_29 : decode cX11_wayCounts 29 = .ok (.aaload, 1) := by decide +kernel
theorem dX11_wayCounts_30 : decode cX11_wayCounts 30 = .ok (.invokevirtual 315, 3) := by decide +kernel
theorem dX11_wayCounts_33 : decode cX11_wayCounts 33 = .ok (.aload_n 2, 1) := by decide +kernel
theorem dX11_wayCounts_34 : decode cX11_wayCounts 34 = .ok (.aload_n 0, 1) := by decide +kernel
theorem dX11_wayCounts_35 : decode cX11_wayCounts 35 = .ok (.getfield 60, 3) := by decide +kernel
theorem dX11_wayCounts_38 : decode cX11_wayCounts 38 = .ok (.invokevirtual 318, 3) := by decide +kernel
theorem dX11_wayCounts_41 : decode cX11_wayCounts 41 = .ok (.areturn, 1) := by decide +kernel
theorem dX11_unlikeCounts_0 : decode cX11_unlikeCounts 0 = .ok (.aload_n 0, 1) := by decide +kernel
theorem dX11_unlikeCounts_1 : decode cX11_unlikeCounts 1 = .ok (.getfield 24, 3) := by decide +kernel
theorem dX11_unlikeCounts_4 : decode cX11_unlikeCounts 4 = .ok (.iload_n 1, 1) := by decide +kernel
theorem dX11_unlikeCounts_5 : decode cX11_unlikeCounts 5 = .ok (.aaload, 1) := by decide +kernel
theorem dX11_unlikeCounts_6 : decode cX11_unlikeCounts 6 = .ok (.astore_n 2, 1) := by decide +kernel
theorem dX11_unlikeCounts_7 : decode cX11_unlikeCounts 7 = .ok (.aload_n 2, 1) := by decide +kernel
theorem dX11_unlikeCounts_8 : decode cX11_unlikeCounts 8 = .ok (.getfield 322, 3) := by decide +kernel
theorem dX11_unlikeCounts_11 : decode cX11_unlikeCounts 11 = .ok (.ifCond .eq 8, 3) := by decide +kernel
theorem dX11_unlikeCounts_14 : decode cX11_unlikeCounts 14 = .ok (.aload_n 2, 1) := by decide +kernel
theorem dX11_unlikeCounts_15 : decode cX11_unlikeCounts 15 = .ok (.getfield 325, 3) := by decide +kernel
theorem dX11_unlikeCounts_18 : decode cX11_unlikeCounts 18 = .ok (.areturn, 1) := by decide +kernel
theorem dX11_unlikeCounts_19 : decode cX11_unlikeCounts 19 = .ok (.aload_n 0, 1) := by decide +kernel
theorem dX11_unlikeCounts_20 : decode cX11_unlikeCounts 20 = .ok (.getfield 60, 3) := by decide +kernel
theorem dX11_unlikeCounts_23 : decode cX11_unlikeCounts 23 = .ok (.aload_n 0, 1) := by decide +kernel
theorem dX11_unlikeCounts_24 : decode cX11_unlikeCounts 24 = .ok (.getfield 18, 3) := by decide +kernel
theorem dX11_unlikeCounts_27 : decode cX11_unlikeCounts 27 = .ok (.iload_n 1, 1) := by decide +kernel
theorem dX11_unlikeCounts_28 : decode cX11_unlikeCounts 28 = .ok (.aaload, 1) := by decide +kernel
theorem dX11_unlikeCounts_29 : decode cX11_unlikeCounts 29 = .ok (.invokevirtual 328, 3) := by decide +kernel
theorem dX11_unlikeCounts_32 : decode cX11_unlikeCounts 32 = .ok (.aload_n 2, 1) := by decide +kernel
theorem dX11_unlikeCounts_33 : decode cX11_unlikeCounts 33 = .ok (.aload_n 0, 1) := by decide +kernel
theorem dX11_unlikeCounts_34 : decode cX11_unlikeCounts 34 = .ok (.getfield 60, 3) := by decide +kernel
theorem dX11_unlikeCounts_37 : decode cX11_unlikeCounts 37 = .ok (.invokevirtual 331, 3) := by decide +kernel
theorem dX11_unlikeCounts_40 : decode cX11_unlikeCounts 40 = .ok (.areturn, 1) := by decide +kernel
theorem dX11_takeWay_0 : decode cX11_takeWay 0 = .ok (.aload_n 0, 1) := by decide +kernel
theorem dX11_takeWay_1 : decode cX11_takeWay 1 = .ok (.getfield 18, 3) := by decide +kernel
theorem dX11_takeWay_4 : decode cX11_takeWay 4 = .ok (.iload_n 1, 1) := by decide +kernel
theorem dX11_takeWay_5 : decode cX11_takeWay 5 = .ok (.aaload, 1) := by decide +kernel
theorem dX11_takeWay_6 : decode cX11_takeWay 6 = .ok (.astore 5, 2) := by decide +kernel
theorem dX11_takeWay_8 : decode cX11_takeWay 8 = .ok (.aload_n 0, 1) := by decide +kernel
theorem dX11_takeWay_9 : decode cX11_takeWay 9 = .ok (.getfield 60, 3) := by decide +kernel
theorem dX11_takeWay_12 : decode cX11_takeWay 12 = .ok (.iload_n 1, 1) := by decide +kernel
theorem dX11_takeWay_13 : decode cX11_takeWay 13 = .ok (.aload 5, 2) := by decide +kernel
theorem dX11_takeWay_15 : decode cX11_takeWay 15 = .ok (.invokevirtual 315, 3) := by decide +kernel
theorem dX11_takeWay_18 : decode cX11_takeWay 18 = .ok (.lload_n 3, 1) := by decide +kernel
theorem dX11_takeWay_19 : decode cX11_takeWay 19 = .ok (.lstore 6, 2) := by decide +kernel
theorem dX11_takeWay_21 : decode cX11_takeWay 21 = .ok (.iload_n 2, 1) := by decide +kernel
theorem dX11_takeWay_22 : decode cX11_takeWay 22 = .ok (.istore 8, 2) := by decide +kernel
theorem dX11_takeWay_24 : decode cX11_takeWay 24 = .ok (.iconst 0, 1) := by decide +kernel
theorem dX11_takeWay_25 : decode cX11_takeWay 25 = .ok (.istore 9, 2) := by decide +kernel
theorem dX11_takeWay_27 : decode cX11_takeWay 27 = .ok (.iload 9, 2) := by decide +kernel
theorem dX11_takeWay_29 : decode cX11_takeWay 29 = .ok (.aload 5, 2) := by decide +kernel
theorem dX11_takeWay_31 : decode cX11_takeWay 31 = .ok (.getfield 125, 3) := by decide +kernel
theorem dX11_takeWay_34 : decode cX11_takeWay 34 = .ok (.if_icmp .ge 98, 3) := by decide +kernel
theorem dX11_takeWay_37 : decode cX11_takeWay 37 = .ok (.aload 5, 2) := by decide +kernel
theorem dX11_takeWay_39 : decode cX11_takeWay 39 = .ok (.getfield 168, 3) := by decide +kernel
theorem dX11_takeWay_42 : decode cX11_takeWay 42 = .ok (.iload 9, 2) := by decide +kernel
theorem dX11_takeWay_44 : decode cX11_takeWay 44 = .ok (.iaload, 1) := by decide +kernel
theorem dX11_takeWay_45 : decode cX11_takeWay 45 = .ok (.istore 10, 2) := by decide +kernel
theorem dX11_takeWay_47 : decode cX11_takeWay 47 = .ok (.iload 10, 2) := by decide +kernel
theorem dX11_takeWay_49 : decode cX11_takeWay 49 = .ok (.aload 5, 2) := by decide +kernel
theorem dX11_takeWay_51 : decode cX11_takeWay 51 = .ok (.getfield 171, 3) := by decide +kernel
theorem dX11_takeWay_54 : decode cX11_takeWay 54 = .ok (.iload 9, 2) := by decide +kernel
theorem dX11_takeWay_56 : decode cX11_takeWay 56 = .ok (.iaload, 1) := by decide +kernel
theorem dX11_takeWay_57 : decode cX11_takeWay 57 = .ok (.if_icmp .gt 69, 3) := by decide +kernel
theorem dX11_takeWay_60 : decode cX11_takeWay 60 = .ok (.iload 8, 2) := by decide +kernel
theorem dX11_takeWay_62 : decode cX11_takeWay 62 = .ok (.aload 5, 2) := by decide +kernel
theorem dX11_takeWay_64 : decode cX11_takeWay 64 = .ok (.iload 9, 2) := by decide +kernel
theorem dX11_takeWay_66 : decode cX11_takeWay 66 = .ok (.iload 10, 2) := by decide +kernel
theorem dX11_takeWay_68 : decode cX11_takeWay 68 = .ok (.invokevirtual 228, 3) := by decide +kernel
theorem dX11_takeWay_71 : decode cX11_takeWay 71 = .ok (.isub, 1) := by decide +kernel
theorem dX11_takeWay_72 : decode cX11_takeWay 72 = .ok (.istore 11, 2) := by decide +kernel
theorem dX11_takeWay_74 : decode cX11_takeWay 74 = .ok (.aload_n 0, 1) := by decide +kernel
theorem dX11_takeWay_75 : decode cX11_takeWay 75 = .ok (.getfield 60, 3) := by decide +kernel
theorem dX11_takeWay_78 : decode cX11_takeWay 78 = .ok (.iload 9, 2) := by decide +kernel
theorem dX11_takeWay_80 : decode cX11_takeWay 80 = .ok (.iconst 1, 1) := by decide +kernel
theorem dX11_takeWay_81 : decode cX11_takeWay 81 = .ok (.iadd, 1) := by decide +kernel
theorem dX11_takeWay_82 : decode cX11_takeWay 82 = .ok (.iload 11, 2) := by decide +kernel
theorem dX11_takeWay_84 : decode cX11_takeWay 84 = .ok (.invokevirtual 334, 3) := by decide +kernel
theorem dX11_takeWay_87 : decode cX11_takeWay 87 = .ok (.lstore 12, 2) := by decide +kernel
theorem dX11_takeWay_89 : decode cX11_takeWay 89 = .ok (.lload 6, 2) := by decide +kernel
theorem dX11_takeWay_91 : decode cX11_takeWay 91 = .ok (.lload 12, 2) := by decide +kernel
theorem dX11_takeWay_93 : decode cX11_takeWay 93 = .ok (.lcmp, 1) := by decide +kernel
theorem dX11_takeWay_94 : decode cX11_takeWay 94 = .ok (.ifCond .ge 19, 3) := by decide +kernel
theorem dX11_takeWay_97 : decode cX11_takeWay 97 = .ok (.aload_n 0, 1) := by decide +kernel
theorem dX11_takeWay_98 : decode cX11_takeWay 98 = .ok (.getfield 85, 3) := by decide +kernel
theorem dX11_takeWay_101 : decode cX11_takeWay 101 = .ok (.iload 9, 2) := by decide +kernel
theorem dX11_takeWay_103 : decode cX11_takeWay 103 = .ok (.iload 10, 2) := by decide +kernel
theorem dX11_takeWay_105 : decode cX11_takeWay 105 = .ok (.iastore, 1) := by decide +kernel
theorem dX11_takeWay_106 : decode cX11_takeWay 106 = .ok (.iload 11, 2) := by decide +kernel
theorem dX11_takeWay_108 : decode cX11_takeWay 108 = .ok (.istore 8, 2) := by decide +kernel
theorem dX11_takeWay_110 : decode cX11_takeWay 110 = .ok (.goto 16, 3) := by decide +kernel
theorem dX11_takeWay_113 : decode cX11_takeWay 113 = .ok (.lload 6, 2) := by decide +kernel
theorem dX11_takeWay_115 : decode cX11_takeWay 115 = .ok (.lload 12, 2) := by decide +kernel
theorem dX11_takeWay_117 : decode cX11_takeWay 117 = .ok (.lsub, 1) := by decide +kernel
theorem dX11_takeWay_118 : decode cX11_takeWay 118 = .ok (.lstore 6, 2) := by decide +kernel
theorem dX11_takeWay_120 : decode cX11_takeWay 120 = .ok (.iinc 10 1, 3) := by decide +kernel
theorem dX11_takeWay_123 : decode cX11_takeWay 123 = .ok (.goto (-76), 3) := by decide +kernel
theorem dX11_takeWay_126 : decode cX11_takeWay 126 = .ok (.iinc 9 1, 3) := by decide +kernel
theorem dX11_takeWay_129 : decode cX11_takeWay 129 = .ok (.goto (-102), 3) := by decide +kernel
theorem dX11_takeWay_132 : decode cX11_takeWay 132 = .ok (.return_, 1) := by decide +kernel
theorem dX11_rowIsWay_0 : decode cX11_rowIsWay 0 = .ok (.iconst 0, 1) := by decide +kernel
theorem dX11_rowIsWay_1 : decode cX11_rowIsWay 1 = .ok (.istore_n 3, 1) := by decide +kernel
theorem dX11_rowIsWay_2 : decode cX11_rowIsWay 2 = .ok (.iconst 0, 1) := by decide +kernel
theorem dX11_rowIsWay_3 : decode cX11_rowIsWay 3 = .ok (.istore 4, 2) := by decide +kernel
theorem dX11_rowIsWay_5 : decode cX11_rowIsWay 5 = .ok (.iload 4, 2) := by decide +kernel
theorem dX11_rowIsWay_7 : decode cX11_rowIsWay 7 = .ok (.aload_n 1, 1) := by decide +kernel
theorem dX11_rowIsWay_8 : decode cX11_rowIsWay 8 = .ok (.getfield 125, 3) := by decide +kernel
theorem dX11_rowIsWay_11 : decode cX11_rowIsWay 11 = .ok (.if_icmp .ge 61, 3) := by decide +kernel
theorem dX11_rowIsWay_14 : decode cX11_rowIsWay 14 = .ok (.aload_n 0, 1) := by decide +kernel
theorem dX11_rowIsWay_15 : decode cX11_rowIsWay 15 = .ok (.getfield 85, 3) := by decide +kernel
theorem dX11_rowIsWay_18 : decode cX11_rowIsWay 18 = .ok (.iload 4, 2) := by decide +kernel
theorem dX11_rowIsWay_20 : decode cX11_rowIsWay 20 = .ok (.iaload, 1) := by decide +kernel
theorem dX11_rowIsWay_21 : decode cX11_rowIsWay 21 = .ok (.aload_n 1, 1) := by decide +kernel
theorem dX11_rowIsWay_22 : decode cX11_rowIsWay 22 = .ok (.getfield 168, 3) := by decide +kernel
theorem dX11_rowIsWay_25 : decode cX11_rowIsWay 25 = .ok (.iload 4, 2) := by decide +kernel
theorem dX11_rowIsWay_27 : decode cX11_rowIsWay 27 = .ok (.iaload, 1) := by decide +kernel
theorem dX11_rowIsWay_28 : decode cX11_rowIsWay 28 = .ok (.if_icmp .lt 20, 3) := by decide +kernel
theorem dX11_rowIsWay_31 : decode cX11_rowIsWay 31 = .ok (.aload_n 0, 1) := by decide +kernel
theorem dX11_rowIsWay_32 : decode cX11_rowIsWay 32 = .ok (.getfield 85, 3) := by decide +kernel
theorem dX11_rowIsWay_35 : decode cX11_rowIsWay 35 = .ok (.iload 4, 2) := by decide +kernel
theorem dX11_rowIsWay_37 : decode cX11_rowIsWay 37 = .ok (.iaload, 1) := by decide +kernel
theorem dX11_rowIsWay_38 : decode cX11_rowIsWay 38 = .ok (.aload_n 1, 1) := by decide +kernel
theorem dX11_rowIsWay_39 : decode cX11_rowIsWay 39 = .ok (.getfield 171, 3) := by decide +kernel
theorem dX11_rowIsWay_42 : decode cX11_rowIsWay 42 = .ok (.iload 4, 2) := by decide +kernel
theorem dX11_rowIsWay_44 : decode cX11_rowIsWay 44 = .ok (.iaload, 1) := by decide +kernel
theorem dX11_rowIsWay_45 : decode cX11_rowIsWay 45 = .ok (.if_icmp .le 5, 3) := by decide +kernel
theorem dX11_rowIsWay_48 : decode cX11_rowIsWay 48 = .ok (.iconst 0, 1) := by decide +kernel
theorem dX11_rowIsWay_49 : decode cX11_rowIsWay 49 = .ok (.ireturn, 1) := by decide +kernel
theorem dX11_rowIsWay_50 : decode cX11_rowIsWay 50 = .ok (.iload_n 3, 1) := by decide +kernel
theorem dX11_rowIsWay_51 : decode cX11_rowIsWay 51 = .ok (.aload_n 1, 1) := by decide +kernel
theorem dX11_rowIsWay_52 : decode cX11_rowIsWay 52 = .ok (.iload 4, 2) := by decide +kernel
theorem dX11_rowIsWay_54 : decode cX11_rowIsWay 54 = .ok (.aload_n 0, 1) := by decide +kernel
theorem dX11_rowIsWay_55 : decode cX11_rowIsWay 55 = .ok (.getfield 85, 3) := by decide +kernel
theorem dX11_rowIsWay_58 : decode cX11_rowIsWay 58 = .ok (.iload 4, 2) := by decide +kernel
theorem dX11_rowIsWay_60 : decode cX11_rowIsWay 60 = .ok (.iaload, 1) := by decide +kernel
theorem dX11_rowIsWay_61 : decode cX11_rowIsWay 61 = .ok (.invokevirtual 228, 3) := by decide +kernel
theorem dX11_rowIsWay_64 : decode cX11_rowIsWay 64 = .ok (.iadd, 1) := by decide +kernel
theorem dX11_rowIsWay_65 : decode cX11_rowIsWay 65 = .ok (.istore_n 3, 1) := by decide +kernel
theorem dX11_rowIsWay_66 : decode cX11_rowIsWay 66 = .ok (.iinc 4 1, 3) := by decide +kernel
theorem dX11_rowIsWay_69 : decode cX11_rowIsWay 69 = .ok (.goto (-64), 3) := by decide +kernel
theorem dX11_rowIsWay_72 : decode cX11_rowIsWay 72 = .ok (.iload_n 3, 1) := by decide +kernel
theorem dX11_rowIsWay_73 : decode cX11_rowIsWay 73 = .ok (.iload_n 2, 1) := by decide +kernel
theorem dX11_rowIsWay_74 : decode cX11_rowIsWay 74 = .ok (.if_icmp .ne 7, 3) := by decide +kernel
theorem dX11_rowIsWay_77 : decode cX11_rowIsWay 77 = .ok (.iconst 1, 1) := by decide +kernel
theorem dX11_rowIsWay_78 : decode cX11_rowIsWay 78 = .ok (.goto 4, 3) := by decide +kernel
theorem dX11_rowIsWay_81 : decode cX11_rowIsWay 81 = .ok (.iconst 0, 1) := by decide +kernel
theorem dX11_rowIsWay_82 : decode cX11_rowIsWay 82 = .ok (.ireturn, 1) := by decide +kernel
theorem dX11_waysAhead_0 : decode cX11_waysAhead 0 = .ok (.aload_n 0, 1) := by decide +kernel
theorem dX11_waysAhead_1 : decode cX11_waysAhead 1 = .ok (.getfield 18, 3) := by decide +kernel
theorem dX11_waysAhead_4 : decode cX11_waysAhead 4 = .ok (.iload_n 1, 1) := by decide +kernel
theorem dX11_waysAhead_5 : decode cX11_waysAhead 5 = .ok (.aaload, 1) := by decide +kernel
theorem dX11_waysAhead_6 : decode cX11_waysAhead 6 = .ok (.astore_n 3, 1) := by decide +kernel
theorem dX11_waysAhead_7 : decode cX11_waysAhead 7 = .ok (.aload_n 0, 1) := by decide +kernel
theorem dX11_waysAhead_8 : decode cX11_waysAhead 8 = .ok (.getfield 60, 3) := by decide +kernel
theorem dX11_waysAhead_11 : decode cX11_waysAhead 11 = .ok (.iload_n 1, 1) := by decide +kernel
theorem dX11_waysAhead_12 : decode cX11_waysAhead 12 = .ok (.aload_n 3, 1) := by decide +kernel
theorem dX11_waysAhead_13 : decode cX11_waysAhead 13 = .ok (.invokevirtual 315, 3) := by decide +kernel
theorem dX11_waysAhead_16 : decode cX11_waysAhead 16 = .ok (.lconst 0, 1) := by decide +kernel
theorem dX11_waysAhead_17 : decode cX11_waysAhead 17 = .ok (.lstore 4, 2) := by decide +kernel
theorem dX11_waysAhead_19 : decode cX11_waysAhead 19 = .ok (.iload_n 2, 1) := by decide +kernel
theorem dX11_waysAhead_20 : decode cX11_waysAhead 20 = .ok (.istore 6, 2) := by decide +kernel
theorem dX11_waysAhead_22 : decode cX11_waysAhead 22 = .ok (.iconst 0, 1) := by decide +kernel
theorem dX11_waysAhead_23 : decode cX11_waysAhead 23 = .ok (.istore 7, 2) := by decide +kernel
theorem dX11_waysAhead_25 : decode cX11_waysAhead 25 = .ok (.iload 7, 2) := by decide +kernel
theorem dX11_waysAhead_27 : decode cX11_waysAhead 27 = .ok (.aload_n 3, 1) := by decide +kernel
theorem dX11_waysAhead_28 : decode cX11_waysAhead 28 = .ok (.getfield 125, 3) := by decide +kernel
theorem dX11_waysAhead_31 : decode cX11_waysAhead 31 = .ok (.if_icmp .ge 81, 3) := by decide +kernel
theorem dX11_waysAhead_34 : decode cX11_waysAhead 34 = .ok (.aload_n 3, 1) := by decide +kernel
theorem dX11_waysAhead_35 : decode cX11_waysAhead 35 = .ok (.getfield 168, 3) := by decide +kernel
theorem dX11_waysAhead_38 : decode cX11_waysAhead 38 = .ok (.iload 7, 2) := by decide +kernel
theorem dX11_waysAhead_40 : decode cX11_waysAhead 40 = .ok (.iaload, 1) := by decide +kernel
theorem dX11_waysAhead_41 : decode cX11_waysAhead 41 = .ok (.istore 8, 2) := by decide +kernel
theorem dX11_waysAhead_43 : decode cX11_waysAhead 43 = .ok (.iload 8, 2) := by decide +kernel
theorem dX11_waysAhead_45 : decode cX11_waysAhead 45 = .ok (.aload_n 0, 1) := by decide +kernel
theorem dX11_waysAhead_46 : decode cX11_waysAhead 46 = .ok (.getfield 85, 3) := by decide +kernel
theorem dX11_waysAhead_49 : decode cX11_waysAhead 49 = .ok (.iload 7, 2) := by decide +kernel
theorem dX11_waysAhead_51 : decode cX11_waysAhead 51 = .ok (.iaload, 1) := by decide +kernel
theorem dX11_waysAhead_52 : decode cX11_waysAhead 52 = .ok (.if_icmp .ge 36, 3) := by decide +kernel
theorem dX11_waysAhead_55 : decode cX11_waysAhead 55 = .ok (.lload 4, 2) := by decide +kernel
theorem dX11_waysAhead_57 : decode cX11_waysAhead 57 = .ok (.aload_n 0, 1) := by decide +kernel
theorem dX11_waysAhead_58 : decode cX11_waysAhead 58 = .ok (.getfield 60, 3) := by decide +kernel
theorem dX11_waysAhead_61 : decode cX11_waysAhead 61 = .ok (.iload 7, 2) := by decide +kernel
theorem dX11_waysAhead_63 : decode cX11_waysAhead 63 = .ok (.iconst 1, 1) := by decide +kernel
theorem dX11_waysAhead_64 : decode cX11_waysAhead 64 = .ok (.iadd, 1) := by decide +kernel
theorem dX11_waysAhead_65 : decode cX11_waysAhead 65 = .ok (.iload 6, 2) := by decide +kernel
theorem dX11_waysAhead_67 : decode cX11_waysAhead 67 = .ok (.aload_n 3, 1) := by decide +kernel
theorem dX11_waysAhead_68 : decode cX11_waysAhead 68 = .ok (.iload 7, 2) := by decide +kernel
theorem dX11_waysAhead_70 : decode cX11_waysAhead 70 = .ok (.iload 8, 2) := by decide +kernel
theorem dX11_waysAhead_72 : decode cX11_waysAhead 72 = .ok (.invokevirtual 228, 3) := by decide +kernel
theorem dX11_waysAhead_75 : decode cX11_waysAhead 75 = .ok (.isub, 1) := by decide +kernel
theorem dX11_waysAhead_76 : decode cX11_waysAhead 76 = .ok (.invokevirtual 334, 3) := by decide +kernel
theorem dX11_waysAhead_79 : decode cX11_waysAhead 79 = .ok (.ladd, 1) := by decide +kernel
theorem dX11_waysAhead_80 : decode cX11_waysAhead 80 = .ok (.lstore 4, 2) := by decide +kernel
theorem dX11_waysAhead_82 : decode cX11_waysAhead 82 = .ok (.iinc 8 1, 3) := by decide +kernel
theorem dX11_waysAhead_85 : decode cX11_waysAhead 85 = .ok (.goto (-42), 3) := by decide +kernel
theorem dX11_waysAhead_88 : decode cX11_waysAhead 88 = .ok (.iload 6, 2) := by decide +kernel
theorem dX11_waysAhead_90 : decode cX11_waysAhead 90 = .ok (.aload_n 3, 1) := by decide +kernel
theorem dX11_waysAhead_91 : decode cX11_waysAhead 91 = .ok (.iload 7, 2) := by decide +kernel
theorem dX11_waysAhead_93 : decode cX11_waysAhead 93 = .ok (.aload_n 0, 1) := by decide +kernel
theorem dX11_waysAhead_94 : decode cX11_waysAhead 94 = .ok (.getfield 85, 3) := by decide +kernel
theorem dX11_waysAhead_97 : decode cX11_waysAhead 97 = .ok (.iload 7, 2) := by decide +kernel
theorem dX11_waysAhead_99 : decode cX11_waysAhead 99 = .ok (.iaload, 1) := by decide +kernel
theorem dX11_waysAhead_100 : decode cX11_waysAhead 100 = .ok (.invokevirtual 228, 3) := by decide +kernel
theorem dX11_waysAhead_103 : decode cX11_waysAhead 103 = .ok (.isub, 1) := by decide +kernel
theorem dX11_waysAhead_104 : decode cX11_waysAhead 104 = .ok (.istore 6, 2) := by decide +kernel
theorem dX11_waysAhead_106 : decode cX11_waysAhead 106 = .ok (.iinc 7 1, 3) := by decide +kernel
theorem dX11_waysAhead_109 : decode cX11_waysAhead 109 = .ok (.goto (-84), 3) := by decide +kernel
theorem dX11_waysAhead_112 : decode cX11_waysAhead 112 = .ok (.lload 4, 2) := by decide +kernel
theorem dX11_waysAhead_114 : decode cX11_waysAhead 114 = .ok (.lreturn, 1) := by decide +kernel
theorem dX11_countAhead_0 : decode cX11_countAhead 0 = .ok (.aload_n 0, 1) := by decide +kernel
theorem dX11_countAhead_1 : decode cX11_countAhead 1 = .ok (.iload_n 3, 1) := by decide +kernel
theorem dX11_countAhead_2 : decode cX11_countAhead 2 = .ok (.sipush 3000, 3) := by decide +kernel
theorem dX11_countAhead_5 : decode cX11_countAhead 5 = .ok (.iadd, 1) := by decide +kernel
theorem dX11_countAhead_6 : decode cX11_countAhead 6 = .ok (.laload, 1) := by decide +kernel
theorem dX11_countAhead_7 : decode cX11_countAhead 7 = .ok (.lstore 4, 2) := by decide +kernel
theorem dX11_countAhead_9 : decode cX11_countAhead 9 = .ok (.iconst 0, 1) := by decide +kernel
theorem dX11_countAhead_10 : decode cX11_countAhead 10 = .ok (.istore 6, 2) := by decide +kernel
theorem dX11_countAhead_12 : decode cX11_countAhead 12 = .ok (.iload_n 1, 1) := by decide +kernel
theorem dX11_countAhead_13 : decode cX11_countAhead 13 = .ok (.istore 7, 2) := by decide +kernel
theorem dX11_countAhead_15 : decode cX11_countAhead 15 = .ok (.iload 7, 2) := by decide +kernel
theorem dX11_countAhead_17 : decode cX11_countAhead 17 = .ok (.iload_n 2, 1) := by decide +kernel
theorem dX11_countAhead_18 : decode cX11_countAhead 18 = .ok (.if_icmp .gt 44, 3) := by decide +kernel
theorem dX11_countAhead_21 : decode cX11_countAhead 21 = .ok (.aload_n 0, 1) := by decide +kernel
theorem dX11_countAhead_22 : decode cX11_countAhead 22 = .ok (.iload 7, 2) := by decide +kernel
theorem dX11_countAhead_24 : decode cX11_countAhead 24 = .ok (.sipush 3000, 3) := by decide +kernel
theorem dX11_countAhead_27 : decode cX11_countAhead 27 = .ok (.iadd, 1) := by decide +kernel
theorem dX11_countAhead_28 : decode cX11_countAhead 28 = .ok (.laload, 1) := by decide +kernel
theorem dX11_countAhead_29 : decode cX11_countAhead 29 = .ok (.lstore 8, 2) := by decide +kernel
theorem dX11_countAhead_31 : decode cX11_countAhead 31 = .ok (.lload 8, 2) := by decide +kernel
theorem dX11_countAhead_33 : decode cX11_countAhead 33 = .ok (.lload 4, 2) := by decide +kernel
theorem dX11_countAhead_35 : decode cX11_countAhead 35 = .ok (.lcmp, 1) := by decide +kernel
theorem dX11_countAhead_36 : decode cX11_countAhead 36 = .ok (.ifCond .gt 17, 3) := by decide +kernel
theorem dX11_countAhead_39 : decode cX11_countAhead 39 = .ok (.lload 8, 2) := by decide +kernel
theorem dX11_countAhead_41 : decode cX11_countAhead 41 = .ok (.lload 4, 2) := by decide +kernel
theorem dX11_countAhead_43 : decode cX11_countAhead 43 = .ok (.lcmp, 1) := by decide +kernel
theorem dX11_countAhead_44 : decode cX11_countAhead 44 = .ok (.ifCond .ne 12, 3) := by decide +kernel
theorem dX11_countAhead_47 : decode cX11_countAhead 47 = .ok (.iload 7, 2) := by decide +kernel
theorem dX11_countAhead_49 : decode cX11_countAhead 49 = .ok (.iload_n 3, 1) := by decide +kernel
theorem dX11_countAhead_50 : decode cX11_countAhead 50 = .ok (.if_icmp .ge 6, 3) := by decide +kernel
theorem dX11_countAhead_53 : decode cX11_countAhead 53 = .ok (.iinc 6 1, 3) := by decide +kernel
theorem dX11_countAhead_56 : decode cX11_countAhead 56 = .ok (.iinc 7 1, 3) := by decide +kernel
theorem dX11_countAhead_59 : decode cX11_countAhead 59 = .ok (.goto (-44), 3) := by decide +kernel
theorem dX11_countAhead_62 : decode cX11_countAhead 62 = .ok (.iload 6, 2) := by decide +kernel
theorem dX11_countAhead_64 : decode cX11_countAhead 64 = .ok (.ireturn, 1) := by decide +kernel
theorem dX11_greedyX_0 : decode cX11_greedyX 0 = .ok (.aload_n 0, 1) := by decide +kernel
theorem dX11_greedyX_1 : decode cX11_greedyX 1 = .ok (.getfield 168, 3) := by decide +kernel
theorem dX11_greedyX_4 : decode cX11_greedyX 4 = .ok (.iload_n 1, 1) := by decide +kernel
theorem dX11_greedyX_5 : decode cX11_greedyX 5 = .ok (.iaload, 1) := by decide +kernel
theorem dX11_greedyX_6 : decode cX11_greedyX 6 = .ok (.istore_n 3, 1) := by decide +kernel
theorem dX11_greedyX_7 : decode cX11_greedyX 7 = .ok (.aload_n 0, 1) := by decide +kernel
theorem dX11_greedyX_8 : decode cX11_greedyX 8 = .ok (.iload_n 1, 1) := by decide +kernel
theorem dX11_greedyX_9 : decode cX11_greedyX 9 = .ok (.iload_n 3, 1) := by decide +kernel
theorem dX11_greedyX_10 : decode cX11_greedyX 10 = .ok (.invokevirtual 228, 3) := by decide +kernel
theorem dX11_greedyX_13 : decode cX11_greedyX 13 = .ok (.istore 4, 2) := by decide +kernel
theorem dX11_greedyX_15 : decode cX11_greedyX 15 = .ok (.aload_n 0, 1) := by decide +kernel
theorem dX11_greedyX_16 : decode cX11_greedyX 16 = .ok (.getfield 168, 3) := by decide +kernel
theorem dX11_greedyX_19 : decode cX11_greedyX 19 = .ok (.iload_n 1, 1) := by decide +kernel
theorem dX11_greedyX_20 : decode cX11_greedyX 20 = .ok (.iaload, 1) := by decide +kernel
theorem dX11_greedyX_21 : decode cX11_greedyX 21 = .ok (.iconst 1, 1) := by decide +kernel
theorem dX11_greedyX_22 : decode cX11_greedyX 22 = .ok (.iadd, 1) := by decide +kernel
theorem dX11_greedyX_23 : decode cX11_greedyX 23 = .ok (.istore 5, 2) := by decide +kernel
theorem dX11_greedyX_25 : decode cX11_greedyX 25 = .ok (.iload 5, 2) := by decide +kernel
theorem dX11_greedyX_27 : decode cX11_greedyX 27 = .ok (.aload_n 0, 1) := by decide +kernel
theorem dX11_greedyX_28 : decode cX11_greedyX 28 = .ok (.getfield 171, 3) := by decide +kernel
theorem dX11_greedyX_31 : decode cX11_greedyX 31 = .ok (.iload_n 1, 1) := by decide +kernel
theorem dX11_greedyX_32 : decode cX11_greedyX 32 = .ok (.iaload, 1) := by decide +kernel
theorem dX11_greedyX_33 : decode cX11_greedyX 33 = .ok (.if_icmp .gt 71, 3) := by decide +kernel
theorem dX11_greedyX_36 : decode cX11_greedyX 36 = .ok (.aload_n 0, 1) := by decide +kernel
theorem dX11_greedyX_37 : decode cX11_greedyX 37 = .ok (.iload_n 1, 1) := by decide +kernel
theorem dX11_greedyX_38 : decode cX11_greedyX 38 = .ok (.iload 5, 2) := by decide +kernel
theorem dX11_greedyX_40 : decode cX11_greedyX 40 = .ok (.invokevirtual 228, 3) := by decide +kernel
theorem dX11_greedyX_43 : decode cX11_greedyX 43 = .ok (.istore 6, 2) := by decide +kernel
theorem dX11_greedyX_45 : decode cX11_greedyX 45 = .ok (.iload 4, 2) := by decide +kernel
theorem dX11_greedyX_47 : decode cX11_greedyX 47 = .ok (.iload_n 2, 1) := by decide +kernel
theorem dX11_greedyX_48 : decode cX11_greedyX 48 = .ok (.if_icmp .le 18, 3) := by decide +kernel
theorem dX11_greedyX_51 : decode cX11_greedyX 51 = .ok (.iload 6, 2) := by decide +kernel
theorem dX11_greedyX_53 : decode cX11_greedyX 53 = .ok (.iload 4, 2) := by decide +kernel
theorem dX11_greedyX_55 : decode cX11_greedyX 55 = .ok (.if_icmp .ge 7, 3) := by decide +kernel
theorem dX11_greedyX_58 : decode cX11_greedyX 58 = .ok (.iconst 1, 1) := by decide +kernel
theorem dX11_greedyX_59 : decode cX11_greedyX 59 = .ok (.goto 25, 3) := by decide +kernel
theorem dX11_greedyX_62 : decode cX11_greedyX 62 = .ok (.iconst 0, 1) := by decide +kernel
theorem dX11_greedyX_63 : decode cX11_greedyX 63 = .ok (.goto 21, 3) := by decide +kernel
theorem dX11_greedyX_66 : decode cX11_greedyX 66 = .ok (.iload 6, 2) := by decide +kernel
theorem dX11_greedyX_68 : decode cX11_greedyX 68 = .ok (.iload 4, 2) := by decide +kernel
theorem dX11_greedyX_70 : decode cX11_greedyX 70 = .ok (.if_icmp .le 13, 3) := by decide +kernel
theorem dX11_greedyX_73 : decode cX11_greedyX 73 = .ok (.iload 6, 2) := by decide +kernel
theorem dX11_greedyX_75 : decode cX11_greedyX 75 = .ok (.iload_n 2, 1) := by decide +kernel
theorem dX11_greedyX_76 : decode cX11_greedyX 76 = .ok (.if_icmp .gt 7, 3) := by decide +kernel
theorem dX11_greedyX_79 : decode cX11_greedyX 79 = .ok (.iconst 1, 1) := by decide +kernel
theorem dX11_greedyX_80 : decode cX11_greedyX 80 = .ok (.goto 4, 3) := by decide +kernel
theorem dX11_greedyX_83 : decode cX11_greedyX 83 = .ok (.iconst 0, 1) := by decide +kernel
theorem dX11_greedyX_84 : decode cX11_greedyX 84 = .ok (.istore 7, 2) := by decide +kernel
theorem dX11_greedyX_86 : decode cX11_greedyX 86 = .ok (.iload 7, 2) := by decide +kernel
theorem dX11_greedyX_88 : decode cX11_greedyX 88 = .ok (.ifCond .eq 10, 3) := by decide +kernel
theorem dX11_greedyX_91 : decode cX11_greedyX 91 = .ok (.iload 5, 2) := by decide +kernel
theorem dX11_greedyX_93 : decode cX11_greedyX 93 = .ok (.istore_n 3, 1) := by decide +kernel
theorem dX11_greedyX_94 : decode cX11_greedyX 94 = .ok (.iload 6, 2) := by decide +kernel
theorem dX11_greedyX_96 : decode cX11_greedyX 96 = .ok (.istore 4, 2) := by decide +kernel
theorem dX11_greedyX_98 : decode cX11_greedyX 98 = .ok (.iinc 5 1, 3) := by decide +kernel
theorem dX11_greedyX_101 : decode cX11_greedyX 101 = .ok (.goto (-76), 3) := by decide +kernel
theorem dX11_greedyX_104 : decode cX11_greedyX 104 = .ok (.iload_n 3, 1) := by decide +kernel
theorem dX11_greedyX_105 : decode cX11_greedyX 105 = .ok (.ireturn, 1) := by decide +kernel
theorem dX11_spellTerm_0 : decode cX11_spellTerm 0 = .ok (.aload_n 1, 1) := by decide +kernel
theorem dX11_spellTerm_1 : decode cX11_spellTerm 1 = .ok (.getfield 162, 3) := by decide +kernel
theorem dX11_spellTerm_4 : decode cX11_spellTerm 4 = .ok (.iload_n 2, 1) := by decide +kernel
theorem dX11_spellTerm_5 : decode cX11_spellTerm 5 = .ok (.iaload, 1) := by decide +kernel
theorem dX11_spellTerm_6 : decode cX11_spellTerm 6 = .ok (.iconst 1, 1) := by decide +kernel
theorem dX11_spellTerm_7 : decode cX11_spellTerm 7 = .ok (.if_icmp .eq 16, 3) := by decide +kernel
theorem dX11_spellTerm_10 : decode cX11_spellTerm 10 = .ok (.aload_n 0, 1) := by decide +kernel
theorem dX11_spellTerm_11 : decode cX11_spellTerm 11 = .ok (.getfield 81, 3) := by decide +kernel
theorem dX11_spellTerm_14 : decode cX11_spellTerm 14 = .ok (.aload_n 1, 1) := by decide +kernel
theorem dX11_spellTerm_15 : decode cX11_spellTerm 15 = .ok (.getfield 162, 3) := by decide +kernel
theorem dX11_spellTerm_18 : decode cX11_spellTerm 18 = .ok (.iload_n 2, 1) := by decide +kernel
theorem dX11_spellTerm_19 : decode cX11_spellTerm 19 = .ok (.iaload, 1) := by decide +kernel
theorem dX11_spellTerm_20 : decode cX11_spellTerm 20 = .ok (.invokevirtual 337, 3) := by decide +kernel
theorem dX11_spellTerm_23 : decode cX11_spellTerm 23 = .ok (.aload_n 0, 1) := by decide +kernel
theorem dX11_spellTerm_24 : decode cX11_spellTerm 24 = .ok (.getfield 81, 3) := by decide +kernel
theorem dX11_spellTerm_27 : decode cX11_spellTerm 27 = .ok (.aload_n 1, 1) := by decide +kernel
theorem dX11_spellTerm_28 : decode cX11_spellTerm 28 = .ok (.getfield 165, 3) := by decide +kernel
theorem dX11_spellTerm_31 : decode cX11_spellTerm 31 = .ok (.iload_n 2, 1) := by decide +kernel
theorem dX11_spellTerm_32 : decode cX11_spellTerm 32 = .ok (.iaload, 1) := by decide +kernel
theorem dX11_spellTerm_33 : decode cX11_spellTerm 33 = .ok (.invokestatic 340, 3) := by decide +kernel
theorem dX11_spellTerm_36 : decode cX11_spellTerm 36 = .ok (.invokevirtual 344, 3) := by decide +kernel
theorem dX11_spellTerm_39 : decode cX11_spellTerm 39 = .ok (.aload_n 1, 1) := by decide +kernel
theorem dX11_spellTerm_40 : decode cX11_spellTerm 40 = .ok (.getfield 168, 3) := by decide +kernel
theorem dX11_spellTerm_43 : decode cX11_spellTerm 43 = .ok (.iload_n 2, 1) := by decide +kernel
theorem dX11_spellTerm_44 : decode cX11_spellTerm 44 = .ok (.iaload, 1) := by decide +kernel
theorem dX11_spellTerm_45 : decode cX11_spellTerm 45 = .ok (.ifCond .ne 27, 3) := by decide +kernel
theorem dX11_spellTerm_48 : decode cX11_spellTerm 48 = .ok (.aload_n 1, 1) := by decide +kernel
theorem dX11_spellTerm_49 : decode cX11_spellTerm 49 = .ok (.getfield 171, 3) := by decide +kernel
theorem dX11_spellTerm_52 : decode cX11_spellTerm 52 = .ok (.iload_n 2, 1) := by decide +kernel
theorem dX11_spellTerm_53 : decode cX11_spellTerm 53 = .ok (.iaload, 1) := by decide +kernel
theorem dX11_spellTerm_54 : decode cX11_spellTerm 54 = .ok (.aload_n 1, 1) := by decide +kernel
theorem dX11_spellTerm_55 : decode cX11_spellTerm 55 = .ok (.getfield 165, 3) := by decide +kernel
theorem dX11_spellTerm_58 : decode cX11_spellTerm 58 = .ok (.iload_n 2, 1) := by decide +kernel
theorem dX11_spellTerm_59 : decode cX11_spellTerm 59 = .ok (.iaload, 1) := by decide +kernel
theorem dX11_spellTerm_60 : decode cX11_spellTerm 60 = .ok (.aload_n 1, 1) := by decide +kernel
theorem dX11_spellTerm_61 : decode cX11_spellTerm 61 = .ok (.getfield 162, 3) := by decide +kernel
theorem dX11_spellTerm_64 : decode cX11_spellTerm 64 = .ok (.iload_n 2, 1) := by decide +kernel
theorem dX11_spellTerm_65 : decode cX11_spellTerm 65 = .ok (.iaload, 1) := by decide +kernel
theorem dX11_spellTerm_66 : decode cX11_spellTerm 66 = .ok (.invokestatic 348, 3) := by decide +kernel
theorem dX11_spellTerm_69 : decode cX11_spellTerm 69 = .ok (.if_icmp .eq 49, 3) := by decide +kernel
theorem dX11_spellTerm_72 : decode cX11_spellTerm 72 = .ok (.aload_n 0, 1) := by decide +kernel
theorem dX11_spellTerm_73 : decode cX11_spellTerm 73 = .ok (.getfield 81, 3) := by decide +kernel
theorem dX11_spellTerm_76 : decode cX11_spellTerm 76 = .ok (.ldc_w 351, 3) := by decide +kernel
theorem dX11_spellTerm_79 : decode cX11_spellTerm 79 = .ok (.invokevirtual 344, 3) := by decide +kernel
theorem dX11_spellTerm_82 : decode cX11_spellTerm 82 = .ok (.aload_n 0, 1) := by decide +kernel
theorem dX11_spellTerm_83 : decode cX11_spellTerm 83 = .ok (.getfield 81, 3) := by decide +kernel
theorem dX11_spellTerm_86 : decode cX11_spellTerm 86 = .ok (.aload_n 1, 1) := by decide +kernel
theorem dX11_spellTerm_87 : decode cX11_spellTerm 87 = .ok (.getfield 168, 3) := by decide +kernel
theorem dX11_spellTerm_90 : decode cX11_spellTerm 90 = .ok (.iload_n 2, 1) := by decide +kernel
theorem dX11_spellTerm_91 : decode cX11_spellTerm 91 = .ok (.iaload, 1) := by decide +kernel
theorem dX11_spellTerm_92 : decode cX11_spellTerm 92 = .ok (.invokevirtual 337, 3) := by decide +kernel
theorem dX11_spellTerm_95 : decode cX11_spellTerm 95 = .ok (.aload_n 0, 1) := by decide +kernel
theorem dX11_spellTerm_96 : decode cX11_spellTerm 96 = .ok (.getfield 81, 3) := by decide +kernel
theorem dX11_spellTerm_99 : decode cX11_spellTerm 99 = .ok (.ldc_w 353, 3) := by decide +kernel
theorem dX11_spellTerm_102 : decode cX11_spellTerm 102 = .ok (.invokevirtual 344, 3) := by decide +kernel
theorem dX11_spellTerm_105 : decode cX11_spellTerm 105 = .ok (.aload_n 0, 1) := by decide +kernel
theorem dX11_spellTerm_106 : decode cX11_spellTerm 106 = .ok (.getfield 81, 3) := by decide +kernel
theorem dX11_spellTerm_109 : decode cX11_spellTerm 109 = .ok (.aload_n 1, 1) := by decide +kernel
theorem dX11_spellTerm_110 : decode cX11_spellTerm 110 = .ok (.getfield 171, 3) := by decide +kernel
theorem dX11_spellTerm_113 : decode cX11_spellTerm 113 = .ok (.iload_n 2, 1) := by decide +kernel
theorem dX11_spellTerm_114 : decode cX11_spellTerm 114 = .ok (.iaload, 1) := by decide +kernel
theorem dX11_spellTerm_115 : decode cX11_spellTerm 115 = .ok (.invokevirtual 337, 3) := by decide +kernel
theorem dX11_spellTerm_118 : decode cX11_spellTerm 118 = .ok (.return_, 1) := by decide +kernel
theorem dX11_writeLine_0 : decode cX11_writeLine 0 = .ok (.aload_n 0, 1) := by decide +kernel
theorem dX11_writeLine_1 : decode cX11_writeLine 1 = .ok (.getfield 81, 3) := by decide +kernel
theorem dX11_writeLine_4 : decode cX11_writeLine 4 = .ok (.iload_n 2, 1) := by decide +kernel
theorem dX11_writeLine_5 : decode cX11_writeLine 5 = .ok (.invokevirtual 337, 3) := by decide +kernel
theorem dX11_writeLine_8 : decode cX11_writeLine 8 = .ok (.aload_n 0, 1) := by decide +kernel
theorem dX11_writeLine_9 : decode cX11_writeLine 9 = .ok (.iload_n 1, 1) := by decide +kernel
theorem dX11_writeLine_10 : decode cX11_writeLine 10 = .ok (.invokevirtual 131, 3) := by decide +kernel
theorem dX11_writeLine_13 : decode cX11_writeLine 13 = .ok (.iload_n 2, 1) := by decide +kernel
theorem dX11_writeLine_14 : decode cX11_writeLine 14 = .ok (.sipush 3000, 3) := by decide +kernel
theorem dX11_writeLine_17 : decode cX11_writeLine 17 = .ok (.iadd, 1) := by decide +kernel
theorem dX11_writeLine_18 : decode cX11_writeLine 18 = .ok (.laload, 1) := by decide +kernel
theorem dX11_writeLine_19 : decode cX11_writeLine 19 = .ok (.lconst 0, 1) := by decide +kernel
theorem dX11_writeLine_20 : decode cX11_writeLine 20 = .ok (.lcmp, 1) := by decide +kernel
theorem dX11_writeLine_21 : decode cX11_writeLine 21 = .ok (.ifCond .ne 16, 3) := by decide +kernel
theorem dX11_writeLine_24 : decode cX11_writeLine 24 = .ok (.aload_n 0, 1) := by decide +kernel
theorem dX11_writeLine_25 : decode cX11_writeLine 25 = .ok (.getfield 81, 3) := by decide +kernel
theorem dX11_writeLine_28 : decode cX11_writeLine 28 = .ok (.ldc_w 355, 3) := by decide +kernel
theorem dX11_writeLine_31 : decode cX11_writeLine 31 = .ok (.invokevirtual 344, 3) := by decide +kernel
theorem dX11_writeLine_34 : decode cX11_writeLine 34 = .ok (.goto 62, 3) := by decide +kernel
theorem dX11_writeLine_37 : decode cX11_writeLine 37 = .ok (.aload_n 0, 1) := by decide +kernel
theorem dX11_writeLine_38 : decode cX11_writeLine 38 = .ok (.iload_n 1, 1) := by decide +kernel
theorem dX11_writeLine_39 : decode cX11_writeLine 39 = .ok (.iload_n 2, 1) := by decide +kernel
theorem dX11_writeLine_40 : decode cX11_writeLine 40 = .ok (.lconst 0, 1) := by decide +kernel
theorem dX11_writeLine_41 : decode cX11_writeLine 41 = .ok (.invokevirtual 182, 3) := by decide +kernel
theorem dX11_writeLine_44 : decode cX11_writeLine 44 = .ok (.iconst 0, 1) := by decide +kernel
theorem dX11_writeLine_45 : decode cX11_writeLine 45 = .ok (.istore_n 3, 1) := by decide +kernel
theorem dX11_writeLine_46 : decode cX11_writeLine 46 = .ok (.iload_n 3, 1) := by decide +kernel
theorem dX11_writeLine_47 : decode cX11_writeLine 47 = .ok (.aload_n 0, 1) := by decide +kernel
theorem dX11_writeLine_48 : decode cX11_writeLine 48 = .ok (.getfield 18, 3) := by decide +kernel
theorem dX11_writeLine_51 : decode cX11_writeLine 51 = .ok (.iload_n 1, 1) := by decide +kernel
theorem dX11_writeLine_52 : decode cX11_writeLine 52 = .ok (.aaload, 1) := by decide +kernel
theorem dX11_writeLine_53 : decode cX11_writeLine 53 = .ok (.getfield 125, 3) := by decide +kernel
theorem dX11_writeLine_56 : decode cX11_writeLine 56 = .ok (.if_icmp .ge 40, 3) := by decide +kernel
theorem dX11_writeLine_59 : decode cX11_writeLine 59 = .ok (.aload_n 0, 1) := by decide +kernel
theorem dX11_writeLine_60 : decode cX11_writeLine 60 = .ok (.getfield 81, 3) := by decide +kernel
theorem dX11_writeLine_63 : decode cX11_writeLine 63 = .ok (.iload_n 3, 1) := by decide +kernel
theorem dX11_writeLine_64 : decode cX11_writeLine 64 = .ok (.ifCond .ne 8, 3) := by decide +kernel
theorem dX11_writeLine_67 : decode cX11_writeLine 67 = .ok (.bipush 61, 2) := by decide +kernel
theorem dX11_writeLine_69 : decode cX11_writeLine 69 = .ok (.goto 5, 3) := by decide +kernel
theorem dX11_writeLine_72 : decode cX11_writeLine 72 = .ok (.bipush 44, 2) := by decide +kernel
theorem dX11_writeLine_74 : decode cX11_writeLine 74 = .ok (.invokevirtual 281, 3) := by decide +kernel
theorem dX11_writeLine_77 : decode cX11_writeLine 77 = .ok (.aload_n 0, 1) := by decide +kernel
theorem dX11_writeLine_78 : decode cX11_writeLine 78 = .ok (.getfield 81, 3) := by decide +kernel
theorem dX11_writeLine_81 : decode cX11_writeLine 81 = .ok (.aload_n 0, 1) := by decide +kernel
theorem dX11_writeLine_82 : decode cX11_writeLine 82 = .ok (.getfield 85, 3) := by decide +kernel
theorem dX11_writeLine_85 : decode cX11_writeLine 85 = .ok (.iload_n 3, 1) := by decide +kernel
theorem dX11_writeLine_86 : decode cX11_writeLine 86 = .ok (.iaload, 1) := by decide +kernel
theorem dX11_writeLine_87 : decode cX11_writeLine 87 = .ok (.invokevirtual 337, 3) := by decide +kernel
theorem dX11_writeLine_90 : decode cX11_writeLine 90 = .ok (.iinc 3 1, 3) := by decide +kernel
theorem dX11_writeLine_93 : decode cX11_writeLine 93 = .ok (.goto (-47), 3) := by decide +kernel
theorem dX11_writeLine_96 : decode cX11_writeLine 96 = .ok (.aload_n 0, 1) := by decide +kernel
theorem dX11_writeLine_97 : decode cX11_writeLine 97 = .ok (.getfield 81, 3) := by decide +kernel
theorem dX11_writeLine_100 : decode cX11_writeLine 100 = .ok (.bipush 59, 2) := by decide +kernel
theorem dX11_writeLine_102 : decode cX11_writeLine 102 = .ok (.invokevirtual 281, 3) := by decide +kernel
theorem dX11_writeLine_105 : decode cX11_writeLine 105 = .ok (.return_, 1) := by decide +kernel
theorem dX11_kindWord_0 : decode cX11_kindWord 0 = .ok (.iload_n 0, 1) := by decide +kernel
theorem dX11_kindWord_1 : decode cX11_kindWord 1 = .ok (.tableswitch 47 0 3 #[31, 35, 39, 43], 31) := by decide +kernel
theorem dX11_kindWord_32 : decode cX11_kindWord 32 = .ok (.ldc_w 357, 3) := by decide +kernel
theorem dX11_kindWord_35 : decode cX11_kindWord 35 = .ok (.areturn, 1) := by decide +kernel
theorem dX11_kindWord_36 : decode cX11_kindWord 36 = .ok (.ldc_w 359, 3) := by decide +kernel
theorem dX11_kindWord_39 : decode cX11_kindWord 39 = .ok (.areturn, 1) := by decide +kernel
theorem dX11_kindWord_40 : decode cX11_kindWord 40 = .ok (.ldc_w 361, 3) := by decide +kernel
theorem dX11_kindWord_43 : decode cX11_kindWord 43 = .ok (.areturn, 1) := by decide +kernel
theorem dX11_kindWord_44 : decode cX11_kindWord 44 = .ok (.ldc_w 363, 3) := by decide +kernel
theorem dX11_kindWord_47 : decode cX11_kindWord 47 = .ok (.areturn, 1) := by decide +kernel
theorem dX11_kindWord_48 : decode cX11_kindWord 48 = .ok (.ldc_w 365, 3) := by decide +kernel
theorem dX11_kindWord_51 : decode cX11_kindWord 51 = .ok (.areturn, 1) := by decide +kernel
theorem dX11_powerValue_0 : decode cX11_powerValue 0 = .ok (.iload_n 2, 1) := by decide +kernel
theorem dX11_powerValue_1 : decode cX11_powerValue 1 = .ok (.i2l, 1) := by decide +kernel
theorem dX11_powerValue_2 : decode cX11_powerValue 2 = .ok (.lstore_n 3, 1) := by decide +kernel
theorem dX11_powerValue_3 : decode cX11_powerValue 3 = .ok (.iload_n 0, 1) := by decide +kernel
theorem dX11_powerValue_4 : decode cX11_powerValue 4 = .ok (.tableswitch 64 0 3 #[32, 37, 44, 53], 32) := by decide +kernel
theorem dX11_powerValue_36 : decode cX11_powerValue 36 = .ok (.iload_n 1, 1) := by decide +kernel
theorem dX11_powerValue_37 : decode cX11_powerValue 37 = .ok (.i2l, 1) := by decide +kernel
theorem dX11_powerValue_38 : decode cX11_powerValue 38 = .ok (.lload_n 3, 1) := by decide +kernel
theorem dX11_powerValue_39 : decode cX11_powerValue 39 = .ok (.lmul, 1) := by decide +kernel
theorem dX11_powerValue_40 : decode cX11_powerValue 40 = .ok (.lreturn, 1) := by decide +kernel
theorem dX11_powerValue_41 : decode cX11_powerValue 41 = .ok (.iload_n 1, 1) := by decide +kernel
theorem dX11_powerValue_42 : decode cX11_powerValue 42 = .ok (.i2l, 1) := by decide +kernel
theorem dX11_powerValue_43 : decode cX11_powerValue 43 = .ok (.lload_n 3, 1) := by decide +kernel
theorem dX11_powerValue_44 : decode cX11_powerValue 44 = .ok (.lload_n 3, 1) := by decide +kernel
theorem dX11_powerValue_45 : decode cX11_powerValue 45 = .ok (.lmul, 1) := by decide +kernel
theorem dX11_powerValue_46 : decode cX11_powerValue 46 = .ok (.lmul, 1) := by decide +kernel
theorem dX11_powerValue_47 : decode cX11_powerValue 47 = .ok (.lreturn, 1) := by decide +kernel
theorem dX11_powerValue_48 : decode cX11_powerValue 48 = .ok (.iload_n 1, 1) := by decide +kernel
theorem dX11_powerValue_49 : decode cX11_powerValue 49 = .ok (.i2l, 1) := by decide +kernel
theorem dX11_powerValue_50 : decode cX11_powerValue 50 = .ok (.lload_n 3, 1) := by decide +kernel
theorem dX11_powerValue_51 : decode cX11_powerValue 51 = .ok (.lload_n 3, 1) := by decide +kernel
theorem dX11_powerValue_52 : decode cX11_powerValue 52 = .ok (.lmul, 1) := by decide +kernel
theorem dX11_powerValue_53 : decode cX11_powerValue 53 = .ok (.lload_n 3, 1) := by decide +kernel
theorem dX11_powerValue_54 : decode cX11_powerValue 54 = .ok (.lmul, 1) := by decide +kernel
theorem dX11_powerValue_55 : decode cX11_powerValue 55 = .ok (.lmul, 1) := by decide +kernel
theorem dX11_powerValue_56 : decode cX11_powerValue 56 = .ok (.lreturn, 1) := by decide +kernel
theorem dX11_powerValue_57 : decode cX11_powerValue 57 = .ok (.iload_n 1, 1) := by decide +kernel
theorem dX11_powerValue_58 : decode cX11_powerValue 58 = .ok (.i2l, 1) := by decide +kernel
theorem dX11_powerValue_59 : decode cX11_powerValue 59 = .ok (.lload_n 3, 1) := by decide +kernel
theorem dX11_powerValue_60 : decode cX11_powerValue 60 = .ok (.lload_n 3, 1) := by decide +kernel
theorem dX11_powerValue_61 : decode cX11_powerValue 61 = .ok (.lmul, 1) := by decide +kernel
theorem dX11_powerValue_62 : decode cX11_powerValue 62 = .ok (.lload_n 3, 1) := by decide +kernel
theorem dX11_powerValue_63 : decode cX11_powerValue 63 = .ok (.lmul, 1) := by decide +kernel
theorem dX11_powerValue_64 : decode cX11_powerValue 64 = .ok (.lload_n 3, 1) := by decide +kernel
theorem dX11_powerValue_65 : decode cX11_powerValue 65 = .ok (.lmul, 1) := by decide +kernel
theorem dX11_powerValue_66 : decode cX11_powerValue 66 = .ok (.lmul, 1) := by decide +kernel
theorem dX11_powerValue_67 : decode cX11_powerValue 67 = .ok (.lreturn, 1) := by decide +kernel
theorem dX11_powerValue_68 : decode cX11_powerValue 68 = .ok (.iload_n 1, 1) := by decide +kernel
theorem dX11_powerValue_69 : decode cX11_powerValue 69 = .ok (.i2l, 1) := by decide +kernel
theorem dX11_powerValue_70 : decode cX11_powerValue 70 = .ok (.lload_n 3, 1) := by decide +kernel
theorem dX11_powerValue_71 : decode cX11_powerValue 71 = .ok (.lload_n 3, 1) := by decide +kernel
theorem dX11_powerValue_72 : decode cX11_powerValue 72 = .ok (.lconst 1, 1) := by decide +kernel
theorem dX11_powerValue_73 : decode cX11_powerValue 73 = .ok (.ladd, 1) := by decide +kernel
theorem dX11_powerValue_74 : decode cX11_powerValue 74 = .ok (.lmul, 1) := by decide +kernel
theorem dX11_powerValue_75 : decode cX11_powerValue 75 = .ok (.ldc2_w 367, 3) := by decide +kernel
theorem dX11_powerValue_78 : decode cX11_powerValue 78 = .ok (.ldiv, 1) := by decide +kernel
theorem dX11_powerValue_79 : decode cX11_powerValue 79 = .ok (.lmul, 1) := by decide +kernel
theorem dX11_powerValue_80 : decode cX11_powerValue 80 = .ok (.lreturn, 1) := by decide +kernel
theorem dX11_isBeyond_0 : decode cX11_isBeyond 0 = .ok (.lload_n 0, 1) := by decide +kernel
theorem dX11_isBeyond_1 : decode cX11_isBeyond 1 = .ok (.ldc2_w 369, 3) := by decide +kernel
theorem dX11_isBeyond_4 : decode cX11_isBeyond 4 = .ok (.lcmp, 1) := by decide +kernel
theorem dX11_isBeyond_5 : decode cX11_isBeyond 5 = .ok (.ifCond .lt 11, 3) := by decide +kernel
theorem dX11_isBeyond_8 : decode cX11_isBeyond 8 = .ok (.lload_n 0, 1) := by decide +kernel
theorem dX11_isBeyond_9 : decode cX11_isBeyond 9 = .ok (.ldc2_w 371, 3) := by decide +kernel
theorem dX11_isBeyond_12 : decode cX11_isBeyond 12 = .ok (.lcmp, 1) := by decide +kernel
theorem dX11_isBeyond_13 : decode cX11_isBeyond 13 = .ok (.ifCond .le 7, 3) := by decide +kernel
theorem dX11_isBeyond_16 : decode cX11_isBeyond 16 = .ok (.iconst 1, 1) := by decide +kernel
theorem dX11_isBeyond_17 : decode cX11_isBeyond 17 = .ok (.goto 4, 3) := by decide +kernel
theorem dX11_isBeyond_20 : decode cX11_isBeyond 20 = .ok (.iconst 0, 1) := by decide +kernel
theorem dX11_isBeyond_21 : decode cX11_isBeyond 21 = .ok (.ireturn, 1) := by decide +kernel
theorem dX11_greatestX_0 : decode cX11_greatestX 0 = .ok (.iconst 0, 1) := by decide +kernel
theorem dX11_greatestX_1 : decode cX11_greatestX 1 = .ok (.istore_n 2, 1) := by decide +kernel
theorem dX11_greatestX_2 : decode cX11_greatestX 2 = .ok (.iload_n 2, 1) := by decide +kernel
theorem dX11_greatestX_3 : decode cX11_greatestX 3 = .ok (.sipush 3000, 3) := by decide +kernel
theorem dX11_greatestX_6 : decode cX11_greatestX 6 = .ok (.if_icmp .ge 24, 3) := by decide +kernel
theorem dX11_greatestX_9 : decode cX11_greatestX 9 = .ok (.iload_n 0, 1) := by decide +kernel
theorem dX11_greatestX_10 : decode cX11_greatestX 10 = .ok (.iload_n 1, 1) := by decide +kernel
theorem dX11_greatestX_11 : decode cX11_greatestX 11 = .ok (.iload_n 2, 1) := by decide +kernel
theorem dX11_greatestX_12 : decode cX11_greatestX 12 = .ok (.iconst 1, 1) := by decide +kernel
theorem dX11_greatestX_13 : decode cX11_greatestX 13 = .ok (.iadd, 1) := by decide +kernel
theorem dX11_greatestX_14 : decode cX11_greatestX 14 = .ok (.invokestatic 373, 3) := by decide +kernel
theorem dX11_greatestX_17 : decode cX11_greatestX 17 = .ok (.ldc2_w 371, 3) := by decide +kernel
theorem dX11_greatestX_20 : decode cX11_greatestX 20 = .ok (.lcmp, 1) := by decide +kernel
theorem dX11_greatestX_21 : decode cX11_greatestX 21 = .ok (.ifCond .gt 9, 3) := by decide +kernel
theorem dX11_greatestX_24 : decode cX11_greatestX 24 = .ok (.iinc 2 1, 3) := by decide +kernel
theorem dX11_greatestX_27 : decode cX11_greatestX 27 = .ok (.goto (-25), 3) := by decide +kernel
theorem dX11_greatestX_30 : decode cX11_greatestX 30 = .ok (.iload_n 2, 1) := by decide +kernel
theorem dX11_greatestX_31 : decode cX11_greatestX 31 = .ok (.ireturn, 1) := by decide +kernel
