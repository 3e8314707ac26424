/-! DECODE ROWS X5 X6 X7 -/
theorem dX5_init_0 : decode cX5_init 0 = .ok (.aload_n 0, 1) := by decide +kernel
theorem dX5_init_1 : decode cX5_init 1 = .ok (.invokespecial 3, 3) := by decide +kernel
theorem dX5_init_4 : decode cX5_init 4 = .ok (.aload_n 0, 1) := by decide +kernel
theorem dX5_init_5 : decode cX5_init 5 = .ok (.sipush 2400, 3) := by decide +kernel
theorem dX5_init_8 : decode cX5_init 8 = .ok (.newarray .byte, 2) := by decide +kernel
theorem dX5_init_10 : decode cX5_init 10 = .ok (.putfield 9, 3) := by decide +kernel
theorem dX5_init_13 : decode cX5_init 13 = .ok (.return_, 1) := by decide +kernel
theorem dX5_putSign_0 : decode cX5_putSign 0 = .ok (.aload_n 0, 1) := by decide +kernel
theorem dX5_putSign_1 : decode cX5_putSign 1 = .ok (.getfield 15, 3) := by decide +kernel
theorem dX5_putSign_4 : decode cX5_putSign 4 = .ok (.sipush 2400, 3) := by decide +kernel
theorem dX5_putSign_7 : decode cX5_putSign 7 = .ok (.if_icmp .ge 24, 3) := by decide +kernel
theorem dX5_putSign_10 : decode cX5_putSign 10 = .ok (.aload_n 0, 1) := by decide +kernel
theorem dX5_putSign_11 : decode cX5_putSign 11 = .ok (.getfield 9, 3) := by decide +kernel
theorem dX5_putSign_14 : decode cX5_putSign 14 = .ok (.aload_n 0, 1) := by decide +kernel
theorem dX5_putSign_15 : decode cX5_putSign 15 = .ok (.getfield 15, 3) := by decide +kernel
theorem dX5_putSign_18 : decode cX5_putSign 18 = .ok (.iload_n 1, 1) := by decide +kernel
theorem dX5_putSign_19 : decode cX5_putSign 19 = .ok (.i2b, 1) := by decide +kernel
theorem dX5_putSign_20 : decode cX5_putSign 20 = .ok (.bastore, 1) := by decide +kernel
theorem dX5_putSign_21 : decode cX5_putSign 21 = .ok (.aload_n 0, 1) := by decide +kernel
theorem dX5_putSign_22 : decode cX5_putSign 22 = .ok (.dup, 1) := by decide +kernel
theorem dX5_putSign_23 : decode cX5_putSign 23 = .ok (.getfield 15, 3) := by decide +kernel
theorem dX5_putSign_26 : decode cX5_putSign 26 = .ok (.iconst 1, 1) := by decide +kernel
theorem dX5_putSign_27 : decode cX5_putSign 27 = .ok (.iadd, 1) := by decide +kernel
theorem dX5_putSign_28 : decode cX5_putSign 28 = .ok (.putfield 15, 3) := by decide +kernel
theorem dX5_putSign_31 : decode cX5_putSign 31 = .ok (.return_, 1) := by decide +kernel
theorem dX5_putText_0 : decode cX5_putText 0 = .ok (.iconst 0, 1) := by decide +kernel
theorem dX5_putText_1 : decode cX5_putText 1 = .ok (.istore_n 2, 1) := by decide +kernel
theorem dX5_putText_2 : decode cX5_putText 2 = .ok (.iload_n 2, 1) := by decide +kernel
theorem dX5_putText_3 : decode cX5_putText 3 = .ok (.aload_n 1, 1) := by decide +kernel
theorem dX5_putText_4 : decode cX5_putText 4 = .ok (.invokevirtual 19, 3) := by decide +kernel
theorem dX5_putText_7 : decode cX5_putText 7 = .ok (.if_icmp .ge 18, 3) := by decide +kernel
theorem dX5_putText_10 : decode cX5_putText 10 = .ok (.aload_n 0, 1) := by decide +kernel
theorem dX5_putText_11 : decode cX5_putText 11 = .ok (.aload_n 1, 1) := by decide +kernel
theorem dX5_putText_12 : decode cX5_putText 12 = .ok (.iload_n 2, 1) := by decide +kernel
theorem dX5_putText_13 : decode cX5_putText 13 = .ok (.invokevirtual 25, 3) := by decide +kernel
theorem dX5_putText_16 : decode cX5_putText 16 = .ok (.invokevirtual 29, 3) := by decide +kernel
theorem dX5_putText_19 : decode cX5_putText 19 = .ok (.iinc 2 1, 3) := by decide +kernel
theorem dX5_putText_22 : decode cX5_putText 22 = .ok (.goto (-20), 3) := by decide +kernel
theorem dX5_putText_25 : decode cX5_putText 25 = .ok (.return_, 1) := by decide +kernel
theorem dX5_putInt_0 : decode cX5_putInt 0 = .ok (.iload_n 1, 1) := by decide +kernel
theorem dX5_putInt_1 : decode cX5_putInt 1 = .ok (.ifCond .ge 9, 3) := by decide +kernel
theorem dX5_putInt_4 : decode cX5_putInt 4 = .ok (.aload_n 0, 1) := by decide +kernel
theorem dX5_putInt_5 : decode cX5_putInt 5 = .ok (.bipush 45, 2) := by decide +kernel
theorem dX5_putInt_7 : decode cX5_putInt 7 = .ok (.invokevirtual 29, 3) := by decide +kernel
theorem dX5_putInt_10 : decode cX5_putInt 10 = .ok (.iload_n 1, 1) := by decide +kernel
theorem dX5_putInt_11 : decode cX5_putInt 11 = .ok (.invokestatic 33, 3) := by decide +kernel
theorem dX5_putInt_14 : decode cX5_putInt 14 = .ok (.istore_n 2, 1) := by decide +kernel
theorem dX5_putInt_15 : decode cX5_putInt 15 = .ok (.iconst 0, 1) := by decide +kernel
theorem dX5_putInt_16 : decode cX5_putInt 16 = .ok (.istore_n 3, 1) := by decide +kernel
theorem dX5_putInt_17 : decode cX5_putInt 17 = .ok (.sipush 1000, 3) := by decide +kernel
theorem dX5_putInt_20 : decode cX5_putInt 20 = .ok (.istore 4, 2) := by decide +kernel
theorem dX5_putInt_22 : decode cX5_putInt 22 = .ok (.iload 4, 2) := by decide +kernel
theorem dX5_putInt_24 : decode cX5_putInt 24 = .ok (.ifCond .le 57, 3) := by decide +kernel
theorem dX5_putInt_27 : decode cX5_putInt 27 = .ok (.iload_n 2, 1) := by decide +kernel
theorem dX5_putInt_28 : decode cX5_putInt 28 = .ok (.iload 4, 2) := by decide +kernel
theorem dX5_putInt_30 : decode cX5_putInt 30 = .ok (.idiv, 1) := by decide +kernel
theorem dX5_putInt_31 : decode cX5_putInt 31 = .ok (.bipush 10, 2) := by decide +kernel
theorem dX5_putInt_33 : decode cX5_putInt 33 = .ok (.irem, 1) := by decide +kernel
theorem dX5_putInt_34 : decode cX5_putInt 34 = .ok (.istore 5, 2) := by decide +kernel
theorem dX5_putInt_36 : decode cX5_putInt 36 = .ok (.iload_n 3, 1) := by decide +kernel
theorem dX5_putInt_37 : decode cX5_putInt 37 = .ok (.ifCond .ne 14, 3) := by decide +kernel
theorem dX5_putInt_40 : decode cX5_putInt 40 = .ok (.iload 5, 2) := by decide +kernel
theorem dX5_putInt_42 : decode cX5_putInt 42 = .ok (.ifCond .gt 9, 3) := by decide +kernel
theorem dX5_putInt_45 : decode cX5_putInt 45 = .ok (.iload 4, 2) := by decide +kernel
theorem dX5_putInt_47 : decode cX5_putInt 47 = .ok (.iconst 1, 1) := by decide +kernel
theorem dX5_putInt_48 : decode cX5_putInt 48 = .ok (.if_icmp .ne 7, 3) := by decide +kernel
theorem dX5_putInt_51 : decode cX5_putInt 51 = .ok (.iconst 1, 1) := by decide +kernel
theorem dX5_putInt_52 : decode cX5_putInt 52 = .ok (.goto 4, 3) := by decide +kernel
theorem dX5_putInt_55 : decode cX5_putInt 55 = .ok (.iconst 0, 1) := by decide +kernel
theorem dX5_putInt_56 : decode cX5_putInt 56 = .ok (.istore_n 3, 1) := by decide +kernel
theorem dX5_putInt_57 : decode cX5_putInt 57 = .ok (.iload_n 3, 1) := by decide +kernel
theorem dX5_putInt_58 : decode cX5_putInt 58 = .ok (.ifCond .eq 13, 3) := by decide +kernel
theorem dX5_putInt_61 : decode cX5_putInt 61 = .ok (.aload_n 0, 1) := by decide +kernel
theorem dX5_putInt_62 : decode cX5_putInt 62 = .ok (.bipush 48, 2) := by decide +kernel
theorem dX5_putInt_64 : decode cX5_putInt 64 = .ok (.iload 5, 2) := by decide +kernel
theorem dX5_putInt_66 : decode cX5_putInt 66 = .ok (.iadd, 1) := by decide +kernel
theorem dX5_putInt_67 : decode cX5_putInt 67 = .ok (.i2c, 1) := by decide +kernel
theorem dX5_putInt_68 : decode cX5_putInt 68 = .ok (.invokevirtual 29, 3) := by decide +kernel
theorem dX5_putInt_71 : decode cX5_putInt 71 = .ok (.iload 4, 2) := by decide +kernel
theorem dX5_putInt_73 : decode cX5_putInt 73 = .ok (.bipush 10, 2) := by decide +kernel
theorem dX5_putInt_75 : decode cX5_putInt 75 = .ok (.idiv, 1) := by decide +kernel
theorem dX5_putInt_76 : decode cX5_putInt 76 = .ok (.istore 4, 2) := by decide +kernel
theorem dX5_putInt_78 : decode cX5_putInt 78 = .ok (.goto (-56), 3) := by decide +kernel
theorem dX5_putInt_81 : decode cX5_putInt 81 = .ok (.return_, 1) := by decide +kernel
theorem dX6_init_0 : decode cX6_init 0 = .ok (.aload_n 0, 1) := by decide +kernel
theorem dX6_init_1 : decode cX6_init 1 = .ok (.invokespecial 3, 3) := by decide +kernel
theorem dX6_init_4 : decode cX6_init 4 = .ok (.aload_n 0, 1) := by decide +kernel
theorem dX6_init_5 : decode cX6_init 5 = .ok (.aload_n 1, 1) := by decide +kernel
theorem dX6_init_6 : decode cX6_init 6 = .ok (.putfield 9, 3) := by decide +kernel
theorem dX6_init_9 : decode cX6_init 9 = .ok (.aload_n 0, 1) := by decide +kernel
theorem dX6_init_10 : decode cX6_init 10 = .ok (.bipush 60, 2) := by decide +kernel
theorem dX6_init_12 : decode cX6_init 12 = .ok (.newarray .int, 2) := by decide +kernel
theorem dX6_init_14 : decode cX6_init 14 = .ok (.putfield 15, 3) := by decide +kernel
theorem dX6_init_17 : decode cX6_init 17 = .ok (.return_, 1) := by decide +kernel
theorem dX6_readAll_0 : decode cX6_readAll 0 = .ok (.aload_n 0, 1) := by decide +kernel
theorem dX6_readAll_1 : decode cX6_readAll 1 = .ok (.aload_n 1, 1) := by decide +kernel
theorem dX6_readAll_2 : decode cX6_readAll 2 = .ok (.putfield 19, 3) := by decide +kernel
theorem dX6_readAll_5 : decode cX6_readAll 5 = .ok (.aload_n 0, 1) := by decide +kernel
theorem dX6_readAll_6 : decode cX6_readAll 6 = .ok (.aload_n 2, 1) := by decide +kernel
theorem dX6_readAll_7 : decode cX6_readAll 7 = .ok (.putfield 23, 3) := by decide +kernel
theorem dX6_readAll_10 : decode cX6_readAll 10 = .ok (.aload_n 0, 1) := by decide +kernel
theorem dX6_readAll_11 : decode cX6_readAll 11 = .ok (.getfield 9, 3) := by decide +kernel
theorem dX6_readAll_14 : decode cX6_readAll 14 = .ok (.iconst 0, 1) := by decide +kernel
theorem dX6_readAll_15 : decode cX6_readAll 15 = .ok (.iconst (-1), 1) := by decide +kernel
theorem dX6_readAll_16 : decode cX6_readAll 16 = .ok (.invokevirtual 27, 3) := by decide +kernel
theorem dX6_readAll_19 : decode cX6_readAll 19 = .ok (.iconst 0, 1) := by decide +kernel
theorem dX6_readAll_20 : decode cX6_readAll 20 = .ok (.istore_n 3, 1) := by decide +kernel
theorem dX6_readAll_21 : decode cX6_readAll 21 = .ok (.iload_n 3, 1) := by decide +kernel
theorem dX6_readAll_22 : decode cX6_readAll 22 = .ok (.bipush 60, 2) := by decide +kernel
theorem dX6_readAll_24 : decode cX6_readAll 24 = .ok (.if_icmp .gt 39, 3) := by decide +kernel
theorem dX6_readAll_27 : decode cX6_readAll 27 = .ok (.aload_n 0, 1) := by decide +kernel
theorem dX6_readAll_28 : decode cX6_readAll 28 = .ok (.getfield 9, 3) := by decide +kernel
theorem dX6_readAll_31 : decode cX6_readAll 31 = .ok (.iload_n 3, 1) := by decide +kernel
theorem dX6_readAll_32 : decode cX6_readAll 32 = .ok (.putfield 33, 3) := by decide +kernel
theorem dX6_readAll_35 : decode cX6_readAll 35 = .ok (.aload_n 0, 1) := by decide +kernel
theorem dX6_readAll_36 : decode cX6_readAll 36 = .ok (.getfield 9, 3) := by decide +kernel
theorem dX6_readAll_39 : decode cX6_readAll 39 = .ok (.invokevirtual 37, 3) := by decide +kernel
theorem dX6_readAll_42 : decode cX6_readAll 42 = .ok (.ifCond .eq 5, 3) := by decide +kernel
theorem dX6_readAll_45 : decode cX6_readAll 45 = .ok (.iload_n 3, 1) := by decide +kernel
theorem dX6_readAll_46 : decode cX6_readAll 46 = .ok (.ireturn, 1) := by decide +kernel
theorem dX6_readAll_47 : decode cX6_readAll 47 = .ok (.aload_n 0, 1) := by decide +kernel
theorem dX6_readAll_48 : decode cX6_readAll 48 = .ok (.iload_n 3, 1) := by decide +kernel
theorem dX6_readAll_49 : decode cX6_readAll 49 = .ok (.invokevirtual 41, 3) := by decide +kernel
theorem dX6_readAll_52 : decode cX6_readAll 52 = .ok (.ifCond .ne 5, 3) := by decide +kernel
theorem dX6_readAll_55 : decode cX6_readAll 55 = .ok (.iconst (-1), 1) := by decide +kernel
theorem dX6_readAll_56 : decode cX6_readAll 56 = .ok (.ireturn, 1) := by decide +kernel
theorem dX6_readAll_57 : decode cX6_readAll 57 = .ok (.iinc 3 1, 3) := by decide +kernel
theorem dX6_readAll_60 : decode cX6_readAll 60 = .ok (.goto (-39), 3) := by decide +kernel
theorem dX6_readAll_63 : decode cX6_readAll 63 = .ok (.iconst (-1), 1) := by decide +kernel
theorem dX6_readAll_64 : decode cX6_readAll 64 = .ok (.ireturn, 1) := by decide +kernel
theorem dX6_readLine_0 : decode cX6_readLine 0 = .ok (.iload_n 1, 1) := by decide +kernel
theorem dX6_readLine_1 : decode cX6_readLine 1 = .ok (.bipush 60, 2) := by decide +kernel
theorem dX6_readLine_3 : decode cX6_readLine 3 = .ok (.if_icmp .lt 7, 3) := by decide +kernel
theorem dX6_readLine_6 : decode cX6_readLine 6 = .ok (.iconst 1, 1) := by decide +kernel
theorem dX6_readLine_7 : decode cX6_readLine 7 = .ok (.goto 4, 3) := by decide +kernel
theorem dX6_readLine_10 : decode cX6_readLine 10 = .ok (.iconst 0, 1) := by decide +kernel
theorem dX6_readLine_11 : decode cX6_readLine 11 = .ok (.istore_n 2, 1) := by decide +kernel
theorem dX6_readLine_12 : decode cX6_readLine 12 = .ok (.iload_n 2, 1) := by decide +kernel
theorem dX6_readLine_13 : decode cX6_readLine 13 = .ok (.ifCond .eq 25, 3) := by decide +kernel
theorem dX6_readLine_16 : decode cX6_readLine 16 = .ok (.aload_n 0, 1) := by decide +kernel
theorem dX6_readLine_17 : decode cX6_readLine 17 = .ok (.getfield 9, 3) := by decide +kernel
theorem dX6_readLine_20 : decode cX6_readLine 20 = .ok (.bipush 45, 2) := by decide +kernel
theorem dX6_readLine_22 : decode cX6_readLine 22 = .ok (.invokevirtual 45, 3) := by decide +kernel
theorem dX6_readLine_25 : decode cX6_readLine 25 = .ok (.ifCond .eq 13, 3) := by decide +kernel
theorem dX6_readLine_28 : decode cX6_readLine 28 = .ok (.aload_n 0, 1) := by decide +kernel
theorem dX6_readLine_29 : decode cX6_readLine 29 = .ok (.getfield 9, 3) := by decide +kernel
theorem dX6_readLine_32 : decode cX6_readLine 32 = .ok (.bipush 9, 2) := by decide +kernel
theorem dX6_readLine_34 : decode cX6_readLine 34 = .ok (.invokevirtual 49, 3) := by decide +kernel
theorem dX6_readLine_37 : decode cX6_readLine 37 = .ok (.ireturn, 1) := by decide +kernel
theorem dX6_readLine_38 : decode cX6_readLine 38 = .ok (.aload_n 0, 1) := by decide +kernel
theorem dX6_readLine_39 : decode cX6_readLine 39 = .ok (.getfield 9, 3) := by decide +kernel
theorem dX6_readLine_42 : decode cX6_readLine 42 = .ok (.invokevirtual 52, 3) := by decide +kernel
theorem dX6_readLine_45 : decode cX6_readLine 45 = .ok (.ifCond .ne 5, 3) := by decide +kernel
theorem dX6_readLine_48 : decode cX6_readLine 48 = .ok (.iconst 0, 1) := by decide +kernel
theorem dX6_readLine_49 : decode cX6_readLine 49 = .ok (.ireturn, 1) := by decide +kernel
theorem dX6_readLine_50 : decode cX6_readLine 50 = .ok (.aload_n 0, 1) := by decide +kernel
theorem dX6_readLine_51 : decode cX6_readLine 51 = .ok (.getfield 9, 3) := by decide +kernel
theorem dX6_readLine_54 : decode cX6_readLine 54 = .ok (.getfield 55, 3) := by decide +kernel
theorem dX6_readLine_57 : decode cX6_readLine 57 = .ok (.istore_n 3, 1) := by decide +kernel
theorem dX6_readLine_58 : decode cX6_readLine 58 = .ok (.iload_n 3, 1) := by decide +kernel
theorem dX6_readLine_59 : decode cX6_readLine 59 = .ok (.invokestatic 58, 3) := by decide +kernel
theorem dX6_readLine_62 : decode cX6_readLine 62 = .ok (.ifCond .eq 12, 3) := by decide +kernel
theorem dX6_readLine_65 : decode cX6_readLine 65 = .ok (.aload_n 0, 1) := by decide +kernel
theorem dX6_readLine_66 : decode cX6_readLine 66 = .ok (.iload_n 3, 1) := by decide +kernel
theorem dX6_readLine_67 : decode cX6_readLine 67 = .ok (.iload_n 1, 1) := by decide +kernel
theorem dX6_readLine_68 : decode cX6_readLine 68 = .ok (.invokevirtual 61, 3) := by decide +kernel
theorem dX6_readLine_71 : decode cX6_readLine 71 = .ok (.ifCond .eq 12, 3) := by decide +kernel
theorem dX6_readLine_74 : decode cX6_readLine 74 = .ok (.aload_n 0, 1) := by decide +kernel
theorem dX6_readLine_75 : decode cX6_readLine 75 = .ok (.getfield 9, 3) := by decide +kernel
theorem dX6_readLine_78 : decode cX6_readLine 78 = .ok (.iconst 5, 1) := by decide +kernel
theorem dX6_readLine_79 : decode cX6_readLine 79 = .ok (.invokevirtual 49, 3) := by decide +kernel
theorem dX6_readLine_82 : decode cX6_readLine 82 = .ok (.ireturn, 1) := by decide +kernel
theorem dX6_readLine_83 : decode cX6_readLine 83 = .ok (.iload_n 2, 1) := by decide +kernel
theorem dX6_readLine_84 : decode cX6_readLine 84 = .ok (.ifCond .eq 13, 3) := by decide +kernel
theorem dX6_readLine_87 : decode cX6_readLine 87 = .ok (.aload_n 0, 1) := by decide +kernel
theorem dX6_readLine_88 : decode cX6_readLine 88 = .ok (.getfield 9, 3) := by decide +kernel
theorem dX6_readLine_91 : decode cX6_readLine 91 = .ok (.bipush 9, 2) := by decide +kernel
theorem dX6_readLine_93 : decode cX6_readLine 93 = .ok (.invokevirtual 49, 3) := by decide +kernel
theorem dX6_readLine_96 : decode cX6_readLine 96 = .ok (.ireturn, 1) := by decide +kernel
theorem dX6_readLine_97 : decode cX6_readLine 97 = .ok (.aload_n 0, 1) := by decide +kernel
theorem dX6_readLine_98 : decode cX6_readLine 98 = .ok (.getfield 15, 3) := by decide +kernel
theorem dX6_readLine_101 : decode cX6_readLine 101 = .ok (.iload_n 1, 1) := by decide +kernel
theorem dX6_readLine_102 : decode cX6_readLine 102 = .ok (.iload_n 3, 1) := by decide +kernel
theorem dX6_readLine_103 : decode cX6_readLine 103 = .ok (.iastore, 1) := by decide +kernel
theorem dX6_readLine_104 : decode cX6_readLine 104 = .ok (.aload_n 0, 1) := by decide +kernel
theorem dX6_readLine_105 : decode cX6_readLine 105 = .ok (.getfield 9, 3) := by decide +kernel
theorem dX6_readLine_108 : decode cX6_readLine 108 = .ok (.invokevirtual 65, 3) := by decide +kernel
theorem dX6_readLine_111 : decode cX6_readLine 111 = .ok (.aload_n 0, 1) := by decide +kernel
theorem dX6_readLine_112 : decode cX6_readLine 112 = .ok (.getfield 9, 3) := by decide +kernel
theorem dX6_readLine_115 : decode cX6_readLine 115 = .ok (.bipush 61, 2) := by decide +kernel
theorem dX6_readLine_117 : decode cX6_readLine 117 = .ok (.invokevirtual 45, 3) := by decide +kernel
theorem dX6_readLine_120 : decode cX6_readLine 120 = .ok (.ifCond .eq 9, 3) := by decide +kernel
theorem dX6_readLine_123 : decode cX6_readLine 123 = .ok (.aload_n 0, 1) := by decide +kernel
theorem dX6_readLine_124 : decode cX6_readLine 124 = .ok (.iload_n 3, 1) := by decide +kernel
theorem dX6_readLine_125 : decode cX6_readLine 125 = .ok (.invokevirtual 68, 3) := by decide +kernel
theorem dX6_readLine_128 : decode cX6_readLine 128 = .ok (.ireturn, 1) := by decide +kernel
theorem dX6_readLine_129 : decode cX6_readLine 129 = .ok (.aload_n 0, 1) := by decide +kernel
theorem dX6_readLine_130 : decode cX6_readLine 130 = .ok (.getfield 9, 3) := by decide +kernel
theorem dX6_readLine_133 : decode cX6_readLine 133 = .ok (.ldc 71, 2) := by decide +kernel
theorem dX6_readLine_135 : decode cX6_readLine 135 = .ok (.invokevirtual 73, 3) := by decide +kernel
theorem dX6_readLine_138 : decode cX6_readLine 138 = .ok (.ifCond .eq 11, 3) := by decide +kernel
theorem dX6_readLine_141 : decode cX6_readLine 141 = .ok (.aload_n 0, 1) := by decide +kernel
theorem dX6_readLine_142 : decode cX6_readLine 142 = .ok (.iload_n 3, 1) := by decide +kernel
theorem dX6_readLine_143 : decode cX6_readLine 143 = .ok (.invokevirtual 77, 3) := by decide +kernel
theorem dX6_readLine_146 : decode cX6_readLine 146 = .ok (.goto 11, 3) := by decide +kernel
theorem dX6_readLine_149 : decode cX6_readLine 149 = .ok (.aload_n 0, 1) := by decide +kernel
theorem dX6_readLine_150 : decode cX6_readLine 150 = .ok (.getfield 9, 3) := by decide +kernel
theorem dX6_readLine_153 : decode cX6_readLine 153 = .ok (.iconst 1, 1) := by decide +kernel
theorem dX6_readLine_154 : decode cX6_readLine 154 = .ok (.invokevirtual 49, 3) := by decide +kernel
theorem dX6_readLine_157 : decode cX6_readLine 157 = .ok (.ireturn, 1) := by decide +kernel
theorem dX6_isTold_0 : decode cX6_isTold 0 = .ok (.iconst 0, 1) := by decide +kernel
theorem dX6_isTold_1 : decode cX6_isTold 1 = .ok (.istore_n 3, 1) := by decide +kernel
theorem dX6_isTold_2 : decode cX6_isTold 2 = .ok (.iload_n 3, 1) := by decide +kernel
theorem dX6_isTold_3 : decode cX6_isTold 3 = .ok (.iload_n 2, 1) := by decide +kernel
theorem dX6_isTold_4 : decode cX6_isTold 4 = .ok (.if_icmp .ge 27, 3) := by decide +kernel
theorem dX6_isTold_7 : decode cX6_isTold 7 = .ok (.iload_n 3, 1) := by decide +kernel
theorem dX6_isTold_8 : decode cX6_isTold 8 = .ok (.bipush 60, 2) := by decide +kernel
theorem dX6_isTold_10 : decode cX6_isTold 10 = .ok (.if_icmp .ge 21, 3) := by decide +kernel
theorem dX6_isTold_13 : decode cX6_isTold 13 = .ok (.aload_n 0, 1) := by decide +kernel
theorem dX6_isTold_14 : decode cX6_isTold 14 = .ok (.getfield 15, 3) := by decide +kernel
theorem dX6_isTold_17 : decode cX6_isTold 17 = .ok (.iload_n 3, 1) := by decide +kernel
theorem dX6_isTold_18 : decode cX6_isTold 18 = .ok (.iaload, 1) := by decide +kernel
theorem dX6_isTold_19 : decode cX6_isTold 19 = .ok (.iload_n 1, 1) := by decide +kernel
theorem dX6_isTold_20 : decode cX6_isTold 20 = .ok (.if_icmp .ne 5, 3) := by decide +kernel
theorem dX6_isTold_23 : decode cX6_isTold 23 = .ok (.iconst 1, 1) := by decide +kernel
theorem dX6_isTold_24 : decode cX6_isTold 24 = .ok (.ireturn, 1) := by decide +kernel
theorem dX6_isTold_25 : decode cX6_isTold 25 = .ok (.iinc 3 1, 3) := by decide +kernel
theorem dX6_isTold_28 : decode cX6_isTold 28 = .ok (.goto (-26), 3) := by decide +kernel
theorem dX6_isTold_31 : decode cX6_isTold 31 = .ok (.iconst 0, 1) := by decide +kernel
theorem dX6_isTold_32 : decode cX6_isTold 32 = .ok (.ireturn, 1) := by decide +kernel
theorem dX6_readNot_0 : decode cX6_readNot 0 = .ok (.aload_n 0, 1) := by decide +kernel
theorem dX6_readNot_1 : decode cX6_readNot 1 = .ok (.getfield 23, 3) := by decide +kernel
theorem dX6_readNot_4 : decode cX6_readNot 4 = .ok (.iload_n 1, 1) := by decide +kernel
theorem dX6_readNot_5 : decode cX6_readNot 5 = .ok (.sipush 3000, 3) := by decide +kernel
theorem dX6_readNot_8 : decode cX6_readNot 8 = .ok (.iadd, 1) := by decide +kernel
theorem dX6_readNot_9 : decode cX6_readNot 9 = .ok (.laload, 1) := by decide +kernel
theorem dX6_readNot_10 : decode cX6_readNot 10 = .ok (.lconst 0, 1) := by decide +kernel
theorem dX6_readNot_11 : decode cX6_readNot 11 = .ok (.lcmp, 1) := by decide +kernel
theorem dX6_readNot_12 : decode cX6_readNot 12 = .ok (.ifCond .le 13, 3) := by decide +kernel
theorem dX6_readNot_15 : decode cX6_readNot 15 = .ok (.aload_n 0, 1) := by decide +kernel
theorem dX6_readNot_16 : decode cX6_readNot 16 = .ok (.getfield 9, 3) := by decide +kernel
theorem dX6_readNot_19 : decode cX6_readNot 19 = .ok (.bipush 8, 2) := by decide +kernel
theorem dX6_readNot_21 : decode cX6_readNot 21 = .ok (.invokevirtual 49, 3) := by decide +kernel
theorem dX6_readNot_24 : decode cX6_readNot 24 = .ok (.ireturn, 1) := by decide +kernel
theorem dX6_readNot_25 : decode cX6_readNot 25 = .ok (.aload_n 0, 1) := by decide +kernel
theorem dX6_readNot_26 : decode cX6_readNot 26 = .ok (.getfield 9, 3) := by decide +kernel
theorem dX6_readNot_29 : decode cX6_readNot 29 = .ok (.invokevirtual 65, 3) := by decide +kernel
theorem dX6_readNot_32 : decode cX6_readNot 32 = .ok (.aload_n 0, 1) := by decide +kernel
theorem dX6_readNot_33 : decode cX6_readNot 33 = .ok (.getfield 9, 3) := by decide +kernel
theorem dX6_readNot_36 : decode cX6_readNot 36 = .ok (.bipush 59, 2) := by decide +kernel
theorem dX6_readNot_38 : decode cX6_readNot 38 = .ok (.invokevirtual 45, 3) := by decide +kernel
theorem dX6_readNot_41 : decode cX6_readNot 41 = .ok (.ifCond .ne 12, 3) := by decide +kernel
theorem dX6_readNot_44 : decode cX6_readNot 44 = .ok (.aload_n 0, 1) := by decide +kernel
theorem dX6_readNot_45 : decode cX6_readNot 45 = .ok (.getfield 9, 3) := by decide +kernel
theorem dX6_readNot_48 : decode cX6_readNot 48 = .ok (.iconst 1, 1) := by decide +kernel
theorem dX6_readNot_49 : decode cX6_readNot 49 = .ok (.invokevirtual 49, 3) := by decide +kernel
theorem dX6_readNot_52 : decode cX6_readNot 52 = .ok (.ireturn, 1) := by decide +kernel
theorem dX6_readNot_53 : decode cX6_readNot 53 = .ok (.aload_n 0, 1) := by decide +kernel
theorem dX6_readNot_54 : decode cX6_readNot 54 = .ok (.getfield 9, 3) := by decide +kernel
theorem dX6_readNot_57 : decode cX6_readNot 57 = .ok (.invokevirtual 65, 3) := by decide +kernel
theorem dX6_readNot_60 : decode cX6_readNot 60 = .ok (.iconst 1, 1) := by decide +kernel
theorem dX6_readNot_61 : decode cX6_readNot 61 = .ok (.ireturn, 1) := by decide +kernel
theorem dX6_readWay_0 : decode cX6_readWay 0 = .ok (.iconst 0, 1) := by decide +kernel
theorem dX6_readWay_1 : decode cX6_readWay 1 = .ok (.istore_n 2, 1) := by decide +kernel
theorem dX6_readWay_2 : decode cX6_readWay 2 = .ok (.iconst 0, 1) := by decide +kernel
theorem dX6_readWay_3 : decode cX6_readWay 3 = .ok (.istore_n 3, 1) := by decide +kernel
theorem dX6_readWay_4 : decode cX6_readWay 4 = .ok (.iload_n 3, 1) := by decide +kernel
theorem dX6_readWay_5 : decode cX6_readWay 5 = .ok (.aload_n 0, 1) := by decide +kernel
theorem dX6_readWay_6 : decode cX6_readWay 6 = .ok (.getfield 19, 3) := by decide +kernel
theorem dX6_readWay_9 : decode cX6_readWay 9 = .ok (.getfield 80, 3) := by decide +kernel
theorem dX6_readWay_12 : decode cX6_readWay 12 = .ok (.if_icmp .ge 102, 3) := by decide +kernel
theorem dX6_readWay_15 : decode cX6_readWay 15 = .ok (.aload_n 0, 1) := by decide +kernel
theorem dX6_readWay_16 : decode cX6_readWay 16 = .ok (.getfield 9, 3) := by decide +kernel
theorem dX6_readWay_19 : decode cX6_readWay 19 = .ok (.invokevirtual 65, 3) := by decide +kernel
theorem dX6_readWay_22 : decode cX6_readWay 22 = .ok (.aload_n 0, 1) := by decide +kernel
theorem dX6_readWay_23 : decode cX6_readWay 23 = .ok (.iload_n 3, 1) := by decide +kernel
theorem dX6_readWay_24 : decode cX6_readWay 24 = .ok (.invokevirtual 85, 3) := by decide +kernel
theorem dX6_readWay_27 : decode cX6_readWay 27 = .ok (.ifCond .ne 5, 3) := by decide +kernel
theorem dX6_readWay_30 : decode cX6_readWay 30 = .ok (.iconst 0, 1) := by decide +kernel
theorem dX6_readWay_31 : decode cX6_readWay 31 = .ok (.ireturn, 1) := by decide +kernel
theorem dX6_readWay_32 : decode cX6_readWay 32 = .ok (.iload_n 2, 1) := by decide +kernel
theorem dX6_readWay_33 : decode cX6_readWay 33 = .ok (.aload_n 0, 1) := by decide +kernel
theorem dX6_readWay_34 : decode cX6_readWay 34 = .ok (.getfield 19, 3) := by decide +kernel
theorem dX6_readWay_37 : decode cX6_readWay 37 = .ok (.iload_n 3, 1) := by decide +kernel
theorem dX6_readWay_38 : decode cX6_readWay 38 = .ok (.aload_n 0, 1) := by decide +kernel
theorem dX6_readWay_39 : decode cX6_readWay 39 = .ok (.getfield 9, 3) := by decide +kernel
theorem dX6_readWay_42 : decode cX6_readWay 42 = .ok (.getfield 55, 3) := by decide +kernel
theorem dX6_readWay_45 : decode cX6_readWay 45 = .ok (.invokevirtual 88, 3) := by decide +kernel
theorem dX6_readWay_48 : decode cX6_readWay 48 = .ok (.iadd, 1) := by decide +kernel
theorem dX6_readWay_49 : decode cX6_readWay 49 = .ok (.istore_n 2, 1) := by decide +kernel
theorem dX6_readWay_50 : decode cX6_readWay 50 = .ok (.aload_n 0, 1) := by decide +kernel
theorem dX6_readWay_51 : decode cX6_readWay 51 = .ok (.getfield 9, 3) := by decide +kernel
theorem dX6_readWay_54 : decode cX6_readWay 54 = .ok (.invokevirtual 65, 3) := by decide +kernel
theorem dX6_readWay_57 : decode cX6_readWay 57 = .ok (.aload_n 0, 1) := by decide +kernel
theorem dX6_readWay_58 : decode cX6_readWay 58 = .ok (.getfield 9, 3) := by decide +kernel
theorem dX6_readWay_61 : decode cX6_readWay 61 = .ok (.bipush 59, 2) := by decide +kernel
theorem dX6_readWay_63 : decode cX6_readWay 63 = .ok (.invokevirtual 45, 3) := by decide +kernel
theorem dX6_readWay_66 : decode cX6_readWay 66 = .ok (.ifCond .eq 21, 3) := by decide +kernel
theorem dX6_readWay_69 : decode cX6_readWay 69 = .ok (.aload_n 0, 1) := by decide +kernel
theorem dX6_readWay_70 : decode cX6_readWay 70 = .ok (.iload_n 3, 1) := by decide +kernel
theorem dX6_readWay_71 : decode cX6_readWay 71 = .ok (.iconst 1, 1) := by decide +kernel
theorem dX6_readWay_72 : decode cX6_readWay 72 = .ok (.iadd, 1) := by decide +kernel
theorem dX6_readWay_73 : decode cX6_readWay 73 = .ok (.iload_n 2, 1) := by decide +kernel
theorem dX6_readWay_74 : decode cX6_readWay 74 = .ok (.iload_n 1, 1) := by decide +kernel
theorem dX6_readWay_75 : decode cX6_readWay 75 = .ok (.if_icmp .ne 7, 3) := by decide +kernel
theorem dX6_readWay_78 : decode cX6_readWay 78 = .ok (.iconst 1, 1) := by decide +kernel
theorem dX6_readWay_79 : decode cX6_readWay 79 = .ok (.goto 4, 3) := by decide +kernel
theorem dX6_readWay_82 : decode cX6_readWay 82 = .ok (.iconst 0, 1) := by decide +kernel
theorem dX6_readWay_83 : decode cX6_readWay 83 = .ok (.invokevirtual 92, 3) := by decide +kernel
theorem dX6_readWay_86 : decode cX6_readWay 86 = .ok (.ireturn, 1) := by decide +kernel
theorem dX6_readWay_87 : decode cX6_readWay 87 = .ok (.aload_n 0, 1) := by decide +kernel
theorem dX6_readWay_88 : decode cX6_readWay 88 = .ok (.getfield 9, 3) := by decide +kernel
theorem dX6_readWay_91 : decode cX6_readWay 91 = .ok (.bipush 44, 2) := by decide +kernel
theorem dX6_readWay_93 : decode cX6_readWay 93 = .ok (.invokevirtual 45, 3) := by decide +kernel
theorem dX6_readWay_96 : decode cX6_readWay 96 = .ok (.ifCond .ne 12, 3) := by decide +kernel
theorem dX6_readWay_99 : decode cX6_readWay 99 = .ok (.aload_n 0, 1) := by decide +kernel
theorem dX6_readWay_100 : decode cX6_readWay 100 = .ok (.getfield 9, 3) := by decide +kernel
theorem dX6_readWay_103 : decode cX6_readWay 103 = .ok (.iconst 1, 1) := by decide +kernel
theorem dX6_readWay_104 : decode cX6_readWay 104 = .ok (.invokevirtual 49, 3) := by decide +kernel
theorem dX6_readWay_107 : decode cX6_readWay 107 = .ok (.ireturn, 1) := by decide +kernel
theorem dX6_readWay_108 : decode cX6_readWay 108 = .ok (.iinc 3 1, 3) := by decide +kernel
theorem dX6_readWay_111 : decode cX6_readWay 111 = .ok (.goto (-107), 3) := by decide +kernel
theorem dX6_readWay_114 : decode cX6_readWay 114 = .ok (.aload_n 0, 1) := by decide +kernel
theorem dX6_readWay_115 : decode cX6_readWay 115 = .ok (.getfield 9, 3) := by decide +kernel
theorem dX6_readWay_118 : decode cX6_readWay 118 = .ok (.invokevirtual 65, 3) := by decide +kernel
theorem dX6_readWay_121 : decode cX6_readWay 121 = .ok (.aload_n 0, 1) := by decide +kernel
theorem dX6_readWay_122 : decode cX6_readWay 122 = .ok (.getfield 9, 3) := by decide +kernel
theorem dX6_readWay_125 : decode cX6_readWay 125 = .ok (.aload_n 0, 1) := by decide +kernel
theorem dX6_readWay_126 : decode cX6_readWay 126 = .ok (.getfield 19, 3) := by decide +kernel
theorem dX6_readWay_129 : decode cX6_readWay 129 = .ok (.getfield 80, 3) := by decide +kernel
theorem dX6_readWay_132 : decode cX6_readWay 132 = .ok (.putfield 96, 3) := by decide +kernel
theorem dX6_readWay_135 : decode cX6_readWay 135 = .ok (.aload_n 0, 1) := by decide +kernel
theorem dX6_readWay_136 : decode cX6_readWay 136 = .ok (.getfield 9, 3) := by decide +kernel
theorem dX6_readWay_139 : decode cX6_readWay 139 = .ok (.aload_n 0, 1) := by decide +kernel
theorem dX6_readWay_140 : decode cX6_readWay 140 = .ok (.getfield 9, 3) := by decide +kernel
theorem dX6_readWay_143 : decode cX6_readWay 143 = .ok (.invokevirtual 99, 3) := by decide +kernel
theorem dX6_readWay_146 : decode cX6_readWay 146 = .ok (.ifCond .eq 8, 3) := by decide +kernel
theorem dX6_readWay_149 : decode cX6_readWay 149 = .ok (.bipush 7, 2) := by decide +kernel
theorem dX6_readWay_151 : decode cX6_readWay 151 = .ok (.goto 4, 3) := by decide +kernel
theorem dX6_readWay_154 : decode cX6_readWay 154 = .ok (.iconst 1, 1) := by decide +kernel
theorem dX6_readWay_155 : decode cX6_readWay 155 = .ok (.invokevirtual 49, 3) := by decide +kernel
theorem dX6_readWay_158 : decode cX6_readWay 158 = .ok (.ireturn, 1) := by decide +kernel
theorem dX6_readX_0 : decode cX6_readX 0 = .ok (.aload_n 0, 1) := by decide +kernel
theorem dX6_readX_1 : decode cX6_readX 1 = .ok (.getfield 9, 3) := by decide +kernel
theorem dX6_readX_4 : decode cX6_readX 4 = .ok (.iload_n 1, 1) := by decide +kernel
theorem dX6_readX_5 : decode cX6_readX 5 = .ok (.putfield 96, 3) := by decide +kernel
theorem dX6_readX_8 : decode cX6_readX 8 = .ok (.aload_n 0, 1) := by decide +kernel
theorem dX6_readX_9 : decode cX6_readX 9 = .ok (.getfield 9, 3) := by decide +kernel
theorem dX6_readX_12 : decode cX6_readX 12 = .ok (.invokevirtual 52, 3) := by decide +kernel
theorem dX6_readX_15 : decode cX6_readX 15 = .ok (.ifCond .ne 5, 3) := by decide +kernel
theorem dX6_readX_18 : decode cX6_readX 18 = .ok (.iconst 0, 1) := by decide +kernel
theorem dX6_readX_19 : decode cX6_readX 19 = .ok (.ireturn, 1) := by decide +kernel
theorem dX6_readX_20 : decode cX6_readX 20 = .ok (.aload_n 0, 1) := by decide +kernel
theorem dX6_readX_21 : decode cX6_readX 21 = .ok (.getfield 9, 3) := by decide +kernel
theorem dX6_readX_24 : decode cX6_readX 24 = .ok (.getfield 55, 3) := by decide +kernel
theorem dX6_readX_27 : decode cX6_readX 27 = .ok (.aload_n 0, 1) := by decide +kernel
theorem dX6_readX_28 : decode cX6_readX 28 = .ok (.getfield 19, 3) := by decide +kernel
theorem dX6_readX_31 : decode cX6_readX 31 = .ok (.getfield 102, 3) := by decide +kernel
theorem dX6_readX_34 : decode cX6_readX 34 = .ok (.iload_n 1, 1) := by decide +kernel
theorem dX6_readX_35 : decode cX6_readX 35 = .ok (.iaload, 1) := by decide +kernel
theorem dX6_readX_36 : decode cX6_readX 36 = .ok (.if_icmp .lt 22, 3) := by decide +kernel
theorem dX6_readX_39 : decode cX6_readX 39 = .ok (.aload_n 0, 1) := by decide +kernel
theorem dX6_readX_40 : decode cX6_readX 40 = .ok (.getfield 9, 3) := by decide +kernel
theorem dX6_readX_43 : decode cX6_readX 43 = .ok (.getfield 55, 3) := by decide +kernel
theorem dX6_readX_46 : decode cX6_readX 46 = .ok (.aload_n 0, 1) := by decide +kernel
theorem dX6_readX_47 : decode cX6_readX 47 = .ok (.getfield 19, 3) := by decide +kernel
theorem dX6_readX_50 : decode cX6_readX 50 = .ok (.getfield 105, 3) := by decide +kernel
theorem dX6_readX_53 : decode cX6_readX 53 = .ok (.iload_n 1, 1) := by decide +kernel
theorem dX6_readX_54 : decode cX6_readX 54 = .ok (.iaload, 1) := by decide +kernel
theorem dX6_readX_55 : decode cX6_readX 55 = .ok (.if_icmp .le 13, 3) := by decide +kernel
theorem dX6_readX_58 : decode cX6_readX 58 = .ok (.aload_n 0, 1) := by decide +kernel
theorem dX6_readX_59 : decode cX6_readX 59 = .ok (.getfield 9, 3) := by decide +kernel
theorem dX6_readX_62 : decode cX6_readX 62 = .ok (.bipush 6, 2) := by decide +kernel
theorem dX6_readX_64 : decode cX6_readX 64 = .ok (.invokevirtual 49, 3) := by decide +kernel
theorem dX6_readX_67 : decode cX6_readX 67 = .ok (.ireturn, 1) := by decide +kernel
theorem dX6_readX_68 : decode cX6_readX 68 = .ok (.aload_n 0, 1) := by decide +kernel
theorem dX6_readX_69 : decode cX6_readX 69 = .ok (.getfield 9, 3) := by decide +kernel
theorem dX6_readX_72 : decode cX6_readX 72 = .ok (.iconst (-1), 1) := by decide +kernel
theorem dX6_readX_73 : decode cX6_readX 73 = .ok (.putfield 96, 3) := by decide +kernel
theorem dX6_readX_76 : decode cX6_readX 76 = .ok (.iconst 1, 1) := by decide +kernel
theorem dX6_readX_77 : decode cX6_readX 77 = .ok (.ireturn, 1) := by decide +kernel
theorem dX6_endWay_0 : decode cX6_endWay 0 = .ok (.iload_n 1, 1) := by decide +kernel
theorem dX6_endWay_1 : decode cX6_endWay 1 = .ok (.aload_n 0, 1) := by decide +kernel
theorem dX6_endWay_2 : decode cX6_endWay 2 = .ok (.getfield 19, 3) := by decide +kernel
theorem dX6_endWay_5 : decode cX6_endWay 5 = .ok (.getfield 80, 3) := by decide +kernel
theorem dX6_endWay_8 : decode cX6_endWay 8 = .ok (.if_icmp .ge 13, 3) := by decide +kernel
theorem dX6_endWay_11 : decode cX6_endWay 11 = .ok (.aload_n 0, 1) := by decide +kernel
theorem dX6_endWay_12 : decode cX6_endWay 12 = .ok (.getfield 9, 3) := by decide +kernel
theorem dX6_endWay_15 : decode cX6_endWay 15 = .ok (.bipush 7, 2) := by decide +kernel
theorem dX6_endWay_17 : decode cX6_endWay 17 = .ok (.invokevirtual 49, 3) := by decide +kernel
theorem dX6_endWay_20 : decode cX6_endWay 20 = .ok (.ireturn, 1) := by decide +kernel
theorem dX6_endWay_21 : decode cX6_endWay 21 = .ok (.iload_n 2, 1) := by decide +kernel
theorem dX6_endWay_22 : decode cX6_endWay 22 = .ok (.ifCond .ne 13, 3) := by decide +kernel
theorem dX6_endWay_25 : decode cX6_endWay 25 = .ok (.aload_n 0, 1) := by decide +kernel
theorem dX6_endWay_26 : decode cX6_endWay 26 = .ok (.getfield 9, 3) := by decide +kernel
theorem dX6_endWay_29 : decode cX6_endWay 29 = .ok (.bipush 8, 2) := by decide +kernel
theorem dX6_endWay_31 : decode cX6_endWay 31 = .ok (.invokevirtual 49, 3) := by decide +kernel
theorem dX6_endWay_34 : decode cX6_endWay 34 = .ok (.ireturn, 1) := by decide +kernel
theorem dX6_endWay_35 : decode cX6_endWay 35 = .ok (.aload_n 0, 1) := by decide +kernel
theorem dX6_endWay_36 : decode cX6_endWay 36 = .ok (.getfield 9, 3) := by decide +kernel
theorem dX6_endWay_39 : decode cX6_endWay 39 = .ok (.invokevirtual 65, 3) := by decide +kernel
theorem dX6_endWay_42 : decode cX6_endWay 42 = .ok (.iconst 1, 1) := by decide +kernel
theorem dX6_endWay_43 : decode cX6_endWay 43 = .ok (.ireturn, 1) := by decide +kernel
theorem dX7_init_0 : decode cX7_init 0 = .ok (.aload_n 0, 1) := by decide +kernel
theorem dX7_init_1 : decode cX7_init 1 = .ok (.invokespecial 3, 3) := by decide +kernel
theorem dX7_init_4 : decode cX7_init 4 = .ok (.aload_n 0, 1) := by decide +kernel
theorem dX7_init_5 : decode cX7_init 5 = .ok (.bipush 6, 2) := by decide +kernel
theorem dX7_init_7 : decode cX7_init 7 = .ok (.newarray .int, 2) := by decide +kernel
theorem dX7_init_9 : decode cX7_init 9 = .ok (.putfield 9, 3) := by decide +kernel
theorem dX7_init_12 : decode cX7_init 12 = .ok (.aload_n 0, 1) := by decide +kernel
theorem dX7_init_13 : decode cX7_init 13 = .ok (.iconst 0, 1) := by decide +kernel
theorem dX7_init_14 : decode cX7_init 14 = .ok (.newarray .long, 2) := by decide +kernel
theorem dX7_init_16 : decode cX7_init 16 = .ok (.putfield 15, 3) := by decide +kernel
theorem dX7_init_19 : decode cX7_init 19 = .ok (.aload_n 0, 1) := by decide +kernel
theorem dX7_init_20 : decode cX7_init 20 = .ok (.iconst (-1), 1) := by decide +kernel
theorem dX7_init_21 : decode cX7_init 21 = .ok (.putfield 19, 3) := by decide +kernel
theorem dX7_init_24 : decode cX7_init 24 = .ok (.aload_n 0, 1) := by decide +kernel
theorem dX7_init_25 : decode cX7_init 25 = .ok (.iconst (-1), 1) := by decide +kernel
theorem dX7_init_26 : decode cX7_init 26 = .ok (.putfield 23, 3) := by decide +kernel
theorem dX7_init_29 : decode cX7_init 29 = .ok (.return_, 1) := by decide +kernel
theorem dX7_forget_0 : decode cX7_forget 0 = .ok (.aload_n 0, 1) := by decide +kernel
theorem dX7_forget_1 : decode cX7_forget 1 = .ok (.getfield 19, 3) := by decide +kernel
theorem dX7_forget_4 : decode cX7_forget 4 = .ok (.iload_n 1, 1) := by decide +kernel
theorem dX7_forget_5 : decode cX7_forget 5 = .ok (.if_icmp .ne 8, 3) := by decide +kernel
theorem dX7_forget_8 : decode cX7_forget 8 = .ok (.aload_n 0, 1) := by decide +kernel
theorem dX7_forget_9 : decode cX7_forget 9 = .ok (.iconst (-1), 1) := by decide +kernel
theorem dX7_forget_10 : decode cX7_forget 10 = .ok (.putfield 19, 3) := by decide +kernel
theorem dX7_forget_13 : decode cX7_forget 13 = .ok (.return_, 1) := by decide +kernel
theorem dX7_countWays_0 : decode cX7_countWays 0 = .ok (.aload_n 0, 1) := by decide +kernel
theorem dX7_countWays_1 : decode cX7_countWays 1 = .ok (.getfield 19, 3) := by decide +kernel
theorem dX7_countWays_4 : decode cX7_countWays 4 = .ok (.iload_n 1, 1) := by decide +kernel
theorem dX7_countWays_5 : decode cX7_countWays 5 = .ok (.if_icmp .ne 4, 3) := by decide +kernel
theorem dX7_countWays_8 : decode cX7_countWays 8 = .ok (.return_, 1) := by decide +kernel
theorem dX7_countWays_9 : decode cX7_countWays 9 = .ok (.aload_n 0, 1) := by decide +kernel
theorem dX7_countWays_10 : decode cX7_countWays 10 = .ok (.iload_n 1, 1) := by decide +kernel
theorem dX7_countWays_11 : decode cX7_countWays 11 = .ok (.putfield 19, 3) := by decide +kernel
theorem dX7_countWays_14 : decode cX7_countWays 14 = .ok (.aload_n 0, 1) := by decide +kernel
theorem dX7_countWays_15 : decode cX7_countWays 15 = .ok (.aload_n 2, 1) := by decide +kernel
theorem dX7_countWays_16 : decode cX7_countWays 16 = .ok (.invokevirtual 26, 3) := by decide +kernel
theorem dX7_countWays_19 : decode cX7_countWays 19 = .ok (.aload_n 0, 1) := by decide +kernel
theorem dX7_countWays_20 : decode cX7_countWays 20 = .ok (.aload_n 2, 1) := by decide +kernel
theorem dX7_countWays_21 : decode cX7_countWays 21 = .ok (.getfield 30, 3) := by decide +kernel
theorem dX7_countWays_24 : decode cX7_countWays 24 = .ok (.iconst 1, 1) := by decide +kernel
theorem dX7_countWays_25 : decode cX7_countWays 25 = .ok (.iadd, 1) := by decide +kernel
theorem dX7_countWays_26 : decode cX7_countWays 26 = .ok (.invokevirtual 35, 3) := by decide +kernel
theorem dX7_countWays_29 : decode cX7_countWays 29 = .ok (.ifCond .ne 4, 3) := by decide +kernel
theorem dX7_countWays_32 : decode cX7_countWays 32 = .ok (.return_, 1) := by decide +kernel
theorem dX7_countWays_33 : decode cX7_countWays 33 = .ok (.iconst 0, 1) := by decide +kernel
theorem dX7_countWays_34 : decode cX7_countWays 34 = .ok (.istore_n 3, 1) := by decide +kernel
theorem dX7_countWays_35 : decode cX7_countWays 35 = .ok (.aload_n 0, 1) := by decide +kernel
theorem dX7_countWays_36 : decode cX7_countWays 36 = .ok (.aload_n 2, 1) := by decide +kernel
theorem dX7_countWays_37 : decode cX7_countWays 37 = .ok (.getfield 30, 3) := by decide +kernel
theorem dX7_countWays_40 : decode cX7_countWays 40 = .ok (.invokevirtual 39, 3) := by decide +kernel
theorem dX7_countWays_43 : decode cX7_countWays 43 = .ok (.aload_n 0, 1) := by decide +kernel
theorem dX7_countWays_44 : decode cX7_countWays 44 = .ok (.getfield 15, 3) := by decide +kernel
theorem dX7_countWays_47 : decode cX7_countWays 47 = .ok (.aload_n 2, 1) := by decide +kernel
theorem dX7_countWays_48 : decode cX7_countWays 48 = .ok (.getfield 30, 3) := by decide +kernel
theorem dX7_countWays_51 : decode cX7_countWays 51 = .ok (.aload_n 0, 1) := by decide +kernel
theorem dX7_countWays_52 : decode cX7_countWays 52 = .ok (.getfield 23, 3) := by decide +kernel
theorem dX7_countWays_55 : decode cX7_countWays 55 = .ok (.iconst 1, 1) := by decide +kernel
theorem dX7_countWays_56 : decode cX7_countWays 56 = .ok (.iadd, 1) := by decide +kernel
theorem dX7_countWays_57 : decode cX7_countWays 57 = .ok (.imul, 1) := by decide +kernel
theorem dX7_countWays_58 : decode cX7_countWays 58 = .ok (.lconst 1, 1) := by decide +kernel
theorem dX7_countWays_59 : decode cX7_countWays 59 = .ok (.lastore, 1) := by decide +kernel
theorem dX7_countWays_60 : decode cX7_countWays 60 = .ok (.aload_n 2, 1) := by decide +kernel
theorem dX7_countWays_61 : decode cX7_countWays 61 = .ok (.getfield 30, 3) := by decide +kernel
theorem dX7_countWays_64 : decode cX7_countWays 64 = .ok (.iconst 1, 1) := by decide +kernel
theorem dX7_countWays_65 : decode cX7_countWays 65 = .ok (.isub, 1) := by decide +kernel
theorem dX7_countWays_66 : decode cX7_countWays 66 = .ok (.istore 4, 2) := by decide +kernel
theorem dX7_countWays_68 : decode cX7_countWays 68 = .ok (.iload 4, 2) := by decide +kernel
theorem dX7_countWays_70 : decode cX7_countWays 70 = .ok (.ifCond .lt 24, 3) := by decide +kernel
theorem dX7_countWays_73 : decode cX7_countWays 73 = .ok (.aload_n 0, 1) := by decide +kernel
theorem dX7_countWays_74 : decode cX7_countWays 74 = .ok (.iload 4, 2) := by decide +kernel
theorem dX7_countWays_76 : decode cX7_countWays 76 = .ok (.invokevirtual 39, 3) := by decide +kernel
theorem dX7_countWays_79 : decode cX7_countWays 79 = .ok (.aload_n 0, 1) := by decide +kernel
theorem dX7_countWays_80 : decode cX7_countWays 80 = .ok (.aload_n 2, 1) := by decide +kernel
theorem dX7_countWays_81 : decode cX7_countWays 81 = .ok (.iload 4, 2) := by decide +kernel
theorem dX7_countWays_83 : decode cX7_countWays 83 = .ok (.iload_n 3, 1) := by decide +kernel
theorem dX7_countWays_84 : decode cX7_countWays 84 = .ok (.invokevirtual 43, 3) := by decide +kernel
theorem dX7_countWays_87 : decode cX7_countWays 87 = .ok (.istore_n 3, 1) := by decide +kernel
theorem dX7_countWays_88 : decode cX7_countWays 88 = .ok (.iinc 4 (-1), 3) := by decide +kernel
theorem dX7_countWays_91 : decode cX7_countWays 91 = .ok (.goto (-23), 3) := by decide +kernel
theorem dX7_countWays_94 : decode cX7_countWays 94 = .ok (.return_, 1) := by decide +kernel
theorem dX7_countUnlike_0 : decode cX7_countUnlike 0 = .ok (.aload_n 0, 1) := by decide +kernel
theorem dX7_countUnlike_1 : decode cX7_countUnlike 1 = .ok (.iconst (-1), 1) := by decide +kernel
theorem dX7_countUnlike_2 : decode cX7_countUnlike 2 = .ok (.putfield 19, 3) := by decide +kernel
theorem dX7_countUnlike_5 : decode cX7_countUnlike 5 = .ok (.aload_n 0, 1) := by decide +kernel
theorem dX7_countUnlike_6 : decode cX7_countUnlike 6 = .ok (.aload_n 1, 1) := by decide +kernel
theorem dX7_countUnlike_7 : decode cX7_countUnlike 7 = .ok (.invokevirtual 26, 3) := by decide +kernel
theorem dX7_countUnlike_10 : decode cX7_countUnlike 10 = .ok (.aload_n 0, 1) := by decide +kernel
theorem dX7_countUnlike_11 : decode cX7_countUnlike 11 = .ok (.aload_n 1, 1) := by decide +kernel
theorem dX7_countUnlike_12 : decode cX7_countUnlike 12 = .ok (.getfield 30, 3) := by decide +kernel
theorem dX7_countUnlike_15 : decode cX7_countUnlike 15 = .ok (.iconst 1, 1) := by decide +kernel
theorem dX7_countUnlike_16 : decode cX7_countUnlike 16 = .ok (.iadd, 1) := by decide +kernel
theorem dX7_countUnlike_17 : decode cX7_countUnlike 17 = .ok (.invokevirtual 35, 3) := by decide +kernel
theorem dX7_countUnlike_20 : decode cX7_countUnlike 20 = .ok (.ifCond .ne 4, 3) := by decide +kernel
theorem dX7_countUnlike_23 : decode cX7_countUnlike 23 = .ok (.return_, 1) := by decide +kernel
theorem dX7_countUnlike_24 : decode cX7_countUnlike 24 = .ok (.iconst 0, 1) := by decide +kernel
theorem dX7_countUnlike_25 : decode cX7_countUnlike 25 = .ok (.istore_n 2, 1) := by decide +kernel
theorem dX7_countUnlike_26 : decode cX7_countUnlike 26 = .ok (.aload_n 0, 1) := by decide +kernel
theorem dX7_countUnlike_27 : decode cX7_countUnlike 27 = .ok (.iconst 0, 1) := by decide +kernel
theorem dX7_countUnlike_28 : decode cX7_countUnlike 28 = .ok (.invokevirtual 39, 3) := by decide +kernel
theorem dX7_countUnlike_31 : decode cX7_countUnlike 31 = .ok (.aload_n 0, 1) := by decide +kernel
theorem dX7_countUnlike_32 : decode cX7_countUnlike 32 = .ok (.getfield 15, 3) := by decide +kernel
theorem dX7_countUnlike_35 : decode cX7_countUnlike 35 = .ok (.iconst 0, 1) := by decide +kernel
theorem dX7_countUnlike_36 : decode cX7_countUnlike 36 = .ok (.lconst 1, 1) := by decide +kernel
theorem dX7_countUnlike_37 : decode cX7_countUnlike 37 = .ok (.lastore, 1) := by decide +kernel
theorem dX7_countUnlike_38 : decode cX7_countUnlike 38 = .ok (.iconst 0, 1) := by decide +kernel
theorem dX7_countUnlike_39 : decode cX7_countUnlike 39 = .ok (.istore_n 3, 1) := by decide +kernel
theorem dX7_countUnlike_40 : decode cX7_countUnlike 40 = .ok (.iload_n 3, 1) := by decide +kernel
theorem dX7_countUnlike_41 : decode cX7_countUnlike 41 = .ok (.aload_n 1, 1) := by decide +kernel
theorem dX7_countUnlike_42 : decode cX7_countUnlike 42 = .ok (.getfield 30, 3) := by decide +kernel
theorem dX7_countUnlike_45 : decode cX7_countUnlike 45 = .ok (.if_icmp .ge 74, 3) := by decide +kernel
theorem dX7_countUnlike_48 : decode cX7_countUnlike 48 = .ok (.aload_n 1, 1) := by decide +kernel
theorem dX7_countUnlike_49 : decode cX7_countUnlike 49 = .ok (.iload_n 3, 1) := by decide +kernel
theorem dX7_countUnlike_50 : decode cX7_countUnlike 50 = .ok (.invokevirtual 47, 3) := by decide +kernel
theorem dX7_countUnlike_53 : decode cX7_countUnlike 53 = .ok (.istore 4, 2) := by decide +kernel
theorem dX7_countUnlike_55 : decode cX7_countUnlike 55 = .ok (.iload 4, 2) := by decide +kernel
theorem dX7_countUnlike_57 : decode cX7_countUnlike 57 = .ok (.ifCond .le 24, 3) := by decide +kernel
theorem dX7_countUnlike_60 : decode cX7_countUnlike 60 = .ok (.aload_n 1, 1) := by decide +kernel
theorem dX7_countUnlike_61 : decode cX7_countUnlike 61 = .ok (.getfield 51, 3) := by decide +kernel
theorem dX7_countUnlike_64 : decode cX7_countUnlike 64 = .ok (.iload_n 3, 1) := by decide +kernel
theorem dX7_countUnlike_65 : decode cX7_countUnlike 65 = .ok (.iaload, 1) := by decide +kernel
theorem dX7_countUnlike_66 : decode cX7_countUnlike 66 = .ok (.ifCond .ne 15, 3) := by decide +kernel
theorem dX7_countUnlike_69 : decode cX7_countUnlike 69 = .ok (.aload_n 0, 1) := by decide +kernel
theorem dX7_countUnlike_70 : decode cX7_countUnlike 70 = .ok (.iconst 0, 1) := by decide +kernel
theorem dX7_countUnlike_71 : decode cX7_countUnlike 71 = .ok (.aload_n 1, 1) := by decide +kernel
theorem dX7_countUnlike_72 : decode cX7_countUnlike 72 = .ok (.iload_n 3, 1) := by decide +kernel
theorem dX7_countUnlike_73 : decode cX7_countUnlike 73 = .ok (.iload 4, 2) := by decide +kernel
theorem dX7_countUnlike_75 : decode cX7_countUnlike 75 = .ok (.invokevirtual 54, 3) := by decide +kernel
theorem dX7_countUnlike_78 : decode cX7_countUnlike 78 = .ok (.goto 17, 3) := by decide +kernel
theorem dX7_countUnlike_81 : decode cX7_countUnlike 81 = .ok (.iload 4, 2) := by decide +kernel
theorem dX7_countUnlike_83 : decode cX7_countUnlike 83 = .ok (.ifCond .le 12, 3) := by decide +kernel
theorem dX7_countUnlike_86 : decode cX7_countUnlike 86 = .ok (.aload_n 0, 1) := by decide +kernel
theorem dX7_countUnlike_87 : decode cX7_countUnlike 87 = .ok (.aload_n 1, 1) := by decide +kernel
theorem dX7_countUnlike_88 : decode cX7_countUnlike 88 = .ok (.iload_n 3, 1) := by decide +kernel
theorem dX7_countUnlike_89 : decode cX7_countUnlike 89 = .ok (.iload 4, 2) := by decide +kernel
theorem dX7_countUnlike_91 : decode cX7_countUnlike 91 = .ok (.iload_n 2, 1) := by decide +kernel
theorem dX7_countUnlike_92 : decode cX7_countUnlike 92 = .ok (.invokevirtual 58, 3) := by decide +kernel
theorem dX7_countUnlike_95 : decode cX7_countUnlike 95 = .ok (.aload_n 0, 1) := by decide +kernel
theorem dX7_countUnlike_96 : decode cX7_countUnlike 96 = .ok (.getfield 23, 3) := by decide +kernel
theorem dX7_countUnlike_99 : decode cX7_countUnlike 99 = .ok (.iload_n 2, 1) := by decide +kernel
theorem dX7_countUnlike_100 : decode cX7_countUnlike 100 = .ok (.iload 4, 2) := by decide +kernel
theorem dX7_countUnlike_102 : decode cX7_countUnlike 102 = .ok (.aload_n 1, 1) := by decide +kernel
theorem dX7_countUnlike_103 : decode cX7_countUnlike 103 = .ok (.iload_n 3, 1) := by decide +kernel
theorem dX7_countUnlike_104 : decode cX7_countUnlike 104 = .ok (.invokevirtual 62, 3) := by decide +kernel
theorem dX7_countUnlike_107 : decode cX7_countUnlike 107 = .ok (.imul, 1) := by decide +kernel
theorem dX7_countUnlike_108 : decode cX7_countUnlike 108 = .ok (.iadd, 1) := by decide +kernel
theorem dX7_countUnlike_109 : decode cX7_countUnlike 109 = .ok (.invokestatic 65, 3) := by decide +kernel
theorem dX7_countUnlike_112 : decode cX7_countUnlike 112 = .ok (.istore_n 2, 1) := by decide +kernel
theorem dX7_countUnlike_113 : decode cX7_countUnlike 113 = .ok (.iinc 3 1, 3) := by decide +kernel
theorem dX7_countUnlike_116 : decode cX7_countUnlike 116 = .ok (.goto (-76), 3) := by decide +kernel
theorem dX7_countUnlike_119 : decode cX7_countUnlike 119 = .ok (.return_, 1) := by decide +kernel
theorem dX7_waysFrom_0 : decode cX7_waysFrom 0 = .ok (.iload_n 1, 1) := by decide +kernel
theorem dX7_waysFrom_1 : decode cX7_waysFrom 1 = .ok (.ifCond .lt 8, 3) := by decide +kernel
theorem dX7_waysFrom_4 : decode cX7_waysFrom 4 = .ok (.iload_n 1, 1) := by decide +kernel
theorem dX7_waysFrom_5 : decode cX7_waysFrom 5 = .ok (.iconst 5, 1) := by decide +kernel
theorem dX7_waysFrom_6 : decode cX7_waysFrom 6 = .ok (.if_icmp .le 5, 3) := by decide +kernel
theorem dX7_waysFrom_9 : decode cX7_waysFrom 9 = .ok (.lconst 0, 1) := by decide +kernel
theorem dX7_waysFrom_10 : decode cX7_waysFrom 10 = .ok (.lreturn, 1) := by decide +kernel
theorem dX7_waysFrom_11 : decode cX7_waysFrom 11 = .ok (.iload_n 2, 1) := by decide +kernel
theorem dX7_waysFrom_12 : decode cX7_waysFrom 12 = .ok (.aload_n 0, 1) := by decide +kernel
theorem dX7_waysFrom_13 : decode cX7_waysFrom 13 = .ok (.getfield 9, 3) := by decide +kernel
theorem dX7_waysFrom_16 : decode cX7_waysFrom 16 = .ok (.iload_n 1, 1) := by decide +kernel
theorem dX7_waysFrom_17 : decode cX7_waysFrom 17 = .ok (.iaload, 1) := by decide +kernel
theorem dX7_waysFrom_18 : decode cX7_waysFrom 18 = .ok (.isub, 1) := by decide +kernel
theorem dX7_waysFrom_19 : decode cX7_waysFrom 19 = .ok (.istore_n 3, 1) := by decide +kernel
theorem dX7_waysFrom_20 : decode cX7_waysFrom 20 = .ok (.iload_n 3, 1) := by decide +kernel
theorem dX7_waysFrom_21 : decode cX7_waysFrom 21 = .ok (.ifCond .lt 11, 3) := by decide +kernel
theorem dX7_waysFrom_24 : decode cX7_waysFrom 24 = .ok (.iload_n 3, 1) := by decide +kernel
theorem dX7_waysFrom_25 : decode cX7_waysFrom 25 = .ok (.aload_n 0, 1) := by decide +kernel
theorem dX7_waysFrom_26 : decode cX7_waysFrom 26 = .ok (.getfield 23, 3) := by decide +kernel
theorem dX7_waysFrom_29 : decode cX7_waysFrom 29 = .ok (.if_icmp .le 7, 3) := by decide +kernel
theorem dX7_waysFrom_32 : decode cX7_waysFrom 32 = .ok (.lconst 0, 1) := by decide +kernel
theorem dX7_waysFrom_33 : decode cX7_waysFrom 33 = .ok (.goto 18, 3) := by decide +kernel
theorem dX7_waysFrom_36 : decode cX7_waysFrom 36 = .ok (.aload_n 0, 1) := by decide +kernel
theorem dX7_waysFrom_37 : decode cX7_waysFrom 37 = .ok (.getfield 15, 3) := by decide +kernel
theorem dX7_waysFrom_40 : decode cX7_waysFrom 40 = .ok (.iload_n 1, 1) := by decide +kernel
theorem dX7_waysFrom_41 : decode cX7_waysFrom 41 = .ok (.aload_n 0, 1) := by decide +kernel
theorem dX7_waysFrom_42 : decode cX7_waysFrom 42 = .ok (.getfield 23, 3) := by decide +kernel
theorem dX7_waysFrom_45 : decode cX7_waysFrom 45 = .ok (.iconst 1, 1) := by decide +kernel
theorem dX7_waysFrom_46 : decode cX7_waysFrom 46 = .ok (.iadd, 1) := by decide +kernel
theorem dX7_waysFrom_47 : decode cX7_waysFrom 47 = .ok (.imul, 1) := by decide +kernel
theorem dX7_waysFrom_48 : decode cX7_waysFrom 48 = .ok (.iload_n 3, 1) := by decide +kernel
theorem dX7_waysFrom_49 : decode cX7_waysFrom 49 = .ok (.iadd, 1) := by decide +kernel
theorem dX7_waysFrom_50 : decode cX7_waysFrom 50 = .ok (.laload, 1) := by decide +kernel
theorem dX7_waysFrom_51 : decode cX7_waysFrom 51 = .ok (.lreturn, 1) := by decide +kernel
theorem dX7_copyRow_0 : decode cX7_copyRow 0 = .ok (.iconst 0, 1) := by decide +kernel
theorem dX7_copyRow_1 : decode cX7_copyRow 1 = .ok (.istore_n 2, 1) := by decide +kernel
theorem dX7_copyRow_2 : decode cX7_copyRow 2 = .ok (.iload_n 2, 1) := by decide +kernel
theorem dX7_copyRow_3 : decode cX7_copyRow 3 = .ok (.aload_n 1, 1) := by decide +kernel
theorem dX7_copyRow_4 : decode cX7_copyRow 4 = .ok (.arraylength, 1) := by decide +kernel
theorem dX7_copyRow_5 : decode cX7_copyRow 5 = .ok (.if_icmp .ge 22, 3) := by decide +kernel
theorem dX7_copyRow_8 : decode cX7_copyRow 8 = .ok (.aload_n 1, 1) := by decide +kernel
theorem dX7_copyRow_9 : decode cX7_copyRow 9 = .ok (.iload_n 2, 1) := by decide +kernel
theorem dX7_copyRow_10 : decode cX7_copyRow 10 = .ok (.aload_n 0, 1) := by decide +kernel
theorem dX7_copyRow_11 : decode cX7_copyRow 11 = .ok (.iconst 0, 1) := by decide +kernel
theorem dX7_copyRow_12 : decode cX7_copyRow 12 = .ok (.iload_n 2, 1) := by decide +kernel
theorem dX7_copyRow_13 : decode cX7_copyRow 13 = .ok (.sipush 3000, 3) := by decide +kernel
theorem dX7_copyRow_16 : decode cX7_copyRow 16 = .ok (.isub, 1) := by decide +kernel
theorem dX7_copyRow_17 : decode cX7_copyRow 17 = .ok (.invokevirtual 71, 3) := by decide +kernel
theorem dX7_copyRow_20 : decode cX7_copyRow 20 = .ok (.lastore, 1) := by decide +kernel
theorem dX7_copyRow_21 : decode cX7_copyRow 21 = .ok (.iinc 2 1, 3) := by decide +kernel
theorem dX7_copyRow_24 : decode cX7_copyRow 24 = .ok (.goto (-22), 3) := by decide +kernel
theorem dX7_copyRow_27 : decode cX7_copyRow 27 = .ok (.return_, 1) := by decide +kernel
theorem dX7_measure_0 : decode cX7_measure 0 = .ok (.aload_n 0, 1) := by decide +kernel
theorem dX7_measure_1 : decode cX7_measure 1 = .ok (.getfield 9, 3) := by decide +kernel
theorem dX7_measure_4 : decode cX7_measure 4 = .ok (.aload_n 1, 1) := by decide +kernel
theorem dX7_measure_5 : decode cX7_measure 5 = .ok (.getfield 30, 3) := by decide +kernel
theorem dX7_measure_8 : decode cX7_measure 8 = .ok (.iconst 0, 1) := by decide +kernel
theorem dX7_measure_9 : decode cX7_measure 9 = .ok (.iastore, 1) := by decide +kernel
theorem dX7_measure_10 : decode cX7_measure 10 = .ok (.aload_n 1, 1) := by decide +kernel
theorem dX7_measure_11 : decode cX7_measure 11 = .ok (.getfield 30, 3) := by decide +kernel
theorem dX7_measure_14 : decode cX7_measure 14 = .ok (.iconst 1, 1) := by decide +kernel
theorem dX7_measure_15 : decode cX7_measure 15 = .ok (.isub, 1) := by decide +kernel
theorem dX7_measure_16 : decode cX7_measure 16 = .ok (.istore_n 2, 1) := by decide +kernel
theorem dX7_measure_17 : decode cX7_measure 17 = .ok (.iload_n 2, 1) := by decide +kernel
theorem dX7_measure_18 : decode cX7_measure 18 = .ok (.ifCond .lt 30, 3) := by decide +kernel
theorem dX7_measure_21 : decode cX7_measure 21 = .ok (.aload_n 0, 1) := by decide +kernel
theorem dX7_measure_22 : decode cX7_measure 22 = .ok (.getfield 9, 3) := by decide +kernel
theorem dX7_measure_25 : decode cX7_measure 25 = .ok (.iload_n 2, 1) := by decide +kernel
theorem dX7_measure_26 : decode cX7_measure 26 = .ok (.aload_n 0, 1) := by decide +kernel
theorem dX7_measure_27 : decode cX7_measure 27 = .ok (.getfield 9, 3) := by decide +kernel
theorem dX7_measure_30 : decode cX7_measure 30 = .ok (.iload_n 2, 1) := by decide +kernel
theorem dX7_measure_31 : decode cX7_measure 31 = .ok (.iconst 1, 1) := by decide +kernel
theorem dX7_measure_32 : decode cX7_measure 32 = .ok (.iadd, 1) := by decide +kernel
theorem dX7_measure_33 : decode cX7_measure 33 = .ok (.iaload, 1) := by decide +kernel
theorem dX7_measure_34 : decode cX7_measure 34 = .ok (.aload_n 1, 1) := by decide +kernel
theorem dX7_measure_35 : decode cX7_measure 35 = .ok (.getfield 75, 3) := by decide +kernel
theorem dX7_measure_38 : decode cX7_measure 38 = .ok (.iload_n 2, 1) := by decide +kernel
theorem dX7_measure_39 : decode cX7_measure 39 = .ok (.iaload, 1) := by decide +kernel
theorem dX7_measure_40 : decode cX7_measure 40 = .ok (.iadd, 1) := by decide +kernel
theorem dX7_measure_41 : decode cX7_measure 41 = .ok (.iastore, 1) := by decide +kernel
theorem dX7_measure_42 : decode cX7_measure 42 = .ok (.iinc 2 (-1), 3) := by decide +kernel
theorem dX7_measure_45 : decode cX7_measure 45 = .ok (.goto (-28), 3) := by decide +kernel
theorem dX7_measure_48 : decode cX7_measure 48 = .ok (.aload_n 0, 1) := by decide +kernel
theorem dX7_measure_49 : decode cX7_measure 49 = .ok (.sipush 3000, 3) := by decide +kernel
theorem dX7_measure_52 : decode cX7_measure 52 = .ok (.aload_n 0, 1) := by decide +kernel
theorem dX7_measure_53 : decode cX7_measure 53 = .ok (.getfield 9, 3) := by decide +kernel
theorem dX7_measure_56 : decode cX7_measure 56 = .ok (.iconst 0, 1) := by decide +kernel
theorem dX7_measure_57 : decode cX7_measure 57 = .ok (.iaload, 1) := by decide +kernel
theorem dX7_measure_58 : decode cX7_measure 58 = .ok (.isub, 1) := by decide +kernel
theorem dX7_measure_59 : decode cX7_measure 59 = .ok (.putfield 23, 3) := by decide +kernel
theorem dX7_measure_62 : decode cX7_measure 62 = .ok (.return_, 1) := by decide +kernel
theorem dX7_makeRows_0 : decode cX7_makeRows 0 = .ok (.aload_n 0, 1) := by decide +kernel
theorem dX7_makeRows_1 : decode cX7_makeRows 1 = .ok (.getfield 23, 3) := by decide +kernel
theorem dX7_makeRows_4 : decode cX7_makeRows 4 = .ok (.ifCond .ge 5, 3) := by decide +kernel
theorem dX7_makeRows_7 : decode cX7_makeRows 7 = .ok (.iconst 0, 1) := by decide +kernel
theorem dX7_makeRows_8 : decode cX7_makeRows 8 = .ok (.ireturn, 1) := by decide +kernel
theorem dX7_makeRows_9 : decode cX7_makeRows 9 = .ok (.iload_n 1, 1) := by decide +kernel
theorem dX7_makeRows_10 : decode cX7_makeRows 10 = .ok (.aload_n 0, 1) := by decide +kernel
theorem dX7_makeRows_11 : decode cX7_makeRows 11 = .ok (.getfield 23, 3) := by decide +kernel
theorem dX7_makeRows_14 : decode cX7_makeRows 14 = .ok (.iconst 1, 1) := by decide +kernel
theorem dX7_makeRows_15 : decode cX7_makeRows 15 = .ok (.iadd, 1) := by decide +kernel
theorem dX7_makeRows_16 : decode cX7_makeRows 16 = .ok (.imul, 1) := by decide +kernel
theorem dX7_makeRows_17 : decode cX7_makeRows 17 = .ok (.istore_n 2, 1) := by decide +kernel
theorem dX7_makeRows_18 : decode cX7_makeRows 18 = .ok (.iload_n 2, 1) := by decide +kernel
theorem dX7_makeRows_19 : decode cX7_makeRows 19 = .ok (.aload_n 0, 1) := by decide +kernel
theorem dX7_makeRows_20 : decode cX7_makeRows 20 = .ok (.getfield 15, 3) := by decide +kernel
theorem dX7_makeRows_23 : decode cX7_makeRows 23 = .ok (.arraylength, 1) := by decide +kernel
theorem dX7_makeRows_24 : decode cX7_makeRows 24 = .ok (.if_icmp .le 25, 3) := by decide +kernel
theorem dX7_makeRows_27 : decode cX7_makeRows 27 = .ok (.aload_n 0, 1) := by decide +kernel
theorem dX7_makeRows_28 : decode cX7_makeRows 28 = .ok (.iload_n 2, 1) := by decide +kernel
theorem dX7_makeRows_29 : decode cX7_makeRows 29 = .ok (.iconst 2, 1) := by decide +kernel
theorem dX7_makeRows_30 : decode cX7_makeRows 30 = .ok (.aload_n 0, 1) := by decide +kernel
theorem dX7_makeRows_31 : decode cX7_makeRows 31 = .ok (.getfield 15, 3) := by decide +kernel
theorem dX7_makeRows_34 : decode cX7_makeRows 34 = .ok (.arraylength, 1) := by decide +kernel
theorem dX7_makeRows_35 : decode cX7_makeRows 35 = .ok (.imul, 1) := by decide +kernel
theorem dX7_makeRows_36 : decode cX7_makeRows 36 = .ok (.ldc 78, 2) := by decide +kernel
theorem dX7_makeRows_38 : decode cX7_makeRows 38 = .ok (.invokestatic 65, 3) := by decide +kernel
theorem dX7_makeRows_41 : decode cX7_makeRows 41 = .ok (.invokestatic 79, 3) := by decide +kernel
theorem dX7_makeRows_44 : decode cX7_makeRows 44 = .ok (.newarray .long, 2) := by decide +kernel
theorem dX7_makeRows_46 : decode cX7_makeRows 46 = .ok (.putfield 15, 3) := by decide +kernel
theorem dX7_makeRows_49 : decode cX7_makeRows 49 = .ok (.iconst 1, 1) := by decide +kernel
theorem dX7_makeRows_50 : decode cX7_makeRows 50 = .ok (.ireturn, 1) := by decide +kernel
theorem dX7_clear_0 : decode cX7_clear 0 = .ok (.iload_n 1, 1) := by decide +kernel
theorem dX7_clear_1 : decode cX7_clear 1 = .ok (.aload_n 0, 1) := by decide +kernel
theorem dX7_clear_2 : decode cX7_clear 2 = .ok (.getfield 23, 3) := by decide +kernel
theorem dX7_clear_5 : decode cX7_clear 5 = .ok (.iconst 1, 1) := by decide +kernel
theorem dX7_clear_6 : decode cX7_clear 6 = .ok (.iadd, 1) := by decide +kernel
theorem dX7_clear_7 : decode cX7_clear 7 = .ok (.imul, 1) := by decide +kernel
theorem dX7_clear_8 : decode cX7_clear 8 = .ok (.istore_n 2, 1) := by decide +kernel
theorem dX7_clear_9 : decode cX7_clear 9 = .ok (.iload_n 2, 1) := by decide +kernel
theorem dX7_clear_10 : decode cX7_clear 10 = .ok (.istore_n 3, 1) := by decide +kernel
theorem dX7_clear_11 : decode cX7_clear 11 = .ok (.iload_n 3, 1) := by decide +kernel
theorem dX7_clear_12 : decode cX7_clear 12 = .ok (.iload_n 2, 1) := by decide +kernel
theorem dX7_clear_13 : decode cX7_clear 13 = .ok (.aload_n 0, 1) := by decide +kernel
theorem dX7_clear_14 : decode cX7_clear 14 = .ok (.getfield 23, 3) := by decide +kernel
theorem dX7_clear_17 : decode cX7_clear 17 = .ok (.iadd, 1) := by decide +kernel
theorem dX7_clear_18 : decode cX7_clear 18 = .ok (.if_icmp .gt 16, 3) := by decide +kernel
theorem dX7_clear_21 : decode cX7_clear 21 = .ok (.aload_n 0, 1) := by decide +kernel
theorem dX7_clear_22 : decode cX7_clear 22 = .ok (.getfield 15, 3) := by decide +kernel
theorem dX7_clear_25 : decode cX7_clear 25 = .ok (.iload_n 3, 1) := by decide +kernel
theorem dX7_clear_26 : decode cX7_clear 26 = .ok (.lconst 0, 1) := by decide +kernel
theorem dX7_clear_27 : decode cX7_clear 27 = .ok (.lastore, 1) := by decide +kernel
theorem dX7_clear_28 : decode cX7_clear 28 = .ok (.iinc 3 1, 3) := by decide +kernel
theorem dX7_clear_31 : decode cX7_clear 31 = .ok (.goto (-20), 3) := by decide +kernel
theorem dX7_clear_34 : decode cX7_clear 34 = .ok (.return_, 1) := by decide +kernel
theorem dX7_addTerm_0 : decode cX7_addTerm 0 = .ok (.aload_n 1, 1) := by decide +kernel
theorem dX7_addTerm_1 : decode cX7_addTerm 1 = .ok (.getfield 51, 3) := by decide +kernel
theorem dX7_addTerm_4 : decode cX7_addTerm 4 = .ok (.iload_n 2, 1) := by decide +kernel
theorem dX7_addTerm_5 : decode cX7_addTerm 5 = .ok (.iaload, 1) := by decide +kernel
theorem dX7_addTerm_6 : decode cX7_addTerm 6 = .ok (.ifCond .ne 24, 3) := by decide +kernel
theorem dX7_addTerm_9 : decode cX7_addTerm 9 = .ok (.aload_n 0, 1) := by decide +kernel
theorem dX7_addTerm_10 : decode cX7_addTerm 10 = .ok (.iload_n 2, 1) := by decide +kernel
theorem dX7_addTerm_11 : decode cX7_addTerm 11 = .ok (.iload_n 2, 1) := by decide +kernel
theorem dX7_addTerm_12 : decode cX7_addTerm 12 = .ok (.iconst 1, 1) := by decide +kernel
theorem dX7_addTerm_13 : decode cX7_addTerm 13 = .ok (.iadd, 1) := by decide +kernel
theorem dX7_addTerm_14 : decode cX7_addTerm 14 = .ok (.iconst 0, 1) := by decide +kernel
theorem dX7_addTerm_15 : decode cX7_addTerm 15 = .ok (.iload_n 3, 1) := by decide +kernel
theorem dX7_addTerm_16 : decode cX7_addTerm 16 = .ok (.invokevirtual 82, 3) := by decide +kernel
theorem dX7_addTerm_19 : decode cX7_addTerm 19 = .ok (.aload_n 0, 1) := by decide +kernel
theorem dX7_addTerm_20 : decode cX7_addTerm 20 = .ok (.iload_n 2, 1) := by decide +kernel
theorem dX7_addTerm_21 : decode cX7_addTerm 21 = .ok (.aload_n 1, 1) := by decide +kernel
theorem dX7_addTerm_22 : decode cX7_addTerm 22 = .ok (.iload_n 2, 1) := by decide +kernel
theorem dX7_addTerm_23 : decode cX7_addTerm 23 = .ok (.iconst 1, 1) := by decide +kernel
theorem dX7_addTerm_24 : decode cX7_addTerm 24 = .ok (.invokevirtual 54, 3) := by decide +kernel
theorem dX7_addTerm_27 : decode cX7_addTerm 27 = .ok (.goto 51, 3) := by decide +kernel
theorem dX7_addTerm_30 : decode cX7_addTerm 30 = .ok (.aload_n 1, 1) := by decide +kernel
theorem dX7_addTerm_31 : decode cX7_addTerm 31 = .ok (.getfield 86, 3) := by decide +kernel
theorem dX7_addTerm_34 : decode cX7_addTerm 34 = .ok (.iload_n 2, 1) := by decide +kernel
theorem dX7_addTerm_35 : decode cX7_addTerm 35 = .ok (.iaload, 1) := by decide +kernel
theorem dX7_addTerm_36 : decode cX7_addTerm 36 = .ok (.istore 4, 2) := by decide +kernel
theorem dX7_addTerm_38 : decode cX7_addTerm 38 = .ok (.iload 4, 2) := by decide +kernel
theorem dX7_addTerm_40 : decode cX7_addTerm 40 = .ok (.aload_n 1, 1) := by decide +kernel
theorem dX7_addTerm_41 : decode cX7_addTerm 41 = .ok (.getfield 89, 3) := by decide +kernel
theorem dX7_addTerm_44 : decode cX7_addTerm 44 = .ok (.iload_n 2, 1) := by decide +kernel
theorem dX7_addTerm_45 : decode cX7_addTerm 45 = .ok (.iaload, 1) := by decide +kernel
theorem dX7_addTerm_46 : decode cX7_addTerm 46 = .ok (.if_icmp .gt 32, 3) := by decide +kernel
theorem dX7_addTerm_49 : decode cX7_addTerm 49 = .ok (.aload_n 0, 1) := by decide +kernel
theorem dX7_addTerm_50 : decode cX7_addTerm 50 = .ok (.iload_n 2, 1) := by decide +kernel
theorem dX7_addTerm_51 : decode cX7_addTerm 51 = .ok (.iload_n 2, 1) := by decide +kernel
theorem dX7_addTerm_52 : decode cX7_addTerm 52 = .ok (.iconst 1, 1) := by decide +kernel
theorem dX7_addTerm_53 : decode cX7_addTerm 53 = .ok (.iadd, 1) := by decide +kernel
theorem dX7_addTerm_54 : decode cX7_addTerm 54 = .ok (.aload_n 1, 1) := by decide +kernel
theorem dX7_addTerm_55 : decode cX7_addTerm 55 = .ok (.iload_n 2, 1) := by decide +kernel
theorem dX7_addTerm_56 : decode cX7_addTerm 56 = .ok (.iload 4, 2) := by decide +kernel
theorem dX7_addTerm_58 : decode cX7_addTerm 58 = .ok (.invokevirtual 92, 3) := by decide +kernel
theorem dX7_addTerm_61 : decode cX7_addTerm 61 = .ok (.aload_n 1, 1) := by decide +kernel
theorem dX7_addTerm_62 : decode cX7_addTerm 62 = .ok (.getfield 75, 3) := by decide +kernel
theorem dX7_addTerm_65 : decode cX7_addTerm 65 = .ok (.iload_n 2, 1) := by decide +kernel
theorem dX7_addTerm_66 : decode cX7_addTerm 66 = .ok (.iaload, 1) := by decide +kernel
theorem dX7_addTerm_67 : decode cX7_addTerm 67 = .ok (.isub, 1) := by decide +kernel
theorem dX7_addTerm_68 : decode cX7_addTerm 68 = .ok (.iload_n 3, 1) := by decide +kernel
theorem dX7_addTerm_69 : decode cX7_addTerm 69 = .ok (.invokevirtual 82, 3) := by decide +kernel
theorem dX7_addTerm_72 : decode cX7_addTerm 72 = .ok (.iinc 4 1, 3) := by decide +kernel
theorem dX7_addTerm_75 : decode cX7_addTerm 75 = .ok (.goto (-37), 3) := by decide +kernel
theorem dX7_addTerm_78 : decode cX7_addTerm 78 = .ok (.aload_n 0, 1) := by decide +kernel
theorem dX7_addTerm_79 : decode cX7_addTerm 79 = .ok (.getfield 23, 3) := by decide +kernel
theorem dX7_addTerm_82 : decode cX7_addTerm 82 = .ok (.iload_n 3, 1) := by decide +kernel
theorem dX7_addTerm_83 : decode cX7_addTerm 83 = .ok (.aload_n 1, 1) := by decide +kernel
theorem dX7_addTerm_84 : decode cX7_addTerm 84 = .ok (.iload_n 2, 1) := by decide +kernel
theorem dX7_addTerm_85 : decode cX7_addTerm 85 = .ok (.invokevirtual 62, 3) := by decide +kernel
theorem dX7_addTerm_88 : decode cX7_addTerm 88 = .ok (.iadd, 1) := by decide +kernel
theorem dX7_addTerm_89 : decode cX7_addTerm 89 = .ok (.invokestatic 65, 3) := by decide +kernel
theorem dX7_addTerm_92 : decode cX7_addTerm 92 = .ok (.ireturn, 1) := by decide +kernel
theorem dX7_addLikePowers_0 : decode cX7_addLikePowers 0 = .ok (.iconst 1, 1) := by decide +kernel
theorem dX7_addLikePowers_1 : decode cX7_addLikePowers 1 = .ok (.istore 5, 2) := by decide +kernel
theorem dX7_addLikePowers_3 : decode cX7_addLikePowers 3 = .ok (.iload 5, 2) := by decide +kernel
theorem dX7_addLikePowers_5 : decode cX7_addLikePowers 5 = .ok (.iload_n 3, 1) := by decide +kernel
theorem dX7_addLikePowers_6 : decode cX7_addLikePowers 6 = .ok (.if_icmp .gt 15, 3) := by decide +kernel
theorem dX7_addLikePowers_9 : decode cX7_addLikePowers 9 = .ok (.aload_n 0, 1) := by decide +kernel
theorem dX7_addLikePowers_10 : decode cX7_addLikePowers 10 = .ok (.iload 5, 2) := by decide +kernel
theorem dX7_addLikePowers_12 : decode cX7_addLikePowers 12 = .ok (.invokevirtual 39, 3) := by decide +kernel
theorem dX7_addLikePowers_15 : decode cX7_addLikePowers 15 = .ok (.iinc 5 1, 3) := by decide +kernel
theorem dX7_addLikePowers_18 : decode cX7_addLikePowers 18 = .ok (.goto (-15), 3) := by decide +kernel
theorem dX7_addLikePowers_21 : decode cX7_addLikePowers 21 = .ok (.aload_n 1, 1) := by decide +kernel
theorem dX7_addLikePowers_22 : decode cX7_addLikePowers 22 = .ok (.getfield 86, 3) := by decide +kernel
theorem dX7_addLikePowers_25 : decode cX7_addLikePowers 25 = .ok (.iload_n 2, 1) := by decide +kernel
theorem dX7_addLikePowers_26 : decode cX7_addLikePowers 26 = .ok (.iaload, 1) := by decide +kernel
theorem dX7_addLikePowers_27 : decode cX7_addLikePowers 27 = .ok (.istore 5, 2) := by decide +kernel
theorem dX7_addLikePowers_29 : decode cX7_addLikePowers 29 = .ok (.iload 5, 2) := by decide +kernel
theorem dX7_addLikePowers_31 : decode cX7_addLikePowers 31 = .ok (.aload_n 1, 1) := by decide +kernel
theorem dX7_addLikePowers_32 : decode cX7_addLikePowers 32 = .ok (.getfield 89, 3) := by decide +kernel
theorem dX7_addLikePowers_35 : decode cX7_addLikePowers 35 = .ok (.iload_n 2, 1) := by decide +kernel
theorem dX7_addLikePowers_36 : decode cX7_addLikePowers 36 = .ok (.iaload, 1) := by decide +kernel
theorem dX7_addLikePowers_37 : decode cX7_addLikePowers 37 = .ok (.if_icmp .gt 65, 3) := by decide +kernel
theorem dX7_addLikePowers_40 : decode cX7_addLikePowers 40 = .ok (.aload_n 1, 1) := by decide +kernel
theorem dX7_addLikePowers_41 : decode cX7_addLikePowers 41 = .ok (.iload_n 2, 1) := by decide +kernel
theorem dX7_addLikePowers_42 : decode cX7_addLikePowers 42 = .ok (.iload 5, 2) := by decide +kernel
theorem dX7_addLikePowers_44 : decode cX7_addLikePowers 44 = .ok (.invokevirtual 92, 3) := by decide +kernel
theorem dX7_addLikePowers_47 : decode cX7_addLikePowers 47 = .ok (.aload_n 1, 1) := by decide +kernel
theorem dX7_addLikePowers_48 : decode cX7_addLikePowers 48 = .ok (.getfield 75, 3) := by decide +kernel
theorem dX7_addLikePowers_51 : decode cX7_addLikePowers 51 = .ok (.iload_n 2, 1) := by decide +kernel
theorem dX7_addLikePowers_52 : decode cX7_addLikePowers 52 = .ok (.iaload, 1) := by decide +kernel
theorem dX7_addLikePowers_53 : decode cX7_addLikePowers 53 = .ok (.isub, 1) := by decide +kernel
theorem dX7_addLikePowers_54 : decode cX7_addLikePowers 54 = .ok (.istore 6, 2) := by decide +kernel
theorem dX7_addLikePowers_56 : decode cX7_addLikePowers 56 = .ok (.iconst 1, 1) := by decide +kernel
theorem dX7_addLikePowers_57 : decode cX7_addLikePowers 57 = .ok (.istore 7, 2) := by decide +kernel
theorem dX7_addLikePowers_59 : decode cX7_addLikePowers 59 = .ok (.iload 7, 2) := by decide +kernel
theorem dX7_addLikePowers_61 : decode cX7_addLikePowers 61 = .ok (.iload_n 3, 1) := by decide +kernel
theorem dX7_addLikePowers_62 : decode cX7_addLikePowers 62 = .ok (.if_icmp .gt 34, 3) := by decide +kernel
theorem dX7_addLikePowers_65 : decode cX7_addLikePowers 65 = .ok (.aload_n 0, 1) := by decide +kernel
theorem dX7_addLikePowers_66 : decode cX7_addLikePowers 66 = .ok (.iload 7, 2) := by decide +kernel
theorem dX7_addLikePowers_68 : decode cX7_addLikePowers 68 = .ok (.iload 7, 2) := by decide +kernel
theorem dX7_addLikePowers_70 : decode cX7_addLikePowers 70 = .ok (.iconst 1, 1) := by decide +kernel
theorem dX7_addLikePowers_71 : decode cX7_addLikePowers 71 = .ok (.isub, 1) := by decide +kernel
theorem dX7_addLikePowers_72 : decode cX7_addLikePowers 72 = .ok (.iload 6, 2) := by decide +kernel
theorem dX7_addLikePowers_74 : decode cX7_addLikePowers 74 = .ok (.iload 4, 2) := by decide +kernel
theorem dX7_addLikePowers_76 : decode cX7_addLikePowers 76 = .ok (.iload 7, 2) := by decide +kernel
theorem dX7_addLikePowers_78 : decode cX7_addLikePowers 78 = .ok (.iconst 1, 1) := by decide +kernel
theorem dX7_addLikePowers_79 : decode cX7_addLikePowers 79 = .ok (.isub, 1) := by decide +kernel
theorem dX7_addLikePowers_80 : decode cX7_addLikePowers 80 = .ok (.aload_n 1, 1) := by decide +kernel
theorem dX7_addLikePowers_81 : decode cX7_addLikePowers 81 = .ok (.iload_n 2, 1) := by decide +kernel
theorem dX7_addLikePowers_82 : decode cX7_addLikePowers 82 = .ok (.invokevirtual 62, 3) := by decide +kernel
theorem dX7_addLikePowers_85 : decode cX7_addLikePowers 85 = .ok (.imul, 1) := by decide +kernel
theorem dX7_addLikePowers_86 : decode cX7_addLikePowers 86 = .ok (.iadd, 1) := by decide +kernel
theorem dX7_addLikePowers_87 : decode cX7_addLikePowers 87 = .ok (.invokevirtual 82, 3) := by decide +kernel
theorem dX7_addLikePowers_90 : decode cX7_addLikePowers 90 = .ok (.iinc 7 1, 3) := by decide +kernel
theorem dX7_addLikePowers_93 : decode cX7_addLikePowers 93 = .ok (.goto (-34), 3) := by decide +kernel
theorem dX7_addLikePowers_96 : decode cX7_addLikePowers 96 = .ok (.iinc 5 1, 3) := by decide +kernel
theorem dX7_addLikePowers_99 : decode cX7_addLikePowers 99 = .ok (.goto (-70), 3) := by decide +kernel
theorem dX7_addLikePowers_102 : decode cX7_addLikePowers 102 = .ok (.aload_n 0, 1) := by decide +kernel
theorem dX7_addLikePowers_103 : decode cX7_addLikePowers 103 = .ok (.iconst 0, 1) := by decide +kernel
theorem dX7_addLikePowers_104 : decode cX7_addLikePowers 104 = .ok (.invokevirtual 39, 3) := by decide +kernel
theorem dX7_addLikePowers_107 : decode cX7_addLikePowers 107 = .ok (.aload_n 0, 1) := by decide +kernel
theorem dX7_addLikePowers_108 : decode cX7_addLikePowers 108 = .ok (.iconst 0, 1) := by decide +kernel
theorem dX7_addLikePowers_109 : decode cX7_addLikePowers 109 = .ok (.iload_n 3, 1) := by decide +kernel
theorem dX7_addLikePowers_110 : decode cX7_addLikePowers 110 = .ok (.iconst 0, 1) := by decide +kernel
theorem dX7_addLikePowers_111 : decode cX7_addLikePowers 111 = .ok (.aload_n 0, 1) := by decide +kernel
theorem dX7_addLikePowers_112 : decode cX7_addLikePowers 112 = .ok (.getfield 23, 3) := by decide +kernel
theorem dX7_addLikePowers_115 : decode cX7_addLikePowers 115 = .ok (.invokevirtual 82, 3) := by decide +kernel
theorem dX7_addLikePowers_118 : decode cX7_addLikePowers 118 = .ok (.return_, 1) := by decide +kernel
theorem dX7_addShifted_0 : decode cX7_addShifted 0 = .ok (.iload_n 1, 1) := by decide +kernel
theorem dX7_addShifted_1 : decode cX7_addShifted 1 = .ok (.aload_n 0, 1) := by decide +kernel
theorem dX7_addShifted_2 : decode cX7_addShifted 2 = .ok (.getfield 23, 3) := by decide +kernel
theorem dX7_addShifted_5 : decode cX7_addShifted 5 = .ok (.iconst 1, 1) := by decide +kernel
theorem dX7_addShifted_6 : decode cX7_addShifted 6 = .ok (.iadd, 1) := by decide +kernel
theorem dX7_addShifted_7 : decode cX7_addShifted 7 = .ok (.imul, 1) := by decide +kernel
theorem dX7_addShifted_8 : decode cX7_addShifted 8 = .ok (.istore 5, 2) := by decide +kernel
theorem dX7_addShifted_10 : decode cX7_addShifted 10 = .ok (.iload_n 2, 1) := by decide +kernel
theorem dX7_addShifted_11 : decode cX7_addShifted 11 = .ok (.aload_n 0, 1) := by decide +kernel
theorem dX7_addShifted_12 : decode cX7_addShifted 12 = .ok (.getfield 23, 3) := by decide +kernel
theorem dX7_addShifted_15 : decode cX7_addShifted 15 = .ok (.iconst 1, 1) := by decide +kernel
theorem dX7_addShifted_16 : decode cX7_addShifted 16 = .ok (.iadd, 1) := by decide +kernel
theorem dX7_addShifted_17 : decode cX7_addShifted 17 = .ok (.imul, 1) := by decide +kernel
theorem dX7_addShifted_18 : decode cX7_addShifted 18 = .ok (.iload_n 3, 1) := by decide +kernel
theorem dX7_addShifted_19 : decode cX7_addShifted 19 = .ok (.isub, 1) := by decide +kernel
theorem dX7_addShifted_20 : decode cX7_addShifted 20 = .ok (.istore 6, 2) := by decide +kernel
theorem dX7_addShifted_22 : decode cX7_addShifted 22 = .ok (.aload_n 0, 1) := by decide +kernel
theorem dX7_addShifted_23 : decode cX7_addShifted 23 = .ok (.getfield 23, 3) := by decide +kernel
theorem dX7_addShifted_26 : decode cX7_addShifted 26 = .ok (.iload_n 3, 1) := by decide +kernel
theorem dX7_addShifted_27 : decode cX7_addShifted 27 = .ok (.iload 4, 2) := by decide +kernel
theorem dX7_addShifted_29 : decode cX7_addShifted 29 = .ok (.iadd, 1) := by decide +kernel
theorem dX7_addShifted_30 : decode cX7_addShifted 30 = .ok (.invokestatic 65, 3) := by decide +kernel
theorem dX7_addShifted_33 : decode cX7_addShifted 33 = .ok (.istore 7, 2) := by decide +kernel
theorem dX7_addShifted_35 : decode cX7_addShifted 35 = .ok (.iload_n 3, 1) := by decide +kernel
theorem dX7_addShifted_36 : decode cX7_addShifted 36 = .ok (.istore 8, 2) := by decide +kernel
theorem dX7_addShifted_38 : decode cX7_addShifted 38 = .ok (.iload 8, 2) := by decide +kernel
theorem dX7_addShifted_40 : decode cX7_addShifted 40 = .ok (.iload 7, 2) := by decide +kernel
theorem dX7_addShifted_42 : decode cX7_addShifted 42 = .ok (.if_icmp .gt 32, 3) := by decide +kernel
theorem dX7_addShifted_45 : decode cX7_addShifted 45 = .ok (.aload_n 0, 1) := by decide +kernel
theorem dX7_addShifted_46 : decode cX7_addShifted 46 = .ok (.getfield 15, 3) := by decide +kernel
theorem dX7_addShifted_49 : decode cX7_addShifted 49 = .ok (.iload 5, 2) := by decide +kernel
theorem dX7_addShifted_51 : decode cX7_addShifted 51 = .ok (.iload 8, 2) := by decide +kernel
theorem dX7_addShifted_53 : decode cX7_addShifted 53 = .ok (.iadd, 1) := by decide +kernel
theorem dX7_addShifted_54 : decode cX7_addShifted 54 = .ok (.dup2, 1) := by decide +kernel
theorem dX7_addShifted_55 : decode cX7_addShifted 55 = .ok (.laload, 1) := by decide +kernel
theorem dX7_addShifted_56 : decode cX7_addShifted 56 = .ok (.aload_n 0, 1) := by decide +kernel
theorem dX7_addShifted_57 : decode cX7_addShifted 57 = .ok (.getfield 15, 3) := by decide +kernel
theorem dX7_addShifted_60 : decode cX7_addShifted 60 = .ok (.iload 6, 2) := by decide +kernel
theorem dX7_addShifted_62 : decode cX7_addShifted 62 = .ok (.iload 8, 2) := by decide +kernel
theorem dX7_addShifted_64 : decode cX7_addShifted 64 = .ok (.iadd, 1) := by decide +kernel
theorem dX7_addShifted_65 : decode cX7_addShifted 65 = .ok (.laload, 1) := by decide +kernel
theorem dX7_addShifted_66 : decode cX7_addShifted 66 = .ok (.ladd, 1) := by decide +kernel
theorem dX7_addShifted_67 : decode cX7_addShifted 67 = .ok (.lastore, 1) := by decide +kernel
theorem dX7_addShifted_68 : decode cX7_addShifted 68 = .ok (.iinc 8 1, 3) := by decide +kernel
theorem dX7_addShifted_71 : decode cX7_addShifted 71 = .ok (.goto (-33), 3) := by decide +kernel
theorem dX7_addShifted_74 : decode cX7_addShifted 74 = .ok (.return_, 1) := by decide +kernel
theorem dX7_addLikeLines_0 : decode cX7_addLikeLines 0 = .ok (.iload_n 1, 1) := by decide +kernel
theorem dX7_addLikeLines_1 : decode cX7_addLikeLines 1 = .ok (.aload_n 0, 1) := by decide +kernel
theorem dX7_addLikeLines_2 : decode cX7_addLikeLines 2 = .ok (.getfield 23, 3) := by decide +kernel
theorem dX7_addLikeLines_5 : decode cX7_addLikeLines 5 = .ok (.iconst 1, 1) := by decide +kernel
theorem dX7_addLikeLines_6 : decode cX7_addLikeLines 6 = .ok (.iadd, 1) := by decide +kernel
theorem dX7_addLikeLines_7 : decode cX7_addLikeLines 7 = .ok (.imul, 1) := by decide +kernel
theorem dX7_addLikeLines_8 : decode cX7_addLikeLines 8 = .ok (.istore 5, 2) := by decide +kernel
theorem dX7_addLikeLines_10 : decode cX7_addLikeLines 10 = .ok (.iload 5, 2) := by decide +kernel
theorem dX7_addLikeLines_12 : decode cX7_addLikeLines 12 = .ok (.aload_n 0, 1) := by decide +kernel
theorem dX7_addLikeLines_13 : decode cX7_addLikeLines 13 = .ok (.getfield 23, 3) := by decide +kernel
theorem dX7_addLikeLines_16 : decode cX7_addLikeLines 16 = .ok (.iadd, 1) := by decide +kernel
theorem dX7_addLikeLines_17 : decode cX7_addLikeLines 17 = .ok (.istore 6, 2) := by decide +kernel
theorem dX7_addLikeLines_19 : decode cX7_addLikeLines 19 = .ok (.aload_n 2, 1) := by decide +kernel
theorem dX7_addLikeLines_20 : decode cX7_addLikeLines 20 = .ok (.getfield 89, 3) := by decide +kernel
theorem dX7_addLikeLines_23 : decode cX7_addLikeLines 23 = .ok (.iload_n 3, 1) := by decide +kernel
theorem dX7_addLikeLines_24 : decode cX7_addLikeLines 24 = .ok (.iaload, 1) := by decide +kernel
theorem dX7_addLikeLines_25 : decode cX7_addLikeLines 25 = .ok (.aload_n 2, 1) := by decide +kernel
theorem dX7_addLikeLines_26 : decode cX7_addLikeLines 26 = .ok (.getfield 86, 3) := by decide +kernel
theorem dX7_addLikeLines_29 : decode cX7_addLikeLines 29 = .ok (.iload_n 3, 1) := by decide +kernel
theorem dX7_addLikeLines_30 : decode cX7_addLikeLines 30 = .ok (.iaload, 1) := by decide +kernel
theorem dX7_addLikeLines_31 : decode cX7_addLikeLines 31 = .ok (.isub, 1) := by decide +kernel
theorem dX7_addLikeLines_32 : decode cX7_addLikeLines 32 = .ok (.istore 7, 2) := by decide +kernel
theorem dX7_addLikeLines_34 : decode cX7_addLikeLines 34 = .ok (.iconst 1, 1) := by decide +kernel
theorem dX7_addLikeLines_35 : decode cX7_addLikeLines 35 = .ok (.istore 8, 2) := by decide +kernel
theorem dX7_addLikeLines_37 : decode cX7_addLikeLines 37 = .ok (.iload 8, 2) := by decide +kernel
theorem dX7_addLikeLines_39 : decode cX7_addLikeLines 39 = .ok (.iload 4, 2) := by decide +kernel
theorem dX7_addLikeLines_41 : decode cX7_addLikeLines 41 = .ok (.if_icmp .gt 114, 3) := by decide +kernel
theorem dX7_addLikeLines_44 : decode cX7_addLikeLines 44 = .ok (.aload_n 2, 1) := by decide +kernel
theorem dX7_addLikeLines_45 : decode cX7_addLikeLines 45 = .ok (.getfield 95, 3) := by decide +kernel
theorem dX7_addLikeLines_48 : decode cX7_addLikeLines 48 = .ok (.iload_n 3, 1) := by decide +kernel
theorem dX7_addLikeLines_49 : decode cX7_addLikeLines 49 = .ok (.iaload, 1) := by decide +kernel
theorem dX7_addLikeLines_50 : decode cX7_addLikeLines 50 = .ok (.iload 7, 2) := by decide +kernel
theorem dX7_addLikeLines_52 : decode cX7_addLikeLines 52 = .ok (.iload 8, 2) := by decide +kernel
theorem dX7_addLikeLines_54 : decode cX7_addLikeLines 54 = .ok (.iadd, 1) := by decide +kernel
theorem dX7_addLikeLines_55 : decode cX7_addLikeLines 55 = .ok (.imul, 1) := by decide +kernel
theorem dX7_addLikeLines_56 : decode cX7_addLikeLines 56 = .ok (.istore 9, 2) := by decide +kernel
theorem dX7_addLikeLines_58 : decode cX7_addLikeLines 58 = .ok (.iload 6, 2) := by decide +kernel
theorem dX7_addLikeLines_60 : decode cX7_addLikeLines 60 = .ok (.istore 10, 2) := by decide +kernel
theorem dX7_addLikeLines_62 : decode cX7_addLikeLines 62 = .ok (.iload 10, 2) := by decide +kernel
theorem dX7_addLikeLines_64 : decode cX7_addLikeLines 64 = .ok (.iload 5, 2) := by decide +kernel
theorem dX7_addLikeLines_66 : decode cX7_addLikeLines 66 = .ok (.iload 9, 2) := by decide +kernel
theorem dX7_addLikeLines_68 : decode cX7_addLikeLines 68 = .ok (.iadd, 1) := by decide +kernel
theorem dX7_addLikeLines_69 : decode cX7_addLikeLines 69 = .ok (.if_icmp .lt 29, 3) := by decide +kernel
theorem dX7_addLikeLines_72 : decode cX7_addLikeLines 72 = .ok (.aload_n 0, 1) := by decide +kernel
theorem dX7_addLikeLines_73 : decode cX7_addLikeLines 73 = .ok (.getfield 15, 3) := by decide +kernel
theorem dX7_addLikeLines_76 : decode cX7_addLikeLines 76 = .ok (.iload 10, 2) := by decide +kernel
theorem dX7_addLikeLines_78 : decode cX7_addLikeLines 78 = .ok (.dup2, 1) := by decide +kernel
theorem dX7_addLikeLines_79 : decode cX7_addLikeLines 79 = .ok (.laload, 1) := by decide +kernel
theorem dX7_addLikeLines_80 : decode cX7_addLikeLines 80 = .ok (.aload_n 0, 1) := by decide +kernel
theorem dX7_addLikeLines_81 : decode cX7_addLikeLines 81 = .ok (.getfield 15, 3) := by decide +kernel
theorem dX7_addLikeLines_84 : decode cX7_addLikeLines 84 = .ok (.iload 10, 2) := by decide +kernel
theorem dX7_addLikeLines_86 : decode cX7_addLikeLines 86 = .ok (.iload 9, 2) := by decide +kernel
theorem dX7_addLikeLines_88 : decode cX7_addLikeLines 88 = .ok (.isub, 1) := by decide +kernel
theorem dX7_addLikeLines_89 : decode cX7_addLikeLines 89 = .ok (.laload, 1) := by decide +kernel
theorem dX7_addLikeLines_90 : decode cX7_addLikeLines 90 = .ok (.lsub, 1) := by decide +kernel
theorem dX7_addLikeLines_91 : decode cX7_addLikeLines 91 = .ok (.lastore, 1) := by decide +kernel
theorem dX7_addLikeLines_92 : decode cX7_addLikeLines 92 = .ok (.iinc 10 (-1), 3) := by decide +kernel
theorem dX7_addLikeLines_95 : decode cX7_addLikeLines 95 = .ok (.goto (-33), 3) := by decide +kernel
theorem dX7_addLikeLines_98 : decode cX7_addLikeLines 98 = .ok (.aload_n 2, 1) := by decide +kernel
theorem dX7_addLikeLines_99 : decode cX7_addLikeLines 99 = .ok (.getfield 95, 3) := by decide +kernel
theorem dX7_addLikeLines_102 : decode cX7_addLikeLines 102 = .ok (.iload_n 3, 1) := by decide +kernel
theorem dX7_addLikeLines_103 : decode cX7_addLikeLines 103 = .ok (.iaload, 1) := by decide +kernel
theorem dX7_addLikeLines_104 : decode cX7_addLikeLines 104 = .ok (.iload 8, 2) := by decide +kernel
theorem dX7_addLikeLines_106 : decode cX7_addLikeLines 106 = .ok (.imul, 1) := by decide +kernel
theorem dX7_addLikeLines_107 : decode cX7_addLikeLines 107 = .ok (.istore 10, 2) := by decide +kernel
theorem dX7_addLikeLines_109 : decode cX7_addLikeLines 109 = .ok (.iload 5, 2) := by decide +kernel
theorem dX7_addLikeLines_111 : decode cX7_addLikeLines 111 = .ok (.iload 10, 2) := by decide +kernel
theorem dX7_addLikeLines_113 : decode cX7_addLikeLines 113 = .ok (.iadd, 1) := by decide +kernel
theorem dX7_addLikeLines_114 : decode cX7_addLikeLines 114 = .ok (.istore 11, 2) := by decide +kernel
theorem dX7_addLikeLines_116 : decode cX7_addLikeLines 116 = .ok (.iload 11, 2) := by decide +kernel
theorem dX7_addLikeLines_118 : decode cX7_addLikeLines 118 = .ok (.iload 6, 2) := by decide +kernel
theorem dX7_addLikeLines_120 : decode cX7_addLikeLines 120 = .ok (.if_icmp .gt 29, 3) := by decide +kernel
theorem dX7_addLikeLines_123 : decode cX7_addLikeLines 123 = .ok (.aload_n 0, 1) := by decide +kernel
theorem dX7_addLikeLines_124 : decode cX7_addLikeLines 124 = .ok (.getfield 15, 3) := by decide +kernel
theorem dX7_addLikeLines_127 : decode cX7_addLikeLines 127 = .ok (.iload 11, 2) := by decide +kernel
theorem dX7_addLikeLines_129 : decode cX7_addLikeLines 129 = .ok (.dup2, 1) := by decide +kernel
theorem dX7_addLikeLines_130 : decode cX7_addLikeLines 130 = .ok (.laload, 1) := by decide +kernel
theorem dX7_addLikeLines_131 : decode cX7_addLikeLines 131 = .ok (.aload_n 0, 1) := by decide +kernel
theorem dX7_addLikeLines_132 : decode cX7_addLikeLines 132 = .ok (.getfield 15, 3) := by decide +kernel
theorem dX7_addLikeLines_135 : decode cX7_addLikeLines 135 = .ok (.iload 11, 2) := by decide +kernel
theorem dX7_addLikeLines_137 : decode cX7_addLikeLines 137 = .ok (.iload 10, 2) := by decide +kernel
theorem dX7_addLikeLines_139 : decode cX7_addLikeLines 139 = .ok (.isub, 1) := by decide +kernel
theorem dX7_addLikeLines_140 : decode cX7_addLikeLines 140 = .ok (.laload, 1) := by decide +kernel
theorem dX7_addLikeLines_141 : decode cX7_addLikeLines 141 = .ok (.ladd, 1) := by decide +kernel
theorem dX7_addLikeLines_142 : decode cX7_addLikeLines 142 = .ok (.lastore, 1) := by decide +kernel
theorem dX7_addLikeLines_143 : decode cX7_addLikeLines 143 = .ok (.iinc 11 1, 3) := by decide +kernel
theorem dX7_addLikeLines_146 : decode cX7_addLikeLines 146 = .ok (.goto (-30), 3) := by decide +kernel
theorem dX7_addLikeLines_149 : decode cX7_addLikeLines 149 = .ok (.iinc 8 1, 3) := by decide +kernel
theorem dX7_addLikeLines_152 : decode cX7_addLikeLines 152 = .ok (.goto (-115), 3) := by decide +kernel
theorem dX7_addLikeLines_155 : decode cX7_addLikeLines 155 = .ok (.return_, 1) := by decide +kernel
