/-! DECODE ROWS X0 X1 X2 -/
theorem dX0_init_0 : decode cX0_init 0 = .ok (.aload_n 0, 1) := by decide +kernel
theorem dX0_init_1 : decode cX0_init 1 = .ok (.invokespecial 3, 3) := by decide +kernel
theorem dX0_init_4 : decode cX0_init 4 = .ok (.aload_n 0, 1) := by decide +kernel
theorem dX0_init_5 : decode cX0_init 5 = .ok (.sipush 360, 3) := by decide +kernel
theorem dX0_init_8 : decode cX0_init 8 = .ok (.newarray .long, 2) := by decide +kernel
theorem dX0_init_10 : decode cX0_init 10 = .ok (.putfield 9, 3) := by decide +kernel
theorem dX0_init_13 : decode cX0_init 13 = .ok (.aload_n 0, 1) := by decide +kernel
theorem dX0_init_14 : decode cX0_init 14 = .ok (.bipush 60, 2) := by decide +kernel
theorem dX0_init_16 : decode cX0_init 16 = .ok (.newarray .int, 2) := by decide +kernel
theorem dX0_init_18 : decode cX0_init 18 = .ok (.putfield 15, 3) := by decide +kernel
theorem dX0_init_21 : decode cX0_init 21 = .ok (.aload_n 0, 1) := by decide +kernel
theorem dX0_init_22 : decode cX0_init 22 = .ok (.iconst 1, 1) := by decide +kernel
theorem dX0_init_23 : decode cX0_init 23 = .ok (.putfield 19, 3) := by decide +kernel
theorem dX0_init_26 : decode cX0_init 26 = .ok (.return_, 1) := by decide +kernel
theorem dX0_fill_0 : decode cX0_fill 0 = .ok (.aload_n 0, 1) := by decide +kernel
theorem dX0_fill_1 : decode cX0_fill 1 = .ok (.iconst 1, 1) := by decide +kernel
theorem dX0_fill_2 : decode cX0_fill 2 = .ok (.iload_n 2, 1) := by decide +kernel
theorem dX0_fill_3 : decode cX0_fill 3 = .ok (.bipush 60, 2) := by decide +kernel
theorem dX0_fill_5 : decode cX0_fill 5 = .ok (.invokestatic 23, 3) := by decide +kernel
theorem dX0_fill_8 : decode cX0_fill 8 = .ok (.invokestatic 29, 3) := by decide +kernel
theorem dX0_fill_11 : decode cX0_fill 11 = .ok (.putfield 19, 3) := by decide +kernel
theorem dX0_fill_14 : decode cX0_fill 14 = .ok (.iconst 0, 1) := by decide +kernel
theorem dX0_fill_15 : decode cX0_fill 15 = .ok (.istore_n 3, 1) := by decide +kernel
theorem dX0_fill_16 : decode cX0_fill 16 = .ok (.iload_n 3, 1) := by decide +kernel
theorem dX0_fill_17 : decode cX0_fill 17 = .ok (.aload_n 0, 1) := by decide +kernel
theorem dX0_fill_18 : decode cX0_fill 18 = .ok (.getfield 9, 3) := by decide +kernel
theorem dX0_fill_21 : decode cX0_fill 21 = .ok (.arraylength, 1) := by decide +kernel
theorem dX0_fill_22 : decode cX0_fill 22 = .ok (.if_icmp .ge 16, 3) := by decide +kernel
theorem dX0_fill_25 : decode cX0_fill 25 = .ok (.aload_n 0, 1) := by decide +kernel
theorem dX0_fill_26 : decode cX0_fill 26 = .ok (.getfield 9, 3) := by decide +kernel
theorem dX0_fill_29 : decode cX0_fill 29 = .ok (.iload_n 3, 1) := by decide +kernel
theorem dX0_fill_30 : decode cX0_fill 30 = .ok (.lconst 0, 1) := by decide +kernel
theorem dX0_fill_31 : decode cX0_fill 31 = .ok (.lastore, 1) := by decide +kernel
theorem dX0_fill_32 : decode cX0_fill 32 = .ok (.iinc 3 1, 3) := by decide +kernel
theorem dX0_fill_35 : decode cX0_fill 35 = .ok (.goto (-19), 3) := by decide +kernel
theorem dX0_fill_38 : decode cX0_fill 38 = .ok (.aload_n 0, 1) := by decide +kernel
theorem dX0_fill_39 : decode cX0_fill 39 = .ok (.getfield 9, 3) := by decide +kernel
theorem dX0_fill_42 : decode cX0_fill 42 = .ok (.aload_n 1, 1) := by decide +kernel
theorem dX0_fill_43 : decode cX0_fill 43 = .ok (.getfield 32, 3) := by decide +kernel
theorem dX0_fill_46 : decode cX0_fill 46 = .ok (.bipush 60, 2) := by decide +kernel
theorem dX0_fill_48 : decode cX0_fill 48 = .ok (.imul, 1) := by decide +kernel
theorem dX0_fill_49 : decode cX0_fill 49 = .ok (.lconst 1, 1) := by decide +kernel
theorem dX0_fill_50 : decode cX0_fill 50 = .ok (.lastore, 1) := by decide +kernel
theorem dX0_fill_51 : decode cX0_fill 51 = .ok (.aload_n 1, 1) := by decide +kernel
theorem dX0_fill_52 : decode cX0_fill 52 = .ok (.getfield 32, 3) := by decide +kernel
theorem dX0_fill_55 : decode cX0_fill 55 = .ok (.iconst 1, 1) := by decide +kernel
theorem dX0_fill_56 : decode cX0_fill 56 = .ok (.isub, 1) := by decide +kernel
theorem dX0_fill_57 : decode cX0_fill 57 = .ok (.istore_n 3, 1) := by decide +kernel
theorem dX0_fill_58 : decode cX0_fill 58 = .ok (.iload_n 3, 1) := by decide +kernel
theorem dX0_fill_59 : decode cX0_fill 59 = .ok (.ifCond .lt 50, 3) := by decide +kernel
theorem dX0_fill_62 : decode cX0_fill 62 = .ok (.aload_n 0, 1) := by decide +kernel
theorem dX0_fill_63 : decode cX0_fill 63 = .ok (.aload_n 1, 1) := by decide +kernel
theorem dX0_fill_64 : decode cX0_fill 64 = .ok (.iload_n 3, 1) := by decide +kernel
theorem dX0_fill_65 : decode cX0_fill 65 = .ok (.invokevirtual 37, 3) := by decide +kernel
theorem dX0_fill_68 : decode cX0_fill 68 = .ok (.iconst 0, 1) := by decide +kernel
theorem dX0_fill_69 : decode cX0_fill 69 = .ok (.istore 4, 2) := by decide +kernel
theorem dX0_fill_71 : decode cX0_fill 71 = .ok (.iload 4, 2) := by decide +kernel
theorem dX0_fill_73 : decode cX0_fill 73 = .ok (.aload_n 0, 1) := by decide +kernel
theorem dX0_fill_74 : decode cX0_fill 74 = .ok (.getfield 19, 3) := by decide +kernel
theorem dX0_fill_77 : decode cX0_fill 77 = .ok (.if_icmp .ge 26, 3) := by decide +kernel
theorem dX0_fill_80 : decode cX0_fill 80 = .ok (.aload_n 0, 1) := by decide +kernel
theorem dX0_fill_81 : decode cX0_fill 81 = .ok (.getfield 15, 3) := by decide +kernel
theorem dX0_fill_84 : decode cX0_fill 84 = .ok (.iload 4, 2) := by decide +kernel
theorem dX0_fill_86 : decode cX0_fill 86 = .ok (.iaload, 1) := by decide +kernel
theorem dX0_fill_87 : decode cX0_fill 87 = .ok (.ifCond .le 10, 3) := by decide +kernel
theorem dX0_fill_90 : decode cX0_fill 90 = .ok (.aload_n 0, 1) := by decide +kernel
theorem dX0_fill_91 : decode cX0_fill 91 = .ok (.iload_n 3, 1) := by decide +kernel
theorem dX0_fill_92 : decode cX0_fill 92 = .ok (.iload 4, 2) := by decide +kernel
theorem dX0_fill_94 : decode cX0_fill 94 = .ok (.invokevirtual 41, 3) := by decide +kernel
theorem dX0_fill_97 : decode cX0_fill 97 = .ok (.iinc 4 1, 3) := by decide +kernel
theorem dX0_fill_100 : decode cX0_fill 100 = .ok (.goto (-29), 3) := by decide +kernel
theorem dX0_fill_103 : decode cX0_fill 103 = .ok (.iinc 3 (-1), 3) := by decide +kernel
theorem dX0_fill_106 : decode cX0_fill 106 = .ok (.goto (-48), 3) := by decide +kernel
theorem dX0_fill_109 : decode cX0_fill 109 = .ok (.return_, 1) := by decide +kernel
theorem dX0_rowsFrom_0 : decode cX0_rowsFrom 0 = .ok (.iload_n 1, 1) := by decide +kernel
theorem dX0_rowsFrom_1 : decode cX0_rowsFrom 1 = .ok (.bipush 60, 2) := by decide +kernel
theorem dX0_rowsFrom_3 : decode cX0_rowsFrom 3 = .ok (.imul, 1) := by decide +kernel
theorem dX0_rowsFrom_4 : decode cX0_rowsFrom 4 = .ok (.iload_n 2, 1) := by decide +kernel
theorem dX0_rowsFrom_5 : decode cX0_rowsFrom 5 = .ok (.iadd, 1) := by decide +kernel
theorem dX0_rowsFrom_6 : decode cX0_rowsFrom 6 = .ok (.istore_n 3, 1) := by decide +kernel
theorem dX0_rowsFrom_7 : decode cX0_rowsFrom 7 = .ok (.iload_n 3, 1) := by decide +kernel
theorem dX0_rowsFrom_8 : decode cX0_rowsFrom 8 = .ok (.ifCond .lt 21, 3) := by decide +kernel
theorem dX0_rowsFrom_11 : decode cX0_rowsFrom 11 = .ok (.iload_n 3, 1) := by decide +kernel
theorem dX0_rowsFrom_12 : decode cX0_rowsFrom 12 = .ok (.aload_n 0, 1) := by decide +kernel
theorem dX0_rowsFrom_13 : decode cX0_rowsFrom 13 = .ok (.getfield 9, 3) := by decide +kernel
theorem dX0_rowsFrom_16 : decode cX0_rowsFrom 16 = .ok (.arraylength, 1) := by decide +kernel
theorem dX0_rowsFrom_17 : decode cX0_rowsFrom 17 = .ok (.if_icmp .ge 12, 3) := by decide +kernel
theorem dX0_rowsFrom_20 : decode cX0_rowsFrom 20 = .ok (.aload_n 0, 1) := by decide +kernel
theorem dX0_rowsFrom_21 : decode cX0_rowsFrom 21 = .ok (.getfield 9, 3) := by decide +kernel
theorem dX0_rowsFrom_24 : decode cX0_rowsFrom 24 = .ok (.iload_n 3, 1) := by decide +kernel
theorem dX0_rowsFrom_25 : decode cX0_rowsFrom 25 = .ok (.laload, 1) := by decide +kernel
theorem dX0_rowsFrom_26 : decode cX0_rowsFrom 26 = .ok (.goto 4, 3) := by decide +kernel
theorem dX0_rowsFrom_29 : decode cX0_rowsFrom 29 = .ok (.lconst 0, 1) := by decide +kernel
theorem dX0_rowsFrom_30 : decode cX0_rowsFrom 30 = .ok (.lreturn, 1) := by decide +kernel
theorem dX0_firstRow_0 : decode cX0_firstRow 0 = .ok (.iload_n 2, 1) := by decide +kernel
theorem dX0_firstRow_1 : decode cX0_firstRow 1 = .ok (.istore 4, 2) := by decide +kernel
theorem dX0_firstRow_3 : decode cX0_firstRow 3 = .ok (.iconst 0, 1) := by decide +kernel
theorem dX0_firstRow_4 : decode cX0_firstRow 4 = .ok (.istore 5, 2) := by decide +kernel
theorem dX0_firstRow_6 : decode cX0_firstRow 6 = .ok (.iload 5, 2) := by decide +kernel
theorem dX0_firstRow_8 : decode cX0_firstRow 8 = .ok (.iload_n 3, 1) := by decide +kernel
theorem dX0_firstRow_9 : decode cX0_firstRow 9 = .ok (.if_icmp .gt 65, 3) := by decide +kernel
theorem dX0_firstRow_12 : decode cX0_firstRow 12 = .ok (.iload 5, 2) := by decide +kernel
theorem dX0_firstRow_14 : decode cX0_firstRow 14 = .ok (.aload_n 1, 1) := by decide +kernel
theorem dX0_firstRow_15 : decode cX0_firstRow 15 = .ok (.getfield 32, 3) := by decide +kernel
theorem dX0_firstRow_18 : decode cX0_firstRow 18 = .ok (.if_icmp .ge 56, 3) := by decide +kernel
theorem dX0_firstRow_21 : decode cX0_firstRow 21 = .ok (.aload_n 0, 1) := by decide +kernel
theorem dX0_firstRow_22 : decode cX0_firstRow 22 = .ok (.aload_n 1, 1) := by decide +kernel
theorem dX0_firstRow_23 : decode cX0_firstRow 23 = .ok (.iload 5, 2) := by decide +kernel
theorem dX0_firstRow_25 : decode cX0_firstRow 25 = .ok (.iload 4, 2) := by decide +kernel
theorem dX0_firstRow_27 : decode cX0_firstRow 27 = .ok (.invokevirtual 45, 3) := by decide +kernel
theorem dX0_firstRow_30 : decode cX0_firstRow 30 = .ok (.istore 6, 2) := by decide +kernel
theorem dX0_firstRow_32 : decode cX0_firstRow 32 = .ok (.iload 6, 2) := by decide +kernel
theorem dX0_firstRow_34 : decode cX0_firstRow 34 = .ok (.iconst (-1), 1) := by decide +kernel
theorem dX0_firstRow_35 : decode cX0_firstRow 35 = .ok (.if_icmp .eq 9, 3) := by decide +kernel
theorem dX0_firstRow_38 : decode cX0_firstRow 38 = .ok (.iload 5, 2) := by decide +kernel
theorem dX0_firstRow_40 : decode cX0_firstRow 40 = .ok (.iload_n 3, 1) := by decide +kernel
theorem dX0_firstRow_41 : decode cX0_firstRow 41 = .ok (.if_icmp .ne 6, 3) := by decide +kernel
theorem dX0_firstRow_44 : decode cX0_firstRow 44 = .ok (.iload 6, 2) := by decide +kernel
theorem dX0_firstRow_46 : decode cX0_firstRow 46 = .ok (.ireturn, 1) := by decide +kernel
theorem dX0_firstRow_47 : decode cX0_firstRow 47 = .ok (.iload 4, 2) := by decide +kernel
theorem dX0_firstRow_49 : decode cX0_firstRow 49 = .ok (.aload_n 0, 1) := by decide +kernel
theorem dX0_firstRow_50 : decode cX0_firstRow 50 = .ok (.aload_n 1, 1) := by decide +kernel
theorem dX0_firstRow_51 : decode cX0_firstRow 51 = .ok (.iload 5, 2) := by decide +kernel
theorem dX0_firstRow_53 : decode cX0_firstRow 53 = .ok (.iload 6, 2) := by decide +kernel
theorem dX0_firstRow_55 : decode cX0_firstRow 55 = .ok (.invokevirtual 49, 3) := by decide +kernel
theorem dX0_firstRow_58 : decode cX0_firstRow 58 = .ok (.isub, 1) := by decide +kernel
theorem dX0_firstRow_59 : decode cX0_firstRow 59 = .ok (.aload_n 0, 1) := by decide +kernel
theorem dX0_firstRow_60 : decode cX0_firstRow 60 = .ok (.getfield 19, 3) := by decide +kernel
theorem dX0_firstRow_63 : decode cX0_firstRow 63 = .ok (.invokestatic 52, 3) := by decide +kernel
theorem dX0_firstRow_66 : decode cX0_firstRow 66 = .ok (.istore 4, 2) := by decide +kernel
theorem dX0_firstRow_68 : decode cX0_firstRow 68 = .ok (.iinc 5 1, 3) := by decide +kernel
theorem dX0_firstRow_71 : decode cX0_firstRow 71 = .ok (.goto (-65), 3) := by decide +kernel
theorem dX0_firstRow_74 : decode cX0_firstRow 74 = .ok (.iconst (-1), 1) := by decide +kernel
theorem dX0_firstRow_75 : decode cX0_firstRow 75 = .ok (.ireturn, 1) := by decide +kernel
theorem dX0_firstX_0 : decode cX0_firstX 0 = .ok (.iconst 0, 1) := by decide +kernel
theorem dX0_firstX_1 : decode cX0_firstX 1 = .ok (.istore 4, 2) := by decide +kernel
theorem dX0_firstX_3 : decode cX0_firstX 3 = .ok (.iload 4, 2) := by decide +kernel
theorem dX0_firstX_5 : decode cX0_firstX 5 = .ok (.aload_n 0, 1) := by decide +kernel
theorem dX0_firstX_6 : decode cX0_firstX 6 = .ok (.aload_n 1, 1) := by decide +kernel
theorem dX0_firstX_7 : decode cX0_firstX 7 = .ok (.iload_n 2, 1) := by decide +kernel
theorem dX0_firstX_8 : decode cX0_firstX 8 = .ok (.invokevirtual 55, 3) := by decide +kernel
theorem dX0_firstX_11 : decode cX0_firstX 11 = .ok (.if_icmp .ge 41, 3) := by decide +kernel
theorem dX0_firstX_14 : decode cX0_firstX 14 = .ok (.aload_n 0, 1) := by decide +kernel
theorem dX0_firstX_15 : decode cX0_firstX 15 = .ok (.iload_n 2, 1) := by decide +kernel
theorem dX0_firstX_16 : decode cX0_firstX 16 = .ok (.iconst 1, 1) := by decide +kernel
theorem dX0_firstX_17 : decode cX0_firstX 17 = .ok (.iadd, 1) := by decide +kernel
theorem dX0_firstX_18 : decode cX0_firstX 18 = .ok (.iload_n 3, 1) := by decide +kernel
theorem dX0_firstX_19 : decode cX0_firstX 19 = .ok (.aload_n 0, 1) := by decide +kernel
theorem dX0_firstX_20 : decode cX0_firstX 20 = .ok (.aload_n 1, 1) := by decide +kernel
theorem dX0_firstX_21 : decode cX0_firstX 21 = .ok (.iload_n 2, 1) := by decide +kernel
theorem dX0_firstX_22 : decode cX0_firstX 22 = .ok (.iload 4, 2) := by decide +kernel
theorem dX0_firstX_24 : decode cX0_firstX 24 = .ok (.invokevirtual 49, 3) := by decide +kernel
theorem dX0_firstX_27 : decode cX0_firstX 27 = .ok (.isub, 1) := by decide +kernel
theorem dX0_firstX_28 : decode cX0_firstX 28 = .ok (.aload_n 0, 1) := by decide +kernel
theorem dX0_firstX_29 : decode cX0_firstX 29 = .ok (.getfield 19, 3) := by decide +kernel
theorem dX0_firstX_32 : decode cX0_firstX 32 = .ok (.invokestatic 52, 3) := by decide +kernel
theorem dX0_firstX_35 : decode cX0_firstX 35 = .ok (.invokevirtual 59, 3) := by decide +kernel
theorem dX0_firstX_38 : decode cX0_firstX 38 = .ok (.lconst 0, 1) := by decide +kernel
theorem dX0_firstX_39 : decode cX0_firstX 39 = .ok (.lcmp, 1) := by decide +kernel
theorem dX0_firstX_40 : decode cX0_firstX 40 = .ok (.ifCond .le 6, 3) := by decide +kernel
theorem dX0_firstX_43 : decode cX0_firstX 43 = .ok (.iload 4, 2) := by decide +kernel
theorem dX0_firstX_45 : decode cX0_firstX 45 = .ok (.ireturn, 1) := by decide +kernel
theorem dX0_firstX_46 : decode cX0_firstX 46 = .ok (.iinc 4 1, 3) := by decide +kernel
theorem dX0_firstX_49 : decode cX0_firstX 49 = .ok (.goto (-46), 3) := by decide +kernel
theorem dX0_firstX_52 : decode cX0_firstX 52 = .ok (.iconst (-1), 1) := by decide +kernel
theorem dX0_firstX_53 : decode cX0_firstX 53 = .ok (.ireturn, 1) := by decide +kernel
theorem dX0_takeHits_0 : decode cX0_takeHits 0 = .ok (.iconst 0, 1) := by decide +kernel
theorem dX0_takeHits_1 : decode cX0_takeHits 1 = .ok (.istore_n 3, 1) := by decide +kernel
theorem dX0_takeHits_2 : decode cX0_takeHits 2 = .ok (.iload_n 3, 1) := by decide +kernel
theorem dX0_takeHits_3 : decode cX0_takeHits 3 = .ok (.aload_n 0, 1) := by decide +kernel
theorem dX0_takeHits_4 : decode cX0_takeHits 4 = .ok (.getfield 19, 3) := by decide +kernel
theorem dX0_takeHits_7 : decode cX0_takeHits 7 = .ok (.if_icmp .ge 16, 3) := by decide +kernel
theorem dX0_takeHits_10 : decode cX0_takeHits 10 = .ok (.aload_n 0, 1) := by decide +kernel
theorem dX0_takeHits_11 : decode cX0_takeHits 11 = .ok (.getfield 15, 3) := by decide +kernel
theorem dX0_takeHits_14 : decode cX0_takeHits 14 = .ok (.iload_n 3, 1) := by decide +kernel
theorem dX0_takeHits_15 : decode cX0_takeHits 15 = .ok (.iconst 0, 1) := by decide +kernel
theorem dX0_takeHits_16 : decode cX0_takeHits 16 = .ok (.iastore, 1) := by decide +kernel
theorem dX0_takeHits_17 : decode cX0_takeHits 17 = .ok (.iinc 3 1, 3) := by decide +kernel
theorem dX0_takeHits_20 : decode cX0_takeHits 20 = .ok (.goto (-18), 3) := by decide +kernel
theorem dX0_takeHits_23 : decode cX0_takeHits 23 = .ok (.iconst 0, 1) := by decide +kernel
theorem dX0_takeHits_24 : decode cX0_takeHits 24 = .ok (.istore_n 3, 1) := by decide +kernel
theorem dX0_takeHits_25 : decode cX0_takeHits 25 = .ok (.iload_n 3, 1) := by decide +kernel
theorem dX0_takeHits_26 : decode cX0_takeHits 26 = .ok (.aload_n 0, 1) := by decide +kernel
theorem dX0_takeHits_27 : decode cX0_takeHits 27 = .ok (.aload_n 1, 1) := by decide +kernel
theorem dX0_takeHits_28 : decode cX0_takeHits 28 = .ok (.iload_n 2, 1) := by decide +kernel
theorem dX0_takeHits_29 : decode cX0_takeHits 29 = .ok (.invokevirtual 55, 3) := by decide +kernel
theorem dX0_takeHits_32 : decode cX0_takeHits 32 = .ok (.if_icmp .ge 25, 3) := by decide +kernel
theorem dX0_takeHits_35 : decode cX0_takeHits 35 = .ok (.aload_n 0, 1) := by decide +kernel
theorem dX0_takeHits_36 : decode cX0_takeHits 36 = .ok (.getfield 15, 3) := by decide +kernel
theorem dX0_takeHits_39 : decode cX0_takeHits 39 = .ok (.aload_n 0, 1) := by decide +kernel
theorem dX0_takeHits_40 : decode cX0_takeHits 40 = .ok (.aload_n 1, 1) := by decide +kernel
theorem dX0_takeHits_41 : decode cX0_takeHits 41 = .ok (.iload_n 2, 1) := by decide +kernel
theorem dX0_takeHits_42 : decode cX0_takeHits 42 = .ok (.iload_n 3, 1) := by decide +kernel
theorem dX0_takeHits_43 : decode cX0_takeHits 43 = .ok (.invokevirtual 49, 3) := by decide +kernel
theorem dX0_takeHits_46 : decode cX0_takeHits 46 = .ok (.dup2, 1) := by decide +kernel
theorem dX0_takeHits_47 : decode cX0_takeHits 47 = .ok (.iaload, 1) := by decide +kernel
theorem dX0_takeHits_48 : decode cX0_takeHits 48 = .ok (.iconst 1, 1) := by decide +kernel
theorem dX0_takeHits_49 : decode cX0_takeHits 49 = .ok (.iadd, 1) := by decide +kernel
theorem dX0_takeHits_50 : decode cX0_takeHits 50 = .ok (.iastore, 1) := by decide +kernel
theorem dX0_takeHits_51 : decode cX0_takeHits 51 = .ok (.iinc 3 1, 3) := by decide +kernel
theorem dX0_takeHits_54 : decode cX0_takeHits 54 = .ok (.goto (-29), 3) := by decide +kernel
theorem dX0_takeHits_57 : decode cX0_takeHits 57 = .ok (.return_, 1) := by decide +kernel
theorem dX0_addHits_0 : decode cX0_addHits 0 = .ok (.iload_n 1, 1) := by decide +kernel
theorem dX0_addHits_1 : decode cX0_addHits 1 = .ok (.bipush 60, 2) := by decide +kernel
theorem dX0_addHits_3 : decode cX0_addHits 3 = .ok (.imul, 1) := by decide +kernel
theorem dX0_addHits_4 : decode cX0_addHits 4 = .ok (.istore_n 3, 1) := by decide +kernel
theorem dX0_addHits_5 : decode cX0_addHits 5 = .ok (.iload_n 3, 1) := by decide +kernel
theorem dX0_addHits_6 : decode cX0_addHits 6 = .ok (.bipush 60, 2) := by decide +kernel
theorem dX0_addHits_8 : decode cX0_addHits 8 = .ok (.iadd, 1) := by decide +kernel
theorem dX0_addHits_9 : decode cX0_addHits 9 = .ok (.istore 4, 2) := by decide +kernel
theorem dX0_addHits_11 : decode cX0_addHits 11 = .ok (.iconst 0, 1) := by decide +kernel
theorem dX0_addHits_12 : decode cX0_addHits 12 = .ok (.istore 5, 2) := by decide +kernel
theorem dX0_addHits_14 : decode cX0_addHits 14 = .ok (.iload 5, 2) := by decide +kernel
theorem dX0_addHits_16 : decode cX0_addHits 16 = .ok (.aload_n 0, 1) := by decide +kernel
theorem dX0_addHits_17 : decode cX0_addHits 17 = .ok (.getfield 19, 3) := by decide +kernel
theorem dX0_addHits_20 : decode cX0_addHits 20 = .ok (.if_icmp .ge 68, 3) := by decide +kernel
theorem dX0_addHits_23 : decode cX0_addHits 23 = .ok (.iload 5, 2) := by decide +kernel
theorem dX0_addHits_25 : decode cX0_addHits 25 = .ok (.iload_n 2, 1) := by decide +kernel
theorem dX0_addHits_26 : decode cX0_addHits 26 = .ok (.iadd, 1) := by decide +kernel
theorem dX0_addHits_27 : decode cX0_addHits 27 = .ok (.aload_n 0, 1) := by decide +kernel
theorem dX0_addHits_28 : decode cX0_addHits 28 = .ok (.getfield 19, 3) := by decide +kernel
theorem dX0_addHits_31 : decode cX0_addHits 31 = .ok (.if_icmp .ge 10, 3) := by decide +kernel
theorem dX0_addHits_34 : decode cX0_addHits 34 = .ok (.iload 5, 2) := by decide +kernel
theorem dX0_addHits_36 : decode cX0_addHits 36 = .ok (.iload_n 2, 1) := by decide +kernel
theorem dX0_addHits_37 : decode cX0_addHits 37 = .ok (.iadd, 1) := by decide +kernel
theorem dX0_addHits_38 : decode cX0_addHits 38 = .ok (.goto 12, 3) := by decide +kernel
theorem dX0_addHits_41 : decode cX0_addHits 41 = .ok (.iload 5, 2) := by decide +kernel
theorem dX0_addHits_43 : decode cX0_addHits 43 = .ok (.iload_n 2, 1) := by decide +kernel
theorem dX0_addHits_44 : decode cX0_addHits 44 = .ok (.iadd, 1) := by decide +kernel
theorem dX0_addHits_45 : decode cX0_addHits 45 = .ok (.aload_n 0, 1) := by decide +kernel
theorem dX0_addHits_46 : decode cX0_addHits 46 = .ok (.getfield 19, 3) := by decide +kernel
theorem dX0_addHits_49 : decode cX0_addHits 49 = .ok (.isub, 1) := by decide +kernel
theorem dX0_addHits_50 : decode cX0_addHits 50 = .ok (.istore 6, 2) := by decide +kernel
theorem dX0_addHits_52 : decode cX0_addHits 52 = .ok (.aload_n 0, 1) := by decide +kernel
theorem dX0_addHits_53 : decode cX0_addHits 53 = .ok (.getfield 9, 3) := by decide +kernel
theorem dX0_addHits_56 : decode cX0_addHits 56 = .ok (.iload_n 3, 1) := by decide +kernel
theorem dX0_addHits_57 : decode cX0_addHits 57 = .ok (.iload 6, 2) := by decide +kernel
theorem dX0_addHits_59 : decode cX0_addHits 59 = .ok (.iadd, 1) := by decide +kernel
theorem dX0_addHits_60 : decode cX0_addHits 60 = .ok (.dup2, 1) := by decide +kernel
theorem dX0_addHits_61 : decode cX0_addHits 61 = .ok (.laload, 1) := by decide +kernel
theorem dX0_addHits_62 : decode cX0_addHits 62 = .ok (.aload_n 0, 1) := by decide +kernel
theorem dX0_addHits_63 : decode cX0_addHits 63 = .ok (.getfield 15, 3) := by decide +kernel
theorem dX0_addHits_66 : decode cX0_addHits 66 = .ok (.iload_n 2, 1) := by decide +kernel
theorem dX0_addHits_67 : decode cX0_addHits 67 = .ok (.iaload, 1) := by decide +kernel
theorem dX0_addHits_68 : decode cX0_addHits 68 = .ok (.i2l, 1) := by decide +kernel
theorem dX0_addHits_69 : decode cX0_addHits 69 = .ok (.aload_n 0, 1) := by decide +kernel
theorem dX0_addHits_70 : decode cX0_addHits 70 = .ok (.getfield 9, 3) := by decide +kernel
theorem dX0_addHits_73 : decode cX0_addHits 73 = .ok (.iload 4, 2) := by decide +kernel
theorem dX0_addHits_75 : decode cX0_addHits 75 = .ok (.iload 5, 2) := by decide +kernel
theorem dX0_addHits_77 : decode cX0_addHits 77 = .ok (.iadd, 1) := by decide +kernel
theorem dX0_addHits_78 : decode cX0_addHits 78 = .ok (.laload, 1) := by decide +kernel
theorem dX0_addHits_79 : decode cX0_addHits 79 = .ok (.lmul, 1) := by decide +kernel
theorem dX0_addHits_80 : decode cX0_addHits 80 = .ok (.ladd, 1) := by decide +kernel
theorem dX0_addHits_81 : decode cX0_addHits 81 = .ok (.lastore, 1) := by decide +kernel
theorem dX0_addHits_82 : decode cX0_addHits 82 = .ok (.iinc 5 1, 3) := by decide +kernel
theorem dX0_addHits_85 : decode cX0_addHits 85 = .ok (.goto (-71), 3) := by decide +kernel
theorem dX0_addHits_88 : decode cX0_addHits 88 = .ok (.return_, 1) := by decide +kernel
theorem dX0_rowLength_0 : decode cX0_rowLength 0 = .ok (.aload_n 1, 1) := by decide +kernel
theorem dX0_rowLength_1 : decode cX0_rowLength 1 = .ok (.getfield 63, 3) := by decide +kernel
theorem dX0_rowLength_4 : decode cX0_rowLength 4 = .ok (.iload_n 2, 1) := by decide +kernel
theorem dX0_rowLength_5 : decode cX0_rowLength 5 = .ok (.iaload, 1) := by decide +kernel
theorem dX0_rowLength_6 : decode cX0_rowLength 6 = .ok (.iconst 4, 1) := by decide +kernel
theorem dX0_rowLength_7 : decode cX0_rowLength 7 = .ok (.if_icmp .ne 12, 3) := by decide +kernel
theorem dX0_rowLength_10 : decode cX0_rowLength 10 = .ok (.iconst 2, 1) := by decide +kernel
theorem dX0_rowLength_11 : decode cX0_rowLength 11 = .ok (.aload_n 0, 1) := by decide +kernel
theorem dX0_rowLength_12 : decode cX0_rowLength 12 = .ok (.getfield 19, 3) := by decide +kernel
theorem dX0_rowLength_15 : decode cX0_rowLength 15 = .ok (.imul, 1) := by decide +kernel
theorem dX0_rowLength_16 : decode cX0_rowLength 16 = .ok (.goto 7, 3) := by decide +kernel
theorem dX0_rowLength_19 : decode cX0_rowLength 19 = .ok (.aload_n 0, 1) := by decide +kernel
theorem dX0_rowLength_20 : decode cX0_rowLength 20 = .ok (.getfield 19, 3) := by decide +kernel
theorem dX0_rowLength_23 : decode cX0_rowLength 23 = .ok (.ireturn, 1) := by decide +kernel
theorem dX0_remainder_0 : decode cX0_remainder 0 = .ok (.aload_n 1, 1) := by decide +kernel
theorem dX0_remainder_1 : decode cX0_remainder 1 = .ok (.getfield 63, 3) := by decide +kernel
theorem dX0_remainder_4 : decode cX0_remainder 4 = .ok (.iload_n 2, 1) := by decide +kernel
theorem dX0_remainder_5 : decode cX0_remainder 5 = .ok (.iaload, 1) := by decide +kernel
theorem dX0_remainder_6 : decode cX0_remainder 6 = .ok (.aload_n 1, 1) := by decide +kernel
theorem dX0_remainder_7 : decode cX0_remainder 7 = .ok (.getfield 66, 3) := by decide +kernel
theorem dX0_remainder_10 : decode cX0_remainder 10 = .ok (.iload_n 2, 1) := by decide +kernel
theorem dX0_remainder_11 : decode cX0_remainder 11 = .ok (.iaload, 1) := by decide +kernel
theorem dX0_remainder_12 : decode cX0_remainder 12 = .ok (.iload_n 3, 1) := by decide +kernel
theorem dX0_remainder_13 : decode cX0_remainder 13 = .ok (.invokestatic 69, 3) := by decide +kernel
theorem dX0_remainder_16 : decode cX0_remainder 16 = .ok (.aload_n 0, 1) := by decide +kernel
theorem dX0_remainder_17 : decode cX0_remainder 17 = .ok (.getfield 19, 3) := by decide +kernel
theorem dX0_remainder_20 : decode cX0_remainder 20 = .ok (.i2l, 1) := by decide +kernel
theorem dX0_remainder_21 : decode cX0_remainder 21 = .ok (.invokestatic 73, 3) := by decide +kernel
theorem dX0_remainder_24 : decode cX0_remainder 24 = .ok (.l2i, 1) := by decide +kernel
theorem dX0_remainder_25 : decode cX0_remainder 25 = .ok (.ireturn, 1) := by decide +kernel
theorem dX1_init_0 : decode cX1_init 0 = .ok (.aload_n 0, 1) := by decide +kernel
theorem dX1_init_1 : decode cX1_init 1 = .ok (.invokespecial 3, 3) := by decide +kernel
theorem dX1_init_4 : decode cX1_init 4 = .ok (.aload_n 0, 1) := by decide +kernel
theorem dX1_init_5 : decode cX1_init 5 = .ok (.iconst 5, 1) := by decide +kernel
theorem dX1_init_6 : decode cX1_init 6 = .ok (.newarray .int, 2) := by decide +kernel
theorem dX1_init_8 : decode cX1_init 8 = .ok (.putfield 9, 3) := by decide +kernel
theorem dX1_init_11 : decode cX1_init 11 = .ok (.aload_n 0, 1) := by decide +kernel
theorem dX1_init_12 : decode cX1_init 12 = .ok (.iconst 5, 1) := by decide +kernel
theorem dX1_init_13 : decode cX1_init 13 = .ok (.newarray .int, 2) := by decide +kernel
theorem dX1_init_15 : decode cX1_init 15 = .ok (.putfield 15, 3) := by decide +kernel
theorem dX1_init_18 : decode cX1_init 18 = .ok (.aload_n 0, 1) := by decide +kernel
theorem dX1_init_19 : decode cX1_init 19 = .ok (.iconst 5, 1) := by decide +kernel
theorem dX1_init_20 : decode cX1_init 20 = .ok (.newarray .int, 2) := by decide +kernel
theorem dX1_init_22 : decode cX1_init 22 = .ok (.putfield 18, 3) := by decide +kernel
theorem dX1_init_25 : decode cX1_init 25 = .ok (.aload_n 0, 1) := by decide +kernel
theorem dX1_init_26 : decode cX1_init 26 = .ok (.iconst 5, 1) := by decide +kernel
theorem dX1_init_27 : decode cX1_init 27 = .ok (.newarray .int, 2) := by decide +kernel
theorem dX1_init_29 : decode cX1_init 29 = .ok (.putfield 21, 3) := by decide +kernel
theorem dX1_init_32 : decode cX1_init 32 = .ok (.aload_n 0, 1) := by decide +kernel
theorem dX1_init_33 : decode cX1_init 33 = .ok (.iconst 5, 1) := by decide +kernel
theorem dX1_init_34 : decode cX1_init 34 = .ok (.newarray .int, 2) := by decide +kernel
theorem dX1_init_36 : decode cX1_init 36 = .ok (.putfield 24, 3) := by decide +kernel
theorem dX1_init_39 : decode cX1_init 39 = .ok (.aload_n 0, 1) := by decide +kernel
theorem dX1_init_40 : decode cX1_init 40 = .ok (.iconst 5, 1) := by decide +kernel
theorem dX1_init_41 : decode cX1_init 41 = .ok (.newarray .int, 2) := by decide +kernel
theorem dX1_init_43 : decode cX1_init 43 = .ok (.putfield 27, 3) := by decide +kernel
theorem dX1_init_46 : decode cX1_init 46 = .ok (.return_, 1) := by decide +kernel
theorem dX1_addNew_0 : decode cX1_addNew 0 = .ok (.aload_n 0, 1) := by decide +kernel
theorem dX1_addNew_1 : decode cX1_addNew 1 = .ok (.getfield 30, 3) := by decide +kernel
theorem dX1_addNew_4 : decode cX1_addNew 4 = .ok (.iconst 5, 1) := by decide +kernel
theorem dX1_addNew_5 : decode cX1_addNew 5 = .ok (.if_icmp .lt 4, 3) := by decide +kernel
theorem dX1_addNew_8 : decode cX1_addNew 8 = .ok (.return_, 1) := by decide +kernel
theorem dX1_addNew_9 : decode cX1_addNew 9 = .ok (.aload_n 0, 1) := by decide +kernel
theorem dX1_addNew_10 : decode cX1_addNew 10 = .ok (.getfield 30, 3) := by decide +kernel
theorem dX1_addNew_13 : decode cX1_addNew 13 = .ok (.istore 5, 2) := by decide +kernel
theorem dX1_addNew_15 : decode cX1_addNew 15 = .ok (.aload_n 0, 1) := by decide +kernel
theorem dX1_addNew_16 : decode cX1_addNew 16 = .ok (.getfield 9, 3) := by decide +kernel
theorem dX1_addNew_19 : decode cX1_addNew 19 = .ok (.iload 5, 2) := by decide +kernel
theorem dX1_addNew_21 : decode cX1_addNew 21 = .ok (.iload_n 1, 1) := by decide +kernel
theorem dX1_addNew_22 : decode cX1_addNew 22 = .ok (.iastore, 1) := by decide +kernel
theorem dX1_addNew_23 : decode cX1_addNew 23 = .ok (.aload_n 0, 1) := by decide +kernel
theorem dX1_addNew_24 : decode cX1_addNew 24 = .ok (.getfield 15, 3) := by decide +kernel
theorem dX1_addNew_27 : decode cX1_addNew 27 = .ok (.iload 5, 2) := by decide +kernel
theorem dX1_addNew_29 : decode cX1_addNew 29 = .ok (.iload_n 2, 1) := by decide +kernel
theorem dX1_addNew_30 : decode cX1_addNew 30 = .ok (.iastore, 1) := by decide +kernel
theorem dX1_addNew_31 : decode cX1_addNew 31 = .ok (.aload_n 0, 1) := by decide +kernel
theorem dX1_addNew_32 : decode cX1_addNew 32 = .ok (.getfield 18, 3) := by decide +kernel
theorem dX1_addNew_35 : decode cX1_addNew 35 = .ok (.iload 5, 2) := by decide +kernel
theorem dX1_addNew_37 : decode cX1_addNew 37 = .ok (.iload_n 3, 1) := by decide +kernel
theorem dX1_addNew_38 : decode cX1_addNew 38 = .ok (.iastore, 1) := by decide +kernel
theorem dX1_addNew_39 : decode cX1_addNew 39 = .ok (.aload_n 0, 1) := by decide +kernel
theorem dX1_addNew_40 : decode cX1_addNew 40 = .ok (.getfield 21, 3) := by decide +kernel
theorem dX1_addNew_43 : decode cX1_addNew 43 = .ok (.iload 5, 2) := by decide +kernel
theorem dX1_addNew_45 : decode cX1_addNew 45 = .ok (.iload 4, 2) := by decide +kernel
theorem dX1_addNew_47 : decode cX1_addNew 47 = .ok (.iastore, 1) := by decide +kernel
theorem dX1_addNew_48 : decode cX1_addNew 48 = .ok (.aload_n 0, 1) := by decide +kernel
theorem dX1_addNew_49 : decode cX1_addNew 49 = .ok (.getfield 24, 3) := by decide +kernel
theorem dX1_addNew_52 : decode cX1_addNew 52 = .ok (.iload 5, 2) := by decide +kernel
theorem dX1_addNew_54 : decode cX1_addNew 54 = .ok (.aload_n 0, 1) := by decide +kernel
theorem dX1_addNew_55 : decode cX1_addNew 55 = .ok (.iload 5, 2) := by decide +kernel
theorem dX1_addNew_57 : decode cX1_addNew 57 = .ok (.iload_n 3, 1) := by decide +kernel
theorem dX1_addNew_58 : decode cX1_addNew 58 = .ok (.invokevirtual 34, 3) := by decide +kernel
theorem dX1_addNew_61 : decode cX1_addNew 61 = .ok (.aload_n 0, 1) := by decide +kernel
theorem dX1_addNew_62 : decode cX1_addNew 62 = .ok (.iload 5, 2) := by decide +kernel
theorem dX1_addNew_64 : decode cX1_addNew 64 = .ok (.iload 4, 2) := by decide +kernel
theorem dX1_addNew_66 : decode cX1_addNew 66 = .ok (.invokevirtual 34, 3) := by decide +kernel
theorem dX1_addNew_69 : decode cX1_addNew 69 = .ok (.invokestatic 38, 3) := by decide +kernel
theorem dX1_addNew_72 : decode cX1_addNew 72 = .ok (.iastore, 1) := by decide +kernel
theorem dX1_addNew_73 : decode cX1_addNew 73 = .ok (.aload_n 0, 1) := by decide +kernel
theorem dX1_addNew_74 : decode cX1_addNew 74 = .ok (.getfield 27, 3) := by decide +kernel
theorem dX1_addNew_77 : decode cX1_addNew 77 = .ok (.iload 5, 2) := by decide +kernel
theorem dX1_addNew_79 : decode cX1_addNew 79 = .ok (.aload_n 0, 1) := by decide +kernel
theorem dX1_addNew_80 : decode cX1_addNew 80 = .ok (.iload 5, 2) := by decide +kernel
theorem dX1_addNew_82 : decode cX1_addNew 82 = .ok (.iload_n 3, 1) := by decide +kernel
theorem dX1_addNew_83 : decode cX1_addNew 83 = .ok (.invokevirtual 34, 3) := by decide +kernel
theorem dX1_addNew_86 : decode cX1_addNew 86 = .ok (.aload_n 0, 1) := by decide +kernel
theorem dX1_addNew_87 : decode cX1_addNew 87 = .ok (.iload 5, 2) := by decide +kernel
theorem dX1_addNew_89 : decode cX1_addNew 89 = .ok (.iload 4, 2) := by decide +kernel
theorem dX1_addNew_91 : decode cX1_addNew 91 = .ok (.invokevirtual 34, 3) := by decide +kernel
theorem dX1_addNew_94 : decode cX1_addNew 94 = .ok (.invokestatic 43, 3) := by decide +kernel
theorem dX1_addNew_97 : decode cX1_addNew 97 = .ok (.iastore, 1) := by decide +kernel
theorem dX1_addNew_98 : decode cX1_addNew 98 = .ok (.iload_n 2, 1) := by decide +kernel
theorem dX1_addNew_99 : decode cX1_addNew 99 = .ok (.ifCond .eq 12, 3) := by decide +kernel
theorem dX1_addNew_102 : decode cX1_addNew 102 = .ok (.iload_n 2, 1) := by decide +kernel
theorem dX1_addNew_103 : decode cX1_addNew 103 = .ok (.iconst 2, 1) := by decide +kernel
theorem dX1_addNew_104 : decode cX1_addNew 104 = .ok (.if_icmp .eq 7, 3) := by decide +kernel
theorem dX1_addNew_107 : decode cX1_addNew 107 = .ok (.iconst 1, 1) := by decide +kernel
theorem dX1_addNew_108 : decode cX1_addNew 108 = .ok (.goto 4, 3) := by decide +kernel
theorem dX1_addNew_111 : decode cX1_addNew 111 = .ok (.iconst 0, 1) := by decide +kernel
theorem dX1_addNew_112 : decode cX1_addNew 112 = .ok (.istore 6, 2) := by decide +kernel
theorem dX1_addNew_114 : decode cX1_addNew 114 = .ok (.iload 6, 2) := by decide +kernel
theorem dX1_addNew_116 : decode cX1_addNew 116 = .ok (.ifCond .eq 20, 3) := by decide +kernel
theorem dX1_addNew_119 : decode cX1_addNew 119 = .ok (.iload_n 3, 1) := by decide +kernel
theorem dX1_addNew_120 : decode cX1_addNew 120 = .ok (.ifCond .gt 16, 3) := by decide +kernel
theorem dX1_addNew_123 : decode cX1_addNew 123 = .ok (.iload 4, 2) := by decide +kernel
theorem dX1_addNew_125 : decode cX1_addNew 125 = .ok (.ifCond .lt 11, 3) := by decide +kernel
theorem dX1_addNew_128 : decode cX1_addNew 128 = .ok (.aload_n 0, 1) := by decide +kernel
theorem dX1_addNew_129 : decode cX1_addNew 129 = .ok (.getfield 24, 3) := by decide +kernel
theorem dX1_addNew_132 : decode cX1_addNew 132 = .ok (.iload 5, 2) := by decide +kernel
theorem dX1_addNew_134 : decode cX1_addNew 134 = .ok (.iconst 0, 1) := by decide +kernel
theorem dX1_addNew_135 : decode cX1_addNew 135 = .ok (.iastore, 1) := by decide +kernel
theorem dX1_addNew_136 : decode cX1_addNew 136 = .ok (.aload_n 0, 1) := by decide +kernel
theorem dX1_addNew_137 : decode cX1_addNew 137 = .ok (.dup, 1) := by decide +kernel
theorem dX1_addNew_138 : decode cX1_addNew 138 = .ok (.getfield 30, 3) := by decide +kernel
theorem dX1_addNew_141 : decode cX1_addNew 141 = .ok (.iconst 1, 1) := by decide +kernel
theorem dX1_addNew_142 : decode cX1_addNew 142 = .ok (.iadd, 1) := by decide +kernel
theorem dX1_addNew_143 : decode cX1_addNew 143 = .ok (.putfield 30, 3) := by decide +kernel
theorem dX1_addNew_146 : decode cX1_addNew 146 = .ok (.return_, 1) := by decide +kernel
theorem dX1_addTermOf_0 : decode cX1_addTermOf 0 = .ok (.aload_n 0, 1) := by decide +kernel
theorem dX1_addTermOf_1 : decode cX1_addTermOf 1 = .ok (.aload_n 1, 1) := by decide +kernel
theorem dX1_addTermOf_2 : decode cX1_addTermOf 2 = .ok (.getfield 9, 3) := by decide +kernel
theorem dX1_addTermOf_5 : decode cX1_addTermOf 5 = .ok (.iload_n 2, 1) := by decide +kernel
theorem dX1_addTermOf_6 : decode cX1_addTermOf 6 = .ok (.iaload, 1) := by decide +kernel
theorem dX1_addTermOf_7 : decode cX1_addTermOf 7 = .ok (.aload_n 1, 1) := by decide +kernel
theorem dX1_addTermOf_8 : decode cX1_addTermOf 8 = .ok (.getfield 15, 3) := by decide +kernel
theorem dX1_addTermOf_11 : decode cX1_addTermOf 11 = .ok (.iload_n 2, 1) := by decide +kernel
theorem dX1_addTermOf_12 : decode cX1_addTermOf 12 = .ok (.iaload, 1) := by decide +kernel
theorem dX1_addTermOf_13 : decode cX1_addTermOf 13 = .ok (.aload_n 1, 1) := by decide +kernel
theorem dX1_addTermOf_14 : decode cX1_addTermOf 14 = .ok (.getfield 18, 3) := by decide +kernel
theorem dX1_addTermOf_17 : decode cX1_addTermOf 17 = .ok (.iload_n 2, 1) := by decide +kernel
theorem dX1_addTermOf_18 : decode cX1_addTermOf 18 = .ok (.iaload, 1) := by decide +kernel
theorem dX1_addTermOf_19 : decode cX1_addTermOf 19 = .ok (.aload_n 1, 1) := by decide +kernel
theorem dX1_addTermOf_20 : decode cX1_addTermOf 20 = .ok (.getfield 21, 3) := by decide +kernel
theorem dX1_addTermOf_23 : decode cX1_addTermOf 23 = .ok (.iload_n 2, 1) := by decide +kernel
theorem dX1_addTermOf_24 : decode cX1_addTermOf 24 = .ok (.iaload, 1) := by decide +kernel
theorem dX1_addTermOf_25 : decode cX1_addTermOf 25 = .ok (.invokevirtual 46, 3) := by decide +kernel
theorem dX1_addTermOf_28 : decode cX1_addTermOf 28 = .ok (.return_, 1) := by decide +kernel
theorem dX1_addAll_0 : decode cX1_addAll 0 = .ok (.iconst 0, 1) := by decide +kernel
theorem dX1_addAll_1 : decode cX1_addAll 1 = .ok (.istore_n 2, 1) := by decide +kernel
theorem dX1_addAll_2 : decode cX1_addAll 2 = .ok (.iload_n 2, 1) := by decide +kernel
theorem dX1_addAll_3 : decode cX1_addAll 3 = .ok (.aload_n 1, 1) := by decide +kernel
theorem dX1_addAll_4 : decode cX1_addAll 4 = .ok (.getfield 30, 3) := by decide +kernel
theorem dX1_addAll_7 : decode cX1_addAll 7 = .ok (.if_icmp .ge 15, 3) := by decide +kernel
theorem dX1_addAll_10 : decode cX1_addAll 10 = .ok (.aload_n 0, 1) := by decide +kernel
theorem dX1_addAll_11 : decode cX1_addAll 11 = .ok (.aload_n 1, 1) := by decide +kernel
theorem dX1_addAll_12 : decode cX1_addAll 12 = .ok (.iload_n 2, 1) := by decide +kernel
theorem dX1_addAll_13 : decode cX1_addAll 13 = .ok (.invokevirtual 50, 3) := by decide +kernel
theorem dX1_addAll_16 : decode cX1_addAll 16 = .ok (.iinc 2 1, 3) := by decide +kernel
theorem dX1_addAll_19 : decode cX1_addAll 19 = .ok (.goto (-17), 3) := by decide +kernel
theorem dX1_addAll_22 : decode cX1_addAll 22 = .ok (.return_, 1) := by decide +kernel
theorem dX1_valueOf_0 : decode cX1_valueOf 0 = .ok (.aload_n 0, 1) := by decide +kernel
theorem dX1_valueOf_1 : decode cX1_valueOf 1 = .ok (.getfield 15, 3) := by decide +kernel
theorem dX1_valueOf_4 : decode cX1_valueOf 4 = .ok (.iload_n 1, 1) := by decide +kernel
theorem dX1_valueOf_5 : decode cX1_valueOf 5 = .ok (.iaload, 1) := by decide +kernel
theorem dX1_valueOf_6 : decode cX1_valueOf 6 = .ok (.aload_n 0, 1) := by decide +kernel
theorem dX1_valueOf_7 : decode cX1_valueOf 7 = .ok (.getfield 9, 3) := by decide +kernel
theorem dX1_valueOf_10 : decode cX1_valueOf 10 = .ok (.iload_n 1, 1) := by decide +kernel
theorem dX1_valueOf_11 : decode cX1_valueOf 11 = .ok (.iaload, 1) := by decide +kernel
theorem dX1_valueOf_12 : decode cX1_valueOf 12 = .ok (.iload_n 2, 1) := by decide +kernel
theorem dX1_valueOf_13 : decode cX1_valueOf 13 = .ok (.invokestatic 54, 3) := by decide +kernel
theorem dX1_valueOf_16 : decode cX1_valueOf 16 = .ok (.l2i, 1) := by decide +kernel
theorem dX1_valueOf_17 : decode cX1_valueOf 17 = .ok (.ireturn, 1) := by decide +kernel
theorem dX1_spread_0 : decode cX1_spread 0 = .ok (.aload_n 0, 1) := by decide +kernel
theorem dX1_spread_1 : decode cX1_spread 1 = .ok (.getfield 27, 3) := by decide +kernel
theorem dX1_spread_4 : decode cX1_spread 4 = .ok (.iload_n 1, 1) := by decide +kernel
theorem dX1_spread_5 : decode cX1_spread 5 = .ok (.iaload, 1) := by decide +kernel
theorem dX1_spread_6 : decode cX1_spread 6 = .ok (.aload_n 0, 1) := by decide +kernel
theorem dX1_spread_7 : decode cX1_spread 7 = .ok (.getfield 24, 3) := by decide +kernel
theorem dX1_spread_10 : decode cX1_spread 10 = .ok (.iload_n 1, 1) := by decide +kernel
theorem dX1_spread_11 : decode cX1_spread 11 = .ok (.iaload, 1) := by decide +kernel
theorem dX1_spread_12 : decode cX1_spread 12 = .ok (.isub, 1) := by decide +kernel
theorem dX1_spread_13 : decode cX1_spread 13 = .ok (.ireturn, 1) := by decide +kernel
theorem dX1_areLike_0 : decode cX1_areLike 0 = .ok (.aload_n 0, 1) := by decide +kernel
theorem dX1_areLike_1 : decode cX1_areLike 1 = .ok (.getfield 9, 3) := by decide +kernel
theorem dX1_areLike_4 : decode cX1_areLike 4 = .ok (.iload_n 1, 1) := by decide +kernel
theorem dX1_areLike_5 : decode cX1_areLike 5 = .ok (.iaload, 1) := by decide +kernel
theorem dX1_areLike_6 : decode cX1_areLike 6 = .ok (.aload_n 0, 1) := by decide +kernel
theorem dX1_areLike_7 : decode cX1_areLike 7 = .ok (.getfield 9, 3) := by decide +kernel
theorem dX1_areLike_10 : decode cX1_areLike 10 = .ok (.iload_n 2, 1) := by decide +kernel
theorem dX1_areLike_11 : decode cX1_areLike 11 = .ok (.iaload, 1) := by decide +kernel
theorem dX1_areLike_12 : decode cX1_areLike 12 = .ok (.if_icmp .ne 52, 3) := by decide +kernel
theorem dX1_areLike_15 : decode cX1_areLike 15 = .ok (.aload_n 0, 1) := by decide +kernel
theorem dX1_areLike_16 : decode cX1_areLike 16 = .ok (.getfield 15, 3) := by decide +kernel
theorem dX1_areLike_19 : decode cX1_areLike 19 = .ok (.iload_n 1, 1) := by decide +kernel
theorem dX1_areLike_20 : decode cX1_areLike 20 = .ok (.iaload, 1) := by decide +kernel
theorem dX1_areLike_21 : decode cX1_areLike 21 = .ok (.aload_n 0, 1) := by decide +kernel
theorem dX1_areLike_22 : decode cX1_areLike 22 = .ok (.getfield 15, 3) := by decide +kernel
theorem dX1_areLike_25 : decode cX1_areLike 25 = .ok (.iload_n 2, 1) := by decide +kernel
theorem dX1_areLike_26 : decode cX1_areLike 26 = .ok (.iaload, 1) := by decide +kernel
theorem dX1_areLike_27 : decode cX1_areLike 27 = .ok (.if_icmp .ne 37, 3) := by decide +kernel
theorem dX1_areLike_30 : decode cX1_areLike 30 = .ok (.aload_n 0, 1) := by decide +kernel
theorem dX1_areLike_31 : decode cX1_areLike 31 = .ok (.getfield 18, 3) := by decide +kernel
theorem dX1_areLike_34 : decode cX1_areLike 34 = .ok (.iload_n 1, 1) := by decide +kernel
theorem dX1_areLike_35 : decode cX1_areLike 35 = .ok (.iaload, 1) := by decide +kernel
theorem dX1_areLike_36 : decode cX1_areLike 36 = .ok (.aload_n 0, 1) := by decide +kernel
theorem dX1_areLike_37 : decode cX1_areLike 37 = .ok (.getfield 18, 3) := by decide +kernel
theorem dX1_areLike_40 : decode cX1_areLike 40 = .ok (.iload_n 2, 1) := by decide +kernel
theorem dX1_areLike_41 : decode cX1_areLike 41 = .ok (.iaload, 1) := by decide +kernel
theorem dX1_areLike_42 : decode cX1_areLike 42 = .ok (.if_icmp .ne 22, 3) := by decide +kernel
theorem dX1_areLike_45 : decode cX1_areLike 45 = .ok (.aload_n 0, 1) := by decide +kernel
theorem dX1_areLike_46 : decode cX1_areLike 46 = .ok (.getfield 21, 3) := by decide +kernel
theorem dX1_areLike_49 : decode cX1_areLike 49 = .ok (.iload_n 1, 1) := by decide +kernel
theorem dX1_areLike_50 : decode cX1_areLike 50 = .ok (.iaload, 1) := by decide +kernel
theorem dX1_areLike_51 : decode cX1_areLike 51 = .ok (.aload_n 0, 1) := by decide +kernel
theorem dX1_areLike_52 : decode cX1_areLike 52 = .ok (.getfield 21, 3) := by decide +kernel
theorem dX1_areLike_55 : decode cX1_areLike 55 = .ok (.iload_n 2, 1) := by decide +kernel
theorem dX1_areLike_56 : decode cX1_areLike 56 = .ok (.iaload, 1) := by decide +kernel
theorem dX1_areLike_57 : decode cX1_areLike 57 = .ok (.if_icmp .ne 7, 3) := by decide +kernel
theorem dX1_areLike_60 : decode cX1_areLike 60 = .ok (.iconst 1, 1) := by decide +kernel
theorem dX1_areLike_61 : decode cX1_areLike 61 = .ok (.goto 4, 3) := by decide +kernel
theorem dX1_areLike_64 : decode cX1_areLike 64 = .ok (.iconst 0, 1) := by decide +kernel
theorem dX1_areLike_65 : decode cX1_areLike 65 = .ok (.ireturn, 1) := by decide +kernel
theorem dX1_likeFrom_0 : decode cX1_likeFrom 0 = .ok (.iconst 0, 1) := by decide +kernel
theorem dX1_likeFrom_1 : decode cX1_likeFrom 1 = .ok (.istore_n 2, 1) := by decide +kernel
theorem dX1_likeFrom_2 : decode cX1_likeFrom 2 = .ok (.iconst 0, 1) := by decide +kernel
theorem dX1_likeFrom_3 : decode cX1_likeFrom 3 = .ok (.istore_n 3, 1) := by decide +kernel
theorem dX1_likeFrom_4 : decode cX1_likeFrom 4 = .ok (.iload_n 3, 1) := by decide +kernel
theorem dX1_likeFrom_5 : decode cX1_likeFrom 5 = .ok (.aload_n 0, 1) := by decide +kernel
theorem dX1_likeFrom_6 : decode cX1_likeFrom 6 = .ok (.getfield 30, 3) := by decide +kernel
theorem dX1_likeFrom_9 : decode cX1_likeFrom 9 = .ok (.if_icmp .ge 28, 3) := by decide +kernel
theorem dX1_likeFrom_12 : decode cX1_likeFrom 12 = .ok (.aload_n 0, 1) := by decide +kernel
theorem dX1_likeFrom_13 : decode cX1_likeFrom 13 = .ok (.iload_n 3, 1) := by decide +kernel
theorem dX1_likeFrom_14 : decode cX1_likeFrom 14 = .ok (.iload_n 1, 1) := by decide +kernel
theorem dX1_likeFrom_15 : decode cX1_likeFrom 15 = .ok (.invokevirtual 58, 3) := by decide +kernel
theorem dX1_likeFrom_18 : decode cX1_likeFrom 18 = .ok (.ifCond .eq 13, 3) := by decide +kernel
theorem dX1_likeFrom_21 : decode cX1_likeFrom 21 = .ok (.iload_n 3, 1) := by decide +kernel
theorem dX1_likeFrom_22 : decode cX1_likeFrom 22 = .ok (.iload_n 1, 1) := by decide +kernel
theorem dX1_likeFrom_23 : decode cX1_likeFrom 23 = .ok (.if_icmp .ge 5, 3) := by decide +kernel
theorem dX1_likeFrom_26 : decode cX1_likeFrom 26 = .ok (.iconst 0, 1) := by decide +kernel
theorem dX1_likeFrom_27 : decode cX1_likeFrom 27 = .ok (.ireturn, 1) := by decide +kernel
theorem dX1_likeFrom_28 : decode cX1_likeFrom 28 = .ok (.iinc 2 1, 3) := by decide +kernel
theorem dX1_likeFrom_31 : decode cX1_likeFrom 31 = .ok (.iinc 3 1, 3) := by decide +kernel
theorem dX1_likeFrom_34 : decode cX1_likeFrom 34 = .ok (.goto (-30), 3) := by decide +kernel
theorem dX1_likeFrom_37 : decode cX1_likeFrom 37 = .ok (.iload_n 2, 1) := by decide +kernel
theorem dX1_likeFrom_38 : decode cX1_likeFrom 38 = .ok (.ireturn, 1) := by decide +kernel
theorem dX2_init_0 : decode cX2_init 0 = .ok (.aload_n 0, 1) := by decide +kernel
theorem dX2_init_1 : decode cX2_init 1 = .ok (.invokespecial 3, 3) := by decide +kernel
theorem dX2_init_4 : decode cX2_init 4 = .ok (.aload_n 0, 1) := by decide +kernel
theorem dX2_init_5 : decode cX2_init 5 = .ok (.aload_n 1, 1) := by decide +kernel
theorem dX2_init_6 : decode cX2_init 6 = .ok (.putfield 9, 3) := by decide +kernel
theorem dX2_init_9 : decode cX2_init 9 = .ok (.aload_n 0, 1) := by decide +kernel
theorem dX2_init_10 : decode cX2_init 10 = .ok (.new 15, 3) := by decide +kernel
theorem dX2_init_13 : decode cX2_init 13 = .ok (.dup, 1) := by decide +kernel
theorem dX2_init_14 : decode cX2_init 14 = .ok (.invokespecial 17, 3) := by decide +kernel
theorem dX2_init_17 : decode cX2_init 17 = .ok (.putfield 18, 3) := by decide +kernel
theorem dX2_init_20 : decode cX2_init 20 = .ok (.return_, 1) := by decide +kernel
theorem dX2_readAll_0 : decode cX2_readAll 0 = .ok (.aload_n 0, 1) := by decide +kernel
theorem dX2_readAll_1 : decode cX2_readAll 1 = .ok (.getfield 18, 3) := by decide +kernel
theorem dX2_readAll_4 : decode cX2_readAll 4 = .ok (.iconst 0, 1) := by decide +kernel
theorem dX2_readAll_5 : decode cX2_readAll 5 = .ok (.putfield 22, 3) := by decide +kernel
theorem dX2_readAll_8 : decode cX2_readAll 8 = .ok (.aload_n 0, 1) := by decide +kernel
theorem dX2_readAll_9 : decode cX2_readAll 9 = .ok (.getfield 9, 3) := by decide +kernel
theorem dX2_readAll_12 : decode cX2_readAll 12 = .ok (.iconst 0, 1) := by decide +kernel
theorem dX2_readAll_13 : decode cX2_readAll 13 = .ok (.iconst (-1), 1) := by decide +kernel
theorem dX2_readAll_14 : decode cX2_readAll 14 = .ok (.invokevirtual 26, 3) := by decide +kernel
theorem dX2_readAll_17 : decode cX2_readAll 17 = .ok (.iconst 0, 1) := by decide +kernel
theorem dX2_readAll_18 : decode cX2_readAll 18 = .ok (.istore_n 1, 1) := by decide +kernel
theorem dX2_readAll_19 : decode cX2_readAll 19 = .ok (.iload_n 1, 1) := by decide +kernel
theorem dX2_readAll_20 : decode cX2_readAll 20 = .ok (.iconst 5, 1) := by decide +kernel
theorem dX2_readAll_21 : decode cX2_readAll 21 = .ok (.if_icmp .ge 66, 3) := by decide +kernel
theorem dX2_readAll_24 : decode cX2_readAll 24 = .ok (.aload_n 0, 1) := by decide +kernel
theorem dX2_readAll_25 : decode cX2_readAll 25 = .ok (.getfield 9, 3) := by decide +kernel
theorem dX2_readAll_28 : decode cX2_readAll 28 = .ok (.iload_n 1, 1) := by decide +kernel
theorem dX2_readAll_29 : decode cX2_readAll 29 = .ok (.putfield 32, 3) := by decide +kernel
theorem dX2_readAll_32 : decode cX2_readAll 32 = .ok (.aload_n 0, 1) := by decide +kernel
theorem dX2_readAll_33 : decode cX2_readAll 33 = .ok (.invokevirtual 35, 3) := by decide +kernel
theorem dX2_readAll_36 : decode cX2_readAll 36 = .ok (.ifCond .ne 5, 3) := by decide +kernel
theorem dX2_readAll_39 : decode cX2_readAll 39 = .ok (.iconst 0, 1) := by decide +kernel
theorem dX2_readAll_40 : decode cX2_readAll 40 = .ok (.ireturn, 1) := by decide +kernel
theorem dX2_readAll_41 : decode cX2_readAll 41 = .ok (.aload_n 0, 1) := by decide +kernel
theorem dX2_readAll_42 : decode cX2_readAll 42 = .ok (.getfield 9, 3) := by decide +kernel
theorem dX2_readAll_45 : decode cX2_readAll 45 = .ok (.invokevirtual 39, 3) := by decide +kernel
theorem dX2_readAll_48 : decode cX2_readAll 48 = .ok (.ifCond .eq 5, 3) := by decide +kernel
theorem dX2_readAll_51 : decode cX2_readAll 51 = .ok (.iconst 1, 1) := by decide +kernel
theorem dX2_readAll_52 : decode cX2_readAll 52 = .ok (.ireturn, 1) := by decide +kernel
theorem dX2_readAll_53 : decode cX2_readAll 53 = .ok (.aload_n 0, 1) := by decide +kernel
theorem dX2_readAll_54 : decode cX2_readAll 54 = .ok (.getfield 9, 3) := by decide +kernel
theorem dX2_readAll_57 : decode cX2_readAll 57 = .ok (.bipush 43, 2) := by decide +kernel
theorem dX2_readAll_59 : decode cX2_readAll 59 = .ok (.invokevirtual 42, 3) := by decide +kernel
theorem dX2_readAll_62 : decode cX2_readAll 62 = .ok (.ifCond .ne 12, 3) := by decide +kernel
theorem dX2_readAll_65 : decode cX2_readAll 65 = .ok (.aload_n 0, 1) := by decide +kernel
theorem dX2_readAll_66 : decode cX2_readAll 66 = .ok (.getfield 9, 3) := by decide +kernel
theorem dX2_readAll_69 : decode cX2_readAll 69 = .ok (.iconst 1, 1) := by decide +kernel
theorem dX2_readAll_70 : decode cX2_readAll 70 = .ok (.invokevirtual 46, 3) := by decide +kernel
theorem dX2_readAll_73 : decode cX2_readAll 73 = .ok (.ireturn, 1) := by decide +kernel
theorem dX2_readAll_74 : decode cX2_readAll 74 = .ok (.aload_n 0, 1) := by decide +kernel
theorem dX2_readAll_75 : decode cX2_readAll 75 = .ok (.getfield 9, 3) := by decide +kernel
theorem dX2_readAll_78 : decode cX2_readAll 78 = .ok (.invokevirtual 50, 3) := by decide +kernel
theorem dX2_readAll_81 : decode cX2_readAll 81 = .ok (.iinc 1 1, 3) := by decide +kernel
theorem dX2_readAll_84 : decode cX2_readAll 84 = .ok (.goto (-65), 3) := by decide +kernel
theorem dX2_readAll_87 : decode cX2_readAll 87 = .ok (.aload_n 0, 1) := by decide +kernel
theorem dX2_readAll_88 : decode cX2_readAll 88 = .ok (.getfield 9, 3) := by decide +kernel
theorem dX2_readAll_91 : decode cX2_readAll 91 = .ok (.iconst 5, 1) := by decide +kernel
theorem dX2_readAll_92 : decode cX2_readAll 92 = .ok (.putfield 32, 3) := by decide +kernel
theorem dX2_readAll_95 : decode cX2_readAll 95 = .ok (.aload_n 0, 1) := by decide +kernel
theorem dX2_readAll_96 : decode cX2_readAll 96 = .ok (.invokevirtual 53, 3) := by decide +kernel
theorem dX2_readAll_99 : decode cX2_readAll 99 = .ok (.ifCond .eq 18, 3) := by decide +kernel
theorem dX2_readAll_102 : decode cX2_readAll 102 = .ok (.aload_n 0, 1) := by decide +kernel
theorem dX2_readAll_103 : decode cX2_readAll 103 = .ok (.getfield 9, 3) := by decide +kernel
theorem dX2_readAll_106 : decode cX2_readAll 106 = .ok (.iconst 4, 1) := by decide +kernel
theorem dX2_readAll_107 : decode cX2_readAll 107 = .ok (.invokevirtual 46, 3) := by decide +kernel
theorem dX2_readAll_110 : decode cX2_readAll 110 = .ok (.ifCond .eq 7, 3) := by decide +kernel
theorem dX2_readAll_113 : decode cX2_readAll 113 = .ok (.iconst 1, 1) := by decide +kernel
theorem dX2_readAll_114 : decode cX2_readAll 114 = .ok (.goto 4, 3) := by decide +kernel
theorem dX2_readAll_117 : decode cX2_readAll 117 = .ok (.iconst 0, 1) := by decide +kernel
theorem dX2_readAll_118 : decode cX2_readAll 118 = .ok (.ireturn, 1) := by decide +kernel
theorem dX2_checkFirstToken_0 : decode cX2_checkFirstToken 0 = .ok (.aload_n 0, 1) := by decide +kernel
theorem dX2_checkFirstToken_1 : decode cX2_checkFirstToken 1 = .ok (.getfield 9, 3) := by decide +kernel
theorem dX2_checkFirstToken_4 : decode cX2_checkFirstToken 4 = .ok (.invokevirtual 56, 3) := by decide +kernel
theorem dX2_checkFirstToken_7 : decode cX2_checkFirstToken 7 = .ok (.ifCond .eq 53, 3) := by decide +kernel
theorem dX2_checkFirstToken_10 : decode cX2_checkFirstToken 10 = .ok (.aload_n 0, 1) := by decide +kernel
theorem dX2_checkFirstToken_11 : decode cX2_checkFirstToken 11 = .ok (.getfield 9, 3) := by decide +kernel
theorem dX2_checkFirstToken_14 : decode cX2_checkFirstToken 14 = .ok (.invokevirtual 59, 3) := by decide +kernel
theorem dX2_checkFirstToken_17 : decode cX2_checkFirstToken 17 = .ok (.iconst 1, 1) := by decide +kernel
theorem dX2_checkFirstToken_18 : decode cX2_checkFirstToken 18 = .ok (.if_icmp .lt 19, 3) := by decide +kernel
theorem dX2_checkFirstToken_21 : decode cX2_checkFirstToken 21 = .ok (.aload_n 0, 1) := by decide +kernel
theorem dX2_checkFirstToken_22 : decode cX2_checkFirstToken 22 = .ok (.getfield 9, 3) := by decide +kernel
theorem dX2_checkFirstToken_25 : decode cX2_checkFirstToken 25 = .ok (.invokevirtual 59, 3) := by decide +kernel
theorem dX2_checkFirstToken_28 : decode cX2_checkFirstToken 28 = .ok (.bipush 99, 2) := by decide +kernel
theorem dX2_checkFirstToken_30 : decode cX2_checkFirstToken 30 = .ok (.if_icmp .gt 7, 3) := by decide +kernel
theorem dX2_checkFirstToken_33 : decode cX2_checkFirstToken 33 = .ok (.iconst 1, 1) := by decide +kernel
theorem dX2_checkFirstToken_34 : decode cX2_checkFirstToken 34 = .ok (.goto 4, 3) := by decide +kernel
theorem dX2_checkFirstToken_37 : decode cX2_checkFirstToken 37 = .ok (.iconst 0, 1) := by decide +kernel
theorem dX2_checkFirstToken_38 : decode cX2_checkFirstToken 38 = .ok (.istore_n 1, 1) := by decide +kernel
theorem dX2_checkFirstToken_39 : decode cX2_checkFirstToken 39 = .ok (.iload_n 1, 1) := by decide +kernel
theorem dX2_checkFirstToken_40 : decode cX2_checkFirstToken 40 = .ok (.ifCond .ne 14, 3) := by decide +kernel
theorem dX2_checkFirstToken_43 : decode cX2_checkFirstToken 43 = .ok (.aload_n 0, 1) := by decide +kernel
theorem dX2_checkFirstToken_44 : decode cX2_checkFirstToken 44 = .ok (.getfield 9, 3) := by decide +kernel
theorem dX2_checkFirstToken_47 : decode cX2_checkFirstToken 47 = .ok (.iconst 2, 1) := by decide +kernel
theorem dX2_checkFirstToken_48 : decode cX2_checkFirstToken 48 = .ok (.invokevirtual 46, 3) := by decide +kernel
theorem dX2_checkFirstToken_51 : decode cX2_checkFirstToken 51 = .ok (.ifCond .eq 7, 3) := by decide +kernel
theorem dX2_checkFirstToken_54 : decode cX2_checkFirstToken 54 = .ok (.iconst 1, 1) := by decide +kernel
theorem dX2_checkFirstToken_55 : decode cX2_checkFirstToken 55 = .ok (.goto 4, 3) := by decide +kernel
theorem dX2_checkFirstToken_58 : decode cX2_checkFirstToken 58 = .ok (.iconst 0, 1) := by decide +kernel
theorem dX2_checkFirstToken_59 : decode cX2_checkFirstToken 59 = .ok (.ireturn, 1) := by decide +kernel
theorem dX2_checkFirstToken_60 : decode cX2_checkFirstToken 60 = .ok (.aload_n 0, 1) := by decide +kernel
theorem dX2_checkFirstToken_61 : decode cX2_checkFirstToken 61 = .ok (.getfield 9, 3) := by decide +kernel
theorem dX2_checkFirstToken_64 : decode cX2_checkFirstToken 64 = .ok (.invokevirtual 63, 3) := by decide +kernel
theorem dX2_checkFirstToken_67 : decode cX2_checkFirstToken 67 = .ok (.iconst (-1), 1) := by decide +kernel
theorem dX2_checkFirstToken_68 : decode cX2_checkFirstToken 68 = .ok (.if_icmp .ne 14, 3) := by decide +kernel
theorem dX2_checkFirstToken_71 : decode cX2_checkFirstToken 71 = .ok (.aload_n 0, 1) := by decide +kernel
theorem dX2_checkFirstToken_72 : decode cX2_checkFirstToken 72 = .ok (.getfield 9, 3) := by decide +kernel
theorem dX2_checkFirstToken_75 : decode cX2_checkFirstToken 75 = .ok (.iconst 1, 1) := by decide +kernel
theorem dX2_checkFirstToken_76 : decode cX2_checkFirstToken 76 = .ok (.invokevirtual 46, 3) := by decide +kernel
theorem dX2_checkFirstToken_79 : decode cX2_checkFirstToken 79 = .ok (.ifCond .eq 7, 3) := by decide +kernel
theorem dX2_checkFirstToken_82 : decode cX2_checkFirstToken 82 = .ok (.iconst 1, 1) := by decide +kernel
theorem dX2_checkFirstToken_83 : decode cX2_checkFirstToken 83 = .ok (.goto 4, 3) := by decide +kernel
theorem dX2_checkFirstToken_86 : decode cX2_checkFirstToken 86 = .ok (.iconst 0, 1) := by decide +kernel
theorem dX2_checkFirstToken_87 : decode cX2_checkFirstToken 87 = .ok (.ireturn, 1) := by decide +kernel
theorem dX2_readTerm_0 : decode cX2_readTerm 0 = .ok (.aload_n 0, 1) := by decide +kernel
theorem dX2_readTerm_1 : decode cX2_readTerm 1 = .ok (.invokevirtual 53, 3) := by decide +kernel
theorem dX2_readTerm_4 : decode cX2_readTerm 4 = .ok (.ifCond .ne 5, 3) := by decide +kernel
theorem dX2_readTerm_7 : decode cX2_readTerm 7 = .ok (.iconst 0, 1) := by decide +kernel
theorem dX2_readTerm_8 : decode cX2_readTerm 8 = .ok (.ireturn, 1) := by decide +kernel
theorem dX2_readTerm_9 : decode cX2_readTerm 9 = .ok (.iconst 1, 1) := by decide +kernel
theorem dX2_readTerm_10 : decode cX2_readTerm 10 = .ok (.istore_n 1, 1) := by decide +kernel
theorem dX2_readTerm_11 : decode cX2_readTerm 11 = .ok (.aload_n 0, 1) := by decide +kernel
theorem dX2_readTerm_12 : decode cX2_readTerm 12 = .ok (.getfield 9, 3) := by decide +kernel
theorem dX2_readTerm_15 : decode cX2_readTerm 15 = .ok (.invokevirtual 56, 3) := by decide +kernel
theorem dX2_readTerm_18 : decode cX2_readTerm 18 = .ok (.ifCond .eq 18, 3) := by decide +kernel
theorem dX2_readTerm_21 : decode cX2_readTerm 21 = .ok (.aload_n 0, 1) := by decide +kernel
theorem dX2_readTerm_22 : decode cX2_readTerm 22 = .ok (.getfield 9, 3) := by decide +kernel
theorem dX2_readTerm_25 : decode cX2_readTerm 25 = .ok (.invokevirtual 59, 3) := by decide +kernel
theorem dX2_readTerm_28 : decode cX2_readTerm 28 = .ok (.istore_n 1, 1) := by decide +kernel
theorem dX2_readTerm_29 : decode cX2_readTerm 29 = .ok (.aload_n 0, 1) := by decide +kernel
theorem dX2_readTerm_30 : decode cX2_readTerm 30 = .ok (.getfield 9, 3) := by decide +kernel
theorem dX2_readTerm_33 : decode cX2_readTerm 33 = .ok (.invokevirtual 50, 3) := by decide +kernel
theorem dX2_readTerm_36 : decode cX2_readTerm 36 = .ok (.aload_n 0, 1) := by decide +kernel
theorem dX2_readTerm_37 : decode cX2_readTerm 37 = .ok (.getfield 9, 3) := by decide +kernel
theorem dX2_readTerm_40 : decode cX2_readTerm 40 = .ok (.invokevirtual 63, 3) := by decide +kernel
theorem dX2_readTerm_43 : decode cX2_readTerm 43 = .ok (.istore_n 2, 1) := by decide +kernel
theorem dX2_readTerm_44 : decode cX2_readTerm 44 = .ok (.iload_n 2, 1) := by decide +kernel
theorem dX2_readTerm_45 : decode cX2_readTerm 45 = .ok (.iconst (-1), 1) := by decide +kernel
theorem dX2_readTerm_46 : decode cX2_readTerm 46 = .ok (.if_icmp .ne 12, 3) := by decide +kernel
theorem dX2_readTerm_49 : decode cX2_readTerm 49 = .ok (.aload_n 0, 1) := by decide +kernel
theorem dX2_readTerm_50 : decode cX2_readTerm 50 = .ok (.getfield 9, 3) := by decide +kernel
theorem dX2_readTerm_53 : decode cX2_readTerm 53 = .ok (.iconst 1, 1) := by decide +kernel
theorem dX2_readTerm_54 : decode cX2_readTerm 54 = .ok (.invokevirtual 46, 3) := by decide +kernel
theorem dX2_readTerm_57 : decode cX2_readTerm 57 = .ok (.ireturn, 1) := by decide +kernel
theorem dX2_readTerm_58 : decode cX2_readTerm 58 = .ok (.aload_n 0, 1) := by decide +kernel
theorem dX2_readTerm_59 : decode cX2_readTerm 59 = .ok (.getfield 9, 3) := by decide +kernel
theorem dX2_readTerm_62 : decode cX2_readTerm 62 = .ok (.invokevirtual 50, 3) := by decide +kernel
theorem dX2_readTerm_65 : decode cX2_readTerm 65 = .ok (.aload_n 0, 1) := by decide +kernel
theorem dX2_readTerm_66 : decode cX2_readTerm 66 = .ok (.getfield 9, 3) := by decide +kernel
theorem dX2_readTerm_69 : decode cX2_readTerm 69 = .ok (.ldc 66, 2) := by decide +kernel
theorem dX2_readTerm_71 : decode cX2_readTerm 71 = .ok (.invokevirtual 68, 3) := by decide +kernel
theorem dX2_readTerm_74 : decode cX2_readTerm 74 = .ok (.ifCond .eq 10, 3) := by decide +kernel
theorem dX2_readTerm_77 : decode cX2_readTerm 77 = .ok (.aload_n 0, 1) := by decide +kernel
theorem dX2_readTerm_78 : decode cX2_readTerm 78 = .ok (.iload_n 1, 1) := by decide +kernel
theorem dX2_readTerm_79 : decode cX2_readTerm 79 = .ok (.iload_n 2, 1) := by decide +kernel
theorem dX2_readTerm_80 : decode cX2_readTerm 80 = .ok (.invokevirtual 72, 3) := by decide +kernel
theorem dX2_readTerm_83 : decode cX2_readTerm 83 = .ok (.ireturn, 1) := by decide +kernel
theorem dX2_readTerm_84 : decode cX2_readTerm 84 = .ok (.aload_n 0, 1) := by decide +kernel
theorem dX2_readTerm_85 : decode cX2_readTerm 85 = .ok (.getfield 18, 3) := by decide +kernel
theorem dX2_readTerm_88 : decode cX2_readTerm 88 = .ok (.iload_n 1, 1) := by decide +kernel
theorem dX2_readTerm_89 : decode cX2_readTerm 89 = .ok (.iload_n 2, 1) := by decide +kernel
theorem dX2_readTerm_90 : decode cX2_readTerm 90 = .ok (.iconst 0, 1) := by decide +kernel
theorem dX2_readTerm_91 : decode cX2_readTerm 91 = .ok (.iload_n 2, 1) := by decide +kernel
theorem dX2_readTerm_92 : decode cX2_readTerm 92 = .ok (.iload_n 1, 1) := by decide +kernel
theorem dX2_readTerm_93 : decode cX2_readTerm 93 = .ok (.invokestatic 76, 3) := by decide +kernel
theorem dX2_readTerm_96 : decode cX2_readTerm 96 = .ok (.invokevirtual 80, 3) := by decide +kernel
theorem dX2_readTerm_99 : decode cX2_readTerm 99 = .ok (.iconst 1, 1) := by decide +kernel
theorem dX2_readTerm_100 : decode cX2_readTerm 100 = .ok (.ireturn, 1) := by decide +kernel
theorem dX2_readRange_0 : decode cX2_readRange 0 = .ok (.aload_n 0, 1) := by decide +kernel
theorem dX2_readRange_1 : decode cX2_readRange 1 = .ok (.getfield 9, 3) := by decide +kernel
theorem dX2_readRange_4 : decode cX2_readRange 4 = .ok (.invokevirtual 50, 3) := by decide +kernel
theorem dX2_readRange_7 : decode cX2_readRange 7 = .ok (.aload_n 0, 1) := by decide +kernel
theorem dX2_readRange_8 : decode cX2_readRange 8 = .ok (.iload_n 1, 1) := by decide +kernel
theorem dX2_readRange_9 : decode cX2_readRange 9 = .ok (.iload_n 2, 1) := by decide +kernel
theorem dX2_readRange_10 : decode cX2_readRange 10 = .ok (.sipush (-3000), 3) := by decide +kernel
theorem dX2_readRange_13 : decode cX2_readRange 13 = .ok (.invokevirtual 84, 3) := by decide +kernel
theorem dX2_readRange_16 : decode cX2_readRange 16 = .ok (.ifCond .ne 5, 3) := by decide +kernel
theorem dX2_readRange_19 : decode cX2_readRange 19 = .ok (.iconst 0, 1) := by decide +kernel
theorem dX2_readRange_20 : decode cX2_readRange 20 = .ok (.ireturn, 1) := by decide +kernel
theorem dX2_readRange_21 : decode cX2_readRange 21 = .ok (.aload_n 0, 1) := by decide +kernel
theorem dX2_readRange_22 : decode cX2_readRange 22 = .ok (.getfield 9, 3) := by decide +kernel
theorem dX2_readRange_25 : decode cX2_readRange 25 = .ok (.getfield 88, 3) := by decide +kernel
theorem dX2_readRange_28 : decode cX2_readRange 28 = .ok (.istore_n 3, 1) := by decide +kernel
theorem dX2_readRange_29 : decode cX2_readRange 29 = .ok (.aload_n 0, 1) := by decide +kernel
theorem dX2_readRange_30 : decode cX2_readRange 30 = .ok (.getfield 9, 3) := by decide +kernel
theorem dX2_readRange_33 : decode cX2_readRange 33 = .ok (.invokevirtual 50, 3) := by decide +kernel
theorem dX2_readRange_36 : decode cX2_readRange 36 = .ok (.aload_n 0, 1) := by decide +kernel
theorem dX2_readRange_37 : decode cX2_readRange 37 = .ok (.getfield 9, 3) := by decide +kernel
theorem dX2_readRange_40 : decode cX2_readRange 40 = .ok (.ldc 91, 2) := by decide +kernel
theorem dX2_readRange_42 : decode cX2_readRange 42 = .ok (.invokevirtual 68, 3) := by decide +kernel
theorem dX2_readRange_45 : decode cX2_readRange 45 = .ok (.ifCond .ne 12, 3) := by decide +kernel
theorem dX2_readRange_48 : decode cX2_readRange 48 = .ok (.aload_n 0, 1) := by decide +kernel
theorem dX2_readRange_49 : decode cX2_readRange 49 = .ok (.getfield 9, 3) := by decide +kernel
theorem dX2_readRange_52 : decode cX2_readRange 52 = .ok (.iconst 1, 1) := by decide +kernel
theorem dX2_readRange_53 : decode cX2_readRange 53 = .ok (.invokevirtual 46, 3) := by decide +kernel
theorem dX2_readRange_56 : decode cX2_readRange 56 = .ok (.ireturn, 1) := by decide +kernel
theorem dX2_readRange_57 : decode cX2_readRange 57 = .ok (.aload_n 0, 1) := by decide +kernel
theorem dX2_readRange_58 : decode cX2_readRange 58 = .ok (.getfield 9, 3) := by decide +kernel
theorem dX2_readRange_61 : decode cX2_readRange 61 = .ok (.invokevirtual 50, 3) := by decide +kernel
theorem dX2_readRange_64 : decode cX2_readRange 64 = .ok (.aload_n 0, 1) := by decide +kernel
theorem dX2_readRange_65 : decode cX2_readRange 65 = .ok (.iload_n 1, 1) := by decide +kernel
theorem dX2_readRange_66 : decode cX2_readRange 66 = .ok (.iload_n 2, 1) := by decide +kernel
theorem dX2_readRange_67 : decode cX2_readRange 67 = .ok (.iload_n 3, 1) := by decide +kernel
theorem dX2_readRange_68 : decode cX2_readRange 68 = .ok (.invokevirtual 84, 3) := by decide +kernel
theorem dX2_readRange_71 : decode cX2_readRange 71 = .ok (.ifCond .ne 5, 3) := by decide +kernel
theorem dX2_readRange_74 : decode cX2_readRange 74 = .ok (.iconst 0, 1) := by decide +kernel
theorem dX2_readRange_75 : decode cX2_readRange 75 = .ok (.ireturn, 1) := by decide +kernel
theorem dX2_readRange_76 : decode cX2_readRange 76 = .ok (.aload_n 0, 1) := by decide +kernel
theorem dX2_readRange_77 : decode cX2_readRange 77 = .ok (.getfield 18, 3) := by decide +kernel
theorem dX2_readRange_80 : decode cX2_readRange 80 = .ok (.iload_n 1, 1) := by decide +kernel
theorem dX2_readRange_81 : decode cX2_readRange 81 = .ok (.iload_n 2, 1) := by decide +kernel
theorem dX2_readRange_82 : decode cX2_readRange 82 = .ok (.iload_n 3, 1) := by decide +kernel
theorem dX2_readRange_83 : decode cX2_readRange 83 = .ok (.aload_n 0, 1) := by decide +kernel
theorem dX2_readRange_84 : decode cX2_readRange 84 = .ok (.getfield 9, 3) := by decide +kernel
theorem dX2_readRange_87 : decode cX2_readRange 87 = .ok (.getfield 88, 3) := by decide +kernel
theorem dX2_readRange_90 : decode cX2_readRange 90 = .ok (.invokevirtual 80, 3) := by decide +kernel
theorem dX2_readRange_93 : decode cX2_readRange 93 = .ok (.aload_n 0, 1) := by decide +kernel
theorem dX2_readRange_94 : decode cX2_readRange 94 = .ok (.getfield 9, 3) := by decide +kernel
theorem dX2_readRange_97 : decode cX2_readRange 97 = .ok (.invokevirtual 50, 3) := by decide +kernel
theorem dX2_readRange_100 : decode cX2_readRange 100 = .ok (.iconst 1, 1) := by decide +kernel
theorem dX2_readRange_101 : decode cX2_readRange 101 = .ok (.ireturn, 1) := by decide +kernel
theorem dX2_readBound_0 : decode cX2_readBound 0 = .ok (.aload_n 0, 1) := by decide +kernel
theorem dX2_readBound_1 : decode cX2_readBound 1 = .ok (.getfield 9, 3) := by decide +kernel
theorem dX2_readBound_4 : decode cX2_readBound 4 = .ok (.invokevirtual 93, 3) := by decide +kernel
theorem dX2_readBound_7 : decode cX2_readBound 7 = .ok (.ifCond .ne 5, 3) := by decide +kernel
theorem dX2_readBound_10 : decode cX2_readBound 10 = .ok (.iconst 0, 1) := by decide +kernel
theorem dX2_readBound_11 : decode cX2_readBound 11 = .ok (.ireturn, 1) := by decide +kernel
theorem dX2_readBound_12 : decode cX2_readBound 12 = .ok (.aload_n 0, 1) := by decide +kernel
theorem dX2_readBound_13 : decode cX2_readBound 13 = .ok (.getfield 9, 3) := by decide +kernel
theorem dX2_readBound_16 : decode cX2_readBound 16 = .ok (.getfield 88, 3) := by decide +kernel
theorem dX2_readBound_19 : decode cX2_readBound 19 = .ok (.iload_n 3, 1) := by decide +kernel
theorem dX2_readBound_20 : decode cX2_readBound 20 = .ok (.if_icmp .lt 25, 3) := by decide +kernel
theorem dX2_readBound_23 : decode cX2_readBound 23 = .ok (.iload_n 2, 1) := by decide +kernel
theorem dX2_readBound_24 : decode cX2_readBound 24 = .ok (.iload_n 1, 1) := by decide +kernel
theorem dX2_readBound_25 : decode cX2_readBound 25 = .ok (.aload_n 0, 1) := by decide +kernel
theorem dX2_readBound_26 : decode cX2_readBound 26 = .ok (.getfield 9, 3) := by decide +kernel
theorem dX2_readBound_29 : decode cX2_readBound 29 = .ok (.getfield 88, 3) := by decide +kernel
theorem dX2_readBound_32 : decode cX2_readBound 32 = .ok (.invokestatic 96, 3) := by decide +kernel
theorem dX2_readBound_35 : decode cX2_readBound 35 = .ok (.invokestatic 100, 3) := by decide +kernel
theorem dX2_readBound_38 : decode cX2_readBound 38 = .ok (.ifCond .ne 7, 3) := by decide +kernel
theorem dX2_readBound_41 : decode cX2_readBound 41 = .ok (.iconst 1, 1) := by decide +kernel
theorem dX2_readBound_42 : decode cX2_readBound 42 = .ok (.goto 4, 3) := by decide +kernel
theorem dX2_readBound_45 : decode cX2_readBound 45 = .ok (.iconst 0, 1) := by decide +kernel
theorem dX2_readBound_46 : decode cX2_readBound 46 = .ok (.istore 4, 2) := by decide +kernel
theorem dX2_readBound_48 : decode cX2_readBound 48 = .ok (.iload 4, 2) := by decide +kernel
theorem dX2_readBound_50 : decode cX2_readBound 50 = .ok (.ifCond .ne 14, 3) := by decide +kernel
theorem dX2_readBound_53 : decode cX2_readBound 53 = .ok (.aload_n 0, 1) := by decide +kernel
theorem dX2_readBound_54 : decode cX2_readBound 54 = .ok (.getfield 9, 3) := by decide +kernel
theorem dX2_readBound_57 : decode cX2_readBound 57 = .ok (.iconst 3, 1) := by decide +kernel
theorem dX2_readBound_58 : decode cX2_readBound 58 = .ok (.invokevirtual 46, 3) := by decide +kernel
theorem dX2_readBound_61 : decode cX2_readBound 61 = .ok (.ifCond .eq 7, 3) := by decide +kernel
theorem dX2_readBound_64 : decode cX2_readBound 64 = .ok (.iconst 1, 1) := by decide +kernel
theorem dX2_readBound_65 : decode cX2_readBound 65 = .ok (.goto 4, 3) := by decide +kernel
theorem dX2_readBound_68 : decode cX2_readBound 68 = .ok (.iconst 0, 1) := by decide +kernel
theorem dX2_readBound_69 : decode cX2_readBound 69 = .ok (.ireturn, 1) := by decide +kernel
