/-! DECODE ROWS X8 X9 X10 -/
theorem dX8_init_0 : decode cX8_init 0 = .ok (.aload_n 0, 1) := by decide +kernel
theorem dX8_init_1 : decode cX8_init 1 = .ok (.invokespecial 3, 3) := by decide +kernel
theorem dX8_init_4 : decode cX8_init 4 = .ok (.aload_n 0, 1) := by decide +kernel
theorem dX8_init_5 : decode cX8_init 5 = .ok (.sipush 469, 3) := by decide +kernel
theorem dX8_init_8 : decode cX8_init 8 = .ok (.newarray .long, 2) := by decide +kernel
theorem dX8_init_10 : decode cX8_init 10 = .ok (.putfield 11, 3) := by decide +kernel
theorem dX8_init_13 : decode cX8_init 13 = .ok (.aload_n 0, 1) := by decide +kernel
theorem dX8_init_14 : decode cX8_init 14 = .ok (.sipush 469, 3) := by decide +kernel
theorem dX8_init_17 : decode cX8_init 17 = .ok (.newarray .long, 2) := by decide +kernel
theorem dX8_init_19 : decode cX8_init 19 = .ok (.putfield 15, 3) := by decide +kernel
theorem dX8_init_22 : decode cX8_init 22 = .ok (.return_, 1) := by decide +kernel
theorem dX8_begin_0 : decode cX8_begin 0 = .ok (.iconst 0, 1) := by decide +kernel
theorem dX8_begin_1 : decode cX8_begin 1 = .ok (.istore_n 1, 1) := by decide +kernel
theorem dX8_begin_2 : decode cX8_begin 2 = .ok (.iload_n 1, 1) := by decide +kernel
theorem dX8_begin_3 : decode cX8_begin 3 = .ok (.sipush 469, 3) := by decide +kernel
theorem dX8_begin_6 : decode cX8_begin 6 = .ok (.if_icmp .ge 16, 3) := by decide +kernel
theorem dX8_begin_9 : decode cX8_begin 9 = .ok (.aload_n 0, 1) := by decide +kernel
theorem dX8_begin_10 : decode cX8_begin 10 = .ok (.getfield 11, 3) := by decide +kernel
theorem dX8_begin_13 : decode cX8_begin 13 = .ok (.iload_n 1, 1) := by decide +kernel
theorem dX8_begin_14 : decode cX8_begin 14 = .ok (.lconst 0, 1) := by decide +kernel
theorem dX8_begin_15 : decode cX8_begin 15 = .ok (.lastore, 1) := by decide +kernel
theorem dX8_begin_16 : decode cX8_begin 16 = .ok (.iinc 1 1, 3) := by decide +kernel
theorem dX8_begin_19 : decode cX8_begin 19 = .ok (.goto (-17), 3) := by decide +kernel
theorem dX8_begin_22 : decode cX8_begin 22 = .ok (.aload_n 0, 1) := by decide +kernel
theorem dX8_begin_23 : decode cX8_begin 23 = .ok (.getfield 11, 3) := by decide +kernel
theorem dX8_begin_26 : decode cX8_begin 26 = .ok (.iconst 0, 1) := by decide +kernel
theorem dX8_begin_27 : decode cX8_begin 27 = .ok (.lconst 1, 1) := by decide +kernel
theorem dX8_begin_28 : decode cX8_begin 28 = .ok (.lastore, 1) := by decide +kernel
theorem dX8_begin_29 : decode cX8_begin 29 = .ok (.aload_n 0, 1) := by decide +kernel
theorem dX8_begin_30 : decode cX8_begin 30 = .ok (.iconst 0, 1) := by decide +kernel
theorem dX8_begin_31 : decode cX8_begin 31 = .ok (.putfield 18, 3) := by decide +kernel
theorem dX8_begin_34 : decode cX8_begin 34 = .ok (.aload_n 0, 1) := by decide +kernel
theorem dX8_begin_35 : decode cX8_begin 35 = .ok (.iconst 1, 1) := by decide +kernel
theorem dX8_begin_36 : decode cX8_begin 36 = .ok (.putfield 22, 3) := by decide +kernel
theorem dX8_begin_39 : decode cX8_begin 39 = .ok (.return_, 1) := by decide +kernel
theorem dX8_addTerm_0 : decode cX8_addTerm 0 = .ok (.aload_n 0, 1) := by decide +kernel
theorem dX8_addTerm_1 : decode cX8_addTerm 1 = .ok (.aload_n 0, 1) := by decide +kernel
theorem dX8_addTerm_2 : decode cX8_addTerm 2 = .ok (.getfield 22, 3) := by decide +kernel
theorem dX8_addTerm_5 : decode cX8_addTerm 5 = .ok (.aload_n 1, 1) := by decide +kernel
theorem dX8_addTerm_6 : decode cX8_addTerm 6 = .ok (.iload_n 2, 1) := by decide +kernel
theorem dX8_addTerm_7 : decode cX8_addTerm 7 = .ok (.invokevirtual 25, 3) := by decide +kernel
theorem dX8_addTerm_10 : decode cX8_addTerm 10 = .ok (.iadd, 1) := by decide +kernel
theorem dX8_addTerm_11 : decode cX8_addTerm 11 = .ok (.sipush 30016, 3) := by decide +kernel
theorem dX8_addTerm_14 : decode cX8_addTerm 14 = .ok (.invokestatic 31, 3) := by decide +kernel
theorem dX8_addTerm_17 : decode cX8_addTerm 17 = .ok (.putfield 22, 3) := by decide +kernel
theorem dX8_addTerm_20 : decode cX8_addTerm 20 = .ok (.aload_n 0, 1) := by decide +kernel
theorem dX8_addTerm_21 : decode cX8_addTerm 21 = .ok (.dup, 1) := by decide +kernel
theorem dX8_addTerm_22 : decode cX8_addTerm 22 = .ok (.getfield 18, 3) := by decide +kernel
theorem dX8_addTerm_25 : decode cX8_addTerm 25 = .ok (.aload_n 1, 1) := by decide +kernel
theorem dX8_addTerm_26 : decode cX8_addTerm 26 = .ok (.getfield 37, 3) := by decide +kernel
theorem dX8_addTerm_29 : decode cX8_addTerm 29 = .ok (.iload_n 2, 1) := by decide +kernel
theorem dX8_addTerm_30 : decode cX8_addTerm 30 = .ok (.iaload, 1) := by decide +kernel
theorem dX8_addTerm_31 : decode cX8_addTerm 31 = .ok (.iadd, 1) := by decide +kernel
theorem dX8_addTerm_32 : decode cX8_addTerm 32 = .ok (.putfield 18, 3) := by decide +kernel
theorem dX8_addTerm_35 : decode cX8_addTerm 35 = .ok (.aload_n 1, 1) := by decide +kernel
theorem dX8_addTerm_36 : decode cX8_addTerm 36 = .ok (.getfield 40, 3) := by decide +kernel
theorem dX8_addTerm_39 : decode cX8_addTerm 39 = .ok (.iload_n 2, 1) := by decide +kernel
theorem dX8_addTerm_40 : decode cX8_addTerm 40 = .ok (.iaload, 1) := by decide +kernel
theorem dX8_addTerm_41 : decode cX8_addTerm 41 = .ok (.ifCond .ne 31, 3) := by decide +kernel
theorem dX8_addTerm_44 : decode cX8_addTerm 44 = .ok (.aload_n 0, 1) := by decide +kernel
theorem dX8_addTerm_45 : decode cX8_addTerm 45 = .ok (.aload_n 1, 1) := by decide +kernel
theorem dX8_addTerm_46 : decode cX8_addTerm 46 = .ok (.getfield 43, 3) := by decide +kernel
theorem dX8_addTerm_49 : decode cX8_addTerm 49 = .ok (.iload_n 2, 1) := by decide +kernel
theorem dX8_addTerm_50 : decode cX8_addTerm 50 = .ok (.iaload, 1) := by decide +kernel
theorem dX8_addTerm_51 : decode cX8_addTerm 51 = .ok (.aload_n 1, 1) := by decide +kernel
theorem dX8_addTerm_52 : decode cX8_addTerm 52 = .ok (.getfield 46, 3) := by decide +kernel
theorem dX8_addTerm_55 : decode cX8_addTerm 55 = .ok (.iload_n 2, 1) := by decide +kernel
theorem dX8_addTerm_56 : decode cX8_addTerm 56 = .ok (.iaload, 1) := by decide +kernel
theorem dX8_addTerm_57 : decode cX8_addTerm 57 = .ok (.aload_n 1, 1) := by decide +kernel
theorem dX8_addTerm_58 : decode cX8_addTerm 58 = .ok (.getfield 49, 3) := by decide +kernel
theorem dX8_addTerm_61 : decode cX8_addTerm 61 = .ok (.iload_n 2, 1) := by decide +kernel
theorem dX8_addTerm_62 : decode cX8_addTerm 62 = .ok (.iaload, 1) := by decide +kernel
theorem dX8_addTerm_63 : decode cX8_addTerm 63 = .ok (.isub, 1) := by decide +kernel
theorem dX8_addTerm_64 : decode cX8_addTerm 64 = .ok (.iconst 1, 1) := by decide +kernel
theorem dX8_addTerm_65 : decode cX8_addTerm 65 = .ok (.iadd, 1) := by decide +kernel
theorem dX8_addTerm_66 : decode cX8_addTerm 66 = .ok (.invokevirtual 52, 3) := by decide +kernel
theorem dX8_addTerm_69 : decode cX8_addTerm 69 = .ok (.goto 9, 3) := by decide +kernel
theorem dX8_addTerm_72 : decode cX8_addTerm 72 = .ok (.aload_n 0, 1) := by decide +kernel
theorem dX8_addTerm_73 : decode cX8_addTerm 73 = .ok (.aload_n 1, 1) := by decide +kernel
theorem dX8_addTerm_74 : decode cX8_addTerm 74 = .ok (.iload_n 2, 1) := by decide +kernel
theorem dX8_addTerm_75 : decode cX8_addTerm 75 = .ok (.invokevirtual 56, 3) := by decide +kernel
theorem dX8_addTerm_78 : decode cX8_addTerm 78 = .ok (.return_, 1) := by decide +kernel
theorem dX8_holds_0 : decode cX8_holds 0 = .ok (.iload_n 1, 1) := by decide +kernel
theorem dX8_holds_1 : decode cX8_holds 1 = .ok (.aload_n 0, 1) := by decide +kernel
theorem dX8_holds_2 : decode cX8_holds 2 = .ok (.getfield 18, 3) := by decide +kernel
theorem dX8_holds_5 : decode cX8_holds 5 = .ok (.isub, 1) := by decide +kernel
theorem dX8_holds_6 : decode cX8_holds 6 = .ok (.istore_n 2, 1) := by decide +kernel
theorem dX8_holds_7 : decode cX8_holds 7 = .ok (.iload_n 2, 1) := by decide +kernel
theorem dX8_holds_8 : decode cX8_holds 8 = .ok (.ifCond .lt 36, 3) := by decide +kernel
theorem dX8_holds_11 : decode cX8_holds 11 = .ok (.iload_n 2, 1) := by decide +kernel
theorem dX8_holds_12 : decode cX8_holds 12 = .ok (.aload_n 0, 1) := by decide +kernel
theorem dX8_holds_13 : decode cX8_holds 13 = .ok (.getfield 22, 3) := by decide +kernel
theorem dX8_holds_16 : decode cX8_holds 16 = .ok (.if_icmp .ge 28, 3) := by decide +kernel
theorem dX8_holds_19 : decode cX8_holds 19 = .ok (.aload_n 0, 1) := by decide +kernel
theorem dX8_holds_20 : decode cX8_holds 20 = .ok (.getfield 11, 3) := by decide +kernel
theorem dX8_holds_23 : decode cX8_holds 23 = .ok (.iload_n 2, 1) := by decide +kernel
theorem dX8_holds_24 : decode cX8_holds 24 = .ok (.bipush 6, 2) := by decide +kernel
theorem dX8_holds_26 : decode cX8_holds 26 = .ok (.ishr, 1) := by decide +kernel
theorem dX8_holds_27 : decode cX8_holds 27 = .ok (.laload, 1) := by decide +kernel
theorem dX8_holds_28 : decode cX8_holds 28 = .ok (.iload_n 2, 1) := by decide +kernel
theorem dX8_holds_29 : decode cX8_holds 29 = .ok (.bipush 63, 2) := by decide +kernel
theorem dX8_holds_31 : decode cX8_holds 31 = .ok (.iand, 1) := by decide +kernel
theorem dX8_holds_32 : decode cX8_holds 32 = .ok (.lushr, 1) := by decide +kernel
theorem dX8_holds_33 : decode cX8_holds 33 = .ok (.lconst 1, 1) := by decide +kernel
theorem dX8_holds_34 : decode cX8_holds 34 = .ok (.land, 1) := by decide +kernel
theorem dX8_holds_35 : decode cX8_holds 35 = .ok (.lconst 1, 1) := by decide +kernel
theorem dX8_holds_36 : decode cX8_holds 36 = .ok (.lcmp, 1) := by decide +kernel
theorem dX8_holds_37 : decode cX8_holds 37 = .ok (.ifCond .ne 7, 3) := by decide +kernel
theorem dX8_holds_40 : decode cX8_holds 40 = .ok (.iconst 1, 1) := by decide +kernel
theorem dX8_holds_41 : decode cX8_holds 41 = .ok (.goto 4, 3) := by decide +kernel
theorem dX8_holds_44 : decode cX8_holds 44 = .ok (.iconst 0, 1) := by decide +kernel
theorem dX8_holds_45 : decode cX8_holds 45 = .ok (.ireturn, 1) := by decide +kernel
theorem dX8_addPower_0 : decode cX8_addPower 0 = .ok (.iconst 0, 1) := by decide +kernel
theorem dX8_addPower_1 : decode cX8_addPower 1 = .ok (.istore_n 3, 1) := by decide +kernel
theorem dX8_addPower_2 : decode cX8_addPower 2 = .ok (.iload_n 3, 1) := by decide +kernel
theorem dX8_addPower_3 : decode cX8_addPower 3 = .ok (.sipush 469, 3) := by decide +kernel
theorem dX8_addPower_6 : decode cX8_addPower 6 = .ok (.if_icmp .ge 16, 3) := by decide +kernel
theorem dX8_addPower_9 : decode cX8_addPower 9 = .ok (.aload_n 0, 1) := by decide +kernel
theorem dX8_addPower_10 : decode cX8_addPower 10 = .ok (.getfield 15, 3) := by decide +kernel
theorem dX8_addPower_13 : decode cX8_addPower 13 = .ok (.iload_n 3, 1) := by decide +kernel
theorem dX8_addPower_14 : decode cX8_addPower 14 = .ok (.lconst 0, 1) := by decide +kernel
theorem dX8_addPower_15 : decode cX8_addPower 15 = .ok (.lastore, 1) := by decide +kernel
theorem dX8_addPower_16 : decode cX8_addPower 16 = .ok (.iinc 3 1, 3) := by decide +kernel
theorem dX8_addPower_19 : decode cX8_addPower 19 = .ok (.goto (-17), 3) := by decide +kernel
theorem dX8_addPower_22 : decode cX8_addPower 22 = .ok (.aload_n 1, 1) := by decide +kernel
theorem dX8_addPower_23 : decode cX8_addPower 23 = .ok (.getfield 49, 3) := by decide +kernel
theorem dX8_addPower_26 : decode cX8_addPower 26 = .ok (.iload_n 2, 1) := by decide +kernel
theorem dX8_addPower_27 : decode cX8_addPower 27 = .ok (.iaload, 1) := by decide +kernel
theorem dX8_addPower_28 : decode cX8_addPower 28 = .ok (.istore_n 3, 1) := by decide +kernel
theorem dX8_addPower_29 : decode cX8_addPower 29 = .ok (.iload_n 3, 1) := by decide +kernel
theorem dX8_addPower_30 : decode cX8_addPower 30 = .ok (.aload_n 1, 1) := by decide +kernel
theorem dX8_addPower_31 : decode cX8_addPower 31 = .ok (.getfield 46, 3) := by decide +kernel
theorem dX8_addPower_34 : decode cX8_addPower 34 = .ok (.iload_n 2, 1) := by decide +kernel
theorem dX8_addPower_35 : decode cX8_addPower 35 = .ok (.iaload, 1) := by decide +kernel
theorem dX8_addPower_36 : decode cX8_addPower 36 = .ok (.if_icmp .gt 34, 3) := by decide +kernel
theorem dX8_addPower_39 : decode cX8_addPower 39 = .ok (.aload_n 0, 1) := by decide +kernel
theorem dX8_addPower_40 : decode cX8_addPower 40 = .ok (.aload_n 0, 1) := by decide +kernel
theorem dX8_addPower_41 : decode cX8_addPower 41 = .ok (.getfield 15, 3) := by decide +kernel
theorem dX8_addPower_44 : decode cX8_addPower 44 = .ok (.aload_n 0, 1) := by decide +kernel
theorem dX8_addPower_45 : decode cX8_addPower 45 = .ok (.getfield 11, 3) := by decide +kernel
theorem dX8_addPower_48 : decode cX8_addPower 48 = .ok (.aload_n 1, 1) := by decide +kernel
theorem dX8_addPower_49 : decode cX8_addPower 49 = .ok (.iload_n 2, 1) := by decide +kernel
theorem dX8_addPower_50 : decode cX8_addPower 50 = .ok (.iload_n 3, 1) := by decide +kernel
theorem dX8_addPower_51 : decode cX8_addPower 51 = .ok (.invokevirtual 60, 3) := by decide +kernel
theorem dX8_addPower_54 : decode cX8_addPower 54 = .ok (.aload_n 1, 1) := by decide +kernel
theorem dX8_addPower_55 : decode cX8_addPower 55 = .ok (.getfield 37, 3) := by decide +kernel
theorem dX8_addPower_58 : decode cX8_addPower 58 = .ok (.iload_n 2, 1) := by decide +kernel
theorem dX8_addPower_59 : decode cX8_addPower 59 = .ok (.iaload, 1) := by decide +kernel
theorem dX8_addPower_60 : decode cX8_addPower 60 = .ok (.isub, 1) := by decide +kernel
theorem dX8_addPower_61 : decode cX8_addPower 61 = .ok (.invokevirtual 63, 3) := by decide +kernel
theorem dX8_addPower_64 : decode cX8_addPower 64 = .ok (.iinc 3 1, 3) := by decide +kernel
theorem dX8_addPower_67 : decode cX8_addPower 67 = .ok (.goto (-38), 3) := by decide +kernel
theorem dX8_addPower_70 : decode cX8_addPower 70 = .ok (.aload_n 0, 1) := by decide +kernel
theorem dX8_addPower_71 : decode cX8_addPower 71 = .ok (.getfield 11, 3) := by decide +kernel
theorem dX8_addPower_74 : decode cX8_addPower 74 = .ok (.astore_n 3, 1) := by decide +kernel
theorem dX8_addPower_75 : decode cX8_addPower 75 = .ok (.aload_n 0, 1) := by decide +kernel
theorem dX8_addPower_76 : decode cX8_addPower 76 = .ok (.aload_n 0, 1) := by decide +kernel
theorem dX8_addPower_77 : decode cX8_addPower 77 = .ok (.getfield 15, 3) := by decide +kernel
theorem dX8_addPower_80 : decode cX8_addPower 80 = .ok (.putfield 11, 3) := by decide +kernel
theorem dX8_addPower_83 : decode cX8_addPower 83 = .ok (.aload_n 0, 1) := by decide +kernel
theorem dX8_addPower_84 : decode cX8_addPower 84 = .ok (.aload_n 3, 1) := by decide +kernel
theorem dX8_addPower_85 : decode cX8_addPower 85 = .ok (.putfield 15, 3) := by decide +kernel
theorem dX8_addPower_88 : decode cX8_addPower 88 = .ok (.return_, 1) := by decide +kernel
theorem dX8_addLine_0 : decode cX8_addLine 0 = .ok (.iconst 1, 1) := by decide +kernel
theorem dX8_addLine_1 : decode cX8_addLine 1 = .ok (.istore_n 3, 1) := by decide +kernel
theorem dX8_addLine_2 : decode cX8_addLine 2 = .ok (.iload_n 3, 1) := by decide +kernel
theorem dX8_addLine_3 : decode cX8_addLine 3 = .ok (.iload_n 2, 1) := by decide +kernel
theorem dX8_addLine_4 : decode cX8_addLine 4 = .ok (.if_icmp .ge 31, 3) := by decide +kernel
theorem dX8_addLine_7 : decode cX8_addLine 7 = .ok (.aload_n 0, 1) := by decide +kernel
theorem dX8_addLine_8 : decode cX8_addLine 8 = .ok (.aload_n 0, 1) := by decide +kernel
theorem dX8_addLine_9 : decode cX8_addLine 9 = .ok (.getfield 11, 3) := by decide +kernel
theorem dX8_addLine_12 : decode cX8_addLine 12 = .ok (.aload_n 0, 1) := by decide +kernel
theorem dX8_addLine_13 : decode cX8_addLine 13 = .ok (.getfield 11, 3) := by decide +kernel
theorem dX8_addLine_16 : decode cX8_addLine 16 = .ok (.iload_n 1, 1) := by decide +kernel
theorem dX8_addLine_17 : decode cX8_addLine 17 = .ok (.iload_n 3, 1) := by decide +kernel
theorem dX8_addLine_18 : decode cX8_addLine 18 = .ok (.iload_n 2, 1) := by decide +kernel
theorem dX8_addLine_19 : decode cX8_addLine 19 = .ok (.iload_n 3, 1) := by decide +kernel
theorem dX8_addLine_20 : decode cX8_addLine 20 = .ok (.isub, 1) := by decide +kernel
theorem dX8_addLine_21 : decode cX8_addLine 21 = .ok (.invokestatic 31, 3) := by decide +kernel
theorem dX8_addLine_24 : decode cX8_addLine 24 = .ok (.imul, 1) := by decide +kernel
theorem dX8_addLine_25 : decode cX8_addLine 25 = .ok (.invokevirtual 63, 3) := by decide +kernel
theorem dX8_addLine_28 : decode cX8_addLine 28 = .ok (.iload_n 3, 1) := by decide +kernel
theorem dX8_addLine_29 : decode cX8_addLine 29 = .ok (.iload_n 3, 1) := by decide +kernel
theorem dX8_addLine_30 : decode cX8_addLine 30 = .ok (.iadd, 1) := by decide +kernel
theorem dX8_addLine_31 : decode cX8_addLine 31 = .ok (.istore_n 3, 1) := by decide +kernel
theorem dX8_addLine_32 : decode cX8_addLine 32 = .ok (.goto (-30), 3) := by decide +kernel
theorem dX8_addLine_35 : decode cX8_addLine 35 = .ok (.return_, 1) := by decide +kernel
theorem dX8_orShifted_0 : decode cX8_orShifted 0 = .ok (.iload_n 3, 1) := by decide +kernel
theorem dX8_orShifted_1 : decode cX8_orShifted 1 = .ok (.bipush 6, 2) := by decide +kernel
theorem dX8_orShifted_3 : decode cX8_orShifted 3 = .ok (.ishr, 1) := by decide +kernel
theorem dX8_orShifted_4 : decode cX8_orShifted 4 = .ok (.istore 4, 2) := by decide +kernel
theorem dX8_orShifted_6 : decode cX8_orShifted 6 = .ok (.iload_n 3, 1) := by decide +kernel
theorem dX8_orShifted_7 : decode cX8_orShifted 7 = .ok (.bipush 63, 2) := by decide +kernel
theorem dX8_orShifted_9 : decode cX8_orShifted 9 = .ok (.iand, 1) := by decide +kernel
theorem dX8_orShifted_10 : decode cX8_orShifted 10 = .ok (.istore 5, 2) := by decide +kernel
theorem dX8_orShifted_12 : decode cX8_orShifted 12 = .ok (.sipush 468, 3) := by decide +kernel
theorem dX8_orShifted_15 : decode cX8_orShifted 15 = .ok (.aload_n 0, 1) := by decide +kernel
theorem dX8_orShifted_16 : decode cX8_orShifted 16 = .ok (.getfield 22, 3) := by decide +kernel
theorem dX8_orShifted_19 : decode cX8_orShifted 19 = .ok (.iconst 1, 1) := by decide +kernel
theorem dX8_orShifted_20 : decode cX8_orShifted 20 = .ok (.isub, 1) := by decide +kernel
theorem dX8_orShifted_21 : decode cX8_orShifted 21 = .ok (.bipush 6, 2) := by decide +kernel
theorem dX8_orShifted_23 : decode cX8_orShifted 23 = .ok (.ishr, 1) := by decide +kernel
theorem dX8_orShifted_24 : decode cX8_orShifted 24 = .ok (.invokestatic 31, 3) := by decide +kernel
theorem dX8_orShifted_27 : decode cX8_orShifted 27 = .ok (.istore 6, 2) := by decide +kernel
theorem dX8_orShifted_29 : decode cX8_orShifted 29 = .ok (.iload 6, 2) := by decide +kernel
theorem dX8_orShifted_31 : decode cX8_orShifted 31 = .ok (.istore 7, 2) := by decide +kernel
theorem dX8_orShifted_33 : decode cX8_orShifted 33 = .ok (.iload 7, 2) := by decide +kernel
theorem dX8_orShifted_35 : decode cX8_orShifted 35 = .ok (.iload 4, 2) := by decide +kernel
theorem dX8_orShifted_37 : decode cX8_orShifted 37 = .ok (.if_icmp .lt 62, 3) := by decide +kernel
theorem dX8_orShifted_40 : decode cX8_orShifted 40 = .ok (.aload_n 2, 1) := by decide +kernel
theorem dX8_orShifted_41 : decode cX8_orShifted 41 = .ok (.iload 7, 2) := by decide +kernel
theorem dX8_orShifted_43 : decode cX8_orShifted 43 = .ok (.iload 4, 2) := by decide +kernel
theorem dX8_orShifted_45 : decode cX8_orShifted 45 = .ok (.isub, 1) := by decide +kernel
theorem dX8_orShifted_46 : decode cX8_orShifted 46 = .ok (.laload, 1) := by decide +kernel
theorem dX8_orShifted_47 : decode cX8_orShifted 47 = .ok (.iload 5, 2) := by decide +kernel
theorem dX8_orShifted_49 : decode cX8_orShifted 49 = .ok (.lshl, 1) := by decide +kernel
theorem dX8_orShifted_50 : decode cX8_orShifted 50 = .ok (.lstore 8, 2) := by decide +kernel
theorem dX8_orShifted_52 : decode cX8_orShifted 52 = .ok (.iload 5, 2) := by decide +kernel
theorem dX8_orShifted_54 : decode cX8_orShifted 54 = .ok (.ifCond .le 30, 3) := by decide +kernel
theorem dX8_orShifted_57 : decode cX8_orShifted 57 = .ok (.iload 7, 2) := by decide +kernel
theorem dX8_orShifted_59 : decode cX8_orShifted 59 = .ok (.iload 4, 2) := by decide +kernel
theorem dX8_orShifted_61 : decode cX8_orShifted 61 = .ok (.if_icmp .le 23, 3) := by decide +kernel
theorem dX8_orShifted_64 : decode cX8_orShifted 64 = .ok (.lload 8, 2) := by decide +kernel
theorem dX8_orShifted_66 : decode cX8_orShifted 66 = .ok (.aload_n 2, 1) := by decide +kernel
theorem dX8_orShifted_67 : decode cX8_orShifted 67 = .ok (.iload 7, 2) := by decide +kernel
theorem dX8_orShifted_69 : decode cX8_orShifted 69 = .ok (.iload 4, 2) := by decide +kernel
theorem dX8_orShifted_71 : decode cX8_orShifted 71 = .ok (.isub, 1) := by decide +kernel
theorem dX8_orShifted_72 : decode cX8_orShifted 72 = .ok (.iconst 1, 1) := by decide +kernel
theorem dX8_orShifted_73 : decode cX8_orShifted 73 = .ok (.isub, 1) := by decide +kernel
theorem dX8_orShifted_74 : decode cX8_orShifted 74 = .ok (.laload, 1) := by decide +kernel
theorem dX8_orShifted_75 : decode cX8_orShifted 75 = .ok (.bipush 64, 2) := by decide +kernel
theorem dX8_orShifted_77 : decode cX8_orShifted 77 = .ok (.iload 5, 2) := by decide +kernel
theorem dX8_orShifted_79 : decode cX8_orShifted 79 = .ok (.isub, 1) := by decide +kernel
theorem dX8_orShifted_80 : decode cX8_orShifted 80 = .ok (.lushr, 1) := by decide +kernel
theorem dX8_orShifted_81 : decode cX8_orShifted 81 = .ok (.lor, 1) := by decide +kernel
theorem dX8_orShifted_82 : decode cX8_orShifted 82 = .ok (.lstore 8, 2) := by decide +kernel
theorem dX8_orShifted_84 : decode cX8_orShifted 84 = .ok (.aload_n 1, 1) := by decide +kernel
theorem dX8_orShifted_85 : decode cX8_orShifted 85 = .ok (.iload 7, 2) := by decide +kernel
theorem dX8_orShifted_87 : decode cX8_orShifted 87 = .ok (.dup2, 1) := by decide +kernel
theorem dX8_orShifted_88 : decode cX8_orShifted 88 = .ok (.laload, 1) := by decide +kernel
theorem dX8_orShifted_89 : decode cX8_orShifted 89 = .ok (.lload 8, 2) := by decide +kernel
theorem dX8_orShifted_91 : decode cX8_orShifted 91 = .ok (.lor, 1) := by decide +kernel
theorem dX8_orShifted_92 : decode cX8_orShifted 92 = .ok (.lastore, 1) := by decide +kernel
theorem dX8_orShifted_93 : decode cX8_orShifted 93 = .ok (.iinc 7 (-1), 3) := by decide +kernel
theorem dX8_orShifted_96 : decode cX8_orShifted 96 = .ok (.goto (-63), 3) := by decide +kernel
theorem dX8_orShifted_99 : decode cX8_orShifted 99 = .ok (.return_, 1) := by decide +kernel
theorem dX9_init_0 : decode cX9_init 0 = .ok (.aload_n 0, 1) := by decide +kernel
theorem dX9_init_1 : decode cX9_init 1 = .ok (.invokespecial 3, 3) := by decide +kernel
theorem dX9_init_4 : decode cX9_init 4 = .ok (.return_, 1) := by decide +kernel
theorem dX9_forget_0 : decode cX9_forget 0 = .ok (.aload_n 0, 1) := by decide +kernel
theorem dX9_forget_1 : decode cX9_forget 1 = .ok (.iconst 0, 1) := by decide +kernel
theorem dX9_forget_2 : decode cX9_forget 2 = .ok (.putfield 9, 3) := by decide +kernel
theorem dX9_forget_5 : decode cX9_forget 5 = .ok (.aload_n 0, 1) := by decide +kernel
theorem dX9_forget_6 : decode cX9_forget 6 = .ok (.iconst 0, 1) := by decide +kernel
theorem dX9_forget_7 : decode cX9_forget 7 = .ok (.putfield 15, 3) := by decide +kernel
theorem dX9_forget_10 : decode cX9_forget 10 = .ok (.return_, 1) := by decide +kernel
theorem dX9_keepWays_0 : decode cX9_keepWays 0 = .ok (.aload_n 0, 1) := by decide +kernel
theorem dX9_keepWays_1 : decode cX9_keepWays 1 = .ok (.getfield 18, 3) := by decide +kernel
theorem dX9_keepWays_4 : decode cX9_keepWays 4 = .ok (.ifnonnull 12, 3) := by decide +kernel
theorem dX9_keepWays_7 : decode cX9_keepWays 7 = .ok (.aload_n 0, 1) := by decide +kernel
theorem dX9_keepWays_8 : decode cX9_keepWays 8 = .ok (.sipush 6001, 3) := by decide +kernel
theorem dX9_keepWays_11 : decode cX9_keepWays 11 = .ok (.newarray .long, 2) := by decide +kernel
theorem dX9_keepWays_13 : decode cX9_keepWays 13 = .ok (.putfield 18, 3) := by decide +kernel
theorem dX9_keepWays_16 : decode cX9_keepWays 16 = .ok (.aload_n 1, 1) := by decide +kernel
theorem dX9_keepWays_17 : decode cX9_keepWays 17 = .ok (.aload_n 0, 1) := by decide +kernel
theorem dX9_keepWays_18 : decode cX9_keepWays 18 = .ok (.getfield 18, 3) := by decide +kernel
theorem dX9_keepWays_21 : decode cX9_keepWays 21 = .ok (.invokevirtual 22, 3) := by decide +kernel
theorem dX9_keepWays_24 : decode cX9_keepWays 24 = .ok (.aload_n 0, 1) := by decide +kernel
theorem dX9_keepWays_25 : decode cX9_keepWays 25 = .ok (.iconst 1, 1) := by decide +kernel
theorem dX9_keepWays_26 : decode cX9_keepWays 26 = .ok (.putfield 9, 3) := by decide +kernel
theorem dX9_keepWays_29 : decode cX9_keepWays 29 = .ok (.aload_n 0, 1) := by decide +kernel
theorem dX9_keepWays_30 : decode cX9_keepWays 30 = .ok (.getfield 18, 3) := by decide +kernel
theorem dX9_keepWays_33 : decode cX9_keepWays 33 = .ok (.areturn, 1) := by decide +kernel
theorem dX9_keepUnlike_0 : decode cX9_keepUnlike 0 = .ok (.aload_n 0, 1) := by decide +kernel
theorem dX9_keepUnlike_1 : decode cX9_keepUnlike 1 = .ok (.getfield 28, 3) := by decide +kernel
theorem dX9_keepUnlike_4 : decode cX9_keepUnlike 4 = .ok (.ifnonnull 12, 3) := by decide +kernel
theorem dX9_keepUnlike_7 : decode cX9_keepUnlike 7 = .ok (.aload_n 0, 1) := by decide +kernel
theorem dX9_keepUnlike_8 : decode cX9_keepUnlike 8 = .ok (.sipush 6001, 3) := by decide +kernel
theorem dX9_keepUnlike_11 : decode cX9_keepUnlike 11 = .ok (.newarray .long, 2) := by decide +kernel
theorem dX9_keepUnlike_13 : decode cX9_keepUnlike 13 = .ok (.putfield 28, 3) := by decide +kernel
theorem dX9_keepUnlike_16 : decode cX9_keepUnlike 16 = .ok (.aload_n 1, 1) := by decide +kernel
theorem dX9_keepUnlike_17 : decode cX9_keepUnlike 17 = .ok (.aload_n 0, 1) := by decide +kernel
theorem dX9_keepUnlike_18 : decode cX9_keepUnlike 18 = .ok (.getfield 28, 3) := by decide +kernel
theorem dX9_keepUnlike_21 : decode cX9_keepUnlike 21 = .ok (.invokevirtual 22, 3) := by decide +kernel
theorem dX9_keepUnlike_24 : decode cX9_keepUnlike 24 = .ok (.aload_n 0, 1) := by decide +kernel
theorem dX9_keepUnlike_25 : decode cX9_keepUnlike 25 = .ok (.iconst 1, 1) := by decide +kernel
theorem dX9_keepUnlike_26 : decode cX9_keepUnlike 26 = .ok (.putfield 15, 3) := by decide +kernel
theorem dX9_keepUnlike_29 : decode cX9_keepUnlike 29 = .ok (.aload_n 0, 1) := by decide +kernel
theorem dX9_keepUnlike_30 : decode cX9_keepUnlike 30 = .ok (.getfield 28, 3) := by decide +kernel
theorem dX9_keepUnlike_33 : decode cX9_keepUnlike 33 = .ok (.areturn, 1) := by decide +kernel
theorem dX10_init_0 : decode cX10_init 0 = .ok (.aload_n 0, 1) := by decide +kernel
theorem dX10_init_1 : decode cX10_init 1 = .ok (.invokespecial 3, 3) := by decide +kernel
theorem dX10_init_4 : decode cX10_init 4 = .ok (.aload_n 0, 1) := by decide +kernel
theorem dX10_init_5 : decode cX10_init 5 = .ok (.sipush 800, 3) := by decide +kernel
theorem dX10_init_8 : decode cX10_init 8 = .ok (.newarray .byte, 2) := by decide +kernel
theorem dX10_init_10 : decode cX10_init 10 = .ok (.putfield 9, 3) := by decide +kernel
theorem dX10_init_13 : decode cX10_init 13 = .ok (.aload_n 0, 1) := by decide +kernel
theorem dX10_init_14 : decode cX10_init 14 = .ok (.sipush 801, 3) := by decide +kernel
theorem dX10_init_17 : decode cX10_init 17 = .ok (.newarray .int, 2) := by decide +kernel
theorem dX10_init_19 : decode cX10_init 19 = .ok (.putfield 15, 3) := by decide +kernel
theorem dX10_init_22 : decode cX10_init 22 = .ok (.aload_n 0, 1) := by decide +kernel
theorem dX10_init_23 : decode cX10_init 23 = .ok (.sipush 801, 3) := by decide +kernel
theorem dX10_init_26 : decode cX10_init 26 = .ok (.newarray .int, 2) := by decide +kernel
theorem dX10_init_28 : decode cX10_init 28 = .ok (.putfield 19, 3) := by decide +kernel
theorem dX10_init_31 : decode cX10_init 31 = .ok (.aload_n 0, 1) := by decide +kernel
theorem dX10_init_32 : decode cX10_init 32 = .ok (.sipush 801, 3) := by decide +kernel
theorem dX10_init_35 : decode cX10_init 35 = .ok (.newarray .int, 2) := by decide +kernel
theorem dX10_init_37 : decode cX10_init 37 = .ok (.putfield 22, 3) := by decide +kernel
theorem dX10_init_40 : decode cX10_init 40 = .ok (.aload_n 0, 1) := by decide +kernel
theorem dX10_init_41 : decode cX10_init 41 = .ok (.sipush 801, 3) := by decide +kernel
theorem dX10_init_44 : decode cX10_init 44 = .ok (.newarray .int, 2) := by decide +kernel
theorem dX10_init_46 : decode cX10_init 46 = .ok (.putfield 25, 3) := by decide +kernel
theorem dX10_init_49 : decode cX10_init 49 = .ok (.aload_n 0, 1) := by decide +kernel
theorem dX10_init_50 : decode cX10_init 50 = .ok (.iconst (-1), 1) := by decide +kernel
theorem dX10_init_51 : decode cX10_init 51 = .ok (.putfield 28, 3) := by decide +kernel
theorem dX10_init_54 : decode cX10_init 54 = .ok (.aload_n 0, 1) := by decide +kernel
theorem dX10_init_55 : decode cX10_init 55 = .ok (.iconst (-1), 1) := by decide +kernel
theorem dX10_init_56 : decode cX10_init 56 = .ok (.putfield 32, 3) := by decide +kernel
theorem dX10_init_59 : decode cX10_init 59 = .ok (.aload_n 0, 1) := by decide +kernel
theorem dX10_init_60 : decode cX10_init 60 = .ok (.iconst (-1), 1) := by decide +kernel
theorem dX10_init_61 : decode cX10_init 61 = .ok (.putfield 35, 3) := by decide +kernel
theorem dX10_init_64 : decode cX10_init 64 = .ok (.return_, 1) := by decide +kernel
theorem dX10_append_0 : decode cX10_append 0 = .ok (.bipush 24, 2) := by decide +kernel
theorem dX10_append_2 : decode cX10_append 2 = .ok (.istore_n 2, 1) := by decide +kernel
theorem dX10_append_3 : decode cX10_append 3 = .ok (.iload_n 2, 1) := by decide +kernel
theorem dX10_append_4 : decode cX10_append 4 = .ok (.ifCond .lt 42, 3) := by decide +kernel
theorem dX10_append_7 : decode cX10_append 7 = .ok (.aload_n 0, 1) := by decide +kernel
theorem dX10_append_8 : decode cX10_append 8 = .ok (.getfield 38, 3) := by decide +kernel
theorem dX10_append_11 : decode cX10_append 11 = .ok (.sipush 800, 3) := by decide +kernel
theorem dX10_append_14 : decode cX10_append 14 = .ok (.if_icmp .ge 32, 3) := by decide +kernel
theorem dX10_append_17 : decode cX10_append 17 = .ok (.aload_n 0, 1) := by decide +kernel
theorem dX10_append_18 : decode cX10_append 18 = .ok (.getfield 9, 3) := by decide +kernel
theorem dX10_append_21 : decode cX10_append 21 = .ok (.aload_n 0, 1) := by decide +kernel
theorem dX10_append_22 : decode cX10_append 22 = .ok (.getfield 38, 3) := by decide +kernel
theorem dX10_append_25 : decode cX10_append 25 = .ok (.iload_n 1, 1) := by decide +kernel
theorem dX10_append_26 : decode cX10_append 26 = .ok (.iload_n 2, 1) := by decide +kernel
theorem dX10_append_27 : decode cX10_append 27 = .ok (.iushr, 1) := by decide +kernel
theorem dX10_append_28 : decode cX10_append 28 = .ok (.i2b, 1) := by decide +kernel
theorem dX10_append_29 : decode cX10_append 29 = .ok (.bastore, 1) := by decide +kernel
theorem dX10_append_30 : decode cX10_append 30 = .ok (.aload_n 0, 1) := by decide +kernel
theorem dX10_append_31 : decode cX10_append 31 = .ok (.dup, 1) := by decide +kernel
theorem dX10_append_32 : decode cX10_append 32 = .ok (.getfield 38, 3) := by decide +kernel
theorem dX10_append_35 : decode cX10_append 35 = .ok (.iconst 1, 1) := by decide +kernel
theorem dX10_append_36 : decode cX10_append 36 = .ok (.iadd, 1) := by decide +kernel
theorem dX10_append_37 : decode cX10_append 37 = .ok (.putfield 38, 3) := by decide +kernel
theorem dX10_append_40 : decode cX10_append 40 = .ok (.iinc 2 (-8), 3) := by decide +kernel
theorem dX10_append_43 : decode cX10_append 43 = .ok (.goto (-40), 3) := by decide +kernel
theorem dX10_append_46 : decode cX10_append 46 = .ok (.return_, 1) := by decide +kernel
theorem dX10_forgetFault_0 : decode cX10_forgetFault 0 = .ok (.aload_n 0, 1) := by decide +kernel
theorem dX10_forgetFault_1 : decode cX10_forgetFault 1 = .ok (.iconst 0, 1) := by decide +kernel
theorem dX10_forgetFault_2 : decode cX10_forgetFault 2 = .ok (.putfield 41, 3) := by decide +kernel
theorem dX10_forgetFault_5 : decode cX10_forgetFault 5 = .ok (.aload_n 0, 1) := by decide +kernel
theorem dX10_forgetFault_6 : decode cX10_forgetFault 6 = .ok (.iconst (-1), 1) := by decide +kernel
theorem dX10_forgetFault_7 : decode cX10_forgetFault 7 = .ok (.putfield 28, 3) := by decide +kernel
theorem dX10_forgetFault_10 : decode cX10_forgetFault 10 = .ok (.aload_n 0, 1) := by decide +kernel
theorem dX10_forgetFault_11 : decode cX10_forgetFault 11 = .ok (.iconst (-1), 1) := by decide +kernel
theorem dX10_forgetFault_12 : decode cX10_forgetFault 12 = .ok (.putfield 32, 3) := by decide +kernel
theorem dX10_forgetFault_15 : decode cX10_forgetFault 15 = .ok (.aload_n 0, 1) := by decide +kernel
theorem dX10_forgetFault_16 : decode cX10_forgetFault 16 = .ok (.iconst (-1), 1) := by decide +kernel
theorem dX10_forgetFault_17 : decode cX10_forgetFault 17 = .ok (.putfield 35, 3) := by decide +kernel
theorem dX10_forgetFault_20 : decode cX10_forgetFault 20 = .ok (.return_, 1) := by decide +kernel
theorem dX10_begin_0 : decode cX10_begin 0 = .ok (.aload_n 0, 1) := by decide +kernel
theorem dX10_begin_1 : decode cX10_begin 1 = .ok (.iload_n 1, 1) := by decide +kernel
theorem dX10_begin_2 : decode cX10_begin 2 = .ok (.putfield 44, 3) := by decide +kernel
theorem dX10_begin_5 : decode cX10_begin 5 = .ok (.aload_n 0, 1) := by decide +kernel
theorem dX10_begin_6 : decode cX10_begin 6 = .ok (.iload_n 2, 1) := by decide +kernel
theorem dX10_begin_7 : decode cX10_begin 7 = .ok (.putfield 47, 3) := by decide +kernel
theorem dX10_begin_10 : decode cX10_begin 10 = .ok (.aload_n 0, 1) := by decide +kernel
theorem dX10_begin_11 : decode cX10_begin 11 = .ok (.iconst 0, 1) := by decide +kernel
theorem dX10_begin_12 : decode cX10_begin 12 = .ok (.putfield 50, 3) := by decide +kernel
theorem dX10_begin_15 : decode cX10_begin 15 = .ok (.aload_n 0, 1) := by decide +kernel
theorem dX10_begin_16 : decode cX10_begin 16 = .ok (.iconst 0, 1) := by decide +kernel
theorem dX10_begin_17 : decode cX10_begin 17 = .ok (.putfield 53, 3) := by decide +kernel
theorem dX10_begin_20 : decode cX10_begin 20 = .ok (.aload_n 0, 1) := by decide +kernel
theorem dX10_begin_21 : decode cX10_begin 21 = .ok (.iconst 0, 1) := by decide +kernel
theorem dX10_begin_22 : decode cX10_begin 22 = .ok (.putfield 56, 3) := by decide +kernel
theorem dX10_begin_25 : decode cX10_begin 25 = .ok (.aload_n 0, 1) := by decide +kernel
theorem dX10_begin_26 : decode cX10_begin 26 = .ok (.invokevirtual 59, 3) := by decide +kernel
theorem dX10_begin_29 : decode cX10_begin 29 = .ok (.iconst 0, 1) := by decide +kernel
theorem dX10_begin_30 : decode cX10_begin 30 = .ok (.istore_n 3, 1) := by decide +kernel
theorem dX10_begin_31 : decode cX10_begin 31 = .ok (.iload_n 3, 1) := by decide +kernel
theorem dX10_begin_32 : decode cX10_begin 32 = .ok (.sipush 800, 3) := by decide +kernel
theorem dX10_begin_35 : decode cX10_begin 35 = .ok (.if_icmp .ge 28, 3) := by decide +kernel
theorem dX10_begin_38 : decode cX10_begin 38 = .ok (.aload_n 0, 1) := by decide +kernel
theorem dX10_begin_39 : decode cX10_begin 39 = .ok (.getfield 53, 3) := by decide +kernel
theorem dX10_begin_42 : decode cX10_begin 42 = .ok (.aload_n 0, 1) := by decide +kernel
theorem dX10_begin_43 : decode cX10_begin 43 = .ok (.getfield 38, 3) := by decide +kernel
theorem dX10_begin_46 : decode cX10_begin 46 = .ok (.if_icmp .ge 17, 3) := by decide +kernel
theorem dX10_begin_49 : decode cX10_begin 49 = .ok (.aload_n 0, 1) := by decide +kernel
theorem dX10_begin_50 : decode cX10_begin 50 = .ok (.invokevirtual 62, 3) := by decide +kernel
theorem dX10_begin_53 : decode cX10_begin 53 = .ok (.aload_n 0, 1) := by decide +kernel
theorem dX10_begin_54 : decode cX10_begin 54 = .ok (.invokevirtual 59, 3) := by decide +kernel
theorem dX10_begin_57 : decode cX10_begin 57 = .ok (.iinc 3 1, 3) := by decide +kernel
theorem dX10_begin_60 : decode cX10_begin 60 = .ok (.goto (-29), 3) := by decide +kernel
theorem dX10_begin_63 : decode cX10_begin 63 = .ok (.aload_n 0, 1) := by decide +kernel
theorem dX10_begin_64 : decode cX10_begin 64 = .ok (.getfield 15, 3) := by decide +kernel
theorem dX10_begin_67 : decode cX10_begin 67 = .ok (.aload_n 0, 1) := by decide +kernel
theorem dX10_begin_68 : decode cX10_begin 68 = .ok (.getfield 56, 3) := by decide +kernel
theorem dX10_begin_71 : decode cX10_begin 71 = .ok (.iconst 0, 1) := by decide +kernel
theorem dX10_begin_72 : decode cX10_begin 72 = .ok (.iastore, 1) := by decide +kernel
theorem dX10_begin_73 : decode cX10_begin 73 = .ok (.aload_n 0, 1) := by decide +kernel
theorem dX10_begin_74 : decode cX10_begin 74 = .ok (.getfield 19, 3) := by decide +kernel
theorem dX10_begin_77 : decode cX10_begin 77 = .ok (.aload_n 0, 1) := by decide +kernel
theorem dX10_begin_78 : decode cX10_begin 78 = .ok (.getfield 56, 3) := by decide +kernel
theorem dX10_begin_81 : decode cX10_begin 81 = .ok (.aload_n 0, 1) := by decide +kernel
theorem dX10_begin_82 : decode cX10_begin 82 = .ok (.getfield 38, 3) := by decide +kernel
theorem dX10_begin_85 : decode cX10_begin 85 = .ok (.iastore, 1) := by decide +kernel
theorem dX10_begin_86 : decode cX10_begin 86 = .ok (.aload_n 0, 1) := by decide +kernel
theorem dX10_begin_87 : decode cX10_begin 87 = .ok (.getfield 22, 3) := by decide +kernel
theorem dX10_begin_90 : decode cX10_begin 90 = .ok (.aload_n 0, 1) := by decide +kernel
theorem dX10_begin_91 : decode cX10_begin 91 = .ok (.getfield 56, 3) := by decide +kernel
theorem dX10_begin_94 : decode cX10_begin 94 = .ok (.iconst 0, 1) := by decide +kernel
theorem dX10_begin_95 : decode cX10_begin 95 = .ok (.iastore, 1) := by decide +kernel
theorem dX10_begin_96 : decode cX10_begin 96 = .ok (.aload_n 0, 1) := by decide +kernel
theorem dX10_begin_97 : decode cX10_begin 97 = .ok (.getfield 25, 3) := by decide +kernel
theorem dX10_begin_100 : decode cX10_begin 100 = .ok (.aload_n 0, 1) := by decide +kernel
theorem dX10_begin_101 : decode cX10_begin 101 = .ok (.getfield 56, 3) := by decide +kernel
theorem dX10_begin_104 : decode cX10_begin 104 = .ok (.iconst 0, 1) := by decide +kernel
theorem dX10_begin_105 : decode cX10_begin 105 = .ok (.iastore, 1) := by decide +kernel
theorem dX10_begin_106 : decode cX10_begin 106 = .ok (.return_, 1) := by decide +kernel
theorem dX10_skipBlanks_0 : decode cX10_skipBlanks 0 = .ok (.aload_n 0, 1) := by decide +kernel
theorem dX10_skipBlanks_1 : decode cX10_skipBlanks 1 = .ok (.getfield 53, 3) := by decide +kernel
theorem dX10_skipBlanks_4 : decode cX10_skipBlanks 4 = .ok (.aload_n 0, 1) := by decide +kernel
theorem dX10_skipBlanks_5 : decode cX10_skipBlanks 5 = .ok (.getfield 38, 3) := by decide +kernel
theorem dX10_skipBlanks_8 : decode cX10_skipBlanks 8 = .ok (.if_icmp .ge 31, 3) := by decide +kernel
theorem dX10_skipBlanks_11 : decode cX10_skipBlanks 11 = .ok (.aload_n 0, 1) := by decide +kernel
theorem dX10_skipBlanks_12 : decode cX10_skipBlanks 12 = .ok (.getfield 9, 3) := by decide +kernel
theorem dX10_skipBlanks_15 : decode cX10_skipBlanks 15 = .ok (.aload_n 0, 1) := by decide +kernel
theorem dX10_skipBlanks_16 : decode cX10_skipBlanks 16 = .ok (.getfield 53, 3) := by decide +kernel
theorem dX10_skipBlanks_19 : decode cX10_skipBlanks 19 = .ok (.baload, 1) := by decide +kernel
theorem dX10_skipBlanks_20 : decode cX10_skipBlanks 20 = .ok (.invokestatic 65, 3) := by decide +kernel
theorem dX10_skipBlanks_23 : decode cX10_skipBlanks 23 = .ok (.ifCond .eq 16, 3) := by decide +kernel
theorem dX10_skipBlanks_26 : decode cX10_skipBlanks 26 = .ok (.aload_n 0, 1) := by decide +kernel
theorem dX10_skipBlanks_27 : decode cX10_skipBlanks 27 = .ok (.dup, 1) := by decide +kernel
theorem dX10_skipBlanks_28 : decode cX10_skipBlanks 28 = .ok (.getfield 53, 3) := by decide +kernel
theorem dX10_skipBlanks_31 : decode cX10_skipBlanks 31 = .ok (.iconst 1, 1) := by decide +kernel
theorem dX10_skipBlanks_32 : decode cX10_skipBlanks 32 = .ok (.iadd, 1) := by decide +kernel
theorem dX10_skipBlanks_33 : decode cX10_skipBlanks 33 = .ok (.putfield 53, 3) := by decide +kernel
theorem dX10_skipBlanks_36 : decode cX10_skipBlanks 36 = .ok (.goto (-36), 3) := by decide +kernel
theorem dX10_skipBlanks_39 : decode cX10_skipBlanks 39 = .ok (.return_, 1) := by decide +kernel
theorem dX10_cutToken_0 : decode cX10_cutToken 0 = .ok (.aload_n 0, 1) := by decide +kernel
theorem dX10_cutToken_1 : decode cX10_cutToken 1 = .ok (.getfield 53, 3) := by decide +kernel
theorem dX10_cutToken_4 : decode cX10_cutToken 4 = .ok (.istore_n 1, 1) := by decide +kernel
theorem dX10_cutToken_5 : decode cX10_cutToken 5 = .ok (.aload_n 0, 1) := by decide +kernel
theorem dX10_cutToken_6 : decode cX10_cutToken 6 = .ok (.getfield 9, 3) := by decide +kernel
theorem dX10_cutToken_9 : decode cX10_cutToken 9 = .ok (.iload_n 1, 1) := by decide +kernel
theorem dX10_cutToken_10 : decode cX10_cutToken 10 = .ok (.baload, 1) := by decide +kernel
theorem dX10_cutToken_11 : decode cX10_cutToken 11 = .ok (.invokestatic 69, 3) := by decide +kernel
theorem dX10_cutToken_14 : decode cX10_cutToken 14 = .ok (.istore_n 2, 1) := by decide +kernel
theorem dX10_cutToken_15 : decode cX10_cutToken 15 = .ok (.aload_n 0, 1) := by decide +kernel
theorem dX10_cutToken_16 : decode cX10_cutToken 16 = .ok (.dup, 1) := by decide +kernel
theorem dX10_cutToken_17 : decode cX10_cutToken 17 = .ok (.getfield 53, 3) := by decide +kernel
theorem dX10_cutToken_20 : decode cX10_cutToken 20 = .ok (.iconst 1, 1) := by decide +kernel
theorem dX10_cutToken_21 : decode cX10_cutToken 21 = .ok (.iadd, 1) := by decide +kernel
theorem dX10_cutToken_22 : decode cX10_cutToken 22 = .ok (.putfield 53, 3) := by decide +kernel
theorem dX10_cutToken_25 : decode cX10_cutToken 25 = .ok (.iload_n 2, 1) := by decide +kernel
theorem dX10_cutToken_26 : decode cX10_cutToken 26 = .ok (.iconst 3, 1) := by decide +kernel
theorem dX10_cutToken_27 : decode cX10_cutToken 27 = .ok (.if_icmp .eq 43, 3) := by decide +kernel
theorem dX10_cutToken_30 : decode cX10_cutToken 30 = .ok (.aload_n 0, 1) := by decide +kernel
theorem dX10_cutToken_31 : decode cX10_cutToken 31 = .ok (.getfield 53, 3) := by decide +kernel
theorem dX10_cutToken_34 : decode cX10_cutToken 34 = .ok (.aload_n 0, 1) := by decide +kernel
theorem dX10_cutToken_35 : decode cX10_cutToken 35 = .ok (.getfield 38, 3) := by decide +kernel
theorem dX10_cutToken_38 : decode cX10_cutToken 38 = .ok (.if_icmp .ge 32, 3) := by decide +kernel
theorem dX10_cutToken_41 : decode cX10_cutToken 41 = .ok (.aload_n 0, 1) := by decide +kernel
theorem dX10_cutToken_42 : decode cX10_cutToken 42 = .ok (.getfield 9, 3) := by decide +kernel
theorem dX10_cutToken_45 : decode cX10_cutToken 45 = .ok (.aload_n 0, 1) := by decide +kernel
theorem dX10_cutToken_46 : decode cX10_cutToken 46 = .ok (.getfield 53, 3) := by decide +kernel
theorem dX10_cutToken_49 : decode cX10_cutToken 49 = .ok (.baload, 1) := by decide +kernel
theorem dX10_cutToken_50 : decode cX10_cutToken 50 = .ok (.invokestatic 69, 3) := by decide +kernel
theorem dX10_cutToken_53 : decode cX10_cutToken 53 = .ok (.iload_n 2, 1) := by decide +kernel
theorem dX10_cutToken_54 : decode cX10_cutToken 54 = .ok (.if_icmp .ne 16, 3) := by decide +kernel
theorem dX10_cutToken_57 : decode cX10_cutToken 57 = .ok (.aload_n 0, 1) := by decide +kernel
theorem dX10_cutToken_58 : decode cX10_cutToken 58 = .ok (.dup, 1) := by decide +kernel
theorem dX10_cutToken_59 : decode cX10_cutToken 59 = .ok (.getfield 53, 3) := by decide +kernel
theorem dX10_cutToken_62 : decode cX10_cutToken 62 = .ok (.iconst 1, 1) := by decide +kernel
theorem dX10_cutToken_63 : decode cX10_cutToken 63 = .ok (.iadd, 1) := by decide +kernel
theorem dX10_cutToken_64 : decode cX10_cutToken 64 = .ok (.putfield 53, 3) := by decide +kernel
theorem dX10_cutToken_67 : decode cX10_cutToken 67 = .ok (.goto (-42), 3) := by decide +kernel
theorem dX10_cutToken_70 : decode cX10_cutToken 70 = .ok (.aload_n 0, 1) := by decide +kernel
theorem dX10_cutToken_71 : decode cX10_cutToken 71 = .ok (.getfield 15, 3) := by decide +kernel
theorem dX10_cutToken_74 : decode cX10_cutToken 74 = .ok (.aload_n 0, 1) := by decide +kernel
theorem dX10_cutToken_75 : decode cX10_cutToken 75 = .ok (.getfield 56, 3) := by decide +kernel
theorem dX10_cutToken_78 : decode cX10_cutToken 78 = .ok (.iload_n 2, 1) := by decide +kernel
theorem dX10_cutToken_79 : decode cX10_cutToken 79 = .ok (.iastore, 1) := by decide +kernel
theorem dX10_cutToken_80 : decode cX10_cutToken 80 = .ok (.aload_n 0, 1) := by decide +kernel
theorem dX10_cutToken_81 : decode cX10_cutToken 81 = .ok (.getfield 19, 3) := by decide +kernel
theorem dX10_cutToken_84 : decode cX10_cutToken 84 = .ok (.aload_n 0, 1) := by decide +kernel
theorem dX10_cutToken_85 : decode cX10_cutToken 85 = .ok (.getfield 56, 3) := by decide +kernel
theorem dX10_cutToken_88 : decode cX10_cutToken 88 = .ok (.iload_n 1, 1) := by decide +kernel
theorem dX10_cutToken_89 : decode cX10_cutToken 89 = .ok (.iastore, 1) := by decide +kernel
theorem dX10_cutToken_90 : decode cX10_cutToken 90 = .ok (.aload_n 0, 1) := by decide +kernel
theorem dX10_cutToken_91 : decode cX10_cutToken 91 = .ok (.getfield 22, 3) := by decide +kernel
theorem dX10_cutToken_94 : decode cX10_cutToken 94 = .ok (.aload_n 0, 1) := by decide +kernel
theorem dX10_cutToken_95 : decode cX10_cutToken 95 = .ok (.getfield 56, 3) := by decide +kernel
theorem dX10_cutToken_98 : decode cX10_cutToken 98 = .ok (.aload_n 0, 1) := by decide +kernel
theorem dX10_cutToken_99 : decode cX10_cutToken 99 = .ok (.getfield 53, 3) := by decide +kernel
theorem dX10_cutToken_102 : decode cX10_cutToken 102 = .ok (.iload_n 1, 1) := by decide +kernel
theorem dX10_cutToken_103 : decode cX10_cutToken 103 = .ok (.isub, 1) := by decide +kernel
theorem dX10_cutToken_104 : decode cX10_cutToken 104 = .ok (.iastore, 1) := by decide +kernel
theorem dX10_cutToken_105 : decode cX10_cutToken 105 = .ok (.aload_n 0, 1) := by decide +kernel
theorem dX10_cutToken_106 : decode cX10_cutToken 106 = .ok (.getfield 25, 3) := by decide +kernel
theorem dX10_cutToken_109 : decode cX10_cutToken 109 = .ok (.aload_n 0, 1) := by decide +kernel
theorem dX10_cutToken_110 : decode cX10_cutToken 110 = .ok (.getfield 56, 3) := by decide +kernel
theorem dX10_cutToken_113 : decode cX10_cutToken 113 = .ok (.aload_n 0, 1) := by decide +kernel
theorem dX10_cutToken_114 : decode cX10_cutToken 114 = .ok (.getfield 9, 3) := by decide +kernel
theorem dX10_cutToken_117 : decode cX10_cutToken 117 = .ok (.iload_n 1, 1) := by decide +kernel
theorem dX10_cutToken_118 : decode cX10_cutToken 118 = .ok (.baload, 1) := by decide +kernel
theorem dX10_cutToken_119 : decode cX10_cutToken 119 = .ok (.sipush 255, 3) := by decide +kernel
theorem dX10_cutToken_122 : decode cX10_cutToken 122 = .ok (.iand, 1) := by decide +kernel
theorem dX10_cutToken_123 : decode cX10_cutToken 123 = .ok (.iastore, 1) := by decide +kernel
theorem dX10_cutToken_124 : decode cX10_cutToken 124 = .ok (.iload_n 2, 1) := by decide +kernel
theorem dX10_cutToken_125 : decode cX10_cutToken 125 = .ok (.iconst 1, 1) := by decide +kernel
theorem dX10_cutToken_126 : decode cX10_cutToken 126 = .ok (.if_icmp .ne 8, 3) := by decide +kernel
theorem dX10_cutToken_129 : decode cX10_cutToken 129 = .ok (.aload_n 0, 1) := by decide +kernel
theorem dX10_cutToken_130 : decode cX10_cutToken 130 = .ok (.iload_n 1, 1) := by decide +kernel
theorem dX10_cutToken_131 : decode cX10_cutToken 131 = .ok (.invokevirtual 73, 3) := by decide +kernel
theorem dX10_cutToken_134 : decode cX10_cutToken 134 = .ok (.aload_n 0, 1) := by decide +kernel
theorem dX10_cutToken_135 : decode cX10_cutToken 135 = .ok (.dup, 1) := by decide +kernel
theorem dX10_cutToken_136 : decode cX10_cutToken 136 = .ok (.getfield 56, 3) := by decide +kernel
theorem dX10_cutToken_139 : decode cX10_cutToken 139 = .ok (.iconst 1, 1) := by decide +kernel
theorem dX10_cutToken_140 : decode cX10_cutToken 140 = .ok (.iadd, 1) := by decide +kernel
theorem dX10_cutToken_141 : decode cX10_cutToken 141 = .ok (.putfield 56, 3) := by decide +kernel
theorem dX10_cutToken_144 : decode cX10_cutToken 144 = .ok (.return_, 1) := by decide +kernel
theorem dX10_takeAmount_0 : decode cX10_takeAmount 0 = .ok (.iconst 0, 1) := by decide +kernel
theorem dX10_takeAmount_1 : decode cX10_takeAmount 1 = .ok (.istore_n 2, 1) := by decide +kernel
theorem dX10_takeAmount_2 : decode cX10_takeAmount 2 = .ok (.iload_n 1, 1) := by decide +kernel
theorem dX10_takeAmount_3 : decode cX10_takeAmount 3 = .ok (.istore_n 3, 1) := by decide +kernel
theorem dX10_takeAmount_4 : decode cX10_takeAmount 4 = .ok (.iload_n 3, 1) := by decide +kernel
theorem dX10_takeAmount_5 : decode cX10_takeAmount 5 = .ok (.aload_n 0, 1) := by decide +kernel
theorem dX10_takeAmount_6 : decode cX10_takeAmount 6 = .ok (.getfield 53, 3) := by decide +kernel
theorem dX10_takeAmount_9 : decode cX10_takeAmount 9 = .ok (.if_icmp .ge 31, 3) := by decide +kernel
theorem dX10_takeAmount_12 : decode cX10_takeAmount 12 = .ok (.iload_n 3, 1) := by decide +kernel
theorem dX10_takeAmount_13 : decode cX10_takeAmount 13 = .ok (.iload_n 1, 1) := by decide +kernel
theorem dX10_takeAmount_14 : decode cX10_takeAmount 14 = .ok (.iconst 4, 1) := by decide +kernel
theorem dX10_takeAmount_15 : decode cX10_takeAmount 15 = .ok (.iadd, 1) := by decide +kernel
theorem dX10_takeAmount_16 : decode cX10_takeAmount 16 = .ok (.if_icmp .ge 24, 3) := by decide +kernel
theorem dX10_takeAmount_19 : decode cX10_takeAmount 19 = .ok (.bipush 10, 2) := by decide +kernel
theorem dX10_takeAmount_21 : decode cX10_takeAmount 21 = .ok (.iload_n 2, 1) := by decide +kernel
theorem dX10_takeAmount_22 : decode cX10_takeAmount 22 = .ok (.imul, 1) := by decide +kernel
theorem dX10_takeAmount_23 : decode cX10_takeAmount 23 = .ok (.aload_n 0, 1) := by decide +kernel
theorem dX10_takeAmount_24 : decode cX10_takeAmount 24 = .ok (.getfield 9, 3) := by decide +kernel
theorem dX10_takeAmount_27 : decode cX10_takeAmount 27 = .ok (.iload_n 3, 1) := by decide +kernel
theorem dX10_takeAmount_28 : decode cX10_takeAmount 28 = .ok (.baload, 1) := by decide +kernel
theorem dX10_takeAmount_29 : decode cX10_takeAmount 29 = .ok (.iadd, 1) := by decide +kernel
theorem dX10_takeAmount_30 : decode cX10_takeAmount 30 = .ok (.bipush 48, 2) := by decide +kernel
theorem dX10_takeAmount_32 : decode cX10_takeAmount 32 = .ok (.isub, 1) := by decide +kernel
theorem dX10_takeAmount_33 : decode cX10_takeAmount 33 = .ok (.istore_n 2, 1) := by decide +kernel
theorem dX10_takeAmount_34 : decode cX10_takeAmount 34 = .ok (.iinc 3 1, 3) := by decide +kernel
theorem dX10_takeAmount_37 : decode cX10_takeAmount 37 = .ok (.goto (-33), 3) := by decide +kernel
theorem dX10_takeAmount_40 : decode cX10_takeAmount 40 = .ok (.aload_n 0, 1) := by decide +kernel
theorem dX10_takeAmount_41 : decode cX10_takeAmount 41 = .ok (.getfield 25, 3) := by decide +kernel
theorem dX10_takeAmount_44 : decode cX10_takeAmount 44 = .ok (.aload_n 0, 1) := by decide +kernel
theorem dX10_takeAmount_45 : decode cX10_takeAmount 45 = .ok (.getfield 56, 3) := by decide +kernel
theorem dX10_takeAmount_48 : decode cX10_takeAmount 48 = .ok (.iload_n 2, 1) := by decide +kernel
theorem dX10_takeAmount_49 : decode cX10_takeAmount 49 = .ok (.iastore, 1) := by decide +kernel
theorem dX10_takeAmount_50 : decode cX10_takeAmount 50 = .ok (.aload_n 0, 1) := by decide +kernel
theorem dX10_takeAmount_51 : decode cX10_takeAmount 51 = .ok (.getfield 53, 3) := by decide +kernel
theorem dX10_takeAmount_54 : decode cX10_takeAmount 54 = .ok (.iload_n 1, 1) := by decide +kernel
theorem dX10_takeAmount_55 : decode cX10_takeAmount 55 = .ok (.isub, 1) := by decide +kernel
theorem dX10_takeAmount_56 : decode cX10_takeAmount 56 = .ok (.iconst 4, 1) := by decide +kernel
theorem dX10_takeAmount_57 : decode cX10_takeAmount 57 = .ok (.if_icmp .le 13, 3) := by decide +kernel
theorem dX10_takeAmount_60 : decode cX10_takeAmount 60 = .ok (.aload_n 0, 1) := by decide +kernel
theorem dX10_takeAmount_61 : decode cX10_takeAmount 61 = .ok (.getfield 15, 3) := by decide +kernel
theorem dX10_takeAmount_64 : decode cX10_takeAmount 64 = .ok (.aload_n 0, 1) := by decide +kernel
theorem dX10_takeAmount_65 : decode cX10_takeAmount 65 = .ok (.getfield 56, 3) := by decide +kernel
theorem dX10_takeAmount_68 : decode cX10_takeAmount 68 = .ok (.iconst 4, 1) := by decide +kernel
theorem dX10_takeAmount_69 : decode cX10_takeAmount 69 = .ok (.iastore, 1) := by decide +kernel
theorem dX10_takeAmount_70 : decode cX10_takeAmount 70 = .ok (.return_, 1) := by decide +kernel
theorem dX10_isBlank_0 : decode cX10_isBlank 0 = .ok (.iload_n 0, 1) := by decide +kernel
theorem dX10_isBlank_1 : decode cX10_isBlank 1 = .ok (.bipush 32, 2) := by decide +kernel
theorem dX10_isBlank_3 : decode cX10_isBlank 3 = .ok (.if_icmp .eq 9, 3) := by decide +kernel
theorem dX10_isBlank_6 : decode cX10_isBlank 6 = .ok (.iload_n 0, 1) := by decide +kernel
theorem dX10_isBlank_7 : decode cX10_isBlank 7 = .ok (.bipush 10, 2) := by decide +kernel
theorem dX10_isBlank_9 : decode cX10_isBlank 9 = .ok (.if_icmp .ne 7, 3) := by decide +kernel
theorem dX10_isBlank_12 : decode cX10_isBlank 12 = .ok (.iconst 1, 1) := by decide +kernel
theorem dX10_isBlank_13 : decode cX10_isBlank 13 = .ok (.goto 4, 3) := by decide +kernel
theorem dX10_isBlank_16 : decode cX10_isBlank 16 = .ok (.iconst 0, 1) := by decide +kernel
theorem dX10_isBlank_17 : decode cX10_isBlank 17 = .ok (.ireturn, 1) := by decide +kernel
theorem dX10_sortOf_0 : decode cX10_sortOf 0 = .ok (.iload_n 0, 1) := by decide +kernel
theorem dX10_sortOf_1 : decode cX10_sortOf 1 = .ok (.bipush 48, 2) := by decide +kernel
theorem dX10_sortOf_3 : decode cX10_sortOf 3 = .ok (.if_icmp .lt 11, 3) := by decide +kernel
theorem dX10_sortOf_6 : decode cX10_sortOf 6 = .ok (.iload_n 0, 1) := by decide +kernel
theorem dX10_sortOf_7 : decode cX10_sortOf 7 = .ok (.bipush 57, 2) := by decide +kernel
theorem dX10_sortOf_9 : decode cX10_sortOf 9 = .ok (.if_icmp .gt 5, 3) := by decide +kernel
theorem dX10_sortOf_12 : decode cX10_sortOf 12 = .ok (.iconst 1, 1) := by decide +kernel
theorem dX10_sortOf_13 : decode cX10_sortOf 13 = .ok (.ireturn, 1) := by decide +kernel
theorem dX10_sortOf_14 : decode cX10_sortOf 14 = .ok (.iload_n 0, 1) := by decide +kernel
theorem dX10_sortOf_15 : decode cX10_sortOf 15 = .ok (.bipush 97, 2) := by decide +kernel
theorem dX10_sortOf_17 : decode cX10_sortOf 17 = .ok (.if_icmp .lt 13, 3) := by decide +kernel
theorem dX10_sortOf_20 : decode cX10_sortOf 20 = .ok (.iload_n 0, 1) := by decide +kernel
theorem dX10_sortOf_21 : decode cX10_sortOf 21 = .ok (.bipush 122, 2) := by decide +kernel
theorem dX10_sortOf_23 : decode cX10_sortOf 23 = .ok (.if_icmp .gt 7, 3) := by decide +kernel
theorem dX10_sortOf_26 : decode cX10_sortOf 26 = .ok (.iconst 2, 1) := by decide +kernel
theorem dX10_sortOf_27 : decode cX10_sortOf 27 = .ok (.goto 4, 3) := by decide +kernel
theorem dX10_sortOf_30 : decode cX10_sortOf 30 = .ok (.iconst 3, 1) := by decide +kernel
theorem dX10_sortOf_31 : decode cX10_sortOf 31 = .ok (.ireturn, 1) := by decide +kernel
theorem dX10_advance_0 : decode cX10_advance 0 = .ok (.aload_n 0, 1) := by decide +kernel
theorem dX10_advance_1 : decode cX10_advance 1 = .ok (.getfield 50, 3) := by decide +kernel
theorem dX10_advance_4 : decode cX10_advance 4 = .ok (.aload_n 0, 1) := by decide +kernel
theorem dX10_advance_5 : decode cX10_advance 5 = .ok (.getfield 56, 3) := by decide +kernel
theorem dX10_advance_8 : decode cX10_advance 8 = .ok (.if_icmp .ge 13, 3) := by decide +kernel
theorem dX10_advance_11 : decode cX10_advance 11 = .ok (.aload_n 0, 1) := by decide +kernel
theorem dX10_advance_12 : decode cX10_advance 12 = .ok (.dup, 1) := by decide +kernel
theorem dX10_advance_13 : decode cX10_advance 13 = .ok (.getfield 50, 3) := by decide +kernel
theorem dX10_advance_16 : decode cX10_advance 16 = .ok (.iconst 1, 1) := by decide +kernel
theorem dX10_advance_17 : decode cX10_advance 17 = .ok (.iadd, 1) := by decide +kernel
theorem dX10_advance_18 : decode cX10_advance 18 = .ok (.putfield 50, 3) := by decide +kernel
theorem dX10_advance_21 : decode cX10_advance 21 = .ok (.return_, 1) := by decide +kernel
theorem dX10_fail_0 : decode cX10_fail 0 = .ok (.aload_n 0, 1) := by decide +kernel
theorem dX10_fail_1 : decode cX10_fail 1 = .ok (.iload_n 1, 1) := by decide +kernel
theorem dX10_fail_2 : decode cX10_fail 2 = .ok (.putfield 41, 3) := by decide +kernel
theorem dX10_fail_5 : decode cX10_fail 5 = .ok (.aload_n 0, 1) := by decide +kernel
theorem dX10_fail_6 : decode cX10_fail 6 = .ok (.aload_n 0, 1) := by decide +kernel
theorem dX10_fail_7 : decode cX10_fail 7 = .ok (.getfield 19, 3) := by decide +kernel
theorem dX10_fail_10 : decode cX10_fail 10 = .ok (.aload_n 0, 1) := by decide +kernel
theorem dX10_fail_11 : decode cX10_fail 11 = .ok (.getfield 50, 3) := by decide +kernel
theorem dX10_fail_14 : decode cX10_fail 14 = .ok (.iaload, 1) := by decide +kernel
theorem dX10_fail_15 : decode cX10_fail 15 = .ok (.putfield 28, 3) := by decide +kernel
theorem dX10_fail_18 : decode cX10_fail 18 = .ok (.aload_n 0, 1) := by decide +kernel
theorem dX10_fail_19 : decode cX10_fail 19 = .ok (.aload_n 0, 1) := by decide +kernel
theorem dX10_fail_20 : decode cX10_fail 20 = .ok (.getfield 44, 3) := by decide +kernel
theorem dX10_fail_23 : decode cX10_fail 23 = .ok (.putfield 32, 3) := by decide +kernel
theorem dX10_fail_26 : decode cX10_fail 26 = .ok (.aload_n 0, 1) := by decide +kernel
theorem dX10_fail_27 : decode cX10_fail 27 = .ok (.aload_n 0, 1) := by decide +kernel
theorem dX10_fail_28 : decode cX10_fail 28 = .ok (.getfield 47, 3) := by decide +kernel
theorem dX10_fail_31 : decode cX10_fail 31 = .ok (.putfield 35, 3) := by decide +kernel
theorem dX10_fail_34 : decode cX10_fail 34 = .ok (.iconst 0, 1) := by decide +kernel
theorem dX10_fail_35 : decode cX10_fail 35 = .ok (.ireturn, 1) := by decide +kernel
theorem dX10_isEnd_0 : decode cX10_isEnd 0 = .ok (.aload_n 0, 1) := by decide +kernel
theorem dX10_isEnd_1 : decode cX10_isEnd 1 = .ok (.getfield 15, 3) := by decide +kernel
theorem dX10_isEnd_4 : decode cX10_isEnd 4 = .ok (.aload_n 0, 1) := by decide +kernel
theorem dX10_isEnd_5 : decode cX10_isEnd 5 = .ok (.getfield 50, 3) := by decide +kernel
theorem dX10_isEnd_8 : decode cX10_isEnd 8 = .ok (.iaload, 1) := by decide +kernel
theorem dX10_isEnd_9 : decode cX10_isEnd 9 = .ok (.ifCond .ne 7, 3) := by decide +kernel
theorem dX10_isEnd_12 : decode cX10_isEnd 12 = .ok (.iconst 1, 1) := by decide +kernel
theorem dX10_isEnd_13 : decode cX10_isEnd 13 = .ok (.goto 4, 3) := by decide +kernel
theorem dX10_isEnd_16 : decode cX10_isEnd 16 = .ok (.iconst 0, 1) := by decide +kernel
theorem dX10_isEnd_17 : decode cX10_isEnd 17 = .ok (.ireturn, 1) := by decide +kernel
theorem dX10_isN_0 : decode cX10_isN 0 = .ok (.aload_n 0, 1) := by decide +kernel
theorem dX10_isN_1 : decode cX10_isN 1 = .ok (.getfield 15, 3) := by decide +kernel
theorem dX10_isN_4 : decode cX10_isN 4 = .ok (.aload_n 0, 1) := by decide +kernel
theorem dX10_isN_5 : decode cX10_isN 5 = .ok (.getfield 50, 3) := by decide +kernel
theorem dX10_isN_8 : decode cX10_isN 8 = .ok (.iaload, 1) := by decide +kernel
theorem dX10_isN_9 : decode cX10_isN 9 = .ok (.iconst 1, 1) := by decide +kernel
theorem dX10_isN_10 : decode cX10_isN 10 = .ok (.if_icmp .ne 7, 3) := by decide +kernel
theorem dX10_isN_13 : decode cX10_isN 13 = .ok (.iconst 1, 1) := by decide +kernel
theorem dX10_isN_14 : decode cX10_isN 14 = .ok (.goto 4, 3) := by decide +kernel
theorem dX10_isN_17 : decode cX10_isN 17 = .ok (.iconst 0, 1) := by decide +kernel
theorem dX10_isN_18 : decode cX10_isN 18 = .ok (.ireturn, 1) := by decide +kernel
theorem dX10_amount_0 : decode cX10_amount 0 = .ok (.aload_n 0, 1) := by decide +kernel
theorem dX10_amount_1 : decode cX10_amount 1 = .ok (.getfield 25, 3) := by decide +kernel
theorem dX10_amount_4 : decode cX10_amount 4 = .ok (.aload_n 0, 1) := by decide +kernel
theorem dX10_amount_5 : decode cX10_amount 5 = .ok (.getfield 50, 3) := by decide +kernel
theorem dX10_amount_8 : decode cX10_amount 8 = .ok (.iaload, 1) := by decide +kernel
theorem dX10_amount_9 : decode cX10_amount 9 = .ok (.ireturn, 1) := by decide +kernel
theorem dX10_isSign_0 : decode cX10_isSign 0 = .ok (.aload_n 0, 1) := by decide +kernel
theorem dX10_isSign_1 : decode cX10_isSign 1 = .ok (.getfield 15, 3) := by decide +kernel
theorem dX10_isSign_4 : decode cX10_isSign 4 = .ok (.aload_n 0, 1) := by decide +kernel
theorem dX10_isSign_5 : decode cX10_isSign 5 = .ok (.getfield 50, 3) := by decide +kernel
theorem dX10_isSign_8 : decode cX10_isSign 8 = .ok (.iaload, 1) := by decide +kernel
theorem dX10_isSign_9 : decode cX10_isSign 9 = .ok (.iconst 3, 1) := by decide +kernel
theorem dX10_isSign_10 : decode cX10_isSign 10 = .ok (.if_icmp .ne 20, 3) := by decide +kernel
theorem dX10_isSign_13 : decode cX10_isSign 13 = .ok (.aload_n 0, 1) := by decide +kernel
theorem dX10_isSign_14 : decode cX10_isSign 14 = .ok (.getfield 25, 3) := by decide +kernel
theorem dX10_isSign_17 : decode cX10_isSign 17 = .ok (.aload_n 0, 1) := by decide +kernel
theorem dX10_isSign_18 : decode cX10_isSign 18 = .ok (.getfield 50, 3) := by decide +kernel
theorem dX10_isSign_21 : decode cX10_isSign 21 = .ok (.iaload, 1) := by decide +kernel
theorem dX10_isSign_22 : decode cX10_isSign 22 = .ok (.iload_n 1, 1) := by decide +kernel
theorem dX10_isSign_23 : decode cX10_isSign 23 = .ok (.if_icmp .ne 7, 3) := by decide +kernel
theorem dX10_isSign_26 : decode cX10_isSign 26 = .ok (.iconst 1, 1) := by decide +kernel
theorem dX10_isSign_27 : decode cX10_isSign 27 = .ok (.goto 4, 3) := by decide +kernel
theorem dX10_isSign_30 : decode cX10_isSign 30 = .ok (.iconst 0, 1) := by decide +kernel
theorem dX10_isSign_31 : decode cX10_isSign 31 = .ok (.ireturn, 1) := by decide +kernel
theorem dX10_isWord_0 : decode cX10_isWord 0 = .ok (.aload_n 0, 1) := by decide +kernel
theorem dX10_isWord_1 : decode cX10_isWord 1 = .ok (.getfield 22, 3) := by decide +kernel
theorem dX10_isWord_4 : decode cX10_isWord 4 = .ok (.aload_n 0, 1) := by decide +kernel
theorem dX10_isWord_5 : decode cX10_isWord 5 = .ok (.getfield 50, 3) := by decide +kernel
theorem dX10_isWord_8 : decode cX10_isWord 8 = .ok (.iaload, 1) := by decide +kernel
theorem dX10_isWord_9 : decode cX10_isWord 9 = .ok (.istore_n 2, 1) := by decide +kernel
theorem dX10_isWord_10 : decode cX10_isWord 10 = .ok (.aload_n 0, 1) := by decide +kernel
theorem dX10_isWord_11 : decode cX10_isWord 11 = .ok (.getfield 15, 3) := by decide +kernel
theorem dX10_isWord_14 : decode cX10_isWord 14 = .ok (.aload_n 0, 1) := by decide +kernel
theorem dX10_isWord_15 : decode cX10_isWord 15 = .ok (.getfield 50, 3) := by decide +kernel
theorem dX10_isWord_18 : decode cX10_isWord 18 = .ok (.iaload, 1) := by decide +kernel
theorem dX10_isWord_19 : decode cX10_isWord 19 = .ok (.iconst 2, 1) := by decide +kernel
theorem dX10_isWord_20 : decode cX10_isWord 20 = .ok (.if_icmp .ne 11, 3) := by decide +kernel
theorem dX10_isWord_23 : decode cX10_isWord 23 = .ok (.iload_n 2, 1) := by decide +kernel
theorem dX10_isWord_24 : decode cX10_isWord 24 = .ok (.aload_n 1, 1) := by decide +kernel
theorem dX10_isWord_25 : decode cX10_isWord 25 = .ok (.invokevirtual 77, 3) := by decide +kernel
theorem dX10_isWord_28 : decode cX10_isWord 28 = .ok (.if_icmp .eq 5, 3) := by decide +kernel
theorem dX10_isWord_31 : decode cX10_isWord 31 = .ok (.iconst 0, 1) := by decide +kernel
theorem dX10_isWord_32 : decode cX10_isWord 32 = .ok (.ireturn, 1) := by decide +kernel
theorem dX10_isWord_33 : decode cX10_isWord 33 = .ok (.iconst 0, 1) := by decide +kernel
theorem dX10_isWord_34 : decode cX10_isWord 34 = .ok (.istore_n 3, 1) := by decide +kernel
theorem dX10_isWord_35 : decode cX10_isWord 35 = .ok (.iload_n 3, 1) := by decide +kernel
theorem dX10_isWord_36 : decode cX10_isWord 36 = .ok (.iload_n 2, 1) := by decide +kernel
theorem dX10_isWord_37 : decode cX10_isWord 37 = .ok (.if_icmp .ge 35, 3) := by decide +kernel
theorem dX10_isWord_40 : decode cX10_isWord 40 = .ok (.aload_n 0, 1) := by decide +kernel
theorem dX10_isWord_41 : decode cX10_isWord 41 = .ok (.getfield 9, 3) := by decide +kernel
theorem dX10_isWord_44 : decode cX10_isWord 44 = .ok (.aload_n 0, 1) := by decide +kernel
theorem dX10_isWord_45 : decode cX10_isWord 45 = .ok (.getfield 19, 3) := by decide +kernel
theorem dX10_isWord_48 : decode cX10_isWord 48 = .ok (.aload_n 0, 1) := by decide +kernel
theorem dX10_isWord_49 : decode cX10_isWord 49 = .ok (.getfield 50, 3) := by decide +kernel
theorem dX10_isWord_52 : decode cX10_isWord 52 = .ok (.iaload, 1) := by decide +kernel
theorem dX10_isWord_53 : decode cX10_isWord 53 = .ok (.iload_n 3, 1) := by decide +kernel
theorem dX10_isWord_54 : decode cX10_isWord 54 = .ok (.iadd, 1) := by decide +kernel
theorem dX10_isWord_55 : decode cX10_isWord 55 = .ok (.baload, 1) := by decide +kernel
theorem dX10_isWord_56 : decode cX10_isWord 56 = .ok (.aload_n 1, 1) := by decide +kernel
theorem dX10_isWord_57 : decode cX10_isWord 57 = .ok (.iload_n 3, 1) := by decide +kernel
theorem dX10_isWord_58 : decode cX10_isWord 58 = .ok (.invokevirtual 82, 3) := by decide +kernel
theorem dX10_isWord_61 : decode cX10_isWord 61 = .ok (.if_icmp .eq 5, 3) := by decide +kernel
theorem dX10_isWord_64 : decode cX10_isWord 64 = .ok (.iconst 0, 1) := by decide +kernel
theorem dX10_isWord_65 : decode cX10_isWord 65 = .ok (.ireturn, 1) := by decide +kernel
theorem dX10_isWord_66 : decode cX10_isWord 66 = .ok (.iinc 3 1, 3) := by decide +kernel
theorem dX10_isWord_69 : decode cX10_isWord 69 = .ok (.goto (-34), 3) := by decide +kernel
theorem dX10_isWord_72 : decode cX10_isWord 72 = .ok (.iconst 1, 1) := by decide +kernel
theorem dX10_isWord_73 : decode cX10_isWord 73 = .ok (.ireturn, 1) := by decide +kernel
theorem dX10_kindThere_0 : decode cX10_kindThere 0 = .ok (.iconst 0, 1) := by decide +kernel
theorem dX10_kindThere_1 : decode cX10_kindThere 1 = .ok (.istore_n 1, 1) := by decide +kernel
theorem dX10_kindThere_2 : decode cX10_kindThere 2 = .ok (.iload_n 1, 1) := by decide +kernel
theorem dX10_kindThere_3 : decode cX10_kindThere 3 = .ok (.iconst 5, 1) := by decide +kernel
theorem dX10_kindThere_4 : decode cX10_kindThere 4 = .ok (.if_icmp .ge 22, 3) := by decide +kernel
theorem dX10_kindThere_7 : decode cX10_kindThere 7 = .ok (.aload_n 0, 1) := by decide +kernel
theorem dX10_kindThere_8 : decode cX10_kindThere 8 = .ok (.iload_n 1, 1) := by decide +kernel
theorem dX10_kindThere_9 : decode cX10_kindThere 9 = .ok (.invokestatic 86, 3) := by decide +kernel
theorem dX10_kindThere_12 : decode cX10_kindThere 12 = .ok (.invokevirtual 90, 3) := by decide +kernel
theorem dX10_kindThere_15 : decode cX10_kindThere 15 = .ok (.ifCond .eq 5, 3) := by decide +kernel
theorem dX10_kindThere_18 : decode cX10_kindThere 18 = .ok (.iload_n 1, 1) := by decide +kernel
theorem dX10_kindThere_19 : decode cX10_kindThere 19 = .ok (.ireturn, 1) := by decide +kernel
theorem dX10_kindThere_20 : decode cX10_kindThere 20 = .ok (.iinc 1 1, 3) := by decide +kernel
theorem dX10_kindThere_23 : decode cX10_kindThere 23 = .ok (.goto (-21), 3) := by decide +kernel
theorem dX10_kindThere_26 : decode cX10_kindThere 26 = .ok (.iconst (-1), 1) := by decide +kernel
theorem dX10_kindThere_27 : decode cX10_kindThere 27 = .ok (.ireturn, 1) := by decide +kernel
theorem dX10_letterThere_0 : decode cX10_letterThere 0 = .ok (.aload_n 0, 1) := by decide +kernel
theorem dX10_letterThere_1 : decode cX10_letterThere 1 = .ok (.getfield 25, 3) := by decide +kernel
theorem dX10_letterThere_4 : decode cX10_letterThere 4 = .ok (.aload_n 0, 1) := by decide +kernel
theorem dX10_letterThere_5 : decode cX10_letterThere 5 = .ok (.getfield 50, 3) := by decide +kernel
theorem dX10_letterThere_8 : decode cX10_letterThere 8 = .ok (.iaload, 1) := by decide +kernel
theorem dX10_letterThere_9 : decode cX10_letterThere 9 = .ok (.bipush 97, 2) := by decide +kernel
theorem dX10_letterThere_11 : decode cX10_letterThere 11 = .ok (.isub, 1) := by decide +kernel
theorem dX10_letterThere_12 : decode cX10_letterThere 12 = .ok (.istore_n 1, 1) := by decide +kernel
theorem dX10_letterThere_13 : decode cX10_letterThere 13 = .ok (.aload_n 0, 1) := by decide +kernel
theorem dX10_letterThere_14 : decode cX10_letterThere 14 = .ok (.getfield 15, 3) := by decide +kernel
theorem dX10_letterThere_17 : decode cX10_letterThere 17 = .ok (.aload_n 0, 1) := by decide +kernel
theorem dX10_letterThere_18 : decode cX10_letterThere 18 = .ok (.getfield 50, 3) := by decide +kernel
theorem dX10_letterThere_21 : decode cX10_letterThere 21 = .ok (.iaload, 1) := by decide +kernel
theorem dX10_letterThere_22 : decode cX10_letterThere 22 = .ok (.iconst 2, 1) := by decide +kernel
theorem dX10_letterThere_23 : decode cX10_letterThere 23 = .ok (.if_icmp .ne 20, 3) := by decide +kernel
theorem dX10_letterThere_26 : decode cX10_letterThere 26 = .ok (.aload_n 0, 1) := by decide +kernel
theorem dX10_letterThere_27 : decode cX10_letterThere 27 = .ok (.getfield 22, 3) := by decide +kernel
theorem dX10_letterThere_30 : decode cX10_letterThere 30 = .ok (.aload_n 0, 1) := by decide +kernel
theorem dX10_letterThere_31 : decode cX10_letterThere 31 = .ok (.getfield 50, 3) := by decide +kernel
theorem dX10_letterThere_34 : decode cX10_letterThere 34 = .ok (.iaload, 1) := by decide +kernel
theorem dX10_letterThere_35 : decode cX10_letterThere 35 = .ok (.iconst 1, 1) := by decide +kernel
theorem dX10_letterThere_36 : decode cX10_letterThere 36 = .ok (.if_icmp .ne 7, 3) := by decide +kernel
theorem dX10_letterThere_39 : decode cX10_letterThere 39 = .ok (.iconst 1, 1) := by decide +kernel
theorem dX10_letterThere_40 : decode cX10_letterThere 40 = .ok (.goto 4, 3) := by decide +kernel
theorem dX10_letterThere_43 : decode cX10_letterThere 43 = .ok (.iconst 0, 1) := by decide +kernel
theorem dX10_letterThere_44 : decode cX10_letterThere 44 = .ok (.istore_n 2, 1) := by decide +kernel
theorem dX10_letterThere_45 : decode cX10_letterThere 45 = .ok (.iload_n 2, 1) := by decide +kernel
theorem dX10_letterThere_46 : decode cX10_letterThere 46 = .ok (.ifCond .eq 17, 3) := by decide +kernel
theorem dX10_letterThere_49 : decode cX10_letterThere 49 = .ok (.iload_n 1, 1) := by decide +kernel
theorem dX10_letterThere_50 : decode cX10_letterThere 50 = .ok (.ifCond .lt 13, 3) := by decide +kernel
theorem dX10_letterThere_53 : decode cX10_letterThere 53 = .ok (.iload_n 1, 1) := by decide +kernel
theorem dX10_letterThere_54 : decode cX10_letterThere 54 = .ok (.bipush 6, 2) := by decide +kernel
theorem dX10_letterThere_56 : decode cX10_letterThere 56 = .ok (.if_icmp .ge 7, 3) := by decide +kernel
theorem dX10_letterThere_59 : decode cX10_letterThere 59 = .ok (.iload_n 1, 1) := by decide +kernel
theorem dX10_letterThere_60 : decode cX10_letterThere 60 = .ok (.goto 4, 3) := by decide +kernel
theorem dX10_letterThere_63 : decode cX10_letterThere 63 = .ok (.iconst (-1), 1) := by decide +kernel
theorem dX10_letterThere_64 : decode cX10_letterThere 64 = .ok (.ireturn, 1) := by decide +kernel
theorem dX10_beginsWhole_0 : decode cX10_beginsWhole 0 = .ok (.aload_n 0, 1) := by decide +kernel
theorem dX10_beginsWhole_1 : decode cX10_beginsWhole 1 = .ok (.invokevirtual 94, 3) := by decide +kernel
theorem dX10_beginsWhole_4 : decode cX10_beginsWhole 4 = .ok (.ifCond .ne 12, 3) := by decide +kernel
theorem dX10_beginsWhole_7 : decode cX10_beginsWhole 7 = .ok (.aload_n 0, 1) := by decide +kernel
theorem dX10_beginsWhole_8 : decode cX10_beginsWhole 8 = .ok (.bipush 45, 2) := by decide +kernel
theorem dX10_beginsWhole_10 : decode cX10_beginsWhole 10 = .ok (.invokevirtual 98, 3) := by decide +kernel
theorem dX10_beginsWhole_13 : decode cX10_beginsWhole 13 = .ok (.ifCond .eq 7, 3) := by decide +kernel
theorem dX10_beginsWhole_16 : decode cX10_beginsWhole 16 = .ok (.iconst 1, 1) := by decide +kernel
theorem dX10_beginsWhole_17 : decode cX10_beginsWhole 17 = .ok (.goto 4, 3) := by decide +kernel
theorem dX10_beginsWhole_20 : decode cX10_beginsWhole 20 = .ok (.iconst 0, 1) := by decide +kernel
theorem dX10_beginsWhole_21 : decode cX10_beginsWhole 21 = .ok (.ireturn, 1) := by decide +kernel
theorem dX10_readWhole_0 : decode cX10_readWhole 0 = .ok (.aload_n 0, 1) := by decide +kernel
theorem dX10_readWhole_1 : decode cX10_readWhole 1 = .ok (.bipush 45, 2) := by decide +kernel
theorem dX10_readWhole_3 : decode cX10_readWhole 3 = .ok (.invokevirtual 98, 3) := by decide +kernel
theorem dX10_readWhole_6 : decode cX10_readWhole 6 = .ok (.istore_n 1, 1) := by decide +kernel
theorem dX10_readWhole_7 : decode cX10_readWhole 7 = .ok (.iload_n 1, 1) := by decide +kernel
theorem dX10_readWhole_8 : decode cX10_readWhole 8 = .ok (.ifCond .eq 7, 3) := by decide +kernel
theorem dX10_readWhole_11 : decode cX10_readWhole 11 = .ok (.aload_n 0, 1) := by decide +kernel
theorem dX10_readWhole_12 : decode cX10_readWhole 12 = .ok (.invokevirtual 102, 3) := by decide +kernel
theorem dX10_readWhole_15 : decode cX10_readWhole 15 = .ok (.aload_n 0, 1) := by decide +kernel
theorem dX10_readWhole_16 : decode cX10_readWhole 16 = .ok (.invokevirtual 94, 3) := by decide +kernel
theorem dX10_readWhole_19 : decode cX10_readWhole 19 = .ok (.ifCond .ne 9, 3) := by decide +kernel
theorem dX10_readWhole_22 : decode cX10_readWhole 22 = .ok (.aload_n 0, 1) := by decide +kernel
theorem dX10_readWhole_23 : decode cX10_readWhole 23 = .ok (.iconst 1, 1) := by decide +kernel
theorem dX10_readWhole_24 : decode cX10_readWhole 24 = .ok (.invokevirtual 105, 3) := by decide +kernel
theorem dX10_readWhole_27 : decode cX10_readWhole 27 = .ok (.ireturn, 1) := by decide +kernel
theorem dX10_readWhole_28 : decode cX10_readWhole 28 = .ok (.aload_n 0, 1) := by decide +kernel
theorem dX10_readWhole_29 : decode cX10_readWhole 29 = .ok (.iload_n 1, 1) := by decide +kernel
theorem dX10_readWhole_30 : decode cX10_readWhole 30 = .ok (.ifCond .eq 16, 3) := by decide +kernel
theorem dX10_readWhole_33 : decode cX10_readWhole 33 = .ok (.aload_n 0, 1) := by decide +kernel
theorem dX10_readWhole_34 : decode cX10_readWhole 34 = .ok (.getfield 25, 3) := by decide +kernel
theorem dX10_readWhole_37 : decode cX10_readWhole 37 = .ok (.aload_n 0, 1) := by decide +kernel
theorem dX10_readWhole_38 : decode cX10_readWhole 38 = .ok (.getfield 50, 3) := by decide +kernel
theorem dX10_readWhole_41 : decode cX10_readWhole 41 = .ok (.iaload, 1) := by decide +kernel
theorem dX10_readWhole_42 : decode cX10_readWhole 42 = .ok (.ineg, 1) := by decide +kernel
theorem dX10_readWhole_43 : decode cX10_readWhole 43 = .ok (.goto 12, 3) := by decide +kernel
theorem dX10_readWhole_46 : decode cX10_readWhole 46 = .ok (.aload_n 0, 1) := by decide +kernel
theorem dX10_readWhole_47 : decode cX10_readWhole 47 = .ok (.getfield 25, 3) := by decide +kernel
theorem dX10_readWhole_50 : decode cX10_readWhole 50 = .ok (.aload_n 0, 1) := by decide +kernel
theorem dX10_readWhole_51 : decode cX10_readWhole 51 = .ok (.getfield 50, 3) := by decide +kernel
theorem dX10_readWhole_54 : decode cX10_readWhole 54 = .ok (.iaload, 1) := by decide +kernel
theorem dX10_readWhole_55 : decode cX10_readWhole 55 = .ok (.putfield 108, 3) := by decide +kernel
theorem dX10_readWhole_58 : decode cX10_readWhole 58 = .ok (.iconst 1, 1) := by decide +kernel
theorem dX10_readWhole_59 : decode cX10_readWhole 59 = .ok (.ireturn, 1) := by decide +kernel
