/-! DECODE ROWS X3 X4 -/
theorem dX3_init_0 : decode cX3_init 0 = .ok (.aload_n 0, 1) := by decide +kernel
theorem dX3_init_1 : decode cX3_init 1 = .ok (.invokespecial 5, 3) := by decide +kernel
theorem dX3_init_4 : decode cX3_init 4 = .ok (.aload_n 0, 1) := by decide +kernel
theorem dX3_init_5 : decode cX3_init 5 = .ok (.sipush 200, 3) := by decide +kernel
theorem dX3_init_8 : decode cX3_init 8 = .ok (.newarray .int, 2) := by decide +kernel
theorem dX3_init_10 : decode cX3_init 10 = .ok (.putfield 11, 3) := by decide +kernel
theorem dX3_init_13 : decode cX3_init 13 = .ok (.aload_n 0, 1) := by decide +kernel
theorem dX3_init_14 : decode cX3_init 14 = .ok (.sipush 200, 3) := by decide +kernel
theorem dX3_init_17 : decode cX3_init 17 = .ok (.newarray .int, 2) := by decide +kernel
theorem dX3_init_19 : decode cX3_init 19 = .ok (.putfield 15, 3) := by decide +kernel
theorem dX3_init_22 : decode cX3_init 22 = .ok (.aload_n 0, 1) := by decide +kernel
theorem dX3_init_23 : decode cX3_init 23 = .ok (.sipush 200, 3) := by decide +kernel
theorem dX3_init_26 : decode cX3_init 26 = .ok (.newarray .int, 2) := by decide +kernel
theorem dX3_init_28 : decode cX3_init 28 = .ok (.putfield 18, 3) := by decide +kernel
theorem dX3_init_31 : decode cX3_init 31 = .ok (.aload_n 0, 1) := by decide +kernel
theorem dX3_init_32 : decode cX3_init 32 = .ok (.sipush 200, 3) := by decide +kernel
theorem dX3_init_35 : decode cX3_init 35 = .ok (.newarray .int, 2) := by decide +kernel
theorem dX3_init_37 : decode cX3_init 37 = .ok (.putfield 21, 3) := by decide +kernel
theorem dX3_init_40 : decode cX3_init 40 = .ok (.aload_n 0, 1) := by decide +kernel
theorem dX3_init_41 : decode cX3_init 41 = .ok (.sipush 200, 3) := by decide +kernel
theorem dX3_init_44 : decode cX3_init 44 = .ok (.newarray .int, 2) := by decide +kernel
theorem dX3_init_46 : decode cX3_init 46 = .ok (.putfield 24, 3) := by decide +kernel
theorem dX3_init_49 : decode cX3_init 49 = .ok (.aload_n 0, 1) := by decide +kernel
theorem dX3_init_50 : decode cX3_init 50 = .ok (.sipush 200, 3) := by decide +kernel
theorem dX3_init_53 : decode cX3_init 53 = .ok (.newarray .long, 2) := by decide +kernel
theorem dX3_init_55 : decode cX3_init 55 = .ok (.putfield 27, 3) := by decide +kernel
theorem dX3_init_58 : decode cX3_init 58 = .ok (.aload_n 0, 1) := by decide +kernel
theorem dX3_init_59 : decode cX3_init 59 = .ok (.sipush 200, 3) := by decide +kernel
theorem dX3_init_62 : decode cX3_init 62 = .ok (.newarray .boolean, 2) := by decide +kernel
theorem dX3_init_64 : decode cX3_init 64 = .ok (.putfield 31, 3) := by decide +kernel
theorem dX3_init_67 : decode cX3_init 67 = .ok (.aload_n 0, 1) := by decide +kernel
theorem dX3_init_68 : decode cX3_init 68 = .ok (.sipush 200, 3) := by decide +kernel
theorem dX3_init_71 : decode cX3_init 71 = .ok (.newarray .int, 2) := by decide +kernel
theorem dX3_init_73 : decode cX3_init 73 = .ok (.putfield 35, 3) := by decide +kernel
theorem dX3_init_76 : decode cX3_init 76 = .ok (.aload_n 0, 1) := by decide +kernel
theorem dX3_init_77 : decode cX3_init 77 = .ok (.bipush 6, 2) := by decide +kernel
theorem dX3_init_79 : decode cX3_init 79 = .ok (.newarray .int, 2) := by decide +kernel
theorem dX3_init_81 : decode cX3_init 81 = .ok (.putfield 38, 3) := by decide +kernel
theorem dX3_init_84 : decode cX3_init 84 = .ok (.aload_n 0, 1) := by decide +kernel
theorem dX3_init_85 : decode cX3_init 85 = .ok (.iconst 4, 1) := by decide +kernel
theorem dX3_init_86 : decode cX3_init 86 = .ok (.newarray .int, 2) := by decide +kernel
theorem dX3_init_88 : decode cX3_init 88 = .ok (.putfield 41, 3) := by decide +kernel
theorem dX3_init_91 : decode cX3_init 91 = .ok (.aload_n 0, 1) := by decide +kernel
theorem dX3_init_92 : decode cX3_init 92 = .ok (.bipush 24, 2) := by decide +kernel
theorem dX3_init_94 : decode cX3_init 94 = .ok (.newarray .int, 2) := by decide +kernel
theorem dX3_init_96 : decode cX3_init 96 = .ok (.putfield 44, 3) := by decide +kernel
theorem dX3_init_99 : decode cX3_init 99 = .ok (.aload_n 0, 1) := by decide +kernel
theorem dX3_init_100 : decode cX3_init 100 = .ok (.iconst 4, 1) := by decide +kernel
theorem dX3_init_101 : decode cX3_init 101 = .ok (.newarray .boolean, 2) := by decide +kernel
theorem dX3_init_103 : decode cX3_init 103 = .ok (.putfield 47, 3) := by decide +kernel
theorem dX3_init_106 : decode cX3_init 106 = .ok (.aload_n 0, 1) := by decide +kernel
theorem dX3_init_107 : decode cX3_init 107 = .ok (.iconst 4, 1) := by decide +kernel
theorem dX3_init_108 : decode cX3_init 108 = .ok (.newarray .boolean, 2) := by decide +kernel
theorem dX3_init_110 : decode cX3_init 110 = .ok (.putfield 50, 3) := by decide +kernel
theorem dX3_init_113 : decode cX3_init 113 = .ok (.return_, 1) := by decide +kernel
theorem dX3_clear_0 : decode cX3_clear 0 = .ok (.aload_n 0, 1) := by decide +kernel
theorem dX3_clear_1 : decode cX3_clear 1 = .ok (.iconst 0, 1) := by decide +kernel
theorem dX3_clear_2 : decode cX3_clear 2 = .ok (.putfield 53, 3) := by decide +kernel
theorem dX3_clear_5 : decode cX3_clear 5 = .ok (.aload_n 0, 1) := by decide +kernel
theorem dX3_clear_6 : decode cX3_clear 6 = .ok (.iconst 0, 1) := by decide +kernel
theorem dX3_clear_7 : decode cX3_clear 7 = .ok (.putfield 57, 3) := by decide +kernel
theorem dX3_clear_10 : decode cX3_clear 10 = .ok (.aload_n 0, 1) := by decide +kernel
theorem dX3_clear_11 : decode cX3_clear 11 = .ok (.iconst 0, 1) := by decide +kernel
theorem dX3_clear_12 : decode cX3_clear 12 = .ok (.putfield 60, 3) := by decide +kernel
theorem dX3_clear_15 : decode cX3_clear 15 = .ok (.aload_n 0, 1) := by decide +kernel
theorem dX3_clear_16 : decode cX3_clear 16 = .ok (.iconst 0, 1) := by decide +kernel
theorem dX3_clear_17 : decode cX3_clear 17 = .ok (.putfield 63, 3) := by decide +kernel
theorem dX3_clear_20 : decode cX3_clear 20 = .ok (.aload_n 0, 1) := by decide +kernel
theorem dX3_clear_21 : decode cX3_clear 21 = .ok (.iconst 0, 1) := by decide +kernel
theorem dX3_clear_22 : decode cX3_clear 22 = .ok (.putfield 66, 3) := by decide +kernel
theorem dX3_clear_25 : decode cX3_clear 25 = .ok (.iconst 0, 1) := by decide +kernel
theorem dX3_clear_26 : decode cX3_clear 26 = .ok (.istore_n 1, 1) := by decide +kernel
theorem dX3_clear_27 : decode cX3_clear 27 = .ok (.iload_n 1, 1) := by decide +kernel
theorem dX3_clear_28 : decode cX3_clear 28 = .ok (.iconst 4, 1) := by decide +kernel
theorem dX3_clear_29 : decode cX3_clear 29 = .ok (.if_icmp .ge 16, 3) := by decide +kernel
theorem dX3_clear_32 : decode cX3_clear 32 = .ok (.aload_n 0, 1) := by decide +kernel
theorem dX3_clear_33 : decode cX3_clear 33 = .ok (.getfield 50, 3) := by decide +kernel
theorem dX3_clear_36 : decode cX3_clear 36 = .ok (.iload_n 1, 1) := by decide +kernel
theorem dX3_clear_37 : decode cX3_clear 37 = .ok (.iconst 0, 1) := by decide +kernel
theorem dX3_clear_38 : decode cX3_clear 38 = .ok (.bastore, 1) := by decide +kernel
theorem dX3_clear_39 : decode cX3_clear 39 = .ok (.iinc 1 1, 3) := by decide +kernel
theorem dX3_clear_42 : decode cX3_clear 42 = .ok (.goto (-15), 3) := by decide +kernel
theorem dX3_clear_45 : decode cX3_clear 45 = .ok (.return_, 1) := by decide +kernel
theorem dX3_isThere_0 : decode cX3_isThere 0 = .ok (.aload_n 0, 1) := by decide +kernel
theorem dX3_isThere_1 : decode cX3_isThere 1 = .ok (.getfield 53, 3) := by decide +kernel
theorem dX3_isThere_4 : decode cX3_isThere 4 = .ok (.ifCond .le 7, 3) := by decide +kernel
theorem dX3_isThere_7 : decode cX3_isThere 7 = .ok (.iconst 1, 1) := by decide +kernel
theorem dX3_isThere_8 : decode cX3_isThere 8 = .ok (.goto 4, 3) := by decide +kernel
theorem dX3_isThere_11 : decode cX3_isThere 11 = .ok (.iconst 0, 1) := by decide +kernel
theorem dX3_isThere_12 : decode cX3_isThere 12 = .ok (.ireturn, 1) := by decide +kernel
theorem dX3_addNumber_0 : decode cX3_addNumber 0 = .ok (.aload_n 0, 1) := by decide +kernel
theorem dX3_addNumber_1 : decode cX3_addNumber 1 = .ok (.iconst 0, 1) := by decide +kernel
theorem dX3_addNumber_2 : decode cX3_addNumber 2 = .ok (.iload_n 1, 1) := by decide +kernel
theorem dX3_addNumber_3 : decode cX3_addNumber 3 = .ok (.bipush 64, 2) := by decide +kernel
theorem dX3_addNumber_5 : decode cX3_addNumber 5 = .ok (.invokevirtual 69, 3) := by decide +kernel
theorem dX3_addNumber_8 : decode cX3_addNumber 8 = .ok (.return_, 1) := by decide +kernel
theorem dX3_addLetter_0 : decode cX3_addLetter 0 = .ok (.aload_n 0, 1) := by decide +kernel
theorem dX3_addLetter_1 : decode cX3_addLetter 1 = .ok (.dup, 1) := by decide +kernel
theorem dX3_addLetter_2 : decode cX3_addLetter 2 = .ok (.getfield 63, 3) := by decide +kernel
theorem dX3_addLetter_5 : decode cX3_addLetter 5 = .ok (.iconst 1, 1) := by decide +kernel
theorem dX3_addLetter_6 : decode cX3_addLetter 6 = .ok (.iload_n 1, 1) := by decide +kernel
theorem dX3_addLetter_7 : decode cX3_addLetter 7 = .ok (.ishl, 1) := by decide +kernel
theorem dX3_addLetter_8 : decode cX3_addLetter 8 = .ok (.ior, 1) := by decide +kernel
theorem dX3_addLetter_9 : decode cX3_addLetter 9 = .ok (.putfield 63, 3) := by decide +kernel
theorem dX3_addLetter_12 : decode cX3_addLetter 12 = .ok (.aload_n 0, 1) := by decide +kernel
theorem dX3_addLetter_13 : decode cX3_addLetter 13 = .ok (.iconst 1, 1) := by decide +kernel
theorem dX3_addLetter_14 : decode cX3_addLetter 14 = .ok (.iload_n 1, 1) := by decide +kernel
theorem dX3_addLetter_15 : decode cX3_addLetter 15 = .ok (.bipush 64, 2) := by decide +kernel
theorem dX3_addLetter_17 : decode cX3_addLetter 17 = .ok (.iconst 1, 1) := by decide +kernel
theorem dX3_addLetter_18 : decode cX3_addLetter 18 = .ok (.iload_n 1, 1) := by decide +kernel
theorem dX3_addLetter_19 : decode cX3_addLetter 19 = .ok (.ishl, 1) := by decide +kernel
theorem dX3_addLetter_20 : decode cX3_addLetter 20 = .ok (.ior, 1) := by decide +kernel
theorem dX3_addLetter_21 : decode cX3_addLetter 21 = .ok (.invokevirtual 69, 3) := by decide +kernel
theorem dX3_addLetter_24 : decode cX3_addLetter 24 = .ok (.return_, 1) := by decide +kernel
theorem dX3_addPower_0 : decode cX3_addPower 0 = .ok (.aload_n 0, 1) := by decide +kernel
theorem dX3_addPower_1 : decode cX3_addPower 1 = .ok (.invokevirtual 73, 3) := by decide +kernel
theorem dX3_addPower_4 : decode cX3_addPower 4 = .ok (.istore_n 2, 1) := by decide +kernel
theorem dX3_addPower_5 : decode cX3_addPower 5 = .ok (.aload_n 0, 1) := by decide +kernel
theorem dX3_addPower_6 : decode cX3_addPower 6 = .ok (.getfield 18, 3) := by decide +kernel
theorem dX3_addPower_9 : decode cX3_addPower 9 = .ok (.aload_n 0, 1) := by decide +kernel
theorem dX3_addPower_10 : decode cX3_addPower 10 = .ok (.getfield 53, 3) := by decide +kernel
theorem dX3_addPower_13 : decode cX3_addPower 13 = .ok (.iload_n 2, 1) := by decide +kernel
theorem dX3_addPower_14 : decode cX3_addPower 14 = .ok (.iastore, 1) := by decide +kernel
theorem dX3_addPower_15 : decode cX3_addPower 15 = .ok (.aload_n 0, 1) := by decide +kernel
theorem dX3_addPower_16 : decode cX3_addPower 16 = .ok (.iconst 5, 1) := by decide +kernel
theorem dX3_addPower_17 : decode cX3_addPower 17 = .ok (.iload_n 1, 1) := by decide +kernel
theorem dX3_addPower_18 : decode cX3_addPower 18 = .ok (.aload_n 0, 1) := by decide +kernel
theorem dX3_addPower_19 : decode cX3_addPower 19 = .ok (.getfield 24, 3) := by decide +kernel
theorem dX3_addPower_22 : decode cX3_addPower 22 = .ok (.iload_n 2, 1) := by decide +kernel
theorem dX3_addPower_23 : decode cX3_addPower 23 = .ok (.iaload, 1) := by decide +kernel
theorem dX3_addPower_24 : decode cX3_addPower 24 = .ok (.invokevirtual 69, 3) := by decide +kernel
theorem dX3_addPower_27 : decode cX3_addPower 27 = .ok (.return_, 1) := by decide +kernel
theorem dX3_addJoint_0 : decode cX3_addJoint 0 = .ok (.aload_n 0, 1) := by decide +kernel
theorem dX3_addJoint_1 : decode cX3_addJoint 1 = .ok (.invokevirtual 73, 3) := by decide +kernel
theorem dX3_addJoint_4 : decode cX3_addJoint 4 = .ok (.istore_n 2, 1) := by decide +kernel
theorem dX3_addJoint_5 : decode cX3_addJoint 5 = .ok (.aload_n 0, 1) := by decide +kernel
theorem dX3_addJoint_6 : decode cX3_addJoint 6 = .ok (.invokevirtual 73, 3) := by decide +kernel
theorem dX3_addJoint_9 : decode cX3_addJoint 9 = .ok (.istore_n 3, 1) := by decide +kernel
theorem dX3_addJoint_10 : decode cX3_addJoint 10 = .ok (.aload_n 0, 1) := by decide +kernel
theorem dX3_addJoint_11 : decode cX3_addJoint 11 = .ok (.getfield 18, 3) := by decide +kernel
theorem dX3_addJoint_14 : decode cX3_addJoint 14 = .ok (.aload_n 0, 1) := by decide +kernel
theorem dX3_addJoint_15 : decode cX3_addJoint 15 = .ok (.getfield 53, 3) := by decide +kernel
theorem dX3_addJoint_18 : decode cX3_addJoint 18 = .ok (.iload_n 3, 1) := by decide +kernel
theorem dX3_addJoint_19 : decode cX3_addJoint 19 = .ok (.iastore, 1) := by decide +kernel
theorem dX3_addJoint_20 : decode cX3_addJoint 20 = .ok (.aload_n 0, 1) := by decide +kernel
theorem dX3_addJoint_21 : decode cX3_addJoint 21 = .ok (.getfield 21, 3) := by decide +kernel
theorem dX3_addJoint_24 : decode cX3_addJoint 24 = .ok (.aload_n 0, 1) := by decide +kernel
theorem dX3_addJoint_25 : decode cX3_addJoint 25 = .ok (.getfield 53, 3) := by decide +kernel
theorem dX3_addJoint_28 : decode cX3_addJoint 28 = .ok (.iload_n 2, 1) := by decide +kernel
theorem dX3_addJoint_29 : decode cX3_addJoint 29 = .ok (.iastore, 1) := by decide +kernel
theorem dX3_addJoint_30 : decode cX3_addJoint 30 = .ok (.aload_n 0, 1) := by decide +kernel
theorem dX3_addJoint_31 : decode cX3_addJoint 31 = .ok (.iload_n 1, 1) := by decide +kernel
theorem dX3_addJoint_32 : decode cX3_addJoint 32 = .ok (.iconst 0, 1) := by decide +kernel
theorem dX3_addJoint_33 : decode cX3_addJoint 33 = .ok (.aload_n 0, 1) := by decide +kernel
theorem dX3_addJoint_34 : decode cX3_addJoint 34 = .ok (.getfield 24, 3) := by decide +kernel
theorem dX3_addJoint_37 : decode cX3_addJoint 37 = .ok (.iload_n 3, 1) := by decide +kernel
theorem dX3_addJoint_38 : decode cX3_addJoint 38 = .ok (.iaload, 1) := by decide +kernel
theorem dX3_addJoint_39 : decode cX3_addJoint 39 = .ok (.aload_n 0, 1) := by decide +kernel
theorem dX3_addJoint_40 : decode cX3_addJoint 40 = .ok (.getfield 24, 3) := by decide +kernel
theorem dX3_addJoint_43 : decode cX3_addJoint 43 = .ok (.iload_n 2, 1) := by decide +kernel
theorem dX3_addJoint_44 : decode cX3_addJoint 44 = .ok (.iaload, 1) := by decide +kernel
theorem dX3_addJoint_45 : decode cX3_addJoint 45 = .ok (.ior, 1) := by decide +kernel
theorem dX3_addJoint_46 : decode cX3_addJoint 46 = .ok (.invokevirtual 69, 3) := by decide +kernel
theorem dX3_addJoint_49 : decode cX3_addJoint 49 = .ok (.return_, 1) := by decide +kernel
theorem dX3_addStep_0 : decode cX3_addStep 0 = .ok (.aload_n 0, 1) := by decide +kernel
theorem dX3_addStep_1 : decode cX3_addStep 1 = .ok (.getfield 53, 3) := by decide +kernel
theorem dX3_addStep_4 : decode cX3_addStep 4 = .ok (.sipush 199, 3) := by decide +kernel
theorem dX3_addStep_7 : decode cX3_addStep 7 = .ok (.if_icmp .lt 4, 3) := by decide +kernel
theorem dX3_addStep_10 : decode cX3_addStep 10 = .ok (.return_, 1) := by decide +kernel
theorem dX3_addStep_11 : decode cX3_addStep 11 = .ok (.aload_n 0, 1) := by decide +kernel
theorem dX3_addStep_12 : decode cX3_addStep 12 = .ok (.getfield 11, 3) := by decide +kernel
theorem dX3_addStep_15 : decode cX3_addStep 15 = .ok (.aload_n 0, 1) := by decide +kernel
theorem dX3_addStep_16 : decode cX3_addStep 16 = .ok (.getfield 53, 3) := by decide +kernel
theorem dX3_addStep_19 : decode cX3_addStep 19 = .ok (.iload_n 1, 1) := by decide +kernel
theorem dX3_addStep_20 : decode cX3_addStep 20 = .ok (.iastore, 1) := by decide +kernel
theorem dX3_addStep_21 : decode cX3_addStep 21 = .ok (.aload_n 0, 1) := by decide +kernel
theorem dX3_addStep_22 : decode cX3_addStep 22 = .ok (.getfield 15, 3) := by decide +kernel
theorem dX3_addStep_25 : decode cX3_addStep 25 = .ok (.aload_n 0, 1) := by decide +kernel
theorem dX3_addStep_26 : decode cX3_addStep 26 = .ok (.getfield 53, 3) := by decide +kernel
theorem dX3_addStep_29 : decode cX3_addStep 29 = .ok (.iload_n 2, 1) := by decide +kernel
theorem dX3_addStep_30 : decode cX3_addStep 30 = .ok (.iastore, 1) := by decide +kernel
theorem dX3_addStep_31 : decode cX3_addStep 31 = .ok (.aload_n 0, 1) := by decide +kernel
theorem dX3_addStep_32 : decode cX3_addStep 32 = .ok (.getfield 24, 3) := by decide +kernel
theorem dX3_addStep_35 : decode cX3_addStep 35 = .ok (.aload_n 0, 1) := by decide +kernel
theorem dX3_addStep_36 : decode cX3_addStep 36 = .ok (.getfield 53, 3) := by decide +kernel
theorem dX3_addStep_39 : decode cX3_addStep 39 = .ok (.iload_n 3, 1) := by decide +kernel
theorem dX3_addStep_40 : decode cX3_addStep 40 = .ok (.iastore, 1) := by decide +kernel
theorem dX3_addStep_41 : decode cX3_addStep 41 = .ok (.aload_n 0, 1) := by decide +kernel
theorem dX3_addStep_42 : decode cX3_addStep 42 = .ok (.getfield 35, 3) := by decide +kernel
theorem dX3_addStep_45 : decode cX3_addStep 45 = .ok (.aload_n 0, 1) := by decide +kernel
theorem dX3_addStep_46 : decode cX3_addStep 46 = .ok (.getfield 57, 3) := by decide +kernel
theorem dX3_addStep_49 : decode cX3_addStep 49 = .ok (.aload_n 0, 1) := by decide +kernel
theorem dX3_addStep_50 : decode cX3_addStep 50 = .ok (.getfield 53, 3) := by decide +kernel
theorem dX3_addStep_53 : decode cX3_addStep 53 = .ok (.iastore, 1) := by decide +kernel
theorem dX3_addStep_54 : decode cX3_addStep 54 = .ok (.aload_n 0, 1) := by decide +kernel
theorem dX3_addStep_55 : decode cX3_addStep 55 = .ok (.dup, 1) := by decide +kernel
theorem dX3_addStep_56 : decode cX3_addStep 56 = .ok (.getfield 57, 3) := by decide +kernel
theorem dX3_addStep_59 : decode cX3_addStep 59 = .ok (.iconst 1, 1) := by decide +kernel
theorem dX3_addStep_60 : decode cX3_addStep 60 = .ok (.iadd, 1) := by decide +kernel
theorem dX3_addStep_61 : decode cX3_addStep 61 = .ok (.putfield 57, 3) := by decide +kernel
theorem dX3_addStep_64 : decode cX3_addStep 64 = .ok (.aload_n 0, 1) := by decide +kernel
theorem dX3_addStep_65 : decode cX3_addStep 65 = .ok (.dup, 1) := by decide +kernel
theorem dX3_addStep_66 : decode cX3_addStep 66 = .ok (.getfield 53, 3) := by decide +kernel
theorem dX3_addStep_69 : decode cX3_addStep 69 = .ok (.iconst 1, 1) := by decide +kernel
theorem dX3_addStep_70 : decode cX3_addStep 70 = .ok (.iadd, 1) := by decide +kernel
theorem dX3_addStep_71 : decode cX3_addStep 71 = .ok (.putfield 53, 3) := by decide +kernel
theorem dX3_addStep_74 : decode cX3_addStep 74 = .ok (.return_, 1) := by decide +kernel
theorem dX3_takeOpen_0 : decode cX3_takeOpen 0 = .ok (.aload_n 0, 1) := by decide +kernel
theorem dX3_takeOpen_1 : decode cX3_takeOpen 1 = .ok (.getfield 57, 3) := by decide +kernel
theorem dX3_takeOpen_4 : decode cX3_takeOpen 4 = .ok (.iconst 1, 1) := by decide +kernel
theorem dX3_takeOpen_5 : decode cX3_takeOpen 5 = .ok (.if_icmp .ge 5, 3) := by decide +kernel
theorem dX3_takeOpen_8 : decode cX3_takeOpen 8 = .ok (.iconst 0, 1) := by decide +kernel
theorem dX3_takeOpen_9 : decode cX3_takeOpen 9 = .ok (.ireturn, 1) := by decide +kernel
theorem dX3_takeOpen_10 : decode cX3_takeOpen 10 = .ok (.aload_n 0, 1) := by decide +kernel
theorem dX3_takeOpen_11 : decode cX3_takeOpen 11 = .ok (.dup, 1) := by decide +kernel
theorem dX3_takeOpen_12 : decode cX3_takeOpen 12 = .ok (.getfield 57, 3) := by decide +kernel
theorem dX3_takeOpen_15 : decode cX3_takeOpen 15 = .ok (.iconst 1, 1) := by decide +kernel
theorem dX3_takeOpen_16 : decode cX3_takeOpen 16 = .ok (.isub, 1) := by decide +kernel
theorem dX3_takeOpen_17 : decode cX3_takeOpen 17 = .ok (.putfield 57, 3) := by decide +kernel
theorem dX3_takeOpen_20 : decode cX3_takeOpen 20 = .ok (.aload_n 0, 1) := by decide +kernel
theorem dX3_takeOpen_21 : decode cX3_takeOpen 21 = .ok (.getfield 35, 3) := by decide +kernel
theorem dX3_takeOpen_24 : decode cX3_takeOpen 24 = .ok (.aload_n 0, 1) := by decide +kernel
theorem dX3_takeOpen_25 : decode cX3_takeOpen 25 = .ok (.getfield 57, 3) := by decide +kernel
theorem dX3_takeOpen_28 : decode cX3_takeOpen 28 = .ok (.iaload, 1) := by decide +kernel
theorem dX3_takeOpen_29 : decode cX3_takeOpen 29 = .ok (.ireturn, 1) := by decide +kernel
theorem dX3_isUsed_0 : decode cX3_isUsed 0 = .ok (.aload_n 0, 1) := by decide +kernel
theorem dX3_isUsed_1 : decode cX3_isUsed 1 = .ok (.getfield 63, 3) := by decide +kernel
theorem dX3_isUsed_4 : decode cX3_isUsed 4 = .ok (.iload_n 1, 1) := by decide +kernel
theorem dX3_isUsed_5 : decode cX3_isUsed 5 = .ok (.ishr, 1) := by decide +kernel
theorem dX3_isUsed_6 : decode cX3_isUsed 6 = .ok (.iconst 1, 1) := by decide +kernel
theorem dX3_isUsed_7 : decode cX3_isUsed 7 = .ok (.iand, 1) := by decide +kernel
theorem dX3_isUsed_8 : decode cX3_isUsed 8 = .ok (.iconst 1, 1) := by decide +kernel
theorem dX3_isUsed_9 : decode cX3_isUsed 9 = .ok (.if_icmp .ne 7, 3) := by decide +kernel
theorem dX3_isUsed_12 : decode cX3_isUsed 12 = .ok (.iconst 1, 1) := by decide +kernel
theorem dX3_isUsed_13 : decode cX3_isUsed 13 = .ok (.goto 4, 3) := by decide +kernel
theorem dX3_isUsed_16 : decode cX3_isUsed 16 = .ok (.iconst 0, 1) := by decide +kernel
theorem dX3_isUsed_17 : decode cX3_isUsed 17 = .ok (.ireturn, 1) := by decide +kernel
theorem dX3_letterCount_0 : decode cX3_letterCount 0 = .ok (.aload_n 0, 1) := by decide +kernel
theorem dX3_letterCount_1 : decode cX3_letterCount 1 = .ok (.getfield 63, 3) := by decide +kernel
theorem dX3_letterCount_4 : decode cX3_letterCount 4 = .ok (.invokestatic 77, 3) := by decide +kernel
theorem dX3_letterCount_7 : decode cX3_letterCount 7 = .ok (.ireturn, 1) := by decide +kernel
theorem dX3_evaluate_0 : decode cX3_evaluate 0 = .ok (.aload_n 0, 1) := by decide +kernel
theorem dX3_evaluate_1 : decode cX3_evaluate 1 = .ok (.bipush 127, 2) := by decide +kernel
theorem dX3_evaluate_3 : decode cX3_evaluate 3 = .ok (.invokevirtual 83, 3) := by decide +kernel
theorem dX3_evaluate_6 : decode cX3_evaluate 6 = .ok (.iload_n 1, 1) := by decide +kernel
theorem dX3_evaluate_7 : decode cX3_evaluate 7 = .ok (.ifCond .ne 12, 3) := by decide +kernel
theorem dX3_evaluate_10 : decode cX3_evaluate 10 = .ok (.aload_n 0, 1) := by decide +kernel
theorem dX3_evaluate_11 : decode cX3_evaluate 11 = .ok (.getfield 60, 3) := by decide +kernel
theorem dX3_evaluate_14 : decode cX3_evaluate 14 = .ok (.iconst 1, 1) := by decide +kernel
theorem dX3_evaluate_15 : decode cX3_evaluate 15 = .ok (.isub, 1) := by decide +kernel
theorem dX3_evaluate_16 : decode cX3_evaluate 16 = .ok (.goto 9, 3) := by decide +kernel
theorem dX3_evaluate_19 : decode cX3_evaluate 19 = .ok (.aload_n 0, 1) := by decide +kernel
theorem dX3_evaluate_20 : decode cX3_evaluate 20 = .ok (.getfield 53, 3) := by decide +kernel
theorem dX3_evaluate_23 : decode cX3_evaluate 23 = .ok (.iconst 1, 1) := by decide +kernel
theorem dX3_evaluate_24 : decode cX3_evaluate 24 = .ok (.isub, 1) := by decide +kernel
theorem dX3_evaluate_25 : decode cX3_evaluate 25 = .ok (.istore_n 2, 1) := by decide +kernel
theorem dX3_evaluate_26 : decode cX3_evaluate 26 = .ok (.iload_n 2, 1) := by decide +kernel
theorem dX3_evaluate_27 : decode cX3_evaluate 27 = .ok (.ifCond .lt 12, 3) := by decide +kernel
theorem dX3_evaluate_30 : decode cX3_evaluate 30 = .ok (.aload_n 0, 1) := by decide +kernel
theorem dX3_evaluate_31 : decode cX3_evaluate 31 = .ok (.getfield 31, 3) := by decide +kernel
theorem dX3_evaluate_34 : decode cX3_evaluate 34 = .ok (.iload_n 2, 1) := by decide +kernel
theorem dX3_evaluate_35 : decode cX3_evaluate 35 = .ok (.baload, 1) := by decide +kernel
theorem dX3_evaluate_36 : decode cX3_evaluate 36 = .ok (.ifCond .eq 5, 3) := by decide +kernel
theorem dX3_evaluate_39 : decode cX3_evaluate 39 = .ok (.iconst 0, 1) := by decide +kernel
theorem dX3_evaluate_40 : decode cX3_evaluate 40 = .ok (.ireturn, 1) := by decide +kernel
theorem dX3_evaluate_41 : decode cX3_evaluate 41 = .ok (.aload_n 0, 1) := by decide +kernel
theorem dX3_evaluate_42 : decode cX3_evaluate 42 = .ok (.aload_n 0, 1) := by decide +kernel
theorem dX3_evaluate_43 : decode cX3_evaluate 43 = .ok (.getfield 27, 3) := by decide +kernel
theorem dX3_evaluate_46 : decode cX3_evaluate 46 = .ok (.iload_n 2, 1) := by decide +kernel
theorem dX3_evaluate_47 : decode cX3_evaluate 47 = .ok (.laload, 1) := by decide +kernel
theorem dX3_evaluate_48 : decode cX3_evaluate 48 = .ok (.putfield 87, 3) := by decide +kernel
theorem dX3_evaluate_51 : decode cX3_evaluate 51 = .ok (.iconst 1, 1) := by decide +kernel
theorem dX3_evaluate_52 : decode cX3_evaluate 52 = .ok (.ireturn, 1) := by decide +kernel
theorem dX3_tryBox_0 : decode cX3_tryBox 0 = .ok (.aload_n 0, 1) := by decide +kernel
theorem dX3_tryBox_1 : decode cX3_tryBox 1 = .ok (.getfield 50, 3) := by decide +kernel
theorem dX3_tryBox_4 : decode cX3_tryBox 4 = .ok (.iload_n 1, 1) := by decide +kernel
theorem dX3_tryBox_5 : decode cX3_tryBox 5 = .ok (.baload, 1) := by decide +kernel
theorem dX3_tryBox_6 : decode cX3_tryBox 6 = .ok (.ifCond .eq 4, 3) := by decide +kernel
theorem dX3_tryBox_9 : decode cX3_tryBox 9 = .ok (.return_, 1) := by decide +kernel
theorem dX3_tryBox_10 : decode cX3_tryBox 10 = .ok (.aload_n 0, 1) := by decide +kernel
theorem dX3_tryBox_11 : decode cX3_tryBox 11 = .ok (.getfield 50, 3) := by decide +kernel
theorem dX3_tryBox_14 : decode cX3_tryBox 14 = .ok (.iload_n 1, 1) := by decide +kernel
theorem dX3_tryBox_15 : decode cX3_tryBox 15 = .ok (.iconst 1, 1) := by decide +kernel
theorem dX3_tryBox_16 : decode cX3_tryBox 16 = .ok (.bastore, 1) := by decide +kernel
theorem dX3_tryBox_17 : decode cX3_tryBox 17 = .ok (.aload_n 0, 1) := by decide +kernel
theorem dX3_tryBox_18 : decode cX3_tryBox 18 = .ok (.getfield 41, 3) := by decide +kernel
theorem dX3_tryBox_21 : decode cX3_tryBox 21 = .ok (.iload_n 1, 1) := by decide +kernel
theorem dX3_tryBox_22 : decode cX3_tryBox 22 = .ok (.iconst 0, 1) := by decide +kernel
theorem dX3_tryBox_23 : decode cX3_tryBox 23 = .ok (.iastore, 1) := by decide +kernel
theorem dX3_tryBox_24 : decode cX3_tryBox 24 = .ok (.iconst 1, 1) := by decide +kernel
theorem dX3_tryBox_25 : decode cX3_tryBox 25 = .ok (.istore_n 2, 1) := by decide +kernel
theorem dX3_tryBox_26 : decode cX3_tryBox 26 = .ok (.iconst 0, 1) := by decide +kernel
theorem dX3_tryBox_27 : decode cX3_tryBox 27 = .ok (.istore_n 3, 1) := by decide +kernel
theorem dX3_tryBox_28 : decode cX3_tryBox 28 = .ok (.iload_n 3, 1) := by decide +kernel
theorem dX3_tryBox_29 : decode cX3_tryBox 29 = .ok (.bipush 6, 2) := by decide +kernel
theorem dX3_tryBox_31 : decode cX3_tryBox 31 = .ok (.if_icmp .ge 49, 3) := by decide +kernel
theorem dX3_tryBox_34 : decode cX3_tryBox 34 = .ok (.aload_n 0, 1) := by decide +kernel
theorem dX3_tryBox_35 : decode cX3_tryBox 35 = .ok (.getfield 38, 3) := by decide +kernel
theorem dX3_tryBox_38 : decode cX3_tryBox 38 = .ok (.iload_n 3, 1) := by decide +kernel
theorem dX3_tryBox_39 : decode cX3_tryBox 39 = .ok (.aload_n 0, 1) := by decide +kernel
theorem dX3_tryBox_40 : decode cX3_tryBox 40 = .ok (.iload_n 3, 1) := by decide +kernel
theorem dX3_tryBox_41 : decode cX3_tryBox 41 = .ok (.invokevirtual 91, 3) := by decide +kernel
theorem dX3_tryBox_44 : decode cX3_tryBox 44 = .ok (.ifCond .eq 8, 3) := by decide +kernel
theorem dX3_tryBox_47 : decode cX3_tryBox 47 = .ok (.iload_n 1, 1) := by decide +kernel
theorem dX3_tryBox_48 : decode cX3_tryBox 48 = .ok (.ineg, 1) := by decide +kernel
theorem dX3_tryBox_49 : decode cX3_tryBox 49 = .ok (.goto 4, 3) := by decide +kernel
theorem dX3_tryBox_52 : decode cX3_tryBox 52 = .ok (.iconst 0, 1) := by decide +kernel
theorem dX3_tryBox_53 : decode cX3_tryBox 53 = .ok (.iastore, 1) := by decide +kernel
theorem dX3_tryBox_54 : decode cX3_tryBox 54 = .ok (.iload_n 2, 1) := by decide +kernel
theorem dX3_tryBox_55 : decode cX3_tryBox 55 = .ok (.aload_n 0, 1) := by decide +kernel
theorem dX3_tryBox_56 : decode cX3_tryBox 56 = .ok (.iload_n 3, 1) := by decide +kernel
theorem dX3_tryBox_57 : decode cX3_tryBox 57 = .ok (.invokevirtual 91, 3) := by decide +kernel
theorem dX3_tryBox_60 : decode cX3_tryBox 60 = .ok (.ifCond .eq 11, 3) := by decide +kernel
theorem dX3_tryBox_63 : decode cX3_tryBox 63 = .ok (.iconst 2, 1) := by decide +kernel
theorem dX3_tryBox_64 : decode cX3_tryBox 64 = .ok (.iload_n 1, 1) := by decide +kernel
theorem dX3_tryBox_65 : decode cX3_tryBox 65 = .ok (.imul, 1) := by decide +kernel
theorem dX3_tryBox_66 : decode cX3_tryBox 66 = .ok (.iconst 1, 1) := by decide +kernel
theorem dX3_tryBox_67 : decode cX3_tryBox 67 = .ok (.iadd, 1) := by decide +kernel
theorem dX3_tryBox_68 : decode cX3_tryBox 68 = .ok (.goto 4, 3) := by decide +kernel
theorem dX3_tryBox_71 : decode cX3_tryBox 71 = .ok (.iconst 1, 1) := by decide +kernel
theorem dX3_tryBox_72 : decode cX3_tryBox 72 = .ok (.imul, 1) := by decide +kernel
theorem dX3_tryBox_73 : decode cX3_tryBox 73 = .ok (.istore_n 2, 1) := by decide +kernel
theorem dX3_tryBox_74 : decode cX3_tryBox 74 = .ok (.iinc 3 1, 3) := by decide +kernel
theorem dX3_tryBox_77 : decode cX3_tryBox 77 = .ok (.goto (-49), 3) := by decide +kernel
theorem dX3_tryBox_80 : decode cX3_tryBox 80 = .ok (.bipush 127, 2) := by decide +kernel
theorem dX3_tryBox_82 : decode cX3_tryBox 82 = .ok (.istore_n 3, 1) := by decide +kernel
theorem dX3_tryBox_83 : decode cX3_tryBox 83 = .ok (.iconst 0, 1) := by decide +kernel
theorem dX3_tryBox_84 : decode cX3_tryBox 84 = .ok (.istore 4, 2) := by decide +kernel
theorem dX3_tryBox_86 : decode cX3_tryBox 86 = .ok (.iload 4, 2) := by decide +kernel
theorem dX3_tryBox_88 : decode cX3_tryBox 88 = .ok (.iload_n 2, 1) := by decide +kernel
theorem dX3_tryBox_89 : decode cX3_tryBox 89 = .ok (.if_icmp .ge 38, 3) := by decide +kernel
theorem dX3_tryBox_92 : decode cX3_tryBox 92 = .ok (.aload_n 0, 1) := by decide +kernel
theorem dX3_tryBox_93 : decode cX3_tryBox 93 = .ok (.iload_n 3, 1) := by decide +kernel
theorem dX3_tryBox_94 : decode cX3_tryBox 94 = .ok (.invokevirtual 83, 3) := by decide +kernel
theorem dX3_tryBox_97 : decode cX3_tryBox 97 = .ok (.aload_n 0, 1) := by decide +kernel
theorem dX3_tryBox_98 : decode cX3_tryBox 98 = .ok (.invokevirtual 95, 3) := by decide +kernel
theorem dX3_tryBox_101 : decode cX3_tryBox 101 = .ok (.istore 5, 2) := by decide +kernel
theorem dX3_tryBox_103 : decode cX3_tryBox 103 = .ok (.iload 5, 2) := by decide +kernel
theorem dX3_tryBox_105 : decode cX3_tryBox 105 = .ok (.ifCond .eq 10, 3) := by decide +kernel
theorem dX3_tryBox_108 : decode cX3_tryBox 108 = .ok (.aload_n 0, 1) := by decide +kernel
theorem dX3_tryBox_109 : decode cX3_tryBox 109 = .ok (.iload_n 1, 1) := by decide +kernel
theorem dX3_tryBox_110 : decode cX3_tryBox 110 = .ok (.iload 5, 2) := by decide +kernel
theorem dX3_tryBox_112 : decode cX3_tryBox 112 = .ok (.invokevirtual 98, 3) := by decide +kernel
theorem dX3_tryBox_115 : decode cX3_tryBox 115 = .ok (.aload_n 0, 1) := by decide +kernel
theorem dX3_tryBox_116 : decode cX3_tryBox 116 = .ok (.iload_n 1, 1) := by decide +kernel
theorem dX3_tryBox_117 : decode cX3_tryBox 117 = .ok (.invokevirtual 102, 3) := by decide +kernel
theorem dX3_tryBox_120 : decode cX3_tryBox 120 = .ok (.istore_n 3, 1) := by decide +kernel
theorem dX3_tryBox_121 : decode cX3_tryBox 121 = .ok (.iinc 4 1, 3) := by decide +kernel
theorem dX3_tryBox_124 : decode cX3_tryBox 124 = .ok (.goto (-38), 3) := by decide +kernel
theorem dX3_tryBox_127 : decode cX3_tryBox 127 = .ok (.return_, 1) := by decide +kernel
theorem dX3_noteBroken_0 : decode cX3_noteBroken 0 = .ok (.aload_n 0, 1) := by decide +kernel
theorem dX3_noteBroken_1 : decode cX3_noteBroken 1 = .ok (.getfield 41, 3) := by decide +kernel
theorem dX3_noteBroken_4 : decode cX3_noteBroken 4 = .ok (.iload_n 1, 1) := by decide +kernel
theorem dX3_noteBroken_5 : decode cX3_noteBroken 5 = .ok (.iaload, 1) := by decide +kernel
theorem dX3_noteBroken_6 : decode cX3_noteBroken 6 = .ok (.ifCond .ne 50, 3) := by decide +kernel
theorem dX3_noteBroken_9 : decode cX3_noteBroken 9 = .ok (.aload_n 0, 1) := by decide +kernel
theorem dX3_noteBroken_10 : decode cX3_noteBroken 10 = .ok (.getfield 47, 3) := by decide +kernel
theorem dX3_noteBroken_13 : decode cX3_noteBroken 13 = .ok (.iload_n 1, 1) := by decide +kernel
theorem dX3_noteBroken_14 : decode cX3_noteBroken 14 = .ok (.iload_n 2, 1) := by decide +kernel
theorem dX3_noteBroken_15 : decode cX3_noteBroken 15 = .ok (.iconst 2, 1) := by decide +kernel
theorem dX3_noteBroken_16 : decode cX3_noteBroken 16 = .ok (.if_icmp .ne 7, 3) := by decide +kernel
theorem dX3_noteBroken_19 : decode cX3_noteBroken 19 = .ok (.iconst 1, 1) := by decide +kernel
theorem dX3_noteBroken_20 : decode cX3_noteBroken 20 = .ok (.goto 4, 3) := by decide +kernel
theorem dX3_noteBroken_23 : decode cX3_noteBroken 23 = .ok (.iconst 0, 1) := by decide +kernel
theorem dX3_noteBroken_24 : decode cX3_noteBroken 24 = .ok (.bastore, 1) := by decide +kernel
theorem dX3_noteBroken_25 : decode cX3_noteBroken 25 = .ok (.iconst 0, 1) := by decide +kernel
theorem dX3_noteBroken_26 : decode cX3_noteBroken 26 = .ok (.istore_n 3, 1) := by decide +kernel
theorem dX3_noteBroken_27 : decode cX3_noteBroken 27 = .ok (.iload_n 3, 1) := by decide +kernel
theorem dX3_noteBroken_28 : decode cX3_noteBroken 28 = .ok (.bipush 6, 2) := by decide +kernel
theorem dX3_noteBroken_30 : decode cX3_noteBroken 30 = .ok (.if_icmp .ge 26, 3) := by decide +kernel
theorem dX3_noteBroken_33 : decode cX3_noteBroken 33 = .ok (.aload_n 0, 1) := by decide +kernel
theorem dX3_noteBroken_34 : decode cX3_noteBroken 34 = .ok (.getfield 44, 3) := by decide +kernel
theorem dX3_noteBroken_37 : decode cX3_noteBroken 37 = .ok (.iload_n 1, 1) := by decide +kernel
theorem dX3_noteBroken_38 : decode cX3_noteBroken 38 = .ok (.bipush 6, 2) := by decide +kernel
theorem dX3_noteBroken_40 : decode cX3_noteBroken 40 = .ok (.imul, 1) := by decide +kernel
theorem dX3_noteBroken_41 : decode cX3_noteBroken 41 = .ok (.iload_n 3, 1) := by decide +kernel
theorem dX3_noteBroken_42 : decode cX3_noteBroken 42 = .ok (.iadd, 1) := by decide +kernel
theorem dX3_noteBroken_43 : decode cX3_noteBroken 43 = .ok (.aload_n 0, 1) := by decide +kernel
theorem dX3_noteBroken_44 : decode cX3_noteBroken 44 = .ok (.getfield 38, 3) := by decide +kernel
theorem dX3_noteBroken_47 : decode cX3_noteBroken 47 = .ok (.iload_n 3, 1) := by decide +kernel
theorem dX3_noteBroken_48 : decode cX3_noteBroken 48 = .ok (.iaload, 1) := by decide +kernel
theorem dX3_noteBroken_49 : decode cX3_noteBroken 49 = .ok (.iastore, 1) := by decide +kernel
theorem dX3_noteBroken_50 : decode cX3_noteBroken 50 = .ok (.iinc 3 1, 3) := by decide +kernel
theorem dX3_noteBroken_53 : decode cX3_noteBroken 53 = .ok (.goto (-26), 3) := by decide +kernel
theorem dX3_noteBroken_56 : decode cX3_noteBroken 56 = .ok (.aload_n 0, 1) := by decide +kernel
theorem dX3_noteBroken_57 : decode cX3_noteBroken 57 = .ok (.getfield 41, 3) := by decide +kernel
theorem dX3_noteBroken_60 : decode cX3_noteBroken 60 = .ok (.iload_n 1, 1) := by decide +kernel
theorem dX3_noteBroken_61 : decode cX3_noteBroken 61 = .ok (.dup2, 1) := by decide +kernel
theorem dX3_noteBroken_62 : decode cX3_noteBroken 62 = .ok (.iaload, 1) := by decide +kernel
theorem dX3_noteBroken_63 : decode cX3_noteBroken 63 = .ok (.iconst 1, 1) := by decide +kernel
theorem dX3_noteBroken_64 : decode cX3_noteBroken 64 = .ok (.iadd, 1) := by decide +kernel
theorem dX3_noteBroken_65 : decode cX3_noteBroken 65 = .ok (.iastore, 1) := by decide +kernel
theorem dX3_noteBroken_66 : decode cX3_noteBroken 66 = .ok (.return_, 1) := by decide +kernel
theorem dX3_judgeRow_0 : decode cX3_judgeRow 0 = .ok (.aload_n 0, 1) := by decide +kernel
theorem dX3_judgeRow_1 : decode cX3_judgeRow 1 = .ok (.getfield 60, 3) := by decide +kernel
theorem dX3_judgeRow_4 : decode cX3_judgeRow 4 = .ok (.iconst 1, 1) := by decide +kernel
theorem dX3_judgeRow_5 : decode cX3_judgeRow 5 = .ok (.isub, 1) := by decide +kernel
theorem dX3_judgeRow_6 : decode cX3_judgeRow 6 = .ok (.istore_n 1, 1) := by decide +kernel
theorem dX3_judgeRow_7 : decode cX3_judgeRow 7 = .ok (.aload_n 0, 1) := by decide +kernel
theorem dX3_judgeRow_8 : decode cX3_judgeRow 8 = .ok (.getfield 53, 3) := by decide +kernel
theorem dX3_judgeRow_11 : decode cX3_judgeRow 11 = .ok (.iconst 1, 1) := by decide +kernel
theorem dX3_judgeRow_12 : decode cX3_judgeRow 12 = .ok (.isub, 1) := by decide +kernel
theorem dX3_judgeRow_13 : decode cX3_judgeRow 13 = .ok (.istore_n 2, 1) := by decide +kernel
theorem dX3_judgeRow_14 : decode cX3_judgeRow 14 = .ok (.iload_n 1, 1) := by decide +kernel
theorem dX3_judgeRow_15 : decode cX3_judgeRow 15 = .ok (.ifCond .lt 21, 3) := by decide +kernel
theorem dX3_judgeRow_18 : decode cX3_judgeRow 18 = .ok (.aload_n 0, 1) := by decide +kernel
theorem dX3_judgeRow_19 : decode cX3_judgeRow 19 = .ok (.getfield 31, 3) := by decide +kernel
theorem dX3_judgeRow_22 : decode cX3_judgeRow 22 = .ok (.iload_n 1, 1) := by decide +kernel
theorem dX3_judgeRow_23 : decode cX3_judgeRow 23 = .ok (.baload, 1) := by decide +kernel
theorem dX3_judgeRow_24 : decode cX3_judgeRow 24 = .ok (.ifCond .ne 12, 3) := by decide +kernel
theorem dX3_judgeRow_27 : decode cX3_judgeRow 27 = .ok (.aload_n 0, 1) := by decide +kernel
theorem dX3_judgeRow_28 : decode cX3_judgeRow 28 = .ok (.getfield 31, 3) := by decide +kernel
theorem dX3_judgeRow_31 : decode cX3_judgeRow 31 = .ok (.iload_n 2, 1) := by decide +kernel
theorem dX3_judgeRow_32 : decode cX3_judgeRow 32 = .ok (.baload, 1) := by decide +kernel
theorem dX3_judgeRow_33 : decode cX3_judgeRow 33 = .ok (.ifCond .eq 5, 3) := by decide +kernel
theorem dX3_judgeRow_36 : decode cX3_judgeRow 36 = .ok (.iconst 2, 1) := by decide +kernel
theorem dX3_judgeRow_37 : decode cX3_judgeRow 37 = .ok (.ireturn, 1) := by decide +kernel
theorem dX3_judgeRow_38 : decode cX3_judgeRow 38 = .ok (.aload_n 0, 1) := by decide +kernel
theorem dX3_judgeRow_39 : decode cX3_judgeRow 39 = .ok (.getfield 27, 3) := by decide +kernel
theorem dX3_judgeRow_42 : decode cX3_judgeRow 42 = .ok (.iload_n 1, 1) := by decide +kernel
theorem dX3_judgeRow_43 : decode cX3_judgeRow 43 = .ok (.laload, 1) := by decide +kernel
theorem dX3_judgeRow_44 : decode cX3_judgeRow 44 = .ok (.aload_n 0, 1) := by decide +kernel
theorem dX3_judgeRow_45 : decode cX3_judgeRow 45 = .ok (.getfield 27, 3) := by decide +kernel
theorem dX3_judgeRow_48 : decode cX3_judgeRow 48 = .ok (.iload_n 2, 1) := by decide +kernel
theorem dX3_judgeRow_49 : decode cX3_judgeRow 49 = .ok (.laload, 1) := by decide +kernel
theorem dX3_judgeRow_50 : decode cX3_judgeRow 50 = .ok (.lcmp, 1) := by decide +kernel
theorem dX3_judgeRow_51 : decode cX3_judgeRow 51 = .ok (.ifCond .ne 7, 3) := by decide +kernel
theorem dX3_judgeRow_54 : decode cX3_judgeRow 54 = .ok (.iconst 0, 1) := by decide +kernel
theorem dX3_judgeRow_55 : decode cX3_judgeRow 55 = .ok (.goto 4, 3) := by decide +kernel
theorem dX3_judgeRow_58 : decode cX3_judgeRow 58 = .ok (.iconst 1, 1) := by decide +kernel
theorem dX3_judgeRow_59 : decode cX3_judgeRow 59 = .ok (.ireturn, 1) := by decide +kernel
theorem dX3_stepRow_0 : decode cX3_stepRow 0 = .ok (.iconst 0, 1) := by decide +kernel
theorem dX3_stepRow_1 : decode cX3_stepRow 1 = .ok (.istore_n 2, 1) := by decide +kernel
theorem dX3_stepRow_2 : decode cX3_stepRow 2 = .ok (.iconst 5, 1) := by decide +kernel
theorem dX3_stepRow_3 : decode cX3_stepRow 3 = .ok (.istore_n 3, 1) := by decide +kernel
theorem dX3_stepRow_4 : decode cX3_stepRow 4 = .ok (.iload_n 3, 1) := by decide +kernel
theorem dX3_stepRow_5 : decode cX3_stepRow 5 = .ok (.ifCond .lt 53, 3) := by decide +kernel
theorem dX3_stepRow_8 : decode cX3_stepRow 8 = .ok (.aload_n 0, 1) := by decide +kernel
theorem dX3_stepRow_9 : decode cX3_stepRow 9 = .ok (.iload_n 3, 1) := by decide +kernel
theorem dX3_stepRow_10 : decode cX3_stepRow 10 = .ok (.invokevirtual 91, 3) := by decide +kernel
theorem dX3_stepRow_13 : decode cX3_stepRow 13 = .ok (.ifCond .eq 39, 3) := by decide +kernel
theorem dX3_stepRow_16 : decode cX3_stepRow 16 = .ok (.iload_n 2, 1) := by decide +kernel
theorem dX3_stepRow_17 : decode cX3_stepRow 17 = .ok (.iconst 1, 1) := by decide +kernel
theorem dX3_stepRow_18 : decode cX3_stepRow 18 = .ok (.iload_n 3, 1) := by decide +kernel
theorem dX3_stepRow_19 : decode cX3_stepRow 19 = .ok (.ishl, 1) := by decide +kernel
theorem dX3_stepRow_20 : decode cX3_stepRow 20 = .ok (.ior, 1) := by decide +kernel
theorem dX3_stepRow_21 : decode cX3_stepRow 21 = .ok (.istore_n 2, 1) := by decide +kernel
theorem dX3_stepRow_22 : decode cX3_stepRow 22 = .ok (.aload_n 0, 1) := by decide +kernel
theorem dX3_stepRow_23 : decode cX3_stepRow 23 = .ok (.getfield 38, 3) := by decide +kernel
theorem dX3_stepRow_26 : decode cX3_stepRow 26 = .ok (.iload_n 3, 1) := by decide +kernel
theorem dX3_stepRow_27 : decode cX3_stepRow 27 = .ok (.iaload, 1) := by decide +kernel
theorem dX3_stepRow_28 : decode cX3_stepRow 28 = .ok (.iload_n 1, 1) := by decide +kernel
theorem dX3_stepRow_29 : decode cX3_stepRow 29 = .ok (.if_icmp .ge 15, 3) := by decide +kernel
theorem dX3_stepRow_32 : decode cX3_stepRow 32 = .ok (.aload_n 0, 1) := by decide +kernel
theorem dX3_stepRow_33 : decode cX3_stepRow 33 = .ok (.getfield 38, 3) := by decide +kernel
theorem dX3_stepRow_36 : decode cX3_stepRow 36 = .ok (.iload_n 3, 1) := by decide +kernel
theorem dX3_stepRow_37 : decode cX3_stepRow 37 = .ok (.dup2, 1) := by decide +kernel
theorem dX3_stepRow_38 : decode cX3_stepRow 38 = .ok (.iaload, 1) := by decide +kernel
theorem dX3_stepRow_39 : decode cX3_stepRow 39 = .ok (.iconst 1, 1) := by decide +kernel
theorem dX3_stepRow_40 : decode cX3_stepRow 40 = .ok (.iadd, 1) := by decide +kernel
theorem dX3_stepRow_41 : decode cX3_stepRow 41 = .ok (.iastore, 1) := by decide +kernel
theorem dX3_stepRow_42 : decode cX3_stepRow 42 = .ok (.iload_n 2, 1) := by decide +kernel
theorem dX3_stepRow_43 : decode cX3_stepRow 43 = .ok (.ireturn, 1) := by decide +kernel
theorem dX3_stepRow_44 : decode cX3_stepRow 44 = .ok (.aload_n 0, 1) := by decide +kernel
theorem dX3_stepRow_45 : decode cX3_stepRow 45 = .ok (.getfield 38, 3) := by decide +kernel
theorem dX3_stepRow_48 : decode cX3_stepRow 48 = .ok (.iload_n 3, 1) := by decide +kernel
theorem dX3_stepRow_49 : decode cX3_stepRow 49 = .ok (.iload_n 1, 1) := by decide +kernel
theorem dX3_stepRow_50 : decode cX3_stepRow 50 = .ok (.ineg, 1) := by decide +kernel
theorem dX3_stepRow_51 : decode cX3_stepRow 51 = .ok (.iastore, 1) := by decide +kernel
theorem dX3_stepRow_52 : decode cX3_stepRow 52 = .ok (.iinc 3 (-1), 3) := by decide +kernel
theorem dX3_stepRow_55 : decode cX3_stepRow 55 = .ok (.goto (-51), 3) := by decide +kernel
theorem dX3_stepRow_58 : decode cX3_stepRow 58 = .ok (.iload_n 2, 1) := by decide +kernel
theorem dX3_stepRow_59 : decode cX3_stepRow 59 = .ok (.ireturn, 1) := by decide +kernel
theorem dX3_retake_0 : decode cX3_retake 0 = .ok (.iconst 0, 1) := by decide +kernel
theorem dX3_retake_1 : decode cX3_retake 1 = .ok (.istore_n 2, 1) := by decide +kernel
theorem dX3_retake_2 : decode cX3_retake 2 = .ok (.iload_n 2, 1) := by decide +kernel
theorem dX3_retake_3 : decode cX3_retake 3 = .ok (.aload_n 0, 1) := by decide +kernel
theorem dX3_retake_4 : decode cX3_retake 4 = .ok (.getfield 53, 3) := by decide +kernel
theorem dX3_retake_7 : decode cX3_retake 7 = .ok (.if_icmp .ge 25, 3) := by decide +kernel
theorem dX3_retake_10 : decode cX3_retake 10 = .ok (.aload_n 0, 1) := by decide +kernel
theorem dX3_retake_11 : decode cX3_retake 11 = .ok (.getfield 24, 3) := by decide +kernel
theorem dX3_retake_14 : decode cX3_retake 14 = .ok (.iload_n 2, 1) := by decide +kernel
theorem dX3_retake_15 : decode cX3_retake 15 = .ok (.iaload, 1) := by decide +kernel
theorem dX3_retake_16 : decode cX3_retake 16 = .ok (.iload_n 1, 1) := by decide +kernel
theorem dX3_retake_17 : decode cX3_retake 17 = .ok (.iand, 1) := by decide +kernel
theorem dX3_retake_18 : decode cX3_retake 18 = .ok (.ifCond .eq 8, 3) := by decide +kernel
theorem dX3_retake_21 : decode cX3_retake 21 = .ok (.aload_n 0, 1) := by decide +kernel
theorem dX3_retake_22 : decode cX3_retake 22 = .ok (.iload_n 2, 1) := by decide +kernel
theorem dX3_retake_23 : decode cX3_retake 23 = .ok (.invokevirtual 105, 3) := by decide +kernel
theorem dX3_retake_26 : decode cX3_retake 26 = .ok (.iinc 2 1, 3) := by decide +kernel
theorem dX3_retake_29 : decode cX3_retake 29 = .ok (.goto (-27), 3) := by decide +kernel
theorem dX3_retake_32 : decode cX3_retake 32 = .ok (.return_, 1) := by decide +kernel
theorem dX3_takeStep_0 : decode cX3_takeStep 0 = .ok (.aload_n 0, 1) := by decide +kernel
theorem dX3_takeStep_1 : decode cX3_takeStep 1 = .ok (.getfield 11, 3) := by decide +kernel
theorem dX3_takeStep_4 : decode cX3_takeStep 4 = .ok (.iload_n 1, 1) := by decide +kernel
theorem dX3_takeStep_5 : decode cX3_takeStep 5 = .ok (.iaload, 1) := by decide +kernel
theorem dX3_takeStep_6 : decode cX3_takeStep 6 = .ok (.istore_n 2, 1) := by decide +kernel
theorem dX3_takeStep_7 : decode cX3_takeStep 7 = .ok (.iconst 1, 1) := by decide +kernel
theorem dX3_takeStep_8 : decode cX3_takeStep 8 = .ok (.istore_n 3, 1) := by decide +kernel
theorem dX3_takeStep_9 : decode cX3_takeStep 9 = .ok (.iload_n 2, 1) := by decide +kernel
theorem dX3_takeStep_10 : decode cX3_takeStep 10 = .ok (.ifCond .ne 17, 3) := by decide +kernel
theorem dX3_takeStep_13 : decode cX3_takeStep 13 = .ok (.aload_n 0, 1) := by decide +kernel
theorem dX3_takeStep_14 : decode cX3_takeStep 14 = .ok (.aload_n 0, 1) := by decide +kernel
theorem dX3_takeStep_15 : decode cX3_takeStep 15 = .ok (.getfield 15, 3) := by decide +kernel
theorem dX3_takeStep_18 : decode cX3_takeStep 18 = .ok (.iload_n 1, 1) := by decide +kernel
theorem dX3_takeStep_19 : decode cX3_takeStep 19 = .ok (.iaload, 1) := by decide +kernel
theorem dX3_takeStep_20 : decode cX3_takeStep 20 = .ok (.i2l, 1) := by decide +kernel
theorem dX3_takeStep_21 : decode cX3_takeStep 21 = .ok (.putfield 87, 3) := by decide +kernel
theorem dX3_takeStep_24 : decode cX3_takeStep 24 = .ok (.goto 143, 3) := by decide +kernel
theorem dX3_takeStep_27 : decode cX3_takeStep 27 = .ok (.iload_n 2, 1) := by decide +kernel
theorem dX3_takeStep_28 : decode cX3_takeStep 28 = .ok (.iconst 1, 1) := by decide +kernel
theorem dX3_takeStep_29 : decode cX3_takeStep 29 = .ok (.if_icmp .ne 22, 3) := by decide +kernel
theorem dX3_takeStep_32 : decode cX3_takeStep 32 = .ok (.aload_n 0, 1) := by decide +kernel
theorem dX3_takeStep_33 : decode cX3_takeStep 33 = .ok (.aload_n 0, 1) := by decide +kernel
theorem dX3_takeStep_34 : decode cX3_takeStep 34 = .ok (.getfield 38, 3) := by decide +kernel
theorem dX3_takeStep_37 : decode cX3_takeStep 37 = .ok (.aload_n 0, 1) := by decide +kernel
theorem dX3_takeStep_38 : decode cX3_takeStep 38 = .ok (.getfield 15, 3) := by decide +kernel
theorem dX3_takeStep_41 : decode cX3_takeStep 41 = .ok (.iload_n 1, 1) := by decide +kernel
theorem dX3_takeStep_42 : decode cX3_takeStep 42 = .ok (.iaload, 1) := by decide +kernel
theorem dX3_takeStep_43 : decode cX3_takeStep 43 = .ok (.iaload, 1) := by decide +kernel
theorem dX3_takeStep_44 : decode cX3_takeStep 44 = .ok (.i2l, 1) := by decide +kernel
theorem dX3_takeStep_45 : decode cX3_takeStep 45 = .ok (.putfield 87, 3) := by decide +kernel
theorem dX3_takeStep_48 : decode cX3_takeStep 48 = .ok (.goto 119, 3) := by decide +kernel
theorem dX3_takeStep_51 : decode cX3_takeStep 51 = .ok (.iload_n 2, 1) := by decide +kernel
theorem dX3_takeStep_52 : decode cX3_takeStep 52 = .ok (.iconst 5, 1) := by decide +kernel
theorem dX3_takeStep_53 : decode cX3_takeStep 53 = .ok (.if_icmp .ne 50, 3) := by decide +kernel
theorem dX3_takeStep_56 : decode cX3_takeStep 56 = .ok (.aload_n 0, 1) := by decide +kernel
theorem dX3_takeStep_57 : decode cX3_takeStep 57 = .ok (.getfield 31, 3) := by decide +kernel
theorem dX3_takeStep_60 : decode cX3_takeStep 60 = .ok (.aload_n 0, 1) := by decide +kernel
theorem dX3_takeStep_61 : decode cX3_takeStep 61 = .ok (.getfield 18, 3) := by decide +kernel
theorem dX3_takeStep_64 : decode cX3_takeStep 64 = .ok (.iload_n 1, 1) := by decide +kernel
theorem dX3_takeStep_65 : decode cX3_takeStep 65 = .ok (.iaload, 1) := by decide +kernel
theorem dX3_takeStep_66 : decode cX3_takeStep 66 = .ok (.baload, 1) := by decide +kernel
theorem dX3_takeStep_67 : decode cX3_takeStep 67 = .ok (.ifCond .ne 31, 3) := by decide +kernel
theorem dX3_takeStep_70 : decode cX3_takeStep 70 = .ok (.aload_n 0, 1) := by decide +kernel
theorem dX3_takeStep_71 : decode cX3_takeStep 71 = .ok (.aload_n 0, 1) := by decide +kernel
theorem dX3_takeStep_72 : decode cX3_takeStep 72 = .ok (.getfield 27, 3) := by decide +kernel
theorem dX3_takeStep_75 : decode cX3_takeStep 75 = .ok (.aload_n 0, 1) := by decide +kernel
theorem dX3_takeStep_76 : decode cX3_takeStep 76 = .ok (.getfield 18, 3) := by decide +kernel
theorem dX3_takeStep_79 : decode cX3_takeStep 79 = .ok (.iload_n 1, 1) := by decide +kernel
theorem dX3_takeStep_80 : decode cX3_takeStep 80 = .ok (.iaload, 1) := by decide +kernel
theorem dX3_takeStep_81 : decode cX3_takeStep 81 = .ok (.laload, 1) := by decide +kernel
theorem dX3_takeStep_82 : decode cX3_takeStep 82 = .ok (.aload_n 0, 1) := by decide +kernel
theorem dX3_takeStep_83 : decode cX3_takeStep 83 = .ok (.getfield 15, 3) := by decide +kernel
theorem dX3_takeStep_86 : decode cX3_takeStep 86 = .ok (.iload_n 1, 1) := by decide +kernel
theorem dX3_takeStep_87 : decode cX3_takeStep 87 = .ok (.iaload, 1) := by decide +kernel
theorem dX3_takeStep_88 : decode cX3_takeStep 88 = .ok (.invokevirtual 108, 3) := by decide +kernel
theorem dX3_takeStep_91 : decode cX3_takeStep 91 = .ok (.ifCond .eq 7, 3) := by decide +kernel
theorem dX3_takeStep_94 : decode cX3_takeStep 94 = .ok (.iconst 1, 1) := by decide +kernel
theorem dX3_takeStep_95 : decode cX3_takeStep 95 = .ok (.goto 4, 3) := by decide +kernel
theorem dX3_takeStep_98 : decode cX3_takeStep 98 = .ok (.iconst 0, 1) := by decide +kernel
theorem dX3_takeStep_99 : decode cX3_takeStep 99 = .ok (.istore_n 3, 1) := by decide +kernel
theorem dX3_takeStep_100 : decode cX3_takeStep 100 = .ok (.goto 67, 3) := by decide +kernel
theorem dX3_takeStep_103 : decode cX3_takeStep 103 = .ok (.aload_n 0, 1) := by decide +kernel
theorem dX3_takeStep_104 : decode cX3_takeStep 104 = .ok (.getfield 31, 3) := by decide +kernel
theorem dX3_takeStep_107 : decode cX3_takeStep 107 = .ok (.aload_n 0, 1) := by decide +kernel
theorem dX3_takeStep_108 : decode cX3_takeStep 108 = .ok (.getfield 18, 3) := by decide +kernel
theorem dX3_takeStep_111 : decode cX3_takeStep 111 = .ok (.iload_n 1, 1) := by decide +kernel
theorem dX3_takeStep_112 : decode cX3_takeStep 112 = .ok (.iaload, 1) := by decide +kernel
theorem dX3_takeStep_113 : decode cX3_takeStep 113 = .ok (.baload, 1) := by decide +kernel
theorem dX3_takeStep_114 : decode cX3_takeStep 114 = .ok (.ifCond .ne 51, 3) := by decide +kernel
theorem dX3_takeStep_117 : decode cX3_takeStep 117 = .ok (.aload_n 0, 1) := by decide +kernel
theorem dX3_takeStep_118 : decode cX3_takeStep 118 = .ok (.getfield 31, 3) := by decide +kernel
theorem dX3_takeStep_121 : decode cX3_takeStep 121 = .ok (.aload_n 0, 1) := by decide +kernel
theorem dX3_takeStep_122 : decode cX3_takeStep 122 = .ok (.getfield 21, 3) := by decide +kernel
theorem dX3_takeStep_125 : decode cX3_takeStep 125 = .ok (.iload_n 1, 1) := by decide +kernel
theorem dX3_takeStep_126 : decode cX3_takeStep 126 = .ok (.iaload, 1) := by decide +kernel
theorem dX3_takeStep_127 : decode cX3_takeStep 127 = .ok (.baload, 1) := by decide +kernel
theorem dX3_takeStep_128 : decode cX3_takeStep 128 = .ok (.ifCond .ne 37, 3) := by decide +kernel
theorem dX3_takeStep_131 : decode cX3_takeStep 131 = .ok (.aload_n 0, 1) := by decide +kernel
theorem dX3_takeStep_132 : decode cX3_takeStep 132 = .ok (.iload_n 2, 1) := by decide +kernel
theorem dX3_takeStep_133 : decode cX3_takeStep 133 = .ok (.aload_n 0, 1) := by decide +kernel
theorem dX3_takeStep_134 : decode cX3_takeStep 134 = .ok (.getfield 27, 3) := by decide +kernel
theorem dX3_takeStep_137 : decode cX3_takeStep 137 = .ok (.aload_n 0, 1) := by decide +kernel
theorem dX3_takeStep_138 : decode cX3_takeStep 138 = .ok (.getfield 18, 3) := by decide +kernel
theorem dX3_takeStep_141 : decode cX3_takeStep 141 = .ok (.iload_n 1, 1) := by decide +kernel
theorem dX3_takeStep_142 : decode cX3_takeStep 142 = .ok (.iaload, 1) := by decide +kernel
theorem dX3_takeStep_143 : decode cX3_takeStep 143 = .ok (.laload, 1) := by decide +kernel
theorem dX3_takeStep_144 : decode cX3_takeStep 144 = .ok (.aload_n 0, 1) := by decide +kernel
theorem dX3_takeStep_145 : decode cX3_takeStep 145 = .ok (.getfield 27, 3) := by decide +kernel
theorem dX3_takeStep_148 : decode cX3_takeStep 148 = .ok (.aload_n 0, 1) := by decide +kernel
theorem dX3_takeStep_149 : decode cX3_takeStep 149 = .ok (.getfield 21, 3) := by decide +kernel
theorem dX3_takeStep_152 : decode cX3_takeStep 152 = .ok (.iload_n 1, 1) := by decide +kernel
theorem dX3_takeStep_153 : decode cX3_takeStep 153 = .ok (.iaload, 1) := by decide +kernel
theorem dX3_takeStep_154 : decode cX3_takeStep 154 = .ok (.laload, 1) := by decide +kernel
theorem dX3_takeStep_155 : decode cX3_takeStep 155 = .ok (.invokevirtual 112, 3) := by decide +kernel
theorem dX3_takeStep_158 : decode cX3_takeStep 158 = .ok (.ifCond .eq 7, 3) := by decide +kernel
theorem dX3_takeStep_161 : decode cX3_takeStep 161 = .ok (.iconst 1, 1) := by decide +kernel
theorem dX3_takeStep_162 : decode cX3_takeStep 162 = .ok (.goto 4, 3) := by decide +kernel
theorem dX3_takeStep_165 : decode cX3_takeStep 165 = .ok (.iconst 0, 1) := by decide +kernel
theorem dX3_takeStep_166 : decode cX3_takeStep 166 = .ok (.istore_n 3, 1) := by decide +kernel
theorem dX3_takeStep_167 : decode cX3_takeStep 167 = .ok (.aload_n 0, 1) := by decide +kernel
theorem dX3_takeStep_168 : decode cX3_takeStep 168 = .ok (.getfield 27, 3) := by decide +kernel
theorem dX3_takeStep_171 : decode cX3_takeStep 171 = .ok (.iload_n 1, 1) := by decide +kernel
theorem dX3_takeStep_172 : decode cX3_takeStep 172 = .ok (.aload_n 0, 1) := by decide +kernel
theorem dX3_takeStep_173 : decode cX3_takeStep 173 = .ok (.getfield 87, 3) := by decide +kernel
theorem dX3_takeStep_176 : decode cX3_takeStep 176 = .ok (.lastore, 1) := by decide +kernel
theorem dX3_takeStep_177 : decode cX3_takeStep 177 = .ok (.aload_n 0, 1) := by decide +kernel
theorem dX3_takeStep_178 : decode cX3_takeStep 178 = .ok (.getfield 31, 3) := by decide +kernel
theorem dX3_takeStep_181 : decode cX3_takeStep 181 = .ok (.iload_n 1, 1) := by decide +kernel
theorem dX3_takeStep_182 : decode cX3_takeStep 182 = .ok (.iload_n 3, 1) := by decide +kernel
theorem dX3_takeStep_183 : decode cX3_takeStep 183 = .ok (.ifCond .ne 7, 3) := by decide +kernel
theorem dX3_takeStep_186 : decode cX3_takeStep 186 = .ok (.iconst 1, 1) := by decide +kernel
theorem dX3_takeStep_187 : decode cX3_takeStep 187 = .ok (.goto 4, 3) := by decide +kernel
theorem dX3_takeStep_190 : decode cX3_takeStep 190 = .ok (.iconst 0, 1) := by decide +kernel
theorem dX3_takeStep_191 : decode cX3_takeStep 191 = .ok (.bastore, 1) := by decide +kernel
theorem dX3_takeStep_192 : decode cX3_takeStep 192 = .ok (.return_, 1) := by decide +kernel
theorem dX3_combine_0 : decode cX3_combine 0 = .ok (.iload_n 1, 1) := by decide +kernel
theorem dX3_combine_1 : decode cX3_combine 1 = .ok (.iconst 4, 1) := by decide +kernel
theorem dX3_combine_2 : decode cX3_combine 2 = .ok (.if_icmp .ne 18, 3) := by decide +kernel
theorem dX3_combine_5 : decode cX3_combine 5 = .ok (.aload_n 0, 1) := by decide +kernel
theorem dX3_combine_6 : decode cX3_combine 6 = .ok (.lload_n 2, 1) := by decide +kernel
theorem dX3_combine_7 : decode cX3_combine 7 = .ok (.lload 4, 2) := by decide +kernel
theorem dX3_combine_9 : decode cX3_combine 9 = .ok (.lmul, 1) := by decide +kernel
theorem dX3_combine_10 : decode cX3_combine 10 = .ok (.putfield 87, 3) := by decide +kernel
theorem dX3_combine_13 : decode cX3_combine 13 = .ok (.lload_n 2, 1) := by decide +kernel
theorem dX3_combine_14 : decode cX3_combine 14 = .ok (.lload 4, 2) := by decide +kernel
theorem dX3_combine_16 : decode cX3_combine 16 = .ok (.invokestatic 116, 3) := by decide +kernel
theorem dX3_combine_19 : decode cX3_combine 19 = .ok (.ireturn, 1) := by decide +kernel
theorem dX3_combine_20 : decode cX3_combine 20 = .ok (.iload_n 1, 1) := by decide +kernel
theorem dX3_combine_21 : decode cX3_combine 21 = .ok (.iconst 2, 1) := by decide +kernel
theorem dX3_combine_22 : decode cX3_combine 22 = .ok (.if_icmp .ne 36, 3) := by decide +kernel
theorem dX3_combine_25 : decode cX3_combine 25 = .ok (.aload_n 0, 1) := by decide +kernel
theorem dX3_combine_26 : decode cX3_combine 26 = .ok (.lload_n 2, 1) := by decide +kernel
theorem dX3_combine_27 : decode cX3_combine 27 = .ok (.lload 4, 2) := by decide +kernel
theorem dX3_combine_29 : decode cX3_combine 29 = .ok (.ladd, 1) := by decide +kernel
theorem dX3_combine_30 : decode cX3_combine 30 = .ok (.putfield 87, 3) := by decide +kernel
theorem dX3_combine_33 : decode cX3_combine 33 = .ok (.lload_n 2, 1) := by decide +kernel
theorem dX3_combine_34 : decode cX3_combine 34 = .ok (.aload_n 0, 1) := by decide +kernel
theorem dX3_combine_35 : decode cX3_combine 35 = .ok (.getfield 87, 3) := by decide +kernel
theorem dX3_combine_38 : decode cX3_combine 38 = .ok (.lxor, 1) := by decide +kernel
theorem dX3_combine_39 : decode cX3_combine 39 = .ok (.lload 4, 2) := by decide +kernel
theorem dX3_combine_41 : decode cX3_combine 41 = .ok (.aload_n 0, 1) := by decide +kernel
theorem dX3_combine_42 : decode cX3_combine 42 = .ok (.getfield 87, 3) := by decide +kernel
theorem dX3_combine_45 : decode cX3_combine 45 = .ok (.lxor, 1) := by decide +kernel
theorem dX3_combine_46 : decode cX3_combine 46 = .ok (.land, 1) := by decide +kernel
theorem dX3_combine_47 : decode cX3_combine 47 = .ok (.lconst 0, 1) := by decide +kernel
theorem dX3_combine_48 : decode cX3_combine 48 = .ok (.lcmp, 1) := by decide +kernel
theorem dX3_combine_49 : decode cX3_combine 49 = .ok (.ifCond .lt 7, 3) := by decide +kernel
theorem dX3_combine_52 : decode cX3_combine 52 = .ok (.iconst 1, 1) := by decide +kernel
theorem dX3_combine_53 : decode cX3_combine 53 = .ok (.goto 4, 3) := by decide +kernel
theorem dX3_combine_56 : decode cX3_combine 56 = .ok (.iconst 0, 1) := by decide +kernel
theorem dX3_combine_57 : decode cX3_combine 57 = .ok (.ireturn, 1) := by decide +kernel
theorem dX3_combine_58 : decode cX3_combine 58 = .ok (.aload_n 0, 1) := by decide +kernel
theorem dX3_combine_59 : decode cX3_combine 59 = .ok (.lload_n 2, 1) := by decide +kernel
theorem dX3_combine_60 : decode cX3_combine 60 = .ok (.lload 4, 2) := by decide +kernel
theorem dX3_combine_62 : decode cX3_combine 62 = .ok (.lsub, 1) := by decide +kernel
theorem dX3_combine_63 : decode cX3_combine 63 = .ok (.putfield 87, 3) := by decide +kernel
theorem dX3_combine_66 : decode cX3_combine 66 = .ok (.lload_n 2, 1) := by decide +kernel
theorem dX3_combine_67 : decode cX3_combine 67 = .ok (.lload 4, 2) := by decide +kernel
theorem dX3_combine_69 : decode cX3_combine 69 = .ok (.lxor, 1) := by decide +kernel
theorem dX3_combine_70 : decode cX3_combine 70 = .ok (.lload_n 2, 1) := by decide +kernel
theorem dX3_combine_71 : decode cX3_combine 71 = .ok (.aload_n 0, 1) := by decide +kernel
theorem dX3_combine_72 : decode cX3_combine 72 = .ok (.getfield 87, 3) := by decide +kernel
theorem dX3_combine_75 : decode cX3_combine 75 = .ok (.lxor, 1) := by decide +kernel
theorem dX3_combine_76 : decode cX3_combine 76 = .ok (.land, 1) := by decide +kernel
theorem dX3_combine_77 : decode cX3_combine 77 = .ok (.lconst 0, 1) := by decide +kernel
theorem dX3_combine_78 : decode cX3_combine 78 = .ok (.lcmp, 1) := by decide +kernel
theorem dX3_combine_79 : decode cX3_combine 79 = .ok (.ifCond .lt 7, 3) := by decide +kernel
theorem dX3_combine_82 : decode cX3_combine 82 = .ok (.iconst 1, 1) := by decide +kernel
theorem dX3_combine_83 : decode cX3_combine 83 = .ok (.goto 4, 3) := by decide +kernel
theorem dX3_combine_86 : decode cX3_combine 86 = .ok (.iconst 0, 1) := by decide +kernel
theorem dX3_combine_87 : decode cX3_combine 87 = .ok (.ireturn, 1) := by decide +kernel
theorem dX3_raise_0 : decode cX3_raise 0 = .ok (.aload_n 0, 1) := by decide +kernel
theorem dX3_raise_1 : decode cX3_raise 1 = .ok (.lconst 1, 1) := by decide +kernel
theorem dX3_raise_2 : decode cX3_raise 2 = .ok (.putfield 87, 3) := by decide +kernel
theorem dX3_raise_5 : decode cX3_raise 5 = .ok (.iconst 0, 1) := by decide +kernel
theorem dX3_raise_6 : decode cX3_raise 6 = .ok (.istore 4, 2) := by decide +kernel
theorem dX3_raise_8 : decode cX3_raise 8 = .ok (.iload 4, 2) := by decide +kernel
theorem dX3_raise_10 : decode cX3_raise 10 = .ok (.iload_n 3, 1) := by decide +kernel
theorem dX3_raise_11 : decode cX3_raise 11 = .ok (.if_icmp .ge 32, 3) := by decide +kernel
theorem dX3_raise_14 : decode cX3_raise 14 = .ok (.aload_n 0, 1) := by decide +kernel
theorem dX3_raise_15 : decode cX3_raise 15 = .ok (.getfield 87, 3) := by decide +kernel
theorem dX3_raise_18 : decode cX3_raise 18 = .ok (.lload_n 1, 1) := by decide +kernel
theorem dX3_raise_19 : decode cX3_raise 19 = .ok (.invokestatic 116, 3) := by decide +kernel
theorem dX3_raise_22 : decode cX3_raise 22 = .ok (.ifCond .ne 5, 3) := by decide +kernel
theorem dX3_raise_25 : decode cX3_raise 25 = .ok (.iconst 0, 1) := by decide +kernel
theorem dX3_raise_26 : decode cX3_raise 26 = .ok (.ireturn, 1) := by decide +kernel
theorem dX3_raise_27 : decode cX3_raise 27 = .ok (.aload_n 0, 1) := by decide +kernel
theorem dX3_raise_28 : decode cX3_raise 28 = .ok (.dup, 1) := by decide +kernel
theorem dX3_raise_29 : decode cX3_raise 29 = .ok (.getfield 87, 3) := by decide +kernel
theorem dX3_raise_32 : decode cX3_raise 32 = .ok (.lload_n 1, 1) := by decide +kernel
theorem dX3_raise_33 : decode cX3_raise 33 = .ok (.lmul, 1) := by decide +kernel
theorem dX3_raise_34 : decode cX3_raise 34 = .ok (.putfield 87, 3) := by decide +kernel
theorem dX3_raise_37 : decode cX3_raise 37 = .ok (.iinc 4 1, 3) := by decide +kernel
theorem dX3_raise_40 : decode cX3_raise 40 = .ok (.goto (-32), 3) := by decide +kernel
theorem dX3_raise_43 : decode cX3_raise 43 = .ok (.iconst 1, 1) := by decide +kernel
theorem dX3_raise_44 : decode cX3_raise 44 = .ok (.ireturn, 1) := by decide +kernel
theorem dX3_isSmall_0 : decode cX3_isSmall 0 = .ok (.lload_n 0, 1) := by decide +kernel
theorem dX3_isSmall_1 : decode cX3_isSmall 1 = .ok (.ldc2_w 120, 3) := by decide +kernel
theorem dX3_isSmall_4 : decode cX3_isSmall 4 = .ok (.lcmp, 1) := by decide +kernel
theorem dX3_isSmall_5 : decode cX3_isSmall 5 = .ok (.ifCond .lt 15, 3) := by decide +kernel
theorem dX3_isSmall_8 : decode cX3_isSmall 8 = .ok (.lload_n 0, 1) := by decide +kernel
theorem dX3_isSmall_9 : decode cX3_isSmall 9 = .ok (.ldc2_w 122, 3) := by decide +kernel
theorem dX3_isSmall_12 : decode cX3_isSmall 12 = .ok (.lcmp, 1) := by decide +kernel
theorem dX3_isSmall_13 : decode cX3_isSmall 13 = .ok (.ifCond .gt 7, 3) := by decide +kernel
theorem dX3_isSmall_16 : decode cX3_isSmall 16 = .ok (.iconst 1, 1) := by decide +kernel
theorem dX3_isSmall_17 : decode cX3_isSmall 17 = .ok (.goto 4, 3) := by decide +kernel
theorem dX3_isSmall_20 : decode cX3_isSmall 20 = .ok (.iconst 0, 1) := by decide +kernel
theorem dX3_isSmall_21 : decode cX3_isSmall 21 = .ok (.ireturn, 1) := by decide +kernel
theorem dX3_productFits_0 : decode cX3_productFits 0 = .ok (.lload_n 0, 1) := by decide +kernel
theorem dX3_productFits_1 : decode cX3_productFits 1 = .ok (.invokestatic 124, 3) := by decide +kernel
theorem dX3_productFits_4 : decode cX3_productFits 4 = .ok (.ifCond .eq 10, 3) := by decide +kernel
theorem dX3_productFits_7 : decode cX3_productFits 7 = .ok (.lload_n 2, 1) := by decide +kernel
theorem dX3_productFits_8 : decode cX3_productFits 8 = .ok (.invokestatic 124, 3) := by decide +kernel
theorem dX3_productFits_11 : decode cX3_productFits 11 = .ok (.ifCond .ne 9, 3) := by decide +kernel
theorem dX3_productFits_14 : decode cX3_productFits 14 = .ok (.lload_n 2, 1) := by decide +kernel
theorem dX3_productFits_15 : decode cX3_productFits 15 = .ok (.lconst 0, 1) := by decide +kernel
theorem dX3_productFits_16 : decode cX3_productFits 16 = .ok (.lcmp, 1) := by decide +kernel
theorem dX3_productFits_17 : decode cX3_productFits 17 = .ok (.ifCond .ne 5, 3) := by decide +kernel
theorem dX3_productFits_20 : decode cX3_productFits 20 = .ok (.iconst 1, 1) := by decide +kernel
theorem dX3_productFits_21 : decode cX3_productFits 21 = .ok (.ireturn, 1) := by decide +kernel
theorem dX3_productFits_22 : decode cX3_productFits 22 = .ok (.lload_n 2, 1) := by decide +kernel
theorem dX3_productFits_23 : decode cX3_productFits 23 = .ok (.ldc2_w 128, 3) := by decide +kernel
theorem dX3_productFits_26 : decode cX3_productFits 26 = .ok (.lcmp, 1) := by decide +kernel
theorem dX3_productFits_27 : decode cX3_productFits 27 = .ok (.ifCond .ne 17, 3) := by decide +kernel
theorem dX3_productFits_30 : decode cX3_productFits 30 = .ok (.lload_n 0, 1) := by decide +kernel
theorem dX3_productFits_31 : decode cX3_productFits 31 = .ok (.ldc2_w 130, 3) := by decide +kernel
theorem dX3_productFits_34 : decode cX3_productFits 34 = .ok (.lcmp, 1) := by decide +kernel
theorem dX3_productFits_35 : decode cX3_productFits 35 = .ok (.ifCond .eq 7, 3) := by decide +kernel
theorem dX3_productFits_38 : decode cX3_productFits 38 = .ok (.iconst 1, 1) := by decide +kernel
theorem dX3_productFits_39 : decode cX3_productFits 39 = .ok (.goto 4, 3) := by decide +kernel
theorem dX3_productFits_42 : decode cX3_productFits 42 = .ok (.iconst 0, 1) := by decide +kernel
theorem dX3_productFits_43 : decode cX3_productFits 43 = .ok (.ireturn, 1) := by decide +kernel
theorem dX3_productFits_44 : decode cX3_productFits 44 = .ok (.lload_n 0, 1) := by decide +kernel
theorem dX3_productFits_45 : decode cX3_productFits 45 = .ok (.lload_n 2, 1) := by decide +kernel
theorem dX3_productFits_46 : decode cX3_productFits 46 = .ok (.lmul, 1) := by decide +kernel
theorem dX3_productFits_47 : decode cX3_productFits 47 = .ok (.lload_n 2, 1) := by decide +kernel
theorem dX3_productFits_48 : decode cX3_productFits 48 = .ok (.ldiv, 1) := by decide +kernel
theorem dX3_productFits_49 : decode cX3_productFits 49 = .ok (.lload_n 0, 1) := by decide +kernel
theorem dX3_productFits_50 : decode cX3_productFits 50 = .ok (.lcmp, 1) := by decide +kernel
theorem dX3_productFits_51 : decode cX3_productFits 51 = .ok (.ifCond .ne 7, 3) := by decide +kernel
theorem dX3_productFits_54 : decode cX3_productFits 54 = .ok (.iconst 1, 1) := by decide +kernel
theorem dX3_productFits_55 : decode cX3_productFits 55 = .ok (.goto 4, 3) := by decide +kernel
theorem dX3_productFits_58 : decode cX3_productFits 58 = .ok (.iconst 0, 1) := by decide +kernel
theorem dX3_productFits_59 : decode cX3_productFits 59 = .ok (.ireturn, 1) := by decide +kernel
theorem dX4_init_0 : decode cX4_init 0 = .ok (.aload_n 0, 1) := by decide +kernel
theorem dX4_init_1 : decode cX4_init 1 = .ok (.invokespecial 3, 3) := by decide +kernel
theorem dX4_init_4 : decode cX4_init 4 = .ok (.aload_n 0, 1) := by decide +kernel
theorem dX4_init_5 : decode cX4_init 5 = .ok (.aload_n 1, 1) := by decide +kernel
theorem dX4_init_6 : decode cX4_init 6 = .ok (.putfield 9, 3) := by decide +kernel
theorem dX4_init_9 : decode cX4_init 9 = .ok (.return_, 1) := by decide +kernel
theorem dX4_readAll_0 : decode cX4_readAll 0 = .ok (.aload_n 0, 1) := by decide +kernel
theorem dX4_readAll_1 : decode cX4_readAll 1 = .ok (.aload_n 1, 1) := by decide +kernel
theorem dX4_readAll_2 : decode cX4_readAll 2 = .ok (.putfield 15, 3) := by decide +kernel
theorem dX4_readAll_5 : decode cX4_readAll 5 = .ok (.aload_n 0, 1) := by decide +kernel
theorem dX4_readAll_6 : decode cX4_readAll 6 = .ok (.getfield 15, 3) := by decide +kernel
theorem dX4_readAll_9 : decode cX4_readAll 9 = .ok (.invokevirtual 19, 3) := by decide +kernel
theorem dX4_readAll_12 : decode cX4_readAll 12 = .ok (.aload_n 0, 1) := by decide +kernel
theorem dX4_readAll_13 : decode cX4_readAll 13 = .ok (.getfield 9, 3) := by decide +kernel
theorem dX4_readAll_16 : decode cX4_readAll 16 = .ok (.iconst 0, 1) := by decide +kernel
theorem dX4_readAll_17 : decode cX4_readAll 17 = .ok (.iconst 0, 1) := by decide +kernel
theorem dX4_readAll_18 : decode cX4_readAll 18 = .ok (.invokevirtual 24, 3) := by decide +kernel
theorem dX4_readAll_21 : decode cX4_readAll 21 = .ok (.aload_n 0, 1) := by decide +kernel
theorem dX4_readAll_22 : decode cX4_readAll 22 = .ok (.iconst 0, 1) := by decide +kernel
theorem dX4_readAll_23 : decode cX4_readAll 23 = .ok (.invokevirtual 30, 3) := by decide +kernel
theorem dX4_readAll_26 : decode cX4_readAll 26 = .ok (.ifCond .ne 5, 3) := by decide +kernel
theorem dX4_readAll_29 : decode cX4_readAll 29 = .ok (.iconst 0, 1) := by decide +kernel
theorem dX4_readAll_30 : decode cX4_readAll 30 = .ok (.ireturn, 1) := by decide +kernel
theorem dX4_readAll_31 : decode cX4_readAll 31 = .ok (.aload_n 0, 1) := by decide +kernel
theorem dX4_readAll_32 : decode cX4_readAll 32 = .ok (.getfield 9, 3) := by decide +kernel
theorem dX4_readAll_35 : decode cX4_readAll 35 = .ok (.bipush 61, 2) := by decide +kernel
theorem dX4_readAll_37 : decode cX4_readAll 37 = .ok (.invokevirtual 34, 3) := by decide +kernel
theorem dX4_readAll_40 : decode cX4_readAll 40 = .ok (.ifCond .ne 12, 3) := by decide +kernel
theorem dX4_readAll_43 : decode cX4_readAll 43 = .ok (.aload_n 0, 1) := by decide +kernel
theorem dX4_readAll_44 : decode cX4_readAll 44 = .ok (.getfield 9, 3) := by decide +kernel
theorem dX4_readAll_47 : decode cX4_readAll 47 = .ok (.iconst 1, 1) := by decide +kernel
theorem dX4_readAll_48 : decode cX4_readAll 48 = .ok (.invokevirtual 38, 3) := by decide +kernel
theorem dX4_readAll_51 : decode cX4_readAll 51 = .ok (.ireturn, 1) := by decide +kernel
theorem dX4_readAll_52 : decode cX4_readAll 52 = .ok (.aload_n 0, 1) := by decide +kernel
theorem dX4_readAll_53 : decode cX4_readAll 53 = .ok (.getfield 15, 3) := by decide +kernel
theorem dX4_readAll_56 : decode cX4_readAll 56 = .ok (.aload_n 0, 1) := by decide +kernel
theorem dX4_readAll_57 : decode cX4_readAll 57 = .ok (.getfield 15, 3) := by decide +kernel
theorem dX4_readAll_60 : decode cX4_readAll 60 = .ok (.getfield 41, 3) := by decide +kernel
theorem dX4_readAll_63 : decode cX4_readAll 63 = .ok (.putfield 45, 3) := by decide +kernel
theorem dX4_readAll_66 : decode cX4_readAll 66 = .ok (.aload_n 0, 1) := by decide +kernel
theorem dX4_readAll_67 : decode cX4_readAll 67 = .ok (.getfield 9, 3) := by decide +kernel
theorem dX4_readAll_70 : decode cX4_readAll 70 = .ok (.iconst 1, 1) := by decide +kernel
theorem dX4_readAll_71 : decode cX4_readAll 71 = .ok (.putfield 48, 3) := by decide +kernel
theorem dX4_readAll_74 : decode cX4_readAll 74 = .ok (.aload_n 0, 1) := by decide +kernel
theorem dX4_readAll_75 : decode cX4_readAll 75 = .ok (.getfield 9, 3) := by decide +kernel
theorem dX4_readAll_78 : decode cX4_readAll 78 = .ok (.invokevirtual 51, 3) := by decide +kernel
theorem dX4_readAll_81 : decode cX4_readAll 81 = .ok (.aload_n 0, 1) := by decide +kernel
theorem dX4_readAll_82 : decode cX4_readAll 82 = .ok (.iconst 0, 1) := by decide +kernel
theorem dX4_readAll_83 : decode cX4_readAll 83 = .ok (.invokevirtual 30, 3) := by decide +kernel
theorem dX4_readAll_86 : decode cX4_readAll 86 = .ok (.ifCond .ne 5, 3) := by decide +kernel
theorem dX4_readAll_89 : decode cX4_readAll 89 = .ok (.iconst 0, 1) := by decide +kernel
theorem dX4_readAll_90 : decode cX4_readAll 90 = .ok (.ireturn, 1) := by decide +kernel
theorem dX4_readAll_91 : decode cX4_readAll 91 = .ok (.aload_n 0, 1) := by decide +kernel
theorem dX4_readAll_92 : decode cX4_readAll 92 = .ok (.getfield 9, 3) := by decide +kernel
theorem dX4_readAll_95 : decode cX4_readAll 95 = .ok (.invokevirtual 54, 3) := by decide +kernel
theorem dX4_readAll_98 : decode cX4_readAll 98 = .ok (.ifCond .ne 14, 3) := by decide +kernel
theorem dX4_readAll_101 : decode cX4_readAll 101 = .ok (.aload_n 0, 1) := by decide +kernel
theorem dX4_readAll_102 : decode cX4_readAll 102 = .ok (.getfield 9, 3) := by decide +kernel
theorem dX4_readAll_105 : decode cX4_readAll 105 = .ok (.iconst 1, 1) := by decide +kernel
theorem dX4_readAll_106 : decode cX4_readAll 106 = .ok (.invokevirtual 38, 3) := by decide +kernel
theorem dX4_readAll_109 : decode cX4_readAll 109 = .ok (.ifCond .eq 7, 3) := by decide +kernel
theorem dX4_readAll_112 : decode cX4_readAll 112 = .ok (.iconst 1, 1) := by decide +kernel
theorem dX4_readAll_113 : decode cX4_readAll 113 = .ok (.goto 4, 3) := by decide +kernel
theorem dX4_readAll_116 : decode cX4_readAll 116 = .ok (.iconst 0, 1) := by decide +kernel
theorem dX4_readAll_117 : decode cX4_readAll 117 = .ok (.ireturn, 1) := by decide +kernel
theorem dX4_readSum_0 : decode cX4_readSum 0 = .ok (.aload_n 0, 1) := by decide +kernel
theorem dX4_readSum_1 : decode cX4_readSum 1 = .ok (.iload_n 1, 1) := by decide +kernel
theorem dX4_readSum_2 : decode cX4_readSum 2 = .ok (.invokevirtual 58, 3) := by decide +kernel
theorem dX4_readSum_5 : decode cX4_readSum 5 = .ok (.ifCond .ne 5, 3) := by decide +kernel
theorem dX4_readSum_8 : decode cX4_readSum 8 = .ok (.iconst 0, 1) := by decide +kernel
theorem dX4_readSum_9 : decode cX4_readSum 9 = .ok (.ireturn, 1) := by decide +kernel
theorem dX4_readSum_10 : decode cX4_readSum 10 = .ok (.iconst 0, 1) := by decide +kernel
theorem dX4_readSum_11 : decode cX4_readSum 11 = .ok (.istore_n 2, 1) := by decide +kernel
theorem dX4_readSum_12 : decode cX4_readSum 12 = .ok (.iload_n 2, 1) := by decide +kernel
theorem dX4_readSum_13 : decode cX4_readSum 13 = .ok (.bipush 60, 2) := by decide +kernel
theorem dX4_readSum_15 : decode cX4_readSum 15 = .ok (.if_icmp .ge 70, 3) := by decide +kernel
theorem dX4_readSum_18 : decode cX4_readSum 18 = .ok (.aload_n 0, 1) := by decide +kernel
theorem dX4_readSum_19 : decode cX4_readSum 19 = .ok (.getfield 9, 3) := by decide +kernel
theorem dX4_readSum_22 : decode cX4_readSum 22 = .ok (.bipush 43, 2) := by decide +kernel
theorem dX4_readSum_24 : decode cX4_readSum 24 = .ok (.invokevirtual 34, 3) := by decide +kernel
theorem dX4_readSum_27 : decode cX4_readSum 27 = .ok (.istore_n 3, 1) := by decide +kernel
theorem dX4_readSum_28 : decode cX4_readSum 28 = .ok (.iload_n 3, 1) := by decide +kernel
theorem dX4_readSum_29 : decode cX4_readSum 29 = .ok (.ifCond .ne 17, 3) := by decide +kernel
theorem dX4_readSum_32 : decode cX4_readSum 32 = .ok (.aload_n 0, 1) := by decide +kernel
theorem dX4_readSum_33 : decode cX4_readSum 33 = .ok (.getfield 9, 3) := by decide +kernel
theorem dX4_readSum_36 : decode cX4_readSum 36 = .ok (.bipush 45, 2) := by decide +kernel
theorem dX4_readSum_38 : decode cX4_readSum 38 = .ok (.invokevirtual 34, 3) := by decide +kernel
theorem dX4_readSum_41 : decode cX4_readSum 41 = .ok (.ifCond .ne 5, 3) := by decide +kernel
theorem dX4_readSum_44 : decode cX4_readSum 44 = .ok (.iconst 1, 1) := by decide +kernel
theorem dX4_readSum_45 : decode cX4_readSum 45 = .ok (.ireturn, 1) := by decide +kernel
theorem dX4_readSum_46 : decode cX4_readSum 46 = .ok (.aload_n 0, 1) := by decide +kernel
theorem dX4_readSum_47 : decode cX4_readSum 47 = .ok (.getfield 9, 3) := by decide +kernel
theorem dX4_readSum_50 : decode cX4_readSum 50 = .ok (.invokevirtual 51, 3) := by decide +kernel
theorem dX4_readSum_53 : decode cX4_readSum 53 = .ok (.aload_n 0, 1) := by decide +kernel
theorem dX4_readSum_54 : decode cX4_readSum 54 = .ok (.iload_n 1, 1) := by decide +kernel
theorem dX4_readSum_55 : decode cX4_readSum 55 = .ok (.invokevirtual 58, 3) := by decide +kernel
theorem dX4_readSum_58 : decode cX4_readSum 58 = .ok (.ifCond .ne 5, 3) := by decide +kernel
theorem dX4_readSum_61 : decode cX4_readSum 61 = .ok (.iconst 0, 1) := by decide +kernel
theorem dX4_readSum_62 : decode cX4_readSum 62 = .ok (.ireturn, 1) := by decide +kernel
theorem dX4_readSum_63 : decode cX4_readSum 63 = .ok (.aload_n 0, 1) := by decide +kernel
theorem dX4_readSum_64 : decode cX4_readSum 64 = .ok (.getfield 15, 3) := by decide +kernel
theorem dX4_readSum_67 : decode cX4_readSum 67 = .ok (.iload_n 3, 1) := by decide +kernel
theorem dX4_readSum_68 : decode cX4_readSum 68 = .ok (.ifCond .eq 7, 3) := by decide +kernel
theorem dX4_readSum_71 : decode cX4_readSum 71 = .ok (.iconst 2, 1) := by decide +kernel
theorem dX4_readSum_72 : decode cX4_readSum 72 = .ok (.goto 4, 3) := by decide +kernel
theorem dX4_readSum_75 : decode cX4_readSum 75 = .ok (.iconst 3, 1) := by decide +kernel
theorem dX4_readSum_76 : decode cX4_readSum 76 = .ok (.invokevirtual 61, 3) := by decide +kernel
theorem dX4_readSum_79 : decode cX4_readSum 79 = .ok (.iinc 2 1, 3) := by decide +kernel
theorem dX4_readSum_82 : decode cX4_readSum 82 = .ok (.goto (-70), 3) := by decide +kernel
theorem dX4_readSum_85 : decode cX4_readSum 85 = .ok (.aload_n 0, 1) := by decide +kernel
theorem dX4_readSum_86 : decode cX4_readSum 86 = .ok (.getfield 9, 3) := by decide +kernel
theorem dX4_readSum_89 : decode cX4_readSum 89 = .ok (.bipush 12, 2) := by decide +kernel
theorem dX4_readSum_91 : decode cX4_readSum 91 = .ok (.invokevirtual 38, 3) := by decide +kernel
theorem dX4_readSum_94 : decode cX4_readSum 94 = .ok (.ireturn, 1) := by decide +kernel
theorem dX4_readProduct_0 : decode cX4_readProduct 0 = .ok (.aload_n 0, 1) := by decide +kernel
theorem dX4_readProduct_1 : decode cX4_readProduct 1 = .ok (.iload_n 1, 1) := by decide +kernel
theorem dX4_readProduct_2 : decode cX4_readProduct 2 = .ok (.invokevirtual 65, 3) := by decide +kernel
theorem dX4_readProduct_5 : decode cX4_readProduct 5 = .ok (.ifCond .ne 5, 3) := by decide +kernel
theorem dX4_readProduct_8 : decode cX4_readProduct 8 = .ok (.iconst 0, 1) := by decide +kernel
theorem dX4_readProduct_9 : decode cX4_readProduct 9 = .ok (.ireturn, 1) := by decide +kernel
theorem dX4_readProduct_10 : decode cX4_readProduct 10 = .ok (.iconst 0, 1) := by decide +kernel
theorem dX4_readProduct_11 : decode cX4_readProduct 11 = .ok (.istore_n 2, 1) := by decide +kernel
theorem dX4_readProduct_12 : decode cX4_readProduct 12 = .ok (.iload_n 2, 1) := by decide +kernel
theorem dX4_readProduct_13 : decode cX4_readProduct 13 = .ok (.bipush 60, 2) := by decide +kernel
theorem dX4_readProduct_15 : decode cX4_readProduct 15 = .ok (.if_icmp .ge 48, 3) := by decide +kernel
theorem dX4_readProduct_18 : decode cX4_readProduct 18 = .ok (.aload_n 0, 1) := by decide +kernel
theorem dX4_readProduct_19 : decode cX4_readProduct 19 = .ok (.getfield 9, 3) := by decide +kernel
theorem dX4_readProduct_22 : decode cX4_readProduct 22 = .ok (.bipush 42, 2) := by decide +kernel
theorem dX4_readProduct_24 : decode cX4_readProduct 24 = .ok (.invokevirtual 34, 3) := by decide +kernel
theorem dX4_readProduct_27 : decode cX4_readProduct 27 = .ok (.ifCond .ne 5, 3) := by decide +kernel
theorem dX4_readProduct_30 : decode cX4_readProduct 30 = .ok (.iconst 1, 1) := by decide +kernel
theorem dX4_readProduct_31 : decode cX4_readProduct 31 = .ok (.ireturn, 1) := by decide +kernel
theorem dX4_readProduct_32 : decode cX4_readProduct 32 = .ok (.aload_n 0, 1) := by decide +kernel
theorem dX4_readProduct_33 : decode cX4_readProduct 33 = .ok (.getfield 9, 3) := by decide +kernel
theorem dX4_readProduct_36 : decode cX4_readProduct 36 = .ok (.invokevirtual 51, 3) := by decide +kernel
theorem dX4_readProduct_39 : decode cX4_readProduct 39 = .ok (.aload_n 0, 1) := by decide +kernel
theorem dX4_readProduct_40 : decode cX4_readProduct 40 = .ok (.iload_n 1, 1) := by decide +kernel
theorem dX4_readProduct_41 : decode cX4_readProduct 41 = .ok (.invokevirtual 65, 3) := by decide +kernel
theorem dX4_readProduct_44 : decode cX4_readProduct 44 = .ok (.ifCond .ne 5, 3) := by decide +kernel
theorem dX4_readProduct_47 : decode cX4_readProduct 47 = .ok (.iconst 0, 1) := by decide +kernel
theorem dX4_readProduct_48 : decode cX4_readProduct 48 = .ok (.ireturn, 1) := by decide +kernel
theorem dX4_readProduct_49 : decode cX4_readProduct 49 = .ok (.aload_n 0, 1) := by decide +kernel
theorem dX4_readProduct_50 : decode cX4_readProduct 50 = .ok (.getfield 15, 3) := by decide +kernel
theorem dX4_readProduct_53 : decode cX4_readProduct 53 = .ok (.iconst 4, 1) := by decide +kernel
theorem dX4_readProduct_54 : decode cX4_readProduct 54 = .ok (.invokevirtual 61, 3) := by decide +kernel
theorem dX4_readProduct_57 : decode cX4_readProduct 57 = .ok (.iinc 2 1, 3) := by decide +kernel
theorem dX4_readProduct_60 : decode cX4_readProduct 60 = .ok (.goto (-48), 3) := by decide +kernel
theorem dX4_readProduct_63 : decode cX4_readProduct 63 = .ok (.aload_n 0, 1) := by decide +kernel
theorem dX4_readProduct_64 : decode cX4_readProduct 64 = .ok (.getfield 9, 3) := by decide +kernel
theorem dX4_readProduct_67 : decode cX4_readProduct 67 = .ok (.bipush 12, 2) := by decide +kernel
theorem dX4_readProduct_69 : decode cX4_readProduct 69 = .ok (.invokevirtual 38, 3) := by decide +kernel
theorem dX4_readProduct_72 : decode cX4_readProduct 72 = .ok (.ireturn, 1) := by decide +kernel
theorem dX4_readPower_0 : decode cX4_readPower 0 = .ok (.aload_n 0, 1) := by decide +kernel
theorem dX4_readPower_1 : decode cX4_readPower 1 = .ok (.iload_n 1, 1) := by decide +kernel
theorem dX4_readPower_2 : decode cX4_readPower 2 = .ok (.invokevirtual 68, 3) := by decide +kernel
theorem dX4_readPower_5 : decode cX4_readPower 5 = .ok (.ifCond .ne 5, 3) := by decide +kernel
theorem dX4_readPower_8 : decode cX4_readPower 8 = .ok (.iconst 0, 1) := by decide +kernel
theorem dX4_readPower_9 : decode cX4_readPower 9 = .ok (.ireturn, 1) := by decide +kernel
theorem dX4_readPower_10 : decode cX4_readPower 10 = .ok (.aload_n 0, 1) := by decide +kernel
theorem dX4_readPower_11 : decode cX4_readPower 11 = .ok (.getfield 9, 3) := by decide +kernel
theorem dX4_readPower_14 : decode cX4_readPower 14 = .ok (.bipush 94, 2) := by decide +kernel
theorem dX4_readPower_16 : decode cX4_readPower 16 = .ok (.invokevirtual 34, 3) := by decide +kernel
theorem dX4_readPower_19 : decode cX4_readPower 19 = .ok (.ifCond .ne 5, 3) := by decide +kernel
theorem dX4_readPower_22 : decode cX4_readPower 22 = .ok (.iconst 1, 1) := by decide +kernel
theorem dX4_readPower_23 : decode cX4_readPower 23 = .ok (.ireturn, 1) := by decide +kernel
theorem dX4_readPower_24 : decode cX4_readPower 24 = .ok (.aload_n 0, 1) := by decide +kernel
theorem dX4_readPower_25 : decode cX4_readPower 25 = .ok (.getfield 9, 3) := by decide +kernel
theorem dX4_readPower_28 : decode cX4_readPower 28 = .ok (.invokevirtual 51, 3) := by decide +kernel
theorem dX4_readPower_31 : decode cX4_readPower 31 = .ok (.aload_n 0, 1) := by decide +kernel
theorem dX4_readPower_32 : decode cX4_readPower 32 = .ok (.getfield 9, 3) := by decide +kernel
theorem dX4_readPower_35 : decode cX4_readPower 35 = .ok (.invokevirtual 71, 3) := by decide +kernel
theorem dX4_readPower_38 : decode cX4_readPower 38 = .ok (.ifCond .ne 12, 3) := by decide +kernel
theorem dX4_readPower_41 : decode cX4_readPower 41 = .ok (.aload_n 0, 1) := by decide +kernel
theorem dX4_readPower_42 : decode cX4_readPower 42 = .ok (.getfield 9, 3) := by decide +kernel
theorem dX4_readPower_45 : decode cX4_readPower 45 = .ok (.iconst 1, 1) := by decide +kernel
theorem dX4_readPower_46 : decode cX4_readPower 46 = .ok (.invokevirtual 38, 3) := by decide +kernel
theorem dX4_readPower_49 : decode cX4_readPower 49 = .ok (.ireturn, 1) := by decide +kernel
theorem dX4_readPower_50 : decode cX4_readPower 50 = .ok (.aload_n 0, 1) := by decide +kernel
theorem dX4_readPower_51 : decode cX4_readPower 51 = .ok (.getfield 9, 3) := by decide +kernel
theorem dX4_readPower_54 : decode cX4_readPower 54 = .ok (.invokevirtual 74, 3) := by decide +kernel
theorem dX4_readPower_57 : decode cX4_readPower 57 = .ok (.bipush 6, 2) := by decide +kernel
theorem dX4_readPower_59 : decode cX4_readPower 59 = .ok (.if_icmp .le 13, 3) := by decide +kernel
theorem dX4_readPower_62 : decode cX4_readPower 62 = .ok (.aload_n 0, 1) := by decide +kernel
theorem dX4_readPower_63 : decode cX4_readPower 63 = .ok (.getfield 9, 3) := by decide +kernel
theorem dX4_readPower_66 : decode cX4_readPower 66 = .ok (.bipush 10, 2) := by decide +kernel
theorem dX4_readPower_68 : decode cX4_readPower 68 = .ok (.invokevirtual 38, 3) := by decide +kernel
theorem dX4_readPower_71 : decode cX4_readPower 71 = .ok (.ireturn, 1) := by decide +kernel
theorem dX4_readPower_72 : decode cX4_readPower 72 = .ok (.aload_n 0, 1) := by decide +kernel
theorem dX4_readPower_73 : decode cX4_readPower 73 = .ok (.getfield 15, 3) := by decide +kernel
theorem dX4_readPower_76 : decode cX4_readPower 76 = .ok (.aload_n 0, 1) := by decide +kernel
theorem dX4_readPower_77 : decode cX4_readPower 77 = .ok (.getfield 9, 3) := by decide +kernel
theorem dX4_readPower_80 : decode cX4_readPower 80 = .ok (.invokevirtual 74, 3) := by decide +kernel
theorem dX4_readPower_83 : decode cX4_readPower 83 = .ok (.invokevirtual 78, 3) := by decide +kernel
theorem dX4_readPower_86 : decode cX4_readPower 86 = .ok (.aload_n 0, 1) := by decide +kernel
theorem dX4_readPower_87 : decode cX4_readPower 87 = .ok (.getfield 9, 3) := by decide +kernel
theorem dX4_readPower_90 : decode cX4_readPower 90 = .ok (.invokevirtual 51, 3) := by decide +kernel
theorem dX4_readPower_93 : decode cX4_readPower 93 = .ok (.iconst 1, 1) := by decide +kernel
theorem dX4_readPower_94 : decode cX4_readPower 94 = .ok (.ireturn, 1) := by decide +kernel
theorem dX4_readPart_0 : decode cX4_readPart 0 = .ok (.aload_n 0, 1) := by decide +kernel
theorem dX4_readPart_1 : decode cX4_readPart 1 = .ok (.getfield 9, 3) := by decide +kernel
theorem dX4_readPart_4 : decode cX4_readPart 4 = .ok (.invokevirtual 81, 3) := by decide +kernel
theorem dX4_readPart_7 : decode cX4_readPart 7 = .ok (.istore_n 2, 1) := by decide +kernel
theorem dX4_readPart_8 : decode cX4_readPart 8 = .ok (.aload_n 0, 1) := by decide +kernel
theorem dX4_readPart_9 : decode cX4_readPart 9 = .ok (.getfield 9, 3) := by decide +kernel
theorem dX4_readPart_12 : decode cX4_readPart 12 = .ok (.bipush 40, 2) := by decide +kernel
theorem dX4_readPart_14 : decode cX4_readPart 14 = .ok (.invokevirtual 34, 3) := by decide +kernel
theorem dX4_readPart_17 : decode cX4_readPart 17 = .ok (.istore_n 3, 1) := by decide +kernel
theorem dX4_readPart_18 : decode cX4_readPart 18 = .ok (.aload_n 0, 1) := by decide +kernel
theorem dX4_readPart_19 : decode cX4_readPart 19 = .ok (.getfield 9, 3) := by decide +kernel
theorem dX4_readPart_22 : decode cX4_readPart 22 = .ok (.invokevirtual 71, 3) := by decide +kernel
theorem dX4_readPart_25 : decode cX4_readPart 25 = .ok (.ifCond .ne 21, 3) := by decide +kernel
theorem dX4_readPart_28 : decode cX4_readPart 28 = .ok (.iload_n 2, 1) := by decide +kernel
theorem dX4_readPart_29 : decode cX4_readPart 29 = .ok (.iconst (-1), 1) := by decide +kernel
theorem dX4_readPart_30 : decode cX4_readPart 30 = .ok (.if_icmp .ne 16, 3) := by decide +kernel
theorem dX4_readPart_33 : decode cX4_readPart 33 = .ok (.iload_n 3, 1) := by decide +kernel
theorem dX4_readPart_34 : decode cX4_readPart 34 = .ok (.ifCond .ne 12, 3) := by decide +kernel
theorem dX4_readPart_37 : decode cX4_readPart 37 = .ok (.aload_n 0, 1) := by decide +kernel
theorem dX4_readPart_38 : decode cX4_readPart 38 = .ok (.getfield 9, 3) := by decide +kernel
theorem dX4_readPart_41 : decode cX4_readPart 41 = .ok (.iconst 1, 1) := by decide +kernel
theorem dX4_readPart_42 : decode cX4_readPart 42 = .ok (.invokevirtual 38, 3) := by decide +kernel
theorem dX4_readPart_45 : decode cX4_readPart 45 = .ok (.ireturn, 1) := by decide +kernel
theorem dX4_readPart_46 : decode cX4_readPart 46 = .ok (.iload_n 3, 1) := by decide +kernel
theorem dX4_readPart_47 : decode cX4_readPart 47 = .ok (.ifCond .eq 19, 3) := by decide +kernel
theorem dX4_readPart_50 : decode cX4_readPart 50 = .ok (.iload_n 1, 1) := by decide +kernel
theorem dX4_readPart_51 : decode cX4_readPart 51 = .ok (.bipush 6, 2) := by decide +kernel
theorem dX4_readPart_53 : decode cX4_readPart 53 = .ok (.if_icmp .lt 13, 3) := by decide +kernel
theorem dX4_readPart_56 : decode cX4_readPart 56 = .ok (.aload_n 0, 1) := by decide +kernel
theorem dX4_readPart_57 : decode cX4_readPart 57 = .ok (.getfield 9, 3) := by decide +kernel
theorem dX4_readPart_60 : decode cX4_readPart 60 = .ok (.bipush 11, 2) := by decide +kernel
theorem dX4_readPart_62 : decode cX4_readPart 62 = .ok (.invokevirtual 38, 3) := by decide +kernel
theorem dX4_readPart_65 : decode cX4_readPart 65 = .ok (.ireturn, 1) := by decide +kernel
theorem dX4_readPart_66 : decode cX4_readPart 66 = .ok (.aload_n 0, 1) := by decide +kernel
theorem dX4_readPart_67 : decode cX4_readPart 67 = .ok (.getfield 15, 3) := by decide +kernel
theorem dX4_readPart_70 : decode cX4_readPart 70 = .ok (.getfield 84, 3) := by decide +kernel
theorem dX4_readPart_73 : decode cX4_readPart 73 = .ok (.bipush 60, 2) := by decide +kernel
theorem dX4_readPart_75 : decode cX4_readPart 75 = .ok (.if_icmp .lt 13, 3) := by decide +kernel
theorem dX4_readPart_78 : decode cX4_readPart 78 = .ok (.aload_n 0, 1) := by decide +kernel
theorem dX4_readPart_79 : decode cX4_readPart 79 = .ok (.getfield 9, 3) := by decide +kernel
theorem dX4_readPart_82 : decode cX4_readPart 82 = .ok (.bipush 12, 2) := by decide +kernel
theorem dX4_readPart_84 : decode cX4_readPart 84 = .ok (.invokevirtual 38, 3) := by decide +kernel
theorem dX4_readPart_87 : decode cX4_readPart 87 = .ok (.ireturn, 1) := by decide +kernel
theorem dX4_readPart_88 : decode cX4_readPart 88 = .ok (.aload_n 0, 1) := by decide +kernel
theorem dX4_readPart_89 : decode cX4_readPart 89 = .ok (.getfield 15, 3) := by decide +kernel
theorem dX4_readPart_92 : decode cX4_readPart 92 = .ok (.dup, 1) := by decide +kernel
theorem dX4_readPart_93 : decode cX4_readPart 93 = .ok (.getfield 84, 3) := by decide +kernel
theorem dX4_readPart_96 : decode cX4_readPart 96 = .ok (.iconst 1, 1) := by decide +kernel
theorem dX4_readPart_97 : decode cX4_readPart 97 = .ok (.iadd, 1) := by decide +kernel
theorem dX4_readPart_98 : decode cX4_readPart 98 = .ok (.putfield 84, 3) := by decide +kernel
theorem dX4_readPart_101 : decode cX4_readPart 101 = .ok (.iload_n 3, 1) := by decide +kernel
theorem dX4_readPart_102 : decode cX4_readPart 102 = .ok (.ifCond .eq 11, 3) := by decide +kernel
theorem dX4_readPart_105 : decode cX4_readPart 105 = .ok (.aload_n 0, 1) := by decide +kernel
theorem dX4_readPart_106 : decode cX4_readPart 106 = .ok (.iload_n 1, 1) := by decide +kernel
theorem dX4_readPart_107 : decode cX4_readPart 107 = .ok (.iconst 1, 1) := by decide +kernel
theorem dX4_readPart_108 : decode cX4_readPart 108 = .ok (.iadd, 1) := by decide +kernel
theorem dX4_readPart_109 : decode cX4_readPart 109 = .ok (.invokevirtual 87, 3) := by decide +kernel
theorem dX4_readPart_112 : decode cX4_readPart 112 = .ok (.ireturn, 1) := by decide +kernel
theorem dX4_readPart_113 : decode cX4_readPart 113 = .ok (.iload_n 2, 1) := by decide +kernel
theorem dX4_readPart_114 : decode cX4_readPart 114 = .ok (.iconst (-1), 1) := by decide +kernel
theorem dX4_readPart_115 : decode cX4_readPart 115 = .ok (.if_icmp .eq 14, 3) := by decide +kernel
theorem dX4_readPart_118 : decode cX4_readPart 118 = .ok (.aload_n 0, 1) := by decide +kernel
theorem dX4_readPart_119 : decode cX4_readPart 119 = .ok (.getfield 15, 3) := by decide +kernel
theorem dX4_readPart_122 : decode cX4_readPart 122 = .ok (.iload_n 2, 1) := by decide +kernel
theorem dX4_readPart_123 : decode cX4_readPart 123 = .ok (.invokevirtual 90, 3) := by decide +kernel
theorem dX4_readPart_126 : decode cX4_readPart 126 = .ok (.goto 17, 3) := by decide +kernel
theorem dX4_readPart_129 : decode cX4_readPart 129 = .ok (.aload_n 0, 1) := by decide +kernel
theorem dX4_readPart_130 : decode cX4_readPart 130 = .ok (.getfield 15, 3) := by decide +kernel
theorem dX4_readPart_133 : decode cX4_readPart 133 = .ok (.aload_n 0, 1) := by decide +kernel
theorem dX4_readPart_134 : decode cX4_readPart 134 = .ok (.getfield 9, 3) := by decide +kernel
theorem dX4_readPart_137 : decode cX4_readPart 137 = .ok (.invokevirtual 74, 3) := by decide +kernel
theorem dX4_readPart_140 : decode cX4_readPart 140 = .ok (.invokevirtual 93, 3) := by decide +kernel
theorem dX4_readPart_143 : decode cX4_readPart 143 = .ok (.aload_n 0, 1) := by decide +kernel
theorem dX4_readPart_144 : decode cX4_readPart 144 = .ok (.getfield 9, 3) := by decide +kernel
theorem dX4_readPart_147 : decode cX4_readPart 147 = .ok (.invokevirtual 51, 3) := by decide +kernel
theorem dX4_readPart_150 : decode cX4_readPart 150 = .ok (.iconst 1, 1) := by decide +kernel
theorem dX4_readPart_151 : decode cX4_readPart 151 = .ok (.ireturn, 1) := by decide +kernel
theorem dX4_readInner_0 : decode cX4_readInner 0 = .ok (.aload_n 0, 1) := by decide +kernel
theorem dX4_readInner_1 : decode cX4_readInner 1 = .ok (.getfield 9, 3) := by decide +kernel
theorem dX4_readInner_4 : decode cX4_readInner 4 = .ok (.iload_n 1, 1) := by decide +kernel
theorem dX4_readInner_5 : decode cX4_readInner 5 = .ok (.putfield 96, 3) := by decide +kernel
theorem dX4_readInner_8 : decode cX4_readInner 8 = .ok (.aload_n 0, 1) := by decide +kernel
theorem dX4_readInner_9 : decode cX4_readInner 9 = .ok (.getfield 9, 3) := by decide +kernel
theorem dX4_readInner_12 : decode cX4_readInner 12 = .ok (.invokevirtual 51, 3) := by decide +kernel
theorem dX4_readInner_15 : decode cX4_readInner 15 = .ok (.aload_n 0, 1) := by decide +kernel
theorem dX4_readInner_16 : decode cX4_readInner 16 = .ok (.iload_n 1, 1) := by decide +kernel
theorem dX4_readInner_17 : decode cX4_readInner 17 = .ok (.invokevirtual 30, 3) := by decide +kernel
theorem dX4_readInner_20 : decode cX4_readInner 20 = .ok (.ifCond .ne 5, 3) := by decide +kernel
theorem dX4_readInner_23 : decode cX4_readInner 23 = .ok (.iconst 0, 1) := by decide +kernel
theorem dX4_readInner_24 : decode cX4_readInner 24 = .ok (.ireturn, 1) := by decide +kernel
theorem dX4_readInner_25 : decode cX4_readInner 25 = .ok (.aload_n 0, 1) := by decide +kernel
theorem dX4_readInner_26 : decode cX4_readInner 26 = .ok (.getfield 9, 3) := by decide +kernel
theorem dX4_readInner_29 : decode cX4_readInner 29 = .ok (.bipush 41, 2) := by decide +kernel
theorem dX4_readInner_31 : decode cX4_readInner 31 = .ok (.invokevirtual 34, 3) := by decide +kernel
theorem dX4_readInner_34 : decode cX4_readInner 34 = .ok (.ifCond .ne 12, 3) := by decide +kernel
theorem dX4_readInner_37 : decode cX4_readInner 37 = .ok (.aload_n 0, 1) := by decide +kernel
theorem dX4_readInner_38 : decode cX4_readInner 38 = .ok (.getfield 9, 3) := by decide +kernel
theorem dX4_readInner_41 : decode cX4_readInner 41 = .ok (.iconst 1, 1) := by decide +kernel
theorem dX4_readInner_42 : decode cX4_readInner 42 = .ok (.invokevirtual 38, 3) := by decide +kernel
theorem dX4_readInner_45 : decode cX4_readInner 45 = .ok (.ireturn, 1) := by decide +kernel
theorem dX4_readInner_46 : decode cX4_readInner 46 = .ok (.aload_n 0, 1) := by decide +kernel
theorem dX4_readInner_47 : decode cX4_readInner 47 = .ok (.getfield 9, 3) := by decide +kernel
theorem dX4_readInner_50 : decode cX4_readInner 50 = .ok (.iload_n 1, 1) := by decide +kernel
theorem dX4_readInner_51 : decode cX4_readInner 51 = .ok (.iconst 1, 1) := by decide +kernel
theorem dX4_readInner_52 : decode cX4_readInner 52 = .ok (.isub, 1) := by decide +kernel
theorem dX4_readInner_53 : decode cX4_readInner 53 = .ok (.putfield 96, 3) := by decide +kernel
theorem dX4_readInner_56 : decode cX4_readInner 56 = .ok (.aload_n 0, 1) := by decide +kernel
theorem dX4_readInner_57 : decode cX4_readInner 57 = .ok (.getfield 9, 3) := by decide +kernel
theorem dX4_readInner_60 : decode cX4_readInner 60 = .ok (.invokevirtual 51, 3) := by decide +kernel
theorem dX4_readInner_63 : decode cX4_readInner 63 = .ok (.iconst 1, 1) := by decide +kernel
theorem dX4_readInner_64 : decode cX4_readInner 64 = .ok (.ireturn, 1) := by decide +kernel
