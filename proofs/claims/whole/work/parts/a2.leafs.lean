/-! CONSTRUCTORS -/
theorem b_X10_init (w : WC) (d : Nat) (μ : Mem) {x z i : Nat} {R : List ((Nat × Int) × Nat)} {I : List ((Nat × Int) × Int)} {S : List (Nat × Nat)} (hB : Bu w x z R I S μ) (hi : S[i]? = some (10, 0)) : Con w (d + 1) mX10_init 5 4004 [vP (some (x + i))] μ (fun r μ2 => r = none ∧ Bu w x (z + 1 + 1 + 1 + 1 + 1) (((i, 4), z + 1 + 1 + 1 + 1) :: ((i, 3), z + 1 + 1 + 1) :: ((i, 2), z + 1 + 1) :: ((i, 1), z + 1) :: ((i, 0), z) :: R) (((i, 15), -1) :: ((i, 14), -1) :: ((i, 13), -1) :: I) ((((((S ++ [(13, 800)]) ++ [(14, 801)]) ++ [(14, 801)]) ++ [(14, 801)]) ++ [(14, 801)])) μ2) := by
  refine Con.of (by decide) (Nat.le_of_ble_eq_true rfl) rfl ?_
  refine g_aload_n (j := 0) rfl dX10_init_0 ?_
  refine g_objI dX10_init_1 mlX10_3 obj_in obj_co (by omega) (Nat.le_of_ble_eq_true rfl) ?_
  refine g_aload_n (j := 0) rfl dX10_init_4 ?_
  refine g_sipush dX10_init_5 (by omega) ?_
  refine g_newa (t := 13) (n := 800) (bc1 := 4) (bs1 := 3204) dX10_init_8 ac_byte ⟨by decide, by decide, rfl⟩ rfl (by omega) (Nat.le_of_ble_eq_true rfl) (Nat.le_of_ble_eq_true rfl) ?_
  rw [hB.mz]
  have hB1 := hB.new (t := 13) (n := 800)
  have hi := app_g hi (13, 800)
  have hs1 : _ := app_n (q := ((13 : Nat), (800 : Nat))) hB.1.2.2
  generalize sN μ 13 800 = μ1 at hB1 ⊢
  refine g_putR dX10_init_10 fpX10_9 rfl rfl rfl (hB1.o hi) (kz := 0) rfl ?_
  have hB2 := hB1.putR (i := i) (j := 0) (v := z) (hB1.lt hi)
  generalize sR μ1 (x + i) 0 (some (x + z)) = μ2 at hB2 ⊢
  refine g_aload_n (j := 0) rfl dX10_init_13 ?_
  refine g_sipush dX10_init_14 (by omega) ?_
  refine g_newa (t := 14) (n := 801) (bc1 := 3) (bs1 := 2403) dX10_init_17 ac_int ⟨by decide, by decide, rfl⟩ rfl (by omega) (Nat.le_of_ble_eq_true rfl) (Nat.le_of_ble_eq_true rfl) ?_
  rw [hB2.mz]
  have hB3 := hB2.new (t := 14) (n := 801)
  have hi := app_g hi (14, 801)
  have hs1 := app_g hs1 (14, 801)
  have hs2 : _ := app_n (q := ((14 : Nat), (801 : Nat))) hB2.1.2.2
  generalize sN μ2 14 801 = μ3 at hB3 ⊢
  refine g_putR dX10_init_19 fpX10_15 rfl rfl rfl (hB3.o hi) (kz := 1) rfl ?_
  have hB4 := hB3.putR (i := i) (j := 1) (v := z + 1) (hB3.lt hi)
  generalize sR μ3 (x + i) 1 (some (x + (z + 1))) = μ4 at hB4 ⊢
  refine g_aload_n (j := 0) rfl dX10_init_22 ?_
  refine g_sipush dX10_init_23 (by omega) ?_
  refine g_newa (t := 14) (n := 801) (bc1 := 2) (bs1 := 1602) dX10_init_26 ac_int ⟨by decide, by decide, rfl⟩ rfl (by omega) (Nat.le_of_ble_eq_true rfl) (Nat.le_of_ble_eq_true rfl) ?_
  rw [hB4.mz]
  have hB5 := hB4.new (t := 14) (n := 801)
  have hi := app_g hi (14, 801)
  have hs1 := app_g hs1 (14, 801)
  have hs2 := app_g hs2 (14, 801)
  have hs3 : _ := app_n (q := ((14 : Nat), (801 : Nat))) hB4.1.2.2
  generalize sN μ4 14 801 = μ5 at hB5 ⊢
  refine g_putR dX10_init_28 fpX10_19 rfl rfl rfl (hB5.o hi) (kz := 2) rfl ?_
  have hB6 := hB5.putR (i := i) (j := 2) (v := z + 1 + 1) (hB5.lt hi)
  generalize sR μ5 (x + i) 2 (some (x + (z + 1 + 1))) = μ6 at hB6 ⊢
  refine g_aload_n (j := 0) rfl dX10_init_31 ?_
  refine g_sipush dX10_init_32 (by omega) ?_
  refine g_newa (t := 14) (n := 801) (bc1 := 1) (bs1 := 801) dX10_init_35 ac_int ⟨by decide, by decide, rfl⟩ rfl (by omega) (Nat.le_of_ble_eq_true rfl) (Nat.le_of_ble_eq_true rfl) ?_
  rw [hB6.mz]
  have hB7 := hB6.new (t := 14) (n := 801)
  have hi := app_g hi (14, 801)
  have hs1 := app_g hs1 (14, 801)
  have hs2 := app_g hs2 (14, 801)
  have hs3 := app_g hs3 (14, 801)
  have hs4 : _ := app_n (q := ((14 : Nat), (801 : Nat))) hB6.1.2.2
  generalize sN μ6 14 801 = μ7 at hB7 ⊢
  refine g_putR dX10_init_37 fpX10_22 rfl rfl rfl (hB7.o hi) (kz := 3) rfl ?_
  have hB8 := hB7.putR (i := i) (j := 3) (v := z + 1 + 1 + 1) (hB7.lt hi)
  generalize sR μ7 (x + i) 3 (some (x + (z + 1 + 1 + 1))) = μ8 at hB8 ⊢
  refine g_aload_n (j := 0) rfl dX10_init_40 ?_
  refine g_sipush dX10_init_41 (by omega) ?_
  refine g_newa (t := 14) (n := 801) (bc1 := 0) (bs1 := 0) dX10_init_44 ac_int ⟨by decide, by decide, rfl⟩ rfl (by omega) (Nat.le_of_ble_eq_true rfl) (Nat.le_of_ble_eq_true rfl) ?_
  rw [hB8.mz]
  have hB9 := hB8.new (t := 14) (n := 801)
  have hi := app_g hi (14, 801)
  have hs1 := app_g hs1 (14, 801)
  have hs2 := app_g hs2 (14, 801)
  have hs3 := app_g hs3 (14, 801)
  have hs4 := app_g hs4 (14, 801)
  have hs5 : _ := app_n (q := ((14 : Nat), (801 : Nat))) hB8.1.2.2
  generalize sN μ8 14 801 = μ9 at hB9 ⊢
  refine g_putR dX10_init_46 fpX10_25 rfl rfl rfl (hB9.o hi) (kz := 4) rfl ?_
  have hB10 := hB9.putR (i := i) (j := 4) (v := z + 1 + 1 + 1 + 1) (hB9.lt hi)
  generalize sR μ9 (x + i) 4 (some (x + (z + 1 + 1 + 1 + 1))) = μ10 at hB10 ⊢
  refine g_aload_n (j := 0) rfl dX10_init_49 ?_
  refine g_iconst dX10_init_50 ?_
  refine g_putI dX10_init_51 fpX10_28 rfl rfl rfl (hB10.o hi) (kz := 13) rfl ?_
  have hB11 := hB10.putI (i := i) (j := 13) (v := (-1)) (hB10.lt hi)
  generalize sI μ10 (x + i) 13 (-1) = μ11 at hB11 ⊢
  refine g_aload_n (j := 0) rfl dX10_init_54 ?_
  refine g_iconst dX10_init_55 ?_
  refine g_putI dX10_init_56 fpX10_32 rfl rfl rfl (hB11.o hi) (kz := 14) rfl ?_
  have hB12 := hB11.putI (i := i) (j := 14) (v := (-1)) (hB11.lt hi)
  generalize sI μ11 (x + i) 14 (-1) = μ12 at hB12 ⊢
  refine g_aload_n (j := 0) rfl dX10_init_59 ?_
  refine g_iconst dX10_init_60 ?_
  refine g_putI dX10_init_61 fpX10_35 rfl rfl rfl (hB12.o hi) (kz := 15) rfl ?_
  have hB13 := hB12.putI (i := i) (j := 15) (v := (-1)) (hB12.lt hi)
  generalize sI μ12 (x + i) 15 (-1) = μ13 at hB13 ⊢
  exact G.retV dX10_init_64 rfl ⟨rfl, hB13⟩
theorem b_X1_init (w : WC) (d : Nat) (μ : Mem) {x z i : Nat} {R : List ((Nat × Int) × Nat)} {I : List ((Nat × Int) × Int)} {S : List (Nat × Nat)} (hB : Bu w x z R I S μ) (hi : S[i]? = some (1, 0)) : Con w (d + 1) mX1_init 6 30 [vP (some (x + i))] μ (fun r μ2 => r = none ∧ Bu w x (z + 1 + 1 + 1 + 1 + 1 + 1) (((i, 6), z + 1 + 1 + 1 + 1 + 1) :: ((i, 5), z + 1 + 1 + 1 + 1) :: ((i, 4), z + 1 + 1 + 1) :: ((i, 3), z + 1 + 1) :: ((i, 2), z + 1) :: ((i, 1), z) :: R) (I) (((((((S ++ [(14, 5)]) ++ [(14, 5)]) ++ [(14, 5)]) ++ [(14, 5)]) ++ [(14, 5)]) ++ [(14, 5)])) μ2) := by
  refine Con.of (by decide) (Nat.le_of_ble_eq_true rfl) rfl ?_
  refine g_aload_n (j := 0) rfl dX1_init_0 ?_
  refine g_objI dX1_init_1 mlX1_3 obj_in obj_co (by omega) (Nat.le_of_ble_eq_true rfl) ?_
  refine g_aload_n (j := 0) rfl dX1_init_4 ?_
  refine g_iconst dX1_init_5 ?_
  refine g_newa (t := 14) (n := 5) (bc1 := 5) (bs1 := 25) dX1_init_6 ac_int ⟨by decide, by decide, rfl⟩ rfl (by omega) (Nat.le_of_ble_eq_true rfl) (Nat.le_of_ble_eq_true rfl) ?_
  rw [hB.mz]
  have hB1 := hB.new (t := 14) (n := 5)
  have hi := app_g hi (14, 5)
  have hs1 : _ := app_n (q := ((14 : Nat), (5 : Nat))) hB.1.2.2
  generalize sN μ 14 5 = μ1 at hB1 ⊢
  refine g_putR dX1_init_8 fpX1_9 rfl rfl rfl (hB1.o hi) (kz := 1) rfl ?_
  have hB2 := hB1.putR (i := i) (j := 1) (v := z) (hB1.lt hi)
  generalize sR μ1 (x + i) 1 (some (x + z)) = μ2 at hB2 ⊢
  refine g_aload_n (j := 0) rfl dX1_init_11 ?_
  refine g_iconst dX1_init_12 ?_
  refine g_newa (t := 14) (n := 5) (bc1 := 4) (bs1 := 20) dX1_init_13 ac_int ⟨by decide, by decide, rfl⟩ rfl (by omega) (Nat.le_of_ble_eq_true rfl) (Nat.le_of_ble_eq_true rfl) ?_
  rw [hB2.mz]
  have hB3 := hB2.new (t := 14) (n := 5)
  have hi := app_g hi (14, 5)
  have hs1 := app_g hs1 (14, 5)
  have hs2 : _ := app_n (q := ((14 : Nat), (5 : Nat))) hB2.1.2.2
  generalize sN μ2 14 5 = μ3 at hB3 ⊢
  refine g_putR dX1_init_15 fpX1_15 rfl rfl rfl (hB3.o hi) (kz := 2) rfl ?_
  have hB4 := hB3.putR (i := i) (j := 2) (v := z + 1) (hB3.lt hi)
  generalize sR μ3 (x + i) 2 (some (x + (z + 1))) = μ4 at hB4 ⊢
  refine g_aload_n (j := 0) rfl dX1_init_18 ?_
  refine g_iconst dX1_init_19 ?_
  refine g_newa (t := 14) (n := 5) (bc1 := 3) (bs1 := 15) dX1_init_20 ac_int ⟨by decide, by decide, rfl⟩ rfl (by omega) (Nat.le_of_ble_eq_true rfl) (Nat.le_of_ble_eq_true rfl) ?_
  rw [hB4.mz]
  have hB5 := hB4.new (t := 14) (n := 5)
  have hi := app_g hi (14, 5)
  have hs1 := app_g hs1 (14, 5)
  have hs2 := app_g hs2 (14, 5)
  have hs3 : _ := app_n (q := ((14 : Nat), (5 : Nat))) hB4.1.2.2
  generalize sN μ4 14 5 = μ5 at hB5 ⊢
  refine g_putR dX1_init_22 fpX1_18 rfl rfl rfl (hB5.o hi) (kz := 3) rfl ?_
  have hB6 := hB5.putR (i := i) (j := 3) (v := z + 1 + 1) (hB5.lt hi)
  generalize sR μ5 (x + i) 3 (some (x + (z + 1 + 1))) = μ6 at hB6 ⊢
  refine g_aload_n (j := 0) rfl dX1_init_25 ?_
  refine g_iconst dX1_init_26 ?_
  refine g_newa (t := 14) (n := 5) (bc1 := 2) (bs1 := 10) dX1_init_27 ac_int ⟨by decide, by decide, rfl⟩ rfl (by omega) (Nat.le_of_ble_eq_true rfl) (Nat.le_of_ble_eq_true rfl) ?_
  rw [hB6.mz]
  have hB7 := hB6.new (t := 14) (n := 5)
  have hi := app_g hi (14, 5)
  have hs1 := app_g hs1 (14, 5)
  have hs2 := app_g hs2 (14, 5)
  have hs3 := app_g hs3 (14, 5)
  have hs4 : _ := app_n (q := ((14 : Nat), (5 : Nat))) hB6.1.2.2
  generalize sN μ6 14 5 = μ7 at hB7 ⊢
  refine g_putR dX1_init_29 fpX1_21 rfl rfl rfl (hB7.o hi) (kz := 4) rfl ?_
  have hB8 := hB7.putR (i := i) (j := 4) (v := z + 1 + 1 + 1) (hB7.lt hi)
  generalize sR μ7 (x + i) 4 (some (x + (z + 1 + 1 + 1))) = μ8 at hB8 ⊢
  refine g_aload_n (j := 0) rfl dX1_init_32 ?_
  refine g_iconst dX1_init_33 ?_
  refine g_newa (t := 14) (n := 5) (bc1 := 1) (bs1 := 5) dX1_init_34 ac_int ⟨by decide, by decide, rfl⟩ rfl (by omega) (Nat.le_of_ble_eq_true rfl) (Nat.le_of_ble_eq_true rfl) ?_
  rw [hB8.mz]
  have hB9 := hB8.new (t := 14) (n := 5)
  have hi := app_g hi (14, 5)
  have hs1 := app_g hs1 (14, 5)
  have hs2 := app_g hs2 (14, 5)
  have hs3 := app_g hs3 (14, 5)
  have hs4 := app_g hs4 (14, 5)
  have hs5 : _ := app_n (q := ((14 : Nat), (5 : Nat))) hB8.1.2.2
  generalize sN μ8 14 5 = μ9 at hB9 ⊢
  refine g_putR dX1_init_36 fpX1_24 rfl rfl rfl (hB9.o hi) (kz := 5) rfl ?_
  have hB10 := hB9.putR (i := i) (j := 5) (v := z + 1 + 1 + 1 + 1) (hB9.lt hi)
  generalize sR μ9 (x + i) 5 (some (x + (z + 1 + 1 + 1 + 1))) = μ10 at hB10 ⊢
  refine g_aload_n (j := 0) rfl dX1_init_39 ?_
  refine g_iconst dX1_init_40 ?_
  refine g_newa (t := 14) (n := 5) (bc1 := 0) (bs1 := 0) dX1_init_41 ac_int ⟨by decide, by decide, rfl⟩ rfl (by omega) (Nat.le_of_ble_eq_true rfl) (Nat.le_of_ble_eq_true rfl) ?_
  rw [hB10.mz]
  have hB11 := hB10.new (t := 14) (n := 5)
  have hi := app_g hi (14, 5)
  have hs1 := app_g hs1 (14, 5)
  have hs2 := app_g hs2 (14, 5)
  have hs3 := app_g hs3 (14, 5)
  have hs4 := app_g hs4 (14, 5)
  have hs5 := app_g hs5 (14, 5)
  have hs6 : _ := app_n (q := ((14 : Nat), (5 : Nat))) hB10.1.2.2
  generalize sN μ10 14 5 = μ11 at hB11 ⊢
  refine g_putR dX1_init_43 fpX1_27 rfl rfl rfl (hB11.o hi) (kz := 6) rfl ?_
  have hB12 := hB11.putR (i := i) (j := 6) (v := z + 1 + 1 + 1 + 1 + 1) (hB11.lt hi)
  generalize sR μ11 (x + i) 6 (some (x + (z + 1 + 1 + 1 + 1 + 1))) = μ12 at hB12 ⊢
  exact G.retV dX1_init_46 rfl ⟨rfl, hB12⟩
theorem b_X9_init (w : WC) (d : Nat) (μ : Mem) {x z i : Nat} {R : List ((Nat × Int) × Nat)} {I : List ((Nat × Int) × Int)} {S : List (Nat × Nat)} (hB : Bu w x z R I S μ) (hi : S[i]? = some (9, 0)) : Con w (d + 1) mX9_init 0 0 [vP (some (x + i))] μ (fun r μ2 => r = none ∧ Bu w x (z) (R) (I) (S) μ2) := by
  refine Con.of (by decide) (Nat.le_of_ble_eq_true rfl) rfl ?_
  refine g_aload_n (j := 0) rfl dX9_init_0 ?_
  refine g_objI dX9_init_1 mlX9_3 obj_in obj_co (by omega) (Nat.le_of_ble_eq_true rfl) ?_
  exact G.retV dX9_init_4 rfl ⟨rfl, hB⟩
theorem b_X4_init (w : WC) (d : Nat) (μ : Mem) {x z i v : Nat} {R : List ((Nat × Int) × Nat)} {I : List ((Nat × Int) × Int)} {S : List (Nat × Nat)} (hB : Bu w x z R I S μ) (hi : S[i]? = some (4, 0)) (hv : S[v]? = some (10, 0)) : Con w (d + 1) mX4_init 0 0 [vP (some (x + i)), vP (some (x + v))] μ (fun r μ2 => r = none ∧ Bu w x (z) (((i, 0), v) :: R) (I) (S) μ2) := by
  refine Con.of (by decide) (Nat.le_of_ble_eq_true rfl) rfl ?_
  refine g_aload_n (j := 0) rfl dX4_init_0 ?_
  refine g_objI dX4_init_1 mlX4_3 obj_in obj_co (by omega) (Nat.le_of_ble_eq_true rfl) ?_
  refine g_aload_n (j := 0) rfl dX4_init_4 ?_
  refine g_aload_n (j := 1) rfl dX4_init_5 ?_
  refine g_putR dX4_init_6 fpX4_9 rfl rfl rfl (hB.o hi) (kz := 0) rfl ?_
  have hB1 := hB.putR (i := i) (j := 0) (v := v) (hB.lt hi)
  generalize sR μ (x + i) 0 (some (x + v)) = μ1 at hB1 ⊢
  exact G.retV dX4_init_9 rfl ⟨rfl, hB1⟩
theorem b_X6_init (w : WC) (d : Nat) (μ : Mem) {x z i v : Nat} {R : List ((Nat × Int) × Nat)} {I : List ((Nat × Int) × Int)} {S : List (Nat × Nat)} (hB : Bu w x z R I S μ) (hi : S[i]? = some (6, 0)) (hv : S[v]? = some (10, 0)) : Con w (d + 1) mX6_init 1 60 [vP (some (x + i)), vP (some (x + v))] μ (fun r μ2 => r = none ∧ Bu w x (z + 1) (((i, 1), z) :: ((i, 0), v) :: R) (I) ((S ++ [(14, 60)])) μ2) := by
  refine Con.of (by decide) (Nat.le_of_ble_eq_true rfl) rfl ?_
  refine g_aload_n (j := 0) rfl dX6_init_0 ?_
  refine g_objI dX6_init_1 mlX6_3 obj_in obj_co (by omega) (Nat.le_of_ble_eq_true rfl) ?_
  refine g_aload_n (j := 0) rfl dX6_init_4 ?_
  refine g_aload_n (j := 1) rfl dX6_init_5 ?_
  refine g_putR dX6_init_6 fpX6_9 rfl rfl rfl (hB.o hi) (kz := 0) rfl ?_
  have hB1 := hB.putR (i := i) (j := 0) (v := v) (hB.lt hi)
  generalize sR μ (x + i) 0 (some (x + v)) = μ1 at hB1 ⊢
  refine g_aload_n (j := 0) rfl dX6_init_9 ?_
  refine g_bipush dX6_init_10 (by omega) ?_
  refine g_newa (t := 14) (n := 60) (bc1 := 0) (bs1 := 0) dX6_init_12 ac_int ⟨by decide, by decide, rfl⟩ rfl (by omega) (Nat.le_of_ble_eq_true rfl) (Nat.le_of_ble_eq_true rfl) ?_
  rw [hB1.mz]
  have hB2 := hB1.new (t := 14) (n := 60)
  have hi := app_g hi (14, 60)
  have hv := app_g hv (14, 60)
  have hs1 : _ := app_n (q := ((14 : Nat), (60 : Nat))) hB1.1.2.2
  generalize sN μ1 14 60 = μ2 at hB2 ⊢
  refine g_putR dX6_init_14 fpX6_15 rfl rfl rfl (hB2.o hi) (kz := 1) rfl ?_
  have hB3 := hB2.putR (i := i) (j := 1) (v := z) (hB2.lt hi)
  generalize sR μ2 (x + i) 1 (some (x + z)) = μ3 at hB3 ⊢
  exact G.retV dX6_init_17 rfl ⟨rfl, hB3⟩
theorem b_X7_init (w : WC) (d : Nat) (μ : Mem) {x z i : Nat} {R : List ((Nat × Int) × Nat)} {I : List ((Nat × Int) × Int)} {S : List (Nat × Nat)} (hB : Bu w x z R I S μ) (hi : S[i]? = some (7, 0)) : Con w (d + 1) mX7_init 2 6 [vP (some (x + i))] μ (fun r μ2 => r = none ∧ Bu w x (z + 1 + 1) (((i, 1), z + 1) :: ((i, 0), z) :: R) (((i, 3), -1) :: ((i, 2), -1) :: I) (((S ++ [(14, 6)]) ++ [(15, 0)])) μ2) := by
  refine Con.of (by decide) (Nat.le_of_ble_eq_true rfl) rfl ?_
  refine g_aload_n (j := 0) rfl dX7_init_0 ?_
  refine g_objI dX7_init_1 mlX7_3 obj_in obj_co (by omega) (Nat.le_of_ble_eq_true rfl) ?_
  refine g_aload_n (j := 0) rfl dX7_init_4 ?_
  refine g_bipush dX7_init_5 (by omega) ?_
  refine g_newa (t := 14) (n := 6) (bc1 := 1) (bs1 := 0) dX7_init_7 ac_int ⟨by decide, by decide, rfl⟩ rfl (by omega) (Nat.le_of_ble_eq_true rfl) (Nat.le_of_ble_eq_true rfl) ?_
  rw [hB.mz]
  have hB1 := hB.new (t := 14) (n := 6)
  have hi := app_g hi (14, 6)
  have hs1 : _ := app_n (q := ((14 : Nat), (6 : Nat))) hB.1.2.2
  generalize sN μ 14 6 = μ1 at hB1 ⊢
  refine g_putR dX7_init_9 fpX7_9 rfl rfl rfl (hB1.o hi) (kz := 0) rfl ?_
  have hB2 := hB1.putR (i := i) (j := 0) (v := z) (hB1.lt hi)
  generalize sR μ1 (x + i) 0 (some (x + z)) = μ2 at hB2 ⊢
  refine g_aload_n (j := 0) rfl dX7_init_12 ?_
  refine g_iconst dX7_init_13 ?_
  refine g_newa (t := 15) (n := 0) (bc1 := 0) (bs1 := 0) dX7_init_14 ac_long ⟨by decide, by decide, rfl⟩ rfl (by omega) (Nat.le_of_ble_eq_true rfl) (Nat.le_of_ble_eq_true rfl) ?_
  rw [hB2.mz]
  have hB3 := hB2.new (t := 15) (n := 0)
  have hi := app_g hi (15, 0)
  have hs1 := app_g hs1 (15, 0)
  have hs2 : _ := app_n (q := ((15 : Nat), (0 : Nat))) hB2.1.2.2
  generalize sN μ2 15 0 = μ3 at hB3 ⊢
  refine g_putR dX7_init_16 fpX7_15 rfl rfl rfl (hB3.o hi) (kz := 1) rfl ?_
  have hB4 := hB3.putR (i := i) (j := 1) (v := z + 1) (hB3.lt hi)
  generalize sR μ3 (x + i) 1 (some (x + (z + 1))) = μ4 at hB4 ⊢
  refine g_aload_n (j := 0) rfl dX7_init_19 ?_
  refine g_iconst dX7_init_20 ?_
  refine g_putI dX7_init_21 fpX7_19 rfl rfl rfl (hB4.o hi) (kz := 2) rfl ?_
  have hB5 := hB4.putI (i := i) (j := 2) (v := (-1)) (hB4.lt hi)
  generalize sI μ4 (x + i) 2 (-1) = μ5 at hB5 ⊢
  refine g_aload_n (j := 0) rfl dX7_init_24 ?_
  refine g_iconst dX7_init_25 ?_
  refine g_putI dX7_init_26 fpX7_23 rfl rfl rfl (hB5.o hi) (kz := 3) rfl ?_
  have hB6 := hB5.putI (i := i) (j := 3) (v := (-1)) (hB5.lt hi)
  generalize sI μ5 (x + i) 3 (-1) = μ6 at hB6 ⊢
  exact G.retV dX7_init_29 rfl ⟨rfl, hB6⟩
theorem b_X0_init (w : WC) (d : Nat) (μ : Mem) {x z i : Nat} {R : List ((Nat × Int) × Nat)} {I : List ((Nat × Int) × Int)} {S : List (Nat × Nat)} (hB : Bu w x z R I S μ) (hi : S[i]? = some (0, 0)) : Con w (d + 1) mX0_init 2 420 [vP (some (x + i))] μ (fun r μ2 => r = none ∧ Bu w x (z + 1 + 1) (((i, 1), z + 1) :: ((i, 0), z) :: R) (((i, 2), 1) :: I) (((S ++ [(15, 360)]) ++ [(14, 60)])) μ2) := by
  refine Con.of (by decide) (Nat.le_of_ble_eq_true rfl) rfl ?_
  refine g_aload_n (j := 0) rfl dX0_init_0 ?_
  refine g_objI dX0_init_1 mlX0_3 obj_in obj_co (by omega) (Nat.le_of_ble_eq_true rfl) ?_
  refine g_aload_n (j := 0) rfl dX0_init_4 ?_
  refine g_sipush dX0_init_5 (by omega) ?_
  refine g_newa (t := 15) (n := 360) (bc1 := 1) (bs1 := 60) dX0_init_8 ac_long ⟨by decide, by decide, rfl⟩ rfl (by omega) (Nat.le_of_ble_eq_true rfl) (Nat.le_of_ble_eq_true rfl) ?_
  rw [hB.mz]
  have hB1 := hB.new (t := 15) (n := 360)
  have hi := app_g hi (15, 360)
  have hs1 : _ := app_n (q := ((15 : Nat), (360 : Nat))) hB.1.2.2
  generalize sN μ 15 360 = μ1 at hB1 ⊢
  refine g_putR dX0_init_10 fpX0_9 rfl rfl rfl (hB1.o hi) (kz := 0) rfl ?_
  have hB2 := hB1.putR (i := i) (j := 0) (v := z) (hB1.lt hi)
  generalize sR μ1 (x + i) 0 (some (x + z)) = μ2 at hB2 ⊢
  refine g_aload_n (j := 0) rfl dX0_init_13 ?_
  refine g_bipush dX0_init_14 (by omega) ?_
  refine g_newa (t := 14) (n := 60) (bc1 := 0) (bs1 := 0) dX0_init_16 ac_int ⟨by decide, by decide, rfl⟩ rfl (by omega) (Nat.le_of_ble_eq_true rfl) (Nat.le_of_ble_eq_true rfl) ?_
  rw [hB2.mz]
  have hB3 := hB2.new (t := 14) (n := 60)
  have hi := app_g hi (14, 60)
  have hs1 := app_g hs1 (14, 60)
  have hs2 : _ := app_n (q := ((14 : Nat), (60 : Nat))) hB2.1.2.2
  generalize sN μ2 14 60 = μ3 at hB3 ⊢
  refine g_putR dX0_init_18 fpX0_15 rfl rfl rfl (hB3.o hi) (kz := 1) rfl ?_
  have hB4 := hB3.putR (i := i) (j := 1) (v := z + 1) (hB3.lt hi)
  generalize sR μ3 (x + i) 1 (some (x + (z + 1))) = μ4 at hB4 ⊢
  refine g_aload_n (j := 0) rfl dX0_init_21 ?_
  refine g_iconst dX0_init_22 ?_
  refine g_putI dX0_init_23 fpX0_19 rfl rfl rfl (hB4.o hi) (kz := 2) rfl ?_
  have hB5 := hB4.putI (i := i) (j := 2) (v := 1) (hB4.lt hi)
  generalize sI μ4 (x + i) 2 1 = μ5 at hB5 ⊢
  exact G.retV dX0_init_26 rfl ⟨rfl, hB5⟩
theorem b_X8_init (w : WC) (d : Nat) (μ : Mem) {x z i : Nat} {R : List ((Nat × Int) × Nat)} {I : List ((Nat × Int) × Int)} {S : List (Nat × Nat)} (hB : Bu w x z R I S μ) (hi : S[i]? = some (8, 0)) : Con w (d + 1) mX8_init 2 938 [vP (some (x + i))] μ (fun r μ2 => r = none ∧ Bu w x (z + 1 + 1) (((i, 1), z + 1) :: ((i, 0), z) :: R) (I) (((S ++ [(15, 469)]) ++ [(15, 469)])) μ2) := by
  refine Con.of (by decide) (Nat.le_of_ble_eq_true rfl) rfl ?_
  refine g_aload_n (j := 0) rfl dX8_init_0 ?_
  refine g_objI dX8_init_1 mlX8_3 obj_in obj_co (by omega) (Nat.le_of_ble_eq_true rfl) ?_
  refine g_aload_n (j := 0) rfl dX8_init_4 ?_
  refine g_sipush dX8_init_5 (by omega) ?_
  refine g_newa (t := 15) (n := 469) (bc1 := 1) (bs1 := 469) dX8_init_8 ac_long ⟨by decide, by decide, rfl⟩ rfl (by omega) (Nat.le_of_ble_eq_true rfl) (Nat.le_of_ble_eq_true rfl) ?_
  rw [hB.mz]
  have hB1 := hB.new (t := 15) (n := 469)
  have hi := app_g hi (15, 469)
  have hs1 : _ := app_n (q := ((15 : Nat), (469 : Nat))) hB.1.2.2
  generalize sN μ 15 469 = μ1 at hB1 ⊢
  refine g_putR dX8_init_10 fpX8_11 rfl rfl rfl (hB1.o hi) (kz := 0) rfl ?_
  have hB2 := hB1.putR (i := i) (j := 0) (v := z) (hB1.lt hi)
  generalize sR μ1 (x + i) 0 (some (x + z)) = μ2 at hB2 ⊢
  refine g_aload_n (j := 0) rfl dX8_init_13 ?_
  refine g_sipush dX8_init_14 (by omega) ?_
  refine g_newa (t := 15) (n := 469) (bc1 := 0) (bs1 := 0) dX8_init_17 ac_long ⟨by decide, by decide, rfl⟩ rfl (by omega) (Nat.le_of_ble_eq_true rfl) (Nat.le_of_ble_eq_true rfl) ?_
  rw [hB2.mz]
  have hB3 := hB2.new (t := 15) (n := 469)
  have hi := app_g hi (15, 469)
  have hs1 := app_g hs1 (15, 469)
  have hs2 : _ := app_n (q := ((15 : Nat), (469 : Nat))) hB2.1.2.2
  generalize sN μ2 15 469 = μ3 at hB3 ⊢
  refine g_putR dX8_init_19 fpX8_15 rfl rfl rfl (hB3.o hi) (kz := 1) rfl ?_
  have hB4 := hB3.putR (i := i) (j := 1) (v := z + 1) (hB3.lt hi)
  generalize sR μ3 (x + i) 1 (some (x + (z + 1))) = μ4 at hB4 ⊢
  exact G.retV dX8_init_22 rfl ⟨rfl, hB4⟩
theorem b_X5_init (w : WC) (d : Nat) (μ : Mem) {x z i : Nat} {R : List ((Nat × Int) × Nat)} {I : List ((Nat × Int) × Int)} {S : List (Nat × Nat)} (hB : Bu w x z R I S μ) (hi : S[i]? = some (5, 0)) : Con w (d + 1) mX5_init 1 2400 [vP (some (x + i))] μ (fun r μ2 => r = none ∧ Bu w x (z + 1) (((i, 0), z) :: R) (I) ((S ++ [(13, 2400)])) μ2) := by
  refine Con.of (by decide) (Nat.le_of_ble_eq_true rfl) rfl ?_
  refine g_aload_n (j := 0) rfl dX5_init_0 ?_
  refine g_objI dX5_init_1 mlX5_3 obj_in obj_co (by omega) (Nat.le_of_ble_eq_true rfl) ?_
  refine g_aload_n (j := 0) rfl dX5_init_4 ?_
  refine g_sipush dX5_init_5 (by omega) ?_
  refine g_newa (t := 13) (n := 2400) (bc1 := 0) (bs1 := 0) dX5_init_8 ac_byte ⟨by decide, by decide, rfl⟩ rfl (by omega) (Nat.le_of_ble_eq_true rfl) (Nat.le_of_ble_eq_true rfl) ?_
  rw [hB.mz]
  have hB1 := hB.new (t := 13) (n := 2400)
  have hi := app_g hi (13, 2400)
  have hs1 : _ := app_n (q := ((13 : Nat), (2400 : Nat))) hB.1.2.2
  generalize sN μ 13 2400 = μ1 at hB1 ⊢
  refine g_putR dX5_init_10 fpX5_9 rfl rfl rfl (hB1.o hi) (kz := 0) rfl ?_
  have hB2 := hB1.putR (i := i) (j := 0) (v := z) (hB1.lt hi)
  generalize sR μ1 (x + i) 0 (some (x + z)) = μ2 at hB2 ⊢
  exact G.retV dX5_init_13 rfl ⟨rfl, hB2⟩
theorem b_X3_init (w : WC) (d : Nat) (μ : Mem) {x z i : Nat} {R : List ((Nat × Int) × Nat)} {I : List ((Nat × Int) × Int)} {S : List (Nat × Nat)} (hB : Bu w x z R I S μ) (hi : S[i]? = some (3, 0)) : Con w (d + 1) mX3_init 13 1642 [vP (some (x + i))] μ (fun r μ2 => r = none ∧ Bu w x (z + 1 + 1 + 1 + 1 + 1 + 1 + 1 + 1 + 1 + 1 + 1 + 1 + 1) (((i, 12), z + 1 + 1 + 1 + 1 + 1 + 1 + 1 + 1 + 1 + 1 + 1 + 1) :: ((i, 11), z + 1 + 1 + 1 + 1 + 1 + 1 + 1 + 1 + 1 + 1 + 1) :: ((i, 10), z + 1 + 1 + 1 + 1 + 1 + 1 + 1 + 1 + 1 + 1) :: ((i, 9), z + 1 + 1 + 1 + 1 + 1 + 1 + 1 + 1 + 1) :: ((i, 8), z + 1 + 1 + 1 + 1 + 1 + 1 + 1 + 1) :: ((i, 7), z + 1 + 1 + 1 + 1 + 1 + 1 + 1) :: ((i, 6), z + 1 + 1 + 1 + 1 + 1 + 1) :: ((i, 5), z + 1 + 1 + 1 + 1 + 1) :: ((i, 4), z + 1 + 1 + 1 + 1) :: ((i, 3), z + 1 + 1 + 1) :: ((i, 2), z + 1 + 1) :: ((i, 1), z + 1) :: ((i, 0), z) :: R) (I) ((((((((((((((S ++ [(14, 200)]) ++ [(14, 200)]) ++ [(14, 200)]) ++ [(14, 200)]) ++ [(14, 200)]) ++ [(15, 200)]) ++ [(16, 200)]) ++ [(14, 200)]) ++ [(14, 6)]) ++ [(14, 4)]) ++ [(14, 24)]) ++ [(16, 4)]) ++ [(16, 4)])) μ2) := by
  refine Con.of (by decide) (Nat.le_of_ble_eq_true rfl) rfl ?_
  refine g_aload_n (j := 0) rfl dX3_init_0 ?_
  refine g_objI dX3_init_1 mlX3_5 obj_in obj_co (by omega) (Nat.le_of_ble_eq_true rfl) ?_
  refine g_aload_n (j := 0) rfl dX3_init_4 ?_
  refine g_sipush dX3_init_5 (by omega) ?_
  refine g_newa (t := 14) (n := 200) (bc1 := 12) (bs1 := 1442) dX3_init_8 ac_int ⟨by decide, by decide, rfl⟩ rfl (by omega) (Nat.le_of_ble_eq_true rfl) (Nat.le_of_ble_eq_true rfl) ?_
  rw [hB.mz]
  have hB1 := hB.new (t := 14) (n := 200)
  have hi := app_g hi (14, 200)
  have hs1 : _ := app_n (q := ((14 : Nat), (200 : Nat))) hB.1.2.2
  generalize sN μ 14 200 = μ1 at hB1 ⊢
  refine g_putR dX3_init_10 fpX3_11 rfl rfl rfl (hB1.o hi) (kz := 0) rfl ?_
  have hB2 := hB1.putR (i := i) (j := 0) (v := z) (hB1.lt hi)
  generalize sR μ1 (x + i) 0 (some (x + z)) = μ2 at hB2 ⊢
  refine g_aload_n (j := 0) rfl dX3_init_13 ?_
  refine g_sipush dX3_init_14 (by omega) ?_
  refine g_newa (t := 14) (n := 200) (bc1 := 11) (bs1 := 1242) dX3_init_17 ac_int ⟨by decide, by decide, rfl⟩ rfl (by omega) (Nat.le_of_ble_eq_true rfl) (Nat.le_of_ble_eq_true rfl) ?_
  rw [hB2.mz]
  have hB3 := hB2.new (t := 14) (n := 200)
  have hi := app_g hi (14, 200)
  have hs1 := app_g hs1 (14, 200)
  have hs2 : _ := app_n (q := ((14 : Nat), (200 : Nat))) hB2.1.2.2
  generalize sN μ2 14 200 = μ3 at hB3 ⊢
  refine g_putR dX3_init_19 fpX3_15 rfl rfl rfl (hB3.o hi) (kz := 1) rfl ?_
  have hB4 := hB3.putR (i := i) (j := 1) (v := z + 1) (hB3.lt hi)
  generalize sR μ3 (x + i) 1 (some (x + (z + 1))) = μ4 at hB4 ⊢
  refine g_aload_n (j := 0) rfl dX3_init_22 ?_
  refine g_sipush dX3_init_23 (by omega) ?_
  refine g_newa (t := 14) (n := 200) (bc1 := 10) (bs1 := 1042) dX3_init_26 ac_int ⟨by decide, by decide, rfl⟩ rfl (by omega) (Nat.le_of_ble_eq_true rfl) (Nat.le_of_ble_eq_true rfl) ?_
  rw [hB4.mz]
  have hB5 := hB4.new (t := 14) (n := 200)
  have hi := app_g hi (14, 200)
  have hs1 := app_g hs1 (14, 200)
  have hs2 := app_g hs2 (14, 200)
  have hs3 : _ := app_n (q := ((14 : Nat), (200 : Nat))) hB4.1.2.2
  generalize sN μ4 14 200 = μ5 at hB5 ⊢
  refine g_putR dX3_init_28 fpX3_18 rfl rfl rfl (hB5.o hi) (kz := 2) rfl ?_
  have hB6 := hB5.putR (i := i) (j := 2) (v := z + 1 + 1) (hB5.lt hi)
  generalize sR μ5 (x + i) 2 (some (x + (z + 1 + 1))) = μ6 at hB6 ⊢
  refine g_aload_n (j := 0) rfl dX3_init_31 ?_
  refine g_sipush dX3_init_32 (by omega) ?_
  refine g_newa (t := 14) (n := 200) (bc1 := 9) (bs1 := 842) dX3_init_35 ac_int ⟨by decide, by decide, rfl⟩ rfl (by omega) (Nat.le_of_ble_eq_true rfl) (Nat.le_of_ble_eq_true rfl) ?_
  rw [hB6.mz]
  have hB7 := hB6.new (t := 14) (n := 200)
  have hi := app_g hi (14, 200)
  have hs1 := app_g hs1 (14, 200)
  have hs2 := app_g hs2 (14, 200)
  have hs3 := app_g hs3 (14, 200)
  have hs4 : _ := app_n (q := ((14 : Nat), (200 : Nat))) hB6.1.2.2
  generalize sN μ6 14 200 = μ7 at hB7 ⊢
  refine g_putR dX3_init_37 fpX3_21 rfl rfl rfl (hB7.o hi) (kz := 3) rfl ?_
  have hB8 := hB7.putR (i := i) (j := 3) (v := z + 1 + 1 + 1) (hB7.lt hi)
  generalize sR μ7 (x + i) 3 (some (x + (z + 1 + 1 + 1))) = μ8 at hB8 ⊢
  refine g_aload_n (j := 0) rfl dX3_init_40 ?_
  refine g_sipush dX3_init_41 (by omega) ?_
  refine g_newa (t := 14) (n := 200) (bc1 := 8) (bs1 := 642) dX3_init_44 ac_int ⟨by decide, by decide, rfl⟩ rfl (by omega) (Nat.le_of_ble_eq_true rfl) (Nat.le_of_ble_eq_true rfl) ?_
  rw [hB8.mz]
  have hB9 := hB8.new (t := 14) (n := 200)
  have hi := app_g hi (14, 200)
  have hs1 := app_g hs1 (14, 200)
  have hs2 := app_g hs2 (14, 200)
  have hs3 := app_g hs3 (14, 200)
  have hs4 := app_g hs4 (14, 200)
  have hs5 : _ := app_n (q := ((14 : Nat), (200 : Nat))) hB8.1.2.2
  generalize sN μ8 14 200 = μ9 at hB9 ⊢
  refine g_putR dX3_init_46 fpX3_24 rfl rfl rfl (hB9.o hi) (kz := 4) rfl ?_
  have hB10 := hB9.putR (i := i) (j := 4) (v := z + 1 + 1 + 1 + 1) (hB9.lt hi)
  generalize sR μ9 (x + i) 4 (some (x + (z + 1 + 1 + 1 + 1))) = μ10 at hB10 ⊢
  refine g_aload_n (j := 0) rfl dX3_init_49 ?_
  refine g_sipush dX3_init_50 (by omega) ?_
  refine g_newa (t := 15) (n := 200) (bc1 := 7) (bs1 := 442) dX3_init_53 ac_long ⟨by decide, by decide, rfl⟩ rfl (by omega) (Nat.le_of_ble_eq_true rfl) (Nat.le_of_ble_eq_true rfl) ?_
  rw [hB10.mz]
  have hB11 := hB10.new (t := 15) (n := 200)
  have hi := app_g hi (15, 200)
  have hs1 := app_g hs1 (15, 200)
  have hs2 := app_g hs2 (15, 200)
  have hs3 := app_g hs3 (15, 200)
  have hs4 := app_g hs4 (15, 200)
  have hs5 := app_g hs5 (15, 200)
  have hs6 : _ := app_n (q := ((15 : Nat), (200 : Nat))) hB10.1.2.2
  generalize sN μ10 15 200 = μ11 at hB11 ⊢
  refine g_putR dX3_init_55 fpX3_27 rfl rfl rfl (hB11.o hi) (kz := 5) rfl ?_
  have hB12 := hB11.putR (i := i) (j := 5) (v := z + 1 + 1 + 1 + 1 + 1) (hB11.lt hi)
  generalize sR μ11 (x + i) 5 (some (x + (z + 1 + 1 + 1 + 1 + 1))) = μ12 at hB12 ⊢
  refine g_aload_n (j := 0) rfl dX3_init_58 ?_
  refine g_sipush dX3_init_59 (by omega) ?_
  refine g_newa (t := 16) (n := 200) (bc1 := 6) (bs1 := 242) dX3_init_62 ac_boolean ⟨by decide, by decide, rfl⟩ rfl (by omega) (Nat.le_of_ble_eq_true rfl) (Nat.le_of_ble_eq_true rfl) ?_
  rw [hB12.mz]
  have hB13 := hB12.new (t := 16) (n := 200)
  have hi := app_g hi (16, 200)
  have hs1 := app_g hs1 (16, 200)
  have hs2 := app_g hs2 (16, 200)
  have hs3 := app_g hs3 (16, 200)
  have hs4 := app_g hs4 (16, 200)
  have hs5 := app_g hs5 (16, 200)
  have hs6 := app_g hs6 (16, 200)
  have hs7 : _ := app_n (q := ((16 : Nat), (200 : Nat))) hB12.1.2.2
  generalize sN μ12 16 200 = μ13 at hB13 ⊢
  refine g_putR dX3_init_64 fpX3_31 rfl rfl rfl (hB13.o hi) (kz := 6) rfl ?_
  have hB14 := hB13.putR (i := i) (j := 6) (v := z + 1 + 1 + 1 + 1 + 1 + 1) (hB13.lt hi)
  generalize sR μ13 (x + i) 6 (some (x + (z + 1 + 1 + 1 + 1 + 1 + 1))) = μ14 at hB14 ⊢
  refine g_aload_n (j := 0) rfl dX3_init_67 ?_
  refine g_sipush dX3_init_68 (by omega) ?_
  refine g_newa (t := 14) (n := 200) (bc1 := 5) (bs1 := 42) dX3_init_71 ac_int ⟨by decide, by decide, rfl⟩ rfl (by omega) (Nat.le_of_ble_eq_true rfl) (Nat.le_of_ble_eq_true rfl) ?_
  rw [hB14.mz]
  have hB15 := hB14.new (t := 14) (n := 200)
  have hi := app_g hi (14, 200)
  have hs1 := app_g hs1 (14, 200)
  have hs2 := app_g hs2 (14, 200)
  have hs3 := app_g hs3 (14, 200)
  have hs4 := app_g hs4 (14, 200)
  have hs5 := app_g hs5 (14, 200)
  have hs6 := app_g hs6 (14, 200)
  have hs7 := app_g hs7 (14, 200)
  have hs8 : _ := app_n (q := ((14 : Nat), (200 : Nat))) hB14.1.2.2
  generalize sN μ14 14 200 = μ15 at hB15 ⊢
  refine g_putR dX3_init_73 fpX3_35 rfl rfl rfl (hB15.o hi) (kz := 7) rfl ?_
  have hB16 := hB15.putR (i := i) (j := 7) (v := z + 1 + 1 + 1 + 1 + 1 + 1 + 1) (hB15.lt hi)
  generalize sR μ15 (x + i) 7 (some (x + (z + 1 + 1 + 1 + 1 + 1 + 1 + 1))) = μ16 at hB16 ⊢
  refine g_aload_n (j := 0) rfl dX3_init_76 ?_
  refine g_bipush dX3_init_77 (by omega) ?_
  refine g_newa (t := 14) (n := 6) (bc1 := 4) (bs1 := 36) dX3_init_79 ac_int ⟨by decide, by decide, rfl⟩ rfl (by omega) (Nat.le_of_ble_eq_true rfl) (Nat.le_of_ble_eq_true rfl) ?_
  rw [hB16.mz]
  have hB17 := hB16.new (t := 14) (n := 6)
  have hi := app_g hi (14, 6)
  have hs1 := app_g hs1 (14, 6)
  have hs2 := app_g hs2 (14, 6)
  have hs3 := app_g hs3 (14, 6)
  have hs4 := app_g hs4 (14, 6)
  have hs5 := app_g hs5 (14, 6)
  have hs6 := app_g hs6 (14, 6)
  have hs7 := app_g hs7 (14, 6)
  have hs8 := app_g hs8 (14, 6)
  have hs9 : _ := app_n (q := ((14 : Nat), (6 : Nat))) hB16.1.2.2
  generalize sN μ16 14 6 = μ17 at hB17 ⊢
  refine g_putR dX3_init_81 fpX3_38 rfl rfl rfl (hB17.o hi) (kz := 8) rfl ?_
  have hB18 := hB17.putR (i := i) (j := 8) (v := z + 1 + 1 + 1 + 1 + 1 + 1 + 1 + 1) (hB17.lt hi)
  generalize sR μ17 (x + i) 8 (some (x + (z + 1 + 1 + 1 + 1 + 1 + 1 + 1 + 1))) = μ18 at hB18 ⊢
  refine g_aload_n (j := 0) rfl dX3_init_84 ?_
  refine g_iconst dX3_init_85 ?_
  refine g_newa (t := 14) (n := 4) (bc1 := 3) (bs1 := 32) dX3_init_86 ac_int ⟨by decide, by decide, rfl⟩ rfl (by omega) (Nat.le_of_ble_eq_true rfl) (Nat.le_of_ble_eq_true rfl) ?_
  rw [hB18.mz]
  have hB19 := hB18.new (t := 14) (n := 4)
  have hi := app_g hi (14, 4)
  have hs1 := app_g hs1 (14, 4)
  have hs2 := app_g hs2 (14, 4)
  have hs3 := app_g hs3 (14, 4)
  have hs4 := app_g hs4 (14, 4)
  have hs5 := app_g hs5 (14, 4)
  have hs6 := app_g hs6 (14, 4)
  have hs7 := app_g hs7 (14, 4)
  have hs8 := app_g hs8 (14, 4)
  have hs9 := app_g hs9 (14, 4)
  have hs10 : _ := app_n (q := ((14 : Nat), (4 : Nat))) hB18.1.2.2
  generalize sN μ18 14 4 = μ19 at hB19 ⊢
  refine g_putR dX3_init_88 fpX3_41 rfl rfl rfl (hB19.o hi) (kz := 9) rfl ?_
  have hB20 := hB19.putR (i := i) (j := 9) (v := z + 1 + 1 + 1 + 1 + 1 + 1 + 1 + 1 + 1) (hB19.lt hi)
  generalize sR μ19 (x + i) 9 (some (x + (z + 1 + 1 + 1 + 1 + 1 + 1 + 1 + 1 + 1))) = μ20 at hB20 ⊢
  refine g_aload_n (j := 0) rfl dX3_init_91 ?_
  refine g_bipush dX3_init_92 (by omega) ?_
  refine g_newa (t := 14) (n := 24) (bc1 := 2) (bs1 := 8) dX3_init_94 ac_int ⟨by decide, by decide, rfl⟩ rfl (by omega) (Nat.le_of_ble_eq_true rfl) (Nat.le_of_ble_eq_true rfl) ?_
  rw [hB20.mz]
  have hB21 := hB20.new (t := 14) (n := 24)
  have hi := app_g hi (14, 24)
  have hs1 := app_g hs1 (14, 24)
  have hs2 := app_g hs2 (14, 24)
  have hs3 := app_g hs3 (14, 24)
  have hs4 := app_g hs4 (14, 24)
  have hs5 := app_g hs5 (14, 24)
  have hs6 := app_g hs6 (14, 24)
  have hs7 := app_g hs7 (14, 24)
  have hs8 := app_g hs8 (14, 24)
  have hs9 := app_g hs9 (14, 24)
  have hs10 := app_g hs10 (14, 24)
  have hs11 : _ := app_n (q := ((14 : Nat), (24 : Nat))) hB20.1.2.2
  generalize sN μ20 14 24 = μ21 at hB21 ⊢
  refine g_putR dX3_init_96 fpX3_44 rfl rfl rfl (hB21.o hi) (kz := 10) rfl ?_
  have hB22 := hB21.putR (i := i) (j := 10) (v := z + 1 + 1 + 1 + 1 + 1 + 1 + 1 + 1 + 1 + 1) (hB21.lt hi)
  generalize sR μ21 (x + i) 10 (some (x + (z + 1 + 1 + 1 + 1 + 1 + 1 + 1 + 1 + 1 + 1))) = μ22 at hB22 ⊢
  refine g_aload_n (j := 0) rfl dX3_init_99 ?_
  refine g_iconst dX3_init_100 ?_
  refine g_newa (t := 16) (n := 4) (bc1 := 1) (bs1 := 4) dX3_init_101 ac_boolean ⟨by decide, by decide, rfl⟩ rfl (by omega) (Nat.le_of_ble_eq_true rfl) (Nat.le_of_ble_eq_true rfl) ?_
  rw [hB22.mz]
  have hB23 := hB22.new (t := 16) (n := 4)
  have hi := app_g hi (16, 4)
  have hs1 := app_g hs1 (16, 4)
  have hs2 := app_g hs2 (16, 4)
  have hs3 := app_g hs3 (16, 4)
  have hs4 := app_g hs4 (16, 4)
  have hs5 := app_g hs5 (16, 4)
  have hs6 := app_g hs6 (16, 4)
  have hs7 := app_g hs7 (16, 4)
  have hs8 := app_g hs8 (16, 4)
  have hs9 := app_g hs9 (16, 4)
  have hs10 := app_g hs10 (16, 4)
  have hs11 := app_g hs11 (16, 4)
  have hs12 : _ := app_n (q := ((16 : Nat), (4 : Nat))) hB22.1.2.2
  generalize sN μ22 16 4 = μ23 at hB23 ⊢
  refine g_putR dX3_init_103 fpX3_47 rfl rfl rfl (hB23.o hi) (kz := 11) rfl ?_
  have hB24 := hB23.putR (i := i) (j := 11) (v := z + 1 + 1 + 1 + 1 + 1 + 1 + 1 + 1 + 1 + 1 + 1) (hB23.lt hi)
  generalize sR μ23 (x + i) 11 (some (x + (z + 1 + 1 + 1 + 1 + 1 + 1 + 1 + 1 + 1 + 1 + 1))) = μ24 at hB24 ⊢
  refine g_aload_n (j := 0) rfl dX3_init_106 ?_
  refine g_iconst dX3_init_107 ?_
  refine g_newa (t := 16) (n := 4) (bc1 := 0) (bs1 := 0) dX3_init_108 ac_boolean ⟨by decide, by decide, rfl⟩ rfl (by omega) (Nat.le_of_ble_eq_true rfl) (Nat.le_of_ble_eq_true rfl) ?_
  rw [hB24.mz]
  have hB25 := hB24.new (t := 16) (n := 4)
  have hi := app_g hi (16, 4)
  have hs1 := app_g hs1 (16, 4)
  have hs2 := app_g hs2 (16, 4)
  have hs3 := app_g hs3 (16, 4)
  have hs4 := app_g hs4 (16, 4)
  have hs5 := app_g hs5 (16, 4)
  have hs6 := app_g hs6 (16, 4)
  have hs7 := app_g hs7 (16, 4)
  have hs8 := app_g hs8 (16, 4)
  have hs9 := app_g hs9 (16, 4)
  have hs10 := app_g hs10 (16, 4)
  have hs11 := app_g hs11 (16, 4)
  have hs12 := app_g hs12 (16, 4)
  have hs13 : _ := app_n (q := ((16 : Nat), (4 : Nat))) hB24.1.2.2
  generalize sN μ24 16 4 = μ25 at hB25 ⊢
  refine g_putR dX3_init_110 fpX3_50 rfl rfl rfl (hB25.o hi) (kz := 12) rfl ?_
  have hB26 := hB25.putR (i := i) (j := 12) (v := z + 1 + 1 + 1 + 1 + 1 + 1 + 1 + 1 + 1 + 1 + 1 + 1) (hB25.lt hi)
  generalize sR μ25 (x + i) 12 (some (x + (z + 1 + 1 + 1 + 1 + 1 + 1 + 1 + 1 + 1 + 1 + 1 + 1))) = μ26 at hB26 ⊢
  exact G.retV dX3_init_113 rfl ⟨rfl, hB26⟩
theorem b_X12_init (w : WC) (d : Nat) (μ : Mem) {x z i : Nat} {R : List ((Nat × Int) × Nat)} {I : List ((Nat × Int) × Int)} {S : List (Nat × Nat)} (hB : Bu w x z R I S μ) (hi : S[i]? = some (12, 0)) : Con w (d + 1) mX12_init 20 200815 [vP (some (x + i))] μ (fun r μ2 => r = none ∧ Bu w x (z + 1 + 1 + 1 + 1 + 1 + 1 + 1 + 1 + 1 + 1 + 1 + 1 + 1 + 1 + 1 + 1 + 1 + 1 + 1 + 1) (((i, 48), z + 1 + 1 + 1 + 1 + 1 + 1 + 1 + 1 + 1 + 1 + 1 + 1 + 1 + 1 + 1 + 1 + 1 + 1 + 1) :: ((i, 47), z + 1 + 1 + 1 + 1 + 1 + 1 + 1 + 1 + 1 + 1 + 1 + 1 + 1 + 1 + 1 + 1 + 1 + 1) :: ((i, 46), z + 1 + 1 + 1 + 1 + 1 + 1 + 1 + 1 + 1 + 1 + 1 + 1 + 1 + 1 + 1 + 1 + 1) :: ((i, 45), z + 1 + 1 + 1 + 1 + 1 + 1 + 1 + 1 + 1 + 1 + 1 + 1 + 1 + 1 + 1 + 1) :: ((i, 43), z + 1 + 1 + 1 + 1 + 1 + 1 + 1 + 1 + 1 + 1 + 1 + 1 + 1 + 1 + 1) :: ((i, 42), z + 1 + 1 + 1 + 1 + 1 + 1 + 1 + 1 + 1 + 1 + 1 + 1 + 1 + 1) :: ((i, 35), z + 1 + 1 + 1 + 1 + 1 + 1 + 1 + 1 + 1 + 1 + 1 + 1 + 1) :: ((i, 34), z + 1 + 1 + 1 + 1 + 1 + 1 + 1 + 1 + 1 + 1 + 1 + 1) :: ((i, 33), z + 1 + 1 + 1 + 1 + 1 + 1 + 1 + 1 + 1 + 1 + 1) :: ((i, 31), z + 1 + 1 + 1 + 1 + 1 + 1 + 1 + 1 + 1 + 1) :: ((i, 30), z + 1 + 1 + 1 + 1 + 1 + 1 + 1 + 1 + 1) :: ((i, 28), z + 1 + 1 + 1 + 1 + 1 + 1 + 1 + 1) :: ((i, 27), z + 1 + 1 + 1 + 1 + 1 + 1 + 1) :: ((i, 26), z + 1 + 1 + 1 + 1 + 1 + 1) :: ((i, 25), z + 1 + 1 + 1 + 1 + 1) :: ((i, 24), z + 1 + 1 + 1 + 1) :: ((i, 22), z + 1 + 1 + 1) :: ((i, 2), z + 1 + 1) :: ((i, 1), z + 1) :: ((i, 0), z) :: R) (((i, 23), -1) :: ((i, 21), -1) :: ((i, 7), -1) :: ((i, 6), -1) :: ((i, 5), -1) :: I) (((((((((((((((((((((S ++ [(14, 5)]) ++ [(14, 100)]) ++ [(14, 800)]) ++ [(15, 180006)]) ++ [(15, 6001)]) ++ [(14, 5)]) ++ [(14, 5)]) ++ [(14, 600)]) ++ [(15, 120)]) ++ [(14, 5)]) ++ [(14, 60)]) ++ [(14, 1800)]) ++ [(14, 1800)]) ++ [(14, 4)]) ++ [(14, 6)]) ++ [(15, 130)]) ++ [(14, 7)]) ++ [(15, 360)]) ++ [(16, 6001)]) ++ [(14, 3000)])) μ2) := by
  refine Con.of (by decide) (Nat.le_of_ble_eq_true rfl) rfl ?_
  refine g_aload_n (j := 0) rfl dX12_init_0 ?_
  refine g_objI dX12_init_1 mlX12_3 obj_in obj_co (by omega) (Nat.le_of_ble_eq_true rfl) ?_
  refine g_aload_n (j := 0) rfl dX12_init_4 ?_
  refine g_iconst dX12_init_5 ?_
  refine g_newa (t := 14) (n := 5) (bc1 := 19) (bs1 := 200810) dX12_init_6 ac_int ⟨by decide, by decide, rfl⟩ rfl (by omega) (Nat.le_of_ble_eq_true rfl) (Nat.le_of_ble_eq_true rfl) ?_
  rw [hB.mz]
  have hB1 := hB.new (t := 14) (n := 5)
  have hi := app_g hi (14, 5)
  have hs1 : _ := app_n (q := ((14 : Nat), (5 : Nat))) hB.1.2.2
  generalize sN μ 14 5 = μ1 at hB1 ⊢
  refine g_putR dX12_init_8 fpX12_9 rfl rfl rfl (hB1.o hi) (kz := 0) rfl ?_
  have hB2 := hB1.putR (i := i) (j := 0) (v := z) (hB1.lt hi)
  generalize sR μ1 (x + i) 0 (some (x + z)) = μ2 at hB2 ⊢
  refine g_aload_n (j := 0) rfl dX12_init_11 ?_
  refine g_bipush dX12_init_12 (by omega) ?_
  refine g_newa (t := 14) (n := 100) (bc1 := 18) (bs1 := 200710) dX12_init_14 ac_int ⟨by decide, by decide, rfl⟩ rfl (by omega) (Nat.le_of_ble_eq_true rfl) (Nat.le_of_ble_eq_true rfl) ?_
  rw [hB2.mz]
  have hB3 := hB2.new (t := 14) (n := 100)
  have hi := app_g hi (14, 100)
  have hs1 := app_g hs1 (14, 100)
  have hs2 : _ := app_n (q := ((14 : Nat), (100 : Nat))) hB2.1.2.2
  generalize sN μ2 14 100 = μ3 at hB3 ⊢
  refine g_putR dX12_init_16 fpX12_15 rfl rfl rfl (hB3.o hi) (kz := 1) rfl ?_
  have hB4 := hB3.putR (i := i) (j := 1) (v := z + 1) (hB3.lt hi)
  generalize sR μ3 (x + i) 1 (some (x + (z + 1))) = μ4 at hB4 ⊢
  refine g_aload_n (j := 0) rfl dX12_init_19 ?_
  refine g_sipush dX12_init_20 (by omega) ?_
  refine g_newa (t := 14) (n := 800) (bc1 := 17) (bs1 := 199910) dX12_init_23 ac_int ⟨by decide, by decide, rfl⟩ rfl (by omega) (Nat.le_of_ble_eq_true rfl) (Nat.le_of_ble_eq_true rfl) ?_
  rw [hB4.mz]
  have hB5 := hB4.new (t := 14) (n := 800)
  have hi := app_g hi (14, 800)
  have hs1 := app_g hs1 (14, 800)
  have hs2 := app_g hs2 (14, 800)
  have hs3 : _ := app_n (q := ((14 : Nat), (800 : Nat))) hB4.1.2.2
  generalize sN μ4 14 800 = μ5 at hB5 ⊢
  refine g_putR dX12_init_25 fpX12_18 rfl rfl rfl (hB5.o hi) (kz := 2) rfl ?_
  have hB6 := hB5.putR (i := i) (j := 2) (v := z + 1 + 1) (hB5.lt hi)
  generalize sR μ5 (x + i) 2 (some (x + (z + 1 + 1))) = μ6 at hB6 ⊢
  refine g_aload_n (j := 0) rfl dX12_init_28 ?_
  refine g_iconst dX12_init_29 ?_
  refine g_putI dX12_init_30 fpX12_21 rfl rfl rfl (hB6.o hi) (kz := 5) rfl ?_
  have hB7 := hB6.putI (i := i) (j := 5) (v := (-1)) (hB6.lt hi)
  generalize sI μ6 (x + i) 5 (-1) = μ7 at hB7 ⊢
  refine g_aload_n (j := 0) rfl dX12_init_33 ?_
  refine g_iconst dX12_init_34 ?_
  refine g_putI dX12_init_35 fpX12_25 rfl rfl rfl (hB7.o hi) (kz := 6) rfl ?_
  have hB8 := hB7.putI (i := i) (j := 6) (v := (-1)) (hB7.lt hi)
  generalize sI μ7 (x + i) 6 (-1) = μ8 at hB8 ⊢
  refine g_aload_n (j := 0) rfl dX12_init_38 ?_
  refine g_iconst dX12_init_39 ?_
  refine g_putI dX12_init_40 fpX12_28 rfl rfl rfl (hB8.o hi) (kz := 7) rfl ?_
  have hB9 := hB8.putI (i := i) (j := 7) (v := (-1)) (hB8.lt hi)
  generalize sI μ8 (x + i) 7 (-1) = μ9 at hB9 ⊢
  refine g_aload_n (j := 0) rfl dX12_init_43 ?_
  refine g_iconst dX12_init_44 ?_
  refine g_putI dX12_init_45 fpX12_31 rfl rfl rfl (hB9.o hi) (kz := 21) rfl ?_
  have hB10 := hB9.putI (i := i) (j := 21) (v := (-1)) (hB9.lt hi)
  generalize sI μ9 (x + i) 21 (-1) = μ10 at hB10 ⊢
  refine g_aload_n (j := 0) rfl dX12_init_48 ?_
  refine g_ldc dX12_init_49 kcX12_34 (z := 180006) rfl ?_
  refine g_newa (t := 15) (n := 180006) (bc1 := 16) (bs1 := 19904) dX12_init_51 ac_long ⟨by decide, by decide, rfl⟩ rfl (by omega) (Nat.le_of_ble_eq_true rfl) (Nat.le_of_ble_eq_true rfl) ?_
  rw [hB10.mz]
  have hB11 := hB10.new (t := 15) (n := 180006)
  have hi := app_g hi (15, 180006)
  have hs1 := app_g hs1 (15, 180006)
  have hs2 := app_g hs2 (15, 180006)
  have hs3 := app_g hs3 (15, 180006)
  have hs4 : _ := app_n (q := ((15 : Nat), (180006 : Nat))) hB10.1.2.2
  generalize sN μ10 15 180006 = μ11 at hB11 ⊢
  refine g_putR dX12_init_53 fpX12_35 rfl rfl rfl (hB11.o hi) (kz := 22) rfl ?_
  have hB12 := hB11.putR (i := i) (j := 22) (v := z + 1 + 1 + 1) (hB11.lt hi)
  generalize sR μ11 (x + i) 22 (some (x + (z + 1 + 1 + 1))) = μ12 at hB12 ⊢
  refine g_aload_n (j := 0) rfl dX12_init_56 ?_
  refine g_iconst dX12_init_57 ?_
  refine g_putI dX12_init_58 fpX12_39 rfl rfl rfl (hB12.o hi) (kz := 23) rfl ?_
  have hB13 := hB12.putI (i := i) (j := 23) (v := (-1)) (hB12.lt hi)
  generalize sI μ12 (x + i) 23 (-1) = μ13 at hB13 ⊢
  refine g_aload_n (j := 0) rfl dX12_init_61 ?_
  refine g_sipush dX12_init_62 (by omega) ?_
  refine g_newa (t := 15) (n := 6001) (bc1 := 15) (bs1 := 13903) dX12_init_65 ac_long ⟨by decide, by decide, rfl⟩ rfl (by omega) (Nat.le_of_ble_eq_true rfl) (Nat.le_of_ble_eq_true rfl) ?_
  rw [hB13.mz]
  have hB14 := hB13.new (t := 15) (n := 6001)
  have hi := app_g hi (15, 6001)
  have hs1 := app_g hs1 (15, 6001)
  have hs2 := app_g hs2 (15, 6001)
  have hs3 := app_g hs3 (15, 6001)
  have hs4 := app_g hs4 (15, 6001)
  have hs5 : _ := app_n (q := ((15 : Nat), (6001 : Nat))) hB13.1.2.2
  generalize sN μ13 15 6001 = μ14 at hB14 ⊢
  refine g_putR dX12_init_67 fpX12_42 rfl rfl rfl (hB14.o hi) (kz := 24) rfl ?_
  have hB15 := hB14.putR (i := i) (j := 24) (v := z + 1 + 1 + 1 + 1) (hB14.lt hi)
  generalize sR μ14 (x + i) 24 (some (x + (z + 1 + 1 + 1 + 1))) = μ15 at hB15 ⊢
  refine g_aload_n (j := 0) rfl dX12_init_70 ?_
  refine g_iconst dX12_init_71 ?_
  refine g_newa (t := 14) (n := 5) (bc1 := 14) (bs1 := 13898) dX12_init_72 ac_int ⟨by decide, by decide, rfl⟩ rfl (by omega) (Nat.le_of_ble_eq_true rfl) (Nat.le_of_ble_eq_true rfl) ?_
  rw [hB15.mz]
  have hB16 := hB15.new (t := 14) (n := 5)
  have hi := app_g hi (14, 5)
  have hs1 := app_g hs1 (14, 5)
  have hs2 := app_g hs2 (14, 5)
  have hs3 := app_g hs3 (14, 5)
  have hs4 := app_g hs4 (14, 5)
  have hs5 := app_g hs5 (14, 5)
  have hs6 : _ := app_n (q := ((14 : Nat), (5 : Nat))) hB15.1.2.2
  generalize sN μ15 14 5 = μ16 at hB16 ⊢
  refine g_putR dX12_init_74 fpX12_45 rfl rfl rfl (hB16.o hi) (kz := 25) rfl ?_
  have hB17 := hB16.putR (i := i) (j := 25) (v := z + 1 + 1 + 1 + 1 + 1) (hB16.lt hi)
  generalize sR μ16 (x + i) 25 (some (x + (z + 1 + 1 + 1 + 1 + 1))) = μ17 at hB17 ⊢
  refine g_aload_n (j := 0) rfl dX12_init_77 ?_
  refine g_iconst dX12_init_78 ?_
  refine g_newa (t := 14) (n := 5) (bc1 := 13) (bs1 := 13893) dX12_init_79 ac_int ⟨by decide, by decide, rfl⟩ rfl (by omega) (Nat.le_of_ble_eq_true rfl) (Nat.le_of_ble_eq_true rfl) ?_
  rw [hB17.mz]
  have hB18 := hB17.new (t := 14) (n := 5)
  have hi := app_g hi (14, 5)
  have hs1 := app_g hs1 (14, 5)
  have hs2 := app_g hs2 (14, 5)
  have hs3 := app_g hs3 (14, 5)
  have hs4 := app_g hs4 (14, 5)
  have hs5 := app_g hs5 (14, 5)
  have hs6 := app_g hs6 (14, 5)
  have hs7 : _ := app_n (q := ((14 : Nat), (5 : Nat))) hB17.1.2.2
  generalize sN μ17 14 5 = μ18 at hB18 ⊢
  refine g_putR dX12_init_81 fpX12_48 rfl rfl rfl (hB18.o hi) (kz := 26) rfl ?_
  have hB19 := hB18.putR (i := i) (j := 26) (v := z + 1 + 1 + 1 + 1 + 1 + 1) (hB18.lt hi)
  generalize sR μ18 (x + i) 26 (some (x + (z + 1 + 1 + 1 + 1 + 1 + 1))) = μ19 at hB19 ⊢
  refine g_aload_n (j := 0) rfl dX12_init_84 ?_
  refine g_sipush dX12_init_85 (by omega) ?_
  refine g_newa (t := 14) (n := 600) (bc1 := 12) (bs1 := 13293) dX12_init_88 ac_int ⟨by decide, by decide, rfl⟩ rfl (by omega) (Nat.le_of_ble_eq_true rfl) (Nat.le_of_ble_eq_true rfl) ?_
  rw [hB19.mz]
  have hB20 := hB19.new (t := 14) (n := 600)
  have hi := app_g hi (14, 600)
  have hs1 := app_g hs1 (14, 600)
  have hs2 := app_g hs2 (14, 600)
  have hs3 := app_g hs3 (14, 600)
  have hs4 := app_g hs4 (14, 600)
  have hs5 := app_g hs5 (14, 600)
  have hs6 := app_g hs6 (14, 600)
  have hs7 := app_g hs7 (14, 600)
  have hs8 : _ := app_n (q := ((14 : Nat), (600 : Nat))) hB19.1.2.2
  generalize sN μ19 14 600 = μ20 at hB20 ⊢
  refine g_putR dX12_init_90 fpX12_51 rfl rfl rfl (hB20.o hi) (kz := 27) rfl ?_
  have hB21 := hB20.putR (i := i) (j := 27) (v := z + 1 + 1 + 1 + 1 + 1 + 1 + 1) (hB20.lt hi)
  generalize sR μ20 (x + i) 27 (some (x + (z + 1 + 1 + 1 + 1 + 1 + 1 + 1))) = μ21 at hB21 ⊢
  refine g_aload_n (j := 0) rfl dX12_init_93 ?_
  refine g_bipush dX12_init_94 (by omega) ?_
  refine g_newa (t := 15) (n := 120) (bc1 := 11) (bs1 := 13173) dX12_init_96 ac_long ⟨by decide, by decide, rfl⟩ rfl (by omega) (Nat.le_of_ble_eq_true rfl) (Nat.le_of_ble_eq_true rfl) ?_
  rw [hB21.mz]
  have hB22 := hB21.new (t := 15) (n := 120)
  have hi := app_g hi (15, 120)
  have hs1 := app_g hs1 (15, 120)
  have hs2 := app_g hs2 (15, 120)
  have hs3 := app_g hs3 (15, 120)
  have hs4 := app_g hs4 (15, 120)
  have hs5 := app_g hs5 (15, 120)
  have hs6 := app_g hs6 (15, 120)
  have hs7 := app_g hs7 (15, 120)
  have hs8 := app_g hs8 (15, 120)
  have hs9 : _ := app_n (q := ((15 : Nat), (120 : Nat))) hB21.1.2.2
  generalize sN μ21 15 120 = μ22 at hB22 ⊢
  refine g_putR dX12_init_98 fpX12_54 rfl rfl rfl (hB22.o hi) (kz := 28) rfl ?_
  have hB23 := hB22.putR (i := i) (j := 28) (v := z + 1 + 1 + 1 + 1 + 1 + 1 + 1 + 1) (hB22.lt hi)
  generalize sR μ22 (x + i) 28 (some (x + (z + 1 + 1 + 1 + 1 + 1 + 1 + 1 + 1))) = μ23 at hB23 ⊢
  refine g_aload_n (j := 0) rfl dX12_init_101 ?_
  refine g_iconst dX12_init_102 ?_
  refine g_newa (t := 14) (n := 5) (bc1 := 10) (bs1 := 13168) dX12_init_103 ac_int ⟨by decide, by decide, rfl⟩ rfl (by omega) (Nat.le_of_ble_eq_true rfl) (Nat.le_of_ble_eq_true rfl) ?_
  rw [hB23.mz]
  have hB24 := hB23.new (t := 14) (n := 5)
  have hi := app_g hi (14, 5)
  have hs1 := app_g hs1 (14, 5)
  have hs2 := app_g hs2 (14, 5)
  have hs3 := app_g hs3 (14, 5)
  have hs4 := app_g hs4 (14, 5)
  have hs5 := app_g hs5 (14, 5)
  have hs6 := app_g hs6 (14, 5)
  have hs7 := app_g hs7 (14, 5)
  have hs8 := app_g hs8 (14, 5)
  have hs9 := app_g hs9 (14, 5)
  have hs10 : _ := app_n (q := ((14 : Nat), (5 : Nat))) hB23.1.2.2
  generalize sN μ23 14 5 = μ24 at hB24 ⊢
  refine g_putR dX12_init_105 fpX12_57 rfl rfl rfl (hB24.o hi) (kz := 30) rfl ?_
  have hB25 := hB24.putR (i := i) (j := 30) (v := z + 1 + 1 + 1 + 1 + 1 + 1 + 1 + 1 + 1) (hB24.lt hi)
  generalize sR μ24 (x + i) 30 (some (x + (z + 1 + 1 + 1 + 1 + 1 + 1 + 1 + 1 + 1))) = μ25 at hB25 ⊢
  refine g_aload_n (j := 0) rfl dX12_init_108 ?_
  refine g_bipush dX12_init_109 (by omega) ?_
  refine g_newa (t := 14) (n := 60) (bc1 := 9) (bs1 := 13108) dX12_init_111 ac_int ⟨by decide, by decide, rfl⟩ rfl (by omega) (Nat.le_of_ble_eq_true rfl) (Nat.le_of_ble_eq_true rfl) ?_
  rw [hB25.mz]
  have hB26 := hB25.new (t := 14) (n := 60)
  have hi := app_g hi (14, 60)
  have hs1 := app_g hs1 (14, 60)
  have hs2 := app_g hs2 (14, 60)
  have hs3 := app_g hs3 (14, 60)
  have hs4 := app_g hs4 (14, 60)
  have hs5 := app_g hs5 (14, 60)
  have hs6 := app_g hs6 (14, 60)
  have hs7 := app_g hs7 (14, 60)
  have hs8 := app_g hs8 (14, 60)
  have hs9 := app_g hs9 (14, 60)
  have hs10 := app_g hs10 (14, 60)
  have hs11 : _ := app_n (q := ((14 : Nat), (60 : Nat))) hB25.1.2.2
  generalize sN μ25 14 60 = μ26 at hB26 ⊢
  refine g_putR dX12_init_113 fpX12_60 rfl rfl rfl (hB26.o hi) (kz := 31) rfl ?_
  have hB27 := hB26.putR (i := i) (j := 31) (v := z + 1 + 1 + 1 + 1 + 1 + 1 + 1 + 1 + 1 + 1) (hB26.lt hi)
  generalize sR μ26 (x + i) 31 (some (x + (z + 1 + 1 + 1 + 1 + 1 + 1 + 1 + 1 + 1 + 1))) = μ27 at hB27 ⊢
  refine g_aload_n (j := 0) rfl dX12_init_116 ?_
  refine g_sipush dX12_init_117 (by omega) ?_
  refine g_newa (t := 14) (n := 1800) (bc1 := 8) (bs1 := 11308) dX12_init_120 ac_int ⟨by decide, by decide, rfl⟩ rfl (by omega) (Nat.le_of_ble_eq_true rfl) (Nat.le_of_ble_eq_true rfl) ?_
  rw [hB27.mz]
  have hB28 := hB27.new (t := 14) (n := 1800)
  have hi := app_g hi (14, 1800)
  have hs1 := app_g hs1 (14, 1800)
  have hs2 := app_g hs2 (14, 1800)
  have hs3 := app_g hs3 (14, 1800)
  have hs4 := app_g hs4 (14, 1800)
  have hs5 := app_g hs5 (14, 1800)
  have hs6 := app_g hs6 (14, 1800)
  have hs7 := app_g hs7 (14, 1800)
  have hs8 := app_g hs8 (14, 1800)
  have hs9 := app_g hs9 (14, 1800)
  have hs10 := app_g hs10 (14, 1800)
  have hs11 := app_g hs11 (14, 1800)
  have hs12 : _ := app_n (q := ((14 : Nat), (1800 : Nat))) hB27.1.2.2
  generalize sN μ27 14 1800 = μ28 at hB28 ⊢
  refine g_putR dX12_init_122 fpX12_63 rfl rfl rfl (hB28.o hi) (kz := 33) rfl ?_
  have hB29 := hB28.putR (i := i) (j := 33) (v := z + 1 + 1 + 1 + 1 + 1 + 1 + 1 + 1 + 1 + 1 + 1) (hB28.lt hi)
  generalize sR μ28 (x + i) 33 (some (x + (z + 1 + 1 + 1 + 1 + 1 + 1 + 1 + 1 + 1 + 1 + 1))) = μ29 at hB29 ⊢
  refine g_aload_n (j := 0) rfl dX12_init_125 ?_
  refine g_sipush dX12_init_126 (by omega) ?_
  refine g_newa (t := 14) (n := 1800) (bc1 := 7) (bs1 := 9508) dX12_init_129 ac_int ⟨by decide, by decide, rfl⟩ rfl (by omega) (Nat.le_of_ble_eq_true rfl) (Nat.le_of_ble_eq_true rfl) ?_
  rw [hB29.mz]
  have hB30 := hB29.new (t := 14) (n := 1800)
  have hi := app_g hi (14, 1800)
  have hs1 := app_g hs1 (14, 1800)
  have hs2 := app_g hs2 (14, 1800)
  have hs3 := app_g hs3 (14, 1800)
  have hs4 := app_g hs4 (14, 1800)
  have hs5 := app_g hs5 (14, 1800)
  have hs6 := app_g hs6 (14, 1800)
  have hs7 := app_g hs7 (14, 1800)
  have hs8 := app_g hs8 (14, 1800)
  have hs9 := app_g hs9 (14, 1800)
  have hs10 := app_g hs10 (14, 1800)
  have hs11 := app_g hs11 (14, 1800)
  have hs12 := app_g hs12 (14, 1800)
  have hs13 : _ := app_n (q := ((14 : Nat), (1800 : Nat))) hB29.1.2.2
  generalize sN μ29 14 1800 = μ30 at hB30 ⊢
  refine g_putR dX12_init_131 fpX12_66 rfl rfl rfl (hB30.o hi) (kz := 34) rfl ?_
  have hB31 := hB30.putR (i := i) (j := 34) (v := z + 1 + 1 + 1 + 1 + 1 + 1 + 1 + 1 + 1 + 1 + 1 + 1) (hB30.lt hi)
  generalize sR μ30 (x + i) 34 (some (x + (z + 1 + 1 + 1 + 1 + 1 + 1 + 1 + 1 + 1 + 1 + 1 + 1))) = μ31 at hB31 ⊢
  refine g_aload_n (j := 0) rfl dX12_init_134 ?_
  refine g_iconst dX12_init_135 ?_
  refine g_newa (t := 14) (n := 4) (bc1 := 6) (bs1 := 9504) dX12_init_136 ac_int ⟨by decide, by decide, rfl⟩ rfl (by omega) (Nat.le_of_ble_eq_true rfl) (Nat.le_of_ble_eq_true rfl) ?_
  rw [hB31.mz]
  have hB32 := hB31.new (t := 14) (n := 4)
  have hi := app_g hi (14, 4)
  have hs1 := app_g hs1 (14, 4)
  have hs2 := app_g hs2 (14, 4)
  have hs3 := app_g hs3 (14, 4)
  have hs4 := app_g hs4 (14, 4)
  have hs5 := app_g hs5 (14, 4)
  have hs6 := app_g hs6 (14, 4)
  have hs7 := app_g hs7 (14, 4)
  have hs8 := app_g hs8 (14, 4)
  have hs9 := app_g hs9 (14, 4)
  have hs10 := app_g hs10 (14, 4)
  have hs11 := app_g hs11 (14, 4)
  have hs12 := app_g hs12 (14, 4)
  have hs13 := app_g hs13 (14, 4)
  have hs14 : _ := app_n (q := ((14 : Nat), (4 : Nat))) hB31.1.2.2
  generalize sN μ31 14 4 = μ32 at hB32 ⊢
  refine g_putR dX12_init_138 fpX12_69 rfl rfl rfl (hB32.o hi) (kz := 35) rfl ?_
  have hB33 := hB32.putR (i := i) (j := 35) (v := z + 1 + 1 + 1 + 1 + 1 + 1 + 1 + 1 + 1 + 1 + 1 + 1 + 1) (hB32.lt hi)
  generalize sR μ32 (x + i) 35 (some (x + (z + 1 + 1 + 1 + 1 + 1 + 1 + 1 + 1 + 1 + 1 + 1 + 1 + 1))) = μ33 at hB33 ⊢
  refine g_aload_n (j := 0) rfl dX12_init_141 ?_
  refine g_bipush dX12_init_142 (by omega) ?_
  refine g_newa (t := 14) (n := 6) (bc1 := 5) (bs1 := 9498) dX12_init_144 ac_int ⟨by decide, by decide, rfl⟩ rfl (by omega) (Nat.le_of_ble_eq_true rfl) (Nat.le_of_ble_eq_true rfl) ?_
  rw [hB33.mz]
  have hB34 := hB33.new (t := 14) (n := 6)
  have hi := app_g hi (14, 6)
  have hs1 := app_g hs1 (14, 6)
  have hs2 := app_g hs2 (14, 6)
  have hs3 := app_g hs3 (14, 6)
  have hs4 := app_g hs4 (14, 6)
  have hs5 := app_g hs5 (14, 6)
  have hs6 := app_g hs6 (14, 6)
  have hs7 := app_g hs7 (14, 6)
  have hs8 := app_g hs8 (14, 6)
  have hs9 := app_g hs9 (14, 6)
  have hs10 := app_g hs10 (14, 6)
  have hs11 := app_g hs11 (14, 6)
  have hs12 := app_g hs12 (14, 6)
  have hs13 := app_g hs13 (14, 6)
  have hs14 := app_g hs14 (14, 6)
  have hs15 : _ := app_n (q := ((14 : Nat), (6 : Nat))) hB33.1.2.2
  generalize sN μ33 14 6 = μ34 at hB34 ⊢
  refine g_putR dX12_init_146 fpX12_72 rfl rfl rfl (hB34.o hi) (kz := 42) rfl ?_
  have hB35 := hB34.putR (i := i) (j := 42) (v := z + 1 + 1 + 1 + 1 + 1 + 1 + 1 + 1 + 1 + 1 + 1 + 1 + 1 + 1) (hB34.lt hi)
  generalize sR μ34 (x + i) 42 (some (x + (z + 1 + 1 + 1 + 1 + 1 + 1 + 1 + 1 + 1 + 1 + 1 + 1 + 1 + 1))) = μ35 at hB35 ⊢
  refine g_aload_n (j := 0) rfl dX12_init_149 ?_
  refine g_sipush dX12_init_150 (by omega) ?_
  refine g_newa (t := 15) (n := 130) (bc1 := 4) (bs1 := 9368) dX12_init_153 ac_long ⟨by decide, by decide, rfl⟩ rfl (by omega) (Nat.le_of_ble_eq_true rfl) (Nat.le_of_ble_eq_true rfl) ?_
  rw [hB35.mz]
  have hB36 := hB35.new (t := 15) (n := 130)
  have hi := app_g hi (15, 130)
  have hs1 := app_g hs1 (15, 130)
  have hs2 := app_g hs2 (15, 130)
  have hs3 := app_g hs3 (15, 130)
  have hs4 := app_g hs4 (15, 130)
  have hs5 := app_g hs5 (15, 130)
  have hs6 := app_g hs6 (15, 130)
  have hs7 := app_g hs7 (15, 130)
  have hs8 := app_g hs8 (15, 130)
  have hs9 := app_g hs9 (15, 130)
  have hs10 := app_g hs10 (15, 130)
  have hs11 := app_g hs11 (15, 130)
  have hs12 := app_g hs12 (15, 130)
  have hs13 := app_g hs13 (15, 130)
  have hs14 := app_g hs14 (15, 130)
  have hs15 := app_g hs15 (15, 130)
  have hs16 : _ := app_n (q := ((15 : Nat), (130 : Nat))) hB35.1.2.2
  generalize sN μ35 15 130 = μ36 at hB36 ⊢
  refine g_putR dX12_init_155 fpX12_75 rfl rfl rfl (hB36.o hi) (kz := 43) rfl ?_
  have hB37 := hB36.putR (i := i) (j := 43) (v := z + 1 + 1 + 1 + 1 + 1 + 1 + 1 + 1 + 1 + 1 + 1 + 1 + 1 + 1 + 1) (hB36.lt hi)
  generalize sR μ36 (x + i) 43 (some (x + (z + 1 + 1 + 1 + 1 + 1 + 1 + 1 + 1 + 1 + 1 + 1 + 1 + 1 + 1 + 1))) = μ37 at hB37 ⊢
  refine g_aload_n (j := 0) rfl dX12_init_158 ?_
  refine g_bipush dX12_init_159 (by omega) ?_
  refine g_newa (t := 14) (n := 7) (bc1 := 3) (bs1 := 9361) dX12_init_161 ac_int ⟨by decide, by decide, rfl⟩ rfl (by omega) (Nat.le_of_ble_eq_true rfl) (Nat.le_of_ble_eq_true rfl) ?_
  rw [hB37.mz]
  have hB38 := hB37.new (t := 14) (n := 7)
  have hi := app_g hi (14, 7)
  have hs1 := app_g hs1 (14, 7)
  have hs2 := app_g hs2 (14, 7)
  have hs3 := app_g hs3 (14, 7)
  have hs4 := app_g hs4 (14, 7)
  have hs5 := app_g hs5 (14, 7)
  have hs6 := app_g hs6 (14, 7)
  have hs7 := app_g hs7 (14, 7)
  have hs8 := app_g hs8 (14, 7)
  have hs9 := app_g hs9 (14, 7)
  have hs10 := app_g hs10 (14, 7)
  have hs11 := app_g hs11 (14, 7)
  have hs12 := app_g hs12 (14, 7)
  have hs13 := app_g hs13 (14, 7)
  have hs14 := app_g hs14 (14, 7)
  have hs15 := app_g hs15 (14, 7)
  have hs16 := app_g hs16 (14, 7)
  have hs17 : _ := app_n (q := ((14 : Nat), (7 : Nat))) hB37.1.2.2
  generalize sN μ37 14 7 = μ38 at hB38 ⊢
  refine g_putR dX12_init_163 fpX12_78 rfl rfl rfl (hB38.o hi) (kz := 45) rfl ?_
  have hB39 := hB38.putR (i := i) (j := 45) (v := z + 1 + 1 + 1 + 1 + 1 + 1 + 1 + 1 + 1 + 1 + 1 + 1 + 1 + 1 + 1 + 1) (hB38.lt hi)
  generalize sR μ38 (x + i) 45 (some (x + (z + 1 + 1 + 1 + 1 + 1 + 1 + 1 + 1 + 1 + 1 + 1 + 1 + 1 + 1 + 1 + 1))) = μ39 at hB39 ⊢
  refine g_aload_n (j := 0) rfl dX12_init_166 ?_
  refine g_sipush dX12_init_167 (by omega) ?_
  refine g_newa (t := 15) (n := 360) (bc1 := 2) (bs1 := 9001) dX12_init_170 ac_long ⟨by decide, by decide, rfl⟩ rfl (by omega) (Nat.le_of_ble_eq_true rfl) (Nat.le_of_ble_eq_true rfl) ?_
  rw [hB39.mz]
  have hB40 := hB39.new (t := 15) (n := 360)
  have hi := app_g hi (15, 360)
  have hs1 := app_g hs1 (15, 360)
  have hs2 := app_g hs2 (15, 360)
  have hs3 := app_g hs3 (15, 360)
  have hs4 := app_g hs4 (15, 360)
  have hs5 := app_g hs5 (15, 360)
  have hs6 := app_g hs6 (15, 360)
  have hs7 := app_g hs7 (15, 360)
  have hs8 := app_g hs8 (15, 360)
  have hs9 := app_g hs9 (15, 360)
  have hs10 := app_g hs10 (15, 360)
  have hs11 := app_g hs11 (15, 360)
  have hs12 := app_g hs12 (15, 360)
  have hs13 := app_g hs13 (15, 360)
  have hs14 := app_g hs14 (15, 360)
  have hs15 := app_g hs15 (15, 360)
  have hs16 := app_g hs16 (15, 360)
  have hs17 := app_g hs17 (15, 360)
  have hs18 : _ := app_n (q := ((15 : Nat), (360 : Nat))) hB39.1.2.2
  generalize sN μ39 15 360 = μ40 at hB40 ⊢
  refine g_putR dX12_init_172 fpX12_81 rfl rfl rfl (hB40.o hi) (kz := 46) rfl ?_
  have hB41 := hB40.putR (i := i) (j := 46) (v := z + 1 + 1 + 1 + 1 + 1 + 1 + 1 + 1 + 1 + 1 + 1 + 1 + 1 + 1 + 1 + 1 + 1) (hB40.lt hi)
  generalize sR μ40 (x + i) 46 (some (x + (z + 1 + 1 + 1 + 1 + 1 + 1 + 1 + 1 + 1 + 1 + 1 + 1 + 1 + 1 + 1 + 1 + 1))) = μ41 at hB41 ⊢
  refine g_aload_n (j := 0) rfl dX12_init_175 ?_
  refine g_sipush dX12_init_176 (by omega) ?_
  refine g_newa (t := 16) (n := 6001) (bc1 := 1) (bs1 := 3000) dX12_init_179 ac_boolean ⟨by decide, by decide, rfl⟩ rfl (by omega) (Nat.le_of_ble_eq_true rfl) (Nat.le_of_ble_eq_true rfl) ?_
  rw [hB41.mz]
  have hB42 := hB41.new (t := 16) (n := 6001)
  have hi := app_g hi (16, 6001)
  have hs1 := app_g hs1 (16, 6001)
  have hs2 := app_g hs2 (16, 6001)
  have hs3 := app_g hs3 (16, 6001)
  have hs4 := app_g hs4 (16, 6001)
  have hs5 := app_g hs5 (16, 6001)
  have hs6 := app_g hs6 (16, 6001)
  have hs7 := app_g hs7 (16, 6001)
  have hs8 := app_g hs8 (16, 6001)
  have hs9 := app_g hs9 (16, 6001)
  have hs10 := app_g hs10 (16, 6001)
  have hs11 := app_g hs11 (16, 6001)
  have hs12 := app_g hs12 (16, 6001)
  have hs13 := app_g hs13 (16, 6001)
  have hs14 := app_g hs14 (16, 6001)
  have hs15 := app_g hs15 (16, 6001)
  have hs16 := app_g hs16 (16, 6001)
  have hs17 := app_g hs17 (16, 6001)
  have hs18 := app_g hs18 (16, 6001)
  have hs19 : _ := app_n (q := ((16 : Nat), (6001 : Nat))) hB41.1.2.2
  generalize sN μ41 16 6001 = μ42 at hB42 ⊢
  refine g_putR dX12_init_181 fpX12_84 rfl rfl rfl (hB42.o hi) (kz := 47) rfl ?_
  have hB43 := hB42.putR (i := i) (j := 47) (v := z + 1 + 1 + 1 + 1 + 1 + 1 + 1 + 1 + 1 + 1 + 1 + 1 + 1 + 1 + 1 + 1 + 1 + 1) (hB42.lt hi)
  generalize sR μ42 (x + i) 47 (some (x + (z + 1 + 1 + 1 + 1 + 1 + 1 + 1 + 1 + 1 + 1 + 1 + 1 + 1 + 1 + 1 + 1 + 1 + 1))) = μ43 at hB43 ⊢
  refine g_aload_n (j := 0) rfl dX12_init_184 ?_
  refine g_sipush dX12_init_185 (by omega) ?_
  refine g_newa (t := 14) (n := 3000) (bc1 := 0) (bs1 := 0) dX12_init_188 ac_int ⟨by decide, by decide, rfl⟩ rfl (by omega) (Nat.le_of_ble_eq_true rfl) (Nat.le_of_ble_eq_true rfl) ?_
  rw [hB43.mz]
  have hB44 := hB43.new (t := 14) (n := 3000)
  have hi := app_g hi (14, 3000)
  have hs1 := app_g hs1 (14, 3000)
  have hs2 := app_g hs2 (14, 3000)
  have hs3 := app_g hs3 (14, 3000)
  have hs4 := app_g hs4 (14, 3000)
  have hs5 := app_g hs5 (14, 3000)
  have hs6 := app_g hs6 (14, 3000)
  have hs7 := app_g hs7 (14, 3000)
  have hs8 := app_g hs8 (14, 3000)
  have hs9 := app_g hs9 (14, 3000)
  have hs10 := app_g hs10 (14, 3000)
  have hs11 := app_g hs11 (14, 3000)
  have hs12 := app_g hs12 (14, 3000)
  have hs13 := app_g hs13 (14, 3000)
  have hs14 := app_g hs14 (14, 3000)
  have hs15 := app_g hs15 (14, 3000)
  have hs16 := app_g hs16 (14, 3000)
  have hs17 := app_g hs17 (14, 3000)
  have hs18 := app_g hs18 (14, 3000)
  have hs19 := app_g hs19 (14, 3000)
  have hs20 : _ := app_n (q := ((14 : Nat), (3000 : Nat))) hB43.1.2.2
  generalize sN μ43 14 3000 = μ44 at hB44 ⊢
  refine g_putR dX12_init_190 fpX12_88 rfl rfl rfl (hB44.o hi) (kz := 48) rfl ?_
  have hB45 := hB44.putR (i := i) (j := 48) (v := z + 1 + 1 + 1 + 1 + 1 + 1 + 1 + 1 + 1 + 1 + 1 + 1 + 1 + 1 + 1 + 1 + 1 + 1 + 1) (hB44.lt hi)
  generalize sR μ44 (x + i) 48 (some (x + (z + 1 + 1 + 1 + 1 + 1 + 1 + 1 + 1 + 1 + 1 + 1 + 1 + 1 + 1 + 1 + 1 + 1 + 1 + 1))) = μ45 at hB45 ⊢
  exact G.retV dX12_init_193 rfl ⟨rfl, hB45⟩
theorem b_X2_init (w : WC) (d : Nat) (μ : Mem) {x z i v : Nat} {R : List ((Nat × Int) × Nat)} {I : List ((Nat × Int) × Int)} {S : List (Nat × Nat)} (hB : Bu w x z R I S μ) (hi : S[i]? = some (2, 0)) (hv : S[v]? = some (10, 0)) : Con w (d + 2) mX2_init 7 37 [vP (some (x + i)), vP (some (x + v))] μ (fun r μ2 => r = none ∧ Bu w x (z + 1 + 1 + 1 + 1 + 1 + 1 + 1) (((i, 1), z) :: ((z, 6), z + 1 + 1 + 1 + 1 + 1 + 1) :: ((z, 5), z + 1 + 1 + 1 + 1 + 1) :: ((z, 4), z + 1 + 1 + 1 + 1) :: ((z, 3), z + 1 + 1 + 1) :: ((z, 2), z + 1 + 1) :: ((z, 1), z + 1) :: ((i, 0), v) :: R) (I) ((((((((S ++ [(1, 0)]) ++ [(14, 5)]) ++ [(14, 5)]) ++ [(14, 5)]) ++ [(14, 5)]) ++ [(14, 5)]) ++ [(14, 5)])) μ2) := by
  refine Con.of (by decide) (Nat.le_of_ble_eq_true rfl) rfl ?_
  refine g_aload_n (j := 0) rfl dX2_init_0 ?_
  refine g_objI dX2_init_1 mlX2_3 obj_in obj_co (by omega) (Nat.le_of_ble_eq_true rfl) ?_
  refine g_aload_n (j := 0) rfl dX2_init_4 ?_
  refine g_aload_n (j := 1) rfl dX2_init_5 ?_
  refine g_putR dX2_init_6 fpX2_9 rfl rfl rfl (hB.o hi) (kz := 0) rfl ?_
  have hB1 := hB.putR (i := i) (j := 0) (v := v) (hB.lt hi)
  generalize sR μ (x + i) 0 (some (x + v)) = μ1 at hB1 ⊢
  refine g_aload_n (j := 0) rfl dX2_init_9 ?_
  refine g_new (ci := 1) (bc1 := 6) (bs1 := 30) dX2_init_10 okX1 clX2_15 ibX1 izX1 (by decide) (Nat.le_of_ble_eq_true rfl) (Nat.le_of_ble_eq_true rfl) ?_
  rw [hB1.mz]
  have hB2 := hB1.new (t := 1) (n := 0)
  have hi := app_g hi (1, 0)
  have hv := app_g hv (1, 0)
  have hs1 : _ := app_n (q := ((1 : Nat), (0 : Nat))) hB1.1.2.2
  generalize sN μ1 1 0 = μ2 at hB2 ⊢
  refine g_dup rfl dX2_init_13 ?_
  refine g_callI dX2_init_14 mlX2_17 mnX1_init (b_X1_init w d μ2 (i := z) hB2 hs1) sv0 rfl (by omega) (Nat.le_of_ble_eq_true rfl) (bc1 := 0) (bs1 := 0) (Nat.le_of_ble_eq_true rfl) (Nat.le_of_ble_eq_true rfl) (fun r μ3 hR => ?_)
  obtain ⟨rfl, hB3⟩ := hR
  have hi := app_g hi (14, 5)
  have hi := app_g hi (14, 5)
  have hi := app_g hi (14, 5)
  have hi := app_g hi (14, 5)
  have hi := app_g hi (14, 5)
  have hi := app_g hi (14, 5)
  have hv := app_g hv (14, 5)
  have hv := app_g hv (14, 5)
  have hv := app_g hv (14, 5)
  have hv := app_g hv (14, 5)
  have hv := app_g hv (14, 5)
  have hv := app_g hv (14, 5)
  have hs1 := app_g hs1 (14, 5)
  have hs1 := app_g hs1 (14, 5)
  have hs1 := app_g hs1 (14, 5)
  have hs1 := app_g hs1 (14, 5)
  have hs1 := app_g hs1 (14, 5)
  have hs1 := app_g hs1 (14, 5)
  refine g_putR dX2_init_17 fpX2_18 rfl rfl rfl (hB3.o hi) (kz := 1) rfl ?_
  have hB4 := hB3.putR (i := i) (j := 1) (v := z) (hB3.lt hi)
  generalize sR μ3 (x + i) 1 (some (x + z)) = μ4 at hB4 ⊢
  exact G.retV dX2_init_20 rfl ⟨rfl, hB4⟩
