theorem c_idClear (w : WC) (d : Nat) (μ : Mem) {y : Nat} (hI : IdO w μ y) : Con w d mX3_clear 0 0 [vP (some y)] μ (fun v μ2 => v = none ∧ IcS μ2 y 0 0 [] ∧ mI μ2 y 15 = 0 ∧ (∀ j, 0 ≤ j → j < 4 → mI μ2 (y + 13) j = 0) ∧ Fr (fun a => a = y ∨ a = y + 13) (fun _ _ => False) μ μ2) := by
  have o0 := hI.1
  have r12 := hI.r12
  have a12 := hI.a12
  refine Con.of (by decide) (Nat.le_of_ble_eq_true rfl) rfl ?_
  refine g_aload_n (j := 0) rfl dX3_clear_0 ?_
  refine g_iconst dX3_clear_1 ?_
  refine g_putI dX3_clear_2 fpX3_53 rfl rfl rfl (by assumption) (kz := 13) rfl ?_
  refine g_aload_n (j := 0) rfl dX3_clear_5 ?_
  refine g_iconst dX3_clear_6 ?_
  refine g_putI dX3_clear_7 fpX3_57 rfl rfl rfl (by simp only [IsO_sI, IsO_sL, IsO_sR, IsO_wI, IsO_wL, IsA_sI, IsA_sL, IsA_sR, IsA_wI, IsA_wL, mR_sI, mR_sL, mR_wI, mR_wL]; assumption) (kz := 14) rfl ?_
  refine g_aload_n (j := 0) rfl dX3_clear_10 ?_
  refine g_iconst dX3_clear_11 ?_
  refine g_putI dX3_clear_12 fpX3_60 rfl rfl rfl (by simp only [IsO_sI, IsO_sL, IsO_sR, IsO_wI, IsO_wL, IsA_sI, IsA_sL, IsA_sR, IsA_wI, IsA_wL, mR_sI, mR_sL, mR_wI, mR_wL]; assumption) (kz := 15) rfl ?_
  refine g_aload_n (j := 0) rfl dX3_clear_15 ?_
  refine g_iconst dX3_clear_16 ?_
  refine g_putI dX3_clear_17 fpX3_63 rfl rfl rfl (by simp only [IsO_sI, IsO_sL, IsO_sR, IsO_wI, IsO_wL, IsA_sI, IsA_sL, IsA_sR, IsA_wI, IsA_wL, mR_sI, mR_sL, mR_wI, mR_wL]; assumption) (kz := 16) rfl ?_
  refine g_aload_n (j := 0) rfl dX3_clear_20 ?_
  refine g_iconst dX3_clear_21 ?_
  refine g_putI dX3_clear_22 fpX3_66 rfl rfl rfl (by simp only [IsO_sI, IsO_sL, IsO_sR, IsO_wI, IsO_wL, IsA_sI, IsA_sL, IsA_sR, IsA_wI, IsA_wL, mR_sI, mR_sL, mR_wI, mR_wL]; assumption) (kz := 17) rfl ?_
  refine g_iconst dX3_clear_25 ?_
  refine g_istore_n (j := 1) dX3_clear_26 (by decide) rfl ls1 ?_
  refine g_iload_n (j := 1) rfl dX3_clear_27 ?_
  refine g_iconst dX3_clear_28 ?_
  refine g_icmp_ge (tgt := 45) dX3_clear_29 (by decide) (by omega) (by omega) (fun h29 => ?_) (fun h29 => ?_)
  · omega
  · refine g_aload_n (j := 0) rfl dX3_clear_32 ?_
    refine g_getR dX3_clear_33 flX3_50 rfl (by simp only [IsO_sI, IsO_sL, IsO_sR, IsO_wI, IsO_wL, IsA_sI, IsA_sL, IsA_sR, IsA_wI, IsA_wL, mR_sI, mR_sL, mR_wI, mR_wL]; assumption) (kz := 12) rfl (by simp only [IsO_sI, IsO_sL, IsO_sR, IsO_wI, IsO_wL, IsA_sI, IsA_sL, IsA_sR, IsA_wI, IsA_wL, mR_sI, mR_sL, mR_wI, mR_wL]; assumption) ?_
    refine g_iload_n (j := 1) rfl dX3_clear_36 ?_
    refine g_iconst dX3_clear_37 ?_
    refine g_zast dX3_clear_38 (by simp only [IsO_sI, IsO_sL, IsO_sR, IsO_wI, IsO_wL, IsA_sI, IsA_sL, IsA_sR, IsA_wI, IsA_wL, mR_sI, mR_sL, mR_wI, mR_wL]; assumption) (by omega) (by omega) (by omega) ?_
    refine g_iinc (i := 1) dX3_clear_39 rfl (by decide) rfl ls1 ?_
    refine g_goto (tgt := 27) (by decide) dX3_clear_42 ?_
    refine g_iload_n (j := 1) rfl dX3_clear_27 ?_
    refine g_iconst dX3_clear_28 ?_
    refine g_icmp_ge (tgt := 45) dX3_clear_29 (by decide) (by omega) (by omega) (fun h29 => ?_) (fun h29 => ?_)
    · omega
    · refine g_aload_n (j := 0) rfl dX3_clear_32 ?_
      refine g_getR dX3_clear_33 flX3_50 rfl (by simp only [IsO_sI, IsO_sL, IsO_sR, IsO_wI, IsO_wL, IsA_sI, IsA_sL, IsA_sR, IsA_wI, IsA_wL, mR_sI, mR_sL, mR_wI, mR_wL]; assumption) (kz := 12) rfl (by simp only [IsO_sI, IsO_sL, IsO_sR, IsO_wI, IsO_wL, IsA_sI, IsA_sL, IsA_sR, IsA_wI, IsA_wL, mR_sI, mR_sL, mR_wI, mR_wL]; assumption) ?_
      refine g_iload_n (j := 1) rfl dX3_clear_36 ?_
      refine g_iconst dX3_clear_37 ?_
      refine g_zast dX3_clear_38 (by simp only [IsO_sI, IsO_sL, IsO_sR, IsO_wI, IsO_wL, IsA_sI, IsA_sL, IsA_sR, IsA_wI, IsA_wL, mR_sI, mR_sL, mR_wI, mR_wL]; assumption) (by omega) (by omega) (by omega) ?_
      refine g_iinc (i := 1) dX3_clear_39 rfl (by decide) rfl ls1 ?_
      refine g_goto (tgt := 27) (by decide) dX3_clear_42 ?_
      refine g_iload_n (j := 1) rfl dX3_clear_27 ?_
      refine g_iconst dX3_clear_28 ?_
      refine g_icmp_ge (tgt := 45) dX3_clear_29 (by decide) (by omega) (by omega) (fun h29 => ?_) (fun h29 => ?_)
      · omega
      · refine g_aload_n (j := 0) rfl dX3_clear_32 ?_
        refine g_getR dX3_clear_33 flX3_50 rfl (by simp only [IsO_sI, IsO_sL, IsO_sR, IsO_wI, IsO_wL, IsA_sI, IsA_sL, IsA_sR, IsA_wI, IsA_wL, mR_sI, mR_sL, mR_wI, mR_wL]; assumption) (kz := 12) rfl (by simp only [IsO_sI, IsO_sL, IsO_sR, IsO_wI, IsO_wL, IsA_sI, IsA_sL, IsA_sR, IsA_wI, IsA_wL, mR_sI, mR_sL, mR_wI, mR_wL]; assumption) ?_
        refine g_iload_n (j := 1) rfl dX3_clear_36 ?_
        refine g_iconst dX3_clear_37 ?_
        refine g_zast dX3_clear_38 (by simp only [IsO_sI, IsO_sL, IsO_sR, IsO_wI, IsO_wL, IsA_sI, IsA_sL, IsA_sR, IsA_wI, IsA_wL, mR_sI, mR_sL, mR_wI, mR_wL]; assumption) (by omega) (by omega) (by omega) ?_
        refine g_iinc (i := 1) dX3_clear_39 rfl (by decide) rfl ls1 ?_
        refine g_goto (tgt := 27) (by decide) dX3_clear_42 ?_
        refine g_iload_n (j := 1) rfl dX3_clear_27 ?_
        refine g_iconst dX3_clear_28 ?_
        refine g_icmp_ge (tgt := 45) dX3_clear_29 (by decide) (by omega) (by omega) (fun h29 => ?_) (fun h29 => ?_)
        · omega
        · refine g_aload_n (j := 0) rfl dX3_clear_32 ?_
          refine g_getR dX3_clear_33 flX3_50 rfl (by simp only [IsO_sI, IsO_sL, IsO_sR, IsO_wI, IsO_wL, IsA_sI, IsA_sL, IsA_sR, IsA_wI, IsA_wL, mR_sI, mR_sL, mR_wI, mR_wL]; assumption) (kz := 12) rfl (by simp only [IsO_sI, IsO_sL, IsO_sR, IsO_wI, IsO_wL, IsA_sI, IsA_sL, IsA_sR, IsA_wI, IsA_wL, mR_sI, mR_sL, mR_wI, mR_wL]; assumption) ?_
          refine g_iload_n (j := 1) rfl dX3_clear_36 ?_
          refine g_iconst dX3_clear_37 ?_
          refine g_zast dX3_clear_38 (by simp only [IsO_sI, IsO_sL, IsO_sR, IsO_wI, IsO_wL, IsA_sI, IsA_sL, IsA_sR, IsA_wI, IsA_wL, mR_sI, mR_sL, mR_wI, mR_wL]; assumption) (by omega) (by omega) (by omega) ?_
          refine g_iinc (i := 1) dX3_clear_39 rfl (by decide) rfl ls1 ?_
          refine g_goto (tgt := 27) (by decide) dX3_clear_42 ?_
          refine g_iload_n (j := 1) rfl dX3_clear_27 ?_
          refine g_iconst dX3_clear_28 ?_
          refine g_icmp_ge (tgt := 45) dX3_clear_29 (by decide) (by omega) (by omega) (fun h29 => ?_) (fun h29 => ?_)
          · refine G.retV dX3_clear_45 rfl ⟨rfl, ⟨⟨?_, ?_, ?_, ?_⟩, fun j q hq => by simp at hq, fun k v hv => by simp [ixO, ixS] at hv⟩, ?_, fun j z1 z2 => ?_, ?_⟩
            · simp [mI_sI]
            · simp [mI_sI, ixO, ixS]
            · simp [mI_sI]
            · simp [mI_sI]
            · simp [mI_sI]
            · have ej : j = 0 ∨ j = 1 ∨ j = 2 ∨ j = 3 := by omega
              rcases ej with rfl | rfl | rfl | rfl <;> simp [mI_sI]
            · exact ((((Fr.sI (Or.inl rfl)).tr (Fr.sI (Or.inl rfl))).tr ((Fr.sI (Or.inl rfl)).tr (Fr.sI (Or.inl rfl)))).tr (Fr.sI (Or.inl rfl))).tr (((Fr.sI (Or.inr rfl)).tr (Fr.sI (Or.inr rfl))).tr ((Fr.sI (Or.inr rfl)).tr (Fr.sI (Or.inr rfl))))
          · omega
