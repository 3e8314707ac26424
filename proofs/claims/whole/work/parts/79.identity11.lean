theorem c_idClear (w : WC) (d : Nat) (μ : Mem) {y : Nat} (hI : IdO w μ y) : Con w d mX3_clear 0 0 [vP (some y)] μ (fun v μ2 => v = none ∧ IcS μ2 y 0 0 [] ∧ mI μ2 y 15 = 0 ∧ (∀ j, 0 ≤ j → j < 4 → mI μ2 (y + 13) j = 0) ∧ Fr (fun a => a = y ∨ a = y + 13) (fun _ _ => False) μ μ2) := by
  have o0 := hI.1
  have r12 := hI.r12
  have a12 := hI.a12
  refine Con.of (by decide) (Nat.le_of_ble_eq_true rfl) rfl ?_
  refine g_aload_n (j := 0) rfl dX3_clear_0 ?_
  refine g_iconst dX3_clear_1 ?_
  refine g_putI dX3_clear_2 fpX3_53 rfl rfl rfl (by assumption) (kz := 13) rfl ?_
  refine g_aload_n (j := 0) rfl dX3_clear_5 ?_
  refine g_iconst dX3_clear_6 ?_
  refine g_putI dX3_clear_7 fpX3_57 rfl rfl rfl (by simp only [IsO_sI, IsO_sL, IsO_sR, IsO_wI, IsO_wL, IsA_sI, IsA_sL, IsA_sR, IsA_wI, IsA_wL, mR_sI, mR_sL, mR_wI, mR_wL]; assumption) (kz := 14) rfl ?_
  refine g_aload_n (j := 0) rfl dX3_clear_10 ?_
  refine g_iconst dX3_clear_11 ?_
  refine g_putI dX3_clear_12 fpX3_60 rfl rfl rfl (by simp only [IsO_sI, IsO_sL, IsO_sR, IsO_wI, IsO_wL, IsA_sI, IsA_sL, IsA_sR, IsA_wI, IsA_wL, mR_sI, mR_sL, mR_wI, mR_wL]; assumption) (kz := 15) rfl ?_
  refine g_aload_n (j := 0) rfl dX3_clear_15 ?_
  refine g_iconst dX3_clear_16 ?_
  refine g_putI dX3_clear_17 fpX3_63 rfl rfl rfl (by simp only [IsO_sI, IsO_sL, IsO_sR, IsO_wI, IsO_wL, IsA_sI, IsA_sL, IsA_sR, IsA_wI, IsA_wL, mR_sI, mR_sL, mR_wI, mR_wL]; assumption) (kz := 16) rfl ?_
  refine g_aload_n (j := 0) rfl dX3_clear_20 ?_
  refine g_iconst dX3_clear_21 ?_
  refine g_putI dX3_clear_22 fpX3_66 rfl rfl rfl (by simp only [IsO_sI, IsO_sL, IsO_sR, IsO_wI, IsO_wL, IsA_sI, IsA_sL, IsA_sR, IsA_wI, IsA_wL, mR_sI, mR_sL, mR_wI, mR_wL]; assumption) (kz := 17) rfl ?_
  refine g_iconst dX3_clear_25 ?_
  refine g_istore_n (j := 1) dX3_clear_26 (by decide) rfl ls1 ?_
  refine g_iload_n (j := 1) rfl dX3_clear_27 ?_
  refine g_iconst dX3_clear_28 ?_
  refine g_icmp_ge (tgt := 45) dX3_clear_29 (by decide) (by omega) (by omega) (fun h29 => ?_) (fun h29 => ?_)
  · omega
  · refine g_aload_n (j := 0) rfl dX3_clear_32 ?_
    refine g_getR dX3_clear_33 flX3_50 rfl (by simp only [IsO_sI, IsO_sL, IsO_sR, IsO_wI, IsO_wL, IsA_sI, IsA_sL, IsA_sR, IsA_wI, IsA_wL, mR_sI, mR_sL, mR_wI, mR_wL]; assumption) (kz := 12) rfl (by simp only [IsO_sI, IsO_sL, IsO_sR, IsO_wI, IsO_wL, IsA_sI, IsA_sL, IsA_sR, IsA_wI, IsA_wL, mR_sI, mR_sL, mR_wI, mR_wL]; assumption) ?_
    refine g_iload_n (j := 1) rfl dX3_clear_36 ?_
    refine g_iconst dX3_clear_37 ?_
    refine g_zast dX3_clear_38 (by simp only [IsO_sI, IsO_sL, IsO_sR, IsO_wI, IsO_wL, IsA_sI, IsA_sL, IsA_sR, IsA_wI, IsA_wL, mR_sI, mR_sL, mR_wI, mR_wL]; assumption) (by omega) (by omega) (by omega) ?_
    refine g_iinc (i := 1) dX3_clear_39 rfl (by decide) rfl ls1 ?_
    refine g_goto (tgt := 27) (by decide) dX3_clear_42 ?_
    refine g_iload_n (j := 1) rfl dX3_clear_27 ?_
    refine g_iconst dX3_clear_28 ?_
    refine g_icmp_ge (tgt := 45) dX3_clear_29 (by decide) (by omega) (by omega) (fun h29 => ?_) (fun h29 => ?_)
    · omega
    · refine g_aload_n (j := 0) rfl dX3_clear_32 ?_
      refine g_getR dX3_clear_33 flX3_50 rfl (by simp only [IsO_sI, IsO_sL, IsO_sR, IsO_wI, IsO_wL, IsA_sI, IsA_sL, IsA_sR, IsA_wI, IsA_wL, mR_sI, mR_sL, mR_wI, mR_wL]; assumption) (kz := 12) rfl (by simp only [IsO_sI, IsO_sL, IsO_sR, IsO_wI, IsO_wL, IsA_sI, IsA_sL, IsA_sR, IsA_wI, IsA_wL, mR_sI, mR_sL, mR_wI, mR_wL]; assumption) ?_
      refine g_iload_n (j := 1) rfl dX3_clear_36 ?_
      refine g_iconst dX3_clear_37 ?_
      refine g_zast dX3_clear_38 (by simp only [IsO_sI, IsO_sL, IsO_sR, IsO_wI, IsO_wL, IsA_sI, IsA_sL, IsA_sR, IsA_wI, IsA_wL, mR_sI, mR_sL, mR_wI, mR_wL]; assumption) (by omega) (by omega) (by omega) ?_
      refine g_iinc (i := 1) dX3_clear_39 rfl (by decide) rfl ls1 ?_
      refine g_goto (tgt := 27) (by decide) dX3_clear_42 ?_
      refine g_iload_n (j := 1) rfl dX3_clear_27 ?_
      refine g_iconst dX3_clear_28 ?_
      refine g_icmp_ge (tgt := 45) dX3_clear_29 (by decide) (by omega) (by omega) (fun h29 => ?_) (fun h29 => ?_)
      · omega
      · refine g_aload_n (j := 0) rfl dX3_clear_32 ?_
        refine g_getR dX3_clear_33 flX3_50 rfl (by simp only [IsO_sI, IsO_sL, IsO_sR, IsO_wI, IsO_wL, IsA_sI, IsA_sL, IsA_sR, IsA_wI, IsA_wL, mR_sI, mR_sL, mR_wI, mR_wL]; assumption) (kz := 12) rfl (by simp only [IsO_sI, IsO_sL, IsO_sR, IsO_wI, IsO_wL, IsA_sI, IsA_sL, IsA_sR, IsA_wI, IsA_wL, mR_sI, mR_sL, mR_wI, mR_wL]; assumption) ?_
        refine g_iload_n (j := 1) rfl dX3_clear_36 ?_
        refine g_iconst dX3_clear_37 ?_
        refine g_zast dX3_clear_38 (by simp only [IsO_sI, IsO_sL, IsO_sR, IsO_wI, IsO_wL, IsA_sI, IsA_sL, IsA_sR, IsA_wI, IsA_wL, mR_sI, mR_sL, mR_wI, mR_wL]; assumption) (by omega) (by omega) (by omega) ?_
        refine g_iinc (i := 1) dX3_clear_39 rfl (by decide) rfl ls1 ?_
        refine g_goto (tgt := 27) (by decide) dX3_clear_42 ?_
        refine g_iload_n (j := 1) rfl dX3_clear_27 ?_
        refine g_iconst dX3_clear_28 ?_
        refine g_icmp_ge (tgt := 45) dX3_clear_29 (by decide) (by omega) (by omega) (fun h29 => ?_) (fun h29 => ?_)
        · omega
        · refine g_aload_n (j := 0) rfl dX3_clear_32 ?_
          refine g_getR dX3_clear_33 flX3_50 rfl (by simp only [IsO_sI, IsO_sL, IsO_sR, IsO_wI, IsO_wL, IsA_sI, IsA_sL, IsA_sR, IsA_wI, IsA_wL, mR_sI, mR_sL, mR_wI, mR_wL]; assumption) (kz := 12) rfl (by simp only [IsO_sI, IsO_sL, IsO_sR, IsO_wI, IsO_wL, IsA_sI, IsA_sL, IsA_sR, IsA_wI, IsA_wL, mR_sI, mR_sL, mR_wI, mR_wL]; assumption) ?_
          refine g_iload_n (j := 1) rfl dX3_clear_36 ?_
          refine g_iconst dX3_clear_37 ?_
          refine g_zast dX3_clear_38 (by simp only [IsO_sI, IsO_sL, IsO_sR, IsO_wI, IsO_wL, IsA_sI, IsA_sL, IsA_sR, IsA_wI, IsA_wL, mR_sI, mR_sL, mR_wI, mR_wL]; assumption) (by omega) (by omega) (by omega) ?_
          refine g_iinc (i := 1) dX3_clear_39 rfl (by decide) rfl ls1 ?_
          refine g_goto (tgt := 27) (by decide) dX3_clear_42 ?_
          refine g_iload_n (j := 1) rfl dX3_clear_27 ?_
          refine g_iconst dX3_clear_28 ?_
          refine g_icmp_ge (tgt := 45) dX3_clear_29 (by decide) (by omega) (by omega) (fun h29 => ?_) (fun h29 => ?_)
          · refine G.retV dX3_clear_45 rfl ⟨rfl, ⟨⟨?_, ?_, ?_, ?_⟩, fun j q hq => by simp at hq, fun k v hv => by simp [ixO, ixS] at hv⟩, ?_, fun j z1 z2 => ?_, ?_⟩
            · simp [mI_sI]
            · simp [mI_sI, ixO, ixS]
            · simp [mI_sI]
            · simp [mI_sI]
            · simp [mI_sI]
            · have ej : j = 0 ∨ j = 1 ∨ j = 2 ∨ j = 3 := by omega
              rcases ej with rfl | rfl | rfl | rfl <;> simp [mI_sI]
            · exact ((((Fr.sI (Or.inl rfl)).tr (Fr.sI (Or.inl rfl))).tr ((Fr.sI (Or.inl rfl)).tr (Fr.sI (Or.inl rfl)))).tr (Fr.sI (Or.inl rfl))).tr (((Fr.sI (Or.inr rfl)).tr (Fr.sI (Or.inr rfl))).tr ((Fr.sI (Or.inr rfl)).tr (Fr.sI (Or.inr rfl))))
          · omega
theorem IcS.eq {μ μ2 : Mem} {y p : Nat} {L : Int} {ops : List Op} (h : IcS μ y p L ops) (ey : ∀ j, ¬ j = 15 → mI μ2 y j = mI μ y j) (ea : ∀ a j, y + 1 ≤ a → a ≤ y + 8 → mI μ2 a j = mI μ a j) : IcS μ2 y p L ops := by
  obtain ⟨⟨a, b, c, e⟩, hO, hS⟩ := h
  refine ⟨⟨(ey 13 (by omega)).trans a, (ey 14 (by omega)).trans b, (ey 16 (by omega)).trans c, (ey 17 (by omega)).trans e⟩, fun j q hq => ?_, fun k v hv => by rw [ea _ _ (by omega) (by omega)]; exact hS k v hv⟩
  rw [ea (y + 1) _ (by omega) (by omega), ea (y + 2) _ (by omega) (by omega), ea (y + 3) _ (by omega) (by omega), ea (y + 4) _ (by omega) (by omega), ea (y + 5) _ (by omega) (by omega), ea (y + 5) _ (by omega) (by omega), ea (y + 5) _ (by omega) (by omega)]
  exact hO j q hq
theorem IdK.sp {w : WC} {x T y : Nat} {n : Int} {B : Int → Int} {s : IdS} {μ : Mem} {v : Int} (h : IdK w μ x n B T y s) : IdK w (sI μ y 15 v) x n B T y s := by
  have hy := h.yb
  obtain ⟨hK, hr, h8, hc, hb⟩ := _root_.id h
  have hf : Fr (fun a => a = y) (fun _ _ => False) μ (sI μ y 15 v) := Fr.sI rfl
  have e : ∀ j, mI (sI μ y 15 v) (x + 1) j = mI μ (x + 1) j := fun j => by rw [mI_sI, if_neg (by omega)]
  exact ⟨hK.fr hf (hK.1.fr hf fun _ _ _ z => z.elim) (fun a z1 z2 z => by omega) (e 5) (e 7), hr, ⟨by rw [e]; exact h8.1, h8.2⟩, hc.eq (fun j hj => by rw [mI_sI, if_neg (by omega)]) (fun a j z1 z2 => by rw [mI_sI, if_neg (by omega)]), hb⟩
def IaF (x y : Nat) : Mem → Mem → Prop := Fr (fun a => ((x + 1 ≤ a ∧ a ≤ x + 6) ∧ ¬ a = x + 2) ∨ (y ≤ a ∧ a ≤ y + 8) ∨ a = y + 13) (fun a j => a = x + 58 ∧ j = 1)
theorem IdQ.a {x y : Nat} {μ μ2 : Mem} (h : IdQ x y μ μ2) : IaF x y μ μ2 := h.mono (fun a _ z => by omega) (fun _ _ _ z => z.elim)
def IaP (x y : Nat) (n : Int) (B : Int → Int) (μ : Mem) (r : (FlF × Int) ⊕ (IdS × Nat)) (v : Option AV) (μ2 : Mem) : Prop := match r with
  | .inl e => v = some (vI 0) ∧ FaC μ2 x (fa4 e.1.1 (tP n B e.1.2.1) e.2 e.1.2.2)
  | .inr s => v = some (vI 1) ∧ IcS μ2 y s.1.2.1 s.1.2.2.1 s.1.2.2.2 ∧ mI μ2 y 15 = (s.2 : Int) ∧ (∀ j, 0 ≤ j → j < 4 → mI μ2 (y + 13) j = 0) ∧ ∀ j, 12 ≤ j → mI μ2 (x + 1) j = mI μ (x + 1) j
theorem c_X4_readAll (w : WC) (d : Nat) (μ : Mem) {x y : Nat} {n : Int} {B : Int → Int} (hT : TPS w μ x) (hB : TpC μ x n B) (hy : y = x + 71 ∨ y = x + 85) : Con w (d + 38) mX4_readAll 0 0 [vP (some (x + 58)), vP (some y)] μ (fun v μ2 => IaF x y μ μ2 ∧ TpC μ2 x n B ∧ IaP x y n B μ (idAll n B) v μ2) := by
  have o58 := hT.o58
  have r0 := hT.r58_0
  unfold idAll
  refine Con.of (by decide) (Nat.le_of_ble_eq_true rfl) rfl ?_
  refine g_aload_n (j := 0) rfl dX4_readAll_0 ?_
  refine g_aload_n (j := 1) rfl dX4_readAll_1 ?_
  refine g_putR dX4_readAll_2 fpX4_15 rfl rfl rfl (by assumption) (kz := 1) rfl ?_
  have hf1 : IaF x y μ (sR μ (x + 58) 1 (some y)) := Fr.sR ⟨rfl, rfl⟩
  have hT1 : TPS w (sR μ (x + 58) 1 (some y)) x := hT.fr hf1 fun b j _ z => by unfold Kx Kc; omega
  have hB1 : TpC (sR μ (x + 58) 1 (some y)) x n B := hB.fr hT rfl (fun _ => rfl)
  have r11 : mR (sR μ (x + 58) 1 (some y)) (x + 58) 1 = some y := by rw [mR_sR, if_pos ⟨rfl, rfl⟩]
  have ej1 : ∀ j, mI (sR μ (x + 58) 1 (some y)) (x + 1) j = mI μ (x + 1) j := fun _ => rfl
  generalize sR μ (x + 58) 1 (some y) = μ1 at *
  have o581 := hT1.o58
  have r01 := hT1.r58_0
  have oy1 := (hT1.ido hy).1
  have o11 := hT1.o1
  refine g_aload_n (j := 0) rfl dX4_readAll_5 ?_
  refine g_getR dX4_readAll_6 flX4_15 rfl (by assumption) (kz := 1) rfl (by assumption) ?_
  refine g_callV dX4_readAll_9 mlX4_19 mvX3_clear (ci := 3) ⟨by decide, rfl⟩ (by assumption) (c_idClear w (d + 36) μ1 (hT1.ido hy)) sv0 rfl (by omega) (Nat.le_of_ble_eq_true rfl) (Nat.le_refl _) (Nat.le_refl _) (fun v μ2 hR => ?_)
  obtain ⟨rfl, hc2, e152, hk2, hf2⟩ := hR
  have hT2 : TPS w μ2 x := hT1.fr hf2 fun _ _ _ z => z.elim
  have ej2 : ∀ j, mI μ2 (x + 1) j = mI μ1 (x + 1) j := hf2.I o11.2.1 (by omega)
  have hB2 : TpC μ2 x n B := hB1.fr hT1 (ej2 5) (fun j => hf2.I hT1.a2.2.1 (by omega) j)
  have r12 := (hf2.R o581.2.1 (fun z => z)).trans r11
  have hf12 : IaF x y μ μ2 := hf1.tr (hf2.mono (fun a _ z => by omega) (fun _ _ _ z => z.elim))
  have o582 := hT2.o58
  have r02 := hT2.r58_0
  have o12 := hT2.o1
  have hI2 := hT2.ido hy
  refine g_aload_n (j := 0) rfl dX4_readAll_12 ?_
  refine g_getR dX4_readAll_13 flX4_9 rfl (by assumption) (kz := 0) rfl (by assumption) ?_
  refine g_iconst dX4_readAll_16 ?_
  refine g_iconst dX4_readAll_17 ?_
  refine g_callV dX4_readAll_18 mlX4_24 mvX10_begin (ci := 10) ⟨by decide, rfl⟩ (by assumption) (c_begin w (d + 34) μ2 hT2 hB2 (fo := 0) (fi := 0)) sv2 rfl (by omega) (Nat.le_of_ble_eq_true rfl) (Nat.le_refl _) (Nat.le_refl _) (fun v μ3 hR => ?_)
  obtain ⟨rfl, T, hK, hcu, e83, e103, e113, e123⟩ := hR
  have hc3 : IcS μ3 y 0 0 [] := hc2.eq (fun j _ => hcu.I hI2.1.2.1 (by omega) j) (fun a j z1 z2 => hcu.I (show a < mZ μ2 by have := hT2.2.2.2.2; omega) (by omega) j)
  have h3 : IdK w μ3 x n B T y (0, 0, 0, []) := ⟨hK, ⟨(hcu.R o582.2.1 (fun z => z)).trans r12, hy⟩, ⟨e83, Nat.zero_le _⟩, hc3, by decide⟩
  have hf13 : IaF x y μ μ3 := hf12.tr (hcu.mono (fun a _ z => by omega) (fun _ _ _ z => z.elim))
  have hk3 : ∀ j, 0 ≤ j → j < 4 → mI μ3 (y + 13) j = 0 := fun j z1 z2 => (hcu.I hI2.a12.2.1 (by omega) j).trans (hk2 j z1 z2)
  have ej3 : ∀ j, 12 ≤ j → mI μ3 (x + 1) j = mI μ (x + 1) j := fun j z => (e123 j z).trans ((ej2 j).trans (ej1 j))
  have o583 := h3.o58
  refine g_aload_n (j := 0) rfl dX4_readAll_21 ?_
  refine g_iconst dX4_readAll_22 ?_
  refine g_callV dX4_readAll_23 mlX4_30 mvX4_readSum (ci := 4) ⟨by decide, rfl⟩ (by assumption) ((c_X4_lev w (fo := 0) 6 (op := 0) (by omega) (by omega)) μ3 (0, 0, 0, []) h3 e103 e113) sv1 rfl (by omega) (Nat.le_of_ble_eq_true rfl) (Nat.le_refl _) (Nat.le_refl _) (fun v μ4 hR => ?_)
  have hyb3 := h3.yb
  have hI3 := h3.ido
  have hB4 : ∀ {μq : Mem}, IdQ x y μ3 μq → mI μq (x + 1) 5 = mI μ3 (x + 1) 5 → TpC μq x n B := fun hq h5 => hK.2.1.fr hK.1 h5 (fun j => hq.I hK.1.a2.2.1 (by omega) j)
  rcases hr : idLev n B 6 (0, 0, 0, []) with e | s4
  · rw [hr] at hR
    obtain ⟨rfl, hE⟩ := hR
    refine g_if_ne (tgt := 31) dX4_readAll_26 (by decide) (by omega) (fun h26 => ?_) (fun h26 => ?_)
    · omega
    · refine g_iconst dX4_readAll_29 ?_
      exact G.retZ dX4_readAll_30 rfl (Or.inl rfl) ⟨hf13.tr hE.1.a, hB4 hE.1 (hE.2.1 5 (by omega)), rfl, hE.2.2⟩
  · rw [hr] at hR
    obtain ⟨rfl, h4, ⟨e104, e114⟩, hg4⟩ := hR
    dsimp only
    refine g_if_ne (tgt := 31) dX4_readAll_26 (by decide) (by omega) (fun h26 => ?_) (fun h26 => ?_)
    · have o584 := h4.o58
      have r04 := h4.r0
      have r14 := h4.2.1.1
      have o14 := h4.1.1.o1
      have e84 := h4.2.2.1.1
      have hi4 := h4.2.2.1.2
      have oy4 := h4.ido.1
      have e134 := h4.2.2.2.1.1.1
      refine g_aload_n (j := 0) rfl dX4_readAll_31 ?_
      refine g_getR dX4_readAll_32 flX4_9 rfl (by assumption) (kz := 0) rfl (by assumption) ?_
      refine g_bipush dX4_readAll_35 (by omega) ?_
      refine g_callV dX4_readAll_37 mlX4_34 mvX10_isSign (ci := 10) ⟨by decide, rfl⟩ (by assumption) (c_isSign w (d + 37) μ4 h4.1 e84 hi4 (c := 61) (by omega)) sv1 rfl (by omega) (Nat.le_of_ble_eq_true rfl) (Nat.le_refl _) (Nat.le_refl _) (fun v μ2 hR => ?_)
      obtain ⟨rfl, hm⟩ := hR
      replace hm := hm.symm
      subst hm
      refine g_ifb_ne (tgt := 52) dX4_readAll_40 (by decide)  (fun h40 => ?_) (fun h40 => ?_)
      · refine g_aload_n (j := 0) rfl dX4_readAll_52 ?_
        refine g_getR dX4_readAll_53 flX4_15 rfl (by assumption) (kz := 1) rfl (by assumption) ?_
        refine g_aload_n (j := 0) rfl dX4_readAll_56 ?_
        refine g_getR dX4_readAll_57 flX4_15 rfl (by assumption) (kz := 1) rfl (by assumption) ?_
        refine g_getI dX4_readAll_60 flX4_41 rfl (by assumption) (kz := 13) rfl ?_
        rw [e134]
        refine g_putI dX4_readAll_63 fpX4_45 rfl rfl rfl (by assumption) (kz := 15) rfl ?_
        refine g_aload_n (j := 0) rfl dX4_readAll_66 ?_
        refine g_getR dX4_readAll_67 flX4_9 rfl (by simp only [IsO_sI, IsO_sL, IsO_sR, IsO_wI, IsO_wL, IsA_sI, IsA_sL, IsA_sR, IsA_wI, IsA_wL, mR_sI, mR_sL, mR_wI, mR_wL]; assumption) (kz := 0) rfl (by simp only [IsO_sI, IsO_sL, IsO_sR, IsO_wI, IsO_wL, IsA_sI, IsA_sL, IsA_sR, IsA_wI, IsA_wL, mR_sI, mR_sL, mR_wI, mR_wL]; assumption) ?_
        refine g_iconst dX4_readAll_70 ?_
        refine g_putI dX4_readAll_71 fpX4_48 rfl rfl rfl (by simp only [IsO_sI, IsO_sL, IsO_sR, IsO_wI, IsO_wL, IsA_sI, IsA_sL, IsA_sR, IsA_wI, IsA_wL, mR_sI, mR_sL, mR_wI, mR_wL]; assumption) (kz := 10) rfl ?_
        have hsp := h4.sp (v := (s4.2.2.2.length : Int))
        have hw5 : PwS x (sI μ4 y 15 (s4.2.2.2.length : Int)) (sI (sI μ4 y 15 (s4.2.2.2.length : Int)) (x + 1) 10 1) := PwS.sI (by omega)
        obtain ⟨h5, hg5⟩ := hsp.tp (s2 := s4) hw5 (by rw [mI_sI, if_neg (by omega)]; exact hsp.2.2.1.1) hi4 rfl
        have hyb := h4.yb
        have e105 : mI (sI (sI μ4 y 15 (s4.2.2.2.length : Int)) (x + 1) 10 1) (x + 1) 10 = 1 := by rw [mI_sI, if_pos ⟨rfl, rfl⟩]
        have e115 : mI (sI (sI μ4 y 15 (s4.2.2.2.length : Int)) (x + 1) 10 1) (x + 1) 11 = 0 := by rw [mI_sI, if_neg (by omega), mI_sI, if_neg (by omega)]; exact e114
        have e155 : mI (sI (sI μ4 y 15 (s4.2.2.2.length : Int)) (x + 1) 10 1) y 15 = (s4.2.2.2.length : Int) := by rw [mI_sI, if_neg (by omega), mI_sI, if_pos ⟨rfl, rfl⟩]
        have hq5 : IdQ x y μ4 (sI (sI μ4 y 15 (s4.2.2.2.length : Int)) (x + 1) 10 1) := (Fr.sI (Or.inr (by omega))).tr (Fr.sI (Or.inl rfl))
        have ex5 : ∀ j, ¬ j = 10 → mI (sI (sI μ4 y 15 (s4.2.2.2.length : Int)) (x + 1) 10 1) (x + 1) j = mI μ4 (x + 1) j := fun j hj => by rw [mI_sI, if_neg (by omega), mI_sI, if_neg (by omega)]
        clear hw5 hg5 hsp
        generalize sI (sI μ4 y 15 (s4.2.2.2.length : Int)) (x + 1) 10 1 = μ5 at *
        have o585 := h5.o58
        have r05 := h5.r0
        have r15 := h5.2.1.1
        have o15 := h5.1.1.o1
        have e85 := h5.2.2.1.1
        have hi5 := h5.2.2.1.2
        have oy5 := h5.ido.1
        refine g_aload_n (j := 0) rfl dX4_readAll_74 ?_
        refine g_getR dX4_readAll_75 flX4_9 rfl (by assumption) (kz := 0) rfl (by assumption) ?_
        refine g_callV dX4_readAll_78 mlX4_51 mvX10_advance (ci := 10) ⟨by decide, rfl⟩ (by assumption) (c_advance w (d + 37) μ5 h5.1 e85 (h5.lt h40)) sv0 rfl (by omega) (Nat.le_of_ble_eq_true rfl) (Nat.le_refl _) (Nat.le_refl _) (fun v μ6 hR => ?_)
        obtain ⟨rfl, e86, hr6⟩ := hR
        obtain ⟨h6, hg6⟩ := h5.adv e86 (h5.lt h40) hr6
        have e106 := (hr6.2 10 (by omega) (by omega)).trans e105
        have e116 := (hr6.2 11 (by omega) (by omega)).trans e115
        have o586 := h6.o58
        refine g_aload_n (j := 0) rfl dX4_readAll_81 ?_
        refine g_iconst dX4_readAll_82 ?_
        refine g_callV dX4_readAll_83 mlX4_30 mvX4_readSum (ci := 4) ⟨by decide, rfl⟩ (by assumption) ((c_X4_lev w (fo := 1) 6 (op := 0) (by omega) (by omega)) μ6 (s4.1 + 1, s4.2) h6 e106 e116) sv1 rfl (by omega) (Nat.le_of_ble_eq_true rfl) (Nat.le_refl _) (Nat.le_refl _) (fun v μ7 hR => ?_)
        rcases hr2 : idLev n B 6 (s4.1 + 1, s4.2) with e | s7
        · rw [hr2] at hR
          obtain ⟨rfl, hE⟩ := hR
          refine g_if_ne (tgt := 91) dX4_readAll_86 (by decide) (by omega) (fun h86 => ?_) (fun h86 => ?_)
          · omega
          · refine g_iconst dX4_readAll_89 ?_
            refine G.retZ dX4_readAll_90 rfl (Or.inl rfl) ?_
            rw [pI_t h40]
            have hq : IdQ x y μ3 μ7 := ((hg4.1.tr hq5).tr hg6.1).tr hE.1
            exact ⟨hf13.tr hq.a, hB4 hq ((hE.2.1 5 (by omega)).trans ((hg6.2.1 5 (by omega)).trans ((ex5 5 (by omega)).trans (hg4.2.1 5 (by omega))))), rfl, hE.2.2⟩
        · rw [hr2] at hR
          obtain ⟨rfl, h7, ⟨e107, e117⟩, hg7⟩ := hR
          refine g_if_ne (tgt := 91) dX4_readAll_86 (by decide) (by omega) (fun h86 => ?_) (fun h86 => ?_)
          · have o587 := h7.o58
            have r07 := h7.r0
            have r17 := h7.2.1.1
            have o17 := h7.1.1.o1
            have e87 := h7.2.2.1.1
            have hi7 := h7.2.2.1.2
            have oy7 := h7.ido.1
            have hq7 : IdQ x y μ3 μ7 := ((hg4.1.tr hq5).tr hg6.1).tr hg7.1
            have ej7 : ∀ j, ¬ (8 ≤ j ∧ j ≤ 11) → mI μ7 (x + 1) j = mI μ3 (x + 1) j := fun j z => (hg7.2.1 j z).trans ((hg6.2.1 j z).trans ((ex5 j (fun q => z (by omega))).trans (hg4.2.1 j z)))
            refine g_aload_n (j := 0) rfl dX4_readAll_91 ?_
            refine g_getR dX4_readAll_92 flX4_9 rfl (by assumption) (kz := 0) rfl (by assumption) ?_
            refine g_callV dX4_readAll_95 mlX4_54 mvX10_isEnd (ci := 10) ⟨by decide, rfl⟩ (by assumption) (c_isEnd w (d + 37) μ7 h7.1 e87 hi7) sv0 rfl (by omega) (Nat.le_of_ble_eq_true rfl) (Nat.le_refl _) (Nat.le_refl _) (fun v μ2 hR => ?_)
            obtain ⟨rfl, hm⟩ := hR
            replace hm := hm.symm
            subst hm
            refine g_ifb_ne (tgt := 112) dX4_readAll_98 (by decide)  (fun h98 => ?_) (fun h98 => ?_)
            · refine g_iconst dX4_readAll_112 ?_
              refine g_goto (tgt := 117) (by decide) dX4_readAll_113 ?_
              refine G.retZ dX4_readAll_117 rfl (Or.inr rfl) ?_
              rw [pI_t h40]
              dsimp only
              rw [pI_t h98]
              exact ⟨hf13.tr hq7.a, hB4 hq7 (ej7 5 (by omega)), rfl, h7.2.2.2.1, (hg7.2.2.trans (hg6.2.2.trans e155)), fun j z1 z2 => (hq7.I hI3.a12.2.1 (by have := h7.yb; omega) j).trans (hk3 j z1 z2), fun j z => (ej7 j (by omega)).trans (ej3 j z)⟩
            · refine g_aload_n (j := 0) rfl dX4_readAll_101 ?_
              refine g_getR dX4_readAll_102 flX4_9 rfl (by assumption) (kz := 0) rfl (by assumption) ?_
              refine g_iconst dX4_readAll_105 ?_
              refine g_callV dX4_readAll_106 mlX4_38 mvX10_fail (ci := 10) ⟨by decide, rfl⟩ (by assumption) (c_fail w (d + 37) μ7 h7.1 e87 hi7 (k := 1) e107 e117) sv1 rfl (by omega) (Nat.le_of_ble_eq_true rfl) (Nat.le_refl _) (Nat.le_refl _) (fun v μ8 hR => ?_)
              obtain ⟨rfl, hE⟩ := hR
              refine g_if_eq (tgt := 116) dX4_readAll_109 (by decide) (by omega) (fun h109 => ?_) (fun h109 => ?_)
              · refine g_iconst dX4_readAll_116 ?_
                refine G.retZ dX4_readAll_117 rfl (Or.inl rfl) ?_
                rw [pI_t h40]
                dsimp only
                rw [pI_f h98]
                have hq : IdQ x y μ3 μ8 := hq7.tr hE.w.i.1
                exact ⟨hf13.tr hq.a, hB4 hq ((hE.w.2.1 5 (by omega)).trans (ej7 5 (by omega))), rfl, hE.2.2⟩
              · omega
          · omega
      · refine g_aload_n (j := 0) rfl dX4_readAll_43 ?_
        refine g_getR dX4_readAll_44 flX4_9 rfl (by assumption) (kz := 0) rfl (by assumption) ?_
        refine g_iconst dX4_readAll_47 ?_
        refine g_callV dX4_readAll_48 mlX4_38 mvX10_fail (ci := 10) ⟨by decide, rfl⟩ (by assumption) (c_fail w (d + 37) μ4 h4.1 e84 hi4 (k := 1) e104 e114) sv1 rfl (by omega) (Nat.le_of_ble_eq_true rfl) (Nat.le_refl _) (Nat.le_refl _) (fun v μ5 hR => ?_)
        obtain ⟨rfl, hE⟩ := hR
        refine G.retZ dX4_readAll_51 rfl (Or.inl rfl) ?_
        rw [pI_f h40]
        have hq : IdQ x y μ3 μ5 := hg4.1.tr hE.w.i.1
        exact ⟨hf13.tr hq.a, hB4 hq ((hE.w.2.1 5 (by omega)).trans (hg4.2.1 5 (by omega))), rfl, hE.2.2⟩
    · omega
