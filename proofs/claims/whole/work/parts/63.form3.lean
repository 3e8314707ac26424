/-! THE CLASS: the method form -/
def fa0 : Int → Int := fa4 0 (-1) (-1) (-1)
def FoF (x : Nat) : Mem → Mem → Prop := Fr (fun a => (x + 1 ≤ a ∧ a ≤ x + 6) ∨ (x + 49 ≤ a ∧ a ≤ x + 55)) (fun _ _ => False)
theorem c_readAll2 (w : WC) (d : Nat) (μ : Mem) {x : Nat} {n : Int} {B : Int → Int} (hT : TPS w μ x) (hB : TpC μ x n B) : Con w (d + 8) mX2_readAll 0 0 [vP (some (x + 48))] μ (fun v μ2 => FoF x μ μ2 ∧ TpC μ2 x n B ∧ PoF (rdFm n B 5 [] 0) (fun e o => v = some (vI 0) ∧ FaC μ2 x (fa4 e.1 (tP n B e.2) o (-1))) (fun ts => v = some (vI 1) ∧ FI μ2 (x + 49) ts ∧ ∀ j, 12 ≤ j → mI μ2 (x + 1) j = mI μ (x + 1) j)) := by
  have o48 := hT.o48
  have r480 := hT.r48_0
  have r481 := hT.r48_1
  have o49 := hT.o49
  refine Con.of (by decide) (Nat.le_of_ble_eq_true rfl) rfl ?_
  refine g_aload_n (j := 0) rfl dX2_readAll_0 ?_
  refine g_getR dX2_readAll_1 flX2_18 rfl (by assumption) (kz := 1) rfl (by assumption) ?_
  refine g_iconst dX2_readAll_4 ?_
  refine g_putI dX2_readAll_5 fpX2_22 rfl rfl rfl (by assumption) (kz := 0) rfl ?_
  have hf1 : DrF x μ (sI μ (x + 49) 0 0) := Fr.sI (Or.inr (by omega))
  have hT1 : TPS w (sI μ (x + 49) 0 0) x := hT.fr hf1 fun _ _ _ z => z.elim
  have hB1 : TpC (sI μ (x + 49) 0 0) x n B := hB.fr hT (by rw [mI_sI, if_neg (by omega)]) (fun j => by rw [mI_sI, if_neg (by omega)])
  have hN1 : FI (sI μ (x + 49) 0 0) (x + 49) [] := FI.nil (by rw [mI_sI, if_pos ⟨rfl, rfl⟩])
  have ej : ∀ j, mI (sI μ (x + 49) 0 0) (x + 1) j = mI μ (x + 1) j := fun j => by rw [mI_sI, if_neg (by omega)]
  generalize sI μ (x + 49) 0 0 = μ1 at *
  have o481 := hT1.o48
  have r4801 := hT1.r48_0
  have o11 := hT1.o1
  refine g_aload_n (j := 0) rfl dX2_readAll_8 ?_
  refine g_getR dX2_readAll_9 flX2_9 rfl (by assumption) (kz := 0) rfl (by assumption) ?_
  refine g_iconst dX2_readAll_12 ?_
  refine g_iconst dX2_readAll_13 ?_
  refine g_callV dX2_readAll_14 mlX2_26 mvX10_begin (ci := 10) ⟨by decide, rfl⟩ (by assumption) (c_begin w (d + 5) μ1 hT1 hB1 (fo := 0) (fi := -1)) sv2 rfl (by omega) (Nat.le_of_ble_eq_true rfl) (Nat.le_refl _) (Nat.le_refl _) (fun v μ2 hR => ?_)
  obtain ⟨rfl, T, hK, hc, e8, e10, e11, e12⟩ := hR
  have hI2 : FI μ2 (x + 49) [] := hc.FI hT1.f49 (fun a z1 z2 z => by omega) hN1
  refine g_iconst dX2_readAll_17 ?_
  refine g_istore_n (j := 1) dX2_readAll_18 (by decide) rfl ls1 ?_
  refine G.post (fun v μ3 hq => ?_) (l_readAll (d := d) 5 [] μ2 0 rfl hK e8 (Nat.zero_le _) e11 hI2)
  have hff : FoF x μ μ2 := (hf1.mono (fun a _ z => by omega) (fun _ _ _ z => z)).tr (hc.mono (fun a _ z => by omega) (fun _ _ _ z => z))
  rcases hr : rdFm n B 5 [] 0 with e | ts
  · rw [hr] at hq
    obtain ⟨q1, q2, q3, q4⟩ := hq
    have hK3 := hK.2.1.fr hK.1 (μ2 := μ3) (q3 5 (by omega) (by omega) (by omega) (by omega)) (fun j => q2.I hK.1.a2.2.1 (by omega) j)
    exact ⟨hff.tr (q2.mono (fun a _ z => by omega) (fun _ _ _ z => z)), hK3, q1, q4⟩
  · rw [hr] at hq
    obtain ⟨q1, q2, q3, q4⟩ := hq
    have hK3 := hK.2.1.fr hK.1 (μ2 := μ3) (q4 5 (by omega) (by omega) (by omega)) (fun j => q3.I hK.1.a2.2.1 (by omega) j)
    exact ⟨hff.tr (q3.mono (fun a _ z => by omega) (fun _ _ _ z => z)), hK3, q1, q2, fun j z => (q4 j (by omega) (by omega) (by omega)).trans ((e12 j z).trans (ej j))⟩
theorem c_forgetFault (w : WC) (d : Nat) (μ : Mem) {x : Nat} (hT : TPS w μ x) : Con w d mX10_forgetFault 0 0 [vP (some (x + 1))] μ (fun v μ2 => v = none ∧ FaC μ2 x fa0 ∧ Fr (fun a => a = x + 1) (fun _ _ => False) μ μ2 ∧ ∀ j, j < 12 → mI μ2 (x + 1) j = mI μ (x + 1) j) := by
  have o1 := hT.o1
  refine Con.of (by decide) (Nat.le_of_ble_eq_true rfl) rfl ?_
  refine g_aload_n (j := 0) rfl dX10_forgetFault_0 ?_
  refine g_iconst dX10_forgetFault_1 ?_
  refine g_putI dX10_forgetFault_2 fpX10_41 rfl rfl rfl (by assumption) (kz := 12) rfl ?_
  refine g_aload_n (j := 0) rfl dX10_forgetFault_5 ?_
  refine g_iconst dX10_forgetFault_6 ?_
  refine g_putI dX10_forgetFault_7 fpX10_28 rfl rfl rfl (by simp only [IsO_sI, IsO_sL, IsO_sR, IsO_wI, IsO_wL, IsA_sI, IsA_sL, IsA_sR, IsA_wI, IsA_wL, mR_sI, mR_sL, mR_wI, mR_wL]; assumption) (kz := 13) rfl ?_
  refine g_aload_n (j := 0) rfl dX10_forgetFault_10 ?_
  refine g_iconst dX10_forgetFault_11 ?_
  refine g_putI dX10_forgetFault_12 fpX10_32 rfl rfl rfl (by simp only [IsO_sI, IsO_sL, IsO_sR, IsO_wI, IsO_wL, IsA_sI, IsA_sL, IsA_sR, IsA_wI, IsA_wL, mR_sI, mR_sL, mR_wI, mR_wL]; assumption) (kz := 14) rfl ?_
  refine g_aload_n (j := 0) rfl dX10_forgetFault_15 ?_
  refine g_iconst dX10_forgetFault_16 ?_
  refine g_putI dX10_forgetFault_17 fpX10_35 rfl rfl rfl (by simp only [IsO_sI, IsO_sL, IsO_sR, IsO_wI, IsO_wL, IsA_sI, IsA_sL, IsA_sR, IsA_wI, IsA_wL, mR_sI, mR_sL, mR_wI, mR_wL]; assumption) (kz := 15) rfl ?_
  refine G.retV dX10_forgetFault_20 rfl ⟨rfl, ?_, ((Fr.sI (P := fun a => a = x + 1) rfl).tr (Fr.sI (P := fun a => a = x + 1) rfl)).tr ((Fr.sI (P := fun a => a = x + 1) rfl).tr (Fr.sI (P := fun a => a = x + 1) rfl)), fun j z => ?_⟩
  · unfold FaC fa0 fa4
    simp [mI_sI]
  · rw [mI_sI, if_neg (by omega), mI_sI, if_neg (by omega), mI_sI, if_neg (by omega), mI_sI, if_neg (by omega)]
noncomputable def foA (n : Int) (B : Int → Int) (s : Int) : Int := cI (0 ≤ s ∧ s ≤ 3) (match rdFm n B 5 [] 0 with
  | .inl _ => -1
  | .inr ts => ts.length) (-2)
noncomputable def foM (n : Int) (B : Int → Int) (F : Int → List Tm) (s : Int) : Int → List Tm := pI (0 ≤ s ∧ s ≤ 3) (match rdFm n B 5 [] 0 with
  | .inl _ => F
  | .inr ts => fmF F s ts) F
noncomputable def foU (n : Int) (B : Int → Int) (s : Int) : Int → Int := pI (0 ≤ s ∧ s ≤ 3) (match rdFm n B 5 [] 0 with
  | .inl e => fa4 e.1.1 (tP n B e.1.2) e.2 (-1)
  | .inr _ => fa0) fa0
theorem ByOk.nil {n : Int} {B : Int → Int} : ByOk 0 B := ⟨by omega, fun j z1 z2 => by omega⟩
def FxF (x : Nat) : Mem → Mem → Prop := Fr (fun a => (x + 1 ≤ a ∧ a ≤ x + 6) ∨ (x + 9 ≤ a ∧ a ≤ x + 59)) (fun _ _ => False)
theorem CA.len0 {w : WC} {x c N : Nat} {F : Int → List Tm} {μ : Mem} (h : CA w μ x F c N) : CA w (sI μ (x + 1) 5 0) x F c N ∧ ∀ B, TpC (sI μ (x + 1) 5 0) x 0 B := ⟨h.fr (Fr.sI (P := fun a => a = x + 1) (K := fun _ _ => False) rfl) (fun a z => by omega) (fun _ _ z => z.elim), fun B => ⟨by rw [mI_sI, if_pos ⟨rfl, rfl⟩], ByOk.nil (n := 0), fun j z1 z2 => by omega⟩⟩
theorem FaC.len0 {x : Nat} {μ : Mem} {f : Int → Int} (h : FaC μ x f) : FaC (sI μ (x + 1) 5 0) x f := by
  obtain ⟨a, b, c, e⟩ := h
  exact ⟨by rw [mI_sI, if_neg (by omega)]; exact a, by rw [mI_sI, if_neg (by omega)]; exact b, by rw [mI_sI, if_neg (by omega)]; exact c, by rw [mI_sI, if_neg (by omega)]; exact e⟩

theorem c_X11_form (w : WC) (d : Nat) (μ : Mem) {x c N : Nat} {F : Int → List Tm} (h : CA w μ x F c N) {n : Int} {B : Int → Int} (hB : TpC μ x n B) {s : Int} (hs : i32 s) : Con w (d + 9) mX11_form 0 0 [vP (some x), vI s] μ (fun v μ2 => v = some (vI (foA n B s)) ∧ CA w μ2 x (foM n B F s) c N ∧ TpC μ2 x 0 B ∧ FaC μ2 x (foU n B s) ∧ FxF x μ μ2) := by
  have o0 := h.tps.o0
  have r0 := h.tps.r0_0
  have o1 := h.tps.o1
  refine Con.of (by decide) (Nat.le_of_ble_eq_true rfl) rfl ?_
  refine g_aload_n (j := 0) rfl dX11_form_0 ?_
  refine g_getR dX11_form_1 flX11_12 rfl (by assumption) (kz := 0) rfl (by assumption) ?_
  refine g_callV dX11_form_4 mlX11_107 mvX10_forgetFault (ci := 10) ⟨by decide, rfl⟩ (by assumption) (c_forgetFault w (d + 8) μ h.tps) sv0 rfl (by omega) (Nat.le_of_ble_eq_true rfl) (Nat.le_refl _) (Nat.le_refl _) (fun v μ1 hR => ?_)
  obtain ⟨rfl, hF1, hf1, ej1⟩ := hR
  have h1 := h.fr hf1 (fun a z => by omega) (fun _ _ z => z.elim)
  have hB1 : TpC μ1 x n B := hB.fr h.tps (ej1 5 (by omega)) (fun j => hf1.I h.tps.a2.2.1 (by omega) j)
  have o01 := h1.tps.o0
  have r01 := h1.tps.r0_0
  have r41 := h1.tps.r0_4
  have o11 := h1.tps.o1
  have o481 := h1.tps.o48
  have r4811 := h1.tps.r48_1
  refine g_bipush dX11_form_7 (by omega) ?_
  refine g_istore_n (j := 2) dX11_form_9 (by decide) rfl ls2 ?_
  refine g_iload_n (j := 1) rfl dX11_form_10 ?_
  refine g_callS dX11_form_11 mlX11_110 msX11_isSlot (c_X11_isSlot w (d + 8) μ1 hs) sk1 rfl (by omega) (Nat.le_of_ble_eq_true rfl) (Nat.le_refl _) (Nat.le_refl _) (fun v μ2 hR => ?_)
  obtain ⟨rfl, hm⟩ := hR
  replace hm := hm.symm
  subst hm
  refine g_ifb_eq (tgt := 51) dX11_form_14 (by decide)  (fun h14 => ?_) (fun h14 => ?_)
  · refine g_aload_n (j := 0) rfl dX11_form_51 ?_
    refine g_getR dX11_form_52 flX11_12 rfl (by assumption) (kz := 0) rfl (by assumption) ?_
    refine g_iconst dX11_form_55 ?_
    refine g_putI dX11_form_56 fpX11_99 rfl rfl rfl (by assumption) (kz := 5) rfl ?_
    refine g_iload_n (j := 2) rfl dX11_form_59 ?_
    obtain ⟨q1, q2⟩ := h1.len0
    exact G.retI dX11_form_60 rfl ⟨by rw [foA, cI_f h14], by rw [foM, pI_f h14]; exact q1, q2 B, by rw [foU, pI_f h14]; exact hF1.len0, (hf1.mono (fun a _ z => by omega) (fun _ _ _ z => z)).tr (Fr.sI (by omega))⟩
  · refine g_iconst dX11_form_17 ?_
    refine g_istore_n (j := 2) dX11_form_18 (by decide) rfl ls2 ?_
    refine g_aload_n (j := 0) rfl dX11_form_19 ?_
    refine g_getR dX11_form_20 flX11_39 rfl (by assumption) (kz := 4) rfl (by assumption) ?_
    refine g_callV dX11_form_23 mlX11_114 mvX2_readAll (ci := 2) ⟨by decide, rfl⟩ (by assumption) (c_readAll2 w d μ1 h1.tps hB1) sv0 rfl (by omega) (Nat.le_of_ble_eq_true rfl) (Nat.le_refl _) (Nat.le_refl _) (fun v μ2 hR => ?_)
    obtain ⟨hf2, hB2, hq⟩ := hR
    have h2 := h1.fr hf2 (fun a z => by omega) (fun _ _ z => z.elim)
    have o02 := h2.tps.o0
    have r02 := h2.tps.r0_0
    have r12 := h2.tps.r0_1
    have r42 := h2.tps.r0_4
    have a72 := h2.tps.a7
    have o12 := h2.tps.o1
    have o482 := h2.tps.o48
    have r4812 := h2.tps.r48_1
    have hff : FxF x μ μ2 := (hf1.mono (fun a _ z => by omega) (fun _ _ _ z => z)).tr (hf2.mono (fun a _ z => by omega) (fun _ _ _ z => z))
    rcases hr : rdFm n B 5 [] 0 with e | ts
    · rw [hr] at hq
      obtain ⟨rfl, hF2⟩ := hq
      refine g_if_eq (tgt := 51) dX11_form_26 (by decide) (by omega) (fun h26 => ?_) (fun h26 => ?_)
      · refine g_aload_n (j := 0) rfl dX11_form_51 ?_
        refine g_getR dX11_form_52 flX11_12 rfl (by assumption) (kz := 0) rfl (by assumption) ?_
        refine g_iconst dX11_form_55 ?_
        refine g_putI dX11_form_56 fpX11_99 rfl rfl rfl (by assumption) (kz := 5) rfl ?_
        refine g_iload_n (j := 2) rfl dX11_form_59 ?_
        obtain ⟨q1, q2⟩ := h2.len0
        exact G.retI dX11_form_60 rfl ⟨by rw [foA, cI_t h14, hr], by rw [foM, pI_t h14, hr]; exact q1, q2 B, by rw [foU, pI_t h14, hr]; exact hF2.len0, hff.tr (Fr.sI (by omega))⟩
      · omega
    rw [hr] at hq
    obtain ⟨rfl, hI2, ej2⟩ := hq
    refine g_if_eq (tgt := 51) dX11_form_26 (by decide) (by omega) (fun h26 => ?_) (fun h26 => ?_)
    · omega
    · refine g_aload_n (j := 0) rfl dX11_form_29 ?_
      refine g_iload_n (j := 1) rfl dX11_form_30 ?_
      refine g_aload_n (j := 0) rfl dX11_form_31 ?_
      refine g_getR dX11_form_32 flX11_39 rfl (by assumption) (kz := 4) rfl (by assumption) ?_
      refine g_getR dX11_form_35 flX11_118 rfl (by assumption) (kz := 1) rfl (by assumption) ?_
      refine g_callV dX11_form_38 mlX11_121 mvX11_replaceForm (ci := 11) ⟨by decide, rfl⟩ (by assumption) (c_replaceForm w (d + 3) μ2 h2 (s := s) h14 (q := x + 49) (Or.inr rfl) h2.tps.f49 hI2) sv2 rfl (by omega) (Nat.le_of_ble_eq_true rfl) (Nat.le_refl _) (Nat.le_refl _) (fun v μ3 hR => ?_)
      obtain ⟨rfl, h3, hc3⟩ := hR
      have hF3 : FaC μ3 x fa0 := by
        have ek : ∀ j, 12 ≤ j → mI μ3 (x + 1) j = mI μ1 (x + 1) j := fun j z => (hc3.2.2.2.2 (x + 1) (fun y => by have := fA_bd x h14; unfold Pr at y; omega) j).trans (ej2 j z)
        obtain ⟨a, b, c, e⟩ := hF1
        exact ⟨(ek 12 (by omega)).trans a, (ek 13 (by omega)).trans b, (ek 14 (by omega)).trans c, (ek 15 (by omega)).trans e⟩
      have o03 := h3.tps.o0
      have r03 := h3.tps.r0_0
      have r13 := h3.tps.r0_1
      have a73 := h3.tps.a7
      have o13 := h3.tps.o1
      have rf3 := h3.tps.rf h14
      have of3 := (h3.tps.fs h14).1
      have ec3 := (h3.fm h14).1
      rw [fmF_self] at ec3
      refine g_aload_n (j := 0) rfl dX11_form_41 ?_
      refine g_getR dX11_form_42 flX11_18 rfl (by assumption) (kz := 1) rfl (by assumption) ?_
      refine g_iload_n (j := 1) rfl dX11_form_45 ?_
      refine g_aald dX11_form_46 (by assumption) (by omega) (by omega) (by omega) (by assumption) ?_
      refine g_getI dX11_form_47 flX11_125 rfl (by assumption) (kz := 0) rfl ?_
      rw [ec3]
      refine g_istore_n (j := 2) dX11_form_50 (by decide) rfl ls2 ?_
      refine g_aload_n (j := 0) rfl dX11_form_51 ?_
      refine g_getR dX11_form_52 flX11_12 rfl (by assumption) (kz := 0) rfl (by assumption) ?_
      refine g_iconst dX11_form_55 ?_
      refine g_putI dX11_form_56 fpX11_99 rfl rfl rfl (by assumption) (kz := 5) rfl ?_
      refine g_iload_n (j := 2) rfl dX11_form_59 ?_
      obtain ⟨q1, q2⟩ := h3.len0
      have hb := fA_bd x h14
      exact G.retI dX11_form_60 rfl ⟨by rw [foA, cI_t h14, hr], by rw [foM, pI_t h14, hr]; exact q1, q2 B, by rw [foU, pI_t h14, hr]; exact hF3.len0, (hff.tr ((Fr.ofI hc3).mono (fun a _ z => by unfold Pr at z; omega) (fun _ _ _ z => z))).tr (Fr.sI (by omega))⟩
