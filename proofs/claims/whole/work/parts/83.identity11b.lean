theorem c_letterCount (w : WC) (d : Nat) (μ : Mem) {y : Nat} {L : Int} (o0 : IsO w μ y 3) (e16 : mI μ y 16 = L) (hL : 0 ≤ L ∧ L < 64) : Con w (d + 1) mX3_letterCount 0 0 [vP (some y)] μ (fun v μ2 => v = some (vI (bcL L)) ∧ μ2 = μ) := by
  refine Con.of (by decide) (Nat.le_of_ble_eq_true rfl) rfl ?_
  refine g_aload_n (j := 0) rfl dX3_letterCount_0 ?_
  refine g_getI dX3_letterCount_1 flX3_63 rfl (by assumption) (kz := 16) rfl ?_
  rw [e16]
  refine g_callS dX3_letterCount_4 mlX3_77 msJ6_bitCount_0f7a4 (c_bitCount w d μ hL) sk1 rfl (by omega) (Nat.le_of_ble_eq_true rfl) (Nat.le_refl _) (Nat.le_refl _) (fun v μ2 hR => ?_)
  obtain ⟨rfl, hm⟩ := hR
  replace hm := hm.symm
  subst hm
  exact G.retI dX3_letterCount_7 rfl ⟨rfl, rfl⟩
noncomputable def idA (n : Int) (B : Int → Int) : Int := match idAll n B with
  | .inl _ => -1
  | .inr s => bcL s.1.2.2.1
noncomputable def idU (n : Int) (B : Int → Int) : Int → Int := match idAll n B with
  | .inl e => fa4 e.1.1 (tP n B e.1.2.1) e.2 e.1.2.2
  | .inr _ => fa0
/-- latest and spare -/
def LsR (μ : Mem) (x yl ys : Nat) : Prop := mR μ x 12 = some yl ∧ mR μ x 13 = some ys ∧ (yl = x + 71 ∧ ys = x + 85 ∨ yl = x + 85 ∧ ys = x + 71)
def IeF (x y : Nat) : Mem → Mem → Prop := Fr (fun a => ((x + 1 ≤ a ∧ a ≤ x + 6) ∧ ¬ a = x + 2) ∨ (y ≤ a ∧ a ≤ y + 8) ∨ a = y + 13) (fun a j => (a = x + 58 ∧ j = 1) ∨ (a = x ∧ (j = 12 ∨ j = 13)))
def IeP (x yl ys : Nat) (r : (FlF × Int) ⊕ (IdS × Nat)) (μ2 : Mem) : Prop := match r with
  | .inl _ => LsR μ2 x yl ys
  | .inr s => LsR μ2 x ys yl ∧ IcS μ2 ys s.1.2.1 s.1.2.2.1 s.1.2.2.2 ∧ mI μ2 ys 15 = (s.2 : Int) ∧ ∀ j, 0 ≤ j → j < 4 → mI μ2 (ys + 13) j = 0
theorem c_X11_identity (w : WC) (d : Nat) (μ : Mem) {x yl ys c N : Nat} {F : Int → List Tm} (h : CA w μ x F c N) {n : Int} {B : Int → Int} (hB : TpC μ x n B) (hls : LsR μ x yl ys) : Con w (d + 39) mX11_identity 0 0 [vP (some x)] μ (fun v μ2 => v = some (vI (idA n B)) ∧ CA w μ2 x F c N ∧ TpC μ2 x 0 B ∧ FaC μ2 x (idU n B) ∧ IeP x yl ys (idAll n B) μ2 ∧ IeF x ys μ μ2) := by
  have o0 := h.tps.o0
  have r0 := h.tps.r0_0
  have o1 := h.tps.o1
  refine Con.of (by decide) (Nat.le_of_ble_eq_true rfl) rfl ?_
  refine g_aload_n (j := 0) rfl dX11_identity_0 ?_
  refine g_getR dX11_identity_1 flX11_12 rfl (by assumption) (kz := 0) rfl (by assumption) ?_
  refine g_callV dX11_identity_4 mlX11_107 mvX10_forgetFault (ci := 10) ⟨by decide, rfl⟩ (by assumption) (c_forgetFault w (d + 38) μ h.tps) sv0 rfl (by omega) (Nat.le_of_ble_eq_true rfl) (Nat.le_refl _) (Nat.le_refl _) (fun v μ1 hR => ?_)
  obtain ⟨rfl, hF1, hf1, ej1⟩ := hR
  have h1 := h.fr hf1 (fun a z => by omega) (fun _ _ z => z.elim)
  have hB1 : TpC μ1 x n B := hB.fr h.tps (ej1 5 (by omega)) (fun j => hf1.I h.tps.a2.2.1 (by omega) j)
  have hg1 : IeF x ys μ μ1 := hf1.mono (fun a _ z => by omega) (fun _ _ _ z => z.elim)
  have o01 := h1.tps.o0
  have r01 := h1.tps.r0_0
  have r61 := h1.tps.r0_6
  have o11 := h1.tps.o1
  have o581 := h1.tps.o58
  have hl1 : LsR μ1 x yl ys := ⟨(hf1.R o0.2.1 (fun z => z)).trans hls.1, (hf1.R o0.2.1 (fun z => z)).trans hls.2.1, hls.2.2⟩
  obtain ⟨rl1, rs1, hyy⟩ := id hl1
  refine g_iconst dX11_identity_7 ?_
  refine g_istore_n (j := 1) dX11_identity_8 (by decide) rfl ls1 ?_
  refine g_aload_n (j := 0) rfl dX11_identity_9 ?_
  refine g_getR dX11_identity_10 flX11_53 rfl (by assumption) (kz := 6) rfl (by assumption) ?_
  refine g_aload_n (j := 0) rfl dX11_identity_13 ?_
  refine g_getR dX11_identity_14 flX11_96 rfl (by assumption) (kz := 13) rfl (by assumption) ?_
  refine g_callV dX11_identity_17 mlX11_138 mvX4_readAll (ci := 4) ⟨by decide, rfl⟩ (by assumption) (c_X4_readAll w d μ1 h1.tps hB1 (y := ys) (by omega)) sv1 rfl (by omega) (Nat.le_of_ble_eq_true rfl) (Nat.le_refl _) (Nat.le_refl _) (fun v μ2 hR => ?_)
  obtain ⟨hf2, hB2, hq⟩ := hR
  have h2 := h1.fr hf2 (fun b z => by omega) (fun b j z => by unfold Kx Kc; omega)
  have hg2 : IeF x ys μ μ2 := hg1.tr (hf2.mono (fun a _ z => by omega) (fun _ _ _ z => Or.inl z))
  have o02 := h2.tps.o0
  have r02 := h2.tps.r0_0
  have o12 := h2.tps.o1
  have rl2 := (hf2.R o01.2.1 (by omega)).trans rl1
  have rs2 := (hf2.R o01.2.1 (by omega)).trans rs1
  rcases hr : idAll n B with e | s
  · rw [hr] at hq
    obtain ⟨rfl, hF2⟩ := hq
    refine g_if_eq (tgt := 49) dX11_identity_20 (by decide) (by omega) (fun h20 => ?_) (fun h20 => ?_)
    · refine g_aload_n (j := 0) rfl dX11_identity_49 ?_
      refine g_getR dX11_identity_50 flX11_12 rfl (by assumption) (kz := 0) rfl (by assumption) ?_
      refine g_iconst dX11_identity_53 ?_
      refine g_putI dX11_identity_54 fpX11_99 rfl rfl rfl (by assumption) (kz := 5) rfl ?_
      refine g_iload_n (j := 1) rfl dX11_identity_57 ?_
      obtain ⟨qc, qt⟩ := h2.len0
      exact G.retI dX11_identity_58 rfl ⟨by rw [idA, hr], qc, qt B, by rw [idU, hr]; exact hF2.len0, ⟨rl2, rs2, hyy⟩, hg2.tr (Fr.sI (by omega))⟩
    · omega
  · rw [hr] at hq
    obtain ⟨rfl, hc, e15, hk, ej2⟩ := hq
    have hF2 : FaC μ2 x fa0 := by
      obtain ⟨b1, b2, b3, b4⟩ := hF1
      exact ⟨(ej2 12 (by omega)).trans b1, (ej2 13 (by omega)).trans b2, (ej2 14 (by omega)).trans b3, (ej2 15 (by omega)).trans b4⟩
    refine g_if_eq (tgt := 49) dX11_identity_20 (by decide) (by omega) (fun h20 => ?_) (fun h20 => ?_)
    · omega
    · refine g_aload_n (j := 0) rfl dX11_identity_23 ?_
      refine g_getR dX11_identity_24 flX11_92 rfl (by assumption) (kz := 12) rfl (by assumption) ?_
      refine g_astore_n (j := 2) dX11_identity_27 (by decide) rfl ls2 ?_
      refine g_aload_n (j := 0) rfl dX11_identity_28 ?_
      refine g_aload_n (j := 0) rfl dX11_identity_29 ?_
      refine g_getR dX11_identity_30 flX11_96 rfl (by assumption) (kz := 13) rfl (by assumption) ?_
      refine g_putR dX11_identity_33 fpX11_92 rfl rfl rfl (by assumption) (kz := 12) rfl ?_
      refine g_aload_n (j := 0) rfl dX11_identity_36 ?_
      refine g_aload_n (j := 2) rfl dX11_identity_37 ?_
      refine g_putR dX11_identity_38 fpX11_96 rfl rfl rfl (by simp only [IsO_sI, IsO_sL, IsO_sR, IsO_wI, IsO_wL, IsA_sI, IsA_sL, IsA_sR, IsA_wI, IsA_wL, mR_sI, mR_sL, mR_wI, mR_wL]; assumption) (kz := 13) rfl ?_
      have hf3 : IeF x ys μ2 (sR (sR μ2 x 12 (some ys)) x 13 (some yl)) := (Fr.sR (Or.inr ⟨rfl, Or.inl rfl⟩)).tr (Fr.sR (Or.inr ⟨rfl, Or.inr rfl⟩))
      have h3 := h2.fr (Fr.mono (P2 := fun _ => False) (K2 := fun a j => a = x ∧ (j = 12 ∨ j = 13)) ((Fr.sR (P := fun _ => False) (K := fun a j => a = x ∧ (j = 12 ∨ j = 13)) ⟨rfl, Or.inl rfl⟩).tr (Fr.sR (μ := sR μ2 x 12 (some ys)) (k := 13) (v := some yl) (P := fun _ => False) (K := fun a j => a = x ∧ (j = 12 ∨ j = 13)) ⟨rfl, Or.inr rfl⟩)) (fun _ _ z => z) (fun _ _ _ z => z)) (fun b z => z.elim) (fun b j z => by unfold Kx; omega)
      have hl3 : LsR (sR (sR μ2 x 12 (some ys)) x 13 (some yl)) x ys yl := ⟨by rw [mR_sR, if_neg (by omega), mR_sR, if_pos ⟨rfl, rfl⟩], by rw [mR_sR, if_pos ⟨rfl, rfl⟩], by omega⟩
      have hF3 : FaC (sR (sR μ2 x 12 (some ys)) x 13 (some yl)) x fa0 := hF2
      have hc3 : IcS (sR (sR μ2 x 12 (some ys)) x 13 (some yl)) ys s.1.2.1 s.1.2.2.1 s.1.2.2.2 := hc
      have e153 : mI (sR (sR μ2 x 12 (some ys)) x 13 (some yl)) ys 15 = (s.2 : Int) := e15
      have hk3 : ∀ j, 0 ≤ j → j < 4 → mI (sR (sR μ2 x 12 (some ys)) x 13 (some yl)) (ys + 13) j = 0 := hk
      have hg3 := hg2.tr hf3
      generalize sR (sR μ2 x 12 (some ys)) x 13 (some yl) = μ3 at *
      have o03 := h3.tps.o0
      have r03 := h3.tps.r0_0
      have o13 := h3.tps.o1
      have rl3 := hl3.1
      have oy3 := (h3.tps.ido (y := ys) (by omega)).1
      have hL := idAll_L hr
      refine g_aload_n (j := 0) rfl dX11_identity_41 ?_
      refine g_getR dX11_identity_42 flX11_92 rfl (by assumption) (kz := 12) rfl (by assumption) ?_
      refine g_callV dX11_identity_45 mlX11_141 mvX3_letterCount (ci := 3) ⟨by decide, rfl⟩ (by assumption) (c_letterCount w (d + 37) μ3 oy3 hc3.1.2.2.1 hL) sv0 rfl (by omega) (Nat.le_of_ble_eq_true rfl) (Nat.le_refl _) (Nat.le_refl _) (fun v μ2 hR => ?_)
      obtain ⟨rfl, hm⟩ := hR
      replace hm := hm.symm
      subst hm
      refine g_istore_n (j := 1) dX11_identity_48 (by decide) rfl ls1 ?_
      refine g_aload_n (j := 0) rfl dX11_identity_49 ?_
      refine g_getR dX11_identity_50 flX11_12 rfl (by assumption) (kz := 0) rfl (by assumption) ?_
      refine g_iconst dX11_identity_53 ?_
      refine g_putI dX11_identity_54 fpX11_99 rfl rfl rfl (by assumption) (kz := 5) rfl ?_
      refine g_iload_n (j := 1) rfl dX11_identity_57 ?_
      obtain ⟨qc, qt⟩ := h3.len0
      exact G.retI dX11_identity_58 rfl ⟨by rw [idA, hr], qc, qt B, by rw [idU, hr]; exact hF3.len0, ⟨hl3, hc3.eq (fun j _ => by rw [mI_sI, if_neg (by omega)]) (fun a j z1 z2 => by rw [mI_sI, if_neg (by omega)]), by rw [mI_sI, if_neg (by omega)]; exact e153, fun j z1 z2 => by rw [mI_sI, if_neg (by omega)]; exact hk3 j z1 z2⟩, hg3.tr (Fr.sI (by omega))⟩
