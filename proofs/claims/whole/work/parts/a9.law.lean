/-! THE LAW: its loop -/
theorem iand_63 (a : Int) : i32 (iv a &&& iv 63).toInt := i32_of _
theorem l_law {w : WC} {x : Nat} (h4 : (wX w).2.1 ≤ 4096) : ∀ (k : Nat) (i : Int) (μ : Mem) (S : LSt) (N bc bs : Nat), CS w μ x S N → Mst w μ (x + 99) S → 0 ≤ i → i ≤ 10000 → ((wX w).2.1 : Int) < i + 8 * k + 8 → 200 * k ≤ bc → 12002 * k + pot N ≤ bs → G w 48 mL_law LwQ bc bs 18 [some (vP (some (wX w).1)), some (vP (some x)), some (vP (some (x + 99))), some (vI i)] [] μ := by
  intro k
  induction k with
  | zero =>
    intro i μ S N bc bs hS hM h0 h1 hl hbc hbs
    refine g_iload_n (j := 3) rfl dL_law_18 ?_
    refine g_aload_n (j := 0) rfl dL_law_19 ?_
    refine g_xlen dL_law_20 ?_
    refine g_bipush dL_law_21 (by omega) ?_
    refine g_isub dL_law_23 ?_
    refine g_icmp_gt (tgt := 1621) dL_law_24 (by decide) (by omega) (by omega) (fun h24 => ?_) (fun h24 => by omega)
    refine g_iconst dL_law_1621 ?_
    exact G.retZ dL_law_1622 rfl (Or.inr rfl) rfl
  | succ k ih =>
    intro i μ S N bc bs hS hM h0 h1 hl hbc hbs
    have kk : LwK w x k i := by
      intro μ2 S2 N2 bc2 bs2 hS2 hM2 hc2 hs2
      by_cases hi : i ≤ 5000
      · refine g_iinc (i := 3) dL_law_1615 rfl (by decide) rfl ls3 ?_
        refine g_goto (tgt := 18) (by decide) dL_law_1618 ?_
        exact ih (i + 8) μ2 S2 N2 bc2 bs2 hS2 hM2 (by omega) (by omega) (by omega) hc2 hs2
      · refine g_iinc (i := 3) dL_law_1615 rfl (by decide) rfl ls3 ?_
        refine g_goto (tgt := 18) (by decide) dL_law_1618 ?_
        refine g_iload_n (j := 3) rfl dL_law_18 ?_
        refine g_aload_n (j := 0) rfl dL_law_19 ?_
        refine g_xlen dL_law_20 ?_
        refine g_bipush dL_law_21 (by omega) ?_
        refine g_isub dL_law_23 ?_
        refine g_icmp_gt (tgt := 1621) dL_law_24 (by decide) (by omega) (by omega) (fun h24 => ?_) (fun h24 => by omega)
        refine g_iconst dL_law_1621 ?_
        exact G.retZ dL_law_1622 rfl (Or.inr rfl) rfl
    refine g_iload_n (j := 3) rfl dL_law_18 ?_
    refine g_aload_n (j := 0) rfl dL_law_19 ?_
    refine g_xlen dL_law_20 ?_
    refine g_bipush dL_law_21 (by omega) ?_
    refine g_isub dL_law_23 ?_
    refine g_icmp_gt (tgt := 1621) dL_law_24 (by decide) (by omega) (by omega) (fun h24 => ?_) (fun h24 => ?_)
    · refine g_iconst dL_law_1621 ?_
      exact G.retZ dL_law_1622 rfl (Or.inr rfl) rfl
    · refine g_aload_n (j := 0) rfl dL_law_27 ?_
      refine g_iload_n (j := 3) rfl dL_law_28 ?_
      refine g_xald dL_law_29 (by omega) (by omega) h4 ?_
      refine g_bipush dL_law_30 (by omega) ?_
      refine g_iand dL_law_32 ?_
      have hl8 : i + 8 ≤ ((wX w).2.1 : Int) := by omega
      refine g_tsw (ts := [184, 247, 270, 293, 316, 329, 352, 395, 429, 463, 546, 634, 687, 740, 763, 807, 860, 903, 926, 995, 1038, 1071, 1104, 1147, 1180, 1213, 1276, 1309, 1397, 1420, 1463, 1486, 1539, 1592]) (td := 1615) dL_law_33 (iand_63 _) rfl rfl (by decide) (fun _ => kk μ S N bc bs hS hM (by omega) (by omega)) ⟨(fun _ => lw_0 hS hM h0 hl8 h4 hbc hbs kk), (fun _ => lw_1 hS hM h0 hl8 h4 hbc hbs kk), (fun _ => lw_2 hS hM h0 hl8 h4 hbc hbs kk), (fun _ => lw_3 hS hM h0 hl8 h4 hbc hbs kk), (fun _ => lw_4 hS hM h0 hl8 h4 hbc hbs kk), (fun _ => lw_5 hS hM h0 hl8 h4 hbc hbs kk), (fun _ => lw_6 hS hM h0 hl8 h4 hbc hbs kk), (fun _ => lw_7 hS hM h0 hl8 h4 hbc hbs kk), (fun _ => lw_8 hS hM h0 hl8 h4 hbc hbs kk), (fun _ => lw_9 hS hM h0 hl8 h4 hbc hbs kk), (fun _ => lw_10 hS hM h0 hl8 h4 hbc hbs kk), (fun _ => lw_11 hS hM h0 hl8 h4 hbc hbs kk), (fun _ => lw_12 hS hM h0 hl8 h4 hbc hbs kk), (fun _ => lw_13 hS hM h0 hl8 h4 hbc hbs kk), (fun _ => lw_14 hS hM h0 hl8 h4 hbc hbs kk), (fun _ => lw_15 hS hM h0 hl8 h4 hbc hbs kk), (fun _ => lw_16 hS hM h0 hl8 h4 hbc hbs kk), (fun _ => lw_17 hS hM h0 hl8 h4 hbc hbs kk), (fun _ => lw_18 hS hM h0 hl8 h4 hbc hbs kk), (fun _ => lw_19 hS hM h0 hl8 h4 hbc hbs kk), (fun _ => lw_20 hS hM h0 hl8 h4 hbc hbs kk), (fun _ => lw_21 hS hM h0 hl8 h4 hbc hbs kk), (fun _ => lw_22 hS hM h0 hl8 h4 hbc hbs kk), (fun _ => lw_23 hS hM h0 hl8 h4 hbc hbs kk), (fun _ => lw_24 hS hM h0 hl8 h4 hbc hbs kk), (fun _ => lw_25 hS hM h0 hl8 h4 hbc hbs kk), (fun _ => lw_26 hS hM h0 hl8 h4 hbc hbs kk), (fun _ => lw_27 hS hM h0 hl8 h4 hbc hbs kk), (fun _ => lw_28 hS hM h0 hl8 h4 hbc hbs kk), (fun _ => lw_29 hS hM h0 hl8 h4 hbc hbs kk), (fun _ => lw_30 hS hM h0 hl8 h4 hbc hbs kk), (fun _ => lw_31 hS hM h0 hl8 h4 hbc hbs kk), (fun _ => lw_32 hS hM h0 hl8 h4 hbc hbs kk), (fun _ => lw_33 hS hM h0 hl8 h4 hbc hbs kk), trivial⟩
theorem g_law (w : WC) (μ : Mem) (hz : wB w ≤ mZ μ) (h4 : (wX w).2.1 ≤ 4096) : G w 48 mL_law LwQ 102720 6681359 0 [some (vP (some (wX w).1)), none, none, none] [] μ := by
  have hB0 : Bu w (mZ μ) 0 [] [] [] μ := by
    refine ⟨⟨hz, rfl, rfl⟩, ⟨fun e he => (by cases he), fun e he => (by cases he)⟩, fun i z => ?_, fun i j z => ?_, fun i j z => ?_, fun i j z => ?_⟩ <;> omega
  refine g_new (ci := 11) (bc1 := 102719) (bs1 := 6681345) dL_law_0 okX11 clL_7 ibX11 izX11 (by decide) (Nat.le_of_ble_eq_true rfl) (Nat.le_of_ble_eq_true rfl) ?_
  have hB1 : Bu w (mZ μ) 1 [] [] [(11, 0)] (sN μ 11 0) := hB0.new
  generalize mZ μ = x at hB1 ⊢
  generalize sN μ 11 0 = μ1 at hB1 ⊢
  refine g_dup rfl dL_law_3 ?_
  refine g_callI dL_law_4 mlL_9 mnX11_init (b_X11_init w 0 μ1 hB1) sv0 rfl (by omega) (Nat.le_of_ble_eq_true rfl) (bc1 := 102621) (bs1 := 6669907) (Nat.le_of_ble_eq_true rfl) (Nat.le_of_ble_eq_true rfl) (fun r μ2 hR => ?_)
  obtain ⟨rfl, hq⟩ := hR
  have hB2 : Bu w x 99 R99 I99 S99 μ2 := hq
  clear hq
  refine g_astore_n (j := 1) dL_law_7 (by decide) rfl ls1 ?_
  refine g_new (ci := 12) (bc1 := 102620) (bs1 := 6669857) dL_law_8 okX12 clL_10 ibX12 izX12 (by decide) (Nat.le_of_ble_eq_true rfl) (Nat.le_of_ble_eq_true rfl) ?_
  rw [hB2.mz]
  have hB3 : Bu w x 100 R99 I99 (S99 ++ [(12, 0)]) (sN μ2 12 0) := hB2.new
  generalize sN μ2 12 0 = μ3 at hB3 ⊢
  refine g_dup rfl dL_law_11 ?_
  refine g_callI dL_law_12 mlL_12 mnX12_init (b_X12_init w 0 μ3 (i := 99) hB3 (by rfl)) sv0 rfl (by omega) (Nat.le_of_ble_eq_true rfl) (bc1 := 102600) (bs1 := 6469042) (Nat.le_of_ble_eq_true rfl) (Nat.le_of_ble_eq_true rfl) (fun r μ4 hR => ?_)
  obtain ⟨rfl, hq⟩ := hR
  have hB4 : Bu w x 120 R120 I120 S120 μ4 := hq
  clear hq
  refine g_astore_n (j := 2) dL_law_15 (by decide) rfl ls2 ?_
  refine g_iconst dL_law_16 ?_
  refine g_istore_n (j := 3) dL_law_17 (by decide) rfl ls3 ?_
  exact l_law h4 512 0 μ4 st0 0 102600 6469042 (CS_0 hB4) (Mst_0 hB4) (by omega) (by omega) (by omega) (by omega) (by have e0 : pot 0 = 324018 := rfl; omega)
