/-! THE CLASS: numbers of the sides -/
theorem c_X3_isSmall (w : WC) (d : Nat) (μ : Mem) {a : Int} (ha : i64 a) : Con w d mX3_isSmall 0 0 [vJ a] μ (fun v μ2 => v = some (vI (bI (-2000000000 ≤ a ∧ a ≤ 2000000000))) ∧ μ2 = μ) := by
  refine Con.of (by decide) (Nat.le_of_ble_eq_true rfl) rfl ?_
  refine g_lload_n (j := 0) rfl dX3_isSmall_0 ?_
  refine g_ldc2 dX3_isSmall_1 klX3_120 (z := -2000000000) rfl ?_
  refine g_lif_lt (tgt := 20) dX3_isSmall_4 dX3_isSmall_5 (by decide) (by omega) (by omega) (fun h4 => ?_) (fun h4 => ?_)
  · refine g_iconst dX3_isSmall_20 ?_
    first
    | exact G.retB dX3_isSmall_21 rfl (eq_bI (Or.inl ⟨rfl, by omega⟩)) ⟨rfl, rfl⟩
    | exact G.retB dX3_isSmall_21 rfl (eq_bI (Or.inr ⟨rfl, by omega⟩)) ⟨rfl, rfl⟩
  · refine g_lload_n (j := 0) rfl dX3_isSmall_8 ?_
    refine g_ldc2 dX3_isSmall_9 klX3_122 (z := 2000000000) rfl ?_
    refine g_lif_gt (tgt := 20) dX3_isSmall_12 dX3_isSmall_13 (by decide) (by omega) (by omega) (fun h12 => ?_) (fun h12 => ?_)
    · refine g_iconst dX3_isSmall_20 ?_
      first
      | exact G.retB dX3_isSmall_21 rfl (eq_bI (Or.inl ⟨rfl, by omega⟩)) ⟨rfl, rfl⟩
      | exact G.retB dX3_isSmall_21 rfl (eq_bI (Or.inr ⟨rfl, by omega⟩)) ⟨rfl, rfl⟩
    · refine g_iconst dX3_isSmall_16 ?_
      refine g_goto (tgt := 21) (by decide) dX3_isSmall_17 ?_
      first
      | exact G.retB dX3_isSmall_21 rfl (eq_bI (Or.inl ⟨rfl, by omega⟩)) ⟨rfl, rfl⟩
      | exact G.retB dX3_isSmall_21 rfl (eq_bI (Or.inr ⟨rfl, by omega⟩)) ⟨rfl, rfl⟩
theorem c_X3_productFits (w : WC) (d : Nat) (μ : Mem) {a b : Int} (ha : i64 a) (hb : i64 b) : Con w (d + 1) mX3_productFits 0 0 [vJ a, vJ b] μ (fun v μ2 => v = some (vI (bI (i64 (a * b)))) ∧ μ2 = μ) := by
  refine Con.of (by decide) (Nat.le_of_ble_eq_true rfl) rfl ?_
  refine g_lload_n (j := 0) rfl dX3_productFits_0 ?_
  refine g_callS dX3_productFits_1 mlX3_124 msX3_isSmall (c_X3_isSmall w d μ ha) sk1 rfl (by omega) (Nat.le_of_ble_eq_true rfl) (Nat.le_refl _) (Nat.le_refl _) (fun v μ2 hR => ?_)
  obtain ⟨rfl, hm⟩ := hR
  replace hm := hm.symm
  subst hm
  refine g_ifb_eq (tgt := 14) dX3_productFits_4 (by decide)  (fun h4 => ?_) (fun h4 => ?_)
  · refine g_lload_n (j := 2) rfl dX3_productFits_14 ?_
    refine g_lconst0 dX3_productFits_15 ?_
    refine g_lif_ne (tgt := 22) dX3_productFits_16 dX3_productFits_17 (by decide) (by omega) (by omega) (fun h16 => ?_) (fun h16 => ?_)
    · refine g_lload_n (j := 2) rfl dX3_productFits_22 ?_
      refine g_ldc2 dX3_productFits_23 klX3_128 (z := -1) rfl ?_
      refine g_lif_ne (tgt := 44) dX3_productFits_26 dX3_productFits_27 (by decide) (by omega) (by omega) (fun h26 => ?_) (fun h26 => ?_)
      · have hw := wr_i64 (a * b)
        have hq := tdiv_i64 hw h16 h26
        refine g_lload_n (j := 0) rfl dX3_productFits_44 ?_
        refine g_lload_n (j := 2) rfl dX3_productFits_45 ?_
        refine g_lmulW dX3_productFits_46 ?_
        refine g_lload_n (j := 2) rfl dX3_productFits_47 ?_
        refine g_ldiv (by omega) (by omega) (by omega) dX3_productFits_48 ?_
        refine g_lload_n (j := 0) rfl dX3_productFits_49 ?_
        refine g_lif_ne (tgt := 58) dX3_productFits_50 dX3_productFits_51 (by decide) (by omega) (by omega) (fun h50 => ?_) (fun h50 => ?_)
        · refine g_iconst dX3_productFits_58 ?_
          exact G.retB dX3_productFits_59 rfl (eq_bI (Or.inr ⟨rfl, fun z => h50 ((tdiv_fit ha hb h16).mpr z)⟩)) ⟨rfl, rfl⟩
        · refine g_iconst dX3_productFits_54 ?_
          refine g_goto (tgt := 59) (by decide) dX3_productFits_55 ?_
          exact G.retB dX3_productFits_59 rfl (eq_bI (Or.inl ⟨rfl, (tdiv_fit ha hb h16).mp h50⟩)) ⟨rfl, rfl⟩
      · refine g_lload_n (j := 0) rfl dX3_productFits_30 ?_
        refine g_ldc2 dX3_productFits_31 klX3_130 (z := -9223372036854775808) rfl ?_
        refine g_lif_eq (tgt := 42) dX3_productFits_34 dX3_productFits_35 (by decide) (by omega) (by omega) (fun h34 => ?_) (fun h34 => ?_)
        · refine g_iconst dX3_productFits_42 ?_
          exact G.retB dX3_productFits_43 rfl (eq_bI (Or.inr ⟨rfl, fun z => by rw [h34, h26] at z; exact absurd z (by decide)⟩)) ⟨rfl, rfl⟩
        · refine g_iconst dX3_productFits_38 ?_
          refine g_goto (tgt := 43) (by decide) dX3_productFits_39 ?_
          exact G.retB dX3_productFits_43 rfl (eq_bI (Or.inl ⟨rfl, by rw [h26]; constructor <;> omega⟩)) ⟨rfl, rfl⟩
    · refine g_iconst dX3_productFits_20 ?_
      exact G.retB dX3_productFits_21 rfl (eq_bI (Or.inl ⟨rfl, by rw [h16, Int.mul_zero]; decide⟩)) ⟨rfl, rfl⟩
  · refine g_lload_n (j := 2) rfl dX3_productFits_7 ?_
    refine g_callS dX3_productFits_8 mlX3_124 msX3_isSmall (c_X3_isSmall w d μ hb) sk1 rfl (by omega) (Nat.le_of_ble_eq_true rfl) (Nat.le_refl _) (Nat.le_refl _) (fun v μ2 hR => ?_)
    obtain ⟨rfl, hm⟩ := hR
    replace hm := hm.symm
    subst hm
    refine g_ifb_ne (tgt := 20) dX3_productFits_11 (by decide)  (fun h11 => ?_) (fun h11 => ?_)
    · refine g_iconst dX3_productFits_20 ?_
      exact G.retB dX3_productFits_21 rfl (eq_bI (Or.inl ⟨rfl, small_fit h4 h11⟩)) ⟨rfl, rfl⟩
    · refine g_lload_n (j := 2) rfl dX3_productFits_14 ?_
      refine g_lconst0 dX3_productFits_15 ?_
      refine g_lif_ne (tgt := 22) dX3_productFits_16 dX3_productFits_17 (by decide) (by omega) (by omega) (fun h16 => ?_) (fun h16 => ?_)
      · refine g_lload_n (j := 2) rfl dX3_productFits_22 ?_
        refine g_ldc2 dX3_productFits_23 klX3_128 (z := -1) rfl ?_
        refine g_lif_ne (tgt := 44) dX3_productFits_26 dX3_productFits_27 (by decide) (by omega) (by omega) (fun h26 => ?_) (fun h26 => ?_)
        · have hw := wr_i64 (a * b)
          have hq := tdiv_i64 hw h16 h26
          refine g_lload_n (j := 0) rfl dX3_productFits_44 ?_
          refine g_lload_n (j := 2) rfl dX3_productFits_45 ?_
          refine g_lmulW dX3_productFits_46 ?_
          refine g_lload_n (j := 2) rfl dX3_productFits_47 ?_
          refine g_ldiv (by omega) (by omega) (by omega) dX3_productFits_48 ?_
          refine g_lload_n (j := 0) rfl dX3_productFits_49 ?_
          refine g_lif_ne (tgt := 58) dX3_productFits_50 dX3_productFits_51 (by decide) (by omega) (by omega) (fun h50 => ?_) (fun h50 => ?_)
          · refine g_iconst dX3_productFits_58 ?_
            exact G.retB dX3_productFits_59 rfl (eq_bI (Or.inr ⟨rfl, fun z => h50 ((tdiv_fit ha hb h16).mpr z)⟩)) ⟨rfl, rfl⟩
          · refine g_iconst dX3_productFits_54 ?_
            refine g_goto (tgt := 59) (by decide) dX3_productFits_55 ?_
            exact G.retB dX3_productFits_59 rfl (eq_bI (Or.inl ⟨rfl, (tdiv_fit ha hb h16).mp h50⟩)) ⟨rfl, rfl⟩
        · refine g_lload_n (j := 0) rfl dX3_productFits_30 ?_
          refine g_ldc2 dX3_productFits_31 klX3_130 (z := -9223372036854775808) rfl ?_
          refine g_lif_eq (tgt := 42) dX3_productFits_34 dX3_productFits_35 (by decide) (by omega) (by omega) (fun h34 => ?_) (fun h34 => ?_)
          · refine g_iconst dX3_productFits_42 ?_
            exact G.retB dX3_productFits_43 rfl (eq_bI (Or.inr ⟨rfl, fun z => by rw [h34, h26] at z; exact absurd z (by decide)⟩)) ⟨rfl, rfl⟩
          · refine g_iconst dX3_productFits_38 ?_
            refine g_goto (tgt := 43) (by decide) dX3_productFits_39 ?_
            exact G.retB dX3_productFits_43 rfl (eq_bI (Or.inl ⟨rfl, by rw [h26]; constructor <;> omega⟩)) ⟨rfl, rfl⟩
      · refine g_iconst dX3_productFits_20 ?_
        exact G.retB dX3_productFits_21 rfl (eq_bI (Or.inl ⟨rfl, by rw [h16, Int.mul_zero]; decide⟩)) ⟨rfl, rfl⟩
/-- the result alone changes -/
def RsF (y : Nat) (μ μ2 : Mem) : Prop := Fr (fun a => a = y) (fun _ _ => False) μ μ2 ∧ (∀ a j, mI μ2 a j = mI μ a j) ∧ ∀ a j, ¬ a = y → mL μ2 a j = mL μ a j
theorem RsF.rf {y : Nat} {μ : Mem} : RsF y μ μ := ⟨Fr.rf, fun _ _ => rfl, fun _ _ _ => rfl⟩
theorem RsF.tr {y : Nat} {μ μ2 μ3 : Mem} (h : RsF y μ μ2) (h2 : RsF y μ2 μ3) : RsF y μ μ3 := ⟨h.1.tr h2.1, fun a j => (h2.2.1 a j).trans (h.2.1 a j), fun a j z => (h2.2.2 a j z).trans (h.2.2 a j z)⟩
theorem RsF.s {y : Nat} {μ : Mem} {j v : Int} : RsF y μ (sL μ y j v) := ⟨Fr.sL rfl, fun _ _ => rfl, fun a i z => by rw [mL_sL, if_neg (fun q => z q.1)]⟩
theorem RsF.o {w : WC} {y : Nat} {μ μ2 : Mem} (h : RsF y μ μ2) (hI : IdO w μ y) : IdO w μ2 y := hI.fr h.1 (fun _ z => z)
theorem l_raise {w : WC} {d y : Nat} {a n : Int} (ha : i64 a) (hn : 0 ≤ n ∧ n ≤ 6) : ∀ (k : Nat) (i v : Int) (μ : Mem), 0 ≤ i → i + (k : Int) = n → mL μ y 18 = v → i64 v → IsO w μ y 3 → G w (d + 2) mX3_raise (fun r μ2 => r = some (vI (bI (¬ pwS a k v = none))) ∧ (∀ z, pwS a k v = some z → mL μ2 y 18 = z) ∧ RsF y μ μ2) 0 0 8 [some (vP (some y)), some (vJ a), none, some (vI n), some (vI i)] [] μ := by
  intro k
  induction k with
  | zero =>
    intro i v μ hi0 hk e18 hv o0
    refine g_iload (i := 4) rfl dX3_raise_8 ?_
    refine g_iload_n (j := 3) rfl dX3_raise_10 ?_
    refine g_icmp_ge (tgt := 43) dX3_raise_11 (by decide) (by omega) (by omega) (fun h11 => ?_) (fun h11 => ?_)
    · refine g_iconst dX3_raise_43 ?_
      exact G.retB dX3_raise_44 rfl (eq_bI (Or.inl ⟨rfl, fun z => by cases z⟩)) ⟨rfl, (fun z hz => by cases hz; exact e18), RsF.rf⟩
    · omega
  | succ k ih =>
    intro i v μ hi0 hk e18 hv o0
    refine g_iload (i := 4) rfl dX3_raise_8 ?_
    refine g_iload_n (j := 3) rfl dX3_raise_10 ?_
    refine g_icmp_ge (tgt := 43) dX3_raise_11 (by decide) (by omega) (by omega) (fun h11 => ?_) (fun h11 => ?_)
    · omega
    · refine g_aload_n (j := 0) rfl dX3_raise_14 ?_
      refine g_getJ dX3_raise_15 flX3_87 rfl (by assumption) (kz := 18) rfl ?_
      rw [e18]
      refine g_lload_n (j := 1) rfl dX3_raise_18 ?_
      refine g_callS dX3_raise_19 mlX3_116 msX3_productFits (c_X3_productFits w d μ (a := v) (b := a) hv ha) sk2 rfl (by omega) (Nat.le_of_ble_eq_true rfl) (Nat.le_refl _) (Nat.le_refl _) (fun v μ2 hR => ?_)
      obtain ⟨rfl, hm⟩ := hR
      replace hm := hm.symm
      subst hm
      refine g_ifb_ne (tgt := 27) dX3_raise_22 (by decide)  (fun h22 => ?_) (fun h22 => ?_)
      · refine g_aload_n (j := 0) rfl dX3_raise_27 ?_
        refine g_dup rfl dX3_raise_28 ?_
        refine g_getJ dX3_raise_29 flX3_87 rfl (by assumption) (kz := 18) rfl ?_
        rw [e18]
        refine g_lload_n (j := 1) rfl dX3_raise_32 ?_
        refine g_lmulW dX3_raise_33 ?_
        refine g_putJ dX3_raise_34 fpX3_87 rfl rfl rfl (by assumption) (kz := 18) rfl ?_
        have hs : pwS a (k + 1) v = pwS a k (v * a) := by rw [pwS, if_pos h22]
        rw [wr_id h22]
        have e18b : mL (sL μ y 18 (v * a)) y 18 = v * a := by rw [mL_sL, if_pos ⟨rfl, rfl⟩]
        have hrs : RsF y μ (sL μ y 18 (v * a)) := RsF.s
        have o0b : IsO w (sL μ y 18 (v * a)) y 3 := hrs.1.O o0
        generalize sL μ y 18 (v * a) = μ2 at *
        refine g_iinc (i := 4) dX3_raise_37 rfl (by decide) rfl ls4 ?_
        refine g_goto (tgt := 8) (by decide) dX3_raise_40 ?_
        refine G.post (fun r μ3 hq => ?_) (ih (i + 1) (v * a) μ2 (by omega) (by omega) e18b h22 o0b)
        rw [hs]
        exact ⟨hq.1, hq.2.1, hrs.tr hq.2.2⟩
      · refine g_iconst dX3_raise_25 ?_
        have hs : pwS a (k + 1) v = none := by rw [pwS, if_neg h22]
        exact G.retB dX3_raise_26 rfl (eq_bI (Or.inr ⟨rfl, fun z => z hs⟩)) ⟨rfl, (fun z hz => by rw [hs] at hz; cases hz), RsF.rf⟩
theorem c_raise (w : WC) (d : Nat) (μ : Mem) {y : Nat} {a n : Int} (o0 : IsO w μ y 3) (ha : i64 a) (hn : 0 ≤ n ∧ n ≤ 6) : Con w (d + 2) mX3_raise 0 0 [vP (some y), vJ a, vI n] μ (fun r μ2 => r = some (vI (bI (¬ pwO (some a) n = none))) ∧ (∀ z, pwO (some a) n = some z → mL μ2 y 18 = z) ∧ RsF y μ μ2) := by
  refine Con.of (by decide) (Nat.le_of_ble_eq_true rfl) rfl ?_
  refine g_aload_n (j := 0) rfl dX3_raise_0 ?_
  refine g_lconst1 dX3_raise_1 ?_
  refine g_putJ dX3_raise_2 fpX3_87 rfl rfl rfl (by assumption) (kz := 18) rfl ?_
  refine g_iconst dX3_raise_5 ?_
  refine g_istore (i := 4) dX3_raise_6 (by decide) rfl ls4 ?_
  refine G.post (fun r μ3 hq => ⟨hq.1, hq.2.1, RsF.s.tr hq.2.2⟩) (l_raise (d := d) ha hn n.toNat 0 1 (sL μ y 18 1) (by omega) (by omega) (by rw [mL_sL, if_pos ⟨rfl, rfl⟩]) (by decide) (RsF.s.1.O o0))
theorem c_combine (w : WC) (d : Nat) (μ : Mem) {y : Nat} {z a b : Int} (o0 : IsO w μ y 3) (hz : 2 ≤ z ∧ z ≤ 4) (ha : i64 a) (hb : i64 b) : Con w (d + 2) mX3_combine 0 0 [vP (some y), vI z, vJ a, vJ b] μ (fun r μ2 => r = some (vI (bI (i64 (cbI z a b)))) ∧ mL μ2 y 18 = wr (cbI z a b) ∧ RsF y μ μ2) := by
  refine Con.of (by decide) (Nat.le_of_ble_eq_true rfl) rfl ?_
  refine g_iload_n (j := 1) rfl dX3_combine_0 ?_
  refine g_iconst dX3_combine_1 ?_
  refine g_icmp_ne (tgt := 20) dX3_combine_2 (by decide) (by omega) (by omega) (fun h2 => ?_) (fun h2 => ?_)
  · refine g_iload_n (j := 1) rfl dX3_combine_20 ?_
    refine g_iconst dX3_combine_21 ?_
    refine g_icmp_ne (tgt := 58) dX3_combine_22 (by decide) (by omega) (by omega) (fun h22 => ?_) (fun h22 => ?_)
    · refine g_aload_n (j := 0) rfl dX3_combine_58 ?_
      refine g_lload_n (j := 2) rfl dX3_combine_59 ?_
      refine g_lload (i := 4) rfl dX3_combine_60 ?_
      refine g_lsubW dX3_combine_62 ?_
      refine g_putJ dX3_combine_63 fpX3_87 rfl rfl rfl (by assumption) (kz := 18) rfl ?_
      refine g_lload_n (j := 2) rfl dX3_combine_66 ?_
      refine g_lload (i := 4) rfl dX3_combine_67 ?_
      refine g_lxor dX3_combine_69 ?_
      refine g_lload_n (j := 2) rfl dX3_combine_70 ?_
      refine g_aload_n (j := 0) rfl dX3_combine_71 ?_
      refine g_getJv dX3_combine_72 flX3_87 rfl (by simp only [IsO_sI, IsO_sL, IsO_sR, IsO_wI, IsO_wL, IsA_sI, IsA_sL, IsA_sR, IsA_wI, IsA_wL, mR_sI, mR_sL, mR_wI, mR_wL]; assumption) (kz := 18) rfl (by simp [mI_sI, mI_sL, mI_sR, mI_wI, mI_wL, mL_sI, mL_sL, mL_sR, mL_wI, mL_wL]; rfl) ?_
      refine g_lxor dX3_combine_75 ?_
      have hs1 := i64_of (lg (lg a ^^^ lg b).toInt &&& lg (lg a ^^^ lg (wr (a - b))).toInt)
      refine g_land dX3_combine_76 ?_
      refine g_lconst0 dX3_combine_77 ?_
      refine g_lif_lt (tgt := 86) dX3_combine_78 dX3_combine_79 (by decide) (by omega) (by omega) (fun h78 => ?_) (fun h78 => ?_)
      · refine g_iconst dX3_combine_86 ?_
        have e : cbI z a b = a - b := by
          unfold cbI
          rw [if_neg (by omega), if_neg (by omega)]
        rw [e]
        exact G.retB dX3_combine_87 rfl (eq_bI (Or.inr ⟨rfl, (minus_fit ha hb).mp h78⟩)) ⟨rfl, by rw [mL_sL, if_pos ⟨rfl, rfl⟩], RsF.s⟩
      · refine g_iconst dX3_combine_82 ?_
        refine g_goto (tgt := 87) (by decide) dX3_combine_83 ?_
        have e : cbI z a b = a - b := by
          unfold cbI
          rw [if_neg (by omega), if_neg (by omega)]
        rw [e]
        exact G.retB dX3_combine_87 rfl (eq_bI (Or.inl ⟨rfl, Classical.byContradiction fun q => by have := (minus_fit ha hb).mpr q; omega⟩)) ⟨rfl, by rw [mL_sL, if_pos ⟨rfl, rfl⟩], RsF.s⟩
    · refine g_aload_n (j := 0) rfl dX3_combine_25 ?_
      refine g_lload_n (j := 2) rfl dX3_combine_26 ?_
      refine g_lload (i := 4) rfl dX3_combine_27 ?_
      refine g_laddW dX3_combine_29 ?_
      refine g_putJ dX3_combine_30 fpX3_87 rfl rfl rfl (by assumption) (kz := 18) rfl ?_
      refine g_lload_n (j := 2) rfl dX3_combine_33 ?_
      refine g_aload_n (j := 0) rfl dX3_combine_34 ?_
      refine g_getJv dX3_combine_35 flX3_87 rfl (by simp only [IsO_sI, IsO_sL, IsO_sR, IsO_wI, IsO_wL, IsA_sI, IsA_sL, IsA_sR, IsA_wI, IsA_wL, mR_sI, mR_sL, mR_wI, mR_wL]; assumption) (kz := 18) rfl (by simp [mI_sI, mI_sL, mI_sR, mI_wI, mI_wL, mL_sI, mL_sL, mL_sR, mL_wI, mL_wL]; rfl) ?_
      refine g_lxor dX3_combine_38 ?_
      refine g_lload (i := 4) rfl dX3_combine_39 ?_
      refine g_aload_n (j := 0) rfl dX3_combine_41 ?_
      refine g_getJv dX3_combine_42 flX3_87 rfl (by simp only [IsO_sI, IsO_sL, IsO_sR, IsO_wI, IsO_wL, IsA_sI, IsA_sL, IsA_sR, IsA_wI, IsA_wL, mR_sI, mR_sL, mR_wI, mR_wL]; assumption) (kz := 18) rfl (by simp [mI_sI, mI_sL, mI_sR, mI_wI, mI_wL, mL_sI, mL_sL, mL_sR, mL_wI, mL_wL]; rfl) ?_
      refine g_lxor dX3_combine_45 ?_
      have hs1 := i64_of (lg (lg a ^^^ lg (wr (a + b))).toInt &&& lg (lg b ^^^ lg (wr (a + b))).toInt)
      refine g_land dX3_combine_46 ?_
      refine g_lconst0 dX3_combine_47 ?_
      refine g_lif_lt (tgt := 56) dX3_combine_48 dX3_combine_49 (by decide) (by omega) (by omega) (fun h48 => ?_) (fun h48 => ?_)
      · refine g_iconst dX3_combine_56 ?_
        have e : cbI z a b = a + b := by
          unfold cbI
          rw [if_neg (by omega), if_pos (by omega)]
        rw [e]
        exact G.retB dX3_combine_57 rfl (eq_bI (Or.inr ⟨rfl, (plus_fit ha hb).mp h48⟩)) ⟨rfl, by rw [mL_sL, if_pos ⟨rfl, rfl⟩], RsF.s⟩
      · refine g_iconst dX3_combine_52 ?_
        refine g_goto (tgt := 57) (by decide) dX3_combine_53 ?_
        have e : cbI z a b = a + b := by
          unfold cbI
          rw [if_neg (by omega), if_pos (by omega)]
        rw [e]
        exact G.retB dX3_combine_57 rfl (eq_bI (Or.inl ⟨rfl, Classical.byContradiction fun q => by have := (plus_fit ha hb).mpr q; omega⟩)) ⟨rfl, by rw [mL_sL, if_pos ⟨rfl, rfl⟩], RsF.s⟩
  · refine g_aload_n (j := 0) rfl dX3_combine_5 ?_
    refine g_lload_n (j := 2) rfl dX3_combine_6 ?_
    refine g_lload (i := 4) rfl dX3_combine_7 ?_
    refine g_lmulW dX3_combine_9 ?_
    refine g_putJ dX3_combine_10 fpX3_87 rfl rfl rfl (by assumption) (kz := 18) rfl ?_
    refine g_lload_n (j := 2) rfl dX3_combine_13 ?_
    refine g_lload (i := 4) rfl dX3_combine_14 ?_
    refine g_callS dX3_combine_16 mlX3_116 msX3_productFits (c_X3_productFits w d _ ha hb) sk2 rfl (by omega) (Nat.le_of_ble_eq_true rfl) (Nat.le_refl _) (Nat.le_refl _) (fun v μ2 hR => ?_)
    obtain ⟨rfl, hm⟩ := hR
    replace hm := hm.symm
    subst hm
    have e : cbI z a b = a * b := if_pos (by omega)
    rw [e]
    exact G.retB dX3_combine_19 rfl rfl ⟨rfl, by rw [mL_sL, if_pos ⟨rfl, rfl⟩], RsF.s⟩
/-- what the class keeps of a step's number -/
def NvO (μ : Mem) (y : Nat) (j : Int) (v : Option Int) : Prop := mI μ (y + 7) j = bI (v = none) ∧ ∀ z, v = some z → mL μ (y + 6) j = z
def TsF (y : Nat) (μ μ2 : Mem) : Prop := Fr (fun a => a = y ∨ a = y + 6 ∨ a = y + 7) (fun _ _ => False) μ μ2 ∧ ∀ a j, ¬ a = y + 7 → mI μ2 a j = mI μ a j
theorem TsF.rf {y : Nat} {μ : Mem} : TsF y μ μ := ⟨Fr.rf, fun _ _ _ => rfl⟩
theorem TsF.tr {y : Nat} {μ μ2 μ3 : Mem} (h : TsF y μ μ2) (h2 : TsF y μ2 μ3) : TsF y μ μ3 := ⟨h.1.tr h2.1, fun a j z => (h2.2 a j z).trans (h.2 a j z)⟩
theorem RsF.t {y : Nat} {μ μ2 : Mem} (h : RsF y μ μ2) : TsF y μ μ2 := ⟨h.1.mono (fun _ _ z => Or.inl z) (fun _ _ _ z => z), fun a j _ => h.2.1 a j⟩
theorem TsF.o {w : WC} {y : Nat} {μ μ2 : Mem} (h : TsF y μ μ2) (hI : IdO w μ y) : IdO w μ2 y := hI.fr h.1 (fun _ z => z)
def TsA (y : Nat) (i : Int) (μ μ2 : Mem) : Prop := TsF y μ μ2 ∧ ∀ j, ¬ j = i → mI μ2 (y + 7) j = mI μ (y + 7) j ∧ mL μ2 (y + 6) j = mL μ (y + 6) j
theorem l_ts167_0 {w : WC} {d y : Nat} {μ : Mem} {i : Int} {l2 : Option AV} (hI : IdO w μ y) (hi : 0 ≤ i ∧ i < 200) {vo : Option Int} (hv : vo = none) : G w d mX3_takeStep (fun v μ2 => v = none ∧ NvO μ2 y i vo ∧ TsA y i μ μ2) 0 0 167 [some (vP (some y)), some (vI i), l2, some (vI 0)] [] μ := by
  have o0 := hI.1
  have r5 := hI.r5
  have a5 := hI.a5
  have r6 := hI.r6
  have a6 := hI.a6
  refine g_aload_n (j := 0) rfl dX3_takeStep_167 ?_
  refine g_getR dX3_takeStep_168 flX3_27 rfl (by assumption) (kz := 5) rfl (by assumption) ?_
  refine g_iload_n (j := 1) rfl dX3_takeStep_171 ?_
  refine g_aload_n (j := 0) rfl dX3_takeStep_172 ?_
  refine g_getJ dX3_takeStep_173 flX3_87 rfl (by assumption) (kz := 18) rfl ?_
  refine g_last dX3_takeStep_176 (by assumption) (by omega) (by omega) ?_
  refine g_aload_n (j := 0) rfl dX3_takeStep_177 ?_
  refine g_getR dX3_takeStep_178 flX3_31 rfl (by simp only [IsO_sI, IsO_sL, IsO_sR, IsO_wI, IsO_wL, IsA_sI, IsA_sL, IsA_sR, IsA_wI, IsA_wL, mR_sI, mR_sL, mR_wI, mR_wL]; assumption) (kz := 6) rfl (by simp only [IsO_sI, IsO_sL, IsO_sR, IsO_wI, IsO_wL, IsA_sI, IsA_sL, IsA_sR, IsA_wI, IsA_wL, mR_sI, mR_sL, mR_wI, mR_wL]; assumption) ?_
  refine g_iload_n (j := 1) rfl dX3_takeStep_181 ?_
  refine g_iload_n (j := 3) rfl dX3_takeStep_182 ?_
  refine g_if_ne (tgt := 190) dX3_takeStep_183 (by decide) (by omega) (fun h183 => ?_) (fun h183 => ?_)
  · omega
  · refine g_iconst dX3_takeStep_186 ?_
    refine g_goto (tgt := 191) (by decide) dX3_takeStep_187 ?_
    refine g_zast dX3_takeStep_191 (by simp only [IsO_sI, IsO_sL, IsO_sR, IsO_wI, IsO_wL, IsA_sI, IsA_sL, IsA_sR, IsA_wI, IsA_wL, mR_sI, mR_sL, mR_wI, mR_wL]; assumption) (by omega) (by omega) (by omega) ?_
    refine G.retV dX3_takeStep_192 rfl ⟨rfl, ⟨?_, fun z hz => by rw [hv] at hz; cases hz⟩, ?_⟩
    · rw [mI_sI, if_pos ⟨rfl, rfl⟩, hv]
      exact (bI_1 rfl).symm
    · refine ⟨⟨(Fr.sL (Or.inr (Or.inl rfl))).tr (Fr.sI (Or.inr (Or.inr rfl))), fun a j z => by rw [mI_sI, if_neg (fun q => z q.1), mI_sL]⟩, fun j z => ⟨by rw [mI_sI, if_neg (fun q => z q.2), mI_sL], by rw [mL_sI, mL_sL, if_neg (fun q => z q.2)]⟩⟩
theorem l_ts167_1 {w : WC} {d y : Nat} {μ : Mem} {i : Int} {l2 : Option AV} (hI : IdO w μ y) (hi : 0 ≤ i ∧ i < 200) {vo : Option Int} {z : Int} (hv : vo = some z) (hz : mL μ y 18 = z) : G w d mX3_takeStep (fun v μ2 => v = none ∧ NvO μ2 y i vo ∧ TsA y i μ μ2) 0 0 167 [some (vP (some y)), some (vI i), l2, some (vI 1)] [] μ := by
  have o0 := hI.1
  have r5 := hI.r5
  have a5 := hI.a5
  have r6 := hI.r6
  have a6 := hI.a6
  refine g_aload_n (j := 0) rfl dX3_takeStep_167 ?_
  refine g_getR dX3_takeStep_168 flX3_27 rfl (by assumption) (kz := 5) rfl (by assumption) ?_
  refine g_iload_n (j := 1) rfl dX3_takeStep_171 ?_
  refine g_aload_n (j := 0) rfl dX3_takeStep_172 ?_
  refine g_getJ dX3_takeStep_173 flX3_87 rfl (by assumption) (kz := 18) rfl ?_
  refine g_last dX3_takeStep_176 (by assumption) (by omega) (by omega) ?_
  refine g_aload_n (j := 0) rfl dX3_takeStep_177 ?_
  refine g_getR dX3_takeStep_178 flX3_31 rfl (by simp only [IsO_sI, IsO_sL, IsO_sR, IsO_wI, IsO_wL, IsA_sI, IsA_sL, IsA_sR, IsA_wI, IsA_wL, mR_sI, mR_sL, mR_wI, mR_wL]; assumption) (kz := 6) rfl (by simp only [IsO_sI, IsO_sL, IsO_sR, IsO_wI, IsO_wL, IsA_sI, IsA_sL, IsA_sR, IsA_wI, IsA_wL, mR_sI, mR_sL, mR_wI, mR_wL]; assumption) ?_
  refine g_iload_n (j := 1) rfl dX3_takeStep_181 ?_
  refine g_iload_n (j := 3) rfl dX3_takeStep_182 ?_
  refine g_if_ne (tgt := 190) dX3_takeStep_183 (by decide) (by omega) (fun h183 => ?_) (fun h183 => ?_)
  · refine g_iconst dX3_takeStep_190 ?_
    refine g_zast dX3_takeStep_191 (by simp only [IsO_sI, IsO_sL, IsO_sR, IsO_wI, IsO_wL, IsA_sI, IsA_sL, IsA_sR, IsA_wI, IsA_wL, mR_sI, mR_sL, mR_wI, mR_wL]; assumption) (by omega) (by omega) (by omega) ?_
    refine G.retV dX3_takeStep_192 rfl ⟨rfl, ⟨?_, fun z2 hz2 => ?_⟩, ?_⟩
    · rw [mI_sI, if_pos ⟨rfl, rfl⟩, hv]
      exact (bI_0 (fun q => by cases q)).symm
    · rw [hv] at hz2
      cases hz2
      rw [mL_sI, mL_sL, if_pos ⟨rfl, rfl⟩]
      exact hz
    · refine ⟨⟨(Fr.sL (Or.inr (Or.inl rfl))).tr (Fr.sI (Or.inr (Or.inr rfl))), fun a j z => by rw [mI_sI, if_neg (fun q => z q.1), mI_sL]⟩, fun j z => ⟨by rw [mI_sI, if_neg (fun q => z q.2), mI_sL], by rw [mL_sI, mL_sL, if_neg (fun q => z q.2)]⟩⟩
  · omega
