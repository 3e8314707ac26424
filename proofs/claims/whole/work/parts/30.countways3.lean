/-! SERIES: countWays, the contract -/
/-- what countWays needs of rows: how many places, for ts -/
def cwE (ts : List Tm) : Int := ((ts.length : Int) + 1) * (3000 - lfT ts + 1)
def cwB (N : Nat) (ts : List Tm) : Nat := if 0 ≤ 3000 - lfT ts ∧ N < cwE ts then mkN N (cwE ts) else 0
theorem cwE_bd {ts : List Tm} (hok : ∀ u ∈ ts, TOk u) (h5 : ts.length ≤ 5) (hT : 0 ≤ 3000 - lfT ts) : 0 ≤ cwE ts ∧ cwE ts ≤ 108006 := by
  have hb := lfT_bd ts hok
  have h1 : 0 ≤ ((ts.length : Int) + 1) * (3000 - lfT ts + 1) := Int.mul_nonneg (by omega) (by omega)
  have h2 : ((ts.length : Int) + 1) * (3000 - lfT ts + 1) ≤ 6 * 18001 := Int.mul_le_mul (by omega) (by omega) (by omega) (by omega)
  unfold cwE
  omega
/-- behind countWays -/
def CwR (w : WC) (μ : Mem) (s c N q : Nat) (ts : List Tm) (slot : Int) (μ2 : Mem) : Prop := ∃ (c2 N2 : Nat), SeW w μ2 s c2 N2 ts ∧ mI μ2 s 2 = slot ∧ Row2 μ μ2 c N (cwE ts) c2 N2 ∧ N2 ≤ 200000 ∧ Ch (fun x => x = s ∨ x = s + 1 ∨ x = c) μ μ2
theorem SeS.sI {w : WC} {μ : Mem} {s c N a : Nat} {k v : Int} (h : SeS w μ s c N) : SeS w (sI μ a k v) s c N := h
theorem SeS.wI {w : WC} {μ : Mem} {s c N a : Nat} {g : Int → Int} (h : SeS w μ s c N) : SeS w (wI μ a g) s c N := h
theorem c_countWays (w : WC) (d : Nat) (μ : Mem) {s c N q : Nat} {ts : List Tm} {slot : Int} (hS : SeS w μ s c N) (hF : FoS w μ q) (hI : FI μ q ts) (hsq : s + 2 ≤ q ∨ q + 7 ≤ s) (hcq : ∀ x, q ≤ x → x < q + 7 → ¬ x = c) (hcs : ¬ c = s ∧ ¬ c = s + 1) (hN : N ≤ 200000) (hsl : i32 slot) (hne : ¬ mI μ s 2 = slot) (hi2 : i32 (mI μ s 2)) : Con w (d + 3) mX7_countWays 1 (cwB N ts) [vP (some s), vI slot, vP (some q)] μ (fun v μ2 => v = none ∧ CwR w μ s c N q ts slot μ2) := by
  have hS0 := hS
  have hok := hI.2.2.1
  have h5 := hI.2.1
  have hlf := lfT_bd ts hok
  have hE := cwE_bd hok h5
  have hEe : cwE ts = ((ts.length : Int) + 1) * (3000 - lfT ts + 1) := rfl
  unfold CwR cwB
  generalize hTT : 3000 - lfT ts = T at *
  obtain ⟨o0, r0, r1, a1, a2⟩ := hS
  refine Con.of (by decide) (Nat.le_of_ble_eq_true rfl) rfl ?_
  refine g_aload_n (j := 0) rfl dX7_countWays_0 ?_
  refine g_getI dX7_countWays_1 flX7_19 rfl (by assumption) (kz := 2) rfl ?_
  refine g_iload_n (j := 1) rfl dX7_countWays_4 ?_
  refine g_icmp_ne (tgt := 9) dX7_countWays_5 (by decide) (by omega) (by omega) (fun h5 => ?_) (fun h5 => ?_)
  · refine g_aload_n (j := 0) rfl dX7_countWays_9 ?_
    refine g_iload_n (j := 1) rfl dX7_countWays_10 ?_
    refine g_putI dX7_countWays_11 fpX7_19 rfl rfl rfl (by assumption) (kz := 2) rfl ?_
    refine g_aload_n (j := 0) rfl dX7_countWays_14 ?_
    refine g_aload_n (j := 2) rfl dX7_countWays_15 ?_
    refine g_callV dX7_countWays_16 mlX7_26 mvX7_measure (ci := 7) ⟨by decide, rfl⟩ (by simp only [IsO_sI, IsO_sL, IsO_sR, IsO_wI, IsO_wL, IsA_sI, IsA_sL, IsA_sR, IsA_wI, IsA_wL, mR_sI, mR_sL, mR_wI, mR_wL]; assumption) (c_measure w d (sI μ s 2 slot) (by rw [IsO_sI]; exact o0) (by rw [mR_sI]; exact r0) (by rw [IsA_sI]; exact a1) hF.sI (ts := ts) ((ChI.s (P := fun x => x = s) rfl).FI (fun x _ _ => by omega) hI) hsq) sv1 rfl (by omega) (Nat.le_of_ble_eq_true rfl) (Nat.le_refl _) (Nat.le_refl _) (fun v μ2 hR => ?_)
    obtain ⟨rfl, hm⟩ := hR
    have hch : ChI (fun x => x = s ∨ x = s + 1 ∨ x = c) μ μ2 := by
      refine ⟨by rw [hm]; rfl, by rw [hm]; rfl, by rw [hm]; rfl, by rw [hm]; rfl, fun x hx j => ?_⟩
      rw [hm, mI_sI, if_neg (fun (z : x = s ∧ j = 3) => hx (Or.inl z.1)), mI_wI, if_neg (fun (z : x = s + 1) => hx (Or.inr (Or.inl z))), mI_sI, if_neg (fun (z : x = s ∧ j = 2) => hx (Or.inl z.1))]
    have hSb : SeS w μ2 s c N := by rw [hm]; exact hS0
    have hTb : mI μ2 s 3 = 3000 - lfT ts := by rw [hm, mI_sI, if_pos ⟨rfl, rfl⟩]
    have hsb : mI μ2 s 2 = slot := by
      rw [hm, mI_sI, if_neg (by omega), mI_wI, if_neg (by omega), mI_sI, if_pos ⟨rfl, rfl⟩]
    have hlb : ∀ t : Int, 0 ≤ t → t ≤ ts.length → mI μ2 (s + 1) t = lfT (ts.drop t.toNat) := fun t z1 z2 => by
      rw [hm, mI_sI, if_neg (by omega), mI_wI, if_pos rfl]
      exact if_pos ⟨z1, z2⟩
    clear hm
    have hFb : FoS w μ2 q := hch.Fo hF
    have hIb : FI μ2 q ts := hch.FI (fun x z1 z2 z3 => by have := hcq x z1 z2; omega) hI
    have hcb := hIb.1
    obtain ⟨ob0, rb0, rb1, ab1, ab2⟩ := id hSb
    have pb0 := hFb.1
    rw [hTT] at hTb
    refine g_aload_n (j := 0) rfl dX7_countWays_19 ?_
    refine g_aload_n (j := 2) rfl dX7_countWays_20 ?_
    refine g_getI dX7_countWays_21 flX7_30 rfl (by assumption) (kz := 0) rfl ?_
    refine g_iconst dX7_countWays_24 ?_
    refine g_iadd dX7_countWays_25 ?_
    rw [hcb]
    refine g_callV dX7_countWays_26 mlX7_35 mvX7_makeRows (ci := 7) ⟨by decide, rfl⟩ (by assumption) (c_makeRows2 w d μ2 hSb (r := ts.length + 1) (e := cwE ts) (T := T) hTb (by omega) hEe.symm (fun z => by have := hE z; omega) hN) sv1 rfl (by omega) (Nat.le_of_ble_eq_true rfl) (bc1 := 0) (bs1 := 0) (Nat.le_of_eq (Nat.zero_add _)) (Nat.le_of_eq (Nat.zero_add _)) (fun v μ3 hR => ?_)
    obtain ⟨b, c2, N2, rfl, hb, hS3, hrow, hch3, hi3⟩ := hR
    have hzz : mZ μ2 = mZ μ := hch.2.2.2.1
    obtain ⟨o30, r30, r31, a31, a32⟩ := id hS3
    have hT3 : mI μ3 s 3 = T := (hi3 s ob0.2.1 3).trans hTb
    have hs3 : mI μ3 s 2 = slot := (hi3 s ob0.2.1 2).trans hsb
    have hl3 : ∀ t : Int, 0 ≤ t → t ≤ ts.length → mI μ3 (s + 1) t = lfT (ts.drop t.toNat) := fun t z1 z2 => (hi3 (s + 1) ab1.2.1 t).trans (hlb t z1 z2)
    have hF3 : FoS w μ3 q := hch3.Fo (by omega) hFb
    have hI3 : FI μ3 q ts := hch3.FI hFb (fun x z1 z2 => by omega) hIb
    have hc3 := hI3.1
    have p30 := hF3.1
    have hrow2 : Row2 μ μ3 c N (cwE ts) c2 N2 := by unfold Row2 at hrow ⊢; rw [hzz] at hrow; exact hrow
    have hN2 : N2 ≤ 200000 := by
      rcases hb with ⟨-, -, z⟩ | ⟨-, z2, -⟩
      · omega
      · have := hE z2
        rcases hrow2 with ⟨-, z, -⟩ | ⟨z0, -, z, -⟩
        · omega
        · rw [z, mkN]
          omega
    have hchA : Ch (fun x => x = s ∨ x = s + 1 ∨ x = c) μ μ3 := (Ch.I hch).tr (hch3.mono fun x _ z => Or.inl z)
    have hb1 : b = 0 ∨ b = 1 := by omega
    refine g_if_ne (tgt := 33) dX7_countWays_29 (by decide) (by omega) (fun h29 => ?_) (fun h29 => ?_)
    · have hT0 : 0 ≤ T := by omega
      have hE2 := hE hT0
      have hf0 : 0 ≤ (ts.length : Int) * (T + 1) := row_nn hT0 (by omega)
      have hmul : ((ts.length : Int) + 1) * (T + 1) = ts.length * (T + 1) + (T + 1) := by rw [Int.add_mul, Int.one_mul]
      refine g_iconst dX7_countWays_33 ?_
      refine g_istore_n (j := 3) dX7_countWays_34 (by decide) rfl ls3 ?_
      refine g_aload_n (j := 0) rfl dX7_countWays_35 ?_
      refine g_aload_n (j := 2) rfl dX7_countWays_36 ?_
      refine g_getI dX7_countWays_37 flX7_30 rfl (by assumption) (kz := 0) rfl ?_
      rw [hc3]
      refine g_callV dX7_countWays_40 mlX7_39 mvX7_clear (ci := 7) ⟨by decide, rfl⟩ (by assumption) (c_clearT w d μ3 hS3 (t := ts.length) (T := T) hT3 rfl hf0 hT0 (by omega) (by omega)) sv1 rfl (by omega) (Nat.le_of_ble_eq_true rfl) (Nat.le_refl _) (Nat.le_refl _) (fun v μ4 hR => ?_)
      obtain ⟨rfl, hm⟩ := hR
      replace hm := hm.symm
      subst hm
      refine g_aload_n (j := 0) rfl dX7_countWays_43 ?_
      refine g_getR dX7_countWays_44 flX7_15 rfl (by simp only [IsO_sI, IsO_sL, IsO_sR, IsO_wI, IsO_wL, IsA_sI, IsA_sL, IsA_sR, IsA_wI, IsA_wL, mR_sI, mR_sL, mR_wI, mR_wL]; assumption) (kz := 1) rfl (by simp only [IsO_sI, IsO_sL, IsO_sR, IsO_wI, IsO_wL, IsA_sI, IsA_sL, IsA_sR, IsA_wI, IsA_wL, mR_sI, mR_sL, mR_wI, mR_wL]; assumption) ?_
      refine g_aload_n (j := 2) rfl dX7_countWays_47 ?_
      refine g_getIv dX7_countWays_48 flX7_30 rfl (by simp only [IsO_sI, IsO_sL, IsO_sR, IsO_wI, IsO_wL, IsA_sI, IsA_sL, IsA_sR, IsA_wI, IsA_wL, mR_sI, mR_sL, mR_wI, mR_wL]; assumption) (kz := 0) rfl (by simp [mI_sI, mI_sL, mI_sR, mI_wI, mI_wL, mL_sI, mL_sL, mL_sR, mL_wI, mL_wL, hc3, hT3]; rfl) ?_
      refine g_aload_n (j := 0) rfl dX7_countWays_51 ?_
      refine g_getIv dX7_countWays_52 flX7_23 rfl (by simp only [IsO_sI, IsO_sL, IsO_sR, IsO_wI, IsO_wL, IsA_sI, IsA_sL, IsA_sR, IsA_wI, IsA_wL, mR_sI, mR_sL, mR_wI, mR_wL]; assumption) (kz := 3) rfl (by simp [mI_sI, mI_sL, mI_sR, mI_wI, mI_wL, mL_sI, mL_sL, mL_sR, mL_wI, mL_wL, hc3, hT3]; rfl) ?_
      refine g_iconst dX7_countWays_55 ?_
      refine g_iadd dX7_countWays_56 ?_
      refine g_imul dX7_countWays_57 ?_
      refine g_lconst1 dX7_countWays_58 ?_
      refine g_last dX7_countWays_59 (by simp only [IsO_sI, IsO_sL, IsO_sR, IsO_wI, IsO_wL, IsA_sI, IsA_sL, IsA_sR, IsA_wI, IsA_wL, mR_sI, mR_sL, mR_wI, mR_wL]; assumption) (by omega) (by omega) ?_
      refine g_aload_n (j := 2) rfl dX7_countWays_60 ?_
      refine g_getIv dX7_countWays_61 flX7_30 rfl (by simp only [IsO_sI, IsO_sL, IsO_sR, IsO_wI, IsO_wL, IsA_sI, IsA_sL, IsA_sR, IsA_wI, IsA_wL, mR_sI, mR_sL, mR_wI, mR_wL]; assumption) (kz := 0) rfl (by simp [mI_sI, mI_sL, mI_sR, mI_wI, mI_wL, mL_sI, mL_sL, mL_sR, mL_wI, mL_wL, hc3, hT3]; rfl) ?_
      refine g_iconst dX7_countWays_64 ?_
      refine g_isub dX7_countWays_65 ?_
      refine g_istore (i := 4) dX7_countWays_66 (by decide) rfl ls4 ?_
      rw [sL_wL]
      have h0 : min T (hfT (ts.drop ((ts.length : Int) - 1 + 1).toNat) - lfT (ts.drop ((ts.length : Int) - 1 + 1).toNat)) = 0 := by
        rw [show ((ts.length : Int) - 1 + 1).toNat = ts.length by omega, List.drop_length]
        simp only [hfT, lfT]
        omega
      have := l_countWays w d μ3 hS3 hF3 hI3 slot (T := T) hT3 ⟨hT0, by omega⟩ (by omega) (fun v μ5 => v = none ∧ ∃ (c2 N2 : Nat), SeW w μ5 s c2 N2 ts ∧ mI μ5 s 2 = slot ∧ Row2 μ μ5 c N (cwE ts) c2 N2 ∧ N2 ≤ 200000 ∧ Ch (fun x => x = s ∨ x = s + 1 ∨ x = c) μ μ5) (fun g hg => ⟨rfl, c2, N2, ⟨hS3, by rw [hTT]; exact hT3, hl3, fun _ => ⟨by rw [hTT]; omega, by rw [hTT, mL_wL_self]; exact hg⟩⟩, hs3, hrow2, hN2, hchA.tr2 (Ch.wL' (P := fun x => x = c2) rfl) (fun x hx z => by rcases hrow2 with ⟨z1, -, -⟩ | ⟨-, z1, -, -⟩ <;> omega)⟩) ts.length (ts.length - 1)
      rw [h0] at this
      refine G.less (Nat.zero_le _) (Nat.zero_le _) (this _ (by omega) (by omega) fun j p hj hl hp hpT => ?_)
      have hj2 : j = ts.length := by omega
      subst hj2
      rw [show ((ts.length : Nat) : Int).toNat = ts.length by omega, List.drop_length, wy, lfT, Int.add_zero]
      by_cases hp0 : p = 0
      · rw [hp0, Int.add_zero, if_pos rfl, if_pos rfl]
      · rw [if_neg (by omega), if_neg hp0]
        exact if_pos ⟨by omega, by omega⟩
    · exact G.retV dX7_countWays_32 rfl ⟨rfl, c2, N2, ⟨hS3, by rw [hTT]; exact hT3, hl3, fun z => by omega⟩, hs3, hrow2, hN2, hchA⟩
  · exact absurd h5 hne
