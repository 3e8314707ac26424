/-! THE REFERENCE: lays, and what it answers of ways -/
/-- the form in slot s (4: the one that is read) -/
def MFI (μ : Mem) (m : Nat) (s : Int) (ts : List Tm) : Prop := mI μ (m + 1) s = ts.length ∧ ts.length ≤ 5 ∧ (∀ u ∈ ts, TOk u) ∧ ∀ (i : Nat) (u : Tm), ts[i]? = some u → mI μ (m + 2) (4 * (5 * s + i) + 0) = tF u ∧ mI μ (m + 2) (4 * (5 * s + i) + 1) = tK u ∧ mI μ (m + 2) (4 * (5 * s + i) + 2) = tL u ∧ mI μ (m + 2) (4 * (5 * s + i) + 3) = tH u
theorem MFI.at {μ : Mem} {m : Nat} {s : Int} {ts : List Tm} (h : MFI μ m s ts) {t : Int} (h0 : 0 ≤ t) (h1 : t < ts.length) : ∃ u, ts[t.toNat]? = some u ∧ TOk u ∧ mI μ (m + 2) (4 * (5 * s + t) + 0) = tF u ∧ mI μ (m + 2) (4 * (5 * s + t) + 1) = tK u ∧ mI μ (m + 2) (4 * (5 * s + t) + 2) = tL u ∧ mI μ (m + 2) (4 * (5 * s + t) + 3) = tH u := by
  have hl : t.toNat < ts.length := by omega
  have hg : ts[t.toNat]? = some ts[t.toNat] := List.getElem?_eq_getElem hl
  refine ⟨_, hg, h.2.2.1 _ (List.getElem_mem hl), ?_⟩
  have := h.2.2.2 _ _ hg
  rwa [Int.toNat_of_nonneg h0] at this
def LaidOk (g : Int → Int) (ts : List Tm) : Prop := ∀ j : Int, 0 ≤ j → j ≤ ts.length → LayOk g j (ts.drop j.toNat)
theorem drop_at {ts : List Tm} {t : Int} {u : Tm} (h0 : 0 ≤ t) (h1 : t < ts.length) (hu : ts[t.toNat]? = some u) : ts.drop t.toNat = u :: ts.drop (t + 1).toNat := by
  have hl : t.toNat < ts.length := by omega
  rw [show (t + 1).toNat = t.toNat + 1 by omega, List.drop_eq_getElem_cons hl]
  congr 1
  rw [List.getElem?_eq_getElem hl] at hu
  exact Option.some.inj hu
theorem l_laysAll (w : WC) (d : Nat) (μ : Mem) {m : Nat} (hM : MoS w μ m) {s : Int} (hs : 0 ≤ s ∧ s ≤ 3) {ts : List Tm} (hI : MFI μ m s ts) (R : Option AV → Mem → Prop) (kk : ∀ g, LaidOk g ts → R none (wL μ (m + 4) g)) : ∀ (n : Nat) (i : Int) (g : Int → Int), i + 1 = n → i < ts.length → (∀ j : Int, i + 1 ≤ j → j ≤ ts.length → LayOk g j (ts.drop j.toNat)) →
    G w (d + 4) mX12_lays R 0 0 30 [some (vP (some m)), some (vI s), some (vI ts.length), some (vI i)] [] (wL μ (m + 4) g) := by
  have o0 := hM.o
  have h5 := hI.2.1
  have hok := hI.2.2.1
  intro n
  induction n with
  | zero =>
    intro i g hn hi hg
    refine g_iload_n (j := 3) rfl dX12_lays_30 ?_
    refine g_if_lt (tgt := 76) dX12_lays_31 (by decide) (by omega) (fun h31 => ?_) (fun h31 => ?_)
    · exact G.retV dX12_lays_76 rfl (kk g fun j z1 z2 => hg j (by omega) z2)
    · omega
  | succ n ih =>
    intro i g hn hi hg
    obtain ⟨u, hu, hk, e0, e1, e2, e3⟩ := hI.at (t := i) (by omega) hi
    have hd := drop_at (by omega) hi hu
    have hok2 : ∀ v ∈ u :: ts.drop (i + 1).toNat, TOk v := fun v hv => hok v (List.mem_of_mem_drop (by rw [hd]; exact hv))
    have hl4 : (ts.drop (i + 1).toNat).length ≤ 4 := by rw [List.length_drop]; omega
    have hsrc := hg (i + 1) (by omega) (by omega)
    refine g_iload_n (j := 3) rfl dX12_lays_30 ?_
    refine g_if_lt (tgt := 76) dX12_lays_31 (by decide) (by omega) (fun h31 => ?_) (fun h31 => ?_)
    · omega
    · refine g_aload_n (j := 0) rfl dX12_lays_34 ?_
      refine g_iload_n (j := 3) rfl dX12_lays_35 ?_
      refine g_iload_n (j := 3) rfl dX12_lays_36 ?_
      refine g_iconst dX12_lays_37 ?_
      refine g_iadd dX12_lays_38 ?_
      refine g_aload_n (j := 0) rfl dX12_lays_39 ?_
      refine g_iload_n (j := 1) rfl dX12_lays_40 ?_
      refine g_iload_n (j := 3) rfl dX12_lays_41 ?_
      refine g_iconst dX12_lays_42 ?_
      refine g_callV dX12_lays_43 mlX12_93 mvX12_of (ci := 12) ⟨by decide, rfl⟩ (by simp only [IsO_sI, IsO_sL, IsO_sR, IsO_wI, IsO_wL, IsA_sI, IsA_sL, IsA_sR, IsA_wI, IsA_wL, mR_sI, mR_sL, mR_wI, mR_wL]; assumption) (c_X12_of w d _ (hM.of_wL (a := m + 4) (g := g)) (s := s) (i := i) (k := 0) (by omega) (by omega) (by omega)) sv3 rfl (by omega) (Nat.le_of_ble_eq_true rfl) (Nat.le_refl _) (Nat.le_refl _) (fun v μ2 hR => ?_)
      obtain ⟨rfl, hm⟩ := hR
      replace hm := hm.symm
      subst hm
      rw [mI_wL, e0]
      refine g_aload_n (j := 0) rfl dX12_lays_46 ?_
      refine g_iload_n (j := 1) rfl dX12_lays_47 ?_
      refine g_iload_n (j := 3) rfl dX12_lays_48 ?_
      refine g_iconst dX12_lays_49 ?_
      refine g_callV dX12_lays_50 mlX12_93 mvX12_of (ci := 12) ⟨by decide, rfl⟩ (by simp only [IsO_sI, IsO_sL, IsO_sR, IsO_wI, IsO_wL, IsA_sI, IsA_sL, IsA_sR, IsA_wI, IsA_wL, mR_sI, mR_sL, mR_wI, mR_wL]; assumption) (c_X12_of w d _ (hM.of_wL (a := m + 4) (g := g)) (s := s) (i := i) (k := 1) (by omega) (by omega) (by omega)) sv3 rfl (by omega) (Nat.le_of_ble_eq_true rfl) (Nat.le_refl _) (Nat.le_refl _) (fun v μ2 hR => ?_)
      obtain ⟨rfl, hm⟩ := hR
      replace hm := hm.symm
      subst hm
      rw [mI_wL, e1]
      refine g_aload_n (j := 0) rfl dX12_lays_53 ?_
      refine g_iload_n (j := 1) rfl dX12_lays_54 ?_
      refine g_iload_n (j := 3) rfl dX12_lays_55 ?_
      refine g_iconst dX12_lays_56 ?_
      refine g_callV dX12_lays_57 mlX12_93 mvX12_of (ci := 12) ⟨by decide, rfl⟩ (by simp only [IsO_sI, IsO_sL, IsO_sR, IsO_wI, IsO_wL, IsA_sI, IsA_sL, IsA_sR, IsA_wI, IsA_wL, mR_sI, mR_sL, mR_wI, mR_wL]; assumption) (c_X12_of w d _ (hM.of_wL (a := m + 4) (g := g)) (s := s) (i := i) (k := 2) (by omega) (by omega) (by omega)) sv3 rfl (by omega) (Nat.le_of_ble_eq_true rfl) (Nat.le_refl _) (Nat.le_refl _) (fun v μ2 hR => ?_)
      obtain ⟨rfl, hm⟩ := hR
      replace hm := hm.symm
      subst hm
      rw [mI_wL, e2]
      refine g_aload_n (j := 0) rfl dX12_lays_60 ?_
      refine g_iload_n (j := 1) rfl dX12_lays_61 ?_
      refine g_iload_n (j := 3) rfl dX12_lays_62 ?_
      refine g_iconst dX12_lays_63 ?_
      refine g_callV dX12_lays_64 mlX12_93 mvX12_of (ci := 12) ⟨by decide, rfl⟩ (by simp only [IsO_sI, IsO_sL, IsO_sR, IsO_wI, IsO_wL, IsA_sI, IsA_sL, IsA_sR, IsA_wI, IsA_wL, mR_sI, mR_sL, mR_wI, mR_wL]; assumption) (c_X12_of w d _ (hM.of_wL (a := m + 4) (g := g)) (s := s) (i := i) (k := 3) (by omega) (by omega) (by omega)) sv3 rfl (by omega) (Nat.le_of_ble_eq_true rfl) (Nat.le_refl _) (Nat.le_refl _) (fun v μ2 hR => ?_)
      obtain ⟨rfl, hm⟩ := hR
      replace hm := hm.symm
      subst hm
      rw [mI_wL, e3]
      refine g_callV dX12_lays_67 mlX12_270 mvX12_laysLayer (ci := 12) ⟨by decide, rfl⟩ (by simp only [IsO_sI, IsO_sL, IsO_sR, IsO_wI, IsO_wL, IsA_sI, IsA_sL, IsA_sR, IsA_wI, IsA_wL, mR_sI, mR_sL, mR_wI, mR_wL]; assumption) (c_laysLayer (d := d) (hM.of_wL (a := m + 4) (g := g)) (l := i) (j := i + 1) (u := u) (us := ts.drop (i + 1).toNat) hok2 hl4 (by omega) (by omega) (by omega) (by rw [mL_wL_self]; exact hsrc)) sv6 rfl (by omega) (Nat.le_of_ble_eq_true rfl) (Nat.le_refl _) (Nat.le_refl _) (fun v μ2 hR => ?_)
      obtain ⟨rfl, g2, hg2, hm⟩ := hR
      replace hm := hm.symm
      subst hm
      rw [wL_wL]
      rw [mL_wL_self] at hg2
      refine g_iinc (i := 3) dX12_lays_70 rfl (by decide) rfl ls3 ?_
      refine g_goto (tgt := 30) (by decide) dX12_lays_73 ?_
      refine ih (i + -1) g2 (by omega) (by omega) fun j z1 z2 s h0 h1 => ?_
      rcases (by omega : j = i ∨ i + 1 ≤ j) with rfl | z
      · rw [hg2, if_pos (by omega), hd]
        congr 1
        omega
      · rw [hg2, if_neg (by omega)]
        exact hg j z z2 s h0 h1
theorem c_lays (w : WC) (d : Nat) (μ : Mem) {m : Nat} (hM : MoS w μ m) {s : Int} (hs : 0 ≤ s ∧ s ≤ 3) {ts : List Tm} (hI : MFI μ m s ts) (hi : i32 (mI μ m 21)) (hL : mI μ m 21 = s → LaidOk (mL μ (m + 4)) ts) : Con w (d + 4) mX12_lays 0 0 [vP (some m), vI s] μ (fun v μ2 => v = none ∧ ∃ g, LaidOk g ts ∧ μ2 = wL (sI μ m 21 s) (m + 4) g) := by
  have o0 := hM.o
  have r0 := hM.r0
  have a0 := hM.a0
  have h5 := hI.2.1
  have e0 : mI μ (m + 1) s = ts.length := hI.1
  refine Con.of (by decide) (Nat.le_of_ble_eq_true rfl) rfl ?_
  refine g_aload_n (j := 0) rfl dX12_lays_0 ?_
  refine g_getI dX12_lays_1 flX12_31 rfl (by assumption) (kz := 21) rfl ?_
  refine g_iload_n (j := 1) rfl dX12_lays_4 ?_
  refine g_icmp_ne (tgt := 9) dX12_lays_5 (by decide) (by omega) (by omega) (fun hq => ?_) (fun hq => ?_)
  · refine g_aload_n (j := 0) rfl dX12_lays_9 ?_
    refine g_iload_n (j := 1) rfl dX12_lays_10 ?_
    refine g_putI dX12_lays_11 fpX12_31 rfl rfl rfl (by assumption) (kz := 21) rfl ?_
    refine g_aload_n (j := 0) rfl dX12_lays_14 ?_
    refine g_getR dX12_lays_15 flX12_9 rfl (by simp only [IsO_sI, IsO_sL, IsO_sR, IsO_wI, IsO_wL, IsA_sI, IsA_sL, IsA_sR, IsA_wI, IsA_wL, mR_sI, mR_sL, mR_wI, mR_wL]; assumption) (kz := 0) rfl (by simp only [IsO_sI, IsO_sL, IsO_sR, IsO_wI, IsO_wL, IsA_sI, IsA_sL, IsA_sR, IsA_wI, IsA_wL, mR_sI, mR_sL, mR_wI, mR_wL]; assumption) ?_
    refine g_iload_n (j := 1) rfl dX12_lays_18 ?_
    refine g_ialdv dX12_lays_19 (by simp only [IsO_sI, IsO_sL, IsO_sR, IsO_wI, IsO_wL, IsA_sI, IsA_sL, IsA_sR, IsA_wI, IsA_wL, mR_sI, mR_sL, mR_wI, mR_wL]; assumption) (by omega) (by omega) (by simp [mI_sI, mI_sL, mI_sR, mI_wI, mI_wL, mL_sI, mL_sL, mL_sR, mL_wI, mL_wL, e0]; rfl) ?_
    refine g_istore_n (j := 2) dX12_lays_20 (by decide) rfl ls2 ?_
    refine g_aload_n (j := 0) rfl dX12_lays_21 ?_
    refine g_iload_n (j := 2) rfl dX12_lays_22 ?_
    refine g_callV dX12_lays_23 mlX12_267 mvX12_laysNought (ci := 12) ⟨by decide, rfl⟩ (by simp only [IsO_sI, IsO_sL, IsO_sR, IsO_wI, IsO_wL, IsA_sI, IsA_sL, IsA_sR, IsA_wI, IsA_wL, mR_sI, mR_sL, mR_wI, mR_wL]; assumption) (c_laysNought w d _ (hM.of_sI (a := m) (k := 21) (v := s)) (l := ts.length) (by omega)) sv1 rfl (by omega) (Nat.le_of_ble_eq_true rfl) (Nat.le_refl _) (Nat.le_refl _) (fun v μ2 hR => ?_)
    obtain ⟨rfl, hm⟩ := hR
    replace hm := hm.symm
    subst hm
    rw [mL_sI]
    refine g_iload_n (j := 2) rfl dX12_lays_26 ?_
    refine g_iconst dX12_lays_27 ?_
    refine g_isub dX12_lays_28 ?_
    refine g_istore_n (j := 3) dX12_lays_29 (by decide) rfl ls3 ?_
    refine l_laysAll w d (sI μ m 21 s) hM.of_sI hs (ts := ts) ?_ _ (fun g hg => ⟨rfl, g, hg, rfl⟩) ts.length (ts.length - 1) _ (by omega) (by omega) fun j z1 z2 z h0 h1 => ?_
    · refine ⟨?_, hI.2.1, hI.2.2.1, fun i u hu => ?_⟩
      · rw [mI_sI, if_neg (by omega)]
        exact hI.1
      · rw [mI_sI, if_neg (by omega), mI_sI, if_neg (by omega), mI_sI, if_neg (by omega), mI_sI, if_neg (by omega)]
        exact hI.2.2.2 i u hu
    · have hj : j = ts.length := by omega
      subst hj
      unfold nuF
      rw [if_pos (by omega), show ((ts.length : Nat) : Int).toNat = ts.length by omega, List.drop_length, wy]
      congr 1
      exact propext ⟨fun q => by omega, fun q => by omega⟩
  · exact G.retV dX12_lays_8 rfl ⟨rfl, mL μ (m + 4), hL hq, by rw [← hq, sI_w, wI_eta' fun k => by split <;> simp_all, wL_eta]⟩
