/-! THE CLASS: wayCounts, hasTerms, hasTerm -/
def HasT (F : Int → List Tm) (s : Int) : Prop := (0 ≤ s ∧ s ≤ 3) ∧ (0 : Int) < (F s).length
def HasI (F : Int → List Tm) (s i : Int) : Prop := (0 ≤ s ∧ s ≤ 3) ∧ 0 ≤ i ∧ i < (F s).length
theorem c_hasTerms (w : WC) (d : Nat) (μ : Mem) {x c N : Nat} {F : Int → List Tm} (h : CA w μ x F c N) {s : Int} (hs : i32 s) : Con w (d + 1) mX11_hasTerms 0 0 [vP (some x), vI s] μ (fun v μ2 => v = some (vI (bI (HasT F s))) ∧ μ2 = μ) := by
  have o0 := h.tps.o0
  have r1 := h.tps.r0_1
  have a7 := h.tps.a7
  unfold HasT
  refine Con.of (by decide) (Nat.le_of_ble_eq_true rfl) rfl ?_
  refine g_iload_n (j := 1) rfl dX11_hasTerms_0 ?_
  refine g_callS dX11_hasTerms_1 mlX11_110 msX11_isSlot (c_X11_isSlot w d μ hs) sk1 rfl (by omega) (Nat.le_of_ble_eq_true rfl) (Nat.le_refl _) (Nat.le_refl _) (fun v μ2 hR => ?_)
  obtain ⟨rfl, hm⟩ := hR
  replace hm := hm.symm
  subst hm
  refine g_ifb_eq (tgt := 23) dX11_hasTerms_4 (by decide)  (fun h4 => ?_) (fun h4 => ?_)
  · refine g_iconst dX11_hasTerms_23 ?_
    first | exact G.retB dX11_hasTerms_24 rfl (eq_bI (Or.inl ⟨rfl, by omega⟩)) ⟨rfl, rfl⟩ | exact G.retB dX11_hasTerms_24 rfl (eq_bI (Or.inr ⟨rfl, by omega⟩)) ⟨rfl, rfl⟩
  · have rf := h.tps.rf h4
    have of := (h.tps.fs h4).1
    have hc := (h.fm h4).1
    have h5 := h.l5 h4
    refine g_aload_n (j := 0) rfl dX11_hasTerms_7 ?_
    refine g_getR dX11_hasTerms_8 flX11_18 rfl (by assumption) (kz := 1) rfl (by assumption) ?_
    refine g_iload_n (j := 1) rfl dX11_hasTerms_11 ?_
    refine g_aald dX11_hasTerms_12 (by assumption) (by omega) (by omega) (by omega) (by assumption) ?_
    refine g_getI dX11_hasTerms_13 flX11_125 rfl (by assumption) (kz := 0) rfl ?_
    refine g_if_le (tgt := 23) dX11_hasTerms_16 (by decide) (by omega) (fun h16 => ?_) (fun h16 => ?_)
    · refine g_iconst dX11_hasTerms_23 ?_
      first | exact G.retB dX11_hasTerms_24 rfl (eq_bI (Or.inl ⟨rfl, by omega⟩)) ⟨rfl, rfl⟩ | exact G.retB dX11_hasTerms_24 rfl (eq_bI (Or.inr ⟨rfl, by omega⟩)) ⟨rfl, rfl⟩
    · refine g_iconst dX11_hasTerms_19 ?_
      refine g_goto (tgt := 24) (by decide) dX11_hasTerms_20 ?_
      first | exact G.retB dX11_hasTerms_24 rfl (eq_bI (Or.inl ⟨rfl, by omega⟩)) ⟨rfl, rfl⟩ | exact G.retB dX11_hasTerms_24 rfl (eq_bI (Or.inr ⟨rfl, by omega⟩)) ⟨rfl, rfl⟩
theorem c_hasTerm (w : WC) (d : Nat) (μ : Mem) {x c N : Nat} {F : Int → List Tm} (h : CA w μ x F c N) {s i : Int} (hs : i32 s) (hi : i32 i) : Con w (d + 1) mX11_hasTerm 0 0 [vP (some x), vI s, vI i] μ (fun v μ2 => v = some (vI (bI (HasI F s i))) ∧ μ2 = μ) := by
  have o0 := h.tps.o0
  have r1 := h.tps.r0_1
  have a7 := h.tps.a7
  unfold HasI
  refine Con.of (by decide) (Nat.le_of_ble_eq_true rfl) rfl ?_
  refine g_iload_n (j := 1) rfl dX11_hasTerm_0 ?_
  refine g_callS dX11_hasTerm_1 mlX11_110 msX11_isSlot (c_X11_isSlot w d μ hs) sk1 rfl (by omega) (Nat.le_of_ble_eq_true rfl) (Nat.le_refl _) (Nat.le_refl _) (fun v μ2 hR => ?_)
  obtain ⟨rfl, hm⟩ := hR
  replace hm := hm.symm
  subst hm
  refine g_ifb_eq (tgt := 28) dX11_hasTerm_4 (by decide)  (fun h4 => ?_) (fun h4 => ?_)
  · refine g_iconst dX11_hasTerm_28 ?_
    first | exact G.retB dX11_hasTerm_29 rfl (eq_bI (Or.inl ⟨rfl, by omega⟩)) ⟨rfl, rfl⟩ | exact G.retB dX11_hasTerm_29 rfl (eq_bI (Or.inr ⟨rfl, by omega⟩)) ⟨rfl, rfl⟩
  · refine g_iload_n (j := 2) rfl dX11_hasTerm_7 ?_
    refine g_if_lt (tgt := 28) dX11_hasTerm_8 (by decide) (by omega) (fun h8 => ?_) (fun h8 => ?_)
    · refine g_iconst dX11_hasTerm_28 ?_
      first | exact G.retB dX11_hasTerm_29 rfl (eq_bI (Or.inl ⟨rfl, by omega⟩)) ⟨rfl, rfl⟩ | exact G.retB dX11_hasTerm_29 rfl (eq_bI (Or.inr ⟨rfl, by omega⟩)) ⟨rfl, rfl⟩
    · have rf := h.tps.rf h4
      have of := (h.tps.fs h4).1
      have hc := (h.fm h4).1
      have h5 := h.l5 h4
      refine g_iload_n (j := 2) rfl dX11_hasTerm_11 ?_
      refine g_aload_n (j := 0) rfl dX11_hasTerm_12 ?_
      refine g_getR dX11_hasTerm_13 flX11_18 rfl (by assumption) (kz := 1) rfl (by assumption) ?_
      refine g_iload_n (j := 1) rfl dX11_hasTerm_16 ?_
      refine g_aald dX11_hasTerm_17 (by assumption) (by omega) (by omega) (by omega) (by assumption) ?_
      refine g_getI dX11_hasTerm_18 flX11_125 rfl (by assumption) (kz := 0) rfl ?_
      refine g_icmp_ge (tgt := 28) dX11_hasTerm_21 (by decide) (by omega) (by omega) (fun h21 => ?_) (fun h21 => ?_)
      · refine g_iconst dX11_hasTerm_28 ?_
        first | exact G.retB dX11_hasTerm_29 rfl (eq_bI (Or.inl ⟨rfl, by omega⟩)) ⟨rfl, rfl⟩ | exact G.retB dX11_hasTerm_29 rfl (eq_bI (Or.inr ⟨rfl, by omega⟩)) ⟨rfl, rfl⟩
      · refine g_iconst dX11_hasTerm_24 ?_
        refine g_goto (tgt := 29) (by decide) dX11_hasTerm_25 ?_
        first | exact G.retB dX11_hasTerm_29 rfl (eq_bI (Or.inl ⟨rfl, by omega⟩)) ⟨rfl, rfl⟩ | exact G.retB dX11_hasTerm_29 rfl (eq_bI (Or.inr ⟨rfl, by omega⟩)) ⟨rfl, rfl⟩
/-- behind wayCounts, unlikeCounts: the row a -/
def WcR (w : WC) (μ : Mem) (x N : Nat) (F : Int → List Tm) (s : Int) (k : Int) (R : Mem → Nat → List Tm → Prop) (v : Option AV) (μ2 : Mem) : Prop := ∃ a c2, v = some (vP (some a)) ∧ CA w μ2 x F c2 (nxN N (F s)) ∧ IsA w μ2 a 15 6001 ∧ R μ2 a (F s) ∧ (x + 120 ≤ a ∧ (mI μ2 (tA x s) (k + 2) = 1 ∧ mR μ2 (tA x s) k = some a) ∧ (mI μ (tA x s) (k + 2) = 1 → μ2 = μ) ∧ ∀ t, 0 ≤ t ∧ t ≤ 3 → ¬ t = s → (∀ j, mI μ2 (tA x t) j = mI μ (tA x t) j) ∧ ∀ j, mR μ2 (tA x t) j = mR μ (tA x t) j) ∧ Fr (Tc x) (Kc x) μ μ2
theorem c_wayCounts (w : WC) (d : Nat) (μ : Mem) {x c N : Nat} {F : Int → List Tm} (h : CA w μ x F c N) {s : Int} (hs : 0 ≤ s ∧ s ≤ 3) : Con w (d + 4) mX11_wayCounts 2 (6001 + cwB N (F s)) [vP (some x), vI s] μ (WcR w μ x N F s 0 RowW) := by
  have o0 := h.tps.o0
  have r2 := h.tps.r0_2
  have a8 := h.tps.a8
  have rt := h.tps.rt hs
  have ot := h.tps.ot hs
  have r7 := h.tps.r0_7
  have r1 := h.tps.r0_1
  have a7 := h.tps.a7
  have rf := h.tps.rf hs
  have o59 := h.tps.o59
  have hb := fA_bd x hs
  obtain ⟨⟨k1, k2⟩, -⟩ := h.2.2.2.2 s hs
  refine Con.of (by decide) (Nat.le_of_ble_eq_true rfl) rfl ?_
  rcases k1 with k1 | k1
  · refine g_aload_n (j := 0) rfl dX11_wayCounts_0 ?_
    refine g_getR dX11_wayCounts_1 flX11_24 rfl (by assumption) (kz := 2) rfl (by assumption) ?_
    refine g_iload_n (j := 1) rfl dX11_wayCounts_4 ?_
    refine g_aald dX11_wayCounts_5 (by assumption) (by omega) (by omega) (by omega) (by assumption) ?_
    refine g_astore_n (j := 2) dX11_wayCounts_6 (by decide) rfl ls2 ?_
    refine g_aload_n (j := 2) rfl dX11_wayCounts_7 ?_
    refine g_getI dX11_wayCounts_8 flX11_307 rfl (by assumption) (kz := 2) rfl ?_
    refine g_if_eq (tgt := 19) dX11_wayCounts_11 (by decide) (by omega) (fun h11 => ?_) (fun h11 => ?_)
    · refine g_aload_n (j := 0) rfl dX11_wayCounts_19 ?_
      refine g_getR dX11_wayCounts_20 flX11_60 rfl (by assumption) (kz := 7) rfl (by assumption) ?_
      refine g_iload_n (j := 1) rfl dX11_wayCounts_23 ?_
      refine g_aload_n (j := 0) rfl dX11_wayCounts_24 ?_
      refine g_getR dX11_wayCounts_25 flX11_18 rfl (by assumption) (kz := 1) rfl (by assumption) ?_
      refine g_iload_n (j := 1) rfl dX11_wayCounts_28 ?_
      refine g_aald dX11_wayCounts_29 (by assumption) (by omega) (by omega) (by omega) (by assumption) ?_
      refine g_callV dX11_wayCounts_30 mlX11_315 mvX7_countWays (ci := 7) ⟨by decide, rfl⟩ (by assumption) (c_series w d μ h hs) sv2 rfl (by omega) (Nat.le_of_ble_eq_true rfl) (bc1 := 1) (bs1 := 6001) (Nat.le_refl _) (Nat.le_refl _) (fun v μ1 hR => ?_)
      obtain ⟨rfl, c1, h1, ho1, hf1⟩ := hR
      have o0b := h1.tps.o0
      have r7b := h1.tps.r0_7
      have otb := h1.tps.ot hs
      have hW := h1.se hs.1 ho1
      have hN := fun z => (hW.2.2.2 z).1
      refine g_aload_n (j := 2) rfl dX11_wayCounts_33 ?_
      refine g_aload_n (j := 0) rfl dX11_wayCounts_34 ?_
      refine g_getR dX11_wayCounts_35 flX11_60 rfl (by assumption) (kz := 7) rfl (by assumption) ?_
      refine g_callV dX11_wayCounts_38 mlX11_318 mvX9_keepWays (ci := 9) ⟨by decide, rfl⟩ (by assumption) (c_keepWays w d μ1 otb hW (h1.ok hs) (h1.l5 hs) (by omega) (fun a z => by rw [DR_w _ _ hs] at z; have := h1.2.2.2.1.1 _ (by omega) a z; exact ⟨this.1, this.2.2⟩)) sv1 rfl (by omega) (Nat.le_of_ble_eq_true rfl) (bc1 := 0) (bs1 := 0) (by omega) (by omega) (fun v μ2 hR => ?_)
      obtain ⟨a, g, rfl, hg, hR⟩ := hR
      obtain ⟨h2, hf2, g1, g2, g3, g4, g5⟩ := h1.keep hs hN (Or.inl rfl) (Or.inl ⟨rfl, hg⟩) hR
      obtain ⟨-, a2, q2, q3⟩ := (h2.2.2.2.2 s hs).1.2 g2
      cases g1.symm.trans q2
      refine G.retP dX11_wayCounts_41 rfl (Or.inr ⟨_, rfl⟩) ⟨a, c1, rfl, h2, g3, q3, ⟨g4, ⟨g2, g1⟩, fun z => absurd (k1.symm.trans z) (by decide), fun t ht hts => ?_⟩, (hf1.mono (fun _ _ z => Or.inl z) (fun _ _ _ z => Ks_Kc z)).tr hf2⟩
      have hbt := fA_bd x ht
      have hlt := (h.tps.ot ht).2.1
      have hlt1 := (h1.tps.ot ht).2.1
      have hne : ¬ tA x t = tA x s := by unfold tA; omega
      exact ⟨fun j => (g5.I hlt1 (by omega) j).trans (hf1.I hlt (fun z => by unfold Sc at z; omega) j), fun j => (g5.R hlt1 (by omega)).trans (hf1.R hlt (fun z => by unfold Ks Sc at z; omega))⟩
    · exact absurd k1 h11
  · obtain ⟨hN, a, ra, hw⟩ := k2 k1
    have ra2 := ra
    rw [DR_w _ _ hs] at ra2
    have hd := h.2.2.2.1.1 _ (by omega) a ra2
    refine g_aload_n (j := 0) rfl dX11_wayCounts_0 ?_
    refine g_getR dX11_wayCounts_1 flX11_24 rfl (by assumption) (kz := 2) rfl (by assumption) ?_
    refine g_iload_n (j := 1) rfl dX11_wayCounts_4 ?_
    refine g_aald dX11_wayCounts_5 (by assumption) (by omega) (by omega) (by omega) (by assumption) ?_
    refine g_astore_n (j := 2) dX11_wayCounts_6 (by decide) rfl ls2 ?_
    refine g_aload_n (j := 2) rfl dX11_wayCounts_7 ?_
    refine g_getI dX11_wayCounts_8 flX11_307 rfl (by assumption) (kz := 2) rfl ?_
    refine g_if_eq (tgt := 19) dX11_wayCounts_11 (by decide) (by omega) (fun h11 => ?_) (fun h11 => ?_)
    · omega
    · refine g_aload_n (j := 2) rfl dX11_wayCounts_14 ?_
      refine g_getR dX11_wayCounts_15 flX11_311 rfl (by assumption) (kz := 0) rfl (by assumption) ?_
      exact G.retP dX11_wayCounts_18 rfl (Or.inr ⟨_, rfl⟩) ⟨a, c, rfl, by rw [nxN_of hN]; exact h, hd.1, hw, ⟨hd.2.1, ⟨k1, ra⟩, fun _ => rfl, fun _ _ _ => ⟨fun _ => rfl, fun _ => rfl⟩⟩, Fr.rf⟩
