/-! THE MODEL: copies, takesOver, join, drop, lead -/
def TmM (μ : Mem) (m : Nat) (s i : Int) (u : Tm) : Prop := mI μ (m + 2) (4 * (5 * s + i) + 0) = tF u ∧ mI μ (m + 2) (4 * (5 * s + i) + 1) = tK u ∧ mI μ (m + 2) (4 * (5 * s + i) + 2) = tL u ∧ mI μ (m + 2) (4 * (5 * s + i) + 3) = tH u
/-- k places from b on are those from a on -/
def cpF (g : Int → Int) (a b k : Int) : Int → Int := fun j => if b ≤ j ∧ j < b + k then g (j - b + a) else g j
section CM
variable {w : WC} {d : Nat} {m : Nat}
theorem l_copies {s i t j : Int} (hs : 0 ≤ s ∧ s ≤ 4) (hi : 0 ≤ i ∧ i ≤ 4) (ht : 0 ≤ t ∧ t ≤ 4) (hj : 0 ≤ j ∧ j ≤ 4) {μ0 : Mem} (hM : MoS w μ0 m) : ∀ (n : Nat) (k : Int) (g : Int → Int), k + n = 4 → 0 ≤ k → (∀ z, g z = cpF (mI μ0 (m + 2)) (4 * (5 * s + i)) (4 * (5 * t + j)) k z) →
    G w d mX12_copies (fun r μ2 => r = none ∧ μ2 = wI μ0 (m + 2) (cpF (mI μ0 (m + 2)) (4 * (5 * s + i)) (4 * (5 * t + j)) 4)) 0 0 3 [some (vP (some m)), some (vI s), some (vI i), some (vI t), some (vI j), some (vI k)] [] (wI μ0 (m + 2) g) := by
  have o0 := hM.o
  have r1 := hM.r1
  have a1 := hM.a1
  intro n
  induction n with
  | zero =>
    intro k g hk h0 hg
    have hk4 : k = 4 := by omega
    subst hk4
    refine g_iload (i := 5) rfl dX12_copies_3 ?_
    refine g_iconst dX12_copies_5 ?_
    refine g_icmp_ge (tgt := 46) dX12_copies_6 (by decide) (by omega) (by omega) (fun h6 => ?_) (fun h6 => ?_)
    · exact G.retV dX12_copies_46 rfl ⟨rfl, wI_congr hg⟩
    · omega
  | succ n ih =>
    intro k g hk h0 hg
    have hrd : mI (wI μ0 (m + 2) g) (m + 2) (4 * (5 * s + i) + k) = mI μ0 (m + 2) (4 * (5 * s + i) + k) := by
      rw [mI_wI, if_pos rfl, hg]
      unfold cpF
      by_cases hz : 4 * (5 * t + j) ≤ 4 * (5 * s + i) + k ∧ 4 * (5 * s + i) + k < 4 * (5 * t + j) + k
      · rw [if_pos hz]
        congr 1
        omega
      · rw [if_neg hz]
    refine g_iload (i := 5) rfl dX12_copies_3 ?_
    refine g_iconst dX12_copies_5 ?_
    refine g_icmp_ge (tgt := 46) dX12_copies_6 (by decide) (by omega) (by omega) (fun h6 => ?_) (fun h6 => ?_)
    · omega
    · refine g_aload_n (j := 0) rfl dX12_copies_9 ?_
      refine g_getR dX12_copies_10 flX12_15 rfl (by simp only [IsO_sI, IsO_sL, IsO_sR, IsO_wI, IsO_wL, IsA_sI, IsA_sL, IsA_sR, IsA_wI, IsA_wL, mR_sI, mR_sL, mR_wI, mR_wL]; assumption) (kz := 1) rfl (by simp only [IsO_sI, IsO_sL, IsO_sR, IsO_wI, IsO_wL, IsA_sI, IsA_sL, IsA_sR, IsA_wI, IsA_wL, mR_sI, mR_sL, mR_wI, mR_wL]; assumption) ?_
      refine g_iconst dX12_copies_13 ?_
      refine g_iconst dX12_copies_14 ?_
      refine g_iload_n (j := 3) rfl dX12_copies_15 ?_
      refine g_imul dX12_copies_16 ?_
      refine g_iload (i := 4) rfl dX12_copies_17 ?_
      refine g_iadd dX12_copies_19 ?_
      refine g_imul dX12_copies_20 ?_
      refine g_iload (i := 5) rfl dX12_copies_21 ?_
      refine g_iadd dX12_copies_23 ?_
      refine g_aload_n (j := 0) rfl dX12_copies_24 ?_
      refine g_getR dX12_copies_25 flX12_15 rfl (by simp only [IsO_sI, IsO_sL, IsO_sR, IsO_wI, IsO_wL, IsA_sI, IsA_sL, IsA_sR, IsA_wI, IsA_wL, mR_sI, mR_sL, mR_wI, mR_wL]; assumption) (kz := 1) rfl (by simp only [IsO_sI, IsO_sL, IsO_sR, IsO_wI, IsO_wL, IsA_sI, IsA_sL, IsA_sR, IsA_wI, IsA_wL, mR_sI, mR_sL, mR_wI, mR_wL]; assumption) ?_
      refine g_iconst dX12_copies_28 ?_
      refine g_iconst dX12_copies_29 ?_
      refine g_iload_n (j := 1) rfl dX12_copies_30 ?_
      refine g_imul dX12_copies_31 ?_
      refine g_iload_n (j := 2) rfl dX12_copies_32 ?_
      refine g_iadd dX12_copies_33 ?_
      refine g_imul dX12_copies_34 ?_
      refine g_iload (i := 5) rfl dX12_copies_35 ?_
      refine g_iadd dX12_copies_37 ?_
      refine g_ialdv dX12_copies_38 (by simp only [IsO_sI, IsO_sL, IsO_sR, IsO_wI, IsO_wL, IsA_sI, IsA_sL, IsA_sR, IsA_wI, IsA_wL, mR_sI, mR_sL, mR_wI, mR_wL]; assumption) (by omega) (by omega) (by simp [mI_sI, mI_sL, mI_sR, mI_wI, mI_wL, mL_sI, mL_sL, mL_sR, mL_wI, mL_wL, hrd]; rfl) ?_
      refine g_iast dX12_copies_39 (by simp only [IsO_sI, IsO_sL, IsO_sR, IsO_wI, IsO_wL, IsA_sI, IsA_sL, IsA_sR, IsA_wI, IsA_wL, mR_sI, mR_sL, mR_wI, mR_wL]; assumption) (by omega) (by omega) ?_
      refine g_iinc (i := 5) dX12_copies_40 rfl (by decide) rfl ls5 ?_
      refine g_goto (tgt := 3) (by decide) dX12_copies_43 ?_
      rw [sI_wI]
      refine ih (k + 1) _ (by omega) (by omega) fun z => ?_
      show (if z = 4 * (5 * t + j) + k then _ else g z) = _
      rw [hg z]
      unfold cpF
      by_cases hz : z = 4 * (5 * t + j) + k
      · rw [if_pos hz, if_pos (by omega)]
        congr 1
        omega
      · rw [if_neg hz]
        by_cases hy : 4 * (5 * t + j) ≤ z ∧ z < 4 * (5 * t + j) + k
        · rw [if_pos hy, if_pos (by omega)]
        · rw [if_neg hy, if_neg (by omega)]
theorem c_copies (w : WC) (d : Nat) (μ : Mem) {m : Nat} (hM : MoS w μ m) {s i t j : Int} (hs : 0 ≤ s ∧ s ≤ 4) (hi : 0 ≤ i ∧ i ≤ 4) (ht : 0 ≤ t ∧ t ≤ 4) (hj : 0 ≤ j ∧ j ≤ 4) : Con w d mX12_copies 0 0 [vP (some m), vI s, vI i, vI t, vI j] μ (fun r μ2 => r = none ∧ μ2 = wI μ (m + 2) (cpF (mI μ (m + 2)) (4 * (5 * s + i)) (4 * (5 * t + j)) 4)) := by
  refine Con.of (by decide) (Nat.le_of_ble_eq_true rfl) rfl ?_
  refine g_iconst dX12_copies_0 ?_
  refine g_istore (i := 5) dX12_copies_1 (by decide) rfl ls5 ?_
  have := l_copies (d := d) hs hi ht hj hM 4 0 (mI μ (m + 2)) (by omega) (by omega) (fun z => by unfold cpF; rw [if_neg (by omega)])
  rwa [wI_eta] at this
/-- only the form that is read may be another -/
def RdX (m : Nat) (μ μ2 : Mem) : Prop := FrM m (fun a => a = m + 1 ∨ a = m + 2) (fun _ => False) μ μ2 ∧ (∀ j, ¬ j = 4 → mI μ2 (m + 1) j = mI μ (m + 1) j) ∧ ∀ j, j < 80 → mI μ2 (m + 2) j = mI μ (m + 2) j
theorem RdX.tr {μ μ2 μ3 : Mem} (h : RdX m μ μ2) (h2 : RdX m μ2 μ3) : RdX m μ μ3 := ⟨h.1.tr h2.1, fun j z => (h2.2.1 j z).trans (h.2.1 j z), fun j z => (h2.2.2 j z).trans (h.2.2 j z)⟩
theorem RdX.rf {μ : Mem} : RdX m μ μ := ⟨FrM.rf, fun _ _ => rfl, fun _ _ => rfl⟩
theorem RdX.cp {μ μ2 : Mem} {s i j : Int} (hj : 0 ≤ j ∧ j ≤ 4) (h : μ2 = wI μ (m + 2) (cpF (mI μ (m + 2)) (4 * (5 * s + i)) (4 * (5 * 4 + j)) 4)) : RdX m μ μ2 := by
  subst h
  refine ⟨FrM.wI (Or.inr rfl) (by omega), fun z _ => by rw [mI_wI, if_neg (by omega)], fun z hz => ?_⟩
  rw [mI_wI, if_pos rfl]
  unfold cpF
  rw [if_neg (by omega)]
theorem MFI.eq {μ μ2 : Mem} {s : Int} {ts : List Tm} (h : MFI μ m s ts) (h1 : mI μ2 (m + 1) s = mI μ (m + 1) s) (h2 : ∀ j, 20 * s ≤ j → j < 20 * s + 20 → mI μ2 (m + 2) j = mI μ (m + 2) j) : MFI μ2 m s ts := by
  obtain ⟨q1, q2, q3, q4⟩ := h
  refine ⟨h1.trans q1, q2, q3, fun i u hi => ?_⟩
  have hl : i < ts.length := by
    rcases Nat.lt_or_ge i ts.length with z | z
    · exact z
    · rw [List.getElem?_eq_none z] at hi; cases hi
  have := q4 i u hi
  rw [h2 _ (by omega) (by omega), h2 _ (by omega) (by omega), h2 _ (by omega) (by omega), h2 _ (by omega) (by omega)]
  exact this
theorem RdX.MA {μ μ2 : Mem} {F : Int → List Tm} (h : RdX m μ μ2) (hA : MA w μ m F) : MA w μ2 m F := by
  obtain ⟨hM, hF, ⟨l1, l2⟩, u1, u2⟩ := hA
  have hz := hM.a48.2.1
  have e21 : mI μ2 m 21 = mI μ m 21 := h.1.2.1 21 (fun z => z)
  have e23 : mI μ2 m 23 = mI μ m 23 := h.1.2.1 23 (fun z => z)
  have e4 : ∀ j, mL μ2 (m + 4) j = mL μ (m + 4) j := h.1.1.L (by omega) (by omega)
  have e5 : ∀ j, mL μ2 (m + 5) j = mL μ (m + 5) j := h.1.1.L (by omega) (by omega)
  refine ⟨h.1.Mo hM, fun s hs => (hF s hs).eq (h.2.1 s (by omega)) (fun j z1 z2 => h.2.2 j (by omega)), ⟨by rw [e21]; exact l1, ?_⟩, by rw [e23]; exact u1, ?_⟩
  · rw [e21, show mL μ2 (m + 4) = mL μ (m + 4) from funext e4]
    exact l2
  · rw [e23, show mL μ2 (m + 5) = mL μ (m + 5) from funext e5]
    exact u2
theorem l_takes {s : Int} (hs : 0 ≤ s ∧ s ≤ 3) {μ0 : Mem} (hM : MoS w μ0 m) : ∀ (n : Nat) (i : Int) (μ : Mem), i + n = 5 → 0 ≤ i → FrM m (fun a => a = m + 1 ∨ a = m + 2) (fun j => j = 21 ∨ j = 23) μ0 μ → (∀ j, ¬ (20 * s ≤ j ∧ j < 20 * s + 4 * i) → mI μ (m + 2) j = mI μ0 (m + 2) j) → (∀ j, 0 ≤ j → j < 4 * i → mI μ (m + 2) (20 * s + j) = mI μ0 (m + 2) (80 + j)) → (∀ j, mI μ (m + 1) j = if j = s then mI μ0 (m + 1) 4 else mI μ0 (m + 1) j) →
    G w (d + 1) mX12_takesOver (fun r μ2 => r = none ∧ FrM m (fun a => a = m + 1 ∨ a = m + 2) (fun j => j = 21 ∨ j = 23) μ0 μ2 ∧ (∀ j, ¬ (20 * s ≤ j ∧ j < 20 * s + 20) → mI μ2 (m + 2) j = mI μ0 (m + 2) j) ∧ (∀ j, 0 ≤ j → j < 20 → mI μ2 (m + 2) (20 * s + j) = mI μ0 (m + 2) (80 + j)) ∧ (∀ j, mI μ2 (m + 1) j = if j = s then mI μ0 (m + 1) 4 else mI μ0 (m + 1) j) ∧ mI μ2 m 21 = -1 ∧ mI μ2 m 23 = -1) 0 0 14 [some (vP (some m)), some (vI s), some (vI i)] [] μ := by
  intro n
  induction n with
  | zero =>
    intro i μ hi h0 hf h1 h2 h3
    have hM1 := hf.Mo hM
    have o0 := hM1.o
    have hi5 : i = 5 := by omega
    subst hi5
    refine g_iload_n (j := 2) rfl dX12_takesOver_14 ?_
    refine g_iconst dX12_takesOver_15 ?_
    refine g_icmp_ge (tgt := 33) dX12_takesOver_16 (by decide) (by omega) (by omega) (fun h16 => ?_) (fun h16 => ?_)
    · refine g_aload_n (j := 0) rfl dX12_takesOver_33 ?_
      refine g_iconst dX12_takesOver_34 ?_
      refine g_putI dX12_takesOver_35 fpX12_31 rfl rfl rfl (by assumption) (kz := 21) rfl ?_
      refine g_aload_n (j := 0) rfl dX12_takesOver_38 ?_
      refine g_iconst dX12_takesOver_39 ?_
      refine g_putI dX12_takesOver_40 fpX12_39 rfl rfl rfl (by simp only [IsO_sI, IsO_sL, IsO_sR, IsO_wI, IsO_wL, IsA_sI, IsA_sL, IsA_sR, IsA_wI, IsA_wL, mR_sI, mR_sL, mR_wI, mR_wL]; assumption) (kz := 23) rfl ?_
      refine G.retV dX12_takesOver_43 rfl ⟨rfl, (hf.tr (FrM.sI (Or.inl rfl))).tr (FrM.sI (Or.inr rfl)), fun j hj => ?_, fun j z1 z2 => ?_, fun j => ?_, ?_, ?_⟩
      · rw [mI_sI, if_neg (by omega), mI_sI, if_neg (by omega)]
        exact h1 j (by omega)
      · rw [mI_sI, if_neg (by omega), mI_sI, if_neg (by omega)]
        exact h2 j (by omega) (by omega)
      · rw [mI_sI, if_neg (by omega), mI_sI, if_neg (by omega)]
        exact h3 j
      · rw [mI_sI, if_neg (by omega), mI_sI, if_pos ⟨rfl, rfl⟩]
      · rw [mI_sI, if_pos ⟨rfl, rfl⟩]
    · omega
  | succ n ih =>
    intro i μ hi h0 hf h1 h2 h3
    have hM1 := hf.Mo hM
    have o0 := hM1.o
    refine g_iload_n (j := 2) rfl dX12_takesOver_14 ?_
    refine g_iconst dX12_takesOver_15 ?_
    refine g_icmp_ge (tgt := 33) dX12_takesOver_16 (by decide) (by omega) (by omega) (fun h16 => ?_) (fun h16 => ?_)
    · omega
    · refine g_aload_n (j := 0) rfl dX12_takesOver_19 ?_
      refine g_iconst dX12_takesOver_20 ?_
      refine g_iload_n (j := 2) rfl dX12_takesOver_21 ?_
      refine g_iload_n (j := 1) rfl dX12_takesOver_22 ?_
      refine g_iload_n (j := 2) rfl dX12_takesOver_23 ?_
      refine g_callV dX12_takesOver_24 mlX12_243 mvX12_copies (ci := 12) ⟨by decide, rfl⟩ (by assumption) (c_copies w d μ hM1 (s := 4) (i := i) (t := s) (j := i) (by omega) (by omega) (by omega) (by omega)) sv4 rfl (by omega) (Nat.le_of_ble_eq_true rfl) (Nat.le_refl _) (Nat.le_refl _) (fun v μ2 hR => ?_)
      obtain ⟨rfl, hm2⟩ := hR
      refine g_iinc (i := 2) dX12_takesOver_27 rfl (by decide) rfl ls2 ?_
      refine g_goto (tgt := 14) (by decide) dX12_takesOver_30 ?_
      subst hm2
      refine ih (i + 1) _ (by omega) (by omega) (hf.tr (FrM.wI (Or.inr rfl) (by omega))) (fun j hj => ?_) (fun j z1 z2 => ?_) (fun j => ?_)
      · rw [mI_wI, if_pos rfl]
        unfold cpF
        rw [if_neg (by omega)]
        exact h1 j (by omega)
      · rw [mI_wI, if_pos rfl]
        unfold cpF
        by_cases hz : 4 * i ≤ j
        · rw [if_pos (by omega), h1 _ (by omega)]
          congr 1
          omega
        · rw [if_neg (by omega)]
          exact h2 j z1 (by omega)
      · rw [mI_wI, if_neg (by omega)]
        exact h3 j
theorem c_takesOver (w : WC) (d : Nat) (μ : Mem) {m : Nat} {F : Int → List Tm} (hA : MA w μ m F) {s : Int} (hs : 0 ≤ s ∧ s ≤ 3) {ts : List Tm} (hR : MFI μ m 4 ts) : Con w (d + 1) mX12_takesOver 0 0 [vP (some m), vI s] μ (fun r μ2 => r = none ∧ MA w μ2 m (fmF F s ts) ∧ FrM m (fun a => a = m + 1 ∨ a = m + 2) (fun j => j = 21 ∨ j = 23) μ μ2 ∧ mI μ2 (m + 1) s = ts.length) := by
  have hM := hA.1
  have o0 := hM.o
  have r0 := hM.r0
  have a0 := hM.a0
  refine Con.of (by decide) (Nat.le_of_ble_eq_true rfl) rfl ?_
  refine g_aload_n (j := 0) rfl dX12_takesOver_0 ?_
  refine g_getR dX12_takesOver_1 flX12_9 rfl (by assumption) (kz := 0) rfl (by assumption) ?_
  refine g_iload_n (j := 1) rfl dX12_takesOver_4 ?_
  refine g_aload_n (j := 0) rfl dX12_takesOver_5 ?_
  refine g_getR dX12_takesOver_6 flX12_9 rfl (by assumption) (kz := 0) rfl (by assumption) ?_
  refine g_iconst dX12_takesOver_9 ?_
  refine g_iald dX12_takesOver_10 (by assumption) (by omega) (by omega) ?_
  refine g_iast dX12_takesOver_11 (by assumption) (by omega) (by omega) ?_
  refine g_iconst dX12_takesOver_12 ?_
  refine g_istore_n (j := 2) dX12_takesOver_13 (by decide) rfl ls2 ?_
  refine G.post (fun r μ2 hq => ?_) (l_takes (d := d) hs hM 5 0 (sI μ (m + 1) s (mI μ (m + 1) 4)) (by omega) (by omega) (FrM.sIr (Or.inl rfl) (by omega)) (fun j _ => by rw [mI_sI, if_neg (by omega)]) (fun j z1 z2 => by omega) (fun j => by rw [mI_sI]; by_cases hj : j = s <;> simp [hj]))
  obtain ⟨q0, q1, q2, q3, q4, q5, q6⟩ := hq
  have hl : mI μ2 (m + 1) s = ts.length := by rw [q4 s, if_pos rfl]; exact hR.1
  refine ⟨q0, ⟨q1.Mo hM, fun t ht => ?_, ⟨by omega, fun z => by omega⟩, by omega, fun z => by omega⟩, q1, hl⟩
  by_cases hts : t = s
  · subst hts
    rw [fmF_self]
    obtain ⟨g1, g2, g3, g4⟩ := hR
    refine ⟨hl, g2, g3, fun i u hi => ?_⟩
    have hll : i < ts.length := by
      rcases Nat.lt_or_ge i ts.length with z | z
      · exact z
      · rw [List.getElem?_eq_none z] at hi; cases hi
    have := g4 i u hi
    rw [show 4 * (5 * t + (i : Int)) + 0 = 20 * t + (4 * i + 0) by omega, show 4 * (5 * t + (i : Int)) + 1 = 20 * t + (4 * i + 1) by omega, show 4 * (5 * t + (i : Int)) + 2 = 20 * t + (4 * i + 2) by omega, show 4 * (5 * t + (i : Int)) + 3 = 20 * t + (4 * i + 3) by omega, q3 _ (by omega) (by omega), q3 _ (by omega) (by omega), q3 _ (by omega) (by omega), q3 _ (by omega) (by omega)]
    rw [show 4 * (5 * 4 + (i : Int)) + 0 = 80 + (4 * i + 0) by omega, show 4 * (5 * 4 + (i : Int)) + 1 = 80 + (4 * i + 1) by omega, show 4 * (5 * 4 + (i : Int)) + 2 = 80 + (4 * i + 2) by omega, show 4 * (5 * 4 + (i : Int)) + 3 = 80 + (4 * i + 3) by omega] at this
    exact this
  · rw [fmF_ne F ts hts]
    exact (hA.2.1 t ht).eq (by rw [q4 t, if_neg hts]) fun j z1 z2 => q2 j (by omega)
/-- k of the terms ts are read -/
def RdT (μ : Mem) (m : Nat) (ts : List Tm) (k : Nat) : Prop := ∀ i : Nat, i < k → ∀ u, ts[i]? = some u → TmM μ m 4 i u
theorem RdT.cp {μ μ2 : Mem} {ts : List Tm} {k : Nat} (h : RdT μ m ts k) (hk : k < 5) {s i : Int} {u : Tm} (hu : ts[k]? = some u) (hv : TmM μ m s i u) (h2 : μ2 = wI μ (m + 2) (cpF (mI μ (m + 2)) (4 * (5 * s + i)) (4 * (5 * 4 + (k : Int))) 4)) : RdT μ2 m ts (k + 1) := by
  subst h2
  intro j hj v hjv
  unfold TmM cpF
  simp only [mI_wI, if_true]
  by_cases hjk : j = k
  · subst hjk
    cases hu.symm.trans hjv
    rw [if_pos (by omega), if_pos (by omega), if_pos (by omega), if_pos (by omega)]
    obtain ⟨e1, e2, e3, e4⟩ := hv
    refine ⟨?_, ?_, ?_, ?_⟩
    · rw [← e1]; congr 1; omega
    · rw [← e2]; congr 1; omega
    · rw [← e3]; congr 1; omega
    · rw [← e4]; congr 1; omega
  · rw [if_neg (by omega), if_neg (by omega), if_neg (by omega), if_neg (by omega)]
    exact h j (by omega) v hjv
theorem RdT.all {μ : Mem} {ts : List Tm} (h : RdT μ m ts ts.length) (hn : mI μ (m + 1) 4 = ts.length) (h5 : ts.length ≤ 5) (hok : ∀ u ∈ ts, TOk u) : MFI μ m 4 ts := ⟨hn, h5, hok, fun i u hi => h i (by
  rcases Nat.lt_or_ge i ts.length with z | z
  · exact z
  · rw [List.getElem?_eq_none z] at hi; cases hi) u hi⟩
end CM
def FrJ (m : Nat) : Mem → Mem → Prop := FrM m (fun a => a = m + 1 ∨ a = m + 2) (fun j => j = 21 ∨ j = 23)
theorem RdX.J {m : Nat} {μ μ2 : Mem} (h : RdX m μ μ2) : FrJ m μ μ2 := h.1.mono (fun _ z => z) (fun _ z => z.elim)
/-- the form at READ becomes the slot's -/
theorem fin_takes (w : WC) (d : Nat) {μ0 μ : Mem} {m : Nat} {F : Int → List Tm} (hA : MA w μ0 m F) (hX : RdX m μ0 μ) {s : Int} (hs : 0 ≤ s ∧ s ≤ 3) {ts : List Tm} (hT : RdT μ m ts ts.length) (hn : mI μ (m + 1) 4 = ts.length) (h5 : ts.length ≤ 5) (hok : ∀ u ∈ ts, TOk u) : Con w (d + 1) mX12_takesOver 0 0 [vP (some m), vI s] μ (fun r μ2 => r = none ∧ MA w μ2 m (fmF F s ts) ∧ FrJ m μ0 μ2) :=
  (c_takesOver w d μ (hX.MA hA) hs (hT.all hn h5 hok)).post fun _ _ h => ⟨h.1, h.2.1, hX.J.tr h.2.2.1⟩

theorem l12_join1 {w : WC} {d : Nat} {R : Option AV → Mem → Prop} {m : Nat} {F : Int → List Tm} {μ0 : Mem} (hA : MA w μ0 m F) {s s2 s3 : Int} (hs : 0 ≤ s ∧ s ≤ 3) {ts : List Tm} (hts : ∀ k : Nat, k < (F s).length → ts[k]? = (F s)[k]?) {e : Nat} (he : (e : Int) = (F s).length) (he5 : e ≤ 5)
    (kk : ∀ μ, RdX m μ0 μ → RdT μ m ts e → mI μ (m + 1) 4 = mI μ0 (m + 1) 4 → G w (d + 1) mX12_join R 0 0 96 [some (vP (some m)), some (vI s), some (vI s2), some (vI s3), some (vI (e : Int))] [] μ) : ∀ (n : Nat) (k : Nat) (μ : Mem), k + n = e → RdX m μ0 μ → RdT μ m ts k → mI μ (m + 1) 4 = mI μ0 (m + 1) 4 →
    G w (d + 1) mX12_join R 0 0 69 [some (vP (some m)), some (vI s), some (vI s2), some (vI s3), some (vI (k : Int))] [] μ := by
  intro n
  induction n with
  | zero =>
    intro k μ hk hX hT h4
    have hke : k = e := by omega
    subst hke
    have hA1 := hX.MA hA
    have o0 := hA1.o
    have r0 := hA1.1.r0
    have a0 := hA1.1.a0
    have ec := (hA1.2.1 s hs).1
    refine g_iload (i := 4) rfl dX12_join_69 ?_
    refine g_aload_n (j := 0) rfl dX12_join_71 ?_
    refine g_getR dX12_join_72 flX12_9 rfl (by assumption) (kz := 0) rfl (by assumption) ?_
    refine g_iload_n (j := 1) rfl dX12_join_75 ?_
    refine g_iald dX12_join_76 (by assumption) (by omega) (by omega) ?_
    refine g_icmp_ge (tgt := 96) dX12_join_77 (by decide) (by omega) (by omega) (fun h77 => ?_) (fun h77 => ?_)
    · exact kk μ hX hT h4
    · omega
  | succ n ih =>
    intro k μ hk hX hT h4
    have hA1 := hX.MA hA
    have o0 := hA1.o
    have r0 := hA1.1.r0
    have a0 := hA1.1.a0
    have ec := (hA1.2.1 s hs).1
    refine g_iload (i := 4) rfl dX12_join_69 ?_
    refine g_aload_n (j := 0) rfl dX12_join_71 ?_
    refine g_getR dX12_join_72 flX12_9 rfl (by assumption) (kz := 0) rfl (by assumption) ?_
    refine g_iload_n (j := 1) rfl dX12_join_75 ?_
    refine g_iald dX12_join_76 (by assumption) (by omega) (by omega) ?_
    refine g_icmp_ge (tgt := 96) dX12_join_77 (by decide) (by omega) (by omega) (fun h77 => ?_) (fun h77 => ?_)
    · omega
    · refine g_aload_n (j := 0) rfl dX12_join_80 ?_
      refine g_iload_n (j := 1) rfl dX12_join_81 ?_
      refine g_iload (i := 4) rfl dX12_join_82 ?_
      refine g_iconst dX12_join_84 ?_
      refine g_iload (i := 4) rfl dX12_join_85 ?_
      refine g_callV dX12_join_87 mlX12_243 mvX12_copies (ci := 12) ⟨by decide, rfl⟩ (by assumption) (c_copies w d μ hA1.1 (s := s) (i := (k : Int)) (t := 4) (j := (k : Int)) (by omega) (by omega) (by omega) (by omega)) sv4 rfl (by omega) (Nat.le_of_ble_eq_true rfl) (Nat.le_refl _) (Nat.le_refl _) (fun v μ2 hR => ?_)
      obtain ⟨rfl, hm2⟩ := hR
      refine g_iinc (i := 4) dX12_join_90 rfl (by decide) rfl ls4 ?_
      refine g_goto (tgt := 69) (by decide) dX12_join_93 ?_
      refine ih (k + 1) μ2 (by omega) (hX.tr (RdX.cp (by omega) hm2)) (by
        obtain ⟨u, hu, hku, g1, g2, g3, g4⟩ := (hA1.2.1 s hs).at (t := (k : Int)) (by omega) (by omega)
        exact hT.cp (by omega) (by rw [hts k (by omega)]; exact hu) ⟨g1, g2, g3, g4⟩ hm2) ?_
      rw [hm2, mI_wI, if_neg (by omega)]
      exact h4
theorem l12_join2 {w : WC} {d : Nat} {R : Option AV → Mem → Prop} {m : Nat} {F : Int → List Tm} {μ0 : Mem} (hA : MA w μ0 m F) {s s2 s3 : Int} (hs : 0 ≤ s ∧ s ≤ 3) (hs2 : 0 ≤ s2 ∧ s2 ≤ 3) (h5s : (F s).length + (F s2).length ≤ 5) {ts : List Tm} (hts : ∀ k : Nat, k < (F s2).length → ts[(F s).length + k]? = (F s2)[k]?) {e : Nat} (he : (e : Int) = (F s2).length) (he5 : e ≤ 5)
    (kk : ∀ μ, RdX m μ0 μ → RdT μ m ts ((F s).length + e) → mI μ (m + 1) 4 = mI μ0 (m + 1) 4 → G w (d + 1) mX12_join R 0 0 133 [some (vP (some m)), some (vI s), some (vI s2), some (vI s3), some (vI (e : Int))] [] μ) : ∀ (n : Nat) (k : Nat) (μ : Mem), k + n = e → RdX m μ0 μ → RdT μ m ts ((F s).length + k) → mI μ (m + 1) 4 = mI μ0 (m + 1) 4 →
    G w (d + 1) mX12_join R 0 0 99 [some (vP (some m)), some (vI s), some (vI s2), some (vI s3), some (vI (k : Int))] [] μ := by
  intro n
  induction n with
  | zero =>
    intro k μ hk hX hT h4
    have hke : k = e := by omega
    subst hke
    have hA1 := hX.MA hA
    have o0 := hA1.o
    have r0 := hA1.1.r0
    have a0 := hA1.1.a0
    have ec := (hA1.2.1 s hs).1
    have ec2 := (hA1.2.1 s2 hs2).1
    refine g_iload (i := 4) rfl dX12_join_99 ?_
    refine g_aload_n (j := 0) rfl dX12_join_101 ?_
    refine g_getR dX12_join_102 flX12_9 rfl (by assumption) (kz := 0) rfl (by assumption) ?_
    refine g_iload_n (j := 2) rfl dX12_join_105 ?_
    refine g_iald dX12_join_106 (by assumption) (by omega) (by omega) ?_
    refine g_icmp_ge (tgt := 133) dX12_join_107 (by decide) (by omega) (by omega) (fun h107 => ?_) (fun h107 => ?_)
    · exact kk μ hX hT h4
    · omega
  | succ n ih =>
    intro k μ hk hX hT h4
    have hA1 := hX.MA hA
    have o0 := hA1.o
    have r0 := hA1.1.r0
    have a0 := hA1.1.a0
    have ec := (hA1.2.1 s hs).1
    have ec2 := (hA1.2.1 s2 hs2).1
    refine g_iload (i := 4) rfl dX12_join_99 ?_
    refine g_aload_n (j := 0) rfl dX12_join_101 ?_
    refine g_getR dX12_join_102 flX12_9 rfl (by assumption) (kz := 0) rfl (by assumption) ?_
    refine g_iload_n (j := 2) rfl dX12_join_105 ?_
    refine g_iald dX12_join_106 (by assumption) (by omega) (by omega) ?_
    refine g_icmp_ge (tgt := 133) dX12_join_107 (by decide) (by omega) (by omega) (fun h107 => ?_) (fun h107 => ?_)
    · omega
    · refine g_aload_n (j := 0) rfl dX12_join_110 ?_
      refine g_iload_n (j := 2) rfl dX12_join_111 ?_
      refine g_iload (i := 4) rfl dX12_join_112 ?_
      refine g_iconst dX12_join_114 ?_
      refine g_aload_n (j := 0) rfl dX12_join_115 ?_
      refine g_getR dX12_join_116 flX12_9 rfl (by assumption) (kz := 0) rfl (by assumption) ?_
      refine g_iload_n (j := 1) rfl dX12_join_119 ?_
      refine g_iald dX12_join_120 (by assumption) (by omega) (by omega) ?_
      refine g_iload (i := 4) rfl dX12_join_121 ?_
      refine g_iadd dX12_join_123 ?_
      refine g_callV dX12_join_124 mlX12_243 mvX12_copies (ci := 12) ⟨by decide, rfl⟩ (by assumption) (c_copies w d μ hA1.1 (s := s2) (i := (k : Int)) (t := 4) (j := mI μ (m + 1) s + (k : Int)) (by omega) (by omega) (by omega) (by omega)) sv4 rfl (by omega) (Nat.le_of_ble_eq_true rfl) (Nat.le_refl _) (Nat.le_refl _) (fun v μ2 hR => ?_)
      obtain ⟨rfl, hm2⟩ := hR
      refine g_iinc (i := 4) dX12_join_127 rfl (by decide) rfl ls4 ?_
      refine g_goto (tgt := 99) (by decide) dX12_join_130 ?_
      refine ih (k + 1) μ2 (by omega) (hX.tr (RdX.cp (j := mI μ (m + 1) s + (k : Int)) (by omega) hm2)) (by
        obtain ⟨u, hu, hku, g1, g2, g3, g4⟩ := (hA1.2.1 s2 hs2).at (t := (k : Int)) (by omega) (by omega)
        exact hT.cp (by omega) (by rw [hts k (by omega)]; exact hu) ⟨g1, g2, g3, g4⟩ (by rw [hm2, ec]; congr 2)) ?_
      rw [hm2, mI_wI, if_neg (by omega)]
      exact h4
theorem c_X12_join (w : WC) (d : Nat) (μ : Mem) {m : Nat} {F : Int → List Tm} (hA : MA w μ m F) {s s2 s3 : Int} (hs : i32 s) (hs2 : i32 s2) (hs3 : i32 s3) : Con w (d + 2) mX12_join 0 0 [vP (some m), vI s, vI s2, vI s3] μ (fun v μ2 => ∃ P : Prop, (P ↔ ((0 ≤ s ∧ s ≤ 3) ∧ (0 ≤ s2 ∧ s2 ≤ 3) ∧ (0 ≤ s3 ∧ s3 ≤ 3) ∧ 1 ≤ (F s).length + (F s2).length ∧ (F s).length + (F s2).length ≤ 5)) ∧ v = some (vI (bI P)) ∧ ((P ∧ MA w μ2 m (fmF F s3 (F s ++ F s2)) ∧ FrJ m μ μ2) ∨ (¬ P ∧ μ2 = μ))) := by
  have o0 := hA.o
  have r0 := hA.1.r0
  have a0 := hA.1.a0
  refine Con.of (by decide) (Nat.le_of_ble_eq_true rfl) rfl ?_
  refine g_iload_n (j := 1) rfl dX12_join_0 ?_
  refine g_callS dX12_join_1 mlX12_111 msX12_isSlot (c_X12_isSlot w d μ hs) sk1 rfl (by omega) (Nat.le_of_ble_eq_true rfl) (Nat.le_refl _) (Nat.le_refl _) (fun v μ2 hR => ?_)
  obtain ⟨rfl, hm⟩ := hR
  replace hm := hm.symm
  subst hm
  refine g_ifb_eq (tgt := 45) dX12_join_4 (by decide)  (fun h4 => ?_) (fun h4 => ?_)
  · refine g_iconst dX12_join_45 ?_
    exact G.retZ dX12_join_46 rfl (Or.inl rfl) ⟨False, ⟨fun z => z.elim, fun z => by omega⟩, by rw [bI_0 (fun z => z)], Or.inr ⟨fun z => z, rfl⟩⟩
  · refine g_iload_n (j := 2) rfl dX12_join_7 ?_
    refine g_callS dX12_join_8 mlX12_111 msX12_isSlot (c_X12_isSlot w d μ hs2) sk1 rfl (by omega) (Nat.le_of_ble_eq_true rfl) (Nat.le_refl _) (Nat.le_refl _) (fun v μ2 hR => ?_)
    obtain ⟨rfl, hm⟩ := hR
    replace hm := hm.symm
    subst hm
    refine g_ifb_eq (tgt := 45) dX12_join_11 (by decide)  (fun h11 => ?_) (fun h11 => ?_)
    · refine g_iconst dX12_join_45 ?_
      exact G.retZ dX12_join_46 rfl (Or.inl rfl) ⟨False, ⟨fun z => z.elim, fun z => by omega⟩, by rw [bI_0 (fun z => z)], Or.inr ⟨fun z => z, rfl⟩⟩
    · refine g_iload_n (j := 3) rfl dX12_join_14 ?_
      refine g_callS dX12_join_15 mlX12_111 msX12_isSlot (c_X12_isSlot w d μ hs3) sk1 rfl (by omega) (Nat.le_of_ble_eq_true rfl) (Nat.le_refl _) (Nat.le_refl _) (fun v μ2 hR => ?_)
      obtain ⟨rfl, hm⟩ := hR
      replace hm := hm.symm
      subst hm
      refine g_ifb_eq (tgt := 45) dX12_join_18 (by decide)  (fun h18 => ?_) (fun h18 => ?_)
      · refine g_iconst dX12_join_45 ?_
        exact G.retZ dX12_join_46 rfl (Or.inl rfl) ⟨False, ⟨fun z => z.elim, fun z => by omega⟩, by rw [bI_0 (fun z => z)], Or.inr ⟨fun z => z, rfl⟩⟩
      · have ec := (hA.2.1 s h4).1
        have ec2 := (hA.2.1 s2 h11).1
        have hl1 := hA.l5 h4
        have hl2 := hA.l5 h11
        refine g_aload_n (j := 0) rfl dX12_join_21 ?_
        refine g_getR dX12_join_22 flX12_9 rfl (by assumption) (kz := 0) rfl (by assumption) ?_
        refine g_iload_n (j := 1) rfl dX12_join_25 ?_
        refine g_iald dX12_join_26 (by assumption) (by omega) (by omega) ?_
        refine g_aload_n (j := 0) rfl dX12_join_27 ?_
        refine g_getR dX12_join_28 flX12_9 rfl (by assumption) (kz := 0) rfl (by assumption) ?_
        refine g_iload_n (j := 2) rfl dX12_join_31 ?_
        refine g_iald dX12_join_32 (by assumption) (by omega) (by omega) ?_
        refine g_iadd dX12_join_33 ?_
        refine g_i2l (by omega) dX12_join_34 ?_
        refine g_lconst1 dX12_join_35 ?_
        refine g_ldc2 dX12_join_36 klX12_440 (z := 5) rfl ?_
        refine g_callS dX12_join_39 mlX12_105 msX12_isIn (c_X12_isIn w (d + 1) μ (x := mI μ (m + 1) s + mI μ (m + 1) s2) (a := 1) (b := 5) (by omega) (by omega) (by omega)) sk3 rfl (by omega) (Nat.le_of_ble_eq_true rfl) (Nat.le_refl _) (Nat.le_refl _) (fun v μ2 hR => ?_)
        obtain ⟨rfl, hm⟩ := hR
        replace hm := hm.symm
        subst hm
        refine g_ifb_ne (tgt := 47) dX12_join_42 (by decide)  (fun h42 => ?_) (fun h42 => ?_)
        · refine g_aload_n (j := 0) rfl dX12_join_47 ?_
          refine g_getR dX12_join_48 flX12_9 rfl (by assumption) (kz := 0) rfl (by assumption) ?_
          refine g_iconst dX12_join_51 ?_
          refine g_aload_n (j := 0) rfl dX12_join_52 ?_
          refine g_getR dX12_join_53 flX12_9 rfl (by assumption) (kz := 0) rfl (by assumption) ?_
          refine g_iload_n (j := 1) rfl dX12_join_56 ?_
          refine g_iald dX12_join_57 (by assumption) (by omega) (by omega) ?_
          refine g_aload_n (j := 0) rfl dX12_join_58 ?_
          refine g_getR dX12_join_59 flX12_9 rfl (by assumption) (kz := 0) rfl (by assumption) ?_
          refine g_iload_n (j := 2) rfl dX12_join_62 ?_
          refine g_iald dX12_join_63 (by assumption) (by omega) (by omega) ?_
          refine g_iadd dX12_join_64 ?_
          refine g_iast dX12_join_65 (by assumption) (by omega) (by omega) ?_
          refine g_iconst dX12_join_66 ?_
          refine g_istore (i := 4) dX12_join_67 (by decide) rfl ls4 ?_
          have hX : RdX m μ (sI μ (m + 1) 4 (mI μ (m + 1) s + mI μ (m + 1) s2)) := ⟨FrM.sIr (Or.inl rfl) (by omega), fun j hj => by rw [mI_sI, if_neg (by omega)], fun j hj => by rw [mI_sI, if_neg (by omega)]⟩
          have e4 : mI (sI μ (m + 1) 4 (mI μ (m + 1) s + mI μ (m + 1) s2)) (m + 1) 4 = (F s ++ F s2).length := by rw [mI_sI, if_pos ⟨rfl, rfl⟩, ec, ec2, List.length_append]; omega
          refine l12_join1 (hX.MA hA) h4 (ts := F s ++ F s2) (fun k hk => by rw [List.getElem?_append_left hk]) (e := (F s).length) rfl hl1 (fun μ1 hX1 hT1 q1 => ?_) (F s).length 0 _ (by omega) RdX.rf (fun i hi => by omega) rfl
          refine g_iconst dX12_join_96 ?_
          refine g_istore (i := 4) dX12_join_97 (by decide) rfl ls4 ?_
          refine l12_join2 ((hX.tr hX1).MA hA) h4 h11 (by omega) (ts := F s ++ F s2) (fun k hk => by rw [List.getElem?_append_right (by omega)]; congr 1; omega) (e := (F s2).length) rfl hl2 (fun μ2 hX2 hT2 q2 => ?_) (F s2).length 0 _ (by omega) RdX.rf (by simpa using hT1) rfl
          have oM := (((hX.tr hX1).tr hX2).MA hA).o
          refine g_aload_n (j := 0) rfl dX12_join_133 ?_
          refine g_iload_n (j := 3) rfl dX12_join_134 ?_
          refine g_callV dX12_join_135 mlX12_259 mvX12_takesOver (ci := 12) ⟨by decide, rfl⟩ (by assumption) (fin_takes w d hA ((hX.tr hX1).tr hX2) (s := s3) (by omega) (ts := F s ++ F s2) (by rw [List.length_append]; exact hT2) (by rw [q2, q1, e4]) (by rw [List.length_append]; omega) (fun u hu => (List.mem_append.mp hu).elim (hA.ok h4 u) (hA.ok h11 u))) sv1 rfl (by omega) (Nat.le_of_ble_eq_true rfl) (Nat.le_refl _) (Nat.le_refl _) (fun v μ3 hR => ?_)
          obtain ⟨rfl, hA3, hf3⟩ := hR
          refine g_iconst dX12_join_138 ?_
          exact G.retZ dX12_join_139 rfl (Or.inr rfl) ⟨True, ⟨fun _ => ⟨h4, h11, h18, by omega, by omega⟩, fun _ => trivial⟩, by rw [bI_1 trivial], Or.inl ⟨trivial, hA3, hf3⟩⟩
        · refine g_iconst dX12_join_45 ?_
          exact G.retZ dX12_join_46 rfl (Or.inl rfl) ⟨False, ⟨fun z => z.elim, fun z => by omega⟩, by rw [bI_0 (fun z => z)], Or.inr ⟨fun z => z, rfl⟩⟩
theorem l12_drop {w : WC} {d : Nat} {R : Option AV → Mem → Prop} {m : Nat} {F : Int → List Tm} {μ0 : Mem} (hA : MA w μ0 m F) {s i : Int} (hs : 0 ≤ s ∧ s ≤ 3) (hi : 0 ≤ i ∧ i < (F s).length) {ts : List Tm} (h0 : mI μ0 (m + 1) 4 = (F s).length - 1) (hts : ∀ k : Nat, ts[k]? = if k < i.toNat then (F s)[k]? else (F s)[k + 1]?) {e : Nat} (he : (e : Int) = (F s).length - 1) (he5 : e ≤ 5)
    (kk : ∀ μ, RdX m μ0 μ → RdT μ m ts e → mI μ (m + 1) 4 = mI μ0 (m + 1) 4 → G w (d + 1) mX12_drop R 0 0 62 [some (vP (some m)), some (vI s), some (vI i), some (vI (e : Int))] [] μ) : ∀ (n : Nat) (k : Nat) (μ : Mem), k + n = e → RdX m μ0 μ → RdT μ m ts k → mI μ (m + 1) 4 = mI μ0 (m + 1) 4 →
    G w (d + 1) mX12_drop R 0 0 27 [some (vP (some m)), some (vI s), some (vI i), some (vI (k : Int))] [] μ := by
  intro n
  induction n with
  | zero =>
    intro k μ hk hX hT h4
    have hke : k = e := by omega
    subst hke
    have hA1 := hX.MA hA
    have o0 := hA1.o
    have r0 := hA1.1.r0
    have a0 := hA1.1.a0
    have ec := (hA1.2.1 s hs).1
    have hl := hA1.l5 hs
    refine g_iload_n (j := 3) rfl dX12_drop_27 ?_
    refine g_aload_n (j := 0) rfl dX12_drop_28 ?_
    refine g_getR dX12_drop_29 flX12_9 rfl (by assumption) (kz := 0) rfl (by assumption) ?_
    refine g_iconst dX12_drop_32 ?_
    refine g_iald dX12_drop_33 (by assumption) (by omega) (by omega) ?_
    refine g_icmp_ge (tgt := 62) dX12_drop_34 (by decide) (by omega) (by omega) (fun h34 => ?_) (fun h34 => ?_)
    · exact kk μ hX hT h4
    · omega
  | succ n ih =>
    intro k μ hk hX hT h4
    have hA1 := hX.MA hA
    have o0 := hA1.o
    have r0 := hA1.1.r0
    have a0 := hA1.1.a0
    have ec := (hA1.2.1 s hs).1
    have hl := hA1.l5 hs
    refine g_iload_n (j := 3) rfl dX12_drop_27 ?_
    refine g_aload_n (j := 0) rfl dX12_drop_28 ?_
    refine g_getR dX12_drop_29 flX12_9 rfl (by assumption) (kz := 0) rfl (by assumption) ?_
    refine g_iconst dX12_drop_32 ?_
    refine g_iald dX12_drop_33 (by assumption) (by omega) (by omega) ?_
    refine g_icmp_ge (tgt := 62) dX12_drop_34 (by decide) (by omega) (by omega) (fun h34 => ?_) (fun h34 => ?_)
    · omega
    · refine g_aload_n (j := 0) rfl dX12_drop_37 ?_
      refine g_iload_n (j := 1) rfl dX12_drop_38 ?_
      refine g_iload_n (j := 3) rfl dX12_drop_39 ?_
      refine g_iload_n (j := 2) rfl dX12_drop_40 ?_
      refine g_icmp_ge (tgt := 48) dX12_drop_41 (by decide) (by omega) (by omega) (fun h41 => ?_) (fun h41 => ?_)
      · refine g_iload_n (j := 3) rfl dX12_drop_48 ?_
        refine g_iconst dX12_drop_49 ?_
        refine g_iadd dX12_drop_50 ?_
        refine g_iconst dX12_drop_51 ?_
        refine g_iload_n (j := 3) rfl dX12_drop_52 ?_
        refine g_callV dX12_drop_53 mlX12_243 mvX12_copies (ci := 12) ⟨by decide, rfl⟩ (by assumption) (c_copies w d μ hA1.1 (s := s) (i := ((k : Int) + 1)) (t := 4) (j := (k : Int)) (by omega) (by omega) (by omega) (by omega)) sv4 rfl (by omega) (Nat.le_of_ble_eq_true rfl) (Nat.le_refl _) (Nat.le_refl _) (fun v μ2 hR => ?_)
        obtain ⟨rfl, hm2⟩ := hR
        refine g_iinc (i := 3) dX12_drop_56 rfl (by decide) rfl ls3 ?_
        refine g_goto (tgt := 27) (by decide) dX12_drop_59 ?_
        refine ih (k + 1) μ2 (by omega) (hX.tr (RdX.cp (by omega) hm2)) (by
          obtain ⟨u, hu, hku, g1, g2, g3, g4⟩ := (hA1.2.1 s hs).at (t := ((k : Int) + 1)) (by omega) (by omega)
          exact hT.cp (by omega) (by rw [hts k]; first | (rw [if_pos (by omega)]; exact hu) | (rw [if_neg (by omega)]; exact hu)) ⟨g1, g2, g3, g4⟩ hm2) ?_
        rw [hm2, mI_wI, if_neg (by omega)]
        exact h4
      · refine g_iload_n (j := 3) rfl dX12_drop_44 ?_
        refine g_goto (tgt := 51) (by decide) dX12_drop_45 ?_
        refine g_iconst dX12_drop_51 ?_
        refine g_iload_n (j := 3) rfl dX12_drop_52 ?_
        refine g_callV dX12_drop_53 mlX12_243 mvX12_copies (ci := 12) ⟨by decide, rfl⟩ (by assumption) (c_copies w d μ hA1.1 (s := s) (i := (k : Int)) (t := 4) (j := (k : Int)) (by omega) (by omega) (by omega) (by omega)) sv4 rfl (by omega) (Nat.le_of_ble_eq_true rfl) (Nat.le_refl _) (Nat.le_refl _) (fun v μ2 hR => ?_)
        obtain ⟨rfl, hm2⟩ := hR
        refine g_iinc (i := 3) dX12_drop_56 rfl (by decide) rfl ls3 ?_
        refine g_goto (tgt := 27) (by decide) dX12_drop_59 ?_
        refine ih (k + 1) μ2 (by omega) (hX.tr (RdX.cp (by omega) hm2)) (by
          obtain ⟨u, hu, hku, g1, g2, g3, g4⟩ := (hA1.2.1 s hs).at (t := (k : Int)) (by omega) (by omega)
          exact hT.cp (by omega) (by rw [hts k]; first | (rw [if_pos (by omega)]; exact hu) | (rw [if_neg (by omega)]; exact hu)) ⟨g1, g2, g3, g4⟩ hm2) ?_
        rw [hm2, mI_wI, if_neg (by omega)]
        exact h4
theorem c_X12_drop (w : WC) (d : Nat) (μ : Mem) {m : Nat} {F : Int → List Tm} (hA : MA w μ m F) {s i : Int} (hs : i32 s) (hi : i32 i) : Con w (d + 3) mX12_drop 0 0 [vP (some m), vI s, vI i] μ (fun v μ2 => v = some (vI (bI (HasI F s i))) ∧ ((HasI F s i ∧ MA w μ2 m (fmF F s ((F s).eraseIdx i.toNat)) ∧ FrJ m μ μ2) ∨ (¬ HasI F s i ∧ μ2 = μ))) := by
  have o0 := hA.o
  have r0 := hA.1.r0
  have a0 := hA.1.a0
  refine Con.of (by decide) (Nat.le_of_ble_eq_true rfl) rfl ?_
  refine g_aload_n (j := 0) rfl dX12_drop_0 ?_
  refine g_iload_n (j := 1) rfl dX12_drop_1 ?_
  refine g_iload_n (j := 2) rfl dX12_drop_2 ?_
  refine g_callV dX12_drop_3 mlX12_313 mvX12_isTerm (ci := 12) ⟨by decide, rfl⟩ (by assumption) (c_X12_isTerm w d μ hA hs hi) sv2 rfl (by omega) (Nat.le_of_ble_eq_true rfl) (Nat.le_refl _) (Nat.le_refl _) (fun v μ2 hR => ?_)
  obtain ⟨rfl, hm⟩ := hR
  replace hm := hm.symm
  subst hm
  refine g_ifb_ne (tgt := 11) dX12_drop_6 (by decide)  (fun h6 => ?_) (fun h6 => ?_)
  · have hs4 := h6.1
    have hi4 := h6.2
    have ec := (hA.2.1 s h6.1).1
    have hl1 := hA.l5 h6.1
    refine g_aload_n (j := 0) rfl dX12_drop_11 ?_
    refine g_getR dX12_drop_12 flX12_9 rfl (by assumption) (kz := 0) rfl (by assumption) ?_
    refine g_iconst dX12_drop_15 ?_
    refine g_aload_n (j := 0) rfl dX12_drop_16 ?_
    refine g_getR dX12_drop_17 flX12_9 rfl (by assumption) (kz := 0) rfl (by assumption) ?_
    refine g_iload_n (j := 1) rfl dX12_drop_20 ?_
    refine g_iald dX12_drop_21 (by assumption) (by omega) (by omega) ?_
    refine g_iconst dX12_drop_22 ?_
    refine g_isub dX12_drop_23 ?_
    refine g_iast dX12_drop_24 (by assumption) (by omega) (by omega) ?_
    refine g_iconst dX12_drop_25 ?_
    refine g_istore_n (j := 3) dX12_drop_26 (by decide) rfl ls3 ?_
    have hX : RdX m μ (sI μ (m + 1) 4 (mI μ (m + 1) s - 1)) := ⟨FrM.sIr (Or.inl rfl) (by omega), fun j hj => by rw [mI_sI, if_neg (by omega)], fun j hj => by rw [mI_sI, if_neg (by omega)]⟩
    have hel : ((F s).eraseIdx i.toNat).length = (F s).length - 1 := by rw [List.length_eraseIdx, if_pos (by omega)]
    have e4 : mI (sI μ (m + 1) 4 (mI μ (m + 1) s - 1)) (m + 1) 4 = (F s).length - 1 := by rw [mI_sI, if_pos ⟨rfl, rfl⟩, ec]
    refine l12_drop (d := d + 2) (hX.MA hA) hs4 hi4 (ts := (F s).eraseIdx i.toNat) e4 (fun k => by rw [List.getElem?_eraseIdx]) (e := (F s).length - 1) (by omega) (by omega) (fun μ1 hX1 hT1 q1 => ?_) ((F s).length - 1) 0 _ (by omega) RdX.rf (fun i hi => by omega) rfl
    have oM := ((hX.tr hX1).MA hA).o
    refine g_aload_n (j := 0) rfl dX12_drop_62 ?_
    refine g_iload_n (j := 1) rfl dX12_drop_63 ?_
    refine g_callV dX12_drop_64 mlX12_259 mvX12_takesOver (ci := 12) ⟨by decide, rfl⟩ (by assumption) (fin_takes w d hA (hX.tr hX1) hs4 (ts := (F s).eraseIdx i.toNat) (by rw [hel]; exact hT1) (by rw [q1, e4, hel]; omega) (by rw [hel]; omega) (fun u hu => hA.ok hs4 u (List.mem_of_mem_eraseIdx hu))) sv1 rfl (by omega) (Nat.le_of_ble_eq_true rfl) (Nat.le_refl _) (Nat.le_refl _) (fun v μ3 hR => ?_)
    obtain ⟨rfl, hA3, hf3⟩ := hR
    refine g_iconst dX12_drop_67 ?_
    exact G.retZ dX12_drop_68 rfl (Or.inr rfl) ⟨by rw [bI_1 h6], Or.inl ⟨h6, hA3, hf3⟩⟩
  · refine g_iconst dX12_drop_9 ?_
    exact G.retZ dX12_drop_10 rfl (Or.inl rfl) ⟨by rw [bI_0 h6], Or.inr ⟨h6, rfl⟩⟩
theorem l12_lead {w : WC} {d : Nat} {R : Option AV → Mem → Prop} {m : Nat} {F : Int → List Tm} {μ0 : Mem} (hA : MA w μ0 m F) {s i : Int} (hs : 0 ≤ s ∧ s ≤ 3) (hi : 0 ≤ i ∧ i < (F s).length) {ts : List Tm} (h0 : mI μ0 (m + 1) 4 = (F s).length) (hts : ∀ k : Nat, ts[k]? = if k = 0 then (F s)[i.toNat]? else if k - 1 < i.toNat then (F s)[k - 1]? else (F s)[k]?) {e : Nat} (he : (e : Int) = (F s).length) (he5 : e ≤ 5)
    (kk : ∀ μ, RdX m μ0 μ → RdT μ m ts e → mI μ (m + 1) 4 = mI μ0 (m + 1) 4 → G w (d + 1) mX12_lead R 0 0 68 [some (vP (some m)), some (vI s), some (vI i), some (vI (e : Int))] [] μ) : ∀ (n : Nat) (k : Nat) (μ : Mem), k + n = e → RdX m μ0 μ → RdT μ m ts k → mI μ (m + 1) 4 = mI μ0 (m + 1) 4 →
    G w (d + 1) mX12_lead R 0 0 25 [some (vP (some m)), some (vI s), some (vI i), some (vI (k : Int))] [] μ := by
  intro n
  induction n with
  | zero =>
    intro k μ hk hX hT h4
    have hke : k = e := by omega
    subst hke
    have hA1 := hX.MA hA
    have o0 := hA1.o
    have r0 := hA1.1.r0
    have a0 := hA1.1.a0
    have ec := (hA1.2.1 s hs).1
    have hl := hA1.l5 hs
    refine g_iload_n (j := 3) rfl dX12_lead_25 ?_
    refine g_aload_n (j := 0) rfl dX12_lead_26 ?_
    refine g_getR dX12_lead_27 flX12_9 rfl (by assumption) (kz := 0) rfl (by assumption) ?_
    refine g_iconst dX12_lead_30 ?_
    refine g_iald dX12_lead_31 (by assumption) (by omega) (by omega) ?_
    refine g_icmp_ge (tgt := 68) dX12_lead_32 (by decide) (by omega) (by omega) (fun h32 => ?_) (fun h32 => ?_)
    · exact kk μ hX hT h4
    · omega
  | succ n ih =>
    intro k μ hk hX hT h4
    have hA1 := hX.MA hA
    have o0 := hA1.o
    have r0 := hA1.1.r0
    have a0 := hA1.1.a0
    have ec := (hA1.2.1 s hs).1
    have hl := hA1.l5 hs
    refine g_iload_n (j := 3) rfl dX12_lead_25 ?_
    refine g_aload_n (j := 0) rfl dX12_lead_26 ?_
    refine g_getR dX12_lead_27 flX12_9 rfl (by assumption) (kz := 0) rfl (by assumption) ?_
    refine g_iconst dX12_lead_30 ?_
    refine g_iald dX12_lead_31 (by assumption) (by omega) (by omega) ?_
    refine g_icmp_ge (tgt := 68) dX12_lead_32 (by decide) (by omega) (by omega) (fun h32 => ?_) (fun h32 => ?_)
    · omega
    · refine g_aload_n (j := 0) rfl dX12_lead_35 ?_
      refine g_iload_n (j := 1) rfl dX12_lead_36 ?_
      refine g_iload_n (j := 3) rfl dX12_lead_37 ?_
      refine g_if_ne (tgt := 45) dX12_lead_38 (by decide) (by omega) (fun h38 => ?_) (fun h38 => ?_)
      · refine g_iload_n (j := 3) rfl dX12_lead_45 ?_
        refine g_iload_n (j := 2) rfl dX12_lead_46 ?_
        refine g_icmp_gt (tgt := 56) dX12_lead_47 (by decide) (by omega) (by omega) (fun h47 => ?_) (fun h47 => ?_)
        · refine g_iload_n (j := 3) rfl dX12_lead_56 ?_
          refine g_iconst dX12_lead_57 ?_
          refine g_iload_n (j := 3) rfl dX12_lead_58 ?_
          refine g_callV dX12_lead_59 mlX12_243 mvX12_copies (ci := 12) ⟨by decide, rfl⟩ (by assumption) (c_copies w d μ hA1.1 (s := s) (i := (k : Int)) (t := 4) (j := (k : Int)) (by omega) (by omega) (by omega) (by omega)) sv4 rfl (by omega) (Nat.le_of_ble_eq_true rfl) (Nat.le_refl _) (Nat.le_refl _) (fun v μ2 hR => ?_)
          obtain ⟨rfl, hm2⟩ := hR
          refine g_iinc (i := 3) dX12_lead_62 rfl (by decide) rfl ls3 ?_
          refine g_goto (tgt := 25) (by decide) dX12_lead_65 ?_
          refine ih (k + 1) μ2 (by omega) (hX.tr (RdX.cp (by omega) hm2)) (by
            obtain ⟨u, hu, hku, g1, g2, g3, g4⟩ := (hA1.2.1 s hs).at (t := (k : Int)) (by omega) (by omega)
            exact hT.cp (by omega) (by rw [hts k]; first | (rw [if_pos (by omega)]; exact hu) | (rw [if_neg (by omega), if_pos (by omega)]; rw [show ((k : Int) - 1).toNat = k - 1 by omega] at hu; exact hu) | (rw [if_neg (by omega), if_neg (by omega)]; exact hu)) ⟨g1, g2, g3, g4⟩ hm2) ?_
          rw [hm2, mI_wI, if_neg (by omega)]
          exact h4
        · refine g_iload_n (j := 3) rfl dX12_lead_50 ?_
          refine g_iconst dX12_lead_51 ?_
          refine g_isub dX12_lead_52 ?_
          refine g_goto (tgt := 57) (by decide) dX12_lead_53 ?_
          refine g_iconst dX12_lead_57 ?_
          refine g_iload_n (j := 3) rfl dX12_lead_58 ?_
          refine g_callV dX12_lead_59 mlX12_243 mvX12_copies (ci := 12) ⟨by decide, rfl⟩ (by assumption) (c_copies w d μ hA1.1 (s := s) (i := ((k : Int) - 1)) (t := 4) (j := (k : Int)) (by omega) (by omega) (by omega) (by omega)) sv4 rfl (by omega) (Nat.le_of_ble_eq_true rfl) (Nat.le_refl _) (Nat.le_refl _) (fun v μ2 hR => ?_)
          obtain ⟨rfl, hm2⟩ := hR
          refine g_iinc (i := 3) dX12_lead_62 rfl (by decide) rfl ls3 ?_
          refine g_goto (tgt := 25) (by decide) dX12_lead_65 ?_
          refine ih (k + 1) μ2 (by omega) (hX.tr (RdX.cp (by omega) hm2)) (by
            obtain ⟨u, hu, hku, g1, g2, g3, g4⟩ := (hA1.2.1 s hs).at (t := ((k : Int) - 1)) (by omega) (by omega)
            exact hT.cp (by omega) (by rw [hts k]; first | (rw [if_pos (by omega)]; exact hu) | (rw [if_neg (by omega), if_pos (by omega)]; rw [show ((k : Int) - 1).toNat = k - 1 by omega] at hu; exact hu) | (rw [if_neg (by omega), if_neg (by omega)]; exact hu)) ⟨g1, g2, g3, g4⟩ hm2) ?_
          rw [hm2, mI_wI, if_neg (by omega)]
          exact h4
      · refine g_iload_n (j := 2) rfl dX12_lead_41 ?_
        refine g_goto (tgt := 57) (by decide) dX12_lead_42 ?_
        refine g_iconst dX12_lead_57 ?_
        refine g_iload_n (j := 3) rfl dX12_lead_58 ?_
        refine g_callV dX12_lead_59 mlX12_243 mvX12_copies (ci := 12) ⟨by decide, rfl⟩ (by assumption) (c_copies w d μ hA1.1 (s := s) (i := i) (t := 4) (j := (k : Int)) (by omega) (by omega) (by omega) (by omega)) sv4 rfl (by omega) (Nat.le_of_ble_eq_true rfl) (Nat.le_refl _) (Nat.le_refl _) (fun v μ2 hR => ?_)
        obtain ⟨rfl, hm2⟩ := hR
        refine g_iinc (i := 3) dX12_lead_62 rfl (by decide) rfl ls3 ?_
        refine g_goto (tgt := 25) (by decide) dX12_lead_65 ?_
        refine ih (k + 1) μ2 (by omega) (hX.tr (RdX.cp (by omega) hm2)) (by
          obtain ⟨u, hu, hku, g1, g2, g3, g4⟩ := (hA1.2.1 s hs).at (t := i) (by omega) (by omega)
          exact hT.cp (by omega) (by rw [hts k]; first | (rw [if_pos (by omega)]; exact hu) | (rw [if_neg (by omega), if_pos (by omega)]; rw [show ((k : Int) - 1).toNat = k - 1 by omega] at hu; exact hu) | (rw [if_neg (by omega), if_neg (by omega)]; exact hu)) ⟨g1, g2, g3, g4⟩ hm2) ?_
        rw [hm2, mI_wI, if_neg (by omega)]
        exact h4
theorem c_X12_lead (w : WC) (d : Nat) (μ : Mem) {m : Nat} {F : Int → List Tm} (hA : MA w μ m F) {s i : Int} (hs : i32 s) (hi : i32 i) : Con w (d + 3) mX12_lead 0 0 [vP (some m), vI s, vI i] μ (fun v μ2 => v = some (vI (bI (HasI F s i))) ∧ ((HasI F s i ∧ MA w μ2 m (fmF F s (tAt (F s) i :: (F s).eraseIdx i.toNat)) ∧ FrJ m μ μ2) ∨ (¬ HasI F s i ∧ μ2 = μ))) := by
  have o0 := hA.o
  have r0 := hA.1.r0
  have a0 := hA.1.a0
  refine Con.of (by decide) (Nat.le_of_ble_eq_true rfl) rfl ?_
  refine g_aload_n (j := 0) rfl dX12_lead_0 ?_
  refine g_iload_n (j := 1) rfl dX12_lead_1 ?_
  refine g_iload_n (j := 2) rfl dX12_lead_2 ?_
  refine g_callV dX12_lead_3 mlX12_313 mvX12_isTerm (ci := 12) ⟨by decide, rfl⟩ (by assumption) (c_X12_isTerm w d μ hA hs hi) sv2 rfl (by omega) (Nat.le_of_ble_eq_true rfl) (Nat.le_refl _) (Nat.le_refl _) (fun v μ2 hR => ?_)
  obtain ⟨rfl, hm⟩ := hR
  replace hm := hm.symm
  subst hm
  refine g_ifb_ne (tgt := 11) dX12_lead_6 (by decide)  (fun h6 => ?_) (fun h6 => ?_)
  · have hs4 := h6.1
    have hi4 := h6.2
    have ec := (hA.2.1 s h6.1).1
    have hl1 := hA.l5 h6.1
    obtain ⟨u, hu, hku, -⟩ := (hA.2.1 s h6.1).at (t := i) h6.2.1 h6.2.2
    have hta := tAt_of hu
    refine g_aload_n (j := 0) rfl dX12_lead_11 ?_
    refine g_getR dX12_lead_12 flX12_9 rfl (by assumption) (kz := 0) rfl (by assumption) ?_
    refine g_iconst dX12_lead_15 ?_
    refine g_aload_n (j := 0) rfl dX12_lead_16 ?_
    refine g_getR dX12_lead_17 flX12_9 rfl (by assumption) (kz := 0) rfl (by assumption) ?_
    refine g_iload_n (j := 1) rfl dX12_lead_20 ?_
    refine g_iald dX12_lead_21 (by assumption) (by omega) (by omega) ?_
    refine g_iast dX12_lead_22 (by assumption) (by omega) (by omega) ?_
    refine g_iconst dX12_lead_23 ?_
    refine g_istore_n (j := 3) dX12_lead_24 (by decide) rfl ls3 ?_
    have hX : RdX m μ (sI μ (m + 1) 4 (mI μ (m + 1) s)) := ⟨FrM.sIr (Or.inl rfl) (by omega), fun j hj => by rw [mI_sI, if_neg (by omega)], fun j hj => by rw [mI_sI, if_neg (by omega)]⟩
    have hel : (tAt (F s) i :: (F s).eraseIdx i.toNat).length = (F s).length := by rw [List.length_cons, List.length_eraseIdx, if_pos (by omega)]; omega
    have e4 : mI (sI μ (m + 1) 4 (mI μ (m + 1) s)) (m + 1) 4 = (F s).length := by rw [mI_sI, if_pos ⟨rfl, rfl⟩, ec]
    refine l12_lead (d := d + 2) (hX.MA hA) hs4 hi4 (ts := tAt (F s) i :: (F s).eraseIdx i.toNat) e4 (fun k => by
      cases k with
      | zero => rw [if_pos rfl, hu, hta]; rfl
      | succ k =>
        rw [if_neg (by omega), List.getElem?_cons_succ, List.getElem?_eraseIdx]
        rfl) (e := (F s).length) rfl (by omega) (fun μ1 hX1 hT1 q1 => ?_) (F s).length 0 _ (by omega) RdX.rf (fun i hi => by omega) rfl
    have oM := ((hX.tr hX1).MA hA).o
    refine g_aload_n (j := 0) rfl dX12_lead_68 ?_
    refine g_iload_n (j := 1) rfl dX12_lead_69 ?_
    refine g_callV dX12_lead_70 mlX12_259 mvX12_takesOver (ci := 12) ⟨by decide, rfl⟩ (by assumption) (fin_takes w d hA (hX.tr hX1) hs4 (ts := tAt (F s) i :: (F s).eraseIdx i.toNat) (by rw [hel]; exact hT1) (by rw [q1, e4, hel]) (by rw [hel]; omega) (fun v hv => (List.mem_cons.mp hv).elim (fun z => by rw [z, hta]; exact hku) (fun z => hA.ok hs4 v (List.mem_of_mem_eraseIdx z)))) sv1 rfl (by omega) (Nat.le_of_ble_eq_true rfl) (Nat.le_refl _) (Nat.le_refl _) (fun v μ3 hR => ?_)
    obtain ⟨rfl, hA3, hf3⟩ := hR
    refine g_iconst dX12_lead_73 ?_
    exact G.retZ dX12_lead_74 rfl (Or.inr rfl) ⟨by rw [bI_1 h6], Or.inl ⟨h6, hA3, hf3⟩⟩
  · refine g_iconst dX12_lead_9 ?_
    exact G.retZ dX12_lead_10 rfl (Or.inl rfl) ⟨by rw [bI_0 h6], Or.inr ⟨h6, rfl⟩⟩
