/-! THE CLASS: sums of terms, enough, nearest -/
def PaI (P : Int → Prop) (u : Tm) (n : Int) : Prop := ∃ z, (tL u ≤ z ∧ z ≤ tH u) ∧ P (n - tV u z)
section SV
variable {w : WC} {d x q : Nat} {ts : List Tm} {R : Option AV → Mem → Prop}
theorem l_zeroP {μ : Mem} (hT : TPS w μ x) {bA bB : Nat} (hR : SuR μ x bA bB) {t : Int} (kk : ∀ (g : Int → Int) (x3 : Option AV), (∀ k, 0 ≤ k → k < 469 → g k = 0) → G w d mX8_addPower R 0 0 22 [some (vP (some (x + 65))), some (vP (some q)), some (vI t), x3] [] (wL μ bB g)) : ∀ (n : Nat) (k : Int) (g : Int → Int), k + n = 469 → 0 ≤ k → (∀ j, 0 ≤ j → j < k → g j = 0) →
    G w d mX8_addPower R 0 0 2 [some (vP (some (x + 65))), some (vP (some q)), some (vI t), some (vI k)] [] (wL μ bB g) := by
  have o65 := hT.o65
  have aA := (hR.a hT).2
  obtain ⟨-, r1, -⟩ := hR
  intro n
  induction n with
  | zero =>
    intro k g hk h0 hg
    refine g_iload_n (j := 3) rfl dX8_addPower_2 ?_
    refine g_sipush dX8_addPower_3 (by omega) ?_
    refine g_icmp_ge (tgt := 22) dX8_addPower_6 (by decide) (by omega) (by omega) (fun h6 => ?_) (fun h6 => ?_)
    · exact kk g _ fun j z1 z2 => hg j z1 (by omega)
    · omega
  | succ n ih =>
    intro k g hk h0 hg
    refine g_iload_n (j := 3) rfl dX8_addPower_2 ?_
    refine g_sipush dX8_addPower_3 (by omega) ?_
    refine g_icmp_ge (tgt := 22) dX8_addPower_6 (by decide) (by omega) (by omega) (fun h6 => ?_) (fun h6 => ?_)
    · omega
    · refine g_aload_n (j := 0) rfl dX8_addPower_9 ?_
      refine g_getR dX8_addPower_10 flX8_15 rfl (by simp only [IsO_sI, IsO_sL, IsO_sR, IsO_wI, IsO_wL, IsA_sI, IsA_sL, IsA_sR, IsA_wI, IsA_wL, mR_sI, mR_sL, mR_wI, mR_wL]; assumption) (kz := 1) rfl (by simp only [IsO_sI, IsO_sL, IsO_sR, IsO_wI, IsO_wL, IsA_sI, IsA_sL, IsA_sR, IsA_wI, IsA_wL, mR_sI, mR_sL, mR_wI, mR_wL]; assumption) ?_
      refine g_iload_n (j := 3) rfl dX8_addPower_13 ?_
      refine g_lconst0 dX8_addPower_14 ?_
      refine g_last dX8_addPower_15 (by simp only [IsO_sI, IsO_sL, IsO_sR, IsO_wI, IsO_wL, IsA_sI, IsA_sL, IsA_sR, IsA_wI, IsA_wL, mR_sI, mR_sL, mR_wI, mR_wL]; assumption) (by omega) (by omega) ?_
      refine g_iinc (i := 3) dX8_addPower_16 rfl (by decide) rfl ls3 ?_
      refine g_goto (tgt := 2) (by decide) dX8_addPower_19 ?_
      rw [sL_wL]
      refine ih (k + 1) _ (by omega) (by omega) fun j z1 z2 => ?_
      show (if j = k then 0 else g j) = 0
      split
      · rfl
      · exact hg j z1 (by omega)
theorem l_addPower {μ : Mem} (hT : TPS w μ x) {bA bB : Nat} (hR : SuR μ x bA bB) (hF : FoS w μ q) (hI : FI μ q ts) (hq : q + 7 ≤ x + 65) {P : Int → Prop} {lo len0 len : Int} (el : mI μ (x + 65) 3 = len) (hl : 1 ≤ len0 ∧ len ≤ 30001) (hb : ∀ p, 0 ≤ p → p < 30016 → (BitS (mL μ bA) p = true ↔ P (p + lo))) (hP : ∀ n, P n → lo ≤ n ∧ n < lo + len0) {t : Int} {u : Tm} (h0 : 0 ≤ t) (h1 : t < ts.length) (hk : TOk u) (hat : TmAt μ q t u) (hls : len = len0 + (tHi (tK u) (tF u) (tL u) (tH u) - tLo (tK u) (tF u) (tL u) (tH u))) : ∀ (n : Nat) (y : Int) (g : Int → Int), y + n = tH u + 1 → tL u ≤ y → (∀ p, 0 ≤ p → p < 30016 → (BitS g p = true ↔ ∃ z, (tL u ≤ z ∧ z < y) ∧ P (p + lo + tLo (tK u) (tF u) (tL u) (tH u) - tV u z))) →
    G w (d + 2) mX8_addPower (fun v μ2 => v = none ∧ FrS x μ μ2 ∧ SuR μ2 x bB bA ∧ (∀ j, mI μ2 (x + 65) j = mI μ (x + 65) j) ∧ ∀ p, 0 ≤ p → p < 30016 → (BitS (mL μ2 bB) p = true ↔ ∃ z, (tL u ≤ z ∧ z ≤ tH u) ∧ P (p + lo + tLo (tK u) (tF u) (tL u) (tH u) - tV u z))) 0 0 29 [some (vP (some (x + 65))), some (vP (some q)), some (vI t), some (vI y)] [] (wL μ bB g) := by
  have h5 := hI.2.1
  have o65 := hT.o65
  obtain ⟨aA, aB⟩ := hR.a hT
  have hR0 := hR
  obtain ⟨r0, r1, hab⟩ := hR
  have hA : x + 65 ≤ bA ∧ bA ≤ x + 67 ∧ ¬ bA = x + 65 ∧ ¬ bA = bB ∧ x + 65 ≤ bB ∧ bB ≤ x + 67 ∧ ¬ bB = x + 65 := by omega
  obtain ⟨g1, g2, g3, g4, g5, g6⟩ := hat
  obtain ⟨⟨k1, k2, k3, k4⟩, -⟩ := hk.pv
  have hl3 := hk.2.2.1
  obtain ⟨p0, ⟨pr1, pr2, pr3, pr4, pr5, pr6⟩, pa1, pa2, pa3, pa4, pa5, pa6⟩ := id hF
  intro n
  induction n with
  | zero =>
    intro y g hy h2 hg
    refine g_iload_n (j := 3) rfl dX8_addPower_29 ?_
    refine g_aload_n (j := 1) rfl dX8_addPower_30 ?_
    refine g_getR dX8_addPower_31 flX8_46 rfl (by simp only [IsO_sI, IsO_sL, IsO_sR, IsO_wI, IsO_wL, IsA_sI, IsA_sL, IsA_sR, IsA_wI, IsA_wL, mR_sI, mR_sL, mR_wI, mR_wL]; assumption) (kz := 4) rfl (by simp only [IsO_sI, IsO_sL, IsO_sR, IsO_wI, IsO_wL, IsA_sI, IsA_sL, IsA_sR, IsA_wI, IsA_wL, mR_sI, mR_sL, mR_wI, mR_wL]; assumption) ?_
    refine g_iload_n (j := 2) rfl dX8_addPower_34 ?_
    refine g_ialdv dX8_addPower_35 (by simp only [IsO_sI, IsO_sL, IsO_sR, IsO_wI, IsO_wL, IsA_sI, IsA_sL, IsA_sR, IsA_wI, IsA_wL, mR_sI, mR_sL, mR_wI, mR_wL]; assumption) (by omega) (by omega) (by simp [mI_sI, mI_sL, mI_sR, mI_wI, mI_wL, mL_sI, mL_sL, mL_sR, mL_wI, mL_wL, g3, g4]; rfl) ?_
    refine g_icmp_gt (tgt := 70) dX8_addPower_36 (by decide) (by omega) (by omega) (fun h36 => ?_) (fun h36 => ?_)
    · refine g_aload_n (j := 0) rfl dX8_addPower_70 ?_
      refine g_getR dX8_addPower_71 flX8_11 rfl (by simp only [IsO_sI, IsO_sL, IsO_sR, IsO_wI, IsO_wL, IsA_sI, IsA_sL, IsA_sR, IsA_wI, IsA_wL, mR_sI, mR_sL, mR_wI, mR_wL]; assumption) (kz := 0) rfl (by simp only [IsO_sI, IsO_sL, IsO_sR, IsO_wI, IsO_wL, IsA_sI, IsA_sL, IsA_sR, IsA_wI, IsA_wL, mR_sI, mR_sL, mR_wI, mR_wL]; assumption) ?_
      refine g_astore_n (j := 3) dX8_addPower_74 (by decide) rfl ls3 ?_
      refine g_aload_n (j := 0) rfl dX8_addPower_75 ?_
      refine g_aload_n (j := 0) rfl dX8_addPower_76 ?_
      refine g_getR dX8_addPower_77 flX8_15 rfl (by simp only [IsO_sI, IsO_sL, IsO_sR, IsO_wI, IsO_wL, IsA_sI, IsA_sL, IsA_sR, IsA_wI, IsA_wL, mR_sI, mR_sL, mR_wI, mR_wL]; assumption) (kz := 1) rfl (by simp only [IsO_sI, IsO_sL, IsO_sR, IsO_wI, IsO_wL, IsA_sI, IsA_sL, IsA_sR, IsA_wI, IsA_wL, mR_sI, mR_sL, mR_wI, mR_wL]; assumption) ?_
      refine g_putR dX8_addPower_80 fpX8_11 rfl rfl rfl (by simp only [IsO_sI, IsO_sL, IsO_sR, IsO_wI, IsO_wL, IsA_sI, IsA_sL, IsA_sR, IsA_wI, IsA_wL, mR_sI, mR_sL, mR_wI, mR_wL]; assumption) (kz := 0) rfl ?_
      refine g_aload_n (j := 0) rfl dX8_addPower_83 ?_
      refine g_aload_n (j := 3) rfl dX8_addPower_84 ?_
      refine g_putR dX8_addPower_85 fpX8_15 rfl rfl rfl (by simp only [IsO_sI, IsO_sL, IsO_sR, IsO_wI, IsO_wL, IsA_sI, IsA_sL, IsA_sR, IsA_wI, IsA_wL, mR_sI, mR_sL, mR_wI, mR_wL]; assumption) (kz := 1) rfl ?_
      refine G.retV dX8_addPower_88 rfl ⟨rfl, ?_, ⟨?_, ?_, by omega⟩, fun j => rfl, fun p z1 z2 => ?_⟩
      · exact (Fr.wL (by omega)).tr ((Fr.sR (by omega)).tr (Fr.sR (by omega)))
      · rw [mR_sR, if_neg (by omega), mR_sR, if_pos ⟨rfl, rfl⟩]
      · rw [mR_sR, if_pos ⟨rfl, rfl⟩]
      · rw [mL_sR, mL_sR, show mL (wL μ bB g) bB = g from funext fun k => by rw [mL_wL, if_pos rfl], hg p z1 z2]
        constructor
        · rintro ⟨z, y1, y2⟩
          exact ⟨z, by omega, y2⟩
        · rintro ⟨z, y1, y2⟩
          exact ⟨z, by omega, y2⟩
    · omega
  | succ n ih =>
    intro y g hy h2 hg
    have hv := hk.val (x := y) h2 (by omega)
    have hv3 := hk.v3 (x := y) h2 (by omega)
    have hT' : TPS w (wL μ bB g) x := FrS.tps (Fr.wL (by omega)) hT
    obtain ⟨hF', -⟩ := FrS.Fi (μ2 := wL μ bB g) (Fr.wL (by omega)) hq hF hI
    have eA : mL (wL μ bB g) bA = mL μ bA := funext fun j => by rw [mL_wL, if_neg (by omega)]
    have eB : mL (wL μ bB g) bB = g := funext fun j => by rw [mL_wL, if_pos rfl]
    refine g_iload_n (j := 3) rfl dX8_addPower_29 ?_
    refine g_aload_n (j := 1) rfl dX8_addPower_30 ?_
    refine g_getR dX8_addPower_31 flX8_46 rfl (by simp only [IsO_sI, IsO_sL, IsO_sR, IsO_wI, IsO_wL, IsA_sI, IsA_sL, IsA_sR, IsA_wI, IsA_wL, mR_sI, mR_sL, mR_wI, mR_wL]; assumption) (kz := 4) rfl (by simp only [IsO_sI, IsO_sL, IsO_sR, IsO_wI, IsO_wL, IsA_sI, IsA_sL, IsA_sR, IsA_wI, IsA_wL, mR_sI, mR_sL, mR_wI, mR_wL]; assumption) ?_
    refine g_iload_n (j := 2) rfl dX8_addPower_34 ?_
    refine g_ialdv dX8_addPower_35 (by simp only [IsO_sI, IsO_sL, IsO_sR, IsO_wI, IsO_wL, IsA_sI, IsA_sL, IsA_sR, IsA_wI, IsA_wL, mR_sI, mR_sL, mR_wI, mR_wL]; assumption) (by omega) (by omega) (by simp [mI_sI, mI_sL, mI_sR, mI_wI, mI_wL, mL_sI, mL_sL, mL_sR, mL_wI, mL_wL, g3, g4, g5]; rfl) ?_
    refine g_icmp_gt (tgt := 70) dX8_addPower_36 (by decide) (by omega) (by omega) (fun h36 => ?_) (fun h36 => ?_)
    · omega
    · refine g_aload_n (j := 0) rfl dX8_addPower_39 ?_
      refine g_aload_n (j := 0) rfl dX8_addPower_40 ?_
      refine g_getR dX8_addPower_41 flX8_15 rfl (by simp only [IsO_sI, IsO_sL, IsO_sR, IsO_wI, IsO_wL, IsA_sI, IsA_sL, IsA_sR, IsA_wI, IsA_wL, mR_sI, mR_sL, mR_wI, mR_wL]; assumption) (kz := 1) rfl (by simp only [IsO_sI, IsO_sL, IsO_sR, IsO_wI, IsO_wL, IsA_sI, IsA_sL, IsA_sR, IsA_wI, IsA_wL, mR_sI, mR_sL, mR_wI, mR_wL]; assumption) ?_
      refine g_aload_n (j := 0) rfl dX8_addPower_44 ?_
      refine g_getR dX8_addPower_45 flX8_11 rfl (by simp only [IsO_sI, IsO_sL, IsO_sR, IsO_wI, IsO_wL, IsA_sI, IsA_sL, IsA_sR, IsA_wI, IsA_wL, mR_sI, mR_sL, mR_wI, mR_wL]; assumption) (kz := 0) rfl (by simp only [IsO_sI, IsO_sL, IsO_sR, IsO_wI, IsO_wL, IsA_sI, IsA_sL, IsA_sR, IsA_wI, IsA_wL, mR_sI, mR_sL, mR_wI, mR_wL]; assumption) ?_
      refine g_aload_n (j := 1) rfl dX8_addPower_48 ?_
      refine g_iload_n (j := 2) rfl dX8_addPower_49 ?_
      refine g_iload_n (j := 3) rfl dX8_addPower_50 ?_
      refine g_callV dX8_addPower_51 mlX8_60 mvX1_valueOf (ci := 1) ⟨by decide, rfl⟩ (by simp only [IsO_sI, IsO_sL, IsO_sR, IsO_wI, IsO_wL, IsA_sI, IsA_sL, IsA_sR, IsA_wI, IsA_wL, mR_sI, mR_sL, mR_wI, mR_wL]; assumption) (c_valueOf w (d) (wL μ bB g) hF' (t := t) (x := y) (by omega) g2 g1 k2 k1 (by omega) (by omega)) sv2 rfl (by omega) (Nat.le_of_ble_eq_true rfl) (Nat.le_refl _) (Nat.le_refl _) (fun v μ2 hR => ?_)
      obtain ⟨rfl, hm⟩ := hR
      replace hm := hm.symm
      subst hm
      rw [show pv (tK u) (tF u) y = tV u y from rfl]
      refine g_aload_n (j := 1) rfl dX8_addPower_54 ?_
      refine g_getR dX8_addPower_55 flX8_37 rfl (by simp only [IsO_sI, IsO_sL, IsO_sR, IsO_wI, IsO_wL, IsA_sI, IsA_sL, IsA_sR, IsA_wI, IsA_wL, mR_sI, mR_sL, mR_wI, mR_wL]; assumption) (kz := 5) rfl (by simp only [IsO_sI, IsO_sL, IsO_sR, IsO_wI, IsO_wL, IsA_sI, IsA_sL, IsA_sR, IsA_wI, IsA_wL, mR_sI, mR_sL, mR_wI, mR_wL]; assumption) ?_
      refine g_iload_n (j := 2) rfl dX8_addPower_58 ?_
      refine g_ialdv dX8_addPower_59 (by simp only [IsO_sI, IsO_sL, IsO_sR, IsO_wI, IsO_wL, IsA_sI, IsA_sL, IsA_sR, IsA_wI, IsA_wL, mR_sI, mR_sL, mR_wI, mR_wL]; assumption) (by omega) (by omega) (by simp [mI_sI, mI_sL, mI_sR, mI_wI, mI_wL, mL_sI, mL_sL, mL_sR, mL_wI, mL_wL, g3, g4, g5]; rfl) ?_
      refine g_isub dX8_addPower_60 ?_
      refine g_callV dX8_addPower_61 mlX8_63 mvX8_orShifted (ci := 8) ⟨by decide, rfl⟩ (by simp only [IsO_sI, IsO_sL, IsO_sR, IsO_wI, IsO_wL, IsA_sI, IsA_sL, IsA_sR, IsA_wI, IsA_wL, mR_sI, mR_sL, mR_wI, mR_wL]; assumption) (c_orShifted w d (wL μ bB g) hT' (a := bB) (b := bA) aB aA (sh := tV u y - tLo (tK u) (tF u) (tL u) (tH u)) (len := len) (by have := tLo_bd hk; omega) el (by omega)) sv3 rfl (by omega) (Nat.le_of_ble_eq_true rfl) (Nat.le_refl _) (Nat.le_refl _) (fun v μ2 hR => ?_)
      obtain ⟨rfl, g2b, hm, hbit⟩ := hR
      rw [wL_wL] at hm
      subst hm
      rw [eA, eB] at hbit
      refine g_iinc (i := 3) dX8_addPower_64 rfl (by decide) rfl ls3 ?_
      refine g_goto (tgt := 29) (by decide) dX8_addPower_67 ?_
      refine ih (y + 1) g2b (by omega) (by omega) fun p z1 z2 => ?_
      have htl := tLo_bd hk
      have hth := tHi_bd hk
      rw [hbit p z1, Bool.or_eq_true, hg p z1 z2, Bool.and_eq_true, decide_eq_true_eq]
      constructor
      · rintro (⟨z, y1, y2⟩ | ⟨y1, y2⟩)
        · exact ⟨z, by omega, y2⟩
        · refine ⟨y, by omega, ?_⟩
          have := (hb _ (by omega) (by omega)).mp y2
          rwa [show p + lo + tLo (tK u) (tF u) (tL u) (tH u) - tV u y = p - (tV u y - tLo (tK u) (tF u) (tL u) (tH u)) + lo by omega]
      · rintro ⟨z, y1, y2⟩
        by_cases hz : z = y
        · subst hz
          have hp := hP _ y2
          refine Or.inr ⟨by omega, (hb _ (by omega) (by omega)).mpr ?_⟩
          rwa [show p - (tV u z - tLo (tK u) (tF u) (tL u) (tH u)) + lo = p + lo + tLo (tK u) (tF u) (tL u) (tH u) - tV u z by omega]
        · exact Or.inl ⟨z, by omega, y2⟩
theorem c_addPower (w : WC) (d : Nat) (μ : Mem) {x q : Nat} {ts : List Tm} (hT : TPS w μ x) {bA bB : Nat} (hR : SuR μ x bA bB) (hF : FoS w μ q) (hI : FI μ q ts) (hq : q + 7 ≤ x + 65) {P : Int → Prop} {lo len0 len : Int} (el : mI μ (x + 65) 3 = len) (hl : 1 ≤ len0 ∧ len ≤ 30001) (hb : ∀ p, 0 ≤ p → p < 30016 → (BitS (mL μ bA) p = true ↔ P (p + lo))) (hP : ∀ n, P n → lo ≤ n ∧ n < lo + len0) {t : Int} {u : Tm} (h0 : 0 ≤ t) (h1 : t < ts.length) (hk : TOk u) (hat : TmAt μ q t u) (hls : len = len0 + (tHi (tK u) (tF u) (tL u) (tH u) - tLo (tK u) (tF u) (tL u) (tH u))) : Con w (d + 2) mX8_addPower 0 0 [vP (some (x + 65)), vP (some q), vI t] μ (fun v μ2 => v = none ∧ FrS x μ μ2 ∧ SuR μ2 x bB bA ∧ (∀ j, mI μ2 (x + 65) j = mI μ (x + 65) j) ∧ ∀ p, 0 ≤ p → p < 30016 → (BitS (mL μ2 bB) p = true ↔ ∃ z, (tL u ≤ z ∧ z ≤ tH u) ∧ P (p + lo + tLo (tK u) (tF u) (tL u) (tH u) - tV u z))) := by
  have h5 := hI.2.1
  have hl3 := hk.2.2.1
  have hat0 := hat
  obtain ⟨g1, g2, g3, g4, g5, g6⟩ := hat
  obtain ⟨p0, ⟨pr1, pr2, pr3, pr4, pr5, pr6⟩, pa1, pa2, pa3, pa4, pa5, pa6⟩ := id hF
  refine Con.of (by decide) (Nat.le_of_ble_eq_true rfl) rfl ?_
  refine g_iconst dX8_addPower_0 ?_
  refine g_istore_n (j := 3) dX8_addPower_1 (by decide) rfl ls3 ?_
  have key := l_zeroP (d := d + 2) (q := q) (R := fun v μ2 => v = none ∧ FrS x μ μ2 ∧ SuR μ2 x bB bA ∧ (∀ j, mI μ2 (x + 65) j = mI μ (x + 65) j) ∧ ∀ p, 0 ≤ p → p < 30016 → (BitS (mL μ2 bB) p = true ↔ ∃ z, (tL u ≤ z ∧ z ≤ tH u) ∧ P (p + lo + tLo (tK u) (tF u) (tL u) (tH u) - tV u z))) hT hR (t := t) (fun g x3 hg => ?_) 469 0 (mL μ bB) (by omega) (by omega) (fun j z1 z2 => by omega)
  · rw [wL_eta] at key
    exact key
  refine g_aload_n (j := 1) rfl dX8_addPower_22 ?_
  refine g_getR dX8_addPower_23 flX8_49 rfl (by simp only [IsO_sI, IsO_sL, IsO_sR, IsO_wI, IsO_wL, IsA_sI, IsA_sL, IsA_sR, IsA_wI, IsA_wL, mR_sI, mR_sL, mR_wI, mR_wL]; assumption) (kz := 3) rfl (by simp only [IsO_sI, IsO_sL, IsO_sR, IsO_wI, IsO_wL, IsA_sI, IsA_sL, IsA_sR, IsA_wI, IsA_wL, mR_sI, mR_sL, mR_wI, mR_wL]; assumption) ?_
  refine g_iload_n (j := 2) rfl dX8_addPower_26 ?_
  refine g_ialdv dX8_addPower_27 (by simp only [IsO_sI, IsO_sL, IsO_sR, IsO_wI, IsO_wL, IsA_sI, IsA_sL, IsA_sR, IsA_wI, IsA_wL, mR_sI, mR_sL, mR_wI, mR_wL]; assumption) (by omega) (by omega) (by simp [mI_sI, mI_sL, mI_sR, mI_wI, mI_wL, mL_sI, mL_sL, mL_sR, mL_wI, mL_wL, g3]; rfl) ?_
  refine g_istore_n (j := 3) dX8_addPower_28 (by decide) rfl ls3 ?_
  refine l_addPower (d := d) hT hR hF hI hq el hl hb hP h0 h1 hk hat0 hls (tH u - tL u + 1).toNat (tL u) g (by omega) (by omega) fun p z1 z2 => ?_
  unfold BitS
  rw [hg _ (by omega) (by omega), bt_0]
  constructor
  · intro z
    cases z
  · rintro ⟨z, y1, y2⟩
    omega
theorem l_addLine {μ0 : Mem} (hT0 : TPS w μ0 x) {bA bB : Nat} (hR0 : SuR μ0 x bA bB) {P : Int → Prop} {lo len0 len f wn e : Int} (el : mI μ0 (x + 65) 3 = len) (hf : 1 ≤ f ∧ f ≤ 99) (hw : 1 ≤ wn ∧ wn ≤ 6001) (he : f * (wn - 1) = e) (he2 : 0 ≤ e ∧ e ≤ 6000) (hl : 1 ≤ len0 ∧ len = len0 + e ∧ len ≤ 30001) (hP : ∀ n, P n → lo ≤ n ∧ n < lo + len0) : ∀ (n : Nat) (c : Int) (g : Int → Int), wn - c ≤ n → 1 ≤ c → c ≤ 12002 → (∀ p, 0 ≤ p → p < 30016 → (BitS g p = true ↔ ∃ j, (0 ≤ j ∧ j < min c wn) ∧ P (p + lo - f * j))) →
    G w (d + 2) mX8_addLine (fun v μ2 => v = none ∧ ∃ g, μ2 = wL μ0 bA g ∧ ∀ p, 0 ≤ p → p < 30016 → (BitS g p = true ↔ ∃ j, (0 ≤ j ∧ j < wn) ∧ P (p + lo - f * j))) 0 0 2 [some (vP (some (x + 65))), some (vI f), some (vI wn), some (vI c)] [] (wL μ0 bA g) := by
  obtain ⟨aA, aB⟩ := hR0.a hT0
  obtain ⟨r0, r1, hab⟩ := hR0
  have o65 := hT0.o65
  have hA : x + 65 ≤ bA ∧ bA ≤ x + 67 ∧ ¬ bA = x + 65 := by omega
  intro n
  induction n with
  | zero =>
    intro c g hc h1 h2 hg
    refine g_iload_n (j := 3) rfl dX8_addLine_2 ?_
    refine g_iload_n (j := 2) rfl dX8_addLine_3 ?_
    refine g_icmp_ge (tgt := 35) dX8_addLine_4 (by decide) (by omega) (by omega) (fun h4 => ?_) (fun h4 => ?_)
    · refine G.retV dX8_addLine_35 rfl ⟨rfl, g, rfl, fun p z1 z2 => ?_⟩
      rw [hg p z1 z2, show min c wn = wn by omega]
    · omega
  | succ n ih =>
    intro c g hc h1 h2 hg
    have hT' : TPS w (wL μ0 bA g) x := FrS.tps (Fr.wL (by omega)) hT0
    have eA : mL (wL μ0 bA g) bA = g := funext fun j => by rw [mL_wL, if_pos rfl]
    refine g_iload_n (j := 3) rfl dX8_addLine_2 ?_
    refine g_iload_n (j := 2) rfl dX8_addLine_3 ?_
    refine g_icmp_ge (tgt := 35) dX8_addLine_4 (by decide) (by omega) (by omega) (fun h4 => ?_) (fun h4 => ?_)
    · refine G.retV dX8_addLine_35 rfl ⟨rfl, g, rfl, fun p z1 z2 => ?_⟩
      rw [hg p z1 z2, show min c wn = wn by omega]
    · obtain ⟨sm, hsm⟩ : ∃ sm, sm = min c (wn - c) := ⟨_, rfl⟩
      have hm1 : f * 1 ≤ f * sm := Int.mul_le_mul_of_nonneg_left (by omega) (by omega)
      have hm2 : f * sm ≤ f * (wn - 1) := Int.mul_le_mul_of_nonneg_left (by omega) (by omega)
      refine g_aload_n (j := 0) rfl dX8_addLine_7 ?_
      refine g_aload_n (j := 0) rfl dX8_addLine_8 ?_
      refine g_getR dX8_addLine_9 flX8_11 rfl (by simp only [IsO_sI, IsO_sL, IsO_sR, IsO_wI, IsO_wL, IsA_sI, IsA_sL, IsA_sR, IsA_wI, IsA_wL, mR_sI, mR_sL, mR_wI, mR_wL]; assumption) (kz := 0) rfl (by simp only [IsO_sI, IsO_sL, IsO_sR, IsO_wI, IsO_wL, IsA_sI, IsA_sL, IsA_sR, IsA_wI, IsA_wL, mR_sI, mR_sL, mR_wI, mR_wL]; assumption) ?_
      refine g_aload_n (j := 0) rfl dX8_addLine_12 ?_
      refine g_getR dX8_addLine_13 flX8_11 rfl (by simp only [IsO_sI, IsO_sL, IsO_sR, IsO_wI, IsO_wL, IsA_sI, IsA_sL, IsA_sR, IsA_wI, IsA_wL, mR_sI, mR_sL, mR_wI, mR_wL]; assumption) (kz := 0) rfl (by simp only [IsO_sI, IsO_sL, IsO_sR, IsO_wI, IsO_wL, IsA_sI, IsA_sL, IsA_sR, IsA_wI, IsA_wL, mR_sI, mR_sL, mR_wI, mR_wL]; assumption) ?_
      refine g_iload_n (j := 1) rfl dX8_addLine_16 ?_
      refine g_iload_n (j := 3) rfl dX8_addLine_17 ?_
      refine g_iload_n (j := 2) rfl dX8_addLine_18 ?_
      refine g_iload_n (j := 3) rfl dX8_addLine_19 ?_
      refine g_isub dX8_addLine_20 ?_
      refine g_callS dX8_addLine_21 mlX8_31 msJ9_min_7cf53 (c_min w (d + 1) (wL μ0 bA g) (a := c) (b := wn - c) (by omega) (by omega)) sk2 rfl (by omega) (Nat.le_of_ble_eq_true rfl) (Nat.le_refl _) (Nat.le_refl _) (fun v μ2 hR => ?_)
      obtain ⟨rfl, hm⟩ := hR
      replace hm := hm.symm
      subst hm
      refine g_imul dX8_addLine_24 ?_
      rw [← hsm]
      refine g_callV dX8_addLine_25 mlX8_63 mvX8_orShifted (ci := 8) ⟨by decide, rfl⟩ (by simp only [IsO_sI, IsO_sL, IsO_sR, IsO_wI, IsO_wL, IsA_sI, IsA_sL, IsA_sR, IsA_wI, IsA_wL, mR_sI, mR_sL, mR_wI, mR_wL]; assumption) (c_orShifted w d (wL μ0 bA g) hT' (a := bA) (b := bA) aA aA (sh := f * sm) (len := len) (by omega) el (by omega)) sv3 rfl (by omega) (Nat.le_of_ble_eq_true rfl) (Nat.le_refl _) (Nat.le_refl _) (fun v μ2 hR => ?_)
      obtain ⟨rfl, g2b, hm, hbit⟩ := hR
      rw [wL_wL] at hm
      subst hm
      rw [eA] at hbit
      refine g_iload_n (j := 3) rfl dX8_addLine_28 ?_
      refine g_iload_n (j := 3) rfl dX8_addLine_29 ?_
      refine g_iadd dX8_addLine_30 ?_
      refine g_istore_n (j := 3) dX8_addLine_31 (by decide) rfl ls3 ?_
      refine g_goto (tgt := 2) (by decide) dX8_addLine_32 ?_
      refine ih (c + c) g2b (by omega) (by omega) (by omega) fun p z1 z2 => ?_
      rw [hbit p z1, Bool.or_eq_true, hg p z1 z2, Bool.and_eq_true, decide_eq_true_eq]
      constructor
      · rintro (⟨j, y1, y2⟩ | ⟨y1, y2⟩)
        · exact ⟨j, by omega, y2⟩
        · obtain ⟨j, y3, y4⟩ := (hg _ (by omega) (by omega)).mp y2
          refine ⟨j + sm, by omega, ?_⟩
          rw [Int.mul_add]
          rwa [show p + lo - (f * j + f * sm) = p - f * sm + lo - f * j by omega]
      · rintro ⟨j, y1, y2⟩
        by_cases hj : j < c
        · exact Or.inl ⟨j, by omega, y2⟩
        · have hp := hP _ y2
          have hm3 : f * sm ≤ f * j := Int.mul_le_mul_of_nonneg_left (by omega) (by omega)
          have hm4 : f * j ≤ f * (wn - 1) := Int.mul_le_mul_of_nonneg_left (by omega) (by omega)
          refine Or.inr ⟨by omega, (hg _ (by omega) (by omega)).mpr ⟨j - sm, by omega, ?_⟩⟩
          rw [Int.mul_sub]
          rwa [show p - f * sm + lo - (f * j - f * sm) = p + lo - f * j by omega]
theorem c_addLine (w : WC) (d : Nat) (μ : Mem) {x : Nat} (hT : TPS w μ x) {bA bB : Nat} (hR : SuR μ x bA bB) {P : Int → Prop} {lo len0 len f wn e : Int} (el : mI μ (x + 65) 3 = len) (hf : 1 ≤ f ∧ f ≤ 99) (hw : 1 ≤ wn ∧ wn ≤ 6001) (he : f * (wn - 1) = e) (he2 : 0 ≤ e ∧ e ≤ 6000) (hl : 1 ≤ len0 ∧ len = len0 + e ∧ len ≤ 30001) (hb : ∀ p, 0 ≤ p → p < 30016 → (BitS (mL μ bA) p = true ↔ P (p + lo))) (hP : ∀ n, P n → lo ≤ n ∧ n < lo + len0) : Con w (d + 2) mX8_addLine 0 0 [vP (some (x + 65)), vI f, vI wn] μ (fun v μ2 => v = none ∧ ∃ g, μ2 = wL μ bA g ∧ ∀ p, 0 ≤ p → p < 30016 → (BitS g p = true ↔ ∃ j, (0 ≤ j ∧ j < wn) ∧ P (p + lo - f * j))) := by
  refine Con.of (by decide) (Nat.le_of_ble_eq_true rfl) rfl ?_
  refine g_iconst dX8_addLine_0 ?_
  refine g_istore_n (j := 3) dX8_addLine_1 (by decide) rfl ls3 ?_
  have key := l_addLine (d := d) hT hR el hf hw he he2 hl hP wn.toNat 1 (mL μ bA) (by omega) (by omega) (by omega) (fun p z1 z2 => by
    rw [hb p z1 z2]
    constructor
    · intro z
      exact ⟨0, by omega, by rwa [Int.mul_zero, Int.sub_zero]⟩
    · rintro ⟨j, y1, y2⟩
      rw [show j = 0 by omega, Int.mul_zero, Int.sub_zero] at y2
      exact y2)
  rw [wL_eta] at key
  exact key
theorem line_lo {u : Tm} (hk : TOk u) (h0 : tK u = 0) : tLo (tK u) (tF u) (tL u) (tH u) = tF u * tL u ∧ tHi (tK u) (tF u) (tL u) (tH u) = tF u * tH u ∧ ∀ z, tV u z = tF u * z := by
  have hm : tF u * tL u ≤ tF u * tH u := Int.mul_le_mul_of_nonneg_left (by have := hk.2.2.1; omega) (by have := hk.1; omega)
  have hv : ∀ z, pv (tK u) (tF u) z = tF u * z := fun z => by rw [h0]; rfl
  refine ⟨?_, ?_, hv⟩
  · unfold tLo
    rw [if_neg (by omega), hv, hv]
    omega
  · unfold tHi
    rw [hv, hv]
    omega
theorem c_addTerm8 (w : WC) (d : Nat) (μ : Mem) {x q : Nat} {ts : List Tm} (hT : TPS w μ x) {bA bB : Nat} (hR : SuR μ x bA bB) (hF : FoS w μ q) (hI : FI μ q ts) (hq : q + 7 ≤ x + 65) {P : Int → Prop} {lo len : Int} (hS : SuI μ x bA P lo len) {t : Int} {u : Tm} (h0 : 0 ≤ t) (h1 : t < ts.length) (hk : TOk u) (hat : TmAt μ q t u) (hl5 : len ≤ 24001 ∧ -12000 ≤ lo ∧ lo ≤ 12000) : Con w (d + 3) mX8_addTerm 0 0 [vP (some (x + 65)), vP (some q), vI t] μ (fun v μ2 => v = none ∧ FrS x μ μ2 ∧ ∃ a b, SuR μ2 x a b ∧ SuI μ2 x a (PaI P u) (lo + tLo (tK u) (tF u) (tL u) (tH u)) (len + (tHi (tK u) (tF u) (tL u) (tH u) - tLo (tK u) (tF u) (tL u) (tH u)))) := by
  obtain ⟨e2, e3, hl, hlo, hb, hP⟩ := hS
  have h5 := hI.2.1
  have o65 := hT.o65
  have hat0 := hat
  obtain ⟨g1, g2, g3, g4, g5, g6⟩ := hat
  have htl := tLo_bd hk
  have hth := tHi_bd hk
  have hl3 := hk.2.2.1
  have hk1 := hk.1
  have hk2 := hk.2.1
  have hlh : tLo (tK u) (tF u) (tL u) (tH u) ≤ tHi (tK u) (tF u) (tL u) (tH u) := by
    have := hk.val (x := tL u) (by omega) (by omega)
    omega
  have hrng : ∀ n, PaI P u n → lo + tLo (tK u) (tF u) (tL u) (tH u) ≤ n ∧ n < lo + tLo (tK u) (tF u) (tL u) (tH u) + (len + (tHi (tK u) (tF u) (tL u) (tH u) - tLo (tK u) (tF u) (tL u) (tH u))) := by
    rintro n ⟨z, y1, y2⟩
    have := hP _ y2
    have := hk.val y1.1 y1.2
    omega
  obtain ⟨tl, etl⟩ : ∃ tl, tl = tLo (tK u) (tF u) (tL u) (tH u) := ⟨_, rfl⟩
  obtain ⟨th, eth⟩ : ∃ th, th = tHi (tK u) (tF u) (tL u) (tH u) := ⟨_, rfl⟩
  have hqq : ¬ q + 5 = x + 65 ∧ ¬ q + 2 = x + 65 ∧ ¬ q + 1 = x + 65 ∧ ¬ q + 3 = x + 65 ∧ ¬ q + 4 = x + 65 ∧ ¬ q + 6 = x + 65 := by omega
  have hq2 : ¬ q = x + 60 := by omega
  obtain ⟨p0, ⟨pr1, pr2, pr3, pr4, pr5, pr6⟩, pa1, pa2, pa3, pa4, pa5, pa6⟩ := id hF
  refine Con.of (by decide) (Nat.le_of_ble_eq_true rfl) rfl ?_
  refine g_aload_n (j := 0) rfl dX8_addTerm_0 ?_
  refine g_aload_n (j := 0) rfl dX8_addTerm_1 ?_
  refine g_getI dX8_addTerm_2 flX8_22 rfl (by assumption) (kz := 3) rfl ?_
  refine g_aload_n (j := 1) rfl dX8_addTerm_5 ?_
  refine g_iload_n (j := 2) rfl dX8_addTerm_6 ?_
  refine g_callV dX8_addTerm_7 mlX8_25 mvX1_spread (ci := 1) ⟨by decide, rfl⟩ (by assumption) (c_spread w (d + 2) μ hF (t := t) (by omega)) sv1 rfl (by omega) (Nat.le_of_ble_eq_true rfl) (Nat.le_refl _) (Nat.le_refl _) (fun v μ2 hR => ?_)
  obtain ⟨rfl, hm⟩ := hR
  replace hm := hm.symm
  subst hm
  rw [e3, g5, g6]
  refine g_iadd dX8_addTerm_10 ?_
  refine g_sipush dX8_addTerm_11 (by omega) ?_
  refine g_callS dX8_addTerm_14 mlX8_31 msJ9_min_7cf53 (c_min w (d + 2) μ (a := len + (tHi (tK u) (tF u) (tL u) (tH u) - tLo (tK u) (tF u) (tL u) (tH u))) (b := 30016) (by omega) (by omega)) sk2 rfl (by omega) (Nat.le_of_ble_eq_true rfl) (Nat.le_refl _) (Nat.le_refl _) (fun v μ2 hR => ?_)
  obtain ⟨rfl, hm⟩ := hR
  replace hm := hm.symm
  subst hm
  rw [show min (len + (tHi (tK u) (tF u) (tL u) (tH u) - tLo (tK u) (tF u) (tL u) (tH u))) 30016 = len + (tHi (tK u) (tF u) (tL u) (tH u) - tLo (tK u) (tF u) (tL u) (tH u)) by omega]
  refine g_putI dX8_addTerm_17 fpX8_22 rfl rfl rfl (by assumption) (kz := 3) rfl ?_
  refine g_aload_n (j := 0) rfl dX8_addTerm_20 ?_
  refine g_dup rfl dX8_addTerm_21 ?_
  refine g_getIv dX8_addTerm_22 flX8_18 rfl (by simp only [IsO_sI, IsO_sL, IsO_sR, IsO_wI, IsO_wL, IsA_sI, IsA_sL, IsA_sR, IsA_wI, IsA_wL, mR_sI, mR_sL, mR_wI, mR_wL]; assumption) (kz := 2) rfl (by simp [mI_sI, mI_sL, mI_sR, mI_wI, mI_wL, mL_sI, mL_sL, mL_sR, mL_wI, mL_wL, e2, g5, hq2]; rfl) ?_
  refine g_aload_n (j := 1) rfl dX8_addTerm_25 ?_
  refine g_getR dX8_addTerm_26 flX8_37 rfl (by simp only [IsO_sI, IsO_sL, IsO_sR, IsO_wI, IsO_wL, IsA_sI, IsA_sL, IsA_sR, IsA_wI, IsA_wL, mR_sI, mR_sL, mR_wI, mR_wL]; assumption) (kz := 5) rfl (by simp only [IsO_sI, IsO_sL, IsO_sR, IsO_wI, IsO_wL, IsA_sI, IsA_sL, IsA_sR, IsA_wI, IsA_wL, mR_sI, mR_sL, mR_wI, mR_wL]; assumption) ?_
  refine g_iload_n (j := 2) rfl dX8_addTerm_29 ?_
  refine g_ialdv dX8_addTerm_30 (by simp only [IsO_sI, IsO_sL, IsO_sR, IsO_wI, IsO_wL, IsA_sI, IsA_sL, IsA_sR, IsA_wI, IsA_wL, mR_sI, mR_sL, mR_wI, mR_wL]; assumption) (by omega) (by omega) (by simp [mI_sI, mI_sL, mI_sR, mI_wI, mI_wL, mL_sI, mL_sL, mL_sR, mL_wI, mL_wL, e2, g5, hq2]; rfl) ?_
  refine g_iadd dX8_addTerm_31 ?_
  refine g_putI dX8_addTerm_32 fpX8_18 rfl rfl rfl (by simp only [IsO_sI, IsO_sL, IsO_sR, IsO_wI, IsO_wL, IsA_sI, IsA_sL, IsA_sR, IsA_wI, IsA_wL, mR_sI, mR_sL, mR_wI, mR_wL]; assumption) (kz := 2) rfl ?_
  have hf1 : FrS x μ (sI (sI μ (x + 65) 3 (len + (tHi (tK u) (tF u) (tL u) (tH u) - tLo (tK u) (tF u) (tL u) (tH u)))) (x + 65) 2 (lo + tLo (tK u) (tF u) (tL u) (tH u))) := (Fr.sI (by omega)).tr (Fr.sI (by omega))
  have e31 : mI (sI (sI μ (x + 65) 3 (len + (tHi (tK u) (tF u) (tL u) (tH u) - tLo (tK u) (tF u) (tL u) (tH u)))) (x + 65) 2 (lo + tLo (tK u) (tF u) (tL u) (tH u))) (x + 65) 3 = len + (tHi (tK u) (tF u) (tL u) (tH u) - tLo (tK u) (tF u) (tL u) (tH u)) := by rw [mI_sI, if_neg (by omega), mI_sI, if_pos ⟨rfl, rfl⟩]
  have e21 : mI (sI (sI μ (x + 65) 3 (len + (tHi (tK u) (tF u) (tL u) (tH u) - tLo (tK u) (tF u) (tL u) (tH u)))) (x + 65) 2 (lo + tLo (tK u) (tF u) (tL u) (tH u))) (x + 65) 2 = lo + tLo (tK u) (tF u) (tL u) (tH u) := by rw [mI_sI, if_pos ⟨rfl, rfl⟩]
  have hT1 := hf1.tps hT
  obtain ⟨hF1, hI1⟩ := hf1.Fi hq hF hI
  have hR1 : SuR (sI (sI μ (x + 65) 3 (len + (tHi (tK u) (tF u) (tL u) (tH u) - tLo (tK u) (tF u) (tL u) (tH u)))) (x + 65) 2 (lo + tLo (tK u) (tF u) (tL u) (tH u))) x bA bB := hR
  replace hb : ∀ p, 0 ≤ p → p < 30016 → (BitS (mL (sI (sI μ (x + 65) 3 (len + (tHi (tK u) (tF u) (tL u) (tH u) - tLo (tK u) (tF u) (tL u) (tH u)))) (x + 65) 2 (lo + tLo (tK u) (tF u) (tL u) (tH u))) bA) p = true ↔ P (p + lo)) := hb
  have hab := hR.2.2
  have hat1 : TmAt (sI (sI μ (x + 65) 3 (len + (tHi (tK u) (tF u) (tL u) (tH u) - tLo (tK u) (tF u) (tL u) (tH u)))) (x + 65) 2 (lo + tLo (tK u) (tF u) (tL u) (tH u))) q t u := by
    unfold TmAt
    simp only [mI_sI, hqq, false_and, if_false]
    exact ⟨g1, g2, g3, g4, g5, g6⟩
  generalize sI (sI μ (x + 65) 3 (len + (tHi (tK u) (tF u) (tL u) (tH u) - tLo (tK u) (tF u) (tL u) (tH u)))) (x + 65) 2 (lo + tLo (tK u) (tF u) (tL u) (tH u)) = μ1 at *
  obtain ⟨g1b, g2b, g3b, g4b, g5b, g6b⟩ := id hat1
  obtain ⟨p0b, ⟨pr1b, pr2b, pr3b, pr4b, pr5b, pr6b⟩, pa1b, pa2b, pa3b, pa4b, pa5b, pa6b⟩ := id hF1
  have o65b := hT1.o65
  refine g_aload_n (j := 1) rfl dX8_addTerm_35 ?_
  refine g_getR dX8_addTerm_36 flX8_40 rfl (by assumption) (kz := 2) rfl (by assumption) ?_
  refine g_iload_n (j := 2) rfl dX8_addTerm_39 ?_
  refine g_iald dX8_addTerm_40 (by assumption) (by omega) (by omega) ?_
  rw [g2b]
  refine g_if_ne (tgt := 72) dX8_addTerm_41 (by decide) (by omega) (fun h41 => ?_) (fun h41 => ?_)
  · refine g_aload_n (j := 0) rfl dX8_addTerm_72 ?_
    refine g_aload_n (j := 1) rfl dX8_addTerm_73 ?_
    refine g_iload_n (j := 2) rfl dX8_addTerm_74 ?_
    refine g_callV dX8_addTerm_75 mlX8_56 mvX8_addPower (ci := 8) ⟨by decide, rfl⟩ (by assumption) (c_addPower w d μ1 hT1 hR1 hF1 hI1 hq (P := P) (lo := lo) (len0 := len) e31 (by omega) (fun p z1 z2 => hb p z1 z2) hP h0 h1 hk hat1 rfl) sv2 rfl (by omega) (Nat.le_of_ble_eq_true rfl) (Nat.le_refl _) (Nat.le_refl _) (fun v μ2 hR => ?_)
    obtain ⟨rfl, hf2, hR2, ej, hbit⟩ := hR
    first
    | (subst hm2
       refine G.retV dX8_addTerm_78 rfl ⟨rfl, hf1.tr (Fr.wL (by omega)), bA, bB, hR1, e21, e31, by omega, by omega, fun p z1 z2 => ?_, hrng⟩
       rw [show mL (wL μ1 bA gl) bA = gl from funext fun k => by rw [mL_wL, if_pos rfl], hbit p z1 z2]
       have hz := line_lo hk h41
       constructor
       · rintro ⟨j, y1, y2⟩
         refine ⟨tL u + j, by omega, ?_⟩
         rw [hz.2.2, hz.1, Int.mul_add]
         rwa [show p + (lo + tF u * tL u) - (tF u * tL u + tF u * j) = p + lo - tF u * j by omega]
       · rintro ⟨z, y1, y2⟩
         refine ⟨z - tL u, by omega, ?_⟩
         rw [hz.2.2, hz.1] at y2
         rw [Int.mul_sub]
         rwa [show p + lo - (tF u * z - tF u * tL u) = p + (lo + tF u * tL u) - tF u * z by omega])
    | (refine G.retV dX8_addTerm_78 rfl ⟨rfl, hf1.tr hf2, bB, bA, hR2, (ej 2).trans e21, (ej 3).trans e31, by omega, by omega, fun p z1 z2 => ?_, hrng⟩
       rw [hbit p z1 z2]
       constructor
       · rintro ⟨z, y1, y2⟩
         refine ⟨z, y1, ?_⟩
         rwa [show p + (lo + tLo (tK u) (tF u) (tL u) (tH u)) - tV u z = p + lo + tLo (tK u) (tF u) (tL u) (tH u) - tV u z by omega]
       · rintro ⟨z, y1, y2⟩
         refine ⟨z, y1, ?_⟩
         rwa [show p + lo + tLo (tK u) (tF u) (tL u) (tH u) - tV u z = p + (lo + tLo (tK u) (tF u) (tL u) (tH u)) - tV u z by omega])
  · refine g_aload_n (j := 0) rfl dX8_addTerm_44 ?_
    refine g_aload_n (j := 1) rfl dX8_addTerm_45 ?_
    refine g_getR dX8_addTerm_46 flX8_43 rfl (by assumption) (kz := 1) rfl (by assumption) ?_
    refine g_iload_n (j := 2) rfl dX8_addTerm_49 ?_
    refine g_iald dX8_addTerm_50 (by assumption) (by omega) (by omega) ?_
    rw [g1b]
    refine g_aload_n (j := 1) rfl dX8_addTerm_51 ?_
    refine g_getR dX8_addTerm_52 flX8_46 rfl (by assumption) (kz := 4) rfl (by assumption) ?_
    refine g_iload_n (j := 2) rfl dX8_addTerm_55 ?_
    refine g_iald dX8_addTerm_56 (by assumption) (by omega) (by omega) ?_
    rw [g4b]
    refine g_aload_n (j := 1) rfl dX8_addTerm_57 ?_
    refine g_getR dX8_addTerm_58 flX8_49 rfl (by assumption) (kz := 3) rfl (by assumption) ?_
    refine g_iload_n (j := 2) rfl dX8_addTerm_61 ?_
    refine g_iald dX8_addTerm_62 (by assumption) (by omega) (by omega) ?_
    rw [g3b]
    refine g_isub dX8_addTerm_63 ?_
    refine g_iconst dX8_addTerm_64 ?_
    refine g_iadd dX8_addTerm_65 ?_
    refine g_callV dX8_addTerm_66 mlX8_52 mvX8_addLine (ci := 8) ⟨by decide, rfl⟩ (by assumption) (c_addLine w d μ1 hT1 hR1 (P := P) (lo := lo) (len0 := len) (f := tF u) (wn := tH u - tL u + 1) (e := th - tl) e31 hk1 (by omega) (by have hz := line_lo hk h41; rw [etl, eth, hz.1, hz.2.1, show tH u - tL u + 1 - 1 = tH u - tL u by omega, Int.mul_sub]) (by omega) (by omega) (fun p z1 z2 => hb p z1 z2) hP) sv2 rfl (by omega) (Nat.le_of_ble_eq_true rfl) (Nat.le_refl _) (Nat.le_refl _) (fun v μ2 hR => ?_)
    obtain ⟨rfl, gl, hm2, hbit⟩ := hR
    refine g_goto (tgt := 78) (by decide) dX8_addTerm_69 ?_
    first
    | (subst hm2
       refine G.retV dX8_addTerm_78 rfl ⟨rfl, hf1.tr (Fr.wL (by omega)), bA, bB, hR1, e21, e31, by omega, by omega, fun p z1 z2 => ?_, hrng⟩
       rw [show mL (wL μ1 bA gl) bA = gl from funext fun k => by rw [mL_wL, if_pos rfl], hbit p z1 z2]
       have hz := line_lo hk h41
       constructor
       · rintro ⟨j, y1, y2⟩
         refine ⟨tL u + j, by omega, ?_⟩
         rw [hz.2.2, hz.1, Int.mul_add]
         rwa [show p + (lo + tF u * tL u) - (tF u * tL u + tF u * j) = p + lo - tF u * j by omega]
       · rintro ⟨z, y1, y2⟩
         refine ⟨z - tL u, by omega, ?_⟩
         rw [hz.2.2, hz.1] at y2
         rw [Int.mul_sub]
         rwa [show p + lo - (tF u * z - tF u * tL u) = p + (lo + tF u * tL u) - tF u * z by omega])
    | (refine G.retV dX8_addTerm_78 rfl ⟨rfl, hf1.tr hf2, bB, bA, hR2, (ej 2).trans e21, (ej 3).trans e31, by omega, by omega, fun p z1 z2 => ?_, hrng⟩
       rw [hbit p z1 z2]
       constructor
       · rintro ⟨z, y1, y2⟩
         refine ⟨z, y1, ?_⟩
         rwa [show p + (lo + tLo (tK u) (tF u) (tL u) (tH u)) - tV u z = p + lo + tLo (tK u) (tF u) (tL u) (tH u) - tV u z by omega]
       · rintro ⟨z, y1, y2⟩
         refine ⟨z, y1, ?_⟩
         rwa [show p + lo + tLo (tK u) (tF u) (tL u) (tH u) - tV u z = p + (lo + tLo (tK u) (tF u) (tL u) (tH u)) - tV u z by omega])
end SV
