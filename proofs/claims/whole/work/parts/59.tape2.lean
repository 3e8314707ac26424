/-! THE CLASS: tokens -/
def CuF (x : Nat) : Mem → Mem → Prop := Fr (fun a => (x + 1 ≤ a ∧ a ≤ x + 6) ∧ ¬ a = x + 2) (fun _ _ => False)
theorem CuF.tps {w : WC} {x : Nat} {μ μ2 : Mem} (h : CuF x μ μ2) (hT : TPS w μ x) : TPS w μ2 x := hT.fr h fun _ _ _ z => z.elim
def CutR (x : Nat) (n : Int) (B : Int → Int) (p k : Int) (μ μ2 : Mem) : Prop := CuF x μ μ2 ∧ mI μ2 (x + 1) 6 = en n B p ∧ mI μ2 (x + 1) 7 = k + 1 ∧ (∀ j, ¬ j = 6 → ¬ j = 7 → mI μ2 (x + 1) j = mI μ (x + 1) j) ∧ (mI μ2 (x + 3) k = ks n B p ∧ mI μ2 (x + 4) k = p ∧ mI μ2 (x + 5) k = en n B p - p ∧ mI μ2 (x + 6) k = ka n B p) ∧ ∀ a, x + 3 ≤ a → a ≤ x + 6 → ∀ j, ¬ j = k → mI μ2 a j = mI μ a j
section TC
variable {w : WC} {d x : Nat} {n : Int} {B : Int → Int} {R : Option AV → Mem → Prop}
theorem s6 {μ : Mem} (hT : TPS w μ x) (hB : TpC μ x n B) (e : Int) : TPS w (sI μ (x + 1) 6 e) x ∧ TpC (sI μ (x + 1) 6 e) x n B := ⟨hT.fr (Fr.sI (P := fun a => a = x + 1) (K := fun _ _ => False) rfl) fun _ _ _ z => z.elim, hB.fr hT (by rw [mI_sI, if_neg (by omega)]) (fun j => by rw [mI_sI, if_neg (by omega)])⟩
theorem l_cut {μ : Mem} (hT : TPS w μ x) (hB : TpC μ x n B) {p : Int} (hp : 0 ≤ p ∧ p < n) (kk : G w (d + 1) mX10_cutToken R 0 0 70 [some (vP (some (x + 1))), some (vI p), some (vI (srt (B p)))] [] (sI μ (x + 1) 6 (en n B p))) : ∀ (k : Nat) (e : Int), (n - e).toNat = k → p < e → e ≤ n → (srt (B p) = 3 → e = en n B p) → (¬ srt (B p) = 3 → rn n B (srt (B p)) e = en n B p) →
    G w (d + 1) mX10_cutToken R 0 0 25 [some (vP (some (x + 1))), some (vI p), some (vI (srt (B p)))] [] (sI μ (x + 1) 6 e) := by
  have hs3 := srt_c (B p)
  have hO := hB.2.1.1
  intro k
  induction k with
  | zero =>
    intro e hk h1 h2 h3 h4
    obtain ⟨hT1, hB1⟩ := s6 hT hB e
    have o1 := hT1.o1
    have e5 := hB1.1
    have e6 : mI (sI μ (x + 1) 6 e) (x + 1) 6 = e := by rw [mI_sI, if_pos ⟨rfl, rfl⟩]
    have he : e = en n B p := by
      by_cases hs : srt (B p) = 3
      · exact h3 hs
      · rw [← h4 hs, rn_stop (by omega)]
    rw [← he] at kk
    refine g_iload_n (j := 2) rfl dX10_cutToken_25 ?_
    refine g_iconst dX10_cutToken_26 ?_
    refine g_icmp_eq (tgt := 70) dX10_cutToken_27 (by decide) (by omega) (by omega) (fun h27 => ?_) (fun h27 => ?_)
    · exact kk
    · refine g_aload_n (j := 0) rfl dX10_cutToken_30 ?_
      refine g_getI dX10_cutToken_31 flX10_53 rfl (by assumption) (kz := 6) rfl ?_
      refine g_aload_n (j := 0) rfl dX10_cutToken_34 ?_
      refine g_getI dX10_cutToken_35 flX10_38 rfl (by assumption) (kz := 5) rfl ?_
      refine g_icmp_ge (tgt := 70) dX10_cutToken_38 (by decide) (by omega) (by omega) (fun h38 => ?_) (fun h38 => ?_)
      · exact kk
      · omega
  | succ k ih =>
    intro e hk h1 h2 h3 h4
    obtain ⟨hT1, hB1⟩ := s6 hT hB e
    have o1 := hT1.o1
    have r10 := hT1.r1_0
    have a2 := hT1.a2
    have e5 := hB1.1
    have e6 : mI (sI μ (x + 1) 6 e) (x + 1) 6 = e := by rw [mI_sI, if_pos ⟨rfl, rfl⟩]
    have hb := hB1.2.1.2 e (by omega) (by omega)
    have hbb := sb_bd (b := B e) (by omega)
    have eb := hB1.2.2 e (by omega) (by omega)
    have es := srt_sb hb
    have hse := srt_c (B e)
    refine g_iload_n (j := 2) rfl dX10_cutToken_25 ?_
    refine g_iconst dX10_cutToken_26 ?_
    refine g_icmp_eq (tgt := 70) dX10_cutToken_27 (by decide) (by omega) (by omega) (fun h27 => ?_) (fun h27 => ?_)
    · rw [← h3 (by omega)] at kk
      exact kk
    · refine g_aload_n (j := 0) rfl dX10_cutToken_30 ?_
      refine g_getI dX10_cutToken_31 flX10_53 rfl (by assumption) (kz := 6) rfl ?_
      refine g_aload_n (j := 0) rfl dX10_cutToken_34 ?_
      refine g_getI dX10_cutToken_35 flX10_38 rfl (by assumption) (kz := 5) rfl ?_
      refine g_icmp_ge (tgt := 70) dX10_cutToken_38 (by decide) (by omega) (by omega) (fun h38 => ?_) (fun h38 => ?_)
      · omega
      · refine g_aload_n (j := 0) rfl dX10_cutToken_41 ?_
        refine g_getR dX10_cutToken_42 flX10_9 rfl (by assumption) (kz := 0) rfl (by assumption) ?_
        refine g_aload_n (j := 0) rfl dX10_cutToken_45 ?_
        refine g_getI dX10_cutToken_46 flX10_53 rfl (by assumption) (kz := 6) rfl ?_
        refine g_bald dX10_cutToken_49 (by assumption) (by omega) (by omega) ?_
        rw [e6, eb]
        refine g_callS dX10_cutToken_50 mlX10_69 msX10_sortOf (c_sortOf w d (sI μ (x + 1) 6 e) (b := sb (B e)) (by omega)) sk1 rfl (by omega) (Nat.le_of_ble_eq_true rfl) (Nat.le_refl _) (Nat.le_refl _) (fun v μ2 hR => ?_)
        obtain ⟨rfl, hm⟩ := hR
        replace hm := hm.symm
        subst hm
        rw [es]
        refine g_iload_n (j := 2) rfl dX10_cutToken_53 ?_
        refine g_icmp_ne (tgt := 70) dX10_cutToken_54 (by decide) (by omega) (by omega) (fun h54 => ?_) (fun h54 => ?_)
        · have h5 := h4 (by omega)
          rw [rn_stop (by omega)] at h5
          rw [← h5] at kk
          exact kk
        · refine g_aload_n (j := 0) rfl dX10_cutToken_57 ?_
          refine g_dup rfl dX10_cutToken_58 ?_
          refine g_getI dX10_cutToken_59 flX10_53 rfl (by assumption) (kz := 6) rfl ?_
          refine g_iconst dX10_cutToken_62 ?_
          refine g_iadd dX10_cutToken_63 ?_
          refine g_putI dX10_cutToken_64 fpX10_53 rfl rfl rfl (by assumption) (kz := 6) rfl ?_
          refine g_goto (tgt := 25) (by decide) dX10_cutToken_67 ?_
          rw [e6, sI_sI]
          refine ih (e + 1) (by omega) (by omega) (by omega) (fun z => by omega) (fun z => ?_)
          rw [← rn_step (by omega)]
          exact h4 z
theorem c_cutToken (w : WC) (d : Nat) (μ : Mem) {x : Nat} {n p k : Int} {B : Int → Int} (hT : TPS w μ x) (hB : TpC μ x n B) (hp : 0 ≤ p ∧ p < n) (e6 : mI μ (x + 1) 6 = p) (e7 : mI μ (x + 1) 7 = k) (hk : 0 ≤ k ∧ k ≤ 799) : Con w (d + 1) mX10_cutToken 0 0 [vP (some (x + 1))] μ (fun v μ2 => v = none ∧ CutR x n B p k μ μ2) := by
  have o1 := hT.o1
  have r10 := hT.r1_0
  have a2 := hT.a2
  have hO := hB.2.1.1
  have hb := hB.2.1.2 p hp.1 (by omega)
  have hbb := sb_bd (b := B p) (by omega)
  have eb := hB.2.2 p hp.1 (by omega)
  have es := srt_sb hb
  have he := en_bd (n := n) (B := B) (p := p) (by omega)
  refine Con.of (by decide) (Nat.le_of_ble_eq_true rfl) rfl ?_
  refine g_aload_n (j := 0) rfl dX10_cutToken_0 ?_
  refine g_getI dX10_cutToken_1 flX10_53 rfl (by assumption) (kz := 6) rfl ?_
  rw [e6]
  refine g_istore_n (j := 1) dX10_cutToken_4 (by decide) rfl ls1 ?_
  refine g_aload_n (j := 0) rfl dX10_cutToken_5 ?_
  refine g_getR dX10_cutToken_6 flX10_9 rfl (by assumption) (kz := 0) rfl (by assumption) ?_
  refine g_iload_n (j := 1) rfl dX10_cutToken_9 ?_
  refine g_bald dX10_cutToken_10 (by assumption) (by omega) (by omega) ?_
  rw [eb]
  refine g_callS dX10_cutToken_11 mlX10_69 msX10_sortOf (c_sortOf w d μ (b := sb (B p)) (by omega)) sk1 rfl (by omega) (Nat.le_of_ble_eq_true rfl) (Nat.le_refl _) (Nat.le_refl _) (fun v μ2 hR => ?_)
  obtain ⟨rfl, hm⟩ := hR
  replace hm := hm.symm
  subst hm
  rw [es]
  refine g_istore_n (j := 2) dX10_cutToken_14 (by decide) rfl ls2 ?_
  refine g_aload_n (j := 0) rfl dX10_cutToken_15 ?_
  refine g_dup rfl dX10_cutToken_16 ?_
  refine g_getI dX10_cutToken_17 flX10_53 rfl (by assumption) (kz := 6) rfl ?_
  refine g_iconst dX10_cutToken_20 ?_
  refine g_iadd dX10_cutToken_21 ?_
  refine g_putI dX10_cutToken_22 fpX10_53 rfl rfl rfl (by assumption) (kz := 6) rfl ?_
  rw [e6]
  refine l_cut (d := d) hT hB hp ?_ (n - (p + 1)).toNat (p + 1) rfl (by omega) (by omega) (fun z => by unfold en; rw [if_pos hp.2, if_pos z]) (fun z => by unfold en; rw [if_pos hp.2, if_neg z])
  obtain ⟨hT1, hB1⟩ := s6 hT hB (en n B p)
  have f6 : mI (sI μ (x + 1) 6 (en n B p)) (x + 1) 6 = en n B p := by rw [mI_sI, if_pos ⟨rfl, rfl⟩]
  have f7 : mI (sI μ (x + 1) 6 (en n B p)) (x + 1) 7 = k := by rw [mI_sI, if_neg (by omega)]; exact e7
  have fj : ∀ j, ¬ j = 6 → mI (sI μ (x + 1) 6 (en n B p)) (x + 1) j = mI μ (x + 1) j := fun j z => by rw [mI_sI, if_neg (by omega)]
  have fa : ∀ a, x + 3 ≤ a → ∀ j, mI (sI μ (x + 1) 6 (en n B p)) a j = mI μ a j := fun a z j => by rw [mI_sI, if_neg (by omega)]
  have ff : CuF x μ (sI μ (x + 1) 6 (en n B p)) := Fr.sI (by omega)
  generalize sI μ (x + 1) 6 (en n B p) = μ1 at *
  have o11 := hT1.o1
  have r101 := hT1.r1_0
  have r111 := hT1.r1_1
  have r121 := hT1.r1_2
  have r131 := hT1.r1_3
  have r141 := hT1.r1_4
  have a21 := hT1.a2
  have a31 := hT1.a3
  have a41 := hT1.a4
  have a51 := hT1.a5
  have a61 := hT1.a6
  have eb1 := hB1.2.2 p hp.1 (by omega)
  have hs3 := srt_c (B p)
  refine g_aload_n (j := 0) rfl dX10_cutToken_70 ?_
  refine g_getR dX10_cutToken_71 flX10_15 rfl (by assumption) (kz := 1) rfl (by assumption) ?_
  refine g_aload_n (j := 0) rfl dX10_cutToken_74 ?_
  refine g_getI dX10_cutToken_75 flX10_56 rfl (by assumption) (kz := 7) rfl ?_
  rw [f7]
  refine g_iload_n (j := 2) rfl dX10_cutToken_78 ?_
  refine g_iast dX10_cutToken_79 (by assumption) (by omega) (by omega) ?_
  refine g_aload_n (j := 0) rfl dX10_cutToken_80 ?_
  refine g_getR dX10_cutToken_81 flX10_19 rfl (by simp only [IsO_sI, IsO_sL, IsO_sR, IsO_wI, IsO_wL, IsA_sI, IsA_sL, IsA_sR, IsA_wI, IsA_wL, mR_sI, mR_sL, mR_wI, mR_wL]; assumption) (kz := 2) rfl (by simp only [IsO_sI, IsO_sL, IsO_sR, IsO_wI, IsO_wL, IsA_sI, IsA_sL, IsA_sR, IsA_wI, IsA_wL, mR_sI, mR_sL, mR_wI, mR_wL]; assumption) ?_
  refine g_aload_n (j := 0) rfl dX10_cutToken_84 ?_
  refine g_getIv dX10_cutToken_85 flX10_56 rfl (by simp only [IsO_sI, IsO_sL, IsO_sR, IsO_wI, IsO_wL, IsA_sI, IsA_sL, IsA_sR, IsA_wI, IsA_wL, mR_sI, mR_sL, mR_wI, mR_wL]; assumption) (kz := 7) rfl (by simp [mI_sI, mI_sL, mI_sR, mI_wI, mI_wL, mL_sI, mL_sL, mL_sR, mL_wI, mL_wL, f6, f7, eb1]; rfl) ?_
  refine g_iload_n (j := 1) rfl dX10_cutToken_88 ?_
  refine g_iast dX10_cutToken_89 (by simp only [IsO_sI, IsO_sL, IsO_sR, IsO_wI, IsO_wL, IsA_sI, IsA_sL, IsA_sR, IsA_wI, IsA_wL, mR_sI, mR_sL, mR_wI, mR_wL]; assumption) (by omega) (by omega) ?_
  refine g_aload_n (j := 0) rfl dX10_cutToken_90 ?_
  refine g_getR dX10_cutToken_91 flX10_22 rfl (by simp only [IsO_sI, IsO_sL, IsO_sR, IsO_wI, IsO_wL, IsA_sI, IsA_sL, IsA_sR, IsA_wI, IsA_wL, mR_sI, mR_sL, mR_wI, mR_wL]; assumption) (kz := 3) rfl (by simp only [IsO_sI, IsO_sL, IsO_sR, IsO_wI, IsO_wL, IsA_sI, IsA_sL, IsA_sR, IsA_wI, IsA_wL, mR_sI, mR_sL, mR_wI, mR_wL]; assumption) ?_
  refine g_aload_n (j := 0) rfl dX10_cutToken_94 ?_
  refine g_getIv dX10_cutToken_95 flX10_56 rfl (by simp only [IsO_sI, IsO_sL, IsO_sR, IsO_wI, IsO_wL, IsA_sI, IsA_sL, IsA_sR, IsA_wI, IsA_wL, mR_sI, mR_sL, mR_wI, mR_wL]; assumption) (kz := 7) rfl (by simp [mI_sI, mI_sL, mI_sR, mI_wI, mI_wL, mL_sI, mL_sL, mL_sR, mL_wI, mL_wL, f6, f7, eb1]; rfl) ?_
  refine g_aload_n (j := 0) rfl dX10_cutToken_98 ?_
  refine g_getIv dX10_cutToken_99 flX10_53 rfl (by simp only [IsO_sI, IsO_sL, IsO_sR, IsO_wI, IsO_wL, IsA_sI, IsA_sL, IsA_sR, IsA_wI, IsA_wL, mR_sI, mR_sL, mR_wI, mR_wL]; assumption) (kz := 6) rfl (by simp [mI_sI, mI_sL, mI_sR, mI_wI, mI_wL, mL_sI, mL_sL, mL_sR, mL_wI, mL_wL, f6, f7, eb1]; rfl) ?_
  refine g_iload_n (j := 1) rfl dX10_cutToken_102 ?_
  refine g_isub dX10_cutToken_103 ?_
  refine g_iast dX10_cutToken_104 (by simp only [IsO_sI, IsO_sL, IsO_sR, IsO_wI, IsO_wL, IsA_sI, IsA_sL, IsA_sR, IsA_wI, IsA_wL, mR_sI, mR_sL, mR_wI, mR_wL]; assumption) (by omega) (by omega) ?_
  refine g_aload_n (j := 0) rfl dX10_cutToken_105 ?_
  refine g_getR dX10_cutToken_106 flX10_25 rfl (by simp only [IsO_sI, IsO_sL, IsO_sR, IsO_wI, IsO_wL, IsA_sI, IsA_sL, IsA_sR, IsA_wI, IsA_wL, mR_sI, mR_sL, mR_wI, mR_wL]; assumption) (kz := 4) rfl (by simp only [IsO_sI, IsO_sL, IsO_sR, IsO_wI, IsO_wL, IsA_sI, IsA_sL, IsA_sR, IsA_wI, IsA_wL, mR_sI, mR_sL, mR_wI, mR_wL]; assumption) ?_
  refine g_aload_n (j := 0) rfl dX10_cutToken_109 ?_
  refine g_getIv dX10_cutToken_110 flX10_56 rfl (by simp only [IsO_sI, IsO_sL, IsO_sR, IsO_wI, IsO_wL, IsA_sI, IsA_sL, IsA_sR, IsA_wI, IsA_wL, mR_sI, mR_sL, mR_wI, mR_wL]; assumption) (kz := 7) rfl (by simp [mI_sI, mI_sL, mI_sR, mI_wI, mI_wL, mL_sI, mL_sL, mL_sR, mL_wI, mL_wL, f6, f7, eb1]; rfl) ?_
  refine g_aload_n (j := 0) rfl dX10_cutToken_113 ?_
  refine g_getR dX10_cutToken_114 flX10_9 rfl (by simp only [IsO_sI, IsO_sL, IsO_sR, IsO_wI, IsO_wL, IsA_sI, IsA_sL, IsA_sR, IsA_wI, IsA_wL, mR_sI, mR_sL, mR_wI, mR_wL]; assumption) (kz := 0) rfl (by simp only [IsO_sI, IsO_sL, IsO_sR, IsO_wI, IsO_wL, IsA_sI, IsA_sL, IsA_sR, IsA_wI, IsA_wL, mR_sI, mR_sL, mR_wI, mR_wL]; assumption) ?_
  refine g_iload_n (j := 1) rfl dX10_cutToken_117 ?_
  refine g_baldv dX10_cutToken_118 (by simp only [IsO_sI, IsO_sL, IsO_sR, IsO_wI, IsO_wL, IsA_sI, IsA_sL, IsA_sR, IsA_wI, IsA_wL, mR_sI, mR_sL, mR_wI, mR_wL]; assumption) (by omega) (by omega) (by simp [mI_sI, mI_sL, mI_sR, mI_wI, mI_wL, mL_sI, mL_sL, mL_sR, mL_wI, mL_wL, f6, f7, eb1]; rfl) ?_
  refine g_sipush dX10_cutToken_119 (by omega) ?_
  refine g_iand dX10_cutToken_122 ?_
  rw [an255 hb]
  refine g_iast dX10_cutToken_123 (by simp only [IsO_sI, IsO_sL, IsO_sR, IsO_wI, IsO_wL, IsA_sI, IsA_sL, IsA_sR, IsA_wI, IsA_wL, mR_sI, mR_sL, mR_wI, mR_wL]; assumption) (by omega) (by omega) ?_
  refine g_iload_n (j := 2) rfl dX10_cutToken_124 ?_
  refine g_iconst dX10_cutToken_125 ?_
  refine g_icmp_ne (tgt := 134) dX10_cutToken_126 (by decide) (by omega) (by omega) (fun h126 => ?_) (fun h126 => ?_)
  · refine g_aload_n (j := 0) rfl dX10_cutToken_134 ?_
    refine g_dup rfl dX10_cutToken_135 ?_
    refine g_getIv dX10_cutToken_136 flX10_56 rfl (by simp only [IsO_sI, IsO_sL, IsO_sR, IsO_wI, IsO_wL, IsA_sI, IsA_sL, IsA_sR, IsA_wI, IsA_wL, mR_sI, mR_sL, mR_wI, mR_wL]; assumption) (kz := 7) rfl (by simp [mI_sI, mI_sL, mI_sR, mI_wI, mI_wL, mL_sI, mL_sL, mL_sR, mL_wI, mL_wL, f6, f7, eb1]; rfl) ?_
    refine g_iconst dX10_cutToken_139 ?_
    refine g_iadd dX10_cutToken_140 ?_
    refine g_putI dX10_cutToken_141 fpX10_56 rfl rfl rfl (by simp only [IsO_sI, IsO_sL, IsO_sR, IsO_wI, IsO_wL, IsA_sI, IsA_sL, IsA_sR, IsA_wI, IsA_wL, mR_sI, mR_sL, mR_wI, mR_wL]; assumption) (kz := 7) rfl ?_
    refine G.retV dX10_cutToken_144 rfl ⟨rfl, ff.tr (((Fr.sI (by omega)).tr (Fr.sI (by omega))).tr (((Fr.sI (by omega)).tr (Fr.sI (by omega))).tr (Fr.sI (by omega)))), by simp [mI_sI, f6], by simp [mI_sI], fun j z1 z2 => by rw [← fj j z1]; simp [mI_sI, z2], ⟨?_, by simp [mI_sI], by simp [mI_sI], ?_⟩, fun a z1 z2 j z3 => by rw [← fa a z1 j]; simp [mI_sI, z3]; omega⟩
    · simp [mI_sI, ks, hp.2]
      omega
    · simp [mI_sI, ka, hp.2]
      omega
  · have hfm : CuF x μ1 (sI (sI (sI (sI μ1 (x + 3) k (srt (B p))) (x + 4) k p) (x + 5) k (en n B p - p)) (x + 6) k (B p)) := ((Fr.sI (by omega)).tr (Fr.sI (by omega))).tr ((Fr.sI (by omega)).tr (Fr.sI (by omega)))
    have hTm := hfm.tps hT1
    have hBm : TpC (sI (sI (sI (sI μ1 (x + 3) k (srt (B p))) (x + 4) k p) (x + 5) k (en n B p - p)) (x + 6) k (B p)) x n B := hB1.fr hT1 (by simp [mI_sI]) (fun j => by simp [mI_sI])
    refine g_aload_n (j := 0) rfl dX10_cutToken_129 ?_
    refine g_iload_n (j := 1) rfl dX10_cutToken_130 ?_
    refine g_callV dX10_cutToken_131 mlX10_73 mvX10_takeAmount (ci := 10) ⟨by decide, rfl⟩ (by simp only [IsO_sI, IsO_sL, IsO_sR, IsO_wI, IsO_wL, IsA_sI, IsA_sL, IsA_sR, IsA_wI, IsA_wL, mR_sI, mR_sL, mR_wI, mR_wL]; assumption) (c_takeAmount w d _ hTm hBm hp (by omega) (by simp [mI_sI, f6]) (by simp [mI_sI, f7]) (tk := k) (by omega)) sv1 rfl (by omega) (Nat.le_of_ble_eq_true rfl) (Nat.le_refl _) (Nat.le_refl _) (fun v μ3 hR => ?_)
    obtain ⟨rfl, hm2⟩ := hR
    have o13 : IsO w μ3 (x + 1) 10 := by rw [hm2]; split <;> exact o11
    refine g_aload_n (j := 0) rfl dX10_cutToken_134 ?_
    refine g_dup rfl dX10_cutToken_135 ?_
    refine g_getI dX10_cutToken_136 flX10_56 rfl (by assumption) (kz := 7) rfl ?_
    refine g_iconst dX10_cutToken_139 ?_
    refine g_iadd dX10_cutToken_140 ?_
    refine g_putI dX10_cutToken_141 fpX10_56 rfl rfl rfl (by assumption) (kz := 7) rfl ?_
    have hf3 : CuF x (sI (sI (sI (sI μ1 (x + 3) k (srt (B p))) (x + 4) k p) (x + 5) k (en n B p - p)) (x + 6) k (B p)) μ3 := by
      rw [hm2]
      split
      · exact (Fr.sI (by omega)).tr (Fr.sI (by omega))
      · exact Fr.sI (by omega)
    have e73 : mI μ3 (x + 1) 7 = k := by
      rw [hm2]
      split <;> simp [mI_sI, f7]
    refine G.retV dX10_cutToken_144 rfl ⟨rfl, ((ff.tr hfm).tr hf3).tr (Fr.sI (by omega)), ?_, by simp [mI_sI, e73], fun j z1 z2 => ?_, ⟨?_, ?_, ?_, ?_⟩, fun a z1 z2 j z3 => ?_⟩
    · rw [hm2]
      split <;> simp [mI_sI, f6]
    · rw [← fj j z1, hm2]
      split <;> simp [mI_sI, z2]
    · rw [hm2]
      unfold ks
      rw [if_pos hp.2, if_pos (show srt (B p) = 1 by omega)]
      split
      · simp [mI_sI]
      · simp [mI_sI]
        omega
    · rw [hm2]
      split <;> simp [mI_sI]
    · rw [hm2]
      split <;> simp [mI_sI]
    · rw [hm2]
      unfold ka
      rw [if_pos hp.2, if_pos (show srt (B p) = 1 by omega)]
      split <;> simp [mI_sI]
    · rw [← fa a z1 j, hm2]
      split <;> (simp [mI_sI, z3]; omega)
end TC
