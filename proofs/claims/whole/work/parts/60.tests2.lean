/-! THE CLASS: begin, tests of tokens -/
def TkA (μ : Mem) (x : Nat) (n : Int) (B : Int → Int) (j : Nat) : Prop := mI μ (x + 3) (j : Int) = ks n B (tP n B j) ∧ mI μ (x + 4) (j : Int) = tP n B j ∧ mI μ (x + 5) (j : Int) = en n B (tP n B j) - tP n B j ∧ mI μ (x + 6) (j : Int) = ka n B (tP n B j)
/-- the tape is cut into T tokens -/
def TkC (w : WC) (μ : Mem) (x : Nat) (n : Int) (B : Int → Int) (T : Nat) : Prop := TPS w μ x ∧ TpC μ x n B ∧ tP n B T = n ∧ (∀ j, j < T → tP n B j < n) ∧ mI μ (x + 1) 7 = T ∧ ∀ j : Nat, j ≤ T → TkA μ x n B j
theorem ks_n {n : Int} {B : Int → Int} {p : Int} (h : ¬ p < n) : ks n B p = 0 ∧ ka n B p = 0 ∧ en n B p = p := ⟨if_neg h, if_neg h, if_neg h⟩
theorem ks_c {n : Int} {B : Int → Int} {p : Int} (h : p < n) : (ks n B p = 1 ∨ ks n B p = 2 ∨ ks n B p = 3 ∨ ks n B p = 4) ∧ (ks n B p = 1 ↔ isN n B p) ∧ (ks n B p = 2 ↔ srt (B p) = 2) ∧ (ks n B p = 3 ↔ srt (B p) = 3) := by
  have hs := srt_c (B p)
  unfold ks isN
  rw [if_pos h]
  by_cases h1 : srt (B p) = 1
  · rw [if_pos h1]
    split <;> refine ⟨?_, ?_, ?_, ?_⟩ <;> omega
  · rw [if_neg h1]
    refine ⟨?_, ?_, ?_, ?_⟩ <;> omega
theorem TkC.T8 {w : WC} {μ : Mem} {x T : Nat} {n : Int} {B : Int → Int} (h : TkC w μ x n B T) : T ≤ 800 := by
  have hO := h.2.1.2.1.1
  rcases Nat.eq_zero_or_pos T with z | z
  · omega
  · have h1 := h.2.2.2.1 (T - 1) (by omega)
    have h2 := tP_bd (n := n) (B := B) (by omega) (T - 1)
    omega
theorem TkC.lt {w : WC} {μ : Mem} {x T : Nat} {n : Int} {B : Int → Int} (h : TkC w μ x n B T) {i : Nat} (hi : i ≤ T) : (tP n B i < n ↔ i < T) ∧ 0 ≤ tP n B i ∧ tP n B i ≤ n := by
  have hO := h.2.1.2.1.1
  have hb := tP_bd (n := n) (B := B) (by omega) i
  refine ⟨⟨fun z => ?_, fun z => h.2.2.2.1 i z⟩, hb.1, hb.2.1⟩
  by_cases hT : i = T
  · subst hT
    have := h.2.2.1
    omega
  · omega
def BgF (x : Nat) : Mem → Mem → Prop := CuF x
section BG
variable {w : WC} {d x : Nat} {n : Int} {B : Int → Int}
theorem l_begin {μ0 : Mem} (hT0 : TPS w μ0 x) {fo fi : Int} {P : Option AV → Mem → Prop} (kk : ∀ (μ : Mem) (T : Nat), CuF x μ0 μ → TpC μ x n B → (∀ j, ¬ j = 6 → ¬ j = 7 → mI μ (x + 1) j = mI μ0 (x + 1) j) → mI μ (x + 1) 7 = T → tP n B T = n → (∀ j, j < T → tP n B j < n) → (∀ j : Nat, j < T → TkA μ x n B j) → ∀ x3 : Option AV, G w (d + 2) mX10_begin P 0 0 63 [some (vP (some (x + 1))), some (vI fo), some (vI fi), x3] [] μ) : ∀ (r k : Nat) (μ : Mem), k + r = 800 → CuF x μ0 μ → TpC μ x n B → (∀ j, ¬ j = 6 → ¬ j = 7 → mI μ (x + 1) j = mI μ0 (x + 1) j) → mI μ (x + 1) 6 = tP n B k → mI μ (x + 1) 7 = k → (∀ j, j < k → tP n B j < n) → (∀ j : Nat, j < k → TkA μ x n B j) →
    G w (d + 2) mX10_begin P 0 0 31 [some (vP (some (x + 1))), some (vI fo), some (vI fi), some (vI (k : Int))] [] μ := by
  intro r
  induction r with
  | zero =>
    intro k μ hk hf hB hj e6 e7 hlt hA
    have hO := hB.2.1.1
    have hb := tP_bd (n := n) (B := B) (by omega) k
    have hPk : tP n B k = n := by omega
    refine g_iload_n (j := 3) rfl dX10_begin_31 ?_
    refine g_sipush dX10_begin_32 (by omega) ?_
    refine g_icmp_ge (tgt := 63) dX10_begin_35 (by decide) (by omega) (by omega) (fun h35 => ?_) (fun h35 => ?_)
    · exact kk μ k hf hB hj e7 hPk hlt hA _
    · omega
  | succ r ih =>
    intro k μ hk hf hB hj e6 e7 hlt hA
    have hT := hf.tps hT0
    have o1 := hT.o1
    have e5 := hB.1
    have hO := hB.2.1.1
    have hb := tP_bd (n := n) (B := B) (by omega) k
    refine g_iload_n (j := 3) rfl dX10_begin_31 ?_
    refine g_sipush dX10_begin_32 (by omega) ?_
    refine g_icmp_ge (tgt := 63) dX10_begin_35 (by decide) (by omega) (by omega) (fun h35 => ?_) (fun h35 => ?_)
    · omega
    · refine g_aload_n (j := 0) rfl dX10_begin_38 ?_
      refine g_getI dX10_begin_39 flX10_53 rfl (by assumption) (kz := 6) rfl ?_
      refine g_aload_n (j := 0) rfl dX10_begin_42 ?_
      refine g_getI dX10_begin_43 flX10_38 rfl (by assumption) (kz := 5) rfl ?_
      refine g_icmp_ge (tgt := 63) dX10_begin_46 (by decide) (by omega) (by omega) (fun h46 => ?_) (fun h46 => ?_)
      · exact kk μ k hf hB hj e7 (by omega) hlt hA _
      · refine g_aload_n (j := 0) rfl dX10_begin_49 ?_
        refine g_callV dX10_begin_50 mlX10_62 mvX10_cutToken (ci := 10) ⟨by decide, rfl⟩ (by assumption) (c_cutToken w d μ hT hB (p := tP n B k) (k := (k : Int)) (by omega) e6 e7 (by omega)) sv0 rfl (by omega) (Nat.le_of_ble_eq_true rfl) (Nat.le_refl _) (Nat.le_refl _) (fun v μ1 hR => ?_)
        obtain ⟨rfl, hc, c6, c7, cj, cA, cO⟩ := hR
        have hT1 := hc.tps hT
        have hB1 : TpC μ1 x n B := hB.fr hT (cj 5 (by omega) (by omega)) (fun j => hc.I hT.a2.2.1 (by omega) j)
        have o11 := hT1.o1
        have he := en_bd (n := n) (B := B) (p := tP n B k) (by omega)
        refine g_aload_n (j := 0) rfl dX10_begin_53 ?_
        refine g_callV dX10_begin_54 mlX10_59 mvX10_skipBlanks (ci := 10) ⟨by decide, rfl⟩ (by assumption) (c_skip w d μ1 (p := en n B (tP n B k)) (by omega) hT1 hB1 c6) sv0 rfl (by omega) (Nat.le_of_ble_eq_true rfl) (Nat.le_refl _) (Nat.le_refl _) (fun v μ2 hR => ?_)
        obtain ⟨rfl, hm2⟩ := hR
        have hf2 : CuF x μ1 μ2 := by rw [hm2]; exact Fr.sI (by omega)
        have hT2 := hf2.tps hT1
        refine g_iinc (i := 3) dX10_begin_57 rfl (by decide) rfl ls3 ?_
        refine g_goto (tgt := 31) (by decide) dX10_begin_60 ?_
        refine ih (k + 1) μ2 (by omega) ((hf.tr hc).tr hf2) ?_ (fun j z1 z2 => ?_) ?_ ?_ (fun j z => ?_) (fun j z => ?_)
        · rw [hm2]
          exact (s6 hT1 hB1 _).2
        · rw [hm2, mI_sI, if_neg (by omega), cj j z1 z2]
          exact hj j z1 z2
        · rw [hm2, mI_sI, if_pos ⟨rfl, rfl⟩]
          rfl
        · rw [hm2, mI_sI, if_neg (by omega), c7]
          omega
        · by_cases hjk : j = k
          · rw [hjk]
            omega
          · exact hlt j (by omega)
        · unfold TkA
          rw [hm2, mI_sI, if_neg (by omega), mI_sI, if_neg (by omega), mI_sI, if_neg (by omega), mI_sI, if_neg (by omega)]
          by_cases hjk : j = k
          · subst hjk
            exact cA
          · rw [cO (x + 3) (by omega) (by omega) j (by omega), cO (x + 4) (by omega) (by omega) j (by omega), cO (x + 5) (by omega) (by omega) j (by omega), cO (x + 6) (by omega) (by omega) j (by omega)]
            exact hA j (by omega)
theorem c_begin (w : WC) (d : Nat) (μ : Mem) {x : Nat} {n : Int} {B : Int → Int} (hT : TPS w μ x) (hB : TpC μ x n B) {fo fi : Int} : Con w (d + 2) mX10_begin 0 0 [vP (some (x + 1)), vI fo, vI fi] μ (fun v μ2 => v = none ∧ ∃ T, TkC w μ2 x n B T ∧ CuF x μ μ2 ∧ mI μ2 (x + 1) 8 = 0 ∧ mI μ2 (x + 1) 10 = fo ∧ mI μ2 (x + 1) 11 = fi ∧ ∀ j, 12 ≤ j → mI μ2 (x + 1) j = mI μ (x + 1) j) := by
  have o1 := hT.o1
  have hO := hB.2.1.1
  refine Con.of (by decide) (Nat.le_of_ble_eq_true rfl) rfl ?_
  refine g_aload_n (j := 0) rfl dX10_begin_0 ?_
  refine g_iload_n (j := 1) rfl dX10_begin_1 ?_
  refine g_putI dX10_begin_2 fpX10_44 rfl rfl rfl (by assumption) (kz := 10) rfl ?_
  refine g_aload_n (j := 0) rfl dX10_begin_5 ?_
  refine g_iload_n (j := 2) rfl dX10_begin_6 ?_
  refine g_putI dX10_begin_7 fpX10_47 rfl rfl rfl (by simp only [IsO_sI, IsO_sL, IsO_sR, IsO_wI, IsO_wL, IsA_sI, IsA_sL, IsA_sR, IsA_wI, IsA_wL, mR_sI, mR_sL, mR_wI, mR_wL]; assumption) (kz := 11) rfl ?_
  refine g_aload_n (j := 0) rfl dX10_begin_10 ?_
  refine g_iconst dX10_begin_11 ?_
  refine g_putI dX10_begin_12 fpX10_50 rfl rfl rfl (by simp only [IsO_sI, IsO_sL, IsO_sR, IsO_wI, IsO_wL, IsA_sI, IsA_sL, IsA_sR, IsA_wI, IsA_wL, mR_sI, mR_sL, mR_wI, mR_wL]; assumption) (kz := 8) rfl ?_
  refine g_aload_n (j := 0) rfl dX10_begin_15 ?_
  refine g_iconst dX10_begin_16 ?_
  refine g_putI dX10_begin_17 fpX10_53 rfl rfl rfl (by simp only [IsO_sI, IsO_sL, IsO_sR, IsO_wI, IsO_wL, IsA_sI, IsA_sL, IsA_sR, IsA_wI, IsA_wL, mR_sI, mR_sL, mR_wI, mR_wL]; assumption) (kz := 6) rfl ?_
  refine g_aload_n (j := 0) rfl dX10_begin_20 ?_
  refine g_iconst dX10_begin_21 ?_
  refine g_putI dX10_begin_22 fpX10_56 rfl rfl rfl (by simp only [IsO_sI, IsO_sL, IsO_sR, IsO_wI, IsO_wL, IsA_sI, IsA_sL, IsA_sR, IsA_wI, IsA_wL, mR_sI, mR_sL, mR_wI, mR_wL]; assumption) (kz := 7) rfl ?_
  have hf0 : CuF x μ (sI (sI (sI (sI (sI μ (x + 1) 10 fo) (x + 1) 11 fi) (x + 1) 8 0) (x + 1) 6 0) (x + 1) 7 0) := ((Fr.sI (by omega)).tr (Fr.sI (by omega))).tr (((Fr.sI (by omega)).tr (Fr.sI (by omega))).tr (Fr.sI (by omega)))
  have hT1 := hf0.tps hT
  have hB1 : TpC (sI (sI (sI (sI (sI μ (x + 1) 10 fo) (x + 1) 11 fi) (x + 1) 8 0) (x + 1) 6 0) (x + 1) 7 0) x n B := hB.fr hT (by simp [mI_sI]) (fun j => by simp [mI_sI])
  have g6 : mI (sI (sI (sI (sI (sI μ (x + 1) 10 fo) (x + 1) 11 fi) (x + 1) 8 0) (x + 1) 6 0) (x + 1) 7 0) (x + 1) 6 = 0 := by simp [mI_sI]
  have g7 : mI (sI (sI (sI (sI (sI μ (x + 1) 10 fo) (x + 1) 11 fi) (x + 1) 8 0) (x + 1) 6 0) (x + 1) 7 0) (x + 1) 7 = 0 := by simp [mI_sI]
  have g8 : mI (sI (sI (sI (sI (sI μ (x + 1) 10 fo) (x + 1) 11 fi) (x + 1) 8 0) (x + 1) 6 0) (x + 1) 7 0) (x + 1) 8 = 0 := by simp [mI_sI]
  have g10 : mI (sI (sI (sI (sI (sI μ (x + 1) 10 fo) (x + 1) 11 fi) (x + 1) 8 0) (x + 1) 6 0) (x + 1) 7 0) (x + 1) 10 = fo := by simp [mI_sI]
  have g11 : mI (sI (sI (sI (sI (sI μ (x + 1) 10 fo) (x + 1) 11 fi) (x + 1) 8 0) (x + 1) 6 0) (x + 1) 7 0) (x + 1) 11 = fi := by simp [mI_sI]
  have g12 : ∀ j, 12 ≤ j → mI (sI (sI (sI (sI (sI μ (x + 1) 10 fo) (x + 1) 11 fi) (x + 1) 8 0) (x + 1) 6 0) (x + 1) 7 0) (x + 1) j = mI μ (x + 1) j := fun j z => by rw [mI_sI, if_neg (by omega), mI_sI, if_neg (by omega), mI_sI, if_neg (by omega), mI_sI, if_neg (by omega), mI_sI, if_neg (by omega)]
  generalize sI (sI (sI (sI (sI μ (x + 1) 10 fo) (x + 1) 11 fi) (x + 1) 8 0) (x + 1) 6 0) (x + 1) 7 0 = μ1 at *
  have o11 := hT1.o1
  refine g_aload_n (j := 0) rfl dX10_begin_25 ?_
  refine g_callV dX10_begin_26 mlX10_59 mvX10_skipBlanks (ci := 10) ⟨by decide, rfl⟩ (by assumption) (c_skip w d μ1 (p := 0) (by omega) hT1 hB1 g6) sv0 rfl (by omega) (Nat.le_of_ble_eq_true rfl) (Nat.le_refl _) (Nat.le_refl _) (fun v μ2 hR => ?_)
  obtain ⟨rfl, hm2⟩ := hR
  have hf2 : CuF x μ1 μ2 := by rw [hm2]; exact Fr.sI (by omega)
  have hT2 := hf2.tps hT1
  have hB2 : TpC μ2 x n B := by rw [hm2]; exact (s6 hT1 hB1 _).2
  have g6b : mI μ2 (x + 1) 6 = tP n B 0 := by rw [hm2, mI_sI, if_pos ⟨rfl, rfl⟩]; rfl
  have gj : ∀ j, ¬ j = 6 → mI μ2 (x + 1) j = mI μ1 (x + 1) j := fun j z => by rw [hm2, mI_sI, if_neg (by omega)]
  refine g_iconst dX10_begin_29 ?_
  refine g_istore_n (j := 3) dX10_begin_30 (by decide) rfl ls3 ?_
  refine l_begin (d := d) hT2 (fun μ3 T hf3 hB3 hj3 e7 hPT hlt hA x3 => ?_) 800 0 μ2 (by omega) Fr.rf hB2 (fun _ _ _ => rfl) g6b (by rw [gj 7 (by omega), g7]; rfl) (fun j z => by omega) (fun j z => by omega)
  have hT3 := hf3.tps hT2
  have o13 := hT3.o1
  have r13a := hT3.r1_1
  have r13b := hT3.r1_2
  have r13c := hT3.r1_3
  have r13d := hT3.r1_4
  have a3 := hT3.a3
  have a4 := hT3.a4
  have a5 := hT3.a5
  have a6 := hT3.a6
  have e5 := hB3.1
  have hT8 : T ≤ 800 := by
    rcases Nat.eq_zero_or_pos T with z | z
    · omega
    · have h1 := hlt (T - 1) (by omega)
      have h2 := tP_bd (n := n) (B := B) (by omega) (T - 1)
      omega
  refine g_aload_n (j := 0) rfl dX10_begin_63 ?_
  refine g_getR dX10_begin_64 flX10_15 rfl (by assumption) (kz := 1) rfl (by assumption) ?_
  refine g_aload_n (j := 0) rfl dX10_begin_67 ?_
  refine g_getI dX10_begin_68 flX10_56 rfl (by assumption) (kz := 7) rfl ?_
  rw [e7]
  refine g_iconst dX10_begin_71 ?_
  refine g_iast dX10_begin_72 (by assumption) (by omega) (by omega) ?_
  refine g_aload_n (j := 0) rfl dX10_begin_73 ?_
  refine g_getR dX10_begin_74 flX10_19 rfl (by simp only [IsO_sI, IsO_sL, IsO_sR, IsO_wI, IsO_wL, IsA_sI, IsA_sL, IsA_sR, IsA_wI, IsA_wL, mR_sI, mR_sL, mR_wI, mR_wL]; assumption) (kz := 2) rfl (by simp only [IsO_sI, IsO_sL, IsO_sR, IsO_wI, IsO_wL, IsA_sI, IsA_sL, IsA_sR, IsA_wI, IsA_wL, mR_sI, mR_sL, mR_wI, mR_wL]; assumption) ?_
  refine g_aload_n (j := 0) rfl dX10_begin_77 ?_
  refine g_getIv dX10_begin_78 flX10_56 rfl (by simp only [IsO_sI, IsO_sL, IsO_sR, IsO_wI, IsO_wL, IsA_sI, IsA_sL, IsA_sR, IsA_wI, IsA_wL, mR_sI, mR_sL, mR_wI, mR_wL]; assumption) (kz := 7) rfl (by simp [mI_sI, mI_sL, mI_sR, mI_wI, mI_wL, mL_sI, mL_sL, mL_sR, mL_wI, mL_wL, e7, e5]; rfl) ?_
  refine g_aload_n (j := 0) rfl dX10_begin_81 ?_
  refine g_getIv dX10_begin_82 flX10_38 rfl (by simp only [IsO_sI, IsO_sL, IsO_sR, IsO_wI, IsO_wL, IsA_sI, IsA_sL, IsA_sR, IsA_wI, IsA_wL, mR_sI, mR_sL, mR_wI, mR_wL]; assumption) (kz := 5) rfl (by simp [mI_sI, mI_sL, mI_sR, mI_wI, mI_wL, mL_sI, mL_sL, mL_sR, mL_wI, mL_wL, e7, e5]; rfl) ?_
  refine g_iast dX10_begin_85 (by simp only [IsO_sI, IsO_sL, IsO_sR, IsO_wI, IsO_wL, IsA_sI, IsA_sL, IsA_sR, IsA_wI, IsA_wL, mR_sI, mR_sL, mR_wI, mR_wL]; assumption) (by omega) (by omega) ?_
  refine g_aload_n (j := 0) rfl dX10_begin_86 ?_
  refine g_getR dX10_begin_87 flX10_22 rfl (by simp only [IsO_sI, IsO_sL, IsO_sR, IsO_wI, IsO_wL, IsA_sI, IsA_sL, IsA_sR, IsA_wI, IsA_wL, mR_sI, mR_sL, mR_wI, mR_wL]; assumption) (kz := 3) rfl (by simp only [IsO_sI, IsO_sL, IsO_sR, IsO_wI, IsO_wL, IsA_sI, IsA_sL, IsA_sR, IsA_wI, IsA_wL, mR_sI, mR_sL, mR_wI, mR_wL]; assumption) ?_
  refine g_aload_n (j := 0) rfl dX10_begin_90 ?_
  refine g_getIv dX10_begin_91 flX10_56 rfl (by simp only [IsO_sI, IsO_sL, IsO_sR, IsO_wI, IsO_wL, IsA_sI, IsA_sL, IsA_sR, IsA_wI, IsA_wL, mR_sI, mR_sL, mR_wI, mR_wL]; assumption) (kz := 7) rfl (by simp [mI_sI, mI_sL, mI_sR, mI_wI, mI_wL, mL_sI, mL_sL, mL_sR, mL_wI, mL_wL, e7, e5]; rfl) ?_
  refine g_iconst dX10_begin_94 ?_
  refine g_iast dX10_begin_95 (by simp only [IsO_sI, IsO_sL, IsO_sR, IsO_wI, IsO_wL, IsA_sI, IsA_sL, IsA_sR, IsA_wI, IsA_wL, mR_sI, mR_sL, mR_wI, mR_wL]; assumption) (by omega) (by omega) ?_
  refine g_aload_n (j := 0) rfl dX10_begin_96 ?_
  refine g_getR dX10_begin_97 flX10_25 rfl (by simp only [IsO_sI, IsO_sL, IsO_sR, IsO_wI, IsO_wL, IsA_sI, IsA_sL, IsA_sR, IsA_wI, IsA_wL, mR_sI, mR_sL, mR_wI, mR_wL]; assumption) (kz := 4) rfl (by simp only [IsO_sI, IsO_sL, IsO_sR, IsO_wI, IsO_wL, IsA_sI, IsA_sL, IsA_sR, IsA_wI, IsA_wL, mR_sI, mR_sL, mR_wI, mR_wL]; assumption) ?_
  refine g_aload_n (j := 0) rfl dX10_begin_100 ?_
  refine g_getIv dX10_begin_101 flX10_56 rfl (by simp only [IsO_sI, IsO_sL, IsO_sR, IsO_wI, IsO_wL, IsA_sI, IsA_sL, IsA_sR, IsA_wI, IsA_wL, mR_sI, mR_sL, mR_wI, mR_wL]; assumption) (kz := 7) rfl (by simp [mI_sI, mI_sL, mI_sR, mI_wI, mI_wL, mL_sI, mL_sL, mL_sR, mL_wI, mL_wL, e7, e5]; rfl) ?_
  refine g_iconst dX10_begin_104 ?_
  refine g_iast dX10_begin_105 (by simp only [IsO_sI, IsO_sL, IsO_sR, IsO_wI, IsO_wL, IsA_sI, IsA_sL, IsA_sR, IsA_wI, IsA_wL, mR_sI, mR_sL, mR_wI, mR_wL]; assumption) (by omega) (by omega) ?_
  have hfe : CuF x μ3 (sI (sI (sI (sI μ3 (x + 3) T 0) (x + 4) T n) (x + 5) T 0) (x + 6) T 0) := ((Fr.sI (by omega)).tr (Fr.sI (by omega))).tr ((Fr.sI (by omega)).tr (Fr.sI (by omega)))
  have hkn := ks_n (n := n) (B := B) (p := tP n B T) (by omega)
  refine G.retV dX10_begin_106 rfl ⟨rfl, T, ⟨hfe.tps hT3, hB3.fr hT3 (by simp [mI_sI]) (fun j => by simp [mI_sI]), hPT, hlt, by simp [mI_sI, e7], fun j hj => ?_⟩, ((hf0.tr hf2).tr hf3).tr hfe, ?_, ?_, ?_, fun j hj => ?_⟩
  · unfold TkA
    by_cases hjT : j = T
    · subst hjT
      rw [hkn.1, hkn.2.1, hkn.2.2, hPT]
      simp [mI_sI]
    · have hjT2 : ¬ (j : Int) = (T : Int) := by omega
      simp only [mI_sI, hjT2, and_false, if_false]
      exact hA j (by omega)
  · simp [mI_sI]
    rw [hj3 8 (by omega) (by omega), gj 8 (by omega), g8]
  · simp [mI_sI]
    rw [hj3 10 (by omega) (by omega), gj 10 (by omega), g10]
  · simp [mI_sI]
    rw [hj3 11 (by omega) (by omega), gj 11 (by omega), g11]
  · rw [mI_sI, if_neg (by omega), mI_sI, if_neg (by omega), mI_sI, if_neg (by omega), mI_sI, if_neg (by omega), hj3 j (by omega) (by omega), gj j (by omega), g12 j hj]
end BG
/-- what reading leaves: all but where it looks, the number read, and, where it fails, the fault -/
def RdS (x : Nat) (μ μ2 : Mem) : Prop := Fr (fun a => a = x + 1) (fun _ _ => False) μ μ2 ∧ ∀ j, ¬ j = 8 → ¬ j = 9 → mI μ2 (x + 1) j = mI μ (x + 1) j
def fa4 (a b c e : Int) : Int → Int := fun j => if j = 0 then a else if j = 1 then b else if j = 2 then c else e
def RdE (x : Nat) (f : Int → Int) (μ μ2 : Mem) : Prop := Fr (fun a => a = x + 1) (fun _ _ => False) μ μ2 ∧ (∀ j, ¬ j = 8 → ¬ j = 9 → ¬ (12 ≤ j ∧ j ≤ 15) → mI μ2 (x + 1) j = mI μ (x + 1) j) ∧ FaC μ2 x f
theorem RdS.tr {x : Nat} {μ μ2 μ3 : Mem} (h : RdS x μ μ2) (h2 : RdS x μ2 μ3) : RdS x μ μ3 := ⟨h.1.tr h2.1, fun j a b => (h2.2 j a b).trans (h.2 j a b)⟩
theorem RdS.rf {x : Nat} {μ : Mem} : RdS x μ μ := ⟨Fr.rf, fun _ _ _ => rfl⟩
theorem RdS.E {x : Nat} {f : Int → Int} {μ μ2 μ3 : Mem} (h : RdS x μ μ2) (h2 : RdE x f μ2 μ3) : RdE x f μ μ3 := ⟨h.1.tr h2.1, fun j a b c => (h2.2.1 j a b c).trans (h.2 j a b), h2.2.2⟩
theorem TkC.fr {w : WC} {x T : Nat} {n : Int} {B : Int → Int} {P : Nat → Prop} {K : Nat → Int → Prop} {μ μ2 : Mem} (h : TkC w μ x n B T) (hf : Fr P K μ μ2) (hT2 : TPS w μ2 x) (hP : ∀ a, x + 2 ≤ a → a ≤ x + 6 → ¬ P a) (h5 : mI μ2 (x + 1) 5 = mI μ (x + 1) 5) (h7 : mI μ2 (x + 1) 7 = mI μ (x + 1) 7) : TkC w μ2 x n B T := by
  obtain ⟨hT, hB, q1, q2, q3, q4⟩ := h
  refine ⟨hT2, hB.fr hT h5 (fun j => hf.I hT.a2.2.1 (hP _ (by omega) (by omega)) j), q1, q2, h7.trans q3, fun j hj => ?_⟩
  have := q4 j hj
  unfold TkA
  rw [hf.I hT.a3.2.1 (hP _ (by omega) (by omega)), hf.I hT.a4.2.1 (hP _ (by omega) (by omega)), hf.I hT.a5.2.1 (hP _ (by omega) (by omega)), hf.I hT.a6.2.1 (hP _ (by omega) (by omega))]
  exact this
theorem RdS.tk {w : WC} {x T : Nat} {n : Int} {B : Int → Int} {μ μ2 : Mem} (h : RdS x μ μ2) (hK : TkC w μ x n B T) : TkC w μ2 x n B T := hK.fr h.1 (hK.1.fr h.1 fun _ _ _ z => z.elim) (fun a z1 z2 z => by omega) (h.2 5 (by omega) (by omega)) (h.2 7 (by omega) (by omega))
section TT
variable {w : WC} {d x T i : Nat} {n : Int} {B : Int → Int} {μ : Mem}

end TT
theorem ka_bd {n : Int} {B : Int → Int} (hB : ByOk n B) {p : Int} (h0 : 0 ≤ p) : 0 ≤ ka n B p ∧ ka n B p ≤ 9999 := by
  unfold ka
  split
  · next h =>
    split
    · next hs => exact am_bd h hs
    · have := hB.2 p h0 h
      omega
  · omega
theorem c_isEnd (w : WC) (d : Nat) (μ : Mem) {x T i : Nat} {n : Int} {B : Int → Int} (hK : TkC w μ x n B T) (e8 : mI μ (x + 1) 8 = (i : Int)) (hi : i ≤ T) : Con w d mX10_isEnd 0 0 [vP (some (x + 1))] μ (fun v μ2 => v = some (vI (bI (¬ tP n B i < n))) ∧ μ2 = μ) := by
  have hT := hK.1
  have o1 := hT.o1
  have r10 := hT.r1_0
  have r11 := hT.r1_1
  have r12 := hT.r1_2
  have r13 := hT.r1_3
  have r14 := hT.r1_4
  have a2 := hT.a2
  have a3 := hT.a3
  have a4 := hT.a4
  have a5 := hT.a5
  have a6 := hT.a6
  have h8 := hK.T8
  obtain ⟨f3, f4, f5, f6⟩ := hK.2.2.2.2.2 i hi
  have hlt := hK.lt hi
  have hO := hK.2.1.2.1.1
  have hkn := ks_n (n := n) (B := B) (p := tP n B i)
  have hkc := ks_c (n := n) (B := B) (p := tP n B i)
  have he := en_bd (n := n) (B := B) (p := tP n B i) (by omega)
  refine Con.of (by decide) (Nat.le_of_ble_eq_true rfl) rfl ?_
  refine g_aload_n (j := 0) rfl dX10_isEnd_0 ?_
  refine g_getR dX10_isEnd_1 flX10_15 rfl (by assumption) (kz := 1) rfl (by assumption) ?_
  refine g_aload_n (j := 0) rfl dX10_isEnd_4 ?_
  refine g_getI dX10_isEnd_5 flX10_50 rfl (by assumption) (kz := 8) rfl ?_
  rw [e8]
  refine g_iald dX10_isEnd_8 (by assumption) (by omega) (by omega) ?_
  rw [f3]
  have hkb : 0 ≤ ks n B (tP n B i) ∧ ks n B (tP n B i) ≤ 4 := by
    by_cases hp : tP n B i < n
    · have := hkc hp
      omega
    · have := hkn hp
      omega
  refine g_if_ne (tgt := 16) dX10_isEnd_9 (by decide) (by omega) (fun h9 => ?_) (fun h9 => ?_)
  · refine g_iconst dX10_isEnd_16 ?_
    by_cases hp : tP n B i < n
    · have := hkc hp
      first | (exfalso; omega) | exact G.retB dX10_isEnd_17 rfl (eq_bI (Or.inr ⟨rfl, by omega⟩)) ⟨rfl, rfl⟩
    · have := hkn hp
      first | (exfalso; omega) | exact G.retB dX10_isEnd_17 rfl (eq_bI (Or.inl ⟨rfl, hp⟩)) ⟨rfl, rfl⟩
  · refine g_iconst dX10_isEnd_12 ?_
    refine g_goto (tgt := 17) (by decide) dX10_isEnd_13 ?_
    by_cases hp : tP n B i < n
    · have := hkc hp
      first | (exfalso; omega) | exact G.retB dX10_isEnd_17 rfl (eq_bI (Or.inr ⟨rfl, by omega⟩)) ⟨rfl, rfl⟩
    · have := hkn hp
      first | (exfalso; omega) | exact G.retB dX10_isEnd_17 rfl (eq_bI (Or.inl ⟨rfl, hp⟩)) ⟨rfl, rfl⟩
theorem c_isN (w : WC) (d : Nat) (μ : Mem) {x T i : Nat} {n : Int} {B : Int → Int} (hK : TkC w μ x n B T) (e8 : mI μ (x + 1) 8 = (i : Int)) (hi : i ≤ T) : Con w d mX10_isN 0 0 [vP (some (x + 1))] μ (fun v μ2 => v = some (vI (bI (isN n B (tP n B i)))) ∧ μ2 = μ) := by
  have hT := hK.1
  have o1 := hT.o1
  have r10 := hT.r1_0
  have r11 := hT.r1_1
  have r12 := hT.r1_2
  have r13 := hT.r1_3
  have r14 := hT.r1_4
  have a2 := hT.a2
  have a3 := hT.a3
  have a4 := hT.a4
  have a5 := hT.a5
  have a6 := hT.a6
  have h8 := hK.T8
  obtain ⟨f3, f4, f5, f6⟩ := hK.2.2.2.2.2 i hi
  have hlt := hK.lt hi
  have hO := hK.2.1.2.1.1
  have hkn := ks_n (n := n) (B := B) (p := tP n B i)
  have hkc := ks_c (n := n) (B := B) (p := tP n B i)
  have he := en_bd (n := n) (B := B) (p := tP n B i) (by omega)
  refine Con.of (by decide) (Nat.le_of_ble_eq_true rfl) rfl ?_
  refine g_aload_n (j := 0) rfl dX10_isN_0 ?_
  refine g_getR dX10_isN_1 flX10_15 rfl (by assumption) (kz := 1) rfl (by assumption) ?_
  refine g_aload_n (j := 0) rfl dX10_isN_4 ?_
  refine g_getI dX10_isN_5 flX10_50 rfl (by assumption) (kz := 8) rfl ?_
  rw [e8]
  refine g_iald dX10_isN_8 (by assumption) (by omega) (by omega) ?_
  rw [f3]
  have hkb : 0 ≤ ks n B (tP n B i) ∧ ks n B (tP n B i) ≤ 4 := by
    by_cases hp : tP n B i < n
    · have := hkc hp
      omega
    · have := hkn hp
      omega
  refine g_iconst dX10_isN_9 ?_
  refine g_icmp_ne (tgt := 17) dX10_isN_10 (by decide) (by omega) (by omega) (fun h10 => ?_) (fun h10 => ?_)
  · refine g_iconst dX10_isN_17 ?_
    by_cases hp : tP n B i < n
    · have hz := hkc hp
      first | exact G.retB dX10_isN_18 rfl (eq_bI (Or.inl ⟨rfl, hz.2.1.mp (by omega)⟩)) ⟨rfl, rfl⟩ | exact G.retB dX10_isN_18 rfl (eq_bI (Or.inr ⟨rfl, fun y => by have := hz.2.1.mpr y; omega⟩)) ⟨rfl, rfl⟩
    · have hz := hkn hp
      first | (exfalso; omega) | exact G.retB dX10_isN_18 rfl (eq_bI (Or.inr ⟨rfl, fun y => hp y.1⟩)) ⟨rfl, rfl⟩
  · refine g_iconst dX10_isN_13 ?_
    refine g_goto (tgt := 18) (by decide) dX10_isN_14 ?_
    by_cases hp : tP n B i < n
    · have hz := hkc hp
      first | exact G.retB dX10_isN_18 rfl (eq_bI (Or.inl ⟨rfl, hz.2.1.mp (by omega)⟩)) ⟨rfl, rfl⟩ | exact G.retB dX10_isN_18 rfl (eq_bI (Or.inr ⟨rfl, fun y => by have := hz.2.1.mpr y; omega⟩)) ⟨rfl, rfl⟩
    · have hz := hkn hp
      first | (exfalso; omega) | exact G.retB dX10_isN_18 rfl (eq_bI (Or.inr ⟨rfl, fun y => hp y.1⟩)) ⟨rfl, rfl⟩
theorem c_amount (w : WC) (d : Nat) (μ : Mem) {x T i : Nat} {n : Int} {B : Int → Int} (hK : TkC w μ x n B T) (e8 : mI μ (x + 1) 8 = (i : Int)) (hi : i ≤ T) : Con w d mX10_amount 0 0 [vP (some (x + 1))] μ (fun v μ2 => v = some (vI (ka n B (tP n B i))) ∧ μ2 = μ) := by
  have hT := hK.1
  have o1 := hT.o1
  have r10 := hT.r1_0
  have r11 := hT.r1_1
  have r12 := hT.r1_2
  have r13 := hT.r1_3
  have r14 := hT.r1_4
  have a2 := hT.a2
  have a3 := hT.a3
  have a4 := hT.a4
  have a5 := hT.a5
  have a6 := hT.a6
  have h8 := hK.T8
  obtain ⟨f3, f4, f5, f6⟩ := hK.2.2.2.2.2 i hi
  have hlt := hK.lt hi
  have hO := hK.2.1.2.1.1
  have hkn := ks_n (n := n) (B := B) (p := tP n B i)
  have hkc := ks_c (n := n) (B := B) (p := tP n B i)
  have he := en_bd (n := n) (B := B) (p := tP n B i) (by omega)
  refine Con.of (by decide) (Nat.le_of_ble_eq_true rfl) rfl ?_
  refine g_aload_n (j := 0) rfl dX10_amount_0 ?_
  refine g_getR dX10_amount_1 flX10_25 rfl (by assumption) (kz := 4) rfl (by assumption) ?_
  refine g_aload_n (j := 0) rfl dX10_amount_4 ?_
  refine g_getI dX10_amount_5 flX10_50 rfl (by assumption) (kz := 8) rfl ?_
  rw [e8]
  refine g_iald dX10_amount_8 (by assumption) (by omega) (by omega) ?_
  rw [f6]
  exact G.retI dX10_amount_9 rfl ⟨rfl, rfl⟩
theorem c_isSign (w : WC) (d : Nat) (μ : Mem) {x T i : Nat} {n : Int} {B : Int → Int} (hK : TkC w μ x n B T) (e8 : mI μ (x + 1) 8 = (i : Int)) (hi : i ≤ T) {c : Int} (hc : 0 ≤ c ∧ c ≤ 127) : Con w d mX10_isSign 0 0 [vP (some (x + 1)), vI c] μ (fun v μ2 => v = some (vI (bI (isSg n B (tP n B i) c))) ∧ μ2 = μ) := by
  have hT := hK.1
  have o1 := hT.o1
  have r10 := hT.r1_0
  have r11 := hT.r1_1
  have r12 := hT.r1_2
  have r13 := hT.r1_3
  have r14 := hT.r1_4
  have a2 := hT.a2
  have a3 := hT.a3
  have a4 := hT.a4
  have a5 := hT.a5
  have a6 := hT.a6
  have h8 := hK.T8
  obtain ⟨f3, f4, f5, f6⟩ := hK.2.2.2.2.2 i hi
  have hlt := hK.lt hi
  have hO := hK.2.1.2.1.1
  have hkn := ks_n (n := n) (B := B) (p := tP n B i)
  have hkc := ks_c (n := n) (B := B) (p := tP n B i)
  have he := en_bd (n := n) (B := B) (p := tP n B i) (by omega)
  have hkb := ka_bd hK.2.1.2.1 hlt.2.1
  refine Con.of (by decide) (Nat.le_of_ble_eq_true rfl) rfl ?_
  refine g_aload_n (j := 0) rfl dX10_isSign_0 ?_
  refine g_getR dX10_isSign_1 flX10_15 rfl (by assumption) (kz := 1) rfl (by assumption) ?_
  refine g_aload_n (j := 0) rfl dX10_isSign_4 ?_
  refine g_getI dX10_isSign_5 flX10_50 rfl (by assumption) (kz := 8) rfl ?_
  rw [e8]
  refine g_iald dX10_isSign_8 (by assumption) (by omega) (by omega) ?_
  rw [f3]
  have hkb : 0 ≤ ks n B (tP n B i) ∧ ks n B (tP n B i) ≤ 4 := by
    by_cases hp : tP n B i < n
    · have := hkc hp
      omega
    · have := hkn hp
      omega
  refine g_iconst dX10_isSign_9 ?_
  refine g_icmp_ne (tgt := 30) dX10_isSign_10 (by decide) (by omega) (by omega) (fun h10 => ?_) (fun h10 => ?_)
  · refine g_iconst dX10_isSign_30 ?_
    by_cases hp : tP n B i < n
    · have hz := hkc hp
      have hka : srt (B (tP n B i)) = 3 → ka n B (tP n B i) = B (tP n B i) := fun y => by unfold ka; rw [if_pos hp, if_neg (by omega)]
      first
      | exact G.retB dX10_isSign_31 rfl (eq_bI (Or.inl ⟨rfl, hp, by omega, by have := hka (by omega); omega⟩)) ⟨rfl, rfl⟩
      | exact G.retB dX10_isSign_31 rfl (eq_bI (Or.inr ⟨rfl, fun y => by have := hka y.2.1; have := y.2; omega⟩)) ⟨rfl, rfl⟩
    · have hz := hkn hp
      first | (exfalso; omega) | exact G.retB dX10_isSign_31 rfl (eq_bI (Or.inr ⟨rfl, fun y => hp y.1⟩)) ⟨rfl, rfl⟩
  · refine g_aload_n (j := 0) rfl dX10_isSign_13 ?_
    refine g_getR dX10_isSign_14 flX10_25 rfl (by assumption) (kz := 4) rfl (by assumption) ?_
    refine g_aload_n (j := 0) rfl dX10_isSign_17 ?_
    refine g_getI dX10_isSign_18 flX10_50 rfl (by assumption) (kz := 8) rfl ?_
    rw [e8]
    refine g_iald dX10_isSign_21 (by assumption) (by omega) (by omega) ?_
    rw [f6]
    refine g_iload_n (j := 1) rfl dX10_isSign_22 ?_
    refine g_icmp_ne (tgt := 30) dX10_isSign_23 (by decide) (by omega) (by omega) (fun h23 => ?_) (fun h23 => ?_)
    · refine g_iconst dX10_isSign_30 ?_
      by_cases hp : tP n B i < n
      · have hz := hkc hp
        have hka : srt (B (tP n B i)) = 3 → ka n B (tP n B i) = B (tP n B i) := fun y => by unfold ka; rw [if_pos hp, if_neg (by omega)]
        first
        | exact G.retB dX10_isSign_31 rfl (eq_bI (Or.inl ⟨rfl, hp, by omega, by have := hka (by omega); omega⟩)) ⟨rfl, rfl⟩
        | exact G.retB dX10_isSign_31 rfl (eq_bI (Or.inr ⟨rfl, fun y => by have := hka y.2.1; have := y.2; omega⟩)) ⟨rfl, rfl⟩
      · have hz := hkn hp
        first | (exfalso; omega) | exact G.retB dX10_isSign_31 rfl (eq_bI (Or.inr ⟨rfl, fun y => hp y.1⟩)) ⟨rfl, rfl⟩
    · refine g_iconst dX10_isSign_26 ?_
      refine g_goto (tgt := 31) (by decide) dX10_isSign_27 ?_
      by_cases hp : tP n B i < n
      · have hz := hkc hp
        have hka : srt (B (tP n B i)) = 3 → ka n B (tP n B i) = B (tP n B i) := fun y => by unfold ka; rw [if_pos hp, if_neg (by omega)]
        first
        | exact G.retB dX10_isSign_31 rfl (eq_bI (Or.inl ⟨rfl, hp, by omega, by have := hka (by omega); omega⟩)) ⟨rfl, rfl⟩
        | exact G.retB dX10_isSign_31 rfl (eq_bI (Or.inr ⟨rfl, fun y => by have := hka y.2.1; have := y.2; omega⟩)) ⟨rfl, rfl⟩
      · have hz := hkn hp
        first | (exfalso; omega) | exact G.retB dX10_isSign_31 rfl (eq_bI (Or.inr ⟨rfl, fun y => hp y.1⟩)) ⟨rfl, rfl⟩
theorem l_isWord {w : WC} {d : Nat} {μ : Mem} {x T i : Nat} {n : Int} {B : Int → Int} (hK : TkC w μ x n B T) (e8 : mI μ (x + 1) 8 = (i : Int)) (hi : i ≤ T) {t : Nat} (hn : t < 11) (hp : tP n B i < n) (hsz : en n B (tP n B i) - tP n B i = txN t) : ∀ (r : Nat) (k : Int), k + r = txN t → 0 ≤ k →
    G w (d + 4) mX10_isWord (fun v μ2 => v = some (vI (bI (∀ j, k ≤ j → j < txN t → B (tP n B i + j) = txZ t j))) ∧ μ2 = μ) 0 0 35 [some (vP (some (x + 1))), some (vP (some (wK w t))), some (vI (txN t)), some (vI k)] [] μ := by
  have hT := hK.1
  have o1 := hT.o1
  have r10 := hT.r1_0
  have r11 := hT.r1_1
  have r12 := hT.r1_2
  have r13 := hT.r1_3
  have r14 := hT.r1_4
  have a2 := hT.a2
  have a3 := hT.a3
  have a4 := hT.a4
  have a5 := hT.a5
  have a6 := hT.a6
  have h8 := hK.T8
  obtain ⟨f3, f4, f5, f6⟩ := hK.2.2.2.2.2 i hi
  have hlt := hK.lt hi
  have hO := hK.2.1.2.1.1
  have hkn := ks_n (n := n) (B := B) (p := tP n B i)
  have hkc := ks_c (n := n) (B := B) (p := tP n B i)
  have he := en_bd (n := n) (B := B) (p := tP n B i) (by omega)
  have h6 := tXL_small t hn
  have hN := tXL_len t hn
  intro r
  induction r with
  | zero =>
    intro k hk h0
    refine g_iload_n (j := 3) rfl dX10_isWord_35 ?_
    refine g_iload_n (j := 2) rfl dX10_isWord_36 ?_
    refine g_icmp_ge (tgt := 72) dX10_isWord_37 (by decide) (by omega) (by omega) (fun h37 => ?_) (fun h37 => ?_)
    · refine g_iconst dX10_isWord_72 ?_
      exact G.retB dX10_isWord_73 rfl (eq_bI (Or.inl ⟨rfl, fun j z1 z2 => by omega⟩)) ⟨rfl, rfl⟩
    · omega
  | succ r ih =>
    intro k hk h0
    have hz := tXL_at t hn k.toNat (by omega)
    rw [show ((k.toNat : Nat) : Int) = k by omega] at hz
    have hb := hK.2.1.2.1.2 (tP n B i + k) (by omega) (by omega)
    have hbb := sb_bd (b := B (tP n B i + k)) (by omega)
    have eb := hK.2.1.2.2 (tP n B i + k) (by omega) (by omega)
    have es := sb_eq hb hz.2
    refine g_iload_n (j := 3) rfl dX10_isWord_35 ?_
    refine g_iload_n (j := 2) rfl dX10_isWord_36 ?_
    refine g_icmp_ge (tgt := 72) dX10_isWord_37 (by decide) (by omega) (by omega) (fun h37 => ?_) (fun h37 => ?_)
    · omega
    · refine g_aload_n (j := 0) rfl dX10_isWord_40 ?_
      refine g_getR dX10_isWord_41 flX10_9 rfl (by assumption) (kz := 0) rfl (by assumption) ?_
      refine g_aload_n (j := 0) rfl dX10_isWord_44 ?_
      refine g_getR dX10_isWord_45 flX10_19 rfl (by assumption) (kz := 2) rfl (by assumption) ?_
      refine g_aload_n (j := 0) rfl dX10_isWord_48 ?_
      refine g_getI dX10_isWord_49 flX10_50 rfl (by assumption) (kz := 8) rfl ?_
      rw [e8]
      refine g_iald dX10_isWord_52 (by assumption) (by omega) (by omega) ?_
      rw [f4]
      refine g_iload_n (j := 3) rfl dX10_isWord_53 ?_
      refine g_iadd dX10_isWord_54 ?_
      refine g_bald dX10_isWord_55 (by assumption) (by omega) (by omega) ?_
      rw [eb]
      refine g_aload_n (j := 1) rfl dX10_isWord_56 ?_
      refine g_iload_n (j := 3) rfl dX10_isWord_57 ?_
      refine g_callT dX10_isWord_58 mlX10_82 mvJ0_charAt_5068e rfl hn (c_J0_charAt w d μ hn (i := k) (by omega) (by omega)) sv1 rfl (by omega) (Nat.le_of_ble_eq_true rfl) (Nat.le_refl _) (Nat.le_refl _) (fun v μ2 hR => ?_)
      obtain ⟨rfl, hm⟩ := hR
      replace hm := hm.symm
      subst hm
      refine g_icmp_eq (tgt := 66) dX10_isWord_61 (by decide) (by omega) (by omega) (fun h61 => ?_) (fun h61 => ?_)
      · refine g_iinc (i := 3) dX10_isWord_66 rfl (by decide) rfl ls3 ?_
        refine g_goto (tgt := 35) (by decide) dX10_isWord_69 ?_
        refine G.post (fun v μ2 hq => ?_) (ih (k + 1) (by omega) (by omega))
        rw [hq.1]
        refine ⟨congrArg (fun z => some (vI z)) (bI_congr ⟨fun y j z1 z2 => ?_, fun y j z1 z2 => y j (by omega) z2⟩), hq.2⟩
        by_cases hj : j = k
        · rw [hj]
          omega
        · exact y j (by omega) z2
      · refine g_iconst dX10_isWord_64 ?_
        exact G.retB dX10_isWord_65 rfl (eq_bI (Or.inr ⟨rfl, fun y => by have := y k (by omega) (by omega); omega⟩)) ⟨rfl, rfl⟩
theorem c_isWord (w : WC) (d : Nat) (μ : Mem) {x T i : Nat} {n : Int} {B : Int → Int} (hK : TkC w μ x n B T) (e8 : mI μ (x + 1) 8 = (i : Int)) (hi : i ≤ T) {t : Nat} (hn : t < 11) : Con w (d + 4) mX10_isWord 0 0 [vP (some (x + 1)), vP (some (wK w t))] μ (fun v μ2 => v = some (vI (bI (isWd n B (tP n B i) t))) ∧ μ2 = μ) := by
  have hT := hK.1
  have o1 := hT.o1
  have r10 := hT.r1_0
  have r11 := hT.r1_1
  have r12 := hT.r1_2
  have r13 := hT.r1_3
  have r14 := hT.r1_4
  have a2 := hT.a2
  have a3 := hT.a3
  have a4 := hT.a4
  have a5 := hT.a5
  have a6 := hT.a6
  have h8 := hK.T8
  obtain ⟨f3, f4, f5, f6⟩ := hK.2.2.2.2.2 i hi
  have hlt := hK.lt hi
  have hO := hK.2.1.2.1.1
  have hkn := ks_n (n := n) (B := B) (p := tP n B i)
  have hkc := ks_c (n := n) (B := B) (p := tP n B i)
  have he := en_bd (n := n) (B := B) (p := tP n B i) (by omega)
  have h6 := tXL_small t hn
  have hN := tXL_len t hn
  have hkb : 0 ≤ ks n B (tP n B i) ∧ ks n B (tP n B i) ≤ 4 := by
    by_cases hp : tP n B i < n
    · have := hkc hp
      omega
    · have := hkn hp
      omega
  refine Con.of (by decide) (Nat.le_of_ble_eq_true rfl) rfl ?_
  refine g_aload_n (j := 0) rfl dX10_isWord_0 ?_
  refine g_getR dX10_isWord_1 flX10_22 rfl (by assumption) (kz := 3) rfl (by assumption) ?_
  refine g_aload_n (j := 0) rfl dX10_isWord_4 ?_
  refine g_getI dX10_isWord_5 flX10_50 rfl (by assumption) (kz := 8) rfl ?_
  rw [e8]
  refine g_iald dX10_isWord_8 (by assumption) (by omega) (by omega) ?_
  rw [f5]
  refine g_istore_n (j := 2) dX10_isWord_9 (by decide) rfl ls2 ?_
  refine g_aload_n (j := 0) rfl dX10_isWord_10 ?_
  refine g_getR dX10_isWord_11 flX10_15 rfl (by assumption) (kz := 1) rfl (by assumption) ?_
  refine g_aload_n (j := 0) rfl dX10_isWord_14 ?_
  refine g_getI dX10_isWord_15 flX10_50 rfl (by assumption) (kz := 8) rfl ?_
  rw [e8]
  refine g_iald dX10_isWord_18 (by assumption) (by omega) (by omega) ?_
  rw [f3]
  refine g_iconst dX10_isWord_19 ?_
  refine g_icmp_ne (tgt := 31) dX10_isWord_20 (by decide) (by omega) (by omega) (fun h20 => ?_) (fun h20 => ?_)
  · refine g_iconst dX10_isWord_31 ?_
    refine G.retB dX10_isWord_32 rfl (eq_bI (Or.inr ⟨rfl, fun y => ?_⟩)) ⟨rfl, rfl⟩
    have hz := hkc y.1
    have := y.2
    omega
  · refine g_iload_n (j := 2) rfl dX10_isWord_23 ?_
    refine g_aload_n (j := 1) rfl dX10_isWord_24 ?_
    refine g_callT dX10_isWord_25 mlX10_77 mvJ0_length_8abf5 rfl hn (c_J0_length w (d + 2) μ hn) sv0 rfl (by omega) (Nat.le_of_ble_eq_true rfl) (Nat.le_refl _) (Nat.le_refl _) (fun v μ2 hR => ?_)
    obtain ⟨rfl, hm⟩ := hR
    replace hm := hm.symm
    subst hm
    refine g_icmp_eq (tgt := 33) dX10_isWord_28 (by decide) (by omega) (by omega) (fun h28 => ?_) (fun h28 => ?_)
    · refine g_iconst dX10_isWord_33 ?_
      refine g_istore_n (j := 3) dX10_isWord_34 (by decide) rfl ls3 ?_
      have hp : tP n B i < n := by
        by_cases hp : tP n B i < n
        · exact hp
        · have := hkn hp
          omega
      have hz := hkc hp
      have hsz : en n B (tP n B i) - tP n B i = txN t := by omega
      rw [hsz]
      refine G.post (fun v μ2 hq => ?_) (l_isWord (d := d) hK e8 hi hn hp hsz (tXL t).length 0 (by omega) (by omega))
      rw [hq.1]
      exact ⟨congrArg (fun z => some (vI z)) (bI_congr ⟨fun y => ⟨hp, by omega, hsz, y⟩, fun y => y.2.2.2⟩), hq.2⟩
    · refine g_iconst dX10_isWord_31 ?_
      refine G.retB dX10_isWord_32 rfl (eq_bI (Or.inr ⟨rfl, fun y => ?_⟩)) ⟨rfl, rfl⟩
      have hz := hkc y.1
      have := y.2
      omega
theorem c_advance (w : WC) (d : Nat) (μ : Mem) {x T i : Nat} {n : Int} {B : Int → Int} (hK : TkC w μ x n B T) (e8 : mI μ (x + 1) 8 = (i : Int)) (hi : i < T) : Con w d mX10_advance 0 0 [vP (some (x + 1))] μ (fun v μ2 => v = none ∧ mI μ2 (x + 1) 8 = ((i + 1 : Nat) : Int) ∧ RdS x μ μ2) := by
  have o1 := hK.1.o1
  have h8 := hK.T8
  have e7 := hK.2.2.2.2.1
  refine Con.of (by decide) (Nat.le_of_ble_eq_true rfl) rfl ?_
  refine g_aload_n (j := 0) rfl dX10_advance_0 ?_
  refine g_getI dX10_advance_1 flX10_50 rfl (by assumption) (kz := 8) rfl ?_
  refine g_aload_n (j := 0) rfl dX10_advance_4 ?_
  refine g_getI dX10_advance_5 flX10_56 rfl (by assumption) (kz := 7) rfl ?_
  refine g_icmp_ge (tgt := 21) dX10_advance_8 (by decide) (by omega) (by omega) (fun h8 => ?_) (fun h8 => ?_)
  · omega
  · refine g_aload_n (j := 0) rfl dX10_advance_11 ?_
    refine g_dup rfl dX10_advance_12 ?_
    refine g_getI dX10_advance_13 flX10_50 rfl (by assumption) (kz := 8) rfl ?_
    refine g_iconst dX10_advance_16 ?_
    refine g_iadd dX10_advance_17 ?_
    refine g_putI dX10_advance_18 fpX10_50 rfl rfl rfl (by assumption) (kz := 8) rfl ?_
    refine G.retV dX10_advance_21 rfl ⟨rfl, ?_, Fr.sI rfl, fun j z1 z2 => by rw [mI_sI, if_neg (by omega)]⟩
    rw [mI_sI, if_pos ⟨rfl, rfl⟩, e8]
    rfl
theorem c_fail (w : WC) (d : Nat) (μ : Mem) {x T i : Nat} {n : Int} {B : Int → Int} (hK : TkC w μ x n B T) (e8 : mI μ (x + 1) 8 = (i : Int)) (hi : i ≤ T) {k fo fi : Int} (e10 : mI μ (x + 1) 10 = fo) (e11 : mI μ (x + 1) 11 = fi) : Con w d mX10_fail 0 0 [vP (some (x + 1)), vI k] μ (fun v μ2 => v = some (vI 0) ∧ RdE x (fa4 k (tP n B i) fo fi) μ μ2) := by
  have hT := hK.1
  have o1 := hT.o1
  have r10 := hT.r1_0
  have r11 := hT.r1_1
  have r12 := hT.r1_2
  have r13 := hT.r1_3
  have r14 := hT.r1_4
  have a2 := hT.a2
  have a3 := hT.a3
  have a4 := hT.a4
  have a5 := hT.a5
  have a6 := hT.a6
  have h8 := hK.T8
  obtain ⟨f3, f4, f5, f6⟩ := hK.2.2.2.2.2 i hi
  have hlt := hK.lt hi
  have hO := hK.2.1.2.1.1
  have hkn := ks_n (n := n) (B := B) (p := tP n B i)
  have hkc := ks_c (n := n) (B := B) (p := tP n B i)
  have he := en_bd (n := n) (B := B) (p := tP n B i) (by omega)
  refine Con.of (by decide) (Nat.le_of_ble_eq_true rfl) rfl ?_
  refine g_aload_n (j := 0) rfl dX10_fail_0 ?_
  refine g_iload_n (j := 1) rfl dX10_fail_1 ?_
  refine g_putI dX10_fail_2 fpX10_41 rfl rfl rfl (by assumption) (kz := 12) rfl ?_
  refine g_aload_n (j := 0) rfl dX10_fail_5 ?_
  refine g_aload_n (j := 0) rfl dX10_fail_6 ?_
  refine g_getR dX10_fail_7 flX10_19 rfl (by simp only [IsO_sI, IsO_sL, IsO_sR, IsO_wI, IsO_wL, IsA_sI, IsA_sL, IsA_sR, IsA_wI, IsA_wL, mR_sI, mR_sL, mR_wI, mR_wL]; assumption) (kz := 2) rfl (by simp only [IsO_sI, IsO_sL, IsO_sR, IsO_wI, IsO_wL, IsA_sI, IsA_sL, IsA_sR, IsA_wI, IsA_wL, mR_sI, mR_sL, mR_wI, mR_wL]; assumption) ?_
  refine g_aload_n (j := 0) rfl dX10_fail_10 ?_
  refine g_getIv dX10_fail_11 flX10_50 rfl (by simp only [IsO_sI, IsO_sL, IsO_sR, IsO_wI, IsO_wL, IsA_sI, IsA_sL, IsA_sR, IsA_wI, IsA_wL, mR_sI, mR_sL, mR_wI, mR_wL]; assumption) (kz := 8) rfl (by simp [mI_sI, mI_sL, mI_sR, mI_wI, mI_wL, mL_sI, mL_sL, mL_sR, mL_wI, mL_wL, e8, e10, e11, f4]; rfl) ?_
  refine g_ialdv dX10_fail_14 (by simp only [IsO_sI, IsO_sL, IsO_sR, IsO_wI, IsO_wL, IsA_sI, IsA_sL, IsA_sR, IsA_wI, IsA_wL, mR_sI, mR_sL, mR_wI, mR_wL]; assumption) (by omega) (by omega) (by simp [mI_sI, mI_sL, mI_sR, mI_wI, mI_wL, mL_sI, mL_sL, mL_sR, mL_wI, mL_wL, e8, e10, e11, f4]; rfl) ?_
  refine g_putI dX10_fail_15 fpX10_28 rfl rfl rfl (by simp only [IsO_sI, IsO_sL, IsO_sR, IsO_wI, IsO_wL, IsA_sI, IsA_sL, IsA_sR, IsA_wI, IsA_wL, mR_sI, mR_sL, mR_wI, mR_wL]; assumption) (kz := 13) rfl ?_
  refine g_aload_n (j := 0) rfl dX10_fail_18 ?_
  refine g_aload_n (j := 0) rfl dX10_fail_19 ?_
  refine g_getIv dX10_fail_20 flX10_44 rfl (by simp only [IsO_sI, IsO_sL, IsO_sR, IsO_wI, IsO_wL, IsA_sI, IsA_sL, IsA_sR, IsA_wI, IsA_wL, mR_sI, mR_sL, mR_wI, mR_wL]; assumption) (kz := 10) rfl (by simp [mI_sI, mI_sL, mI_sR, mI_wI, mI_wL, mL_sI, mL_sL, mL_sR, mL_wI, mL_wL, e8, e10, e11, f4]; rfl) ?_
  refine g_putI dX10_fail_23 fpX10_32 rfl rfl rfl (by simp only [IsO_sI, IsO_sL, IsO_sR, IsO_wI, IsO_wL, IsA_sI, IsA_sL, IsA_sR, IsA_wI, IsA_wL, mR_sI, mR_sL, mR_wI, mR_wL]; assumption) (kz := 14) rfl ?_
  refine g_aload_n (j := 0) rfl dX10_fail_26 ?_
  refine g_aload_n (j := 0) rfl dX10_fail_27 ?_
  refine g_getIv dX10_fail_28 flX10_47 rfl (by simp only [IsO_sI, IsO_sL, IsO_sR, IsO_wI, IsO_wL, IsA_sI, IsA_sL, IsA_sR, IsA_wI, IsA_wL, mR_sI, mR_sL, mR_wI, mR_wL]; assumption) (kz := 11) rfl (by simp [mI_sI, mI_sL, mI_sR, mI_wI, mI_wL, mL_sI, mL_sL, mL_sR, mL_wI, mL_wL, e8, e10, e11, f4]; rfl) ?_
  refine g_putI dX10_fail_31 fpX10_35 rfl rfl rfl (by simp only [IsO_sI, IsO_sL, IsO_sR, IsO_wI, IsO_wL, IsA_sI, IsA_sL, IsA_sR, IsA_wI, IsA_wL, mR_sI, mR_sL, mR_wI, mR_wL]; assumption) (kz := 15) rfl ?_
  refine g_iconst dX10_fail_34 ?_
  refine G.retZ dX10_fail_35 rfl (Or.inl rfl) ⟨rfl, ((Fr.sI (P := fun a => a = x + 1) rfl).tr (Fr.sI (P := fun a => a = x + 1) rfl)).tr ((Fr.sI (P := fun a => a = x + 1) rfl).tr (Fr.sI (P := fun a => a = x + 1) rfl)), fun j z1 z2 z3 => ?_, ?_⟩
  · rw [mI_sI, if_neg (by omega), mI_sI, if_neg (by omega), mI_sI, if_neg (by omega), mI_sI, if_neg (by omega)]
  · unfold FaC fa4
    simp [mI_sI]
theorem l_kind {w : WC} {d : Nat} {μ : Mem} {x T i : Nat} {n : Int} {B : Int → Int} (hK : TkC w μ x n B T) (e8 : mI μ (x + 1) 8 = (i : Int)) (hi : i ≤ T) : ∀ (r k : Nat), k + r = 5 → (∀ j, j < k → ¬ isWd n B (tP n B i) j) →
    G w (d + 5) mX10_kindThere (fun v μ2 => v = some (vI (kdT n B (tP n B i))) ∧ μ2 = μ) 0 0 2 [some (vP (some (x + 1))), some (vI (k : Int))] [] μ := by
  have o1 := hK.1.o1
  intro r
  induction r with
  | zero =>
    intro k hk hj
    have e : kdT n B (tP n B i) = -1 := by
      unfold kdT
      rw [cI_f (hj 0 (by omega)), cI_f (hj 1 (by omega)), cI_f (hj 2 (by omega)), cI_f (hj 3 (by omega)), cI_f (hj 4 (by omega))]
    rw [e]
    refine g_iload_n (j := 1) rfl dX10_kindThere_2 ?_
    refine g_iconst dX10_kindThere_3 ?_
    refine g_icmp_ge (tgt := 26) dX10_kindThere_4 (by decide) (by omega) (by omega) (fun h4 => ?_) (fun h4 => ?_)
    · refine g_iconst dX10_kindThere_26 ?_
      exact G.retI dX10_kindThere_27 rfl ⟨rfl, rfl⟩
    · omega
  | succ r ih =>
    intro k hk hj
    have hkd : kdN (k : Int) = k := by
      rcases (by omega : k = 0 ∨ k = 1 ∨ k = 2 ∨ k = 3 ∨ k = 4) with rfl | rfl | rfl | rfl | rfl <;> decide
    refine g_iload_n (j := 1) rfl dX10_kindThere_2 ?_
    refine g_iconst dX10_kindThere_3 ?_
    refine g_icmp_ge (tgt := 26) dX10_kindThere_4 (by decide) (by omega) (by omega) (fun h4 => ?_) (fun h4 => ?_)
    · omega
    · refine g_aload_n (j := 0) rfl dX10_kindThere_7 ?_
      refine g_iload_n (j := 1) rfl dX10_kindThere_8 ?_
      refine g_callS dX10_kindThere_9 mlX10_86 msX11_kindWord (c_kindWord w (d + 4) μ (k := (k : Int)) (by omega)) sk1 rfl (by omega) (Nat.le_of_ble_eq_true rfl) (Nat.le_refl _) (Nat.le_refl _) (fun v μ2 hR => ?_)
      obtain ⟨rfl, hm⟩ := hR
      replace hm := hm.symm
      subst hm
      rw [hkd]
      refine g_callV dX10_kindThere_12 mlX10_90 mvX10_isWord (ci := 10) ⟨by decide, rfl⟩ (by assumption) (c_isWord w d μ hK e8 hi (t := k) (by omega)) sv1 rfl (by omega) (Nat.le_of_ble_eq_true rfl) (Nat.le_refl _) (Nat.le_refl _) (fun v μ2 hR => ?_)
      obtain ⟨rfl, hm⟩ := hR
      replace hm := hm.symm
      subst hm
      refine g_ifb_eq (tgt := 20) dX10_kindThere_15 (by decide)  (fun h15 => ?_) (fun h15 => ?_)
      · refine g_iinc (i := 1) dX10_kindThere_20 rfl (by decide) rfl ls1 ?_
        refine g_goto (tgt := 2) (by decide) dX10_kindThere_23 ?_
        refine ih (k + 1) (by omega) fun j z => ?_
        by_cases hjk : j = k
        · rw [hjk]
          exact h15
        · exact hj j (by omega)
      · refine g_iload_n (j := 1) rfl dX10_kindThere_18 ?_
        have e : kdT n B (tP n B i) = k := by
          unfold kdT
          rcases (by omega : k = 0 ∨ k = 1 ∨ k = 2 ∨ k = 3 ∨ k = 4) with rfl | rfl | rfl | rfl | rfl
          · rw [cI_t h15]; rfl
          · rw [cI_f (hj 0 (by omega)), cI_t h15]; rfl
          · rw [cI_f (hj 0 (by omega)), cI_f (hj 1 (by omega)), cI_t h15]; rfl
          · rw [cI_f (hj 0 (by omega)), cI_f (hj 1 (by omega)), cI_f (hj 2 (by omega)), cI_t h15]; rfl
          · rw [cI_f (hj 0 (by omega)), cI_f (hj 1 (by omega)), cI_f (hj 2 (by omega)), cI_f (hj 3 (by omega)), cI_t h15]; rfl
        rw [e]
        exact G.retI dX10_kindThere_19 rfl ⟨rfl, rfl⟩
theorem c_kindThere (w : WC) (d : Nat) (μ : Mem) {x T i : Nat} {n : Int} {B : Int → Int} (hK : TkC w μ x n B T) (e8 : mI μ (x + 1) 8 = (i : Int)) (hi : i ≤ T) : Con w (d + 5) mX10_kindThere 0 0 [vP (some (x + 1))] μ (fun v μ2 => v = some (vI (kdT n B (tP n B i))) ∧ μ2 = μ) := by
  refine Con.of (by decide) (Nat.le_of_ble_eq_true rfl) rfl ?_
  refine g_iconst dX10_kindThere_0 ?_
  refine g_istore_n (j := 1) dX10_kindThere_1 (by decide) rfl ls1 ?_
  exact l_kind (d := d) hK e8 hi 5 0 (by omega) (fun j z => by omega)
theorem kdT_bd (n : Int) (B : Int → Int) (p : Int) : -1 ≤ kdT n B p ∧ kdT n B p ≤ 4 ∧ (kdT n B p ≠ -1 → p < n) := by
  unfold kdT
  by_cases h0 : isWd n B p 0
  · rw [cI_t h0]; exact ⟨by omega, by omega, fun _ => h0.1⟩
  · rw [cI_f h0]
    by_cases h1 : isWd n B p 1
    · rw [cI_t h1]; exact ⟨by omega, by omega, fun _ => h1.1⟩
    · rw [cI_f h1]
      by_cases h2 : isWd n B p 2
      · rw [cI_t h2]; exact ⟨by omega, by omega, fun _ => h2.1⟩
      · rw [cI_f h2]
        by_cases h3 : isWd n B p 3
        · rw [cI_t h3]; exact ⟨by omega, by omega, fun _ => h3.1⟩
        · rw [cI_f h3]
          by_cases h4 : isWd n B p 4
          · rw [cI_t h4]; exact ⟨by omega, by omega, fun _ => h4.1⟩
          · rw [cI_f h4]; exact ⟨by omega, by omega, fun z => absurd rfl z⟩
theorem c_letterThere (w : WC) (d : Nat) (μ : Mem) {x T i : Nat} {n : Int} {B : Int → Int} (hK : TkC w μ x n B T) (e8 : mI μ (x + 1) 8 = (i : Int)) (hi : i ≤ T) : Con w d mX10_letterThere 0 0 [vP (some (x + 1))] μ (fun v μ2 => v = some (vI (ltT n B (tP n B i))) ∧ μ2 = μ) := by
  have hT := hK.1
  have o1 := hT.o1
  have r10 := hT.r1_0
  have r11 := hT.r1_1
  have r12 := hT.r1_2
  have r13 := hT.r1_3
  have r14 := hT.r1_4
  have a2 := hT.a2
  have a3 := hT.a3
  have a4 := hT.a4
  have a5 := hT.a5
  have a6 := hT.a6
  have h8 := hK.T8
  obtain ⟨f3, f4, f5, f6⟩ := hK.2.2.2.2.2 i hi
  have hlt := hK.lt hi
  have hO := hK.2.1.2.1.1
  have hkn := ks_n (n := n) (B := B) (p := tP n B i)
  have hkc := ks_c (n := n) (B := B) (p := tP n B i)
  have he := en_bd (n := n) (B := B) (p := tP n B i) (by omega)
  have hkb := ka_bd hK.2.1.2.1 hlt.2.1
  have hks : 0 ≤ ks n B (tP n B i) ∧ ks n B (tP n B i) ≤ 4 := by
    by_cases hp : tP n B i < n
    · have := hkc hp
      omega
    · have := hkn hp
      omega
  have key : (ks n B (tP n B i) = 2 ∧ en n B (tP n B i) - tP n B i = 1 ∧ 97 ≤ ka n B (tP n B i) ∧ ka n B (tP n B i) ≤ 102 ∧ ltT n B (tP n B i) = ka n B (tP n B i) - 97) ∨ (¬ (ks n B (tP n B i) = 2 ∧ en n B (tP n B i) - tP n B i = 1 ∧ 97 ≤ ka n B (tP n B i) ∧ ka n B (tP n B i) ≤ 102) ∧ ltT n B (tP n B i) = -1) := by
    by_cases hp : tP n B i < n
    · have hz := hkc hp
      by_cases h2 : srt (B (tP n B i)) = 2
      · have hka : ka n B (tP n B i) = B (tP n B i) := by unfold ka; rw [if_pos hp, if_neg (by omega)]
        rw [hka]
        by_cases h3 : en n B (tP n B i) - tP n B i = 1 ∧ 97 ≤ B (tP n B i) ∧ B (tP n B i) ≤ 102
        · exact Or.inl ⟨by omega, h3.1, h3.2.1, h3.2.2, cI_t ⟨hp, h2, h3⟩⟩
        · exact Or.inr ⟨fun y => h3 y.2, cI_f fun y => h3 y.2.2⟩
      · exact Or.inr ⟨fun y => by omega, cI_f fun y => h2 y.2.1⟩
    · have hz := hkn hp
      exact Or.inr ⟨fun y => by omega, cI_f fun y => hp y.1⟩
  refine Con.of (by decide) (Nat.le_of_ble_eq_true rfl) rfl ?_
  refine g_aload_n (j := 0) rfl dX10_letterThere_0 ?_
  refine g_getR dX10_letterThere_1 flX10_25 rfl (by assumption) (kz := 4) rfl (by assumption) ?_
  refine g_aload_n (j := 0) rfl dX10_letterThere_4 ?_
  refine g_getI dX10_letterThere_5 flX10_50 rfl (by assumption) (kz := 8) rfl ?_
  rw [e8]
  refine g_iald dX10_letterThere_8 (by assumption) (by omega) (by omega) ?_
  rw [f6]
  refine g_bipush dX10_letterThere_9 (by omega) ?_
  refine g_isub dX10_letterThere_11 ?_
  refine g_istore_n (j := 1) dX10_letterThere_12 (by decide) rfl ls1 ?_
  refine g_aload_n (j := 0) rfl dX10_letterThere_13 ?_
  refine g_getR dX10_letterThere_14 flX10_15 rfl (by assumption) (kz := 1) rfl (by assumption) ?_
  refine g_aload_n (j := 0) rfl dX10_letterThere_17 ?_
  refine g_getI dX10_letterThere_18 flX10_50 rfl (by assumption) (kz := 8) rfl ?_
  rw [e8]
  refine g_iald dX10_letterThere_21 (by assumption) (by omega) (by omega) ?_
  rw [f3]
  refine g_iconst dX10_letterThere_22 ?_
  refine g_icmp_ne (tgt := 43) dX10_letterThere_23 (by decide) (by omega) (by omega) (fun h23 => ?_) (fun h23 => ?_)
  · refine g_iconst dX10_letterThere_43 ?_
    refine g_istore_n (j := 2) dX10_letterThere_44 (by decide) rfl ls2 ?_
    refine g_iload_n (j := 2) rfl dX10_letterThere_45 ?_
    refine g_if_eq (tgt := 63) dX10_letterThere_46 (by decide) (by omega) (fun h46 => ?_) (fun h46 => ?_)
    · refine g_iconst dX10_letterThere_63 ?_
      rcases key with ⟨y1, y2, y3, y4, y5⟩ | ⟨y1, y5⟩
      · rw [y5]
        first | (exfalso; omega) | exact G.retI dX10_letterThere_64 rfl ⟨rfl, rfl⟩
      · rw [y5]
        first | (exfalso; omega) | exact G.retI dX10_letterThere_64 rfl ⟨rfl, rfl⟩
    · refine g_iload_n (j := 1) rfl dX10_letterThere_49 ?_
      refine g_if_lt (tgt := 63) dX10_letterThere_50 (by decide) (by omega) (fun h50 => ?_) (fun h50 => ?_)
      · refine g_iconst dX10_letterThere_63 ?_
        rcases key with ⟨y1, y2, y3, y4, y5⟩ | ⟨y1, y5⟩
        · rw [y5]
          first | (exfalso; omega) | exact G.retI dX10_letterThere_64 rfl ⟨rfl, rfl⟩
        · rw [y5]
          first | (exfalso; omega) | exact G.retI dX10_letterThere_64 rfl ⟨rfl, rfl⟩
      · refine g_iload_n (j := 1) rfl dX10_letterThere_53 ?_
        refine g_bipush dX10_letterThere_54 (by omega) ?_
        refine g_icmp_ge (tgt := 63) dX10_letterThere_56 (by decide) (by omega) (by omega) (fun h56 => ?_) (fun h56 => ?_)
        · refine g_iconst dX10_letterThere_63 ?_
          rcases key with ⟨y1, y2, y3, y4, y5⟩ | ⟨y1, y5⟩
          · rw [y5]
            first | (exfalso; omega) | exact G.retI dX10_letterThere_64 rfl ⟨rfl, rfl⟩
          · rw [y5]
            first | (exfalso; omega) | exact G.retI dX10_letterThere_64 rfl ⟨rfl, rfl⟩
        · refine g_iload_n (j := 1) rfl dX10_letterThere_59 ?_
          refine g_goto (tgt := 64) (by decide) dX10_letterThere_60 ?_
          rcases key with ⟨y1, y2, y3, y4, y5⟩ | ⟨y1, y5⟩
          · rw [y5]
            first | (exfalso; omega) | exact G.retI dX10_letterThere_64 rfl ⟨rfl, rfl⟩
          · rw [y5]
            first | (exfalso; omega) | exact G.retI dX10_letterThere_64 rfl ⟨rfl, rfl⟩
  · refine g_aload_n (j := 0) rfl dX10_letterThere_26 ?_
    refine g_getR dX10_letterThere_27 flX10_22 rfl (by assumption) (kz := 3) rfl (by assumption) ?_
    refine g_aload_n (j := 0) rfl dX10_letterThere_30 ?_
    refine g_getI dX10_letterThere_31 flX10_50 rfl (by assumption) (kz := 8) rfl ?_
    rw [e8]
    refine g_iald dX10_letterThere_34 (by assumption) (by omega) (by omega) ?_
    rw [f5]
    refine g_iconst dX10_letterThere_35 ?_
    refine g_icmp_ne (tgt := 43) dX10_letterThere_36 (by decide) (by omega) (by omega) (fun h36 => ?_) (fun h36 => ?_)
    · refine g_iconst dX10_letterThere_43 ?_
      refine g_istore_n (j := 2) dX10_letterThere_44 (by decide) rfl ls2 ?_
      refine g_iload_n (j := 2) rfl dX10_letterThere_45 ?_
      refine g_if_eq (tgt := 63) dX10_letterThere_46 (by decide) (by omega) (fun h46 => ?_) (fun h46 => ?_)
      · refine g_iconst dX10_letterThere_63 ?_
        rcases key with ⟨y1, y2, y3, y4, y5⟩ | ⟨y1, y5⟩
        · rw [y5]
          first | (exfalso; omega) | exact G.retI dX10_letterThere_64 rfl ⟨rfl, rfl⟩
        · rw [y5]
          first | (exfalso; omega) | exact G.retI dX10_letterThere_64 rfl ⟨rfl, rfl⟩
      · refine g_iload_n (j := 1) rfl dX10_letterThere_49 ?_
        refine g_if_lt (tgt := 63) dX10_letterThere_50 (by decide) (by omega) (fun h50 => ?_) (fun h50 => ?_)
        · refine g_iconst dX10_letterThere_63 ?_
          rcases key with ⟨y1, y2, y3, y4, y5⟩ | ⟨y1, y5⟩
          · rw [y5]
            first | (exfalso; omega) | exact G.retI dX10_letterThere_64 rfl ⟨rfl, rfl⟩
          · rw [y5]
            first | (exfalso; omega) | exact G.retI dX10_letterThere_64 rfl ⟨rfl, rfl⟩
        · refine g_iload_n (j := 1) rfl dX10_letterThere_53 ?_
          refine g_bipush dX10_letterThere_54 (by omega) ?_
          refine g_icmp_ge (tgt := 63) dX10_letterThere_56 (by decide) (by omega) (by omega) (fun h56 => ?_) (fun h56 => ?_)
          · refine g_iconst dX10_letterThere_63 ?_
            rcases key with ⟨y1, y2, y3, y4, y5⟩ | ⟨y1, y5⟩
            · rw [y5]
              first | (exfalso; omega) | exact G.retI dX10_letterThere_64 rfl ⟨rfl, rfl⟩
            · rw [y5]
              first | (exfalso; omega) | exact G.retI dX10_letterThere_64 rfl ⟨rfl, rfl⟩
          · refine g_iload_n (j := 1) rfl dX10_letterThere_59 ?_
            refine g_goto (tgt := 64) (by decide) dX10_letterThere_60 ?_
            rcases key with ⟨y1, y2, y3, y4, y5⟩ | ⟨y1, y5⟩
            · rw [y5]
              first | (exfalso; omega) | exact G.retI dX10_letterThere_64 rfl ⟨rfl, rfl⟩
            · rw [y5]
              first | (exfalso; omega) | exact G.retI dX10_letterThere_64 rfl ⟨rfl, rfl⟩
    · refine g_iconst dX10_letterThere_39 ?_
      refine g_goto (tgt := 44) (by decide) dX10_letterThere_40 ?_
      refine g_istore_n (j := 2) dX10_letterThere_44 (by decide) rfl ls2 ?_
      refine g_iload_n (j := 2) rfl dX10_letterThere_45 ?_
      refine g_if_eq (tgt := 63) dX10_letterThere_46 (by decide) (by omega) (fun h46 => ?_) (fun h46 => ?_)
      · refine g_iconst dX10_letterThere_63 ?_
        rcases key with ⟨y1, y2, y3, y4, y5⟩ | ⟨y1, y5⟩
        · rw [y5]
          first | (exfalso; omega) | exact G.retI dX10_letterThere_64 rfl ⟨rfl, rfl⟩
        · rw [y5]
          first | (exfalso; omega) | exact G.retI dX10_letterThere_64 rfl ⟨rfl, rfl⟩
      · refine g_iload_n (j := 1) rfl dX10_letterThere_49 ?_
        refine g_if_lt (tgt := 63) dX10_letterThere_50 (by decide) (by omega) (fun h50 => ?_) (fun h50 => ?_)
        · refine g_iconst dX10_letterThere_63 ?_
          rcases key with ⟨y1, y2, y3, y4, y5⟩ | ⟨y1, y5⟩
          · rw [y5]
            first | (exfalso; omega) | exact G.retI dX10_letterThere_64 rfl ⟨rfl, rfl⟩
          · rw [y5]
            first | (exfalso; omega) | exact G.retI dX10_letterThere_64 rfl ⟨rfl, rfl⟩
        · refine g_iload_n (j := 1) rfl dX10_letterThere_53 ?_
          refine g_bipush dX10_letterThere_54 (by omega) ?_
          refine g_icmp_ge (tgt := 63) dX10_letterThere_56 (by decide) (by omega) (by omega) (fun h56 => ?_) (fun h56 => ?_)
          · refine g_iconst dX10_letterThere_63 ?_
            rcases key with ⟨y1, y2, y3, y4, y5⟩ | ⟨y1, y5⟩
            · rw [y5]
              first | (exfalso; omega) | exact G.retI dX10_letterThere_64 rfl ⟨rfl, rfl⟩
            · rw [y5]
              first | (exfalso; omega) | exact G.retI dX10_letterThere_64 rfl ⟨rfl, rfl⟩
          · refine g_iload_n (j := 1) rfl dX10_letterThere_59 ?_
            refine g_goto (tgt := 64) (by decide) dX10_letterThere_60 ?_
            rcases key with ⟨y1, y2, y3, y4, y5⟩ | ⟨y1, y5⟩
            · rw [y5]
              first | (exfalso; omega) | exact G.retI dX10_letterThere_64 rfl ⟨rfl, rfl⟩
            · rw [y5]
              first | (exfalso; omega) | exact G.retI dX10_letterThere_64 rfl ⟨rfl, rfl⟩
theorem c_beginsWhole (w : WC) (d : Nat) (μ : Mem) {x T i : Nat} {n : Int} {B : Int → Int} (hK : TkC w μ x n B T) (e8 : mI μ (x + 1) 8 = (i : Int)) (hi : i ≤ T) : Con w (d + 1) mX10_beginsWhole 0 0 [vP (some (x + 1))] μ (fun v μ2 => v = some (vI (bI (isN n B (tP n B i) ∨ isSg n B (tP n B i) 45))) ∧ μ2 = μ) := by
  have o1 := hK.1.o1
  refine Con.of (by decide) (Nat.le_of_ble_eq_true rfl) rfl ?_
  refine g_aload_n (j := 0) rfl dX10_beginsWhole_0 ?_
  refine g_callV dX10_beginsWhole_1 mlX10_94 mvX10_isN (ci := 10) ⟨by decide, rfl⟩ (by assumption) (c_isN w d μ hK e8 hi) sv0 rfl (by omega) (Nat.le_of_ble_eq_true rfl) (Nat.le_refl _) (Nat.le_refl _) (fun v μ2 hR => ?_)
  obtain ⟨rfl, hm⟩ := hR
  replace hm := hm.symm
  subst hm
  refine g_ifb_ne (tgt := 16) dX10_beginsWhole_4 (by decide)  (fun h4 => ?_) (fun h4 => ?_)
  · refine g_iconst dX10_beginsWhole_16 ?_
    refine g_goto (tgt := 21) (by decide) dX10_beginsWhole_17 ?_
    first
    | exact G.retB dX10_beginsWhole_21 rfl (eq_bI (Or.inl ⟨rfl, Or.inl h4⟩)) ⟨rfl, rfl⟩
    | exact G.retB dX10_beginsWhole_21 rfl (eq_bI (Or.inl ⟨rfl, Or.inr h13⟩)) ⟨rfl, rfl⟩
    | exact G.retB dX10_beginsWhole_21 rfl (eq_bI (Or.inr ⟨rfl, fun z => z.elim h4 h13⟩)) ⟨rfl, rfl⟩
  · refine g_aload_n (j := 0) rfl dX10_beginsWhole_7 ?_
    refine g_bipush dX10_beginsWhole_8 (by omega) ?_
    refine g_callV dX10_beginsWhole_10 mlX10_98 mvX10_isSign (ci := 10) ⟨by decide, rfl⟩ (by assumption) (c_isSign w d μ hK e8 hi (c := 45) (by omega)) sv1 rfl (by omega) (Nat.le_of_ble_eq_true rfl) (Nat.le_refl _) (Nat.le_refl _) (fun v μ2 hR => ?_)
    obtain ⟨rfl, hm⟩ := hR
    replace hm := hm.symm
    subst hm
    refine g_ifb_eq (tgt := 20) dX10_beginsWhole_13 (by decide)  (fun h13 => ?_) (fun h13 => ?_)
    · refine g_iconst dX10_beginsWhole_20 ?_
      first
      | exact G.retB dX10_beginsWhole_21 rfl (eq_bI (Or.inl ⟨rfl, Or.inl h4⟩)) ⟨rfl, rfl⟩
      | exact G.retB dX10_beginsWhole_21 rfl (eq_bI (Or.inl ⟨rfl, Or.inr h13⟩)) ⟨rfl, rfl⟩
      | exact G.retB dX10_beginsWhole_21 rfl (eq_bI (Or.inr ⟨rfl, fun z => z.elim h4 h13⟩)) ⟨rfl, rfl⟩
    · refine g_iconst dX10_beginsWhole_16 ?_
      refine g_goto (tgt := 21) (by decide) dX10_beginsWhole_17 ?_
      first
      | exact G.retB dX10_beginsWhole_21 rfl (eq_bI (Or.inl ⟨rfl, Or.inl h4⟩)) ⟨rfl, rfl⟩
      | exact G.retB dX10_beginsWhole_21 rfl (eq_bI (Or.inl ⟨rfl, Or.inr h13⟩)) ⟨rfl, rfl⟩
      | exact G.retB dX10_beginsWhole_21 rfl (eq_bI (Or.inr ⟨rfl, fun z => z.elim h4 h13⟩)) ⟨rfl, rfl⟩
/-- behind a "-": where the N must stand, the number -/
noncomputable def jW (n : Int) (B : Int → Int) (i : Nat) : Nat := @ite Nat (isSg n B (tP n B i) 45) (Classical.propDecidable _) (i + 1) i
noncomputable def vW (n : Int) (B : Int → Int) (i : Nat) : Int := cI (isSg n B (tP n B i) 45) (-(ka n B (tP n B (jW n B i)))) (ka n B (tP n B (jW n B i)))
theorem jW_1 {n : Int} {B : Int → Int} {i : Nat} (h : isSg n B (tP n B i) 45) : jW n B i = i + 1 := if_pos h
theorem jW_0 {n : Int} {B : Int → Int} {i : Nat} (h : ¬ isSg n B (tP n B i) 45) : jW n B i = i := if_neg h

theorem c_readWhole (w : WC) (d : Nat) (μ : Mem) {x T i : Nat} {n : Int} {B : Int → Int} (hK : TkC w μ x n B T) (e8 : mI μ (x + 1) 8 = (i : Int)) (hi : i ≤ T) {fo fi : Int} (e10 : mI μ (x + 1) 10 = fo) (e11 : mI μ (x + 1) 11 = fi) : Con w (d + 1) mX10_readWhole 0 0 [vP (some (x + 1))] μ (fun v μ2 => jW n B i ≤ T ∧ ((isN n B (tP n B (jW n B i)) ∧ v = some (vI 1) ∧ mI μ2 (x + 1) 8 = jW n B i ∧ mI μ2 (x + 1) 9 = vW n B i ∧ RdS x μ μ2) ∨ (¬ isN n B (tP n B (jW n B i)) ∧ v = some (vI 0) ∧ RdE x (fa4 1 (tP n B (jW n B i)) fo fi) μ μ2))) := by
  have hT := hK.1
  have o1 := hT.o1
  have h8 := hK.T8
  have hlt := hK.lt hi
  have h01 := bI_01 (isSg n B (tP n B i) 45)
  refine Con.of (by decide) (Nat.le_of_ble_eq_true rfl) rfl ?_
  refine g_aload_n (j := 0) rfl dX10_readWhole_0 ?_
  refine g_bipush dX10_readWhole_1 (by omega) ?_
  refine g_callV dX10_readWhole_3 mlX10_98 mvX10_isSign (ci := 10) ⟨by decide, rfl⟩ (by assumption) (c_isSign w d μ hK e8 hi (c := 45) (by omega)) sv1 rfl (by omega) (Nat.le_of_ble_eq_true rfl) (Nat.le_refl _) (Nat.le_refl _) (fun v μ2 hR => ?_)
  obtain ⟨rfl, hm⟩ := hR
  replace hm := hm.symm
  subst hm
  refine g_istore_n (j := 1) dX10_readWhole_6 (by decide) rfl ls1 ?_
  refine g_iload_n (j := 1) rfl dX10_readWhole_7 ?_
  refine g_if_eq (tgt := 15) dX10_readWhole_8 (by decide) (by omega) (fun h8 => ?_) (fun h8 => ?_)
  · have h8n := bI_is0.mp h8
    have hK1 := hK
    have e81 := e8
    have hi1 := hi
    have e101 := e10
    have e111 := e11
    have hs1 : RdS x μ μ := RdS.rf
    have hj := jW_0 h8n
    obtain ⟨-, -, -, f61⟩ := hK1.2.2.2.2.2 _ hi1
    have o11 := hK1.1.o1
    have r141 := hK1.1.r1_4
    have r111 := hK1.1.r1_1
    have a61 := hK1.1.a6
    refine g_aload_n (j := 0) rfl dX10_readWhole_15 ?_
    refine g_callV dX10_readWhole_16 mlX10_94 mvX10_isN (ci := 10) ⟨by decide, rfl⟩ (by assumption) (c_isN w d _ hK1 e81 hi1) sv0 rfl (by omega) (Nat.le_of_ble_eq_true rfl) (Nat.le_refl _) (Nat.le_refl _) (fun v μ2 hR => ?_)
    obtain ⟨rfl, hm⟩ := hR
    replace hm := hm.symm
    subst hm
    refine g_ifb_ne (tgt := 28) dX10_readWhole_19 (by decide)  (fun h19 => ?_) (fun h19 => ?_)
    · refine g_aload_n (j := 0) rfl dX10_readWhole_28 ?_
      refine g_iload_n (j := 1) rfl dX10_readWhole_29 ?_
      refine g_if_eq (tgt := 46) dX10_readWhole_30 (by decide) (by omega) (fun h30 => ?_) (fun h30 => ?_)
      · refine g_aload_n (j := 0) rfl dX10_readWhole_46 ?_
        refine g_getR dX10_readWhole_47 flX10_25 rfl (by assumption) (kz := 4) rfl (by assumption) ?_
        refine g_aload_n (j := 0) rfl dX10_readWhole_50 ?_
        refine g_getI dX10_readWhole_51 flX10_50 rfl (by assumption) (kz := 8) rfl ?_
        rw [e81]
        refine g_iald dX10_readWhole_54 (by assumption) (by omega) (by omega) ?_
        try rw [f61]
        refine g_putI dX10_readWhole_55 fpX10_108 rfl rfl rfl (by assumption) (kz := 9) rfl ?_
        refine g_iconst dX10_readWhole_58 ?_
        first
        | (exfalso; omega)
        | (refine G.retZ dX10_readWhole_59 rfl (Or.inr rfl) ⟨by omega, Or.inl ⟨?_, rfl, ?_, ?_, hs1.tr ⟨Fr.sI (P := fun a => a = x + 1) rfl, fun j z1 z2 => by rw [mI_sI, if_neg (by omega)]⟩⟩⟩
           · rw [hj]
             exact h19
           · rw [mI_sI, if_neg (by omega), hj]
             exact e81
           · rw [mI_sI, if_pos ⟨rfl, rfl⟩]
             unfold vW
             rw [hj]
             first | rw [cI_t h8s] | rw [cI_f h8n])
      · refine g_aload_n (j := 0) rfl dX10_readWhole_33 ?_
        refine g_getR dX10_readWhole_34 flX10_25 rfl (by assumption) (kz := 4) rfl (by assumption) ?_
        refine g_aload_n (j := 0) rfl dX10_readWhole_37 ?_
        refine g_getI dX10_readWhole_38 flX10_50 rfl (by assumption) (kz := 8) rfl ?_
        rw [e81]
        refine g_iald dX10_readWhole_41 (by assumption) (by omega) (by omega) ?_
        rw [f61]
        refine g_ineg dX10_readWhole_42 ?_
        refine g_goto (tgt := 55) (by decide) dX10_readWhole_43 ?_
        try rw [f61]
        refine g_putI dX10_readWhole_55 fpX10_108 rfl rfl rfl (by assumption) (kz := 9) rfl ?_
        refine g_iconst dX10_readWhole_58 ?_
        first
        | (exfalso; omega)
        | (refine G.retZ dX10_readWhole_59 rfl (Or.inr rfl) ⟨by omega, Or.inl ⟨?_, rfl, ?_, ?_, hs1.tr ⟨Fr.sI (P := fun a => a = x + 1) rfl, fun j z1 z2 => by rw [mI_sI, if_neg (by omega)]⟩⟩⟩
           · rw [hj]
             exact h19
           · rw [mI_sI, if_neg (by omega), hj]
             exact e81
           · rw [mI_sI, if_pos ⟨rfl, rfl⟩]
             unfold vW
             rw [hj]
             first | rw [cI_t h8s] | rw [cI_f h8n])
    · refine g_aload_n (j := 0) rfl dX10_readWhole_22 ?_
      refine g_iconst dX10_readWhole_23 ?_
      refine g_callV dX10_readWhole_24 mlX10_105 mvX10_fail (ci := 10) ⟨by decide, rfl⟩ (by assumption) (c_fail w d _ hK1 e81 hi1 (k := 1) e101 e111) sv1 rfl (by omega) (Nat.le_of_ble_eq_true rfl) (Nat.le_refl _) (Nat.le_refl _) (fun v μ9 hR => ?_)
      obtain ⟨rfl, hE⟩ := hR
      refine G.retZ dX10_readWhole_27 rfl (Or.inl rfl) ⟨by omega, Or.inr ⟨?_, rfl, ?_⟩⟩
      · rw [hj]
        exact h19
      · rw [hj]
        exact hs1.E hE
  · have h8s := bI_is1.mp (show bI (isSg n B (tP n B i) 45) = 1 by omega)
    refine g_aload_n (j := 0) rfl dX10_readWhole_11 ?_
    refine g_callV dX10_readWhole_12 mlX10_102 mvX10_advance (ci := 10) ⟨by decide, rfl⟩ (by assumption) (c_advance w d μ hK e8 (hlt.1.mp h8s.1)) sv0 rfl (by omega) (Nat.le_of_ble_eq_true rfl) (Nat.le_refl _) (Nat.le_refl _) (fun v μ1 hR => ?_)
    obtain ⟨rfl, e81, hs1⟩ := hR
    have hK1 := hs1.tk hK
    have hi1 : i + 1 ≤ T := hlt.1.mp h8s.1
    have e101 := (hs1.2 10 (by omega) (by omega)).trans e10
    have e111 := (hs1.2 11 (by omega) (by omega)).trans e11
    have hj := jW_1 h8s
    obtain ⟨-, -, -, f61⟩ := hK1.2.2.2.2.2 _ hi1
    have o11 := hK1.1.o1
    have r141 := hK1.1.r1_4
    have r111 := hK1.1.r1_1
    have a61 := hK1.1.a6
    refine g_aload_n (j := 0) rfl dX10_readWhole_15 ?_
    refine g_callV dX10_readWhole_16 mlX10_94 mvX10_isN (ci := 10) ⟨by decide, rfl⟩ (by assumption) (c_isN w d _ hK1 e81 hi1) sv0 rfl (by omega) (Nat.le_of_ble_eq_true rfl) (Nat.le_refl _) (Nat.le_refl _) (fun v μ2 hR => ?_)
    obtain ⟨rfl, hm⟩ := hR
    replace hm := hm.symm
    subst hm
    refine g_ifb_ne (tgt := 28) dX10_readWhole_19 (by decide)  (fun h19 => ?_) (fun h19 => ?_)
    · refine g_aload_n (j := 0) rfl dX10_readWhole_28 ?_
      refine g_iload_n (j := 1) rfl dX10_readWhole_29 ?_
      refine g_if_eq (tgt := 46) dX10_readWhole_30 (by decide) (by omega) (fun h30 => ?_) (fun h30 => ?_)
      · refine g_aload_n (j := 0) rfl dX10_readWhole_46 ?_
        refine g_getR dX10_readWhole_47 flX10_25 rfl (by assumption) (kz := 4) rfl (by assumption) ?_
        refine g_aload_n (j := 0) rfl dX10_readWhole_50 ?_
        refine g_getI dX10_readWhole_51 flX10_50 rfl (by assumption) (kz := 8) rfl ?_
        rw [e81]
        refine g_iald dX10_readWhole_54 (by assumption) (by omega) (by omega) ?_
        try rw [f61]
        refine g_putI dX10_readWhole_55 fpX10_108 rfl rfl rfl (by assumption) (kz := 9) rfl ?_
        refine g_iconst dX10_readWhole_58 ?_
        first
        | (exfalso; omega)
        | (refine G.retZ dX10_readWhole_59 rfl (Or.inr rfl) ⟨by omega, Or.inl ⟨?_, rfl, ?_, ?_, hs1.tr ⟨Fr.sI (P := fun a => a = x + 1) rfl, fun j z1 z2 => by rw [mI_sI, if_neg (by omega)]⟩⟩⟩
           · rw [hj]
             exact h19
           · rw [mI_sI, if_neg (by omega), hj]
             exact e81
           · rw [mI_sI, if_pos ⟨rfl, rfl⟩]
             unfold vW
             rw [hj]
             first | rw [cI_t h8s] | rw [cI_f h8n])
      · refine g_aload_n (j := 0) rfl dX10_readWhole_33 ?_
        refine g_getR dX10_readWhole_34 flX10_25 rfl (by assumption) (kz := 4) rfl (by assumption) ?_
        refine g_aload_n (j := 0) rfl dX10_readWhole_37 ?_
        refine g_getI dX10_readWhole_38 flX10_50 rfl (by assumption) (kz := 8) rfl ?_
        rw [e81]
        refine g_iald dX10_readWhole_41 (by assumption) (by omega) (by omega) ?_
        rw [f61]
        refine g_ineg dX10_readWhole_42 ?_
        refine g_goto (tgt := 55) (by decide) dX10_readWhole_43 ?_
        try rw [f61]
        refine g_putI dX10_readWhole_55 fpX10_108 rfl rfl rfl (by assumption) (kz := 9) rfl ?_
        refine g_iconst dX10_readWhole_58 ?_
        first
        | (exfalso; omega)
        | (refine G.retZ dX10_readWhole_59 rfl (Or.inr rfl) ⟨by omega, Or.inl ⟨?_, rfl, ?_, ?_, hs1.tr ⟨Fr.sI (P := fun a => a = x + 1) rfl, fun j z1 z2 => by rw [mI_sI, if_neg (by omega)]⟩⟩⟩
           · rw [hj]
             exact h19
           · rw [mI_sI, if_neg (by omega), hj]
             exact e81
           · rw [mI_sI, if_pos ⟨rfl, rfl⟩]
             unfold vW
             rw [hj]
             first | rw [cI_t h8s] | rw [cI_f h8n])
    · refine g_aload_n (j := 0) rfl dX10_readWhole_22 ?_
      refine g_iconst dX10_readWhole_23 ?_
      refine g_callV dX10_readWhole_24 mlX10_105 mvX10_fail (ci := 10) ⟨by decide, rfl⟩ (by assumption) (c_fail w d _ hK1 e81 hi1 (k := 1) e101 e111) sv1 rfl (by omega) (Nat.le_of_ble_eq_true rfl) (Nat.le_refl _) (Nat.le_refl _) (fun v μ9 hR => ?_)
      obtain ⟨rfl, hE⟩ := hR
      refine G.retZ dX10_readWhole_27 rfl (Or.inl rfl) ⟨by omega, Or.inr ⟨?_, rfl, ?_⟩⟩
      · rw [hj]
        exact h19
      · rw [hj]
        exact hs1.E hE
