theorem pv_lo {k f x : Int} (hf : 1 ≤ f) (hk : 0 ≤ k ∧ k ≤ 4) (h1 : -3000 ≤ pv k f x) (h2 : pv k f x ≤ 3000) : -3000 ≤ x := by
  by_cases hx : x < -3000
  · exfalso
    have a := pw_ge (k := k) (y := -x) (by omega)
    have key : pw k x < -3000 ∨ 3000 < pw k x := by
      have ez : k = 0 ∨ k = 1 ∨ k = 2 ∨ k = 3 ∨ k = 4 := by omega
      rcases ez with rfl | rfl | rfl | rfl | rfl
      · rw [pw_0]; omega
      · rw [pw_1, sq_neg] at a; rw [pw_1]; omega
      · rw [pw_2, cu_neg] at a; rw [pw_2]; omega
      · rw [pw_3, fo_neg] at a; rw [pw_3]; omega
      · have b := pw_up (k := 4) (x := 3000) (y := -x - 1) (by omega) (by omega) (by omega)
        have c : pw 4 3000 = 4501500 := by decide
        rw [c, pw_4 (by omega), tr_neg] at b
        rw [pw_4 (by omega)]
        omega
    unfold pv at h1 h2
    rcases key with q | q
    · have := Int.mul_le_mul_of_nonneg_left (a := pw k x) (b := -3001) (c := f) (by omega) (by omega)
      omega
    · have := Int.mul_le_mul_of_nonneg_left (a := 3001) (b := pw k x) (c := f) (by omega) (by omega)
      omega
  · omega
theorem kdT_srt {n : Int} {B : Int → Int} {p : Int} (h : kdT n B p ≠ -1) : p < n ∧ srt (B p) = 2 := by
  unfold kdT at h
  by_cases h0 : isWd n B p 0
  · exact ⟨h0.1, h0.2.1⟩
  · rw [cI_f h0] at h
    by_cases h1 : isWd n B p 1
    · exact ⟨h1.1, h1.2.1⟩
    · rw [cI_f h1] at h
      by_cases h2 : isWd n B p 2
      · exact ⟨h2.1, h2.2.1⟩
      · rw [cI_f h2] at h
        by_cases h3 : isWd n B p 3
        · exact ⟨h3.1, h3.2.1⟩
        · rw [cI_f h3] at h
          by_cases h4 : isWd n B p 4
          · exact ⟨h4.1, h4.2.1⟩
          · rw [cI_f h4] at h
            exact absurd rfl h
noncomputable def rd5 (n : Int) (B : Int → Int) (i : Nat) : FlT ⊕ (Tm × Nat) := pI (isN n B (tP n B i)) (pI (1 ≤ ka n B (tP n B i) ∧ ka n B (tP n B i) ≤ 99) (.inl (4, i)) (.inl (2, i))) (pI (¬ kdT n B (tP n B i) = -1) (.inl (4, i)) (.inl (1, i)))
section ZR
variable {w : WC} {d m : Nat} {n : Int} {B : Int → Int} {R : Option AV → Mem → Prop}
theorem l12_rg {μ : Mem} {i : Nat} {acc : List Tm} {fo fi : Int} (h : ZS w μ m n B (i + 1) acc fo fi) (hl : acc.length ≤ 4) (hok0 : ∀ u ∈ acc, TOk u) {f k : Int} (hf : 1 ≤ f ∧ f ≤ 99) (hk : 0 ≤ k ∧ k ≤ 4) (t0 : mI μ (m + 2) (4 * (20 + (acc.length : Int)) + 0) = f) (t1 : mI μ (m + 2) (4 * (20 + (acc.length : Int)) + 1) = k) {l2 : Option AV} (kE : ∀ (e : FlT) (μ2 : Mem), rdRg n B f k i = .inl e → RzE m (fa4 e.1 (tP n B e.2) fo fi) μ μ2 → R (some (vI 0)) μ2) (kS : ∀ (u : Tm) (j : Nat) (μ2 : Mem), rdRg n B f k i = .inr (u, j) → StM w μ2 m n B j → mI μ2 m 18 = fo → mI μ2 m 19 = fi → MFI μ2 m 4 (acc ++ [u]) → RzF m μ μ2 → R (some (vI 1)) μ2) : G w (d + 8) mX12_readTerm R 0 0 192 [some (vP (some m)), some (vI (acc.length : Int)), l2, some (vI (4 * (20 + (acc.length : Int)))), some (vI k)] [] μ := by
  have hS := h.1
  have o0 := hS.1.o
  obtain ⟨e18, e19⟩ := h.2.1
  refine g_aload_n (j := 0) rfl dX12_readTerm_192 ?_
  refine g_callV dX12_readTerm_193 mlX12_228 mvX12_comesToWhole (ci := 12) ⟨by decide, rfl⟩ (by assumption) (c_comes w (d + 4) μ hS e18 e19) sv0 rfl (by omega) (Nat.le_of_ble_eq_true rfl) (Nat.le_refl _) (Nat.le_refl _) (fun v μ1 hR => ?_)
  rcases hR with ⟨hN, rfl, hS1, e20, hr1⟩ | ⟨hN, rfl, hE⟩
  · refine g_if_ne (tgt := 201) dX12_readTerm_196 (by decide) (by omega) (fun h196 => ?_) (fun h196 => ?_)
    · obtain ⟨hZ1, e2⟩ := h.rd hS1 hr1
      have o01 := hS1.1.o
      have r11 := hS1.1.r1
      have a11 := hS1.1.a1
      have hb := vW_bd hN
      have hpv := pv_9 (k := k) hf (x := vW n B (i + 1)) (by omega)
      obtain ⟨e181, e191⟩ := hZ1.2.1
      have t01 := (e2 _).trans t0
      have t11 := (e2 _).trans t1
      refine g_aload_n (j := 0) rfl dX12_readTerm_201 ?_
      refine g_iconst dX12_readTerm_202 ?_
      refine g_iload_n (j := 1) rfl dX12_readTerm_203 ?_
      refine g_aload_n (j := 0) rfl dX12_readTerm_204 ?_
      refine g_callV dX12_readTerm_205 mlX12_231 mvX12_whole (ci := 12) ⟨by decide, rfl⟩ (by assumption) (c_whole w (d + 7) μ1 hS1 hN e20) sv0 rfl (by omega) (Nat.le_of_ble_eq_true rfl) (Nat.le_refl _) (Nat.le_refl _) (fun v μ2 hR => ?_)
      obtain ⟨rfl, hm⟩ := hR
      replace hm := hm.symm
      subst hm
      refine g_i2l (by omega) dX12_readTerm_208 ?_
      refine g_callV dX12_readTerm_209 mlX12_234 mvX12_valueOf (ci := 12) ⟨by decide, rfl⟩ (by assumption) (c_X12_valueOf w (d + 4) μ1 hS1.1 (s := 4) (i := (acc.length : Int)) (x := vW n B (i + 1)) (k := k) (f := f) (by omega) (by omega) (by rw [← t01]; rfl) (by rw [← t11]; rfl) (by omega) (by omega) (by omega)) sv3 rfl (by omega) (Nat.le_of_ble_eq_true rfl) (Nat.le_refl _) (Nat.le_refl _) (fun v μ2 hR => ?_)
      obtain ⟨rfl, hm⟩ := hR
      replace hm := hm.symm
      subst hm
      refine g_callS dX12_readTerm_212 mlX12_238 msX12_isSmall (c_X12_isSmall w (d + 6) μ1 (x := pv k f (vW n B (i + 1))) (by omega)) sk1 rfl (by omega) (Nat.le_of_ble_eq_true rfl) (Nat.le_refl _) (Nat.le_refl _) (fun v μ2 hR => ?_)
      obtain ⟨rfl, hm⟩ := hR
      replace hm := hm.symm
      subst hm
      refine g_ifb_ne (tgt := 224) dX12_readTerm_215 (by decide)  (fun h215 => ?_) (fun h215 => ?_)
      · refine g_aload_n (j := 0) rfl dX12_readTerm_224 ?_
        refine g_getR dX12_readTerm_225 flX12_15 rfl (by assumption) (kz := 1) rfl (by assumption) ?_
        refine g_iload_n (j := 3) rfl dX12_readTerm_228 ?_
        refine g_iconst dX12_readTerm_229 ?_
        refine g_iadd dX12_readTerm_230 ?_
        refine g_aload_n (j := 0) rfl dX12_readTerm_231 ?_
        refine g_callV dX12_readTerm_232 mlX12_231 mvX12_whole (ci := 12) ⟨by decide, rfl⟩ (by assumption) (c_whole w (d + 7) μ1 hS1 hN e20) sv0 rfl (by omega) (Nat.le_of_ble_eq_true rfl) (Nat.le_refl _) (Nat.le_refl _) (fun v μ2 hR => ?_)
        obtain ⟨rfl, hm⟩ := hR
        replace hm := hm.symm
        subst hm
        refine g_iast dX12_readTerm_235 (by assumption) (by omega) (by omega) ?_
        have hlo := pv_lo hf.1 hk h215.1 h215.2
        obtain ⟨hZ2, hz2⟩ := hZ1.wr (k := 4 * (20 + (acc.length : Int)) + 2) (v := vW n B (i + 1)) (by omega)
        have t02 : mI (sI μ1 (m + 2) (4 * (20 + (acc.length : Int)) + 2) (vW n B (i + 1))) (m + 2) (4 * (20 + (acc.length : Int)) + 0) = f := by rw [mI_sI, if_neg (by omega)]; exact t01
        have t12 : mI (sI μ1 (m + 2) (4 * (20 + (acc.length : Int)) + 2) (vW n B (i + 1))) (m + 2) (4 * (20 + (acc.length : Int)) + 1) = k := by rw [mI_sI, if_neg (by omega)]; exact t11
        have t22 : mI (sI μ1 (m + 2) (4 * (20 + (acc.length : Int)) + 2) (vW n B (i + 1))) (m + 2) (4 * (20 + (acc.length : Int)) + 2) = vW n B (i + 1) := by rw [mI_sI, if_pos ⟨rfl, rfl⟩]
        have hzz := (hr1.z h.1.1).tr hz2
        clear hz2
        generalize sI μ1 (m + 2) (4 * (20 + (acc.length : Int)) + 2) (vW n B (i + 1)) = μ2 at *
        have o02 := hZ2.1.1.o
        refine g_aload_n (j := 0) rfl dX12_readTerm_236 ?_
        refine g_callV dX12_readTerm_237 mlX12_190 mvX12_next (ci := 12) ⟨by decide, rfl⟩ (by assumption) (c_nextS w (d + 5) _ hZ2.1) sv0 rfl (by omega) (Nat.le_of_ble_eq_true rfl) (Nat.le_refl _) (Nat.le_refl _) (fun v μ3 hR => ?_)
        obtain ⟨rfl, hS3, hr3⟩ := hR
        obtain ⟨hZ3, e3⟩ := hZ2.rd hS3 hr3.T
        have o03 := hS3.1.o
        obtain ⟨e183, e193⟩ := hZ3.2.1
        have t03 := (e3 _).trans t02
        have t13 := (e3 _).trans t12
        have t23 := (e3 _).trans t22
        refine g_aload_n (j := 0) rfl dX12_readTerm_240 ?_
        refine g_ldcT dX12_readTerm_241 (n := 6) (tx := "to") (List.mem_of_getElem? (i := 17) rfl) ?_
        refine g_callV dX12_readTerm_243 mlX12_198 mvX12_isWord (ci := 12) ⟨by decide, rfl⟩ (by assumption) (c_isWord12 w (d + 2) μ3 hS3 (t := 6) (by omega)) sv1 rfl (by omega) (Nat.le_of_ble_eq_true rfl) (Nat.le_refl _) (Nat.le_refl _) (fun v μ2 hR => ?_)
        obtain ⟨rfl, hm⟩ := hR
        replace hm := hm.symm
        subst hm
        refine g_ifb_ne (tgt := 255) dX12_readTerm_246 (by decide)  (fun h246 => ?_) (fun h246 => ?_)
        · refine g_aload_n (j := 0) rfl dX12_readTerm_255 ?_
          refine g_callV dX12_readTerm_256 mlX12_190 mvX12_next (ci := 12) ⟨by decide, rfl⟩ (by assumption) (c_nextS w (d + 5) _ hS3) sv0 rfl (by omega) (Nat.le_of_ble_eq_true rfl) (Nat.le_refl _) (Nat.le_refl _) (fun v μ4 hR => ?_)
          obtain ⟨rfl, hS4, hr4⟩ := hR
          obtain ⟨hZ4, e4⟩ := hZ3.rd hS4 hr4.T
          have t04 := (e4 _).trans t03
          have t14 := (e4 _).trans t13
          have t24 := (e4 _).trans t23
          have er : rdBd n B f k (-3000) (i + 1) = .inr (vW n B (i + 1), jW n B (i + 1)) := by
            unfold rdBd
            rw [pI_t hN, pI_t ⟨by omega, by omega, by omega⟩]
          have er2 : rdRg n B f k i = rdRg2 n B f k (vW n B (i + 1)) (jW n B (i + 1)) := by
            unfold rdRg
            rw [er]
            exact pI_t h246
          have hz4 := (hzz.tr (hr3.T.z hZ2.1.1)).tr (hr4.T.z hS3.1)
          refine l12_bd2 (d := d) hZ4 hl hok0 hf hk (lo := vW n B (i + 1)) (by omega) h215 t04 t14 t24 (fun e μ5 y1 y2 => kE e μ5 ?_ (hz4.E y2)) (fun hi j μ5 y1 y2 y3 y4 y5 y6 => kS _ _ μ5 ?_ y2 y3 y4 y5 (hz4.tr y6))
          · rw [er2, rdRg2, y1]
          · rw [er2, rdRg2, y1]
        · refine g_aload_n (j := 0) rfl dX12_readTerm_249 ?_
          refine g_iconst dX12_readTerm_250 ?_
          refine g_callV dX12_readTerm_251 mlX12_187 mvX12_fails (ci := 12) ⟨by decide, rfl⟩ (by assumption) (c_fails w (d + 7) μ3 hS3 (k := 1) e183 e193) sv1 rfl (by omega) (Nat.le_of_ble_eq_true rfl) (Nat.le_refl _) (Nat.le_refl _) (fun v μ4 hR => ?_)
          obtain ⟨rfl, hE⟩ := hR
          have er : rdBd n B f k (-3000) (i + 1) = .inr (vW n B (i + 1), jW n B (i + 1)) := by
            unfold rdBd
            rw [pI_t hN, pI_t ⟨by omega, by omega, by omega⟩]
          have er2 : rdRg n B f k i = .inl (1, jW n B (i + 1) + 1) := by
            unfold rdRg
            rw [er]
            exact pI_f h246
          exact G.retZ dX12_readTerm_254 rfl (Or.inl rfl) (kE _ _ er2 ((hzz.tr (hr3.T.z hZ2.1.1)).E (hE.z hS3.1)))
      · refine g_aload_n (j := 0) rfl dX12_readTerm_218 ?_
        refine g_iconst dX12_readTerm_219 ?_
        refine g_callV dX12_readTerm_220 mlX12_187 mvX12_fails (ci := 12) ⟨by decide, rfl⟩ (by assumption) (c_fails w (d + 7) μ1 hS1 (k := 3) e181 e191) sv1 rfl (by omega) (Nat.le_of_ble_eq_true rfl) (Nat.le_refl _) (Nat.le_refl _) (fun v μ2 hR => ?_)
        obtain ⟨rfl, hE⟩ := hR
        have er : rdBd n B f k (-3000) (i + 1) = .inl (3, jW n B (i + 1)) := by
          unfold rdBd
          rw [pI_t hN, pI_f (by omega)]
        have er2 : rdRg n B f k i = .inl (3, jW n B (i + 1)) := by
          unfold rdRg
          rw [er]
        exact G.retZ dX12_readTerm_223 rfl (Or.inl rfl) (kE _ _ er2 ((hr1.z h.1.1).E (hE.z hS1.1)))
    · omega
  · refine g_if_ne (tgt := 201) dX12_readTerm_196 (by decide) (by omega) (fun h196 => ?_) (fun h196 => ?_)
    · omega
    · refine g_iconst dX12_readTerm_199 ?_
      have er : rdBd n B f k (-3000) (i + 1) = .inl (1, jW n B (i + 1)) := by
        unfold rdBd
        rw [pI_f hN]
      have er2 : rdRg n B f k i = .inl (1, jW n B (i + 1)) := by
        unfold rdRg
        rw [er]
      exact G.retZ dX12_readTerm_200 rfl (Or.inl rfl) (kE _ _ er2 (hE.z h.1.1))
theorem l12_t2 {μ : Mem} {i : Nat} {acc : List Tm} {fo fi : Int} (h : ZS w μ m n B i acc fo fi) (hl : acc.length ≤ 4) (hok0 : ∀ u ∈ acc, TOk u) {f : Int} (hf : 1 ≤ f ∧ f ≤ 99) (t0 : mI μ (m + 2) (4 * (20 + (acc.length : Int)) + 0) = f) {l2 l4 : Option AV} (kE : ∀ (e : FlT) (μ2 : Mem), rdT2 n B f i = .inl e → RzE m (fa4 e.1 (tP n B e.2) fo fi) μ μ2 → R (some (vI 0)) μ2) (kS : ∀ (u : Tm) (j : Nat) (μ2 : Mem), rdT2 n B f i = .inr (u, j) → StM w μ2 m n B j → mI μ2 m 18 = fo → mI μ2 m 19 = fi → MFI μ2 m 4 (acc ++ [u]) → RzF m μ μ2 → R (some (vI 1)) μ2) : G w (d + 8) mX12_readTerm R 0 0 117 [some (vP (some m)), some (vI (acc.length : Int)), l2, some (vI (4 * (20 + (acc.length : Int)))), l4] [] μ := by
  have hS := h.1
  have o0 := hS.1.o
  have r1 := hS.1.r1
  have a1 := hS.1.a1
  obtain ⟨e18, e19⟩ := h.2.1
  have hkb := kdT_bd n B (tP n B i)
  refine g_aload_n (j := 0) rfl dX12_readTerm_117 ?_
  refine g_callV dX12_readTerm_118 mlX12_218 mvX12_kindHere (ci := 12) ⟨by decide, rfl⟩ (by assumption) (c_kindHere w (d + 1) μ hS) sv0 rfl (by omega) (Nat.le_of_ble_eq_true rfl) (Nat.le_refl _) (Nat.le_refl _) (fun v μ2 hR => ?_)
  obtain ⟨rfl, hm⟩ := hR
  replace hm := hm.symm
  subst hm
  refine g_istore (i := 4) dX12_readTerm_121 (by decide) rfl ls4 ?_
  refine g_iload (i := 4) rfl dX12_readTerm_123 ?_
  refine g_iconst dX12_readTerm_125 ?_
  refine g_icmp_ne (tgt := 135) dX12_readTerm_126 (by decide) (by omega) (by omega) (fun h126 => ?_) (fun h126 => ?_)
  · refine g_aload_n (j := 0) rfl dX12_readTerm_135 ?_
    refine g_getR dX12_readTerm_136 flX12_15 rfl (by assumption) (kz := 1) rfl (by assumption) ?_
    refine g_iload_n (j := 3) rfl dX12_readTerm_139 ?_
    refine g_iconst dX12_readTerm_140 ?_
    refine g_iadd dX12_readTerm_141 ?_
    refine g_iload (i := 4) rfl dX12_readTerm_142 ?_
    refine g_iast dX12_readTerm_144 (by assumption) (by omega) (by omega) ?_
    refine g_aload_n (j := 0) rfl dX12_readTerm_145 ?_
    refine g_getR dX12_readTerm_146 flX12_15 rfl (by simp only [IsO_sI, IsO_sL, IsO_sR, IsO_wI, IsO_wL, IsA_sI, IsA_sL, IsA_sR, IsA_wI, IsA_wL, mR_sI, mR_sL, mR_wI, mR_wL]; assumption) (kz := 1) rfl (by simp only [IsO_sI, IsO_sL, IsO_sR, IsO_wI, IsO_wL, IsA_sI, IsA_sL, IsA_sR, IsA_wI, IsA_wL, mR_sI, mR_sL, mR_wI, mR_wL]; assumption) ?_
    refine g_iload_n (j := 3) rfl dX12_readTerm_149 ?_
    refine g_iconst dX12_readTerm_150 ?_
    refine g_iadd dX12_readTerm_151 ?_
    refine g_iconst dX12_readTerm_152 ?_
    refine g_iast dX12_readTerm_153 (by simp only [IsO_sI, IsO_sL, IsO_sR, IsO_wI, IsO_wL, IsA_sI, IsA_sL, IsA_sR, IsA_wI, IsA_wL, mR_sI, mR_sL, mR_wI, mR_wL]; assumption) (by omega) (by omega) ?_
    refine g_aload_n (j := 0) rfl dX12_readTerm_154 ?_
    refine g_getR dX12_readTerm_155 flX12_15 rfl (by simp only [IsO_sI, IsO_sL, IsO_sR, IsO_wI, IsO_wL, IsA_sI, IsA_sL, IsA_sR, IsA_wI, IsA_wL, mR_sI, mR_sL, mR_wI, mR_wL]; assumption) (kz := 1) rfl (by simp only [IsO_sI, IsO_sL, IsO_sR, IsO_wI, IsO_wL, IsA_sI, IsA_sL, IsA_sR, IsA_wI, IsA_wL, mR_sI, mR_sL, mR_wI, mR_wL]; assumption) ?_
    refine g_iload_n (j := 3) rfl dX12_readTerm_158 ?_
    refine g_iconst dX12_readTerm_159 ?_
    refine g_iadd dX12_readTerm_160 ?_
    have hk0 : 0 ≤ kdT n B (tP n B i) := by omega
    generalize hkd : kdT n B (tP n B i) = k at *
    obtain ⟨hZ1, hz1⟩ := h.wr (k := 4 * (20 + (acc.length : Int)) + 1) (v := k) (by omega)
    obtain ⟨hZ2, hz2⟩ := hZ1.wr (k := 4 * (20 + (acc.length : Int)) + 2) (v := 0) (by omega)
    replace hz2 := hz1.tr hz2
    have t02 : mI (sI (sI μ (m + 2) (4 * (20 + (acc.length : Int)) + 1) k) (m + 2) (4 * (20 + (acc.length : Int)) + 2) 0) (m + 2) (4 * (20 + (acc.length : Int)) + 0) = f := by rw [mI_sI, if_neg (by omega), mI_sI, if_neg (by omega)]; exact t0
    have t12 : mI (sI (sI μ (m + 2) (4 * (20 + (acc.length : Int)) + 1) k) (m + 2) (4 * (20 + (acc.length : Int)) + 2) 0) (m + 2) (4 * (20 + (acc.length : Int)) + 1) = k := by rw [mI_sI, if_neg (by omega), mI_sI, if_pos ⟨rfl, rfl⟩]
    have t22 : mI (sI (sI μ (m + 2) (4 * (20 + (acc.length : Int)) + 1) k) (m + 2) (4 * (20 + (acc.length : Int)) + 2) 0) (m + 2) (4 * (20 + (acc.length : Int)) + 2) = 0 := by rw [mI_sI, if_pos ⟨rfl, rfl⟩]
    clear hz1 hZ1
    generalize sI (sI μ (m + 2) (4 * (20 + (acc.length : Int)) + 1) k) (m + 2) (4 * (20 + (acc.length : Int)) + 2) 0 = μ2 at *
    have o02 := hZ2.1.1.o
    have r12 := hZ2.1.1.r1
    have a12 := hZ2.1.1.a1
    refine g_aload_n (j := 0) rfl dX12_readTerm_161 ?_
    refine g_getR dX12_readTerm_162 flX12_15 rfl (by assumption) (kz := 1) rfl (by assumption) ?_
    refine g_iload_n (j := 3) rfl dX12_readTerm_165 ?_
    refine g_iconst dX12_readTerm_166 ?_
    refine g_iadd dX12_readTerm_167 ?_
    refine g_iald dX12_readTerm_168 (by assumption) (by omega) (by omega) ?_
    refine g_iload (i := 4) rfl dX12_readTerm_169 ?_
    rw [t02]
    refine g_callS dX12_readTerm_171 mlX12_223 msX12_greatest (c_X12_greatest w (d + 6) μ2 (k := k) (f := f) (by omega) hf) sk2 rfl (by omega) (Nat.le_of_ble_eq_true rfl) (Nat.le_refl _) (Nat.le_refl _) (fun v μ2 hR => ?_)
    obtain ⟨rfl, hm⟩ := hR
    replace hm := hm.symm
    subst hm
    refine g_iast dX12_readTerm_174 (by assumption) (by omega) (by omega) ?_
    have hgx := gx_bd k f
    obtain ⟨hZ3, hz3⟩ := hZ2.wr (k := 4 * (20 + (acc.length : Int)) + 3) (v := gx k f) (by omega)
    replace hz3 := hz2.tr hz3
    have t03 : mI (sI μ2 (m + 2) (4 * (20 + (acc.length : Int)) + 3) (gx k f)) (m + 2) (4 * (20 + (acc.length : Int)) + 0) = f := by rw [mI_sI, if_neg (by omega)]; exact t02
    have t13 : mI (sI μ2 (m + 2) (4 * (20 + (acc.length : Int)) + 3) (gx k f)) (m + 2) (4 * (20 + (acc.length : Int)) + 1) = k := by rw [mI_sI, if_neg (by omega)]; exact t12
    have t23 : mI (sI μ2 (m + 2) (4 * (20 + (acc.length : Int)) + 3) (gx k f)) (m + 2) (4 * (20 + (acc.length : Int)) + 2) = 0 := by rw [mI_sI, if_neg (by omega)]; exact t22
    have t33 : mI (sI μ2 (m + 2) (4 * (20 + (acc.length : Int)) + 3) (gx k f)) (m + 2) (4 * (20 + (acc.length : Int)) + 3) = gx k f := by rw [mI_sI, if_pos ⟨rfl, rfl⟩]
    generalize sI μ2 (m + 2) (4 * (20 + (acc.length : Int)) + 3) (gx k f) = μ3 at *
    have o03 := hZ3.1.1.o
    have hS3 := hZ3.1
    refine g_aload_n (j := 0) rfl dX12_readTerm_175 ?_
    refine g_callV dX12_readTerm_176 mlX12_190 mvX12_next (ci := 12) ⟨by decide, rfl⟩ (by assumption) (c_nextS w (d + 5) _ hZ3.1) sv0 rfl (by omega) (Nat.le_of_ble_eq_true rfl) (Nat.le_refl _) (Nat.le_refl _) (fun v μ4 hR => ?_)
    obtain ⟨rfl, hS4, hr4⟩ := hR
    obtain ⟨hZ4, e4⟩ := hZ3.rd hS4 hr4.T
    have o04 := hS4.1.o
    have t04 := (e4 _).trans t03
    have t14 := (e4 _).trans t13
    have t24 := (e4 _).trans t23
    have t34 := (e4 _).trans t33
    have hz4 := hz3.tr (hr4.T.z hZ3.1.1)
    refine g_aload_n (j := 0) rfl dX12_readTerm_179 ?_
    refine g_ldcT dX12_readTerm_180 (n := 5) (tx := "from") (List.mem_of_getElem? (i := 16) rfl) ?_
    refine g_callV dX12_readTerm_182 mlX12_198 mvX12_isWord (ci := 12) ⟨by decide, rfl⟩ (by assumption) (c_isWord12 w (d + 2) μ4 hS4 (t := 5) (by omega)) sv1 rfl (by omega) (Nat.le_of_ble_eq_true rfl) (Nat.le_refl _) (Nat.le_refl _) (fun v μ2 hR => ?_)
    obtain ⟨rfl, hm⟩ := hR
    replace hm := hm.symm
    subst hm
    refine g_ifb_eq (tgt := 322) dX12_readTerm_185 (by decide)  (fun h185 => ?_) (fun h185 => ?_)
    · have er : rdT2 n B f i = .inr ((f, k, 0, gx k f), i + 1) := by
        unfold rdT2
        rw [hkd, pI_f h126, pI_f h185]
      exact l12_tEnd (d := d) hZ4 hl hok0 (gx_ok hf ⟨hk0, hkb.2.1⟩) ⟨by rw [← t04]; rfl, by rw [← t14]; rfl, by rw [← t24]; rfl, by rw [← t34]; rfl⟩ (fun μ6 y1 y2 y3 y4 y5 => kS _ _ μ6 er y1 y2 y3 y4 (hz4.tr y5))
    · refine g_aload_n (j := 0) rfl dX12_readTerm_188 ?_
      refine g_callV dX12_readTerm_189 mlX12_190 mvX12_next (ci := 12) ⟨by decide, rfl⟩ (by assumption) (c_nextS w (d + 5) _ hS4) sv0 rfl (by omega) (Nat.le_of_ble_eq_true rfl) (Nat.le_refl _) (Nat.le_refl _) (fun v μ5 hR => ?_)
      obtain ⟨rfl, hS5, hr5⟩ := hR
      obtain ⟨hZ5, e5⟩ := hZ4.rd hS5 hr5.T
      have t05 := (e5 _).trans t04
      have t15 := (e5 _).trans t14
      have er : rdT2 n B f i = rdRg n B f k (i + 1) := by
        unfold rdT2
        rw [hkd, pI_f h126]
        exact pI_t h185
      have hz5 := hz4.tr (hr5.T.z hS4.1)
      exact l12_rg (d := d) hZ5 hl hok0 hf ⟨hk0, hkb.2.1⟩ t05 t15 (fun e μ6 y1 y2 => kE e μ6 (er.trans y1) (hz5.E y2)) (fun u j μ6 y1 y2 y3 y4 y5 y6 => kS u j μ6 (er.trans y1) y2 y3 y4 y5 (hz5.tr y6))
  · refine g_aload_n (j := 0) rfl dX12_readTerm_129 ?_
    refine g_iconst dX12_readTerm_130 ?_
    refine g_callV dX12_readTerm_131 mlX12_187 mvX12_fails (ci := 12) ⟨by decide, rfl⟩ (by assumption) (c_fails w (d + 7) μ hS (k := 1) e18 e19) sv1 rfl (by omega) (Nat.le_of_ble_eq_true rfl) (Nat.le_refl _) (Nat.le_refl _) (fun v μ2 hR => ?_)
    obtain ⟨rfl, hE⟩ := hR
    have er : rdT2 n B f i = .inl (1, i) := pI_t h126
    exact G.retZ dX12_readTerm_134 rfl (Or.inl rfl) (kE _ _ er (hE.z hS.1))
end ZR
theorem c_readTerm12 (w : WC) (d : Nat) (μ : Mem) {m : Nat} {n : Int} {B : Int → Int} {i : Nat} {acc : List Tm} {fo fi : Int} (h : ZS w μ m n B i acc fo fi) (hl : acc.length ≤ 5) (hok0 : ∀ u ∈ acc, TOk u) : Con w (d + 8) mX12_readTerm 0 0 [vP (some m)] μ (fun v μ2 => (acc.length = 5 → ∃ e, rd5 n B i = .inl e ∧ v = some (vI 0) ∧ RzE m (fa4 e.1 (tP n B e.2) fo fi) μ μ2) ∧ (acc.length ≤ 4 → PoR (rdTm n B i) (fun c j => v = some (vI 0) ∧ RzE m (fa4 c (tP n B j) fo fi) μ μ2) (fun u j => v = some (vI 1) ∧ StM w μ2 m n B j ∧ mI μ2 m 18 = fo ∧ mI μ2 m 19 = fi ∧ MFI μ2 m 4 (acc ++ [u]) ∧ RzF m μ μ2))) := by
  have hS := h.1
  have o0 := hS.1.o
  have r0 := hS.1.r0
  have r1 := hS.1.r1
  have a0 := hS.1.a0
  have a1 := hS.1.a1
  obtain ⟨e18, e19⟩ := h.2.1
  have el := h.2.2.1
  have hkb := kdT_bd n B (tP n B i)
  have hks := kdT_srt (n := n) (B := B) (p := tP n B i)
  obtain ⟨-, -, ⟨-, -, f12, -, f16, -⟩, -⟩ := id hS
  have hm2 := mS2_c n B (tP n B i)
  have hkN : isN n B (tP n B i) → mN2 n B (tP n B i) = ka n B (tP n B i) := mN2_ka
  have hkB : isN n B (tP n B i) → 0 ≤ ka n B (tP n B i) ∧ ka n B (tP n B i) ≤ 9999 := ka_N
  refine Con.of (by decide) (Nat.le_of_ble_eq_true rfl) rfl ?_
  refine g_aload_n (j := 0) rfl dX12_readTerm_0 ?_
  refine g_getR dX12_readTerm_1 flX12_9 rfl (by assumption) (kz := 0) rfl (by assumption) ?_
  try rw [el]
  refine g_iconst dX12_readTerm_4 ?_
  refine g_iald dX12_readTerm_5 (by assumption) (by omega) (by omega) ?_
  rw [el]
  refine g_istore_n (j := 1) dX12_readTerm_6 (by decide) rfl ls1 ?_
  refine g_aload_n (j := 0) rfl dX12_readTerm_7 ?_
  refine g_callV dX12_readTerm_8 mlX12_214 mvX12_isNumber (ci := 12) ⟨by decide, rfl⟩ (by assumption) (c_isNumber12 w (d + 7) μ hS) sv0 rfl (by omega) (Nat.le_of_ble_eq_true rfl) (Nat.le_refl _) (Nat.le_refl _) (fun v μ2 hR => ?_)
  obtain ⟨rfl, hm⟩ := hR
  replace hm := hm.symm
  subst hm
  refine g_ifb_ne (tgt := 22) dX12_readTerm_11 (by decide)  (fun h11 => ?_) (fun h11 => ?_)
  · refine g_iconst dX12_readTerm_22 ?_
    refine g_goto (tgt := 27) (by decide) dX12_readTerm_23 ?_
    refine g_istore_n (j := 2) dX12_readTerm_27 (by decide) rfl ls2 ?_
    refine g_iload_n (j := 2) rfl dX12_readTerm_28 ?_
    refine g_if_ne (tgt := 38) dX12_readTerm_29 (by decide) (by omega) (fun h29 => ?_) (fun h29 => ?_)
    · refine g_aload_n (j := 0) rfl dX12_readTerm_38 ?_
      refine g_callV dX12_readTerm_39 mlX12_214 mvX12_isNumber (ci := 12) ⟨by decide, rfl⟩ (by assumption) (c_isNumber12 w (d + 7) μ hS) sv0 rfl (by omega) (Nat.le_of_ble_eq_true rfl) (Nat.le_refl _) (Nat.le_refl _) (fun v μ2 hR => ?_)
      obtain ⟨rfl, hm⟩ := hR
      replace hm := hm.symm
      subst hm
      refine g_ifb_eq (tgt := 66) dX12_readTerm_42 (by decide)  (fun h42 => ?_) (fun h42 => ?_)
      · exact absurd h11 h42
      · refine g_aload_n (j := 0) rfl dX12_readTerm_45 ?_
        refine g_getI dX12_readTerm_46 flX12_136 rfl (by assumption) (kz := 16) rfl ?_
        rw [f16, hkN (by assumption)]
        have hkb2 := hkB (by assumption)
        refine g_i2l (by omega) dX12_readTerm_49 ?_
        refine g_lconst1 dX12_readTerm_50 ?_
        refine g_ldc2 dX12_readTerm_51 klX12_221 (z := 99) rfl ?_
        refine g_callS dX12_readTerm_54 mlX12_105 msX12_isIn (c_X12_isIn w (d + 7) μ (x := ka n B (tP n B i)) (a := 1) (b := 99) (by omega) (by omega) (by omega)) sk3 rfl (by omega) (Nat.le_of_ble_eq_true rfl) (Nat.le_refl _) (Nat.le_refl _) (fun v μ2 hR => ?_)
        obtain ⟨rfl, hm⟩ := hR
        replace hm := hm.symm
        subst hm
        refine g_ifb_ne (tgt := 66) dX12_readTerm_57 (by decide)  (fun h57 => ?_) (fun h57 => ?_)
        · refine g_iload_n (j := 1) rfl dX12_readTerm_66 ?_
          refine g_iconst dX12_readTerm_67 ?_
          refine g_icmp_ne (tgt := 77) dX12_readTerm_68 (by decide) (by omega) (by omega) (fun h68 => ?_) (fun h68 => ?_)
          · have hl4 : acc.length ≤ 4 := by omega
            obtain ⟨hZ1, hz1⟩ := h.wr (k := 4 * (20 + (acc.length : Int)) + 0) (v := 1) (by omega)
            refine g_iconst dX12_readTerm_77 ?_
            refine g_bipush dX12_readTerm_78 (by omega) ?_
            refine g_iload_n (j := 1) rfl dX12_readTerm_80 ?_
            refine g_iadd dX12_readTerm_81 ?_
            refine g_imul dX12_readTerm_82 ?_
            refine g_istore_n (j := 3) dX12_readTerm_83 (by decide) rfl ls3 ?_
            refine g_aload_n (j := 0) rfl dX12_readTerm_84 ?_
            refine g_getR dX12_readTerm_85 flX12_15 rfl (by assumption) (kz := 1) rfl (by assumption) ?_
            refine g_iload_n (j := 3) rfl dX12_readTerm_88 ?_
            refine g_iconst dX12_readTerm_89 ?_
            refine g_iadd dX12_readTerm_90 ?_
            refine g_iconst dX12_readTerm_91 ?_
            refine g_iast dX12_readTerm_92 (by assumption) (by omega) (by omega) ?_
            refine g_aload_n (j := 0) rfl dX12_readTerm_93 ?_
            refine g_getIv dX12_readTerm_94 flX12_142 rfl (by simp only [IsO_sI, IsO_sL, IsO_sR, IsO_wI, IsO_wL, IsA_sI, IsA_sL, IsA_sR, IsA_wI, IsA_wL, mR_sI, mR_sL, mR_wI, mR_wL]; assumption) (kz := 12) rfl (by simp [mI_sI, mI_sL, mI_sR, mI_wI, mI_wL, mL_sI, mL_sL, mL_sR, mL_wI, mL_wL, f12, f16]; rfl) ?_
            
            refine g_iconst dX12_readTerm_97 ?_
            refine g_icmp_ne (tgt := 117) dX12_readTerm_98 (by decide) (by omega) (by omega) (fun h98 => ?_) (fun h98 => ?_)
            · have q := h11.1
              have q2 := h11.2.1
              omega
            · refine g_aload_n (j := 0) rfl dX12_readTerm_101 ?_
              refine g_getR dX12_readTerm_102 flX12_15 rfl (by simp only [IsO_sI, IsO_sL, IsO_sR, IsO_wI, IsO_wL, IsA_sI, IsA_sL, IsA_sR, IsA_wI, IsA_wL, mR_sI, mR_sL, mR_wI, mR_wL]; assumption) (kz := 1) rfl (by simp only [IsO_sI, IsO_sL, IsO_sR, IsO_wI, IsO_wL, IsA_sI, IsA_sL, IsA_sR, IsA_wI, IsA_wL, mR_sI, mR_sL, mR_wI, mR_wL]; assumption) ?_
              refine g_iload_n (j := 3) rfl dX12_readTerm_105 ?_
              refine g_iconst dX12_readTerm_106 ?_
              refine g_iadd dX12_readTerm_107 ?_
              refine g_aload_n (j := 0) rfl dX12_readTerm_108 ?_
              refine g_getIv dX12_readTerm_109 flX12_136 rfl (by simp only [IsO_sI, IsO_sL, IsO_sR, IsO_wI, IsO_wL, IsA_sI, IsA_sL, IsA_sR, IsA_wI, IsA_wL, mR_sI, mR_sL, mR_wI, mR_wL]; assumption) (kz := 16) rfl (by simp [mI_sI, mI_sL, mI_sR, mI_wI, mI_wL, mL_sI, mL_sL, mL_sR, mL_wI, mL_wL, f12, f16]; rfl) ?_
              refine g_iast dX12_readTerm_112 (by simp only [IsO_sI, IsO_sL, IsO_sR, IsO_wI, IsO_wL, IsA_sI, IsA_sL, IsA_sR, IsA_wI, IsA_wL, mR_sI, mR_sL, mR_wI, mR_wL]; assumption) (by omega) (by omega) ?_
              obtain ⟨hZ2, hz2⟩ := hZ1.wr (k := 4 * (20 + (acc.length : Int)) + 0) (v := mN2 n B (tP n B i)) (by omega)
              replace hz2 := hz1.tr hz2
              have t02 : mI (sI (sI μ (m + 2) (4 * (20 + (acc.length : Int)) + 0) 1) (m + 2) (4 * (20 + (acc.length : Int)) + 0) (mN2 n B (tP n B i))) (m + 2) (4 * (20 + (acc.length : Int)) + 0) = ka n B (tP n B i) := by rw [mI_sI, if_pos ⟨rfl, rfl⟩]; exact hkN h11
              clear hz1 hZ1
              generalize sI (sI μ (m + 2) (4 * (20 + (acc.length : Int)) + 0) 1) (m + 2) (4 * (20 + (acc.length : Int)) + 0) (mN2 n B (tP n B i)) = μ2 at *
              have o02 := hZ2.1.1.o
              refine g_aload_n (j := 0) rfl dX12_readTerm_113 ?_
              refine g_callV dX12_readTerm_114 mlX12_190 mvX12_next (ci := 12) ⟨by decide, rfl⟩ (by assumption) (c_nextS w (d + 5) _ hZ2.1) sv0 rfl (by omega) (Nat.le_of_ble_eq_true rfl) (Nat.le_refl _) (Nat.le_refl _) (fun v μ4 hR => ?_)
              obtain ⟨rfl, hS4, hr4⟩ := hR
              obtain ⟨hZ4, e4⟩ := hZ2.rd hS4 hr4.T
              have t04 := (e4 _).trans t02
              have hz4 := hz2.tr (hr4.T.z hZ2.1.1)
              have er : rdTm n B i = rdT2 n B (ka n B (tP n B i)) (i + 1) := by rw [rdTm, pI_t h11, pI_t h57]
              refine l12_t2 (d := d) hZ4 hl4 hok0 h57 t04 (fun e μ6 y1 y2 => ⟨fun z => by omega, fun _ => ?_⟩) (fun u j μ6 y1 y2 y3 y4 y5 y6 => ⟨fun z => by omega, fun _ => ?_⟩)
              · rw [er, y1]
                exact ⟨rfl, hz4.E y2⟩
              · rw [er, y1]
                exact ⟨rfl, y2, y3, y4, y5, hz4.tr y6⟩
          · refine g_aload_n (j := 0) rfl dX12_readTerm_71 ?_
            refine g_iconst dX12_readTerm_72 ?_
            refine g_callV dX12_readTerm_73 mlX12_187 mvX12_fails (ci := 12) ⟨by decide, rfl⟩ (by assumption) (c_fails w (d + 7) μ hS (k := 4) e18 e19) sv1 rfl (by omega) (Nat.le_of_ble_eq_true rfl) (Nat.le_refl _) (Nat.le_refl _) (fun v μ2 hR => ?_)
            obtain ⟨rfl, hE⟩ := hR
            exact G.retZ dX12_readTerm_76 rfl (Or.inl rfl) ⟨fun _ => ⟨(4, i), by rw [rd5, pI_t h11, pI_t h57], rfl, hE.z hS.1⟩, fun z => by omega⟩
        · refine g_aload_n (j := 0) rfl dX12_readTerm_60 ?_
          refine g_iconst dX12_readTerm_61 ?_
          refine g_callV dX12_readTerm_62 mlX12_187 mvX12_fails (ci := 12) ⟨by decide, rfl⟩ (by assumption) (c_fails w (d + 7) μ hS (k := 2) e18 e19) sv1 rfl (by omega) (Nat.le_of_ble_eq_true rfl) (Nat.le_refl _) (Nat.le_refl _) (fun v μ2 hR => ?_)
          obtain ⟨rfl, hE⟩ := hR
          refine G.retZ dX12_readTerm_65 rfl (Or.inl rfl) ⟨fun _ => ⟨(2, i), by rw [rd5, pI_t h11, pI_f h57], rfl, hE.z hS.1⟩, fun _ => ?_⟩
          rw [rdTm, pI_t h11, pI_f h57]
          exact ⟨rfl, hE.z hS.1⟩
    · omega
  · refine g_aload_n (j := 0) rfl dX12_readTerm_14 ?_
    refine g_callV dX12_readTerm_15 mlX12_218 mvX12_kindHere (ci := 12) ⟨by decide, rfl⟩ (by assumption) (c_kindHere w (d + 1) μ hS) sv0 rfl (by omega) (Nat.le_of_ble_eq_true rfl) (Nat.le_refl _) (Nat.le_refl _) (fun v μ2 hR => ?_)
    obtain ⟨rfl, hm⟩ := hR
    replace hm := hm.symm
    subst hm
    refine g_iconst dX12_readTerm_18 ?_
    refine g_icmp_eq (tgt := 26) dX12_readTerm_19 (by decide) (by omega) (by omega) (fun h19 => ?_) (fun h19 => ?_)
    · refine g_iconst dX12_readTerm_26 ?_
      refine g_istore_n (j := 2) dX12_readTerm_27 (by decide) rfl ls2 ?_
      refine g_iload_n (j := 2) rfl dX12_readTerm_28 ?_
      refine g_if_ne (tgt := 38) dX12_readTerm_29 (by decide) (by omega) (fun h29 => ?_) (fun h29 => ?_)
      · omega
      · refine g_aload_n (j := 0) rfl dX12_readTerm_32 ?_
        refine g_iconst dX12_readTerm_33 ?_
        refine g_callV dX12_readTerm_34 mlX12_187 mvX12_fails (ci := 12) ⟨by decide, rfl⟩ (by assumption) (c_fails w (d + 7) μ hS (k := 1) e18 e19) sv1 rfl (by omega) (Nat.le_of_ble_eq_true rfl) (Nat.le_refl _) (Nat.le_refl _) (fun v μ2 hR => ?_)
        obtain ⟨rfl, hE⟩ := hR
        refine G.retZ dX12_readTerm_37 rfl (Or.inl rfl) ⟨fun _ => ⟨(1, i), by rw [rd5, pI_f h11, pI_f (fun z => z h19)], rfl, hE.z hS.1⟩, fun _ => ?_⟩
        rw [rdTm, pI_f h11, pI_f (fun z => z h19)]
        exact ⟨rfl, hE.z hS.1⟩
    · refine g_iconst dX12_readTerm_22 ?_
      refine g_goto (tgt := 27) (by decide) dX12_readTerm_23 ?_
      refine g_istore_n (j := 2) dX12_readTerm_27 (by decide) rfl ls2 ?_
      refine g_iload_n (j := 2) rfl dX12_readTerm_28 ?_
      refine g_if_ne (tgt := 38) dX12_readTerm_29 (by decide) (by omega) (fun h29 => ?_) (fun h29 => ?_)
      · refine g_aload_n (j := 0) rfl dX12_readTerm_38 ?_
        refine g_callV dX12_readTerm_39 mlX12_214 mvX12_isNumber (ci := 12) ⟨by decide, rfl⟩ (by assumption) (c_isNumber12 w (d + 7) μ hS) sv0 rfl (by omega) (Nat.le_of_ble_eq_true rfl) (Nat.le_refl _) (Nat.le_refl _) (fun v μ2 hR => ?_)
        obtain ⟨rfl, hm⟩ := hR
        replace hm := hm.symm
        subst hm
        refine g_ifb_eq (tgt := 66) dX12_readTerm_42 (by decide)  (fun h42 => ?_) (fun h42 => ?_)
        · refine g_iload_n (j := 1) rfl dX12_readTerm_66 ?_
          refine g_iconst dX12_readTerm_67 ?_
          refine g_icmp_ne (tgt := 77) dX12_readTerm_68 (by decide) (by omega) (by omega) (fun h68 => ?_) (fun h68 => ?_)
          · have hl4 : acc.length ≤ 4 := by omega
            obtain ⟨hZ1, hz1⟩ := h.wr (k := 4 * (20 + (acc.length : Int)) + 0) (v := 1) (by omega)
            refine g_iconst dX12_readTerm_77 ?_
            refine g_bipush dX12_readTerm_78 (by omega) ?_
            refine g_iload_n (j := 1) rfl dX12_readTerm_80 ?_
            refine g_iadd dX12_readTerm_81 ?_
            refine g_imul dX12_readTerm_82 ?_
            refine g_istore_n (j := 3) dX12_readTerm_83 (by decide) rfl ls3 ?_
            refine g_aload_n (j := 0) rfl dX12_readTerm_84 ?_
            refine g_getR dX12_readTerm_85 flX12_15 rfl (by assumption) (kz := 1) rfl (by assumption) ?_
            refine g_iload_n (j := 3) rfl dX12_readTerm_88 ?_
            refine g_iconst dX12_readTerm_89 ?_
            refine g_iadd dX12_readTerm_90 ?_
            refine g_iconst dX12_readTerm_91 ?_
            refine g_iast dX12_readTerm_92 (by assumption) (by omega) (by omega) ?_
            refine g_aload_n (j := 0) rfl dX12_readTerm_93 ?_
            refine g_getIv dX12_readTerm_94 flX12_142 rfl (by simp only [IsO_sI, IsO_sL, IsO_sR, IsO_wI, IsO_wL, IsA_sI, IsA_sL, IsA_sR, IsA_wI, IsA_wL, mR_sI, mR_sL, mR_wI, mR_wL]; assumption) (kz := 12) rfl (by simp [mI_sI, mI_sL, mI_sR, mI_wI, mI_wL, mL_sI, mL_sL, mL_sR, mL_wI, mL_wL, f12, f16]; rfl) ?_
            refine g_iconst dX12_readTerm_97 ?_
            refine g_icmp_ne (tgt := 117) dX12_readTerm_98 (by decide) (by omega) (by omega) (fun h98 => ?_) (fun h98 => ?_)
            · have er : rdTm n B i = rdT2 n B 1 i := by rw [rdTm, pI_f h11, pI_t h19]
              refine l12_t2 (d := d) (f := 1) hZ1 hl4 hok0 (by omega) (by rw [mI_sI, if_pos ⟨rfl, rfl⟩]) (fun e μ6 y1 y2 => ⟨fun z => by omega, fun _ => ?_⟩) (fun u j μ6 y1 y2 y3 y4 y5 y6 => ⟨fun z => by omega, fun _ => ?_⟩)
              · rw [er, y1]
                exact ⟨rfl, hz1.E y2⟩
              · rw [er, y1]
                exact ⟨rfl, y2, y3, y4, y5, hz1.tr y6⟩
            · omega
          · refine g_aload_n (j := 0) rfl dX12_readTerm_71 ?_
            refine g_iconst dX12_readTerm_72 ?_
            refine g_callV dX12_readTerm_73 mlX12_187 mvX12_fails (ci := 12) ⟨by decide, rfl⟩ (by assumption) (c_fails w (d + 7) μ hS (k := 4) e18 e19) sv1 rfl (by omega) (Nat.le_of_ble_eq_true rfl) (Nat.le_refl _) (Nat.le_refl _) (fun v μ2 hR => ?_)
            obtain ⟨rfl, hE⟩ := hR
            exact G.retZ dX12_readTerm_76 rfl (Or.inl rfl) ⟨fun _ => ⟨(4, i), by rw [rd5, pI_f h11, pI_t h19], rfl, hE.z hS.1⟩, fun z => by omega⟩
        · exact absurd h42 h11
      · omega
