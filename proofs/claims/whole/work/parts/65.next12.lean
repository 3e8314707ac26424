/-! THE MODEL: next, tests of tokens -/
theorem sI_sI_c {μ : Mem} {a : Nat} {j k u v : Int} (h : j ≠ k) : sI (sI μ a k v) a j u = sI (sI μ a j u) a k v := Mem.ext (fun y i => by simp only [mI_sI]; split <;> split <;> simp_all) (fun _ _ => rfl) (fun _ _ => rfl) rfl rfl
section NY
variable {w : WC} {d m : Nat} {n : Int} {B : Int → Int} {R : Option AV → Mem → Prop}
theorem l12_digits {μ : Mem} (hM : MoS w μ m) (hB : TpM μ m n B) {p : Int} (h13 : mI μ m 13 = p) (hp : 0 ≤ p ∧ p < n) (hs : srt (B p) = 1) {c : Int} (kk : R none (sI (sI μ m 14 (en n B p)) m 16 (am n B p))) : ∀ (k : Nat) (e a : Int), (n - e).toNat = k → p ≤ e → e ≤ n → (∀ j, p ≤ j → j < e → srt (B j) = 1) → rn n B 1 e = en n B p → a = amB B (min (e - p) 4).toNat p 0 → 0 ≤ a →
    G w (d + 2) mX12_next R 0 0 193 [some (vP (some m)), some (vI c)] [] (sI (sI μ m 14 e) m 16 a) := by
  have hO := hB.2.1.1
  intro k
  induction k with
  | zero =>
    intro e a hk h0 h1 hj hr ha ha0
    have hf : FrZ m (fun _ => False) Jn μ (sI (sI μ m 14 e) m 16 a) := (FrZ.sI (by unfold Jn; omega)).tr (FrZ.sI (by unfold Jn; omega))
    have hM1 := hf.Mo hM
    have hB1 := TpM.fr hB hf hM (by unfold Jn; omega) (fun z => z)
    have o0 := hM1.o
    have e14 : mI (sI (sI μ m 14 e) m 16 a) m 14 = e := by rw [mI_sI, if_neg (by omega), mI_sI, if_pos ⟨rfl, rfl⟩]
    have hen : e = en n B p := by rw [← hr, rn_stop (by omega)]
    refine g_aload_n (j := 0) rfl dX12_next_193 ?_
    refine g_aload_n (j := 0) rfl dX12_next_194 ?_
    refine g_getI dX12_next_195 flX12_122 rfl (by assumption) (kz := 14) rfl ?_
    rw [e14]
    refine g_callV dX12_next_198 mlX12_125 mvX12_see (ci := 12) ⟨by decide, rfl⟩ (by assumption) (c_see w (d + 1) _ hM1 hB1 (k := e) (by omega)) sv1 rfl (by omega) (Nat.le_of_ble_eq_true rfl) (Nat.le_refl _) (Nat.le_refl _) (fun v μ2 hR => ?_)
    obtain ⟨rfl, hm⟩ := hR
    replace hm := hm.symm
    subst hm
    rw [if_neg (by omega)]
    refine g_i2l (by omega) dX12_next_201 ?_
    refine g_ldc2 dX12_next_202 klX12_149 (z := 48) rfl ?_
    refine g_ldc2 dX12_next_205 klX12_151 (z := 57) rfl ?_
    refine g_callS dX12_next_208 mlX12_105 msX12_isIn (c_X12_isIn w (d + 1) _ (x := -1) (a := 48) (b := 57) (by omega) (by omega) (by omega)) sk3 rfl (by omega) (Nat.le_of_ble_eq_true rfl) (Nat.le_refl _) (Nat.le_refl _) (fun v μ2 hR => ?_)
    obtain ⟨rfl, hm⟩ := hR
    replace hm := hm.symm
    subst hm
    refine g_ifb_eq (tgt := 283) dX12_next_211 (by decide)  (fun h211 => ?_) (fun h211 => ?_)
    · refine G.retV dX12_next_283 rfl ?_
      rw [ha, hen]
      exact kk
    · omega
  | succ k ih =>
    intro e a hk h0 h1 hj hr ha ha0
    have hf : FrZ m (fun _ => False) Jn μ (sI (sI μ m 14 e) m 16 a) := (FrZ.sI (by unfold Jn; omega)).tr (FrZ.sI (by unfold Jn; omega))
    have hM1 := hf.Mo hM
    have hB1 := TpM.fr hB hf hM (by unfold Jn; omega) (fun z => z)
    have o0 := hM1.o
    have e14 : mI (sI (sI μ m 14 e) m 16 a) m 14 = e := by rw [mI_sI, if_neg (by omega), mI_sI, if_pos ⟨rfl, rfl⟩]
    have e13 : mI (sI (sI μ m 14 e) m 16 a) m 13 = p := by rw [mI_sI, if_neg (by omega), mI_sI, if_neg (by omega)]; exact h13
    have e16 : mI (sI (sI μ m 14 e) m 16 a) m 16 = a := by rw [mI_sI, if_pos ⟨rfl, rfl⟩]
    have hb := hB.2.1.2 e (by omega) (by omega)
    have hsrt : srt (B e) = 1 ↔ 48 ≤ B e ∧ B e ≤ 57 := by
      unfold srt
      split
      · omega
      · split <;> omega
    refine g_aload_n (j := 0) rfl dX12_next_193 ?_
    refine g_aload_n (j := 0) rfl dX12_next_194 ?_
    refine g_getI dX12_next_195 flX12_122 rfl (by assumption) (kz := 14) rfl ?_
    rw [e14]
    refine g_callV dX12_next_198 mlX12_125 mvX12_see (ci := 12) ⟨by decide, rfl⟩ (by assumption) (c_see w (d + 1) _ hM1 hB1 (k := e) (by omega)) sv1 rfl (by omega) (Nat.le_of_ble_eq_true rfl) (Nat.le_refl _) (Nat.le_refl _) (fun v μ2 hR => ?_)
    obtain ⟨rfl, hm⟩ := hR
    replace hm := hm.symm
    subst hm
    rw [if_pos (by omega)]
    refine g_i2l (by omega) dX12_next_201 ?_
    refine g_ldc2 dX12_next_202 klX12_149 (z := 48) rfl ?_
    refine g_ldc2 dX12_next_205 klX12_151 (z := 57) rfl ?_
    refine g_callS dX12_next_208 mlX12_105 msX12_isIn (c_X12_isIn w (d + 1) _ (x := B e) (a := 48) (b := 57) (by omega) (by omega) (by omega)) sk3 rfl (by omega) (Nat.le_of_ble_eq_true rfl) (Nat.le_refl _) (Nat.le_refl _) (fun v μ2 hR => ?_)
    obtain ⟨rfl, hm⟩ := hR
    replace hm := hm.symm
    subst hm
    refine g_ifb_eq (tgt := 283) dX12_next_211 (by decide)  (fun h211 => ?_) (fun h211 => ?_)
    · refine G.retV dX12_next_283 rfl ?_
      have hen : e = en n B p := by rw [← hr, rn_stop (by omega)]
      rw [ha, hen]
      exact kk
    · have hs2 := hsrt.mpr (by omega)
      have hr2 : rn n B 1 (e + 1) = en n B p := by rw [← rn_step ⟨by omega, hs2⟩]; exact hr
      have hj3 : ∀ j, p ≤ j → j < e + 1 → srt (B j) = 1 := fun j z1 z2 => by
        by_cases hje : j = e
        · rw [hje]
          exact hs2
        · exact hj j z1 (by omega)
      refine g_aload_n (j := 0) rfl dX12_next_214 ?_
      refine g_getI dX12_next_215 flX12_122 rfl (by assumption) (kz := 14) rfl ?_
      rw [e14]
      refine g_aload_n (j := 0) rfl dX12_next_218 ?_
      refine g_getI dX12_next_219 flX12_129 rfl (by assumption) (kz := 13) rfl ?_
      rw [e13]
      refine g_isub dX12_next_222 ?_
      refine g_iconst dX12_next_223 ?_
      refine g_icmp_ge (tgt := 250) dX12_next_224 (by decide) (by omega) (by omega) (fun h224 => ?_) (fun h224 => ?_)
      · refine g_aload_n (j := 0) rfl dX12_next_250 ?_
        refine g_dup rfl dX12_next_251 ?_
        refine g_getI dX12_next_252 flX12_122 rfl (by assumption) (kz := 14) rfl ?_
        refine g_iconst dX12_next_255 ?_
        refine g_iadd dX12_next_256 ?_
        refine g_putI dX12_next_257 fpX12_122 rfl rfl rfl (by assumption) (kz := 14) rfl ?_
        refine g_goto (tgt := 193) (by decide) dX12_next_260 ?_
        rw [e14, show sI (sI (sI μ m 14 e) m 16 a) m 14 (e + 1) = sI (sI μ m 14 (e + 1)) m 16 a from by rw [sI_sI_c (by omega), sI_sI]]
        refine ih (e + 1) a (by omega) (by omega) (by omega) hj3 hr2 ?_ ha0
        rw [ha, show (min (e + 1 - p) 4).toNat = (min (e - p) 4).toNat by omega]
      · refine g_aload_n (j := 0) rfl dX12_next_227 ?_
        refine g_bipush dX12_next_228 (by omega) ?_
        refine g_aload_n (j := 0) rfl dX12_next_230 ?_
        refine g_getI dX12_next_231 flX12_136 rfl (by assumption) (kz := 16) rfl ?_
        rw [e16]
        refine g_imul dX12_next_234 ?_
        refine g_aload_n (j := 0) rfl dX12_next_235 ?_
        refine g_aload_n (j := 0) rfl dX12_next_236 ?_
        refine g_getI dX12_next_237 flX12_122 rfl (by assumption) (kz := 14) rfl ?_
        rw [e14]
        refine g_callV dX12_next_240 mlX12_125 mvX12_see (ci := 12) ⟨by decide, rfl⟩ (by assumption) (c_see w (d + 1) _ hM1 hB1 (k := e) (by omega)) sv1 rfl (by omega) (Nat.le_of_ble_eq_true rfl) (Nat.le_refl _) (Nat.le_refl _) (fun v μ2 hR => ?_)
        obtain ⟨rfl, hm⟩ := hR
        replace hm := hm.symm
        subst hm
        rw [if_pos (by omega)]
        refine g_iadd dX12_next_243 ?_
        refine g_bipush dX12_next_244 (by omega) ?_
        refine g_isub dX12_next_246 ?_
        refine g_putI dX12_next_247 fpX12_136 rfl rfl rfl (by assumption) (kz := 16) rfl ?_
        refine g_aload_n (j := 0) rfl dX12_next_250 ?_
        refine g_dup rfl dX12_next_251 ?_
        refine g_getIv dX12_next_252 flX12_122 rfl (by simp only [IsO_sI, IsO_sL, IsO_sR, IsO_wI, IsO_wL, IsA_sI, IsA_sL, IsA_sR, IsA_wI, IsA_wL, mR_sI, mR_sL, mR_wI, mR_wL]; assumption) (kz := 14) rfl (by simp [mI_sI, mI_sL, mI_sR, mI_wI, mI_wL, mL_sI, mL_sL, mL_sR, mL_wI, mL_wL, e14]; rfl) ?_
        refine g_iconst dX12_next_255 ?_
        refine g_iadd dX12_next_256 ?_
        refine g_putI dX12_next_257 fpX12_122 rfl rfl rfl (by simp only [IsO_sI, IsO_sL, IsO_sR, IsO_wI, IsO_wL, IsA_sI, IsA_sL, IsA_sR, IsA_wI, IsA_wL, mR_sI, mR_sL, mR_wI, mR_wL]; assumption) (kz := 14) rfl ?_
        refine g_goto (tgt := 193) (by decide) dX12_next_260 ?_
        rw [show sI (sI (sI (sI μ m 14 e) m 16 a) m 16 (10 * a + B e - 48)) m 14 (e + 1) = sI (sI μ m 14 (e + 1)) m 16 (10 * a + B e - 48) from by rw [sI_sI, sI_sI_c (by omega), sI_sI]]
        refine ih (e + 1) _ (by omega) (by omega) (by omega) hj3 hr2 ?_ (by have := nt_of_srt hs2; omega)
        rw [ha, show (min (e + 1 - p) 4).toNat = (min (e - p) 4).toNat + 1 by omega, amB_last, show p + (((min (e - p) 4).toNat : Nat) : Int) = e by omega]
theorem c_next (w : WC) (d : Nat) (μ : Mem) {m : Nat} {n p0 : Int} {B : Int → Int} (hM : MoS w μ m) (hB : TpM μ m n B) (h14 : mI μ m 14 = p0) (hp0 : 0 ≤ p0 ∧ p0 ≤ n) : Con w (d + 2) mX12_next 0 0 [vP (some m)] μ (fun v μ2 => v = none ∧ NxM μ2 m n B (sk n B p0) ∧ RmS m μ μ2) := by
  have hO := hB.2.1.1
  have hsb := sk_bd (n := n) (B := B) hp0.2
  obtain ⟨p, hp⟩ : ∃ p, p = sk n B p0 := ⟨_, rfl⟩
  rw [← hp] at hsb ⊢
  have e0 : sI μ m 14 p0 = μ := by rw [sI_w]; exact wI_eta' fun j => by split <;> simp_all
  refine Con.of (by decide) (Nat.le_of_ble_eq_true rfl) rfl ?_
  have key := l12_skip (d := d) (R := fun v μ2 => v = none ∧ NxM μ2 m n B p ∧ RmS m μ μ2) hM hB (q := p) ?_ (n - p0).toNat p0 rfl hp0.1 hp0.2 hp.symm
  · rw [e0] at key
    exact key
  have hf1 : RmS m μ (sI μ m 14 p) := FrZ.sI (by unfold Jn; omega)
  obtain ⟨hM1, hB1⟩ := s14 hM hB p
  have g14 : mI (sI μ m 14 p) m 14 = p := by rw [mI_sI, if_pos ⟨rfl, rfl⟩]
  generalize sI μ m 14 p = μ1 at *
  have o0 := hM1.o
  refine g_aload_n (j := 0) rfl dX12_next_39 ?_
  refine g_aload_n (j := 0) rfl dX12_next_40 ?_
  refine g_getI dX12_next_41 flX12_122 rfl (by assumption) (kz := 14) rfl ?_
  rw [g14]
  refine g_putI dX12_next_44 fpX12_129 rfl rfl rfl (by assumption) (kz := 13) rfl ?_
  refine g_aload_n (j := 0) rfl dX12_next_47 ?_
  refine g_aload_n (j := 0) rfl dX12_next_48 ?_
  refine g_getIv dX12_next_49 flX12_122 rfl (by simp only [IsO_sI, IsO_sL, IsO_sR, IsO_wI, IsO_wL, IsA_sI, IsA_sL, IsA_sR, IsA_wI, IsA_wL, mR_sI, mR_sL, mR_wI, mR_wL]; assumption) (kz := 14) rfl (by simp [mI_sI, mI_sL, mI_sR, mI_wI, mI_wL, mL_sI, mL_sL, mL_sR, mL_wI, mL_wL, g14]; rfl) ?_
  
  refine g_callV dX12_next_52 mlX12_125 mvX12_see (ci := 12) ⟨by decide, rfl⟩ (by simp only [IsO_sI, IsO_sL, IsO_sR, IsO_wI, IsO_wL, IsA_sI, IsA_sL, IsA_sR, IsA_wI, IsA_wL, mR_sI, mR_sL, mR_wI, mR_wL]; assumption) (c_see w (d + 1) _ (hM1.of_sI) (TpM.fr hB1 (FrZ.sI (P := fun _ => False) (J := Jn) (by unfold Jn; omega)) hM1 (by unfold Jn; omega) (fun z => z)) (k := p) (by omega)) sv1 rfl (by omega) (Nat.le_of_ble_eq_true rfl) (Nat.le_refl _) (Nat.le_refl _) (fun v μ2 hR => ?_)
  obtain ⟨rfl, hm⟩ := hR
  replace hm := hm.symm
  subst hm
  obtain ⟨c, hc⟩ : ∃ c, c = if p < n then B p else -1 := ⟨_, rfl⟩
  rw [← hc]
  have hcb : (p < n ∧ c = B p ∧ 0 ≤ c ∧ c ≤ 255) ∨ (p = n ∧ c = -1) := by
    by_cases hz : p < n
    · rw [if_pos hz] at hc
      have := hB1.2.1.2 p (by omega) hz
      omega
    · rw [if_neg hz] at hc
      omega
  refine g_istore_n (j := 1) dX12_next_55 (by decide) rfl ls1 ?_
  refine g_aload_n (j := 0) rfl dX12_next_56 ?_
  refine g_lconst0 dX12_next_57 ?_
  refine g_putJ dX12_next_58 fpX12_132 rfl rfl rfl (by simp only [IsO_sI, IsO_sL, IsO_sR, IsO_wI, IsO_wL, IsA_sI, IsA_sL, IsA_sR, IsA_wI, IsA_wL, mR_sI, mR_sL, mR_wI, mR_wL]; assumption) (kz := 15) rfl ?_
  refine g_aload_n (j := 0) rfl dX12_next_61 ?_
  refine g_iconst dX12_next_62 ?_
  refine g_putI dX12_next_63 fpX12_136 rfl rfl rfl (by simp only [IsO_sI, IsO_sL, IsO_sR, IsO_wI, IsO_wL, IsA_sI, IsA_sL, IsA_sR, IsA_wI, IsA_wL, mR_sI, mR_sL, mR_wI, mR_wL]; assumption) (kz := 16) rfl ?_
  refine g_aload_n (j := 0) rfl dX12_next_66 ?_
  refine g_iconst dX12_next_67 ?_
  refine g_putI dX12_next_68 fpX12_139 rfl rfl rfl (by simp only [IsO_sI, IsO_sL, IsO_sR, IsO_wI, IsO_wL, IsA_sI, IsA_sL, IsA_sR, IsA_wI, IsA_wL, mR_sI, mR_sL, mR_wI, mR_wL]; assumption) (kz := 17) rfl ?_
  obtain ⟨μ2, hm2⟩ : ∃ μ2, μ2 = sI (sI (sL (sI μ1 m 13 p) m 15 0) m 16 0) m 17 0 := ⟨_, rfl⟩
  rw [← hm2]
  have hf2 : RmS m μ1 μ2 := by
    rw [hm2]
    exact ((FrZ.sI (by unfold Jn; omega)).tr FrZ.sL).tr ((FrZ.sI (by unfold Jn; omega)).tr (FrZ.sI (by unfold Jn; omega)))
  have hM2 := hf2.Mo hM1
  have hB2 := TpM.fr hB1 hf2 hM1 (by unfold Jn; omega) (fun z => z)
  have f13 : mI μ2 m 13 = p := by rw [hm2]; simp [mI_sI, mI_sL]
  have f14 : mI μ2 m 14 = p := by rw [hm2]; simp [mI_sI, mI_sL, g14]
  have f15 : mL μ2 m 15 = 0 := by rw [hm2]; simp [mL_sI, mL_sL]
  have f16 : mI μ2 m 16 = 0 := by rw [hm2]; simp [mI_sI, mI_sL]
  have f17 : mI μ2 m 17 = 0 := by rw [hm2]; simp [mI_sI, mI_sL]
  have hff := hf1.tr hf2
  have o02 := hM2.o
  refine g_iload_n (j := 1) rfl dX12_next_71 ?_
  refine g_iconst dX12_next_72 ?_
  refine g_icmp_ne (tgt := 84) dX12_next_73 (by decide) (by omega) (by omega) (fun h73 => ?_) (fun h73 => ?_)
  · refine g_iload_n (j := 1) rfl dX12_next_84 ?_
    refine g_i2l (by omega) dX12_next_85 ?_
    refine g_ldc2 dX12_next_86 klX12_145 (z := 97) rfl ?_
    refine g_ldc2 dX12_next_89 klX12_147 (z := 122) rfl ?_
    refine g_callS dX12_next_92 mlX12_105 msX12_isIn (c_X12_isIn w (d + 1) _ (x := c) (a := 97) (b := 122) (by omega) (by omega) (by omega)) sk3 rfl (by omega) (Nat.le_of_ble_eq_true rfl) (Nat.le_refl _) (Nat.le_refl _) (fun v μ2 hR => ?_)
    obtain ⟨rfl, hm⟩ := hR
    replace hm := hm.symm
    subst hm
    refine g_ifb_eq (tgt := 174) dX12_next_95 (by decide)  (fun h95 => ?_) (fun h95 => ?_)
    · refine g_iload_n (j := 1) rfl dX12_next_174 ?_
      refine g_i2l (by omega) dX12_next_175 ?_
      refine g_ldc2 dX12_next_176 klX12_149 (z := 48) rfl ?_
      refine g_ldc2 dX12_next_179 klX12_151 (z := 57) rfl ?_
      refine g_callS dX12_next_182 mlX12_105 msX12_isIn (c_X12_isIn w (d + 1) _ (x := c) (a := 48) (b := 57) (by omega) (by omega) (by omega)) sk3 rfl (by omega) (Nat.le_of_ble_eq_true rfl) (Nat.le_refl _) (Nat.le_refl _) (fun v μ2 hR => ?_)
      obtain ⟨rfl, hm⟩ := hR
      replace hm := hm.symm
      subst hm
      refine g_ifb_eq (tgt := 263) dX12_next_185 (by decide)  (fun h185 => ?_) (fun h185 => ?_)
      · refine g_aload_n (j := 0) rfl dX12_next_263 ?_
        refine g_iconst dX12_next_264 ?_
        refine g_putI dX12_next_265 fpX12_142 rfl rfl rfl (by assumption) (kz := 12) rfl ?_
        refine g_aload_n (j := 0) rfl dX12_next_268 ?_
        refine g_iload_n (j := 1) rfl dX12_next_269 ?_
        refine g_putI dX12_next_270 fpX12_139 rfl rfl rfl (by simp only [IsO_sI, IsO_sL, IsO_sR, IsO_wI, IsO_wL, IsA_sI, IsA_sL, IsA_sR, IsA_wI, IsA_wL, mR_sI, mR_sL, mR_wI, mR_wL]; assumption) (kz := 17) rfl ?_
        refine g_aload_n (j := 0) rfl dX12_next_273 ?_
        refine g_dup rfl dX12_next_274 ?_
        refine g_getIv dX12_next_275 flX12_122 rfl (by simp only [IsO_sI, IsO_sL, IsO_sR, IsO_wI, IsO_wL, IsA_sI, IsA_sL, IsA_sR, IsA_wI, IsA_wL, mR_sI, mR_sL, mR_wI, mR_wL]; assumption) (kz := 14) rfl (by simp [mI_sI, mI_sL, mI_sR, mI_wI, mI_wL, mL_sI, mL_sL, mL_sR, mL_wI, mL_wL, g14]; rfl) ?_
        refine g_iconst dX12_next_278 ?_
        refine g_iadd dX12_next_279 ?_
        refine g_putI dX12_next_280 fpX12_122 rfl rfl rfl (by simp only [IsO_sI, IsO_sL, IsO_sR, IsO_wI, IsO_wL, IsA_sI, IsA_sL, IsA_sR, IsA_wI, IsA_wL, mR_sI, mR_sL, mR_wI, mR_wL]; assumption) (kz := 14) rfl ?_
        have hpn : p < n ∧ c = B p := by omega
        have hs : srt (B p) = 3 := by
          unfold srt
          rw [if_neg (by omega), if_neg (by omega)]
        have hen : en n B p = p + 1 := by
          unfold en
          rw [if_pos hpn.1, if_pos hs]
        refine G.retV dX12_next_283 rfl ⟨rfl, ?_, ((hff.tr (FrZ.sI (by unfold Jn; omega))).tr (FrZ.sI (by unfold Jn; omega))).tr (FrZ.sI (by unfold Jn; omega))⟩
        unfold NxM mS2 mW2 mN2 mG2
        rw [if_pos hpn.1, if_neg (by omega), if_neg (by omega), if_neg (by omega), if_neg (by omega), if_pos ⟨hpn.1, hs⟩, hen]
        simp [mI_sI, mL_sI, f13, f14, f15, f16]
        omega
      · refine g_aload_n (j := 0) rfl dX12_next_188 ?_
        refine g_iconst dX12_next_189 ?_
        refine g_putI dX12_next_190 fpX12_142 rfl rfl rfl (by assumption) (kz := 12) rfl ?_
        have hpn : p < n ∧ c = B p := by omega
        have hs : srt (B p) = 1 := by
          unfold srt
          rw [if_pos (by omega)]
        have hen : en n B p = rn n B 1 (p + 1) := by
          unfold en
          rw [if_pos hpn.1, if_neg (by omega), hs]
        have e1 : sI (sI (sI μ2 m 12 2) m 14 p) m 16 0 = sI μ2 m 12 2 := Mem.ext (fun y j => by rw [mI_sI, mI_sI]; split <;> (try split) <;> simp_all [mI_sI]) (fun y j => rfl) (fun _ _ => rfl) rfl rfl
        have key2 := l12_digits (d := d) (R := fun v μ2 => v = none ∧ NxM μ2 m n B p ∧ RmS m μ μ2) (μ := sI μ2 m 12 2) hM2.of_sI (TpM.fr hB2 (FrZ.sI (P := fun _ => False) (J := Jn) (by unfold Jn; omega)) hM2 (by unfold Jn; omega) (fun z => z)) (p := p) (by rw [mI_sI, if_neg (by omega)]; exact f13) ⟨by omega, hpn.1⟩ hs (c := c) ⟨rfl, ?_, ((hff.tr (FrZ.sI (by unfold Jn; omega))).tr (FrZ.sI (by unfold Jn; omega))).tr (FrZ.sI (by unfold Jn; omega))⟩ (n - p).toNat p 0 rfl (by omega) (by omega) (fun j z1 z2 => by omega) (by rw [rn_step ⟨hpn.1, hs⟩, hen]) (by rw [show (min (p - p) 4).toNat = 0 by omega]; rfl) (by omega)
        · rw [e1] at key2
          exact key2
        · unfold NxM mS2 mW2 mN2 mG2
          rw [if_pos hpn.1, if_pos hs, if_neg (by omega), if_pos ⟨hpn.1, hs⟩, if_neg (by omega)]
          simp [mI_sI, mL_sI, f13, f15, f17]
    · refine g_aload_n (j := 0) rfl dX12_next_98 ?_
      refine g_iconst dX12_next_99 ?_
      refine g_putI dX12_next_100 fpX12_142 rfl rfl rfl (by assumption) (kz := 12) rfl ?_
      have hpn : p < n ∧ c = B p := by omega
      have hs : srt (B p) = 2 := by
        unfold srt
        rw [if_neg (by omega), if_pos (by omega)]
      have hen : en n B p = rn n B 2 (p + 1) := by
        unfold en
        rw [if_pos hpn.1, if_neg (by omega), hs]
      have e1 : sL (sI (sI μ2 m 12 1) m 14 p) m 15 0 = sI μ2 m 12 1 := Mem.ext (fun y j => by rw [mI_sL, mI_sI]; split <;> simp_all [mI_sI]) (fun y j => by rw [mL_sL]; split <;> simp_all [mL_sI]) (fun _ _ => rfl) rfl rfl
      have key2 := l12_word (d := d) (R := fun v μ2 => v = none ∧ NxM μ2 m n B p ∧ RmS m μ μ2) (μ := sI μ2 m 12 1) hM2.of_sI (TpM.fr hB2 (FrZ.sI (P := fun _ => False) (J := Jn) (by unfold Jn; omega)) hM2 (by unfold Jn; omega) (fun z => z)) (p := p) (by rw [mI_sI, if_neg (by omega)]; exact f13) ⟨by omega, hpn.1⟩ hs (c := c) ⟨rfl, ?_, ((hff.tr (FrZ.sI (by unfold Jn; omega))).tr (FrZ.sI (by unfold Jn; omega))).tr FrZ.sL⟩ (n - p).toNat p 0 rfl (by omega) (by omega) (fun j z1 z2 => by omega) (fun _ => by omega) (by rw [rn_step ⟨hpn.1, hs⟩, hen]) (by rw [show (min (p - p) 7).toNat = 0 by omega]; rfl) (by omega)
      · rw [e1] at key2
        exact key2
      · unfold NxM mS2 mW2 mN2 mG2
        rw [if_pos hpn.1, if_neg (by omega), if_pos hs, if_pos ⟨hpn.1, hs⟩, if_neg (by omega), if_neg (by omega)]
        simp [mI_sI, mL_sI, mI_sL, mL_sL, f13, f16, f17]
  · refine g_aload_n (j := 0) rfl dX12_next_76 ?_
    refine g_iconst dX12_next_77 ?_
    refine g_putI dX12_next_78 fpX12_142 rfl rfl rfl (by assumption) (kz := 12) rfl ?_
    refine g_goto (tgt := 283) (by decide) dX12_next_81 ?_
    have hpn : ¬ p < n := by omega
    have hk := ks_n (n := n) (B := B) hpn
    refine G.retV dX12_next_283 rfl ⟨rfl, ?_, hff.tr (FrZ.sI (by unfold Jn; omega))⟩
    unfold NxM mS2 mW2 mN2 mG2
    rw [hk.2.2, if_neg hpn, if_neg (fun z => hpn z.1), if_neg (fun z => hpn z.1), if_neg (fun z => hpn z.1)]
    simp [mI_sI, mL_sI, f13, f14, f15, f16, f17]
end NY
