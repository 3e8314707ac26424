/-! THE TAPE, FAULTS, term, look, out -/
def sb (b : Int) : Int := if b < 128 then b else b - 256
theorem sb_bd {b : Int} (h : 0 ≤ b ∧ b < 256) : -128 ≤ sb b ∧ sb b ≤ 127 := by
  unfold sb
  split <;> omega
theorem bv_mod (x : Int32) : x.toInt % 256 = (x.toBitVec.toNat : Int) % 256 := by
  have h : x.toInt = x.toBitVec.toInt := rfl
  rw [h, BitVec.toInt_eq_toNat_cond]
  split <;> omega
theorem by_m {v s : Int} (hv : i32 v) (hs : s = 0 ∨ s = 8 ∨ s = 16 ∨ s = 24) : (iv (iv v >>> (iv s &&& 31)).toInt &&& iv 255).toInt = v / 2 ^ s.toNat % 256 := by
  rw [iv_of]
  have h1 := pk_and (iv v >>> (iv s &&& 31)) (m := iv 255) 8 (by decide)
  rw [h1, nI_toInt (by have := Nat.mod_lt (iv v >>> (iv s &&& 31)).toBitVec.toNat (show 0 < 2 ^ 8 by decide); omega)]
  have h2 := bv_mod (iv v >>> (iv s &&& 31))
  have h3 : (iv v >>> (iv s &&& 31)).toInt = v / 2 ^ s.toNat := by
    rcases hs with rfl | rfl | rfl | rfl
    · rw [pk_shr (iv v) _ 0 (by decide), iv_toInt hv, Int.shiftRight_eq_div_pow]; rfl
    · rw [pk_shr (iv v) _ 8 (by decide), iv_toInt hv, Int.shiftRight_eq_div_pow]; rfl
    · rw [pk_shr (iv v) _ 16 (by decide), iv_toInt hv, Int.shiftRight_eq_div_pow]; rfl
    · rw [pk_shr (iv v) _ 24 (by decide), iv_toInt hv, Int.shiftRight_eq_div_pow]; rfl
  rw [h3] at h2
  rw [h2]
  simp
theorem by_8 (x : Int32) : x.toInt8.toInt32.toInt = sb (x.toInt % 256) := by
  rw [Int8.toInt_toInt32, Int32.toInt_toInt8]
  unfold sb Int.bmod
  simp only []
  split <;> split <;> omega
theorem by_c {v s : Int} (hv : i32 v) (hs : s = 0 ∨ s = 8 ∨ s = 16 ∨ s = 24) : (iv ((iv v).toUInt32 >>> ((iv s).toUInt32 &&& Int32.toUInt32 31)).toInt32.toInt).toInt8.toInt32.toInt = sb (v / 2 ^ s.toNat % 256) := by
  rw [iv_of, by_8, bv_mod]
  have hm := bv_mod (iv v)
  rw [iv_toInt hv] at hm
  have h4 : v = ((iv v).toBitVec.toNat : Int) ∨ v = ((iv v).toBitVec.toNat : Int) - 4294967296 := by
    have h : (iv v).toInt = (iv v).toBitVec.toInt := rfl
    rw [BitVec.toInt_eq_toNat_cond, iv_toInt hv] at h
    split at h <;> omega
  rcases hs with rfl | rfl | rfl | rfl
  · rw [pk_ushr (iv v) _ 0 (by decide)]
    show sb (((((iv v).toBitVec.toNat / 2 ^ 0 : Nat)) : Int) % 256) = sb (v / 2 ^ 0 % 256)
    congr 1
    omega
  · rw [pk_ushr (iv v) _ 8 (by decide)]
    show sb (((((iv v).toBitVec.toNat / 2 ^ 8 : Nat)) : Int) % 256) = sb (v / 2 ^ 8 % 256)
    congr 1
    omega
  · rw [pk_ushr (iv v) _ 16 (by decide)]
    show sb (((((iv v).toBitVec.toNat / 2 ^ 16 : Nat)) : Int) % 256) = sb (v / 2 ^ 16 % 256)
    congr 1
    omega
  · rw [pk_ushr (iv v) _ 24 (by decide)]
    show sb (((((iv v).toBitVec.toNat / 2 ^ 24 : Nat)) : Int) % 256) = sb (v / 2 ^ 24 % 256)
    congr 1
    omega
/-- k bytes of v come behind n -/
def ap (v : Int) : Nat → Int → (Int → Int) → Int → Int
  | 0, _, B => B
  | k + 1, n, B => ap v k (n + 1) (fun j => if j = n then v / 2 ^ (8 * k) % 256 else B j)
def ByOk (n : Int) (B : Int → Int) : Prop := (0 ≤ n ∧ n ≤ 800) ∧ ∀ j, 0 ≤ j → j < n → 0 ≤ B j ∧ B j ≤ 255
theorem ByOk.up {n b : Int} {B : Int → Int} (h : ByOk n B) (hn : n < 800) (hb : 0 ≤ b ∧ b < 256) : ByOk (n + 1) (fun j => if j = n then b else B j) :=
  ⟨by have := h.1; omega, fun j h0 h1 => by
    show 0 ≤ (if j = n then b else B j) ∧ (if j = n then b else B j) ≤ 255
    split
    · omega
    · exact h.2 j h0 (by omega)⟩
/-- the class's tape, the model's -/
def TpC (μ : Mem) (x : Nat) (n : Int) (B : Int → Int) : Prop := mI μ (x + 1) 5 = n ∧ ByOk n B ∧ ∀ j, 0 ≤ j → j < n → mI μ (x + 2) j = sb (B j)
def TpM (μ : Mem) (m : Nat) (n : Int) (B : Int → Int) : Prop := mI μ m 3 = n ∧ ByOk n B ∧ ∀ j, 0 ≤ j → j < n → mI μ (m + 3) j = B j
/-- only these cells of the tape, only its length -/
def FrT (x : Nat) (μ μ2 : Mem) : Prop := Fr (fun a => a = x + 1 ∨ a = x + 2) (fun _ _ => False) μ μ2 ∧ ∀ j, ¬ j = 5 → mI μ2 (x + 1) j = mI μ (x + 1) j
theorem FrT.tr {x : Nat} {μ μ2 μ3 : Mem} (h : FrT x μ μ2) (h2 : FrT x μ2 μ3) : FrT x μ μ3 := ⟨h.1.tr h2.1, fun j hj => (h2.2 j hj).trans (h.2 j hj)⟩
theorem FrT.rf {x : Nat} {μ : Mem} : FrT x μ μ := ⟨Fr.rf, fun _ _ => rfl⟩
theorem FrT.tps {w : WC} {x : Nat} {μ μ2 : Mem} (h : FrT x μ μ2) (hT : TPS w μ x) : TPS w μ2 x := hT.fr h.1 fun _ _ _ z => z.elim
section TP
variable {w : WC} {d : Nat} {x m : Nat}

theorem l_append {v : Int} (hv : i32 v) : ∀ (k : Nat) (μ : Mem) (n : Int) (B : Int → Int), k ≤ 4 → TPS w μ x → TpC μ x n B → n + k ≤ 800 →
    G w d mX10_append (fun r μ2 => r = none ∧ TPS w μ2 x ∧ TpC μ2 x (n + k) (ap v k n B) ∧ FrT x μ μ2) 0 0 3 [some (vP (some (x + 1))), some (vI v), some (vI (8 * (k : Int) - 8))] [] μ := by
  intro k
  induction k with
  | zero =>
    intro μ n B hk hT hB hn
    refine g_iload_n (j := 2) rfl dX10_append_3 ?_
    refine g_if_lt (tgt := 46) dX10_append_4 (by decide) (by omega) (fun h4 => ?_) (fun h4 => ?_)
    · exact G.retV dX10_append_46 rfl ⟨rfl, hT, by simpa [ap] using hB, FrT.rf⟩
    · omega
  | succ k ih =>
    intro μ n B hk hT hB hn
    obtain ⟨e5, hOk, hBy⟩ := id hB
    have hO := hOk.1
    have o1 := hT.o1
    have r1 := hT.r1_0
    have a2 := hT.a2
    refine g_iload_n (j := 2) rfl dX10_append_3 ?_
    refine g_if_lt (tgt := 46) dX10_append_4 (by decide) (by omega) (fun h4 => ?_) (fun h4 => ?_)
    · omega
    · refine g_aload_n (j := 0) rfl dX10_append_7 ?_
      refine g_getI dX10_append_8 flX10_38 rfl (by assumption) (kz := 5) rfl ?_
      refine g_sipush dX10_append_11 (by omega) ?_
      refine g_icmp_ge (tgt := 46) dX10_append_14 (by decide) (by omega) (by omega) (fun h14 => ?_) (fun h14 => ?_)
      · omega
      · refine g_aload_n (j := 0) rfl dX10_append_17 ?_
        refine g_getR dX10_append_18 flX10_9 rfl (by assumption) (kz := 0) rfl (by assumption) ?_
        refine g_aload_n (j := 0) rfl dX10_append_21 ?_
        refine g_getI dX10_append_22 flX10_38 rfl (by assumption) (kz := 5) rfl ?_
        refine g_iload_n (j := 1) rfl dX10_append_25 ?_
        refine g_iload_n (j := 2) rfl dX10_append_26 ?_
        refine g_iushr dX10_append_27 ?_
        refine g_i2b dX10_append_28 ?_
        rw [by_c hv (s := 8 * ((k + 1 : Nat) : Int) - 8) (by omega), show (8 * ((k + 1 : Nat) : Int) - 8).toNat = 8 * k by omega, e5]
        obtain ⟨b, hb⟩ : ∃ b, b = v / 2 ^ (8 * k) % 256 := ⟨_, rfl⟩
        have hb0 : 0 ≤ b ∧ b < 256 := by omega
        have hsb := sb_bd hb0
        rw [← hb]
        refine g_bast dX10_append_29 (by assumption) (by omega) (by omega) (by omega) ?_
        refine g_aload_n (j := 0) rfl dX10_append_30 ?_
        refine g_dup rfl dX10_append_31 ?_
        refine g_getIv dX10_append_32 flX10_38 rfl (by simp only [IsO_sI, IsO_sL, IsO_sR, IsO_wI, IsO_wL, IsA_sI, IsA_sL, IsA_sR, IsA_wI, IsA_wL, mR_sI, mR_sL, mR_wI, mR_wL]; assumption) (kz := 5) rfl (by simp [mI_sI, mI_sL, mI_sR, mI_wI, mI_wL, mL_sI, mL_sL, mL_sR, mL_wI, mL_wL]; rfl) ?_
        refine g_iconst dX10_append_35 ?_
        refine g_iadd dX10_append_36 ?_
        refine g_putI dX10_append_37 fpX10_38 rfl rfl rfl (by simp only [IsO_sI, IsO_sL, IsO_sR, IsO_wI, IsO_wL, IsA_sI, IsA_sL, IsA_sR, IsA_wI, IsA_wL, mR_sI, mR_sL, mR_wI, mR_wL]; assumption) (kz := 5) rfl ?_
        refine g_iinc (i := 2) dX10_append_40 rfl (by decide) rfl ls2 ?_
        refine g_goto (tgt := 3) (by decide) dX10_append_43 ?_
        rw [show (8 * ((k + 1 : Nat) : Int) - 8 + -8) = 8 * (k : Int) - 8 by omega, e5]
        have hf : FrT x μ (sI (sI μ (x + 2) n (sb b)) (x + 1) 5 (n + 1)) := ⟨(Fr.sI (Or.inr rfl)).tr (Fr.sI (Or.inl rfl)), fun j hj => by rw [mI_sI, if_neg (by omega), mI_sI, if_neg (by omega)]⟩
        have hB2 : TpC (sI (sI μ (x + 2) n (sb b)) (x + 1) 5 (n + 1)) x (n + 1) (fun j => if j = n then b else B j) := by
          refine ⟨by rw [mI_sI, if_pos ⟨rfl, rfl⟩], hOk.up (by omega) hb0, fun j z0 z1 => ?_⟩
          rw [mI_sI, if_neg (by omega), mI_sI]
          show _ = sb (if j = n then b else B j)
          by_cases hj : j = n
          · rw [if_pos ⟨rfl, hj⟩, if_pos hj]
          · rw [if_neg (by omega), if_neg hj]
            exact hBy j z0 (by omega)
        refine G.post (fun r μ2 hq => ?_) (ih _ _ _ (by omega) (hf.tps hT) hB2 (by omega))
        rw [ap, ← hb, show n + ((k + 1 : Nat) : Int) = n + 1 + (k : Int) by omega]
        exact ⟨hq.1, hq.2.1, hq.2.2.1, hf.tr hq.2.2.2⟩
theorem c_append (w : WC) (d : Nat) (μ : Mem) {x : Nat} {v n : Int} {B : Int → Int} (hv : i32 v) (hT : TPS w μ x) (hB : TpC μ x n B) (hn : n + 4 ≤ 800) : Con w d mX10_append 0 0 [vP (some (x + 1)), vI v] μ (fun r μ2 => r = none ∧ TPS w μ2 x ∧ TpC μ2 x (n + 4) (ap v 4 n B) ∧ FrT x μ μ2) := by
  refine Con.of (by decide) (Nat.le_of_ble_eq_true rfl) rfl ?_
  refine g_bipush dX10_append_0 (by omega) ?_
  refine g_istore_n (j := 2) dX10_append_2 (by decide) rfl ls2 ?_
  exact l_append hv 4 μ n B (by omega) hT hB (by omega)
theorem l_four {v : Int} (hv : i32 v) : ∀ (k : Nat) (μ : Mem) (n : Int) (B : Int → Int), k ≤ 4 → MoS w μ m → TpM μ m n B → n + k ≤ 800 →
    G w d mX12_four (fun r μ2 => r = none ∧ TpM μ2 m (n + k) (ap v k n B) ∧ FrM m (fun a => a = m + 3) (fun j => j = 3) μ μ2) 0 0 3 [some (vP (some m)), some (vI v), some (vI (8 * (k : Int) - 8))] [] μ := by
  intro k
  induction k with
  | zero =>
    intro μ n B hk hT hB hn
    refine g_iload_n (j := 2) rfl dX12_four_3 ?_
    refine g_if_lt (tgt := 39) dX12_four_4 (by decide) (by omega) (fun h4 => ?_) (fun h4 => ?_)
    · exact G.retV dX12_four_39 rfl ⟨rfl, by simpa [ap] using hB, FrM.rf⟩
    · omega
  | succ k ih =>
    intro μ n B hk hT hB hn
    obtain ⟨e5, hOk, hBy⟩ := id hB
    have hO := hOk.1
    have o1 := hT.o
    have r2 := hT.r2
    have a2 := hT.a2
    refine g_iload_n (j := 2) rfl dX12_four_3 ?_
    refine g_if_lt (tgt := 39) dX12_four_4 (by decide) (by omega) (fun h4 => ?_) (fun h4 => ?_)
    · omega
    · refine g_aload_n (j := 0) rfl dX12_four_7 ?_
      refine g_getR dX12_four_8 flX12_18 rfl (by assumption) (kz := 2) rfl (by assumption) ?_
      refine g_aload_n (j := 0) rfl dX12_four_11 ?_
      refine g_getI dX12_four_12 flX12_115 rfl (by assumption) (kz := 3) rfl ?_
      refine g_iload_n (j := 1) rfl dX12_four_15 ?_
      refine g_iload_n (j := 2) rfl dX12_four_16 ?_
      refine g_ishr dX12_four_17 ?_
      refine g_sipush dX12_four_18 (by omega) ?_
      refine g_iand dX12_four_21 ?_
      rw [by_m hv (s := 8 * ((k + 1 : Nat) : Int) - 8) (by omega), show (8 * ((k + 1 : Nat) : Int) - 8).toNat = 8 * k by omega, e5]
      obtain ⟨b, hb⟩ : ∃ b, b = v / 2 ^ (8 * k) % 256 := ⟨_, rfl⟩
      have hb0 : 0 ≤ b ∧ b < 256 := by omega
      rw [← hb]
      refine g_iast dX12_four_22 (by assumption) (by omega) (by omega) ?_
      refine g_aload_n (j := 0) rfl dX12_four_23 ?_
      refine g_dup rfl dX12_four_24 ?_
      refine g_getIv dX12_four_25 flX12_115 rfl (by simp only [IsO_sI, IsO_sL, IsO_sR, IsO_wI, IsO_wL, IsA_sI, IsA_sL, IsA_sR, IsA_wI, IsA_wL, mR_sI, mR_sL, mR_wI, mR_wL]; assumption) (kz := 3) rfl (by simp [mI_sI, mI_sL, mI_sR, mI_wI, mI_wL, mL_sI, mL_sL, mL_sR, mL_wI, mL_wL]; rfl) ?_
      refine g_iconst dX12_four_28 ?_
      refine g_iadd dX12_four_29 ?_
      refine g_putI dX12_four_30 fpX12_115 rfl rfl rfl (by simp only [IsO_sI, IsO_sL, IsO_sR, IsO_wI, IsO_wL, IsA_sI, IsA_sL, IsA_sR, IsA_wI, IsA_wL, mR_sI, mR_sL, mR_wI, mR_wL]; assumption) (kz := 3) rfl ?_
      refine g_iinc (i := 2) dX12_four_33 rfl (by decide) rfl ls2 ?_
      refine g_goto (tgt := 3) (by decide) dX12_four_36 ?_
      rw [show (8 * ((k + 1 : Nat) : Int) - 8 + -8) = 8 * (k : Int) - 8 by omega, e5]
      have hf : FrM m (fun a => a = m + 3) (fun j => j = 3) μ (sI (sI μ (m + 3) n b) m 3 (n + 1)) := (FrM.sIr (P := fun a => a = m + 3) (J := fun j => j = 3) rfl (by omega)).tr (FrM.sI (J := fun j => j = 3) rfl)
      have hB2 : TpM (sI (sI μ (m + 3) n b) m 3 (n + 1)) m (n + 1) (fun j => if j = n then b else B j) := by
        refine ⟨by rw [mI_sI, if_pos ⟨rfl, rfl⟩], hOk.up (by omega) hb0, fun j z0 z1 => ?_⟩
        rw [mI_sI, if_neg (by omega), mI_sI]
        show _ = if j = n then b else B j
        by_cases hj : j = n
        · rw [if_pos ⟨rfl, hj⟩, if_pos hj]
        · rw [if_neg (by omega), if_neg hj]
          exact hBy j z0 (by omega)
      refine G.post (fun r μ2 hq => ?_) (ih _ _ _ (by omega) (hf.Mo hT) hB2 (by omega))
      rw [ap, ← hb, show n + ((k + 1 : Nat) : Int) = n + 1 + (k : Int) by omega]
      exact ⟨hq.1, hq.2.1, hf.tr hq.2.2⟩
theorem c_four (w : WC) (d : Nat) (μ : Mem) {m : Nat} {v n : Int} {B : Int → Int} (hv : i32 v) (hT : MoS w μ m) (hB : TpM μ m n B) (hn : n + 4 ≤ 800) : Con w d mX12_four 0 0 [vP (some m), vI v] μ (fun r μ2 => r = none ∧ TpM μ2 m (n + 4) (ap v 4 n B) ∧ FrM m (fun a => a = m + 3) (fun j => j = 3) μ μ2) := by
  refine Con.of (by decide) (Nat.le_of_ble_eq_true rfl) rfl ?_
  refine g_bipush dX12_four_0 (by omega) ?_
  refine g_istore_n (j := 2) dX12_four_2 (by decide) rfl ls2 ?_
  exact l_four hv 4 μ n B (by omega) hT hB (by omega)
end TP
def fdB (a b c d e n : Int) (B : Int → Int) : Int → Int := ap e 4 (n + 4 + 4 + 4 + 4) (ap d 4 (n + 4 + 4 + 4) (ap c 4 (n + 4 + 4) (ap b 4 (n + 4) (ap a 4 n B))))
theorem c_X11_feed (w : WC) (d : Nat) (μ : Mem) {x : Nat} {n v1 v2 v3 v4 v5 : Int} {B : Int → Int} (hT : TPS w μ x) (hB : TpC μ x n B) (hv1 : i32 v1) (hv2 : i32 v2) (hv3 : i32 v3) (hv4 : i32 v4) (hv5 : i32 v5) : Con w (d + 1) mX11_feed 0 0 [vP (some x), vI v1, vI v2, vI v3, vI v4, vI v5] μ (fun r μ2 => (n ≤ 780 ∧ r = some (vI (n + 20)) ∧ TPS w μ2 x ∧ TpC μ2 x (n + 20) (fdB v1 v2 v3 v4 v5 n B) ∧ FrT x μ μ2) ∨ (780 < n ∧ r = some (vI (-1)) ∧ μ2 = μ)) := by
  obtain ⟨e5, hOk, hBy⟩ := id hB
  have hO := hOk.1
  have o0 := hT.o0
  have r0 := hT.r0_0
  have o1 := hT.o1
  refine Con.of (by decide) (Nat.le_of_ble_eq_true rfl) rfl ?_
  refine g_aload_n (j := 0) rfl dX11_feed_0 ?_
  refine g_getR dX11_feed_1 flX11_12 rfl (by assumption) (kz := 0) rfl (by assumption) ?_
  refine g_getI dX11_feed_4 flX11_99 rfl (by assumption) (kz := 5) rfl ?_
  refine g_bipush dX11_feed_7 (by omega) ?_
  refine g_iadd dX11_feed_9 ?_
  refine g_sipush dX11_feed_10 (by omega) ?_
  refine g_icmp_le (tgt := 18) dX11_feed_13 (by decide) (by omega) (by omega) (fun h13 => ?_) (fun h13 => ?_)
  · refine g_aload_n (j := 0) rfl dX11_feed_18 ?_
    refine g_getR dX11_feed_19 flX11_12 rfl (by assumption) (kz := 0) rfl (by assumption) ?_
    refine g_iload_n (j := 1) rfl dX11_feed_22 ?_
    refine g_callV dX11_feed_23 mlX11_103 mvX10_append (ci := 10) ⟨by decide, rfl⟩ (by assumption) (c_append w d μ hv1 hT hB (by omega)) sv1 rfl (by omega) (Nat.le_of_ble_eq_true rfl) (Nat.le_refl _) (Nat.le_refl _) (fun v μ1 hR => ?_)
    obtain ⟨rfl, hT1, hB1, hf1⟩ := hR
    have o0_1 := hT1.o0
    have r0_1 := hT1.r0_0
    have o1_1 := hT1.o1
    refine g_aload_n (j := 0) rfl dX11_feed_26 ?_
    refine g_getR dX11_feed_27 flX11_12 rfl (by assumption) (kz := 0) rfl (by assumption) ?_
    refine g_iload_n (j := 2) rfl dX11_feed_30 ?_
    refine g_callV dX11_feed_31 mlX11_103 mvX10_append (ci := 10) ⟨by decide, rfl⟩ (by assumption) (c_append w d μ1 hv2 hT1 hB1 (by omega)) sv1 rfl (by omega) (Nat.le_of_ble_eq_true rfl) (Nat.le_refl _) (Nat.le_refl _) (fun v μ2 hR => ?_)
    obtain ⟨rfl, hT2, hB2, hf2⟩ := hR
    have o0_2 := hT2.o0
    have r0_2 := hT2.r0_0
    have o1_2 := hT2.o1
    refine g_aload_n (j := 0) rfl dX11_feed_34 ?_
    refine g_getR dX11_feed_35 flX11_12 rfl (by assumption) (kz := 0) rfl (by assumption) ?_
    refine g_iload_n (j := 3) rfl dX11_feed_38 ?_
    refine g_callV dX11_feed_39 mlX11_103 mvX10_append (ci := 10) ⟨by decide, rfl⟩ (by assumption) (c_append w d μ2 hv3 hT2 hB2 (by omega)) sv1 rfl (by omega) (Nat.le_of_ble_eq_true rfl) (Nat.le_refl _) (Nat.le_refl _) (fun v μ3 hR => ?_)
    obtain ⟨rfl, hT3, hB3, hf3⟩ := hR
    have o0_3 := hT3.o0
    have r0_3 := hT3.r0_0
    have o1_3 := hT3.o1
    refine g_aload_n (j := 0) rfl dX11_feed_42 ?_
    refine g_getR dX11_feed_43 flX11_12 rfl (by assumption) (kz := 0) rfl (by assumption) ?_
    refine g_iload (i := 4) rfl dX11_feed_46 ?_
    refine g_callV dX11_feed_48 mlX11_103 mvX10_append (ci := 10) ⟨by decide, rfl⟩ (by assumption) (c_append w d μ3 hv4 hT3 hB3 (by omega)) sv1 rfl (by omega) (Nat.le_of_ble_eq_true rfl) (Nat.le_refl _) (Nat.le_refl _) (fun v μ4 hR => ?_)
    obtain ⟨rfl, hT4, hB4, hf4⟩ := hR
    have o0_4 := hT4.o0
    have r0_4 := hT4.r0_0
    have o1_4 := hT4.o1
    refine g_aload_n (j := 0) rfl dX11_feed_51 ?_
    refine g_getR dX11_feed_52 flX11_12 rfl (by assumption) (kz := 0) rfl (by assumption) ?_
    refine g_iload (i := 5) rfl dX11_feed_55 ?_
    refine g_callV dX11_feed_57 mlX11_103 mvX10_append (ci := 10) ⟨by decide, rfl⟩ (by assumption) (c_append w d μ4 hv5 hT4 hB4 (by omega)) sv1 rfl (by omega) (Nat.le_of_ble_eq_true rfl) (Nat.le_refl _) (Nat.le_refl _) (fun v μ5 hR => ?_)
    obtain ⟨rfl, hT5, hB5, hf5⟩ := hR
    have o0_5 := hT5.o0
    have r0_5 := hT5.r0_0
    have o1_5 := hT5.o1
    refine g_aload_n (j := 0) rfl dX11_feed_60 ?_
    refine g_getR dX11_feed_61 flX11_12 rfl (by assumption) (kz := 0) rfl (by assumption) ?_
    refine g_getI dX11_feed_64 flX11_99 rfl (by assumption) (kz := 5) rfl ?_
    rw [hB5.1]
    exact G.retI dX11_feed_67 rfl (Or.inl ⟨by omega, by rw [show n + 20 = n + 4 + 4 + 4 + 4 + 4 by omega], hT5, by rw [show n + 20 = n + 4 + 4 + 4 + 4 + 4 by omega]; exact hB5, hf1.tr (hf2.tr (hf3.tr (hf4.tr hf5)))⟩)
  · refine g_iconst dX11_feed_16 ?_
    exact G.retI dX11_feed_17 rfl (Or.inr ⟨by omega, rfl, rfl⟩)
theorem c_X12_feed (w : WC) (d : Nat) (μ : Mem) {m : Nat} {n v1 v2 v3 v4 v5 : Int} {B : Int → Int} (hT : MoS w μ m) (hB : TpM μ m n B) (hv1 : i32 v1) (hv2 : i32 v2) (hv3 : i32 v3) (hv4 : i32 v4) (hv5 : i32 v5) : Con w (d + 1) mX12_feed 0 0 [vP (some m), vI v1, vI v2, vI v3, vI v4, vI v5] μ (fun r μ2 => (n ≤ 780 ∧ r = some (vI (n + 20)) ∧ TpM μ2 m (n + 20) (fdB v1 v2 v3 v4 v5 n B) ∧ FrM m (fun a => a = m + 3) (fun j => j = 3) μ μ2) ∨ (780 < n ∧ r = some (vI (-1)) ∧ μ2 = μ)) := by
  obtain ⟨e5, hOk, hBy⟩ := id hB
  have hO := hOk.1
  have o0 := hT.o
  refine Con.of (by decide) (Nat.le_of_ble_eq_true rfl) rfl ?_
  refine g_aload_n (j := 0) rfl dX12_feed_0 ?_
  refine g_getI dX12_feed_1 flX12_115 rfl (by assumption) (kz := 3) rfl ?_
  refine g_bipush dX12_feed_4 (by omega) ?_
  refine g_iadd dX12_feed_6 ?_
  refine g_sipush dX12_feed_7 (by omega) ?_
  refine g_icmp_le (tgt := 15) dX12_feed_10 (by decide) (by omega) (by omega) (fun h10 => ?_) (fun h10 => ?_)
  · refine g_aload_n (j := 0) rfl dX12_feed_15 ?_
    refine g_iload_n (j := 1) rfl dX12_feed_16 ?_
    have hTt := hT
    refine g_callV dX12_feed_17 mlX12_118 mvX12_four (ci := 12) ⟨by decide, rfl⟩ (by assumption) (c_four w d μ hv1 hT hB (by omega)) sv1 rfl (by omega) (Nat.le_of_ble_eq_true rfl) (Nat.le_refl _) (Nat.le_refl _) (fun v μ1 hR => ?_)
    obtain ⟨rfl, hB1, hf1⟩ := hR
    have hT1 := hf1.Mo hT
    have o0_1 := hT1.o
    refine g_aload_n (j := 0) rfl dX12_feed_20 ?_
    refine g_iload_n (j := 2) rfl dX12_feed_21 ?_
    refine g_callV dX12_feed_22 mlX12_118 mvX12_four (ci := 12) ⟨by decide, rfl⟩ (by assumption) (c_four w d μ1 hv2 hT1 hB1 (by omega)) sv1 rfl (by omega) (Nat.le_of_ble_eq_true rfl) (Nat.le_refl _) (Nat.le_refl _) (fun v μ2 hR => ?_)
    obtain ⟨rfl, hB2, hf2⟩ := hR
    have hT2 := hf2.Mo hT1
    have o0_2 := hT2.o
    refine g_aload_n (j := 0) rfl dX12_feed_25 ?_
    refine g_iload_n (j := 3) rfl dX12_feed_26 ?_
    refine g_callV dX12_feed_27 mlX12_118 mvX12_four (ci := 12) ⟨by decide, rfl⟩ (by assumption) (c_four w d μ2 hv3 hT2 hB2 (by omega)) sv1 rfl (by omega) (Nat.le_of_ble_eq_true rfl) (Nat.le_refl _) (Nat.le_refl _) (fun v μ3 hR => ?_)
    obtain ⟨rfl, hB3, hf3⟩ := hR
    have hT3 := hf3.Mo hT2
    have o0_3 := hT3.o
    refine g_aload_n (j := 0) rfl dX12_feed_30 ?_
    refine g_iload (i := 4) rfl dX12_feed_31 ?_
    refine g_callV dX12_feed_33 mlX12_118 mvX12_four (ci := 12) ⟨by decide, rfl⟩ (by assumption) (c_four w d μ3 hv4 hT3 hB3 (by omega)) sv1 rfl (by omega) (Nat.le_of_ble_eq_true rfl) (Nat.le_refl _) (Nat.le_refl _) (fun v μ4 hR => ?_)
    obtain ⟨rfl, hB4, hf4⟩ := hR
    have hT4 := hf4.Mo hT3
    have o0_4 := hT4.o
    refine g_aload_n (j := 0) rfl dX12_feed_36 ?_
    refine g_iload (i := 5) rfl dX12_feed_37 ?_
    refine g_callV dX12_feed_39 mlX12_118 mvX12_four (ci := 12) ⟨by decide, rfl⟩ (by assumption) (c_four w d μ4 hv5 hT4 hB4 (by omega)) sv1 rfl (by omega) (Nat.le_of_ble_eq_true rfl) (Nat.le_refl _) (Nat.le_refl _) (fun v μ5 hR => ?_)
    obtain ⟨rfl, hB5, hf5⟩ := hR
    have hT5 := hf5.Mo hT4
    have o0_5 := hT5.o
    refine g_aload_n (j := 0) rfl dX12_feed_42 ?_
    refine g_getI dX12_feed_43 flX12_115 rfl (by assumption) (kz := 3) rfl ?_
    rw [hB5.1]
    exact G.retI dX12_feed_46 rfl (Or.inl ⟨by omega, by rw [show n + 20 = n + 4 + 4 + 4 + 4 + 4 by omega], by rw [show n + 20 = n + 4 + 4 + 4 + 4 + 4 by omega]; exact hB5, hf1.tr (hf2.tr (hf3.tr (hf4.tr hf5)))⟩)
  · refine g_iconst dX12_feed_13 ?_
    exact G.retI dX12_feed_14 rfl (Or.inr ⟨by omega, rfl, rfl⟩)
theorem c_X11_end (w : WC) (d : Nat) (μ : Mem) {x : Nat} {n k : Int} {B : Int → Int} (hT : TPS w μ x) (hB : TpC μ x n B) (hk : i32 k) : Con w d mX11_end 0 0 [vP (some x), vI k] μ (fun r μ2 => r = some (vI (bI (0 ≤ k ∧ k ≤ n))) ∧ ((0 ≤ k ∧ k ≤ n ∧ μ2 = sI μ (x + 1) 5 k) ∨ (¬ (0 ≤ k ∧ k ≤ n) ∧ μ2 = μ))) := by
  obtain ⟨e5, hOk, hBy⟩ := id hB
  have hO := hOk.1
  have o0 := hT.o0
  have r0 := hT.r0_0
  have o1 := hT.o1
  refine Con.of (by decide) (Nat.le_of_ble_eq_true rfl) rfl ?_
  refine g_iload_n (j := 1) rfl dX11_end_0 ?_
  refine g_if_lt (tgt := 15) dX11_end_1 (by decide) (by omega) (fun h1 => ?_) (fun h1 => ?_)
  · refine g_iconst dX11_end_15 ?_
    exact G.retB dX11_end_16 rfl (eq_bI (Or.inr ⟨rfl, by omega⟩)) ⟨rfl, Or.inr ⟨by omega, rfl⟩⟩
  · refine g_iload_n (j := 1) rfl dX11_end_4 ?_
    refine g_aload_n (j := 0) rfl dX11_end_5 ?_
    refine g_getR dX11_end_6 flX11_12 rfl (by assumption) (kz := 0) rfl (by assumption) ?_
    refine g_getI dX11_end_9 flX11_99 rfl (by assumption) (kz := 5) rfl ?_
    refine g_icmp_le (tgt := 17) dX11_end_12 (by decide) (by omega) (by omega) (fun h12 => ?_) (fun h12 => ?_)
    · refine g_aload_n (j := 0) rfl dX11_end_17 ?_
      refine g_getR dX11_end_18 flX11_12 rfl (by assumption) (kz := 0) rfl (by assumption) ?_
      refine g_iload_n (j := 1) rfl dX11_end_21 ?_
      refine g_putI dX11_end_22 fpX11_99 rfl rfl rfl (by assumption) (kz := 5) rfl ?_
      refine g_iconst dX11_end_25 ?_
      exact G.retB dX11_end_26 rfl (eq_bI (Or.inl ⟨rfl, by omega⟩)) ⟨rfl, Or.inl ⟨by omega, by omega, rfl⟩⟩
    · refine g_iconst dX11_end_15 ?_
      exact G.retB dX11_end_16 rfl (eq_bI (Or.inr ⟨rfl, by omega⟩)) ⟨rfl, Or.inr ⟨by omega, rfl⟩⟩
theorem c_X12_end (w : WC) (d : Nat) (μ : Mem) {m : Nat} {n k : Int} {B : Int → Int} (hT : MoS w μ m) (hB : TpM μ m n B) (hk : i32 k) : Con w (d + 1) mX12_end 0 0 [vP (some m), vI k] μ (fun r μ2 => r = some (vI (bI (0 ≤ k ∧ k ≤ n))) ∧ ((0 ≤ k ∧ k ≤ n ∧ μ2 = sI μ m 3 k) ∨ (¬ (0 ≤ k ∧ k ≤ n) ∧ μ2 = μ))) := by
  obtain ⟨e5, hOk, hBy⟩ := id hB
  have hO := hOk.1
  have o0 := hT.o
  refine Con.of (by decide) (Nat.le_of_ble_eq_true rfl) rfl ?_
  refine g_iload_n (j := 1) rfl dX12_end_0 ?_
  refine g_i2l (by omega) dX12_end_1 ?_
  refine g_lconst0 dX12_end_2 ?_
  refine g_aload_n (j := 0) rfl dX12_end_3 ?_
  refine g_getI dX12_end_4 flX12_115 rfl (by assumption) (kz := 3) rfl ?_
  refine g_i2l (by omega) dX12_end_7 ?_
  refine g_callS dX12_end_8 mlX12_105 msX12_isIn (c_X12_isIn w d μ (x := k) (a := 0) (b := mI μ m 3) (by omega) (by omega) (by omega)) sk3 rfl (by omega) (Nat.le_of_ble_eq_true rfl) (Nat.le_refl _) (Nat.le_refl _) (fun v μ2 hR => ?_)
  obtain ⟨rfl, hm⟩ := hR
  replace hm := hm.symm
  subst hm
  refine g_ifb_ne (tgt := 16) dX12_end_11 (by decide)  (fun h11 => ?_) (fun h11 => ?_)
  · refine g_aload_n (j := 0) rfl dX12_end_16 ?_
    refine g_iload_n (j := 1) rfl dX12_end_17 ?_
    refine g_putI dX12_end_18 fpX12_115 rfl rfl rfl (by assumption) (kz := 3) rfl ?_
    refine g_iconst dX12_end_21 ?_
    exact G.retB dX12_end_22 rfl (eq_bI (Or.inl ⟨rfl, by omega⟩)) ⟨rfl, Or.inl ⟨by omega, by omega, rfl⟩⟩
  · refine g_iconst dX12_end_14 ?_
    exact G.retB dX12_end_15 rfl (eq_bI (Or.inr ⟨rfl, by omega⟩)) ⟨rfl, Or.inr ⟨by omega, rfl⟩⟩
theorem TpC.cut {μ : Mem} {x : Nat} {n k : Int} {B : Int → Int} (h : TpC μ x n B) (hk : 0 ≤ k ∧ k ≤ n) : TpC (sI μ (x + 1) 5 k) x k B := ⟨by rw [mI_sI, if_pos ⟨rfl, rfl⟩], ⟨by have := h.2.1.1; omega, fun j z0 z1 => h.2.1.2 j z0 (by omega)⟩, fun j z0 z1 => by rw [mI_sI, if_neg (by omega)]; exact h.2.2 j z0 (by omega)⟩
theorem TpM.cut {μ : Mem} {m : Nat} {n k : Int} {B : Int → Int} (h : TpM μ m n B) (hk : 0 ≤ k ∧ k ≤ n) : TpM (sI μ m 3 k) m k B := ⟨by rw [mI_sI, if_pos ⟨rfl, rfl⟩], ⟨by have := h.2.1.1; omega, fun j z0 z1 => h.2.1.2 j z0 (by omega)⟩, fun j z0 z1 => by rw [mI_sI, if_neg (by omega)]; exact h.2.2 j z0 (by omega)⟩
/-- the fault told -/
def FaC (μ : Mem) (x : Nat) (f : Int → Int) : Prop := mI μ (x + 1) 12 = f 0 ∧ mI μ (x + 1) 13 = f 1 ∧ mI μ (x + 1) 14 = f 2 ∧ mI μ (x + 1) 15 = f 3
def FaM (μ : Mem) (m : Nat) (f : Int → Int) : Prop := mI μ m 4 = f 0 ∧ mI μ m 5 = f 1 ∧ mI μ m 6 = f 2 ∧ mI μ m 7 = f 3
def aFault (f : Int → Int) (k : Int) : Int := if k = 0 then f 0 else if k = 1 then f 1 else if k = 2 then f 2 else if k = 3 then f 3 else -1
theorem c_X11_fault (w : WC) (d : Nat) (μ : Mem) {x : Nat} {k : Int} {f : Int → Int} (hT : TPS w μ x) (hF : FaC μ x f) (hk : i32 k) : Con w d mX11_fault 0 0 [vP (some x), vI k] μ (fun r μ2 => r = some (vI (aFault f k)) ∧ μ2 = μ) := by
  obtain ⟨e0, e1, e2, e3⟩ := hF
  have o0 := hT.o0
  have r0 := hT.r0_0
  have o1 := hT.o1
  unfold aFault
  refine Con.of (by decide) (Nat.le_of_ble_eq_true rfl) rfl ?_
  refine g_iload_n (j := 1) rfl dX11_fault_0 ?_
  refine g_tsw (ts := [32, 40, 48, 56]) (td := 64) dX11_fault_1 (by omega) rfl rfl (by decide) (fun h1 => ?_) ⟨fun h1 => ?_, fun h1 => ?_, fun h1 => ?_, fun h1 => ?_, trivial⟩
  · refine g_iconst dX11_fault_64 ?_
    first | rw [e0] | rw [e1] | rw [e2] | rw [e3] | skip
    exact G.retI dX11_fault_65 rfl ⟨by congr 2; split <;> (try (split <;> (try (split <;> (try (split)))))) <;> first | rfl | omega, rfl⟩
  · refine g_aload_n (j := 0) rfl dX11_fault_32 ?_
    refine g_getR dX11_fault_33 flX11_12 rfl (by assumption) (kz := 0) rfl (by assumption) ?_
    refine g_getI dX11_fault_36 flX11_145 rfl (by assumption) (kz := 12) rfl ?_
    first | rw [e0] | rw [e1] | rw [e2] | rw [e3] | skip
    exact G.retI dX11_fault_39 rfl ⟨by congr 2; split <;> (try (split <;> (try (split <;> (try (split)))))) <;> first | rfl | omega, rfl⟩
  · refine g_aload_n (j := 0) rfl dX11_fault_40 ?_
    refine g_getR dX11_fault_41 flX11_12 rfl (by assumption) (kz := 0) rfl (by assumption) ?_
    refine g_getI dX11_fault_44 flX11_148 rfl (by assumption) (kz := 13) rfl ?_
    first | rw [e0] | rw [e1] | rw [e2] | rw [e3] | skip
    exact G.retI dX11_fault_47 rfl ⟨by congr 2; split <;> (try (split <;> (try (split <;> (try (split)))))) <;> first | rfl | omega, rfl⟩
  · refine g_aload_n (j := 0) rfl dX11_fault_48 ?_
    refine g_getR dX11_fault_49 flX11_12 rfl (by assumption) (kz := 0) rfl (by assumption) ?_
    refine g_getI dX11_fault_52 flX11_151 rfl (by assumption) (kz := 14) rfl ?_
    first | rw [e0] | rw [e1] | rw [e2] | rw [e3] | skip
    exact G.retI dX11_fault_55 rfl ⟨by congr 2; split <;> (try (split <;> (try (split <;> (try (split)))))) <;> first | rfl | omega, rfl⟩
  · refine g_aload_n (j := 0) rfl dX11_fault_56 ?_
    refine g_getR dX11_fault_57 flX11_12 rfl (by assumption) (kz := 0) rfl (by assumption) ?_
    refine g_getI dX11_fault_60 flX11_154 rfl (by assumption) (kz := 15) rfl ?_
    first | rw [e0] | rw [e1] | rw [e2] | rw [e3] | skip
    exact G.retI dX11_fault_63 rfl ⟨by congr 2; split <;> (try (split <;> (try (split <;> (try (split)))))) <;> first | rfl | omega, rfl⟩
theorem c_X12_fault (w : WC) (d : Nat) (μ : Mem) {m : Nat} {k : Int} {f : Int → Int} (hT : MoS w μ m) (hF : FaM μ m f) (hk : i32 k) : Con w d mX12_fault 0 0 [vP (some m), vI k] μ (fun r μ2 => r = some (vI (aFault f k)) ∧ μ2 = μ) := by
  obtain ⟨e0, e1, e2, e3⟩ := hF
  have o0 := hT.o
  unfold aFault
  refine Con.of (by decide) (Nat.le_of_ble_eq_true rfl) rfl ?_
  refine g_iload_n (j := 1) rfl dX12_fault_0 ?_
  refine g_if_ne (tgt := 11) dX12_fault_1 (by decide) (by omega) (fun h1 => ?_) (fun h1 => ?_)
  · refine g_iload_n (j := 1) rfl dX12_fault_11 ?_
    refine g_iconst dX12_fault_12 ?_
    refine g_icmp_ne (tgt := 23) dX12_fault_13 (by decide) (by omega) (by omega) (fun h13 => ?_) (fun h13 => ?_)
    · refine g_iload_n (j := 1) rfl dX12_fault_23 ?_
      refine g_iconst dX12_fault_24 ?_
      refine g_icmp_ne (tgt := 35) dX12_fault_25 (by decide) (by omega) (by omega) (fun h25 => ?_) (fun h25 => ?_)
      · refine g_iload_n (j := 1) rfl dX12_fault_35 ?_
        refine g_iconst dX12_fault_36 ?_
        refine g_icmp_ne (tgt := 47) dX12_fault_37 (by decide) (by omega) (by omega) (fun h37 => ?_) (fun h37 => ?_)
        · refine g_iconst dX12_fault_47 ?_
          first | rw [e0] | rw [e1] | rw [e2] | rw [e3] | skip
          exact G.retI dX12_fault_48 rfl ⟨by congr 2; split <;> (try (split <;> (try (split <;> (try (split)))))) <;> first | rfl | omega, rfl⟩
        · refine g_aload_n (j := 0) rfl dX12_fault_40 ?_
          refine g_getI dX12_fault_41 flX12_28 rfl (by assumption) (kz := 7) rfl ?_
          refine g_goto (tgt := 48) (by decide) dX12_fault_44 ?_
          first | rw [e0] | rw [e1] | rw [e2] | rw [e3] | skip
          exact G.retI dX12_fault_48 rfl ⟨by congr 2; split <;> (try (split <;> (try (split <;> (try (split)))))) <;> first | rfl | omega, rfl⟩
      · refine g_aload_n (j := 0) rfl dX12_fault_28 ?_
        refine g_getI dX12_fault_29 flX12_25 rfl (by assumption) (kz := 6) rfl ?_
        refine g_goto (tgt := 48) (by decide) dX12_fault_32 ?_
        first | rw [e0] | rw [e1] | rw [e2] | rw [e3] | skip
        exact G.retI dX12_fault_48 rfl ⟨by congr 2; split <;> (try (split <;> (try (split <;> (try (split)))))) <;> first | rfl | omega, rfl⟩
    · refine g_aload_n (j := 0) rfl dX12_fault_16 ?_
      refine g_getI dX12_fault_17 flX12_21 rfl (by assumption) (kz := 5) rfl ?_
      refine g_goto (tgt := 48) (by decide) dX12_fault_20 ?_
      first | rw [e0] | rw [e1] | rw [e2] | rw [e3] | skip
      exact G.retI dX12_fault_48 rfl ⟨by congr 2; split <;> (try (split <;> (try (split <;> (try (split)))))) <;> first | rfl | omega, rfl⟩
  · refine g_aload_n (j := 0) rfl dX12_fault_4 ?_
    refine g_getI dX12_fault_5 flX12_193 rfl (by assumption) (kz := 4) rfl ?_
    refine g_goto (tgt := 48) (by decide) dX12_fault_8 ?_
    first | rw [e0] | rw [e1] | rw [e2] | rw [e3] | skip
    exact G.retI dX12_fault_48 rfl ⟨by congr 2; split <;> (try (split <;> (try (split <;> (try (split)))))) <;> first | rfl | omega, rfl⟩
def tAt (ts : List Tm) (i : Int) : Tm := ts.getD i.toNat (1, 0, 0, 0)
def tG (u : Tm) (k : Int) : Int := if k = 0 then tF u else if k = 1 then tK u else if k = 2 then tL u else tH u
noncomputable def aTerm (F : Int → List Tm) (s i k : Int) : Int := cI (HasI F s i ∧ 0 ≤ k ∧ k ≤ 3) (tG (tAt (F s) i) k) (-100000)
theorem tAt_of {ts : List Tm} {i : Int} {u : Tm} (h : ts[i.toNat]? = some u) : tAt ts i = u := by
  unfold tAt
  rw [List.getD_eq_getElem?_getD, h]
  rfl
theorem c_X11_term (w : WC) (d : Nat) (μ : Mem) {x c N : Nat} {F : Int → List Tm} (h : CA w μ x F c N) {s i k : Int} (hs : i32 s) (hi : i32 i) (hk : i32 k) : Con w (d + 2) mX11_term 0 0 [vP (some x), vI s, vI i, vI k] μ (fun v μ2 => v = some (vI (aTerm F s i k)) ∧ μ2 = μ) := by
  have o0 := h.tps.o0
  have r1 := h.tps.r0_1
  have a7 := h.tps.a7
  refine Con.of (by decide) (Nat.le_of_ble_eq_true rfl) rfl ?_
  refine g_aload_n (j := 0) rfl dX11_term_0 ?_
  refine g_iload_n (j := 1) rfl dX11_term_1 ?_
  refine g_iload_n (j := 2) rfl dX11_term_2 ?_
  refine g_callV dX11_term_3 mlX11_157 mvX11_hasTerm (ci := 11) ⟨by decide, rfl⟩ (by assumption) (c_hasTerm w d μ h hs hi) sv2 rfl (by omega) (Nat.le_of_ble_eq_true rfl) (Nat.le_refl _) (Nat.le_refl _) (fun v μ2 hR => ?_)
  obtain ⟨rfl, hm⟩ := hR
  replace hm := hm.symm
  subst hm
  refine g_ifb_ne (tgt := 12) dX11_term_6 (by decide)  (fun h6 => ?_) (fun h6 => ?_)
  · have rf := h.tps.rf h6.1
    obtain ⟨p0, ⟨pr1, pr2, pr3, pr4, pr5, pr6⟩, pa1, pa2, pa3, pa4, pa5, pa6⟩ := h.tps.fs h6.1
    have h5 := h.l5 h6.1
    have h62 := h6.1
    have h63 := h6.2
    obtain ⟨u, hu, hku, g1, g2, g3, g4, -, -⟩ := (h.fm h6.1).at h6.2.1 h6.2.2
    have hta := tAt_of hu
    refine g_aload_n (j := 0) rfl dX11_term_12 ?_
    refine g_getR dX11_term_13 flX11_18 rfl (by assumption) (kz := 1) rfl (by assumption) ?_
    refine g_iload_n (j := 1) rfl dX11_term_16 ?_
    refine g_aald dX11_term_17 (by assumption) (by omega) (by omega) (by omega) (by assumption) ?_
    refine g_astore (i := 4) dX11_term_18 (by decide) rfl ls4 ?_
    refine g_iload_n (j := 3) rfl dX11_term_20 ?_
    refine g_tsw (ts := [52, 60, 68, 76]) (td := 84) dX11_term_21 (by omega) rfl rfl (by decide) (fun h21 => ?_) ⟨fun h21 => ?_, fun h21 => ?_, fun h21 => ?_, fun h21 => ?_, trivial⟩
    · refine g_ldc dX11_term_84 kcX11_161 (z := -100000) rfl ?_
      first
      | exact G.retI dX11_term_86 rfl ⟨by rw [aTerm, cI_f (by omega)], rfl⟩
      | (rw [aTerm, cI_t ⟨h6, by omega⟩, hta, tG, if_pos (by omega), ← g1]; exact G.retI dX11_term_86 rfl ⟨rfl, rfl⟩)
      | (rw [aTerm, cI_t ⟨h6, by omega⟩, hta, tG, if_neg (by omega), if_pos (by omega), ← g2]; exact G.retI dX11_term_86 rfl ⟨rfl, rfl⟩)
      | (rw [aTerm, cI_t ⟨h6, by omega⟩, hta, tG, if_neg (by omega), if_neg (by omega), if_pos (by omega), ← g3]; exact G.retI dX11_term_86 rfl ⟨rfl, rfl⟩)
      | (rw [aTerm, cI_t ⟨h6, by omega⟩, hta, tG, if_neg (by omega), if_neg (by omega), if_neg (by omega), ← g4]; exact G.retI dX11_term_86 rfl ⟨rfl, rfl⟩)
    · refine g_aload (i := 4) rfl dX11_term_52 ?_
      refine g_getR dX11_term_54 flX11_162 rfl (by assumption) (kz := 1) rfl (by assumption) ?_
      refine g_iload_n (j := 2) rfl dX11_term_57 ?_
      refine g_iald dX11_term_58 (by assumption) (by omega) (by omega) ?_
      first
      | exact G.retI dX11_term_59 rfl ⟨by rw [aTerm, cI_f (by omega)], rfl⟩
      | (rw [aTerm, cI_t ⟨h6, by omega⟩, hta, tG, if_pos (by omega), ← g1]; exact G.retI dX11_term_59 rfl ⟨rfl, rfl⟩)
      | (rw [aTerm, cI_t ⟨h6, by omega⟩, hta, tG, if_neg (by omega), if_pos (by omega), ← g2]; exact G.retI dX11_term_59 rfl ⟨rfl, rfl⟩)
      | (rw [aTerm, cI_t ⟨h6, by omega⟩, hta, tG, if_neg (by omega), if_neg (by omega), if_pos (by omega), ← g3]; exact G.retI dX11_term_59 rfl ⟨rfl, rfl⟩)
      | (rw [aTerm, cI_t ⟨h6, by omega⟩, hta, tG, if_neg (by omega), if_neg (by omega), if_neg (by omega), ← g4]; exact G.retI dX11_term_59 rfl ⟨rfl, rfl⟩)
    · refine g_aload (i := 4) rfl dX11_term_60 ?_
      refine g_getR dX11_term_62 flX11_165 rfl (by assumption) (kz := 2) rfl (by assumption) ?_
      refine g_iload_n (j := 2) rfl dX11_term_65 ?_
      refine g_iald dX11_term_66 (by assumption) (by omega) (by omega) ?_
      first
      | exact G.retI dX11_term_67 rfl ⟨by rw [aTerm, cI_f (by omega)], rfl⟩
      | (rw [aTerm, cI_t ⟨h6, by omega⟩, hta, tG, if_pos (by omega), ← g1]; exact G.retI dX11_term_67 rfl ⟨rfl, rfl⟩)
      | (rw [aTerm, cI_t ⟨h6, by omega⟩, hta, tG, if_neg (by omega), if_pos (by omega), ← g2]; exact G.retI dX11_term_67 rfl ⟨rfl, rfl⟩)
      | (rw [aTerm, cI_t ⟨h6, by omega⟩, hta, tG, if_neg (by omega), if_neg (by omega), if_pos (by omega), ← g3]; exact G.retI dX11_term_67 rfl ⟨rfl, rfl⟩)
      | (rw [aTerm, cI_t ⟨h6, by omega⟩, hta, tG, if_neg (by omega), if_neg (by omega), if_neg (by omega), ← g4]; exact G.retI dX11_term_67 rfl ⟨rfl, rfl⟩)
    · refine g_aload (i := 4) rfl dX11_term_68 ?_
      refine g_getR dX11_term_70 flX11_168 rfl (by assumption) (kz := 3) rfl (by assumption) ?_
      refine g_iload_n (j := 2) rfl dX11_term_73 ?_
      refine g_iald dX11_term_74 (by assumption) (by omega) (by omega) ?_
      first
      | exact G.retI dX11_term_75 rfl ⟨by rw [aTerm, cI_f (by omega)], rfl⟩
      | (rw [aTerm, cI_t ⟨h6, by omega⟩, hta, tG, if_pos (by omega), ← g1]; exact G.retI dX11_term_75 rfl ⟨rfl, rfl⟩)
      | (rw [aTerm, cI_t ⟨h6, by omega⟩, hta, tG, if_neg (by omega), if_pos (by omega), ← g2]; exact G.retI dX11_term_75 rfl ⟨rfl, rfl⟩)
      | (rw [aTerm, cI_t ⟨h6, by omega⟩, hta, tG, if_neg (by omega), if_neg (by omega), if_pos (by omega), ← g3]; exact G.retI dX11_term_75 rfl ⟨rfl, rfl⟩)
      | (rw [aTerm, cI_t ⟨h6, by omega⟩, hta, tG, if_neg (by omega), if_neg (by omega), if_neg (by omega), ← g4]; exact G.retI dX11_term_75 rfl ⟨rfl, rfl⟩)
    · refine g_aload (i := 4) rfl dX11_term_76 ?_
      refine g_getR dX11_term_78 flX11_171 rfl (by assumption) (kz := 4) rfl (by assumption) ?_
      refine g_iload_n (j := 2) rfl dX11_term_81 ?_
      refine g_iald dX11_term_82 (by assumption) (by omega) (by omega) ?_
      first
      | exact G.retI dX11_term_83 rfl ⟨by rw [aTerm, cI_f (by omega)], rfl⟩
      | (rw [aTerm, cI_t ⟨h6, by omega⟩, hta, tG, if_pos (by omega), ← g1]; exact G.retI dX11_term_83 rfl ⟨rfl, rfl⟩)
      | (rw [aTerm, cI_t ⟨h6, by omega⟩, hta, tG, if_neg (by omega), if_pos (by omega), ← g2]; exact G.retI dX11_term_83 rfl ⟨rfl, rfl⟩)
      | (rw [aTerm, cI_t ⟨h6, by omega⟩, hta, tG, if_neg (by omega), if_neg (by omega), if_pos (by omega), ← g3]; exact G.retI dX11_term_83 rfl ⟨rfl, rfl⟩)
      | (rw [aTerm, cI_t ⟨h6, by omega⟩, hta, tG, if_neg (by omega), if_neg (by omega), if_neg (by omega), ← g4]; exact G.retI dX11_term_83 rfl ⟨rfl, rfl⟩)
  · refine g_ldc dX11_term_9 kcX11_161 (z := -100000) rfl ?_
    exact G.retI dX11_term_11 rfl ⟨by rw [aTerm, cI_f (fun z => h6 z.1)], rfl⟩
theorem c_X12_term (w : WC) (d : Nat) (μ : Mem) {m : Nat} {F : Int → List Tm} (h : MA w μ m F) {s i k : Int} (hs : i32 s) (hi : i32 i) (hk : i32 k) : Con w (d + 3) mX12_term 0 0 [vP (some m), vI s, vI i, vI k] μ (fun v μ2 => v = some (vI (aTerm F s i k)) ∧ μ2 = μ) := by
  have o0 := h.1.o
  refine Con.of (by decide) (Nat.le_of_ble_eq_true rfl) rfl ?_
  refine g_aload_n (j := 0) rfl dX12_term_0 ?_
  refine g_iload_n (j := 1) rfl dX12_term_1 ?_
  refine g_iload_n (j := 2) rfl dX12_term_2 ?_
  refine g_callV dX12_term_3 mlX12_313 mvX12_isTerm (ci := 12) ⟨by decide, rfl⟩ (by assumption) (c_X12_isTerm w d μ h hs hi) sv2 rfl (by omega) (Nat.le_of_ble_eq_true rfl) (Nat.le_refl _) (Nat.le_refl _) (fun v μ2 hR => ?_)
  obtain ⟨rfl, hm⟩ := hR
  replace hm := hm.symm
  subst hm
  refine g_ifb_eq (tgt := 31) dX12_term_6 (by decide)  (fun h6 => ?_) (fun h6 => ?_)
  · refine g_ldcw dX12_term_31 kcX12_321 (z := -100000) rfl ?_
    first
    | exact G.retI dX12_term_34 rfl ⟨by rw [aTerm, cI_f (fun z => h6 z.1)], rfl⟩
    | exact G.retI dX12_term_34 rfl ⟨by rw [aTerm, cI_f (fun z => h18 z.2)], rfl⟩
    | (refine G.retI dX12_term_34 rfl ⟨?_, rfl⟩
       rw [aTerm, cI_t ⟨h6, h18⟩, hta, tG]
       congr 2
       split
       · rw [show k = 0 by omega]; exact g1
       · split
         · rw [show k = 1 by omega]; exact g2
         · split
           · rw [show k = 2 by omega]; exact g3
           · rw [show k = 3 by omega]; exact g4)
  · refine g_iload_n (j := 3) rfl dX12_term_9 ?_
    refine g_i2l (by omega) dX12_term_10 ?_
    refine g_lconst0 dX12_term_11 ?_
    refine g_ldc2 dX12_term_12 klX12_109 (z := 3) rfl ?_
    refine g_callS dX12_term_15 mlX12_105 msX12_isIn (c_X12_isIn w (d + 2) μ (x := k) (a := 0) (b := 3) (by omega) (by omega) (by omega)) sk3 rfl (by omega) (Nat.le_of_ble_eq_true rfl) (Nat.le_refl _) (Nat.le_refl _) (fun v μ2 hR => ?_)
    obtain ⟨rfl, hm⟩ := hR
    replace hm := hm.symm
    subst hm
    refine g_ifb_eq (tgt := 31) dX12_term_18 (by decide)  (fun h18 => ?_) (fun h18 => ?_)
    · refine g_ldcw dX12_term_31 kcX12_321 (z := -100000) rfl ?_
      first
      | exact G.retI dX12_term_34 rfl ⟨by rw [aTerm, cI_f (fun z => h6 z.1)], rfl⟩
      | exact G.retI dX12_term_34 rfl ⟨by rw [aTerm, cI_f (fun z => h18 z.2)], rfl⟩
      | (refine G.retI dX12_term_34 rfl ⟨?_, rfl⟩
         rw [aTerm, cI_t ⟨h6, h18⟩, hta, tG]
         congr 2
         split
         · rw [show k = 0 by omega]; exact g1
         · split
           · rw [show k = 1 by omega]; exact g2
           · split
             · rw [show k = 2 by omega]; exact g3
             · rw [show k = 3 by omega]; exact g4)
    · have h5 := h.l5 h6.1
      have h62 := h6.1
      have h63 := h6.2
      obtain ⟨u, hu, hku, g1, g2, g3, g4⟩ := (h.2.1 s h6.1).at h6.2.1 h6.2.2
      have hta := tAt_of hu
      refine g_aload_n (j := 0) rfl dX12_term_21 ?_
      refine g_iload_n (j := 1) rfl dX12_term_22 ?_
      refine g_iload_n (j := 2) rfl dX12_term_23 ?_
      refine g_iload_n (j := 3) rfl dX12_term_24 ?_
      refine g_callV dX12_term_25 mlX12_93 mvX12_of (ci := 12) ⟨by decide, rfl⟩ (by assumption) (c_X12_of w (d + 2) μ h.1 (s := s) (i := i) (k := k) (by omega) (by omega) (by omega)) sv3 rfl (by omega) (Nat.le_of_ble_eq_true rfl) (Nat.le_refl _) (Nat.le_refl _) (fun v μ2 hR => ?_)
      obtain ⟨rfl, hm⟩ := hR
      replace hm := hm.symm
      subst hm
      refine g_goto (tgt := 34) (by decide) dX12_term_28 ?_
      first
      | exact G.retI dX12_term_34 rfl ⟨by rw [aTerm, cI_f (fun z => h6 z.1)], rfl⟩
      | exact G.retI dX12_term_34 rfl ⟨by rw [aTerm, cI_f (fun z => h18 z.2)], rfl⟩
      | (refine G.retI dX12_term_34 rfl ⟨?_, rfl⟩
         rw [aTerm, cI_t ⟨h6, h18⟩, hta, tG]
         congr 2
         split
         · rw [show k = 0 by omega]; exact g1
         · split
           · rw [show k = 1 by omega]; exact g2
           · split
             · rw [show k = 2 by omega]; exact g3
             · rw [show k = 3 by omega]; exact g4)
noncomputable def aLook (F : Int → List Tm) (n lt pt k : Int) : Int := cI (0 ≤ k ∧ k ≤ 3) (F k).length (if k = 4 then n else if k = 5 then lt else if k = 6 then pt else -1)
theorem c_X11_look (w : WC) (d : Nat) (μ : Mem) {x c N y : Nat} {F : Int → List Tm} (h : CA w μ x F c N) {n k lt pt : Int} {B : Int → Int} (hB : TpC μ x n B) (r12 : mR μ x 12 = some y) (oy : IsO w μ y 3) (e5 : mI μ y 16 = lt) (e6 : mI μ y 17 = pt) (hk : i32 k) : Con w (d + 1) mX11_look 0 0 [vP (some x), vI k] μ (fun v μ2 => v = some (vI (aLook F n lt pt k)) ∧ μ2 = μ) := by
  have o0 := h.tps.o0
  have r1 := h.tps.r0_1
  have r0 := h.tps.r0_0
  have o1 := h.tps.o1
  have a7 := h.tps.a7
  have e4 := hB.1
  refine Con.of (by decide) (Nat.le_of_ble_eq_true rfl) rfl ?_
  refine g_iload_n (j := 1) rfl dX11_look_0 ?_
  refine g_callS dX11_look_1 mlX11_110 msX11_isSlot (c_X11_isSlot w d μ hk) sk1 rfl (by omega) (Nat.le_of_ble_eq_true rfl) (Nat.le_refl _) (Nat.le_refl _) (fun v μ2 hR => ?_)
  obtain ⟨rfl, hm⟩ := hR
  replace hm := hm.symm
  subst hm
  refine g_ifb_eq (tgt := 17) dX11_look_4 (by decide)  (fun h4 => ?_) (fun h4 => ?_)
  · refine g_iload_n (j := 1) rfl dX11_look_17 ?_
    refine g_tsw (ts := [44, 52, 60]) (td := 68) dX11_look_18 (by omega) rfl rfl (by decide) (fun h18 => ?_) ⟨fun h18 => ?_, fun h18 => ?_, fun h18 => ?_, trivial⟩
    · refine g_iconst dX11_look_68 ?_
      first
      | exact G.retI dX11_look_69 rfl ⟨by rw [aLook, cI_t h4, ← hc], rfl⟩
      | exact G.retI dX11_look_69 rfl ⟨by rw [aLook, cI_f h4, if_pos (by omega), ← e4], rfl⟩
      | exact G.retI dX11_look_69 rfl ⟨by rw [aLook, cI_f h4, if_neg (by omega), if_pos (by omega), ← e5], rfl⟩
      | exact G.retI dX11_look_69 rfl ⟨by rw [aLook, cI_f h4, if_neg (by omega), if_neg (by omega), if_pos (by omega), ← e6], rfl⟩
      | exact G.retI dX11_look_69 rfl ⟨by rw [aLook, cI_f h4, if_neg (by omega), if_neg (by omega), if_neg (by omega)], rfl⟩
    · refine g_aload_n (j := 0) rfl dX11_look_44 ?_
      refine g_getR dX11_look_45 flX11_12 rfl (by assumption) (kz := 0) rfl (by assumption) ?_
      refine g_getI dX11_look_48 flX11_99 rfl (by assumption) (kz := 5) rfl ?_
      first
      | exact G.retI dX11_look_51 rfl ⟨by rw [aLook, cI_t h4, ← hc], rfl⟩
      | exact G.retI dX11_look_51 rfl ⟨by rw [aLook, cI_f h4, if_pos (by omega), ← e4], rfl⟩
      | exact G.retI dX11_look_51 rfl ⟨by rw [aLook, cI_f h4, if_neg (by omega), if_pos (by omega), ← e5], rfl⟩
      | exact G.retI dX11_look_51 rfl ⟨by rw [aLook, cI_f h4, if_neg (by omega), if_neg (by omega), if_pos (by omega), ← e6], rfl⟩
      | exact G.retI dX11_look_51 rfl ⟨by rw [aLook, cI_f h4, if_neg (by omega), if_neg (by omega), if_neg (by omega)], rfl⟩
    · refine g_aload_n (j := 0) rfl dX11_look_52 ?_
      refine g_getR dX11_look_53 flX11_92 rfl (by assumption) (kz := 12) rfl (by assumption) ?_
      refine g_getI dX11_look_56 flX11_296 rfl (by assumption) (kz := 16) rfl ?_
      first
      | exact G.retI dX11_look_59 rfl ⟨by rw [aLook, cI_t h4, ← hc], rfl⟩
      | exact G.retI dX11_look_59 rfl ⟨by rw [aLook, cI_f h4, if_pos (by omega), ← e4], rfl⟩
      | exact G.retI dX11_look_59 rfl ⟨by rw [aLook, cI_f h4, if_neg (by omega), if_pos (by omega), ← e5], rfl⟩
      | exact G.retI dX11_look_59 rfl ⟨by rw [aLook, cI_f h4, if_neg (by omega), if_neg (by omega), if_pos (by omega), ← e6], rfl⟩
      | exact G.retI dX11_look_59 rfl ⟨by rw [aLook, cI_f h4, if_neg (by omega), if_neg (by omega), if_neg (by omega)], rfl⟩
    · refine g_aload_n (j := 0) rfl dX11_look_60 ?_
      refine g_getR dX11_look_61 flX11_92 rfl (by assumption) (kz := 12) rfl (by assumption) ?_
      refine g_getI dX11_look_64 flX11_299 rfl (by assumption) (kz := 17) rfl ?_
      first
      | exact G.retI dX11_look_67 rfl ⟨by rw [aLook, cI_t h4, ← hc], rfl⟩
      | exact G.retI dX11_look_67 rfl ⟨by rw [aLook, cI_f h4, if_pos (by omega), ← e4], rfl⟩
      | exact G.retI dX11_look_67 rfl ⟨by rw [aLook, cI_f h4, if_neg (by omega), if_pos (by omega), ← e5], rfl⟩
      | exact G.retI dX11_look_67 rfl ⟨by rw [aLook, cI_f h4, if_neg (by omega), if_neg (by omega), if_pos (by omega), ← e6], rfl⟩
      | exact G.retI dX11_look_67 rfl ⟨by rw [aLook, cI_f h4, if_neg (by omega), if_neg (by omega), if_neg (by omega)], rfl⟩
  · have rf := h.tps.rf h4
    have of := (h.tps.fs h4).1
    have hc := (h.fm h4).1
    refine g_aload_n (j := 0) rfl dX11_look_7 ?_
    refine g_getR dX11_look_8 flX11_18 rfl (by assumption) (kz := 1) rfl (by assumption) ?_
    refine g_iload_n (j := 1) rfl dX11_look_11 ?_
    refine g_aald dX11_look_12 (by assumption) (by omega) (by omega) (by omega) (by assumption) ?_
    refine g_getI dX11_look_13 flX11_125 rfl (by assumption) (kz := 0) rfl ?_
    first
    | exact G.retI dX11_look_16 rfl ⟨by rw [aLook, cI_t h4, ← hc], rfl⟩
    | exact G.retI dX11_look_16 rfl ⟨by rw [aLook, cI_f h4, if_pos (by omega), ← e4], rfl⟩
    | exact G.retI dX11_look_16 rfl ⟨by rw [aLook, cI_f h4, if_neg (by omega), if_pos (by omega), ← e5], rfl⟩
    | exact G.retI dX11_look_16 rfl ⟨by rw [aLook, cI_f h4, if_neg (by omega), if_neg (by omega), if_pos (by omega), ← e6], rfl⟩
    | exact G.retI dX11_look_16 rfl ⟨by rw [aLook, cI_f h4, if_neg (by omega), if_neg (by omega), if_neg (by omega)], rfl⟩
theorem c_X12_look (w : WC) (d : Nat) (μ : Mem) {m : Nat} {F : Int → List Tm} (h : MA w μ m F) {n k lt pt : Int} {B : Int → Int} (hB : TpM μ m n B) (e5 : mI μ m 39 = lt) (e6 : mI μ m 37 = pt) (hk : i32 k) : Con w (d + 1) mX12_look 0 0 [vP (some m), vI k] μ (fun v μ2 => v = some (vI (aLook F n lt pt k)) ∧ μ2 = μ) := by
  have o0 := h.1.o
  have r0 := h.1.r0
  have a0 := h.1.a0
  have e4 := hB.1
  refine Con.of (by decide) (Nat.le_of_ble_eq_true rfl) rfl ?_
  refine g_iload_n (j := 1) rfl dX12_look_0 ?_
  refine g_i2l (by omega) dX12_look_1 ?_
  refine g_lconst0 dX12_look_2 ?_
  refine g_ldc2 dX12_look_3 klX12_109 (z := 3) rfl ?_
  refine g_callS dX12_look_6 mlX12_105 msX12_isIn (c_X12_isIn w d μ (x := k) (a := 0) (b := 3) (by omega) (by omega) (by omega)) sk3 rfl (by omega) (Nat.le_of_ble_eq_true rfl) (Nat.le_refl _) (Nat.le_refl _) (fun v μ2 hR => ?_)
  obtain ⟨rfl, hm⟩ := hR
  replace hm := hm.symm
  subst hm
  refine g_ifb_eq (tgt := 19) dX12_look_9 (by decide)  (fun h9 => ?_) (fun h9 => ?_)
  · refine g_iload_n (j := 1) rfl dX12_look_19 ?_
    refine g_iconst dX12_look_20 ?_
    refine g_icmp_ne (tgt := 31) dX12_look_21 (by decide) (by omega) (by omega) (fun h21 => ?_) (fun h21 => ?_)
    · refine g_iload_n (j := 1) rfl dX12_look_31 ?_
      refine g_iconst dX12_look_32 ?_
      refine g_icmp_ne (tgt := 43) dX12_look_33 (by decide) (by omega) (by omega) (fun h33 => ?_) (fun h33 => ?_)
      · refine g_iload_n (j := 1) rfl dX12_look_43 ?_
        refine g_bipush dX12_look_44 (by omega) ?_
        refine g_icmp_ne (tgt := 56) dX12_look_46 (by decide) (by omega) (by omega) (fun h46 => ?_) (fun h46 => ?_)
        · refine g_iconst dX12_look_56 ?_
          first
          | exact G.retI dX12_look_57 rfl ⟨by rw [aLook, cI_t h9, ← hc], rfl⟩
          | exact G.retI dX12_look_57 rfl ⟨by rw [aLook, cI_f h9, if_pos (by omega), ← e4], rfl⟩
          | exact G.retI dX12_look_57 rfl ⟨by rw [aLook, cI_f h9, if_neg (by omega), if_pos (by omega), ← e5], rfl⟩
          | exact G.retI dX12_look_57 rfl ⟨by rw [aLook, cI_f h9, if_neg (by omega), if_neg (by omega), if_pos (by omega), ← e6], rfl⟩
          | exact G.retI dX12_look_57 rfl ⟨by rw [aLook, cI_f h9, if_neg (by omega), if_neg (by omega), if_neg (by omega)], rfl⟩
        · refine g_aload_n (j := 0) rfl dX12_look_49 ?_
          refine g_getI dX12_look_50 flX12_370 rfl (by assumption) (kz := 37) rfl ?_
          refine g_goto (tgt := 57) (by decide) dX12_look_53 ?_
          first
          | exact G.retI dX12_look_57 rfl ⟨by rw [aLook, cI_t h9, ← hc], rfl⟩
          | exact G.retI dX12_look_57 rfl ⟨by rw [aLook, cI_f h9, if_pos (by omega), ← e4], rfl⟩
          | exact G.retI dX12_look_57 rfl ⟨by rw [aLook, cI_f h9, if_neg (by omega), if_pos (by omega), ← e5], rfl⟩
          | exact G.retI dX12_look_57 rfl ⟨by rw [aLook, cI_f h9, if_neg (by omega), if_neg (by omega), if_pos (by omega), ← e6], rfl⟩
          | exact G.retI dX12_look_57 rfl ⟨by rw [aLook, cI_f h9, if_neg (by omega), if_neg (by omega), if_neg (by omega)], rfl⟩
      · refine g_aload_n (j := 0) rfl dX12_look_36 ?_
        refine g_getI dX12_look_37 flX12_373 rfl (by assumption) (kz := 39) rfl ?_
        refine g_goto (tgt := 57) (by decide) dX12_look_40 ?_
        first
        | exact G.retI dX12_look_57 rfl ⟨by rw [aLook, cI_t h9, ← hc], rfl⟩
        | exact G.retI dX12_look_57 rfl ⟨by rw [aLook, cI_f h9, if_pos (by omega), ← e4], rfl⟩
        | exact G.retI dX12_look_57 rfl ⟨by rw [aLook, cI_f h9, if_neg (by omega), if_pos (by omega), ← e5], rfl⟩
        | exact G.retI dX12_look_57 rfl ⟨by rw [aLook, cI_f h9, if_neg (by omega), if_neg (by omega), if_pos (by omega), ← e6], rfl⟩
        | exact G.retI dX12_look_57 rfl ⟨by rw [aLook, cI_f h9, if_neg (by omega), if_neg (by omega), if_neg (by omega)], rfl⟩
    · refine g_aload_n (j := 0) rfl dX12_look_24 ?_
      refine g_getI dX12_look_25 flX12_115 rfl (by assumption) (kz := 3) rfl ?_
      refine g_goto (tgt := 57) (by decide) dX12_look_28 ?_
      first
      | exact G.retI dX12_look_57 rfl ⟨by rw [aLook, cI_t h9, ← hc], rfl⟩
      | exact G.retI dX12_look_57 rfl ⟨by rw [aLook, cI_f h9, if_pos (by omega), ← e4], rfl⟩
      | exact G.retI dX12_look_57 rfl ⟨by rw [aLook, cI_f h9, if_neg (by omega), if_pos (by omega), ← e5], rfl⟩
      | exact G.retI dX12_look_57 rfl ⟨by rw [aLook, cI_f h9, if_neg (by omega), if_neg (by omega), if_pos (by omega), ← e6], rfl⟩
      | exact G.retI dX12_look_57 rfl ⟨by rw [aLook, cI_f h9, if_neg (by omega), if_neg (by omega), if_neg (by omega)], rfl⟩
  · have hc := (h.2.1 k h9).1
    refine g_aload_n (j := 0) rfl dX12_look_12 ?_
    refine g_getR dX12_look_13 flX12_9 rfl (by assumption) (kz := 0) rfl (by assumption) ?_
    refine g_iload_n (j := 1) rfl dX12_look_16 ?_
    refine g_iald dX12_look_17 (by assumption) (by omega) (by omega) ?_
    first
    | exact G.retI dX12_look_18 rfl ⟨by rw [aLook, cI_t h9, ← hc], rfl⟩
    | exact G.retI dX12_look_18 rfl ⟨by rw [aLook, cI_f h9, if_pos (by omega), ← e4], rfl⟩
    | exact G.retI dX12_look_18 rfl ⟨by rw [aLook, cI_f h9, if_neg (by omega), if_pos (by omega), ← e5], rfl⟩
    | exact G.retI dX12_look_18 rfl ⟨by rw [aLook, cI_f h9, if_neg (by omega), if_neg (by omega), if_pos (by omega), ← e6], rfl⟩
    | exact G.retI dX12_look_18 rfl ⟨by rw [aLook, cI_f h9, if_neg (by omega), if_neg (by omega), if_neg (by omega)], rfl⟩
/-- what was shown: the class's page, the model's -/
def PgC (μ : Mem) (x : Nat) (n : Int) (P : Int → Int) : Prop := mI μ (x + 68) 1 = n ∧ (0 ≤ n ∧ n ≤ 2400) ∧ ∀ j, 0 ≤ j → j < n → mI μ (x + 69) j = P j
def PgM (μ : Mem) (m : Nat) (n : Int) (P : Int → Int) : Prop := mI μ m 49 = n ∧ (0 ≤ n ∧ n ≤ 2400) ∧ ∀ j, 0 ≤ j → j < n → mI μ (m + 20) j = P j
noncomputable def aOut (n : Int) (P : Int → Int) (i : Int) : Int := cI (0 ≤ i ∧ i < n) (P i) (-1)
theorem c_X11_out (w : WC) (d : Nat) (μ : Mem) {x : Nat} {n i : Int} {P : Int → Int} (hT : TPS w μ x) (hP : PgC μ x n P) (hi : i32 i) : Con w d mX11_out 0 0 [vP (some x), vI i] μ (fun v μ2 => v = some (vI (aOut n P i)) ∧ μ2 = μ) := by
  obtain ⟨e1, hn, hp⟩ := hP
  have o0 := hT.o0
  have r10 := hT.r0_10
  have o68 := hT.o68
  have r68 := hT.r68_0
  have a69 := hT.a69
  refine Con.of (by decide) (Nat.le_of_ble_eq_true rfl) rfl ?_
  refine g_iload_n (j := 1) rfl dX11_out_0 ?_
  refine g_if_lt (tgt := 15) dX11_out_1 (by decide) (by omega) (fun h1 => ?_) (fun h1 => ?_)
  · refine g_iconst dX11_out_15 ?_
    first
    | exact G.retI dX11_out_16 rfl ⟨by rw [aOut, cI_f (by omega)], rfl⟩
    | exact G.retI dX11_out_16 rfl ⟨by rw [aOut, cI_t (by omega), hp i (by omega) (by omega)], rfl⟩
  · refine g_iload_n (j := 1) rfl dX11_out_4 ?_
    refine g_aload_n (j := 0) rfl dX11_out_5 ?_
    refine g_getR dX11_out_6 flX11_81 rfl (by assumption) (kz := 10) rfl (by assumption) ?_
    refine g_getI dX11_out_9 flX11_278 rfl (by assumption) (kz := 1) rfl ?_
    refine g_icmp_lt (tgt := 17) dX11_out_12 (by decide) (by omega) (by omega) (fun h12 => ?_) (fun h12 => ?_)
    · refine g_aload_n (j := 0) rfl dX11_out_17 ?_
      refine g_getR dX11_out_18 flX11_81 rfl (by assumption) (kz := 10) rfl (by assumption) ?_
      refine g_getR dX11_out_21 flX11_292 rfl (by assumption) (kz := 0) rfl (by assumption) ?_
      refine g_iload_n (j := 1) rfl dX11_out_24 ?_
      refine g_bald dX11_out_25 (by assumption) (by omega) (by omega) ?_
      first
      | exact G.retI dX11_out_26 rfl ⟨by rw [aOut, cI_f (by omega)], rfl⟩
      | exact G.retI dX11_out_26 rfl ⟨by rw [aOut, cI_t (by omega), hp i (by omega) (by omega)], rfl⟩
    · refine g_iconst dX11_out_15 ?_
      first
      | exact G.retI dX11_out_16 rfl ⟨by rw [aOut, cI_f (by omega)], rfl⟩
      | exact G.retI dX11_out_16 rfl ⟨by rw [aOut, cI_t (by omega), hp i (by omega) (by omega)], rfl⟩
theorem c_X12_out (w : WC) (d : Nat) (μ : Mem) {m : Nat} {n i : Int} {P : Int → Int} (hT : MoS w μ m) (hP : PgM μ m n P) (hi : i32 i) : Con w (d + 1) mX12_out 0 0 [vP (some m), vI i] μ (fun v μ2 => v = some (vI (aOut n P i)) ∧ μ2 = μ) := by
  obtain ⟨e1, hn, hp⟩ := hP
  have o0 := hT.o
  have r48 := hT.r48
  have a48 := hT.a48
  refine Con.of (by decide) (Nat.le_of_ble_eq_true rfl) rfl ?_
  refine g_iload_n (j := 1) rfl dX12_out_0 ?_
  refine g_i2l (by omega) dX12_out_1 ?_
  refine g_lconst0 dX12_out_2 ?_
  refine g_aload_n (j := 0) rfl dX12_out_3 ?_
  refine g_getI dX12_out_4 flX12_442 rfl (by assumption) (kz := 49) rfl ?_
  refine g_iconst dX12_out_7 ?_
  refine g_isub dX12_out_8 ?_
  refine g_i2l (by omega) dX12_out_9 ?_
  refine g_callS dX12_out_10 mlX12_105 msX12_isIn (c_X12_isIn w d μ (x := i) (a := 0) (b := mI μ m 49 - 1) (by omega) (by omega) (by omega)) sk3 rfl (by omega) (Nat.le_of_ble_eq_true rfl) (Nat.le_refl _) (Nat.le_refl _) (fun v μ2 hR => ?_)
  obtain ⟨rfl, hm⟩ := hR
  replace hm := hm.symm
  subst hm
  refine g_ifb_eq (tgt := 25) dX12_out_13 (by decide)  (fun h13 => ?_) (fun h13 => ?_)
  · refine g_iconst dX12_out_25 ?_
    first
    | exact G.retI dX12_out_26 rfl ⟨by rw [aOut, cI_f (by omega)], rfl⟩
    | exact G.retI dX12_out_26 rfl ⟨by rw [aOut, cI_t (by omega), hp i (by omega) (by omega)], rfl⟩
  · refine g_aload_n (j := 0) rfl dX12_out_16 ?_
    refine g_getR dX12_out_17 flX12_88 rfl (by assumption) (kz := 48) rfl (by assumption) ?_
    refine g_iload_n (j := 1) rfl dX12_out_20 ?_
    refine g_iald dX12_out_21 (by assumption) (by omega) (by omega) ?_
    refine g_goto (tgt := 26) (by decide) dX12_out_22 ?_
    first
    | exact G.retI dX12_out_26 rfl ⟨by rw [aOut, cI_f (by omega)], rfl⟩
    | exact G.retI dX12_out_26 rfl ⟨by rw [aOut, cI_t (by omega), hp i (by omega) (by omega)], rfl⟩
