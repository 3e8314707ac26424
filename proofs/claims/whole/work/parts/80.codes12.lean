/-! IDENTITY: the model's codes -/
def sgO (k : Int) : Int := if k = 0 then 0 else if k = 1 then 1 else if k = 2 then 43 else if k = 3 then 45 else if k = 4 then 42 else 94
def OpM (μ : Mem) (m : Nat) (b : Int) (ops : List Op) : Prop := ∀ (j : Nat) (o : Op), ops[j]? = some o → mI μ (m + 13) (b + (j : Int)) = sgO o.1 ∧ mI μ (m + 12) (b + (j : Int)) = o.2
def P13 (m a : Nat) : Prop := a = m + 12 ∨ a = m + 13
theorem c_puts (w : WC) (d : Nat) (μ : Mem) {m : Nat} (hM : MoS w μ m) {ops : List Op} (e36 : mI μ m 36 = (ops.length : Int)) (hl : ops.length < 900) (hO : OpM μ m 900 ops) {o : Op} {sg v : Int} (hs : sg = sgO o.1) (hv : v = o.2) : Con w d mX12_puts 0 0 [vP (some m), vI sg, vI v] μ (fun r μ2 => r = none ∧ mI μ2 m 36 = ((ops.length + 1 : Nat) : Int) ∧ OpM μ2 m 900 (ops ++ [o]) ∧ FrZ m (P13 m) (fun j => j = 36) μ μ2 ∧ (∀ j, j < 900 → mI μ2 (m + 12) j = mI μ (m + 12) j) ∧ (∀ j, j < 900 → mI μ2 (m + 13) j = mI μ (m + 13) j) ∧ ∀ j, mL μ2 m j = mL μ m j) := by
  have o0 := hM.o
  have r33 := hM.r33
  have r34 := hM.r34
  have a33 := hM.a33
  have a34 := hM.a34
  refine Con.of (by decide) (Nat.le_of_ble_eq_true rfl) rfl ?_
  refine g_aload_n (j := 0) rfl dX12_puts_0 ?_
  refine g_getR dX12_puts_1 flX12_66 rfl (by assumption) (kz := 34) rfl (by assumption) ?_
  refine g_sipush dX12_puts_4 (by omega) ?_
  refine g_aload_n (j := 0) rfl dX12_puts_7 ?_
  refine g_getI dX12_puts_8 flX12_338 rfl (by assumption) (kz := 36) rfl ?_
  refine g_iadd dX12_puts_11 ?_
  refine g_iload_n (j := 1) rfl dX12_puts_12 ?_
  refine g_iast dX12_puts_13 (by assumption) (by omega) (by omega) ?_
  refine g_aload_n (j := 0) rfl dX12_puts_14 ?_
  refine g_getR dX12_puts_15 flX12_63 rfl (by simp only [IsO_sI, IsO_sL, IsO_sR, IsO_wI, IsO_wL, IsA_sI, IsA_sL, IsA_sR, IsA_wI, IsA_wL, mR_sI, mR_sL, mR_wI, mR_wL]; assumption) (kz := 33) rfl (by simp only [IsO_sI, IsO_sL, IsO_sR, IsO_wI, IsO_wL, IsA_sI, IsA_sL, IsA_sR, IsA_wI, IsA_wL, mR_sI, mR_sL, mR_wI, mR_wL]; assumption) ?_
  refine g_sipush dX12_puts_18 (by omega) ?_
  refine g_aload_n (j := 0) rfl dX12_puts_21 ?_
  refine g_getIv dX12_puts_22 flX12_338 rfl (by simp only [IsO_sI, IsO_sL, IsO_sR, IsO_wI, IsO_wL, IsA_sI, IsA_sL, IsA_sR, IsA_wI, IsA_wL, mR_sI, mR_sL, mR_wI, mR_wL]; assumption) (kz := 36) rfl (by simp [mI_sI, mI_sL, mI_sR, mI_wI, mI_wL, mL_sI, mL_sL, mL_sR, mL_wI, mL_wL, e36]; rfl) ?_
  refine g_iadd dX12_puts_25 ?_
  refine g_iload_n (j := 2) rfl dX12_puts_26 ?_
  refine g_iast dX12_puts_27 (by simp only [IsO_sI, IsO_sL, IsO_sR, IsO_wI, IsO_wL, IsA_sI, IsA_sL, IsA_sR, IsA_wI, IsA_wL, mR_sI, mR_sL, mR_wI, mR_wL]; assumption) (by omega) (by omega) ?_
  refine g_aload_n (j := 0) rfl dX12_puts_28 ?_
  refine g_dup rfl dX12_puts_29 ?_
  refine g_getIv dX12_puts_30 flX12_338 rfl (by simp only [IsO_sI, IsO_sL, IsO_sR, IsO_wI, IsO_wL, IsA_sI, IsA_sL, IsA_sR, IsA_wI, IsA_wL, mR_sI, mR_sL, mR_wI, mR_wL]; assumption) (kz := 36) rfl (by simp [mI_sI, mI_sL, mI_sR, mI_wI, mI_wL, mL_sI, mL_sL, mL_sR, mL_wI, mL_wL, e36]; rfl) ?_
  refine g_iconst dX12_puts_33 ?_
  refine g_iadd dX12_puts_34 ?_
  refine g_putI dX12_puts_35 fpX12_338 rfl rfl rfl (by simp only [IsO_sI, IsO_sL, IsO_sR, IsO_wI, IsO_wL, IsA_sI, IsA_sL, IsA_sR, IsA_wI, IsA_wL, mR_sI, mR_sL, mR_wI, mR_wL]; assumption) (kz := 36) rfl ?_
  refine G.retV dX12_puts_38 rfl ⟨rfl, ?_, fun j q hq => ?_, ⟨((Fr.sI (P := fun a => a = m ∨ P13 m a) (Or.inr (Or.inr rfl))).tr (Fr.sI (P := fun a => a = m ∨ P13 m a) (Or.inr (Or.inl rfl)))).tr (Fr.sI (P := fun a => a = m ∨ P13 m a) (Or.inl rfl)), fun j hj => ?_⟩, fun j hj => ?_, fun j hj => ?_, fun _ => rfl⟩
  · rw [mI_sI, if_pos ⟨rfl, rfl⟩]
    rfl
  · rcases Nat.lt_or_ge j ops.length with z | z
    · rw [List.getElem?_append_left z] at hq
      have := hO j q hq
      rw [mI_sI, if_neg (by omega), mI_sI, if_neg (by omega), mI_sI, if_neg (by omega), mI_sI, if_neg (by omega), mI_sI, if_neg (by omega), mI_sI, if_neg (by omega)]
      exact this
    · rw [List.getElem?_append_right z] at hq
      have hj : j = ops.length := by
        rcases Nat.eq_zero_or_pos (j - ops.length) with r | r
        · omega
        · rw [List.getElem?_eq_none (by simp; omega)] at hq
          cases hq
      subst hj
      simp at hq
      subst hq
      constructor
      · rw [mI_sI, if_neg (by omega), mI_sI, if_neg (by omega), mI_sI, if_pos ⟨rfl, by omega⟩]
        exact hs
      · rw [mI_sI, if_neg (by omega), mI_sI, if_pos ⟨rfl, by omega⟩]
        exact hv
  · rw [mI_sI, if_neg (by omega), mI_sI, if_neg (by omega), mI_sI, if_neg (by omega)]
  · rw [mI_sI, if_neg (by omega), mI_sI, if_neg (by omega), mI_sI, if_neg (by omega)]
  · rw [mI_sI, if_neg (by omega), mI_sI, if_neg (by omega), mI_sI, if_neg (by omega)]
