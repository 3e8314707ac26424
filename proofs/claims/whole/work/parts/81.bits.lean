/-! how many letters -/
def bcL (k : Int) : Int := k % 2 + k / 2 % 2 + k / 4 % 2 + k / 8 % 2 + k / 16 % 2 + k / 32 % 2
theorem c_bitCount (w : WC) (d : Nat) (μ : Mem) {L : Int} (hL : 0 ≤ L ∧ L < 64) : Con w d mJ6_bitCount_0f7a4 0 0 [vI L] μ (fun v μ2 => v = some (vI (bcL L)) ∧ μ2 = μ) := by
  obtain ⟨k, rfl⟩ : ∃ k : Fin 64, L = ((k.val : Nat) : Int) := ⟨⟨L.toNat, by omega⟩, by show L = (L.toNat : Int); omega⟩
  clear hL
  refine Con.ofF (by decide +kernel) (Nat.le_of_ble_eq_true rfl) rfl ?_
  refine g_iload_n (j := 0) rfl dJ6_bitCount_0f7a4_0 ?_
  refine g_iload_n (j := 0) rfl dJ6_bitCount_0f7a4_1 ?_
  refine g_iconst dJ6_bitCount_0f7a4_2 ?_
  refine g_iushr dJ6_bitCount_0f7a4_3 ?_
  refine g_ldcw dJ6_bitCount_0f7a4_4 kcJ6_265 (z := 1431655765) rfl ?_
  refine g_iand dJ6_bitCount_0f7a4_7 ?_
  refine g_isub dJ6_bitCount_0f7a4_8 ?_
  refine g_istore_n (j := 0) dJ6_bitCount_0f7a4_9 (by decide) rfl ls0 ?_
  refine g_iload_n (j := 0) rfl dJ6_bitCount_0f7a4_10 ?_
  refine g_ldcw dJ6_bitCount_0f7a4_11 kcJ6_266 (z := 858993459) rfl ?_
  refine g_iand dJ6_bitCount_0f7a4_14 ?_
  refine g_iload_n (j := 0) rfl dJ6_bitCount_0f7a4_15 ?_
  refine g_iconst dJ6_bitCount_0f7a4_16 ?_
  refine g_iushr dJ6_bitCount_0f7a4_17 ?_
  refine g_ldcw dJ6_bitCount_0f7a4_18 kcJ6_266 (z := 858993459) rfl ?_
  refine g_iand dJ6_bitCount_0f7a4_21 ?_
  refine g_iadd dJ6_bitCount_0f7a4_22 ?_
  refine g_istore_n (j := 0) dJ6_bitCount_0f7a4_23 (by decide) rfl ls0 ?_
  refine g_iload_n (j := 0) rfl dJ6_bitCount_0f7a4_24 ?_
  refine g_iload_n (j := 0) rfl dJ6_bitCount_0f7a4_25 ?_
  refine g_iconst dJ6_bitCount_0f7a4_26 ?_
  refine g_iushr dJ6_bitCount_0f7a4_27 ?_
  refine g_iadd dJ6_bitCount_0f7a4_28 ?_
  refine g_ldcw dJ6_bitCount_0f7a4_29 kcJ6_267 (z := 252645135) rfl ?_
  refine g_iand dJ6_bitCount_0f7a4_32 ?_
  refine g_istore_n (j := 0) dJ6_bitCount_0f7a4_33 (by decide) rfl ls0 ?_
  refine g_iload_n (j := 0) rfl dJ6_bitCount_0f7a4_34 ?_
  refine g_iload_n (j := 0) rfl dJ6_bitCount_0f7a4_35 ?_
  refine g_bipush dJ6_bitCount_0f7a4_36 (by omega) ?_
  refine g_iushr dJ6_bitCount_0f7a4_38 ?_
  refine g_iadd dJ6_bitCount_0f7a4_39 ?_
  refine g_istore_n (j := 0) dJ6_bitCount_0f7a4_40 (by decide) rfl ls0 ?_
  refine g_iload_n (j := 0) rfl dJ6_bitCount_0f7a4_41 ?_
  refine g_iload_n (j := 0) rfl dJ6_bitCount_0f7a4_42 ?_
  refine g_bipush dJ6_bitCount_0f7a4_43 (by omega) ?_
  refine g_iushr dJ6_bitCount_0f7a4_45 ?_
  refine g_iadd dJ6_bitCount_0f7a4_46 ?_
  refine g_istore_n (j := 0) dJ6_bitCount_0f7a4_47 (by decide) rfl ls0 ?_
  refine g_iload_n (j := 0) rfl dJ6_bitCount_0f7a4_48 ?_
  refine g_bipush dJ6_bitCount_0f7a4_49 (by omega) ?_
  refine g_iand dJ6_bitCount_0f7a4_51 ?_
  refine G.retI dJ6_bitCount_0f7a4_52 rfl ⟨congrArg (fun z => some (vI z)) ?_, rfl⟩
  revert k
  decide +kernel
theorem l_bits {w : WC} {d : Nat} {μ : Mem} {L : Int} : ∀ (f : Nat) (a k : Int), 0 ≤ a → 0 ≤ k → k < 64 → k < 2 ^ f → G w d mX12_bits (fun v μ2 => v = some (vI (a + bcL k)) ∧ μ2 = μ) 0 0 4 [some (vI L), some (vI a), some (vI k)] [] μ := by
  intro f
  induction f with
  | zero =>
    intro a k ha1 h0 h1 h2
    have hk : k = 0 := by
      have : (2 : Int) ^ 0 = 1 := rfl
      omega
    subst hk
    refine g_iload_n (j := 2) rfl dX12_bits_4 ?_
    refine g_if_le (tgt := 21) dX12_bits_5 (by decide) (by omega) (fun h5 => ?_) (fun h5 => ?_)
    · refine g_iload_n (j := 1) rfl dX12_bits_21 ?_
      exact G.retI dX12_bits_22 rfl ⟨by rw [show bcL 0 = 0 from rfl, Int.add_zero], rfl⟩
    · omega
  | succ f ih =>
    intro a k ha1 h0 h1 h2
    have hp : (2 : Int) ^ (f + 1) = 2 ^ f * 2 := Int.pow_succ 2 f
    refine g_iload_n (j := 2) rfl dX12_bits_4 ?_
    refine g_if_le (tgt := 21) dX12_bits_5 (by decide) (by omega) (fun h5 => ?_) (fun h5 => ?_)
    · refine g_iload_n (j := 1) rfl dX12_bits_21 ?_
      have hk : k = 0 := by omega
      subst hk
      exact G.retI dX12_bits_22 rfl ⟨by rw [show bcL 0 = 0 from rfl, Int.add_zero], rfl⟩
    · refine g_iload_n (j := 1) rfl dX12_bits_8 ?_
      refine g_iload_n (j := 2) rfl dX12_bits_9 ?_
      refine g_iconst dX12_bits_10 ?_
      refine g_irem (by omega) (by omega) (by omega) dX12_bits_11 ?_
      refine g_iadd dX12_bits_12 ?_
      refine g_istore_n (j := 1) dX12_bits_13 (by decide) rfl ls1 ?_
      refine g_iload_n (j := 2) rfl dX12_bits_14 ?_
      refine g_iconst dX12_bits_15 ?_
      refine g_idiv (by omega) (by omega) (by omega) dX12_bits_16 ?_
      refine g_istore_n (j := 2) dX12_bits_17 (by decide) rfl ls2 ?_
      refine g_goto (tgt := 4) (by decide) dX12_bits_18 ?_
      rw [Int.tmod_eq_emod_of_nonneg h0, Int.tdiv_eq_ediv_of_nonneg h0]
      have hs : a + bcL k = a + k % 2 + bcL (k / 2) := by
        unfold bcL
        omega
      rw [hs]
      exact ih (a + k % 2) (k / 2) (by omega) (by omega) (by omega) (by omega)
theorem c_bits (w : WC) (d : Nat) (μ : Mem) {L : Int} (hL : 0 ≤ L ∧ L < 64) : Con w d mX12_bits 0 0 [vI L] μ (fun v μ2 => v = some (vI (bcL L)) ∧ μ2 = μ) := by
  refine Con.of (by decide) (Nat.le_of_ble_eq_true rfl) rfl ?_
  refine g_iconst dX12_bits_0 ?_
  refine g_istore_n (j := 1) dX12_bits_1 (by decide) rfl ls1 ?_
  refine g_iload_n (j := 0) rfl dX12_bits_2 ?_
  refine g_istore_n (j := 2) dX12_bits_3 (by decide) rfl ls2 ?_
  have := l_bits (w := w) (d := d) (μ := μ) (L := L) 6 0 L (by omega) hL.1 hL.2 (by have : (2 : Int) ^ 6 = 64 := rfl; omega)
  rw [Int.zero_add] at this
  exact this
