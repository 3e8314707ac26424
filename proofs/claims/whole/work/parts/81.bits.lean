/-! how many letters -/
def bcL (k : Int) : Int := k % 2 + k / 2 % 2 + k / 4 % 2 + k / 8 % 2 + k / 16 % 2 + k / 32 % 2
theorem c_bitCount (w : WC) (d : Nat) (μ : Mem) {L : Int} (hL : 0 ≤ L ∧ L < 64) : Con w d mJ6_bitCount_0f7a4 0 0 [vI L] μ (fun v μ2 => v = some (vI (bcL L)) ∧ μ2 = μ) := by
  obtain ⟨k, rfl⟩ : ∃ k : Fin 64, L = ((k.val : Nat) : Int) := ⟨⟨L.toNat, by omega⟩, by show L = (L.toNat : Int); omega⟩
  clear hL
  refine Con.ofF (by decide +kernel) (Nat.le_of_ble_eq_true rfl) rfl ?_
  refine g_iload_n (j := 0) rfl dJ6_bitCount_0f7a4_0 ?_
  refine g_iload_n (j := 0) rfl dJ6_bitCount_0f7a4_1 ?_
  refine g_iconst dJ6_bitCount_0f7a4_2 ?_
  refine g_iushr dJ6_bitCount_0f7a4_3 ?_
  refine g_ldcw dJ6_bitCount_0f7a4_4 kcJ6_265 (z := 1431655765) rfl ?_
  refine g_iand dJ6_bitCount_0f7a4_7 ?_
  refine g_isub dJ6_bitCount_0f7a4_8 ?_
  refine g_istore_n (j := 0) dJ6_bitCount_0f7a4_9 (by decide) rfl ls0 ?_
  refine g_iload_n (j := 0) rfl dJ6_bitCount_0f7a4_10 ?_
  refine g_ldcw dJ6_bitCount_0f7a4_11 kcJ6_266 (z := 858993459) rfl ?_
  refine g_iand dJ6_bitCount_0f7a4_14 ?_
  refine g_iload_n (j := 0) rfl dJ6_bitCount_0f7a4_15 ?_
  refine g_iconst dJ6_bitCount_0f7a4_16 ?_
  refine g_iushr dJ6_bitCount_0f7a4_17 ?_
  refine g_ldcw dJ6_bitCount_0f7a4_18 kcJ6_266 (z := 858993459) rfl ?_
  refine g_iand dJ6_bitCount_0f7a4_21 ?_
  refine g_iadd dJ6_bitCount_0f7a4_22 ?_
  refine g_istore_n (j := 0) dJ6_bitCount_0f7a4_23 (by decide) rfl ls0 ?_
  refine g_iload_n (j := 0) rfl dJ6_bitCount_0f7a4_24 ?_
  refine g_iload_n (j := 0) rfl dJ6_bitCount_0f7a4_25 ?_
  refine g_iconst dJ6_bitCount_0f7a4_26 ?_
  refine g_iushr dJ6_bitCount_0f7a4_27 ?_
  refine g_iadd dJ6_bitCount_0f7a4_28 ?_
  refine g_ldcw dJ6_bitCount_0f7a4_29 kcJ6_267 (z := 252645135) rfl ?_
  refine g_iand dJ6_bitCount_0f7a4_32 ?_
  refine g_istore_n (j := 0) dJ6_bitCount_0f7a4_33 (by decide) rfl ls0 ?_
  refine g_iload_n (j := 0) rfl dJ6_bitCount_0f7a4_34 ?_
  refine g_iload_n (j := 0) rfl dJ6_bitCount_0f7a4_35 ?_
  refine g_bipush dJ6_bitCount_0f7a4_36 (by omega) ?_
  refine g_iushr dJ6_bitCount_0f7a4_38 ?_
  refine g_iadd dJ6_bitCount_0f7a4_39 ?_
  refine g_istore_n (j := 0) dJ6_bitCount_0f7a4_40 (by decide) rfl ls0 ?_
  refine g_iload_n (j := 0) rfl dJ6_bitCount_0f7a4_41 ?_
  refine g_iload_n (j := 0) rfl dJ6_bitCount_0f7a4_42 ?_
  refine g_bipush dJ6_bitCount_0f7a4_43 (by omega) ?_
  refine g_iushr dJ6_bitCount_0f7a4_45 ?_
  refine g_iadd dJ6_bitCount_0f7a4_46 ?_
  refine g_istore_n (j := 0) dJ6_bitCount_0f7a4_47 (by decide) rfl ls0 ?_
  refine g_iload_n (j := 0) rfl dJ6_bitCount_0f7a4_48 ?_
  refine g_bipush dJ6_bitCount_0f7a4_49 (by omega) ?_
  refine g_iand dJ6_bitCount_0f7a4_51 ?_
  refine G.retI dJ6_bitCount_0f7a4_52 rfl ⟨congrArg (fun z => some (vI z)) ?_, rfl⟩
  revert k
  decide +kernel
