/-! THE REFERENCE: its cells -/
/-- the reference at m, and its twenty rows behind it -/
def MoS (w : WC) (μ : Mem) (m : Nat) : Prop := IsO w μ m 12 ∧ (mR μ m 0 = some (m + 1) ∧ mR μ m 1 = some (m + 2) ∧ mR μ m 2 = some (m + 3) ∧ mR μ m 22 = some (m + 4) ∧ mR μ m 24 = some (m + 5) ∧ mR μ m 25 = some (m + 6) ∧ mR μ m 26 = some (m + 7) ∧ mR μ m 27 = some (m + 8) ∧ mR μ m 28 = some (m + 9) ∧ mR μ m 30 = some (m + 10) ∧ mR μ m 31 = some (m + 11) ∧ mR μ m 33 = some (m + 12) ∧ mR μ m 34 = some (m + 13) ∧ mR μ m 35 = some (m + 14) ∧ mR μ m 42 = some (m + 15) ∧ mR μ m 43 = some (m + 16) ∧ mR μ m 45 = some (m + 17) ∧ mR μ m 46 = some (m + 18) ∧ mR μ m 47 = some (m + 19) ∧ mR μ m 48 = some (m + 20)) ∧ (IsA w μ (m + 1) 14 5 ∧ IsA w μ (m + 2) 14 100 ∧ IsA w μ (m + 3) 14 800 ∧ IsA w μ (m + 4) 15 180006 ∧ IsA w μ (m + 5) 15 6001 ∧ IsA w μ (m + 6) 14 5 ∧ IsA w μ (m + 7) 14 5 ∧ IsA w μ (m + 8) 14 600 ∧ IsA w μ (m + 9) 15 120 ∧ IsA w μ (m + 10) 14 5 ∧ IsA w μ (m + 11) 14 60 ∧ IsA w μ (m + 12) 14 1800 ∧ IsA w μ (m + 13) 14 1800 ∧ IsA w μ (m + 14) 14 4 ∧ IsA w μ (m + 15) 14 6 ∧ IsA w μ (m + 16) 15 130 ∧ IsA w μ (m + 17) 14 7 ∧ IsA w μ (m + 18) 15 360 ∧ IsA w μ (m + 19) 16 6001 ∧ IsA w μ (m + 20) 14 3000)
theorem MoS.o {w : WC} {μ : Mem} {m : Nat} (h : MoS w μ m) : IsO w μ m 12 := h.1
theorem MoS.r0 {w : WC} {μ : Mem} {m : Nat} (h : MoS w μ m) : mR μ m 0 = some (m + 1) := h.2.1.1
theorem MoS.a0 {w : WC} {μ : Mem} {m : Nat} (h : MoS w μ m) : IsA w μ (m + 1) 14 5 := h.2.2.1
theorem MoS.r1 {w : WC} {μ : Mem} {m : Nat} (h : MoS w μ m) : mR μ m 1 = some (m + 2) := h.2.1.2.1
theorem MoS.a1 {w : WC} {μ : Mem} {m : Nat} (h : MoS w μ m) : IsA w μ (m + 2) 14 100 := h.2.2.2.1
theorem MoS.r2 {w : WC} {μ : Mem} {m : Nat} (h : MoS w μ m) : mR μ m 2 = some (m + 3) := h.2.1.2.2.1
theorem MoS.a2 {w : WC} {μ : Mem} {m : Nat} (h : MoS w μ m) : IsA w μ (m + 3) 14 800 := h.2.2.2.2.1
theorem MoS.r22 {w : WC} {μ : Mem} {m : Nat} (h : MoS w μ m) : mR μ m 22 = some (m + 4) := h.2.1.2.2.2.1
theorem MoS.a22 {w : WC} {μ : Mem} {m : Nat} (h : MoS w μ m) : IsA w μ (m + 4) 15 180006 := h.2.2.2.2.2.1
theorem MoS.r24 {w : WC} {μ : Mem} {m : Nat} (h : MoS w μ m) : mR μ m 24 = some (m + 5) := h.2.1.2.2.2.2.1
theorem MoS.a24 {w : WC} {μ : Mem} {m : Nat} (h : MoS w μ m) : IsA w μ (m + 5) 15 6001 := h.2.2.2.2.2.2.1
theorem MoS.r25 {w : WC} {μ : Mem} {m : Nat} (h : MoS w μ m) : mR μ m 25 = some (m + 6) := h.2.1.2.2.2.2.2.1
theorem MoS.a25 {w : WC} {μ : Mem} {m : Nat} (h : MoS w μ m) : IsA w μ (m + 6) 14 5 := h.2.2.2.2.2.2.2.1
theorem MoS.r26 {w : WC} {μ : Mem} {m : Nat} (h : MoS w μ m) : mR μ m 26 = some (m + 7) := h.2.1.2.2.2.2.2.2.1
theorem MoS.a26 {w : WC} {μ : Mem} {m : Nat} (h : MoS w μ m) : IsA w μ (m + 7) 14 5 := h.2.2.2.2.2.2.2.2.1
theorem MoS.r27 {w : WC} {μ : Mem} {m : Nat} (h : MoS w μ m) : mR μ m 27 = some (m + 8) := h.2.1.2.2.2.2.2.2.2.1
theorem MoS.a27 {w : WC} {μ : Mem} {m : Nat} (h : MoS w μ m) : IsA w μ (m + 8) 14 600 := h.2.2.2.2.2.2.2.2.2.1
theorem MoS.r28 {w : WC} {μ : Mem} {m : Nat} (h : MoS w μ m) : mR μ m 28 = some (m + 9) := h.2.1.2.2.2.2.2.2.2.2.1
theorem MoS.a28 {w : WC} {μ : Mem} {m : Nat} (h : MoS w μ m) : IsA w μ (m + 9) 15 120 := h.2.2.2.2.2.2.2.2.2.2.1
theorem MoS.r30 {w : WC} {μ : Mem} {m : Nat} (h : MoS w μ m) : mR μ m 30 = some (m + 10) := h.2.1.2.2.2.2.2.2.2.2.2.1
theorem MoS.a30 {w : WC} {μ : Mem} {m : Nat} (h : MoS w μ m) : IsA w μ (m + 10) 14 5 := h.2.2.2.2.2.2.2.2.2.2.2.1
theorem MoS.r31 {w : WC} {μ : Mem} {m : Nat} (h : MoS w μ m) : mR μ m 31 = some (m + 11) := h.2.1.2.2.2.2.2.2.2.2.2.2.1
theorem MoS.a31 {w : WC} {μ : Mem} {m : Nat} (h : MoS w μ m) : IsA w μ (m + 11) 14 60 := h.2.2.2.2.2.2.2.2.2.2.2.2.1
theorem MoS.r33 {w : WC} {μ : Mem} {m : Nat} (h : MoS w μ m) : mR μ m 33 = some (m + 12) := h.2.1.2.2.2.2.2.2.2.2.2.2.2.1
theorem MoS.a33 {w : WC} {μ : Mem} {m : Nat} (h : MoS w μ m) : IsA w μ (m + 12) 14 1800 := h.2.2.2.2.2.2.2.2.2.2.2.2.2.1
theorem MoS.r34 {w : WC} {μ : Mem} {m : Nat} (h : MoS w μ m) : mR μ m 34 = some (m + 13) := h.2.1.2.2.2.2.2.2.2.2.2.2.2.2.1
theorem MoS.a34 {w : WC} {μ : Mem} {m : Nat} (h : MoS w μ m) : IsA w μ (m + 13) 14 1800 := h.2.2.2.2.2.2.2.2.2.2.2.2.2.2.1
theorem MoS.r35 {w : WC} {μ : Mem} {m : Nat} (h : MoS w μ m) : mR μ m 35 = some (m + 14) := h.2.1.2.2.2.2.2.2.2.2.2.2.2.2.2.1
theorem MoS.a35 {w : WC} {μ : Mem} {m : Nat} (h : MoS w μ m) : IsA w μ (m + 14) 14 4 := h.2.2.2.2.2.2.2.2.2.2.2.2.2.2.2.1
theorem MoS.r42 {w : WC} {μ : Mem} {m : Nat} (h : MoS w μ m) : mR μ m 42 = some (m + 15) := h.2.1.2.2.2.2.2.2.2.2.2.2.2.2.2.2.1
theorem MoS.a42 {w : WC} {μ : Mem} {m : Nat} (h : MoS w μ m) : IsA w μ (m + 15) 14 6 := h.2.2.2.2.2.2.2.2.2.2.2.2.2.2.2.2.1
theorem MoS.r43 {w : WC} {μ : Mem} {m : Nat} (h : MoS w μ m) : mR μ m 43 = some (m + 16) := h.2.1.2.2.2.2.2.2.2.2.2.2.2.2.2.2.2.1
theorem MoS.a43 {w : WC} {μ : Mem} {m : Nat} (h : MoS w μ m) : IsA w μ (m + 16) 15 130 := h.2.2.2.2.2.2.2.2.2.2.2.2.2.2.2.2.2.1
theorem MoS.r45 {w : WC} {μ : Mem} {m : Nat} (h : MoS w μ m) : mR μ m 45 = some (m + 17) := h.2.1.2.2.2.2.2.2.2.2.2.2.2.2.2.2.2.2.1
theorem MoS.a45 {w : WC} {μ : Mem} {m : Nat} (h : MoS w μ m) : IsA w μ (m + 17) 14 7 := h.2.2.2.2.2.2.2.2.2.2.2.2.2.2.2.2.2.2.1
theorem MoS.r46 {w : WC} {μ : Mem} {m : Nat} (h : MoS w μ m) : mR μ m 46 = some (m + 18) := h.2.1.2.2.2.2.2.2.2.2.2.2.2.2.2.2.2.2.2.1
theorem MoS.a46 {w : WC} {μ : Mem} {m : Nat} (h : MoS w μ m) : IsA w μ (m + 18) 15 360 := h.2.2.2.2.2.2.2.2.2.2.2.2.2.2.2.2.2.2.2.1
theorem MoS.r47 {w : WC} {μ : Mem} {m : Nat} (h : MoS w μ m) : mR μ m 47 = some (m + 19) := h.2.1.2.2.2.2.2.2.2.2.2.2.2.2.2.2.2.2.2.2.1
theorem MoS.a47 {w : WC} {μ : Mem} {m : Nat} (h : MoS w μ m) : IsA w μ (m + 19) 16 6001 := h.2.2.2.2.2.2.2.2.2.2.2.2.2.2.2.2.2.2.2.2.1
theorem MoS.r48 {w : WC} {μ : Mem} {m : Nat} (h : MoS w μ m) : mR μ m 48 = some (m + 20) := h.2.1.2.2.2.2.2.2.2.2.2.2.2.2.2.2.2.2.2.2.2
theorem MoS.a48 {w : WC} {μ : Mem} {m : Nat} (h : MoS w μ m) : IsA w μ (m + 20) 14 3000 := h.2.2.2.2.2.2.2.2.2.2.2.2.2.2.2.2.2.2.2.2.2
theorem MoS.of_sI {w : WC} {μ : Mem} {m a : Nat} {k v : Int} (h : MoS w μ m) : MoS w (sI μ a k v) m := h
theorem MoS.of_sL {w : WC} {μ : Mem} {m a : Nat} {k v : Int} (h : MoS w μ m) : MoS w (sL μ a k v) m := h
theorem MoS.of_wI {w : WC} {μ : Mem} {m a : Nat} {g : Int → Int} (h : MoS w μ m) : MoS w (wI μ a g) m := h
theorem MoS.of_wL {w : WC} {μ : Mem} {m a : Nat} {g : Int → Int} (h : MoS w μ m) : MoS w (wL μ a g) m := h
theorem c_X12_of (w : WC) (d : Nat) (μ : Mem) {m : Nat} (hM : MoS w μ m) {s i k : Int} (hs : 0 ≤ s ∧ s ≤ 4) (hi : 0 ≤ i ∧ i ≤ 4) (hk : 0 ≤ k ∧ k ≤ 3) : Con w d mX12_of 0 0 [vP (some m), vI s, vI i, vI k] μ (fun v μ2 => v = some (vI (mI μ (m + 2) (4 * (5 * s + i) + k))) ∧ μ2 = μ) := by
  have o0 := hM.o
  have r1 := hM.r1
  have a1 := hM.a1
  refine Con.of (by decide) (Nat.le_of_ble_eq_true rfl) rfl ?_
  refine g_aload_n (j := 0) rfl dX12_of_0 ?_
  refine g_getR dX12_of_1 flX12_15 rfl (by assumption) (kz := 1) rfl (by assumption) ?_
  refine g_iconst dX12_of_4 ?_
  refine g_iconst dX12_of_5 ?_
  refine g_iload_n (j := 1) rfl dX12_of_6 ?_
  refine g_imul dX12_of_7 ?_
  refine g_iload_n (j := 2) rfl dX12_of_8 ?_
  refine g_iadd dX12_of_9 ?_
  refine g_imul dX12_of_10 ?_
  refine g_iload_n (j := 3) rfl dX12_of_11 ?_
  refine g_iadd dX12_of_12 ?_
  refine g_iald dX12_of_13 (by assumption) (by omega) (by omega) ?_
  exact G.retI dX12_of_14 rfl ⟨rfl, rfl⟩
theorem c_X12_plain (w : WC) (d : Nat) (μ : Mem) {k x : Int} (hk : i32 k) (hx : -1000000 ≤ x ∧ x ≤ 1000000) : Con w d mX12_plain 0 0 [vI k, vJ x] μ (fun v μ2 => v = some (vJ (pw k x)) ∧ μ2 = μ) := by
  have hb1 := tri_nn x
  have hb2 := tri_le (x := x) (B := 1000001) (by omega) (by omega)
  refine Con.of (by decide) (Nat.le_of_ble_eq_true rfl) rfl ?_
  refine g_iload_n (j := 0) rfl dX12_plain_0 ?_
  refine g_if_ne (tgt := 8) dX12_plain_1 (by decide) (by omega) (fun h1 => ?_) (fun h1 => ?_)
  · refine g_iload_n (j := 0) rfl dX12_plain_8 ?_
    refine g_iconst dX12_plain_9 ?_
    refine g_icmp_ne (tgt := 19) dX12_plain_10 (by decide) (by omega) (by omega) (fun h10 => ?_) (fun h10 => ?_)
    · refine g_iload_n (j := 0) rfl dX12_plain_19 ?_
      refine g_iconst dX12_plain_20 ?_
      refine g_icmp_ne (tgt := 32) dX12_plain_21 (by decide) (by omega) (by omega) (fun h21 => ?_) (fun h21 => ?_)
      · refine g_iload_n (j := 0) rfl dX12_plain_32 ?_
        refine g_iconst dX12_plain_33 ?_
        refine g_icmp_ne (tgt := 47) dX12_plain_34 (by decide) (by omega) (by omega) (fun h34 => ?_) (fun h34 => ?_)
        · refine g_lload_n (j := 1) rfl dX12_plain_47 ?_
          refine g_lload_n (j := 1) rfl dX12_plain_48 ?_
          refine g_lconst1 dX12_plain_49 ?_
          refine g_ladd dX12_plain_50 ?_
          refine g_lmul dX12_plain_51 ?_
          refine g_ldc2 dX12_plain_52 klX12_91 (z := 2) rfl ?_
          refine g_ldiv (by omega) (by omega) (by omega) dX12_plain_55 ?_
          refine G.retJ dX12_plain_56 rfl ⟨?_, rfl⟩
          rw [Int.tdiv_eq_ediv_of_nonneg hb1]
          unfold pw
          rw [if_neg h1, if_neg h10, if_neg h21, if_neg h34]
        · refine g_lload_n (j := 1) rfl dX12_plain_37 ?_
          refine g_lload_n (j := 1) rfl dX12_plain_38 ?_
          refine g_lmul dX12_plain_39 ?_
          refine g_lload_n (j := 1) rfl dX12_plain_40 ?_
          refine g_lmul dX12_plain_41 ?_
          refine g_lload_n (j := 1) rfl dX12_plain_42 ?_
          refine g_lmul dX12_plain_43 ?_
          refine g_goto (tgt := 56) (by decide) dX12_plain_44 ?_
          exact G.retJ dX12_plain_56 rfl ⟨by rw [h34, pw_3], rfl⟩
      · refine g_lload_n (j := 1) rfl dX12_plain_24 ?_
        refine g_lload_n (j := 1) rfl dX12_plain_25 ?_
        refine g_lmul dX12_plain_26 ?_
        refine g_lload_n (j := 1) rfl dX12_plain_27 ?_
        refine g_lmul dX12_plain_28 ?_
        refine g_goto (tgt := 56) (by decide) dX12_plain_29 ?_
        exact G.retJ dX12_plain_56 rfl ⟨by rw [h21, pw_2], rfl⟩
    · refine g_lload_n (j := 1) rfl dX12_plain_13 ?_
      refine g_lload_n (j := 1) rfl dX12_plain_14 ?_
      refine g_lmul dX12_plain_15 ?_
      refine g_goto (tgt := 56) (by decide) dX12_plain_16 ?_
      exact G.retJ dX12_plain_56 rfl ⟨by rw [h10, pw_1], rfl⟩
  · refine g_lload_n (j := 1) rfl dX12_plain_4 ?_
    refine g_goto (tgt := 56) (by decide) dX12_plain_5 ?_
    exact G.retJ dX12_plain_56 rfl ⟨by rw [h1, pw_0], rfl⟩
theorem c_X12_valueOf (w : WC) (d : Nat) (μ : Mem) {m : Nat} (hM : MoS w μ m) {s i x k f : Int} (hs : 0 ≤ s ∧ s ≤ 4) (hi : 0 ≤ i ∧ i ≤ 4) (ef : mI μ (m + 2) (4 * (5 * s + i) + 0) = f) (ek : mI μ (m + 2) (4 * (5 * s + i) + 1) = k) (hf : i32 f) (hk : i32 k) (hx : -1000000 ≤ x ∧ x ≤ 1000000) : Con w (d + 1) mX12_valueOf 0 0 [vP (some m), vI s, vI i, vJ x] μ (fun v μ2 => v = some (vJ (pv k f x)) ∧ μ2 = μ) := by
  have o0 := hM.o
  refine Con.of (by decide) (Nat.le_of_ble_eq_true rfl) rfl ?_
  refine g_aload_n (j := 0) rfl dX12_valueOf_0 ?_
  refine g_iload_n (j := 1) rfl dX12_valueOf_1 ?_
  refine g_iload_n (j := 2) rfl dX12_valueOf_2 ?_
  refine g_iconst dX12_valueOf_3 ?_
  refine g_callV dX12_valueOf_4 mlX12_93 mvX12_of (ci := 12) ⟨by decide, rfl⟩ (by assumption) (c_X12_of w d μ hM hs hi (k := 0) (by omega)) sv3 rfl (by omega) (Nat.le_of_ble_eq_true rfl) (Nat.le_refl _) (Nat.le_refl _) (fun v μ2 hR => ?_)
  obtain ⟨rfl, hm⟩ := hR
  replace hm := hm.symm
  subst hm
  rw [ef]
  refine g_i2l (by omega) dX12_valueOf_7 ?_
  refine g_aload_n (j := 0) rfl dX12_valueOf_8 ?_
  refine g_iload_n (j := 1) rfl dX12_valueOf_9 ?_
  refine g_iload_n (j := 2) rfl dX12_valueOf_10 ?_
  refine g_iconst dX12_valueOf_11 ?_
  refine g_callV dX12_valueOf_12 mlX12_93 mvX12_of (ci := 12) ⟨by decide, rfl⟩ (by assumption) (c_X12_of w d μ hM hs hi (k := 1) (by omega)) sv3 rfl (by omega) (Nat.le_of_ble_eq_true rfl) (Nat.le_refl _) (Nat.le_refl _) (fun v μ2 hR => ?_)
  obtain ⟨rfl, hm⟩ := hR
  replace hm := hm.symm
  subst hm
  rw [ek]
  refine g_lload_n (j := 3) rfl dX12_valueOf_15 ?_
  refine g_callS dX12_valueOf_16 mlX12_97 msX12_plain (c_X12_plain w d μ hk hx) sk2 rfl (by omega) (Nat.le_of_ble_eq_true rfl) (Nat.le_refl _) (Nat.le_refl _) (fun v μ2 hR => ?_)
  obtain ⟨rfl, hm⟩ := hR
  replace hm := hm.symm
  subst hm
  refine g_lmul dX12_valueOf_19 ?_
  exact G.retJ dX12_valueOf_20 rfl ⟨rfl, rfl⟩
/-- a layer's number at s -/
def atL (L : Int → Int) (l s : Int) : Int := if 0 ≤ s ∧ s ≤ 30000 then L (30001 * l + s) else 0
theorem c_X12_at (w : WC) (d : Nat) (μ : Mem) {m : Nat} (hM : MoS w μ m) {l s : Int} (hl : 0 ≤ l ∧ l ≤ 5) (hs : i64 s) : Con w (d + 1) mX12_at 0 0 [vP (some m), vI l, vJ s] μ (fun v μ2 => v = some (vJ (atL (mL μ (m + 4)) l s)) ∧ μ2 = μ) := by
  have o0 := hM.o
  have r22 := hM.r22
  have a22 := hM.a22
  refine Con.of (by decide) (Nat.le_of_ble_eq_true rfl) rfl ?_
  refine g_lload_n (j := 2) rfl dX12_at_0 ?_
  refine g_lconst0 dX12_at_1 ?_
  refine g_ldc2 dX12_at_2 klX12_265 (z := 30000) rfl ?_
  refine g_callS dX12_at_5 mlX12_105 msX12_isIn (c_X12_isIn w d μ (x := s) (a := 0) (b := 30000) hs (by omega) (by omega)) sk3 rfl (by omega) (Nat.le_of_ble_eq_true rfl) (Nat.le_refl _) (Nat.le_refl _) (fun v μ2 hR => ?_)
  obtain ⟨rfl, hm⟩ := hR
  replace hm := hm.symm
  subst hm
  refine g_ifb_eq (tgt := 27) dX12_at_8 (by decide)  (fun h8 => ?_) (fun h8 => ?_)
  · refine g_lconst0 dX12_at_27 ?_
    exact G.retJ dX12_at_28 rfl ⟨by rw [atL, if_neg (by omega)], rfl⟩
  · refine g_aload_n (j := 0) rfl dX12_at_11 ?_
    refine g_getR dX12_at_12 flX12_35 rfl (by assumption) (kz := 22) rfl (by assumption) ?_
    refine g_sipush dX12_at_15 (by omega) ?_
    refine g_iload_n (j := 1) rfl dX12_at_18 ?_
    refine g_imul dX12_at_19 ?_
    refine g_lload_n (j := 2) rfl dX12_at_20 ?_
    refine g_l2i dX12_at_21 ?_
    refine g_iadd dX12_at_22 ?_
    refine g_lald dX12_at_23 (by assumption) (by omega) (by omega) ?_
    refine g_goto (tgt := 28) (by decide) dX12_at_24 ?_
    exact G.retJ dX12_at_28 rfl ⟨by rw [atL, if_pos (by omega)], rfl⟩
theorem c_X12_waysOf (w : WC) (d : Nat) (μ : Mem) {m : Nat} (hM : MoS w μ m) {n : Int} (hn : -1000000 ≤ n ∧ n ≤ 1000000) : Con w (d + 2) mX12_waysOf 0 0 [vP (some m), vI n] μ (fun v μ2 => v = some (vJ (atL (mL μ (m + 4)) 0 (n + 15000))) ∧ μ2 = μ) := by
  have o0 := hM.o
  refine Con.of (by decide) (Nat.le_of_ble_eq_true rfl) rfl ?_
  refine g_aload_n (j := 0) rfl dX12_waysOf_0 ?_
  refine g_iconst dX12_waysOf_1 ?_
  refine g_iload_n (j := 1) rfl dX12_waysOf_2 ?_
  refine g_sipush dX12_waysOf_3 (by omega) ?_
  refine g_iadd dX12_waysOf_6 ?_
  refine g_i2l (by omega) dX12_waysOf_7 ?_
  refine g_callV dX12_waysOf_8 mlX12_262 mvX12_at (ci := 12) ⟨by decide, rfl⟩ (by assumption) (c_X12_at w d μ hM (l := 0) (s := n + 15000) (by omega) (by omega)) sv2 rfl (by omega) (Nat.le_of_ble_eq_true rfl) (Nat.le_refl _) (Nat.le_refl _) (fun v μ2 hR => ?_)
  obtain ⟨rfl, hm⟩ := hR
  replace hm := hm.symm
  subst hm
  exact G.retJ dX12_waysOf_11 rfl ⟨rfl, rfl⟩
/-- laysNought's row -/
def nuF (L : Int → Int) (l : Int) : Int → Int := fun k => if 30001 * l ≤ k ∧ k ≤ 30001 * l + 30000 then (if k = 30001 * l + 15000 then 1 else 0) else L k
theorem l_laysNought (w : WC) (d : Nat) (μ : Mem) {m : Nat} (hM : MoS w μ m) {l : Int} (hl : 0 ≤ l ∧ l ≤ 5) : ∀ (n : Nat) (s : Int) (g : Int → Int), 0 ≤ s → s + n = 30001 → (∀ k, g k = if 30001 * l ≤ k ∧ k < 30001 * l + s then 0 else mL μ (m + 4) k) →
    G w d mX12_laysNought (fun v μ2 => v = none ∧ μ2 = wL μ (m + 4) (nuF (mL μ (m + 4)) l)) 0 0 2 [some (vP (some m)), some (vI l), some (vI s)] [] (wL μ (m + 4) g) := by
  have o0 := hM.o
  have r22 := hM.r22
  have a22 := hM.a22
  intro n
  induction n with
  | zero =>
    intro s g hs hn hg
    refine g_iload_n (j := 2) rfl dX12_laysNought_2 ?_
    refine g_sipush dX12_laysNought_3 (by omega) ?_
    refine g_icmp_ge (tgt := 28) dX12_laysNought_6 (by decide) (by omega) (by omega) (fun h6 => ?_) (fun h6 => ?_)
    · refine g_aload_n (j := 0) rfl dX12_laysNought_28 ?_
      refine g_getR dX12_laysNought_29 flX12_35 rfl (by simp only [IsO_sI, IsO_sL, IsO_sR, IsO_wI, IsO_wL, IsA_sI, IsA_sL, IsA_sR, IsA_wI, IsA_wL, mR_sI, mR_sL, mR_wI, mR_wL]; assumption) (kz := 22) rfl (by simp only [IsO_sI, IsO_sL, IsO_sR, IsO_wI, IsO_wL, IsA_sI, IsA_sL, IsA_sR, IsA_wI, IsA_wL, mR_sI, mR_sL, mR_wI, mR_wL]; assumption) ?_
      refine g_sipush dX12_laysNought_32 (by omega) ?_
      refine g_iload_n (j := 1) rfl dX12_laysNought_35 ?_
      refine g_imul dX12_laysNought_36 ?_
      refine g_sipush dX12_laysNought_37 (by omega) ?_
      refine g_iadd dX12_laysNought_40 ?_
      refine g_lconst1 dX12_laysNought_41 ?_
      refine g_last dX12_laysNought_42 (by simp only [IsO_sI, IsO_sL, IsO_sR, IsO_wI, IsO_wL, IsA_sI, IsA_sL, IsA_sR, IsA_wI, IsA_wL, mR_sI, mR_sL, mR_wI, mR_wL]; assumption) (by omega) (by omega) ?_
      rw [sL_wL]
      refine G.retV dX12_laysNought_43 rfl ⟨rfl, wL_congr fun k => ?_⟩
      unfold nuF
      by_cases hk : k = 30001 * l + 15000
      · rw [if_pos hk, if_pos (by omega), if_pos hk]
      · rw [if_neg hk, hg]
        by_cases hk2 : 30001 * l ≤ k ∧ k ≤ 30001 * l + 30000
        · rw [if_pos (by omega), if_pos hk2, if_neg hk]
        · rw [if_neg (by omega), if_neg hk2]
    · omega
  | succ n ih =>
    intro s g hs hn hg
    refine g_iload_n (j := 2) rfl dX12_laysNought_2 ?_
    refine g_sipush dX12_laysNought_3 (by omega) ?_
    refine g_icmp_ge (tgt := 28) dX12_laysNought_6 (by decide) (by omega) (by omega) (fun h6 => ?_) (fun h6 => ?_)
    · omega
    · refine g_aload_n (j := 0) rfl dX12_laysNought_9 ?_
      refine g_getR dX12_laysNought_10 flX12_35 rfl (by simp only [IsO_sI, IsO_sL, IsO_sR, IsO_wI, IsO_wL, IsA_sI, IsA_sL, IsA_sR, IsA_wI, IsA_wL, mR_sI, mR_sL, mR_wI, mR_wL]; assumption) (kz := 22) rfl (by simp only [IsO_sI, IsO_sL, IsO_sR, IsO_wI, IsO_wL, IsA_sI, IsA_sL, IsA_sR, IsA_wI, IsA_wL, mR_sI, mR_sL, mR_wI, mR_wL]; assumption) ?_
      refine g_sipush dX12_laysNought_13 (by omega) ?_
      refine g_iload_n (j := 1) rfl dX12_laysNought_16 ?_
      refine g_imul dX12_laysNought_17 ?_
      refine g_iload_n (j := 2) rfl dX12_laysNought_18 ?_
      refine g_iadd dX12_laysNought_19 ?_
      refine g_lconst0 dX12_laysNought_20 ?_
      refine g_last dX12_laysNought_21 (by simp only [IsO_sI, IsO_sL, IsO_sR, IsO_wI, IsO_wL, IsA_sI, IsA_sL, IsA_sR, IsA_wI, IsA_wL, mR_sI, mR_sL, mR_wI, mR_wL]; assumption) (by omega) (by omega) ?_
      refine g_iinc (i := 2) dX12_laysNought_22 rfl (by decide) rfl ls2 ?_
      refine g_goto (tgt := 2) (by decide) dX12_laysNought_25 ?_
      rw [sL_wL]
      refine ih (s + 1) _ (by omega) (by omega) fun k => ?_
      by_cases hk : k = 30001 * l + s
      · rw [if_pos hk, if_pos (by omega)]
      · rw [if_neg hk, hg]
        congr 1
        exact propext ⟨fun q => ⟨q.1, by omega⟩, fun q => ⟨q.1, by omega⟩⟩
theorem c_laysNought (w : WC) (d : Nat) (μ : Mem) {m : Nat} (hM : MoS w μ m) {l : Int} (hl : 0 ≤ l ∧ l ≤ 5) : Con w d mX12_laysNought 0 0 [vP (some m), vI l] μ (fun v μ2 => v = none ∧ μ2 = wL μ (m + 4) (nuF (mL μ (m + 4)) l)) := by
  refine Con.of (by decide) (Nat.le_of_ble_eq_true rfl) rfl ?_
  refine g_iconst dX12_laysNought_0 ?_
  refine g_istore_n (j := 2) dX12_laysNought_1 (by decide) rfl ls2 ?_
  rw [← wL_eta μ (m + 4)]
  refine G.post ?_ (l_laysNought w d μ hM hl 30001 0 (mL μ (m + 4)) (by omega) (by omega) fun k => by rw [if_neg (by omega)])
  rw [wL_eta μ (m + 4)]
  exact fun _ _ h => h
