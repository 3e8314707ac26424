/-! BRANCHES ON A TEST; TESTS OF ARGUMENTS -/
section GB
variable {w : WC} {d : Nat} {y : MD} {Pq : Option AV → Mem → Prop} {bc bs pc : Nat} {L : List (Option AV)} {st : List AV} {μ : Mem}
theorem g_ifb_eq {P : Prop} {off : Int} {tgt : Nat} (hd : decode (dB y) pc = .ok (.ifCond .eq off, 3)) (ht : (pc : Int) + off = (tgt : Int)) (kt : ¬ P → G w d y Pq bc bs tgt L st μ) (kf : P → G w d y Pq bc bs (pc + 3) L st μ) : G w d y Pq bc bs pc L (vI (bI P) :: st) μ :=
  g_if_eq hd ht (by have := bI_01 P; omega) (fun h => kt (bI_is0.mp h)) (fun h => kf (Classical.byContradiction fun q => h (bI_0 q)))
theorem g_ifb_ne {P : Prop} {off : Int} {tgt : Nat} (hd : decode (dB y) pc = .ok (.ifCond .ne off, 3)) (ht : (pc : Int) + off = (tgt : Int)) (kt : P → G w d y Pq bc bs tgt L st μ) (kf : ¬ P → G w d y Pq bc bs (pc + 3) L st μ) : G w d y Pq bc bs pc L (vI (bI P) :: st) μ :=
  g_if_ne hd ht (by have := bI_01 P; omega) (fun h => kt (Classical.byContradiction fun q => h (bI_0 q))) (fun h => kf (bI_is0.mp h))
theorem G.retB {P : Prop} {z : Int} (hd : decode (dB y) pc = .ok (.ireturn, 1)) (hr : dR y = some .boolean) (hz : z = bI P) (k : Pq (some (vI (bI P))) μ) : G w d y Pq bc bs pc L [vI z] μ := by
  subst hz
  exact G.retZ hd hr (bI_01 P) k
theorem eq_bI {P : Prop} {z : Int} (h : (z = 1 ∧ P) ∨ (z = 0 ∧ ¬ P)) : z = bI P := by
  rcases h with ⟨h, p⟩ | ⟨h, p⟩
  · rw [h, bI_1 p]
  · rw [h, bI_0 p]
end GB
theorem c_X11_isSlot (w : WC) (d : Nat) (μ : Mem) {x : Int} (hx : i32 x) : Con w (d) mX11_isSlot 0 0 [vI x] μ (fun v μ2 => v = some (vI (bI (0 ≤ x ∧ x ≤ 3))) ∧ μ2 = μ) := by
  refine Con.of (by decide) (Nat.le_of_ble_eq_true rfl) rfl ?_
  refine g_iload_n (j := 0) rfl dX11_isSlot_0 ?_
  refine g_if_lt (tgt := 13) dX11_isSlot_1 (by decide) (by omega) (fun h1 => ?_) (fun h1 => ?_)
  · refine g_iconst dX11_isSlot_13 ?_
    first | exact G.retB dX11_isSlot_14 rfl (eq_bI (Or.inl ⟨rfl, by omega⟩)) ⟨rfl, rfl⟩ | exact G.retB dX11_isSlot_14 rfl (eq_bI (Or.inr ⟨rfl, by omega⟩)) ⟨rfl, rfl⟩ | exact G.retB dX11_isSlot_14 rfl (bI_congr (by omega)) ⟨rfl, rfl⟩
  · refine g_iload_n (j := 0) rfl dX11_isSlot_4 ?_
    refine g_iconst dX11_isSlot_5 ?_
    refine g_icmp_ge (tgt := 13) dX11_isSlot_6 (by decide) (by omega) (by omega) (fun h6 => ?_) (fun h6 => ?_)
    · refine g_iconst dX11_isSlot_13 ?_
      first | exact G.retB dX11_isSlot_14 rfl (eq_bI (Or.inl ⟨rfl, by omega⟩)) ⟨rfl, rfl⟩ | exact G.retB dX11_isSlot_14 rfl (eq_bI (Or.inr ⟨rfl, by omega⟩)) ⟨rfl, rfl⟩ | exact G.retB dX11_isSlot_14 rfl (bI_congr (by omega)) ⟨rfl, rfl⟩
    · refine g_iconst dX11_isSlot_9 ?_
      refine g_goto (tgt := 14) (by decide) dX11_isSlot_10 ?_
      first | exact G.retB dX11_isSlot_14 rfl (eq_bI (Or.inl ⟨rfl, by omega⟩)) ⟨rfl, rfl⟩ | exact G.retB dX11_isSlot_14 rfl (eq_bI (Or.inr ⟨rfl, by omega⟩)) ⟨rfl, rfl⟩ | exact G.retB dX11_isSlot_14 rfl (bI_congr (by omega)) ⟨rfl, rfl⟩
theorem c_X11_isNumber (w : WC) (d : Nat) (μ : Mem) {x : Int} (hx : i32 x) : Con w (d) mX11_isNumber 0 0 [vI x] μ (fun v μ2 => v = some (vI (bI (-3000 ≤ x ∧ x ≤ 3000))) ∧ μ2 = μ) := by
  refine Con.of (by decide) (Nat.le_of_ble_eq_true rfl) rfl ?_
  refine g_iload_n (j := 0) rfl dX11_isNumber_0 ?_
  refine g_sipush dX11_isNumber_1 (by omega) ?_
  refine g_icmp_lt (tgt := 18) dX11_isNumber_4 (by decide) (by omega) (by omega) (fun h4 => ?_) (fun h4 => ?_)
  · refine g_iconst dX11_isNumber_18 ?_
    first | exact G.retB dX11_isNumber_19 rfl (eq_bI (Or.inl ⟨rfl, by omega⟩)) ⟨rfl, rfl⟩ | exact G.retB dX11_isNumber_19 rfl (eq_bI (Or.inr ⟨rfl, by omega⟩)) ⟨rfl, rfl⟩ | exact G.retB dX11_isNumber_19 rfl (bI_congr (by omega)) ⟨rfl, rfl⟩
  · refine g_iload_n (j := 0) rfl dX11_isNumber_7 ?_
    refine g_sipush dX11_isNumber_8 (by omega) ?_
    refine g_icmp_gt (tgt := 18) dX11_isNumber_11 (by decide) (by omega) (by omega) (fun h11 => ?_) (fun h11 => ?_)
    · refine g_iconst dX11_isNumber_18 ?_
      first | exact G.retB dX11_isNumber_19 rfl (eq_bI (Or.inl ⟨rfl, by omega⟩)) ⟨rfl, rfl⟩ | exact G.retB dX11_isNumber_19 rfl (eq_bI (Or.inr ⟨rfl, by omega⟩)) ⟨rfl, rfl⟩ | exact G.retB dX11_isNumber_19 rfl (bI_congr (by omega)) ⟨rfl, rfl⟩
    · refine g_iconst dX11_isNumber_14 ?_
      refine g_goto (tgt := 19) (by decide) dX11_isNumber_15 ?_
      first | exact G.retB dX11_isNumber_19 rfl (eq_bI (Or.inl ⟨rfl, by omega⟩)) ⟨rfl, rfl⟩ | exact G.retB dX11_isNumber_19 rfl (eq_bI (Or.inr ⟨rfl, by omega⟩)) ⟨rfl, rfl⟩ | exact G.retB dX11_isNumber_19 rfl (bI_congr (by omega)) ⟨rfl, rfl⟩
theorem c_X11_isModulus (w : WC) (d : Nat) (μ : Mem) {x : Int} (hx : i32 x) : Con w (d) mX11_isModulus 0 0 [vI x] μ (fun v μ2 => v = some (vI (bI (1 ≤ x ∧ x ≤ 60))) ∧ μ2 = μ) := by
  refine Con.of (by decide) (Nat.le_of_ble_eq_true rfl) rfl ?_
  refine g_iload_n (j := 0) rfl dX11_isModulus_0 ?_
  refine g_iconst dX11_isModulus_1 ?_
  refine g_icmp_lt (tgt := 15) dX11_isModulus_2 (by decide) (by omega) (by omega) (fun h2 => ?_) (fun h2 => ?_)
  · refine g_iconst dX11_isModulus_15 ?_
    first | exact G.retB dX11_isModulus_16 rfl (eq_bI (Or.inl ⟨rfl, by omega⟩)) ⟨rfl, rfl⟩ | exact G.retB dX11_isModulus_16 rfl (eq_bI (Or.inr ⟨rfl, by omega⟩)) ⟨rfl, rfl⟩ | exact G.retB dX11_isModulus_16 rfl (bI_congr (by omega)) ⟨rfl, rfl⟩
  · refine g_iload_n (j := 0) rfl dX11_isModulus_5 ?_
    refine g_bipush dX11_isModulus_6 (by omega) ?_
    refine g_icmp_gt (tgt := 15) dX11_isModulus_8 (by decide) (by omega) (by omega) (fun h8 => ?_) (fun h8 => ?_)
    · refine g_iconst dX11_isModulus_15 ?_
      first | exact G.retB dX11_isModulus_16 rfl (eq_bI (Or.inl ⟨rfl, by omega⟩)) ⟨rfl, rfl⟩ | exact G.retB dX11_isModulus_16 rfl (eq_bI (Or.inr ⟨rfl, by omega⟩)) ⟨rfl, rfl⟩ | exact G.retB dX11_isModulus_16 rfl (bI_congr (by omega)) ⟨rfl, rfl⟩
    · refine g_iconst dX11_isModulus_11 ?_
      refine g_goto (tgt := 16) (by decide) dX11_isModulus_12 ?_
      first | exact G.retB dX11_isModulus_16 rfl (eq_bI (Or.inl ⟨rfl, by omega⟩)) ⟨rfl, rfl⟩ | exact G.retB dX11_isModulus_16 rfl (eq_bI (Or.inr ⟨rfl, by omega⟩)) ⟨rfl, rfl⟩ | exact G.retB dX11_isModulus_16 rfl (bI_congr (by omega)) ⟨rfl, rfl⟩
theorem c_X11_isSideNumber (w : WC) (d : Nat) (μ : Mem) {x : Int} (hx : i32 x) : Con w (d) mX11_isSideNumber 0 0 [vI x] μ (fun v μ2 => v = some (vI (bI (-9 ≤ x ∧ x ≤ 9))) ∧ μ2 = μ) := by
  refine Con.of (by decide) (Nat.le_of_ble_eq_true rfl) rfl ?_
  refine g_iload_n (j := 0) rfl dX11_isSideNumber_0 ?_
  refine g_bipush dX11_isSideNumber_1 (by omega) ?_
  refine g_icmp_lt (tgt := 16) dX11_isSideNumber_3 (by decide) (by omega) (by omega) (fun h3 => ?_) (fun h3 => ?_)
  · refine g_iconst dX11_isSideNumber_16 ?_
    first | exact G.retB dX11_isSideNumber_17 rfl (eq_bI (Or.inl ⟨rfl, by omega⟩)) ⟨rfl, rfl⟩ | exact G.retB dX11_isSideNumber_17 rfl (eq_bI (Or.inr ⟨rfl, by omega⟩)) ⟨rfl, rfl⟩ | exact G.retB dX11_isSideNumber_17 rfl (bI_congr (by omega)) ⟨rfl, rfl⟩
  · refine g_iload_n (j := 0) rfl dX11_isSideNumber_6 ?_
    refine g_bipush dX11_isSideNumber_7 (by omega) ?_
    refine g_icmp_gt (tgt := 16) dX11_isSideNumber_9 (by decide) (by omega) (by omega) (fun h9 => ?_) (fun h9 => ?_)
    · refine g_iconst dX11_isSideNumber_16 ?_
      first | exact G.retB dX11_isSideNumber_17 rfl (eq_bI (Or.inl ⟨rfl, by omega⟩)) ⟨rfl, rfl⟩ | exact G.retB dX11_isSideNumber_17 rfl (eq_bI (Or.inr ⟨rfl, by omega⟩)) ⟨rfl, rfl⟩ | exact G.retB dX11_isSideNumber_17 rfl (bI_congr (by omega)) ⟨rfl, rfl⟩
    · refine g_iconst dX11_isSideNumber_12 ?_
      refine g_goto (tgt := 17) (by decide) dX11_isSideNumber_13 ?_
      first | exact G.retB dX11_isSideNumber_17 rfl (eq_bI (Or.inl ⟨rfl, by omega⟩)) ⟨rfl, rfl⟩ | exact G.retB dX11_isSideNumber_17 rfl (eq_bI (Or.inr ⟨rfl, by omega⟩)) ⟨rfl, rfl⟩ | exact G.retB dX11_isSideNumber_17 rfl (bI_congr (by omega)) ⟨rfl, rfl⟩
theorem c_X11_isRange (w : WC) (d : Nat) (μ : Mem) {a : Int} (ha : i32 a) {b : Int} (hb : i32 b) : Con w (d + 1) mX11_isRange 0 0 [vI a, vI b] μ (fun v μ2 => v = some (vI (bI ((-3000 ≤ a ∧ a ≤ 3000) ∧ (-3000 ≤ b ∧ b ≤ 3000) ∧ a ≤ b))) ∧ μ2 = μ) := by
  refine Con.of (by decide) (Nat.le_of_ble_eq_true rfl) rfl ?_
  refine g_iload_n (j := 0) rfl dX11_isRange_0 ?_
  refine g_callS dX11_isRange_1 mlX11_174 msX11_isNumber (c_X11_isNumber w d μ ha) sk1 rfl (by omega) (Nat.le_of_ble_eq_true rfl) (Nat.le_refl _) (Nat.le_refl _) (fun v μ2 hR => ?_)
  obtain ⟨rfl, hm⟩ := hR
  replace hm := hm.symm
  subst hm
  refine g_ifb_eq (tgt := 23) dX11_isRange_4 (by decide)  (fun h4 => ?_) (fun h4 => ?_)
  · refine g_iconst dX11_isRange_23 ?_
    first | exact G.retB dX11_isRange_24 rfl (eq_bI (Or.inl ⟨rfl, by omega⟩)) ⟨rfl, rfl⟩ | exact G.retB dX11_isRange_24 rfl (eq_bI (Or.inr ⟨rfl, by omega⟩)) ⟨rfl, rfl⟩ | exact G.retB dX11_isRange_24 rfl (bI_congr (by omega)) ⟨rfl, rfl⟩
  · refine g_iload_n (j := 1) rfl dX11_isRange_7 ?_
    refine g_callS dX11_isRange_8 mlX11_174 msX11_isNumber (c_X11_isNumber w d μ hb) sk1 rfl (by omega) (Nat.le_of_ble_eq_true rfl) (Nat.le_refl _) (Nat.le_refl _) (fun v μ2 hR => ?_)
    obtain ⟨rfl, hm⟩ := hR
    replace hm := hm.symm
    subst hm
    refine g_ifb_eq (tgt := 23) dX11_isRange_11 (by decide)  (fun h11 => ?_) (fun h11 => ?_)
    · refine g_iconst dX11_isRange_23 ?_
      first | exact G.retB dX11_isRange_24 rfl (eq_bI (Or.inl ⟨rfl, by omega⟩)) ⟨rfl, rfl⟩ | exact G.retB dX11_isRange_24 rfl (eq_bI (Or.inr ⟨rfl, by omega⟩)) ⟨rfl, rfl⟩ | exact G.retB dX11_isRange_24 rfl (bI_congr (by omega)) ⟨rfl, rfl⟩
    · refine g_iload_n (j := 0) rfl dX11_isRange_14 ?_
      refine g_iload_n (j := 1) rfl dX11_isRange_15 ?_
      refine g_icmp_gt (tgt := 23) dX11_isRange_16 (by decide) (by omega) (by omega) (fun h16 => ?_) (fun h16 => ?_)
      · refine g_iconst dX11_isRange_23 ?_
        first | exact G.retB dX11_isRange_24 rfl (eq_bI (Or.inl ⟨rfl, by omega⟩)) ⟨rfl, rfl⟩ | exact G.retB dX11_isRange_24 rfl (eq_bI (Or.inr ⟨rfl, by omega⟩)) ⟨rfl, rfl⟩ | exact G.retB dX11_isRange_24 rfl (bI_congr (by omega)) ⟨rfl, rfl⟩
      · refine g_iconst dX11_isRange_19 ?_
        refine g_goto (tgt := 24) (by decide) dX11_isRange_20 ?_
        first | exact G.retB dX11_isRange_24 rfl (eq_bI (Or.inl ⟨rfl, by omega⟩)) ⟨rfl, rfl⟩ | exact G.retB dX11_isRange_24 rfl (eq_bI (Or.inr ⟨rfl, by omega⟩)) ⟨rfl, rfl⟩ | exact G.retB dX11_isRange_24 rfl (bI_congr (by omega)) ⟨rfl, rfl⟩
theorem c_X11_isClass (w : WC) (d : Nat) (μ : Mem) {m : Int} (hm : i32 m) {r : Int} (hr : i32 r) : Con w (d + 1) mX11_isClass 0 0 [vI m, vI r] μ (fun v μ2 => v = some (vI (bI ((1 ≤ m ∧ m ≤ 60) ∧ 0 ≤ r ∧ r < m))) ∧ μ2 = μ) := by
  refine Con.of (by decide) (Nat.le_of_ble_eq_true rfl) rfl ?_
  refine g_iload_n (j := 0) rfl dX11_isClass_0 ?_
  refine g_callS dX11_isClass_1 mlX11_197 msX11_isModulus (c_X11_isModulus w d μ hm) sk1 rfl (by omega) (Nat.le_of_ble_eq_true rfl) (Nat.le_refl _) (Nat.le_refl _) (fun v μ2 hR => ?_)
  obtain ⟨rfl, hm⟩ := hR
  replace hm := hm.symm
  subst hm
  refine g_ifb_eq (tgt := 20) dX11_isClass_4 (by decide)  (fun h4 => ?_) (fun h4 => ?_)
  · refine g_iconst dX11_isClass_20 ?_
    first | exact G.retB dX11_isClass_21 rfl (eq_bI (Or.inl ⟨rfl, by omega⟩)) ⟨rfl, rfl⟩ | exact G.retB dX11_isClass_21 rfl (eq_bI (Or.inr ⟨rfl, by omega⟩)) ⟨rfl, rfl⟩ | exact G.retB dX11_isClass_21 rfl (bI_congr (by omega)) ⟨rfl, rfl⟩
  · refine g_iload_n (j := 1) rfl dX11_isClass_7 ?_
    refine g_if_lt (tgt := 20) dX11_isClass_8 (by decide) (by omega) (fun h8 => ?_) (fun h8 => ?_)
    · refine g_iconst dX11_isClass_20 ?_
      first | exact G.retB dX11_isClass_21 rfl (eq_bI (Or.inl ⟨rfl, by omega⟩)) ⟨rfl, rfl⟩ | exact G.retB dX11_isClass_21 rfl (eq_bI (Or.inr ⟨rfl, by omega⟩)) ⟨rfl, rfl⟩ | exact G.retB dX11_isClass_21 rfl (bI_congr (by omega)) ⟨rfl, rfl⟩
    · refine g_iload_n (j := 1) rfl dX11_isClass_11 ?_
      refine g_iload_n (j := 0) rfl dX11_isClass_12 ?_
      refine g_icmp_ge (tgt := 20) dX11_isClass_13 (by decide) (by omega) (by omega) (fun h13 => ?_) (fun h13 => ?_)
      · refine g_iconst dX11_isClass_20 ?_
        first | exact G.retB dX11_isClass_21 rfl (eq_bI (Or.inl ⟨rfl, by omega⟩)) ⟨rfl, rfl⟩ | exact G.retB dX11_isClass_21 rfl (eq_bI (Or.inr ⟨rfl, by omega⟩)) ⟨rfl, rfl⟩ | exact G.retB dX11_isClass_21 rfl (bI_congr (by omega)) ⟨rfl, rfl⟩
      · refine g_iconst dX11_isClass_16 ?_
        refine g_goto (tgt := 21) (by decide) dX11_isClass_17 ?_
        first | exact G.retB dX11_isClass_21 rfl (eq_bI (Or.inl ⟨rfl, by omega⟩)) ⟨rfl, rfl⟩ | exact G.retB dX11_isClass_21 rfl (eq_bI (Or.inr ⟨rfl, by omega⟩)) ⟨rfl, rfl⟩ | exact G.retB dX11_isClass_21 rfl (bI_congr (by omega)) ⟨rfl, rfl⟩
theorem c_X12_isIn (w : WC) (d : Nat) (μ : Mem) {x a b : Int} (hx : i64 x) (ha : i64 a) (hb : i64 b) : Con w d mX12_isIn 0 0 [vJ x, vJ a, vJ b] μ (fun v μ2 => v = some (vI (bI (a ≤ x ∧ x ≤ b))) ∧ μ2 = μ) := by
  refine Con.of (by decide) (Nat.le_of_ble_eq_true rfl) rfl ?_
  refine g_lload_n (j := 0) rfl dX12_isIn_0 ?_
  refine g_lload_n (j := 2) rfl dX12_isIn_1 ?_
  refine g_lif_lt (tgt := 17) dX12_isIn_2 dX12_isIn_3 (by decide) (by omega) (by omega) (fun h2 => ?_) (fun h2 => ?_)
  · refine g_iconst dX12_isIn_17 ?_
    first | exact G.retB dX12_isIn_18 rfl (eq_bI (Or.inl ⟨rfl, by omega⟩)) ⟨rfl, rfl⟩ | exact G.retB dX12_isIn_18 rfl (eq_bI (Or.inr ⟨rfl, by omega⟩)) ⟨rfl, rfl⟩
  · refine g_lload_n (j := 0) rfl dX12_isIn_6 ?_
    refine g_lload (i := 4) rfl dX12_isIn_7 ?_
    refine g_lif_gt (tgt := 17) dX12_isIn_9 dX12_isIn_10 (by decide) (by omega) (by omega) (fun h9 => ?_) (fun h9 => ?_)
    · refine g_iconst dX12_isIn_17 ?_
      first | exact G.retB dX12_isIn_18 rfl (eq_bI (Or.inl ⟨rfl, by omega⟩)) ⟨rfl, rfl⟩ | exact G.retB dX12_isIn_18 rfl (eq_bI (Or.inr ⟨rfl, by omega⟩)) ⟨rfl, rfl⟩
    · refine g_iconst dX12_isIn_13 ?_
      refine g_goto (tgt := 18) (by decide) dX12_isIn_14 ?_
      first | exact G.retB dX12_isIn_18 rfl (eq_bI (Or.inl ⟨rfl, by omega⟩)) ⟨rfl, rfl⟩ | exact G.retB dX12_isIn_18 rfl (eq_bI (Or.inr ⟨rfl, by omega⟩)) ⟨rfl, rfl⟩
theorem c_X12_one (w : WC) (d : Nat) (μ : Mem) (P : Prop) : Con w d mX12_one 0 0 [vI (bI P)] μ (fun v μ2 => v = some (vI (bI P)) ∧ μ2 = μ) := by
  have hP := bI_01 P
  refine Con.of (by decide) (Nat.le_of_ble_eq_true rfl) rfl ?_
  refine g_iload_n (j := 0) rfl dX12_one_0 ?_
  refine g_if_eq (tgt := 8) dX12_one_1 (by decide) (by omega) (fun h1 => ?_) (fun h1 => ?_)
  · refine g_iconst dX12_one_8 ?_
    exact G.retI dX12_one_9 rfl ⟨by rw [h1], rfl⟩
  · refine g_iconst dX12_one_4 ?_
    refine g_goto (tgt := 9) (by decide) dX12_one_5 ?_
    exact G.retI dX12_one_9 rfl ⟨by rw [show bI P = 1 by omega], rfl⟩
theorem c_X12_isSlot (w : WC) (d : Nat) (μ : Mem) {x : Int} (hx : i32 x) : Con w (d + 1) mX12_isSlot 0 0 [vI x] μ (fun v μ2 => v = some (vI (bI (0 ≤ x ∧ x ≤ 3))) ∧ μ2 = μ) := by
  refine Con.of (by decide) (Nat.le_of_ble_eq_true rfl) rfl ?_
  refine g_iload_n (j := 0) rfl dX12_isSlot_0 ?_
  refine g_i2l (by omega) dX12_isSlot_1 ?_
  refine g_lconst0 dX12_isSlot_2 ?_
  refine g_ldc2 dX12_isSlot_3 klX12_109 (z := 3) rfl ?_
  refine g_callS dX12_isSlot_6 mlX12_105 msX12_isIn (c_X12_isIn w d _ (x := x) (a := 0) (b := 3) (by omega) (by omega) (by omega)) sk3 rfl (by omega) (Nat.le_of_ble_eq_true rfl) (Nat.le_refl _) (Nat.le_refl _) (fun v μ2 hR => ?_)
  obtain ⟨rfl, hm⟩ := hR
  replace hm := hm.symm
  subst hm
  first | exact G.retB dX12_isSlot_9 rfl (eq_bI (Or.inl ⟨rfl, by omega⟩)) ⟨rfl, rfl⟩ | exact G.retB dX12_isSlot_9 rfl (eq_bI (Or.inr ⟨rfl, by omega⟩)) ⟨rfl, rfl⟩ | exact G.retB dX12_isSlot_9 rfl (bI_congr (by omega)) ⟨rfl, rfl⟩
theorem c_X12_isN (w : WC) (d : Nat) (μ : Mem) {x : Int} (hx : i32 x) : Con w (d + 1) mX12_isN 0 0 [vI x] μ (fun v μ2 => v = some (vI (bI (-3000 ≤ x ∧ x ≤ 3000))) ∧ μ2 = μ) := by
  refine Con.of (by decide) (Nat.le_of_ble_eq_true rfl) rfl ?_
  refine g_iload_n (j := 0) rfl dX12_isN_0 ?_
  refine g_i2l (by omega) dX12_isN_1 ?_
  refine g_ldc2 dX12_isN_2 klX12_101 (z := -3000) rfl ?_
  refine g_ldc2 dX12_isN_5 klX12_103 (z := 3000) rfl ?_
  refine g_callS dX12_isN_8 mlX12_105 msX12_isIn (c_X12_isIn w d _ (x := x) (a := -3000) (b := 3000) (by omega) (by omega) (by omega)) sk3 rfl (by omega) (Nat.le_of_ble_eq_true rfl) (Nat.le_refl _) (Nat.le_refl _) (fun v μ2 hR => ?_)
  obtain ⟨rfl, hm⟩ := hR
  replace hm := hm.symm
  subst hm
  first | exact G.retB dX12_isN_11 rfl (eq_bI (Or.inl ⟨rfl, by omega⟩)) ⟨rfl, rfl⟩ | exact G.retB dX12_isN_11 rfl (eq_bI (Or.inr ⟨rfl, by omega⟩)) ⟨rfl, rfl⟩ | exact G.retB dX12_isN_11 rfl (bI_congr (by omega)) ⟨rfl, rfl⟩
theorem c_X12_isSmall (w : WC) (d : Nat) (μ : Mem) {x : Int} (hx : i64 x) : Con w (d + 1) mX12_isSmall 0 0 [vJ x] μ (fun v μ2 => v = some (vI (bI (-3000 ≤ x ∧ x ≤ 3000))) ∧ μ2 = μ) := by
  refine Con.of (by decide) (Nat.le_of_ble_eq_true rfl) rfl ?_
  refine g_lload_n (j := 0) rfl dX12_isSmall_0 ?_
  refine g_ldc2 dX12_isSmall_1 klX12_101 (z := -3000) rfl ?_
  refine g_ldc2 dX12_isSmall_4 klX12_103 (z := 3000) rfl ?_
  refine g_callS dX12_isSmall_7 mlX12_105 msX12_isIn (c_X12_isIn w d _ (x := x) (a := -3000) (b := 3000) (by omega) (by omega) (by omega)) sk3 rfl (by omega) (Nat.le_of_ble_eq_true rfl) (Nat.le_refl _) (Nat.le_refl _) (fun v μ2 hR => ?_)
  obtain ⟨rfl, hm⟩ := hR
  replace hm := hm.symm
  subst hm
  exact G.retB dX12_isSmall_10 rfl rfl ⟨rfl, rfl⟩
theorem c_X12_isSpan (w : WC) (d : Nat) (μ : Mem) {a : Int} (ha : i32 a) {b : Int} (hb : i32 b) : Con w (d + 2) mX12_isSpan 0 0 [vI a, vI b] μ (fun v μ2 => v = some (vI (bI ((-3000 ≤ a ∧ a ≤ 3000) ∧ (-3000 ≤ b ∧ b ≤ 3000) ∧ a ≤ b))) ∧ μ2 = μ) := by
  refine Con.of (by decide) (Nat.le_of_ble_eq_true rfl) rfl ?_
  refine g_iload_n (j := 0) rfl dX12_isSpan_0 ?_
  refine g_callS dX12_isSpan_1 mlX12_277 msX12_isN (c_X12_isN w d μ ha) sk1 rfl (by omega) (Nat.le_of_ble_eq_true rfl) (Nat.le_refl _) (Nat.le_refl _) (fun v μ2 hR => ?_)
  obtain ⟨rfl, hm⟩ := hR
  replace hm := hm.symm
  subst hm
  refine g_ifb_eq (tgt := 23) dX12_isSpan_4 (by decide)  (fun h4 => ?_) (fun h4 => ?_)
  · refine g_iconst dX12_isSpan_23 ?_
    first | exact G.retB dX12_isSpan_24 rfl (eq_bI (Or.inl ⟨rfl, by omega⟩)) ⟨rfl, rfl⟩ | exact G.retB dX12_isSpan_24 rfl (eq_bI (Or.inr ⟨rfl, by omega⟩)) ⟨rfl, rfl⟩ | exact G.retB dX12_isSpan_24 rfl (bI_congr (by omega)) ⟨rfl, rfl⟩
  · refine g_iload_n (j := 1) rfl dX12_isSpan_7 ?_
    refine g_callS dX12_isSpan_8 mlX12_277 msX12_isN (c_X12_isN w d μ hb) sk1 rfl (by omega) (Nat.le_of_ble_eq_true rfl) (Nat.le_refl _) (Nat.le_refl _) (fun v μ2 hR => ?_)
    obtain ⟨rfl, hm⟩ := hR
    replace hm := hm.symm
    subst hm
    refine g_ifb_eq (tgt := 23) dX12_isSpan_11 (by decide)  (fun h11 => ?_) (fun h11 => ?_)
    · refine g_iconst dX12_isSpan_23 ?_
      first | exact G.retB dX12_isSpan_24 rfl (eq_bI (Or.inl ⟨rfl, by omega⟩)) ⟨rfl, rfl⟩ | exact G.retB dX12_isSpan_24 rfl (eq_bI (Or.inr ⟨rfl, by omega⟩)) ⟨rfl, rfl⟩ | exact G.retB dX12_isSpan_24 rfl (bI_congr (by omega)) ⟨rfl, rfl⟩
    · refine g_iload_n (j := 0) rfl dX12_isSpan_14 ?_
      refine g_iload_n (j := 1) rfl dX12_isSpan_15 ?_
      refine g_icmp_gt (tgt := 23) dX12_isSpan_16 (by decide) (by omega) (by omega) (fun h16 => ?_) (fun h16 => ?_)
      · refine g_iconst dX12_isSpan_23 ?_
        first | exact G.retB dX12_isSpan_24 rfl (eq_bI (Or.inl ⟨rfl, by omega⟩)) ⟨rfl, rfl⟩ | exact G.retB dX12_isSpan_24 rfl (eq_bI (Or.inr ⟨rfl, by omega⟩)) ⟨rfl, rfl⟩ | exact G.retB dX12_isSpan_24 rfl (bI_congr (by omega)) ⟨rfl, rfl⟩
      · refine g_iconst dX12_isSpan_19 ?_
        refine g_goto (tgt := 24) (by decide) dX12_isSpan_20 ?_
        first | exact G.retB dX12_isSpan_24 rfl (eq_bI (Or.inl ⟨rfl, by omega⟩)) ⟨rfl, rfl⟩ | exact G.retB dX12_isSpan_24 rfl (eq_bI (Or.inr ⟨rfl, by omega⟩)) ⟨rfl, rfl⟩ | exact G.retB dX12_isSpan_24 rfl (bI_congr (by omega)) ⟨rfl, rfl⟩
