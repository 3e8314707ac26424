/-! THE CLASS: steps are kept -/
section KE
variable {w : WC} {μ μ2 : Mem} {y : Nat}
def asM (μ : Mem) (y : Nat) (len h st dt us : Int) : Mem := sI (sI (sI (sI (sI (sI μ (y + 1) len st) (y + 2) len dt) (y + 5) len us) (y + 8) h len) y 14 (h + 1)) y 13 (len + 1)
def IdF (y : Nat) (μ μ2 : Mem) : Prop := Fr (fun a => y ≤ a ∧ a ≤ y + 8) (fun _ _ => False) μ μ2 ∧ mI μ2 y 15 = mI μ y 15
theorem IdF.tr {μ3 : Mem} (h : IdF y μ μ2) (h2 : IdF y μ2 μ3) : IdF y μ μ3 := ⟨h.1.tr h2.1, h2.2.trans h.2⟩
theorem asM_F {len h st dt us : Int} : IdF y μ (asM μ y len h st dt us) := by
  unfold asM
  refine ⟨?_, by rw [mI_sI, if_neg (by omega), mI_sI, if_neg (by omega), mI_sI, if_neg (by omega), mI_sI, if_neg (by omega), mI_sI, if_neg (by omega), mI_sI, if_neg (by omega)]⟩
  exact ((((Fr.sI (by omega)).tr (Fr.sI (by omega))).tr (Fr.sI (by omega))).tr (Fr.sI (by omega))).tr ((Fr.sI (by omega)).tr (Fr.sI (by omega)))
theorem rev_head {l : List Nat} (h : 0 < l.length) : l.reverse[l.length - 1]? = some (l.headD 0) := by
  cases l with
  | nil => simp at h
  | cons a l => simp
theorem rev_head2 {l : List Nat} (h : 1 < l.length) : l.reverse[l.length - 2]? = some ((l.drop 1).headD 0) := by
  cases l with
  | nil => simp at h
  | cons a l =>
    cases l with
    | nil => simp at h
    | cons b l =>
      rw [show (a :: b :: l).length - 2 = l.length by simp]
      simp
theorem c_addStep (w : WC) (d : Nat) (μ : Mem) {y : Nat} (hI : IdO w μ y) {len h st dt us : Int} (e13 : mI μ y 13 = len) (hl : 0 ≤ len ∧ len < 199) (e14 : mI μ y 14 = h) (hh : 0 ≤ h ∧ h < 200) : Con w d mX3_addStep 0 0 [vP (some y), vI st, vI dt, vI us] μ (fun v μ2 => v = none ∧ μ2 = asM μ y len h st dt us) := by
  have o0 := hI.1
  have r0 := hI.r0
  have r1 := hI.r1
  have r4 := hI.r4
  have r7 := hI.r7
  have a0 := hI.a0
  have a1 := hI.a1
  have a4 := hI.a4
  have a7 := hI.a7
  refine Con.of (by decide) (Nat.le_of_ble_eq_true rfl) rfl ?_
  refine g_aload_n (j := 0) rfl dX3_addStep_0 ?_
  refine g_getI dX3_addStep_1 flX3_53 rfl (by assumption) (kz := 13) rfl ?_
  rw [e13]
  refine g_sipush dX3_addStep_4 (by omega) ?_
  refine g_icmp_lt (tgt := 11) dX3_addStep_7 (by decide) (by omega) (by omega) (fun h7 => ?_) (fun h7 => ?_)
  · refine g_aload_n (j := 0) rfl dX3_addStep_11 ?_
    refine g_getR dX3_addStep_12 flX3_11 rfl (by assumption) (kz := 0) rfl (by assumption) ?_
    refine g_aload_n (j := 0) rfl dX3_addStep_15 ?_
    refine g_getI dX3_addStep_16 flX3_53 rfl (by assumption) (kz := 13) rfl ?_
    rw [e13]
    refine g_iload_n (j := 1) rfl dX3_addStep_19 ?_
    refine g_iast dX3_addStep_20 (by assumption) (by omega) (by omega) ?_
    refine g_aload_n (j := 0) rfl dX3_addStep_21 ?_
    refine g_getR dX3_addStep_22 flX3_15 rfl (by simp only [IsO_sI, IsO_sL, IsO_sR, IsO_wI, IsO_wL, IsA_sI, IsA_sL, IsA_sR, IsA_wI, IsA_wL, mR_sI, mR_sL, mR_wI, mR_wL]; assumption) (kz := 1) rfl (by simp only [IsO_sI, IsO_sL, IsO_sR, IsO_wI, IsO_wL, IsA_sI, IsA_sL, IsA_sR, IsA_wI, IsA_wL, mR_sI, mR_sL, mR_wI, mR_wL]; assumption) ?_
    refine g_aload_n (j := 0) rfl dX3_addStep_25 ?_
    refine g_getIv dX3_addStep_26 flX3_53 rfl (by simp only [IsO_sI, IsO_sL, IsO_sR, IsO_wI, IsO_wL, IsA_sI, IsA_sL, IsA_sR, IsA_wI, IsA_wL, mR_sI, mR_sL, mR_wI, mR_wL]; assumption) (kz := 13) rfl (by simp [mI_sI, mI_sL, mI_sR, mI_wI, mI_wL, mL_sI, mL_sL, mL_sR, mL_wI, mL_wL, e13, e14]; rfl) ?_
    refine g_iload_n (j := 2) rfl dX3_addStep_29 ?_
    refine g_iast dX3_addStep_30 (by simp only [IsO_sI, IsO_sL, IsO_sR, IsO_wI, IsO_wL, IsA_sI, IsA_sL, IsA_sR, IsA_wI, IsA_wL, mR_sI, mR_sL, mR_wI, mR_wL]; assumption) (by omega) (by omega) ?_
    refine g_aload_n (j := 0) rfl dX3_addStep_31 ?_
    refine g_getR dX3_addStep_32 flX3_24 rfl (by simp only [IsO_sI, IsO_sL, IsO_sR, IsO_wI, IsO_wL, IsA_sI, IsA_sL, IsA_sR, IsA_wI, IsA_wL, mR_sI, mR_sL, mR_wI, mR_wL]; assumption) (kz := 4) rfl (by simp only [IsO_sI, IsO_sL, IsO_sR, IsO_wI, IsO_wL, IsA_sI, IsA_sL, IsA_sR, IsA_wI, IsA_wL, mR_sI, mR_sL, mR_wI, mR_wL]; assumption) ?_
    refine g_aload_n (j := 0) rfl dX3_addStep_35 ?_
    refine g_getIv dX3_addStep_36 flX3_53 rfl (by simp only [IsO_sI, IsO_sL, IsO_sR, IsO_wI, IsO_wL, IsA_sI, IsA_sL, IsA_sR, IsA_wI, IsA_wL, mR_sI, mR_sL, mR_wI, mR_wL]; assumption) (kz := 13) rfl (by simp [mI_sI, mI_sL, mI_sR, mI_wI, mI_wL, mL_sI, mL_sL, mL_sR, mL_wI, mL_wL, e13, e14]; rfl) ?_
    refine g_iload_n (j := 3) rfl dX3_addStep_39 ?_
    refine g_iast dX3_addStep_40 (by simp only [IsO_sI, IsO_sL, IsO_sR, IsO_wI, IsO_wL, IsA_sI, IsA_sL, IsA_sR, IsA_wI, IsA_wL, mR_sI, mR_sL, mR_wI, mR_wL]; assumption) (by omega) (by omega) ?_
    refine g_aload_n (j := 0) rfl dX3_addStep_41 ?_
    refine g_getR dX3_addStep_42 flX3_35 rfl (by simp only [IsO_sI, IsO_sL, IsO_sR, IsO_wI, IsO_wL, IsA_sI, IsA_sL, IsA_sR, IsA_wI, IsA_wL, mR_sI, mR_sL, mR_wI, mR_wL]; assumption) (kz := 7) rfl (by simp only [IsO_sI, IsO_sL, IsO_sR, IsO_wI, IsO_wL, IsA_sI, IsA_sL, IsA_sR, IsA_wI, IsA_wL, mR_sI, mR_sL, mR_wI, mR_wL]; assumption) ?_
    refine g_aload_n (j := 0) rfl dX3_addStep_45 ?_
    refine g_getIv dX3_addStep_46 flX3_57 rfl (by simp only [IsO_sI, IsO_sL, IsO_sR, IsO_wI, IsO_wL, IsA_sI, IsA_sL, IsA_sR, IsA_wI, IsA_wL, mR_sI, mR_sL, mR_wI, mR_wL]; assumption) (kz := 14) rfl (by simp [mI_sI, mI_sL, mI_sR, mI_wI, mI_wL, mL_sI, mL_sL, mL_sR, mL_wI, mL_wL, e13, e14]; rfl) ?_
    refine g_aload_n (j := 0) rfl dX3_addStep_49 ?_
    refine g_getIv dX3_addStep_50 flX3_53 rfl (by simp only [IsO_sI, IsO_sL, IsO_sR, IsO_wI, IsO_wL, IsA_sI, IsA_sL, IsA_sR, IsA_wI, IsA_wL, mR_sI, mR_sL, mR_wI, mR_wL]; assumption) (kz := 13) rfl (by simp [mI_sI, mI_sL, mI_sR, mI_wI, mI_wL, mL_sI, mL_sL, mL_sR, mL_wI, mL_wL, e13, e14]; rfl) ?_
    refine g_iast dX3_addStep_53 (by simp only [IsO_sI, IsO_sL, IsO_sR, IsO_wI, IsO_wL, IsA_sI, IsA_sL, IsA_sR, IsA_wI, IsA_wL, mR_sI, mR_sL, mR_wI, mR_wL]; assumption) (by omega) (by omega) ?_
    refine g_aload_n (j := 0) rfl dX3_addStep_54 ?_
    refine g_dup rfl dX3_addStep_55 ?_
    refine g_getIv dX3_addStep_56 flX3_57 rfl (by simp only [IsO_sI, IsO_sL, IsO_sR, IsO_wI, IsO_wL, IsA_sI, IsA_sL, IsA_sR, IsA_wI, IsA_wL, mR_sI, mR_sL, mR_wI, mR_wL]; assumption) (kz := 14) rfl (by simp [mI_sI, mI_sL, mI_sR, mI_wI, mI_wL, mL_sI, mL_sL, mL_sR, mL_wI, mL_wL, e13, e14]; rfl) ?_
    refine g_iconst dX3_addStep_59 ?_
    refine g_iadd dX3_addStep_60 ?_
    refine g_putI dX3_addStep_61 fpX3_57 rfl rfl rfl (by simp only [IsO_sI, IsO_sL, IsO_sR, IsO_wI, IsO_wL, IsA_sI, IsA_sL, IsA_sR, IsA_wI, IsA_wL, mR_sI, mR_sL, mR_wI, mR_wL]; assumption) (kz := 14) rfl ?_
    refine g_aload_n (j := 0) rfl dX3_addStep_64 ?_
    refine g_dup rfl dX3_addStep_65 ?_
    refine g_getIv dX3_addStep_66 flX3_53 rfl (by simp only [IsO_sI, IsO_sL, IsO_sR, IsO_wI, IsO_wL, IsA_sI, IsA_sL, IsA_sR, IsA_wI, IsA_wL, mR_sI, mR_sL, mR_wI, mR_wL]; assumption) (kz := 13) rfl (by simp [mI_sI, mI_sL, mI_sR, mI_wI, mI_wL, mL_sI, mL_sL, mL_sR, mL_wI, mL_wL, e13, e14]; rfl) ?_
    refine g_iconst dX3_addStep_69 ?_
    refine g_iadd dX3_addStep_70 ?_
    refine g_putI dX3_addStep_71 fpX3_53 rfl rfl rfl (by simp only [IsO_sI, IsO_sL, IsO_sR, IsO_wI, IsO_wL, IsA_sI, IsA_sL, IsA_sR, IsA_wI, IsA_wL, mR_sI, mR_sL, mR_wI, mR_wL]; assumption) (kz := 13) rfl ?_
    exact G.retV dX3_addStep_74 rfl ⟨rfl, rfl⟩
  · omega
theorem c_takeOpen (w : WC) (d : Nat) (μ : Mem) {y : Nat} (hI : IdO w μ y)  {h k : Int} (e14 : mI μ y 14 = h) (hh : 1 ≤ h ∧ h ≤ 200) (e8 : mI μ (y + 8) (h - 1) = k) : Con w d mX3_takeOpen 0 0 [vP (some y)] μ (fun v μ2 => v = some (vI k) ∧ μ2 = sI μ y 14 (h - 1)) := by
  have o0 := hI.1
  have r7 := hI.r7
  have a7 := hI.a7
  refine Con.of (by decide) (Nat.le_of_ble_eq_true rfl) rfl ?_
  refine g_aload_n (j := 0) rfl dX3_takeOpen_0 ?_
  refine g_getI dX3_takeOpen_1 flX3_57 rfl (by assumption) (kz := 14) rfl ?_
  rw [e14]
  refine g_iconst dX3_takeOpen_4 ?_
  refine g_icmp_ge (tgt := 10) dX3_takeOpen_5 (by decide) (by omega) (by omega) (fun h5 => ?_) (fun h5 => ?_)
  · refine g_aload_n (j := 0) rfl dX3_takeOpen_10 ?_
    refine g_dup rfl dX3_takeOpen_11 ?_
    refine g_getI dX3_takeOpen_12 flX3_57 rfl (by assumption) (kz := 14) rfl ?_
    rw [e14]
    refine g_iconst dX3_takeOpen_15 ?_
    refine g_isub dX3_takeOpen_16 ?_
    refine g_putI dX3_takeOpen_17 fpX3_57 rfl rfl rfl (by assumption) (kz := 14) rfl ?_
    refine g_aload_n (j := 0) rfl dX3_takeOpen_20 ?_
    refine g_getR dX3_takeOpen_21 flX3_35 rfl (by simp only [IsO_sI, IsO_sL, IsO_sR, IsO_wI, IsO_wL, IsA_sI, IsA_sL, IsA_sR, IsA_wI, IsA_wL, mR_sI, mR_sL, mR_wI, mR_wL]; assumption) (kz := 7) rfl (by simp only [IsO_sI, IsO_sL, IsO_sR, IsO_wI, IsO_wL, IsA_sI, IsA_sL, IsA_sR, IsA_wI, IsA_wL, mR_sI, mR_sL, mR_wI, mR_wL]; assumption) ?_
    refine g_aload_n (j := 0) rfl dX3_takeOpen_24 ?_
    refine g_getIv dX3_takeOpen_25 flX3_57 rfl (by simp only [IsO_sI, IsO_sL, IsO_sR, IsO_wI, IsO_wL, IsA_sI, IsA_sL, IsA_sR, IsA_wI, IsA_wL, mR_sI, mR_sL, mR_wI, mR_wL]; assumption) (kz := 14) rfl (by simp [mI_sI, mI_sL, mI_sR, mI_wI, mI_wL, mL_sI, mL_sL, mL_sR, mL_wI, mL_wL, e14]; rfl) ?_
    refine g_ialdv dX3_takeOpen_28 (by simp only [IsO_sI, IsO_sL, IsO_sR, IsO_wI, IsO_wL, IsA_sI, IsA_sL, IsA_sR, IsA_wI, IsA_wL, mR_sI, mR_sL, mR_wI, mR_wL]; assumption) (by omega) (by omega) (by simp [mI_sI, mI_sL, mI_sR, mI_wI, mI_wL, mL_sI, mL_sL, mL_sR, mL_wI, mL_wL, e14]; rfl) ?_
    exact G.retI dX3_takeOpen_29 rfl ⟨by rw [e8], rfl⟩
  · omega
theorem IcS.push {p p2 : Nat} {L L2 : Int} {ops : List Op} (h : IcS μ y p L ops) {o : Op} (ho : o.1 = 0 ∨ o.1 = 1) {μ2 : Mem} (e16 : mI μ2 y 16 = L2) (e17 : mI μ2 y 17 = (p2 : Int)) (ea : ∀ a j, y + 1 ≤ a → a ≤ y + 8 → mI μ2 a j = mI (asM μ y (ops.length : Int) ((ixO ops).length : Int) o.1 o.2 (usF o 0 0)) a j) (e13 : mI μ2 y 13 = (ops.length : Int) + 1) (e14 : mI μ2 y 14 = ((ixO ops).length : Int) + 1) : IcS μ2 y p2 L2 (ops ++ [o]) := by
  refine h.add 0 (by unfold stN; rw [if_pos ho, List.drop_zero]) e13 (by rw [List.drop_zero]; exact e14) e16 e17 (fun a z1 z2 j hj => ?_) (fun k hk => ?_) ?_ (by omega) ?_ ?_ (fun z => by omega) (fun z => by omega) ?_
  · rw [ea a j (by omega) (by omega)]
    unfold asM
    rw [mI_sI, if_neg (by omega), mI_sI, if_neg (by omega), mI_sI, if_neg (by omega), mI_sI, if_neg (by omega), mI_sI, if_neg (by omega), mI_sI, if_neg (by omega)]
  · rw [List.drop_zero] at hk
    rw [ea (y + 8) k (by omega) (by omega)]
    unfold asM
    rw [mI_sI, if_neg (by omega), mI_sI, if_neg (by omega), mI_sI, if_neg (by omega), mI_sI, if_neg (by omega), mI_sI, if_neg (by omega), mI_sI, if_neg (by omega)]
  · rw [List.drop_zero, ea (y + 8) _ (by omega) (by omega)]
    unfold asM
    rw [mI_sI, if_neg (by omega), mI_sI, if_neg (by omega), mI_sI, if_pos ⟨rfl, rfl⟩]
  · rw [ea (y + 1) _ (by omega) (by omega)]
    unfold asM
    rw [mI_sI, if_neg (by omega), mI_sI, if_neg (by omega), mI_sI, if_neg (by omega), mI_sI, if_neg (by omega), mI_sI, if_neg (by omega), mI_sI, if_pos ⟨rfl, rfl⟩]
  · rw [ea (y + 2) _ (by omega) (by omega)]
    unfold asM
    rw [mI_sI, if_neg (by omega), mI_sI, if_neg (by omega), mI_sI, if_neg (by omega), mI_sI, if_neg (by omega), mI_sI, if_pos ⟨rfl, rfl⟩]
  · rw [ea (y + 5) _ (by omega) (by omega)]
    unfold asM
    rw [mI_sI, if_neg (by omega), mI_sI, if_neg (by omega), mI_sI, if_neg (by omega), mI_sI, if_pos ⟨rfl, rfl⟩]
    unfold usF
    rcases ho with z | z
    · rw [if_pos z, if_pos z]
    · rw [if_neg (by omega), if_pos z, if_neg (by omega), if_pos z]
theorem c_idNumber (w : WC) (d : Nat) (μ : Mem) {y p : Nat} {L : Int} {ops : List Op} (hI : IdO w μ y) (h : IcS μ y p L ops) (hl : ops.length < 199) (hx : (ixO ops).length < 200) {z : Int} : Con w (d + 1) mX3_addNumber 0 0 [vP (some y), vI z] μ (fun v μ2 => v = none ∧ IcS μ2 y p L (ops ++ [(0, z)]) ∧ IdF y μ μ2) := by
  have o0 := hI.1
  obtain ⟨⟨e13, e14, e16, e17⟩, hO, hS⟩ := id h
  refine Con.of (by decide) (Nat.le_of_ble_eq_true rfl) rfl ?_
  refine g_aload_n (j := 0) rfl dX3_addNumber_0 ?_
  refine g_iconst dX3_addNumber_1 ?_
  refine g_iload_n (j := 1) rfl dX3_addNumber_2 ?_
  refine g_bipush dX3_addNumber_3 (by omega) ?_
  refine g_callV dX3_addNumber_5 mlX3_69 mvX3_addStep (ci := 3) ⟨by decide, rfl⟩ (by assumption) (c_addStep w d μ hI e13 (by omega) e14 (by omega)) sv3 rfl (by omega) (Nat.le_of_ble_eq_true rfl) (Nat.le_refl _) (Nat.le_refl _) (fun v μ2 hR => ?_)
  obtain ⟨rfl, hm⟩ := hR
  subst hm
  refine G.retV dX3_addNumber_8 rfl ⟨rfl, ?_, asM_F⟩
  refine h.push (o := (0, z)) (Or.inl rfl) ?_ ?_ (fun a j z1 z2 => rfl) ?_ ?_
  · unfold asM
    rw [mI_sI, if_neg (by omega), mI_sI, if_neg (by omega), mI_sI, if_neg (by omega), mI_sI, if_neg (by omega), mI_sI, if_neg (by omega), mI_sI, if_neg (by omega)]
    exact e16
  · unfold asM
    rw [mI_sI, if_neg (by omega), mI_sI, if_neg (by omega), mI_sI, if_neg (by omega), mI_sI, if_neg (by omega), mI_sI, if_neg (by omega), mI_sI, if_neg (by omega)]
    exact e17
  · unfold asM
    rw [mI_sI, if_pos ⟨rfl, rfl⟩]
  · unfold asM
    rw [mI_sI, if_neg (by omega), mI_sI, if_pos ⟨rfl, rfl⟩]
theorem asM_y {len h st dt us v j16 : Int} {a : Nat} (ha : ¬ a = y) (j : Int) : mI (asM (sI μ y j16 v) y len h st dt us) a j = mI (asM μ y len h st dt us) a j := by
  unfold asM
  simp only [mI_sI]
  rw [if_neg (show ¬ (a = y ∧ j = j16) by omega)]
theorem c_idLetter (w : WC) (d : Nat) (μ : Mem) {y p : Nat} {L : Int} {ops : List Op} (hI : IdO w μ y) (h : IcS μ y p L ops) (hl : ops.length < 199) (hx : (ixO ops).length < 200) {z : Int} : Con w (d + 1) mX3_addLetter 0 0 [vP (some y), vI z] μ (fun v μ2 => v = none ∧ IcS μ2 y p (orB L (shB z)) (ops ++ [(1, z)]) ∧ IdF y μ μ2) := by
  have o0 := hI.1
  obtain ⟨⟨e13, e14, e16, e17⟩, hO, hS⟩ := id h
  refine Con.of (by decide) (Nat.le_of_ble_eq_true rfl) rfl ?_
  refine g_aload_n (j := 0) rfl dX3_addLetter_0 ?_
  refine g_dup rfl dX3_addLetter_1 ?_
  refine g_getI dX3_addLetter_2 flX3_63 rfl (by assumption) (kz := 16) rfl ?_
  rw [e16]
  refine g_iconst dX3_addLetter_5 ?_
  refine g_iload_n (j := 1) rfl dX3_addLetter_6 ?_
  refine g_ishl dX3_addLetter_7 ?_
  refine g_ior dX3_addLetter_8 ?_
  refine g_putI dX3_addLetter_9 fpX3_63 rfl rfl rfl (by assumption) (kz := 16) rfl ?_
  obtain ⟨μ1, hm1⟩ : ∃ μ1, μ1 = sI μ y 16 (orB L (shB z)) := ⟨_, rfl⟩
  have hI1 : IdO w μ1 y := by
    rw [hm1]
    exact hI.fr (P := fun a => a = y) (K := fun _ _ => False) (Fr.sI rfl) (fun _ q => q)
  have e131 : mI μ1 y 13 = (ops.length : Int) := by rw [hm1, mI_sI, if_neg (by omega)]; exact e13
  have e141 : mI μ1 y 14 = ((ixO ops).length : Int) := by rw [hm1, mI_sI, if_neg (by omega)]; exact e14
  have hf1 : IdF y μ μ1 := by
    rw [hm1]
    exact ⟨Fr.sI (by omega), by rw [mI_sI, if_neg (by omega)]⟩
  change G _ _ _ _ _ _ _ _ _ (sI μ y 16 (orB L (shB z)))
  rw [← hm1]
  have o01 := hI1.1
  refine g_aload_n (j := 0) rfl dX3_addLetter_12 ?_
  refine g_iconst dX3_addLetter_13 ?_
  refine g_iload_n (j := 1) rfl dX3_addLetter_14 ?_
  refine g_bipush dX3_addLetter_15 (by omega) ?_
  refine g_iconst dX3_addLetter_17 ?_
  refine g_iload_n (j := 1) rfl dX3_addLetter_18 ?_
  refine g_ishl dX3_addLetter_19 ?_
  refine g_ior dX3_addLetter_20 ?_
  refine g_callV dX3_addLetter_21 mlX3_69 mvX3_addStep (ci := 3) ⟨by decide, rfl⟩ (by assumption) (c_addStep w d μ1 hI1 e131 (by omega) e141 (by omega)) sv3 rfl (by omega) (Nat.le_of_ble_eq_true rfl) (Nat.le_refl _) (Nat.le_refl _) (fun v μ2 hR => ?_)
  obtain ⟨rfl, hm⟩ := hR
  subst hm
  refine G.retV dX3_addLetter_24 rfl ⟨rfl, ?_, hf1.tr asM_F⟩
  refine h.push (o := (1, z)) (Or.inr rfl) ?_ ?_ (fun a j z1 z2 => ?_) ?_ ?_
  · unfold asM
    rw [mI_sI, if_neg (by omega), mI_sI, if_neg (by omega), mI_sI, if_neg (by omega), mI_sI, if_neg (by omega), mI_sI, if_neg (by omega), mI_sI, if_neg (by omega), hm1, mI_sI, if_pos ⟨rfl, rfl⟩]
  · unfold asM
    rw [mI_sI, if_neg (by omega), mI_sI, if_neg (by omega), mI_sI, if_neg (by omega), mI_sI, if_neg (by omega), mI_sI, if_neg (by omega), mI_sI, if_neg (by omega), hm1, mI_sI, if_neg (by omega)]
    exact e17
  · rw [hm1]
    exact asM_y (by omega) j
  · unfold asM
    rw [mI_sI, if_pos ⟨rfl, rfl⟩]
  · unfold asM
    rw [mI_sI, if_neg (by omega), mI_sI, if_pos ⟨rfl, rfl⟩]
theorem c_idPower (w : WC) (d : Nat) (μ : Mem) {y p : Nat} {L : Int} {ops : List Op} (hI : IdO w μ y) (h : IcS μ y p L ops) (hl : ops.length < 199) (hx : 1 ≤ (ixO ops).length ∧ (ixO ops).length ≤ 200) {z : Int} : Con w (d + 1) mX3_addPower 0 0 [vP (some y), vI z] μ (fun v μ2 => v = none ∧ IcS μ2 y p L (ops ++ [(5, z)]) ∧ IdF y μ μ2) := by
  have o0 := hI.1
  obtain ⟨⟨e13, e14, e16, e17⟩, hO, hS⟩ := id h
  have hd := hS _ _ (rev_head (l := ixO ops) (by omega))
  have hlt : (ixO ops).headD 0 < ops.length := by
    rcases hq : ixO ops with _ | ⟨a, l⟩
    · rw [hq] at hx
      simp at hx
    · refine ixO_lt (ops := ops) ?_
      rw [hq]
      exact List.mem_cons_self
  obtain ⟨hd1, ehd⟩ : ∃ k : Nat, k = (ixO ops).headD 0 := ⟨_, rfl⟩
  rw [← ehd] at hd hlt
  have hd2 : mI μ (y + 8) (((ixO ops).length : Int) - 1) = (hd1 : Int) := by rw [← hd]; congr 1; omega
  refine Con.of (by decide) (Nat.le_of_ble_eq_true rfl) rfl ?_
  refine g_aload_n (j := 0) rfl dX3_addPower_0 ?_
  refine g_callV dX3_addPower_1 mlX3_73 mvX3_takeOpen (ci := 3) ⟨by decide, rfl⟩ (by assumption) (c_takeOpen w d μ hI e14 (by omega) hd2) sv0 rfl (by omega) (Nat.le_of_ble_eq_true rfl) (Nat.le_refl _) (Nat.le_refl _) (fun v μ0 hR => ?_)
  obtain ⟨rfl, hm0⟩ := hR
  subst hm0
  refine g_istore_n (j := 2) dX3_addPower_4 (by decide) rfl ls2 ?_
  obtain ⟨μ1, hm1⟩ : ∃ μ1, μ1 = sI μ y 14 (((ixO ops).length : Int) - 1) := ⟨_, rfl⟩
  rw [← hm1]
  have hI1 : IdO w μ1 y := by
    rw [hm1]
    exact hI.fr (P := fun a => a = y) (K := fun _ _ => False) (Fr.sI rfl) (fun _ q => q)
  have e131 : mI μ1 y 13 = (ops.length : Int) := by rw [hm1, mI_sI, if_neg (by omega)]; exact e13
  have o01 := hI1.1
  have r21 := hI1.r2
  have a21 := hI1.a2
  refine g_aload_n (j := 0) rfl dX3_addPower_5 ?_
  refine g_getR dX3_addPower_6 flX3_18 rfl (by assumption) (kz := 2) rfl (by assumption) ?_
  refine g_aload_n (j := 0) rfl dX3_addPower_9 ?_
  refine g_getI dX3_addPower_10 flX3_53 rfl (by assumption) (kz := 13) rfl ?_
  rw [e131]
  refine g_iload_n (j := 2) rfl dX3_addPower_13 ?_
  refine g_iast dX3_addPower_14 (by assumption) (by omega) (by omega) ?_
  obtain ⟨μ2, hm2⟩ : ∃ μ2, μ2 = sI μ1 (y + 3) (ops.length : Int) (hd1 : Int) := ⟨_, rfl⟩
  rw [← hm2]
  have hI2 : IdO w μ2 y := by
    rw [hm2]
    exact hI1.fr (P := fun a => a = y + 3) (K := fun _ _ => False) (Fr.sI rfl) (fun _ q => q)
  have e132 : mI μ2 y 13 = (ops.length : Int) := by rw [hm2, mI_sI, if_neg (by omega)]; exact e131
  have e142 : mI μ2 y 14 = ((ixO ops).length : Int) - 1 := by rw [hm2, mI_sI, if_neg (by omega), hm1, mI_sI, if_pos ⟨rfl, rfl⟩]
  have o02 := hI2.1
  have r42 := hI2.r4
  have a42 := hI2.a4
  have hf2 : IdF y μ μ2 := by
    rw [hm2, hm1]
    exact ⟨(Fr.sI (by omega)).tr (Fr.sI (by omega)), by rw [mI_sI, if_neg (by omega), mI_sI, if_neg (by omega)]⟩
  refine g_aload_n (j := 0) rfl dX3_addPower_15 ?_
  refine g_iconst dX3_addPower_16 ?_
  refine g_iload_n (j := 1) rfl dX3_addPower_17 ?_
  refine g_aload_n (j := 0) rfl dX3_addPower_18 ?_
  refine g_getR dX3_addPower_19 flX3_24 rfl (by assumption) (kz := 4) rfl (by assumption) ?_
  refine g_iload_n (j := 2) rfl dX3_addPower_22 ?_
  refine g_iald dX3_addPower_23 (by assumption) (by omega) (by omega) ?_
  refine g_callV dX3_addPower_24 mlX3_69 mvX3_addStep (ci := 3) ⟨by decide, rfl⟩ (by assumption) (c_addStep w d μ2 hI2 e132 (by omega) e142 (by omega)) sv3 rfl (by omega) (Nat.le_of_ble_eq_true rfl) (Nat.le_refl _) (Nat.le_refl _) (fun v μ3 hR => ?_)
  obtain ⟨rfl, hm⟩ := hR
  subst hm
  refine G.retV dX3_addPower_27 rfl ⟨rfl, ?_, hf2.tr asM_F⟩
  have hdl : (((ixO ops).drop 1).length : Int) = ((ixO ops).length : Int) - 1 := by
    rw [List.length_drop]
    omega
  unfold asM
  refine h.add (o := (5, z)) 1 (by unfold stN; rw [if_neg (by simp), if_pos rfl]) ?_ ?_ ?_ ?_ (fun a z1 z2 j hj => ?_) (fun k hk => ?_) ?_ (by simp) ?_ ?_ (fun _ => ⟨?_, by rw [← ehd]; exact hlt⟩) (fun q => by simp at q) ?_
  · rw [mI_sI, if_pos ⟨rfl, rfl⟩]
  · rw [mI_sI, if_neg (by omega), mI_sI, if_pos ⟨rfl, rfl⟩, hdl]
  · rw [mI_sI, if_neg (by omega), mI_sI, if_neg (by omega), mI_sI, if_neg (by omega), mI_sI, if_neg (by omega), mI_sI, if_neg (by omega), mI_sI, if_neg (by omega), hm2, mI_sI, if_neg (by omega), hm1, mI_sI, if_neg (by omega)]
    exact e16
  · rw [mI_sI, if_neg (by omega), mI_sI, if_neg (by omega), mI_sI, if_neg (by omega), mI_sI, if_neg (by omega), mI_sI, if_neg (by omega), mI_sI, if_neg (by omega), hm2, mI_sI, if_neg (by omega), hm1, mI_sI, if_neg (by omega)]
    exact e17
  · rw [mI_sI, if_neg (by omega), mI_sI, if_neg (by omega), mI_sI, if_neg (by omega), mI_sI, if_neg (by omega), mI_sI, if_neg (by omega), mI_sI, if_neg (by omega), hm2, mI_sI, if_neg (by omega), hm1, mI_sI, if_neg (by omega)]
  · rw [hdl] at hk
    rw [mI_sI, if_neg (by omega), mI_sI, if_neg (by omega), mI_sI, if_neg (by omega), mI_sI, if_neg (by omega), mI_sI, if_neg (by omega), mI_sI, if_neg (by omega), hm2, mI_sI, if_neg (by omega), hm1, mI_sI, if_neg (by omega)]
  · rw [hdl, mI_sI, if_neg (by omega), mI_sI, if_neg (by omega), mI_sI, if_pos ⟨rfl, rfl⟩]
  · rw [mI_sI, if_neg (by omega), mI_sI, if_neg (by omega), mI_sI, if_neg (by omega), mI_sI, if_neg (by omega), mI_sI, if_neg (by omega), mI_sI, if_pos ⟨rfl, rfl⟩]
  · rw [mI_sI, if_neg (by omega), mI_sI, if_neg (by omega), mI_sI, if_neg (by omega), mI_sI, if_neg (by omega), mI_sI, if_pos ⟨rfl, rfl⟩]
  · rw [mI_sI, if_neg (by omega), mI_sI, if_neg (by omega), mI_sI, if_neg (by omega), mI_sI, if_neg (by omega), mI_sI, if_neg (by omega), mI_sI, if_neg (by omega), hm2, mI_sI, if_pos ⟨rfl, rfl⟩, ehd]
  · rw [mI_sI, if_neg (by omega), mI_sI, if_neg (by omega), mI_sI, if_neg (by omega), mI_sI, if_pos ⟨rfl, rfl⟩, mI_sI, if_neg (by omega), mI_sI, if_neg (by omega), mI_sI, if_neg (by omega), mI_sI, if_neg (by omega), mI_sI, if_neg (by omega), mI_sI, if_neg (by omega), hm2, mI_sI, if_neg (by omega), hm1, mI_sI, if_neg (by omega)]
    rw [show mI (sI (sI μ y 14 (((ixO ops).length : Int) - 1)) (y + 3) (ops.length : Int) (hd1 : Int)) (y + 3) (ops.length : Int) = (hd1 : Int) by rw [mI_sI, if_pos ⟨rfl, rfl⟩]]
    rfl
theorem c_idJoint (w : WC) (d : Nat) (μ : Mem) {y p : Nat} {L : Int} {ops : List Op} (hI : IdO w μ y) (h : IcS μ y p L ops) (hl : ops.length < 199) (hx : 2 ≤ (ixO ops).length ∧ (ixO ops).length ≤ 200) {st : Int} (hst : 2 ≤ st ∧ st ≤ 4) : Con w (d + 1) mX3_addJoint 0 0 [vP (some y), vI st] μ (fun v μ2 => v = none ∧ IcS μ2 y p L (ops ++ [(st, 0)]) ∧ IdF y μ μ2) := by
  have o0 := hI.1
  obtain ⟨⟨e13, e14, e16, e17⟩, hO, hS⟩ := id h
  have hd := hS _ _ (rev_head (l := ixO ops) (by omega))
  have hg := hS _ _ (rev_head2 (l := ixO ops) (by omega))
  have hlt : (ixO ops).headD 0 < ops.length ∧ ((ixO ops).drop 1).headD 0 < ops.length := by
    rcases hq : ixO ops with _ | ⟨a, _ | ⟨b, l⟩⟩
    · rw [hq] at hx
      simp at hx
    · rw [hq] at hx
      simp at hx
    · constructor
      · refine ixO_lt (ops := ops) ?_
        rw [hq]
        exact List.mem_cons_self
      · refine ixO_lt (ops := ops) ?_
        rw [hq]
        exact List.mem_cons_of_mem _ List.mem_cons_self
  obtain ⟨k1, ek1⟩ : ∃ k : Nat, k = (ixO ops).headD 0 := ⟨_, rfl⟩
  obtain ⟨k2, ek2⟩ : ∃ k : Nat, k = ((ixO ops).drop 1).headD 0 := ⟨_, rfl⟩
  rw [← ek1] at hd hlt
  rw [← ek2] at hg hlt
  have hd2 : mI μ (y + 8) (((ixO ops).length : Int) - 1) = (k1 : Int) := by rw [← hd]; congr 1; omega
  have hg2 : mI μ (y + 8) (((ixO ops).length : Int) - 1 - 1) = (k2 : Int) := by rw [← hg]; congr 1; omega
  refine Con.of (by decide) (Nat.le_of_ble_eq_true rfl) rfl ?_
  refine g_aload_n (j := 0) rfl dX3_addJoint_0 ?_
  refine g_callV dX3_addJoint_1 mlX3_73 mvX3_takeOpen (ci := 3) ⟨by decide, rfl⟩ (by assumption) (c_takeOpen w d μ hI e14 (by omega) hd2) sv0 rfl (by omega) (Nat.le_of_ble_eq_true rfl) (Nat.le_refl _) (Nat.le_refl _) (fun v μ0 hR => ?_)
  obtain ⟨rfl, hm0⟩ := hR
  subst hm0
  refine g_istore_n (j := 2) dX3_addJoint_4 (by decide) rfl ls2 ?_
  obtain ⟨μ1, hm1⟩ : ∃ μ1, μ1 = sI μ y 14 (((ixO ops).length : Int) - 1) := ⟨_, rfl⟩
  rw [← hm1]
  have hI1 : IdO w μ1 y := by
    rw [hm1]
    exact hI.fr (P := fun a => a = y) (K := fun _ _ => False) (Fr.sI rfl) (fun _ q => q)
  have e131 : mI μ1 y 13 = (ops.length : Int) := by rw [hm1, mI_sI, if_neg (by omega)]; exact e13
  have e141 : mI μ1 y 14 = ((ixO ops).length : Int) - 1 := by rw [hm1, mI_sI, if_pos ⟨rfl, rfl⟩]
  have hg3 : mI μ1 (y + 8) (((ixO ops).length : Int) - 1 - 1) = (k2 : Int) := by rw [hm1, mI_sI, if_neg (by omega)]; exact hg2
  have o01 := hI1.1
  refine g_aload_n (j := 0) rfl dX3_addJoint_5 ?_
  refine g_callV dX3_addJoint_6 mlX3_73 mvX3_takeOpen (ci := 3) ⟨by decide, rfl⟩ (by assumption) (c_takeOpen w d μ1 hI1 e141 (by omega) hg3) sv0 rfl (by omega) (Nat.le_of_ble_eq_true rfl) (Nat.le_refl _) (Nat.le_refl _) (fun v μ00 hR => ?_)
  obtain ⟨rfl, hm0⟩ := hR
  subst hm0
  refine g_istore_n (j := 3) dX3_addJoint_9 (by decide) rfl ls3 ?_
  obtain ⟨μ2, hm2⟩ : ∃ μ2, μ2 = sI μ1 y 14 (((ixO ops).length : Int) - 1 - 1) := ⟨_, rfl⟩
  rw [← hm2]
  have hI2 : IdO w μ2 y := by
    rw [hm2]
    exact hI1.fr (P := fun a => a = y) (K := fun _ _ => False) (Fr.sI rfl) (fun _ q => q)
  have e132 : mI μ2 y 13 = (ops.length : Int) := by rw [hm2, mI_sI, if_neg (by omega)]; exact e131
  have o02 := hI2.1
  have r22 := hI2.r2
  have a22 := hI2.a2
  have r32 := hI2.r3
  have a32 := hI2.a3
  refine g_aload_n (j := 0) rfl dX3_addJoint_10 ?_
  refine g_getR dX3_addJoint_11 flX3_18 rfl (by assumption) (kz := 2) rfl (by assumption) ?_
  refine g_aload_n (j := 0) rfl dX3_addJoint_14 ?_
  refine g_getI dX3_addJoint_15 flX3_53 rfl (by assumption) (kz := 13) rfl ?_
  rw [e132]
  refine g_iload_n (j := 3) rfl dX3_addJoint_18 ?_
  refine g_iast dX3_addJoint_19 (by assumption) (by omega) (by omega) ?_
  refine g_aload_n (j := 0) rfl dX3_addJoint_20 ?_
  refine g_getR dX3_addJoint_21 flX3_21 rfl (by simp only [IsO_sI, IsO_sL, IsO_sR, IsO_wI, IsO_wL, IsA_sI, IsA_sL, IsA_sR, IsA_wI, IsA_wL, mR_sI, mR_sL, mR_wI, mR_wL]; assumption) (kz := 3) rfl (by simp only [IsO_sI, IsO_sL, IsO_sR, IsO_wI, IsO_wL, IsA_sI, IsA_sL, IsA_sR, IsA_wI, IsA_wL, mR_sI, mR_sL, mR_wI, mR_wL]; assumption) ?_
  refine g_aload_n (j := 0) rfl dX3_addJoint_24 ?_
  refine g_getIv dX3_addJoint_25 flX3_53 rfl (by simp only [IsO_sI, IsO_sL, IsO_sR, IsO_wI, IsO_wL, IsA_sI, IsA_sL, IsA_sR, IsA_wI, IsA_wL, mR_sI, mR_sL, mR_wI, mR_wL]; assumption) (kz := 13) rfl (by simp [mI_sI, mI_sL, mI_sR, mI_wI, mI_wL, mL_sI, mL_sL, mL_sR, mL_wI, mL_wL]; rfl) ?_
  rw [e132]
  refine g_iload_n (j := 2) rfl dX3_addJoint_28 ?_
  refine g_iast dX3_addJoint_29 (by simp only [IsO_sI, IsO_sL, IsO_sR, IsO_wI, IsO_wL, IsA_sI, IsA_sL, IsA_sR, IsA_wI, IsA_wL, mR_sI, mR_sL, mR_wI, mR_wL]; assumption) (by omega) (by omega) ?_
  obtain ⟨μ3, hm3⟩ : ∃ μ3, μ3 = sI (sI μ2 (y + 3) (ops.length : Int) (k2 : Int)) (y + 4) (ops.length : Int) (k1 : Int) := ⟨_, rfl⟩
  rw [← hm3]
  have hI3 : IdO w μ3 y := by
    rw [hm3]
    exact hI2.fr (P := fun a => a = y + 3 ∨ a = y + 4) (K := fun _ _ => False) ((Fr.sI (Or.inl rfl)).tr (Fr.sI (Or.inr rfl))) (fun _ q => q)
  have e133 : mI μ3 y 13 = (ops.length : Int) := by rw [hm3, mI_sI, if_neg (by omega), mI_sI, if_neg (by omega)]; exact e132
  have e143 : mI μ3 y 14 = ((ixO ops).length : Int) - 1 - 1 := by rw [hm3, mI_sI, if_neg (by omega), mI_sI, if_neg (by omega), hm2, mI_sI, if_pos ⟨rfl, rfl⟩]
  have o03 := hI3.1
  have r43 := hI3.r4
  have a43 := hI3.a4
  have hm : μ3 = sI (sI (sI (sI μ y 14 (((ixO ops).length : Int) - 1)) y 14 (((ixO ops).length : Int) - 1 - 1)) (y + 3) (ops.length : Int) (k2 : Int)) (y + 4) (ops.length : Int) (k1 : Int) := by rw [hm3, hm2, hm1]
  have hf3 : IdF y μ μ3 := by
    rw [hm]
    exact ⟨((Fr.sI (by omega)).tr (Fr.sI (by omega))).tr ((Fr.sI (by omega)).tr (Fr.sI (by omega))), by rw [mI_sI, if_neg (by omega), mI_sI, if_neg (by omega), mI_sI, if_neg (by omega), mI_sI, if_neg (by omega)]⟩
  refine g_aload_n (j := 0) rfl dX3_addJoint_30 ?_
  refine g_iload_n (j := 1) rfl dX3_addJoint_31 ?_
  refine g_iconst dX3_addJoint_32 ?_
  refine g_aload_n (j := 0) rfl dX3_addJoint_33 ?_
  refine g_getR dX3_addJoint_34 flX3_24 rfl (by assumption) (kz := 4) rfl (by assumption) ?_
  refine g_iload_n (j := 3) rfl dX3_addJoint_37 ?_
  refine g_iald dX3_addJoint_38 (by assumption) (by omega) (by omega) ?_
  refine g_aload_n (j := 0) rfl dX3_addJoint_39 ?_
  refine g_getR dX3_addJoint_40 flX3_24 rfl (by assumption) (kz := 4) rfl (by assumption) ?_
  refine g_iload_n (j := 2) rfl dX3_addJoint_43 ?_
  refine g_iald dX3_addJoint_44 (by assumption) (by omega) (by omega) ?_
  refine g_ior dX3_addJoint_45 ?_
  refine g_callV dX3_addJoint_46 mlX3_69 mvX3_addStep (ci := 3) ⟨by decide, rfl⟩ (by assumption) (c_addStep w d μ3 hI3 e133 (by omega) e143 (by omega)) sv3 rfl (by omega) (Nat.le_of_ble_eq_true rfl) (Nat.le_refl _) (Nat.le_refl _) (fun v μ4 hR => ?_)
  obtain ⟨rfl, hm9⟩ := hR
  subst hm9
  refine G.retV dX3_addJoint_49 rfl ⟨rfl, ?_, hf3.tr asM_F⟩
  have hdl : (((ixO ops).drop 2).length : Int) = ((ixO ops).length : Int) - 1 - 1 := by
    rw [List.length_drop]
    omega
  have h0 : ¬ st = 0 := by omega
  have h1 : ¬ st = 1 := by omega
  have h5 : ¬ st = 5 := by omega
  unfold asM
  refine h.add (o := (st, 0)) 2 (by unfold stN; rw [if_neg (fun z => z.elim h0 h1), if_neg h5]) ?_ ?_ ?_ ?_ (fun a z1 z2 j hj => ?_) (fun k hk => ?_) ?_ (by show 0 ≤ st ∧ st ≤ 5; omega) ?_ ?_ (fun q => absurd q h5) (fun _ => ⟨⟨?_, ?_⟩, by rw [← ek1]; exact hlt.1, by rw [← ek2]; exact hlt.2⟩) ?_
  · rw [mI_sI, if_pos ⟨rfl, rfl⟩]
  · rw [mI_sI, if_neg (by omega), mI_sI, if_pos ⟨rfl, rfl⟩, hdl]
  · rw [mI_sI, if_neg (by omega), mI_sI, if_neg (by omega), mI_sI, if_neg (by omega), mI_sI, if_neg (by omega), mI_sI, if_neg (by omega), mI_sI, if_neg (by omega), hm, mI_sI, if_neg (by omega), mI_sI, if_neg (by omega), mI_sI, if_neg (by omega), mI_sI, if_neg (by omega)]
    exact e16
  · rw [mI_sI, if_neg (by omega), mI_sI, if_neg (by omega), mI_sI, if_neg (by omega), mI_sI, if_neg (by omega), mI_sI, if_neg (by omega), mI_sI, if_neg (by omega), hm, mI_sI, if_neg (by omega), mI_sI, if_neg (by omega), mI_sI, if_neg (by omega), mI_sI, if_neg (by omega)]
    exact e17
  · rw [mI_sI, if_neg (by omega), mI_sI, if_neg (by omega), mI_sI, if_neg (by omega), mI_sI, if_neg (by omega), mI_sI, if_neg (by omega), mI_sI, if_neg (by omega), hm, mI_sI, if_neg (by omega), mI_sI, if_neg (by omega), mI_sI, if_neg (by omega), mI_sI, if_neg (by omega)]
  · rw [hdl] at hk
    rw [mI_sI, if_neg (by omega), mI_sI, if_neg (by omega), mI_sI, if_neg (by omega), mI_sI, if_neg (by omega), mI_sI, if_neg (by omega), mI_sI, if_neg (by omega), hm, mI_sI, if_neg (by omega), mI_sI, if_neg (by omega), mI_sI, if_neg (by omega), mI_sI, if_neg (by omega)]
  · rw [hdl, mI_sI, if_neg (by omega), mI_sI, if_neg (by omega), mI_sI, if_pos ⟨rfl, rfl⟩]
  · rw [mI_sI, if_neg (by omega), mI_sI, if_neg (by omega), mI_sI, if_neg (by omega), mI_sI, if_neg (by omega), mI_sI, if_neg (by omega), mI_sI, if_pos ⟨rfl, rfl⟩]
  · rw [mI_sI, if_neg (by omega), mI_sI, if_neg (by omega), mI_sI, if_neg (by omega), mI_sI, if_neg (by omega), mI_sI, if_pos ⟨rfl, rfl⟩]
  · rw [mI_sI, if_neg (by omega), mI_sI, if_neg (by omega), mI_sI, if_neg (by omega), mI_sI, if_neg (by omega), mI_sI, if_neg (by omega), mI_sI, if_neg (by omega), hm, mI_sI, if_neg (by omega), mI_sI, if_pos ⟨rfl, rfl⟩, ek2]
  · rw [mI_sI, if_neg (by omega), mI_sI, if_neg (by omega), mI_sI, if_neg (by omega), mI_sI, if_neg (by omega), mI_sI, if_neg (by omega), mI_sI, if_neg (by omega), hm, mI_sI, if_pos ⟨rfl, rfl⟩, ek1]
  · have x3 : mI μ3 (y + 3) (ops.length : Int) = (k2 : Int) := by rw [hm, mI_sI, if_neg (by omega), mI_sI, if_pos ⟨rfl, rfl⟩]
    have x4 : mI μ3 (y + 4) (ops.length : Int) = (k1 : Int) := by rw [hm, mI_sI, if_pos ⟨rfl, rfl⟩]
    have x5 : ∀ j, mI μ3 (y + 5) j = mI μ (y + 5) j := fun j => by rw [hm, mI_sI, if_neg (by omega), mI_sI, if_neg (by omega), mI_sI, if_neg (by omega), mI_sI, if_neg (by omega)]
    rw [mI_sI, if_neg (by omega), mI_sI, if_neg (by omega), mI_sI, if_neg (by omega), mI_sI, if_pos ⟨rfl, rfl⟩, mI_sI, if_neg (by omega), mI_sI, if_neg (by omega), mI_sI, if_neg (by omega), mI_sI, if_neg (by omega), mI_sI, if_neg (by omega), mI_sI, if_neg (by omega), mI_sI, if_neg (by omega), mI_sI, if_neg (by omega), mI_sI, if_neg (by omega), mI_sI, if_neg (by omega), mI_sI, if_neg (by omega), mI_sI, if_neg (by omega), x3, x4, x5, x5]
    unfold usF
    rw [if_neg h0, if_neg h1, if_neg h5]
    rfl
end KE
