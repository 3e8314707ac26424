/-! THE CLASS: replaceForm, join, drop, lead -/
def fmF (F : Int → List Tm) (s : Int) (ts : List Tm) : Int → List Tm := fun t => if t = s then ts else F t
theorem fmF_self (F : Int → List Tm) (s : Int) (ts : List Tm) : fmF F s ts s = ts := if_pos rfl
theorem fmF_ne (F : Int → List Tm) {s t : Int} (ts : List Tm) (h : ¬ t = s) : fmF F s ts t = F t := if_neg h
def Pr (x : Nat) (s : Int) (a : Nat) : Prop := a = x + 59 ∨ (fA x s ≤ a ∧ a ≤ tA x s)
def Pj (x : Nat) (s : Int) (a : Nat) : Prop := Pr x s a ∨ (x + 41 ≤ a ∧ a ≤ x + 47)
theorem CA.rep {w : WC} {μ μ2 : Mem} {x c N : Nat} {F : Int → List Tm} (h : CA w μ x F c N) {s : Int} (hs : 0 ≤ s ∧ s ≤ 3) {ts : List Tm} {P : Nat → Prop} (hc : ChI P μ μ2) (hP : ∀ a, P a → Pj x s a) (hI : FI μ2 (fA x s) ts) (h2 : mI μ2 (tA x s) 2 = 0) (h3 : mI μ2 (tA x s) 3 = 0) (ho : mI μ2 (x + 59) 2 = if mI μ (x + 59) 2 = s then -1 else mI μ (x + 59) 2) (ho3 : mI μ2 (x + 59) 3 = mI μ (x + 59) 3) : CA w μ2 x (fmF F s ts) c N := by
  obtain ⟨hT, hF, ⟨s1, s2, s3, s4, s5⟩, ⟨d1, d2⟩, hKn⟩ := h
  have hb := fA_bd x hs
  have hT2 : TPS w μ2 x := hT.fr (Fr.ofI (K := fun _ _ => False) hc) fun _ _ _ z => z.elim
  have hD : ∀ j, DR μ2 x j = DR μ x j := fun j => by unfold DR; rw [hc.2.1]
  have n60 : ¬ P (x + 59 + 1) := fun z => by have := hP _ z; unfold Pj Pr at this; omega
  have hSe : SeS w μ2 (x + 59) c N := (Fr.ofI (K := fun _ _ => False) hc).Se (fun _ z => z) s1
  refine ⟨hT2, fun t ht => ?_, ⟨hSe, s2, s3, ?_, ?_⟩, ⟨fun j hj a ha => ?_, fun j k a hj hk ha hb => ?_⟩, fun t ht => ?_⟩
  · by_cases hts : t = s
    · subst hts
      rw [fmF_self]
      exact hI
    · rw [fmF_ne F ts hts]
      have hbt := fA_bd x ht
      have hne : ¬ fA x t = fA x s := by unfold fA; omega
      refine hc.FI (fun a z1 z2 z => ?_) (hF t ht)
      have := hP a z
      unfold Pj Pr fA tA at this
      unfold fA at z1 z2
      omega
  · rw [ho]
    split <;> omega
  · rw [ho]
    intro z
    by_cases hos : mI μ (x + 59) 2 = s
    · rw [if_pos hos] at z
      omega
    · rw [if_neg hos] at z ⊢
      rw [fmF_ne F ts hos]
      obtain ⟨-, q1, q2, q3⟩ := s5 z
      exact ⟨hSe, by rw [ho3]; exact q1, fun t z1 z2 => by rw [hc.2.2.2.2 _ n60]; exact q2 t z1 z2, fun z1 => by rw [hc.1]; exact q3 z1⟩
  · rw [hD] at ha
    exact ⟨hc.A (d1 j hj a ha).1, (d1 j hj a ha).2⟩
  · rw [hD] at ha hb
    exact d2 j k a hj hk ha hb
  · by_cases hts : t = s
    · subst hts
      exact ⟨⟨Or.inl h2, fun z => by rw [h2] at z; omega⟩, Or.inl h3, fun z => by rw [h3] at z; omega⟩
    · rw [fmF_ne F ts hts]
      have hbt := fA_bd x ht
      have nt : ¬ P (tA x t) := fun z => by have := hP _ z; unfold Pj Pr fA tA at this; omega
      have e2 := hc.2.2.2.2 _ nt
      obtain ⟨⟨k1, k2⟩, k3, k4⟩ := hKn t ht
      refine ⟨⟨by rw [e2]; exact k1, ?_⟩, by rw [e2]; exact k3, ?_⟩
      · rw [e2, hc.2.1]
        intro z
        obtain ⟨q1, a, q2, q3⟩ := k2 z
        exact ⟨q1, a, q2, fun n z1 z2 => by rw [hc.1]; exact q3 n z1 z2⟩
      · rw [e2, hc.2.1]
        intro z
        obtain ⟨q1, a, q2, q3⟩ := k4 z
        exact ⟨q1, a, q2, fun n z1 z2 => by rw [hc.1]; exact q3 n z1 z2⟩
theorem c_X9_forget (w : WC) (d : Nat) (μ : Mem) {t : Nat} (ot : IsO w μ t 9) : Con w d mX9_forget 0 0 [vP (some t)] μ (fun v μ2 => v = none ∧ μ2 = sI (sI μ t 2 0) t 3 0) := by
  refine Con.of (by decide) (Nat.le_of_ble_eq_true rfl) rfl ?_
  refine g_aload_n (j := 0) rfl dX9_forget_0 ?_
  refine g_iconst dX9_forget_1 ?_
  refine g_putI dX9_forget_2 fpX9_9 rfl (nar_bool (by omega)) rfl (by assumption) (kz := 2) rfl ?_
  refine g_aload_n (j := 0) rfl dX9_forget_5 ?_
  refine g_iconst dX9_forget_6 ?_
  refine g_putI dX9_forget_7 fpX9_15 rfl (nar_bool (by omega)) rfl (by simp only [IsO_sI, IsO_sL, IsO_sR, IsO_wI, IsO_wL, IsA_sI, IsA_sL, IsA_sR, IsA_wI, IsA_wL, mR_sI, mR_sL, mR_wI, mR_wL]; assumption) (kz := 3) rfl ?_
  exact G.retV dX9_forget_10 rfl ⟨rfl, rfl⟩
theorem FI.nil {μ : Mem} {q : Nat} (h : mI μ q 0 = 0) : FI μ q [] := ⟨h, by simp, by simp, by simp⟩
theorem c_replaceForm (w : WC) (d : Nat) (μ : Mem) {x c N : Nat} {F : Int → List Tm} (h : CA w μ x F c N) {s : Int} (hs : 0 ≤ s ∧ s ≤ 3) {q : Nat} {ts : List Tm} (hq : q = x + 41 ∨ q = x + 49) (hF : FoS w μ q) (hI : FI μ q ts) : Con w (d + 5) mX11_replaceForm 0 0 [vP (some x), vI s, vP (some q)] μ (fun v μ2 => v = none ∧ CA w μ2 x (fmF F s ts) c N ∧ ChI (Pr x s) μ μ2) := by
  have o0 := h.tps.o0
  have r1 := h.tps.r0_1
  have a7 := h.tps.a7
  have rf := h.tps.rf hs
  have hfo := h.tps.fs hs
  have of := hfo.1
  have hb := fA_bd x hs
  have hz := h.tps.2.2.2.2
  refine Con.of (by decide) (Nat.le_of_ble_eq_true rfl) rfl ?_
  refine g_aload_n (j := 0) rfl dX11_replaceForm_0 ?_
  refine g_getR dX11_replaceForm_1 flX11_18 rfl (by assumption) (kz := 1) rfl (by assumption) ?_
  refine g_iload_n (j := 1) rfl dX11_replaceForm_4 ?_
  refine g_aald dX11_replaceForm_5 (by assumption) (by omega) (by omega) (by omega) (by assumption) ?_
  refine g_iconst dX11_replaceForm_6 ?_
  refine g_putI dX11_replaceForm_7 fpX11_125 rfl rfl rfl (by assumption) (kz := 0) rfl ?_
  have hc1 : ChI (Pr x s) μ (sI μ (fA x s) 0 0) := ChI.s (by unfold Pr; omega)
  have hT1 : TPS w (sI μ (fA x s) 0 0) x := h.tps.fr (Fr.ofI (K := fun _ _ => False) hc1) fun _ _ _ z => z.elim
  have hF1 := hc1.Fo hF
  have hI1 := hc1.FI (q := q) (fun a z1 z2 z => by unfold Pr at z; omega) hI
  have hfo1 := hc1.Fo hfo
  have hN1 : FI (sI μ (fA x s) 0 0) (fA x s) [] := FI.nil (by rw [mI_sI, if_pos ⟨rfl, rfl⟩])
  have e592 : mI (sI μ (fA x s) 0 0) (x + 59) 2 = mI μ (x + 59) 2 := by rw [mI_sI, if_neg (by omega)]
  have e593 : mI (sI μ (fA x s) 0 0) (x + 59) 3 = mI μ (x + 59) 3 := by rw [mI_sI, if_neg (by omega)]
  have o0a := hT1.o0
  have r1a := hT1.r0_1
  have a7a := hT1.a7
  have rfa := hT1.rf hs
  have ofa := hfo1.1
  generalize sI μ (fA x s) 0 0 = μ1 at *
  refine g_aload_n (j := 0) rfl dX11_replaceForm_10 ?_
  refine g_getR dX11_replaceForm_11 flX11_18 rfl (by assumption) (kz := 1) rfl (by assumption) ?_
  refine g_iload_n (j := 1) rfl dX11_replaceForm_14 ?_
  refine g_aald dX11_replaceForm_15 (by assumption) (by omega) (by omega) (by omega) (by assumption) ?_
  refine g_aload_n (j := 2) rfl dX11_replaceForm_16 ?_
  refine g_callV dX11_replaceForm_17 mlX11_240 mvX1_addAll (ci := 1) ⟨by decide, rfl⟩ (by assumption) (c_addAll w d μ1 (by omega) hfo1 hF1 hN1 hI1 (by have := hI.2.1; simpa using this)) sv1 rfl (by omega) (Nat.le_of_ble_eq_true rfl) (Nat.le_refl _) (Nat.le_refl _) (fun v μ2 hR => ?_)
  obtain ⟨rfl, hI2, hc2⟩ := hR
  have hc12 : ChI (Pr x s) μ μ2 := hc1.tr (hc2.mono (fun a z => by unfold In7 at z; unfold Pr; omega))
  have hT2 : TPS w μ2 x := h.tps.fr (Fr.ofI (K := fun _ _ => False) hc12) fun _ _ _ z => z.elim
  have e592b := (hc2.2.2.2.2 (x + 59) (fun z => by unfold In7 at z; omega) 2).trans e592
  have e593b := (hc2.2.2.2.2 (x + 59) (fun z => by unfold In7 at z; omega) 3).trans e593
  have o0b := hT2.o0
  have r2b := hT2.r0_2
  have a8b := hT2.a8
  have rtb := hT2.rt hs
  have otb := hT2.ot hs
  refine g_aload_n (j := 0) rfl dX11_replaceForm_20 ?_
  refine g_getR dX11_replaceForm_21 flX11_24 rfl (by assumption) (kz := 2) rfl (by assumption) ?_
  refine g_iload_n (j := 1) rfl dX11_replaceForm_24 ?_
  refine g_aald dX11_replaceForm_25 (by assumption) (by omega) (by omega) (by omega) (by assumption) ?_
  
  refine g_callV dX11_replaceForm_26 mlX11_302 mvX9_forget (ci := 9) ⟨by decide, rfl⟩ (by assumption) (c_X9_forget w (d + 4) μ2 otb) sv0 rfl (by omega) (Nat.le_of_ble_eq_true rfl) (Nat.le_refl _) (Nat.le_refl _) (fun v μ3 hR => ?_)
  obtain ⟨rfl, hm3⟩ := hR
  have hc3 : ChI (Pr x s) μ2 μ3 := by rw [hm3]; exact (ChI.s (by unfold Pr; omega)).tr (ChI.s (by unfold Pr; omega))
  have hc13 := hc12.tr hc3
  have hT3 : TPS w μ3 x := h.tps.fr (Fr.ofI (K := fun _ _ => False) hc13) fun _ _ _ z => z.elim
  have o0c := hT3.o0
  have r7c := hT3.r0_7
  have o59c := hT3.o59
  have e592c : mI μ3 (x + 59) 2 = mI μ (x + 59) 2 := by rw [hm3, mI_sI, if_neg (by omega), mI_sI, if_neg (by omega)]; exact e592b
  have e593c : mI μ3 (x + 59) 3 = mI μ (x + 59) 3 := by rw [hm3, mI_sI, if_neg (by omega), mI_sI, if_neg (by omega)]; exact e593b
  have hI3 : FI μ3 (fA x s) ([] ++ ts) := by
    have hcx : ChI (fun a => a = tA x s) μ2 μ3 := by rw [hm3]; exact (ChI.s (P := fun a => a = tA x s) rfl).tr (ChI.s (P := fun a => a = tA x s) rfl)
    exact hcx.FI (fun a z1 z2 z => by omega) hI2
  have t2 : mI μ3 (tA x s) 2 = 0 := by rw [hm3, mI_sI, if_neg (by omega), mI_sI, if_pos ⟨rfl, rfl⟩]
  have t3 : mI μ3 (tA x s) 3 = 0 := by rw [hm3, mI_sI, if_pos ⟨rfl, rfl⟩]
  refine g_aload_n (j := 0) rfl dX11_replaceForm_29 ?_
  refine g_getR dX11_replaceForm_30 flX11_60 rfl (by assumption) (kz := 7) rfl (by assumption) ?_
  refine g_iload_n (j := 1) rfl dX11_replaceForm_33 ?_
  refine g_callV dX11_replaceForm_34 mlX11_305 mvX7_forget (ci := 7) ⟨by decide, rfl⟩ (by assumption) (c_forget w (d + 4) μ3 o59c (x := s) (by omega) (by rw [e592c]; have := h.2.2.1.2.2.2.1; omega)) sv1 rfl (by omega) (Nat.le_of_ble_eq_true rfl) (Nat.le_refl _) (Nat.le_refl _) (fun v μ4 hR => ?_)
  obtain ⟨rfl, hm4⟩ := hR
  have hc4 : ChI (Pr x s) μ3 μ4 := by rw [hm4]; exact ChI.s (by unfold Pr; omega)
  refine G.retV dX11_replaceForm_37 rfl ⟨rfl, h.rep hs (hc13.tr hc4) (fun a z => Or.inl z) ?_ ?_ ?_ ?_ ?_, hc13.tr hc4⟩
  · have hcx : ChI (fun a => a = x + 59) μ3 μ4 := by rw [hm4]; exact ChI.s rfl
    exact hcx.FI (fun a z1 z2 z => by omega) hI3
  · rw [hm4, mI_sI, if_neg (by omega)]; exact t2
  · rw [hm4, mI_sI, if_neg (by omega)]; exact t3
  · rw [hm4, mI_sI, if_pos ⟨rfl, rfl⟩, e592c]
  · rw [hm4, mI_sI, if_neg (by omega)]; exact e593c
theorem CA.j41 {w : WC} {μ μ2 : Mem} {x c N : Nat} {F : Int → List Tm} (h : CA w μ x F c N) (hc : ChI (In7 (x + 41)) μ μ2) : CA w μ2 x F c N := h.fr (Fr.ofI (K := fun _ _ => False) hc) (fun a z => by unfold In7 at z; omega) (fun _ _ z => z.elim)
def dpF (i : Int) : Int → List Tm → List Tm
  | _, [] => []
  | t, u :: us => if t = i then dpF i (t + 1) us else u :: dpF i (t + 1) us
theorem dpF_len (i : Int) : ∀ (us : List Tm) (t : Int), (dpF i t us).length ≤ us.length
  | [], t => by simp [dpF]
  | u :: us, t => by
    have := dpF_len i us (t + 1)
    unfold dpF
    split <;> simp <;> omega
theorem dpF_eq (i : Int) : ∀ (us : List Tm) (t : Int), dpF i t us = if i < t then us else us.eraseIdx (i - t).toNat
  | [], t => by simp [dpF]
  | u :: us, t => by
    have ih := dpF_eq i us (t + 1)
    unfold dpF
    by_cases h1 : t = i
    · subst h1
      rw [if_pos rfl, ih, if_pos (by omega), if_neg (by omega), show (t - t).toNat = 0 by omega]
      rfl
    · rw [if_neg h1, ih]
      by_cases h2 : i < t
      · rw [if_pos (by omega), if_pos h2]
      · rw [if_neg (by omega), if_neg h2, show (i - t).toNat = (i - (t + 1)).toNat + 1 by omega]
        rfl

theorem l_drop {w : WC} {d : Nat} {x c N : Nat} {F : Int → List Tm} {s i : Int} (hs : 0 ≤ s ∧ s ≤ 3) (hi : i32 i) : ∀ (n : Nat) (t : Int) (μ : Mem) (acc : List Tm), t + n = (F s).length → 0 ≤ t → CA w μ x F c N → FI μ (x + 41) acc → acc.length + n ≤ 5 + (0 : Nat) → acc.length + (dpF i t ((F s).drop t.toNat)).length ≤ 5 →
    G w (d + 6) mX11_drop (fun v μ2 => v = some (vI 1) ∧ CA w μ2 x (fmF F s (acc ++ dpF i t ((F s).drop t.toNat))) c N ∧ ChI (Pj x s) μ μ2) 0 0 21 [some (vP (some x)), some (vI s), some (vI i), some (vI t)] [] μ := by
  intro n
  induction n with
  | zero =>
    intro t μ acc hn h0 h hJ ha hb
    have o0 := h.tps.o0
    have r1 := h.tps.r0_1
    have r3 := h.tps.r0_3
    have a7 := h.tps.a7
    have rf := h.tps.rf hs
    have of := (h.tps.fs hs).1
    have ec := (h.fm hs).1
    have h5 := h.l5 hs
    have hd : (F s).drop t.toNat = [] := List.drop_eq_nil_of_le (by omega)
    rw [hd]
    simp only [dpF, List.append_nil]
    refine g_iload_n (j := 3) rfl dX11_drop_21 ?_
    refine g_aload_n (j := 0) rfl dX11_drop_22 ?_
    refine g_getR dX11_drop_23 flX11_18 rfl (by assumption) (kz := 1) rfl (by assumption) ?_
    refine g_iload_n (j := 1) rfl dX11_drop_26 ?_
    refine g_aald dX11_drop_27 (by assumption) (by omega) (by omega) (by omega) (by assumption) ?_
    refine g_getI dX11_drop_28 flX11_125 rfl (by assumption) (kz := 0) rfl ?_
    refine g_icmp_ge (tgt := 59) dX11_drop_31 (by decide) (by omega) (by omega) (fun h31 => ?_) (fun h31 => ?_)
    · refine g_aload_n (j := 0) rfl dX11_drop_59 ?_
      refine g_iload_n (j := 1) rfl dX11_drop_60 ?_
      refine g_aload_n (j := 0) rfl dX11_drop_61 ?_
      refine g_getR dX11_drop_62 flX11_30 rfl (by assumption) (kz := 3) rfl (by assumption) ?_
      refine g_callV dX11_drop_65 mlX11_121 mvX11_replaceForm (ci := 11) ⟨by decide, rfl⟩ (by assumption) (c_replaceForm w d μ h hs (q := x + 41) (Or.inl rfl) h.tps.f41 hJ) sv2 rfl (by omega) (Nat.le_of_ble_eq_true rfl) (Nat.le_refl _) (Nat.le_refl _) (fun v μ2 hR => ?_)
      obtain ⟨rfl, h2, hc2⟩ := hR
      refine g_iconst dX11_drop_68 ?_
      exact G.retZ dX11_drop_69 rfl (Or.inr rfl) ⟨rfl, h2, hc2.mono (fun a z => Or.inl z)⟩
    · omega
  | succ n ih =>
    intro t μ acc hn h0 h hJ ha hb
    have o0 := h.tps.o0
    have r1 := h.tps.r0_1
    have r3 := h.tps.r0_3
    have a7 := h.tps.a7
    have rf := h.tps.rf hs
    have of := (h.tps.fs hs).1
    have ec := (h.fm hs).1
    have h5 := h.l5 hs
    have f41 := h.tps.f41
    have o41 := f41.1
    obtain ⟨u, hu, hku, hat⟩ := (h.fm hs).at (t := t) h0 (by omega)
    have hd := drop_at h0 (by omega) hu
    rw [hd]
    rw [hd] at hb
    refine g_iload_n (j := 3) rfl dX11_drop_21 ?_
    refine g_aload_n (j := 0) rfl dX11_drop_22 ?_
    refine g_getR dX11_drop_23 flX11_18 rfl (by assumption) (kz := 1) rfl (by assumption) ?_
    refine g_iload_n (j := 1) rfl dX11_drop_26 ?_
    refine g_aald dX11_drop_27 (by assumption) (by omega) (by omega) (by omega) (by assumption) ?_
    refine g_getI dX11_drop_28 flX11_125 rfl (by assumption) (kz := 0) rfl ?_
    refine g_icmp_ge (tgt := 59) dX11_drop_31 (by decide) (by omega) (by omega) (fun h31 => ?_) (fun h31 => ?_)
    · omega
    · refine g_iload_n (j := 3) rfl dX11_drop_34 ?_
      refine g_iload_n (j := 2) rfl dX11_drop_35 ?_
      refine g_icmp_eq (tgt := 53) dX11_drop_36 (by decide) (by omega) (by omega) (fun h36 => ?_) (fun h36 => ?_)
      · refine g_iinc (i := 3) dX11_drop_53 rfl (by decide) rfl ls3 ?_
        refine g_goto (tgt := 21) (by decide) dX11_drop_56 ?_
        rw [dpF, if_pos (by assumption)] at hb ⊢
        exact ih (t + 1) μ acc (by omega) (by omega) h hJ (by omega) hb
      · refine g_aload_n (j := 0) rfl dX11_drop_39 ?_
        refine g_getR dX11_drop_40 flX11_30 rfl (by assumption) (kz := 3) rfl (by assumption) ?_
        refine g_aload_n (j := 0) rfl dX11_drop_43 ?_
        refine g_getR dX11_drop_44 flX11_18 rfl (by assumption) (kz := 1) rfl (by assumption) ?_
        refine g_iload_n (j := 1) rfl dX11_drop_47 ?_
        refine g_aald dX11_drop_48 (by assumption) (by omega) (by omega) (by omega) (by assumption) ?_
        refine g_iload_n (j := 3) rfl dX11_drop_49 ?_
        refine g_callV dX11_drop_50 mlX11_244 mvX1_addTermOf (ci := 1) ⟨by decide, rfl⟩ (by assumption) (c_addTermOf w (d + 2) μ f41 (h.tps.fs hs) hJ (h.fm hs) (t := t) (by omega) hu (by rw [dpF, if_neg (by assumption)] at hb; simp at hb; omega)) sv2 rfl (by omega) (Nat.le_of_ble_eq_true rfl) (Nat.le_refl _) (Nat.le_refl _) (fun v μ2 hR => ?_)
        obtain ⟨rfl, hm2⟩ := hR
        have hc2 : ChI (In7 (x + 41)) μ μ2 := by rw [hm2]; exact addT_ch _ _ _ _ _ _
        have hJ2 : FI μ2 (x + 41) (acc ++ [u]) := by rw [hm2]; exact addT_FI hJ u hku (by rw [dpF, if_neg (by assumption)] at hb; simp at hb; omega)
        have h2 := h.j41 hc2
        refine g_iinc (i := 3) dX11_drop_53 rfl (by decide) rfl ls3 ?_
        refine g_goto (tgt := 21) (by decide) dX11_drop_56 ?_
        rw [dpF, if_neg (by assumption)] at hb ⊢
        refine G.post (fun v μ3 hq => ?_) (ih (t + 1) μ2 (acc ++ [u]) (by omega) (by omega) h2 hJ2 (by simp; omega) (by simp at hb ⊢; omega))
        refine ⟨hq.1, ?_, (hc2.mono (fun a z => Or.inr (by unfold In7 at z; omega))).tr hq.2.2⟩
        have := hq.2.1
        rwa [List.append_assoc] at this
theorem l_lead {w : WC} {d : Nat} {x c N : Nat} {F : Int → List Tm} {s i : Int} (hs : 0 ≤ s ∧ s ≤ 3) (hi : i32 i) : ∀ (n : Nat) (t : Int) (μ : Mem) (acc : List Tm), t + n = (F s).length → 0 ≤ t → CA w μ x F c N → FI μ (x + 41) acc → acc.length + n ≤ 5 + (1 : Nat) → acc.length + (dpF i t ((F s).drop t.toNat)).length ≤ 5 →
    G w (d + 6) mX11_lead (fun v μ2 => v = some (vI 1) ∧ CA w μ2 x (fmF F s (acc ++ dpF i t ((F s).drop t.toNat))) c N ∧ ChI (Pj x s) μ μ2) 0 0 35 [some (vP (some x)), some (vI s), some (vI i), some (vI t)] [] μ := by
  intro n
  induction n with
  | zero =>
    intro t μ acc hn h0 h hJ ha hb
    have o0 := h.tps.o0
    have r1 := h.tps.r0_1
    have r3 := h.tps.r0_3
    have a7 := h.tps.a7
    have rf := h.tps.rf hs
    have of := (h.tps.fs hs).1
    have ec := (h.fm hs).1
    have h5 := h.l5 hs
    have hd : (F s).drop t.toNat = [] := List.drop_eq_nil_of_le (by omega)
    rw [hd]
    simp only [dpF, List.append_nil]
    refine g_iload_n (j := 3) rfl dX11_lead_35 ?_
    refine g_aload_n (j := 0) rfl dX11_lead_36 ?_
    refine g_getR dX11_lead_37 flX11_18 rfl (by assumption) (kz := 1) rfl (by assumption) ?_
    refine g_iload_n (j := 1) rfl dX11_lead_40 ?_
    refine g_aald dX11_lead_41 (by assumption) (by omega) (by omega) (by omega) (by assumption) ?_
    refine g_getI dX11_lead_42 flX11_125 rfl (by assumption) (kz := 0) rfl ?_
    refine g_icmp_ge (tgt := 73) dX11_lead_45 (by decide) (by omega) (by omega) (fun h45 => ?_) (fun h45 => ?_)
    · refine g_aload_n (j := 0) rfl dX11_lead_73 ?_
      refine g_iload_n (j := 1) rfl dX11_lead_74 ?_
      refine g_aload_n (j := 0) rfl dX11_lead_75 ?_
      refine g_getR dX11_lead_76 flX11_30 rfl (by assumption) (kz := 3) rfl (by assumption) ?_
      refine g_callV dX11_lead_79 mlX11_121 mvX11_replaceForm (ci := 11) ⟨by decide, rfl⟩ (by assumption) (c_replaceForm w d μ h hs (q := x + 41) (Or.inl rfl) h.tps.f41 hJ) sv2 rfl (by omega) (Nat.le_of_ble_eq_true rfl) (Nat.le_refl _) (Nat.le_refl _) (fun v μ2 hR => ?_)
      obtain ⟨rfl, h2, hc2⟩ := hR
      refine g_iconst dX11_lead_82 ?_
      exact G.retZ dX11_lead_83 rfl (Or.inr rfl) ⟨rfl, h2, hc2.mono (fun a z => Or.inl z)⟩
    · omega
  | succ n ih =>
    intro t μ acc hn h0 h hJ ha hb
    have o0 := h.tps.o0
    have r1 := h.tps.r0_1
    have r3 := h.tps.r0_3
    have a7 := h.tps.a7
    have rf := h.tps.rf hs
    have of := (h.tps.fs hs).1
    have ec := (h.fm hs).1
    have h5 := h.l5 hs
    have f41 := h.tps.f41
    have o41 := f41.1
    obtain ⟨u, hu, hku, hat⟩ := (h.fm hs).at (t := t) h0 (by omega)
    have hd := drop_at h0 (by omega) hu
    rw [hd]
    rw [hd] at hb
    refine g_iload_n (j := 3) rfl dX11_lead_35 ?_
    refine g_aload_n (j := 0) rfl dX11_lead_36 ?_
    refine g_getR dX11_lead_37 flX11_18 rfl (by assumption) (kz := 1) rfl (by assumption) ?_
    refine g_iload_n (j := 1) rfl dX11_lead_40 ?_
    refine g_aald dX11_lead_41 (by assumption) (by omega) (by omega) (by omega) (by assumption) ?_
    refine g_getI dX11_lead_42 flX11_125 rfl (by assumption) (kz := 0) rfl ?_
    refine g_icmp_ge (tgt := 73) dX11_lead_45 (by decide) (by omega) (by omega) (fun h45 => ?_) (fun h45 => ?_)
    · omega
    · refine g_iload_n (j := 3) rfl dX11_lead_48 ?_
      refine g_iload_n (j := 2) rfl dX11_lead_49 ?_
      refine g_icmp_eq (tgt := 67) dX11_lead_50 (by decide) (by omega) (by omega) (fun h50 => ?_) (fun h50 => ?_)
      · refine g_iinc (i := 3) dX11_lead_67 rfl (by decide) rfl ls3 ?_
        refine g_goto (tgt := 35) (by decide) dX11_lead_70 ?_
        rw [dpF, if_pos (by assumption)] at hb ⊢
        exact ih (t + 1) μ acc (by omega) (by omega) h hJ (by omega) hb
      · refine g_aload_n (j := 0) rfl dX11_lead_53 ?_
        refine g_getR dX11_lead_54 flX11_30 rfl (by assumption) (kz := 3) rfl (by assumption) ?_
        refine g_aload_n (j := 0) rfl dX11_lead_57 ?_
        refine g_getR dX11_lead_58 flX11_18 rfl (by assumption) (kz := 1) rfl (by assumption) ?_
        refine g_iload_n (j := 1) rfl dX11_lead_61 ?_
        refine g_aald dX11_lead_62 (by assumption) (by omega) (by omega) (by omega) (by assumption) ?_
        refine g_iload_n (j := 3) rfl dX11_lead_63 ?_
        refine g_callV dX11_lead_64 mlX11_244 mvX1_addTermOf (ci := 1) ⟨by decide, rfl⟩ (by assumption) (c_addTermOf w (d + 2) μ f41 (h.tps.fs hs) hJ (h.fm hs) (t := t) (by omega) hu (by rw [dpF, if_neg (by assumption)] at hb; simp at hb; omega)) sv2 rfl (by omega) (Nat.le_of_ble_eq_true rfl) (Nat.le_refl _) (Nat.le_refl _) (fun v μ2 hR => ?_)
        obtain ⟨rfl, hm2⟩ := hR
        have hc2 : ChI (In7 (x + 41)) μ μ2 := by rw [hm2]; exact addT_ch _ _ _ _ _ _
        have hJ2 : FI μ2 (x + 41) (acc ++ [u]) := by rw [hm2]; exact addT_FI hJ u hku (by rw [dpF, if_neg (by assumption)] at hb; simp at hb; omega)
        have h2 := h.j41 hc2
        refine g_iinc (i := 3) dX11_lead_67 rfl (by decide) rfl ls3 ?_
        refine g_goto (tgt := 35) (by decide) dX11_lead_70 ?_
        rw [dpF, if_neg (by assumption)] at hb ⊢
        refine G.post (fun v μ3 hq => ?_) (ih (t + 1) μ2 (acc ++ [u]) (by omega) (by omega) h2 hJ2 (by simp; omega) (by simp at hb ⊢; omega))
        refine ⟨hq.1, ?_, (hc2.mono (fun a z => Or.inr (by unfold In7 at z; omega))).tr hq.2.2⟩
        have := hq.2.1
        rwa [List.append_assoc] at this
theorem c_X11_drop (w : WC) (d : Nat) (μ : Mem) {x c N : Nat} {F : Int → List Tm} (h : CA w μ x F c N) {s i : Int} (hs : i32 s) (hi : i32 i) : Con w (d + 6) mX11_drop 0 0 [vP (some x), vI s, vI i] μ (fun v μ2 => v = some (vI (bI (HasI F s i))) ∧ ((HasI F s i ∧ CA w μ2 x (fmF F s ((F s).eraseIdx i.toNat)) c N ∧ ChI (Pj x s) μ μ2) ∨ (¬ HasI F s i ∧ μ2 = μ))) := by
  have o0 := h.tps.o0
  have r3 := h.tps.r0_3
  have o41 := h.tps.f41.1
  refine Con.of (by decide) (Nat.le_of_ble_eq_true rfl) rfl ?_
  refine g_aload_n (j := 0) rfl dX11_drop_0 ?_
  refine g_iload_n (j := 1) rfl dX11_drop_1 ?_
  refine g_iload_n (j := 2) rfl dX11_drop_2 ?_
  refine g_callV dX11_drop_3 mlX11_157 mvX11_hasTerm (ci := 11) ⟨by decide, rfl⟩ (by assumption) (c_hasTerm w (d + 4) μ h hs hi) sv2 rfl (by omega) (Nat.le_of_ble_eq_true rfl) (Nat.le_refl _) (Nat.le_refl _) (fun v μ2 hR => ?_)
  obtain ⟨rfl, hm⟩ := hR
  replace hm := hm.symm
  subst hm
  refine g_ifb_ne (tgt := 11) dX11_drop_6 (by decide)  (fun h6 => ?_) (fun h6 => ?_)
  · refine g_aload_n (j := 0) rfl dX11_drop_11 ?_
    refine g_getR dX11_drop_12 flX11_30 rfl (by assumption) (kz := 3) rfl (by assumption) ?_
    refine g_iconst dX11_drop_15 ?_
    refine g_putI dX11_drop_16 fpX11_125 rfl rfl rfl (by assumption) (kz := 0) rfl ?_
    refine g_iconst dX11_drop_19 ?_
    refine g_istore_n (j := 3) dX11_drop_20 (by decide) rfl ls3 ?_
    have hc1 : ChI (In7 (x + 41)) μ (sI μ (x + 41) 0 0) := ChI.s (by unfold In7; omega)
    have h5 := h.l5 h6.1
    have hl := dpF_len i (F s) 0
    refine G.post (fun v μ3 hq => ?_) (l_drop (d := d) h6.1 hi (F s).length 0 (sI μ (x + 41) 0 0) [] (by omega) (by omega) (h.j41 hc1) (FI.nil (by rw [mI_sI, if_pos ⟨rfl, rfl⟩])) (by simp; omega) (by simp; omega))
    rw [bI_1 h6]
    refine ⟨hq.1, Or.inl ⟨h6, ?_, (hc1.mono (fun a z => Or.inr (by unfold In7 at z; omega))).tr hq.2.2⟩⟩
    have := hq.2.1
    rw [show (F s).drop (0 : Int).toNat = F s from rfl, dpF_eq, if_neg (by have := h6.2.1; omega), show i - 0 = i by omega] at this
    exact this
  · refine g_iconst dX11_drop_9 ?_
    exact G.retB dX11_drop_10 rfl (eq_bI (Or.inr ⟨rfl, h6⟩)) ⟨rfl, Or.inr ⟨h6, rfl⟩⟩
theorem c_X11_lead (w : WC) (d : Nat) (μ : Mem) {x c N : Nat} {F : Int → List Tm} (h : CA w μ x F c N) {s i : Int} (hs : i32 s) (hi : i32 i) : Con w (d + 6) mX11_lead 0 0 [vP (some x), vI s, vI i] μ (fun v μ2 => v = some (vI (bI (HasI F s i))) ∧ ((HasI F s i ∧ CA w μ2 x (fmF F s (tAt (F s) i :: (F s).eraseIdx i.toNat)) c N ∧ ChI (Pj x s) μ μ2) ∨ (¬ HasI F s i ∧ μ2 = μ))) := by
  have o0 := h.tps.o0
  have r1 := h.tps.r0_1
  have a7 := h.tps.a7
  have r3 := h.tps.r0_3
  have o41 := h.tps.f41.1
  refine Con.of (by decide) (Nat.le_of_ble_eq_true rfl) rfl ?_
  refine g_aload_n (j := 0) rfl dX11_lead_0 ?_
  refine g_iload_n (j := 1) rfl dX11_lead_1 ?_
  refine g_iload_n (j := 2) rfl dX11_lead_2 ?_
  refine g_callV dX11_lead_3 mlX11_157 mvX11_hasTerm (ci := 11) ⟨by decide, rfl⟩ (by assumption) (c_hasTerm w (d + 4) μ h hs hi) sv2 rfl (by omega) (Nat.le_of_ble_eq_true rfl) (Nat.le_refl _) (Nat.le_refl _) (fun v μ2 hR => ?_)
  obtain ⟨rfl, hm⟩ := hR
  replace hm := hm.symm
  subst hm
  refine g_ifb_ne (tgt := 11) dX11_lead_6 (by decide)  (fun h6 => ?_) (fun h6 => ?_)
  · refine g_aload_n (j := 0) rfl dX11_lead_11 ?_
    refine g_getR dX11_lead_12 flX11_30 rfl (by assumption) (kz := 3) rfl (by assumption) ?_
    refine g_iconst dX11_lead_15 ?_
    refine g_putI dX11_lead_16 fpX11_125 rfl rfl rfl (by assumption) (kz := 0) rfl ?_
    have hc1 : ChI (In7 (x + 41)) μ (sI μ (x + 41) 0 0) := ChI.s (by unfold In7; omega)
    have h1 := h.j41 hc1
    have hN1 : FI (sI μ (x + 41) 0 0) (x + 41) [] := FI.nil (by rw [mI_sI, if_pos ⟨rfl, rfl⟩])
    obtain ⟨u, hu, hku, hat⟩ := (h.fm h6.1).at (t := i) h6.2.1 h6.2.2
    have rf := h.tps.rf h6.1
    have h6a := h6.1
    refine g_aload_n (j := 0) rfl dX11_lead_19 ?_
    refine g_getR dX11_lead_20 flX11_30 rfl (by simp only [IsO_sI, IsO_sL, IsO_sR, IsO_wI, IsO_wL, IsA_sI, IsA_sL, IsA_sR, IsA_wI, IsA_wL, mR_sI, mR_sL, mR_wI, mR_wL]; assumption) (kz := 3) rfl (by simp only [IsO_sI, IsO_sL, IsO_sR, IsO_wI, IsO_wL, IsA_sI, IsA_sL, IsA_sR, IsA_wI, IsA_wL, mR_sI, mR_sL, mR_wI, mR_wL]; assumption) ?_
    refine g_aload_n (j := 0) rfl dX11_lead_23 ?_
    refine g_getR dX11_lead_24 flX11_18 rfl (by simp only [IsO_sI, IsO_sL, IsO_sR, IsO_wI, IsO_wL, IsA_sI, IsA_sL, IsA_sR, IsA_wI, IsA_wL, mR_sI, mR_sL, mR_wI, mR_wL]; assumption) (kz := 1) rfl (by simp only [IsO_sI, IsO_sL, IsO_sR, IsO_wI, IsO_wL, IsA_sI, IsA_sL, IsA_sR, IsA_wI, IsA_wL, mR_sI, mR_sL, mR_wI, mR_wL]; assumption) ?_
    refine g_iload_n (j := 1) rfl dX11_lead_27 ?_
    refine g_aald dX11_lead_28 (by simp only [IsO_sI, IsO_sL, IsO_sR, IsO_wI, IsO_wL, IsA_sI, IsA_sL, IsA_sR, IsA_wI, IsA_wL, mR_sI, mR_sL, mR_wI, mR_wL]; assumption) (by omega) (by omega) (by omega) (by simp only [IsO_sI, IsO_sL, IsO_sR, IsO_wI, IsO_wL, IsA_sI, IsA_sL, IsA_sR, IsA_wI, IsA_wL, mR_sI, mR_sL, mR_wI, mR_wL]; assumption) ?_
    refine g_iload_n (j := 2) rfl dX11_lead_29 ?_
    refine g_callV dX11_lead_30 mlX11_244 mvX1_addTermOf (ci := 1) ⟨by decide, rfl⟩ (by simp only [IsO_sI, IsO_sL, IsO_sR, IsO_wI, IsO_wL, IsA_sI, IsA_sL, IsA_sR, IsA_wI, IsA_wL, mR_sI, mR_sL, mR_wI, mR_wL]; assumption) (c_addTermOf w (d + 2) (sI μ (x + 41) 0 0) h1.tps.f41 (h1.tps.fs h6.1) hN1 (h1.fm h6.1) (t := i) (by have := h6.2; omega) hu (by simp)) sv2 rfl (by omega) (Nat.le_of_ble_eq_true rfl) (Nat.le_refl _) (Nat.le_refl _) (fun v μ2 hR => ?_)
    obtain ⟨rfl, hm2⟩ := hR
    have hc2 : ChI (In7 (x + 41)) (sI μ (x + 41) 0 0) μ2 := by rw [hm2]; exact addT_ch _ _ _ _ _ _
    have hJ2 : FI μ2 (x + 41) ([] ++ [u]) := by rw [hm2]; exact addT_FI hN1 u hku (by simp)
    have h2 := h1.j41 hc2
    refine g_iconst dX11_lead_33 ?_
    refine g_istore_n (j := 3) dX11_lead_34 (by decide) rfl ls3 ?_
    have h5 := h.l5 h6.1
    have hl : (dpF i 0 (F s)).length + 1 ≤ 5 := by
      rw [dpF_eq, if_neg (by have := h6.2.1; omega), List.length_eraseIdx]
      have := h6.2
      split <;> omega
    refine G.post (fun v μ3 hq => ?_) (l_lead (d := d) h6.1 hi (F s).length 0 μ2 ([] ++ [u]) (by omega) (by omega) h2 hJ2 (by simp; omega) (by simp; omega))
    rw [bI_1 h6]
    refine ⟨hq.1, Or.inl ⟨h6, ?_, ((hc1.tr hc2).mono (fun a z => Or.inr (by unfold In7 at z; omega))).tr hq.2.2⟩⟩
    have := hq.2.1
    rw [show (F s).drop (0 : Int).toNat = F s from rfl, dpF_eq, if_neg (by have := h6.2.1; omega), show i - 0 = i by omega] at this
    rw [tAt_of hu]
    exact this
  · refine g_iconst dX11_lead_9 ?_
    exact G.retB dX11_lead_10 rfl (eq_bI (Or.inr ⟨rfl, h6⟩)) ⟨rfl, Or.inr ⟨h6, rfl⟩⟩
theorem c_X11_join (w : WC) (d : Nat) (μ : Mem) {x c N : Nat} {F : Int → List Tm} (h : CA w μ x F c N) {s s2 s3 : Int} (hs : i32 s) (hs2 : i32 s2) (hs3 : i32 s3) : Con w (d + 6) mX11_join 0 0 [vP (some x), vI s, vI s2, vI s3] μ (fun v μ2 => ∃ P : Prop, (P ↔ ((0 ≤ s ∧ s ≤ 3) ∧ (0 ≤ s2 ∧ s2 ≤ 3) ∧ (0 ≤ s3 ∧ s3 ≤ 3) ∧ 1 ≤ (F s).length + (F s2).length ∧ (F s).length + (F s2).length ≤ 5)) ∧ v = some (vI (bI P)) ∧ ((P ∧ CA w μ2 x (fmF F s3 (F s ++ F s2)) c N ∧ ChI (Pj x s3) μ μ2) ∨ (¬ P ∧ μ2 = μ))) := by
  have o0 := h.tps.o0
  have r1 := h.tps.r0_1
  have a7 := h.tps.a7
  have r3 := h.tps.r0_3
  have f41 := h.tps.f41
  have o41 := f41.1
  refine Con.of (by decide) (Nat.le_of_ble_eq_true rfl) rfl ?_
  refine g_iload_n (j := 1) rfl dX11_join_0 ?_
  refine g_callS dX11_join_1 mlX11_110 msX11_isSlot (c_X11_isSlot w (d + 5) μ hs) sk1 rfl (by omega) (Nat.le_of_ble_eq_true rfl) (Nat.le_refl _) (Nat.le_refl _) (fun v μ2 hR => ?_)
  obtain ⟨rfl, hm⟩ := hR
  replace hm := hm.symm
  subst hm
  refine g_ifb_eq (tgt := 21) dX11_join_4 (by decide)  (fun h4 => ?_) (fun h4 => ?_)
  · refine g_iconst dX11_join_21 ?_
    exact G.retZ dX11_join_22 rfl (Or.inl rfl) ⟨False, ⟨fun z => z.elim, fun z => by omega⟩, by rw [bI_0 (fun z => z)], Or.inr ⟨fun z => z, rfl⟩⟩
  · refine g_iload_n (j := 2) rfl dX11_join_7 ?_
    refine g_callS dX11_join_8 mlX11_110 msX11_isSlot (c_X11_isSlot w (d + 5) μ hs2) sk1 rfl (by omega) (Nat.le_of_ble_eq_true rfl) (Nat.le_refl _) (Nat.le_refl _) (fun v μ2 hR => ?_)
    obtain ⟨rfl, hm⟩ := hR
    replace hm := hm.symm
    subst hm
    refine g_ifb_eq (tgt := 21) dX11_join_11 (by decide)  (fun h11 => ?_) (fun h11 => ?_)
    · refine g_iconst dX11_join_21 ?_
      exact G.retZ dX11_join_22 rfl (Or.inl rfl) ⟨False, ⟨fun z => z.elim, fun z => by omega⟩, by rw [bI_0 (fun z => z)], Or.inr ⟨fun z => z, rfl⟩⟩
    · refine g_iload_n (j := 3) rfl dX11_join_14 ?_
      refine g_callS dX11_join_15 mlX11_110 msX11_isSlot (c_X11_isSlot w (d + 5) μ hs3) sk1 rfl (by omega) (Nat.le_of_ble_eq_true rfl) (Nat.le_refl _) (Nat.le_refl _) (fun v μ2 hR => ?_)
      obtain ⟨rfl, hm⟩ := hR
      replace hm := hm.symm
      subst hm
      refine g_ifb_ne (tgt := 23) dX11_join_18 (by decide)  (fun h18 => ?_) (fun h18 => ?_)
      · have rf := h.tps.rf h4
        have rf2 := h.tps.rf h11
        have of := (h.tps.fs h4).1
        have of2 := (h.tps.fs h11).1
        have ec := (h.fm h4).1
        have ec2 := (h.fm h11).1
        have hl1 := h.l5 h4
        have hl2 := h.l5 h11
        refine g_aload_n (j := 0) rfl dX11_join_23 ?_
        refine g_getR dX11_join_24 flX11_18 rfl (by assumption) (kz := 1) rfl (by assumption) ?_
        refine g_iload_n (j := 1) rfl dX11_join_27 ?_
        refine g_aald dX11_join_28 (by assumption) (by omega) (by omega) (by omega) (by assumption) ?_
        refine g_getI dX11_join_29 flX11_125 rfl (by assumption) (kz := 0) rfl ?_
        refine g_aload_n (j := 0) rfl dX11_join_32 ?_
        refine g_getR dX11_join_33 flX11_18 rfl (by assumption) (kz := 1) rfl (by assumption) ?_
        refine g_iload_n (j := 2) rfl dX11_join_36 ?_
        refine g_aald dX11_join_37 (by assumption) (by omega) (by omega) (by omega) (by assumption) ?_
        refine g_getI dX11_join_38 flX11_125 rfl (by assumption) (kz := 0) rfl ?_
        refine g_iadd dX11_join_41 ?_
        refine g_istore (i := 4) dX11_join_42 (by decide) rfl ls4 ?_
        refine g_iload (i := 4) rfl dX11_join_44 ?_
        refine g_iconst dX11_join_46 ?_
        refine g_icmp_lt (tgt := 56) dX11_join_47 (by decide) (by omega) (by omega) (fun h47 => ?_) (fun h47 => ?_)
        · refine g_iconst dX11_join_56 ?_
          exact G.retZ dX11_join_57 rfl (Or.inl rfl) ⟨False, ⟨fun z => z.elim, fun z => by omega⟩, by rw [bI_0 (fun z => z)], Or.inr ⟨fun z => z, rfl⟩⟩
        · refine g_iload (i := 4) rfl dX11_join_50 ?_
          refine g_iconst dX11_join_52 ?_
          refine g_icmp_le (tgt := 58) dX11_join_53 (by decide) (by omega) (by omega) (fun h53 => ?_) (fun h53 => ?_)
          · refine g_aload_n (j := 0) rfl dX11_join_58 ?_
            refine g_getR dX11_join_59 flX11_30 rfl (by assumption) (kz := 3) rfl (by assumption) ?_
            refine g_iconst dX11_join_62 ?_
            refine g_putI dX11_join_63 fpX11_125 rfl rfl rfl (by assumption) (kz := 0) rfl ?_
            have hc1 : ChI (In7 (x + 41)) μ (sI μ (x + 41) 0 0) := ChI.s (by unfold In7; omega)
            have h1 := h.j41 hc1
            have hN1 : FI (sI μ (x + 41) 0 0) (x + 41) [] := FI.nil (by rw [mI_sI, if_pos ⟨rfl, rfl⟩])
            have o0b := h1.tps.o0
            have r1b := h1.tps.r0_1
            have a7b := h1.tps.a7
            have r3b := h1.tps.r0_3
            have rfb := h1.tps.rf h4
            have o41b := h1.tps.f41.1
            generalize sI μ (x + 41) 0 0 = μ1 at *
            refine g_aload_n (j := 0) rfl dX11_join_66 ?_
            refine g_getR dX11_join_67 flX11_30 rfl (by assumption) (kz := 3) rfl (by assumption) ?_
            refine g_aload_n (j := 0) rfl dX11_join_70 ?_
            refine g_getR dX11_join_71 flX11_18 rfl (by assumption) (kz := 1) rfl (by assumption) ?_
            refine g_iload_n (j := 1) rfl dX11_join_74 ?_
            refine g_aald dX11_join_75 (by assumption) (by omega) (by omega) (by omega) (by assumption) ?_
            refine g_callV dX11_join_76 mlX11_240 mvX1_addAll (ci := 1) ⟨by decide, rfl⟩ (by assumption) (c_addAll w (d + 1) μ1 (by have := fA_bd x h4; omega) h1.tps.f41 (h1.tps.fs h4) hN1 (h1.fm h4) (by simp; omega)) sv1 rfl (by omega) (Nat.le_of_ble_eq_true rfl) (Nat.le_refl _) (Nat.le_refl _) (fun v μ2 hR => ?_)
            obtain ⟨rfl, hJ2, hc2⟩ := hR
            have h2 := h1.j41 hc2
            have o0c := h2.tps.o0
            have r1c := h2.tps.r0_1
            have a7c := h2.tps.a7
            have r3c := h2.tps.r0_3
            have rf2c := h2.tps.rf h11
            have o41c := h2.tps.f41.1
            refine g_aload_n (j := 0) rfl dX11_join_79 ?_
            refine g_getR dX11_join_80 flX11_30 rfl (by assumption) (kz := 3) rfl (by assumption) ?_
            refine g_aload_n (j := 0) rfl dX11_join_83 ?_
            refine g_getR dX11_join_84 flX11_18 rfl (by assumption) (kz := 1) rfl (by assumption) ?_
            refine g_iload_n (j := 2) rfl dX11_join_87 ?_
            refine g_aald dX11_join_88 (by assumption) (by omega) (by omega) (by omega) (by assumption) ?_
            refine g_callV dX11_join_89 mlX11_240 mvX1_addAll (ci := 1) ⟨by decide, rfl⟩ (by assumption) (c_addAll w (d + 1) μ2 (by have := fA_bd x h11; omega) h2.tps.f41 (h2.tps.fs h11) hJ2 (h2.fm h11) (by simp; omega)) sv1 rfl (by omega) (Nat.le_of_ble_eq_true rfl) (Nat.le_refl _) (Nat.le_refl _) (fun v μ3 hR => ?_)
            obtain ⟨rfl, hJ3, hc3⟩ := hR
            have h3 := h2.j41 hc3
            have o0d := h3.tps.o0
            have r3d := h3.tps.r0_3
            refine g_aload_n (j := 0) rfl dX11_join_92 ?_
            refine g_iload_n (j := 3) rfl dX11_join_93 ?_
            refine g_aload_n (j := 0) rfl dX11_join_94 ?_
            refine g_getR dX11_join_95 flX11_30 rfl (by assumption) (kz := 3) rfl (by assumption) ?_
            refine g_callV dX11_join_98 mlX11_121 mvX11_replaceForm (ci := 11) ⟨by decide, rfl⟩ (by assumption) (c_replaceForm w d μ3 h3 h18 (q := x + 41) (Or.inl rfl) h3.tps.f41 hJ3) sv2 rfl (by omega) (Nat.le_of_ble_eq_true rfl) (Nat.le_refl _) (Nat.le_refl _) (fun v μ4 hR => ?_)
            obtain ⟨rfl, h4b, hc4⟩ := hR
            refine g_iconst dX11_join_101 ?_
            refine G.retZ dX11_join_102 rfl (Or.inr rfl) ⟨True, ⟨fun _ => ⟨h4, h11, h18, by omega, by omega⟩, fun _ => trivial⟩, by rw [bI_1 trivial], Or.inl ⟨trivial, ?_, ?_⟩⟩
            · simpa using h4b
            · exact (((hc1.tr hc2).tr hc3).mono (fun a z => Or.inr (by unfold In7 at z; omega))).tr (hc4.mono (fun a z => Or.inl z))
          · refine g_iconst dX11_join_56 ?_
            exact G.retZ dX11_join_57 rfl (Or.inl rfl) ⟨False, ⟨fun z => z.elim, fun z => by omega⟩, by rw [bI_0 (fun z => z)], Or.inr ⟨fun z => z, rfl⟩⟩
      · refine g_iconst dX11_join_21 ?_
        exact G.retZ dX11_join_22 rfl (Or.inl rfl) ⟨False, ⟨fun z => z.elim, fun z => by omega⟩, by rw [bI_0 (fun z => z)], Or.inr ⟨fun z => z, rfl⟩⟩
