/-! THE MODEL: form -/
def Jb (j : Int) : Prop := Jf j ∨ j = 18 ∨ j = 19
theorem c_begins (w : WC) (d : Nat) (μ : Mem) {m : Nat} {n : Int} {B : Int → Int} (hM : MoS w μ m) (hB : TpM μ m n B) : Con w (d + 3) mX12_begins 0 0 [vP (some m)] μ (fun v μ2 => v = none ∧ StM w μ2 m n B 0 ∧ mI μ2 m 18 = 0 ∧ mI μ2 m 19 = -1 ∧ BaM μ2 m fa0 ∧ FrZ m (fun _ => False) Jb μ μ2) := by
  have o0 := hM.o
  have hO := hB.2.1.1
  refine Con.of (by decide) (Nat.le_of_ble_eq_true rfl) rfl ?_
  refine g_aload_n (j := 0) rfl dX12_begins_0 ?_
  refine g_iconst dX12_begins_1 ?_
  refine g_putI dX12_begins_2 fpX12_122 rfl rfl rfl (by assumption) (kz := 14) rfl ?_
  refine g_aload_n (j := 0) rfl dX12_begins_5 ?_
  refine g_iconst dX12_begins_6 ?_
  refine g_putI dX12_begins_7 fpX12_153 rfl rfl rfl (by simp only [IsO_sI, IsO_sL, IsO_sR, IsO_wI, IsO_wL, IsA_sI, IsA_sL, IsA_sR, IsA_wI, IsA_wL, mR_sI, mR_sL, mR_wI, mR_wL]; assumption) (kz := 8) rfl ?_
  refine g_aload_n (j := 0) rfl dX12_begins_10 ?_
  refine g_iconst dX12_begins_11 ?_
  refine g_putI dX12_begins_12 fpX12_156 rfl rfl rfl (by simp only [IsO_sI, IsO_sL, IsO_sR, IsO_wI, IsO_wL, IsA_sI, IsA_sL, IsA_sR, IsA_wI, IsA_wL, mR_sI, mR_sL, mR_wI, mR_wL]; assumption) (kz := 9) rfl ?_
  refine g_aload_n (j := 0) rfl dX12_begins_15 ?_
  refine g_iconst dX12_begins_16 ?_
  refine g_putI dX12_begins_17 fpX12_162 rfl rfl rfl (by simp only [IsO_sI, IsO_sL, IsO_sR, IsO_wI, IsO_wL, IsA_sI, IsA_sL, IsA_sR, IsA_wI, IsA_wL, mR_sI, mR_sL, mR_wI, mR_wL]; assumption) (kz := 10) rfl ?_
  refine g_aload_n (j := 0) rfl dX12_begins_20 ?_
  refine g_iconst dX12_begins_21 ?_
  refine g_putI dX12_begins_22 fpX12_168 rfl rfl rfl (by simp only [IsO_sI, IsO_sL, IsO_sR, IsO_wI, IsO_wL, IsA_sI, IsA_sL, IsA_sR, IsA_wI, IsA_wL, mR_sI, mR_sL, mR_wI, mR_wL]; assumption) (kz := 11) rfl ?_
  refine g_aload_n (j := 0) rfl dX12_begins_25 ?_
  refine g_iconst dX12_begins_26 ?_
  refine g_putI dX12_begins_27 fpX12_159 rfl rfl rfl (by simp only [IsO_sI, IsO_sL, IsO_sR, IsO_wI, IsO_wL, IsA_sI, IsA_sL, IsA_sR, IsA_wI, IsA_wL, mR_sI, mR_sL, mR_wI, mR_wL]; assumption) (kz := 18) rfl ?_
  refine g_aload_n (j := 0) rfl dX12_begins_30 ?_
  refine g_iconst dX12_begins_31 ?_
  refine g_putI dX12_begins_32 fpX12_165 rfl rfl rfl (by simp only [IsO_sI, IsO_sL, IsO_sR, IsO_wI, IsO_wL, IsA_sI, IsA_sL, IsA_sR, IsA_wI, IsA_wL, mR_sI, mR_sL, mR_wI, mR_wL]; assumption) (kz := 19) rfl ?_
  obtain ⟨μ1, hm1⟩ : ∃ μ1, μ1 = sI (sI (sI (sI (sI (sI (sI μ m 14 0) m 8 0) m 9 (-1)) m 10 (-1)) m 11 (-1)) m 18 0) m 19 (-1) := ⟨_, rfl⟩
  rw [← hm1]
  have hf1 : FrZ m (fun _ => False) Jb μ μ1 := by
    rw [hm1]
    exact (((FrZ.sI (by unfold Jb Jf Jn; omega)).tr (FrZ.sI (by unfold Jb Jf Jn; omega))).tr ((FrZ.sI (by unfold Jb Jf Jn; omega)).tr (FrZ.sI (by unfold Jb Jf Jn; omega)))).tr (((FrZ.sI (by unfold Jb Jf Jn; omega)).tr (FrZ.sI (by unfold Jb Jf Jn; omega))).tr (FrZ.sI (by unfold Jb Jf Jn; omega)))
  have hM1 := hf1.Mo hM
  have hB1 := TpM.fr hB hf1 hM (by unfold Jb Jf Jn; omega) (fun z => z)
  have g14 : mI μ1 m 14 = 0 := by rw [hm1]; simp [mI_sI]
  have g8 : mI μ1 m 8 = 0 := by rw [hm1]; simp [mI_sI]
  have g9 : mI μ1 m 9 = -1 := by rw [hm1]; simp [mI_sI]
  have g10 : mI μ1 m 10 = -1 := by rw [hm1]; simp [mI_sI]
  have g11 : mI μ1 m 11 = -1 := by rw [hm1]; simp [mI_sI]
  have g18 : mI μ1 m 18 = 0 := by rw [hm1]; simp [mI_sI]
  have g19 : mI μ1 m 19 = -1 := by rw [hm1]; simp [mI_sI]
  have o01 := hM1.o
  refine g_aload_n (j := 0) rfl dX12_begins_35 ?_
  refine g_callV dX12_begins_36 mlX12_190 mvX12_next (ci := 12) ⟨by decide, rfl⟩ (by assumption) (c_next w d μ1 hM1 hB1 (p0 := 0) g14 (by omega)) sv0 rfl (by omega) (Nat.le_of_ble_eq_true rfl) (Nat.le_refl _) (Nat.le_refl _) (fun v μ2 hR => ?_)
  obtain ⟨rfl, hN2, hs2⟩ := hR
  have ek : ∀ j, ¬ Jn j → mI μ2 m j = mI μ1 m j := hs2.2
  refine G.retV dX12_begins_39 rfl ⟨rfl, ⟨FrZ.Mo hs2 hM1, TpM.fr hB1 hs2 hM1 (by unfold Jn; omega) (fun z => z), hN2, (ek 8 (by unfold Jn; omega)).trans g8⟩, (ek 18 (by unfold Jn; omega)).trans g18, (ek 19 (by unfold Jn; omega)).trans g19, ⟨(ek 8 (by unfold Jn; omega)).trans g8, (ek 9 (by unfold Jn; omega)).trans g9, (ek 10 (by unfold Jn; omega)).trans g10, (ek 11 (by unfold Jn; omega)).trans g11⟩, hf1.tr (FrZ.mono hs2 (fun _ z => z) (fun j z => Or.inl (Or.inl (Or.inl z))))⟩
theorem c_isRead (w : WC) (d : Nat) (μ : Mem) {m : Nat} (hM : MoS w μ m) {f : Int → Int} (hf : BaM μ m f) (h32 : i32 (f 0)) : Con w d mX12_isRead 0 0 [vP (some m)] μ (fun v μ2 => v = some (vI (bI (f 0 = 0))) ∧ mI μ2 m 3 = 0 ∧ FaM μ2 m f ∧ FrZ m (fun _ => False) (fun j => 3 ≤ j ∧ j ≤ 7) μ μ2) := by
  have o0 := hM.o
  obtain ⟨f0, f1, f2, f3⟩ := hf
  refine Con.of (by decide) (Nat.le_of_ble_eq_true rfl) rfl ?_
  refine g_aload_n (j := 0) rfl dX12_isRead_0 ?_
  refine g_iconst dX12_isRead_1 ?_
  refine g_putI dX12_isRead_2 fpX12_115 rfl rfl rfl (by assumption) (kz := 3) rfl ?_
  refine g_aload_n (j := 0) rfl dX12_isRead_5 ?_
  refine g_aload_n (j := 0) rfl dX12_isRead_6 ?_
  refine g_getIv dX12_isRead_7 flX12_153 rfl (by simp only [IsO_sI, IsO_sL, IsO_sR, IsO_wI, IsO_wL, IsA_sI, IsA_sL, IsA_sR, IsA_wI, IsA_wL, mR_sI, mR_sL, mR_wI, mR_wL]; assumption) (kz := 8) rfl (by simp [mI_sI, mI_sL, mI_sR, mI_wI, mI_wL, mL_sI, mL_sL, mL_sR, mL_wI, mL_wL, f0, f1, f2, f3]; rfl) ?_
  refine g_putI dX12_isRead_10 fpX12_193 rfl rfl rfl (by simp only [IsO_sI, IsO_sL, IsO_sR, IsO_wI, IsO_wL, IsA_sI, IsA_sL, IsA_sR, IsA_wI, IsA_wL, mR_sI, mR_sL, mR_wI, mR_wL]; assumption) (kz := 4) rfl ?_
  refine g_aload_n (j := 0) rfl dX12_isRead_13 ?_
  refine g_aload_n (j := 0) rfl dX12_isRead_14 ?_
  refine g_getIv dX12_isRead_15 flX12_156 rfl (by simp only [IsO_sI, IsO_sL, IsO_sR, IsO_wI, IsO_wL, IsA_sI, IsA_sL, IsA_sR, IsA_wI, IsA_wL, mR_sI, mR_sL, mR_wI, mR_wL]; assumption) (kz := 9) rfl (by simp [mI_sI, mI_sL, mI_sR, mI_wI, mI_wL, mL_sI, mL_sL, mL_sR, mL_wI, mL_wL, f0, f1, f2, f3]; rfl) ?_
  refine g_putI dX12_isRead_18 fpX12_21 rfl rfl rfl (by simp only [IsO_sI, IsO_sL, IsO_sR, IsO_wI, IsO_wL, IsA_sI, IsA_sL, IsA_sR, IsA_wI, IsA_wL, mR_sI, mR_sL, mR_wI, mR_wL]; assumption) (kz := 5) rfl ?_
  refine g_aload_n (j := 0) rfl dX12_isRead_21 ?_
  refine g_aload_n (j := 0) rfl dX12_isRead_22 ?_
  refine g_getIv dX12_isRead_23 flX12_162 rfl (by simp only [IsO_sI, IsO_sL, IsO_sR, IsO_wI, IsO_wL, IsA_sI, IsA_sL, IsA_sR, IsA_wI, IsA_wL, mR_sI, mR_sL, mR_wI, mR_wL]; assumption) (kz := 10) rfl (by simp [mI_sI, mI_sL, mI_sR, mI_wI, mI_wL, mL_sI, mL_sL, mL_sR, mL_wI, mL_wL, f0, f1, f2, f3]; rfl) ?_
  refine g_putI dX12_isRead_26 fpX12_25 rfl rfl rfl (by simp only [IsO_sI, IsO_sL, IsO_sR, IsO_wI, IsO_wL, IsA_sI, IsA_sL, IsA_sR, IsA_wI, IsA_wL, mR_sI, mR_sL, mR_wI, mR_wL]; assumption) (kz := 6) rfl ?_
  refine g_aload_n (j := 0) rfl dX12_isRead_29 ?_
  refine g_aload_n (j := 0) rfl dX12_isRead_30 ?_
  refine g_getIv dX12_isRead_31 flX12_168 rfl (by simp only [IsO_sI, IsO_sL, IsO_sR, IsO_wI, IsO_wL, IsA_sI, IsA_sL, IsA_sR, IsA_wI, IsA_wL, mR_sI, mR_sL, mR_wI, mR_wL]; assumption) (kz := 11) rfl (by simp [mI_sI, mI_sL, mI_sR, mI_wI, mI_wL, mL_sI, mL_sL, mL_sR, mL_wI, mL_wL, f0, f1, f2, f3]; rfl) ?_
  refine g_putI dX12_isRead_34 fpX12_28 rfl rfl rfl (by simp only [IsO_sI, IsO_sL, IsO_sR, IsO_wI, IsO_wL, IsA_sI, IsA_sL, IsA_sR, IsA_wI, IsA_wL, mR_sI, mR_sL, mR_wI, mR_wL]; assumption) (kz := 7) rfl ?_
  refine g_aload_n (j := 0) rfl dX12_isRead_37 ?_
  refine g_getIv dX12_isRead_38 flX12_153 rfl (by simp only [IsO_sI, IsO_sL, IsO_sR, IsO_wI, IsO_wL, IsA_sI, IsA_sL, IsA_sR, IsA_wI, IsA_wL, mR_sI, mR_sL, mR_wI, mR_wL]; assumption) (kz := 8) rfl (by simp [mI_sI, mI_sL, mI_sR, mI_wI, mI_wL, mL_sI, mL_sL, mL_sR, mL_wI, mL_wL, f0, f1, f2, f3]; rfl) ?_
  refine g_if_ne (tgt := 48) dX12_isRead_41 (by decide) (by omega) (fun h41 => ?_) (fun h41 => ?_)
  · refine g_iconst dX12_isRead_48 ?_
    first
    | (refine G.retB dX12_isRead_49 rfl (eq_bI (Or.inl ⟨rfl, by omega⟩)) ⟨rfl, by simp [mI_sI], ?_, (((FrZ.sI (by omega)).tr (FrZ.sI (by omega))).tr ((FrZ.sI (by omega)).tr (FrZ.sI (by omega)))).tr (FrZ.sI (by omega))⟩
       unfold FaM
       simp [mI_sI])
    | (refine G.retB dX12_isRead_49 rfl (eq_bI (Or.inr ⟨rfl, by omega⟩)) ⟨rfl, by simp [mI_sI], ?_, (((FrZ.sI (by omega)).tr (FrZ.sI (by omega))).tr ((FrZ.sI (by omega)).tr (FrZ.sI (by omega)))).tr (FrZ.sI (by omega))⟩
       unfold FaM
       simp [mI_sI])
  · refine g_iconst dX12_isRead_44 ?_
    refine g_goto (tgt := 49) (by decide) dX12_isRead_45 ?_
    first
    | (refine G.retB dX12_isRead_49 rfl (eq_bI (Or.inl ⟨rfl, by omega⟩)) ⟨rfl, by simp [mI_sI], ?_, (((FrZ.sI (by omega)).tr (FrZ.sI (by omega))).tr ((FrZ.sI (by omega)).tr (FrZ.sI (by omega)))).tr (FrZ.sI (by omega))⟩
       unfold FaM
       simp [mI_sI])
    | (refine G.retB dX12_isRead_49 rfl (eq_bI (Or.inr ⟨rfl, by omega⟩)) ⟨rfl, by simp [mI_sI], ?_, (((FrZ.sI (by omega)).tr (FrZ.sI (by omega))).tr ((FrZ.sI (by omega)).tr (FrZ.sI (by omega)))).tr (FrZ.sI (by omega))⟩
       unfold FaM
       simp [mI_sI])
def Jt (j : Int) : Prop := Jn j ∨ j = 20
def P12 (m a : Nat) : Prop := a = m + 1 ∨ a = m + 2
/-- what reading a form changes: the form at READ alone -/
def RzF (m : Nat) (μ μ2 : Mem) : Prop := FrZ m (P12 m) Jt μ μ2 ∧ (∀ j, ¬ j = 4 → mI μ2 (m + 1) j = mI μ (m + 1) j) ∧ ∀ j, j < 80 → mI μ2 (m + 2) j = mI μ (m + 2) j
def RzE (m : Nat) (f : Int → Int) (μ μ2 : Mem) : Prop := FrZ m (P12 m) Jf μ μ2 ∧ (∀ j, ¬ j = 4 → mI μ2 (m + 1) j = mI μ (m + 1) j) ∧ (∀ j, j < 80 → mI μ2 (m + 2) j = mI μ (m + 2) j) ∧ BaM μ2 m f
theorem RzF.tr {m : Nat} {μ μ2 μ3 : Mem} (h : RzF m μ μ2) (h2 : RzF m μ2 μ3) : RzF m μ μ3 := ⟨h.1.tr h2.1, fun j z => (h2.2.1 j z).trans (h.2.1 j z), fun j z => (h2.2.2 j z).trans (h.2.2 j z)⟩
theorem RzF.rf {m : Nat} {μ : Mem} : RzF m μ μ := ⟨FrZ.rf, fun _ _ => rfl, fun _ _ => rfl⟩
theorem RzF.E {m : Nat} {f : Int → Int} {μ μ2 μ3 : Mem} (h : RzF m μ μ2) (h2 : RzE m f μ2 μ3) : RzE m f μ μ3 := ⟨(h.1.mono (fun _ z => z) (fun _ z => Or.inl z)).tr h2.1, fun j z => (h2.2.1 j z).trans (h.2.1 j z), fun j z => (h2.2.2.1 j z).trans (h.2.2 j z), h2.2.2.2⟩
theorem RmT.r12 {w : WC} {m : Nat} {J : Int → Prop} {μ μ2 : Mem} (h : FrZ m (fun _ => False) J μ μ2) (hM : MoS w μ m) : (∀ j, mI μ2 (m + 1) j = mI μ (m + 1) j) ∧ ∀ j, mI μ2 (m + 2) j = mI μ (m + 2) j := ⟨h.1.I hM.a0.2.1 (fun z => z.elim (by omega) (fun y => y)), h.1.I hM.a1.2.1 (fun z => z.elim (by omega) (fun y => y))⟩
theorem RmT.z {w : WC} {m : Nat} {μ μ2 : Mem} (h : RmT m μ μ2) (hM : MoS w μ m) : RzF m μ μ2 := ⟨FrZ.mono h (fun _ z => z.elim) (fun _ z => z), fun j _ => (RmT.r12 h hM).1 j, fun j _ => (RmT.r12 h hM).2 j⟩
theorem RmE.z {w : WC} {m : Nat} {f : Int → Int} {μ μ2 : Mem} (h : RmE m f μ μ2) (hM : MoS w μ m) : RzE m f μ μ2 := ⟨FrZ.mono h.1 (fun _ z => z.elim) (fun _ z => z), fun j _ => (RmT.r12 h.1 hM).1 j, fun j _ => (RmT.r12 h.1 hM).2 j, h.2⟩
/-- token i, the terms acc at READ, what lies within -/
def ZS (w : WC) (μ : Mem) (m : Nat) (n : Int) (B : Int → Int) (i : Nat) (acc : List Tm) (fo fi : Int) : Prop := StM w μ m n B i ∧ (mI μ m 18 = fo ∧ mI μ m 19 = fi) ∧ mI μ (m + 1) 4 = acc.length ∧ RdT μ m acc acc.length
theorem ZS.rd {w : WC} {m i i2 : Nat} {n : Int} {B : Int → Int} {acc : List Tm} {fo fi : Int} {μ μ2 : Mem} (h : ZS w μ m n B i acc fo fi) (hS : StM w μ2 m n B i2) (hr : RmT m μ μ2) : ZS w μ2 m n B i2 acc fo fi ∧ ∀ j, mI μ2 (m + 2) j = mI μ (m + 2) j := by
  obtain ⟨q1, ⟨q2, q3⟩, q4, q5⟩ := h
  obtain ⟨e1, e2⟩ := RmT.r12 hr q1.1
  refine ⟨⟨hS, ⟨(hr.2 18 (by unfold Jn; omega)).trans q2, (hr.2 19 (by unfold Jn; omega)).trans q3⟩, (e1 4).trans q4, fun k hk u hu => ?_⟩, e2⟩
  have := q5 k hk u hu
  unfold TmM at this ⊢
  rw [e2, e2, e2, e2]
  exact this
theorem ZS.wr {w : WC} {m i : Nat} {n : Int} {B : Int → Int} {acc : List Tm} {fo fi : Int} {μ : Mem} (h : ZS w μ m n B i acc fo fi) {k v : Int} (hk : 80 + 4 * (acc.length : Int) ≤ k) : ZS w (sI μ (m + 2) k v) m n B i acc fo fi ∧ RzF m μ (sI μ (m + 2) k v) := by
  obtain ⟨q1, ⟨q2, q3⟩, q4, q5⟩ := h
  have hf : FrZ m (P12 m) Jt μ (sI μ (m + 2) k v) := ⟨Fr.sI (Or.inr (Or.inr rfl)), fun j _ => by rw [mI_sI, if_neg (by omega)]⟩
  refine ⟨⟨q1.fr (P := P12 m) (J := fun _ => False) ⟨Fr.sI (Or.inr (Or.inr rfl)), fun j _ => by rw [mI_sI, if_neg (by omega)]⟩ ⟨fun z => z, fun z => z, fun _ _ _ z => z⟩ (by unfold P12; omega) rfl, ⟨by rw [mI_sI, if_neg (by omega)]; exact q2, by rw [mI_sI, if_neg (by omega)]; exact q3⟩, by rw [mI_sI, if_neg (by omega)]; exact q4, fun j hj u hu => ?_⟩, hf, fun j _ => by rw [mI_sI, if_neg (by omega)], fun j hj => by rw [mI_sI, if_neg (by omega)]⟩
  have := q5 j hj u hu
  unfold TmM at this ⊢
  rw [mI_sI, if_neg (by omega), mI_sI, if_neg (by omega), mI_sI, if_neg (by omega), mI_sI, if_neg (by omega)]
  exact this
section ZR
variable {w : WC} {d m : Nat} {n : Int} {B : Int → Int} {R : Option AV → Mem → Prop}
/-- the end: one term more -/
theorem l12_tEnd {μ : Mem} {i : Nat} {acc : List Tm} {fo fi : Int} (h : ZS w μ m n B i acc fo fi) (hl : acc.length ≤ 4) (hok0 : ∀ u ∈ acc, TOk u) {u : Tm} (hok : TOk u) (hu : TmM μ m 4 acc.length u) {l1 l2 l3 l4 : Option AV} (kk : ∀ μ2, StM w μ2 m n B i → mI μ2 m 18 = fo → mI μ2 m 19 = fi → MFI μ2 m 4 (acc ++ [u]) → RzF m μ μ2 → R (some (vI 1)) μ2) : G w (d + 8) mX12_readTerm R 0 0 322 [some (vP (some m)), l1, l2, l3, l4] [] μ := by
  obtain ⟨q1, ⟨q2, q3⟩, q4, q5⟩ := h
  have o0 := q1.1.o
  have r0 := q1.1.r0
  have a0 := q1.1.a0
  refine g_aload_n (j := 0) rfl dX12_readTerm_322 ?_
  refine g_getR dX12_readTerm_323 flX12_9 rfl (by assumption) (kz := 0) rfl (by assumption) ?_
  refine g_iconst dX12_readTerm_326 ?_
  refine g_dup2 rfl rfl dX12_readTerm_327 ?_
  refine g_iald dX12_readTerm_328 (by assumption) (by omega) (by omega) ?_
  refine g_iconst dX12_readTerm_329 ?_
  refine g_iadd dX12_readTerm_330 ?_
  refine g_iast dX12_readTerm_331 (by assumption) (by omega) (by omega) ?_
  refine g_iconst dX12_readTerm_332 ?_
  have hf : RzF m μ (sI μ (m + 1) 4 (mI μ (m + 1) 4 + 1)) := ⟨⟨Fr.sI (Or.inr (Or.inl rfl)), fun j _ => by rw [mI_sI, if_neg (by omega)]⟩, fun j hj => by rw [mI_sI, if_neg (by omega)], fun j _ => by rw [mI_sI, if_neg (by omega)]⟩
  refine G.retZ dX12_readTerm_333 rfl (Or.inr rfl) (kk _ (q1.fr (P := P12 m) (J := fun _ => False) ⟨Fr.sI (Or.inr (Or.inl rfl)), fun j _ => by rw [mI_sI, if_neg (by omega)]⟩ ⟨fun z => z, fun z => z, fun _ _ _ z => z⟩ (by unfold P12; omega) rfl) (by rw [mI_sI, if_neg (by omega)]; exact q2) (by rw [mI_sI, if_neg (by omega)]; exact q3) ⟨?_, ?_, ?_, ?_⟩ hf)
  · rw [mI_sI, if_pos ⟨rfl, rfl⟩, q4, List.length_append]
    rfl
  · rw [List.length_append]
    simp
    omega
  · intro v hv
    rcases List.mem_append.mp hv with z | z
    · exact hok0 v z
    · rw [List.mem_singleton.mp z]
      exact hok
  · intro k v hv
    have key : TmM μ m 4 k v := by
      rcases Nat.lt_or_ge k acc.length with z | z
      · rw [List.getElem?_append_left z] at hv
        exact q5 k z v hv
      · rw [List.getElem?_append_right z] at hv
        have hk : k = acc.length := by
          rcases Nat.eq_zero_or_pos (k - acc.length) with y | y
          · omega
          · rw [List.getElem?_eq_none (by simp; omega)] at hv
            cases hv
        subst hk
        simp at hv
        subst hv
        exact hu
    unfold TmM at key
    rw [mI_sI, if_neg (by omega), mI_sI, if_neg (by omega), mI_sI, if_neg (by omega), mI_sI, if_neg (by omega)]
    exact key
theorem l12_bd2 {μ : Mem} {i : Nat} {acc : List Tm} {fo fi : Int} (h : ZS w μ m n B i acc fo fi) (hl : acc.length ≤ 4) (hok0 : ∀ u ∈ acc, TOk u) {f k lo : Int} (hf : 1 ≤ f ∧ f ≤ 99) (hk : 0 ≤ k ∧ k ≤ 4) (hlo : -3000 ≤ lo ∧ lo ≤ 9999) (hvl : -3000 ≤ pv k f lo ∧ pv k f lo ≤ 3000) (t0 : mI μ (m + 2) (4 * (20 + (acc.length : Int)) + 0) = f) (t1 : mI μ (m + 2) (4 * (20 + (acc.length : Int)) + 1) = k) (t2 : mI μ (m + 2) (4 * (20 + (acc.length : Int)) + 2) = lo) {l2 : Option AV} (kE : ∀ (e : FlT) (μ2 : Mem), rdBd n B f k lo i = .inl e → RzE m (fa4 e.1 (tP n B e.2) fo fi) μ μ2 → R (some (vI 0)) μ2) (kS : ∀ (hi : Int) (j : Nat) (μ2 : Mem), rdBd n B f k lo i = .inr (hi, j) → StM w μ2 m n B (j + 1) → mI μ2 m 18 = fo → mI μ2 m 19 = fi → MFI μ2 m 4 (acc ++ [((f, k, lo, hi) : Tm)]) → RzF m μ μ2 → R (some (vI 1)) μ2) : G w (d + 8) mX12_readTerm R 0 0 259 [some (vP (some m)), some (vI (acc.length : Int)), l2, some (vI (4 * (20 + (acc.length : Int)))), some (vI k)] [] μ := by
  have hS := h.1
  have o0 := hS.1.o
  obtain ⟨e18, e19⟩ := h.2.1
  refine g_aload_n (j := 0) rfl dX12_readTerm_259 ?_
  refine g_callV dX12_readTerm_260 mlX12_228 mvX12_comesToWhole (ci := 12) ⟨by decide, rfl⟩ (by assumption) (c_comes w (d + 4) μ hS e18 e19) sv0 rfl (by omega) (Nat.le_of_ble_eq_true rfl) (Nat.le_refl _) (Nat.le_refl _) (fun v μ1 hR => ?_)
  rcases hR with ⟨hN, rfl, hS1, e20, hr1⟩ | ⟨hN, rfl, hE⟩
  · refine g_if_ne (tgt := 268) dX12_readTerm_263 (by decide) (by omega) (fun h263 => ?_) (fun h263 => ?_)
    · obtain ⟨hZ1, e2⟩ := h.rd hS1 hr1
      have o01 := hS1.1.o
      have r11 := hS1.1.r1
      have a11 := hS1.1.a1
      have hb := vW_bd hN
      have hpv := pv_9 (k := k) hf (x := vW n B i) (by omega)
      obtain ⟨e181, e191⟩ := hZ1.2.1
      have t01 := (e2 _).trans t0
      have t11 := (e2 _).trans t1
      have t21 := (e2 _).trans t2
      refine g_aload_n (j := 0) rfl dX12_readTerm_268 ?_
      refine g_callV dX12_readTerm_269 mlX12_231 mvX12_whole (ci := 12) ⟨by decide, rfl⟩ (by assumption) (c_whole w (d + 7) μ1 hS1 hN e20) sv0 rfl (by omega) (Nat.le_of_ble_eq_true rfl) (Nat.le_refl _) (Nat.le_refl _) (fun v μ2 hR => ?_)
      obtain ⟨rfl, hm⟩ := hR
      replace hm := hm.symm
      subst hm
      refine g_aload_n (j := 0) rfl dX12_readTerm_272 ?_
      refine g_getR dX12_readTerm_273 flX12_15 rfl (by assumption) (kz := 1) rfl (by assumption) ?_
      refine g_iload_n (j := 3) rfl dX12_readTerm_276 ?_
      refine g_iconst dX12_readTerm_277 ?_
      refine g_iadd dX12_readTerm_278 ?_
      refine g_iald dX12_readTerm_279 (by assumption) (by omega) (by omega) ?_
      rw [t21]
      refine g_icmp_lt (tgt := 300) dX12_readTerm_280 (by decide) (by omega) (by omega) (fun h280 => ?_) (fun h280 => ?_)
      · refine g_aload_n (j := 0) rfl dX12_readTerm_300 ?_
        refine g_iconst dX12_readTerm_301 ?_
        refine g_callV dX12_readTerm_302 mlX12_187 mvX12_fails (ci := 12) ⟨by decide, rfl⟩ (by assumption) (c_fails w (d + 7) μ1 hS1 (k := 3) e181 e191) sv1 rfl (by omega) (Nat.le_of_ble_eq_true rfl) (Nat.le_refl _) (Nat.le_refl _) (fun v μ2 hR => ?_)
        obtain ⟨rfl, hE⟩ := hR
        have er : rdBd n B f k lo i = .inl (3, jW n B i) := by
          unfold rdBd
          rw [pI_t hN, pI_f (by omega)]
        exact G.retZ dX12_readTerm_305 rfl (Or.inl rfl) (kE _ _ er ((hr1.z h.1.1).E (hE.z hS1.1)))
      · refine g_aload_n (j := 0) rfl dX12_readTerm_283 ?_
        refine g_iconst dX12_readTerm_284 ?_
        refine g_iload_n (j := 1) rfl dX12_readTerm_285 ?_
        refine g_aload_n (j := 0) rfl dX12_readTerm_286 ?_
        refine g_callV dX12_readTerm_287 mlX12_231 mvX12_whole (ci := 12) ⟨by decide, rfl⟩ (by assumption) (c_whole w (d + 7) μ1 hS1 hN e20) sv0 rfl (by omega) (Nat.le_of_ble_eq_true rfl) (Nat.le_refl _) (Nat.le_refl _) (fun v μ2 hR => ?_)
        obtain ⟨rfl, hm⟩ := hR
        replace hm := hm.symm
        subst hm
        refine g_i2l (by omega) dX12_readTerm_290 ?_
        refine g_callV dX12_readTerm_291 mlX12_234 mvX12_valueOf (ci := 12) ⟨by decide, rfl⟩ (by assumption) (c_X12_valueOf w (d + 4) μ1 hS1.1 (s := 4) (i := (acc.length : Int)) (x := vW n B i) (k := k) (f := f) (by omega) (by omega) (by rw [← t01]; rfl) (by rw [← t11]; rfl) (by omega) (by omega) (by omega)) sv3 rfl (by omega) (Nat.le_of_ble_eq_true rfl) (Nat.le_refl _) (Nat.le_refl _) (fun v μ2 hR => ?_)
        obtain ⟨rfl, hm⟩ := hR
        replace hm := hm.symm
        subst hm
        refine g_callS dX12_readTerm_294 mlX12_238 msX12_isSmall (c_X12_isSmall w (d + 6) μ1 (x := pv k f (vW n B i)) (by omega)) sk1 rfl (by omega) (Nat.le_of_ble_eq_true rfl) (Nat.le_refl _) (Nat.le_refl _) (fun v μ2 hR => ?_)
        obtain ⟨rfl, hm⟩ := hR
        replace hm := hm.symm
        subst hm
        refine g_ifb_ne (tgt := 306) dX12_readTerm_297 (by decide)  (fun h297 => ?_) (fun h297 => ?_)
        · have hv : lo ≤ vW n B i ∧ -3000 ≤ pv k f (vW n B i) ∧ pv k f (vW n B i) ≤ 3000 := by omega
          have er : rdBd n B f k lo i = .inr (vW n B i, jW n B i) := by
            unfold rdBd
            rw [pI_t hN, pI_t hv]
          have hhi : vW n B i ≤ 3000 := by
            by_cases hz : 0 ≤ vW n B i
            · have := pv_ge (k := k) hf.1 hz
              omega
            · omega
          have hok : TOk ((f, k, lo, vW n B i) : Tm) := ⟨hf, hk, ⟨hlo.1, hv.1, hhi⟩, hvl, hv.2⟩
          obtain ⟨hZ3, hz3⟩ := hZ1.wr (k := 4 * (20 + (acc.length : Int)) + 3) (v := vW n B i) (by omega)
          have o03 := hZ3.1.1.o
          refine g_aload_n (j := 0) rfl dX12_readTerm_306 ?_
          refine g_getR dX12_readTerm_307 flX12_15 rfl (by assumption) (kz := 1) rfl (by assumption) ?_
          refine g_iload_n (j := 3) rfl dX12_readTerm_310 ?_
          refine g_iconst dX12_readTerm_311 ?_
          refine g_iadd dX12_readTerm_312 ?_
          refine g_aload_n (j := 0) rfl dX12_readTerm_313 ?_
          refine g_callV dX12_readTerm_314 mlX12_231 mvX12_whole (ci := 12) ⟨by decide, rfl⟩ (by assumption) (c_whole w (d + 7) μ1 hS1 hN e20) sv0 rfl (by omega) (Nat.le_of_ble_eq_true rfl) (Nat.le_refl _) (Nat.le_refl _) (fun v μ2 hR => ?_)
          obtain ⟨rfl, hm⟩ := hR
          replace hm := hm.symm
          subst hm
          refine g_iast dX12_readTerm_317 (by assumption) (by omega) (by omega) ?_
          refine g_aload_n (j := 0) rfl dX12_readTerm_318 ?_
          refine g_callV dX12_readTerm_319 mlX12_190 mvX12_next (ci := 12) ⟨by decide, rfl⟩ (by assumption) (c_nextS w (d + 5) _ hZ3.1) sv0 rfl (by omega) (Nat.le_of_ble_eq_true rfl) (Nat.le_refl _) (Nat.le_refl _) (fun v μ4 hR => ?_)
          obtain ⟨rfl, hS4, hr4⟩ := hR
          obtain ⟨hZ4, e4⟩ := hZ3.rd hS4 hr4.T
          refine l12_tEnd (d := d) hZ4 hl hok0 hok ?_ (fun μ5 y1 y2 y3 y4 y5 => kS _ _ _ er y1 y2 y3 y4 (((hr1.z h.1.1).tr hz3).tr ((hr4.T.z hZ3.1.1).tr y5)))
          unfold TmM
          rw [e4, e4, e4, e4, mI_sI, if_neg (by omega), mI_sI, if_neg (by omega), mI_sI, if_neg (by omega), mI_sI, if_pos ⟨rfl, by omega⟩]
          exact ⟨by rw [← t01]; rfl, by rw [← t11]; rfl, by rw [← t21]; rfl, rfl⟩
        · refine g_aload_n (j := 0) rfl dX12_readTerm_300 ?_
          refine g_iconst dX12_readTerm_301 ?_
          refine g_callV dX12_readTerm_302 mlX12_187 mvX12_fails (ci := 12) ⟨by decide, rfl⟩ (by assumption) (c_fails w (d + 7) μ1 hS1 (k := 3) e181 e191) sv1 rfl (by omega) (Nat.le_of_ble_eq_true rfl) (Nat.le_refl _) (Nat.le_refl _) (fun v μ2 hR => ?_)
          obtain ⟨rfl, hE⟩ := hR
          have er : rdBd n B f k lo i = .inl (3, jW n B i) := by
            unfold rdBd
            rw [pI_t hN, pI_f (by omega)]
          exact G.retZ dX12_readTerm_305 rfl (Or.inl rfl) (kE _ _ er ((hr1.z h.1.1).E (hE.z hS1.1)))
    · omega
  · refine g_if_ne (tgt := 268) dX12_readTerm_263 (by decide) (by omega) (fun h263 => ?_) (fun h263 => ?_)
    · omega
    · refine g_iconst dX12_readTerm_266 ?_
      have er : rdBd n B f k lo i = .inl (1, jW n B i) := by
        unfold rdBd
        rw [pI_f hN]
      exact G.retZ dX12_readTerm_267 rfl (Or.inl rfl) (kE _ _ er (hE.z h.1.1))
end ZR
