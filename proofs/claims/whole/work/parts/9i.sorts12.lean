/-! THE MODEL: sorted rounds, a turning told -/
def P69 (m a : Nat) : Prop := m + 6 ≤ a ∧ a ≤ m + 9
def TuF (m : Nat) : Mem → Mem → Prop := FrZ m (P69 m) (fun j => j = 29)
theorem TuF.mo {w : WC} {m : Nat} {μ μ2 : Mem} (h : TuF m μ μ2) (hM : MoS w μ m) : MoS w μ2 m := FrZ.Mo h hM
theorem TuF.mfi {w : WC} {m : Nat} {s : Int} {ts : List Tm} {μ μ2 : Mem} (h : TuF m μ μ2) (hM : MoS w μ m) (hI : MFI μ m s ts) : MFI μ2 m s ts := by
  have e1 : ∀ j, mI μ2 (m + 1) j = mI μ (m + 1) j := h.1.I hM.a0.2.1 (by unfold P69; omega)
  have e2 : ∀ j, mI μ2 (m + 2) j = mI μ (m + 2) j := h.1.I hM.a1.2.1 (by unfold P69; omega)
  refine ⟨(e1 s).trans hI.1, hI.2.1, hI.2.2.1, fun i u hu => ?_⟩
  rw [e2, e2, e2, e2]
  exact hI.2.2.2 i u hu
theorem TuF.s {m a : Nat} {k v : Int} {μ : Mem} (ha : P69 m a) (hn : ¬ a = m) : TuF m μ (sI μ a k v) := ⟨Fr.sI (Or.inr ha), fun j _ => by rw [mI_sI, if_neg (fun q => hn q.1.symm)]⟩
/-- the sorting writes the lengths alone -/
def P7F (m : Nat) (μ μ2 : Mem) : Prop := TuF m μ μ2 ∧ (∀ a j, ¬ a = m + 7 → mI μ2 a j = mI μ a j) ∧ ∀ a j, mL μ2 a j = mL μ a j
theorem P7F.rf {m : Nat} {μ : Mem} : P7F m μ μ := ⟨FrZ.rf, fun _ _ _ => rfl, fun _ _ => rfl⟩
theorem P7F.tr {m : Nat} {μ μ2 μ3 : Mem} (h : P7F m μ μ2) (h2 : P7F m μ2 μ3) : P7F m μ μ3 := ⟨FrZ.tr h.1 h2.1, fun a j z => (h2.2.1 a j z).trans (h.2.1 a j z), fun a j => (h2.2.2 a j).trans (h.2.2 a j)⟩
theorem P7F.s {m : Nat} {k v : Int} {μ : Mem} : P7F m μ (sI μ (m + 7) k v) := ⟨TuF.s (by unfold P69; omega) (by omega), fun a j z => by rw [mI_sI, if_neg (fun q => z q.1)], fun _ _ => rfl⟩
theorem l_so16 {w : WC} {d m a : Nat} {ts : List Tm} {s : Int} {Q : Option AV → Mem → Prop} (hs : 0 ≤ s ∧ s ≤ 3) (ha : a < ts.length) : ∀ (r b : Nat) (L : List Nat) (μ : Mem) (x4 : Option AV), b + r = ts.length → MoS w μ m → MFI μ m s ts → LnM μ m L → (∀ μ2 x4, MoS w μ2 m → MFI μ2 m s ts → LnM μ2 m (soB (lbs ts) a r b L) → P7F m μ μ2 → G w (d + 2) mX12_sorts Q 0 0 88 [some (vP (some m)), some (vI s), some (vI (a : Int)), some (vI (ts.length : Int)), x4] [] μ2) → G w (d + 2) mX12_sorts Q 0 0 16 [some (vP (some m)), some (vI s), some (vI (a : Int)), some (vI (b : Int)), x4] [] μ := by
  intro r
  induction r with
  | zero =>
    intro b L μ x4 hr hM hI hL kk
    have o0 := hM.o
    have r0 := hM.r0
    have a0 := hM.a0
    have r26 := hM.r26
    have a26 := hM.a26
    have hn := hI.1
    have h5 := hI.2.1
    refine g_iload_n (j := 3) rfl dX12_sorts_16 ?_
    refine g_aload_n (j := 0) rfl dX12_sorts_17 ?_
    refine g_getR dX12_sorts_18 flX12_9 rfl (by assumption) (kz := 0) rfl (by assumption) ?_
    refine g_iload_n (j := 1) rfl dX12_sorts_21 ?_
    refine g_iald dX12_sorts_22 (by assumption) (by omega) (by omega) ?_
    rw [hn]
    refine g_icmp_ge (tgt := 88) dX12_sorts_23 (by decide) (by omega) (by omega) (fun h23 => ?_) (fun h23 => ?_)
    · have eb : (b : Int) = (ts.length : Int) := by omega
      rw [eb]
      exact kk μ x4 hM hI hL P7F.rf
    · omega
  | succ r ih =>
    intro b L μ x4 hr hM hI hL kk
    have o0 := hM.o
    have r0 := hM.r0
    have a0 := hM.a0
    have r26 := hM.r26
    have a26 := hM.a26
    have hn := hI.1
    have h5 := hI.2.1
    refine g_iload_n (j := 3) rfl dX12_sorts_16 ?_
    refine g_aload_n (j := 0) rfl dX12_sorts_17 ?_
    refine g_getR dX12_sorts_18 flX12_9 rfl (by assumption) (kz := 0) rfl (by assumption) ?_
    refine g_iload_n (j := 1) rfl dX12_sorts_21 ?_
    refine g_iald dX12_sorts_22 (by assumption) (by omega) (by omega) ?_
    rw [hn]
    refine g_icmp_ge (tgt := 88) dX12_sorts_23 (by decide) (by omega) (by omega) (fun h23 => ?_) (fun h23 => ?_)
    · omega
    · refine g_aload_n (j := 0) rfl dX12_sorts_26 ?_
      refine g_iload_n (j := 1) rfl dX12_sorts_27 ?_
      refine g_iload_n (j := 2) rfl dX12_sorts_28 ?_
      refine g_iload_n (j := 3) rfl dX12_sorts_29 ?_
      refine g_callV dX12_sorts_30 mlX12_300 mvX12_areLike (ci := 12) ⟨by decide, rfl⟩ (by assumption) (c_areLikeP w d μ (i := a) (j := b) hM hs hI rfl rfl (by omega) (by omega)) sv3 rfl (by omega) (Nat.le_of_ble_eq_true rfl) (Nat.le_refl _) (Nat.le_refl _) (fun v μ2 hR => ?_)
      obtain ⟨rfl, hm⟩ := hR
      replace hm := hm.symm
      subst hm
      refine g_ifb_eq (tgt := 82) dX12_sorts_33 (by decide)  (fun h33 => ?_) (fun h33 => ?_)
      · refine g_iinc (i := 3) dX12_sorts_82 rfl (by decide) rfl ls3 ?_
        refine g_goto (tgt := 16) (by decide) dX12_sorts_85 ?_
        rw [show (b : Int) + 1 = ((b + 1 : Nat) : Int) by omega]
        have e : swp (lbs ts) a b L = L := if_neg (fun z => h33 z.1)
        exact ih (b + 1) L μ x4 (by omega) hM hI hL (by rw [show soB (lbs ts) a (r + 1) b L = soB (lbs ts) a r (b + 1) (swp (lbs ts) a b L) from rfl, e] at kk; exact kk)
      · refine g_aload_n (j := 0) rfl dX12_sorts_36 ?_
        refine g_getR dX12_sorts_37 flX12_48 rfl (by assumption) (kz := 26) rfl (by assumption) ?_
        refine g_iload_n (j := 2) rfl dX12_sorts_40 ?_
        refine g_iald dX12_sorts_41 (by assumption) (by omega) (by omega) ?_
        rw [hL.2 a (by omega)]
        refine g_aload_n (j := 0) rfl dX12_sorts_42 ?_
        refine g_getR dX12_sorts_43 flX12_48 rfl (by assumption) (kz := 26) rfl (by assumption) ?_
        refine g_iload_n (j := 3) rfl dX12_sorts_46 ?_
        refine g_iald dX12_sorts_47 (by assumption) (by omega) (by omega) ?_
        rw [hL.2 b (by omega)]
        have x1 := hL.1.2 a
        have x2 := hL.1.2 b
        refine g_icmp_lt (tgt := 54) dX12_sorts_48 (by decide) (by omega) (by omega) (fun h48 => ?_) (fun h48 => ?_)
        · refine g_aload_n (j := 0) rfl dX12_sorts_54 ?_
          refine g_getR dX12_sorts_55 flX12_48 rfl (by assumption) (kz := 26) rfl (by assumption) ?_
          refine g_iload_n (j := 2) rfl dX12_sorts_58 ?_
          refine g_iald dX12_sorts_59 (by assumption) (by omega) (by omega) ?_
          rw [hL.2 a (by omega)]
          refine g_istore (i := 4) dX12_sorts_60 (by decide) rfl ls4 ?_
          refine g_aload_n (j := 0) rfl dX12_sorts_62 ?_
          refine g_getR dX12_sorts_63 flX12_48 rfl (by assumption) (kz := 26) rfl (by assumption) ?_
          refine g_iload_n (j := 2) rfl dX12_sorts_66 ?_
          refine g_aload_n (j := 0) rfl dX12_sorts_67 ?_
          refine g_getR dX12_sorts_68 flX12_48 rfl (by assumption) (kz := 26) rfl (by assumption) ?_
          refine g_iload_n (j := 3) rfl dX12_sorts_71 ?_
          refine g_iald dX12_sorts_72 (by assumption) (by omega) (by omega) ?_
          rw [hL.2 b (by omega)]
          refine g_iast dX12_sorts_73 (by assumption) (by omega) (by omega) ?_
          refine g_aload_n (j := 0) rfl dX12_sorts_74 ?_
          refine g_getR dX12_sorts_75 flX12_48 rfl (by simp only [IsO_sI, IsO_sL, IsO_sR, IsO_wI, IsO_wL, IsA_sI, IsA_sL, IsA_sR, IsA_wI, IsA_wL, mR_sI, mR_sL, mR_wI, mR_wL]; assumption) (kz := 26) rfl (by simp only [IsO_sI, IsO_sL, IsO_sR, IsO_wI, IsO_wL, IsA_sI, IsA_sL, IsA_sR, IsA_wI, IsA_wL, mR_sI, mR_sL, mR_wI, mR_wL]; assumption) ?_
          refine g_iload_n (j := 3) rfl dX12_sorts_78 ?_
          refine g_iload (i := 4) rfl dX12_sorts_79 ?_
          refine g_iast dX12_sorts_81 (by simp only [IsO_sI, IsO_sL, IsO_sR, IsO_wI, IsO_wL, IsA_sI, IsA_sL, IsA_sR, IsA_wI, IsA_wL, mR_sI, mR_sL, mR_wI, mR_wL]; assumption) (by omega) (by omega) ?_
          refine g_iinc (i := 3) dX12_sorts_82 rfl (by decide) rfl ls3 ?_
          refine g_goto (tgt := 16) (by decide) dX12_sorts_85 ?_
          rw [show (b : Int) + 1 = ((b + 1 : Nat) : Int) by omega]
          have e : swp (lbs ts) a b L = (L.set a (L.getD b 0)).set b (L.getD a 0) := if_pos ⟨h33, by omega⟩
          have hL2 := (hL.set (w := w) (k := a) (v := L.getD b 0) (by omega) (hL.1.2 b)).set (w := w) (k := b) (v := L.getD a 0) (by omega) (hL.1.2 a)
          have hf : P7F m μ (sI (sI μ (m + 7) (a : Int) ((L.getD b 0 : Nat) : Int)) (m + 7) (b : Int) ((L.getD a 0 : Nat) : Int)) := P7F.s.tr P7F.s
          refine ih (b + 1) _ _ _ (by omega) (hf.1.mo hM) (hf.1.mfi hM hI) hL2 (fun μ2 x4 g2 g3 g4 g5 => ?_)
          rw [← e] at g4
          exact kk μ2 x4 g2 g3 g4 (hf.tr g5)
        · refine g_goto (tgt := 82) (by decide) dX12_sorts_51 ?_
          refine g_iinc (i := 3) dX12_sorts_82 rfl (by decide) rfl ls3 ?_
          refine g_goto (tgt := 16) (by decide) dX12_sorts_85 ?_
          rw [show (b : Int) + 1 = ((b + 1 : Nat) : Int) by omega]
          have e : swp (lbs ts) a b L = L := if_neg (fun z => by have := z.2; omega)
          exact ih (b + 1) L μ x4 (by omega) hM hI hL (by rw [show soB (lbs ts) a (r + 1) b L = soB (lbs ts) a r (b + 1) (swp (lbs ts) a b L) from rfl, e] at kk; exact kk)
theorem l_so2 {w : WC} {d m : Nat} {ts : List Tm} {s : Int} (hs : 0 ≤ s ∧ s ≤ 3) : ∀ (r a : Nat) (L : List Nat) (μ : Mem) (x3 x4 : Option AV), a + r = ts.length → MoS w μ m → MFI μ m s ts → LnM μ m L → G w (d + 2) mX12_sorts (fun v μ2 => v = none ∧ LnM μ2 m (soA (lbs ts) r a L) ∧ P7F m μ μ2) 0 0 2 [some (vP (some m)), some (vI s), some (vI (a : Int)), x3, x4] [] μ := by
  intro r
  induction r with
  | zero =>
    intro a L μ x3 x4 hr hM hI hL
    have o0 := hM.o
    have r0 := hM.r0
    have a0 := hM.a0
    have r26 := hM.r26
    have a26 := hM.a26
    have hn := hI.1
    have h5 := hI.2.1
    refine g_iload_n (j := 2) rfl dX12_sorts_2 ?_
    refine g_aload_n (j := 0) rfl dX12_sorts_3 ?_
    refine g_getR dX12_sorts_4 flX12_9 rfl (by assumption) (kz := 0) rfl (by assumption) ?_
    refine g_iload_n (j := 1) rfl dX12_sorts_7 ?_
    refine g_iald dX12_sorts_8 (by assumption) (by omega) (by omega) ?_
    rw [hn]
    refine g_icmp_ge (tgt := 94) dX12_sorts_9 (by decide) (by omega) (by omega) (fun h9 => ?_) (fun h9 => ?_)
    · exact G.retV dX12_sorts_94 rfl ⟨rfl, hL, P7F.rf⟩
    · omega
  | succ r ih =>
    intro a L μ x3 x4 hr hM hI hL
    have elb : (lbs ts).length = ts.length := List.length_map _
    rw [show soA (lbs ts) (r + 1) a L = soA (lbs ts) r (a + 1) (soB (lbs ts) a (ts.length - (a + 1)) (a + 1) L) by rw [← elb]; rfl]
    have o0 := hM.o
    have r0 := hM.r0
    have a0 := hM.a0
    have r26 := hM.r26
    have a26 := hM.a26
    have hn := hI.1
    have h5 := hI.2.1
    refine g_iload_n (j := 2) rfl dX12_sorts_2 ?_
    refine g_aload_n (j := 0) rfl dX12_sorts_3 ?_
    refine g_getR dX12_sorts_4 flX12_9 rfl (by assumption) (kz := 0) rfl (by assumption) ?_
    refine g_iload_n (j := 1) rfl dX12_sorts_7 ?_
    refine g_iald dX12_sorts_8 (by assumption) (by omega) (by omega) ?_
    rw [hn]
    refine g_icmp_ge (tgt := 94) dX12_sorts_9 (by decide) (by omega) (by omega) (fun h9 => ?_) (fun h9 => ?_)
    · omega
    · refine g_iload_n (j := 2) rfl dX12_sorts_12 ?_
      refine g_iconst dX12_sorts_13 ?_
      refine g_iadd dX12_sorts_14 ?_
      refine g_istore_n (j := 3) dX12_sorts_15 (by decide) rfl ls3 ?_
      rw [show (a : Int) + 1 = ((a + 1 : Nat) : Int) by omega]
      refine l_so16 hs (by omega) (ts.length - (a + 1)) (a + 1) L μ _ (by omega) hM hI hL (fun μ2 x4 hM2 hI2 hL2 hf2 => ?_)
      refine g_iinc (i := 2) dX12_sorts_88 rfl (by decide) rfl ls2 ?_
      refine g_goto (tgt := 2) (by decide) dX12_sorts_91 ?_
      rw [show (a : Int) + 1 = ((a + 1 : Nat) : Int) by omega]
      exact G.post (fun v μ3 hq => ⟨hq.1, hq.2.1, hf2.tr hq.2.2⟩) (ih (a + 1) _ μ2 _ _ (by omega) hM2 hI2 hL2)
theorem c_sorts (w : WC) (d : Nat) (μ : Mem) {m : Nat} {ts : List Tm} {s : Int} {L : List Nat} (hs : 0 ≤ s ∧ s ≤ 3) (hM : MoS w μ m) (hI : MFI μ m s ts) (hL : LnM μ m L) : Con w (d + 2) mX12_sorts 0 0 [vP (some m), vI s] μ (fun v μ2 => v = none ∧ LnM μ2 m (soA (lbs ts) ts.length 0 L) ∧ P7F m μ μ2) := by
  refine Con.of (by decide) (Nat.le_of_ble_eq_true rfl) rfl ?_
  refine g_iconst dX12_sorts_0 ?_
  refine g_istore_n (j := 2) dX12_sorts_1 (by decide) rfl ls2 ?_
  exact l_so2 (d := d) hs ts.length 0 L μ _ _ (Nat.zero_add _) hM hI hL
