/-! THE CLASS: tried, side -/
/-- what a box has told after r rows -/
def BrS (μ : Mem) (y : Nat) (I : IdT) (b : Int) (r : Nat) : Prop := mI μ (y + 10) b = cB I b r ∧ (¬ cB I b r = 0 → (∀ l, 0 ≤ l → l ≤ 5 → mI μ (y + 11) (b * 6 + l) = fF I b r l) ∧ mI μ (y + 12) b = fF I b r 6)
noncomputable def rwT (I : IdT) (b : Int) : Nat := (TT I.1.2.1 b 6).toNat
def BxC (μ : Mem) (y : Nat) (I : IdT) : Prop := ∀ b, 0 ≤ b → b < 4 → mI μ (y + 13) b = 0 ∨ (mI μ (y + 13) b = 1 ∧ BrS μ y I b (rwT I b))
/-- all that the trying of box b changes -/
def TyB (y : Nat) (b : Int) (μ μ2 : Mem) : Prop := Fr (fun a => a = y ∨ a = y + 6 ∨ a = y + 7 ∨ (y + 9 ≤ a ∧ a ≤ y + 12)) (fun _ _ => False) μ μ2 ∧ (∀ a j, a ≤ y + 5 → mI μ2 a j = mI μ a j) ∧ (∀ j, ¬ j = b → mI μ2 (y + 10) j = mI μ (y + 10) j ∧ mI μ2 (y + 12) j = mI μ (y + 12) j) ∧ ∀ j, j < b * 6 ∨ b * 6 + 5 < j → mI μ2 (y + 11) j = mI μ (y + 11) j
theorem TyB.rf {y : Nat} {b : Int} {μ : Mem} : TyB y b μ μ := ⟨Fr.rf, fun _ _ _ => rfl, fun _ _ => ⟨rfl, rfl⟩, fun _ _ => rfl⟩
theorem TyB.tr {y : Nat} {b : Int} {μ μ2 μ3 : Mem} (h : TyB y b μ μ2) (h2 : TyB y b μ2 μ3) : TyB y b μ μ3 := ⟨h.1.tr h2.1, fun a j z => (h2.2.1 a j z).trans (h.2.1 a j z), fun j z => ⟨(h2.2.2.1 j z).1.trans (h.2.2.1 j z).1, (h2.2.2.1 j z).2.trans (h.2.2.1 j z).2⟩, fun j z => (h2.2.2.2 j z).trans (h.2.2.2 j z)⟩
theorem TsF.y {y : Nat} {b : Int} {μ μ2 : Mem} (h : TsF y μ μ2) : TyB y b μ μ2 := ⟨h.1.mono (fun a _ z => by omega) (fun _ _ _ z => z), fun a j z => h.2 a j (by omega), fun j _ => ⟨h.2 _ _ (by omega), h.2 _ _ (by omega)⟩, fun j _ => h.2 _ _ (by omega)⟩
theorem NtF.y {w : WC} {y : Nat} {b : Int} {μ μ2 : Mem} (h : NtF y b μ μ2) (hI : IdO w μ y) : TyB y b μ μ2 := ⟨h.1.mono (fun a _ z => by omega) (fun _ _ _ z => z), fun a j z => h.1.I (by have := hI.a8.2.1; omega) (by omega) j, h.2.1, h.2.2⟩
theorem Fr9.y {w : WC} {y : Nat} {b : Int} {μ μ2 : Mem} (h : Fr (fun a => a = y + 9) (fun _ _ => False) μ μ2) (hI : IdO w μ y) : TyB y b μ μ2 := ⟨h.mono (fun a _ z => by omega) (fun _ _ _ z => z), fun a j z => h.I (by have := hI.a8.2.1; omega) (by omega) j, fun j _ => ⟨h.I hI.a9.2.1 (by omega) j, h.I hI.a11.2.1 (by omega) j⟩, fun j _ => h.I hI.a10.2.1 (by omega) j⟩
theorem TyB.o {w : WC} {y : Nat} {b : Int} {μ μ2 : Mem} (h : TyB y b μ μ2) (hI : IdO w μ y) : IdO w μ2 y := hI.fr h.1 (fun _ z => z)
/-- the identity that is tried -/
def TrI (w : WC) (μ : Mem) (y : Nat) (I : IdT) : Prop := IdO w μ y ∧ OpC μ y I.1.2.2 ∧ mI μ y 13 = (I.1.2.2.length : Int) ∧ mI μ y 15 = (I.2 : Int) ∧ mI μ y 16 = I.1.2.1
theorem TrI.y {w : WC} {y : Nat} {b : Int} {I : IdT} {μ μ2 : Mem} (h : TrI w μ y I) (hf : TyB y b μ μ2) : TrI w μ2 y I := ⟨hf.o h.1, h.2.1.eq fun a j _ z => hf.2.1 a j z, (hf.2.1 _ _ (by omega)).trans h.2.2.1, (hf.2.1 _ _ (by omega)).trans h.2.2.2.1, (hf.2.1 _ _ (by omega)).trans h.2.2.2.2⟩
theorem BrS.t {y : Nat} {b : Int} {I : IdT} {r : Nat} {μ μ2 : Mem} (h : BrS μ y I b r) (e10 : ∀ j, mI μ2 (y + 10) j = mI μ (y + 10) j) (e11 : ∀ j, mI μ2 (y + 11) j = mI μ (y + 11) j) (e12 : ∀ j, mI μ2 (y + 12) j = mI μ (y + 12) j) : BrS μ2 y I b r := ⟨(e10 b).trans h.1, fun z => ⟨fun l z1 z2 => (e11 _).trans ((h.2 z).1 l z1 z2), (e12 b).trans (h.2 z).2⟩⟩
theorem vd_0 {I : IdT} {V : Int → Int} : (0 ≤ vdV I V ∧ vdV I V ≤ 2) ∧ (vdV I V = 0 ↔ ¬ brV I V) ∧ (vdV I V = 2 ↔ byV I V) := by
  unfold vdV brV
  by_cases h : byV I V
  · rw [pI_t h]
    exact ⟨by omega, ⟨fun z => by omega, fun z => absurd (Or.inl h) z⟩, ⟨fun _ => h, fun _ => rfl⟩⟩
  · rw [pI_f h]
    by_cases h2 : sA I V = sB I V
    · rw [pI_t h2]
      exact ⟨by omega, ⟨fun _ z => z.elim h (fun q => q h2), fun _ => rfl⟩, ⟨fun z => by omega, fun z => absurd z h⟩⟩
    · rw [pI_f h2]
      exact ⟨by omega, ⟨fun z => by omega, fun z => absurd (Or.inr h2) z⟩, ⟨fun z => by omega, fun z => absurd z h⟩⟩
theorem l_tb115 {w : WC} {d y r T : Nat} {I : IdT} {b C : Int} {l5 : Option AV} {μ : Mem} (hw : WI I) (h0 : 0 < I.1.2.2.length) (hb3 : 0 ≤ b ∧ b < 4) (hr : (r : Int) < TT I.1.2.1 b 6) (hT : TrI w μ y I) (hV : ∀ i, 0 ≤ i → i ≤ 5 → mI μ (y + 9) i = itV I.1.2.1 b r i) (hB : hbV b (itV I.1.2.1 b r)) (hN : ∀ j : Nat, j < I.1.2.2.length → NvO μ y (j : Int) (valI (itV I.1.2.1 b r) I.1.2.2 j)) (hS : BrS μ y I b (r + 1)) (ih : ∀ (μ : Mem) (C : Int) (l5 : Option AV), TrI w μ y I → (∀ i, 0 ≤ i → i ≤ 5 → mI μ (y + 9) i = itV I.1.2.1 b (r + 1) i) → hbV b (itV I.1.2.1 b (r + 1)) → (∀ j : Nat, j < I.1.2.2.length → (¬ iv (mI μ (y + 5) (j : Int)) &&& iv C = 0) ∨ NvO μ y (j : Int) (valI (itV I.1.2.1 b (r + 1)) I.1.2.2 j)) → BrS μ y I b (r + 1) → G w (d + 5) mX3_tryBox (fun v μ2 => v = none ∧ BrS μ2 y I b T ∧ TyB y b μ μ2) 0 0 86 [some (vP (some y)), some (vI b), some (vI (T : Int)), some (vI C), some (vI ((r + 1 : Nat) : Int)), l5] [] μ) : G w (d + 5) mX3_tryBox (fun v μ2 => v = none ∧ BrS μ2 y I b T ∧ TyB y b μ μ2) 0 0 115 [some (vP (some y)), some (vI b), some (vI (T : Int)), some (vI C), some (vI (r : Int)), l5] [] μ := by
  obtain ⟨hwf, hk, -, -, -, -⟩ := vl_A hw h0
  have hI := hT.1
  have o0 := hI.1
  refine g_aload_n (j := 0) rfl dX3_tryBox_115 ?_
  refine g_iload_n (j := 1) rfl dX3_tryBox_116 ?_
  refine g_callV dX3_tryBox_117 mlX3_102 mvX3_stepRow (ci := 3) ⟨by decide, rfl⟩ (by assumption) (c_stepRow w (d + 3) μ hw.2.1 (by omega) hI hT.2.2.2.2 hV hB) sv1 rfl (by omega) (Nat.le_of_ble_eq_true rfl) (Nat.le_refl _) (Nat.le_refl _) (fun v μ2 hR => ?_)
  obtain ⟨rfl, hV2, hf2⟩ := hR
  have hy2 : TyB y b μ μ2 := Fr9.y hf2 hI
  have hM := it_more (L := I.1.2.1) hb3.1 hr
  refine g_istore_n (j := 3) dX3_tryBox_120 (by decide) rfl ls3 ?_
  refine g_iinc (i := 4) dX3_tryBox_121 rfl (by decide) rfl ls4 ?_
  refine g_goto (tgt := 86) (by decide) dX3_tryBox_124 ?_
  rw [show (r : Int) + 1 = ((r + 1 : Nat) : Int) by omega]
  refine G.post (fun v μ3 hq => ⟨hq.1, hq.2.1, hy2.tr hq.2.2⟩) (ih μ2 _ _ (hT.y hy2) hV2 hM.2.1 (fun j hj => ?_) (hS.t (hf2.I hI.a9.2.1 (by omega)) (hf2.I hI.a10.2.1 (by omega)) (hf2.I hI.a11.2.1 (by omega))))
  by_cases z : iv (mI μ2 (y + 5) (j : Int)) &&& iv (nxM I.1.2.1 b 6 (itV I.1.2.1 b r) 0) = 0
  · refine Or.inr ?_
    have ag : AgV (nxM I.1.2.1 b 6 (itV I.1.2.1 b r) 0) (itV I.1.2.1 b r) (itV I.1.2.1 b (r + 1)) := fun l z1 z2 z3 => (nx_mask 6 (Nat.le_refl _) _ _ l z1 z2 z3).2
    rw [hy2.2.1 _ _ (by omega)] at z
    rw [us_same hwf hT.2.1.us hk ag j hj z]
    exact ⟨(hf2.I hI.a6.2.1 (by omega) _).trans (hN j hj).1, fun q hq => (hf2.L hI.a5.2.1 (by omega) _).trans ((hN j hj).2 q hq)⟩
  · exact Or.inl z
theorem l_tb86 {w : WC} {d y T : Nat} {I : IdT} {b : Int} (hw : WI I) (h0 : 0 < I.1.2.2.length) (hb3 : 0 ≤ b ∧ b < 4) (hTT : (T : Int) = TT I.1.2.1 b 6) : ∀ (k r : Nat) (μ : Mem) (C : Int) (l5 : Option AV), r + k = T → TrI w μ y I → (∀ i, 0 ≤ i → i ≤ 5 → mI μ (y + 9) i = itV I.1.2.1 b r i) → hbV b (itV I.1.2.1 b r) → (∀ j : Nat, j < I.1.2.2.length → (¬ iv (mI μ (y + 5) (j : Int)) &&& iv C = 0) ∨ NvO μ y (j : Int) (valI (itV I.1.2.1 b r) I.1.2.2 j)) → BrS μ y I b r → G w (d + 5) mX3_tryBox (fun v μ2 => v = none ∧ BrS μ2 y I b T ∧ TyB y b μ μ2) 0 0 86 [some (vP (some y)), some (vI b), some (vI (T : Int)), some (vI C), some (vI (r : Int)), l5] [] μ := by
  have hle := TT_le (L := I.1.2.1) (b := b) (by omega) 6
  have h76 : (7 : Int) ^ 6 = 117649 := by decide
  obtain ⟨hwf, hk, -, -, -, -⟩ := vl_A hw h0
  intro k
  induction k with
  | zero =>
    intro r μ C l5 hr hT hV hB hS hS2
    refine g_iload (i := 4) rfl dX3_tryBox_86 ?_
    refine g_iload_n (j := 2) rfl dX3_tryBox_88 ?_
    refine g_icmp_ge (tgt := 127) dX3_tryBox_89 (by decide) (by omega) (by omega) (fun h89 => ?_) (fun h89 => ?_)
    · have er : r = T := by omega
      rw [er] at hS2
      exact G.retV dX3_tryBox_127 rfl ⟨rfl, hS2, TyB.rf⟩
    · omega
  | succ k ih =>
    intro r μ C l5 hr hT hV hB hS hS2
    have hI := hT.1
    have o0 := hI.1
    refine g_iload (i := 4) rfl dX3_tryBox_86 ?_
    refine g_iload_n (j := 2) rfl dX3_tryBox_88 ?_
    refine g_icmp_ge (tgt := 127) dX3_tryBox_89 (by decide) (by omega) (by omega) (fun h89 => ?_) (fun h89 => ?_)
    · omega
    · refine g_aload_n (j := 0) rfl dX3_tryBox_92 ?_
      refine g_iload_n (j := 3) rfl dX3_tryBox_93 ?_
      refine g_callV dX3_tryBox_94 mlX3_83 mvX3_retake (ci := 3) ⟨by decide, rfl⟩ (by assumption) (c_retake w d μ hw.1.2 hwf hk hI hT.2.1 hT.2.2.1 (fun l z1 z2 => ⟨hV l z1 z2, by have := hB l z1 z2; omega⟩) hS) sv1 rfl (by omega) (Nat.le_of_ble_eq_true rfl) (Nat.le_refl _) (Nat.le_refl _) (fun v μ2 hR => ?_)
      obtain ⟨rfl, hN2, hf2⟩ := hR
      have hy2 : TyB y b μ μ2 := hf2.y
      have hT2 := hT.y hy2
      have hI2 := hT2.1
      have o02 := hI2.1
      have hV2 : ∀ i, 0 ≤ i → i ≤ 5 → mI μ2 (y + 9) i = itV I.1.2.1 b r i := fun i z1 z2 => (hf2.2 _ _ (by omega)).trans (hV i z1 z2)
      have hR2 : BrS μ2 y I b r := hS2.t (fun j => hf2.2 _ _ (by omega)) (fun j => hf2.2 _ _ (by omega)) (fun j => hf2.2 _ _ (by omega))
      refine g_aload_n (j := 0) rfl dX3_tryBox_97 ?_
      refine g_callV dX3_tryBox_98 mlX3_95 mvX3_judgeRow (ci := 3) ⟨by decide, rfl⟩ (by assumption) (c_judgeRow w (d + 4) μ2 hw h0 hI2 hT2.2.2.1 hT2.2.2.2.1 (fun l z1 z2 => by have := hB l z1 z2; omega) hN2) sv0 rfl (by omega) (Nat.le_of_ble_eq_true rfl) (Nat.le_refl _) (Nat.le_refl _) (fun v μ2 hR => ?_)
      obtain ⟨rfl, hm⟩ := hR
      replace hm := hm.symm
      subst hm
      have hvd := vd_0 (I := I) (V := itV I.1.2.1 b r)
      refine g_istore (i := 5) dX3_tryBox_101 (by decide) rfl ls5 ?_
      refine g_iload (i := 5) rfl dX3_tryBox_103 ?_
      refine g_if_eq (tgt := 115) dX3_tryBox_105 (by decide) (by omega) (fun h105 => ?_) (fun h105 => ?_)
      · refine G.post (fun v μ3 hq => ⟨hq.1, hq.2.1, hy2.tr hq.2.2⟩) (l_tb115 hw h0 hb3 (by omega) hT2 hV2 hB hN2 ?_ (fun μ3 C3 l5 => ih (r + 1) μ3 C3 l5 (by omega)))
        have hnb := hvd.2.1.mp h105
        have e1 : cB I b (r + 1) = cB I b r := by rw [cB, bI_0 hnb]; omega
        have e2 : fF I b (r + 1) = fF I b r := by rw [fF, pI_f (fun z => hnb z.2)]
        unfold BrS
        rw [e1, e2]
        exact hR2
      · refine g_aload_n (j := 0) rfl dX3_tryBox_108 ?_
        refine g_iload_n (j := 1) rfl dX3_tryBox_109 ?_
        refine g_iload (i := 5) rfl dX3_tryBox_110 ?_
        refine g_callV dX3_tryBox_112 mlX3_98 mvX3_noteBroken (ci := 3) ⟨by decide, rfl⟩ (by assumption) (c_noteBroken w (d + 4) μ2 hI2 hb3 hvd.1 (by rw [hR2.1]; have := cB_bd I b r; omega) hV2) sv2 rfl (by omega) (Nat.le_of_ble_eq_true rfl) (Nat.le_refl _) (Nat.le_refl _) (fun v μ3 hR => ?_)
        obtain ⟨rfl, k1, k2, k3, hf3⟩ := hR
        have hy3 : TyB y b μ2 μ3 := hf3.y hI2
        have hbr : brV I (itV I.1.2.1 b r) := Classical.byContradiction fun z => h105 (hvd.2.1.mpr z)
        rw [hR2.1] at k1 k2 k3
        refine G.post (fun v μ4 hq => ⟨hq.1, hq.2.1, (hy2.tr hy3).tr hq.2.2⟩) (l_tb115 hw h0 hb3 (by omega) (hT2.y hy3) (fun i z1 z2 => (hf3.1.I hI2.a8.2.1 (by omega) i).trans (hV2 i z1 z2)) hB (fun j hj => ⟨(hf3.1.I hI2.a6.2.1 (by omega) _).trans (hN2 j hj).1, fun q hq => (hf3.1.L hI2.a5.2.1 (by omega) _).trans ((hN2 j hj).2 q hq)⟩) ?_ (fun μ3 C3 l5 => ih (r + 1) μ3 C3 l5 (by omega)))
        have e1 : cB I b (r + 1) = cB I b r + 1 := by rw [cB, bI_1 hbr]
        refine ⟨by rw [e1]; exact k1, fun _ => ?_⟩
        by_cases z : cB I b r = 0
        · obtain ⟨z1, z2⟩ := k2 z
          have e2 : fF I b (r + 1) = fun j => if j = 6 then bI (byV I (itV I.1.2.1 b r)) else itV I.1.2.1 b r j := by rw [fF, pI_t ⟨z, hbr⟩]
          rw [e2]
          refine ⟨fun l y1 y2 => ?_, ?_⟩
          · dsimp only
            rw [if_neg (by omega)]
            exact z2 l y1 y2
          · dsimp only
            rw [if_pos rfl, z1]
            exact bI_congr hvd.2.2
        · obtain ⟨z1, z2⟩ := k3 z
          have e2 : fF I b (r + 1) = fF I b r := by rw [fF, pI_f (fun q => z q.1)]
          obtain ⟨g1, g2⟩ := hR2.2 z
          rw [e2]
          exact ⟨fun l y1 y2 => (z2 l y1 y2).trans (g1 l y1 y2), z1.trans g2⟩
theorem l_tb28 {w : WC} {d y : Nat} {I : IdT} {b : Int} {Q : Option AV → Mem → Prop} (hL : 0 ≤ I.1.2.1 ∧ I.1.2.1 < 64) : ∀ (r l : Nat) (μ : Mem), l + r = 6 → IdO w μ y → mI μ y 16 = I.1.2.1 → (∀ i, 0 ≤ i → i < (l : Int) → mI μ (y + 9) i = itV I.1.2.1 b 0 i) → (∀ μ2, IdO w μ2 y → Fr (fun a => a = y + 9) (fun _ _ => False) μ μ2 → (∀ i, 0 ≤ i → i ≤ 5 → mI μ2 (y + 9) i = itV I.1.2.1 b 0 i) → G w (d + 5) mX3_tryBox Q 0 0 80 [some (vP (some y)), some (vI b), some (vI (PT I.1.2.1 b 6)), some (vI 6), none, none] [] μ2) → G w (d + 5) mX3_tryBox Q 0 0 28 [some (vP (some y)), some (vI b), some (vI (PT I.1.2.1 b l)), some (vI (l : Int)), none, none] [] μ := by
  intro r
  induction r with
  | zero =>
    intro l μ hr hI e16 hV kk
    have o0 := hI.1
    refine g_iload_n (j := 3) rfl dX3_tryBox_28 ?_
    refine g_bipush dX3_tryBox_29 (by omega) ?_
    refine g_icmp_ge (tgt := 80) dX3_tryBox_31 (by decide) (by omega) (by omega) (fun h31 => ?_) (fun h31 => ?_)
    · have el : l = 6 := by omega
      subst el
      exact kk μ hI Fr.rf (fun i z1 z2 => hV i z1 (by omega))
    · omega
  | succ r ih =>
    intro l μ hr hI e16 hV kk
    have o0 := hI.1
    have r8 := hI.r8
    have a8 := hI.a8
    refine g_iload_n (j := 3) rfl dX3_tryBox_28 ?_
    refine g_bipush dX3_tryBox_29 (by omega) ?_
    refine g_icmp_ge (tgt := 80) dX3_tryBox_31 (by decide) (by omega) (by omega) (fun h31 => ?_) (fun h31 => ?_)
    · omega
    · refine g_aload_n (j := 0) rfl dX3_tryBox_34 ?_
      refine g_getR dX3_tryBox_35 flX3_38 rfl (by assumption) (kz := 8) rfl (by assumption) ?_
      refine g_iload_n (j := 3) rfl dX3_tryBox_38 ?_
      refine g_aload_n (j := 0) rfl dX3_tryBox_39 ?_
      refine g_iload_n (j := 3) rfl dX3_tryBox_40 ?_
      refine g_callV dX3_tryBox_41 mlX3_91 mvX3_isUsed (ci := 3) ⟨by decide, rfl⟩ (by assumption) (c_isUsed w (d + 4) μ o0 e16 hL (l := (l : Int)) (by omega)) sv1 rfl (by omega) (Nat.le_of_ble_eq_true rfl) (Nat.le_refl _) (Nat.le_refl _) (fun v μ2 hR => ?_)
      obtain ⟨rfl, hm⟩ := hR
      replace hm := hm.symm
      subst hm
      refine g_ifb_eq (tgt := 52) dX3_tryBox_44 (by decide)  (fun h44 => ?_) (fun h44 => ?_)
      · refine g_iconst dX3_tryBox_52 ?_
        refine g_iast dX3_tryBox_53 (by assumption) (by omega) (by omega) ?_
        have hf1 : Fr (fun a => a = y + 9) (fun _ _ => False) μ (sI μ (y + 9) (l : Int) 0) := Fr.sI rfl
        have hI1 : IdO w (sI μ (y + 9) (l : Int) 0) y := hI.fr hf1 fun _ z => z
        have e161 : mI (sI μ (y + 9) (l : Int) 0) y 16 = I.1.2.1 := by rw [mI_sI, if_neg (by omega)]; exact e16
        have he1 : ∀ i, mI (sI μ (y + 9) (l : Int) 0) (y + 9) i = if i = (l : Int) then 0 else mI μ (y + 9) i := fun i => by
          rw [mI_sI]
          by_cases z : i = (l : Int)
          · rw [if_pos ⟨rfl, z⟩, if_pos z]
          · rw [if_neg (fun q => z q.2), if_neg z]
        generalize sI μ (y + 9) (l : Int) 0 = μ1 at *
        have o01 := hI1.1
        refine g_iload_n (j := 2) rfl dX3_tryBox_54 ?_
        refine g_aload_n (j := 0) rfl dX3_tryBox_55 ?_
        refine g_iload_n (j := 3) rfl dX3_tryBox_56 ?_
        refine g_callV dX3_tryBox_57 mlX3_91 mvX3_isUsed (ci := 3) ⟨by decide, rfl⟩ (by assumption) (c_isUsed w (d + 4) μ1 o01 e161 hL (l := (l : Int)) (by omega)) sv1 rfl (by omega) (Nat.le_of_ble_eq_true rfl) (Nat.le_refl _) (Nat.le_refl _) (fun v μ2 hR => ?_)
        obtain ⟨rfl, hm⟩ := hR
        replace hm := hm.symm
        subst hm
        refine g_ifb_eq (tgt := 71) dX3_tryBox_60 (by decide)  (fun h60 => ?_) (fun h60 => ?_)
        · refine g_iconst dX3_tryBox_71 ?_
          refine g_imul dX3_tryBox_72 ?_
          refine g_istore_n (j := 2) dX3_tryBox_73 (by decide) rfl ls2 ?_
          refine g_iinc (i := 3) dX3_tryBox_74 rfl (by decide) rfl ls3 ?_
          refine g_goto (tgt := 28) (by decide) dX3_tryBox_77 ?_
          rw [show PT I.1.2.1 b l * 1 = PT I.1.2.1 b (l + 1) from by rw [PT, if_neg h44], show (l : Int) + 1 = ((l + 1 : Nat) : Int) by omega]
          refine ih (l + 1) μ1 (by omega) hI1 e161 (fun i z1 z2 => ?_) (fun μ2 g1 g2 g3 => kk μ2 g1 (hf1.tr g2) g3)
          rw [he1]
          by_cases z : i = (l : Int)
          · rw [if_pos z, z]
            exact (if_neg h44 : (if usB I.1.2.1 (l : Int) = 1 then -b else 0) = _).symm
          · rw [if_neg z]
            exact hV i z1 (by omega)
        · exact absurd h60 h44
      · refine g_iload_n (j := 1) rfl dX3_tryBox_47 ?_
        refine g_ineg dX3_tryBox_48 ?_
        refine g_goto (tgt := 53) (by decide) dX3_tryBox_49 ?_
        refine g_iast dX3_tryBox_53 (by assumption) (by omega) (by omega) ?_
        have hf1 : Fr (fun a => a = y + 9) (fun _ _ => False) μ (sI μ (y + 9) (l : Int) (-b)) := Fr.sI rfl
        have hI1 : IdO w (sI μ (y + 9) (l : Int) (-b)) y := hI.fr hf1 fun _ z => z
        have e161 : mI (sI μ (y + 9) (l : Int) (-b)) y 16 = I.1.2.1 := by rw [mI_sI, if_neg (by omega)]; exact e16
        have he1 : ∀ i, mI (sI μ (y + 9) (l : Int) (-b)) (y + 9) i = if i = (l : Int) then (-b) else mI μ (y + 9) i := fun i => by
          rw [mI_sI]
          by_cases z : i = (l : Int)
          · rw [if_pos ⟨rfl, z⟩, if_pos z]
          · rw [if_neg (fun q => z q.2), if_neg z]
        generalize sI μ (y + 9) (l : Int) (-b) = μ1 at *
        have o01 := hI1.1
        refine g_iload_n (j := 2) rfl dX3_tryBox_54 ?_
        refine g_aload_n (j := 0) rfl dX3_tryBox_55 ?_
        refine g_iload_n (j := 3) rfl dX3_tryBox_56 ?_
        refine g_callV dX3_tryBox_57 mlX3_91 mvX3_isUsed (ci := 3) ⟨by decide, rfl⟩ (by assumption) (c_isUsed w (d + 4) μ1 o01 e161 hL (l := (l : Int)) (by omega)) sv1 rfl (by omega) (Nat.le_of_ble_eq_true rfl) (Nat.le_refl _) (Nat.le_refl _) (fun v μ2 hR => ?_)
        obtain ⟨rfl, hm⟩ := hR
        replace hm := hm.symm
        subst hm
        refine g_ifb_eq (tgt := 71) dX3_tryBox_60 (by decide)  (fun h60 => ?_) (fun h60 => ?_)
        · exact absurd h44 h60
        · refine g_iconst dX3_tryBox_63 ?_
          refine g_iload_n (j := 1) rfl dX3_tryBox_64 ?_
          refine g_imul dX3_tryBox_65 ?_
          refine g_iconst dX3_tryBox_66 ?_
          refine g_iadd dX3_tryBox_67 ?_
          refine g_goto (tgt := 72) (by decide) dX3_tryBox_68 ?_
          refine g_imul dX3_tryBox_72 ?_
          refine g_istore_n (j := 2) dX3_tryBox_73 (by decide) rfl ls2 ?_
          refine g_iinc (i := 3) dX3_tryBox_74 rfl (by decide) rfl ls3 ?_
          refine g_goto (tgt := 28) (by decide) dX3_tryBox_77 ?_
          rw [show PT I.1.2.1 b l * (2 * b + 1) = PT I.1.2.1 b (l + 1) from by rw [PT, if_pos h44], show (l : Int) + 1 = ((l + 1 : Nat) : Int) by omega]
          refine ih (l + 1) μ1 (by omega) hI1 e161 (fun i z1 z2 => ?_) (fun μ2 g1 g2 g3 => kk μ2 g1 (hf1.tr g2) g3)
          rw [he1]
          by_cases z : i = (l : Int)
          · rw [if_pos z, z]
            exact (if_pos h44 : (if usB I.1.2.1 (l : Int) = 1 then -b else 0) = _).symm
          · rw [if_neg z]
            exact hV i z1 (by omega)
def TyF (y : Nat) (μ μ2 : Mem) : Prop := Fr (fun a => a = y ∨ a = y + 6 ∨ a = y + 7 ∨ (y + 9 ≤ a ∧ a ≤ y + 13)) (fun _ _ => False) μ μ2 ∧ ∀ a j, a ≤ y + 5 → mI μ2 a j = mI μ a j
theorem c_tryBox (w : WC) (d : Nat) (μ : Mem) {y : Nat} {I : IdT} {b : Int} (hw : WI I) (h0 : 0 < I.1.2.2.length) (hb3 : 0 ≤ b ∧ b < 4) (hT : TrI w μ y I) (hX : BxC μ y I) : Con w (d + 5) mX3_tryBox 0 0 [vP (some y), vI b] μ (fun v μ2 => v = none ∧ BrS μ2 y I b (rwT I b) ∧ BxC μ2 y I ∧ TyF y μ μ2) := by
  have hI := hT.1
  have o0 := hI.1
  have r9 := hI.r9
  have a9 := hI.a9
  have r12 := hI.r12
  have a12 := hI.a12
  have hx := hX b hb3.1 hb3.2
  refine Con.of (by decide) (Nat.le_of_ble_eq_true rfl) rfl ?_
  refine g_aload_n (j := 0) rfl dX3_tryBox_0 ?_
  refine g_getR dX3_tryBox_1 flX3_50 rfl (by assumption) (kz := 12) rfl (by assumption) ?_
  refine g_iload_n (j := 1) rfl dX3_tryBox_4 ?_
  refine g_zald dX3_tryBox_5 (by assumption) (by omega) (by omega) ?_
  refine g_if_eq (tgt := 10) dX3_tryBox_6 (by decide) (by omega) (fun h6 => ?_) (fun h6 => ?_)
  · refine g_aload_n (j := 0) rfl dX3_tryBox_10 ?_
    refine g_getR dX3_tryBox_11 flX3_50 rfl (by assumption) (kz := 12) rfl (by assumption) ?_
    refine g_iload_n (j := 1) rfl dX3_tryBox_14 ?_
    refine g_iconst dX3_tryBox_15 ?_
    refine g_zast dX3_tryBox_16 (by assumption) (by omega) (by omega) (by omega) ?_
    refine g_aload_n (j := 0) rfl dX3_tryBox_17 ?_
    refine g_getR dX3_tryBox_18 flX3_41 rfl (by simp only [IsO_sI, IsO_sL, IsO_sR, IsO_wI, IsO_wL, IsA_sI, IsA_sL, IsA_sR, IsA_wI, IsA_wL, mR_sI, mR_sL, mR_wI, mR_wL]; assumption) (kz := 9) rfl (by simp only [IsO_sI, IsO_sL, IsO_sR, IsO_wI, IsO_wL, IsA_sI, IsA_sL, IsA_sR, IsA_wI, IsA_wL, mR_sI, mR_sL, mR_wI, mR_wL]; assumption) ?_
    refine g_iload_n (j := 1) rfl dX3_tryBox_21 ?_
    refine g_iconst dX3_tryBox_22 ?_
    refine g_iast dX3_tryBox_23 (by simp only [IsO_sI, IsO_sL, IsO_sR, IsO_wI, IsO_wL, IsA_sI, IsA_sL, IsA_sR, IsA_wI, IsA_wL, mR_sI, mR_sL, mR_wI, mR_wL]; assumption) (by omega) (by omega) ?_
    have hT1 : TrI w (sI (sI μ (y + 13) b 1) (y + 10) b 0) y I := ⟨(hT.1.fr (Fr.sI (P := fun a => a = y + 13) (K := fun _ _ => False) rfl) fun _ z => z).fr (Fr.sI (P := fun a => a = y + 10) (K := fun _ _ => False) rfl) (fun _ z => z), hT.2.1.eq fun a j z1 z2 => by rw [mI_sI, if_neg (by omega), mI_sI, if_neg (by omega)], by rw [mI_sI, if_neg (by omega), mI_sI, if_neg (by omega)]; exact hT.2.2.1, by rw [mI_sI, if_neg (by omega), mI_sI, if_neg (by omega)]; exact hT.2.2.2.1, by rw [mI_sI, if_neg (by omega), mI_sI, if_neg (by omega)]; exact hT.2.2.2.2⟩
    have hf1 : Fr (fun a => a = y + 13 ∨ a = y + 10) (fun _ _ => False) μ (sI (sI μ (y + 13) b 1) (y + 10) b 0) := (Fr.sI (Or.inl rfl)).tr (Fr.sI (Or.inr rfl))
    have e10 : ∀ j, mI (sI (sI μ (y + 13) b 1) (y + 10) b 0) (y + 10) j = if j = b then 0 else mI μ (y + 10) j := fun j => by
      rw [mI_sI]
      by_cases z : j = b
      · rw [if_pos ⟨rfl, z⟩, if_pos z]
      · rw [if_neg (fun q => z q.2), if_neg z, mI_sI, if_neg (by omega)]
    have e13 : ∀ j, mI (sI (sI μ (y + 13) b 1) (y + 10) b 0) (y + 13) j = if j = b then 1 else mI μ (y + 13) j := fun j => by
      rw [mI_sI, if_neg (by omega), mI_sI]
      by_cases z : j = b
      · rw [if_pos ⟨rfl, z⟩, if_pos z]
      · rw [if_neg (fun q => z q.2), if_neg z]
    generalize sI (sI μ (y + 13) b 1) (y + 10) b 0 = μ1 at *
    have hI1 := hT1.1
    refine g_iconst dX3_tryBox_24 ?_
    refine g_istore_n (j := 2) dX3_tryBox_25 (by decide) rfl ls2 ?_
    refine g_iconst dX3_tryBox_26 ?_
    refine g_istore_n (j := 3) dX3_tryBox_27 (by decide) rfl ls3 ?_
    refine l_tb28 (d := d) hw.2.1 6 0 μ1 rfl hI1 hT1.2.2.2.2 (fun i z1 z2 => absurd z1 (by omega)) (fun μ2 g1 g2 g3 => ?_)
    have hy2 : TyB y b μ1 μ2 := Fr9.y g2 hI1
    have hT2 := hT1.y hy2
    have hpos := TT_pos (L := I.1.2.1) (b := b) hb3.1 6
    have hTT : ((rwT I b : Nat) : Int) = TT I.1.2.1 b 6 := by
      unfold rwT
      omega
    have hPT : PT I.1.2.1 b 6 = ((rwT I b : Nat) : Int) := by
      rw [hTT]
      have := PT_TT (L := I.1.2.1) (b := b) 6 0 rfl
      rw [show TT I.1.2.1 b 0 = 1 from rfl, Int.mul_one] at this
      exact this
    obtain ⟨hwf, -, -, -, -, -⟩ := vl_A hw h0
    rw [hPT]
    refine g_bipush dX3_tryBox_80 (by omega) ?_
    refine g_istore_n (j := 3) dX3_tryBox_82 (by decide) rfl ls3 ?_
    refine g_iconst dX3_tryBox_83 ?_
    refine g_istore (i := 4) dX3_tryBox_84 (by decide) rfl ls4 ?_
    refine G.post (fun v μ3 hq => ?_) (l_tb86 hw h0 hb3 hTT (rwT I b) 0 μ2 127 none (Nat.zero_add _) hT2 g3 (it_rank hb3.1 0 (by omega)).1 (fun j hj => Or.inl (us_all hwf hT2.2.1.us j hj)) ⟨(g2.I hI1.a9.2.1 (by omega) b).trans (by rw [e10, if_pos rfl]; rfl), fun q => absurd rfl q⟩)
    obtain ⟨rfl, k1, k2⟩ := hq
    have k3 := hy2.tr k2
    refine ⟨rfl, k1, fun b2 z1 z2 => ?_, (hf1.mono (fun a _ z => by omega) (fun _ _ _ z => z)).tr (k3.1.mono (fun a _ z => by omega) (fun _ _ _ z => z)), fun a j z => (k3.2.1 a j z).trans (hf1.I (by have := hI.a8.2.1; omega) (by omega) j)⟩
    have e13b : mI μ3 (y + 13) b2 = if b2 = b then 1 else mI μ (y + 13) b2 := (k3.1.I hI1.a12.2.1 (by omega) b2).trans (e13 b2)
    by_cases z : b2 = b
    · rw [if_pos z] at e13b
      subst z
      exact Or.inr ⟨e13b, k1⟩
    · rw [if_neg z] at e13b
      rcases hX b2 z1 z2 with q | ⟨q1, q2, q3⟩
      · exact Or.inl (e13b.trans q)
      · refine Or.inr ⟨e13b.trans q1, ?_, fun q => ?_⟩
        · rw [(k3.2.2.1 b2 z).1, e10, if_neg z]
          exact q2
        · obtain ⟨s1, s2⟩ := q3 q
          refine ⟨fun l y1 y2 => ?_, ?_⟩
          · rw [k3.2.2.2 _ (by omega), hf1.I hI.a10.2.1 (by omega)]
            exact s1 l y1 y2
          · rw [(k3.2.2.1 b2 z).2, hf1.I hI.a11.2.1 (by omega)]
            exact s2
  · exact G.retV dX3_tryBox_9 rfl ⟨rfl, (hx.resolve_left (by omega)).2, hX, Fr.rf, fun _ _ _ => rfl⟩
