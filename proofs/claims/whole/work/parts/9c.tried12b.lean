/-! THE MODEL: tried, side, the methods -/
theorem l_tr141 {w : WC} {d m r : Nat} {I : IdT} {b t mo : Int} {μ : Mem} {l5 : Option AV} (hw : WI I) (hb3 : 0 ≤ b ∧ b < 4) (hr : r < rwT I b) (hM : MoS w μ m) (hI : IdM μ m I) (hV : ∀ i, 0 ≤ i → i ≤ 5 → mI μ (m + 15) i = itV I.1.2.1 b r i) (hB : hbV b (itV I.1.2.1 b r)) (hF : FiM μ m I b (r + 1)) (ih : ∀ (μ : Mem) (mo : Int) (l5 : Option AV), ((mo = 1 ∧ r + 1 < rwT I b) ∨ (mo = 0 ∧ r + 1 = rwT I b)) → MoS w μ m → IdM μ m I → (∀ i, 0 ≤ i → i ≤ 5 → mI μ (m + 15) i = itV I.1.2.1 b (r + 1) i) → hbV b (itV I.1.2.1 b (r + 1)) → FiM μ m I b (r + 1) → G w (d + 5) mX12_tried (fun v μ2 => v = some (vI (trA I b t)) ∧ TrZ m μ μ2) 0 0 78 [some (vP (some m)), some (vI b), some (vI t), some (vI (cB I b (r + 1))), some (vI mo), l5] [] μ) : G w (d + 5) mX12_tried (fun v μ2 => v = some (vI (trA I b t)) ∧ TrZ m μ μ2) 0 0 141 [some (vP (some m)), some (vI b), some (vI t), some (vI (cB I b (r + 1))), some (vI mo), l5] [] μ := by
  have o0 := hM.o
  refine g_aload_n (j := 0) rfl dX12_tried_141 ?_
  refine g_iload_n (j := 1) rfl dX12_tried_142 ?_
  refine g_callV dX12_tried_143 mlX12_410 mvX12_goesOn (ci := 12) ⟨by decide, rfl⟩ (by assumption) (c_goesOn w (d + 4) μ hw.2.1 (by omega) hM hI.1.2.2 hV hB) sv1 rfl (by omega) (Nat.le_of_ble_eq_true rfl) (Nat.le_refl _) (Nat.le_refl _) (fun v μ2 hR => ?_)
  obtain ⟨rfl, hV2, hf2⟩ := hR
  have hTT : ((rwT I b : Nat) : Int) = TT I.1.2.1 b 6 := by
    have hpos := TT_pos (L := I.1.2.1) (b := b) hb3.1 6
    unfold rwT
    omega
  have hMo := it_more (L := I.1.2.1) (r := r) hb3.1 (by omega)
  refine g_istore (i := 4) dX12_tried_146 (by decide) rfl ls4 ?_
  refine g_goto (tgt := 78) (by decide) dX12_tried_148 ?_
  refine G.post (fun v μ3 hq => ⟨hq.1, FrZ.tr hf2.z hq.2⟩) (ih μ2 _ _ ?_ (hf2.z.mo hM) (hf2.z.id hM hI) hV2 hMo.2.1 ?_)
  · rcases hMo.2.2 with ⟨z1, z2⟩ | ⟨z1, z2⟩
    · exact Or.inl ⟨z1, by omega⟩
    · exact Or.inr ⟨z1, by omega⟩
  · intro z j y1 y2
    rw [hf2.1.I hM.a45.2.1 (by omega)]
    exact hF z j y1 y2
theorem l_tr78 {w : WC} {d m : Nat} {I : IdT} {b t : Int} (hw : WI I) (h0 : 0 < I.1.2.2.length) (hb3 : 0 ≤ b ∧ b < 4) (ht : 0 ≤ t ∧ t ≤ 7) : ∀ (k r : Nat) (μ : Mem) (mo : Int) (l5 : Option AV), r + k = rwT I b → ((mo = 1 ∧ r < rwT I b) ∨ (mo = 0 ∧ r = rwT I b)) → MoS w μ m → IdM μ m I → (∀ i, 0 ≤ i → i ≤ 5 → mI μ (m + 15) i = itV I.1.2.1 b r i) → hbV b (itV I.1.2.1 b r) → FiM μ m I b r → G w (d + 5) mX12_tried (fun v μ2 => v = some (vI (trA I b t)) ∧ TrZ m μ μ2) 0 0 78 [some (vP (some m)), some (vI b), some (vI t), some (vI (cB I b r)), some (vI mo), l5] [] μ := by
  have hrt : ((rwT I b : Nat) : Int) ≤ 117649 := by
    have hle := TT_le (L := I.1.2.1) (b := b) (by omega) 6
    have h76 : (7 : Int) ^ 6 = 117649 := by decide
    unfold rwT
    omega
  intro k
  induction k with
  | zero =>
    intro r μ mo l5 hr hmo hM hI hV hB hF
    refine g_iload (i := 4) rfl dX12_tried_78 ?_
    refine g_if_eq (tgt := 151) dX12_tried_80 (by decide) (by omega) (fun h80 => ?_) (fun h80 => ?_)
    · have er : r = rwT I b := by omega
      subst er
      exact l_tr151 h0 hb3 ht hM hF
    · omega
  | succ k ih =>
    intro r μ mo l5 hr hmo hM hI hV hB hF
    have o0 := hM.o
    refine g_iload (i := 4) rfl dX12_tried_78 ?_
    refine g_if_eq (tgt := 151) dX12_tried_80 (by decide) (by omega) (fun h80 => ?_) (fun h80 => ?_)
    · omega
    · refine g_aload_n (j := 0) rfl dX12_tried_83 ?_
      refine g_callV dX12_tried_84 mlX12_403 mvX12_isBroken (ci := 12) ⟨by decide, rfl⟩ (by assumption) (c_isBroken w d μ hw h0 hM hI (fun l z1 z2 => ⟨hV l z1 z2, by have := hB l z1 z2; omega⟩)) sv0 rfl (by omega) (Nat.le_of_ble_eq_true rfl) (Nat.le_refl _) (Nat.le_refl _) (fun v μ2 hR => ?_)
      obtain ⟨rfl, e44, hf2⟩ := hR
      have hM2 := hf2.mo hM
      have hI2 := hf2.z.id hM hI
      have o02 := hM2.o
      have hV2 : ∀ i, 0 ≤ i → i ≤ 5 → mI μ2 (m + 15) i = itV I.1.2.1 b r i := fun i z1 z2 => ((hf2.oth hM).2.2.2 i).trans (hV i z1 z2)
      have e45 : ∀ j, mI μ2 (m + 17) j = mI μ (m + 17) j := hf2.1.I hM.a45.2.1 (by omega)
      have hcb := cB_bd I b r
      refine g_ifb_eq (tgt := 141) dX12_tried_87 (by decide)  (fun h87 => ?_) (fun h87 => ?_)
      · have e1 : cB I b (r + 1) = cB I b r := by rw [cB, bI_0 h87]; omega
        have e2 : fF I b (r + 1) = fF I b r := by rw [fF, pI_f (fun z => h87 z.2)]
        rw [← e1]
        refine G.post (fun v μ3 hq => ⟨hq.1, FrZ.tr hf2.z hq.2⟩) (l_tr141 hw hb3 (by omega) hM2 hI2 hV2 hB (fun z j y1 y2 => ?_) (fun μ3 mo l5 hmo => ih (r + 1) μ3 mo l5 (by omega) (by omega)))
        rw [e2]
        rw [e1] at z
        rw [e45]
        exact hF z j y1 y2
      · refine g_iload_n (j := 3) rfl dX12_tried_90 ?_
        refine g_if_ne (tgt := 138) dX12_tried_91 (by decide) (by omega) (fun h91 => ?_) (fun h91 => ?_)
        · refine g_iinc (i := 3) dX12_tried_138 rfl (by decide) rfl ls3 ?_
          have e1 : cB I b (r + 1) = cB I b r + 1 := by rw [cB, bI_1 h87]
          have e2 : fF I b (r + 1) = fF I b r := by rw [fF, pI_f (fun z => h91 z.1)]
          rw [← e1]
          refine G.post (fun v μ3 hq => ⟨hq.1, FrZ.tr hf2.z hq.2⟩) (l_tr141 hw hb3 (by omega) hM2 hI2 hV2 hB (fun z j y1 y2 => ?_) (fun μ3 mo l5 hmo => ih (r + 1) μ3 mo l5 (by omega) (by omega)))
          rw [e2, e45]
          exact hF h91 j y1 y2
        · refine g_iconst dX12_tried_94 ?_
          refine g_istore (i := 5) dX12_tried_95 (by decide) rfl ls5 ?_
          refine l_tr97 (V := itV I.1.2.1 b r) 6 0 μ2 (by omega) (by omega) hM2 hV2 (fun i z1 z2 => absurd z1 (by omega)) (fun μ3 hM3 hf3 hD3 => ?_)
          have o03 := hM3.o
          have r453 := hM3.r45
          have a453 := hM3.a45
          have e443 : mI μ3 m 44 = bI (byV I (itV I.1.2.1 b r)) := (hf3.2 44 (fun z => z)).trans e44
          refine g_aload_n (j := 0) rfl dX12_tried_124 ?_
          refine g_getR dX12_tried_125 flX12_78 rfl (by assumption) (kz := 45) rfl (by assumption) ?_
          refine g_bipush dX12_tried_128 (by omega) ?_
          refine g_aload_n (j := 0) rfl dX12_tried_130 ?_
          refine g_getI dX12_tried_131 flX12_381 rfl (by assumption) (kz := 44) rfl ?_
          rw [e443]
          refine g_callS dX12_tried_134 mlX12_406 msX12_one (c_X12_one w (d + 4) μ3 _) sk1 rfl (by omega) (Nat.le_of_ble_eq_true rfl) (Nat.le_refl _) (Nat.le_refl _) (fun v μ2 hR => ?_)
          obtain ⟨rfl, hm⟩ := hR
          replace hm := hm.symm
          subst hm
          refine g_iast dX12_tried_137 (by assumption) (by omega) (by omega) ?_
          refine g_iinc (i := 3) dX12_tried_138 rfl (by decide) rfl ls3 ?_
          have e1 : cB I b (r + 1) = cB I b r + 1 := by rw [cB, bI_1 h87]
          have e2 : fF I b (r + 1) = fun j => if j = 6 then bI (byV I (itV I.1.2.1 b r)) else itV I.1.2.1 b r j := by rw [fF, pI_t ⟨h91, h87⟩]
          have hf4 : FrZ m (fun a => a = m + 17) (fun _ => False) μ2 (sI μ3 (m + 17) 6 (bI (byV I (itV I.1.2.1 b r)))) := FrZ.tr hf3 ⟨Fr.sI (Or.inr rfl), fun j _ => by rw [mI_sI, if_neg (by omega)]⟩
          have hz4 : TrZ m μ2 (sI μ3 (m + 17) 6 (bI (byV I (itV I.1.2.1 b r)))) := FrZ.mono hf4 (fun a z => by omega) (fun _ z => z.elim)
          rw [← e1]
          refine G.post (fun v μ4 hq => ⟨hq.1, FrZ.tr (FrZ.tr hf2.z hz4) hq.2⟩) (l_tr141 hw hb3 (by omega) (hz4.mo hM2) (hz4.id hM2 hI2) (fun i z1 z2 => (hf4.1.I hM2.a42.2.1 (by omega) i).trans (hV2 i z1 z2)) hB (fun z j y1 y2 => ?_) (fun μ3 mo l5 hmo => ih (r + 1) μ3 mo l5 (by omega) (by omega)))
          rw [e2, mI_sI]
          dsimp only
          by_cases z6 : j = 6
          · rw [if_pos ⟨rfl, z6⟩, if_pos z6]
          · rw [if_neg (fun q => z6 q.2), if_neg z6]
            exact hD3 j y1 (by omega)
theorem bI_n0 {P : Prop} (h : ¬ bI P = 0) : P := Classical.byContradiction fun z => h (bI_0 z)
theorem c_X12_tried (w : WC) (d : Nat) (μ : Mem) {m : Nat} {F : Int → List Tm} {I : IdT} (hA : MA w μ m F) (hI : IdM μ m I) (hw : WI I) {b t : Int} (hb : i32 b) (ht : i32 t) : Con w (d + 5) mX12_tried 0 0 [vP (some m), vI b, vI t] μ (fun v μ2 => v = some (vI (trA I b t)) ∧ MA w μ2 m F ∧ IdM μ2 m I ∧ TrZ m μ μ2) := by
  have hM := hA.1
  have o0 := hM.o
  have hb0 := bI_01 (0 < I.1.2.2.length)
  have hn4 : bI (0 < I.1.2.2.length) = 0 → ¬ 0 < I.1.2.2.length := bI_is0.mp
  refine Con.of (by decide) (Nat.le_of_ble_eq_true rfl) rfl ?_
  refine g_aload_n (j := 0) rfl dX12_tried_0 ?_
  refine g_getI dX12_tried_1 flX12_367 rfl (by assumption) (kz := 41) rfl ?_
  rw [hI.1.1]
  refine g_if_eq (tgt := 31) dX12_tried_4 (by decide) (by omega) (fun h4 => ?_) (fun h4 => ?_)
  · refine g_ldcw dX12_tried_31 kcX12_321 (z := -100000) rfl ?_
    exact G.retI dX12_tried_34 rfl ⟨by rw [trA, pI_f (fun z => by obtain ⟨z1, z2, z3⟩ := z; first | exact hn4 h4 z1 | exact h16 (by omega) | exact h28 z3)], hA, hI, FrZ.rf⟩
  · refine g_iload_n (j := 1) rfl dX12_tried_7 ?_
    refine g_i2l (by omega) dX12_tried_8 ?_
    refine g_lconst0 dX12_tried_9 ?_
    refine g_ldc2 dX12_tried_10 klX12_109 (z := 3) rfl ?_
    refine g_callS dX12_tried_13 mlX12_105 msX12_isIn (c_X12_isIn w (d + 4) μ (x := b) (a := 0) (b := 3) (i64_32 hb) (by decide) (by decide)) sk3 rfl (by omega) (Nat.le_of_ble_eq_true rfl) (Nat.le_refl _) (Nat.le_refl _) (fun v μ2 hR => ?_)
    obtain ⟨rfl, hm⟩ := hR
    replace hm := hm.symm
    subst hm
    refine g_ifb_eq (tgt := 31) dX12_tried_16 (by decide)  (fun h16 => ?_) (fun h16 => ?_)
    · refine g_ldcw dX12_tried_31 kcX12_321 (z := -100000) rfl ?_
      exact G.retI dX12_tried_34 rfl ⟨by rw [trA, pI_f (fun z => by obtain ⟨z1, z2, z3⟩ := z; first | exact hn4 h4 z1 | exact h16 (by omega) | exact h28 z3)], hA, hI, FrZ.rf⟩
    · refine g_iload_n (j := 2) rfl dX12_tried_19 ?_
      refine g_i2l (by omega) dX12_tried_20 ?_
      refine g_lconst0 dX12_tried_21 ?_
      refine g_ldc2 dX12_tried_22 klX12_401 (z := 7) rfl ?_
      refine g_callS dX12_tried_25 mlX12_105 msX12_isIn (c_X12_isIn w (d + 4) μ (x := t) (a := 0) (b := 7) (i64_32 ht) (by decide) (by decide)) sk3 rfl (by omega) (Nat.le_of_ble_eq_true rfl) (Nat.le_refl _) (Nat.le_refl _) (fun v μ2 hR => ?_)
      obtain ⟨rfl, hm⟩ := hR
      replace hm := hm.symm
      subst hm
      refine g_ifb_ne (tgt := 35) dX12_tried_28 (by decide)  (fun h28 => ?_) (fun h28 => ?_)
      · refine g_iconst dX12_tried_35 ?_
        refine g_istore_n (j := 3) dX12_tried_36 (by decide) rfl ls3 ?_
        have h0 : 0 < I.1.2.2.length := bI_n0 h4
        refine G.post (fun v μ9 hq => ⟨hq.1, FrZ.MA hq.2 hA (by omega) (by omega), hq.2.id hM hI, hq.2⟩) (l_tr37 (Q := fun v μ2 => v = some (vI (trA I b t)) ∧ TrZ m μ μ2) (d := d + 5) (b := b) (t := t) hw.2.1 6 0 μ rfl hM hI.1.2.2 (fun i z1 z2 => absurd z1 (by omega)) (fun μ2 hM2 hf2 hV2 => ?_))
        have hpos := TT_pos (L := I.1.2.1) (b := b) h16.1 6
        have hTT : ((rwT I b : Nat) : Int) = TT I.1.2.1 b 6 := by
          unfold rwT
          omega
        refine g_iconst dX12_tried_73 ?_
        refine g_istore_n (j := 3) dX12_tried_74 (by decide) rfl ls3 ?_
        refine g_iconst dX12_tried_75 ?_
        refine g_istore (i := 4) dX12_tried_76 (by decide) rfl ls4 ?_
        refine G.post (fun v μ3 hq => ⟨hq.1, FrZ.tr hf2.z hq.2⟩) (l_tr78 (d := d) hw h0 (by omega) h28 (rwT I b) 0 μ2 1 none (Nat.zero_add _) (Or.inl ⟨rfl, by omega⟩) hM2 (hf2.z.id hM hI) hV2 (it_rank h16.1 0 (by omega)).1 (fun z => absurd rfl z))
      · refine g_ldcw dX12_tried_31 kcX12_321 (z := -100000) rfl ?_
        exact G.retI dX12_tried_34 rfl ⟨by rw [trA, pI_f (fun z => by obtain ⟨z1, z2, z3⟩ := z; first | exact hn4 h4 z1 | exact h16 (by omega) | exact h28 z3)], hA, hI, FrZ.rf⟩
theorem c_X12_side (w : WC) (d : Nat) (μ : Mem) {m : Nat} {F : Int → List Tm} {I : IdT} (hA : MA w μ m F) (hI : IdM μ m I) (hw : WI I) {s a b e f g k : Int} (js : i32 s) (ja : i32 a) (jb : i32 b) (je : i32 e) (jf : i32 f) (jg : i32 g) (jk : i32 k) : Con w (d + 5) mX12_side 0 0 [vP (some m), vI s, vI a, vI b, vI e, vI f, vI g, vI k] μ (fun v μ2 => v = some (vJ (sdA I s a b e f g k)) ∧ MA w μ2 m F ∧ IdM μ2 m I ∧ TrZ m μ μ2) := by
  have hM := hA.1
  have o0 := hM.o
  have r42 := hM.r42
  have a42 := hM.a42
  have hb0 := bI_01 (0 < I.1.2.2.length)
  have hn4 : bI (0 < I.1.2.2.length) = 0 → ¬ 0 < I.1.2.2.length := bI_is0.mp
  refine Con.of (by decide) (Nat.le_of_ble_eq_true rfl) rfl ?_
  refine g_aload_n (j := 0) rfl dX12_side_0 ?_
  refine g_getI dX12_side_1 flX12_367 rfl (by assumption) (kz := 41) rfl ?_
  rw [hI.1.1]
  refine g_if_eq (tgt := 105) dX12_side_4 (by decide) (by omega) (fun h4 => ?_) (fun h4 => ?_)
  · refine g_ldc2 dX12_side_105 klX12_379 (z := -9223372036854775808) rfl ?_
    exact G.retJ dX12_side_108 rfl ⟨by rw [sdA, pI_f (fun z => by obtain ⟨z1, z2, ⟨z3, z4, z5⟩, z6, z7, z8⟩ := z; first | exact hn4 h4 z1 | exact h14 z2 | exact h28 z3 | exact h42 z4 | exact h57 z5 | exact h72 z6 | exact h87 z7 | exact h102 z8)], hA, hI, FrZ.rf⟩
  · refine g_iload_n (j := 1) rfl dX12_side_7 ?_
    refine g_i2l (by omega) dX12_side_8 ?_
    refine g_lconst0 dX12_side_9 ?_
    refine g_lconst1 dX12_side_10 ?_
    refine g_callS dX12_side_11 mlX12_105 msX12_isIn (c_X12_isIn w (d + 4) μ (x := s) (a := 0) (b := 1) (i64_32 js) (by decide) (by decide)) sk3 rfl (by omega) (Nat.le_of_ble_eq_true rfl) (Nat.le_refl _) (Nat.le_refl _) (fun v μ2 hR => ?_)
    obtain ⟨rfl, hm⟩ := hR
    replace hm := hm.symm
    subst hm
    refine g_ifb_eq (tgt := 105) dX12_side_14 (by decide)  (fun h14 => ?_) (fun h14 => ?_)
    · refine g_ldc2 dX12_side_105 klX12_379 (z := -9223372036854775808) rfl ?_
      exact G.retJ dX12_side_108 rfl ⟨by rw [sdA, pI_f (fun z => by obtain ⟨z1, z2, ⟨z3, z4, z5⟩, z6, z7, z8⟩ := z; first | exact hn4 h4 z1 | exact h14 z2 | exact h28 z3 | exact h42 z4 | exact h57 z5 | exact h72 z6 | exact h87 z7 | exact h102 z8)], hA, hI, FrZ.rf⟩
    · refine g_iload_n (j := 2) rfl dX12_side_17 ?_
      refine g_i2l (by omega) dX12_side_18 ?_
      refine g_ldc2 dX12_side_19 klX12_413 (z := -9) rfl ?_
      refine g_ldc2 dX12_side_22 klX12_415 (z := 9) rfl ?_
      refine g_callS dX12_side_25 mlX12_105 msX12_isIn (c_X12_isIn w (d + 4) μ (x := a) (a := -9) (b := 9) (i64_32 ja) (by decide) (by decide)) sk3 rfl (by omega) (Nat.le_of_ble_eq_true rfl) (Nat.le_refl _) (Nat.le_refl _) (fun v μ2 hR => ?_)
      obtain ⟨rfl, hm⟩ := hR
      replace hm := hm.symm
      subst hm
      refine g_ifb_eq (tgt := 105) dX12_side_28 (by decide)  (fun h28 => ?_) (fun h28 => ?_)
      · refine g_ldc2 dX12_side_105 klX12_379 (z := -9223372036854775808) rfl ?_
        exact G.retJ dX12_side_108 rfl ⟨by rw [sdA, pI_f (fun z => by obtain ⟨z1, z2, ⟨z3, z4, z5⟩, z6, z7, z8⟩ := z; first | exact hn4 h4 z1 | exact h14 z2 | exact h28 z3 | exact h42 z4 | exact h57 z5 | exact h72 z6 | exact h87 z7 | exact h102 z8)], hA, hI, FrZ.rf⟩
      · refine g_iload_n (j := 3) rfl dX12_side_31 ?_
        refine g_i2l (by omega) dX12_side_32 ?_
        refine g_ldc2 dX12_side_33 klX12_413 (z := -9) rfl ?_
        refine g_ldc2 dX12_side_36 klX12_415 (z := 9) rfl ?_
        refine g_callS dX12_side_39 mlX12_105 msX12_isIn (c_X12_isIn w (d + 4) μ (x := b) (a := -9) (b := 9) (i64_32 jb) (by decide) (by decide)) sk3 rfl (by omega) (Nat.le_of_ble_eq_true rfl) (Nat.le_refl _) (Nat.le_refl _) (fun v μ2 hR => ?_)
        obtain ⟨rfl, hm⟩ := hR
        replace hm := hm.symm
        subst hm
        refine g_ifb_eq (tgt := 105) dX12_side_42 (by decide)  (fun h42 => ?_) (fun h42 => ?_)
        · refine g_ldc2 dX12_side_105 klX12_379 (z := -9223372036854775808) rfl ?_
          exact G.retJ dX12_side_108 rfl ⟨by rw [sdA, pI_f (fun z => by obtain ⟨z1, z2, ⟨z3, z4, z5⟩, z6, z7, z8⟩ := z; first | exact hn4 h4 z1 | exact h14 z2 | exact h28 z3 | exact h42 z4 | exact h57 z5 | exact h72 z6 | exact h87 z7 | exact h102 z8)], hA, hI, FrZ.rf⟩
        · refine g_iload (i := 4) rfl dX12_side_45 ?_
          refine g_i2l (by omega) dX12_side_47 ?_
          refine g_ldc2 dX12_side_48 klX12_413 (z := -9) rfl ?_
          refine g_ldc2 dX12_side_51 klX12_415 (z := 9) rfl ?_
          refine g_callS dX12_side_54 mlX12_105 msX12_isIn (c_X12_isIn w (d + 4) μ (x := e) (a := -9) (b := 9) (i64_32 je) (by decide) (by decide)) sk3 rfl (by omega) (Nat.le_of_ble_eq_true rfl) (Nat.le_refl _) (Nat.le_refl _) (fun v μ2 hR => ?_)
          obtain ⟨rfl, hm⟩ := hR
          replace hm := hm.symm
          subst hm
          refine g_ifb_eq (tgt := 105) dX12_side_57 (by decide)  (fun h57 => ?_) (fun h57 => ?_)
          · refine g_ldc2 dX12_side_105 klX12_379 (z := -9223372036854775808) rfl ?_
            exact G.retJ dX12_side_108 rfl ⟨by rw [sdA, pI_f (fun z => by obtain ⟨z1, z2, ⟨z3, z4, z5⟩, z6, z7, z8⟩ := z; first | exact hn4 h4 z1 | exact h14 z2 | exact h28 z3 | exact h42 z4 | exact h57 z5 | exact h72 z6 | exact h87 z7 | exact h102 z8)], hA, hI, FrZ.rf⟩
          · refine g_iload (i := 5) rfl dX12_side_60 ?_
            refine g_i2l (by omega) dX12_side_62 ?_
            refine g_ldc2 dX12_side_63 klX12_413 (z := -9) rfl ?_
            refine g_ldc2 dX12_side_66 klX12_415 (z := 9) rfl ?_
            refine g_callS dX12_side_69 mlX12_105 msX12_isIn (c_X12_isIn w (d + 4) μ (x := f) (a := -9) (b := 9) (i64_32 jf) (by decide) (by decide)) sk3 rfl (by omega) (Nat.le_of_ble_eq_true rfl) (Nat.le_refl _) (Nat.le_refl _) (fun v μ2 hR => ?_)
            obtain ⟨rfl, hm⟩ := hR
            replace hm := hm.symm
            subst hm
            refine g_ifb_eq (tgt := 105) dX12_side_72 (by decide)  (fun h72 => ?_) (fun h72 => ?_)
            · refine g_ldc2 dX12_side_105 klX12_379 (z := -9223372036854775808) rfl ?_
              exact G.retJ dX12_side_108 rfl ⟨by rw [sdA, pI_f (fun z => by obtain ⟨z1, z2, ⟨z3, z4, z5⟩, z6, z7, z8⟩ := z; first | exact hn4 h4 z1 | exact h14 z2 | exact h28 z3 | exact h42 z4 | exact h57 z5 | exact h72 z6 | exact h87 z7 | exact h102 z8)], hA, hI, FrZ.rf⟩
            · refine g_iload (i := 6) rfl dX12_side_75 ?_
              refine g_i2l (by omega) dX12_side_77 ?_
              refine g_ldc2 dX12_side_78 klX12_413 (z := -9) rfl ?_
              refine g_ldc2 dX12_side_81 klX12_415 (z := 9) rfl ?_
              refine g_callS dX12_side_84 mlX12_105 msX12_isIn (c_X12_isIn w (d + 4) μ (x := g) (a := -9) (b := 9) (i64_32 jg) (by decide) (by decide)) sk3 rfl (by omega) (Nat.le_of_ble_eq_true rfl) (Nat.le_refl _) (Nat.le_refl _) (fun v μ2 hR => ?_)
              obtain ⟨rfl, hm⟩ := hR
              replace hm := hm.symm
              subst hm
              refine g_ifb_eq (tgt := 105) dX12_side_87 (by decide)  (fun h87 => ?_) (fun h87 => ?_)
              · refine g_ldc2 dX12_side_105 klX12_379 (z := -9223372036854775808) rfl ?_
                exact G.retJ dX12_side_108 rfl ⟨by rw [sdA, pI_f (fun z => by obtain ⟨z1, z2, ⟨z3, z4, z5⟩, z6, z7, z8⟩ := z; first | exact hn4 h4 z1 | exact h14 z2 | exact h28 z3 | exact h42 z4 | exact h57 z5 | exact h72 z6 | exact h87 z7 | exact h102 z8)], hA, hI, FrZ.rf⟩
              · refine g_iload (i := 7) rfl dX12_side_90 ?_
                refine g_i2l (by omega) dX12_side_92 ?_
                refine g_ldc2 dX12_side_93 klX12_413 (z := -9) rfl ?_
                refine g_ldc2 dX12_side_96 klX12_415 (z := 9) rfl ?_
                refine g_callS dX12_side_99 mlX12_105 msX12_isIn (c_X12_isIn w (d + 4) μ (x := k) (a := -9) (b := 9) (i64_32 jk) (by decide) (by decide)) sk3 rfl (by omega) (Nat.le_of_ble_eq_true rfl) (Nat.le_refl _) (Nat.le_refl _) (fun v μ2 hR => ?_)
                obtain ⟨rfl, hm⟩ := hR
                replace hm := hm.symm
                subst hm
                refine g_ifb_ne (tgt := 109) dX12_side_102 (by decide)  (fun h102 => ?_) (fun h102 => ?_)
                · refine g_aload_n (j := 0) rfl dX12_side_109 ?_
                  refine g_getR dX12_side_110 flX12_72 rfl (by assumption) (kz := 42) rfl (by assumption) ?_
                  refine g_iconst dX12_side_113 ?_
                  refine g_iload_n (j := 2) rfl dX12_side_114 ?_
                  refine g_iast dX12_side_115 (by assumption) (by omega) (by omega) ?_
                  refine g_aload_n (j := 0) rfl dX12_side_116 ?_
                  refine g_getR dX12_side_117 flX12_72 rfl (by simp only [IsO_sI, IsO_sL, IsO_sR, IsO_wI, IsO_wL, IsA_sI, IsA_sL, IsA_sR, IsA_wI, IsA_wL, mR_sI, mR_sL, mR_wI, mR_wL]; assumption) (kz := 42) rfl (by simp only [IsO_sI, IsO_sL, IsO_sR, IsO_wI, IsO_wL, IsA_sI, IsA_sL, IsA_sR, IsA_wI, IsA_wL, mR_sI, mR_sL, mR_wI, mR_wL]; assumption) ?_
                  refine g_iconst dX12_side_120 ?_
                  refine g_iload_n (j := 3) rfl dX12_side_121 ?_
                  refine g_iast dX12_side_122 (by simp only [IsO_sI, IsO_sL, IsO_sR, IsO_wI, IsO_wL, IsA_sI, IsA_sL, IsA_sR, IsA_wI, IsA_wL, mR_sI, mR_sL, mR_wI, mR_wL]; assumption) (by omega) (by omega) ?_
                  refine g_aload_n (j := 0) rfl dX12_side_123 ?_
                  refine g_getR dX12_side_124 flX12_72 rfl (by simp only [IsO_sI, IsO_sL, IsO_sR, IsO_wI, IsO_wL, IsA_sI, IsA_sL, IsA_sR, IsA_wI, IsA_wL, mR_sI, mR_sL, mR_wI, mR_wL]; assumption) (kz := 42) rfl (by simp only [IsO_sI, IsO_sL, IsO_sR, IsO_wI, IsO_wL, IsA_sI, IsA_sL, IsA_sR, IsA_wI, IsA_wL, mR_sI, mR_sL, mR_wI, mR_wL]; assumption) ?_
                  refine g_iconst dX12_side_127 ?_
                  refine g_iload (i := 4) rfl dX12_side_128 ?_
                  refine g_iast dX12_side_130 (by simp only [IsO_sI, IsO_sL, IsO_sR, IsO_wI, IsO_wL, IsA_sI, IsA_sL, IsA_sR, IsA_wI, IsA_wL, mR_sI, mR_sL, mR_wI, mR_wL]; assumption) (by omega) (by omega) ?_
                  refine g_aload_n (j := 0) rfl dX12_side_131 ?_
                  refine g_getR dX12_side_132 flX12_72 rfl (by simp only [IsO_sI, IsO_sL, IsO_sR, IsO_wI, IsO_wL, IsA_sI, IsA_sL, IsA_sR, IsA_wI, IsA_wL, mR_sI, mR_sL, mR_wI, mR_wL]; assumption) (kz := 42) rfl (by simp only [IsO_sI, IsO_sL, IsO_sR, IsO_wI, IsO_wL, IsA_sI, IsA_sL, IsA_sR, IsA_wI, IsA_wL, mR_sI, mR_sL, mR_wI, mR_wL]; assumption) ?_
                  refine g_iconst dX12_side_135 ?_
                  refine g_iload (i := 5) rfl dX12_side_136 ?_
                  refine g_iast dX12_side_138 (by simp only [IsO_sI, IsO_sL, IsO_sR, IsO_wI, IsO_wL, IsA_sI, IsA_sL, IsA_sR, IsA_wI, IsA_wL, mR_sI, mR_sL, mR_wI, mR_wL]; assumption) (by omega) (by omega) ?_
                  refine g_aload_n (j := 0) rfl dX12_side_139 ?_
                  refine g_getR dX12_side_140 flX12_72 rfl (by simp only [IsO_sI, IsO_sL, IsO_sR, IsO_wI, IsO_wL, IsA_sI, IsA_sL, IsA_sR, IsA_wI, IsA_wL, mR_sI, mR_sL, mR_wI, mR_wL]; assumption) (kz := 42) rfl (by simp only [IsO_sI, IsO_sL, IsO_sR, IsO_wI, IsO_wL, IsA_sI, IsA_sL, IsA_sR, IsA_wI, IsA_wL, mR_sI, mR_sL, mR_wI, mR_wL]; assumption) ?_
                  refine g_iconst dX12_side_143 ?_
                  refine g_iload (i := 6) rfl dX12_side_144 ?_
                  refine g_iast dX12_side_146 (by simp only [IsO_sI, IsO_sL, IsO_sR, IsO_wI, IsO_wL, IsA_sI, IsA_sL, IsA_sR, IsA_wI, IsA_wL, mR_sI, mR_sL, mR_wI, mR_wL]; assumption) (by omega) (by omega) ?_
                  refine g_aload_n (j := 0) rfl dX12_side_147 ?_
                  refine g_getR dX12_side_148 flX12_72 rfl (by simp only [IsO_sI, IsO_sL, IsO_sR, IsO_wI, IsO_wL, IsA_sI, IsA_sL, IsA_sR, IsA_wI, IsA_wL, mR_sI, mR_sL, mR_wI, mR_wL]; assumption) (kz := 42) rfl (by simp only [IsO_sI, IsO_sL, IsO_sR, IsO_wI, IsO_wL, IsA_sI, IsA_sL, IsA_sR, IsA_wI, IsA_wL, mR_sI, mR_sL, mR_wI, mR_wL]; assumption) ?_
                  refine g_iconst dX12_side_151 ?_
                  refine g_iload (i := 7) rfl dX12_side_152 ?_
                  refine g_iast dX12_side_154 (by simp only [IsO_sI, IsO_sL, IsO_sR, IsO_wI, IsO_wL, IsA_sI, IsA_sL, IsA_sR, IsA_wI, IsA_wL, mR_sI, mR_sL, mR_wI, mR_wL]; assumption) (by omega) (by omega) ?_
                  have q : ∀ (ν : Mem) (j v : Int), LtF m ν (sI ν (m + 15) j v) := fun _ _ _ => ⟨Fr.sI (Or.inr rfl), fun j _ => by rw [mI_sI, if_neg (by omega)]⟩
                  have hf1 : LtF m μ (sI (sI (sI (sI (sI (sI μ (m + 15) 0 a) (m + 15) 1 b) (m + 15) 2 e) (m + 15) 3 f) (m + 15) 4 g) (m + 15) 5 k) := FrZ.tr (FrZ.tr (FrZ.tr (FrZ.tr (FrZ.tr (q _ _ _) (q _ _ _)) (q _ _ _)) (q _ _ _)) (q _ _ _)) (q _ _ _)
                  have hV1 : ∀ l, 0 ≤ l → l ≤ 5 → mI (sI (sI (sI (sI (sI (sI μ (m + 15) 0 a) (m + 15) 1 b) (m + 15) 2 e) (m + 15) 3 f) (m + 15) 4 g) (m + 15) 5 k) (m + 15) l = arV a b e f g k l ∧ i32 (arV a b e f g k l) := fun l z1 z2 => by
                    have el : l = 0 ∨ l = 1 ∨ l = 2 ∨ l = 3 ∨ l = 4 ∨ l = 5 := by omega
                    rcases el with rfl | rfl | rfl | rfl | rfl | rfl <;> exact ⟨by simp [mI_sI, arV], by simp only [arV]; simpa using (by assumption)⟩
                  generalize sI (sI (sI (sI (sI (sI μ (m + 15) 0 a) (m + 15) 1 b) (m + 15) 2 e) (m + 15) 3 f) (m + 15) 4 g) (m + 15) 5 k = μ1 at *
                  have hz1 := hf1.z
                  have o01 := (hz1.mo hM).o
                  refine g_aload_n (j := 0) rfl dX12_side_155 ?_
                  refine g_iconst dX12_side_156 ?_
                  refine g_putI dX12_side_157 fpX12_381 rfl (nar_bool (by omega)) rfl (by assumption) (kz := 44) rfl ?_
                  have h0 : 0 < I.1.2.2.length := bI_n0 h4
                  have hf0 : StF m μ1 (sI μ1 m 44 0) := FrZ.sI rfl
                  have e440 : mI (sI μ1 m 44 0) m 44 = 0 := by rw [mI_sI, if_pos ⟨rfl, rfl⟩]
                  have hV0 : ∀ l, 0 ≤ l → l ≤ 5 → mI (sI μ1 m 44 0) (m + 15) l = arV a b e f g k l ∧ i32 (arV a b e f g k l) := fun l z1 z2 => ⟨(hf0.oth (hz1.mo hM)).2.2.2 l |>.trans (hV1 l z1 z2).1, (hV1 l z1 z2).2⟩
                  have hz0 : TrZ m μ (sI μ1 m 44 0) := FrZ.tr hz1 hf0.z
                  generalize sI μ1 m 44 0 = μ0 at *
                  have hM0 := hz0.mo hM
                  have o00 := hM0.o
                  refine g_aload_n (j := 0) rfl dX12_side_160 ?_
                  refine g_iload_n (j := 1) rfl dX12_side_161 ?_
                  refine g_callV dX12_side_162 mlX12_398 mvX12_sideTells (ci := 12) ⟨by decide, rfl⟩ (by assumption) (c_sideTells w d μ0 (s := s) hw h0 h14 hM0 (hz0.id hM hI) hV0 (Or.inl e440)) sv1 rfl (by omega) (Nat.le_of_ble_eq_true rfl) (Nat.le_refl _) (Nat.le_refl _) (fun v μ2 hR => ?_)
                  obtain ⟨⟨r, rfl, ir, hq⟩, hf2⟩ := hR
                  have o02 := (hf2.mo hM0).o
                  refine g_lstore (i := 8) dX12_side_165 (by decide) rfl lj8 ?_
                  refine g_aload_n (j := 0) rfl dX12_side_167 ?_
                  refine g_getI dX12_side_168 flX12_381 rfl (by assumption) (kz := 44) rfl ?_
                  refine g_if_eq (tgt := 180) dX12_side_171 (by decide) (by omega) (fun h171 => ?_) (fun h171 => ?_)
                  · refine g_lload (i := 8) rfl dX12_side_180 ?_
                    have hz2 : TrZ m μ μ2 := FrZ.tr hz0 hf2.z
                    have eS : sdA I s a b e f g k = soR I s (arV a b e f g k) := by rw [sdA, pI_t ⟨h0, h14, ⟨h28, h42, h57⟩, h72, h87, h102⟩]
                    refine G.retJ dX12_side_182 rfl ⟨?_, FrZ.MA hz2 hA (by omega) (by omega), hz2.id hM hI, hz2⟩
                    rw [eS, soR]
                    rcases hq with ⟨q1, -, q3⟩ | ⟨q1, q3⟩
                    · rw [q3]
                    · exact absurd h171 (by omega)
                  · refine g_ldc2 dX12_side_174 klX12_379 (z := -9223372036854775808) rfl ?_
                    refine g_goto (tgt := 182) (by decide) dX12_side_177 ?_
                    have hz2 : TrZ m μ μ2 := FrZ.tr hz0 hf2.z
                    have eS : sdA I s a b e f g k = soR I s (arV a b e f g k) := by rw [sdA, pI_t ⟨h0, h14, ⟨h28, h42, h57⟩, h72, h87, h102⟩]
                    refine G.retJ dX12_side_182 rfl ⟨?_, FrZ.MA hz2 hA (by omega) (by omega), hz2.id hM hI, hz2⟩
                    rw [eS, soR]
                    rcases hq with ⟨q1, -, q3⟩ | ⟨q1, q3⟩
                    · exact absurd q1 h171
                    · rw [q3.resolve_left (by omega)]
                · refine g_ldc2 dX12_side_105 klX12_379 (z := -9223372036854775808) rfl ?_
                  exact G.retJ dX12_side_108 rfl ⟨by rw [sdA, pI_f (fun z => by obtain ⟨z1, z2, ⟨z3, z4, z5⟩, z6, z7, z8⟩ := z; first | exact hn4 h4 z1 | exact h14 z2 | exact h28 z3 | exact h42 z4 | exact h57 z5 | exact h72 z6 | exact h87 z7 | exact h102 z8)], hA, hI, FrZ.rf⟩
