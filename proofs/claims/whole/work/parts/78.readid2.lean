section IL
theorem c_X4_readPower (w : WC) {x T y D : Nat} {n : Int} {B : Int → Int} {fo op : Int} {part : IdR} (hpart : (∀ (μ : Mem) (s : IdS), IdK w μ x n B T y s → mI μ (x + 1) 10 = fo → mI μ (x + 1) 11 = op → Con w D mX4_readPart 0 0 [vP (some (x + 58)), vI (op)] μ (IdP w x n B T y fo (op) (part s) μ))) (hgr : Gr 2 part) (hD : 2 ≤ D) (hop : 0 ≤ op ∧ op ≤ 6) (μ : Mem) (s : IdS) (h : IdK w μ x n B T y s) (e10 : mI μ (x + 1) 10 = fo) (e11 : mI μ (x + 1) 11 = op) : Con w (D + 1) mX4_readPower 0 0 [vP (some (x + 58)), vI op] μ (IdP w x n B T y fo op (idPow n B op part s) μ) := by
  have o58 := h.o58
  have r0 := h.r0
  have r1 := h.2.1.1
  have o1 := h.1.1.o1
  have e8 := h.2.2.1.1
  have hi := h.2.2.1.2
  have oy := h.ido.1
  have hbb := h.2.2.2.2
  unfold idPow
  refine Con.of (by decide) (Nat.le_of_ble_eq_true rfl) rfl ?_
  refine g_aload_n (j := 0) rfl dX4_readPower_0 ?_
  refine g_iload_n (j := 1) rfl dX4_readPower_1 ?_
  refine g_callV dX4_readPower_2 mlX4_68 mvX4_readPart (ci := 4) ⟨by decide, rfl⟩ (by assumption) (hpart μ s h e10 e11) sv1 rfl (by omega) (Nat.le_of_ble_eq_true rfl) (Nat.le_refl _) (Nat.le_refl _) (fun v μ1 hR => ?_)
  rcases hr : part s with e | s3
  · rw [hr] at hR
    obtain ⟨rfl, hE⟩ := hR
    refine g_if_ne (tgt := 10) dX4_readPower_5 (by decide) (by omega) (fun h5 => ?_) (fun h5 => ?_)
    · omega
    · refine g_iconst dX4_readPower_8 ?_
      exact G.retZ dX4_readPower_9 rfl (Or.inl rfl) ⟨rfl, hE⟩
  · rw [hr] at hR
    obtain ⟨rfl, h3, ⟨e103, e113⟩, hg3⟩ := hR
    obtain ⟨q1, q2, q3, k, q4⟩ := hgr _ _ hr
    have hxl : 1 ≤ (ixO s3.2.2.2).length := by rw [q4]; simp
    have hix := ixO_le s3.2.2.2
    generalize μ1 = μ3 at *
    refine g_if_ne (tgt := 10) dX4_readPower_5 (by decide) (by omega) (fun h5 => ?_) (fun h5 => ?_)
    · have o583 := h3.o58
      have r03 := h3.r0
      have r13 := h3.2.1.1
      have o13 := h3.1.1.o1
      have e83 := h3.2.2.1.1
      have hi3 := h3.2.2.1.2
      have oy3 := h3.ido.1
      have hbb3 := h3.2.2.2.2
      refine g_aload_n (j := 0) rfl dX4_readPower_10 ?_
      refine g_getR dX4_readPower_11 flX4_9 rfl (by assumption) (kz := 0) rfl (by assumption) ?_
      refine g_bipush dX4_readPower_14 (by omega) ?_
      refine g_callV dX4_readPower_16 mlX4_34 mvX10_isSign (ci := 10) ⟨by decide, rfl⟩ (by assumption) (c_isSign w D μ3 h3.1 e83 hi3 (c := 94) (by omega)) sv1 rfl (by omega) (Nat.le_of_ble_eq_true rfl) (Nat.le_refl _) (Nat.le_refl _) (fun v μ2 hR => ?_)
      obtain ⟨rfl, hm⟩ := hR
      replace hm := hm.symm
      subst hm
      refine g_ifb_ne (tgt := 24) dX4_readPower_19 (by decide)  (fun h19 => ?_) (fun h19 => ?_)
      · refine g_aload_n (j := 0) rfl dX4_readPower_24 ?_
        refine g_getR dX4_readPower_25 flX4_9 rfl (by assumption) (kz := 0) rfl (by assumption) ?_
        refine g_callV dX4_readPower_28 mlX4_51 mvX10_advance (ci := 10) ⟨by decide, rfl⟩ (by assumption) (c_advance w D μ3 h3.1 e83 (h3.lt h19)) sv0 rfl (by omega) (Nat.le_of_ble_eq_true rfl) (Nat.le_refl _) (Nat.le_refl _) (fun v μ4 hR => ?_)
        obtain ⟨rfl, e84, hr4⟩ := hR
        obtain ⟨h4, hg4⟩ := h3.adv e84 (h3.lt h19) hr4
        have e104 := (hr4.2 10 (by omega) (by omega)).trans e103
        have e114 := (hr4.2 11 (by omega) (by omega)).trans e113
        have hg34 := hg3.tr hg4
        have o584 := h4.o58
        have r04 := h4.r0
        have r14 := h4.2.1.1
        have o14 := h4.1.1.o1
        have e84 : mI μ4 (x + 1) 8 = ((s3.1 + 1 : Nat) : Int) := h4.2.2.1.1
        have hi4 : s3.1 + 1 ≤ T := h4.2.2.1.2
        have oy4 := h4.ido.1
        have hbb4 : s3.2.1 ≤ 60 ∧ s3.2.2.2.length ≤ 3 * s3.2.1 := h4.2.2.2.2
        have c84 : IcS μ4 y s3.2.1 s3.2.2.1 s3.2.2.2 := h4.2.2.2.1
        refine g_aload_n (j := 0) rfl dX4_readPower_31 ?_
        refine g_getR dX4_readPower_32 flX4_9 rfl (by assumption) (kz := 0) rfl (by assumption) ?_
        refine g_callV dX4_readPower_35 mlX4_71 mvX10_isN (ci := 10) ⟨by decide, rfl⟩ (by assumption) (c_isN w D μ4 (i := s3.1 + 1) h4.1 e84 hi4) sv0 rfl (by omega) (Nat.le_of_ble_eq_true rfl) (Nat.le_refl _) (Nat.le_refl _) (fun v μ2 hR => ?_)
        obtain ⟨rfl, hm⟩ := hR
        replace hm := hm.symm
        subst hm
        refine g_ifb_ne (tgt := 50) dX4_readPower_38 (by decide)  (fun h38 => ?_) (fun h38 => ?_)
        · have hkB := ka_N h38
          refine g_aload_n (j := 0) rfl dX4_readPower_50 ?_
          refine g_getR dX4_readPower_51 flX4_9 rfl (by assumption) (kz := 0) rfl (by assumption) ?_
          refine g_callV dX4_readPower_54 mlX4_74 mvX10_amount (ci := 10) ⟨by decide, rfl⟩ (by assumption) (c_amount w D μ4 (i := s3.1 + 1) h4.1 e84 hi4) sv0 rfl (by omega) (Nat.le_of_ble_eq_true rfl) (Nat.le_refl _) (Nat.le_refl _) (fun v μ2 hR => ?_)
          obtain ⟨rfl, hm⟩ := hR
          replace hm := hm.symm
          subst hm
          refine g_bipush dX4_readPower_57 (by omega) ?_
          refine g_icmp_le (tgt := 72) dX4_readPower_59 (by decide) (by omega) (by omega) (fun h59 => ?_) (fun h59 => ?_)
          · refine g_aload_n (j := 0) rfl dX4_readPower_72 ?_
            refine g_getR dX4_readPower_73 flX4_15 rfl (by assumption) (kz := 1) rfl (by assumption) ?_
            refine g_aload_n (j := 0) rfl dX4_readPower_76 ?_
            refine g_getR dX4_readPower_77 flX4_9 rfl (by assumption) (kz := 0) rfl (by assumption) ?_
            refine g_callV dX4_readPower_80 mlX4_74 mvX10_amount (ci := 10) ⟨by decide, rfl⟩ (by assumption) (c_amount w D μ4 (i := s3.1 + 1) h4.1 e84 hi4) sv0 rfl (by omega) (Nat.le_of_ble_eq_true rfl) (Nat.le_refl _) (Nat.le_refl _) (fun v μ2 hR => ?_)
            obtain ⟨rfl, hm⟩ := hR
            replace hm := hm.symm
            subst hm
            refine g_callV dX4_readPower_83 mlX4_78 mvX3_addPower (ci := 3) ⟨by decide, rfl⟩ (by assumption) (c_idPower w (D - 1) μ4 h4.ido c84 (by omega) (by omega)) sv1 rfl (by omega) (Nat.le_of_ble_eq_true rfl) (Nat.le_refl _) (Nat.le_refl _) (fun v μ5 hR => ?_)
            obtain ⟨rfl, hc, hf⟩ := hR
            obtain ⟨h5, hg5⟩ := h4.id (s2 := (s3.1 + 1, s3.2.1, s3.2.2.1, s3.2.2.2 ++ [(5, ka n B (tP n B (s3.1 + 1)))])) hf rfl hc (by show s3.2.1 ≤ 60 ∧ (s3.2.2.2 ++ [_]).length ≤ 3 * s3.2.1; rw [List.length_append]; simp; omega)
            have e105 := (hf.1.I o14.2.1 (by have := h4.yb; omega) 10).trans e104
            have e115 := (hf.1.I o14.2.1 (by have := h4.yb; omega) 11).trans e114
            have o585 := h5.o58
            have r05 := h5.r0
            have r15 := h5.2.1.1
            have o15 := h5.1.1.o1
            have e85 : mI μ5 (x + 1) 8 = ((s3.1 + 1 : Nat) : Int) := h5.2.2.1.1
            have hi5 := h5.2.2.1.2
            have oy5 := h5.ido.1
            have hbb5 := h5.2.2.2.2
            refine g_aload_n (j := 0) rfl dX4_readPower_86 ?_
            refine g_getR dX4_readPower_87 flX4_9 rfl (by assumption) (kz := 0) rfl (by assumption) ?_
            refine g_callV dX4_readPower_90 mlX4_51 mvX10_advance (ci := 10) ⟨by decide, rfl⟩ (by assumption) (c_advance w D μ5 (i := s3.1 + 1) h5.1 e85 ((h4.1.lt hi4).1.mp h38.1)) sv0 rfl (by omega) (Nat.le_of_ble_eq_true rfl) (Nat.le_refl _) (Nat.le_refl _) (fun v μ6 hR => ?_)
            obtain ⟨rfl, e86, hr6⟩ := hR
            obtain ⟨h6, hg6⟩ := h5.adv e86 ((h4.1.lt hi4).1.mp h38.1) hr6
            refine g_iconst dX4_readPower_93 ?_
            refine G.retZ dX4_readPower_94 rfl (Or.inr rfl) ?_
            unfold idB
            dsimp only
            rw [pI_t h19, pI_t h38, pI_t (by omega)]
            exact ⟨rfl, h6, ⟨(hr6.2 10 (by omega) (by omega)).trans e105, (hr6.2 11 (by omega) (by omega)).trans e115⟩, (hg34.tr hg5).tr hg6⟩
          · refine g_aload_n (j := 0) rfl dX4_readPower_62 ?_
            refine g_getR dX4_readPower_63 flX4_9 rfl (by assumption) (kz := 0) rfl (by assumption) ?_
            refine g_bipush dX4_readPower_66 (by omega) ?_
            refine g_callV dX4_readPower_68 mlX4_38 mvX10_fail (ci := 10) ⟨by decide, rfl⟩ (by assumption) (c_fail w D μ4 (i := s3.1 + 1) h4.1 e84 hi4 (k := 10) e104 e114) sv1 rfl (by omega) (Nat.le_of_ble_eq_true rfl) (Nat.le_refl _) (Nat.le_refl _) (fun v μ5 hR => ?_)
            obtain ⟨rfl, hE⟩ := hR
            refine G.retZ dX4_readPower_71 rfl (Or.inl rfl) ?_
            unfold idB
            dsimp only
            rw [pI_t h19, pI_t h38, pI_f (by omega)]
            exact ⟨rfl, hg34.E hE.w.i⟩
        · refine g_aload_n (j := 0) rfl dX4_readPower_41 ?_
          refine g_getR dX4_readPower_42 flX4_9 rfl (by assumption) (kz := 0) rfl (by assumption) ?_
          refine g_iconst dX4_readPower_45 ?_
          refine g_callV dX4_readPower_46 mlX4_38 mvX10_fail (ci := 10) ⟨by decide, rfl⟩ (by assumption) (c_fail w D μ4 (i := s3.1 + 1) h4.1 e84 hi4 (k := 1) e104 e114) sv1 rfl (by omega) (Nat.le_of_ble_eq_true rfl) (Nat.le_refl _) (Nat.le_refl _) (fun v μ5 hR => ?_)
          obtain ⟨rfl, hE⟩ := hR
          refine G.retZ dX4_readPower_49 rfl (Or.inl rfl) ?_
          unfold idB
          dsimp only
          rw [pI_t h19, pI_f h38]
          exact ⟨rfl, hg34.E hE.w.i⟩
      · refine g_iconst dX4_readPower_22 ?_
        refine G.retZ dX4_readPower_23 rfl (Or.inr rfl) ?_
        unfold idB
        dsimp only
        rw [pI_f h19]
        exact ⟨rfl, h3, ⟨e103, e113⟩, hg3⟩
    · omega
theorem IdP.tr {w : WC} {x T y : Nat} {n : Int} {B : Int → Int} {fo op : Int} {r : FlF ⊕ IdS} {μ0 μ μ2 : Mem} {v : Option AV} (hg : IdG x y μ0 μ) (h : IdP w x n B T y fo op r μ v μ2) : IdP w x n B T y fo op r μ0 v μ2 := by
  rcases r with e | s
  · exact ⟨h.1, hg.E h.2⟩
  · exact ⟨h.1, h.2.1, h.2.2.1, hg.tr h.2.2.2⟩
theorem l_X4_mul {w : WC} {x T y D : Nat} {n : Int} {B : Int → Int} {fo op : Int} {pow : IdR} {st : List Nat} (hpow : (∀ (μ : Mem) (s : IdS), IdK w μ x n B T y s → mI μ (x + 1) 10 = fo → mI μ (x + 1) 11 = op → Con w D mX4_readPower 0 0 [vP (some (x + 58)), vI (op)] μ (IdP w x n B T y fo (op) (pow s) μ))) (hgr : Gr 1 pow) (hD : 2 ≤ D) (hop : 0 ≤ op ∧ op ≤ 6) : ∀ (k m : Nat) (s : IdS) (μ : Mem) {a : Nat}, m + k = 60 → IdK w μ x n B T y s → mI μ (x + 1) 10 = fo → mI μ (x + 1) 11 = op → ixO s.2.2.2 = a :: st → G w (D + 1) mX4_readProduct (IdP w x n B T y fo op (idMul n B op pow k s) μ) 0 0 12 [some (vP (some (x + 58))), some (vI op), some (vI (m : Int))] [] μ := by
  intro k
  induction k with
  | zero =>
    intro m s μ a hm h e10 e11 ha
    have o58 := h.o58
    have r0 := h.r0
    have r1 := h.2.1.1
    have o1 := h.1.1.o1
    have e8 := h.2.2.1.1
    have hi := h.2.2.1.2
    have oy := h.ido.1
    have hbb := h.2.2.2.2
    refine g_iload_n (j := 2) rfl dX4_readProduct_12 ?_
    refine g_bipush dX4_readProduct_13 (by omega) ?_
    refine g_icmp_ge (tgt := 63) dX4_readProduct_15 (by decide) (by omega) (by omega) (fun h15 => ?_) (fun h15 => ?_)
    · refine g_aload_n (j := 0) rfl dX4_readProduct_63 ?_
      refine g_getR dX4_readProduct_64 flX4_9 rfl (by assumption) (kz := 0) rfl (by assumption) ?_
      refine g_bipush dX4_readProduct_67 (by omega) ?_
      refine g_callV dX4_readProduct_69 mlX4_38 mvX10_fail (ci := 10) ⟨by decide, rfl⟩ (by assumption) (c_fail w D μ h.1 e8 hi (k := 12) e10 e11) sv1 rfl (by omega) (Nat.le_of_ble_eq_true rfl) (Nat.le_refl _) (Nat.le_refl _) (fun v μ2 hR => ?_)
      obtain ⟨rfl, hE⟩ := hR
      exact G.retZ dX4_readProduct_72 rfl (Or.inl rfl) ⟨rfl, hE.w.i⟩
    · omega
  | succ k ih =>
    intro m s μ a hm h e10 e11 ha
    have o58 := h.o58
    have r0 := h.r0
    have r1 := h.2.1.1
    have o1 := h.1.1.o1
    have e8 := h.2.2.1.1
    have hi := h.2.2.1.2
    have oy := h.ido.1
    have hbb := h.2.2.2.2
    refine g_iload_n (j := 2) rfl dX4_readProduct_12 ?_
    refine g_bipush dX4_readProduct_13 (by omega) ?_
    refine g_icmp_ge (tgt := 63) dX4_readProduct_15 (by decide) (by omega) (by omega) (fun h15 => ?_) (fun h15 => ?_)
    · omega
    · refine g_aload_n (j := 0) rfl dX4_readProduct_18 ?_
      refine g_getR dX4_readProduct_19 flX4_9 rfl (by assumption) (kz := 0) rfl (by assumption) ?_
      refine g_bipush dX4_readProduct_22 (by omega) ?_
      refine g_callV dX4_readProduct_24 mlX4_34 mvX10_isSign (ci := 10) ⟨by decide, rfl⟩ (by assumption) (c_isSign w D μ h.1 e8 hi (c := 42) (by omega)) sv1 rfl (by omega) (Nat.le_of_ble_eq_true rfl) (Nat.le_refl _) (Nat.le_refl _) (fun v μ2 hR => ?_)
      obtain ⟨rfl, hm⟩ := hR
      replace hm := hm.symm
      subst hm
      refine g_ifb_ne (tgt := 32) dX4_readProduct_27 (by decide)  (fun h27 => ?_) (fun h27 => ?_)
      · refine g_aload_n (j := 0) rfl dX4_readProduct_32 ?_
        refine g_getR dX4_readProduct_33 flX4_9 rfl (by assumption) (kz := 0) rfl (by assumption) ?_
        refine g_callV dX4_readProduct_36 mlX4_51 mvX10_advance (ci := 10) ⟨by decide, rfl⟩ (by assumption) (c_advance w D μ h.1 e8 (h.lt h27)) sv0 rfl (by omega) (Nat.le_of_ble_eq_true rfl) (Nat.le_refl _) (Nat.le_refl _) (fun v μ2 hR => ?_)
        obtain ⟨rfl, e82, hr2⟩ := hR
        obtain ⟨h2, hg2⟩ := h.adv e82 (h.lt h27) hr2
        have e102 := (hr2.2 10 (by omega) (by omega)).trans e10
        have e112 := (hr2.2 11 (by omega) (by omega)).trans e11
        have o582 := h2.o58
        refine g_aload_n (j := 0) rfl dX4_readProduct_39 ?_
        refine g_iload_n (j := 1) rfl dX4_readProduct_40 ?_
        refine g_callV dX4_readProduct_41 mlX4_65 mvX4_readPower (ci := 4) ⟨by decide, rfl⟩ (by assumption) (hpow μ2 (s.1 + 1, s.2) h2 e102 e112) sv1 rfl (by omega) (Nat.le_of_ble_eq_true rfl) (Nat.le_refl _) (Nat.le_refl _) (fun v μ4 hR => ?_)
        rcases hr : pow (s.1 + 1, s.2) with e | s4
        · rw [hr] at hR
          obtain ⟨rfl, hE⟩ := hR
          refine g_if_ne (tgt := 49) dX4_readProduct_44 (by decide) (by omega) (fun h44 => ?_) (fun h44 => ?_)
          · omega
          · refine g_iconst dX4_readProduct_47 ?_
            refine G.retZ dX4_readProduct_48 rfl (Or.inl rfl) ?_
            unfold idMul
            rw [pI_t h27, hr]
            exact ⟨rfl, hg2.E hE⟩
        · rw [hr] at hR
          obtain ⟨rfl, h4, ⟨e104, e114⟩, hg4⟩ := hR
          refine g_if_ne (tgt := 49) dX4_readProduct_44 (by decide) (by omega) (fun h44 => ?_) (fun h44 => ?_)
          · have o584 := h4.o58
            have r04 := h4.r0
            have r14 := h4.2.1.1
            have o14 := h4.1.1.o1
            have e84 := h4.2.2.1.1
            have hi4 := h4.2.2.1.2
            have oy4 := h4.ido.1
            have hbb4 := h4.2.2.2.2
            obtain ⟨q1, q2, q3, kk4, q4⟩ := hgr _ _ hr
            dsimp only at q1 q3 q4
            have hx4 : 2 ≤ (ixO s4.2.2.2).length := by rw [q4, ha]; simp
            have hix := ixO_le s4.2.2.2
            have c84 : IcS μ4 y s4.2.1 s4.2.2.1 s4.2.2.2 := h4.2.2.2.1
            refine g_aload_n (j := 0) rfl dX4_readProduct_49 ?_
            refine g_getR dX4_readProduct_50 flX4_15 rfl (by assumption) (kz := 1) rfl (by assumption) ?_
            refine g_iconst dX4_readProduct_53 ?_
            refine g_callV dX4_readProduct_54 mlX4_61 mvX3_addJoint (ci := 3) ⟨by decide, rfl⟩ (by assumption) (c_idJoint w (D - 1) μ4 h4.ido c84 (by omega) (by omega) (st := 4) (by omega)) sv1 rfl (by omega) (Nat.le_of_ble_eq_true rfl) (Nat.le_refl _) (Nat.le_refl _) (fun v μ5 hR => ?_)
            obtain ⟨rfl, hc, hf⟩ := hR
            obtain ⟨h5, hg5⟩ := h4.id (s2 := (s4.1, s4.2.1, s4.2.2.1, s4.2.2.2 ++ [(4, 0)])) hf rfl hc (by show s4.2.1 ≤ 60 ∧ (s4.2.2.2 ++ [_]).length ≤ 3 * s4.2.1; rw [List.length_append]; simp; omega)
            have e105 := (hf.1.I o14.2.1 (by have := h4.yb; omega) 10).trans e104
            have e115 := (hf.1.I o14.2.1 (by have := h4.yb; omega) 11).trans e114
            refine g_iinc (i := 2) dX4_readProduct_57 rfl (by decide) rfl ls2 ?_
            refine g_goto (tgt := 12) (by decide) dX4_readProduct_60 ?_
            have er : idMul n B op pow (k + 1) s = idMul n B op pow k (s4.1, s4.2.1, s4.2.2.1, s4.2.2.2 ++ [(4, 0)]) := by
              show pI _ _ _ = _
              rw [pI_t h27, hr]
              rfl
            rw [er]
            have hn : ixO (s4.2.2.2 ++ [((4, 0) : Op)]) = s4.2.2.2.length :: st := by
              rw [ixO_add, q4, ha]
              rfl
            refine G.post (fun v μ6 hq => IdP.tr ((hg2.tr hg4).tr hg5) hq) (ih (m + 1) _ μ5 (by omega) h5 e105 e115 hn)
          · omega
      · refine g_iconst dX4_readProduct_30 ?_
        refine G.retZ dX4_readProduct_31 rfl (Or.inr rfl) ?_
        unfold idMul
        rw [pI_f h27]
        exact ⟨rfl, h, ⟨e10, e11⟩, IdG.rf⟩
theorem c_X4_readProduct (w : WC) {x T y D : Nat} {n : Int} {B : Int → Int} {fo op : Int} {pow : IdR} (hpow : (∀ (μ : Mem) (s : IdS), IdK w μ x n B T y s → mI μ (x + 1) 10 = fo → mI μ (x + 1) 11 = op → Con w D mX4_readPower 0 0 [vP (some (x + 58)), vI (op)] μ (IdP w x n B T y fo (op) (pow s) μ))) (hgr : Gr 1 pow) (hD : 2 ≤ D) (hop : 0 ≤ op ∧ op ≤ 6) (μ : Mem) (s : IdS) (h : IdK w μ x n B T y s) (e10 : mI μ (x + 1) 10 = fo) (e11 : mI μ (x + 1) 11 = op) : Con w (D + 1) mX4_readProduct 0 0 [vP (some (x + 58)), vI op] μ (IdP w x n B T y fo op (idProd n B op pow s) μ) := by
  have o58 := h.o58
  have r0 := h.r0
  have r1 := h.2.1.1
  have o1 := h.1.1.o1
  have e8 := h.2.2.1.1
  have hi := h.2.2.1.2
  have oy := h.ido.1
  have hbb := h.2.2.2.2
  unfold idProd
  refine Con.of (by decide) (Nat.le_of_ble_eq_true rfl) rfl ?_
  refine g_aload_n (j := 0) rfl dX4_readProduct_0 ?_
  refine g_iload_n (j := 1) rfl dX4_readProduct_1 ?_
  refine g_callV dX4_readProduct_2 mlX4_65 mvX4_readPower (ci := 4) ⟨by decide, rfl⟩ (by assumption) (hpow μ s h e10 e11) sv1 rfl (by omega) (Nat.le_of_ble_eq_true rfl) (Nat.le_refl _) (Nat.le_refl _) (fun v μ1 hR => ?_)
  rcases hr : pow s with e | s3
  · rw [hr] at hR
    obtain ⟨rfl, hE⟩ := hR
    refine g_if_ne (tgt := 10) dX4_readProduct_5 (by decide) (by omega) (fun h5 => ?_) (fun h5 => ?_)
    · omega
    · refine g_iconst dX4_readProduct_8 ?_
      exact G.retZ dX4_readProduct_9 rfl (Or.inl rfl) ⟨rfl, hE⟩
  · rw [hr] at hR
    obtain ⟨rfl, h3, ⟨e103, e113⟩, hg3⟩ := hR
    obtain ⟨-, -, -, k, q4⟩ := hgr _ _ hr
    refine g_if_ne (tgt := 10) dX4_readProduct_5 (by decide) (by omega) (fun h5 => ?_) (fun h5 => ?_)
    · refine g_iconst dX4_readProduct_10 ?_
      refine g_istore_n (j := 2) dX4_readProduct_11 (by decide) rfl ls2 ?_
      refine G.post (fun v μ6 hq => IdP.tr hg3 hq) (l_X4_mul hpow hgr hD hop 60 0 s3 μ1 rfl h3 e103 e113 q4)
    · omega
theorem l_X4_add {w : WC} {x T y D : Nat} {n : Int} {B : Int → Int} {fo op : Int} {prod : IdR} {st : List Nat} (hprod : (∀ (μ : Mem) (s : IdS), IdK w μ x n B T y s → mI μ (x + 1) 10 = fo → mI μ (x + 1) 11 = op → Con w D mX4_readProduct 0 0 [vP (some (x + 58)), vI (op)] μ (IdP w x n B T y fo (op) (prod s) μ))) (hgr : Gr 1 prod) (hD : 2 ≤ D) (hop : 0 ≤ op ∧ op ≤ 6) : ∀ (k m : Nat) (s : IdS) (μ : Mem) {a : Nat} {l3 : Option AV}, m + k = 60 → IdK w μ x n B T y s → mI μ (x + 1) 10 = fo → mI μ (x + 1) 11 = op → ixO s.2.2.2 = a :: st → G w (D + 1) mX4_readSum (IdP w x n B T y fo op (idAdd n B op prod k s) μ) 0 0 12 [some (vP (some (x + 58))), some (vI op), some (vI (m : Int)), l3] [] μ := by
  intro k
  induction k with
  | zero =>
    intro m s μ a l3 hm h e10 e11 ha
    have o58 := h.o58
    have r0 := h.r0
    have r1 := h.2.1.1
    have o1 := h.1.1.o1
    have e8 := h.2.2.1.1
    have hi := h.2.2.1.2
    have oy := h.ido.1
    have hbb := h.2.2.2.2
    refine g_iload_n (j := 2) rfl dX4_readSum_12 ?_
    refine g_bipush dX4_readSum_13 (by omega) ?_
    refine g_icmp_ge (tgt := 85) dX4_readSum_15 (by decide) (by omega) (by omega) (fun h15 => ?_) (fun h15 => ?_)
    · refine g_aload_n (j := 0) rfl dX4_readSum_85 ?_
      refine g_getR dX4_readSum_86 flX4_9 rfl (by assumption) (kz := 0) rfl (by assumption) ?_
      refine g_bipush dX4_readSum_89 (by omega) ?_
      refine g_callV dX4_readSum_91 mlX4_38 mvX10_fail (ci := 10) ⟨by decide, rfl⟩ (by assumption) (c_fail w D μ h.1 e8 hi (k := 12) e10 e11) sv1 rfl (by omega) (Nat.le_of_ble_eq_true rfl) (Nat.le_refl _) (Nat.le_refl _) (fun v μ2 hR => ?_)
      obtain ⟨rfl, hE⟩ := hR
      exact G.retZ dX4_readSum_94 rfl (Or.inl rfl) ⟨rfl, hE.w.i⟩
    · omega
  | succ k ih =>
    intro m s μ a l3 hm h e10 e11 ha
    have o58 := h.o58
    have r0 := h.r0
    have r1 := h.2.1.1
    have o1 := h.1.1.o1
    have e8 := h.2.2.1.1
    have hi := h.2.2.1.2
    have oy := h.ido.1
    have hbb := h.2.2.2.2
    rcases Classical.em (isSg n B (tP n B s.1) 43) with h43 | h43
    · refine g_iload_n (j := 2) rfl dX4_readSum_12 ?_
      refine g_bipush dX4_readSum_13 (by omega) ?_
      refine g_icmp_ge (tgt := 85) dX4_readSum_15 (by decide) (by omega) (by omega) (fun h15 => ?_) (fun h15 => ?_)
      · omega
      · refine g_aload_n (j := 0) rfl dX4_readSum_18 ?_
        refine g_getR dX4_readSum_19 flX4_9 rfl (by assumption) (kz := 0) rfl (by assumption) ?_
        refine g_bipush dX4_readSum_22 (by omega) ?_
        refine g_callV dX4_readSum_24 mlX4_34 mvX10_isSign (ci := 10) ⟨by decide, rfl⟩ (by assumption) (c_isSign w D μ h.1 e8 hi (c := 43) (by omega)) sv1 rfl (by omega) (Nat.le_of_ble_eq_true rfl) (Nat.le_refl _) (Nat.le_refl _) (fun v μ2 hR => ?_)
        obtain ⟨rfl, hm⟩ := hR
        replace hm := hm.symm
        subst hm
        rw [show bI (isSg n B (tP n B s.1) 43) = 1 from bI_is1.mpr h43]
        refine g_istore_n (j := 3) dX4_readSum_27 (by decide) rfl ls3 ?_
        refine g_iload_n (j := 3) rfl dX4_readSum_28 ?_
        refine g_if_ne (tgt := 46) dX4_readSum_29 (by decide) (by omega) (fun h29 => ?_) (fun h29 => ?_)
        · refine g_aload_n (j := 0) rfl dX4_readSum_46 ?_
          refine g_getR dX4_readSum_47 flX4_9 rfl (by assumption) (kz := 0) rfl (by assumption) ?_
          refine g_callV dX4_readSum_50 mlX4_51 mvX10_advance (ci := 10) ⟨by decide, rfl⟩ (by assumption) (c_advance w D μ h.1 e8 (h.lt h43)) sv0 rfl (by omega) (Nat.le_of_ble_eq_true rfl) (Nat.le_refl _) (Nat.le_refl _) (fun v μ2 hR => ?_)
          obtain ⟨rfl, e82, hr2⟩ := hR
          obtain ⟨h2, hg2⟩ := h.adv e82 (h.lt h43) hr2
          have e102 := (hr2.2 10 (by omega) (by omega)).trans e10
          have e112 := (hr2.2 11 (by omega) (by omega)).trans e11
          have o582 := h2.o58
          refine g_aload_n (j := 0) rfl dX4_readSum_53 ?_
          refine g_iload_n (j := 1) rfl dX4_readSum_54 ?_
          refine g_callV dX4_readSum_55 mlX4_58 mvX4_readProduct (ci := 4) ⟨by decide, rfl⟩ (by assumption) (hprod μ2 (s.1 + 1, s.2) h2 e102 e112) sv1 rfl (by omega) (Nat.le_of_ble_eq_true rfl) (Nat.le_refl _) (Nat.le_refl _) (fun v μ4 hR => ?_)
          rcases hr : prod (s.1 + 1, s.2) with e | s4
          · rw [hr] at hR
            obtain ⟨rfl, hE⟩ := hR
            refine g_if_ne (tgt := 63) dX4_readSum_58 (by decide) (by omega) (fun h58 => ?_) (fun h58 => ?_)
            · omega
            · refine g_iconst dX4_readSum_61 ?_
              refine G.retZ dX4_readSum_62 rfl (Or.inl rfl) ?_
              unfold idAdd
              rw [pI_t (Or.inl h43), hr]
              exact ⟨rfl, hg2.E hE⟩
          · rw [hr] at hR
            obtain ⟨rfl, h4, ⟨e104, e114⟩, hg4⟩ := hR
            refine g_if_ne (tgt := 63) dX4_readSum_58 (by decide) (by omega) (fun h58 => ?_) (fun h58 => ?_)
            · have o584 := h4.o58
              have r04 := h4.r0
              have r14 := h4.2.1.1
              have o14 := h4.1.1.o1
              have e84 := h4.2.2.1.1
              have hi4 := h4.2.2.1.2
              have oy4 := h4.ido.1
              have hbb4 := h4.2.2.2.2
              obtain ⟨q1, q2, q3, kk4, q4⟩ := hgr _ _ hr
              dsimp only at q1 q3 q4
              have hx4 : 2 ≤ (ixO s4.2.2.2).length := by rw [q4, ha]; simp
              have hix := ixO_le s4.2.2.2
              have c84 : IcS μ4 y s4.2.1 s4.2.2.1 s4.2.2.2 := h4.2.2.2.1
              refine g_aload_n (j := 0) rfl dX4_readSum_63 ?_
              refine g_getR dX4_readSum_64 flX4_15 rfl (by assumption) (kz := 1) rfl (by assumption) ?_
              refine g_iload_n (j := 3) rfl dX4_readSum_67 ?_
              refine g_if_eq (tgt := 75) dX4_readSum_68 (by decide) (by omega) (fun h68 => ?_) (fun h68 => ?_)
              · omega
              · refine g_iconst dX4_readSum_71 ?_
                refine g_goto (tgt := 76) (by decide) dX4_readSum_72 ?_
                refine g_callV dX4_readSum_76 mlX4_61 mvX3_addJoint (ci := 3) ⟨by decide, rfl⟩ (by assumption) (c_idJoint w (D - 1) μ4 h4.ido c84 (by omega) (by omega) (st := 2) (by omega)) sv1 rfl (by omega) (Nat.le_of_ble_eq_true rfl) (Nat.le_refl _) (Nat.le_refl _) (fun v μ5 hR => ?_)
                obtain ⟨rfl, hc, hf⟩ := hR
                obtain ⟨h5, hg5⟩ := h4.id (s2 := (s4.1, s4.2.1, s4.2.2.1, s4.2.2.2 ++ [(2, 0)])) hf rfl hc (by show s4.2.1 ≤ 60 ∧ (s4.2.2.2 ++ [_]).length ≤ 3 * s4.2.1; rw [List.length_append]; simp; omega)
                have e105 := (hf.1.I o14.2.1 (by have := h4.yb; omega) 10).trans e104
                have e115 := (hf.1.I o14.2.1 (by have := h4.yb; omega) 11).trans e114
                refine g_iinc (i := 2) dX4_readSum_79 rfl (by decide) rfl ls2 ?_
                refine g_goto (tgt := 12) (by decide) dX4_readSum_82 ?_
                have er : idAdd n B op prod (k + 1) s = idAdd n B op prod k (s4.1, s4.2.1, s4.2.2.1, s4.2.2.2 ++ [(2, 0)]) := by
                  show pI _ _ _ = _
                  rw [pI_t (Or.inl h43), hr]
                  unfold idB
                  dsimp only
                  rw [cI_t h43]
                rw [er]
                have hn : ixO (s4.2.2.2 ++ [((2, 0) : Op)]) = s4.2.2.2.length :: st := by
                  rw [ixO_add, q4, ha]
                  rfl
                refine G.post (fun v μ6 hq => IdP.tr ((hg2.tr hg4).tr hg5) hq) (ih (m + 1) _ μ5 (by omega) h5 e105 e115 hn)
            · omega
        · omega
    · refine g_iload_n (j := 2) rfl dX4_readSum_12 ?_
      refine g_bipush dX4_readSum_13 (by omega) ?_
      refine g_icmp_ge (tgt := 85) dX4_readSum_15 (by decide) (by omega) (by omega) (fun h15 => ?_) (fun h15 => ?_)
      · omega
      · refine g_aload_n (j := 0) rfl dX4_readSum_18 ?_
        refine g_getR dX4_readSum_19 flX4_9 rfl (by assumption) (kz := 0) rfl (by assumption) ?_
        refine g_bipush dX4_readSum_22 (by omega) ?_
        refine g_callV dX4_readSum_24 mlX4_34 mvX10_isSign (ci := 10) ⟨by decide, rfl⟩ (by assumption) (c_isSign w D μ h.1 e8 hi (c := 43) (by omega)) sv1 rfl (by omega) (Nat.le_of_ble_eq_true rfl) (Nat.le_refl _) (Nat.le_refl _) (fun v μ2 hR => ?_)
        obtain ⟨rfl, hm⟩ := hR
        replace hm := hm.symm
        subst hm
        rw [show bI (isSg n B (tP n B s.1) 43) = 0 from bI_is0.mpr h43]
        refine g_istore_n (j := 3) dX4_readSum_27 (by decide) rfl ls3 ?_
        refine g_iload_n (j := 3) rfl dX4_readSum_28 ?_
        refine g_if_ne (tgt := 46) dX4_readSum_29 (by decide) (by omega) (fun h29 => ?_) (fun h29 => ?_)
        · omega
        · refine g_aload_n (j := 0) rfl dX4_readSum_32 ?_
          refine g_getR dX4_readSum_33 flX4_9 rfl (by assumption) (kz := 0) rfl (by assumption) ?_
          refine g_bipush dX4_readSum_36 (by omega) ?_
          refine g_callV dX4_readSum_38 mlX4_34 mvX10_isSign (ci := 10) ⟨by decide, rfl⟩ (by assumption) (c_isSign w D μ h.1 e8 hi (c := 45) (by omega)) sv1 rfl (by omega) (Nat.le_of_ble_eq_true rfl) (Nat.le_refl _) (Nat.le_refl _) (fun v μ2 hR => ?_)
          obtain ⟨rfl, hm⟩ := hR
          replace hm := hm.symm
          subst hm
          refine g_ifb_ne (tgt := 46) dX4_readSum_41 (by decide)  (fun h41 => ?_) (fun h41 => ?_)
          · refine g_aload_n (j := 0) rfl dX4_readSum_46 ?_
            refine g_getR dX4_readSum_47 flX4_9 rfl (by assumption) (kz := 0) rfl (by assumption) ?_
            refine g_callV dX4_readSum_50 mlX4_51 mvX10_advance (ci := 10) ⟨by decide, rfl⟩ (by assumption) (c_advance w D μ h.1 e8 (h.lt h41)) sv0 rfl (by omega) (Nat.le_of_ble_eq_true rfl) (Nat.le_refl _) (Nat.le_refl _) (fun v μ2 hR => ?_)
            obtain ⟨rfl, e82, hr2⟩ := hR
            obtain ⟨h2, hg2⟩ := h.adv e82 (h.lt h41) hr2
            have e102 := (hr2.2 10 (by omega) (by omega)).trans e10
            have e112 := (hr2.2 11 (by omega) (by omega)).trans e11
            have o582 := h2.o58
            refine g_aload_n (j := 0) rfl dX4_readSum_53 ?_
            refine g_iload_n (j := 1) rfl dX4_readSum_54 ?_
            refine g_callV dX4_readSum_55 mlX4_58 mvX4_readProduct (ci := 4) ⟨by decide, rfl⟩ (by assumption) (hprod μ2 (s.1 + 1, s.2) h2 e102 e112) sv1 rfl (by omega) (Nat.le_of_ble_eq_true rfl) (Nat.le_refl _) (Nat.le_refl _) (fun v μ4 hR => ?_)
            rcases hr : prod (s.1 + 1, s.2) with e | s4
            · rw [hr] at hR
              obtain ⟨rfl, hE⟩ := hR
              refine g_if_ne (tgt := 63) dX4_readSum_58 (by decide) (by omega) (fun h58 => ?_) (fun h58 => ?_)
              · omega
              · refine g_iconst dX4_readSum_61 ?_
                refine G.retZ dX4_readSum_62 rfl (Or.inl rfl) ?_
                unfold idAdd
                rw [pI_t (Or.inr h41), hr]
                exact ⟨rfl, hg2.E hE⟩
            · rw [hr] at hR
              obtain ⟨rfl, h4, ⟨e104, e114⟩, hg4⟩ := hR
              refine g_if_ne (tgt := 63) dX4_readSum_58 (by decide) (by omega) (fun h58 => ?_) (fun h58 => ?_)
              · have o584 := h4.o58
                have r04 := h4.r0
                have r14 := h4.2.1.1
                have o14 := h4.1.1.o1
                have e84 := h4.2.2.1.1
                have hi4 := h4.2.2.1.2
                have oy4 := h4.ido.1
                have hbb4 := h4.2.2.2.2
                obtain ⟨q1, q2, q3, kk4, q4⟩ := hgr _ _ hr
                dsimp only at q1 q3 q4
                have hx4 : 2 ≤ (ixO s4.2.2.2).length := by rw [q4, ha]; simp
                have hix := ixO_le s4.2.2.2
                have c84 : IcS μ4 y s4.2.1 s4.2.2.1 s4.2.2.2 := h4.2.2.2.1
                refine g_aload_n (j := 0) rfl dX4_readSum_63 ?_
                refine g_getR dX4_readSum_64 flX4_15 rfl (by assumption) (kz := 1) rfl (by assumption) ?_
                refine g_iload_n (j := 3) rfl dX4_readSum_67 ?_
                refine g_if_eq (tgt := 75) dX4_readSum_68 (by decide) (by omega) (fun h68 => ?_) (fun h68 => ?_)
                · refine g_iconst dX4_readSum_75 ?_
                  refine g_callV dX4_readSum_76 mlX4_61 mvX3_addJoint (ci := 3) ⟨by decide, rfl⟩ (by assumption) (c_idJoint w (D - 1) μ4 h4.ido c84 (by omega) (by omega) (st := 3) (by omega)) sv1 rfl (by omega) (Nat.le_of_ble_eq_true rfl) (Nat.le_refl _) (Nat.le_refl _) (fun v μ5 hR => ?_)
                  obtain ⟨rfl, hc, hf⟩ := hR
                  obtain ⟨h5, hg5⟩ := h4.id (s2 := (s4.1, s4.2.1, s4.2.2.1, s4.2.2.2 ++ [(3, 0)])) hf rfl hc (by show s4.2.1 ≤ 60 ∧ (s4.2.2.2 ++ [_]).length ≤ 3 * s4.2.1; rw [List.length_append]; simp; omega)
                  have e105 := (hf.1.I o14.2.1 (by have := h4.yb; omega) 10).trans e104
                  have e115 := (hf.1.I o14.2.1 (by have := h4.yb; omega) 11).trans e114
                  refine g_iinc (i := 2) dX4_readSum_79 rfl (by decide) rfl ls2 ?_
                  refine g_goto (tgt := 12) (by decide) dX4_readSum_82 ?_
                  have er : idAdd n B op prod (k + 1) s = idAdd n B op prod k (s4.1, s4.2.1, s4.2.2.1, s4.2.2.2 ++ [(3, 0)]) := by
                    show pI _ _ _ = _
                    rw [pI_t (Or.inr h41), hr]
                    unfold idB
                    dsimp only
                    rw [cI_f h43]
                  rw [er]
                  have hn : ixO (s4.2.2.2 ++ [((3, 0) : Op)]) = s4.2.2.2.length :: st := by
                    rw [ixO_add, q4, ha]
                    rfl
                  refine G.post (fun v μ6 hq => IdP.tr ((hg2.tr hg4).tr hg5) hq) (ih (m + 1) _ μ5 (by omega) h5 e105 e115 hn)
                · omega
              · omega
          · refine g_iconst dX4_readSum_44 ?_
            refine G.retZ dX4_readSum_45 rfl (Or.inr rfl) ?_
            unfold idAdd
            rw [pI_f (fun z => z.elim h43 h41)]
            exact ⟨rfl, h, ⟨e10, e11⟩, IdG.rf⟩
theorem c_X4_readSum (w : WC) {x T y D : Nat} {n : Int} {B : Int → Int} {fo op : Int} {prod : IdR} (hprod : (∀ (μ : Mem) (s : IdS), IdK w μ x n B T y s → mI μ (x + 1) 10 = fo → mI μ (x + 1) 11 = op → Con w D mX4_readProduct 0 0 [vP (some (x + 58)), vI (op)] μ (IdP w x n B T y fo (op) (prod s) μ))) (hgr : Gr 1 prod) (hD : 2 ≤ D) (hop : 0 ≤ op ∧ op ≤ 6) (μ : Mem) (s : IdS) (h : IdK w μ x n B T y s) (e10 : mI μ (x + 1) 10 = fo) (e11 : mI μ (x + 1) 11 = op) : Con w (D + 1) mX4_readSum 0 0 [vP (some (x + 58)), vI op] μ (IdP w x n B T y fo op (idSum n B op prod s) μ) := by
  have o58 := h.o58
  have r0 := h.r0
  have r1 := h.2.1.1
  have o1 := h.1.1.o1
  have e8 := h.2.2.1.1
  have hi := h.2.2.1.2
  have oy := h.ido.1
  have hbb := h.2.2.2.2
  unfold idSum
  refine Con.of (by decide) (Nat.le_of_ble_eq_true rfl) rfl ?_
  refine g_aload_n (j := 0) rfl dX4_readSum_0 ?_
  refine g_iload_n (j := 1) rfl dX4_readSum_1 ?_
  refine g_callV dX4_readSum_2 mlX4_58 mvX4_readProduct (ci := 4) ⟨by decide, rfl⟩ (by assumption) (hprod μ s h e10 e11) sv1 rfl (by omega) (Nat.le_of_ble_eq_true rfl) (Nat.le_refl _) (Nat.le_refl _) (fun v μ1 hR => ?_)
  rcases hr : prod s with e | s3
  · rw [hr] at hR
    obtain ⟨rfl, hE⟩ := hR
    refine g_if_ne (tgt := 10) dX4_readSum_5 (by decide) (by omega) (fun h5 => ?_) (fun h5 => ?_)
    · omega
    · refine g_iconst dX4_readSum_8 ?_
      exact G.retZ dX4_readSum_9 rfl (Or.inl rfl) ⟨rfl, hE⟩
  · rw [hr] at hR
    obtain ⟨rfl, h3, ⟨e103, e113⟩, hg3⟩ := hR
    obtain ⟨-, -, -, k, q4⟩ := hgr _ _ hr
    refine g_if_ne (tgt := 10) dX4_readSum_5 (by decide) (by omega) (fun h5 => ?_) (fun h5 => ?_)
    · refine g_iconst dX4_readSum_10 ?_
      refine g_istore_n (j := 2) dX4_readSum_11 (by decide) rfl ls2 ?_
      refine G.post (fun v μ6 hq => IdP.tr hg3 hq) (l_X4_add hprod hgr hD hop 60 0 s3 μ1 rfl h3 e103 e113 q4)
    · omega
theorem c_X4_lev (w : WC) {x T y : Nat} {n : Int} {B : Int → Int} {fo : Int} : ∀ (k : Nat) {op : Int}, op = 6 - (k : Int) → k ≤ 6 → (∀ (μ : Mem) (s : IdS), IdK w μ x n B T y s → mI μ (x + 1) 10 = fo → mI μ (x + 1) 11 = op → Con w (5 * k + 7) mX4_readSum 0 0 [vP (some (x + 58)), vI (op)] μ (IdP w x n B T y fo (op) (idLev n B k s) μ)) := by
  intro k
  induction k with
  | zero =>
    intro op hop _
    have e : op = 6 := by omega
    subst e
    exact c_X4_readSum w (c_X4_readProduct w (c_X4_readPower w (c_X4_readPart w (D := 2) (fun z => absurd z (by omega)) (by omega) (by omega)) (Gr_part fun s s2 h => by cases h) (by omega) (by omega)) (Gr_pow (Gr_part fun s s2 h => by cases h)) (by omega) (by omega)) (Gr_prod (Gr_pow (Gr_part fun s s2 h => by cases h))) (by omega) (by omega)
  | succ k ih =>
    intro op hop hk
    have e : op = 5 - (k : Int) := by omega
    subst e
    have e2 : 5 * (k + 1) + 7 = 5 * k + 7 + 2 + 1 + 1 + 1 := by omega
    rw [e2]
    exact c_X4_readSum w (c_X4_readProduct w (c_X4_readPower w (c_X4_readPart w (D := 5 * k + 7) (fun _ => ih (by omega) (by omega)) (by omega) (by omega)) (Gr_part (Gr_lev n B k)) (by omega) (by omega)) (Gr_pow (Gr_part (Gr_lev n B k))) (by omega) (by omega)) (Gr_prod (Gr_pow (Gr_part (Gr_lev n B k)))) (by omega) (by omega)
end IL
