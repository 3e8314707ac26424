theorem c_X12_readPower (w : WC) {m D : Nat} {F : Int → List Tm} {n : Int} {B : Int → Int} {fo op : Int} {part : IdR} (hpart : (∀ (μ : Mem) (s : IdS), ImK w μ m F n B s → mI μ m 18 = fo → mI μ m 19 = op → Con w D mX12_readPart 0 0 [vP (some m)] μ (ImP w m F n B fo (op) (part s) μ))) (hgr : Gr 2 part) (hD : 4 ≤ D) (μ : Mem) (s : IdS) (h : ImK w μ m F n B s) (e18 : mI μ m 18 = fo) (e19 : mI μ m 19 = op) : Con w (D + 1) mX12_readPower 0 0 [vP (some m)] μ (ImP w m F n B fo op (idPow n B op part s) μ) := by
  have o0 := h.1.1.o
  have hbb := h.2.2.2.2
  unfold idPow
  refine Con.of (by decide) (Nat.le_of_ble_eq_true rfl) rfl ?_
  refine g_aload_n (j := 0) rfl dX12_readPower_0 ?_
  refine g_callV dX12_readPower_1 mlX12_350 mvX12_readPart (ci := 12) ⟨by decide, rfl⟩ (by assumption) (hpart μ s h e18 e19) sv0 rfl (by omega) (Nat.le_of_ble_eq_true rfl) (Nat.le_refl _) (Nat.le_refl _) (fun v μ1 hR => ?_)
  rcases hr : part s with e | s3
  · rw [hr] at hR
    obtain ⟨rfl, hE⟩ := hR
    refine g_if_ne (tgt := 9) dX12_readPower_4 (by decide) (by omega) (fun h4 => ?_) (fun h4 => ?_)
    · omega
    · refine g_iconst dX12_readPower_7 ?_
      exact G.retZ dX12_readPower_8 rfl (Or.inl rfl) ⟨rfl, hE⟩
  · rw [hr] at hR
    obtain ⟨rfl, h3, ⟨e183, e193⟩, hg3⟩ := hR
    obtain ⟨q1, q2, q3, k, q4⟩ := hgr _ _ hr
    generalize μ1 = μ3 at *
    refine g_if_ne (tgt := 9) dX12_readPower_4 (by decide) (by omega) (fun h4 => ?_) (fun h4 => ?_)
    · have o03 := h3.1.1.o
      refine g_aload_n (j := 0) rfl dX12_readPower_9 ?_
      refine g_bipush dX12_readPower_10 (by omega) ?_
      refine g_callV dX12_readPower_12 mlX12_184 mvX12_isSign (ci := 12) ⟨by decide, rfl⟩ (by assumption) (c_isSign12 w D μ3 h3.1 (c := 94) (by omega)) sv1 rfl (by omega) (Nat.le_of_ble_eq_true rfl) (Nat.le_refl _) (Nat.le_refl _) (fun v μ2 hR => ?_)
      obtain ⟨rfl, hm⟩ := hR
      replace hm := hm.symm
      subst hm
      refine g_ifb_ne (tgt := 20) dX12_readPower_15 (by decide)  (fun h15 => ?_) (fun h15 => ?_)
      · refine g_aload_n (j := 0) rfl dX12_readPower_20 ?_
        refine g_callV dX12_readPower_21 mlX12_190 mvX12_next (ci := 12) ⟨by decide, rfl⟩ (by assumption) (c_nextS w (D - 2) μ3 h3.1) sv0 rfl (by omega) (Nat.le_of_ble_eq_true rfl) (Nat.le_refl _) (Nat.le_refl _) (fun v μ4 hR => ?_)
        obtain ⟨rfl, hS4, hr4⟩ := hR
        obtain ⟨h4, hg4⟩ := h3.rd hS4 hr4.T
        have e184 := FrZ.rd18 hr4 (j := 18) (by unfold Jn; omega) e183
        have e194 := FrZ.rd18 hr4 (j := 19) (by unfold Jn; omega) e193
        have hg34 := hg3.tr hg4
        have o04 := h4.1.1.o
        refine g_aload_n (j := 0) rfl dX12_readPower_24 ?_
        refine g_callV dX12_readPower_25 mlX12_214 mvX12_isNumber (ci := 12) ⟨by decide, rfl⟩ (by assumption) (c_isNumber12 w D μ4 (i := s3.1 + 1) h4.1) sv0 rfl (by omega) (Nat.le_of_ble_eq_true rfl) (Nat.le_refl _) (Nat.le_refl _) (fun v μ2 hR => ?_)
        obtain ⟨rfl, hm⟩ := hR
        replace hm := hm.symm
        subst hm
        refine g_ifb_ne (tgt := 37) dX12_readPower_28 (by decide)  (fun h28 => ?_) (fun h28 => ?_)
        · have hkB := ka_N h28
          have hkN := mN2_ka h28
          have f16 := h4.1.2.2.1.2.2.2.2.1
          refine g_aload_n (j := 0) rfl dX12_readPower_37 ?_
          refine g_getI dX12_readPower_38 flX12_136 rfl (by assumption) (kz := 16) rfl ?_
          rw [f16, hkN]
          refine g_bipush dX12_readPower_41 (by omega) ?_
          refine g_icmp_le (tgt := 53) dX12_readPower_43 (by decide) (by omega) (by omega) (fun h43 => ?_) (fun h43 => ?_)
          · refine g_aload_n (j := 0) rfl dX12_readPower_53 ?_
            refine g_bipush dX12_readPower_54 (by omega) ?_
            refine g_aload_n (j := 0) rfl dX12_readPower_56 ?_
            refine g_getI dX12_readPower_57 flX12_136 rfl (by assumption) (kz := 16) rfl ?_
            rw [f16, hkN]
            refine g_callV dX12_readPower_60 mlX12_344 mvX12_puts (ci := 12) ⟨by decide, rfl⟩ (by assumption) (c_puts w D μ4 h4.1.1 (ops := s3.2.2.2) h4.2.2.1.1 (by omega) h4.2.2.2.1 (o := (5, ka n B (tP n B (s3.1 + 1)))) rfl rfl) sv2 rfl (by omega) (Nat.le_of_ble_eq_true rfl) (Nat.le_refl _) (Nat.le_refl _) (fun v μ5 hR => ?_)
            obtain ⟨rfl, p1, p2, p3, p4, p5, p6⟩ := hR
            obtain ⟨h5, hg5⟩ := h4.put p1 p2 p3 ⟨p4, p5⟩ p6 (by show s3.2.2.2.length + 1 ≤ 3 * s3.2.1; omega)
            have e185 := (p3.2 18 (by omega)).trans e184
            have e195 := (p3.2 19 (by omega)).trans e194
            have o05 := h5.1.1.o
            refine g_aload_n (j := 0) rfl dX12_readPower_63 ?_
            refine g_callV dX12_readPower_64 mlX12_190 mvX12_next (ci := 12) ⟨by decide, rfl⟩ (by assumption) (c_nextS w (D - 2) μ5 h5.1) sv0 rfl (by omega) (Nat.le_of_ble_eq_true rfl) (Nat.le_refl _) (Nat.le_refl _) (fun v μ6 hR => ?_)
            obtain ⟨rfl, hS6, hr6⟩ := hR
            obtain ⟨h6, hg6⟩ := h5.rd hS6 hr6.T
            refine g_iconst dX12_readPower_67 ?_
            refine G.retZ dX12_readPower_68 rfl (Or.inr rfl) ?_
            unfold idB
            dsimp only
            rw [pI_t h15, pI_t h28, pI_t (by omega)]
            exact ⟨rfl, h6, ⟨FrZ.rd18 hr6 (j := 18) (by unfold Jn; omega) e185, FrZ.rd18 hr6 (j := 19) (by unfold Jn; omega) e195⟩, (hg34.tr hg5).tr hg6⟩
          · refine g_aload_n (j := 0) rfl dX12_readPower_46 ?_
            refine g_bipush dX12_readPower_47 (by omega) ?_
            refine g_callV dX12_readPower_49 mlX12_187 mvX12_fails (ci := 12) ⟨by decide, rfl⟩ (by assumption) (c_fails w D μ4 (i := s3.1 + 1) h4.1 (k := 10) e184 e194) sv1 rfl (by omega) (Nat.le_of_ble_eq_true rfl) (Nat.le_refl _) (Nat.le_refl _) (fun v μ5 hR => ?_)
            obtain ⟨rfl, hE⟩ := hR
            refine G.retZ dX12_readPower_52 rfl (Or.inl rfl) ?_
            unfold idB
            dsimp only
            rw [pI_t h15, pI_t h28, pI_f (by omega)]
            exact ⟨rfl, hg34.E (h4.er hE)⟩
        · refine g_aload_n (j := 0) rfl dX12_readPower_31 ?_
          refine g_iconst dX12_readPower_32 ?_
          refine g_callV dX12_readPower_33 mlX12_187 mvX12_fails (ci := 12) ⟨by decide, rfl⟩ (by assumption) (c_fails w D μ4 (i := s3.1 + 1) h4.1 (k := 1) e184 e194) sv1 rfl (by omega) (Nat.le_of_ble_eq_true rfl) (Nat.le_refl _) (Nat.le_refl _) (fun v μ5 hR => ?_)
          obtain ⟨rfl, hE⟩ := hR
          refine G.retZ dX12_readPower_36 rfl (Or.inl rfl) ?_
          unfold idB
          dsimp only
          rw [pI_t h15, pI_f h28]
          exact ⟨rfl, hg34.E (h4.er hE)⟩
      · refine g_iconst dX12_readPower_18 ?_
        refine G.retZ dX12_readPower_19 rfl (Or.inr rfl) ?_
        unfold idB
        dsimp only
        rw [pI_f h15]
        exact ⟨rfl, h3, ⟨e183, e193⟩, hg3⟩
    · omega
