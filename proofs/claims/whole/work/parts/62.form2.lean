/-! THE CLASS: form -/
noncomputable def chF (n : Int) (B : Int → Int) (i : Nat) : Int := pI (isN n B (tP n B i)) (pI (1 ≤ ka n B (tP n B i) ∧ ka n B (tP n B i) ≤ 99) 0 2) (pI (¬ kdT n B (tP n B i) = -1) 0 1)
theorem c_checkFirst (w : WC) (d : Nat) (μ : Mem) {x T i : Nat} {n : Int} {B : Int → Int} (hK : TkC w μ x n B T) (e8 : mI μ (x + 1) 8 = (i : Int)) (hi : i ≤ T) {fo fi : Int} (e10 : mI μ (x + 1) 10 = fo) (e11 : mI μ (x + 1) 11 = fi) : Con w (d + 6) mX2_checkFirstToken 0 0 [vP (some (x + 48))] μ (fun v μ2 => (chF n B i = 0 ∧ v = some (vI 1) ∧ μ2 = μ) ∨ (¬ chF n B i = 0 ∧ v = some (vI 0) ∧ RdE x (fa4 (chF n B i) (tP n B i) fo fi) μ μ2)) := by
  have o48 := hK.1.o48
  have r480 := hK.1.r48_0
  have r481 := hK.1.r48_1
  have o1 := hK.1.o1
  have o49 := hK.1.o49
  have hkb := kdT_bd n B (tP n B i)
  have hka := ka_bd hK.2.1.2.1 (hK.lt hi).2.1
  refine Con.of (by decide) (Nat.le_of_ble_eq_true rfl) rfl ?_
  refine g_aload_n (j := 0) rfl dX2_checkFirstToken_0 ?_
  refine g_getR dX2_checkFirstToken_1 flX2_9 rfl (by assumption) (kz := 0) rfl (by assumption) ?_
  refine g_callV dX2_checkFirstToken_4 mlX2_56 mvX10_isN (ci := 10) ⟨by decide, rfl⟩ (by assumption) (c_isN w (d + 5) μ hK e8 hi) sv0 rfl (by omega) (Nat.le_of_ble_eq_true rfl) (Nat.le_refl _) (Nat.le_refl _) (fun v μ2 hR => ?_)
  obtain ⟨rfl, hm⟩ := hR
  replace hm := hm.symm
  subst hm
  refine g_ifb_eq (tgt := 60) dX2_checkFirstToken_7 (by decide)  (fun h7 => ?_) (fun h7 => ?_)
  · refine g_aload_n (j := 0) rfl dX2_checkFirstToken_60 ?_
    refine g_getR dX2_checkFirstToken_61 flX2_9 rfl (by assumption) (kz := 0) rfl (by assumption) ?_
    refine g_callV dX2_checkFirstToken_64 mlX2_63 mvX10_kindThere (ci := 10) ⟨by decide, rfl⟩ (by assumption) (c_kindThere w d μ hK e8 hi) sv0 rfl (by omega) (Nat.le_of_ble_eq_true rfl) (Nat.le_refl _) (Nat.le_refl _) (fun v μ2 hR => ?_)
    obtain ⟨rfl, hm⟩ := hR
    replace hm := hm.symm
    subst hm
    refine g_iconst dX2_checkFirstToken_67 ?_
    refine g_icmp_ne (tgt := 82) dX2_checkFirstToken_68 (by decide) (by omega) (by omega) (fun h68 => ?_) (fun h68 => ?_)
    · refine g_iconst dX2_checkFirstToken_82 ?_
      refine g_goto (tgt := 87) (by decide) dX2_checkFirstToken_83 ?_
      first
      | (exfalso; omega)
      | (have e : chF n B i = 0 := by
           unfold chF
           first | rw [pI_t h7, pI_t (by omega)] | rw [pI_f h7, pI_t (by omega)]
         exact G.retZ dX2_checkFirstToken_87 rfl (Or.inr rfl) (Or.inl ⟨e, rfl, rfl⟩))
      | (have e : chF n B i = 2 := by
           unfold chF
           rw [pI_t h7, pI_f (by omega)]
         exact G.retZ dX2_checkFirstToken_87 rfl (Or.inl rfl) (Or.inr ⟨by omega, rfl, by rw [e]; exact hE⟩))
      | (have e : chF n B i = 1 := by
           unfold chF
           rw [pI_f h7, pI_f (by omega)]
         exact G.retZ dX2_checkFirstToken_87 rfl (Or.inl rfl) (Or.inr ⟨by omega, rfl, by rw [e]; exact hE⟩))
    · refine g_aload_n (j := 0) rfl dX2_checkFirstToken_71 ?_
      refine g_getR dX2_checkFirstToken_72 flX2_9 rfl (by assumption) (kz := 0) rfl (by assumption) ?_
      refine g_iconst dX2_checkFirstToken_75 ?_
      refine g_callV dX2_checkFirstToken_76 mlX2_46 mvX10_fail (ci := 10) ⟨by decide, rfl⟩ (by assumption) (c_fail w (d + 5) μ hK e8 hi (k := 1) e10 e11) sv1 rfl (by omega) (Nat.le_of_ble_eq_true rfl) (Nat.le_refl _) (Nat.le_refl _) (fun v μ2 hR => ?_)
      obtain ⟨rfl, hE⟩ := hR
      refine g_if_eq (tgt := 86) dX2_checkFirstToken_79 (by decide) (by omega) (fun h79 => ?_) (fun h79 => ?_)
      · refine g_iconst dX2_checkFirstToken_86 ?_
        first
        | (exfalso; omega)
        | (have e : chF n B i = 0 := by
             unfold chF
             first | rw [pI_t h7, pI_t (by omega)] | rw [pI_f h7, pI_t (by omega)]
           exact G.retZ dX2_checkFirstToken_87 rfl (Or.inr rfl) (Or.inl ⟨e, rfl, rfl⟩))
        | (have e : chF n B i = 2 := by
             unfold chF
             rw [pI_t h7, pI_f (by omega)]
           exact G.retZ dX2_checkFirstToken_87 rfl (Or.inl rfl) (Or.inr ⟨by omega, rfl, by rw [e]; exact hE⟩))
        | (have e : chF n B i = 1 := by
             unfold chF
             rw [pI_f h7, pI_f (by omega)]
           exact G.retZ dX2_checkFirstToken_87 rfl (Or.inl rfl) (Or.inr ⟨by omega, rfl, by rw [e]; exact hE⟩))
      · refine g_iconst dX2_checkFirstToken_82 ?_
        refine g_goto (tgt := 87) (by decide) dX2_checkFirstToken_83 ?_
        first
        | (exfalso; omega)
        | (have e : chF n B i = 0 := by
             unfold chF
             first | rw [pI_t h7, pI_t (by omega)] | rw [pI_f h7, pI_t (by omega)]
           exact G.retZ dX2_checkFirstToken_87 rfl (Or.inr rfl) (Or.inl ⟨e, rfl, rfl⟩))
        | (have e : chF n B i = 2 := by
             unfold chF
             rw [pI_t h7, pI_f (by omega)]
           exact G.retZ dX2_checkFirstToken_87 rfl (Or.inl rfl) (Or.inr ⟨by omega, rfl, by rw [e]; exact hE⟩))
        | (have e : chF n B i = 1 := by
             unfold chF
             rw [pI_f h7, pI_f (by omega)]
           exact G.retZ dX2_checkFirstToken_87 rfl (Or.inl rfl) (Or.inr ⟨by omega, rfl, by rw [e]; exact hE⟩))
  · refine g_aload_n (j := 0) rfl dX2_checkFirstToken_10 ?_
    refine g_getR dX2_checkFirstToken_11 flX2_9 rfl (by assumption) (kz := 0) rfl (by assumption) ?_
    refine g_callV dX2_checkFirstToken_14 mlX2_59 mvX10_amount (ci := 10) ⟨by decide, rfl⟩ (by assumption) (c_amount w (d + 5) μ hK e8 hi) sv0 rfl (by omega) (Nat.le_of_ble_eq_true rfl) (Nat.le_refl _) (Nat.le_refl _) (fun v μ2 hR => ?_)
    obtain ⟨rfl, hm⟩ := hR
    replace hm := hm.symm
    subst hm
    refine g_iconst dX2_checkFirstToken_17 ?_
    refine g_icmp_lt (tgt := 37) dX2_checkFirstToken_18 (by decide) (by omega) (by omega) (fun h18 => ?_) (fun h18 => ?_)
    · refine g_iconst dX2_checkFirstToken_37 ?_
      refine g_istore_n (j := 1) dX2_checkFirstToken_38 (by decide) rfl ls1 ?_
      refine g_iload_n (j := 1) rfl dX2_checkFirstToken_39 ?_
      refine g_if_ne (tgt := 54) dX2_checkFirstToken_40 (by decide) (by omega) (fun h40 => ?_) (fun h40 => ?_)
      · refine g_iconst dX2_checkFirstToken_54 ?_
        refine g_goto (tgt := 59) (by decide) dX2_checkFirstToken_55 ?_
        first
        | (exfalso; omega)
        | (have e : chF n B i = 0 := by
             unfold chF
             first | rw [pI_t h7, pI_t (by omega)] | rw [pI_f h7, pI_t (by omega)]
           exact G.retZ dX2_checkFirstToken_59 rfl (Or.inr rfl) (Or.inl ⟨e, rfl, rfl⟩))
        | (have e : chF n B i = 2 := by
             unfold chF
             rw [pI_t h7, pI_f (by omega)]
           exact G.retZ dX2_checkFirstToken_59 rfl (Or.inl rfl) (Or.inr ⟨by omega, rfl, by rw [e]; exact hE⟩))
        | (have e : chF n B i = 1 := by
             unfold chF
             rw [pI_f h7, pI_f (by omega)]
           exact G.retZ dX2_checkFirstToken_59 rfl (Or.inl rfl) (Or.inr ⟨by omega, rfl, by rw [e]; exact hE⟩))
      · refine g_aload_n (j := 0) rfl dX2_checkFirstToken_43 ?_
        refine g_getR dX2_checkFirstToken_44 flX2_9 rfl (by assumption) (kz := 0) rfl (by assumption) ?_
        refine g_iconst dX2_checkFirstToken_47 ?_
        refine g_callV dX2_checkFirstToken_48 mlX2_46 mvX10_fail (ci := 10) ⟨by decide, rfl⟩ (by assumption) (c_fail w (d + 5) μ hK e8 hi (k := 2) e10 e11) sv1 rfl (by omega) (Nat.le_of_ble_eq_true rfl) (Nat.le_refl _) (Nat.le_refl _) (fun v μ2 hR => ?_)
        obtain ⟨rfl, hE⟩ := hR
        refine g_if_eq (tgt := 58) dX2_checkFirstToken_51 (by decide) (by omega) (fun h51 => ?_) (fun h51 => ?_)
        · refine g_iconst dX2_checkFirstToken_58 ?_
          first
          | (exfalso; omega)
          | (have e : chF n B i = 0 := by
               unfold chF
               first | rw [pI_t h7, pI_t (by omega)] | rw [pI_f h7, pI_t (by omega)]
             exact G.retZ dX2_checkFirstToken_59 rfl (Or.inr rfl) (Or.inl ⟨e, rfl, rfl⟩))
          | (have e : chF n B i = 2 := by
               unfold chF
               rw [pI_t h7, pI_f (by omega)]
             exact G.retZ dX2_checkFirstToken_59 rfl (Or.inl rfl) (Or.inr ⟨by omega, rfl, by rw [e]; exact hE⟩))
          | (have e : chF n B i = 1 := by
               unfold chF
               rw [pI_f h7, pI_f (by omega)]
             exact G.retZ dX2_checkFirstToken_59 rfl (Or.inl rfl) (Or.inr ⟨by omega, rfl, by rw [e]; exact hE⟩))
        · refine g_iconst dX2_checkFirstToken_54 ?_
          refine g_goto (tgt := 59) (by decide) dX2_checkFirstToken_55 ?_
          first
          | (exfalso; omega)
          | (have e : chF n B i = 0 := by
               unfold chF
               first | rw [pI_t h7, pI_t (by omega)] | rw [pI_f h7, pI_t (by omega)]
             exact G.retZ dX2_checkFirstToken_59 rfl (Or.inr rfl) (Or.inl ⟨e, rfl, rfl⟩))
          | (have e : chF n B i = 2 := by
               unfold chF
               rw [pI_t h7, pI_f (by omega)]
             exact G.retZ dX2_checkFirstToken_59 rfl (Or.inl rfl) (Or.inr ⟨by omega, rfl, by rw [e]; exact hE⟩))
          | (have e : chF n B i = 1 := by
               unfold chF
               rw [pI_f h7, pI_f (by omega)]
             exact G.retZ dX2_checkFirstToken_59 rfl (Or.inl rfl) (Or.inr ⟨by omega, rfl, by rw [e]; exact hE⟩))
    · refine g_aload_n (j := 0) rfl dX2_checkFirstToken_21 ?_
      refine g_getR dX2_checkFirstToken_22 flX2_9 rfl (by assumption) (kz := 0) rfl (by assumption) ?_
      refine g_callV dX2_checkFirstToken_25 mlX2_59 mvX10_amount (ci := 10) ⟨by decide, rfl⟩ (by assumption) (c_amount w (d + 5) μ hK e8 hi) sv0 rfl (by omega) (Nat.le_of_ble_eq_true rfl) (Nat.le_refl _) (Nat.le_refl _) (fun v μ2 hR => ?_)
      obtain ⟨rfl, hm⟩ := hR
      replace hm := hm.symm
      subst hm
      refine g_bipush dX2_checkFirstToken_28 (by omega) ?_
      refine g_icmp_gt (tgt := 37) dX2_checkFirstToken_30 (by decide) (by omega) (by omega) (fun h30 => ?_) (fun h30 => ?_)
      · refine g_iconst dX2_checkFirstToken_37 ?_
        refine g_istore_n (j := 1) dX2_checkFirstToken_38 (by decide) rfl ls1 ?_
        refine g_iload_n (j := 1) rfl dX2_checkFirstToken_39 ?_
        refine g_if_ne (tgt := 54) dX2_checkFirstToken_40 (by decide) (by omega) (fun h40 => ?_) (fun h40 => ?_)
        · refine g_iconst dX2_checkFirstToken_54 ?_
          refine g_goto (tgt := 59) (by decide) dX2_checkFirstToken_55 ?_
          first
          | (exfalso; omega)
          | (have e : chF n B i = 0 := by
               unfold chF
               first | rw [pI_t h7, pI_t (by omega)] | rw [pI_f h7, pI_t (by omega)]
             exact G.retZ dX2_checkFirstToken_59 rfl (Or.inr rfl) (Or.inl ⟨e, rfl, rfl⟩))
          | (have e : chF n B i = 2 := by
               unfold chF
               rw [pI_t h7, pI_f (by omega)]
             exact G.retZ dX2_checkFirstToken_59 rfl (Or.inl rfl) (Or.inr ⟨by omega, rfl, by rw [e]; exact hE⟩))
          | (have e : chF n B i = 1 := by
               unfold chF
               rw [pI_f h7, pI_f (by omega)]
             exact G.retZ dX2_checkFirstToken_59 rfl (Or.inl rfl) (Or.inr ⟨by omega, rfl, by rw [e]; exact hE⟩))
        · refine g_aload_n (j := 0) rfl dX2_checkFirstToken_43 ?_
          refine g_getR dX2_checkFirstToken_44 flX2_9 rfl (by assumption) (kz := 0) rfl (by assumption) ?_
          refine g_iconst dX2_checkFirstToken_47 ?_
          refine g_callV dX2_checkFirstToken_48 mlX2_46 mvX10_fail (ci := 10) ⟨by decide, rfl⟩ (by assumption) (c_fail w (d + 5) μ hK e8 hi (k := 2) e10 e11) sv1 rfl (by omega) (Nat.le_of_ble_eq_true rfl) (Nat.le_refl _) (Nat.le_refl _) (fun v μ2 hR => ?_)
          obtain ⟨rfl, hE⟩ := hR
          refine g_if_eq (tgt := 58) dX2_checkFirstToken_51 (by decide) (by omega) (fun h51 => ?_) (fun h51 => ?_)
          · refine g_iconst dX2_checkFirstToken_58 ?_
            first
            | (exfalso; omega)
            | (have e : chF n B i = 0 := by
                 unfold chF
                 first | rw [pI_t h7, pI_t (by omega)] | rw [pI_f h7, pI_t (by omega)]
               exact G.retZ dX2_checkFirstToken_59 rfl (Or.inr rfl) (Or.inl ⟨e, rfl, rfl⟩))
            | (have e : chF n B i = 2 := by
                 unfold chF
                 rw [pI_t h7, pI_f (by omega)]
               exact G.retZ dX2_checkFirstToken_59 rfl (Or.inl rfl) (Or.inr ⟨by omega, rfl, by rw [e]; exact hE⟩))
            | (have e : chF n B i = 1 := by
                 unfold chF
                 rw [pI_f h7, pI_f (by omega)]
               exact G.retZ dX2_checkFirstToken_59 rfl (Or.inl rfl) (Or.inr ⟨by omega, rfl, by rw [e]; exact hE⟩))
          · refine g_iconst dX2_checkFirstToken_54 ?_
            refine g_goto (tgt := 59) (by decide) dX2_checkFirstToken_55 ?_
            first
            | (exfalso; omega)
            | (have e : chF n B i = 0 := by
                 unfold chF
                 first | rw [pI_t h7, pI_t (by omega)] | rw [pI_f h7, pI_t (by omega)]
               exact G.retZ dX2_checkFirstToken_59 rfl (Or.inr rfl) (Or.inl ⟨e, rfl, rfl⟩))
            | (have e : chF n B i = 2 := by
                 unfold chF
                 rw [pI_t h7, pI_f (by omega)]
               exact G.retZ dX2_checkFirstToken_59 rfl (Or.inl rfl) (Or.inr ⟨by omega, rfl, by rw [e]; exact hE⟩))
            | (have e : chF n B i = 1 := by
                 unfold chF
                 rw [pI_f h7, pI_f (by omega)]
               exact G.retZ dX2_checkFirstToken_59 rfl (Or.inl rfl) (Or.inr ⟨by omega, rfl, by rw [e]; exact hE⟩))
      · refine g_iconst dX2_checkFirstToken_33 ?_
        refine g_goto (tgt := 38) (by decide) dX2_checkFirstToken_34 ?_
        refine g_istore_n (j := 1) dX2_checkFirstToken_38 (by decide) rfl ls1 ?_
        refine g_iload_n (j := 1) rfl dX2_checkFirstToken_39 ?_
        refine g_if_ne (tgt := 54) dX2_checkFirstToken_40 (by decide) (by omega) (fun h40 => ?_) (fun h40 => ?_)
        · refine g_iconst dX2_checkFirstToken_54 ?_
          refine g_goto (tgt := 59) (by decide) dX2_checkFirstToken_55 ?_
          first
          | (exfalso; omega)
          | (have e : chF n B i = 0 := by
               unfold chF
               first | rw [pI_t h7, pI_t (by omega)] | rw [pI_f h7, pI_t (by omega)]
             exact G.retZ dX2_checkFirstToken_59 rfl (Or.inr rfl) (Or.inl ⟨e, rfl, rfl⟩))
          | (have e : chF n B i = 2 := by
               unfold chF
               rw [pI_t h7, pI_f (by omega)]
             exact G.retZ dX2_checkFirstToken_59 rfl (Or.inl rfl) (Or.inr ⟨by omega, rfl, by rw [e]; exact hE⟩))
          | (have e : chF n B i = 1 := by
               unfold chF
               rw [pI_f h7, pI_f (by omega)]
             exact G.retZ dX2_checkFirstToken_59 rfl (Or.inl rfl) (Or.inr ⟨by omega, rfl, by rw [e]; exact hE⟩))
        · refine g_aload_n (j := 0) rfl dX2_checkFirstToken_43 ?_
          refine g_getR dX2_checkFirstToken_44 flX2_9 rfl (by assumption) (kz := 0) rfl (by assumption) ?_
          refine g_iconst dX2_checkFirstToken_47 ?_
          refine g_callV dX2_checkFirstToken_48 mlX2_46 mvX10_fail (ci := 10) ⟨by decide, rfl⟩ (by assumption) (c_fail w (d + 5) μ hK e8 hi (k := 2) e10 e11) sv1 rfl (by omega) (Nat.le_of_ble_eq_true rfl) (Nat.le_refl _) (Nat.le_refl _) (fun v μ2 hR => ?_)
          obtain ⟨rfl, hE⟩ := hR
          refine g_if_eq (tgt := 58) dX2_checkFirstToken_51 (by decide) (by omega) (fun h51 => ?_) (fun h51 => ?_)
          · refine g_iconst dX2_checkFirstToken_58 ?_
            first
            | (exfalso; omega)
            | (have e : chF n B i = 0 := by
                 unfold chF
                 first | rw [pI_t h7, pI_t (by omega)] | rw [pI_f h7, pI_t (by omega)]
               exact G.retZ dX2_checkFirstToken_59 rfl (Or.inr rfl) (Or.inl ⟨e, rfl, rfl⟩))
            | (have e : chF n B i = 2 := by
                 unfold chF
                 rw [pI_t h7, pI_f (by omega)]
               exact G.retZ dX2_checkFirstToken_59 rfl (Or.inl rfl) (Or.inr ⟨by omega, rfl, by rw [e]; exact hE⟩))
            | (have e : chF n B i = 1 := by
                 unfold chF
                 rw [pI_f h7, pI_f (by omega)]
               exact G.retZ dX2_checkFirstToken_59 rfl (Or.inl rfl) (Or.inr ⟨by omega, rfl, by rw [e]; exact hE⟩))
          · refine g_iconst dX2_checkFirstToken_54 ?_
            refine g_goto (tgt := 59) (by decide) dX2_checkFirstToken_55 ?_
            first
            | (exfalso; omega)
            | (have e : chF n B i = 0 := by
                 unfold chF
                 first | rw [pI_t h7, pI_t (by omega)] | rw [pI_f h7, pI_t (by omega)]
               exact G.retZ dX2_checkFirstToken_59 rfl (Or.inr rfl) (Or.inl ⟨e, rfl, rfl⟩))
            | (have e : chF n B i = 2 := by
                 unfold chF
                 rw [pI_t h7, pI_f (by omega)]
               exact G.retZ dX2_checkFirstToken_59 rfl (Or.inl rfl) (Or.inr ⟨by omega, rfl, by rw [e]; exact hE⟩))
            | (have e : chF n B i = 1 := by
                 unfold chF
                 rw [pI_f h7, pI_f (by omega)]
               exact G.retZ dX2_checkFirstToken_59 rfl (Or.inl rfl) (Or.inr ⟨by omega, rfl, by rw [e]; exact hE⟩))
theorem gxF_le {k f : Int} : ∀ (m : Nat) (y : Int), pv k f y ≤ 3000 → pv k f (gxF k f m y) ≤ 3000
  | 0, y, h => h
  | m + 1, y, h => by
    unfold gxF
    split
    · next hc => exact gxF_le m (y + 1) hc.2
    · exact h
theorem gx_ok {f k : Int} (hf : 1 ≤ f ∧ f ≤ 99) (hk : 0 ≤ k ∧ k ≤ 4) : TOk ((f, k, 0, gx k f) : Tm) := by
  have hb := gx_bd k f
  have h0 : pv k f 0 = 0 := by unfold pv; rw [pw_0z, Int.mul_zero]
  have h1 : pv k f (gx k f) ≤ 3000 := gxF_le 3001 0 (by omega)
  have h2 := pv_6 (k := k) hf (x := gx k f) (by omega)
  refine ⟨hf, hk, ⟨?_, ?_, ?_⟩, ⟨?_, ?_⟩, ?_, ?_⟩
  · show -3000 ≤ (0 : Int); omega
  · exact hb.1
  · exact hb.2
  · show -3000 ≤ pv k f 0; omega
  · show pv k f 0 ≤ 3000; omega
  · show -3000 ≤ pv k f (gx k f); omega
  · exact h1
theorem l_term2 {w : WC} {d : Nat} {R : Option AV → Mem → Prop} {μ : Mem} {x T i : Nat} {n : Int} {B : Int → Int} (hK : TkC w μ x n B T) (e8 : mI μ (x + 1) 8 = (i : Int)) (hi : i ≤ T) {fo fi : Int} (e10 : mI μ (x + 1) 10 = fo) (e11 : mI μ (x + 1) 11 = fi) {acc : List Tm} (hI : FI μ (x + 49) acc) (hl : acc.length ≤ 4) {f : Int} (hf : 1 ≤ f ∧ f ≤ 99) {x2 : Option AV} (kE : ∀ (e : FlT) (μ2 : Mem), rdT2 n B f i = .inl e → DrE x (fa4 e.1 (tP n B e.2) fo fi) μ μ2 → R (some (vI 0)) μ2) (kS : ∀ (u : Tm) (j : Nat) (μ2 : Mem), rdT2 n B f i = .inr (u, j) → mI μ2 (x + 1) 8 = (j : Int) → j ≤ T → FI μ2 (x + 49) (acc ++ [u]) → TOk u → DrS x μ μ2 → R (some (vI 1)) μ2) : G w (d + 7) mX2_readTerm R 0 0 36 [some (vP (some (x + 48))), some (vI f), x2] [] μ := by
  have o48 := hK.1.o48
  have r480 := hK.1.r48_0
  have r481 := hK.1.r48_1
  have o1 := hK.1.o1
  have o49 := hK.1.o49
  have hkb := kdT_bd n B (tP n B i)
  have hgb := gx_bd (kdT n B (tP n B i)) f
  refine g_aload_n (j := 0) rfl dX2_readTerm_36 ?_
  refine g_getR dX2_readTerm_37 flX2_9 rfl (by assumption) (kz := 0) rfl (by assumption) ?_
  refine g_callV dX2_readTerm_40 mlX2_63 mvX10_kindThere (ci := 10) ⟨by decide, rfl⟩ (by assumption) (c_kindThere w (d + 1) μ hK e8 hi) sv0 rfl (by omega) (Nat.le_of_ble_eq_true rfl) (Nat.le_refl _) (Nat.le_refl _) (fun v μ2 hR => ?_)
  obtain ⟨rfl, hm⟩ := hR
  replace hm := hm.symm
  subst hm
  refine g_istore_n (j := 2) dX2_readTerm_43 (by decide) rfl ls2 ?_
  refine g_iload_n (j := 2) rfl dX2_readTerm_44 ?_
  refine g_iconst dX2_readTerm_45 ?_
  refine g_icmp_ne (tgt := 58) dX2_readTerm_46 (by decide) (by omega) (by omega) (fun h46 => ?_) (fun h46 => ?_)
  · have hiT := (hK.lt hi).1.mp (hkb.2.2 (by omega))
    refine g_aload_n (j := 0) rfl dX2_readTerm_58 ?_
    refine g_getR dX2_readTerm_59 flX2_9 rfl (by assumption) (kz := 0) rfl (by assumption) ?_
    refine g_callV dX2_readTerm_62 mlX2_50 mvX10_advance (ci := 10) ⟨by decide, rfl⟩ (by assumption) (c_advance w (d + 6) μ hK e8 hiT) sv0 rfl (by omega) (Nat.le_of_ble_eq_true rfl) (Nat.le_refl _) (Nat.le_refl _) (fun v μ1 hR => ?_)
    obtain ⟨rfl, e81, hs1⟩ := hR
    have hK1 := hs1.tk hK
    have o481 := hK1.1.o48
    have r4801 := hK1.1.r48_0
    have r4811 := hK1.1.r48_1
    have o11 := hK1.1.o1
    have o491 := hK1.1.o49
    have e101 := (hs1.2 10 (by omega) (by omega)).trans e10
    have e111 := (hs1.2 11 (by omega) (by omega)).trans e11
    have hI1 := hs1.FI hK.1 hI
    refine g_aload_n (j := 0) rfl dX2_readTerm_65 ?_
    refine g_getR dX2_readTerm_66 flX2_9 rfl (by assumption) (kz := 0) rfl (by assumption) ?_
    refine g_ldcT dX2_readTerm_69 (n := 5) (tx := "from") (List.mem_of_getElem? (i := 5) rfl) ?_
    refine g_callV dX2_readTerm_71 mlX2_68 mvX10_isWord (ci := 10) ⟨by decide, rfl⟩ (by assumption) (c_isWord w (d + 2) μ1 hK1 e81 hiT (t := 5) (by omega)) sv1 rfl (by omega) (Nat.le_of_ble_eq_true rfl) (Nat.le_refl _) (Nat.le_refl _) (fun v μ2 hR => ?_)
    obtain ⟨rfl, hm⟩ := hR
    replace hm := hm.symm
    subst hm
    refine g_ifb_eq (tgt := 84) dX2_readTerm_74 (by decide)  (fun h74 => ?_) (fun h74 => ?_)
    · have hok := gx_ok (f := f) hf (k := kdT n B (tP n B i)) (by omega)
      refine g_aload_n (j := 0) rfl dX2_readTerm_84 ?_
      refine g_getR dX2_readTerm_85 flX2_18 rfl (by assumption) (kz := 1) rfl (by assumption) ?_
      refine g_iload_n (j := 1) rfl dX2_readTerm_88 ?_
      refine g_iload_n (j := 2) rfl dX2_readTerm_89 ?_
      refine g_iconst dX2_readTerm_90 ?_
      refine g_iload_n (j := 2) rfl dX2_readTerm_91 ?_
      refine g_iload_n (j := 1) rfl dX2_readTerm_92 ?_
      refine g_callS dX2_readTerm_93 mlX2_76 msX11_greatestX (c_greatestX w (d + 5) μ1 (k := kdT n B (tP n B i)) (f := f) (by omega) (by omega) (fun y z1 z2 => by have := pv_6 (k := kdT n B (tP n B i)) hf (x := y) (by omega); omega)) sk2 rfl (by omega) (Nat.le_of_ble_eq_true rfl) (Nat.le_refl _) (Nat.le_refl _) (fun v μ2 hR => ?_)
      obtain ⟨rfl, hm⟩ := hR
      replace hm := hm.symm
      subst hm
      refine g_callV dX2_readTerm_96 mlX2_80 mvX1_addNew (ci := 1) ⟨by decide, rfl⟩ (by assumption) (c_addNew w (d + 4) μ1 hK1.1.f49 (by have := hI1.1; omega) (f := f) (k := kdT n B (tP n B i)) (l := 0) (h := gx (kdT n B (tP n B i)) f) (by omega) (by omega) (by omega) (by omega) (by have := hok.2.2.2.1; show i32 (pv (kdT n B (tP n B i)) f 0); unfold tV tK tF tL at this; simp only at this; omega) (by have := hok.2.2.2.2; unfold tV tK tF tH at this; simp only at this; omega)) sv4 rfl (by omega) (Nat.le_of_ble_eq_true rfl) (Nat.le_refl _) (Nat.le_refl _) (fun v μ3 hR => ?_)
      obtain ⟨rfl, hm3⟩ := hR
      have hc3 : ChI (In7 (x + 49)) μ1 μ3 := by rw [hm3]; exact addT_ch _ _ _ _ _ _
      have hI3 : FI μ3 (x + 49) (acc ++ [((f, kdT n B (tP n B i), 0, gx (kdT n B (tP n B i)) f) : Tm)]) := by rw [hm3]; exact addT_FI hI1 (f, kdT n B (tP n B i), 0, gx (kdT n B (tP n B i)) f) hok (by omega)
      have hs3 := DrS.of hc3
      refine g_iconst dX2_readTerm_99 ?_
      have er : rdT2 n B f i = .inr ((f, kdT n B (tP n B i), 0, gx (kdT n B (tP n B i)) f), i + 1) := by
        unfold rdT2
        rw [pI_f (by omega), pI_f h74]
      exact G.retZ dX2_readTerm_100 rfl (Or.inr rfl) (kS _ _ _ er ((hc3.2.2.2.2 (x + 1) (fun z => by unfold In7 at z; omega) 8).trans e81) hiT hI3 hok (hs1.D.tr hs3))
    · refine g_aload_n (j := 0) rfl dX2_readTerm_77 ?_
      refine g_iload_n (j := 1) rfl dX2_readTerm_78 ?_
      refine g_iload_n (j := 2) rfl dX2_readTerm_79 ?_
      refine g_callV dX2_readTerm_80 mlX2_72 mvX2_readRange (ci := 2) ⟨by decide, rfl⟩ (by assumption) (c_readRange w (d + 1) μ1 hK1 e81 ((hK1.lt hiT).1.mp h74.1) e101 e111 (f := f) (k := kdT n B (tP n B i)) hf (by omega) hI1 hl) sv2 rfl (by omega) (Nat.le_of_ble_eq_true rfl) (Nat.le_refl _) (Nat.le_refl _) (fun v μ2 hR => ?_)
      rcases hr : rdRg n B f (kdT n B (tP n B i)) (i + 1) with e | s
      · rw [hr] at hR
        obtain ⟨rfl, hE⟩ := hR
        have er : rdT2 n B f i = .inl e := by
          unfold rdT2
          rw [pI_f (by omega), pI_t h74, hr]
        exact G.retZ dX2_readTerm_83 rfl (Or.inl rfl) (kE _ _ er (hs1.D.E hE))
      rw [hr] at hR
      obtain ⟨rfl, e82, hjT2, hI2, hok2, hs2⟩ := hR
      have er : rdT2 n B f i = .inr s := by
        unfold rdT2
        rw [pI_f (by omega), pI_t h74, hr]
      exact G.retZ dX2_readTerm_83 rfl (Or.inr rfl) (kS _ _ _ er e82 hjT2 hI2 hok2 (hs1.D.tr hs2))
  · refine g_aload_n (j := 0) rfl dX2_readTerm_49 ?_
    refine g_getR dX2_readTerm_50 flX2_9 rfl (by assumption) (kz := 0) rfl (by assumption) ?_
    refine g_iconst dX2_readTerm_53 ?_
    refine g_callV dX2_readTerm_54 mlX2_46 mvX10_fail (ci := 10) ⟨by decide, rfl⟩ (by assumption) (c_fail w (d + 6) μ hK e8 hi (k := 1) e10 e11) sv1 rfl (by omega) (Nat.le_of_ble_eq_true rfl) (Nat.le_refl _) (Nat.le_refl _) (fun v μ4 hR => ?_)
    obtain ⟨rfl, hE⟩ := hR
    have er : rdT2 n B f i = .inl (1, i) := by
      unfold rdT2
      rw [pI_t (by omega)]
    exact G.retZ dX2_readTerm_57 rfl (Or.inl rfl) (kE _ _ er hE.D)
theorem c_readTerm (w : WC) (d : Nat) (μ : Mem) {x T i : Nat} {n : Int} {B : Int → Int} (hK : TkC w μ x n B T) (e8 : mI μ (x + 1) 8 = (i : Int)) (hi : i ≤ T) {fo fi : Int} (e10 : mI μ (x + 1) 10 = fo) (e11 : mI μ (x + 1) 11 = fi) {acc : List Tm} (hI : FI μ (x + 49) acc) (hl : acc.length ≤ 4) : Con w (d + 7) mX2_readTerm 0 0 [vP (some (x + 48))] μ (fun v μ2 => PoR (rdTm n B i) (fun c j => v = some (vI 0) ∧ DrE x (fa4 c (tP n B j) fo fi) μ μ2) (fun u j => v = some (vI 1) ∧ mI μ2 (x + 1) 8 = (j : Int) ∧ j ≤ T ∧ FI μ2 (x + 49) (acc ++ [u]) ∧ TOk u ∧ DrS x μ μ2)) := by
  have o48 := hK.1.o48
  have r480 := hK.1.r48_0
  have r481 := hK.1.r48_1
  have o1 := hK.1.o1
  have o49 := hK.1.o49
  have hkb := kdT_bd n B (tP n B i)
  refine Con.of (by decide) (Nat.le_of_ble_eq_true rfl) rfl ?_
  refine g_aload_n (j := 0) rfl dX2_readTerm_0 ?_
  refine g_callV dX2_readTerm_1 mlX2_53 mvX2_checkFirstToken (ci := 2) ⟨by decide, rfl⟩ (by assumption) (c_checkFirst w d μ hK e8 hi e10 e11) sv0 rfl (by omega) (Nat.le_of_ble_eq_true rfl) (Nat.le_refl _) (Nat.le_refl _) (fun v μ1 hR => ?_)
  rcases hR with ⟨hc, rfl, hm⟩ | ⟨hc, rfl, hE⟩
  · replace hm := hm.symm
    subst hm
    refine g_if_ne (tgt := 9) dX2_readTerm_4 (by decide) (by omega) (fun h4 => ?_) (fun h4 => ?_)
    · refine g_iconst dX2_readTerm_9 ?_
      refine g_istore_n (j := 1) dX2_readTerm_10 (by decide) rfl ls1 ?_
      refine g_aload_n (j := 0) rfl dX2_readTerm_11 ?_
      refine g_getR dX2_readTerm_12 flX2_9 rfl (by assumption) (kz := 0) rfl (by assumption) ?_
      refine g_callV dX2_readTerm_15 mlX2_56 mvX10_isN (ci := 10) ⟨by decide, rfl⟩ (by assumption) (c_isN w (d + 6) μ hK e8 hi) sv0 rfl (by omega) (Nat.le_of_ble_eq_true rfl) (Nat.le_refl _) (Nat.le_refl _) (fun v μ2 hR => ?_)
      obtain ⟨rfl, hm⟩ := hR
      replace hm := hm.symm
      subst hm
      refine g_ifb_eq (tgt := 36) dX2_readTerm_18 (by decide)  (fun h18 => ?_) (fun h18 => ?_)
      · have hkf : kdT n B (tP n B i) ≠ -1 := fun z => by
          unfold chF at hc
          rw [pI_f h18, pI_f (fun q => q z)] at hc
          omega
        have er : rdTm n B i = rdT2 n B 1 i := by
          unfold rdTm
          rw [pI_f h18, pI_t hkf]
        refine l_term2 (d := d) hK e8 hi e10 e11 hI hl (f := 1) (by omega) (fun e μ3 h1 h2 => ?_) (fun u j μ3 h1 h2 h3 h4 h5 h6 => ?_)
        · rw [er, h1]
          exact ⟨rfl, h2⟩
        · rw [er, h1]
          exact ⟨rfl, h2, h3, h4, h5, h6⟩
      · refine g_aload_n (j := 0) rfl dX2_readTerm_21 ?_
        refine g_getR dX2_readTerm_22 flX2_9 rfl (by assumption) (kz := 0) rfl (by assumption) ?_
        refine g_callV dX2_readTerm_25 mlX2_59 mvX10_amount (ci := 10) ⟨by decide, rfl⟩ (by assumption) (c_amount w (d + 6) μ hK e8 hi) sv0 rfl (by omega) (Nat.le_of_ble_eq_true rfl) (Nat.le_refl _) (Nat.le_refl _) (fun v μ2 hR => ?_)
        obtain ⟨rfl, hm⟩ := hR
        replace hm := hm.symm
        subst hm
        refine g_istore_n (j := 1) dX2_readTerm_28 (by decide) rfl ls1 ?_
        refine g_aload_n (j := 0) rfl dX2_readTerm_29 ?_
        refine g_getR dX2_readTerm_30 flX2_9 rfl (by assumption) (kz := 0) rfl (by assumption) ?_
        refine g_callV dX2_readTerm_33 mlX2_50 mvX10_advance (ci := 10) ⟨by decide, rfl⟩ (by assumption) (c_advance w (d + 6) μ hK e8 ((hK.lt hi).1.mp h18.1)) sv0 rfl (by omega) (Nat.le_of_ble_eq_true rfl) (Nat.le_refl _) (Nat.le_refl _) (fun v μ2 hR => ?_)
        obtain ⟨rfl, e82, hs2⟩ := hR
        have hK2 := hs2.tk hK
        have o482 := hK2.1.o48
        have r4802 := hK2.1.r48_0
        have r4812 := hK2.1.r48_1
        have o12 := hK2.1.o1
        have o492 := hK2.1.o49
        have e102 := (hs2.2 10 (by omega) (by omega)).trans e10
        have e112 := (hs2.2 11 (by omega) (by omega)).trans e11
        have hI2 := hs2.FI hK.1 hI
        have hkf : 1 ≤ ka n B (tP n B i) ∧ ka n B (tP n B i) ≤ 99 := Classical.byContradiction fun z => by
          unfold chF at hc
          rw [pI_t h18, pI_f z] at hc
          omega
        have er : rdTm n B i = rdT2 n B (ka n B (tP n B i)) (i + 1) := by
          unfold rdTm
          rw [pI_t h18, pI_t hkf]
        refine l_term2 (d := d) hK2 e82 ((hK.lt hi).1.mp h18.1) e102 e112 hI2 hl (f := ka n B (tP n B i)) hkf (fun e μ3 h1 h2 => ?_) (fun u j μ3 h1 h2 h3 h4 h5 h6 => ?_)
        · rw [er, h1]
          exact ⟨rfl, hs2.D.E h2⟩
        · rw [er, h1]
          exact ⟨rfl, h2, h3, h4, h5, hs2.D.tr h6⟩
    · omega
  · refine g_if_ne (tgt := 9) dX2_readTerm_4 (by decide) (by omega) (fun h4 => ?_) (fun h4 => ?_)
    · omega
    · refine g_iconst dX2_readTerm_7 ?_
      have er : rdTm n B i = .inl (chF n B i, i) := by
        unfold rdTm chF
        unfold chF at hc
        by_cases hN : isN n B (tP n B i)
        · rw [pI_t hN] at hc
          rw [pI_t hN, pI_t hN]
          by_cases hf : 1 ≤ ka n B (tP n B i) ∧ ka n B (tP n B i) ≤ 99
          · rw [pI_t hf] at hc
            exact absurd rfl hc
          · rw [pI_f hf, pI_f hf]
        · rw [pI_f hN] at hc
          rw [pI_f hN, pI_f hN]
          by_cases hf : ¬ kdT n B (tP n B i) = -1
          · rw [pI_t hf] at hc
            exact absurd rfl hc
          · rw [pI_f hf, pI_f hf]
      refine G.retZ dX2_readTerm_8 rfl (Or.inl rfl) ?_
      rw [er]
      exact ⟨rfl, hE.D⟩
def PoF (r : (FlT × Nat) ⊕ List Tm) (E : FlT → Nat → Prop) (S : List Tm → Prop) : Prop := match r with
  | .inl e => E e.1 e.2
  | .inr s => S s
def DoS (x : Nat) (μ μ2 : Mem) : Prop := DrF x μ μ2 ∧ ∀ j, ¬ j = 8 → ¬ j = 9 → ¬ j = 10 → mI μ2 (x + 1) j = mI μ (x + 1) j
def DoE (x : Nat) (f : Int → Int) (μ μ2 : Mem) : Prop := DrF x μ μ2 ∧ (∀ j, ¬ j = 8 → ¬ j = 9 → ¬ j = 10 → ¬ (12 ≤ j ∧ j ≤ 15) → mI μ2 (x + 1) j = mI μ (x + 1) j) ∧ FaC μ2 x f
theorem DoS.tr {x : Nat} {μ μ2 μ3 : Mem} (h : DoS x μ μ2) (h2 : DoS x μ2 μ3) : DoS x μ μ3 := ⟨h.1.tr h2.1, fun j a b c => (h2.2 j a b c).trans (h.2 j a b c)⟩
theorem DrS.o {x : Nat} {μ μ2 : Mem} (h : DrS x μ μ2) : DoS x μ μ2 := ⟨h.1, fun j a b _ => h.2 j a b⟩
theorem DrE.o {x : Nat} {f : Int → Int} {μ μ2 : Mem} (h : DrE x f μ μ2) : DoE x f μ μ2 := ⟨h.1, fun j a b _ c => h.2.1 j a b c, h.2.2⟩
theorem DoS.E {x : Nat} {f : Int → Int} {μ μ2 μ3 : Mem} (h : DoS x μ μ2) (h2 : DoE x f μ2 μ3) : DoE x f μ μ3 := ⟨h.1.tr h2.1, fun j a b c e => (h2.2.1 j a b c e).trans (h.2 j a b c), h2.2.2⟩
theorem DoS.s10 {x : Nat} {μ : Mem} {z : Int} : DoS x μ (sI μ (x + 1) 10 z) := ⟨Fr.sI (Or.inl rfl), fun j _ _ c => by rw [mI_sI, if_neg (by omega)]⟩
theorem DoS.tk {w : WC} {x T : Nat} {n : Int} {B : Int → Int} {μ μ2 : Mem} (h : DoS x μ μ2) (hK : TkC w μ x n B T) : TkC w μ2 x n B T := hK.fr h.1 (hK.1.fr h.1 fun _ _ _ z => z.elim) (fun a z1 z2 z => by omega) (h.2 5 (by omega) (by omega) (by omega)) (h.2 7 (by omega) (by omega) (by omega))

theorem FI_same {w : WC} {x : Nat} {μ μ2 : Mem} {ts : List Tm} (h : DrF x μ μ2) (hT : TPS w μ x) (hI : FI μ (x + 49) ts) (hz : ∀ a, x + 49 ≤ a → a ≤ x + 55 → ∀ j, mI μ2 a j = mI μ a j) : FI μ2 (x + 49) ts := by
  obtain ⟨q1, q2, q3, q4⟩ := hI
  refine ⟨(hz _ (by omega) (by omega) 0).trans q1, q2, q3, fun i u hu => ?_⟩
  have := q4 i u hu
  unfold TmAt at this ⊢
  rw [hz _ (by omega) (by omega), hz _ (by omega) (by omega), hz _ (by omega) (by omega), hz _ (by omega) (by omega), hz _ (by omega) (by omega), hz _ (by omega) (by omega)]
  exact this
theorem l_readAll {w : WC} {d : Nat} {x T : Nat} {n : Int} {B : Int → Int} : ∀ (k : Nat) (acc : List Tm) (μ : Mem) (i : Nat), acc.length + k = 5 → TkC w μ x n B T → mI μ (x + 1) 8 = (i : Int) → i ≤ T → mI μ (x + 1) 11 = -1 → FI μ (x + 49) acc →
    G w (d + 8) mX2_readAll (fun v μ2 => PoF (rdFm n B k acc i) (fun e o => v = some (vI 0) ∧ DoE x (fa4 e.1 (tP n B e.2) o (-1)) μ μ2) (fun ts => v = some (vI 1) ∧ FI μ2 (x + 49) ts ∧ DoS x μ μ2)) 0 0 19 [some (vP (some (x + 48))), some (vI (acc.length : Int))] [] μ := by
  intro k
  induction k with
  | zero =>
    intro acc μ i hl hK e8 hi e11 hI
    have o48 := hK.1.o48
    have r480 := hK.1.r48_0
    have r481 := hK.1.r48_1
    have o1 := hK.1.o1
    have o49 := hK.1.o49
    refine g_iload_n (j := 1) rfl dX2_readAll_19 ?_
    refine g_iconst dX2_readAll_20 ?_
    refine g_icmp_ge (tgt := 87) dX2_readAll_21 (by decide) (by omega) (by omega) (fun h21 => ?_) (fun h21 => ?_)
    · refine g_aload_n (j := 0) rfl dX2_readAll_87 ?_
      refine g_getR dX2_readAll_88 flX2_9 rfl (by assumption) (kz := 0) rfl (by assumption) ?_
      refine g_iconst dX2_readAll_91 ?_
      refine g_putI dX2_readAll_92 fpX2_32 rfl rfl rfl (by assumption) (kz := 10) rfl ?_
      have hs1 : DoS x μ (sI μ (x + 1) 10 5) := DoS.s10
      have hK1 := hs1.tk hK
      have e81 : mI (sI μ (x + 1) 10 5) (x + 1) 8 = (i : Int) := by rw [mI_sI, if_neg (by omega)]; exact e8
      have e101 : mI (sI μ (x + 1) 10 5) (x + 1) 10 = 5 := by rw [mI_sI, if_pos ⟨rfl, rfl⟩]
      have e111 : mI (sI μ (x + 1) 10 5) (x + 1) 11 = -1 := by rw [mI_sI, if_neg (by omega)]; exact e11
      have hI1 : FI (sI μ (x + 1) 10 5) (x + 49) acc := FI_same hs1.1 hK.1 hI (fun a z1 z2 j => by rw [mI_sI, if_neg (by omega)])
      generalize sI μ (x + 1) 10 5 = μ1 at *
      have o481 := hK1.1.o48
      have r4801 := hK1.1.r48_0
      have r4811 := hK1.1.r48_1
      have o11 := hK1.1.o1
      refine g_aload_n (j := 0) rfl dX2_readAll_95 ?_
      refine g_callV dX2_readAll_96 mlX2_53 mvX2_checkFirstToken (ci := 2) ⟨by decide, rfl⟩ (by assumption) (c_checkFirst w (d + 1) μ1 hK1 e81 hi e101 e111) sv0 rfl (by omega) (Nat.le_of_ble_eq_true rfl) (Nat.le_refl _) (Nat.le_refl _) (fun v μ2 hR => ?_)
      rcases hR with ⟨hc, rfl, hm⟩ | ⟨hc, rfl, hE⟩
      · replace hm := hm.symm
        subst hm
        refine g_if_eq (tgt := 117) dX2_readAll_99 (by decide) (by omega) (fun h99 => ?_) (fun h99 => ?_)
        · omega
        · refine g_aload_n (j := 0) rfl dX2_readAll_102 ?_
          refine g_getR dX2_readAll_103 flX2_9 rfl (by assumption) (kz := 0) rfl (by assumption) ?_
          refine g_iconst dX2_readAll_106 ?_
          refine g_callV dX2_readAll_107 mlX2_46 mvX10_fail (ci := 10) ⟨by decide, rfl⟩ (by assumption) (c_fail w (d + 7) μ1 hK1 e81 hi (k := 4) e101 e111) sv1 rfl (by omega) (Nat.le_of_ble_eq_true rfl) (Nat.le_refl _) (Nat.le_refl _) (fun v μ3 hR => ?_)
          obtain ⟨rfl, hE⟩ := hR
          refine g_if_eq (tgt := 117) dX2_readAll_110 (by decide) (by omega) (fun h110 => ?_) (fun h110 => ?_)
          · refine g_iconst dX2_readAll_117 ?_
            first
            | (exfalso; omega)
            | (have er : rdFm n B 0 acc i = .inl ((4, i), 5) := by
                 unfold rdFm
                 unfold chF at hc
                 by_cases hN : isN n B (tP n B i)
                 · rw [pI_t hN] at hc ⊢
                   by_cases hf : 1 ≤ ka n B (tP n B i) ∧ ka n B (tP n B i) ≤ 99
                   · rw [pI_t hf]
                   · rw [pI_f hf] at hc
                     omega
                 · rw [pI_f hN] at hc ⊢
                   by_cases hf : ¬ kdT n B (tP n B i) = -1
                   · rw [pI_t hf]
                   · rw [pI_f hf] at hc
                     omega
               refine G.retZ dX2_readAll_118 rfl (Or.inl rfl) ?_
               rw [er]
               exact ⟨rfl, hs1.E hE.D.o⟩)
          · refine g_iconst dX2_readAll_113 ?_
            refine g_goto (tgt := 118) (by decide) dX2_readAll_114 ?_
            first
            | (exfalso; omega)
            | (have er : rdFm n B 0 acc i = .inl ((4, i), 5) := by
                 unfold rdFm
                 unfold chF at hc
                 by_cases hN : isN n B (tP n B i)
                 · rw [pI_t hN] at hc ⊢
                   by_cases hf : 1 ≤ ka n B (tP n B i) ∧ ka n B (tP n B i) ≤ 99
                   · rw [pI_t hf]
                   · rw [pI_f hf] at hc
                     omega
                 · rw [pI_f hN] at hc ⊢
                   by_cases hf : ¬ kdT n B (tP n B i) = -1
                   · rw [pI_t hf]
                   · rw [pI_f hf] at hc
                     omega
               refine G.retZ dX2_readAll_118 rfl (Or.inl rfl) ?_
               rw [er]
               exact ⟨rfl, hs1.E hE.D.o⟩)
      · refine g_if_eq (tgt := 117) dX2_readAll_99 (by decide) (by omega) (fun h99 => ?_) (fun h99 => ?_)
        · refine g_iconst dX2_readAll_117 ?_
          have er : rdFm n B 0 acc i = .inl ((chF n B i, i), 5) := by
            unfold rdFm chF
            unfold chF at hc
            by_cases hN : isN n B (tP n B i)
            · rw [pI_t hN] at hc
              rw [pI_t hN, pI_t hN]
              by_cases hf : 1 ≤ ka n B (tP n B i) ∧ ka n B (tP n B i) ≤ 99
              · rw [pI_t hf] at hc
                exact absurd rfl hc
              · rw [pI_f hf, pI_f hf]
            · rw [pI_f hN] at hc
              rw [pI_f hN, pI_f hN]
              by_cases hf : ¬ kdT n B (tP n B i) = -1
              · rw [pI_t hf] at hc
                exact absurd rfl hc
              · rw [pI_f hf, pI_f hf]
          refine G.retZ dX2_readAll_118 rfl (Or.inl rfl) ?_
          rw [er]
          exact ⟨rfl, hs1.E hE.D.o⟩
        · omega
    · omega
  | succ k ih =>
    intro acc μ i hl hK e8 hi e11 hI
    have o48 := hK.1.o48
    have r480 := hK.1.r48_0
    have r481 := hK.1.r48_1
    have o1 := hK.1.o1
    have o49 := hK.1.o49
    refine g_iload_n (j := 1) rfl dX2_readAll_19 ?_
    refine g_iconst dX2_readAll_20 ?_
    refine g_icmp_ge (tgt := 87) dX2_readAll_21 (by decide) (by omega) (by omega) (fun h21 => ?_) (fun h21 => ?_)
    · omega
    · refine g_aload_n (j := 0) rfl dX2_readAll_24 ?_
      refine g_getR dX2_readAll_25 flX2_9 rfl (by assumption) (kz := 0) rfl (by assumption) ?_
      refine g_iload_n (j := 1) rfl dX2_readAll_28 ?_
      refine g_putI dX2_readAll_29 fpX2_32 rfl rfl rfl (by assumption) (kz := 10) rfl ?_
      have hs1 : DoS x μ (sI μ (x + 1) 10 (acc.length : Int)) := DoS.s10
      have hK1 := hs1.tk hK
      have e81 : mI (sI μ (x + 1) 10 (acc.length : Int)) (x + 1) 8 = (i : Int) := by rw [mI_sI, if_neg (by omega)]; exact e8
      have e101 : mI (sI μ (x + 1) 10 (acc.length : Int)) (x + 1) 10 = (acc.length : Int) := by rw [mI_sI, if_pos ⟨rfl, rfl⟩]
      have e111 : mI (sI μ (x + 1) 10 (acc.length : Int)) (x + 1) 11 = -1 := by rw [mI_sI, if_neg (by omega)]; exact e11
      have hI1 : FI (sI μ (x + 1) 10 (acc.length : Int)) (x + 49) acc := FI_same hs1.1 hK.1 hI (fun a z1 z2 j => by rw [mI_sI, if_neg (by omega)])
      generalize sI μ (x + 1) 10 (acc.length : Int) = μ1 at *
      have o481 := hK1.1.o48
      have r4801 := hK1.1.r48_0
      have r4811 := hK1.1.r48_1
      have o11 := hK1.1.o1
      refine g_aload_n (j := 0) rfl dX2_readAll_32 ?_
      refine g_callV dX2_readAll_33 mlX2_35 mvX2_readTerm (ci := 2) ⟨by decide, rfl⟩ (by assumption) (c_readTerm w d μ1 hK1 e81 hi e101 e111 hI1 (by omega)) sv0 rfl (by omega) (Nat.le_of_ble_eq_true rfl) (Nat.le_refl _) (Nat.le_refl _) (fun v μ2 hR => ?_)
      rcases hr : rdTm n B i with e | s
      · rw [hr] at hR
        obtain ⟨rfl, hE⟩ := hR
        refine g_if_ne (tgt := 41) dX2_readAll_36 (by decide) (by omega) (fun h36 => ?_) (fun h36 => ?_)
        · omega
        · refine g_iconst dX2_readAll_39 ?_
          have er : rdFm n B (k + 1) acc i = .inl (e, acc.length) := by
            unfold rdFm
            rw [hr]
          refine G.retZ dX2_readAll_40 rfl (Or.inl rfl) ?_
          rw [er]
          exact ⟨rfl, hs1.E hE.o⟩
      rw [hr] at hR
      obtain ⟨rfl, e82, hjT, hI2, hok2, hs2⟩ := hR
      have hK2 := hs2.tk hK1
      have o482 := hK2.1.o48
      have r4802 := hK2.1.r48_0
      have r4812 := hK2.1.r48_1
      have o12 := hK2.1.o1
      have e102 := (hs2.2 10 (by omega) (by omega)).trans e101
      have e112 := (hs2.2 11 (by omega) (by omega)).trans e111
      refine g_if_ne (tgt := 41) dX2_readAll_36 (by decide) (by omega) (fun h36 => ?_) (fun h36 => ?_)
      · refine g_aload_n (j := 0) rfl dX2_readAll_41 ?_
        refine g_getR dX2_readAll_42 flX2_9 rfl (by assumption) (kz := 0) rfl (by assumption) ?_
        refine g_callV dX2_readAll_45 mlX2_39 mvX10_isEnd (ci := 10) ⟨by decide, rfl⟩ (by assumption) (c_isEnd w (d + 7) μ2 hK2 e82 hjT) sv0 rfl (by omega) (Nat.le_of_ble_eq_true rfl) (Nat.le_refl _) (Nat.le_refl _) (fun v μ2 hR => ?_)
        obtain ⟨rfl, hm⟩ := hR
        replace hm := hm.symm
        subst hm
        refine g_ifb_eq (tgt := 53) dX2_readAll_48 (by decide)  (fun h48 => ?_) (fun h48 => ?_)
        · refine g_aload_n (j := 0) rfl dX2_readAll_53 ?_
          refine g_getR dX2_readAll_54 flX2_9 rfl (by assumption) (kz := 0) rfl (by assumption) ?_
          refine g_bipush dX2_readAll_57 (by omega) ?_
          refine g_callV dX2_readAll_59 mlX2_42 mvX10_isSign (ci := 10) ⟨by decide, rfl⟩ (by assumption) (c_isSign w (d + 7) μ2 hK2 e82 hjT (c := 43) (by omega)) sv1 rfl (by omega) (Nat.le_of_ble_eq_true rfl) (Nat.le_refl _) (Nat.le_refl _) (fun v μ2 hR => ?_)
          obtain ⟨rfl, hm⟩ := hR
          replace hm := hm.symm
          subst hm
          refine g_ifb_ne (tgt := 74) dX2_readAll_62 (by decide)  (fun h62 => ?_) (fun h62 => ?_)
          · refine g_aload_n (j := 0) rfl dX2_readAll_74 ?_
            refine g_getR dX2_readAll_75 flX2_9 rfl (by assumption) (kz := 0) rfl (by assumption) ?_
            refine g_callV dX2_readAll_78 mlX2_50 mvX10_advance (ci := 10) ⟨by decide, rfl⟩ (by assumption) (c_advance w (d + 7) μ2 hK2 e82 ((hK2.lt hjT).1.mp h62.1)) sv0 rfl (by omega) (Nat.le_of_ble_eq_true rfl) (Nat.le_refl _) (Nat.le_refl _) (fun v μ3 hR => ?_)
            obtain ⟨rfl, e83, hs3⟩ := hR
            have hK3 := hs3.tk hK2
            have e113 := (hs3.2 11 (by omega) (by omega)).trans e112
            have hI3 := hs3.FI hK2.1 hI2
            refine g_iinc (i := 1) dX2_readAll_81 rfl (by decide) rfl ls1 ?_
            refine g_goto (tgt := 19) (by decide) dX2_readAll_84 ?_
            have er : rdFm n B (k + 1) acc i = rdFm n B k (acc ++ [s.1]) (s.2 + 1) := by
              conv => lhs; unfold rdFm
              rw [hr]
              exact (pI_f h48).trans (pI_t h62)
            rw [er]
            have hl2 : (acc ++ [s.1]).length = acc.length + 1 := by simp
            rw [show ((acc.length : Nat) : Int) + 1 = ((acc ++ [s.1]).length : Int) by rw [hl2]; omega]
            refine G.post (fun v μ4 hq => ?_) (ih (acc ++ [s.1]) μ3 (s.2 + 1) (by omega) hK3 e83 ((hK2.lt hjT).1.mp h62.1) e113 hI3)
            rcases hz : rdFm n B k (acc ++ [s.1]) (s.2 + 1) with e | s4
            · rw [hz] at hq
              exact ⟨hq.1, ((hs1.tr hs2.o).tr hs3.D.o).E hq.2⟩
            · rw [hz] at hq
              exact ⟨hq.1, hq.2.1, ((hs1.tr hs2.o).tr hs3.D.o).tr hq.2.2⟩
          · refine g_aload_n (j := 0) rfl dX2_readAll_65 ?_
            refine g_getR dX2_readAll_66 flX2_9 rfl (by assumption) (kz := 0) rfl (by assumption) ?_
            refine g_iconst dX2_readAll_69 ?_
            refine g_callV dX2_readAll_70 mlX2_46 mvX10_fail (ci := 10) ⟨by decide, rfl⟩ (by assumption) (c_fail w (d + 7) μ2 hK2 e82 hjT (k := 1) e102 e112) sv1 rfl (by omega) (Nat.le_of_ble_eq_true rfl) (Nat.le_refl _) (Nat.le_refl _) (fun v μ3 hR => ?_)
            obtain ⟨rfl, hE⟩ := hR
            have er : rdFm n B (k + 1) acc i = .inl ((1, s.2), acc.length) := by
              unfold rdFm
              rw [hr]
              exact (pI_f h48).trans (pI_f h62)
            refine G.retZ dX2_readAll_73 rfl (Or.inl rfl) ?_
            rw [er]
            exact ⟨rfl, (hs1.tr hs2.o).E hE.D.o⟩
        · refine g_iconst dX2_readAll_51 ?_
          have er : rdFm n B (k + 1) acc i = .inr (acc ++ [s.1]) := by
            unfold rdFm
            rw [hr]
            exact pI_t h48
          refine G.retZ dX2_readAll_52 rfl (Or.inr rfl) ?_
          rw [er]
          exact ⟨rfl, hI2, hs1.tr hs2.o⟩
      · omega
