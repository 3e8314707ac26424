/-! THE CLASS: tried, side, the methods -/
noncomputable def soV (I : IdT) (s : Int) (V : Int → Int) : Option Int := pI (s = 0) (sA I V) (sB I V)
noncomputable def soR (I : IdT) (s : Int) (V : Int → Int) : Int := match soV I s V with
  | some z => z
  | none => -9223372036854775808
noncomputable def trA (I : IdT) (b t : Int) : Int := pI (0 < I.1.2.2.length ∧ (0 ≤ b ∧ b < 4) ∧ 0 ≤ t ∧ t ≤ 7) (pI (t = 0) (cB I b (rwT I b)) (pI (cB I b (rwT I b) = 0) (-100000) (fF I b (rwT I b) (t - 1)))) (-100000)
def arV (a b c d e f : Int) : Int → Int := fun l => if l = 0 then a else if l = 1 then b else if l = 2 then c else if l = 3 then d else if l = 4 then e else f
def in9 (a : Int) : Prop := -9 ≤ a ∧ a ≤ 9
noncomputable def sdA (I : IdT) (s a b c d e f : Int) : Int := pI (0 < I.1.2.2.length ∧ (0 ≤ s ∧ s ≤ 1) ∧ (in9 a ∧ in9 b ∧ in9 c) ∧ in9 d ∧ in9 e ∧ in9 f) (soR I s (arV a b c d e f)) (-9223372036854775808)
theorem fF_6 (I : IdT) (b : Int) : ∀ r, fF I b r 6 = 0 ∨ fF I b r 6 = 1
  | 0 => Or.inl rfl
  | r + 1 => by
    unfold fF
    by_cases h : cB I b r = 0 ∧ brV I (itV I.1.2.1 b r)
    · rw [pI_t h]
      rw [if_pos rfl]
      exact bI_01 _
    · rw [pI_f h]
      exact fF_6 I b r
theorem IcS.eq5 {μ μ2 : Mem} {y p : Nat} {L : Int} {ops : List Op} (h : IcS μ y p L ops) (ea : ∀ a j, a ≤ y + 5 → mI μ2 a j = mI μ a j) (e8 : ∀ j, mI μ2 (y + 8) j = mI μ (y + 8) j) : IcS μ2 y p L ops := by
  obtain ⟨⟨a, b, c, e⟩, hO, hS⟩ := h
  exact ⟨⟨(ea _ _ (by omega)).trans a, (ea _ _ (by omega)).trans b, (ea _ _ (by omega)).trans c, (ea _ _ (by omega)).trans e⟩, hO.eq fun a j z1 z2 => ea a j (by omega), fun k v hv => by rw [e8]; exact hS k v hv⟩
def IdC (μ : Mem) (x : Nat) (I : IdT) : Prop := ∃ yl ys, LsR μ x yl ys ∧ IcS μ yl I.1.1 I.1.2.1 I.1.2.2 ∧ mI μ yl 15 = (I.2 : Int) ∧ BxC μ yl I
theorem c_X3_isThere (w : WC) (d : Nat) (μ : Mem) {y n : Nat} (o0 : IsO w μ y 3) (e13 : mI μ y 13 = (n : Int)) (hn : n ≤ 180) : Con w d mX3_isThere 0 0 [vP (some y)] μ (fun v μ2 => v = some (vI (bI (0 < n))) ∧ μ2 = μ) := by
  refine Con.of (by decide) (Nat.le_of_ble_eq_true rfl) rfl ?_
  refine g_aload_n (j := 0) rfl dX3_isThere_0 ?_
  refine g_getI dX3_isThere_1 flX3_53 rfl (by assumption) (kz := 13) rfl ?_
  rw [e13]
  refine g_if_le (tgt := 11) dX3_isThere_4 (by decide) (by omega) (fun h4 => ?_) (fun h4 => ?_)
  · refine g_iconst dX3_isThere_11 ?_
    first
    | exact G.retB dX3_isThere_12 rfl (eq_bI (Or.inl ⟨rfl, by omega⟩)) ⟨rfl, rfl⟩
    | exact G.retB dX3_isThere_12 rfl (eq_bI (Or.inr ⟨rfl, by omega⟩)) ⟨rfl, rfl⟩
  · refine g_iconst dX3_isThere_7 ?_
    refine g_goto (tgt := 12) (by decide) dX3_isThere_8 ?_
    first
    | exact G.retB dX3_isThere_12 rfl (eq_bI (Or.inl ⟨rfl, by omega⟩)) ⟨rfl, rfl⟩
    | exact G.retB dX3_isThere_12 rfl (eq_bI (Or.inr ⟨rfl, by omega⟩)) ⟨rfl, rfl⟩
theorem l_ev26 {w : WC} {d y j : Nat} {l1 : Int} {so : Option Int} {μ : Mem} (hI : IdO w μ y) (hj : j < 200) (hN : NvO μ y (j : Int) so) : G w d mX3_evaluate (fun v μ2 => v = some (vI (bI (¬ so = none))) ∧ (∀ z, so = some z → mL μ2 y 18 = z) ∧ RsF y μ μ2) 0 0 26 [some (vP (some y)), some (vI l1), some (vI (j : Int))] [] μ := by
  have o0 := hI.1
  have r5 := hI.r5
  have a5 := hI.a5
  have r6 := hI.r6
  have a6 := hI.a6
  have hb := bI_01 (so = none)
  refine g_iload_n (j := 2) rfl dX3_evaluate_26 ?_
  refine g_if_lt (tgt := 39) dX3_evaluate_27 (by decide) (by omega) (fun h27 => ?_) (fun h27 => ?_)
  · omega
  · refine g_aload_n (j := 0) rfl dX3_evaluate_30 ?_
    refine g_getR dX3_evaluate_31 flX3_31 rfl (by assumption) (kz := 6) rfl (by assumption) ?_
    refine g_iload_n (j := 2) rfl dX3_evaluate_34 ?_
    refine g_zald dX3_evaluate_35 (by assumption) (by omega) (by omega) ?_
    rw [hN.1]
    refine g_if_eq (tgt := 41) dX3_evaluate_36 (by decide) (by omega) (fun h36 => ?_) (fun h36 => ?_)
    · refine g_aload_n (j := 0) rfl dX3_evaluate_41 ?_
      refine g_aload_n (j := 0) rfl dX3_evaluate_42 ?_
      refine g_getR dX3_evaluate_43 flX3_27 rfl (by assumption) (kz := 5) rfl (by assumption) ?_
      refine g_iload_n (j := 2) rfl dX3_evaluate_46 ?_
      refine g_lald dX3_evaluate_47 (by assumption) (by omega) (by omega) ?_
      refine g_putJ dX3_evaluate_48 fpX3_87 rfl rfl rfl (by assumption) (kz := 18) rfl ?_
      refine g_iconst dX3_evaluate_51 ?_
      exact G.retB dX3_evaluate_52 rfl (eq_bI (Or.inl ⟨rfl, bI_is0.mp h36⟩)) ⟨rfl, (fun z hz => by rw [mL_sL, if_pos ⟨rfl, rfl⟩]; exact hN.2 z hz), RsF.s⟩
    · refine g_iconst dX3_evaluate_39 ?_
      exact G.retB dX3_evaluate_40 rfl (eq_bI (Or.inr ⟨rfl, fun q => q (bI_is1.mp (by omega))⟩)) ⟨rfl, (fun z hz => by rw [bI_0 (fun q => by rw [q] at hz; cases hz)] at h36; omega), RsF.rf⟩
theorem c_evaluate (w : WC) (d : Nat) (μ : Mem) {y : Nat} {I : IdT} {s : Int} {V : Int → Int} (hw : WI I) (h0 : 0 < I.1.2.2.length) (hs : 0 ≤ s ∧ s ≤ 1) (hT : TrI w μ y I) (hV : ∀ l, 0 ≤ l → l ≤ 5 → mI μ (y + 9) l = V l ∧ i32 (V l)) : Con w (d + 5) mX3_evaluate 0 0 [vP (some y), vI s] μ (fun v μ2 => v = some (vI (bI (¬ soV I s V = none))) ∧ (∀ z, soV I s V = some z → mL μ2 y 18 = z) ∧ TsF y μ μ2) := by
  obtain ⟨hwf, hk, ⟨k1, k2⟩, hv, -, -⟩ := vl_A hw h0
  have hl := hw.1.2
  have o0 := hT.1.1
  refine Con.of (by decide) (Nat.le_of_ble_eq_true rfl) rfl ?_
  refine g_aload_n (j := 0) rfl dX3_evaluate_0 ?_
  refine g_bipush dX3_evaluate_1 (by omega) ?_
  refine g_callV dX3_evaluate_3 mlX3_83 mvX3_retake (ci := 3) ⟨by decide, rfl⟩ (by assumption) (c_retake w d μ (C := 127) hw.1.2 hwf hk hT.1 hT.2.1 hT.2.2.1 hV (fun j hj => Or.inl (us_all hwf hT.2.1.us j hj))) sv1 rfl (by omega) (Nat.le_of_ble_eq_true rfl) (Nat.le_refl _) (Nat.le_refl _) (fun v μ2 hR => ?_)
  obtain ⟨rfl, hN2, hf2⟩ := hR
  have hy2 : TyB y 0 μ μ2 := hf2.y
  have hT2 := hT.y hy2
  have o02 := hT2.1.1
  have e132 := hT2.2.2.1
  have e152 := hT2.2.2.2.1
  refine g_iload_n (j := 1) rfl dX3_evaluate_6 ?_
  refine g_if_ne (tgt := 19) dX3_evaluate_7 (by decide) (by omega) (fun h7 => ?_) (fun h7 => ?_)
  · refine g_aload_n (j := 0) rfl dX3_evaluate_19 ?_
    refine g_getI dX3_evaluate_20 flX3_53 rfl (by assumption) (kz := 13) rfl ?_
    rw [e132]
    refine g_iconst dX3_evaluate_23 ?_
    refine g_isub dX3_evaluate_24 ?_
    refine g_istore_n (j := 2) dX3_evaluate_25 (by decide) rfl ls2 ?_
    rw [show (I.1.2.2.length : Int) - 1 = ((I.1.2.2.length - 1 : Nat) : Int) by omega]
    have e : soV I s V = valI V I.1.2.2 (I.1.2.2.length - 1) := by rw [soV, pI_f h7, (hv V).2]
    rw [e]
    exact G.post (fun v μ3 hq => ⟨hq.1, hq.2.1, hf2.tr hq.2.2.t⟩) (l_ev26 hT2.1 (by omega) (hN2 _ (by omega)))
  · have hs0 := h7
    refine g_aload_n (j := 0) rfl dX3_evaluate_10 ?_
    refine g_getI dX3_evaluate_11 flX3_60 rfl (by assumption) (kz := 15) rfl ?_
    rw [e152]
    refine g_iconst dX3_evaluate_14 ?_
    refine g_isub dX3_evaluate_15 ?_
    refine g_goto (tgt := 25) (by decide) dX3_evaluate_16 ?_
    refine g_istore_n (j := 2) dX3_evaluate_25 (by decide) rfl ls2 ?_
    rw [show (I.2 : Int) - 1 = ((I.2 - 1 : Nat) : Int) by omega]
    have e : soV I s V = valI V I.1.2.2 (I.2 - 1) := by rw [soV, pI_t h7, (hv V).1]
    rw [e]
    exact G.post (fun v μ3 hq => ⟨hq.1, hq.2.1, hf2.tr hq.2.2.t⟩) (l_ev26 hT2.1 (by omega) (hN2 _ (by omega)))
theorem c_X11_tried (w : WC) (d : Nat) (μ : Mem) {x c N : Nat} {F : Int → List Tm} {I : IdT} (h : CA w μ x F c N) (hIC : IdC μ x I) (hw : WI I) {b t : Int} (hb : i32 b) (ht : i32 t) : Con w (d + 6) mX11_tried 0 0 [vP (some x), vI b, vI t] μ (fun v μ2 => v = some (vI (trA I b t)) ∧ CA w μ2 x F c N ∧ IdC μ2 x I ∧ Fr (fun a => x + 71 ≤ a ∧ a ≤ x + 98) (fun _ _ => False) μ μ2) := by
  obtain ⟨yl, ys, hls, hic, e15, hbx⟩ := hIC
  have hyl : yl = x + 71 ∨ yl = x + 85 := by have := hls.2.2; omega
  have o0 := h.tps.o0
  have rl := hls.1
  have hI := h.tps.ido hyl
  have oy := hI.1
  have hT : TrI w μ yl I := ⟨hI, hic.2.1, hic.1.1, e15, hic.1.2.2.1⟩
  refine Con.of (by decide) (Nat.le_of_ble_eq_true rfl) rfl ?_
  refine g_aload_n (j := 0) rfl dX11_tried_0 ?_
  refine g_getR dX11_tried_1 flX11_92 rfl (by assumption) (kz := 12) rfl (by assumption) ?_
  refine g_callV dX11_tried_4 mlX11_247 mvX3_isThere (ci := 3) ⟨by decide, rfl⟩ (by assumption) (c_X3_isThere w (d + 5) μ oy hic.1.1 hw.1.2) sv0 rfl (by omega) (Nat.le_of_ble_eq_true rfl) (Nat.le_refl _) (Nat.le_refl _) (fun v μ2 hR => ?_)
  obtain ⟨rfl, hm⟩ := hR
  replace hm := hm.symm
  subst hm
  refine g_ifb_eq (tgt := 29) dX11_tried_7 (by decide)  (fun h7 => ?_) (fun h7 => ?_)
  · refine g_ldc dX11_tried_29 kcX11_161 (z := -100000) rfl ?_
    exact G.retI dX11_tried_31 rfl ⟨by rw [trA, pI_f (fun z => by obtain ⟨z1, z2⟩ := z; first | exact h7 z1 | omega)], h, ⟨yl, ys, hls, hic, e15, hbx⟩, Fr.rf⟩
  · refine g_iload_n (j := 1) rfl dX11_tried_10 ?_
    refine g_if_lt (tgt := 29) dX11_tried_11 (by decide) (by omega) (fun h11 => ?_) (fun h11 => ?_)
    · refine g_ldc dX11_tried_29 kcX11_161 (z := -100000) rfl ?_
      exact G.retI dX11_tried_31 rfl ⟨by rw [trA, pI_f (fun z => by obtain ⟨z1, z2⟩ := z; first | exact h7 z1 | omega)], h, ⟨yl, ys, hls, hic, e15, hbx⟩, Fr.rf⟩
    · refine g_iload_n (j := 1) rfl dX11_tried_14 ?_
      refine g_iconst dX11_tried_15 ?_
      refine g_icmp_ge (tgt := 29) dX11_tried_16 (by decide) (by omega) (by omega) (fun h16 => ?_) (fun h16 => ?_)
      · refine g_ldc dX11_tried_29 kcX11_161 (z := -100000) rfl ?_
        exact G.retI dX11_tried_31 rfl ⟨by rw [trA, pI_f (fun z => by obtain ⟨z1, z2⟩ := z; first | exact h7 z1 | omega)], h, ⟨yl, ys, hls, hic, e15, hbx⟩, Fr.rf⟩
      · refine g_iload_n (j := 2) rfl dX11_tried_19 ?_
        refine g_if_lt (tgt := 29) dX11_tried_20 (by decide) (by omega) (fun h20 => ?_) (fun h20 => ?_)
        · refine g_ldc dX11_tried_29 kcX11_161 (z := -100000) rfl ?_
          exact G.retI dX11_tried_31 rfl ⟨by rw [trA, pI_f (fun z => by obtain ⟨z1, z2⟩ := z; first | exact h7 z1 | omega)], h, ⟨yl, ys, hls, hic, e15, hbx⟩, Fr.rf⟩
        · refine g_iload_n (j := 2) rfl dX11_tried_23 ?_
          refine g_bipush dX11_tried_24 (by omega) ?_
          refine g_icmp_le (tgt := 32) dX11_tried_26 (by decide) (by omega) (by omega) (fun h26 => ?_) (fun h26 => ?_)
          · refine g_aload_n (j := 0) rfl dX11_tried_32 ?_
            refine g_getR dX11_tried_33 flX11_92 rfl (by assumption) (kz := 12) rfl (by assumption) ?_
            refine g_iload_n (j := 1) rfl dX11_tried_36 ?_
            refine g_callV dX11_tried_37 mlX11_250 mvX3_tryBox (ci := 3) ⟨by decide, rfl⟩ (by assumption) (c_tryBox w d μ hw h7 (by omega) hT hbx) sv1 rfl (by omega) (Nat.le_of_ble_eq_true rfl) (Nat.le_refl _) (Nat.le_refl _) (fun v μ2 hR => ?_)
            obtain ⟨rfl, hB2, hX2, hy2⟩ := hR
            have hF2 : Fr (fun a => x + 71 ≤ a ∧ a ≤ x + 98) (fun _ _ => False) μ μ2 := hy2.1.mono (fun a _ z => by omega) (fun _ _ _ z => z)
            have h2 := h.fr hF2 (fun a z => by omega) (fun _ _ z => z.elim)
            have hls2 : LsR μ2 x yl ys := ⟨(hF2.R o0.2.1 (fun z => z)).trans hls.1, (hF2.R o0.2.1 (fun z => z)).trans hls.2.1, hls.2.2⟩
            have hic2 : IcS μ2 yl I.1.1 I.1.2.1 I.1.2.2 := hic.eq5 (fun a j z => hy2.2 a j z) (hy2.1.I hI.a7.2.1 (by omega))
            have hIC2 : IdC μ2 x I := ⟨yl, ys, hls2, hic2, (hy2.2 _ _ (by omega)).trans e15, hX2⟩
            have o02 := h2.tps.o0
            have rl2 := hls2.1
            have hI2 := h2.tps.ido hyl
            have oy2 := hI2.1
            have r92 := hI2.r9
            have a92 := hI2.a9
            have r102 := hI2.r10
            have a102 := hI2.a10
            have r112 := hI2.r11
            have a112 := hI2.a11
            have eb2 := hB2.1
            have hf6 := fF_6 I b (rwT I b)
            have hcb := cB_bd I b (rwT I b)
            have hrt : ((rwT I b : Nat) : Int) ≤ 117649 := by
              have hle := TT_le (L := I.1.2.1) (b := b) (by omega) 6
              have h76 : (7 : Int) ^ 6 = 117649 := by decide
              unfold rwT
              omega
            have eT : trA I b t = pI (t = 0) (cB I b (rwT I b)) (pI (cB I b (rwT I b) = 0) (-100000) (fF I b (rwT I b) (t - 1))) := by rw [trA, pI_t ⟨h7, by omega, by omega⟩]
            refine g_iload_n (j := 2) rfl dX11_tried_40 ?_
            refine g_if_ne (tgt := 54) dX11_tried_41 (by decide) (by omega) (fun h41 => ?_) (fun h41 => ?_)
            · refine g_aload_n (j := 0) rfl dX11_tried_54 ?_
              refine g_getR dX11_tried_55 flX11_92 rfl (by assumption) (kz := 12) rfl (by assumption) ?_
              refine g_getR dX11_tried_58 flX11_253 rfl (by assumption) (kz := 9) rfl (by assumption) ?_
              refine g_iload_n (j := 1) rfl dX11_tried_61 ?_
              refine g_iald dX11_tried_62 (by assumption) (by omega) (by omega) ?_
              rw [eb2]
              refine g_if_ne (tgt := 69) dX11_tried_63 (by decide) (by omega) (fun h63 => ?_) (fun h63 => ?_)
              · refine g_iload_n (j := 2) rfl dX11_tried_69 ?_
                refine g_bipush dX11_tried_70 (by omega) ?_
                refine g_icmp_gt (tgt := 92) dX11_tried_72 (by decide) (by omega) (by omega) (fun h72 => ?_) (fun h72 => ?_)
                · refine g_aload_n (j := 0) rfl dX11_tried_92 ?_
                  refine g_getR dX11_tried_93 flX11_92 rfl (by assumption) (kz := 12) rfl (by assumption) ?_
                  refine g_getR dX11_tried_96 flX11_259 rfl (by assumption) (kz := 11) rfl (by assumption) ?_
                  refine g_iload_n (j := 1) rfl dX11_tried_99 ?_
                  refine g_zald dX11_tried_100 (by assumption) (by omega) (by omega) ?_
                  rw [(hB2.2 h63).2]
                  refine g_if_eq (tgt := 108) dX11_tried_101 (by decide) (by omega) (fun h101 => ?_) (fun h101 => ?_)
                  · refine g_iconst dX11_tried_108 ?_
                    exact G.retI dX11_tried_109 rfl ⟨by rw [eT, pI_f h41, pI_f h63, show t - 1 = 6 by omega]; congr 2; omega, h2, hIC2, hF2⟩
                  · refine g_iconst dX11_tried_104 ?_
                    refine g_goto (tgt := 109) (by decide) dX11_tried_105 ?_
                    exact G.retI dX11_tried_109 rfl ⟨by rw [eT, pI_f h41, pI_f h63, show t - 1 = 6 by omega]; congr 2; omega, h2, hIC2, hF2⟩
                · refine g_aload_n (j := 0) rfl dX11_tried_75 ?_
                  refine g_getR dX11_tried_76 flX11_92 rfl (by assumption) (kz := 12) rfl (by assumption) ?_
                  refine g_getR dX11_tried_79 flX11_256 rfl (by assumption) (kz := 10) rfl (by assumption) ?_
                  refine g_iload_n (j := 1) rfl dX11_tried_82 ?_
                  refine g_bipush dX11_tried_83 (by omega) ?_
                  refine g_imul dX11_tried_85 ?_
                  refine g_iload_n (j := 2) rfl dX11_tried_86 ?_
                  refine g_iadd dX11_tried_87 ?_
                  refine g_iconst dX11_tried_88 ?_
                  refine g_isub dX11_tried_89 ?_
                  refine g_iald dX11_tried_90 (by assumption) (by omega) (by omega) ?_
                  rw [show b * 6 + t - 1 = b * 6 + (t - 1) by omega, (hB2.2 h63).1 (t - 1) (by omega) (by omega)]
                  exact G.retI dX11_tried_91 rfl ⟨by rw [eT, pI_f h41, pI_f h63], h2, hIC2, hF2⟩
              · refine g_ldc dX11_tried_66 kcX11_161 (z := -100000) rfl ?_
                exact G.retI dX11_tried_68 rfl ⟨by rw [eT, pI_f h41, pI_t h63], h2, hIC2, hF2⟩
            · refine g_aload_n (j := 0) rfl dX11_tried_44 ?_
              refine g_getR dX11_tried_45 flX11_92 rfl (by assumption) (kz := 12) rfl (by assumption) ?_
              refine g_getR dX11_tried_48 flX11_253 rfl (by assumption) (kz := 9) rfl (by assumption) ?_
              refine g_iload_n (j := 1) rfl dX11_tried_51 ?_
              refine g_iald dX11_tried_52 (by assumption) (by omega) (by omega) ?_
              rw [eb2]
              exact G.retI dX11_tried_53 rfl ⟨by rw [eT, pI_t h41], h2, hIC2, hF2⟩
          · refine g_ldc dX11_tried_29 kcX11_161 (z := -100000) rfl ?_
            exact G.retI dX11_tried_31 rfl ⟨by rw [trA, pI_f (fun z => by obtain ⟨z1, z2⟩ := z; first | exact h7 z1 | omega)], h, ⟨yl, ys, hls, hic, e15, hbx⟩, Fr.rf⟩
theorem c_isSideNumber (w : WC) (d : Nat) (μ : Mem) {a : Int} (ha : i32 a) : Con w d mX11_isSideNumber 0 0 [vI a] μ (fun v μ2 => v = some (vI (bI (in9 a))) ∧ μ2 = μ) := by
  refine Con.of (by decide) (Nat.le_of_ble_eq_true rfl) rfl ?_
  refine g_iload_n (j := 0) rfl dX11_isSideNumber_0 ?_
  refine g_bipush dX11_isSideNumber_1 (by omega) ?_
  refine g_icmp_lt (tgt := 16) dX11_isSideNumber_3 (by decide) (by omega) (by omega) (fun h3 => ?_) (fun h3 => ?_)
  · refine g_iconst dX11_isSideNumber_16 ?_
    first
    | exact G.retB dX11_isSideNumber_17 rfl (eq_bI (Or.inl ⟨rfl, by unfold in9; omega⟩)) ⟨rfl, rfl⟩
    | exact G.retB dX11_isSideNumber_17 rfl (eq_bI (Or.inr ⟨rfl, by unfold in9; omega⟩)) ⟨rfl, rfl⟩
  · refine g_iload_n (j := 0) rfl dX11_isSideNumber_6 ?_
    refine g_bipush dX11_isSideNumber_7 (by omega) ?_
    refine g_icmp_gt (tgt := 16) dX11_isSideNumber_9 (by decide) (by omega) (by omega) (fun h9 => ?_) (fun h9 => ?_)
    · refine g_iconst dX11_isSideNumber_16 ?_
      first
      | exact G.retB dX11_isSideNumber_17 rfl (eq_bI (Or.inl ⟨rfl, by unfold in9; omega⟩)) ⟨rfl, rfl⟩
      | exact G.retB dX11_isSideNumber_17 rfl (eq_bI (Or.inr ⟨rfl, by unfold in9; omega⟩)) ⟨rfl, rfl⟩
    · refine g_iconst dX11_isSideNumber_12 ?_
      refine g_goto (tgt := 17) (by decide) dX11_isSideNumber_13 ?_
      first
      | exact G.retB dX11_isSideNumber_17 rfl (eq_bI (Or.inl ⟨rfl, by unfold in9; omega⟩)) ⟨rfl, rfl⟩
      | exact G.retB dX11_isSideNumber_17 rfl (eq_bI (Or.inr ⟨rfl, by unfold in9; omega⟩)) ⟨rfl, rfl⟩
theorem c_X11_side (w : WC) (d : Nat) (μ : Mem) {x c N : Nat} {F : Int → List Tm} {I : IdT} (h : CA w μ x F c N) (hIC : IdC μ x I) (hw : WI I) {s a b e f g k : Int} (js : i32 s) (ja : i32 a) (jb : i32 b) (je : i32 e) (jf : i32 f) (jg : i32 g) (jk : i32 k) : Con w (d + 6) mX11_side 0 0 [vP (some x), vI s, vI a, vI b, vI e, vI f, vI g, vI k] μ (fun v μ2 => v = some (vJ (sdA I s a b e f g k)) ∧ CA w μ2 x F c N ∧ IdC μ2 x I ∧ Fr (fun a => x + 71 ≤ a ∧ a ≤ x + 98) (fun _ _ => False) μ μ2) := by
  obtain ⟨yl, ys, hls, hic, e15, hbx⟩ := hIC
  have hyl : yl = x + 71 ∨ yl = x + 85 := by have := hls.2.2; omega
  have o0 := h.tps.o0
  have rl := hls.1
  have hI := h.tps.ido hyl
  have oy := hI.1
  have hT : TrI w μ yl I := ⟨hI, hic.2.1, hic.1.1, e15, hic.1.2.2.1⟩
  have r8 := hI.r8
  have a8 := hI.a8
  refine Con.of (by decide) (Nat.le_of_ble_eq_true rfl) rfl ?_
  refine g_aload_n (j := 0) rfl dX11_side_0 ?_
  refine g_getR dX11_side_1 flX11_92 rfl (by assumption) (kz := 12) rfl (by assumption) ?_
  refine g_callV dX11_side_4 mlX11_247 mvX3_isThere (ci := 3) ⟨by decide, rfl⟩ (by assumption) (c_X3_isThere w (d + 5) μ oy hic.1.1 hw.1.2) sv0 rfl (by omega) (Nat.le_of_ble_eq_true rfl) (Nat.le_refl _) (Nat.le_refl _) (fun v μ2 hR => ?_)
  obtain ⟨rfl, hm⟩ := hR
  replace hm := hm.symm
  subst hm
  refine g_ifb_eq (tgt := 19) dX11_side_7 (by decide)  (fun h7 => ?_) (fun h7 => ?_)
  · refine g_ldc2 dX11_side_19 klX11_263 (z := -9223372036854775808) rfl ?_
    exact G.retJ dX11_side_22 rfl ⟨by rw [sdA, pI_f (fun z => by obtain ⟨z1, z2, ⟨z3, z4, z5⟩, z6, z7, z8⟩ := z; first | exact h7 z1 | exact h27 z3 | exact h34 z4 | exact h42 z5 | exact h54 z6 | exact h62 z7 | exact h70 z8 | omega)], h, ⟨yl, ys, hls, hic, e15, hbx⟩, Fr.rf⟩
  · refine g_iload_n (j := 1) rfl dX11_side_10 ?_
    refine g_if_lt (tgt := 19) dX11_side_11 (by decide) (by omega) (fun h11 => ?_) (fun h11 => ?_)
    · refine g_ldc2 dX11_side_19 klX11_263 (z := -9223372036854775808) rfl ?_
      exact G.retJ dX11_side_22 rfl ⟨by rw [sdA, pI_f (fun z => by obtain ⟨z1, z2, ⟨z3, z4, z5⟩, z6, z7, z8⟩ := z; first | exact h7 z1 | exact h27 z3 | exact h34 z4 | exact h42 z5 | exact h54 z6 | exact h62 z7 | exact h70 z8 | omega)], h, ⟨yl, ys, hls, hic, e15, hbx⟩, Fr.rf⟩
    · refine g_iload_n (j := 1) rfl dX11_side_14 ?_
      refine g_iconst dX11_side_15 ?_
      refine g_icmp_le (tgt := 23) dX11_side_16 (by decide) (by omega) (by omega) (fun h16 => ?_) (fun h16 => ?_)
      · refine g_iload_n (j := 2) rfl dX11_side_23 ?_
        refine g_callS dX11_side_24 mlX11_265 msX11_isSideNumber (c_isSideNumber w (d + 5) μ ja) sk1 rfl (by omega) (Nat.le_of_ble_eq_true rfl) (Nat.le_refl _) (Nat.le_refl _) (fun v μ2 hR => ?_)
        obtain ⟨rfl, hm⟩ := hR
        replace hm := hm.symm
        subst hm
        refine g_ifb_eq (tgt := 45) dX11_side_27 (by decide)  (fun h27 => ?_) (fun h27 => ?_)
        · refine g_ldc2 dX11_side_45 klX11_263 (z := -9223372036854775808) rfl ?_
          exact G.retJ dX11_side_48 rfl ⟨by rw [sdA, pI_f (fun z => by obtain ⟨z1, z2, ⟨z3, z4, z5⟩, z6, z7, z8⟩ := z; first | exact h7 z1 | exact h27 z3 | exact h34 z4 | exact h42 z5 | exact h54 z6 | exact h62 z7 | exact h70 z8 | omega)], h, ⟨yl, ys, hls, hic, e15, hbx⟩, Fr.rf⟩
        · refine g_iload_n (j := 3) rfl dX11_side_30 ?_
          refine g_callS dX11_side_31 mlX11_265 msX11_isSideNumber (c_isSideNumber w (d + 5) μ jb) sk1 rfl (by omega) (Nat.le_of_ble_eq_true rfl) (Nat.le_refl _) (Nat.le_refl _) (fun v μ2 hR => ?_)
          obtain ⟨rfl, hm⟩ := hR
          replace hm := hm.symm
          subst hm
          refine g_ifb_eq (tgt := 45) dX11_side_34 (by decide)  (fun h34 => ?_) (fun h34 => ?_)
          · refine g_ldc2 dX11_side_45 klX11_263 (z := -9223372036854775808) rfl ?_
            exact G.retJ dX11_side_48 rfl ⟨by rw [sdA, pI_f (fun z => by obtain ⟨z1, z2, ⟨z3, z4, z5⟩, z6, z7, z8⟩ := z; first | exact h7 z1 | exact h27 z3 | exact h34 z4 | exact h42 z5 | exact h54 z6 | exact h62 z7 | exact h70 z8 | omega)], h, ⟨yl, ys, hls, hic, e15, hbx⟩, Fr.rf⟩
          · refine g_iload (i := 4) rfl dX11_side_37 ?_
            refine g_callS dX11_side_39 mlX11_265 msX11_isSideNumber (c_isSideNumber w (d + 5) μ je) sk1 rfl (by omega) (Nat.le_of_ble_eq_true rfl) (Nat.le_refl _) (Nat.le_refl _) (fun v μ2 hR => ?_)
            obtain ⟨rfl, hm⟩ := hR
            replace hm := hm.symm
            subst hm
            refine g_ifb_ne (tgt := 49) dX11_side_42 (by decide)  (fun h42 => ?_) (fun h42 => ?_)
            · refine g_iload (i := 5) rfl dX11_side_49 ?_
              refine g_callS dX11_side_51 mlX11_265 msX11_isSideNumber (c_isSideNumber w (d + 5) μ jf) sk1 rfl (by omega) (Nat.le_of_ble_eq_true rfl) (Nat.le_refl _) (Nat.le_refl _) (fun v μ2 hR => ?_)
              obtain ⟨rfl, hm⟩ := hR
              replace hm := hm.symm
              subst hm
              refine g_ifb_eq (tgt := 73) dX11_side_54 (by decide)  (fun h54 => ?_) (fun h54 => ?_)
              · refine g_ldc2 dX11_side_73 klX11_263 (z := -9223372036854775808) rfl ?_
                exact G.retJ dX11_side_76 rfl ⟨by rw [sdA, pI_f (fun z => by obtain ⟨z1, z2, ⟨z3, z4, z5⟩, z6, z7, z8⟩ := z; first | exact h7 z1 | exact h27 z3 | exact h34 z4 | exact h42 z5 | exact h54 z6 | exact h62 z7 | exact h70 z8 | omega)], h, ⟨yl, ys, hls, hic, e15, hbx⟩, Fr.rf⟩
              · refine g_iload (i := 6) rfl dX11_side_57 ?_
                refine g_callS dX11_side_59 mlX11_265 msX11_isSideNumber (c_isSideNumber w (d + 5) μ jg) sk1 rfl (by omega) (Nat.le_of_ble_eq_true rfl) (Nat.le_refl _) (Nat.le_refl _) (fun v μ2 hR => ?_)
                obtain ⟨rfl, hm⟩ := hR
                replace hm := hm.symm
                subst hm
                refine g_ifb_eq (tgt := 73) dX11_side_62 (by decide)  (fun h62 => ?_) (fun h62 => ?_)
                · refine g_ldc2 dX11_side_73 klX11_263 (z := -9223372036854775808) rfl ?_
                  exact G.retJ dX11_side_76 rfl ⟨by rw [sdA, pI_f (fun z => by obtain ⟨z1, z2, ⟨z3, z4, z5⟩, z6, z7, z8⟩ := z; first | exact h7 z1 | exact h27 z3 | exact h34 z4 | exact h42 z5 | exact h54 z6 | exact h62 z7 | exact h70 z8 | omega)], h, ⟨yl, ys, hls, hic, e15, hbx⟩, Fr.rf⟩
                · refine g_iload (i := 7) rfl dX11_side_65 ?_
                  refine g_callS dX11_side_67 mlX11_265 msX11_isSideNumber (c_isSideNumber w (d + 5) μ jk) sk1 rfl (by omega) (Nat.le_of_ble_eq_true rfl) (Nat.le_refl _) (Nat.le_refl _) (fun v μ2 hR => ?_)
                  obtain ⟨rfl, hm⟩ := hR
                  replace hm := hm.symm
                  subst hm
                  refine g_ifb_ne (tgt := 77) dX11_side_70 (by decide)  (fun h70 => ?_) (fun h70 => ?_)
                  · refine g_aload_n (j := 0) rfl dX11_side_77 ?_
                    refine g_getR dX11_side_78 flX11_92 rfl (by assumption) (kz := 12) rfl (by assumption) ?_
                    refine g_getR dX11_side_81 flX11_268 rfl (by assumption) (kz := 8) rfl (by assumption) ?_
                    refine g_astore (i := 8) dX11_side_84 (by decide) rfl ls8 ?_
                    refine g_aload (i := 8) rfl dX11_side_86 ?_
                    refine g_iconst dX11_side_88 ?_
                    refine g_iload_n (j := 2) rfl dX11_side_89 ?_
                    refine g_iast dX11_side_90 (by assumption) (by omega) (by omega) ?_
                    refine g_aload (i := 8) rfl dX11_side_91 ?_
                    refine g_iconst dX11_side_93 ?_
                    refine g_iload_n (j := 3) rfl dX11_side_94 ?_
                    refine g_iast dX11_side_95 (by simp only [IsO_sI, IsO_sL, IsO_sR, IsO_wI, IsO_wL, IsA_sI, IsA_sL, IsA_sR, IsA_wI, IsA_wL, mR_sI, mR_sL, mR_wI, mR_wL]; assumption) (by omega) (by omega) ?_
                    refine g_aload (i := 8) rfl dX11_side_96 ?_
                    refine g_iconst dX11_side_98 ?_
                    refine g_iload (i := 4) rfl dX11_side_99 ?_
                    refine g_iast dX11_side_101 (by simp only [IsO_sI, IsO_sL, IsO_sR, IsO_wI, IsO_wL, IsA_sI, IsA_sL, IsA_sR, IsA_wI, IsA_wL, mR_sI, mR_sL, mR_wI, mR_wL]; assumption) (by omega) (by omega) ?_
                    refine g_aload (i := 8) rfl dX11_side_102 ?_
                    refine g_iconst dX11_side_104 ?_
                    refine g_iload (i := 5) rfl dX11_side_105 ?_
                    refine g_iast dX11_side_107 (by simp only [IsO_sI, IsO_sL, IsO_sR, IsO_wI, IsO_wL, IsA_sI, IsA_sL, IsA_sR, IsA_wI, IsA_wL, mR_sI, mR_sL, mR_wI, mR_wL]; assumption) (by omega) (by omega) ?_
                    refine g_aload (i := 8) rfl dX11_side_108 ?_
                    refine g_iconst dX11_side_110 ?_
                    refine g_iload (i := 6) rfl dX11_side_111 ?_
                    refine g_iast dX11_side_113 (by simp only [IsO_sI, IsO_sL, IsO_sR, IsO_wI, IsO_wL, IsA_sI, IsA_sL, IsA_sR, IsA_wI, IsA_wL, mR_sI, mR_sL, mR_wI, mR_wL]; assumption) (by omega) (by omega) ?_
                    refine g_aload (i := 8) rfl dX11_side_114 ?_
                    refine g_iconst dX11_side_116 ?_
                    refine g_iload (i := 7) rfl dX11_side_117 ?_
                    refine g_iast dX11_side_119 (by simp only [IsO_sI, IsO_sL, IsO_sR, IsO_wI, IsO_wL, IsA_sI, IsA_sL, IsA_sR, IsA_wI, IsA_wL, mR_sI, mR_sL, mR_wI, mR_wL]; assumption) (by omega) (by omega) ?_
                    have q : ∀ (ν : Mem) (j v : Int), Fr (fun a => a = yl + 9) (fun _ _ => False) ν (sI ν (yl + 9) j v) := fun _ _ _ => Fr.sI rfl
                    have hf1 : Fr (fun a => a = yl + 9) (fun _ _ => False) μ (sI (sI (sI (sI (sI (sI μ (yl + 9) 0 a) (yl + 9) 1 b) (yl + 9) 2 e) (yl + 9) 3 f) (yl + 9) 4 g) (yl + 9) 5 k) := (((((q _ _ _).tr (q _ _ _)).tr (q _ _ _)).tr (q _ _ _)).tr (q _ _ _)).tr (q _ _ _)
                    have hV1 : ∀ l, 0 ≤ l → l ≤ 5 → mI (sI (sI (sI (sI (sI (sI μ (yl + 9) 0 a) (yl + 9) 1 b) (yl + 9) 2 e) (yl + 9) 3 f) (yl + 9) 4 g) (yl + 9) 5 k) (yl + 9) l = arV a b e f g k l ∧ i32 (arV a b e f g k l) := fun l z1 z2 => by
                      have el : l = 0 ∨ l = 1 ∨ l = 2 ∨ l = 3 ∨ l = 4 ∨ l = 5 := by omega
                      rcases el with rfl | rfl | rfl | rfl | rfl | rfl <;> exact ⟨by simp [mI_sI, arV], by simp only [arV]; simpa using (by assumption)⟩
                    generalize sI (sI (sI (sI (sI (sI μ (yl + 9) 0 a) (yl + 9) 1 b) (yl + 9) 2 e) (yl + 9) 3 f) (yl + 9) 4 g) (yl + 9) 5 k = μ1 at *
                    have hy1 : TyB yl 0 μ μ1 := Fr9.y hf1 hI
                    have hT1 := hT.y hy1
                    have h1 := h.fr hf1 (fun a z => by omega) (fun _ _ z => z.elim)
                    have o01 := h1.tps.o0
                    have rl1 := (hf1.R o0.2.1 (fun z => z)).trans rl
                    have oy1 := hT1.1.1
                    refine g_aload_n (j := 0) rfl dX11_side_120 ?_
                    refine g_getR dX11_side_121 flX11_92 rfl (by assumption) (kz := 12) rfl (by assumption) ?_
                    refine g_iload_n (j := 1) rfl dX11_side_124 ?_
                    refine g_callV dX11_side_125 mlX11_271 mvX3_evaluate (ci := 3) ⟨by decide, rfl⟩ (by assumption) (c_evaluate w d μ1 hw h7 (by omega) hT1 hV1) sv1 rfl (by omega) (Nat.le_of_ble_eq_true rfl) (Nat.le_refl _) (Nat.le_refl _) (fun v μ2 hR => ?_)
                    obtain ⟨rfl, hz2, hf2⟩ := hR
                    have hy2 : TyB yl 0 μ μ2 := hy1.tr hf2.y
                    have hF2 : Fr (fun a => x + 71 ≤ a ∧ a ≤ x + 98) (fun _ _ => False) μ μ2 := hy2.1.mono (fun a _ z => by omega) (fun _ _ _ z => z)
                    have h2 := h.fr hF2 (fun a z => by omega) (fun _ _ z => z.elim)
                    have hls2 : LsR μ2 x yl ys := ⟨(hF2.R o0.2.1 (fun z => z)).trans hls.1, (hF2.R o0.2.1 (fun z => z)).trans hls.2.1, hls.2.2⟩
                    have hic2 : IcS μ2 yl I.1.1 I.1.2.1 I.1.2.2 := hic.eq5 (fun a j z => hy2.2.1 a j z) (hy2.1.I hI.a7.2.1 (by omega))
                    have e0 : ∀ a j, yl + 10 ≤ a → a ≤ yl + 13 → mI μ2 a j = mI μ a j := fun a j z1 z2 => (hf2.2 a j (by omega)).trans (hf1.I (by have := hI.a12.2.1; omega) (by omega) j)
                    have hX2 : BxC μ2 yl I := fun q z1 z2 => (hbx q z1 z2).imp (fun y => (e0 _ _ (by omega) (by omega)).trans y) (fun y => ⟨(e0 _ _ (by omega) (by omega)).trans y.1, y.2.t (fun j => e0 _ j (by omega) (by omega)) (fun j => e0 _ j (by omega) (by omega)) (fun j => e0 _ j (by omega) (by omega))⟩)
                    have hIC2 : IdC μ2 x I := ⟨yl, ys, hls2, hic2, (hy2.2.1 _ _ (by omega)).trans e15, hX2⟩
                    have o02 := h2.tps.o0
                    have rl2 := hls2.1
                    have oy2 := (h2.tps.ido hyl).1
                    have eS : sdA I s a b e f g k = soR I s (arV a b e f g k) := by rw [sdA, pI_t ⟨h7, by omega, ⟨h27, h34, h42⟩, h54, h62, h70⟩]
                    refine g_ifb_eq (tgt := 141) dX11_side_128 (by decide)  (fun h128 => ?_) (fun h128 => ?_)
                    · refine g_ldc2 dX11_side_141 klX11_263 (z := -9223372036854775808) rfl ?_
                      exact G.retJ dX11_side_144 rfl ⟨by rw [eS, soR, Classical.not_not.mp h128], h2, hIC2, hF2⟩
                    · refine g_aload_n (j := 0) rfl dX11_side_131 ?_
                      refine g_getR dX11_side_132 flX11_92 rfl (by assumption) (kz := 12) rfl (by assumption) ?_
                      obtain ⟨z, hz⟩ : ∃ z, soV I s (arV a b e f g k) = some z := Option.ne_none_iff_exists'.mp h128
                      have ez := hz2 z hz
                      refine g_getJ dX11_side_135 flX11_274 rfl (by assumption) (kz := 18) rfl ?_
                      rw [ez]
                      refine g_goto (tgt := 144) (by decide) dX11_side_138 ?_
                      exact G.retJ dX11_side_144 rfl ⟨by rw [eS, soR, hz], h2, hIC2, hF2⟩
                  · refine g_ldc2 dX11_side_73 klX11_263 (z := -9223372036854775808) rfl ?_
                    exact G.retJ dX11_side_76 rfl ⟨by rw [sdA, pI_f (fun z => by obtain ⟨z1, z2, ⟨z3, z4, z5⟩, z6, z7, z8⟩ := z; first | exact h7 z1 | exact h27 z3 | exact h34 z4 | exact h42 z5 | exact h54 z6 | exact h62 z7 | exact h70 z8 | omega)], h, ⟨yl, ys, hls, hic, e15, hbx⟩, Fr.rf⟩
            · refine g_ldc2 dX11_side_45 klX11_263 (z := -9223372036854775808) rfl ?_
              exact G.retJ dX11_side_48 rfl ⟨by rw [sdA, pI_f (fun z => by obtain ⟨z1, z2, ⟨z3, z4, z5⟩, z6, z7, z8⟩ := z; first | exact h7 z1 | exact h27 z3 | exact h34 z4 | exact h42 z5 | exact h54 z6 | exact h62 z7 | exact h70 z8 | omega)], h, ⟨yl, ys, hls, hic, e15, hbx⟩, Fr.rf⟩
      · refine g_ldc2 dX11_side_19 klX11_263 (z := -9223372036854775808) rfl ?_
        exact G.retJ dX11_side_22 rfl ⟨by rw [sdA, pI_f (fun z => by obtain ⟨z1, z2, ⟨z3, z4, z5⟩, z6, z7, z8⟩ := z; first | exact h7 z1 | exact h27 z3 | exact h34 z4 | exact h42 z5 | exact h54 z6 | exact h62 z7 | exact h70 z8 | omega)], h, ⟨yl, ys, hls, hic, e15, hbx⟩, Fr.rf⟩
