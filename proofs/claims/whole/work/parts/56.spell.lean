/-! SPELL -/
theorem pw_ge {k y : Int} (hy : 0 ≤ y) : y ≤ pw k y := by
  have s1 : y ≤ y * y := by
    rcases Int.lt_or_le 0 y with h | h
    · have := Int.mul_le_mul_of_nonneg_left (show 1 ≤ y by omega) hy
      omega
    · rw [show y = 0 by omega]; decide
  have s0 := sq_nn y
  have c1 : y ≤ y * y * y := by
    have := Int.mul_le_mul s1 (show y ≤ y by omega) hy (by omega)
    omega
  have f1 : y ≤ y * y * y * y := by
    have := Int.mul_le_mul c1 (show y ≤ y by omega) hy (cu_nn hy)
    omega
  have t1 : y ≤ y * (y + 1) / 2 := by
    rw [Int.mul_add, Int.mul_one]
    omega
  unfold pw
  split
  · omega
  · split
    · exact s1
    · split
      · exact c1
      · split
        · exact f1
        · exact t1
theorem pv_ge {k f y : Int} (hf : 1 ≤ f) (hy : 0 ≤ y) : y ≤ pv k f y := by
  have h1 := pw_ge (k := k) hy
  have := Int.mul_le_mul_of_nonneg_right hf (show 0 ≤ pw k y by omega)
  unfold pv
  omega
theorem pv_6 {k f x : Int} (hf : 1 ≤ f ∧ f ≤ 99) (hx : 0 ≤ x ∧ x ≤ 10000) : 0 ≤ pv k f x ∧ pv k f x ≤ 99 * 10000000000000000 := by
  have hp : 0 ≤ pw k x ∧ pw k x ≤ 10000000000000000 := by
    have a1 := Int.mul_le_mul hx.2 hx.2 hx.1 (by omega)
    have a0 := sq_nn x
    have b1 := Int.mul_le_mul a1 hx.2 hx.1 (by omega)
    have b0 := cu_nn hx.1
    have c1 := Int.mul_le_mul b1 hx.2 hx.1 (by omega)
    have c0 := fo_nn x
    have d0 := tr_nn x
    have d1 := tr_le hx.1 hx.2
    unfold pw
    split
    · omega
    · split
      · omega
      · split
        · omega
        · split <;> omega
  unfold pv
  constructor
  · exact Int.mul_nonneg (by omega) hp.1
  · exact Int.mul_le_mul hf.2 hp.2 hp.1 (by omega)
theorem l12_greatest {w : WC} {d : Nat} {μ : Mem} {k f : Int} (hk : i32 k) (hf : 1 ≤ f ∧ f ≤ 99) : ∀ (n : Nat) (x : Int), 0 ≤ x → x ≤ 3000 → 3000 - x < n → G w (d + 1) mX12_greatest (fun v μ2 => v = some (vI (gxF k f n x)) ∧ μ2 = μ) 0 0 2 [some (vI f), some (vI k), some (vI x)] [] μ := by
  intro n
  induction n with
  | zero =>
    intro x h0 h1 h2
    omega
  | succ n ih =>
    intro x h0 h1 h2
    have hp := pv_6 (k := k) hf (x := x + 1) (by omega)
    have hg := pv_ge (k := k) hf.1 (show 0 ≤ x + 1 by omega)
    unfold gxF
    refine g_iload_n (j := 0) rfl dX12_greatest_2 ?_
    refine g_i2l (by omega) dX12_greatest_3 ?_
    refine g_iload_n (j := 1) rfl dX12_greatest_4 ?_
    refine g_iload_n (j := 2) rfl dX12_greatest_5 ?_
    refine g_iconst dX12_greatest_6 ?_
    refine g_iadd dX12_greatest_7 ?_
    refine g_i2l (by omega) dX12_greatest_8 ?_
    refine g_callS dX12_greatest_9 mlX12_97 msX12_plain (c_X12_plain w d μ (k := k) (x := x + 1) hk (by omega)) sk2 rfl (by omega) (Nat.le_of_ble_eq_true rfl) (Nat.le_refl _) (Nat.le_refl _) (fun v μ2 hR => ?_)
    obtain ⟨rfl, hm⟩ := hR
    replace hm := hm.symm
    subst hm
    refine g_lmul dX12_greatest_12 ?_
    rw [show f * pw k (x + 1) = pv k f (x + 1) from rfl]
    refine g_ldc2 dX12_greatest_13 klX12_103 (z := 3000) rfl ?_
    refine g_lif_gt (tgt := 26) dX12_greatest_16 dX12_greatest_17 (by decide) (by omega) (by omega) (fun h16 => ?_) (fun h16 => ?_)
    · refine g_iload_n (j := 2) rfl dX12_greatest_26 ?_
      exact G.retI dX12_greatest_27 rfl ⟨by rw [if_neg (by omega)], rfl⟩
    · refine g_iinc (i := 2) dX12_greatest_20 rfl (by decide) rfl ls2 ?_
      refine g_goto (tgt := 2) (by decide) dX12_greatest_23 ?_
      rw [if_pos (by omega)]
      exact ih (x + 1) (by omega) (by omega) (by omega)
theorem c_X12_greatest (w : WC) (d : Nat) (μ : Mem) {k f : Int} (hk : i32 k) (hf : 1 ≤ f ∧ f ≤ 99) : Con w (d + 1) mX12_greatest 0 0 [vI f, vI k] μ (fun v μ2 => v = some (vI (gx k f)) ∧ μ2 = μ) := by
  refine Con.of (by decide) (Nat.le_of_ble_eq_true rfl) rfl ?_
  refine g_iconst dX12_greatest_0 ?_
  refine g_istore_n (j := 2) dX12_greatest_1 (by decide) rfl ls2 ?_
  exact l12_greatest hk hf 3001 0 (by omega) (by omega) (by omega)
theorem gxF_bd (k f : Int) : ∀ (n : Nat) (x : Int), 0 ≤ x → x ≤ 3000 → 0 ≤ gxF k f n x ∧ gxF k f n x ≤ 3000
  | 0, x, h0, h1 => by unfold gxF; omega
  | n + 1, x, h0, h1 => by
    unfold gxF
    split
    · exact gxF_bd k f n (x + 1) (by omega) (by omega)
    · omega
theorem gx_bd (k f : Int) : 0 ≤ gx k f ∧ gx k f ≤ 3000 := gxF_bd k f 3001 0 (by omega) (by omega)
def kdN (k : Int) : Nat := if k = 0 then 0 else if k = 1 then 1 else if k = 2 then 2 else if k = 3 then 3 else 4
theorem kdN_lt (k : Int) : kdN k < 11 := by
  unfold kdN
  split <;> (try split) <;> (try split) <;> (try split) <;> omega
def faL (u : Tm) : List Int := if tF u = 1 then [] else nmL (tF u)
def rgL (u : Tm) : List Int := if tL u = 0 ∧ tH u = gx (tK u) (tF u) then [] else tXL 8 ++ (nmL (tL u) ++ (tXL 9 ++ nmL (tH u)))
def tmL (u : Tm) : List Int := faL u ++ (tXL (kdN (tK u)) ++ rgL u)
theorem faL_len (u : Tm) : (faL u).length ≤ 5 := by
  have := nmL_len (tF u)
  unfold faL
  split <;> simp <;> omega
theorem rgL_len (u : Tm) : (rgL u).length ≤ 22 := by
  have := nmL_len (tL u)
  have := nmL_len (tH u)
  have := tXL_small 8 (by omega)
  have := tXL_small 9 (by omega)
  unfold rgL
  split <;> simp <;> omega
theorem tmL_len (u : Tm) : (tmL u).length ≤ 33 := by
  have := faL_len u
  have := rgL_len u
  have := tXL_small (kdN (tK u)) (kdN_lt _)
  unfold tmL
  simp
  omega
def spL : List Tm → Int → List Int
  | [], _ => []
  | u :: us, t => (if 0 < t then [43] else []) ++ (tmL u ++ spL us (t + 1))
theorem FrP.Tm {w : WC} {x q : Nat} {t : Int} {u : Tm} {μ μ2 : Mem} (h : FrP x μ μ2) (hq : q + 7 ≤ x + 68) (hF : FoS w μ q) (hat : TmAt μ q t u) : TmAt μ2 q t u := by
  obtain ⟨p0, -, pa1, pa2, pa3, pa4, pa5, pa6⟩ := hF
  unfold TmAt
  rw [h.I pa1.2.1 (by omega), h.I pa2.2.1 (by omega), h.I pa3.2.1 (by omega), h.I pa4.2.1 (by omega), h.I pa5.2.1 (by omega), h.I pa6.2.1 (by omega)]
  exact hat
theorem c_kindWord (w : WC) (d : Nat) (μ : Mem) {k : Int} (hk : i32 k) : Con w d mX11_kindWord 0 0 [vI k] μ (fun v μ2 => v = some (vP (some (wK w (kdN k)))) ∧ μ2 = μ) := by
  refine Con.of (by decide) (Nat.le_of_ble_eq_true rfl) rfl ?_
  refine g_iload_n (j := 0) rfl dX11_kindWord_0 ?_
  refine g_tsw (ts := [32, 36, 40, 44]) (td := 48) dX11_kindWord_1 (by omega) rfl rfl (by decide) (fun h1 => ?_) ⟨fun h1 => ?_, fun h1 => ?_, fun h1 => ?_, fun h1 => ?_, trivial⟩
  · refine g_ldcwT dX11_kindWord_48 (n := 4) (tx := "three") (List.mem_of_getElem? (i := 4) rfl) ?_
    refine G.retP dX11_kindWord_51 rfl (Or.inl ⟨_, rfl⟩) ⟨?_, rfl⟩
    unfold kdN
    first | rw [if_pos (by omega)] | rw [if_neg (by omega), if_pos (by omega)] | rw [if_neg (by omega), if_neg (by omega), if_pos (by omega)] | rw [if_neg (by omega), if_neg (by omega), if_neg (by omega), if_pos (by omega)] | rw [if_neg (by omega), if_neg (by omega), if_neg (by omega), if_neg (by omega)]
  · refine g_ldcwT dX11_kindWord_32 (n := 0) (tx := "line") (List.mem_of_getElem? (i := 0) rfl) ?_
    refine G.retP dX11_kindWord_35 rfl (Or.inl ⟨_, rfl⟩) ⟨?_, rfl⟩
    unfold kdN
    first | rw [if_pos (by omega)] | rw [if_neg (by omega), if_pos (by omega)] | rw [if_neg (by omega), if_neg (by omega), if_pos (by omega)] | rw [if_neg (by omega), if_neg (by omega), if_neg (by omega), if_pos (by omega)] | rw [if_neg (by omega), if_neg (by omega), if_neg (by omega), if_neg (by omega)]
  · refine g_ldcwT dX11_kindWord_36 (n := 1) (tx := "square") (List.mem_of_getElem? (i := 1) rfl) ?_
    refine G.retP dX11_kindWord_39 rfl (Or.inl ⟨_, rfl⟩) ⟨?_, rfl⟩
    unfold kdN
    first | rw [if_pos (by omega)] | rw [if_neg (by omega), if_pos (by omega)] | rw [if_neg (by omega), if_neg (by omega), if_pos (by omega)] | rw [if_neg (by omega), if_neg (by omega), if_neg (by omega), if_pos (by omega)] | rw [if_neg (by omega), if_neg (by omega), if_neg (by omega), if_neg (by omega)]
  · refine g_ldcwT dX11_kindWord_40 (n := 2) (tx := "cube") (List.mem_of_getElem? (i := 2) rfl) ?_
    refine G.retP dX11_kindWord_43 rfl (Or.inl ⟨_, rfl⟩) ⟨?_, rfl⟩
    unfold kdN
    first | rw [if_pos (by omega)] | rw [if_neg (by omega), if_pos (by omega)] | rw [if_neg (by omega), if_neg (by omega), if_pos (by omega)] | rw [if_neg (by omega), if_neg (by omega), if_neg (by omega), if_pos (by omega)] | rw [if_neg (by omega), if_neg (by omega), if_neg (by omega), if_neg (by omega)]
  · refine g_ldcwT dX11_kindWord_44 (n := 3) (tx := "fourth") (List.mem_of_getElem? (i := 3) rfl) ?_
    refine G.retP dX11_kindWord_47 rfl (Or.inl ⟨_, rfl⟩) ⟨?_, rfl⟩
    unfold kdN
    first | rw [if_pos (by omega)] | rw [if_neg (by omega), if_pos (by omega)] | rw [if_neg (by omega), if_neg (by omega), if_pos (by omega)] | rw [if_neg (by omega), if_neg (by omega), if_neg (by omega), if_pos (by omega)] | rw [if_neg (by omega), if_neg (by omega), if_neg (by omega), if_neg (by omega)]
theorem c_spellTerm (w : WC) (d : Nat) (μ : Mem) {x q : Nat} {ts : List Tm} {L : List Int} (hT : TPS w μ x) (hF : FoS w μ q) (hI : FI μ q ts) (hq : q + 7 ≤ x + 68) {t : Int} {u : Tm} (h0 : 0 ≤ t) (h1 : t < ts.length) (hk : TOk u) (hat : TmAt μ q t u) (hP : PlC μ x L) (hl : L.length + 40 ≤ 2400) : Con w (d + 5) mX11_spellTerm 0 0 [vP (some x), vP (some q), vI t] μ (fun v μ2 => v = none ∧ PlC μ2 x (L ++ tmL u) ∧ FrP x μ μ2) := by
  have h5 := hI.2.1
  have hk1 := hk.1
  have hk2 := hk.2.1
  have hk3 := hk.2.2.1
  have hgx := gx_bd (tK u) (tF u)
  have hl1 := faL_len u
  have hl2 := tXL_small (kdN (tK u)) (kdN_lt _)
  have hl3 := nmL_len (tL u)
  have hl4 := tXL_small 8 (by omega)
  have hl5 := tXL_small 9 (by omega)
  obtain ⟨p0, ⟨pr1, pr2, pr3, pr4, pr5, pr6⟩, pa1, pa2, pa3, pa4, pa5, pa6⟩ := id hF
  obtain ⟨g1, g2, g3, g4, -, -⟩ := id hat
  have o0 := hT.o0
  have r10 := hT.r0_10
  have o68 := hT.o68
  have hf0 : FrP x μ μ := Fr.rf
  refine Con.of (by decide) (Nat.le_of_ble_eq_true rfl) rfl ?_
  refine g_aload_n (j := 1) rfl dX11_spellTerm_0 ?_
  refine g_getR dX11_spellTerm_1 flX11_162 rfl (by assumption) (kz := 1) rfl (by assumption) ?_
  refine g_iload_n (j := 2) rfl dX11_spellTerm_4 ?_
  refine g_iald dX11_spellTerm_5 (by assumption) (by omega) (by omega) ?_
  rw [g1]
  refine g_iconst dX11_spellTerm_6 ?_
  refine g_icmp_eq (tgt := 23) dX11_spellTerm_7 (by decide) (by omega) (by omega) (fun h7 => ?_) (fun h7 => ?_)
  · have hP1 : PlC μ x (L ++ faL u) := by rw [faL, if_pos (by omega), List.append_nil]; exact hP
    have hf1 := hf0
    have hT1 := hT
    have hat1 := hat
    have hF1 := hF
    have hI1 := hI
    have g11 := g1
    have g21 := g2
    have g31 := g3
    have g41 := g4
    refine g_aload_n (j := 0) rfl dX11_spellTerm_23 ?_
    refine g_getR dX11_spellTerm_24 flX11_81 rfl (by assumption) (kz := 10) rfl (by assumption) ?_
    refine g_aload_n (j := 1) rfl dX11_spellTerm_27 ?_
    refine g_getR dX11_spellTerm_28 flX11_165 rfl (by assumption) (kz := 2) rfl (by assumption) ?_
    refine g_iload_n (j := 2) rfl dX11_spellTerm_31 ?_
    refine g_iald dX11_spellTerm_32 (by assumption) (by omega) (by omega) ?_
    rw [g21]
    refine g_callS dX11_spellTerm_33 mlX11_340 msX11_kindWord (c_kindWord w (d + 4) _ (k := tK u) (by omega)) sk1 rfl (by omega) (Nat.le_of_ble_eq_true rfl) (Nat.le_refl _) (Nat.le_refl _) (fun v μ2 hR => ?_)
    obtain ⟨rfl, hm⟩ := hR
    replace hm := hm.symm
    subst hm
    refine g_callV dX11_spellTerm_36 mlX11_344 mvX5_putText (ci := 5) ⟨by decide, rfl⟩ (by assumption) (c_putText w d _ (kdN_lt (tK u)) hT1 hP1 (by simp; omega)) sv1 rfl (by omega) (Nat.le_of_ble_eq_true rfl) (Nat.le_refl _) (Nat.le_refl _) (fun v μ2 hR => ?_)
    obtain ⟨rfl, hP2, hfx2⟩ := hR
    have hf2 := hf1.tr hfx2
    have hT2 := hfx2.tps hT1
    have hat2 := hfx2.Tm hq hF1 hat1
    have hF2 := (hfx2.Fi hq hF1 hI1).1
    have hI2 := (hfx2.Fi hq hF1 hI1).2
    obtain ⟨p02, ⟨pr12, pr22, pr32, pr42, pr52, pr62⟩, pa12, pa22, pa32, pa42, pa52, pa62⟩ := id hF2
    obtain ⟨g12, g22, g32, g42, -, -⟩ := id hat2
    have o02 := hT2.o0
    have r102 := hT2.r0_10
    have o682 := hT2.o68
    refine g_aload_n (j := 1) rfl dX11_spellTerm_39 ?_
    refine g_getR dX11_spellTerm_40 flX11_168 rfl (by assumption) (kz := 3) rfl (by assumption) ?_
    refine g_iload_n (j := 2) rfl dX11_spellTerm_43 ?_
    refine g_iald dX11_spellTerm_44 (by assumption) (by omega) (by omega) ?_
    rw [g32]
    refine g_if_ne (tgt := 72) dX11_spellTerm_45 (by decide) (by omega) (fun h45 => ?_) (fun h45 => ?_)
    · refine g_aload_n (j := 0) rfl dX11_spellTerm_72 ?_
      refine g_getR dX11_spellTerm_73 flX11_81 rfl (by assumption) (kz := 10) rfl (by assumption) ?_
      refine g_ldcwT dX11_spellTerm_76 (n := 8) (tx := " from ") (List.mem_of_getElem? (i := 8) rfl) ?_
      refine g_callV dX11_spellTerm_79 mlX11_344 mvX5_putText (ci := 5) ⟨by decide, rfl⟩ (by assumption) (c_putText w d _ (n := 8) (by omega) hT2 hP2 (by simp; omega)) sv1 rfl (by omega) (Nat.le_of_ble_eq_true rfl) (Nat.le_refl _) (Nat.le_refl _) (fun v μ3 hR => ?_)
      obtain ⟨rfl, hP3, hfx3⟩ := hR
      have hf3 := hf2.tr hfx3
      have hT3 := hfx3.tps hT2
      have hat3 := hfx3.Tm hq hF2 hat2
      have hF3 := (hfx3.Fi hq hF2 hI2).1
      have hI3 := (hfx3.Fi hq hF2 hI2).2
      obtain ⟨p03, ⟨pr13, pr23, pr33, pr43, pr53, pr63⟩, pa13, pa23, pa33, pa43, pa53, pa63⟩ := id hF3
      obtain ⟨g13, g23, g33, g43, -, -⟩ := id hat3
      have o03 := hT3.o0
      have r103 := hT3.r0_10
      have o683 := hT3.o68
      refine g_aload_n (j := 0) rfl dX11_spellTerm_82 ?_
      refine g_getR dX11_spellTerm_83 flX11_81 rfl (by assumption) (kz := 10) rfl (by assumption) ?_
      refine g_aload_n (j := 1) rfl dX11_spellTerm_86 ?_
      refine g_getR dX11_spellTerm_87 flX11_168 rfl (by assumption) (kz := 3) rfl (by assumption) ?_
      refine g_iload_n (j := 2) rfl dX11_spellTerm_90 ?_
      refine g_iald dX11_spellTerm_91 (by assumption) (by omega) (by omega) ?_
      rw [g33]
      refine g_callV dX11_spellTerm_92 mlX11_337 mvX5_putInt (ci := 5) ⟨by decide, rfl⟩ (by assumption) (c_putInt w (d + 3) _ hT3 hP3 (n := tL u) (by omega) (by simp; omega)) sv1 rfl (by omega) (Nat.le_of_ble_eq_true rfl) (Nat.le_refl _) (Nat.le_refl _) (fun v μ4 hR => ?_)
      obtain ⟨rfl, hP4, hfx4⟩ := hR
      have hf4 := hf3.tr hfx4
      have hT4 := hfx4.tps hT3
      have hat4 := hfx4.Tm hq hF3 hat3
      have hF4 := (hfx4.Fi hq hF3 hI3).1
      have hI4 := (hfx4.Fi hq hF3 hI3).2
      obtain ⟨p04, ⟨pr14, pr24, pr34, pr44, pr54, pr64⟩, pa14, pa24, pa34, pa44, pa54, pa64⟩ := id hF4
      obtain ⟨g14, g24, g34, g44, -, -⟩ := id hat4
      have o04 := hT4.o0
      have r104 := hT4.r0_10
      have o684 := hT4.o68
      refine g_aload_n (j := 0) rfl dX11_spellTerm_95 ?_
      refine g_getR dX11_spellTerm_96 flX11_81 rfl (by assumption) (kz := 10) rfl (by assumption) ?_
      refine g_ldcwT dX11_spellTerm_99 (n := 9) (tx := " to ") (List.mem_of_getElem? (i := 9) rfl) ?_
      refine g_callV dX11_spellTerm_102 mlX11_344 mvX5_putText (ci := 5) ⟨by decide, rfl⟩ (by assumption) (c_putText w d _ (n := 9) (by omega) hT4 hP4 (by simp; omega)) sv1 rfl (by omega) (Nat.le_of_ble_eq_true rfl) (Nat.le_refl _) (Nat.le_refl _) (fun v μ5 hR => ?_)
      obtain ⟨rfl, hP5, hfx5⟩ := hR
      have hf5 := hf4.tr hfx5
      have hT5 := hfx5.tps hT4
      have hat5 := hfx5.Tm hq hF4 hat4
      have hF5 := (hfx5.Fi hq hF4 hI4).1
      have hI5 := (hfx5.Fi hq hF4 hI4).2
      obtain ⟨p05, ⟨pr15, pr25, pr35, pr45, pr55, pr65⟩, pa15, pa25, pa35, pa45, pa55, pa65⟩ := id hF5
      obtain ⟨g15, g25, g35, g45, -, -⟩ := id hat5
      have o05 := hT5.o0
      have r105 := hT5.r0_10
      have o685 := hT5.o68
      refine g_aload_n (j := 0) rfl dX11_spellTerm_105 ?_
      refine g_getR dX11_spellTerm_106 flX11_81 rfl (by assumption) (kz := 10) rfl (by assumption) ?_
      refine g_aload_n (j := 1) rfl dX11_spellTerm_109 ?_
      refine g_getR dX11_spellTerm_110 flX11_171 rfl (by assumption) (kz := 4) rfl (by assumption) ?_
      refine g_iload_n (j := 2) rfl dX11_spellTerm_113 ?_
      refine g_iald dX11_spellTerm_114 (by assumption) (by omega) (by omega) ?_
      rw [g45]
      refine g_callV dX11_spellTerm_115 mlX11_337 mvX5_putInt (ci := 5) ⟨by decide, rfl⟩ (by assumption) (c_putInt w (d + 3) _ hT5 hP5 (n := tH u) (by omega) (by simp; omega)) sv1 rfl (by omega) (Nat.le_of_ble_eq_true rfl) (Nat.le_refl _) (Nat.le_refl _) (fun v μ6 hR => ?_)
      obtain ⟨rfl, hP6, hfx6⟩ := hR
      have hf6 := hf5.tr hfx6
      first
      | (refine G.retV dX11_spellTerm_118 rfl ⟨rfl, ?_, hf6⟩
         rw [tmL, rgL, if_neg (by omega)]
         simp only [List.append_assoc] at hP6 ⊢
         exact hP6)
      | (refine G.retV dX11_spellTerm_118 rfl ⟨rfl, ?_, hf2⟩
         rw [tmL, rgL, if_pos (by omega), List.append_nil, ← List.append_assoc]
         exact hP2)
    · refine g_aload_n (j := 1) rfl dX11_spellTerm_48 ?_
      refine g_getR dX11_spellTerm_49 flX11_171 rfl (by assumption) (kz := 4) rfl (by assumption) ?_
      refine g_iload_n (j := 2) rfl dX11_spellTerm_52 ?_
      refine g_iald dX11_spellTerm_53 (by assumption) (by omega) (by omega) ?_
      rw [g42]
      refine g_aload_n (j := 1) rfl dX11_spellTerm_54 ?_
      refine g_getR dX11_spellTerm_55 flX11_165 rfl (by assumption) (kz := 2) rfl (by assumption) ?_
      refine g_iload_n (j := 2) rfl dX11_spellTerm_58 ?_
      refine g_iald dX11_spellTerm_59 (by assumption) (by omega) (by omega) ?_
      rw [g22]
      refine g_aload_n (j := 1) rfl dX11_spellTerm_60 ?_
      refine g_getR dX11_spellTerm_61 flX11_162 rfl (by assumption) (kz := 1) rfl (by assumption) ?_
      refine g_iload_n (j := 2) rfl dX11_spellTerm_64 ?_
      refine g_iald dX11_spellTerm_65 (by assumption) (by omega) (by omega) ?_
      rw [g12]
      refine g_callS dX11_spellTerm_66 mlX11_348 msX11_greatestX (c_greatestX w (d + 3) _ (k := tK u) (f := tF u) (by omega) (by omega) (fun y z1 z2 => by have := pv_6 (k := tK u) hk1 (x := y) (by omega); omega)) sk2 rfl (by omega) (Nat.le_of_ble_eq_true rfl) (Nat.le_refl _) (Nat.le_refl _) (fun v μ2 hR => ?_)
      obtain ⟨rfl, hm⟩ := hR
      replace hm := hm.symm
      subst hm
      refine g_icmp_eq (tgt := 118) dX11_spellTerm_69 (by decide) (by omega) (by omega) (fun h69 => ?_) (fun h69 => ?_)
      · first
        | (refine G.retV dX11_spellTerm_118 rfl ⟨rfl, ?_, hf6⟩
           rw [tmL, rgL, if_neg (by omega)]
           simp only [List.append_assoc] at hP6 ⊢
           exact hP6)
        | (refine G.retV dX11_spellTerm_118 rfl ⟨rfl, ?_, hf2⟩
           rw [tmL, rgL, if_pos (by omega), List.append_nil, ← List.append_assoc]
           exact hP2)
      · refine g_aload_n (j := 0) rfl dX11_spellTerm_72 ?_
        refine g_getR dX11_spellTerm_73 flX11_81 rfl (by assumption) (kz := 10) rfl (by assumption) ?_
        refine g_ldcwT dX11_spellTerm_76 (n := 8) (tx := " from ") (List.mem_of_getElem? (i := 8) rfl) ?_
        refine g_callV dX11_spellTerm_79 mlX11_344 mvX5_putText (ci := 5) ⟨by decide, rfl⟩ (by assumption) (c_putText w d _ (n := 8) (by omega) hT2 hP2 (by simp; omega)) sv1 rfl (by omega) (Nat.le_of_ble_eq_true rfl) (Nat.le_refl _) (Nat.le_refl _) (fun v μ3 hR => ?_)
        obtain ⟨rfl, hP3, hfx3⟩ := hR
        have hf3 := hf2.tr hfx3
        have hT3 := hfx3.tps hT2
        have hat3 := hfx3.Tm hq hF2 hat2
        have hF3 := (hfx3.Fi hq hF2 hI2).1
        have hI3 := (hfx3.Fi hq hF2 hI2).2
        obtain ⟨p03, ⟨pr13, pr23, pr33, pr43, pr53, pr63⟩, pa13, pa23, pa33, pa43, pa53, pa63⟩ := id hF3
        obtain ⟨g13, g23, g33, g43, -, -⟩ := id hat3
        have o03 := hT3.o0
        have r103 := hT3.r0_10
        have o683 := hT3.o68
        refine g_aload_n (j := 0) rfl dX11_spellTerm_82 ?_
        refine g_getR dX11_spellTerm_83 flX11_81 rfl (by assumption) (kz := 10) rfl (by assumption) ?_
        refine g_aload_n (j := 1) rfl dX11_spellTerm_86 ?_
        refine g_getR dX11_spellTerm_87 flX11_168 rfl (by assumption) (kz := 3) rfl (by assumption) ?_
        refine g_iload_n (j := 2) rfl dX11_spellTerm_90 ?_
        refine g_iald dX11_spellTerm_91 (by assumption) (by omega) (by omega) ?_
        rw [g33]
        refine g_callV dX11_spellTerm_92 mlX11_337 mvX5_putInt (ci := 5) ⟨by decide, rfl⟩ (by assumption) (c_putInt w (d + 3) _ hT3 hP3 (n := tL u) (by omega) (by simp; omega)) sv1 rfl (by omega) (Nat.le_of_ble_eq_true rfl) (Nat.le_refl _) (Nat.le_refl _) (fun v μ4 hR => ?_)
        obtain ⟨rfl, hP4, hfx4⟩ := hR
        have hf4 := hf3.tr hfx4
        have hT4 := hfx4.tps hT3
        have hat4 := hfx4.Tm hq hF3 hat3
        have hF4 := (hfx4.Fi hq hF3 hI3).1
        have hI4 := (hfx4.Fi hq hF3 hI3).2
        obtain ⟨p04, ⟨pr14, pr24, pr34, pr44, pr54, pr64⟩, pa14, pa24, pa34, pa44, pa54, pa64⟩ := id hF4
        obtain ⟨g14, g24, g34, g44, -, -⟩ := id hat4
        have o04 := hT4.o0
        have r104 := hT4.r0_10
        have o684 := hT4.o68
        refine g_aload_n (j := 0) rfl dX11_spellTerm_95 ?_
        refine g_getR dX11_spellTerm_96 flX11_81 rfl (by assumption) (kz := 10) rfl (by assumption) ?_
        refine g_ldcwT dX11_spellTerm_99 (n := 9) (tx := " to ") (List.mem_of_getElem? (i := 9) rfl) ?_
        refine g_callV dX11_spellTerm_102 mlX11_344 mvX5_putText (ci := 5) ⟨by decide, rfl⟩ (by assumption) (c_putText w d _ (n := 9) (by omega) hT4 hP4 (by simp; omega)) sv1 rfl (by omega) (Nat.le_of_ble_eq_true rfl) (Nat.le_refl _) (Nat.le_refl _) (fun v μ5 hR => ?_)
        obtain ⟨rfl, hP5, hfx5⟩ := hR
        have hf5 := hf4.tr hfx5
        have hT5 := hfx5.tps hT4
        have hat5 := hfx5.Tm hq hF4 hat4
        have hF5 := (hfx5.Fi hq hF4 hI4).1
        have hI5 := (hfx5.Fi hq hF4 hI4).2
        obtain ⟨p05, ⟨pr15, pr25, pr35, pr45, pr55, pr65⟩, pa15, pa25, pa35, pa45, pa55, pa65⟩ := id hF5
        obtain ⟨g15, g25, g35, g45, -, -⟩ := id hat5
        have o05 := hT5.o0
        have r105 := hT5.r0_10
        have o685 := hT5.o68
        refine g_aload_n (j := 0) rfl dX11_spellTerm_105 ?_
        refine g_getR dX11_spellTerm_106 flX11_81 rfl (by assumption) (kz := 10) rfl (by assumption) ?_
        refine g_aload_n (j := 1) rfl dX11_spellTerm_109 ?_
        refine g_getR dX11_spellTerm_110 flX11_171 rfl (by assumption) (kz := 4) rfl (by assumption) ?_
        refine g_iload_n (j := 2) rfl dX11_spellTerm_113 ?_
        refine g_iald dX11_spellTerm_114 (by assumption) (by omega) (by omega) ?_
        rw [g45]
        refine g_callV dX11_spellTerm_115 mlX11_337 mvX5_putInt (ci := 5) ⟨by decide, rfl⟩ (by assumption) (c_putInt w (d + 3) _ hT5 hP5 (n := tH u) (by omega) (by simp; omega)) sv1 rfl (by omega) (Nat.le_of_ble_eq_true rfl) (Nat.le_refl _) (Nat.le_refl _) (fun v μ6 hR => ?_)
        obtain ⟨rfl, hP6, hfx6⟩ := hR
        have hf6 := hf5.tr hfx6
        first
        | (refine G.retV dX11_spellTerm_118 rfl ⟨rfl, ?_, hf6⟩
           rw [tmL, rgL, if_neg (by omega)]
           simp only [List.append_assoc] at hP6 ⊢
           exact hP6)
        | (refine G.retV dX11_spellTerm_118 rfl ⟨rfl, ?_, hf2⟩
           rw [tmL, rgL, if_pos (by omega), List.append_nil, ← List.append_assoc]
           exact hP2)
  · refine g_aload_n (j := 0) rfl dX11_spellTerm_10 ?_
    refine g_getR dX11_spellTerm_11 flX11_81 rfl (by assumption) (kz := 10) rfl (by assumption) ?_
    refine g_aload_n (j := 1) rfl dX11_spellTerm_14 ?_
    refine g_getR dX11_spellTerm_15 flX11_162 rfl (by assumption) (kz := 1) rfl (by assumption) ?_
    refine g_iload_n (j := 2) rfl dX11_spellTerm_18 ?_
    refine g_iald dX11_spellTerm_19 (by assumption) (by omega) (by omega) ?_
    rw [g1]
    refine g_callV dX11_spellTerm_20 mlX11_337 mvX5_putInt (ci := 5) ⟨by decide, rfl⟩ (by assumption) (c_putInt w (d + 3) μ hT hP (n := tF u) (by omega) (by omega)) sv1 rfl (by omega) (Nat.le_of_ble_eq_true rfl) (Nat.le_refl _) (Nat.le_refl _) (fun v μ1 hR => ?_)
    obtain ⟨rfl, hP1, hfx1⟩ := hR
    have hP1 : PlC μ1 x (L ++ faL u) := by rw [faL, if_neg (by omega)]; exact hP1
    have hf1 := hf0.tr hfx1
    have hT1 := hfx1.tps hT
    have hat1 := hfx1.Tm hq hF hat
    have hF1 := (hfx1.Fi hq hF hI).1
    have hI1 := (hfx1.Fi hq hF hI).2
    obtain ⟨p01, ⟨pr11, pr21, pr31, pr41, pr51, pr61⟩, pa11, pa21, pa31, pa41, pa51, pa61⟩ := id hF1
    obtain ⟨g11, g21, g31, g41, -, -⟩ := id hat1
    have o01 := hT1.o0
    have r101 := hT1.r0_10
    have o681 := hT1.o68
    refine g_aload_n (j := 0) rfl dX11_spellTerm_23 ?_
    refine g_getR dX11_spellTerm_24 flX11_81 rfl (by assumption) (kz := 10) rfl (by assumption) ?_
    refine g_aload_n (j := 1) rfl dX11_spellTerm_27 ?_
    refine g_getR dX11_spellTerm_28 flX11_165 rfl (by assumption) (kz := 2) rfl (by assumption) ?_
    refine g_iload_n (j := 2) rfl dX11_spellTerm_31 ?_
    refine g_iald dX11_spellTerm_32 (by assumption) (by omega) (by omega) ?_
    rw [g21]
    refine g_callS dX11_spellTerm_33 mlX11_340 msX11_kindWord (c_kindWord w (d + 4) _ (k := tK u) (by omega)) sk1 rfl (by omega) (Nat.le_of_ble_eq_true rfl) (Nat.le_refl _) (Nat.le_refl _) (fun v μ2 hR => ?_)
    obtain ⟨rfl, hm⟩ := hR
    replace hm := hm.symm
    subst hm
    refine g_callV dX11_spellTerm_36 mlX11_344 mvX5_putText (ci := 5) ⟨by decide, rfl⟩ (by assumption) (c_putText w d _ (kdN_lt (tK u)) hT1 hP1 (by simp; omega)) sv1 rfl (by omega) (Nat.le_of_ble_eq_true rfl) (Nat.le_refl _) (Nat.le_refl _) (fun v μ2 hR => ?_)
    obtain ⟨rfl, hP2, hfx2⟩ := hR
    have hf2 := hf1.tr hfx2
    have hT2 := hfx2.tps hT1
    have hat2 := hfx2.Tm hq hF1 hat1
    have hF2 := (hfx2.Fi hq hF1 hI1).1
    have hI2 := (hfx2.Fi hq hF1 hI1).2
    obtain ⟨p02, ⟨pr12, pr22, pr32, pr42, pr52, pr62⟩, pa12, pa22, pa32, pa42, pa52, pa62⟩ := id hF2
    obtain ⟨g12, g22, g32, g42, -, -⟩ := id hat2
    have o02 := hT2.o0
    have r102 := hT2.r0_10
    have o682 := hT2.o68
    refine g_aload_n (j := 1) rfl dX11_spellTerm_39 ?_
    refine g_getR dX11_spellTerm_40 flX11_168 rfl (by assumption) (kz := 3) rfl (by assumption) ?_
    refine g_iload_n (j := 2) rfl dX11_spellTerm_43 ?_
    refine g_iald dX11_spellTerm_44 (by assumption) (by omega) (by omega) ?_
    rw [g32]
    refine g_if_ne (tgt := 72) dX11_spellTerm_45 (by decide) (by omega) (fun h45 => ?_) (fun h45 => ?_)
    · refine g_aload_n (j := 0) rfl dX11_spellTerm_72 ?_
      refine g_getR dX11_spellTerm_73 flX11_81 rfl (by assumption) (kz := 10) rfl (by assumption) ?_
      refine g_ldcwT dX11_spellTerm_76 (n := 8) (tx := " from ") (List.mem_of_getElem? (i := 8) rfl) ?_
      refine g_callV dX11_spellTerm_79 mlX11_344 mvX5_putText (ci := 5) ⟨by decide, rfl⟩ (by assumption) (c_putText w d _ (n := 8) (by omega) hT2 hP2 (by simp; omega)) sv1 rfl (by omega) (Nat.le_of_ble_eq_true rfl) (Nat.le_refl _) (Nat.le_refl _) (fun v μ3 hR => ?_)
      obtain ⟨rfl, hP3, hfx3⟩ := hR
      have hf3 := hf2.tr hfx3
      have hT3 := hfx3.tps hT2
      have hat3 := hfx3.Tm hq hF2 hat2
      have hF3 := (hfx3.Fi hq hF2 hI2).1
      have hI3 := (hfx3.Fi hq hF2 hI2).2
      obtain ⟨p03, ⟨pr13, pr23, pr33, pr43, pr53, pr63⟩, pa13, pa23, pa33, pa43, pa53, pa63⟩ := id hF3
      obtain ⟨g13, g23, g33, g43, -, -⟩ := id hat3
      have o03 := hT3.o0
      have r103 := hT3.r0_10
      have o683 := hT3.o68
      refine g_aload_n (j := 0) rfl dX11_spellTerm_82 ?_
      refine g_getR dX11_spellTerm_83 flX11_81 rfl (by assumption) (kz := 10) rfl (by assumption) ?_
      refine g_aload_n (j := 1) rfl dX11_spellTerm_86 ?_
      refine g_getR dX11_spellTerm_87 flX11_168 rfl (by assumption) (kz := 3) rfl (by assumption) ?_
      refine g_iload_n (j := 2) rfl dX11_spellTerm_90 ?_
      refine g_iald dX11_spellTerm_91 (by assumption) (by omega) (by omega) ?_
      rw [g33]
      refine g_callV dX11_spellTerm_92 mlX11_337 mvX5_putInt (ci := 5) ⟨by decide, rfl⟩ (by assumption) (c_putInt w (d + 3) _ hT3 hP3 (n := tL u) (by omega) (by simp; omega)) sv1 rfl (by omega) (Nat.le_of_ble_eq_true rfl) (Nat.le_refl _) (Nat.le_refl _) (fun v μ4 hR => ?_)
      obtain ⟨rfl, hP4, hfx4⟩ := hR
      have hf4 := hf3.tr hfx4
      have hT4 := hfx4.tps hT3
      have hat4 := hfx4.Tm hq hF3 hat3
      have hF4 := (hfx4.Fi hq hF3 hI3).1
      have hI4 := (hfx4.Fi hq hF3 hI3).2
      obtain ⟨p04, ⟨pr14, pr24, pr34, pr44, pr54, pr64⟩, pa14, pa24, pa34, pa44, pa54, pa64⟩ := id hF4
      obtain ⟨g14, g24, g34, g44, -, -⟩ := id hat4
      have o04 := hT4.o0
      have r104 := hT4.r0_10
      have o684 := hT4.o68
      refine g_aload_n (j := 0) rfl dX11_spellTerm_95 ?_
      refine g_getR dX11_spellTerm_96 flX11_81 rfl (by assumption) (kz := 10) rfl (by assumption) ?_
      refine g_ldcwT dX11_spellTerm_99 (n := 9) (tx := " to ") (List.mem_of_getElem? (i := 9) rfl) ?_
      refine g_callV dX11_spellTerm_102 mlX11_344 mvX5_putText (ci := 5) ⟨by decide, rfl⟩ (by assumption) (c_putText w d _ (n := 9) (by omega) hT4 hP4 (by simp; omega)) sv1 rfl (by omega) (Nat.le_of_ble_eq_true rfl) (Nat.le_refl _) (Nat.le_refl _) (fun v μ5 hR => ?_)
      obtain ⟨rfl, hP5, hfx5⟩ := hR
      have hf5 := hf4.tr hfx5
      have hT5 := hfx5.tps hT4
      have hat5 := hfx5.Tm hq hF4 hat4
      have hF5 := (hfx5.Fi hq hF4 hI4).1
      have hI5 := (hfx5.Fi hq hF4 hI4).2
      obtain ⟨p05, ⟨pr15, pr25, pr35, pr45, pr55, pr65⟩, pa15, pa25, pa35, pa45, pa55, pa65⟩ := id hF5
      obtain ⟨g15, g25, g35, g45, -, -⟩ := id hat5
      have o05 := hT5.o0
      have r105 := hT5.r0_10
      have o685 := hT5.o68
      refine g_aload_n (j := 0) rfl dX11_spellTerm_105 ?_
      refine g_getR dX11_spellTerm_106 flX11_81 rfl (by assumption) (kz := 10) rfl (by assumption) ?_
      refine g_aload_n (j := 1) rfl dX11_spellTerm_109 ?_
      refine g_getR dX11_spellTerm_110 flX11_171 rfl (by assumption) (kz := 4) rfl (by assumption) ?_
      refine g_iload_n (j := 2) rfl dX11_spellTerm_113 ?_
      refine g_iald dX11_spellTerm_114 (by assumption) (by omega) (by omega) ?_
      rw [g45]
      refine g_callV dX11_spellTerm_115 mlX11_337 mvX5_putInt (ci := 5) ⟨by decide, rfl⟩ (by assumption) (c_putInt w (d + 3) _ hT5 hP5 (n := tH u) (by omega) (by simp; omega)) sv1 rfl (by omega) (Nat.le_of_ble_eq_true rfl) (Nat.le_refl _) (Nat.le_refl _) (fun v μ6 hR => ?_)
      obtain ⟨rfl, hP6, hfx6⟩ := hR
      have hf6 := hf5.tr hfx6
      first
      | (refine G.retV dX11_spellTerm_118 rfl ⟨rfl, ?_, hf6⟩
         rw [tmL, rgL, if_neg (by omega)]
         simp only [List.append_assoc] at hP6 ⊢
         exact hP6)
      | (refine G.retV dX11_spellTerm_118 rfl ⟨rfl, ?_, hf2⟩
         rw [tmL, rgL, if_pos (by omega), List.append_nil, ← List.append_assoc]
         exact hP2)
    · refine g_aload_n (j := 1) rfl dX11_spellTerm_48 ?_
      refine g_getR dX11_spellTerm_49 flX11_171 rfl (by assumption) (kz := 4) rfl (by assumption) ?_
      refine g_iload_n (j := 2) rfl dX11_spellTerm_52 ?_
      refine g_iald dX11_spellTerm_53 (by assumption) (by omega) (by omega) ?_
      rw [g42]
      refine g_aload_n (j := 1) rfl dX11_spellTerm_54 ?_
      refine g_getR dX11_spellTerm_55 flX11_165 rfl (by assumption) (kz := 2) rfl (by assumption) ?_
      refine g_iload_n (j := 2) rfl dX11_spellTerm_58 ?_
      refine g_iald dX11_spellTerm_59 (by assumption) (by omega) (by omega) ?_
      rw [g22]
      refine g_aload_n (j := 1) rfl dX11_spellTerm_60 ?_
      refine g_getR dX11_spellTerm_61 flX11_162 rfl (by assumption) (kz := 1) rfl (by assumption) ?_
      refine g_iload_n (j := 2) rfl dX11_spellTerm_64 ?_
      refine g_iald dX11_spellTerm_65 (by assumption) (by omega) (by omega) ?_
      rw [g12]
      refine g_callS dX11_spellTerm_66 mlX11_348 msX11_greatestX (c_greatestX w (d + 3) _ (k := tK u) (f := tF u) (by omega) (by omega) (fun y z1 z2 => by have := pv_6 (k := tK u) hk1 (x := y) (by omega); omega)) sk2 rfl (by omega) (Nat.le_of_ble_eq_true rfl) (Nat.le_refl _) (Nat.le_refl _) (fun v μ2 hR => ?_)
      obtain ⟨rfl, hm⟩ := hR
      replace hm := hm.symm
      subst hm
      refine g_icmp_eq (tgt := 118) dX11_spellTerm_69 (by decide) (by omega) (by omega) (fun h69 => ?_) (fun h69 => ?_)
      · first
        | (refine G.retV dX11_spellTerm_118 rfl ⟨rfl, ?_, hf6⟩
           rw [tmL, rgL, if_neg (by omega)]
           simp only [List.append_assoc] at hP6 ⊢
           exact hP6)
        | (refine G.retV dX11_spellTerm_118 rfl ⟨rfl, ?_, hf2⟩
           rw [tmL, rgL, if_pos (by omega), List.append_nil, ← List.append_assoc]
           exact hP2)
      · refine g_aload_n (j := 0) rfl dX11_spellTerm_72 ?_
        refine g_getR dX11_spellTerm_73 flX11_81 rfl (by assumption) (kz := 10) rfl (by assumption) ?_
        refine g_ldcwT dX11_spellTerm_76 (n := 8) (tx := " from ") (List.mem_of_getElem? (i := 8) rfl) ?_
        refine g_callV dX11_spellTerm_79 mlX11_344 mvX5_putText (ci := 5) ⟨by decide, rfl⟩ (by assumption) (c_putText w d _ (n := 8) (by omega) hT2 hP2 (by simp; omega)) sv1 rfl (by omega) (Nat.le_of_ble_eq_true rfl) (Nat.le_refl _) (Nat.le_refl _) (fun v μ3 hR => ?_)
        obtain ⟨rfl, hP3, hfx3⟩ := hR
        have hf3 := hf2.tr hfx3
        have hT3 := hfx3.tps hT2
        have hat3 := hfx3.Tm hq hF2 hat2
        have hF3 := (hfx3.Fi hq hF2 hI2).1
        have hI3 := (hfx3.Fi hq hF2 hI2).2
        obtain ⟨p03, ⟨pr13, pr23, pr33, pr43, pr53, pr63⟩, pa13, pa23, pa33, pa43, pa53, pa63⟩ := id hF3
        obtain ⟨g13, g23, g33, g43, -, -⟩ := id hat3
        have o03 := hT3.o0
        have r103 := hT3.r0_10
        have o683 := hT3.o68
        refine g_aload_n (j := 0) rfl dX11_spellTerm_82 ?_
        refine g_getR dX11_spellTerm_83 flX11_81 rfl (by assumption) (kz := 10) rfl (by assumption) ?_
        refine g_aload_n (j := 1) rfl dX11_spellTerm_86 ?_
        refine g_getR dX11_spellTerm_87 flX11_168 rfl (by assumption) (kz := 3) rfl (by assumption) ?_
        refine g_iload_n (j := 2) rfl dX11_spellTerm_90 ?_
        refine g_iald dX11_spellTerm_91 (by assumption) (by omega) (by omega) ?_
        rw [g33]
        refine g_callV dX11_spellTerm_92 mlX11_337 mvX5_putInt (ci := 5) ⟨by decide, rfl⟩ (by assumption) (c_putInt w (d + 3) _ hT3 hP3 (n := tL u) (by omega) (by simp; omega)) sv1 rfl (by omega) (Nat.le_of_ble_eq_true rfl) (Nat.le_refl _) (Nat.le_refl _) (fun v μ4 hR => ?_)
        obtain ⟨rfl, hP4, hfx4⟩ := hR
        have hf4 := hf3.tr hfx4
        have hT4 := hfx4.tps hT3
        have hat4 := hfx4.Tm hq hF3 hat3
        have hF4 := (hfx4.Fi hq hF3 hI3).1
        have hI4 := (hfx4.Fi hq hF3 hI3).2
        obtain ⟨p04, ⟨pr14, pr24, pr34, pr44, pr54, pr64⟩, pa14, pa24, pa34, pa44, pa54, pa64⟩ := id hF4
        obtain ⟨g14, g24, g34, g44, -, -⟩ := id hat4
        have o04 := hT4.o0
        have r104 := hT4.r0_10
        have o684 := hT4.o68
        refine g_aload_n (j := 0) rfl dX11_spellTerm_95 ?_
        refine g_getR dX11_spellTerm_96 flX11_81 rfl (by assumption) (kz := 10) rfl (by assumption) ?_
        refine g_ldcwT dX11_spellTerm_99 (n := 9) (tx := " to ") (List.mem_of_getElem? (i := 9) rfl) ?_
        refine g_callV dX11_spellTerm_102 mlX11_344 mvX5_putText (ci := 5) ⟨by decide, rfl⟩ (by assumption) (c_putText w d _ (n := 9) (by omega) hT4 hP4 (by simp; omega)) sv1 rfl (by omega) (Nat.le_of_ble_eq_true rfl) (Nat.le_refl _) (Nat.le_refl _) (fun v μ5 hR => ?_)
        obtain ⟨rfl, hP5, hfx5⟩ := hR
        have hf5 := hf4.tr hfx5
        have hT5 := hfx5.tps hT4
        have hat5 := hfx5.Tm hq hF4 hat4
        have hF5 := (hfx5.Fi hq hF4 hI4).1
        have hI5 := (hfx5.Fi hq hF4 hI4).2
        obtain ⟨p05, ⟨pr15, pr25, pr35, pr45, pr55, pr65⟩, pa15, pa25, pa35, pa45, pa55, pa65⟩ := id hF5
        obtain ⟨g15, g25, g35, g45, -, -⟩ := id hat5
        have o05 := hT5.o0
        have r105 := hT5.r0_10
        have o685 := hT5.o68
        refine g_aload_n (j := 0) rfl dX11_spellTerm_105 ?_
        refine g_getR dX11_spellTerm_106 flX11_81 rfl (by assumption) (kz := 10) rfl (by assumption) ?_
        refine g_aload_n (j := 1) rfl dX11_spellTerm_109 ?_
        refine g_getR dX11_spellTerm_110 flX11_171 rfl (by assumption) (kz := 4) rfl (by assumption) ?_
        refine g_iload_n (j := 2) rfl dX11_spellTerm_113 ?_
        refine g_iald dX11_spellTerm_114 (by assumption) (by omega) (by omega) ?_
        rw [g45]
        refine g_callV dX11_spellTerm_115 mlX11_337 mvX5_putInt (ci := 5) ⟨by decide, rfl⟩ (by assumption) (c_putInt w (d + 3) _ hT5 hP5 (n := tH u) (by omega) (by simp; omega)) sv1 rfl (by omega) (Nat.le_of_ble_eq_true rfl) (Nat.le_refl _) (Nat.le_refl _) (fun v μ6 hR => ?_)
        obtain ⟨rfl, hP6, hfx6⟩ := hR
        have hf6 := hf5.tr hfx6
        first
        | (refine G.retV dX11_spellTerm_118 rfl ⟨rfl, ?_, hf6⟩
           rw [tmL, rgL, if_neg (by omega)]
           simp only [List.append_assoc] at hP6 ⊢
           exact hP6)
        | (refine G.retV dX11_spellTerm_118 rfl ⟨rfl, ?_, hf2⟩
           rw [tmL, rgL, if_pos (by omega), List.append_nil, ← List.append_assoc]
           exact hP2)
theorem TmAt_of {μ : Mem} {q : Nat} {ts : List Tm} (h : FI μ q ts) {t : Int} {u : Tm} (h0 : 0 ≤ t) (hu : ts[t.toNat]? = some u) : TmAt μ q t u := by
  have := h.2.2.2 t.toNat u hu
  rwa [show ((t.toNat : Nat) : Int) = t by omega] at this
theorem l_spell {w : WC} {d x c N : Nat} {F : Int → List Tm} {μ0 : Mem} {s : Int} (hs : 0 ≤ s ∧ s ≤ 3) : ∀ (r : Nat) (t : Int) (μ : Mem) (L : List Int), t + r = (F s).length → 0 ≤ t → CA w μ x F c N → FrP x μ0 μ → PlC μ x L → L.length ≤ 40 * t →
    G w (d + 6) mX11_spell (fun v μ2 => v = some (vI (L ++ spL ((F s).drop t.toNat) t).length) ∧ CA w μ2 x F c N ∧ PlC μ2 x (L ++ spL ((F s).drop t.toNat) t) ∧ FrP x μ0 μ2) 0 0 20 [some (vP (some x)), some (vI s), some (vI t)] [] μ := by
  intro r
  induction r with
  | zero =>
    intro t μ L ht h0 h hf hP hl
    have o0 := h.tps.o0
    have r1 := h.tps.r0_1
    have a7 := h.tps.a7
    have rf := h.tps.rf hs
    have r10 := h.tps.r0_10
    have o68 := h.tps.o68
    have ec := (h.fm hs).1
    have of := (h.tps.fs hs).1
    have h5 := h.l5 hs
    have hd : (F s).drop t.toNat = [] := List.drop_eq_nil_of_le (by omega)
    rw [hd]
    simp only [spL, List.append_nil]
    refine g_iload_n (j := 2) rfl dX11_spell_20 ?_
    refine g_aload_n (j := 0) rfl dX11_spell_21 ?_
    refine g_getR dX11_spell_22 flX11_18 rfl (by assumption) (kz := 1) rfl (by assumption) ?_
    refine g_iload_n (j := 1) rfl dX11_spell_25 ?_
    refine g_aald dX11_spell_26 (by assumption) (by omega) (by omega) (by omega) (by assumption) ?_
    refine g_getI dX11_spell_27 flX11_125 rfl (by assumption) (kz := 0) rfl ?_
    refine g_icmp_ge (tgt := 63) dX11_spell_30 (by decide) (by omega) (by omega) (fun h30 => ?_) (fun h30 => ?_)
    · refine g_aload_n (j := 0) rfl dX11_spell_63 ?_
      refine g_getR dX11_spell_64 flX11_81 rfl (by assumption) (kz := 10) rfl (by assumption) ?_
      refine g_getI dX11_spell_67 flX11_278 rfl (by assumption) (kz := 1) rfl ?_
      rw [hP.1]
      exact G.retI dX11_spell_70 rfl ⟨rfl, h, hP, hf⟩
    · omega
  | succ r ih =>
    intro t μ L ht h0 h hf hP hl
    have o0 := h.tps.o0
    have r1 := h.tps.r0_1
    have a7 := h.tps.a7
    have rf := h.tps.rf hs
    have r10 := h.tps.r0_10
    have o68 := h.tps.o68
    have ec := (h.fm hs).1
    have of := (h.tps.fs hs).1
    have h5 := h.l5 hs
    have hq := fA_bd x hs
    obtain ⟨u, hu, hku, hat⟩ := (h.fm hs).at (t := t) h0 (by omega)
    have hd := drop_at h0 (by omega) hu
    have htl := tmL_len u
    have ht1 : (t + 1).toNat = t.toNat + 1 := by omega
    rw [hd, spL]
    refine g_iload_n (j := 2) rfl dX11_spell_20 ?_
    refine g_aload_n (j := 0) rfl dX11_spell_21 ?_
    refine g_getR dX11_spell_22 flX11_18 rfl (by assumption) (kz := 1) rfl (by assumption) ?_
    refine g_iload_n (j := 1) rfl dX11_spell_25 ?_
    refine g_aald dX11_spell_26 (by assumption) (by omega) (by omega) (by omega) (by assumption) ?_
    refine g_getI dX11_spell_27 flX11_125 rfl (by assumption) (kz := 0) rfl ?_
    refine g_icmp_ge (tgt := 63) dX11_spell_30 (by decide) (by omega) (by omega) (fun h30 => ?_) (fun h30 => ?_)
    · omega
    · refine g_iload_n (j := 2) rfl dX11_spell_33 ?_
      refine g_if_le (tgt := 46) dX11_spell_34 (by decide) (by omega) (fun h34 => ?_) (fun h34 => ?_)
      · have hP1 : PlC μ x (L ++ (if 0 < t then [43] else [])) := by rw [if_neg (by omega), List.append_nil]; exact hP
        have h1 := h
        have hf1 := hf
        have rf1 := rf
        have hl1 : (L ++ (if 0 < t then [43] else [])).length ≤ 40 * t + 1 := by rw [if_neg (by omega), List.append_nil]; omega
        refine g_aload_n (j := 0) rfl dX11_spell_46 ?_
        refine g_aload_n (j := 0) rfl dX11_spell_47 ?_
        refine g_getR dX11_spell_48 flX11_18 rfl (by assumption) (kz := 1) rfl (by assumption) ?_
        refine g_iload_n (j := 1) rfl dX11_spell_51 ?_
        refine g_aald dX11_spell_52 (by assumption) (by omega) (by omega) (by omega) (by assumption) ?_
        refine g_iload_n (j := 2) rfl dX11_spell_53 ?_
        refine g_callV dX11_spell_54 mlX11_285 mvX11_spellTerm (ci := 11) ⟨by decide, rfl⟩ (by assumption) (c_spellTerm w d _ h1.tps (h1.tps.fs hs) (h1.fm hs) (by omega) (t := t) h0 (by omega) hku (TmAt_of (h1.fm hs) h0 hu) hP1 (by omega)) sv2 rfl (by omega) (Nat.le_of_ble_eq_true rfl) (Nat.le_refl _) (Nat.le_refl _) (fun v μ2 hR => ?_)
        obtain ⟨rfl, hP2, hfx2⟩ := hR
        have h2 := hfx2.ca h1
        refine g_iinc (i := 2) dX11_spell_57 rfl (by decide) rfl ls2 ?_
        refine g_goto (tgt := 20) (by decide) dX11_spell_60 ?_
        refine G.post (fun v μ3 hq => ?_) (ih (t + 1) μ2 _ (by omega) (by omega) h2 (hf1.tr hfx2) hP2 (by rw [List.length_append]; omega))
        rw [List.append_assoc, List.append_assoc] at hq
        exact hq
      · refine g_aload_n (j := 0) rfl dX11_spell_37 ?_
        refine g_getR dX11_spell_38 flX11_81 rfl (by assumption) (kz := 10) rfl (by assumption) ?_
        refine g_bipush dX11_spell_41 (by omega) ?_
        refine g_callV dX11_spell_43 mlX11_281 mvX5_putSign (ci := 5) ⟨by decide, rfl⟩ (by assumption) (c_putSign w (d + 5) μ h.tps hP (c := 43) (by omega) (by omega)) sv1 rfl (by omega) (Nat.le_of_ble_eq_true rfl) (Nat.le_refl _) (Nat.le_refl _) (fun v μ1 hR => ?_)
        obtain ⟨rfl, hP1, hfx⟩ := hR
        replace hP1 : PlC μ1 x (L ++ (if 0 < t then [43] else [])) := by rw [if_pos (by omega)]; exact hP1
        have h1 := hfx.ca h
        have hf1 := hf.tr hfx
        have o01 := h1.tps.o0
        have r11 := h1.tps.r0_1
        have a71 := h1.tps.a7
        have rf1 := h1.tps.rf hs
        have hl1 : (L ++ (if 0 < t then [43] else [])).length ≤ 40 * t + 1 := by rw [if_pos (by omega)]; simp; omega
        refine g_aload_n (j := 0) rfl dX11_spell_46 ?_
        refine g_aload_n (j := 0) rfl dX11_spell_47 ?_
        refine g_getR dX11_spell_48 flX11_18 rfl (by assumption) (kz := 1) rfl (by assumption) ?_
        refine g_iload_n (j := 1) rfl dX11_spell_51 ?_
        refine g_aald dX11_spell_52 (by assumption) (by omega) (by omega) (by omega) (by assumption) ?_
        refine g_iload_n (j := 2) rfl dX11_spell_53 ?_
        refine g_callV dX11_spell_54 mlX11_285 mvX11_spellTerm (ci := 11) ⟨by decide, rfl⟩ (by assumption) (c_spellTerm w d _ h1.tps (h1.tps.fs hs) (h1.fm hs) (by omega) (t := t) h0 (by omega) hku (TmAt_of (h1.fm hs) h0 hu) hP1 (by omega)) sv2 rfl (by omega) (Nat.le_of_ble_eq_true rfl) (Nat.le_refl _) (Nat.le_refl _) (fun v μ2 hR => ?_)
        obtain ⟨rfl, hP2, hfx2⟩ := hR
        have h2 := hfx2.ca h1
        refine g_iinc (i := 2) dX11_spell_57 rfl (by decide) rfl ls2 ?_
        refine g_goto (tgt := 20) (by decide) dX11_spell_60 ?_
        refine G.post (fun v μ3 hq => ?_) (ih (t + 1) μ2 _ (by omega) (by omega) h2 (hf1.tr hfx2) hP2 (by rw [List.length_append]; omega))
        rw [List.append_assoc, List.append_assoc] at hq
        exact hq
theorem c_X11_spell (w : WC) (d : Nat) (μ : Mem) {x c N : Nat} {F : Int → List Tm} (h : CA w μ x F c N) {s : Int} (hs : i32 s) : Con w (d + 6) mX11_spell 0 0 [vP (some x), vI s] μ (fun v μ2 => (HasT F s ∧ v = some (vI (spL (F s) 0).length) ∧ CA w μ2 x F c N ∧ PlC μ2 x (spL (F s) 0) ∧ FrP x μ μ2) ∨ (¬ HasT F s ∧ v = some (vI (-1)) ∧ μ2 = μ)) := by
  have o0 := h.tps.o0
  have r10 := h.tps.r0_10
  have o68 := h.tps.o68
  refine Con.of (by decide) (Nat.le_of_ble_eq_true rfl) rfl ?_
  refine g_aload_n (j := 0) rfl dX11_spell_0 ?_
  refine g_iload_n (j := 1) rfl dX11_spell_1 ?_
  refine g_callV dX11_spell_2 mlX11_128 mvX11_hasTerms (ci := 11) ⟨by decide, rfl⟩ (by assumption) (c_hasTerms w (d + 4) μ h hs) sv1 rfl (by omega) (Nat.le_of_ble_eq_true rfl) (Nat.le_refl _) (Nat.le_refl _) (fun v μ2 hR => ?_)
  obtain ⟨rfl, hm⟩ := hR
  replace hm := hm.symm
  subst hm
  refine g_ifb_ne (tgt := 10) dX11_spell_5 (by decide)  (fun h5 => ?_) (fun h5 => ?_)
  · refine g_aload_n (j := 0) rfl dX11_spell_10 ?_
    refine g_getR dX11_spell_11 flX11_81 rfl (by assumption) (kz := 10) rfl (by assumption) ?_
    refine g_iconst dX11_spell_14 ?_
    refine g_putI dX11_spell_15 fpX11_278 rfl rfl rfl (by assumption) (kz := 1) rfl ?_
    refine g_iconst dX11_spell_18 ?_
    refine g_istore_n (j := 2) dX11_spell_19 (by decide) rfl ls2 ?_
    have hf1 : FrP x μ (sI μ (x + 68) 1 0) := Fr.sI (Or.inl rfl)
    have hP1 : PlC (sI μ (x + 68) 1 0) x [] := ⟨by rw [mI_sI, if_pos ⟨rfl, rfl⟩]; rfl, by simp, fun i v z => by simp at z⟩
    refine G.post (fun v μ3 hq => ?_) (l_spell (d := d) (μ0 := μ) h5.1 (F s).length 0 _ [] (by omega) (by omega) (hf1.ca h) hf1 hP1 (by simp))
    exact Or.inl ⟨h5, hq.1, hq.2.1, hq.2.2.1, hq.2.2.2⟩
  · refine g_iconst dX11_spell_8 ?_
    exact G.retI dX11_spell_9 rfl (Or.inr ⟨h5, rfl, rfl⟩)
theorem c_saysKind (w : WC) (d : Nat) (μ : Mem) {m : Nat} {L : List Int} {k : Int} (hM : MoS w μ m) (hk : i32 k) (hP : PlM μ m L) (hl : L.length + 6 ≤ 2400) : Con w (d + 5) mX12_saysKind 0 0 [vP (some m), vI k] μ (fun v μ2 => v = none ∧ PlM μ2 m (L ++ tXL (kdN k)) ∧ FrQ m μ μ2) := by
  have o0 := hM.o
  refine Con.of (by decide) (Nat.le_of_ble_eq_true rfl) rfl ?_
  refine g_iload_n (j := 1) rfl dX12_saysKind_0 ?_
  refine g_tsw (ts := [32, 41, 50, 59]) (td := 68) dX12_saysKind_1 (by omega) rfl rfl (by decide) (fun h1 => ?_) ⟨fun h1 => ?_, fun h1 => ?_, fun h1 => ?_, fun h1 => ?_, trivial⟩
  · refine g_aload_n (j := 0) rfl dX12_saysKind_68 ?_
    refine g_ldcT dX12_saysKind_69 (n := 4) (tx := "three") (List.mem_of_getElem? (i := 15) rfl) ?_
    refine g_callV dX12_saysKind_71 mlX12_448 mvX12_saysWord (ci := 12) ⟨by decide, rfl⟩ (by assumption) (c_saysWord w d μ (n := 4) (by omega) hM hP hl) sv1 rfl (by omega) (Nat.le_of_ble_eq_true rfl) (Nat.le_refl _) (Nat.le_refl _) (fun v μ2 hR => ?_)
    obtain ⟨rfl, hP2, hf2⟩ := hR
    refine G.retV dX12_saysKind_74 rfl ⟨rfl, ?_, hf2⟩
    unfold kdN
    first | rw [if_pos (by omega)] | rw [if_neg (by omega), if_pos (by omega)] | rw [if_neg (by omega), if_neg (by omega), if_pos (by omega)] | rw [if_neg (by omega), if_neg (by omega), if_neg (by omega), if_pos (by omega)] | rw [if_neg (by omega), if_neg (by omega), if_neg (by omega), if_neg (by omega)]
    exact hP2
  · refine g_aload_n (j := 0) rfl dX12_saysKind_32 ?_
    refine g_ldcT dX12_saysKind_33 (n := 0) (tx := "line") (List.mem_of_getElem? (i := 11) rfl) ?_
    refine g_callV dX12_saysKind_35 mlX12_448 mvX12_saysWord (ci := 12) ⟨by decide, rfl⟩ (by assumption) (c_saysWord w d μ (n := 0) (by omega) hM hP hl) sv1 rfl (by omega) (Nat.le_of_ble_eq_true rfl) (Nat.le_refl _) (Nat.le_refl _) (fun v μ2 hR => ?_)
    obtain ⟨rfl, hP2, hf2⟩ := hR
    refine g_goto (tgt := 74) (by decide) dX12_saysKind_38 ?_
    refine G.retV dX12_saysKind_74 rfl ⟨rfl, ?_, hf2⟩
    unfold kdN
    first | rw [if_pos (by omega)] | rw [if_neg (by omega), if_pos (by omega)] | rw [if_neg (by omega), if_neg (by omega), if_pos (by omega)] | rw [if_neg (by omega), if_neg (by omega), if_neg (by omega), if_pos (by omega)] | rw [if_neg (by omega), if_neg (by omega), if_neg (by omega), if_neg (by omega)]
    exact hP2
  · refine g_aload_n (j := 0) rfl dX12_saysKind_41 ?_
    refine g_ldcT dX12_saysKind_42 (n := 1) (tx := "square") (List.mem_of_getElem? (i := 12) rfl) ?_
    refine g_callV dX12_saysKind_44 mlX12_448 mvX12_saysWord (ci := 12) ⟨by decide, rfl⟩ (by assumption) (c_saysWord w d μ (n := 1) (by omega) hM hP hl) sv1 rfl (by omega) (Nat.le_of_ble_eq_true rfl) (Nat.le_refl _) (Nat.le_refl _) (fun v μ2 hR => ?_)
    obtain ⟨rfl, hP2, hf2⟩ := hR
    refine g_goto (tgt := 74) (by decide) dX12_saysKind_47 ?_
    refine G.retV dX12_saysKind_74 rfl ⟨rfl, ?_, hf2⟩
    unfold kdN
    first | rw [if_pos (by omega)] | rw [if_neg (by omega), if_pos (by omega)] | rw [if_neg (by omega), if_neg (by omega), if_pos (by omega)] | rw [if_neg (by omega), if_neg (by omega), if_neg (by omega), if_pos (by omega)] | rw [if_neg (by omega), if_neg (by omega), if_neg (by omega), if_neg (by omega)]
    exact hP2
  · refine g_aload_n (j := 0) rfl dX12_saysKind_50 ?_
    refine g_ldcT dX12_saysKind_51 (n := 2) (tx := "cube") (List.mem_of_getElem? (i := 13) rfl) ?_
    refine g_callV dX12_saysKind_53 mlX12_448 mvX12_saysWord (ci := 12) ⟨by decide, rfl⟩ (by assumption) (c_saysWord w d μ (n := 2) (by omega) hM hP hl) sv1 rfl (by omega) (Nat.le_of_ble_eq_true rfl) (Nat.le_refl _) (Nat.le_refl _) (fun v μ2 hR => ?_)
    obtain ⟨rfl, hP2, hf2⟩ := hR
    refine g_goto (tgt := 74) (by decide) dX12_saysKind_56 ?_
    refine G.retV dX12_saysKind_74 rfl ⟨rfl, ?_, hf2⟩
    unfold kdN
    first | rw [if_pos (by omega)] | rw [if_neg (by omega), if_pos (by omega)] | rw [if_neg (by omega), if_neg (by omega), if_pos (by omega)] | rw [if_neg (by omega), if_neg (by omega), if_neg (by omega), if_pos (by omega)] | rw [if_neg (by omega), if_neg (by omega), if_neg (by omega), if_neg (by omega)]
    exact hP2
  · refine g_aload_n (j := 0) rfl dX12_saysKind_59 ?_
    refine g_ldcT dX12_saysKind_60 (n := 3) (tx := "fourth") (List.mem_of_getElem? (i := 14) rfl) ?_
    refine g_callV dX12_saysKind_62 mlX12_448 mvX12_saysWord (ci := 12) ⟨by decide, rfl⟩ (by assumption) (c_saysWord w d μ (n := 3) (by omega) hM hP hl) sv1 rfl (by omega) (Nat.le_of_ble_eq_true rfl) (Nat.le_refl _) (Nat.le_refl _) (fun v μ2 hR => ?_)
    obtain ⟨rfl, hP2, hf2⟩ := hR
    refine g_goto (tgt := 74) (by decide) dX12_saysKind_65 ?_
    refine G.retV dX12_saysKind_74 rfl ⟨rfl, ?_, hf2⟩
    unfold kdN
    first | rw [if_pos (by omega)] | rw [if_neg (by omega), if_pos (by omega)] | rw [if_neg (by omega), if_neg (by omega), if_pos (by omega)] | rw [if_neg (by omega), if_neg (by omega), if_neg (by omega), if_pos (by omega)] | rw [if_neg (by omega), if_neg (by omega), if_neg (by omega), if_neg (by omega)]
    exact hP2
theorem mfi_at {μ : Mem} {m : Nat} {s : Int} {ts : List Tm} (h : MFI μ m s ts) {t : Int} {u : Tm} (h0 : 0 ≤ t) (hu : ts[t.toNat]? = some u) : 0 ≤ t ∧ t < ts.length ∧ TOk u ∧ mI μ (m + 2) (4 * (5 * s + t) + 0) = tF u ∧ mI μ (m + 2) (4 * (5 * s + t) + 1) = tK u ∧ mI μ (m + 2) (4 * (5 * s + t) + 2) = tL u ∧ mI μ (m + 2) (4 * (5 * s + t) + 3) = tH u := by
  have hl : t.toNat < ts.length := by
    rcases Nat.lt_or_ge t.toNat ts.length with z | z
    · exact z
    · rw [List.getElem?_eq_none z] at hu; cases hu
  obtain ⟨v, hv, q⟩ := h.at h0 (by omega)
  cases hu.symm.trans hv
  exact ⟨h0, by omega, q⟩
theorem l12_spell {w : WC} {d m : Nat} {F : Int → List Tm} {μ0 : Mem} {s : Int} (hs : 0 ≤ s ∧ s ≤ 3) : ∀ (r : Nat) (t : Int) (μ : Mem) (L : List Int) (x3 : Option AV), t + r = (F s).length → 0 ≤ t → MA w μ m F → FrQ m μ0 μ → PlM μ m L → L.length ≤ 40 * t →
    G w (d + 6) mX12_spell (fun v μ2 => v = some (vI (L ++ spL ((F s).drop t.toNat) t).length) ∧ MA w μ2 m F ∧ PlM μ2 m (L ++ spL ((F s).drop t.toNat) t) ∧ FrQ m μ0 μ2) 0 0 17 [some (vP (some m)), some (vI s), some (vI t), x3] [] μ := by
  intro r
  induction r with
  | zero =>
    intro t μ L x3 ht h0 hA hf hP hl
    have o0 := hA.o
    have r0 := hA.1.r0
    have a0 := hA.1.a0
    have ec := (hA.2.1 s hs).1
    have h5 := hA.l5 hs
    have hd : (F s).drop t.toNat = [] := List.drop_eq_nil_of_le (by omega)
    rw [hd]
    simp only [spL, List.append_nil]
    refine g_iload_n (j := 2) rfl dX12_spell_17 ?_
    refine g_aload_n (j := 0) rfl dX12_spell_18 ?_
    refine g_getR dX12_spell_19 flX12_9 rfl (by assumption) (kz := 0) rfl (by assumption) ?_
    refine g_iload_n (j := 1) rfl dX12_spell_22 ?_
    refine g_iald dX12_spell_23 (by assumption) (by omega) (by omega) ?_
    refine g_icmp_ge (tgt := 142) dX12_spell_24 (by decide) (by omega) (by omega) (fun h24 => ?_) (fun h24 => ?_)
    · refine g_aload_n (j := 0) rfl dX12_spell_142 ?_
      refine g_getI dX12_spell_143 flX12_442 rfl (by assumption) (kz := 49) rfl ?_
      rw [hP.1]
      exact G.retI dX12_spell_146 rfl ⟨rfl, hA, hP, hf⟩
    · omega
  | succ r ih =>
    intro t μ L x3 ht h0 hA hf hP hl
    have o0 := hA.o
    have r0 := hA.1.r0
    have a0 := hA.1.a0
    have ec := (hA.2.1 s hs).1
    have h5 := hA.l5 hs
    obtain ⟨u, hu, hk, e0, e1, e2, e3⟩ := (hA.2.1 s hs).at (t := t) h0 (by omega)
    have hd := drop_at h0 (by omega) hu
    have htl := tmL_len u
    have ht1 : (t + 1).toNat = t.toNat + 1 := by omega
    have hk1 := hk.1
    have hk2 := hk.2.1
    have hk3 := hk.2.2.1
    have hgx := gx_bd (tK u) (tF u)
    have hl1 := faL_len u
    have hl2 := tXL_small (kdN (tK u)) (kdN_lt _)
    have hl3 := nmL_len (tL u)
    have hl4 := tXL_small 8 (by omega)
    have hl5 := tXL_small 9 (by omega)
    rw [hd, spL]
    obtain ⟨pl, hpl⟩ : ∃ pl : List Int, pl = if 0 < t then [43] else [] := ⟨_, rfl⟩
    have hpl1 : pl.length ≤ 1 := by rw [hpl]; split <;> simp
    rw [← hpl]
    refine g_iload_n (j := 2) rfl dX12_spell_17 ?_
    refine g_aload_n (j := 0) rfl dX12_spell_18 ?_
    refine g_getR dX12_spell_19 flX12_9 rfl (by assumption) (kz := 0) rfl (by assumption) ?_
    refine g_iload_n (j := 1) rfl dX12_spell_22 ?_
    refine g_iald dX12_spell_23 (by assumption) (by omega) (by omega) ?_
    refine g_icmp_ge (tgt := 142) dX12_spell_24 (by decide) (by omega) (by omega) (fun h24 => ?_) (fun h24 => ?_)
    · omega
    · refine g_iload_n (j := 2) rfl dX12_spell_27 ?_
      refine g_if_le (tgt := 37) dX12_spell_28 (by decide) (by omega) (fun h28 => ?_) (fun h28 => ?_)
      · have hP1 : PlM μ m (L ++ pl) := by rw [hpl, if_neg (by omega), List.append_nil]; exact hP
        have hA1 := hA
        have hf1 := hf
        have e01 := e0
        have e11 := e1
        refine g_aload_n (j := 0) rfl dX12_spell_37 ?_
        refine g_iload_n (j := 1) rfl dX12_spell_38 ?_
        refine g_iload_n (j := 2) rfl dX12_spell_39 ?_
        refine g_iconst dX12_spell_40 ?_
        refine g_callV dX12_spell_41 mlX12_93 mvX12_of (ci := 12) ⟨by decide, rfl⟩ (by assumption) (c_X12_of w (d + 5) _ hA1.1 (s := s) (i := t) (k := 0) (by omega) (by omega) (by omega)) sv3 rfl (by omega) (Nat.le_of_ble_eq_true rfl) (Nat.le_refl _) (Nat.le_refl _) (fun v μ2 hR => ?_)
        obtain ⟨rfl, hm⟩ := hR
        replace hm := hm.symm
        subst hm
        rw [e01]
        refine g_istore_n (j := 3) dX12_spell_44 (by decide) rfl ls3 ?_
        refine g_iload_n (j := 3) rfl dX12_spell_45 ?_
        refine g_iconst dX12_spell_46 ?_
        refine g_icmp_eq (tgt := 55) dX12_spell_47 (by decide) (by omega) (by omega) (fun h47 => ?_) (fun h47 => ?_)
        · have e0f : L ++ pl = (L ++ pl) ++ faL u := by rw [faL, if_pos (by omega), List.append_nil]
          have hP2 := hP1
          rw [e0f] at hP2
          have hA2 := hA1
          have hf2 := hf1
          have e02 := e01
          have e12 := e11
          refine g_aload_n (j := 0) rfl dX12_spell_55 ?_
          refine g_aload_n (j := 0) rfl dX12_spell_56 ?_
          refine g_iload_n (j := 1) rfl dX12_spell_57 ?_
          refine g_iload_n (j := 2) rfl dX12_spell_58 ?_
          refine g_iconst dX12_spell_59 ?_
          refine g_callV dX12_spell_60 mlX12_93 mvX12_of (ci := 12) ⟨by decide, rfl⟩ (by assumption) (c_X12_of w (d + 5) _ hA2.1 (s := s) (i := t) (k := 1) (by omega) (by omega) (by omega)) sv3 rfl (by omega) (Nat.le_of_ble_eq_true rfl) (Nat.le_refl _) (Nat.le_refl _) (fun v μ2 hR => ?_)
          obtain ⟨rfl, hm⟩ := hR
          replace hm := hm.symm
          subst hm
          rw [e12]
          refine g_callV dX12_spell_63 mlX12_455 mvX12_saysKind (ci := 12) ⟨by decide, rfl⟩ (by assumption) (c_saysKind w d _ hA2.1 (k := tK u) (by omega) hP2 (by simp; omega)) sv1 rfl (by omega) (Nat.le_of_ble_eq_true rfl) (Nat.le_refl _) (Nat.le_refl _) (fun v μ3 hR => ?_)
          obtain ⟨rfl, hP3, hfx3⟩ := hR
          have hf3 := FrM.tr hf2 hfx3
          have hA3 := FrQ.MA hfx3 hA2
          have o03 := hA3.o
          obtain ⟨-, -, -, e03, e13, e23, e33⟩ := mfi_at (hA3.2.1 s hs) h0 hu
          refine g_aload_n (j := 0) rfl dX12_spell_66 ?_
          refine g_iload_n (j := 1) rfl dX12_spell_67 ?_
          refine g_iload_n (j := 2) rfl dX12_spell_68 ?_
          refine g_iconst dX12_spell_69 ?_
          refine g_callV dX12_spell_70 mlX12_93 mvX12_of (ci := 12) ⟨by decide, rfl⟩ (by assumption) (c_X12_of w (d + 5) _ hA3.1 (s := s) (i := t) (k := 2) (by omega) (by omega) (by omega)) sv3 rfl (by omega) (Nat.le_of_ble_eq_true rfl) (Nat.le_refl _) (Nat.le_refl _) (fun v μ2 hR => ?_)
          obtain ⟨rfl, hm⟩ := hR
          replace hm := hm.symm
          subst hm
          rw [e23]
          refine g_if_ne (tgt := 100) dX12_spell_73 (by decide) (by omega) (fun h73 => ?_) (fun h73 => ?_)
          · refine g_aload_n (j := 0) rfl dX12_spell_100 ?_
            refine g_ldcwT dX12_spell_101 (n := 8) (tx := " from ") (List.mem_of_getElem? (i := 19) rfl) ?_
            refine g_callV dX12_spell_104 mlX12_448 mvX12_saysWord (ci := 12) ⟨by decide, rfl⟩ (by assumption) (c_saysWord w (d + 1) _ (n := 8) (by omega) hA3.1 hP3 (by simp; omega)) sv1 rfl (by omega) (Nat.le_of_ble_eq_true rfl) (Nat.le_refl _) (Nat.le_refl _) (fun v μ4 hR => ?_)
            obtain ⟨rfl, hP4, hfx4⟩ := hR
            have hf4 := FrM.tr hf3 hfx4
            have hA4 := FrQ.MA hfx4 hA3
            have o04 := hA4.o
            obtain ⟨-, -, -, e04, e14, e24, e34⟩ := mfi_at (hA4.2.1 s hs) h0 hu
            refine g_aload_n (j := 0) rfl dX12_spell_107 ?_
            refine g_aload_n (j := 0) rfl dX12_spell_108 ?_
            refine g_iload_n (j := 1) rfl dX12_spell_109 ?_
            refine g_iload_n (j := 2) rfl dX12_spell_110 ?_
            refine g_iconst dX12_spell_111 ?_
            refine g_callV dX12_spell_112 mlX12_93 mvX12_of (ci := 12) ⟨by decide, rfl⟩ (by assumption) (c_X12_of w (d + 5) _ hA4.1 (s := s) (i := t) (k := 2) (by omega) (by omega) (by omega)) sv3 rfl (by omega) (Nat.le_of_ble_eq_true rfl) (Nat.le_refl _) (Nat.le_refl _) (fun v μ2 hR => ?_)
            obtain ⟨rfl, hm⟩ := hR
            replace hm := hm.symm
            subst hm
            rw [e24]
            refine g_callV dX12_spell_115 mlX12_452 mvX12_saysNumber (ci := 12) ⟨by decide, rfl⟩ (by assumption) (c_saysNumber w (d + 4) _ hA4.1 hP4 (n := tL u) (by omega) (by simp; omega)) sv1 rfl (by omega) (Nat.le_of_ble_eq_true rfl) (Nat.le_refl _) (Nat.le_refl _) (fun v μ5 hR => ?_)
            obtain ⟨rfl, hP5, hfx5⟩ := hR
            have hf5 := FrM.tr hf4 hfx5
            have hA5 := FrQ.MA hfx5 hA4
            have o05 := hA5.o
            obtain ⟨-, -, -, e05, e15, e25, e35⟩ := mfi_at (hA5.2.1 s hs) h0 hu
            refine g_aload_n (j := 0) rfl dX12_spell_118 ?_
            refine g_ldcwT dX12_spell_119 (n := 9) (tx := " to ") (List.mem_of_getElem? (i := 20) rfl) ?_
            refine g_callV dX12_spell_122 mlX12_448 mvX12_saysWord (ci := 12) ⟨by decide, rfl⟩ (by assumption) (c_saysWord w (d + 1) _ (n := 9) (by omega) hA5.1 hP5 (by simp; omega)) sv1 rfl (by omega) (Nat.le_of_ble_eq_true rfl) (Nat.le_refl _) (Nat.le_refl _) (fun v μ6 hR => ?_)
            obtain ⟨rfl, hP6, hfx6⟩ := hR
            have hf6 := FrM.tr hf5 hfx6
            have hA6 := FrQ.MA hfx6 hA5
            have o06 := hA6.o
            obtain ⟨-, -, -, e06, e16, e26, e36⟩ := mfi_at (hA6.2.1 s hs) h0 hu
            refine g_aload_n (j := 0) rfl dX12_spell_125 ?_
            refine g_aload_n (j := 0) rfl dX12_spell_126 ?_
            refine g_iload_n (j := 1) rfl dX12_spell_127 ?_
            refine g_iload_n (j := 2) rfl dX12_spell_128 ?_
            refine g_iconst dX12_spell_129 ?_
            refine g_callV dX12_spell_130 mlX12_93 mvX12_of (ci := 12) ⟨by decide, rfl⟩ (by assumption) (c_X12_of w (d + 5) _ hA6.1 (s := s) (i := t) (k := 3) (by omega) (by omega) (by omega)) sv3 rfl (by omega) (Nat.le_of_ble_eq_true rfl) (Nat.le_refl _) (Nat.le_refl _) (fun v μ2 hR => ?_)
            obtain ⟨rfl, hm⟩ := hR
            replace hm := hm.symm
            subst hm
            rw [e36]
            refine g_callV dX12_spell_133 mlX12_452 mvX12_saysNumber (ci := 12) ⟨by decide, rfl⟩ (by assumption) (c_saysNumber w (d + 4) _ hA6.1 hP6 (n := tH u) (by omega) (by simp; omega)) sv1 rfl (by omega) (Nat.le_of_ble_eq_true rfl) (Nat.le_refl _) (Nat.le_refl _) (fun v μ7 hR => ?_)
            obtain ⟨rfl, hP7, hfx7⟩ := hR
            have hf7 := FrM.tr hf6 hfx7
            have hA7 := FrQ.MA hfx7 hA6
            have o07 := hA7.o
            obtain ⟨-, -, -, e07, e17, e27, e37⟩ := mfi_at (hA7.2.1 s hs) h0 hu
            refine g_iinc (i := 2) dX12_spell_136 rfl (by decide) rfl ls2 ?_
            refine g_goto (tgt := 17) (by decide) dX12_spell_139 ?_
            first
            | (have hPx : PlM μ7 m (L ++ (pl ++ tmL u)) := by
                 rw [tmL, rgL, if_neg (by omega)]
                 simp only [List.append_assoc] at hP7 ⊢
                 exact hP7
               refine G.post (fun v μ8 hq => ?_) (ih (t + 1) μ7 _ _ (by omega) (by omega) hA7 hf7 hPx (by simp; omega))
               simp only [List.append_assoc] at hq
               exact hq)
            | (have hPx : PlM μ3 m (L ++ (pl ++ tmL u)) := by
                 rw [tmL, rgL, if_pos (by omega), List.append_nil]
                 simp only [List.append_assoc] at hP3 ⊢
                 exact hP3
               refine G.post (fun v μ8 hq => ?_) (ih (t + 1) μ3 _ _ (by omega) (by omega) hA3 hf3 hPx (by simp; omega))
               simp only [List.append_assoc] at hq
               exact hq)
          · refine g_aload_n (j := 0) rfl dX12_spell_76 ?_
            refine g_iload_n (j := 1) rfl dX12_spell_77 ?_
            refine g_iload_n (j := 2) rfl dX12_spell_78 ?_
            refine g_iconst dX12_spell_79 ?_
            refine g_callV dX12_spell_80 mlX12_93 mvX12_of (ci := 12) ⟨by decide, rfl⟩ (by assumption) (c_X12_of w (d + 5) _ hA3.1 (s := s) (i := t) (k := 3) (by omega) (by omega) (by omega)) sv3 rfl (by omega) (Nat.le_of_ble_eq_true rfl) (Nat.le_refl _) (Nat.le_refl _) (fun v μ2 hR => ?_)
            obtain ⟨rfl, hm⟩ := hR
            replace hm := hm.symm
            subst hm
            rw [e33]
            refine g_iload_n (j := 3) rfl dX12_spell_83 ?_
            refine g_aload_n (j := 0) rfl dX12_spell_84 ?_
            refine g_iload_n (j := 1) rfl dX12_spell_85 ?_
            refine g_iload_n (j := 2) rfl dX12_spell_86 ?_
            refine g_iconst dX12_spell_87 ?_
            refine g_callV dX12_spell_88 mlX12_93 mvX12_of (ci := 12) ⟨by decide, rfl⟩ (by assumption) (c_X12_of w (d + 5) _ hA3.1 (s := s) (i := t) (k := 1) (by omega) (by omega) (by omega)) sv3 rfl (by omega) (Nat.le_of_ble_eq_true rfl) (Nat.le_refl _) (Nat.le_refl _) (fun v μ2 hR => ?_)
            obtain ⟨rfl, hm⟩ := hR
            replace hm := hm.symm
            subst hm
            rw [e13]
            refine g_callS dX12_spell_91 mlX12_223 msX12_greatest (c_X12_greatest w (d + 4) _ (k := tK u) (f := tF u) (by omega) hk1) sk2 rfl (by omega) (Nat.le_of_ble_eq_true rfl) (Nat.le_refl _) (Nat.le_refl _) (fun v μ2 hR => ?_)
            obtain ⟨rfl, hm⟩ := hR
            replace hm := hm.symm
            subst hm
            refine g_icmp_ne (tgt := 100) dX12_spell_94 (by decide) (by omega) (by omega) (fun h94 => ?_) (fun h94 => ?_)
            · refine g_aload_n (j := 0) rfl dX12_spell_100 ?_
              refine g_ldcwT dX12_spell_101 (n := 8) (tx := " from ") (List.mem_of_getElem? (i := 19) rfl) ?_
              refine g_callV dX12_spell_104 mlX12_448 mvX12_saysWord (ci := 12) ⟨by decide, rfl⟩ (by assumption) (c_saysWord w (d + 1) _ (n := 8) (by omega) hA3.1 hP3 (by simp; omega)) sv1 rfl (by omega) (Nat.le_of_ble_eq_true rfl) (Nat.le_refl _) (Nat.le_refl _) (fun v μ4 hR => ?_)
              obtain ⟨rfl, hP4, hfx4⟩ := hR
              have hf4 := FrM.tr hf3 hfx4
              have hA4 := FrQ.MA hfx4 hA3
              have o04 := hA4.o
              obtain ⟨-, -, -, e04, e14, e24, e34⟩ := mfi_at (hA4.2.1 s hs) h0 hu
              refine g_aload_n (j := 0) rfl dX12_spell_107 ?_
              refine g_aload_n (j := 0) rfl dX12_spell_108 ?_
              refine g_iload_n (j := 1) rfl dX12_spell_109 ?_
              refine g_iload_n (j := 2) rfl dX12_spell_110 ?_
              refine g_iconst dX12_spell_111 ?_
              refine g_callV dX12_spell_112 mlX12_93 mvX12_of (ci := 12) ⟨by decide, rfl⟩ (by assumption) (c_X12_of w (d + 5) _ hA4.1 (s := s) (i := t) (k := 2) (by omega) (by omega) (by omega)) sv3 rfl (by omega) (Nat.le_of_ble_eq_true rfl) (Nat.le_refl _) (Nat.le_refl _) (fun v μ2 hR => ?_)
              obtain ⟨rfl, hm⟩ := hR
              replace hm := hm.symm
              subst hm
              rw [e24]
              refine g_callV dX12_spell_115 mlX12_452 mvX12_saysNumber (ci := 12) ⟨by decide, rfl⟩ (by assumption) (c_saysNumber w (d + 4) _ hA4.1 hP4 (n := tL u) (by omega) (by simp; omega)) sv1 rfl (by omega) (Nat.le_of_ble_eq_true rfl) (Nat.le_refl _) (Nat.le_refl _) (fun v μ5 hR => ?_)
              obtain ⟨rfl, hP5, hfx5⟩ := hR
              have hf5 := FrM.tr hf4 hfx5
              have hA5 := FrQ.MA hfx5 hA4
              have o05 := hA5.o
              obtain ⟨-, -, -, e05, e15, e25, e35⟩ := mfi_at (hA5.2.1 s hs) h0 hu
              refine g_aload_n (j := 0) rfl dX12_spell_118 ?_
              refine g_ldcwT dX12_spell_119 (n := 9) (tx := " to ") (List.mem_of_getElem? (i := 20) rfl) ?_
              refine g_callV dX12_spell_122 mlX12_448 mvX12_saysWord (ci := 12) ⟨by decide, rfl⟩ (by assumption) (c_saysWord w (d + 1) _ (n := 9) (by omega) hA5.1 hP5 (by simp; omega)) sv1 rfl (by omega) (Nat.le_of_ble_eq_true rfl) (Nat.le_refl _) (Nat.le_refl _) (fun v μ6 hR => ?_)
              obtain ⟨rfl, hP6, hfx6⟩ := hR
              have hf6 := FrM.tr hf5 hfx6
              have hA6 := FrQ.MA hfx6 hA5
              have o06 := hA6.o
              obtain ⟨-, -, -, e06, e16, e26, e36⟩ := mfi_at (hA6.2.1 s hs) h0 hu
              refine g_aload_n (j := 0) rfl dX12_spell_125 ?_
              refine g_aload_n (j := 0) rfl dX12_spell_126 ?_
              refine g_iload_n (j := 1) rfl dX12_spell_127 ?_
              refine g_iload_n (j := 2) rfl dX12_spell_128 ?_
              refine g_iconst dX12_spell_129 ?_
              refine g_callV dX12_spell_130 mlX12_93 mvX12_of (ci := 12) ⟨by decide, rfl⟩ (by assumption) (c_X12_of w (d + 5) _ hA6.1 (s := s) (i := t) (k := 3) (by omega) (by omega) (by omega)) sv3 rfl (by omega) (Nat.le_of_ble_eq_true rfl) (Nat.le_refl _) (Nat.le_refl _) (fun v μ2 hR => ?_)
              obtain ⟨rfl, hm⟩ := hR
              replace hm := hm.symm
              subst hm
              rw [e36]
              refine g_callV dX12_spell_133 mlX12_452 mvX12_saysNumber (ci := 12) ⟨by decide, rfl⟩ (by assumption) (c_saysNumber w (d + 4) _ hA6.1 hP6 (n := tH u) (by omega) (by simp; omega)) sv1 rfl (by omega) (Nat.le_of_ble_eq_true rfl) (Nat.le_refl _) (Nat.le_refl _) (fun v μ7 hR => ?_)
              obtain ⟨rfl, hP7, hfx7⟩ := hR
              have hf7 := FrM.tr hf6 hfx7
              have hA7 := FrQ.MA hfx7 hA6
              have o07 := hA7.o
              obtain ⟨-, -, -, e07, e17, e27, e37⟩ := mfi_at (hA7.2.1 s hs) h0 hu
              refine g_iinc (i := 2) dX12_spell_136 rfl (by decide) rfl ls2 ?_
              refine g_goto (tgt := 17) (by decide) dX12_spell_139 ?_
              first
              | (have hPx : PlM μ7 m (L ++ (pl ++ tmL u)) := by
                   rw [tmL, rgL, if_neg (by omega)]
                   simp only [List.append_assoc] at hP7 ⊢
                   exact hP7
                 refine G.post (fun v μ8 hq => ?_) (ih (t + 1) μ7 _ _ (by omega) (by omega) hA7 hf7 hPx (by simp; omega))
                 simp only [List.append_assoc] at hq
                 exact hq)
              | (have hPx : PlM μ3 m (L ++ (pl ++ tmL u)) := by
                   rw [tmL, rgL, if_pos (by omega), List.append_nil]
                   simp only [List.append_assoc] at hP3 ⊢
                   exact hP3
                 refine G.post (fun v μ8 hq => ?_) (ih (t + 1) μ3 _ _ (by omega) (by omega) hA3 hf3 hPx (by simp; omega))
                 simp only [List.append_assoc] at hq
                 exact hq)
            · refine g_goto (tgt := 136) (by decide) dX12_spell_97 ?_
              refine g_iinc (i := 2) dX12_spell_136 rfl (by decide) rfl ls2 ?_
              refine g_goto (tgt := 17) (by decide) dX12_spell_139 ?_
              first
              | (have hPx : PlM μ7 m (L ++ (pl ++ tmL u)) := by
                   rw [tmL, rgL, if_neg (by omega)]
                   simp only [List.append_assoc] at hP7 ⊢
                   exact hP7
                 refine G.post (fun v μ8 hq => ?_) (ih (t + 1) μ7 _ _ (by omega) (by omega) hA7 hf7 hPx (by simp; omega))
                 simp only [List.append_assoc] at hq
                 exact hq)
              | (have hPx : PlM μ3 m (L ++ (pl ++ tmL u)) := by
                   rw [tmL, rgL, if_pos (by omega), List.append_nil]
                   simp only [List.append_assoc] at hP3 ⊢
                   exact hP3
                 refine G.post (fun v μ8 hq => ?_) (ih (t + 1) μ3 _ _ (by omega) (by omega) hA3 hf3 hPx (by simp; omega))
                 simp only [List.append_assoc] at hq
                 exact hq)
        · refine g_aload_n (j := 0) rfl dX12_spell_50 ?_
          refine g_iload_n (j := 3) rfl dX12_spell_51 ?_
          refine g_callV dX12_spell_52 mlX12_452 mvX12_saysNumber (ci := 12) ⟨by decide, rfl⟩ (by assumption) (c_saysNumber w (d + 4) _ hA1.1 hP1 (n := tF u) (by omega) (by simp; omega)) sv1 rfl (by omega) (Nat.le_of_ble_eq_true rfl) (Nat.le_refl _) (Nat.le_refl _) (fun v μ2 hR => ?_)
          obtain ⟨rfl, hP2, hfx2⟩ := hR
          replace hP2 : PlM μ2 m ((L ++ pl) ++ faL u) := by rw [faL, if_neg (by omega)]; exact hP2
          have hf2 := FrM.tr hf1 hfx2
          have hA2 := FrQ.MA hfx2 hA1
          have o02 := hA2.o
          obtain ⟨-, -, -, e02, e12, e22, e32⟩ := mfi_at (hA2.2.1 s hs) h0 hu
          refine g_aload_n (j := 0) rfl dX12_spell_55 ?_
          refine g_aload_n (j := 0) rfl dX12_spell_56 ?_
          refine g_iload_n (j := 1) rfl dX12_spell_57 ?_
          refine g_iload_n (j := 2) rfl dX12_spell_58 ?_
          refine g_iconst dX12_spell_59 ?_
          refine g_callV dX12_spell_60 mlX12_93 mvX12_of (ci := 12) ⟨by decide, rfl⟩ (by assumption) (c_X12_of w (d + 5) _ hA2.1 (s := s) (i := t) (k := 1) (by omega) (by omega) (by omega)) sv3 rfl (by omega) (Nat.le_of_ble_eq_true rfl) (Nat.le_refl _) (Nat.le_refl _) (fun v μ2 hR => ?_)
          obtain ⟨rfl, hm⟩ := hR
          replace hm := hm.symm
          subst hm
          rw [e12]
          refine g_callV dX12_spell_63 mlX12_455 mvX12_saysKind (ci := 12) ⟨by decide, rfl⟩ (by assumption) (c_saysKind w d _ hA2.1 (k := tK u) (by omega) hP2 (by simp; omega)) sv1 rfl (by omega) (Nat.le_of_ble_eq_true rfl) (Nat.le_refl _) (Nat.le_refl _) (fun v μ3 hR => ?_)
          obtain ⟨rfl, hP3, hfx3⟩ := hR
          have hf3 := FrM.tr hf2 hfx3
          have hA3 := FrQ.MA hfx3 hA2
          have o03 := hA3.o
          obtain ⟨-, -, -, e03, e13, e23, e33⟩ := mfi_at (hA3.2.1 s hs) h0 hu
          refine g_aload_n (j := 0) rfl dX12_spell_66 ?_
          refine g_iload_n (j := 1) rfl dX12_spell_67 ?_
          refine g_iload_n (j := 2) rfl dX12_spell_68 ?_
          refine g_iconst dX12_spell_69 ?_
          refine g_callV dX12_spell_70 mlX12_93 mvX12_of (ci := 12) ⟨by decide, rfl⟩ (by assumption) (c_X12_of w (d + 5) _ hA3.1 (s := s) (i := t) (k := 2) (by omega) (by omega) (by omega)) sv3 rfl (by omega) (Nat.le_of_ble_eq_true rfl) (Nat.le_refl _) (Nat.le_refl _) (fun v μ2 hR => ?_)
          obtain ⟨rfl, hm⟩ := hR
          replace hm := hm.symm
          subst hm
          rw [e23]
          refine g_if_ne (tgt := 100) dX12_spell_73 (by decide) (by omega) (fun h73 => ?_) (fun h73 => ?_)
          · refine g_aload_n (j := 0) rfl dX12_spell_100 ?_
            refine g_ldcwT dX12_spell_101 (n := 8) (tx := " from ") (List.mem_of_getElem? (i := 19) rfl) ?_
            refine g_callV dX12_spell_104 mlX12_448 mvX12_saysWord (ci := 12) ⟨by decide, rfl⟩ (by assumption) (c_saysWord w (d + 1) _ (n := 8) (by omega) hA3.1 hP3 (by simp; omega)) sv1 rfl (by omega) (Nat.le_of_ble_eq_true rfl) (Nat.le_refl _) (Nat.le_refl _) (fun v μ4 hR => ?_)
            obtain ⟨rfl, hP4, hfx4⟩ := hR
            have hf4 := FrM.tr hf3 hfx4
            have hA4 := FrQ.MA hfx4 hA3
            have o04 := hA4.o
            obtain ⟨-, -, -, e04, e14, e24, e34⟩ := mfi_at (hA4.2.1 s hs) h0 hu
            refine g_aload_n (j := 0) rfl dX12_spell_107 ?_
            refine g_aload_n (j := 0) rfl dX12_spell_108 ?_
            refine g_iload_n (j := 1) rfl dX12_spell_109 ?_
            refine g_iload_n (j := 2) rfl dX12_spell_110 ?_
            refine g_iconst dX12_spell_111 ?_
            refine g_callV dX12_spell_112 mlX12_93 mvX12_of (ci := 12) ⟨by decide, rfl⟩ (by assumption) (c_X12_of w (d + 5) _ hA4.1 (s := s) (i := t) (k := 2) (by omega) (by omega) (by omega)) sv3 rfl (by omega) (Nat.le_of_ble_eq_true rfl) (Nat.le_refl _) (Nat.le_refl _) (fun v μ2 hR => ?_)
            obtain ⟨rfl, hm⟩ := hR
            replace hm := hm.symm
            subst hm
            rw [e24]
            refine g_callV dX12_spell_115 mlX12_452 mvX12_saysNumber (ci := 12) ⟨by decide, rfl⟩ (by assumption) (c_saysNumber w (d + 4) _ hA4.1 hP4 (n := tL u) (by omega) (by simp; omega)) sv1 rfl (by omega) (Nat.le_of_ble_eq_true rfl) (Nat.le_refl _) (Nat.le_refl _) (fun v μ5 hR => ?_)
            obtain ⟨rfl, hP5, hfx5⟩ := hR
            have hf5 := FrM.tr hf4 hfx5
            have hA5 := FrQ.MA hfx5 hA4
            have o05 := hA5.o
            obtain ⟨-, -, -, e05, e15, e25, e35⟩ := mfi_at (hA5.2.1 s hs) h0 hu
            refine g_aload_n (j := 0) rfl dX12_spell_118 ?_
            refine g_ldcwT dX12_spell_119 (n := 9) (tx := " to ") (List.mem_of_getElem? (i := 20) rfl) ?_
            refine g_callV dX12_spell_122 mlX12_448 mvX12_saysWord (ci := 12) ⟨by decide, rfl⟩ (by assumption) (c_saysWord w (d + 1) _ (n := 9) (by omega) hA5.1 hP5 (by simp; omega)) sv1 rfl (by omega) (Nat.le_of_ble_eq_true rfl) (Nat.le_refl _) (Nat.le_refl _) (fun v μ6 hR => ?_)
            obtain ⟨rfl, hP6, hfx6⟩ := hR
            have hf6 := FrM.tr hf5 hfx6
            have hA6 := FrQ.MA hfx6 hA5
            have o06 := hA6.o
            obtain ⟨-, -, -, e06, e16, e26, e36⟩ := mfi_at (hA6.2.1 s hs) h0 hu
            refine g_aload_n (j := 0) rfl dX12_spell_125 ?_
            refine g_aload_n (j := 0) rfl dX12_spell_126 ?_
            refine g_iload_n (j := 1) rfl dX12_spell_127 ?_
            refine g_iload_n (j := 2) rfl dX12_spell_128 ?_
            refine g_iconst dX12_spell_129 ?_
            refine g_callV dX12_spell_130 mlX12_93 mvX12_of (ci := 12) ⟨by decide, rfl⟩ (by assumption) (c_X12_of w (d + 5) _ hA6.1 (s := s) (i := t) (k := 3) (by omega) (by omega) (by omega)) sv3 rfl (by omega) (Nat.le_of_ble_eq_true rfl) (Nat.le_refl _) (Nat.le_refl _) (fun v μ2 hR => ?_)
            obtain ⟨rfl, hm⟩ := hR
            replace hm := hm.symm
            subst hm
            rw [e36]
            refine g_callV dX12_spell_133 mlX12_452 mvX12_saysNumber (ci := 12) ⟨by decide, rfl⟩ (by assumption) (c_saysNumber w (d + 4) _ hA6.1 hP6 (n := tH u) (by omega) (by simp; omega)) sv1 rfl (by omega) (Nat.le_of_ble_eq_true rfl) (Nat.le_refl _) (Nat.le_refl _) (fun v μ7 hR => ?_)
            obtain ⟨rfl, hP7, hfx7⟩ := hR
            have hf7 := FrM.tr hf6 hfx7
            have hA7 := FrQ.MA hfx7 hA6
            have o07 := hA7.o
            obtain ⟨-, -, -, e07, e17, e27, e37⟩ := mfi_at (hA7.2.1 s hs) h0 hu
            refine g_iinc (i := 2) dX12_spell_136 rfl (by decide) rfl ls2 ?_
            refine g_goto (tgt := 17) (by decide) dX12_spell_139 ?_
            first
            | (have hPx : PlM μ7 m (L ++ (pl ++ tmL u)) := by
                 rw [tmL, rgL, if_neg (by omega)]
                 simp only [List.append_assoc] at hP7 ⊢
                 exact hP7
               refine G.post (fun v μ8 hq => ?_) (ih (t + 1) μ7 _ _ (by omega) (by omega) hA7 hf7 hPx (by simp; omega))
               simp only [List.append_assoc] at hq
               exact hq)
            | (have hPx : PlM μ3 m (L ++ (pl ++ tmL u)) := by
                 rw [tmL, rgL, if_pos (by omega), List.append_nil]
                 simp only [List.append_assoc] at hP3 ⊢
                 exact hP3
               refine G.post (fun v μ8 hq => ?_) (ih (t + 1) μ3 _ _ (by omega) (by omega) hA3 hf3 hPx (by simp; omega))
               simp only [List.append_assoc] at hq
               exact hq)
          · refine g_aload_n (j := 0) rfl dX12_spell_76 ?_
            refine g_iload_n (j := 1) rfl dX12_spell_77 ?_
            refine g_iload_n (j := 2) rfl dX12_spell_78 ?_
            refine g_iconst dX12_spell_79 ?_
            refine g_callV dX12_spell_80 mlX12_93 mvX12_of (ci := 12) ⟨by decide, rfl⟩ (by assumption) (c_X12_of w (d + 5) _ hA3.1 (s := s) (i := t) (k := 3) (by omega) (by omega) (by omega)) sv3 rfl (by omega) (Nat.le_of_ble_eq_true rfl) (Nat.le_refl _) (Nat.le_refl _) (fun v μ2 hR => ?_)
            obtain ⟨rfl, hm⟩ := hR
            replace hm := hm.symm
            subst hm
            rw [e33]
            refine g_iload_n (j := 3) rfl dX12_spell_83 ?_
            refine g_aload_n (j := 0) rfl dX12_spell_84 ?_
            refine g_iload_n (j := 1) rfl dX12_spell_85 ?_
            refine g_iload_n (j := 2) rfl dX12_spell_86 ?_
            refine g_iconst dX12_spell_87 ?_
            refine g_callV dX12_spell_88 mlX12_93 mvX12_of (ci := 12) ⟨by decide, rfl⟩ (by assumption) (c_X12_of w (d + 5) _ hA3.1 (s := s) (i := t) (k := 1) (by omega) (by omega) (by omega)) sv3 rfl (by omega) (Nat.le_of_ble_eq_true rfl) (Nat.le_refl _) (Nat.le_refl _) (fun v μ2 hR => ?_)
            obtain ⟨rfl, hm⟩ := hR
            replace hm := hm.symm
            subst hm
            rw [e13]
            refine g_callS dX12_spell_91 mlX12_223 msX12_greatest (c_X12_greatest w (d + 4) _ (k := tK u) (f := tF u) (by omega) hk1) sk2 rfl (by omega) (Nat.le_of_ble_eq_true rfl) (Nat.le_refl _) (Nat.le_refl _) (fun v μ2 hR => ?_)
            obtain ⟨rfl, hm⟩ := hR
            replace hm := hm.symm
            subst hm
            refine g_icmp_ne (tgt := 100) dX12_spell_94 (by decide) (by omega) (by omega) (fun h94 => ?_) (fun h94 => ?_)
            · refine g_aload_n (j := 0) rfl dX12_spell_100 ?_
              refine g_ldcwT dX12_spell_101 (n := 8) (tx := " from ") (List.mem_of_getElem? (i := 19) rfl) ?_
              refine g_callV dX12_spell_104 mlX12_448 mvX12_saysWord (ci := 12) ⟨by decide, rfl⟩ (by assumption) (c_saysWord w (d + 1) _ (n := 8) (by omega) hA3.1 hP3 (by simp; omega)) sv1 rfl (by omega) (Nat.le_of_ble_eq_true rfl) (Nat.le_refl _) (Nat.le_refl _) (fun v μ4 hR => ?_)
              obtain ⟨rfl, hP4, hfx4⟩ := hR
              have hf4 := FrM.tr hf3 hfx4
              have hA4 := FrQ.MA hfx4 hA3
              have o04 := hA4.o
              obtain ⟨-, -, -, e04, e14, e24, e34⟩ := mfi_at (hA4.2.1 s hs) h0 hu
              refine g_aload_n (j := 0) rfl dX12_spell_107 ?_
              refine g_aload_n (j := 0) rfl dX12_spell_108 ?_
              refine g_iload_n (j := 1) rfl dX12_spell_109 ?_
              refine g_iload_n (j := 2) rfl dX12_spell_110 ?_
              refine g_iconst dX12_spell_111 ?_
              refine g_callV dX12_spell_112 mlX12_93 mvX12_of (ci := 12) ⟨by decide, rfl⟩ (by assumption) (c_X12_of w (d + 5) _ hA4.1 (s := s) (i := t) (k := 2) (by omega) (by omega) (by omega)) sv3 rfl (by omega) (Nat.le_of_ble_eq_true rfl) (Nat.le_refl _) (Nat.le_refl _) (fun v μ2 hR => ?_)
              obtain ⟨rfl, hm⟩ := hR
              replace hm := hm.symm
              subst hm
              rw [e24]
              refine g_callV dX12_spell_115 mlX12_452 mvX12_saysNumber (ci := 12) ⟨by decide, rfl⟩ (by assumption) (c_saysNumber w (d + 4) _ hA4.1 hP4 (n := tL u) (by omega) (by simp; omega)) sv1 rfl (by omega) (Nat.le_of_ble_eq_true rfl) (Nat.le_refl _) (Nat.le_refl _) (fun v μ5 hR => ?_)
              obtain ⟨rfl, hP5, hfx5⟩ := hR
              have hf5 := FrM.tr hf4 hfx5
              have hA5 := FrQ.MA hfx5 hA4
              have o05 := hA5.o
              obtain ⟨-, -, -, e05, e15, e25, e35⟩ := mfi_at (hA5.2.1 s hs) h0 hu
              refine g_aload_n (j := 0) rfl dX12_spell_118 ?_
              refine g_ldcwT dX12_spell_119 (n := 9) (tx := " to ") (List.mem_of_getElem? (i := 20) rfl) ?_
              refine g_callV dX12_spell_122 mlX12_448 mvX12_saysWord (ci := 12) ⟨by decide, rfl⟩ (by assumption) (c_saysWord w (d + 1) _ (n := 9) (by omega) hA5.1 hP5 (by simp; omega)) sv1 rfl (by omega) (Nat.le_of_ble_eq_true rfl) (Nat.le_refl _) (Nat.le_refl _) (fun v μ6 hR => ?_)
              obtain ⟨rfl, hP6, hfx6⟩ := hR
              have hf6 := FrM.tr hf5 hfx6
              have hA6 := FrQ.MA hfx6 hA5
              have o06 := hA6.o
              obtain ⟨-, -, -, e06, e16, e26, e36⟩ := mfi_at (hA6.2.1 s hs) h0 hu
              refine g_aload_n (j := 0) rfl dX12_spell_125 ?_
              refine g_aload_n (j := 0) rfl dX12_spell_126 ?_
              refine g_iload_n (j := 1) rfl dX12_spell_127 ?_
              refine g_iload_n (j := 2) rfl dX12_spell_128 ?_
              refine g_iconst dX12_spell_129 ?_
              refine g_callV dX12_spell_130 mlX12_93 mvX12_of (ci := 12) ⟨by decide, rfl⟩ (by assumption) (c_X12_of w (d + 5) _ hA6.1 (s := s) (i := t) (k := 3) (by omega) (by omega) (by omega)) sv3 rfl (by omega) (Nat.le_of_ble_eq_true rfl) (Nat.le_refl _) (Nat.le_refl _) (fun v μ2 hR => ?_)
              obtain ⟨rfl, hm⟩ := hR
              replace hm := hm.symm
              subst hm
              rw [e36]
              refine g_callV dX12_spell_133 mlX12_452 mvX12_saysNumber (ci := 12) ⟨by decide, rfl⟩ (by assumption) (c_saysNumber w (d + 4) _ hA6.1 hP6 (n := tH u) (by omega) (by simp; omega)) sv1 rfl (by omega) (Nat.le_of_ble_eq_true rfl) (Nat.le_refl _) (Nat.le_refl _) (fun v μ7 hR => ?_)
              obtain ⟨rfl, hP7, hfx7⟩ := hR
              have hf7 := FrM.tr hf6 hfx7
              have hA7 := FrQ.MA hfx7 hA6
              have o07 := hA7.o
              obtain ⟨-, -, -, e07, e17, e27, e37⟩ := mfi_at (hA7.2.1 s hs) h0 hu
              refine g_iinc (i := 2) dX12_spell_136 rfl (by decide) rfl ls2 ?_
              refine g_goto (tgt := 17) (by decide) dX12_spell_139 ?_
              first
              | (have hPx : PlM μ7 m (L ++ (pl ++ tmL u)) := by
                   rw [tmL, rgL, if_neg (by omega)]
                   simp only [List.append_assoc] at hP7 ⊢
                   exact hP7
                 refine G.post (fun v μ8 hq => ?_) (ih (t + 1) μ7 _ _ (by omega) (by omega) hA7 hf7 hPx (by simp; omega))
                 simp only [List.append_assoc] at hq
                 exact hq)
              | (have hPx : PlM μ3 m (L ++ (pl ++ tmL u)) := by
                   rw [tmL, rgL, if_pos (by omega), List.append_nil]
                   simp only [List.append_assoc] at hP3 ⊢
                   exact hP3
                 refine G.post (fun v μ8 hq => ?_) (ih (t + 1) μ3 _ _ (by omega) (by omega) hA3 hf3 hPx (by simp; omega))
                 simp only [List.append_assoc] at hq
                 exact hq)
            · refine g_goto (tgt := 136) (by decide) dX12_spell_97 ?_
              refine g_iinc (i := 2) dX12_spell_136 rfl (by decide) rfl ls2 ?_
              refine g_goto (tgt := 17) (by decide) dX12_spell_139 ?_
              first
              | (have hPx : PlM μ7 m (L ++ (pl ++ tmL u)) := by
                   rw [tmL, rgL, if_neg (by omega)]
                   simp only [List.append_assoc] at hP7 ⊢
                   exact hP7
                 refine G.post (fun v μ8 hq => ?_) (ih (t + 1) μ7 _ _ (by omega) (by omega) hA7 hf7 hPx (by simp; omega))
                 simp only [List.append_assoc] at hq
                 exact hq)
              | (have hPx : PlM μ3 m (L ++ (pl ++ tmL u)) := by
                   rw [tmL, rgL, if_pos (by omega), List.append_nil]
                   simp only [List.append_assoc] at hP3 ⊢
                   exact hP3
                 refine G.post (fun v μ8 hq => ?_) (ih (t + 1) μ3 _ _ (by omega) (by omega) hA3 hf3 hPx (by simp; omega))
                 simp only [List.append_assoc] at hq
                 exact hq)
      · refine g_aload_n (j := 0) rfl dX12_spell_31 ?_
        refine g_bipush dX12_spell_32 (by omega) ?_
        refine g_callV dX12_spell_34 mlX12_445 mvX12_says (ci := 12) ⟨by decide, rfl⟩ (by assumption) (c_says w (d + 5) μ hA.1 hP (c := 43) (by omega)) sv1 rfl (by omega) (Nat.le_of_ble_eq_true rfl) (Nat.le_refl _) (Nat.le_refl _) (fun v μ1 hR => ?_)
        obtain ⟨rfl, hP1, hfx1⟩ := hR
        replace hP1 : PlM μ1 m (L ++ pl) := by rw [hpl, if_pos (by omega)]; exact hP1
        have hf1 := FrM.tr hf hfx1
        have hA1 := FrQ.MA hfx1 hA
        have o01 := hA1.o
        obtain ⟨-, -, -, e01, e11, e21, e31⟩ := mfi_at (hA1.2.1 s hs) h0 hu
        refine g_aload_n (j := 0) rfl dX12_spell_37 ?_
        refine g_iload_n (j := 1) rfl dX12_spell_38 ?_
        refine g_iload_n (j := 2) rfl dX12_spell_39 ?_
        refine g_iconst dX12_spell_40 ?_
        refine g_callV dX12_spell_41 mlX12_93 mvX12_of (ci := 12) ⟨by decide, rfl⟩ (by assumption) (c_X12_of w (d + 5) _ hA1.1 (s := s) (i := t) (k := 0) (by omega) (by omega) (by omega)) sv3 rfl (by omega) (Nat.le_of_ble_eq_true rfl) (Nat.le_refl _) (Nat.le_refl _) (fun v μ2 hR => ?_)
        obtain ⟨rfl, hm⟩ := hR
        replace hm := hm.symm
        subst hm
        rw [e01]
        refine g_istore_n (j := 3) dX12_spell_44 (by decide) rfl ls3 ?_
        refine g_iload_n (j := 3) rfl dX12_spell_45 ?_
        refine g_iconst dX12_spell_46 ?_
        refine g_icmp_eq (tgt := 55) dX12_spell_47 (by decide) (by omega) (by omega) (fun h47 => ?_) (fun h47 => ?_)
        · have e0f : L ++ pl = (L ++ pl) ++ faL u := by rw [faL, if_pos (by omega), List.append_nil]
          have hP2 := hP1
          rw [e0f] at hP2
          have hA2 := hA1
          have hf2 := hf1
          have e02 := e01
          have e12 := e11
          refine g_aload_n (j := 0) rfl dX12_spell_55 ?_
          refine g_aload_n (j := 0) rfl dX12_spell_56 ?_
          refine g_iload_n (j := 1) rfl dX12_spell_57 ?_
          refine g_iload_n (j := 2) rfl dX12_spell_58 ?_
          refine g_iconst dX12_spell_59 ?_
          refine g_callV dX12_spell_60 mlX12_93 mvX12_of (ci := 12) ⟨by decide, rfl⟩ (by assumption) (c_X12_of w (d + 5) _ hA2.1 (s := s) (i := t) (k := 1) (by omega) (by omega) (by omega)) sv3 rfl (by omega) (Nat.le_of_ble_eq_true rfl) (Nat.le_refl _) (Nat.le_refl _) (fun v μ2 hR => ?_)
          obtain ⟨rfl, hm⟩ := hR
          replace hm := hm.symm
          subst hm
          rw [e12]
          refine g_callV dX12_spell_63 mlX12_455 mvX12_saysKind (ci := 12) ⟨by decide, rfl⟩ (by assumption) (c_saysKind w d _ hA2.1 (k := tK u) (by omega) hP2 (by simp; omega)) sv1 rfl (by omega) (Nat.le_of_ble_eq_true rfl) (Nat.le_refl _) (Nat.le_refl _) (fun v μ3 hR => ?_)
          obtain ⟨rfl, hP3, hfx3⟩ := hR
          have hf3 := FrM.tr hf2 hfx3
          have hA3 := FrQ.MA hfx3 hA2
          have o03 := hA3.o
          obtain ⟨-, -, -, e03, e13, e23, e33⟩ := mfi_at (hA3.2.1 s hs) h0 hu
          refine g_aload_n (j := 0) rfl dX12_spell_66 ?_
          refine g_iload_n (j := 1) rfl dX12_spell_67 ?_
          refine g_iload_n (j := 2) rfl dX12_spell_68 ?_
          refine g_iconst dX12_spell_69 ?_
          refine g_callV dX12_spell_70 mlX12_93 mvX12_of (ci := 12) ⟨by decide, rfl⟩ (by assumption) (c_X12_of w (d + 5) _ hA3.1 (s := s) (i := t) (k := 2) (by omega) (by omega) (by omega)) sv3 rfl (by omega) (Nat.le_of_ble_eq_true rfl) (Nat.le_refl _) (Nat.le_refl _) (fun v μ2 hR => ?_)
          obtain ⟨rfl, hm⟩ := hR
          replace hm := hm.symm
          subst hm
          rw [e23]
          refine g_if_ne (tgt := 100) dX12_spell_73 (by decide) (by omega) (fun h73 => ?_) (fun h73 => ?_)
          · refine g_aload_n (j := 0) rfl dX12_spell_100 ?_
            refine g_ldcwT dX12_spell_101 (n := 8) (tx := " from ") (List.mem_of_getElem? (i := 19) rfl) ?_
            refine g_callV dX12_spell_104 mlX12_448 mvX12_saysWord (ci := 12) ⟨by decide, rfl⟩ (by assumption) (c_saysWord w (d + 1) _ (n := 8) (by omega) hA3.1 hP3 (by simp; omega)) sv1 rfl (by omega) (Nat.le_of_ble_eq_true rfl) (Nat.le_refl _) (Nat.le_refl _) (fun v μ4 hR => ?_)
            obtain ⟨rfl, hP4, hfx4⟩ := hR
            have hf4 := FrM.tr hf3 hfx4
            have hA4 := FrQ.MA hfx4 hA3
            have o04 := hA4.o
            obtain ⟨-, -, -, e04, e14, e24, e34⟩ := mfi_at (hA4.2.1 s hs) h0 hu
            refine g_aload_n (j := 0) rfl dX12_spell_107 ?_
            refine g_aload_n (j := 0) rfl dX12_spell_108 ?_
            refine g_iload_n (j := 1) rfl dX12_spell_109 ?_
            refine g_iload_n (j := 2) rfl dX12_spell_110 ?_
            refine g_iconst dX12_spell_111 ?_
            refine g_callV dX12_spell_112 mlX12_93 mvX12_of (ci := 12) ⟨by decide, rfl⟩ (by assumption) (c_X12_of w (d + 5) _ hA4.1 (s := s) (i := t) (k := 2) (by omega) (by omega) (by omega)) sv3 rfl (by omega) (Nat.le_of_ble_eq_true rfl) (Nat.le_refl _) (Nat.le_refl _) (fun v μ2 hR => ?_)
            obtain ⟨rfl, hm⟩ := hR
            replace hm := hm.symm
            subst hm
            rw [e24]
            refine g_callV dX12_spell_115 mlX12_452 mvX12_saysNumber (ci := 12) ⟨by decide, rfl⟩ (by assumption) (c_saysNumber w (d + 4) _ hA4.1 hP4 (n := tL u) (by omega) (by simp; omega)) sv1 rfl (by omega) (Nat.le_of_ble_eq_true rfl) (Nat.le_refl _) (Nat.le_refl _) (fun v μ5 hR => ?_)
            obtain ⟨rfl, hP5, hfx5⟩ := hR
            have hf5 := FrM.tr hf4 hfx5
            have hA5 := FrQ.MA hfx5 hA4
            have o05 := hA5.o
            obtain ⟨-, -, -, e05, e15, e25, e35⟩ := mfi_at (hA5.2.1 s hs) h0 hu
            refine g_aload_n (j := 0) rfl dX12_spell_118 ?_
            refine g_ldcwT dX12_spell_119 (n := 9) (tx := " to ") (List.mem_of_getElem? (i := 20) rfl) ?_
            refine g_callV dX12_spell_122 mlX12_448 mvX12_saysWord (ci := 12) ⟨by decide, rfl⟩ (by assumption) (c_saysWord w (d + 1) _ (n := 9) (by omega) hA5.1 hP5 (by simp; omega)) sv1 rfl (by omega) (Nat.le_of_ble_eq_true rfl) (Nat.le_refl _) (Nat.le_refl _) (fun v μ6 hR => ?_)
            obtain ⟨rfl, hP6, hfx6⟩ := hR
            have hf6 := FrM.tr hf5 hfx6
            have hA6 := FrQ.MA hfx6 hA5
            have o06 := hA6.o
            obtain ⟨-, -, -, e06, e16, e26, e36⟩ := mfi_at (hA6.2.1 s hs) h0 hu
            refine g_aload_n (j := 0) rfl dX12_spell_125 ?_
            refine g_aload_n (j := 0) rfl dX12_spell_126 ?_
            refine g_iload_n (j := 1) rfl dX12_spell_127 ?_
            refine g_iload_n (j := 2) rfl dX12_spell_128 ?_
            refine g_iconst dX12_spell_129 ?_
            refine g_callV dX12_spell_130 mlX12_93 mvX12_of (ci := 12) ⟨by decide, rfl⟩ (by assumption) (c_X12_of w (d + 5) _ hA6.1 (s := s) (i := t) (k := 3) (by omega) (by omega) (by omega)) sv3 rfl (by omega) (Nat.le_of_ble_eq_true rfl) (Nat.le_refl _) (Nat.le_refl _) (fun v μ2 hR => ?_)
            obtain ⟨rfl, hm⟩ := hR
            replace hm := hm.symm
            subst hm
            rw [e36]
            refine g_callV dX12_spell_133 mlX12_452 mvX12_saysNumber (ci := 12) ⟨by decide, rfl⟩ (by assumption) (c_saysNumber w (d + 4) _ hA6.1 hP6 (n := tH u) (by omega) (by simp; omega)) sv1 rfl (by omega) (Nat.le_of_ble_eq_true rfl) (Nat.le_refl _) (Nat.le_refl _) (fun v μ7 hR => ?_)
            obtain ⟨rfl, hP7, hfx7⟩ := hR
            have hf7 := FrM.tr hf6 hfx7
            have hA7 := FrQ.MA hfx7 hA6
            have o07 := hA7.o
            obtain ⟨-, -, -, e07, e17, e27, e37⟩ := mfi_at (hA7.2.1 s hs) h0 hu
            refine g_iinc (i := 2) dX12_spell_136 rfl (by decide) rfl ls2 ?_
            refine g_goto (tgt := 17) (by decide) dX12_spell_139 ?_
            first
            | (have hPx : PlM μ7 m (L ++ (pl ++ tmL u)) := by
                 rw [tmL, rgL, if_neg (by omega)]
                 simp only [List.append_assoc] at hP7 ⊢
                 exact hP7
               refine G.post (fun v μ8 hq => ?_) (ih (t + 1) μ7 _ _ (by omega) (by omega) hA7 hf7 hPx (by simp; omega))
               simp only [List.append_assoc] at hq
               exact hq)
            | (have hPx : PlM μ3 m (L ++ (pl ++ tmL u)) := by
                 rw [tmL, rgL, if_pos (by omega), List.append_nil]
                 simp only [List.append_assoc] at hP3 ⊢
                 exact hP3
               refine G.post (fun v μ8 hq => ?_) (ih (t + 1) μ3 _ _ (by omega) (by omega) hA3 hf3 hPx (by simp; omega))
               simp only [List.append_assoc] at hq
               exact hq)
          · refine g_aload_n (j := 0) rfl dX12_spell_76 ?_
            refine g_iload_n (j := 1) rfl dX12_spell_77 ?_
            refine g_iload_n (j := 2) rfl dX12_spell_78 ?_
            refine g_iconst dX12_spell_79 ?_
            refine g_callV dX12_spell_80 mlX12_93 mvX12_of (ci := 12) ⟨by decide, rfl⟩ (by assumption) (c_X12_of w (d + 5) _ hA3.1 (s := s) (i := t) (k := 3) (by omega) (by omega) (by omega)) sv3 rfl (by omega) (Nat.le_of_ble_eq_true rfl) (Nat.le_refl _) (Nat.le_refl _) (fun v μ2 hR => ?_)
            obtain ⟨rfl, hm⟩ := hR
            replace hm := hm.symm
            subst hm
            rw [e33]
            refine g_iload_n (j := 3) rfl dX12_spell_83 ?_
            refine g_aload_n (j := 0) rfl dX12_spell_84 ?_
            refine g_iload_n (j := 1) rfl dX12_spell_85 ?_
            refine g_iload_n (j := 2) rfl dX12_spell_86 ?_
            refine g_iconst dX12_spell_87 ?_
            refine g_callV dX12_spell_88 mlX12_93 mvX12_of (ci := 12) ⟨by decide, rfl⟩ (by assumption) (c_X12_of w (d + 5) _ hA3.1 (s := s) (i := t) (k := 1) (by omega) (by omega) (by omega)) sv3 rfl (by omega) (Nat.le_of_ble_eq_true rfl) (Nat.le_refl _) (Nat.le_refl _) (fun v μ2 hR => ?_)
            obtain ⟨rfl, hm⟩ := hR
            replace hm := hm.symm
            subst hm
            rw [e13]
            refine g_callS dX12_spell_91 mlX12_223 msX12_greatest (c_X12_greatest w (d + 4) _ (k := tK u) (f := tF u) (by omega) hk1) sk2 rfl (by omega) (Nat.le_of_ble_eq_true rfl) (Nat.le_refl _) (Nat.le_refl _) (fun v μ2 hR => ?_)
            obtain ⟨rfl, hm⟩ := hR
            replace hm := hm.symm
            subst hm
            refine g_icmp_ne (tgt := 100) dX12_spell_94 (by decide) (by omega) (by omega) (fun h94 => ?_) (fun h94 => ?_)
            · refine g_aload_n (j := 0) rfl dX12_spell_100 ?_
              refine g_ldcwT dX12_spell_101 (n := 8) (tx := " from ") (List.mem_of_getElem? (i := 19) rfl) ?_
              refine g_callV dX12_spell_104 mlX12_448 mvX12_saysWord (ci := 12) ⟨by decide, rfl⟩ (by assumption) (c_saysWord w (d + 1) _ (n := 8) (by omega) hA3.1 hP3 (by simp; omega)) sv1 rfl (by omega) (Nat.le_of_ble_eq_true rfl) (Nat.le_refl _) (Nat.le_refl _) (fun v μ4 hR => ?_)
              obtain ⟨rfl, hP4, hfx4⟩ := hR
              have hf4 := FrM.tr hf3 hfx4
              have hA4 := FrQ.MA hfx4 hA3
              have o04 := hA4.o
              obtain ⟨-, -, -, e04, e14, e24, e34⟩ := mfi_at (hA4.2.1 s hs) h0 hu
              refine g_aload_n (j := 0) rfl dX12_spell_107 ?_
              refine g_aload_n (j := 0) rfl dX12_spell_108 ?_
              refine g_iload_n (j := 1) rfl dX12_spell_109 ?_
              refine g_iload_n (j := 2) rfl dX12_spell_110 ?_
              refine g_iconst dX12_spell_111 ?_
              refine g_callV dX12_spell_112 mlX12_93 mvX12_of (ci := 12) ⟨by decide, rfl⟩ (by assumption) (c_X12_of w (d + 5) _ hA4.1 (s := s) (i := t) (k := 2) (by omega) (by omega) (by omega)) sv3 rfl (by omega) (Nat.le_of_ble_eq_true rfl) (Nat.le_refl _) (Nat.le_refl _) (fun v μ2 hR => ?_)
              obtain ⟨rfl, hm⟩ := hR
              replace hm := hm.symm
              subst hm
              rw [e24]
              refine g_callV dX12_spell_115 mlX12_452 mvX12_saysNumber (ci := 12) ⟨by decide, rfl⟩ (by assumption) (c_saysNumber w (d + 4) _ hA4.1 hP4 (n := tL u) (by omega) (by simp; omega)) sv1 rfl (by omega) (Nat.le_of_ble_eq_true rfl) (Nat.le_refl _) (Nat.le_refl _) (fun v μ5 hR => ?_)
              obtain ⟨rfl, hP5, hfx5⟩ := hR
              have hf5 := FrM.tr hf4 hfx5
              have hA5 := FrQ.MA hfx5 hA4
              have o05 := hA5.o
              obtain ⟨-, -, -, e05, e15, e25, e35⟩ := mfi_at (hA5.2.1 s hs) h0 hu
              refine g_aload_n (j := 0) rfl dX12_spell_118 ?_
              refine g_ldcwT dX12_spell_119 (n := 9) (tx := " to ") (List.mem_of_getElem? (i := 20) rfl) ?_
              refine g_callV dX12_spell_122 mlX12_448 mvX12_saysWord (ci := 12) ⟨by decide, rfl⟩ (by assumption) (c_saysWord w (d + 1) _ (n := 9) (by omega) hA5.1 hP5 (by simp; omega)) sv1 rfl (by omega) (Nat.le_of_ble_eq_true rfl) (Nat.le_refl _) (Nat.le_refl _) (fun v μ6 hR => ?_)
              obtain ⟨rfl, hP6, hfx6⟩ := hR
              have hf6 := FrM.tr hf5 hfx6
              have hA6 := FrQ.MA hfx6 hA5
              have o06 := hA6.o
              obtain ⟨-, -, -, e06, e16, e26, e36⟩ := mfi_at (hA6.2.1 s hs) h0 hu
              refine g_aload_n (j := 0) rfl dX12_spell_125 ?_
              refine g_aload_n (j := 0) rfl dX12_spell_126 ?_
              refine g_iload_n (j := 1) rfl dX12_spell_127 ?_
              refine g_iload_n (j := 2) rfl dX12_spell_128 ?_
              refine g_iconst dX12_spell_129 ?_
              refine g_callV dX12_spell_130 mlX12_93 mvX12_of (ci := 12) ⟨by decide, rfl⟩ (by assumption) (c_X12_of w (d + 5) _ hA6.1 (s := s) (i := t) (k := 3) (by omega) (by omega) (by omega)) sv3 rfl (by omega) (Nat.le_of_ble_eq_true rfl) (Nat.le_refl _) (Nat.le_refl _) (fun v μ2 hR => ?_)
              obtain ⟨rfl, hm⟩ := hR
              replace hm := hm.symm
              subst hm
              rw [e36]
              refine g_callV dX12_spell_133 mlX12_452 mvX12_saysNumber (ci := 12) ⟨by decide, rfl⟩ (by assumption) (c_saysNumber w (d + 4) _ hA6.1 hP6 (n := tH u) (by omega) (by simp; omega)) sv1 rfl (by omega) (Nat.le_of_ble_eq_true rfl) (Nat.le_refl _) (Nat.le_refl _) (fun v μ7 hR => ?_)
              obtain ⟨rfl, hP7, hfx7⟩ := hR
              have hf7 := FrM.tr hf6 hfx7
              have hA7 := FrQ.MA hfx7 hA6
              have o07 := hA7.o
              obtain ⟨-, -, -, e07, e17, e27, e37⟩ := mfi_at (hA7.2.1 s hs) h0 hu
              refine g_iinc (i := 2) dX12_spell_136 rfl (by decide) rfl ls2 ?_
              refine g_goto (tgt := 17) (by decide) dX12_spell_139 ?_
              first
              | (have hPx : PlM μ7 m (L ++ (pl ++ tmL u)) := by
                   rw [tmL, rgL, if_neg (by omega)]
                   simp only [List.append_assoc] at hP7 ⊢
                   exact hP7
                 refine G.post (fun v μ8 hq => ?_) (ih (t + 1) μ7 _ _ (by omega) (by omega) hA7 hf7 hPx (by simp; omega))
                 simp only [List.append_assoc] at hq
                 exact hq)
              | (have hPx : PlM μ3 m (L ++ (pl ++ tmL u)) := by
                   rw [tmL, rgL, if_pos (by omega), List.append_nil]
                   simp only [List.append_assoc] at hP3 ⊢
                   exact hP3
                 refine G.post (fun v μ8 hq => ?_) (ih (t + 1) μ3 _ _ (by omega) (by omega) hA3 hf3 hPx (by simp; omega))
                 simp only [List.append_assoc] at hq
                 exact hq)
            · refine g_goto (tgt := 136) (by decide) dX12_spell_97 ?_
              refine g_iinc (i := 2) dX12_spell_136 rfl (by decide) rfl ls2 ?_
              refine g_goto (tgt := 17) (by decide) dX12_spell_139 ?_
              first
              | (have hPx : PlM μ7 m (L ++ (pl ++ tmL u)) := by
                   rw [tmL, rgL, if_neg (by omega)]
                   simp only [List.append_assoc] at hP7 ⊢
                   exact hP7
                 refine G.post (fun v μ8 hq => ?_) (ih (t + 1) μ7 _ _ (by omega) (by omega) hA7 hf7 hPx (by simp; omega))
                 simp only [List.append_assoc] at hq
                 exact hq)
              | (have hPx : PlM μ3 m (L ++ (pl ++ tmL u)) := by
                   rw [tmL, rgL, if_pos (by omega), List.append_nil]
                   simp only [List.append_assoc] at hP3 ⊢
                   exact hP3
                 refine G.post (fun v μ8 hq => ?_) (ih (t + 1) μ3 _ _ (by omega) (by omega) hA3 hf3 hPx (by simp; omega))
                 simp only [List.append_assoc] at hq
                 exact hq)
        · refine g_aload_n (j := 0) rfl dX12_spell_50 ?_
          refine g_iload_n (j := 3) rfl dX12_spell_51 ?_
          refine g_callV dX12_spell_52 mlX12_452 mvX12_saysNumber (ci := 12) ⟨by decide, rfl⟩ (by assumption) (c_saysNumber w (d + 4) _ hA1.1 hP1 (n := tF u) (by omega) (by simp; omega)) sv1 rfl (by omega) (Nat.le_of_ble_eq_true rfl) (Nat.le_refl _) (Nat.le_refl _) (fun v μ2 hR => ?_)
          obtain ⟨rfl, hP2, hfx2⟩ := hR
          replace hP2 : PlM μ2 m ((L ++ pl) ++ faL u) := by rw [faL, if_neg (by omega)]; exact hP2
          have hf2 := FrM.tr hf1 hfx2
          have hA2 := FrQ.MA hfx2 hA1
          have o02 := hA2.o
          obtain ⟨-, -, -, e02, e12, e22, e32⟩ := mfi_at (hA2.2.1 s hs) h0 hu
          refine g_aload_n (j := 0) rfl dX12_spell_55 ?_
          refine g_aload_n (j := 0) rfl dX12_spell_56 ?_
          refine g_iload_n (j := 1) rfl dX12_spell_57 ?_
          refine g_iload_n (j := 2) rfl dX12_spell_58 ?_
          refine g_iconst dX12_spell_59 ?_
          refine g_callV dX12_spell_60 mlX12_93 mvX12_of (ci := 12) ⟨by decide, rfl⟩ (by assumption) (c_X12_of w (d + 5) _ hA2.1 (s := s) (i := t) (k := 1) (by omega) (by omega) (by omega)) sv3 rfl (by omega) (Nat.le_of_ble_eq_true rfl) (Nat.le_refl _) (Nat.le_refl _) (fun v μ2 hR => ?_)
          obtain ⟨rfl, hm⟩ := hR
          replace hm := hm.symm
          subst hm
          rw [e12]
          refine g_callV dX12_spell_63 mlX12_455 mvX12_saysKind (ci := 12) ⟨by decide, rfl⟩ (by assumption) (c_saysKind w d _ hA2.1 (k := tK u) (by omega) hP2 (by simp; omega)) sv1 rfl (by omega) (Nat.le_of_ble_eq_true rfl) (Nat.le_refl _) (Nat.le_refl _) (fun v μ3 hR => ?_)
          obtain ⟨rfl, hP3, hfx3⟩ := hR
          have hf3 := FrM.tr hf2 hfx3
          have hA3 := FrQ.MA hfx3 hA2
          have o03 := hA3.o
          obtain ⟨-, -, -, e03, e13, e23, e33⟩ := mfi_at (hA3.2.1 s hs) h0 hu
          refine g_aload_n (j := 0) rfl dX12_spell_66 ?_
          refine g_iload_n (j := 1) rfl dX12_spell_67 ?_
          refine g_iload_n (j := 2) rfl dX12_spell_68 ?_
          refine g_iconst dX12_spell_69 ?_
          refine g_callV dX12_spell_70 mlX12_93 mvX12_of (ci := 12) ⟨by decide, rfl⟩ (by assumption) (c_X12_of w (d + 5) _ hA3.1 (s := s) (i := t) (k := 2) (by omega) (by omega) (by omega)) sv3 rfl (by omega) (Nat.le_of_ble_eq_true rfl) (Nat.le_refl _) (Nat.le_refl _) (fun v μ2 hR => ?_)
          obtain ⟨rfl, hm⟩ := hR
          replace hm := hm.symm
          subst hm
          rw [e23]
          refine g_if_ne (tgt := 100) dX12_spell_73 (by decide) (by omega) (fun h73 => ?_) (fun h73 => ?_)
          · refine g_aload_n (j := 0) rfl dX12_spell_100 ?_
            refine g_ldcwT dX12_spell_101 (n := 8) (tx := " from ") (List.mem_of_getElem? (i := 19) rfl) ?_
            refine g_callV dX12_spell_104 mlX12_448 mvX12_saysWord (ci := 12) ⟨by decide, rfl⟩ (by assumption) (c_saysWord w (d + 1) _ (n := 8) (by omega) hA3.1 hP3 (by simp; omega)) sv1 rfl (by omega) (Nat.le_of_ble_eq_true rfl) (Nat.le_refl _) (Nat.le_refl _) (fun v μ4 hR => ?_)
            obtain ⟨rfl, hP4, hfx4⟩ := hR
            have hf4 := FrM.tr hf3 hfx4
            have hA4 := FrQ.MA hfx4 hA3
            have o04 := hA4.o
            obtain ⟨-, -, -, e04, e14, e24, e34⟩ := mfi_at (hA4.2.1 s hs) h0 hu
            refine g_aload_n (j := 0) rfl dX12_spell_107 ?_
            refine g_aload_n (j := 0) rfl dX12_spell_108 ?_
            refine g_iload_n (j := 1) rfl dX12_spell_109 ?_
            refine g_iload_n (j := 2) rfl dX12_spell_110 ?_
            refine g_iconst dX12_spell_111 ?_
            refine g_callV dX12_spell_112 mlX12_93 mvX12_of (ci := 12) ⟨by decide, rfl⟩ (by assumption) (c_X12_of w (d + 5) _ hA4.1 (s := s) (i := t) (k := 2) (by omega) (by omega) (by omega)) sv3 rfl (by omega) (Nat.le_of_ble_eq_true rfl) (Nat.le_refl _) (Nat.le_refl _) (fun v μ2 hR => ?_)
            obtain ⟨rfl, hm⟩ := hR
            replace hm := hm.symm
            subst hm
            rw [e24]
            refine g_callV dX12_spell_115 mlX12_452 mvX12_saysNumber (ci := 12) ⟨by decide, rfl⟩ (by assumption) (c_saysNumber w (d + 4) _ hA4.1 hP4 (n := tL u) (by omega) (by simp; omega)) sv1 rfl (by omega) (Nat.le_of_ble_eq_true rfl) (Nat.le_refl _) (Nat.le_refl _) (fun v μ5 hR => ?_)
            obtain ⟨rfl, hP5, hfx5⟩ := hR
            have hf5 := FrM.tr hf4 hfx5
            have hA5 := FrQ.MA hfx5 hA4
            have o05 := hA5.o
            obtain ⟨-, -, -, e05, e15, e25, e35⟩ := mfi_at (hA5.2.1 s hs) h0 hu
            refine g_aload_n (j := 0) rfl dX12_spell_118 ?_
            refine g_ldcwT dX12_spell_119 (n := 9) (tx := " to ") (List.mem_of_getElem? (i := 20) rfl) ?_
            refine g_callV dX12_spell_122 mlX12_448 mvX12_saysWord (ci := 12) ⟨by decide, rfl⟩ (by assumption) (c_saysWord w (d + 1) _ (n := 9) (by omega) hA5.1 hP5 (by simp; omega)) sv1 rfl (by omega) (Nat.le_of_ble_eq_true rfl) (Nat.le_refl _) (Nat.le_refl _) (fun v μ6 hR => ?_)
            obtain ⟨rfl, hP6, hfx6⟩ := hR
            have hf6 := FrM.tr hf5 hfx6
            have hA6 := FrQ.MA hfx6 hA5
            have o06 := hA6.o
            obtain ⟨-, -, -, e06, e16, e26, e36⟩ := mfi_at (hA6.2.1 s hs) h0 hu
            refine g_aload_n (j := 0) rfl dX12_spell_125 ?_
            refine g_aload_n (j := 0) rfl dX12_spell_126 ?_
            refine g_iload_n (j := 1) rfl dX12_spell_127 ?_
            refine g_iload_n (j := 2) rfl dX12_spell_128 ?_
            refine g_iconst dX12_spell_129 ?_
            refine g_callV dX12_spell_130 mlX12_93 mvX12_of (ci := 12) ⟨by decide, rfl⟩ (by assumption) (c_X12_of w (d + 5) _ hA6.1 (s := s) (i := t) (k := 3) (by omega) (by omega) (by omega)) sv3 rfl (by omega) (Nat.le_of_ble_eq_true rfl) (Nat.le_refl _) (Nat.le_refl _) (fun v μ2 hR => ?_)
            obtain ⟨rfl, hm⟩ := hR
            replace hm := hm.symm
            subst hm
            rw [e36]
            refine g_callV dX12_spell_133 mlX12_452 mvX12_saysNumber (ci := 12) ⟨by decide, rfl⟩ (by assumption) (c_saysNumber w (d + 4) _ hA6.1 hP6 (n := tH u) (by omega) (by simp; omega)) sv1 rfl (by omega) (Nat.le_of_ble_eq_true rfl) (Nat.le_refl _) (Nat.le_refl _) (fun v μ7 hR => ?_)
            obtain ⟨rfl, hP7, hfx7⟩ := hR
            have hf7 := FrM.tr hf6 hfx7
            have hA7 := FrQ.MA hfx7 hA6
            have o07 := hA7.o
            obtain ⟨-, -, -, e07, e17, e27, e37⟩ := mfi_at (hA7.2.1 s hs) h0 hu
            refine g_iinc (i := 2) dX12_spell_136 rfl (by decide) rfl ls2 ?_
            refine g_goto (tgt := 17) (by decide) dX12_spell_139 ?_
            first
            | (have hPx : PlM μ7 m (L ++ (pl ++ tmL u)) := by
                 rw [tmL, rgL, if_neg (by omega)]
                 simp only [List.append_assoc] at hP7 ⊢
                 exact hP7
               refine G.post (fun v μ8 hq => ?_) (ih (t + 1) μ7 _ _ (by omega) (by omega) hA7 hf7 hPx (by simp; omega))
               simp only [List.append_assoc] at hq
               exact hq)
            | (have hPx : PlM μ3 m (L ++ (pl ++ tmL u)) := by
                 rw [tmL, rgL, if_pos (by omega), List.append_nil]
                 simp only [List.append_assoc] at hP3 ⊢
                 exact hP3
               refine G.post (fun v μ8 hq => ?_) (ih (t + 1) μ3 _ _ (by omega) (by omega) hA3 hf3 hPx (by simp; omega))
               simp only [List.append_assoc] at hq
               exact hq)
          · refine g_aload_n (j := 0) rfl dX12_spell_76 ?_
            refine g_iload_n (j := 1) rfl dX12_spell_77 ?_
            refine g_iload_n (j := 2) rfl dX12_spell_78 ?_
            refine g_iconst dX12_spell_79 ?_
            refine g_callV dX12_spell_80 mlX12_93 mvX12_of (ci := 12) ⟨by decide, rfl⟩ (by assumption) (c_X12_of w (d + 5) _ hA3.1 (s := s) (i := t) (k := 3) (by omega) (by omega) (by omega)) sv3 rfl (by omega) (Nat.le_of_ble_eq_true rfl) (Nat.le_refl _) (Nat.le_refl _) (fun v μ2 hR => ?_)
            obtain ⟨rfl, hm⟩ := hR
            replace hm := hm.symm
            subst hm
            rw [e33]
            refine g_iload_n (j := 3) rfl dX12_spell_83 ?_
            refine g_aload_n (j := 0) rfl dX12_spell_84 ?_
            refine g_iload_n (j := 1) rfl dX12_spell_85 ?_
            refine g_iload_n (j := 2) rfl dX12_spell_86 ?_
            refine g_iconst dX12_spell_87 ?_
            refine g_callV dX12_spell_88 mlX12_93 mvX12_of (ci := 12) ⟨by decide, rfl⟩ (by assumption) (c_X12_of w (d + 5) _ hA3.1 (s := s) (i := t) (k := 1) (by omega) (by omega) (by omega)) sv3 rfl (by omega) (Nat.le_of_ble_eq_true rfl) (Nat.le_refl _) (Nat.le_refl _) (fun v μ2 hR => ?_)
            obtain ⟨rfl, hm⟩ := hR
            replace hm := hm.symm
            subst hm
            rw [e13]
            refine g_callS dX12_spell_91 mlX12_223 msX12_greatest (c_X12_greatest w (d + 4) _ (k := tK u) (f := tF u) (by omega) hk1) sk2 rfl (by omega) (Nat.le_of_ble_eq_true rfl) (Nat.le_refl _) (Nat.le_refl _) (fun v μ2 hR => ?_)
            obtain ⟨rfl, hm⟩ := hR
            replace hm := hm.symm
            subst hm
            refine g_icmp_ne (tgt := 100) dX12_spell_94 (by decide) (by omega) (by omega) (fun h94 => ?_) (fun h94 => ?_)
            · refine g_aload_n (j := 0) rfl dX12_spell_100 ?_
              refine g_ldcwT dX12_spell_101 (n := 8) (tx := " from ") (List.mem_of_getElem? (i := 19) rfl) ?_
              refine g_callV dX12_spell_104 mlX12_448 mvX12_saysWord (ci := 12) ⟨by decide, rfl⟩ (by assumption) (c_saysWord w (d + 1) _ (n := 8) (by omega) hA3.1 hP3 (by simp; omega)) sv1 rfl (by omega) (Nat.le_of_ble_eq_true rfl) (Nat.le_refl _) (Nat.le_refl _) (fun v μ4 hR => ?_)
              obtain ⟨rfl, hP4, hfx4⟩ := hR
              have hf4 := FrM.tr hf3 hfx4
              have hA4 := FrQ.MA hfx4 hA3
              have o04 := hA4.o
              obtain ⟨-, -, -, e04, e14, e24, e34⟩ := mfi_at (hA4.2.1 s hs) h0 hu
              refine g_aload_n (j := 0) rfl dX12_spell_107 ?_
              refine g_aload_n (j := 0) rfl dX12_spell_108 ?_
              refine g_iload_n (j := 1) rfl dX12_spell_109 ?_
              refine g_iload_n (j := 2) rfl dX12_spell_110 ?_
              refine g_iconst dX12_spell_111 ?_
              refine g_callV dX12_spell_112 mlX12_93 mvX12_of (ci := 12) ⟨by decide, rfl⟩ (by assumption) (c_X12_of w (d + 5) _ hA4.1 (s := s) (i := t) (k := 2) (by omega) (by omega) (by omega)) sv3 rfl (by omega) (Nat.le_of_ble_eq_true rfl) (Nat.le_refl _) (Nat.le_refl _) (fun v μ2 hR => ?_)
              obtain ⟨rfl, hm⟩ := hR
              replace hm := hm.symm
              subst hm
              rw [e24]
              refine g_callV dX12_spell_115 mlX12_452 mvX12_saysNumber (ci := 12) ⟨by decide, rfl⟩ (by assumption) (c_saysNumber w (d + 4) _ hA4.1 hP4 (n := tL u) (by omega) (by simp; omega)) sv1 rfl (by omega) (Nat.le_of_ble_eq_true rfl) (Nat.le_refl _) (Nat.le_refl _) (fun v μ5 hR => ?_)
              obtain ⟨rfl, hP5, hfx5⟩ := hR
              have hf5 := FrM.tr hf4 hfx5
              have hA5 := FrQ.MA hfx5 hA4
              have o05 := hA5.o
              obtain ⟨-, -, -, e05, e15, e25, e35⟩ := mfi_at (hA5.2.1 s hs) h0 hu
              refine g_aload_n (j := 0) rfl dX12_spell_118 ?_
              refine g_ldcwT dX12_spell_119 (n := 9) (tx := " to ") (List.mem_of_getElem? (i := 20) rfl) ?_
              refine g_callV dX12_spell_122 mlX12_448 mvX12_saysWord (ci := 12) ⟨by decide, rfl⟩ (by assumption) (c_saysWord w (d + 1) _ (n := 9) (by omega) hA5.1 hP5 (by simp; omega)) sv1 rfl (by omega) (Nat.le_of_ble_eq_true rfl) (Nat.le_refl _) (Nat.le_refl _) (fun v μ6 hR => ?_)
              obtain ⟨rfl, hP6, hfx6⟩ := hR
              have hf6 := FrM.tr hf5 hfx6
              have hA6 := FrQ.MA hfx6 hA5
              have o06 := hA6.o
              obtain ⟨-, -, -, e06, e16, e26, e36⟩ := mfi_at (hA6.2.1 s hs) h0 hu
              refine g_aload_n (j := 0) rfl dX12_spell_125 ?_
              refine g_aload_n (j := 0) rfl dX12_spell_126 ?_
              refine g_iload_n (j := 1) rfl dX12_spell_127 ?_
              refine g_iload_n (j := 2) rfl dX12_spell_128 ?_
              refine g_iconst dX12_spell_129 ?_
              refine g_callV dX12_spell_130 mlX12_93 mvX12_of (ci := 12) ⟨by decide, rfl⟩ (by assumption) (c_X12_of w (d + 5) _ hA6.1 (s := s) (i := t) (k := 3) (by omega) (by omega) (by omega)) sv3 rfl (by omega) (Nat.le_of_ble_eq_true rfl) (Nat.le_refl _) (Nat.le_refl _) (fun v μ2 hR => ?_)
              obtain ⟨rfl, hm⟩ := hR
              replace hm := hm.symm
              subst hm
              rw [e36]
              refine g_callV dX12_spell_133 mlX12_452 mvX12_saysNumber (ci := 12) ⟨by decide, rfl⟩ (by assumption) (c_saysNumber w (d + 4) _ hA6.1 hP6 (n := tH u) (by omega) (by simp; omega)) sv1 rfl (by omega) (Nat.le_of_ble_eq_true rfl) (Nat.le_refl _) (Nat.le_refl _) (fun v μ7 hR => ?_)
              obtain ⟨rfl, hP7, hfx7⟩ := hR
              have hf7 := FrM.tr hf6 hfx7
              have hA7 := FrQ.MA hfx7 hA6
              have o07 := hA7.o
              obtain ⟨-, -, -, e07, e17, e27, e37⟩ := mfi_at (hA7.2.1 s hs) h0 hu
              refine g_iinc (i := 2) dX12_spell_136 rfl (by decide) rfl ls2 ?_
              refine g_goto (tgt := 17) (by decide) dX12_spell_139 ?_
              first
              | (have hPx : PlM μ7 m (L ++ (pl ++ tmL u)) := by
                   rw [tmL, rgL, if_neg (by omega)]
                   simp only [List.append_assoc] at hP7 ⊢
                   exact hP7
                 refine G.post (fun v μ8 hq => ?_) (ih (t + 1) μ7 _ _ (by omega) (by omega) hA7 hf7 hPx (by simp; omega))
                 simp only [List.append_assoc] at hq
                 exact hq)
              | (have hPx : PlM μ3 m (L ++ (pl ++ tmL u)) := by
                   rw [tmL, rgL, if_pos (by omega), List.append_nil]
                   simp only [List.append_assoc] at hP3 ⊢
                   exact hP3
                 refine G.post (fun v μ8 hq => ?_) (ih (t + 1) μ3 _ _ (by omega) (by omega) hA3 hf3 hPx (by simp; omega))
                 simp only [List.append_assoc] at hq
                 exact hq)
            · refine g_goto (tgt := 136) (by decide) dX12_spell_97 ?_
              refine g_iinc (i := 2) dX12_spell_136 rfl (by decide) rfl ls2 ?_
              refine g_goto (tgt := 17) (by decide) dX12_spell_139 ?_
              first
              | (have hPx : PlM μ7 m (L ++ (pl ++ tmL u)) := by
                   rw [tmL, rgL, if_neg (by omega)]
                   simp only [List.append_assoc] at hP7 ⊢
                   exact hP7
                 refine G.post (fun v μ8 hq => ?_) (ih (t + 1) μ7 _ _ (by omega) (by omega) hA7 hf7 hPx (by simp; omega))
                 simp only [List.append_assoc] at hq
                 exact hq)
              | (have hPx : PlM μ3 m (L ++ (pl ++ tmL u)) := by
                   rw [tmL, rgL, if_pos (by omega), List.append_nil]
                   simp only [List.append_assoc] at hP3 ⊢
                   exact hP3
                 refine G.post (fun v μ8 hq => ?_) (ih (t + 1) μ3 _ _ (by omega) (by omega) hA3 hf3 hPx (by simp; omega))
                 simp only [List.append_assoc] at hq
                 exact hq)
theorem c_X12_spell (w : WC) (d : Nat) (μ : Mem) {m : Nat} {F : Int → List Tm} (hA : MA w μ m F) {s : Int} (hs : i32 s) : Con w (d + 6) mX12_spell 0 0 [vP (some m), vI s] μ (fun v μ2 => (HasT F s ∧ v = some (vI (spL (F s) 0).length) ∧ MA w μ2 m F ∧ PlM μ2 m (spL (F s) 0) ∧ FrQ m μ μ2) ∨ (¬ HasT F s ∧ v = some (vI (-1)) ∧ μ2 = μ)) := by
  have o0 := hA.o
  refine Con.of (by decide) (Nat.le_of_ble_eq_true rfl) rfl ?_
  refine g_aload_n (j := 0) rfl dX12_spell_0 ?_
  refine g_iload_n (j := 1) rfl dX12_spell_1 ?_
  refine g_callV dX12_spell_2 mlX12_274 mvX12_isForm (ci := 12) ⟨by decide, rfl⟩ (by assumption) (c_X12_isForm w (d + 3) μ hA hs) sv1 rfl (by omega) (Nat.le_of_ble_eq_true rfl) (Nat.le_refl _) (Nat.le_refl _) (fun v μ2 hR => ?_)
  obtain ⟨rfl, hm⟩ := hR
  replace hm := hm.symm
  subst hm
  refine g_ifb_ne (tgt := 10) dX12_spell_5 (by decide)  (fun h5 => ?_) (fun h5 => ?_)
  · refine g_aload_n (j := 0) rfl dX12_spell_10 ?_
    refine g_iconst dX12_spell_11 ?_
    refine g_putI dX12_spell_12 fpX12_442 rfl rfl rfl (by assumption) (kz := 49) rfl ?_
    refine g_iconst dX12_spell_15 ?_
    refine g_istore_n (j := 2) dX12_spell_16 (by decide) rfl ls2 ?_
    have hf1 : FrQ m μ (sI μ m 49 0) := FrM.sI (J := fun j => j = 49) rfl
    have hP1 : PlM (sI μ m 49 0) m [] := ⟨by rw [mI_sI, if_pos ⟨rfl, rfl⟩]; rfl, by simp, fun i v z => by simp at z⟩
    refine G.post (fun v μ3 hq => ?_) (l12_spell (d := d) (μ0 := μ) h5.1 (F s).length 0 _ [] _ (by omega) (by omega) (FrQ.MA hf1 hA) hf1 hP1 (by simp))
    exact Or.inl ⟨h5, hq.1, hq.2.1, hq.2.2.1, hq.2.2.2⟩
  · refine g_iconst dX12_spell_8 ?_
    exact G.retI dX12_spell_9 rfl (Or.inr ⟨h5, rfl, rfl⟩)
