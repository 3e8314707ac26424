/-! THE MODEL: classes of remainders -/
def FrK (m : Nat) : Mem → Mem → Prop := FrM m (fun a => a = m + 18) (fun _ => False)
theorem FrK.MA {w : WC} {m : Nat} {F : Int → List Tm} {μ μ2 : Mem} (h : FrK m μ μ2) (hA : MA w μ m F) : MA w μ2 m F := FrM.MA h hA (by omega) ⟨fun z => z, fun z => z⟩
theorem FrK.Bm {w : WC} {m : Nat} {F : Int → List Tm} {μ μ2 : Mem} {a : AV} (h : FrK m μ μ2) (hA : _root_.Jvm.Pilot.CToldPowersLaw_law_r3284_2a4c2b.MA w μ m F) : Bm w μ m F a (some a) μ2 := ⟨rfl, h.MA hA, h.mono (fun _ z => Or.inr (Or.inl z)) (fun _ z => z.elim)⟩
theorem tmx {r v m : Int} (hm : 1 ≤ m) (hr : 0 ≤ r ∧ r < m) : (r - v % m + m).tmod m = (r - v) % m := by
  have h1 := Int.emod_nonneg v (show m ≠ 0 by omega)
  have h2 := Int.emod_lt_of_pos v (show 0 < m by omega)
  rw [Int.tmod_eq_emod_of_nonneg (by omega), Int.add_emod_right, md_sub]
theorem tmy {n m : Int} (hm : 1 ≤ m) : (n.tmod m + m).tmod m = n % m := by
  have h := tm_em (a := n) (b := m) (by omega)
  rw [Int.tmod_eq_emod_of_nonneg (by omega), Int.add_emod_right]
  rcases h.2.2 with z | z
  · rw [z.1, Int.emod_emod]
  · rw [z.1, Int.sub_emod_right, Int.emod_emod]
theorem c_X12_xs (w : WC) (d : Nat) (μ : Mem) {u : Tm} (hk : TOk u) {mm : Int} : Con w d mX12_xs 0 0 [vI (tK u), vI mm] μ (fun v μ2 => v = some (vI (xsN u mm)) ∧ μ2 = μ) := by
  have hk2 := hk.2.1
  refine Con.of (by decide) (Nat.le_of_ble_eq_true rfl) rfl ?_
  refine g_iload_n (j := 0) rfl dX12_xs_0 ?_
  refine g_iconst dX12_xs_1 ?_
  refine g_icmp_ne (tgt := 11) dX12_xs_2 (by decide) (by omega) (by omega) (fun h2 => ?_) (fun h2 => ?_)
  · refine g_iload_n (j := 1) rfl dX12_xs_11 ?_
    first
    | exact G.retI dX12_xs_12 rfl ⟨by rw [xsN, if_pos (by omega)], rfl⟩
    | exact G.retI dX12_xs_12 rfl ⟨by rw [xsN, if_neg (by omega)], rfl⟩
  · refine g_iconst dX12_xs_5 ?_
    refine g_iload_n (j := 1) rfl dX12_xs_6 ?_
    refine g_imul dX12_xs_7 ?_
    refine g_goto (tgt := 12) (by decide) dX12_xs_8 ?_
    first
    | exact G.retI dX12_xs_12 rfl ⟨by rw [xsN, if_pos (by omega)], rfl⟩
    | exact G.retI dX12_xs_12 rfl ⟨by rw [xsN, if_neg (by omega)], rfl⟩
theorem c_X12_classOf (w : WC) (d : Nat) (μ : Mem) {m : Nat} (hM : MoS w μ m) {s i y mm : Int} {u : Tm} (hs : 0 ≤ s ∧ s ≤ 4) (hi : 0 ≤ i ∧ i ≤ 4) (hk : TOk u) (e0 : mI μ (m + 2) (4 * (5 * s + i) + 0) = tF u) (e1 : mI μ (m + 2) (4 * (5 * s + i) + 1) = tK u) (hy : 0 ≤ y ∧ y < 120) (hm : 1 ≤ mm ∧ mm ≤ 60) : Con w (d + 2) mX12_classOf 0 0 [vP (some m), vI s, vI i, vI y, vI mm] μ (fun v μ2 => v = some (vI (tV u y % mm)) ∧ μ2 = μ) := by
  have hk1 := hk.1
  have hk2 := hk.2.1
  have hp := pv_64 (k := tK u) hk1 (x := y) (by omega)
  have o0 := hM.o
  refine Con.of (by decide) (Nat.le_of_ble_eq_true rfl) rfl ?_
  refine g_aload_n (j := 0) rfl dX12_classOf_0 ?_
  refine g_iload_n (j := 1) rfl dX12_classOf_1 ?_
  refine g_iload_n (j := 2) rfl dX12_classOf_2 ?_
  refine g_iload_n (j := 3) rfl dX12_classOf_3 ?_
  refine g_i2l (by omega) dX12_classOf_4 ?_
  refine g_callV dX12_classOf_5 mlX12_234 mvX12_valueOf (ci := 12) ⟨by decide, rfl⟩ (by assumption) (c_X12_valueOf w d μ hM (s := s) (i := i) (x := y) hs hi e0 e1 (by omega) (by omega) (by omega)) sv3 rfl (by omega) (Nat.le_of_ble_eq_true rfl) (Nat.le_refl _) (Nat.le_refl _) (fun v μ2 hR => ?_)
  obtain ⟨rfl, hm⟩ := hR
  replace hm := hm.symm
  subst hm
  refine g_iload (i := 4) rfl dX12_classOf_8 ?_
  refine g_i2l (by omega) dX12_classOf_10 ?_
  refine g_lrem (by omega) (by omega) (by omega) dX12_classOf_11 ?_
  refine g_l2i dX12_classOf_12 ?_
  rw [Int.tmod_eq_emod_of_nonneg hp.1]
  exact G.retI dX12_classOf_13 rfl ⟨rfl, rfl⟩
section KL
variable {w : WC} {d m : Nat} {F : Int → List Tm} {R : Option AV → Mem → Prop} {mm : Int}
theorem l12_cl0 {μ0 : Mem} (hA0 : MA w μ0 m F) (hm : 1 ≤ mm ∧ mm ≤ 60) {s n : Int} (hn : 0 ≤ n ∧ n ≤ 5) {x5 x8 : Option AV} (kk : ∀ (μ : Mem) (x4 : Option AV), FrK m μ0 μ → (∀ r, 0 ≤ r → r < mm → mL μ (m + 18) (60 * n + r) = if r = 0 then 1 else 0) → G w (d + 3) mX12_laysClasses R 0 0 48 [some (vP (some m)), some (vI s), some (vI mm), some (vI n), x4, x5, none, none, x8] [] μ) : ∀ (k : Nat) (r : Int) (μ : Mem), r + k = mm → 0 ≤ r → FrK m μ0 μ → (∀ j, 0 ≤ j → j < r → mL μ (m + 18) (60 * n + j) = if j = 0 then 1 else 0) →
    G w (d + 3) mX12_laysClasses R 0 0 10 [some (vP (some m)), some (vI s), some (vI mm), some (vI n), some (vI r), x5, none, none, x8] [] μ := by
  intro k
  induction k with
  | zero =>
    intro r μ hr h0 hf hg
    refine g_iload (i := 4) rfl dX12_laysClasses_10 ?_
    refine g_iload_n (j := 2) rfl dX12_laysClasses_12 ?_
    refine g_icmp_ge (tgt := 48) dX12_laysClasses_13 (by decide) (by omega) (by omega) (fun h13 => ?_) (fun h13 => ?_)
    · exact kk μ _ hf fun j z1 z2 => hg j z1 (by omega)
    · omega
  | succ k ih =>
    intro r μ hr h0 hf hg
    have hA := hf.MA hA0
    have o0 := hA.o
    have r46 := hA.1.r46
    have a46 := hA.1.a46
    refine g_iload (i := 4) rfl dX12_laysClasses_10 ?_
    refine g_iload_n (j := 2) rfl dX12_laysClasses_12 ?_
    refine g_icmp_ge (tgt := 48) dX12_laysClasses_13 (by decide) (by omega) (by omega) (fun h13 => ?_) (fun h13 => ?_)
    · omega
    · refine g_aload_n (j := 0) rfl dX12_laysClasses_16 ?_
      refine g_getR dX12_laysClasses_17 flX12_81 rfl (by assumption) (kz := 46) rfl (by assumption) ?_
      refine g_bipush dX12_laysClasses_20 (by omega) ?_
      refine g_iload_n (j := 3) rfl dX12_laysClasses_22 ?_
      refine g_imul dX12_laysClasses_23 ?_
      refine g_iload (i := 4) rfl dX12_laysClasses_24 ?_
      refine g_iadd dX12_laysClasses_26 ?_
      refine g_iload (i := 4) rfl dX12_laysClasses_27 ?_
      refine g_if_ne (tgt := 36) dX12_laysClasses_29 (by decide) (by omega) (fun h29 => ?_) (fun h29 => ?_)
      · refine g_iconst dX12_laysClasses_36 ?_
        refine g_callS dX12_laysClasses_37 mlX12_406 msX12_one (c_one01 w (d + 2) μ (by omega)) sk1 rfl (by omega) (Nat.le_of_ble_eq_true rfl) (Nat.le_refl _) (Nat.le_refl _) (fun v μ2 hR => ?_)
        obtain ⟨rfl, hm⟩ := hR
        replace hm := hm.symm
        subst hm
        refine g_i2l (by omega) dX12_laysClasses_40 ?_
        refine g_last dX12_laysClasses_41 (by assumption) (by omega) (by omega) ?_
        refine g_iinc (i := 4) dX12_laysClasses_42 rfl (by decide) rfl ls4 ?_
        refine g_goto (tgt := 10) (by decide) dX12_laysClasses_45 ?_
        refine ih (r + 1) _ (by omega) (by omega) (FrM.tr hf (FrM.sLr rfl (by omega))) fun j z1 z2 => ?_
        rw [mL_sL]
        by_cases hj : j = r
        · rw [if_pos ⟨rfl, by rw [hj]⟩]
          first | rw [if_pos (by omega)] | rw [if_neg (by omega)]
        · rw [if_neg (by omega)]
          exact hg j z1 (by omega)
      · refine g_iconst dX12_laysClasses_32 ?_
        refine g_goto (tgt := 37) (by decide) dX12_laysClasses_33 ?_
        refine g_callS dX12_laysClasses_37 mlX12_406 msX12_one (c_one01 w (d + 2) μ (by omega)) sk1 rfl (by omega) (Nat.le_of_ble_eq_true rfl) (Nat.le_refl _) (Nat.le_refl _) (fun v μ2 hR => ?_)
        obtain ⟨rfl, hm⟩ := hR
        replace hm := hm.symm
        subst hm
        refine g_i2l (by omega) dX12_laysClasses_40 ?_
        refine g_last dX12_laysClasses_41 (by assumption) (by omega) (by omega) ?_
        refine g_iinc (i := 4) dX12_laysClasses_42 rfl (by decide) rfl ls4 ?_
        refine g_goto (tgt := 10) (by decide) dX12_laysClasses_45 ?_
        refine ih (r + 1) _ (by omega) (by omega) (FrM.tr hf (FrM.sLr rfl (by omega))) fun j z1 z2 => ?_
        rw [mL_sL]
        by_cases hj : j = r
        · rw [if_pos ⟨rfl, by rw [hj]⟩]
          first | rw [if_pos (by omega)] | rw [if_neg (by omega)]
        · rw [if_neg (by omega)]
          exact hg j z1 (by omega)
theorem l12_clX {μ : Mem} (hA : MA w μ m F) (hm : 1 ≤ mm ∧ mm ≤ 60) {s i r : Int} (hs : 0 ≤ s ∧ s ≤ 3) (hi : 0 ≤ i ∧ i < (F s).length) {u : Tm} (hk : TOk u) (e0 : mI μ (m + 2) (4 * (5 * s + i) + 0) = tF u) (e1 : mI μ (m + 2) (4 * (5 * s + i) + 1) = tK u) (hr : 0 ≤ r ∧ r < mm) (hO : FillOk (mL μ (m + 18)) mm (F s) (i + 1)) {n : Int} : ∀ (k : Nat) (y v : Int), y + k = xsN u mm → 0 ≤ y → 
    (∀ x8 : Option AV, G w (d + 3) mX12_laysClasses R 0 0 131 [some (vP (some m)), some (vI s), some (vI mm), some (vI n), some (vI i), some (vI r), some (vJ (v + rsum (fun y => clW mm ((F s).drop (i + 1).toNat) ((r - tV u y) % mm)) y k)), none, x8] [] μ) →
    G w (d + 3) mX12_laysClasses R 0 0 73 [some (vP (some m)), some (vI s), some (vI mm), some (vI n), some (vI i), some (vI r), some (vJ v), none, some (vI y)] [] μ := by
  have hxs : 0 ≤ xsN u mm ∧ xsN u mm ≤ 120 := by unfold xsN; split <;> omega
  have o0 := hA.o
  have r46 := hA.1.r46
  have a46 := hA.1.a46
  have h5 := hA.l5 hs
  intro k
  induction k with
  | zero =>
    intro y v hy h0 kk
    rw [rsum, Int.add_zero] at kk
    refine g_iload (i := 8) rfl dX12_laysClasses_73 ?_
    refine g_aload_n (j := 0) rfl dX12_laysClasses_75 ?_
    refine g_iload_n (j := 1) rfl dX12_laysClasses_76 ?_
    refine g_iload (i := 4) rfl dX12_laysClasses_77 ?_
    refine g_iconst dX12_laysClasses_79 ?_
    refine g_callV dX12_laysClasses_80 mlX12_93 mvX12_of (ci := 12) ⟨by decide, rfl⟩ (by assumption) (c_X12_of w (d + 2) μ hA.1 (s := s) (i := i) (k := 1) (by omega) (by omega) (by omega)) sv3 rfl (by omega) (Nat.le_of_ble_eq_true rfl) (Nat.le_refl _) (Nat.le_refl _) (fun v μ2 hR => ?_)
    obtain ⟨rfl, hm⟩ := hR
    replace hm := hm.symm
    subst hm
    rw [e1]
    refine g_iload_n (j := 2) rfl dX12_laysClasses_83 ?_
    refine g_callS dX12_laysClasses_84 mlX12_425 msX12_xs (c_X12_xs w (d + 2) μ hk (mm := mm)) sk2 rfl (by omega) (Nat.le_of_ble_eq_true rfl) (Nat.le_refl _) (Nat.le_refl _) (fun v μ2 hR => ?_)
    obtain ⟨rfl, hm⟩ := hR
    replace hm := hm.symm
    subst hm
    refine g_icmp_ge (tgt := 131) dX12_laysClasses_87 (by decide) (by omega) (by omega) (fun h87 => ?_) (fun h87 => ?_)
    · exact kk _
    · omega
  | succ k ih =>
    intro y v hy h0 kk
    have hb1 := Int.emod_nonneg (r - tV u y) (show mm ≠ 0 by omega)
    have hb2 := Int.emod_lt_of_pos (r - tV u y) (show 0 < mm by omega)
    have hb3 := Int.emod_nonneg (tV u y) (show mm ≠ 0 by omega)
    have hb4 := Int.emod_lt_of_pos (tV u y) (show 0 < mm by omega)
    have hrd := hO (i + 1) (by omega) (by omega) _ hb1 hb2
    rw [rsum, ← Int.add_assoc] at kk
    refine g_iload (i := 8) rfl dX12_laysClasses_73 ?_
    refine g_aload_n (j := 0) rfl dX12_laysClasses_75 ?_
    refine g_iload_n (j := 1) rfl dX12_laysClasses_76 ?_
    refine g_iload (i := 4) rfl dX12_laysClasses_77 ?_
    refine g_iconst dX12_laysClasses_79 ?_
    refine g_callV dX12_laysClasses_80 mlX12_93 mvX12_of (ci := 12) ⟨by decide, rfl⟩ (by assumption) (c_X12_of w (d + 2) μ hA.1 (s := s) (i := i) (k := 1) (by omega) (by omega) (by omega)) sv3 rfl (by omega) (Nat.le_of_ble_eq_true rfl) (Nat.le_refl _) (Nat.le_refl _) (fun v μ2 hR => ?_)
    obtain ⟨rfl, hm⟩ := hR
    replace hm := hm.symm
    subst hm
    rw [e1]
    refine g_iload_n (j := 2) rfl dX12_laysClasses_83 ?_
    refine g_callS dX12_laysClasses_84 mlX12_425 msX12_xs (c_X12_xs w (d + 2) μ hk (mm := mm)) sk2 rfl (by omega) (Nat.le_of_ble_eq_true rfl) (Nat.le_refl _) (Nat.le_refl _) (fun v μ2 hR => ?_)
    obtain ⟨rfl, hm⟩ := hR
    replace hm := hm.symm
    subst hm
    refine g_icmp_ge (tgt := 131) dX12_laysClasses_87 (by decide) (by omega) (by omega) (fun h87 => ?_) (fun h87 => ?_)
    · omega
    · refine g_lload (i := 6) rfl dX12_laysClasses_90 ?_
      refine g_aload_n (j := 0) rfl dX12_laysClasses_92 ?_
      refine g_getR dX12_laysClasses_93 flX12_81 rfl (by assumption) (kz := 46) rfl (by assumption) ?_
      refine g_bipush dX12_laysClasses_96 (by omega) ?_
      refine g_iload (i := 4) rfl dX12_laysClasses_98 ?_
      refine g_iconst dX12_laysClasses_100 ?_
      refine g_iadd dX12_laysClasses_101 ?_
      refine g_imul dX12_laysClasses_102 ?_
      refine g_iload (i := 5) rfl dX12_laysClasses_103 ?_
      refine g_aload_n (j := 0) rfl dX12_laysClasses_105 ?_
      refine g_iload_n (j := 1) rfl dX12_laysClasses_106 ?_
      refine g_iload (i := 4) rfl dX12_laysClasses_107 ?_
      refine g_iload (i := 8) rfl dX12_laysClasses_109 ?_
      refine g_iload_n (j := 2) rfl dX12_laysClasses_111 ?_
      refine g_callV dX12_laysClasses_112 mlX12_428 mvX12_classOf (ci := 12) ⟨by decide, rfl⟩ (by assumption) (c_X12_classOf w d μ hA.1 (s := s) (i := i) (y := y) (mm := mm) (by omega) (by omega) hk e0 e1 (by omega) hm) sv4 rfl (by omega) (Nat.le_of_ble_eq_true rfl) (Nat.le_refl _) (Nat.le_refl _) (fun v μ2 hR => ?_)
      obtain ⟨rfl, hm⟩ := hR
      replace hm := hm.symm
      subst hm
      refine g_isub dX12_laysClasses_115 ?_
      refine g_iload_n (j := 2) rfl dX12_laysClasses_116 ?_
      refine g_iadd dX12_laysClasses_117 ?_
      refine g_iload_n (j := 2) rfl dX12_laysClasses_118 ?_
      refine g_irem (by omega) (by omega) (by omega) dX12_laysClasses_119 ?_
      rw [tmx hm.1 hr]
      refine g_iadd dX12_laysClasses_120 ?_
      refine g_lald dX12_laysClasses_121 (by assumption) (by omega) (by omega) ?_
      rw [hrd]
      refine g_ladd dX12_laysClasses_122 ?_
      refine g_lstore (i := 6) dX12_laysClasses_123 (by decide) rfl lj6 ?_
      refine g_iinc (i := 8) dX12_laysClasses_125 rfl (by decide) rfl ls8 ?_
      refine g_goto (tgt := 73) (by decide) dX12_laysClasses_128 ?_
      exact ih (y + 1) _ (by omega) (by omega) kk
theorem l12_clR {μ0 : Mem} (hA0 : MA w μ0 m F) (hm : 1 ≤ mm ∧ mm ≤ 60) {s i : Int} (hs : 0 ≤ s ∧ s ≤ 3) (hi : 0 ≤ i ∧ i < (F s).length) {n : Int} (kk : ∀ (μ : Mem) (x5 x6 x8 : Option AV), FrK m μ0 μ → FillOk (mL μ (m + 18)) mm (F s) i → G w (d + 3) mX12_laysClasses R 0 0 152 [some (vP (some m)), some (vI s), some (vI mm), some (vI n), some (vI i), x5, x6, none, x8] [] μ) : ∀ (k : Nat) (r : Int) (μ : Mem) (x6 x8 : Option AV), r + k = mm → 0 ≤ r → FrK m μ0 μ → FillOk (mL μ (m + 18)) mm (F s) (i + 1) → (∀ j, 0 ≤ j → j < r → mL μ (m + 18) (60 * i + j) = clW mm ((F s).drop i.toNat) j) →
    G w (d + 3) mX12_laysClasses R 0 0 61 [some (vP (some m)), some (vI s), some (vI mm), some (vI n), some (vI i), some (vI r), x6, none, x8] [] μ := by
  have h5 := hA0.l5 hs
  intro k
  induction k with
  | zero =>
    intro r μ x6 x8 hr h0 hf hO hg
    refine g_iload (i := 5) rfl dX12_laysClasses_61 ?_
    refine g_iload_n (j := 2) rfl dX12_laysClasses_63 ?_
    refine g_icmp_ge (tgt := 152) dX12_laysClasses_64 (by decide) (by omega) (by omega) (fun h64 => ?_) (fun h64 => ?_)
    · refine kk μ _ _ _ hf fun j z1 z2 q z3 z4 => ?_
      by_cases hj : j = i
      · subst hj
        exact hg q z3 (by omega)
      · exact hO j (by omega) z2 q z3 z4
    · omega
  | succ k ih =>
    intro r μ x6 x8 hr h0 hf hO hg
    have hA := hf.MA hA0
    obtain ⟨u, hu, hku, e0, e1, e2, e3⟩ := (hA.2.1 s hs).at (t := i) hi.1 hi.2
    have hxs : 0 ≤ xsN u mm ∧ xsN u mm ≤ 120 := by unfold xsN; split <;> omega
    have hd := drop_at hi.1 hi.2 hu
    have o0 := hA.o
    have r46 := hA.1.r46
    have a46 := hA.1.a46
    refine g_iload (i := 5) rfl dX12_laysClasses_61 ?_
    refine g_iload_n (j := 2) rfl dX12_laysClasses_63 ?_
    refine g_icmp_ge (tgt := 152) dX12_laysClasses_64 (by decide) (by omega) (by omega) (fun h64 => ?_) (fun h64 => ?_)
    · omega
    · refine g_lconst0 dX12_laysClasses_67 ?_
      refine g_lstore (i := 6) dX12_laysClasses_68 (by decide) rfl lj6 ?_
      refine g_iconst dX12_laysClasses_70 ?_
      refine g_istore (i := 8) dX12_laysClasses_71 (by decide) rfl ls8 ?_
      refine l12_clX hA hm hs hi hku e0 e1 (by omega) hO (xsN u mm).toNat 0 0 (by omega) (by omega) fun y8 => ?_
      rw [Int.zero_add, show rsum (fun y => clW mm ((F s).drop (i + 1).toNat) ((r - tV u y) % mm)) 0 (xsN u mm).toNat = clW mm ((F s).drop i.toNat) r by rw [hd, clW]]
      refine g_aload_n (j := 0) rfl dX12_laysClasses_131 ?_
      refine g_getR dX12_laysClasses_132 flX12_81 rfl (by assumption) (kz := 46) rfl (by assumption) ?_
      refine g_bipush dX12_laysClasses_135 (by omega) ?_
      refine g_iload (i := 4) rfl dX12_laysClasses_137 ?_
      refine g_imul dX12_laysClasses_139 ?_
      refine g_iload (i := 5) rfl dX12_laysClasses_140 ?_
      refine g_iadd dX12_laysClasses_142 ?_
      refine g_lload (i := 6) rfl dX12_laysClasses_143 ?_
      refine g_last dX12_laysClasses_145 (by assumption) (by omega) (by omega) ?_
      refine g_iinc (i := 5) dX12_laysClasses_146 rfl (by decide) rfl ls5 ?_
      refine g_goto (tgt := 61) (by decide) dX12_laysClasses_149 ?_
      refine ih (r + 1) _ _ _ (by omega) (by omega) (FrM.tr hf (FrM.sLr rfl (by omega))) (fun j z1 z2 q z3 z4 => ?_) (fun j z1 z2 => ?_)
      · rw [mL_sL, if_neg (by omega)]
        exact hO j z1 z2 q z3 z4
      · rw [mL_sL]
        by_cases hj : j = r
        · rw [if_pos ⟨rfl, by rw [hj]⟩, hj]
        · rw [if_neg (by omega)]
          exact hg j z1 (by omega)
theorem l12_clI {μ0 : Mem} (hA0 : MA w μ0 m F) (hm : 1 ≤ mm ∧ mm ≤ 60) {s : Int} (hs : 0 ≤ s ∧ s ≤ 3) {n : Int} : ∀ (k : Nat) (i : Int) (μ : Mem) (x5 x6 x8 : Option AV), i + 1 = k → i < (F s).length → FrK m μ0 μ → FillOk (mL μ (m + 18)) mm (F s) (i + 1) →
    G w (d + 3) mX12_laysClasses (fun v μ2 => v = none ∧ FrK m μ0 μ2 ∧ FillOk (mL μ2 (m + 18)) mm (F s) 0) 0 0 53 [some (vP (some m)), some (vI s), some (vI mm), some (vI n), some (vI i), x5, x6, none, x8] [] μ := by
  have h5 := hA0.l5 hs
  intro k
  induction k with
  | zero =>
    intro i μ x5 x6 x8 hi hl hf hO
    rw [show i + 1 = 0 by omega] at hO
    refine g_iload (i := 4) rfl dX12_laysClasses_53 ?_
    refine g_if_lt (tgt := 158) dX12_laysClasses_55 (by decide) (by omega) (fun h55 => ?_) (fun h55 => ?_)
    · exact G.retV dX12_laysClasses_158 rfl ⟨rfl, hf, hO⟩
    · omega
  | succ k ih =>
    intro i μ x5 x6 x8 hi hl hf hO
    refine g_iload (i := 4) rfl dX12_laysClasses_53 ?_
    refine g_if_lt (tgt := 158) dX12_laysClasses_55 (by decide) (by omega) (fun h55 => ?_) (fun h55 => ?_)
    · omega
    · refine g_iconst dX12_laysClasses_58 ?_
      refine g_istore (i := 5) dX12_laysClasses_59 (by decide) rfl ls5 ?_
      refine l12_clR (d := d) hA0 hm hs (i := i) (by omega) (fun μ2 y5 y6 y8 hf2 hO2 => ?_) mm.toNat 0 μ _ _ (by omega) (by omega) hf hO (fun j z1 z2 => by omega)
      refine g_iinc (i := 4) dX12_laysClasses_152 rfl (by decide) rfl ls4 ?_
      refine g_goto (tgt := 53) (by decide) dX12_laysClasses_155 ?_
      exact ih (i + -1) μ2 _ _ _ (by omega) (by omega) hf2 (by rw [show i + -1 + 1 = i by omega]; exact hO2)
end KL
theorem c_laysClasses (w : WC) (d : Nat) (μ : Mem) {m : Nat} {F : Int → List Tm} (hA : MA w μ m F) {s mm : Int} (hs : 0 ≤ s ∧ s ≤ 3) (hm : 1 ≤ mm ∧ mm ≤ 60) : Con w (d + 3) mX12_laysClasses 0 0 [vP (some m), vI s, vI mm] μ (fun v μ2 => v = none ∧ FrK m μ μ2 ∧ FillOk (mL μ2 (m + 18)) mm (F s) 0) := by
  have o0 := hA.o
  have r0 := hA.1.r0
  have a0 := hA.1.a0
  have ec := (hA.2.1 s hs).1
  have h5 := hA.l5 hs
  refine Con.of (by decide) (Nat.le_of_ble_eq_true rfl) rfl ?_
  refine g_aload_n (j := 0) rfl dX12_laysClasses_0 ?_
  refine g_getR dX12_laysClasses_1 flX12_9 rfl (by assumption) (kz := 0) rfl (by assumption) ?_
  refine g_iload_n (j := 1) rfl dX12_laysClasses_4 ?_
  refine g_iald dX12_laysClasses_5 (by assumption) (by omega) (by omega) ?_
  rw [ec]
  refine g_istore_n (j := 3) dX12_laysClasses_6 (by decide) rfl ls3 ?_
  refine g_iconst dX12_laysClasses_7 ?_
  refine g_istore (i := 4) dX12_laysClasses_8 (by decide) rfl ls4 ?_
  refine l12_cl0 (d := d) hA hm (n := (F s).length) (by omega) (fun μ1 x4 hf1 hz => ?_) mm.toNat 0 μ (by omega) (by omega) FrM.rf (fun j z1 z2 => by omega)
  refine g_iload_n (j := 3) rfl dX12_laysClasses_48 ?_
  refine g_iconst dX12_laysClasses_49 ?_
  refine g_isub dX12_laysClasses_50 ?_
  refine g_istore (i := 4) dX12_laysClasses_51 (by decide) rfl ls4 ?_
  refine l12_clI (d := d) hA hm hs (F s).length _ μ1 _ _ _ (by omega) (by omega) hf1 fun j z1 z2 r z3 z4 => ?_
  have hj : j = (F s).length := by omega
  subst hj
  rw [hz r z3 z4, List.drop_eq_nil_of_le (by omega), clW]
theorem c_X12_isClass (w : WC) (d : Nat) (μ : Mem) {m : Nat} {F : Int → List Tm} (hA : MA w μ m F) {s mm r : Int} (hs : i32 s) (hm : i32 mm) (hr : i32 r) : Con w (d + 3) mX12_isClass 0 0 [vP (some m), vI s, vI mm, vI r] μ (fun v μ2 => v = some (vI (bI (HasT F s ∧ (1 ≤ mm ∧ mm ≤ 60) ∧ 0 ≤ r ∧ r < mm))) ∧ μ2 = μ) := by
  have o0 := hA.o
  refine Con.of (by decide) (Nat.le_of_ble_eq_true rfl) rfl ?_
  refine g_aload_n (j := 0) rfl dX12_isClass_0 ?_
  refine g_iload_n (j := 1) rfl dX12_isClass_1 ?_
  refine g_callV dX12_isClass_2 mlX12_274 mvX12_isForm (ci := 12) ⟨by decide, rfl⟩ (by assumption) (c_X12_isForm w d μ hA hs) sv1 rfl (by omega) (Nat.le_of_ble_eq_true rfl) (Nat.le_refl _) (Nat.le_refl _) (fun v μ2 hR => ?_)
  obtain ⟨rfl, hm⟩ := hR
  replace hm := hm.symm
  subst hm
  refine g_ifb_eq (tgt := 37) dX12_isClass_5 (by decide)  (fun h5 => ?_) (fun h5 => ?_)
  · refine g_iconst dX12_isClass_37 ?_
    first
    | exact G.retB dX12_isClass_38 rfl (eq_bI (Or.inl ⟨rfl, by assumption, by omega, by omega⟩)) ⟨rfl, rfl⟩
    | exact G.retB dX12_isClass_38 rfl (eq_bI (Or.inr ⟨rfl, fun z => by first | exact absurd z.1 (by assumption) | (have := z.2; omega)⟩)) ⟨rfl, rfl⟩
  · refine g_iload_n (j := 2) rfl dX12_isClass_8 ?_
    refine g_i2l (by omega) dX12_isClass_9 ?_
    refine g_lconst1 dX12_isClass_10 ?_
    refine g_ldc2 dX12_isClass_11 klX12_420 (z := 60) rfl ?_
    refine g_callS dX12_isClass_14 mlX12_105 msX12_isIn (c_X12_isIn w (d + 2) μ (x := mm) (a := 1) (b := 60) (by omega) (by omega) (by omega)) sk3 rfl (by omega) (Nat.le_of_ble_eq_true rfl) (Nat.le_refl _) (Nat.le_refl _) (fun v μ2 hR => ?_)
    obtain ⟨rfl, hm⟩ := hR
    replace hm := hm.symm
    subst hm
    refine g_ifb_eq (tgt := 37) dX12_isClass_17 (by decide)  (fun h17 => ?_) (fun h17 => ?_)
    · refine g_iconst dX12_isClass_37 ?_
      first
      | exact G.retB dX12_isClass_38 rfl (eq_bI (Or.inl ⟨rfl, by assumption, by omega, by omega⟩)) ⟨rfl, rfl⟩
      | exact G.retB dX12_isClass_38 rfl (eq_bI (Or.inr ⟨rfl, fun z => by first | exact absurd z.1 (by assumption) | (have := z.2; omega)⟩)) ⟨rfl, rfl⟩
    · refine g_iload_n (j := 3) rfl dX12_isClass_20 ?_
      refine g_i2l (by omega) dX12_isClass_21 ?_
      refine g_lconst0 dX12_isClass_22 ?_
      refine g_iload_n (j := 2) rfl dX12_isClass_23 ?_
      refine g_iconst dX12_isClass_24 ?_
      refine g_isub dX12_isClass_25 ?_
      refine g_i2l (by omega) dX12_isClass_26 ?_
      refine g_callS dX12_isClass_27 mlX12_105 msX12_isIn (c_X12_isIn w (d + 2) μ (x := r) (a := 0) (b := mm - 1) (by omega) (by omega) (by omega)) sk3 rfl (by omega) (Nat.le_of_ble_eq_true rfl) (Nat.le_refl _) (Nat.le_refl _) (fun v μ2 hR => ?_)
      obtain ⟨rfl, hm⟩ := hR
      replace hm := hm.symm
      subst hm
      refine g_ifb_eq (tgt := 37) dX12_isClass_30 (by decide)  (fun h30 => ?_) (fun h30 => ?_)
      · refine g_iconst dX12_isClass_37 ?_
        first
        | exact G.retB dX12_isClass_38 rfl (eq_bI (Or.inl ⟨rfl, by assumption, by omega, by omega⟩)) ⟨rfl, rfl⟩
        | exact G.retB dX12_isClass_38 rfl (eq_bI (Or.inr ⟨rfl, fun z => by first | exact absurd z.1 (by assumption) | (have := z.2; omega)⟩)) ⟨rfl, rfl⟩
      · refine g_iconst dX12_isClass_33 ?_
        refine g_goto (tgt := 38) (by decide) dX12_isClass_34 ?_
        first
        | exact G.retB dX12_isClass_38 rfl (eq_bI (Or.inl ⟨rfl, by assumption, by omega, by omega⟩)) ⟨rfl, rfl⟩
        | exact G.retB dX12_isClass_38 rfl (eq_bI (Or.inr ⟨rfl, fun z => by first | exact absurd z.1 (by assumption) | (have := z.2; omega)⟩)) ⟨rfl, rfl⟩
theorem c_X12_met (w : WC) (d : Nat) (μ : Mem) {m : Nat} {F : Int → List Tm} (hA : MA w μ m F) {s : Int} (hs : i32 s) {mm r : Int} (hm : i32 mm) (hr : i32 r) : Con w (d + 4) mX12_met 0 0 [vP (some m), vI s, vI mm, vI r] μ (Bm w μ m F (vJ (aMet F s mm r))) := by
  have o0 := hA.o
  refine Con.of (by decide) (Nat.le_of_ble_eq_true rfl) rfl ?_
  refine g_aload_n (j := 0) rfl dX12_met_0 ?_
  refine g_iload_n (j := 1) rfl dX12_met_1 ?_
  refine g_iload_n (j := 2) rfl dX12_met_2 ?_
  refine g_iload_n (j := 3) rfl dX12_met_3 ?_
  refine g_callV dX12_met_4 mlX12_432 mvX12_isClass (ci := 12) ⟨by decide, rfl⟩ (by assumption) (c_X12_isClass w d μ hA hs hm hr) sv3 rfl (by omega) (Nat.le_of_ble_eq_true rfl) (Nat.le_refl _) (Nat.le_refl _) (fun v μ2 hR => ?_)
  obtain ⟨rfl, hm⟩ := hR
  replace hm := hm.symm
  subst hm
  refine g_ifb_ne (tgt := 14) dX12_met_7 (by decide)  (fun h7 => ?_) (fun h7 => ?_)
  · have hv := h7
    have hv2 := h7.2
    refine g_aload_n (j := 0) rfl dX12_met_14 ?_
    refine g_iload_n (j := 1) rfl dX12_met_15 ?_
    refine g_iload_n (j := 2) rfl dX12_met_16 ?_
    refine g_callV dX12_met_17 mlX12_422 mvX12_laysClasses (ci := 12) ⟨by decide, rfl⟩ (by assumption) (c_laysClasses w d μ hA hv.1.1 (mm := mm) (by omega)) sv2 rfl (by omega) (Nat.le_of_ble_eq_true rfl) (Nat.le_refl _) (Nat.le_refl _) (fun v μ2 hR => ?_)
    obtain ⟨rfl, hf2, hO2⟩ := hR
    have hA2 := hf2.MA hA
    have o0b := hA2.o
    have r46b := hA2.1.r46
    have a46b := hA2.1.a46
    refine g_aload_n (j := 0) rfl dX12_met_20 ?_
    refine g_getR dX12_met_21 flX12_81 rfl (by assumption) (kz := 46) rfl (by assumption) ?_
    refine g_iload_n (j := 3) rfl dX12_met_24 ?_
    refine g_lald dX12_met_25 (by assumption) (by omega) (by omega) ?_
    have e := hO2.at0 (r := r) (by omega) (by omega)
    rw [show 60 * 0 + r = r by omega] at e
    rw [e]
    exact G.retJ dX12_met_26 rfl (by rw [aMet, cI_t hv]; exact hf2.Bm hA)
  · refine g_ldc2 dX12_met_10 klX12_280 (z := -1) rfl ?_
    exact G.retJ dX12_met_13 rfl (by rw [aMet, cI_f h7]; exact Bm.no hA)
theorem l12_never {w : WC} {d : Nat} {μ : Mem} {m : Nat} {ts : List Tm} (hM : MoS w μ m) {mm : Int} (hm : 1 ≤ mm ∧ mm ≤ 60) (hO : FillOk (mL μ (m + 18)) mm ts 0) (h5 : ts.length ≤ 5) {s i : Int} (hi : i32 i) : ∀ (n : Nat) (r f : Int), r + n = mm → 0 ≤ r → 0 ≤ f → f ≤ r →
    G w (d + 1) mX12_never (fun v μ2 => v = some (vI (pick (fun r => decide (clW mm ts r = 0)) i (-1) n r f)) ∧ μ2 = μ) 0 0 24 [some (vP (some m)), some (vI s), some (vI mm), some (vI i), some (vI f), some (vI r)] [] μ := by
  have o0 := hM.o
  have r46 := hM.r46
  have a46 := hM.a46
  intro n
  induction n with
  | zero =>
    intro r f hr h0 hf hf2
    refine g_iload (i := 5) rfl dX12_never_24 ?_
    refine g_iload_n (j := 2) rfl dX12_never_26 ?_
    refine g_icmp_ge (tgt := 63) dX12_never_27 (by decide) (by omega) (by omega) (fun h27 => ?_) (fun h27 => ?_)
    · refine g_iload_n (j := 3) rfl dX12_never_63 ?_
      refine g_iconst dX12_never_64 ?_
      refine g_icmp_ne (tgt := 73) dX12_never_65 (by decide) (by omega) (by omega) (fun h65 => ?_) (fun h65 => ?_)
      · refine g_iconst dX12_never_73 ?_
        exact G.retI dX12_never_74 rfl ⟨by rw [pick]; first | rw [if_pos (by omega)] | rw [if_neg (by omega)], rfl⟩
      · refine g_iload (i := 4) rfl dX12_never_68 ?_
        refine g_goto (tgt := 74) (by decide) dX12_never_70 ?_
        exact G.retI dX12_never_74 rfl ⟨by rw [pick]; first | rw [if_pos (by omega)] | rw [if_neg (by omega)], rfl⟩
    · omega
  | succ n ih =>
    intro r f hr h0 hf hf2
    have hw := clW_64 hm h5 r
    have e := hO.at0 (r := r) (by omega) (by omega)
    rw [show 60 * 0 + r = r by omega] at e
    refine g_iload (i := 5) rfl dX12_never_24 ?_
    refine g_iload_n (j := 2) rfl dX12_never_26 ?_
    refine g_icmp_ge (tgt := 63) dX12_never_27 (by decide) (by omega) (by omega) (fun h27 => ?_) (fun h27 => ?_)
    · omega
    · refine g_aload_n (j := 0) rfl dX12_never_30 ?_
      refine g_getR dX12_never_31 flX12_81 rfl (by assumption) (kz := 46) rfl (by assumption) ?_
      refine g_iload (i := 5) rfl dX12_never_34 ?_
      refine g_lald dX12_never_36 (by assumption) (by omega) (by omega) ?_
      rw [e]
      refine g_lconst0 dX12_never_37 ?_
      refine g_lif_le (tgt := 45) dX12_never_38 dX12_never_39 (by decide) (by omega) (by omega) (fun h38 => ?_) (fun h38 => ?_)
      · refine g_iload (i := 4) rfl dX12_never_45 ?_
        refine g_iload_n (j := 3) rfl dX12_never_47 ?_
        refine g_icmp_ne (tgt := 54) dX12_never_48 (by decide) (by omega) (by omega) (fun h48 => ?_) (fun h48 => ?_)
        · refine g_iinc (i := 4) dX12_never_54 rfl (by decide) rfl ls4 ?_
          refine g_iinc (i := 5) dX12_never_57 rfl (by decide) rfl ls5 ?_
          refine g_goto (tgt := 24) (by decide) dX12_never_60 ?_
          rw [pick]
          first
          | (rw [if_neg (by simp only [decide_eq_true_eq]; omega)]; exact ih (r + 1) f (by omega) (by omega) (by omega) (by omega))
          | (rw [if_pos (by simp only [decide_eq_true_eq]; omega), if_neg (by omega)]; exact ih (r + 1) (f + 1) (by omega) (by omega) (by omega) (by omega))
        · refine g_iload (i := 5) rfl dX12_never_51 ?_
          exact G.retI dX12_never_53 rfl ⟨by rw [pick, if_pos (by simp only [decide_eq_true_eq]; omega), if_pos (by omega)], rfl⟩
      · refine g_goto (tgt := 57) (by decide) dX12_never_42 ?_
        refine g_iinc (i := 5) dX12_never_57 rfl (by decide) rfl ls5 ?_
        refine g_goto (tgt := 24) (by decide) dX12_never_60 ?_
        rw [pick]
        first
        | (rw [if_neg (by simp only [decide_eq_true_eq]; omega)]; exact ih (r + 1) f (by omega) (by omega) (by omega) (by omega))
        | (rw [if_pos (by simp only [decide_eq_true_eq]; omega), if_neg (by omega)]; exact ih (r + 1) (f + 1) (by omega) (by omega) (by omega) (by omega))
theorem c_X12_never (w : WC) (d : Nat) (μ : Mem) {m : Nat} {F : Int → List Tm} (hA : MA w μ m F) {s : Int} (hs : i32 s) {mm i : Int} (hm : i32 mm) (hi : i32 i) : Con w (d + 4) mX12_never 0 0 [vP (some m), vI s, vI mm, vI i] μ (fun v μ2 => v = some (vI (aNever F s mm i)) ∧ FrK m μ μ2) := by
  have o0 := hA.o
  refine Con.of (by decide) (Nat.le_of_ble_eq_true rfl) rfl ?_
  refine g_aload_n (j := 0) rfl dX12_never_0 ?_
  refine g_iload_n (j := 1) rfl dX12_never_1 ?_
  refine g_iload_n (j := 2) rfl dX12_never_2 ?_
  refine g_iconst dX12_never_3 ?_
  refine g_callV dX12_never_4 mlX12_432 mvX12_isClass (ci := 12) ⟨by decide, rfl⟩ (by assumption) (c_X12_isClass w d μ hA hs hm (r := 0) (by omega)) sv3 rfl (by omega) (Nat.le_of_ble_eq_true rfl) (Nat.le_refl _) (Nat.le_refl _) (fun v μ2 hR => ?_)
  obtain ⟨rfl, hm⟩ := hR
  replace hm := hm.symm
  subst hm
  refine g_ifb_ne (tgt := 12) dX12_never_7 (by decide)  (fun h7 => ?_) (fun h7 => ?_)
  · have hv := h7
    have hv2 := h7.2
    refine g_aload_n (j := 0) rfl dX12_never_12 ?_
    refine g_iload_n (j := 1) rfl dX12_never_13 ?_
    refine g_iload_n (j := 2) rfl dX12_never_14 ?_
    refine g_callV dX12_never_15 mlX12_422 mvX12_laysClasses (ci := 12) ⟨by decide, rfl⟩ (by assumption) (c_laysClasses w d μ hA hv.1.1 (mm := mm) (by omega)) sv2 rfl (by omega) (Nat.le_of_ble_eq_true rfl) (Nat.le_refl _) (Nat.le_refl _) (fun v μ2 hR => ?_)
    obtain ⟨rfl, hf2, hO2⟩ := hR
    have hA2 := hf2.MA hA
    have o0b := hA2.o
    have r46b := hA2.1.r46
    have a46b := hA2.1.a46
    refine g_iconst dX12_never_18 ?_
    refine g_istore (i := 4) dX12_never_19 (by decide) rfl ls4 ?_
    refine g_iconst dX12_never_21 ?_
    refine g_istore (i := 5) dX12_never_22 (by decide) rfl ls5 ?_
    refine G.post (fun v μ3 hq => ?_) (l12_never (d := d + 3) hA2.1 (mm := mm) (by omega) hO2 (hA.l5 hv.1.1) hi mm.toNat 0 0 (by omega) (by omega) (by omega) (by omega))
    obtain ⟨rfl, rfl⟩ := hq
    refine ⟨?_, hf2⟩
    by_cases hi1 : -1 ≤ i
    · rw [aNever, cI_t ⟨hv.1, by omega, hi1⟩]
    · rw [aNever, cI_f (fun z => hi1 z.2.2), pick_lo _ _ (by omega) _ _ _ (by omega)]
  · refine g_iconst dX12_never_10 ?_
    exact G.retI dX12_never_11 rfl ⟨by rw [aNever, cI_f (fun z => h7 ⟨z.1, by omega, by omega, by omega⟩)], FrM.rf⟩
theorem pick_pos (p : Int → Bool) (z : Int) : ∀ (k : Nat) (n f : Int), 0 ≤ f → (f ≤ pick p (-1) z k n f ∧ pick p (-1) z k n f ≤ f + k) ∧ (f < pick p (-1) z k n f ↔ ∃ r, (n ≤ r ∧ r < n + k) ∧ p r = true)
  | 0, n, f, h => by
    rw [pick, if_pos rfl]
    exact ⟨by omega, fun q => by omega, fun ⟨r, q, _⟩ => by omega⟩
  | k + 1, n, f, h => by
    rw [pick]
    by_cases hp : p n = true
    · rw [if_pos hp, if_neg (by omega)]
      have ih := pick_pos p z k (n + 1) (f + 1) (by omega)
      exact ⟨by omega, fun _ => ⟨n, by omega, hp⟩, fun _ => by omega⟩
    · rw [if_neg hp]
      obtain ⟨ih1, ih2⟩ := pick_pos p z k (n + 1) f h
      refine ⟨by omega, fun q => ?_, fun ⟨r, q1, q2⟩ => ih2.mpr ⟨r, ?_, q2⟩⟩
      · obtain ⟨r, q1, q2⟩ := ih2.mp q
        exact ⟨r, by omega, q2⟩
      · have : ¬ r = n := fun e => hp (e ▸ q2)
        omega
theorem l12_bars {w : WC} {d m : Nat} {F : Int → List Tm} {μ0 : Mem} (hA0 : MA w μ0 m F) {s : Int} (hs : HasT F s) : ∀ (k : Nat) (mm : Int) (μ : Mem), mm + k = 61 → 1 ≤ mm → FrK m μ0 μ →
    G w (d + 5) mX12_bars (fun v μ2 => v = some (vI (brF (F s) k mm)) ∧ FrK m μ0 μ2) 0 0 12 [some (vP (some m)), some (vI s), some (vI mm)] [] μ := by
  have hs3 := hs.1
  intro k
  induction k with
  | zero =>
    intro mm μ hm h0 hf
    refine g_iload_n (j := 2) rfl dX12_bars_12 ?_
    refine g_bipush dX12_bars_13 (by omega) ?_
    refine g_icmp_gt (tgt := 36) dX12_bars_15 (by decide) (by omega) (by omega) (fun h15 => ?_) (fun h15 => ?_)
    · refine g_iconst dX12_bars_36 ?_
      exact G.retI dX12_bars_37 rfl ⟨by rw [brF], hf⟩
    · omega
  | succ k ih =>
    intro mm μ hm h0 hf
    have hA := hf.MA hA0
    have o0 := hA.o
    have hp := pick_pos (fun r => decide (clW mm (F s) r = 0)) (-1) mm.toNat 0 0 (by omega)
    have he : aNever F s mm (-1) = pick (fun r => decide (clW mm (F s) r = 0)) (-1) (-1) mm.toNat 0 0 := by rw [aNever, cI_t ⟨hs, by omega, by omega⟩]
    have hq : 0 < aNever F s mm (-1) ↔ ∃ r, (0 ≤ r ∧ r < mm) ∧ clW mm (F s) r = 0 := by
      rw [he, hp.2]
      exact ⟨fun ⟨r, a, b⟩ => ⟨r, by omega, by simpa using b⟩, fun ⟨r, a, b⟩ => ⟨r, by omega, by simpa using b⟩⟩
    have hb : -1 ≤ aNever F s mm (-1) ∧ aNever F s mm (-1) ≤ 60 := by rw [he]; omega
    refine g_iload_n (j := 2) rfl dX12_bars_12 ?_
    refine g_bipush dX12_bars_13 (by omega) ?_
    refine g_icmp_gt (tgt := 36) dX12_bars_15 (by decide) (by omega) (by omega) (fun h15 => ?_) (fun h15 => ?_)
    · omega
    · refine g_aload_n (j := 0) rfl dX12_bars_18 ?_
      refine g_iload_n (j := 1) rfl dX12_bars_19 ?_
      refine g_iload_n (j := 2) rfl dX12_bars_20 ?_
      refine g_iconst dX12_bars_21 ?_
      refine g_callV dX12_bars_22 mlX12_435 mvX12_never (ci := 12) ⟨by decide, rfl⟩ (by assumption) (c_X12_never w d μ hA (s := s) (by omega) (mm := mm) (i := -1) (by omega) (by omega)) sv3 rfl (by omega) (Nat.le_of_ble_eq_true rfl) (Nat.le_refl _) (Nat.le_refl _) (fun v μ2 hR => ?_)
      obtain ⟨rfl, hf2⟩ := hR
      refine g_if_le (tgt := 30) dX12_bars_25 (by decide) (by omega) (fun h25 => ?_) (fun h25 => ?_)
      · refine g_iinc (i := 2) dX12_bars_30 rfl (by decide) rfl ls2 ?_
        refine g_goto (tgt := 12) (by decide) dX12_bars_33 ?_
        rw [brF, cI_f (fun z => by have := hq.mpr z; omega)]
        exact ih (mm + 1) μ2 (by omega) (by omega) (FrM.tr hf hf2)
      · refine g_iload_n (j := 2) rfl dX12_bars_28 ?_
        exact G.retI dX12_bars_29 rfl ⟨by rw [brF, cI_t (hq.mp (by omega))], FrM.tr hf hf2⟩
theorem c_X12_bars (w : WC) (d : Nat) (μ : Mem) {m : Nat} {F : Int → List Tm} (hA : MA w μ m F) {s : Int} (hs : i32 s) : Con w (d + 5) mX12_bars 0 0 [vP (some m), vI s] μ (Bm w μ m F (vI (aBars F s))) := by
  have o0 := hA.o
  refine Con.of (by decide) (Nat.le_of_ble_eq_true rfl) rfl ?_
  refine g_aload_n (j := 0) rfl dX12_bars_0 ?_
  refine g_iload_n (j := 1) rfl dX12_bars_1 ?_
  refine g_callV dX12_bars_2 mlX12_274 mvX12_isForm (ci := 12) ⟨by decide, rfl⟩ (by assumption) (c_X12_isForm w (d + 2) μ hA hs) sv1 rfl (by omega) (Nat.le_of_ble_eq_true rfl) (Nat.le_refl _) (Nat.le_refl _) (fun v μ2 hR => ?_)
  obtain ⟨rfl, hm⟩ := hR
  replace hm := hm.symm
  subst hm
  refine g_ifb_ne (tgt := 10) dX12_bars_5 (by decide)  (fun h5 => ?_) (fun h5 => ?_)
  · refine g_iconst dX12_bars_10 ?_
    refine g_istore_n (j := 2) dX12_bars_11 (by decide) rfl ls2 ?_
    refine G.post (fun v μ3 hq => ?_) (l12_bars (d := d) hA h5 60 1 μ (by omega) (by omega) FrM.rf)
    obtain ⟨rfl, hf⟩ := hq
    rw [aBars, cI_t h5]
    exact FrK.Bm hf hA
  · refine g_iconst dX12_bars_8 ?_
    exact G.retI dX12_bars_9 rfl (by rw [aBars, cI_f h5]; exact Bm.no hA)
theorem l12_mx {w : WC} {d : Nat} {R : Option AV → Mem → Prop} {μ : Mem} {m : Nat} {F : Int → List Tm} (hA : MA w μ m F) {mm : Int} (hm : 1 ≤ mm ∧ mm ≤ 60) {s : Int} (hs : 0 ≤ s ∧ s ≤ 3) (hO : FillOk (mL μ (m + 18)) mm (F s) 0) {r i rs t : Int} {u : Tm} (ht : 0 ≤ t ∧ t < (F s).length) (hk : TOk u) (e0 : mI μ (m + 2) (4 * (5 * s + t) + 0) = tF u) (e1 : mI μ (m + 2) (4 * (5 * s + t) + 1) = tK u) (hr : 0 ≤ rs ∧ rs < mm) : ∀ (n : Nat) (y : Int), y + n = xsN u mm → 0 ≤ y → 0 < rsum (fun y => clW mm ((F s).drop (t + 1).toNat) ((rs - tV u y) % mm)) y n →
    (G w (d + 3) mX12_meets R 0 0 101 [some (vP (some m)), some (vI s), some (vI mm), some (vI r), some (vI i), some (vI rs), some (vI (fxF (fun y => decide (0 < clW mm ((F s).drop (t + 1).toNat) ((rs - tV u y) % mm))) n y)), some (vI t)] [] μ) →
    G w (d + 3) mX12_meets R 0 0 60 [some (vP (some m)), some (vI s), some (vI mm), some (vI r), some (vI i), some (vI rs), some (vI y), some (vI t)] [] μ := by
  have hxs : 0 ≤ xsN u mm ∧ xsN u mm ≤ 120 := by unfold xsN; split <;> omega
  have o0 := hA.o
  have r46 := hA.1.r46
  have a46 := hA.1.a46
  have h5 := hA.l5 hs
  intro n
  induction n with
  | zero =>
    intro y hy h0 hp kk
    simp [rsum] at hp
  | succ n ih =>
    intro y hy h0 hp kk
    have hb1 := Int.emod_nonneg (rs - tV u y) (show mm ≠ 0 by omega)
    have hb2 := Int.emod_lt_of_pos (rs - tV u y) (show 0 < mm by omega)
    have hb3 := Int.emod_nonneg (tV u y) (show mm ≠ 0 by omega)
    have hb4 := Int.emod_lt_of_pos (tV u y) (show 0 < mm by omega)
    have hw := clW_64 hm (ts := (F s).drop (t + 1).toNat) (by rw [List.length_drop]; omega) ((rs - tV u y) % mm)
    have hrd := hO (t + 1) (by omega) (by omega) _ hb1 hb2
    rw [rsum] at hp
    rw [fxF] at kk
    refine g_aload_n (j := 0) rfl dX12_meets_60 ?_
    refine g_getR dX12_meets_61 flX12_81 rfl (by assumption) (kz := 46) rfl (by assumption) ?_
    refine g_bipush dX12_meets_64 (by omega) ?_
    refine g_iload (i := 7) rfl dX12_meets_66 ?_
    refine g_iconst dX12_meets_68 ?_
    refine g_iadd dX12_meets_69 ?_
    refine g_imul dX12_meets_70 ?_
    refine g_iload (i := 5) rfl dX12_meets_71 ?_
    refine g_aload_n (j := 0) rfl dX12_meets_73 ?_
    refine g_iload_n (j := 1) rfl dX12_meets_74 ?_
    refine g_iload (i := 7) rfl dX12_meets_75 ?_
    refine g_iload (i := 6) rfl dX12_meets_77 ?_
    refine g_iload_n (j := 2) rfl dX12_meets_79 ?_
    refine g_callV dX12_meets_80 mlX12_428 mvX12_classOf (ci := 12) ⟨by decide, rfl⟩ (by assumption) (c_X12_classOf w d μ hA.1 (s := s) (i := t) (y := y) (mm := mm) (by omega) (by omega) hk e0 e1 (by omega) hm) sv4 rfl (by omega) (Nat.le_of_ble_eq_true rfl) (Nat.le_refl _) (Nat.le_refl _) (fun v μ2 hR => ?_)
    obtain ⟨rfl, hm⟩ := hR
    replace hm := hm.symm
    subst hm
    refine g_isub dX12_meets_83 ?_
    refine g_iload_n (j := 2) rfl dX12_meets_84 ?_
    refine g_iadd dX12_meets_85 ?_
    refine g_iload_n (j := 2) rfl dX12_meets_86 ?_
    refine g_irem (by omega) (by omega) (by omega) dX12_meets_87 ?_
    rw [tmx hm.1 hr]
    refine g_iadd dX12_meets_88 ?_
    refine g_lald dX12_meets_89 (by assumption) (by omega) (by omega) ?_
    rw [hrd]
    refine g_lconst0 dX12_meets_90 ?_
    refine g_lif_ne (tgt := 101) dX12_meets_91 dX12_meets_92 (by decide) (by omega) (by omega) (fun h91 => ?_) (fun h91 => ?_)
    · rw [if_pos (by simp only [decide_eq_true_eq]; omega)] at kk
      exact kk
    · refine g_iinc (i := 6) dX12_meets_95 rfl (by decide) rfl ls6 ?_
      refine g_goto (tgt := 60) (by decide) dX12_meets_98 ?_
      rw [if_neg (by simp only [decide_eq_true_eq]; omega)] at kk
      exact ih (y + 1) (by omega) (by omega) (by omega) kk
theorem fxF_pos {f : Int → Int} : ∀ (n : Nat) (y : Int), 0 ≤ y → 0 < rsum f y n → (y ≤ fxF (fun y => decide (0 < f y)) n y ∧ fxF (fun y => decide (0 < f y)) n y < y + n) ∧ 0 < f (fxF (fun y => decide (0 < f y)) n y)
  | 0, y, h0, h => by simp [rsum] at h
  | n + 1, y, h0, h => by
    rw [rsum] at h
    rw [fxF]
    by_cases hp : 0 < f y
    · rw [if_pos (by simpa using hp)]
      exact ⟨by omega, hp⟩
    · rw [if_neg (by simpa using hp)]
      have := fxF_pos (f := f) n (y + 1) (by omega) (by omega)
      exact ⟨by omega, this.2⟩
theorem l12_meets {w : WC} {d : Nat} {μ : Mem} {m : Nat} {F : Int → List Tm} (hA : MA w μ m F) {mm : Int} (hm : 1 ≤ mm ∧ mm ≤ 60) {s : Int} (hs : 0 ≤ s ∧ s ≤ 3) (hO : FillOk (mL μ (m + 18)) mm (F s) 0) {r i : Int} (hi : i < (F s).length) : ∀ (n : Nat) (t rs : Int) (x6 : Option AV), t + n = i → 0 ≤ t → 0 ≤ rs ∧ rs < mm → 0 < clW mm ((F s).drop t.toNat) rs →
    G w (d + 3) mX12_meets (fun v μ2 => v = some (vI (frF mm i ((F s).drop t.toNat) t rs)) ∧ μ2 = μ) 0 0 50 [some (vP (some m)), some (vI s), some (vI mm), some (vI r), some (vI i), some (vI rs), x6, some (vI t)] [] μ := by
  have h5 := hA.l5 hs
  have o0 := hA.o
  intro n
  induction n with
  | zero =>
    intro t rs x6 ht h0 hr hp
    obtain ⟨u, hu, hku, e0, e1, e2, e3⟩ := (hA.2.1 s hs).at (t := t) h0 (by omega)
    have hxs : 0 ≤ xsN u mm ∧ xsN u mm ≤ 120 := by unfold xsN; split <;> omega
    have hd := drop_at h0 (by omega) hu
    have hfb := fxU_bd hm u ((F s).drop (t + 1).toNat) rs
    rw [hd] at hp
    rw [hd, frF, if_pos (Or.inr (by omega))]
    unfold clW at hp
    have hfp := fxF_pos _ _ (by omega) hp
    refine g_iload (i := 7) rfl dX12_meets_50 ?_
    refine g_iload (i := 4) rfl dX12_meets_52 ?_
    refine g_icmp_gt (tgt := 126) dX12_meets_54 (by decide) (by omega) (by omega) (fun h54 => ?_) (fun h54 => ?_)
    · omega
    · refine g_iconst dX12_meets_57 ?_
      refine g_istore (i := 6) dX12_meets_58 (by decide) rfl ls6 ?_
      refine l12_mx hA hm hs hO (by omega) hku e0 e1 hr (xsN u mm).toNat 0 (by omega) (by omega) hp ?_
      rw [show fxF (fun y => decide (0 < clW mm ((F s).drop (t + 1).toNat) ((rs - tV u y) % mm))) (xsN u mm).toNat 0 = fxU mm u ((F s).drop (t + 1).toNat) rs from rfl] at hfp ⊢
      have hb3 := Int.emod_nonneg (tV u (fxU mm u ((F s).drop (t + 1).toNat) rs)) (show mm ≠ 0 by omega)
      have hb4 := Int.emod_lt_of_pos (tV u (fxU mm u ((F s).drop (t + 1).toNat) rs)) (show 0 < mm by omega)
      refine g_iload (i := 5) rfl dX12_meets_101 ?_
      refine g_aload_n (j := 0) rfl dX12_meets_103 ?_
      refine g_iload_n (j := 1) rfl dX12_meets_104 ?_
      refine g_iload (i := 7) rfl dX12_meets_105 ?_
      refine g_iload (i := 6) rfl dX12_meets_107 ?_
      refine g_iload_n (j := 2) rfl dX12_meets_109 ?_
      refine g_callV dX12_meets_110 mlX12_428 mvX12_classOf (ci := 12) ⟨by decide, rfl⟩ (by assumption) (c_X12_classOf w d μ hA.1 (s := s) (i := t) (y := fxU mm u ((F s).drop (t + 1).toNat) rs) (mm := mm) (by omega) (by omega) hku e0 e1 (by omega) hm) sv4 rfl (by omega) (Nat.le_of_ble_eq_true rfl) (Nat.le_refl _) (Nat.le_refl _) (fun v μ2 hR => ?_)
      obtain ⟨rfl, hm⟩ := hR
      replace hm := hm.symm
      subst hm
      refine g_isub dX12_meets_113 ?_
      refine g_iload_n (j := 2) rfl dX12_meets_114 ?_
      refine g_iadd dX12_meets_115 ?_
      refine g_iload_n (j := 2) rfl dX12_meets_116 ?_
      refine g_irem (by omega) (by omega) (by omega) dX12_meets_117 ?_
      refine g_istore (i := 5) dX12_meets_118 (by decide) rfl ls5 ?_
      refine g_iinc (i := 7) dX12_meets_120 rfl (by decide) rfl ls7 ?_
      refine g_goto (tgt := 50) (by decide) dX12_meets_123 ?_
      refine g_iload (i := 7) rfl dX12_meets_50 ?_
      refine g_iload (i := 4) rfl dX12_meets_52 ?_
      refine g_icmp_gt (tgt := 126) dX12_meets_54 (by decide) (by omega) (by omega) (fun h54 => ?_) (fun h54 => ?_)
      · refine g_iload (i := 6) rfl dX12_meets_126 ?_
        exact G.retI dX12_meets_128 rfl ⟨rfl, rfl⟩
      · omega
  | succ n ih =>
    intro t rs x6 ht h0 hr hp
    obtain ⟨u, hu, hku, e0, e1, e2, e3⟩ := (hA.2.1 s hs).at (t := t) h0 (by omega)
    have hxs : 0 ≤ xsN u mm ∧ xsN u mm ≤ 120 := by unfold xsN; split <;> omega
    have hd := drop_at h0 (by omega) hu
    have ht1 : (t + 1).toNat = t.toNat + 1 := by omega
    have hfb := fxU_bd hm u ((F s).drop (t + 1).toNat) rs
    rw [hd] at hp
    unfold clW at hp
    have hfp := fxF_pos _ _ (by omega) hp
    rw [hd, frF, if_neg (fun z => by unfold fxU at z; omega)]
    refine g_iload (i := 7) rfl dX12_meets_50 ?_
    refine g_iload (i := 4) rfl dX12_meets_52 ?_
    refine g_icmp_gt (tgt := 126) dX12_meets_54 (by decide) (by omega) (by omega) (fun h54 => ?_) (fun h54 => ?_)
    · omega
    · refine g_iconst dX12_meets_57 ?_
      refine g_istore (i := 6) dX12_meets_58 (by decide) rfl ls6 ?_
      refine l12_mx hA hm hs hO (by omega) hku e0 e1 hr (xsN u mm).toNat 0 (by omega) (by omega) hp ?_
      rw [show fxF (fun y => decide (0 < clW mm ((F s).drop (t + 1).toNat) ((rs - tV u y) % mm))) (xsN u mm).toNat 0 = fxU mm u ((F s).drop (t + 1).toNat) rs from rfl] at hfp ⊢
      have hb3 := Int.emod_nonneg (tV u (fxU mm u ((F s).drop (t + 1).toNat) rs)) (show mm ≠ 0 by omega)
      have hb4 := Int.emod_lt_of_pos (tV u (fxU mm u ((F s).drop (t + 1).toNat) rs)) (show 0 < mm by omega)
      refine g_iload (i := 5) rfl dX12_meets_101 ?_
      refine g_aload_n (j := 0) rfl dX12_meets_103 ?_
      refine g_iload_n (j := 1) rfl dX12_meets_104 ?_
      refine g_iload (i := 7) rfl dX12_meets_105 ?_
      refine g_iload (i := 6) rfl dX12_meets_107 ?_
      refine g_iload_n (j := 2) rfl dX12_meets_109 ?_
      refine g_callV dX12_meets_110 mlX12_428 mvX12_classOf (ci := 12) ⟨by decide, rfl⟩ (by assumption) (c_X12_classOf w d μ hA.1 (s := s) (i := t) (y := fxU mm u ((F s).drop (t + 1).toNat) rs) (mm := mm) (by omega) (by omega) hku e0 e1 (by omega) hm) sv4 rfl (by omega) (Nat.le_of_ble_eq_true rfl) (Nat.le_refl _) (Nat.le_refl _) (fun v μ2 hR => ?_)
      obtain ⟨rfl, hm⟩ := hR
      replace hm := hm.symm
      subst hm
      refine g_isub dX12_meets_113 ?_
      refine g_iload_n (j := 2) rfl dX12_meets_114 ?_
      refine g_iadd dX12_meets_115 ?_
      refine g_iload_n (j := 2) rfl dX12_meets_116 ?_
      refine g_irem (by omega) (by omega) (by omega) dX12_meets_117 ?_
      rw [tmx hm.1 hr]
      refine g_istore (i := 5) dX12_meets_118 (by decide) rfl ls5 ?_
      refine g_iinc (i := 7) dX12_meets_120 rfl (by decide) rfl ls7 ?_
      refine g_goto (tgt := 50) (by decide) dX12_meets_123 ?_
      exact ih (t + 1) _ _ (by omega) (by omega) ⟨Int.emod_nonneg _ (by omega), Int.emod_lt_of_pos _ (by omega)⟩ hfp.2
theorem c_X12_meets (w : WC) (d : Nat) (μ : Mem) {m : Nat} {F : Int → List Tm} (hA : MA w μ m F) {s : Int} (hs : i32 s) {mm r i : Int} (hm : i32 mm) (hr : i32 r) (hi : i32 i) : Con w (d + 4) mX12_meets 0 0 [vP (some m), vI s, vI mm, vI r, vI i] μ (Bm w μ m F (vI (aMeets F s mm r i))) := by
  have o0 := hA.o
  refine Con.of (by decide) (Nat.le_of_ble_eq_true rfl) rfl ?_
  refine g_aload_n (j := 0) rfl dX12_meets_0 ?_
  refine g_iload_n (j := 1) rfl dX12_meets_1 ?_
  refine g_iload_n (j := 2) rfl dX12_meets_2 ?_
  refine g_iload_n (j := 3) rfl dX12_meets_3 ?_
  refine g_callV dX12_meets_4 mlX12_432 mvX12_isClass (ci := 12) ⟨by decide, rfl⟩ (by assumption) (c_X12_isClass w d μ hA hs hm hr) sv3 rfl (by omega) (Nat.le_of_ble_eq_true rfl) (Nat.le_refl _) (Nat.le_refl _) (fun v μ2 hR => ?_)
  obtain ⟨rfl, hm⟩ := hR
  replace hm := hm.symm
  subst hm
  refine g_ifb_eq (tgt := 20) dX12_meets_7 (by decide)  (fun h7 => ?_) (fun h7 => ?_)
  · refine g_iconst dX12_meets_20 ?_
    exact G.retI dX12_meets_21 rfl (by rw [aMeets, cI_f (by first | exact fun z => h7 ⟨⟨z.1.1.1, by have := z.1.1.2; omega⟩, z.1.2⟩ | exact fun z => h17 z.1.1)]; exact Bm.no hA)
  · refine g_aload_n (j := 0) rfl dX12_meets_10 ?_
    refine g_iload_n (j := 1) rfl dX12_meets_11 ?_
    refine g_iload (i := 4) rfl dX12_meets_12 ?_
    refine g_callV dX12_meets_14 mlX12_313 mvX12_isTerm (ci := 12) ⟨by decide, rfl⟩ (by assumption) (c_X12_isTerm w (d + 1) μ hA hs hi) sv2 rfl (by omega) (Nat.le_of_ble_eq_true rfl) (Nat.le_refl _) (Nat.le_refl _) (fun v μ2 hR => ?_)
    obtain ⟨rfl, hm⟩ := hR
    replace hm := hm.symm
    subst hm
    refine g_ifb_ne (tgt := 22) dX12_meets_17 (by decide)  (fun h17 => ?_) (fun h17 => ?_)
    · have hv2 := h7.2
      have hv3 := h17.2
      refine g_aload_n (j := 0) rfl dX12_meets_22 ?_
      refine g_iload_n (j := 1) rfl dX12_meets_23 ?_
      refine g_iload_n (j := 2) rfl dX12_meets_24 ?_
      refine g_callV dX12_meets_25 mlX12_422 mvX12_laysClasses (ci := 12) ⟨by decide, rfl⟩ (by assumption) (c_laysClasses w d μ hA h17.1 (mm := mm) (by omega)) sv2 rfl (by omega) (Nat.le_of_ble_eq_true rfl) (Nat.le_refl _) (Nat.le_refl _) (fun v μ2 hR => ?_)
      obtain ⟨rfl, hf2, hO2⟩ := hR
      have hA2 := hf2.MA hA
      have o0b := hA2.o
      have r46b := hA2.1.r46
      have a46b := hA2.1.a46
      refine g_aload_n (j := 0) rfl dX12_meets_28 ?_
      refine g_getR dX12_meets_29 flX12_81 rfl (by assumption) (kz := 46) rfl (by assumption) ?_
      refine g_iload_n (j := 3) rfl dX12_meets_32 ?_
      refine g_lald dX12_meets_33 (by assumption) (by omega) (by omega) ?_
      have e := hO2.at0 (r := r) (by omega) (by omega)
      rw [show 60 * 0 + r = r by omega] at e
      have hw := clW_64 (m := mm) (by omega) (hA.l5 h17.1) r
      rw [e]
      refine g_lconst0 dX12_meets_34 ?_
      refine g_lif_ne (tgt := 41) dX12_meets_35 dX12_meets_36 (by decide) (by omega) (by omega) (fun h35 => ?_) (fun h35 => ?_)
      · refine g_iload_n (j := 3) rfl dX12_meets_41 ?_
        refine g_istore (i := 5) dX12_meets_42 (by decide) rfl ls5 ?_
        refine g_iconst dX12_meets_44 ?_
        refine g_istore (i := 6) dX12_meets_45 (by decide) rfl ls6 ?_
        refine g_iconst dX12_meets_47 ?_
        refine g_istore (i := 7) dX12_meets_48 (by decide) rfl ls7 ?_
        refine G.post (fun v μ3 hq => ?_) (l12_meets (d := d + 1) hA2 (mm := mm) (by omega) h17.1 hO2 h17.2.2 i.toNat 0 r _ (by omega) (by omega) (by omega) (by show 0 < clW mm (F s) r; omega))
        obtain ⟨rfl, rfl⟩ := hq
        rw [aMeets, cI_t ⟨⟨h17, by omega, by omega⟩, by omega⟩]
        exact hf2.Bm hA
      · refine g_iconst dX12_meets_39 ?_
        exact G.retI dX12_meets_40 rfl (by rw [aMeets, cI_f (by omega)]; exact hf2.Bm hA)
    · refine g_iconst dX12_meets_20 ?_
      exact G.retI dX12_meets_21 rfl (by rw [aMeets, cI_f (by first | exact fun z => h7 ⟨⟨z.1.1.1, by have := z.1.1.2; omega⟩, z.1.2⟩ | exact fun z => h17 z.1.1)]; exact Bm.no hA)
theorem l12_explained {w : WC} {d : Nat} {μ : Mem} {m : Nat} {ts : List Tm} (hM : MoS w μ m) (hL : LaidOk (mL μ (m + 4)) ts) (hok : ∀ u ∈ ts, TOk u) (h5 : ts.length ≤ 5) {mm : Int} (hm : 1 ≤ mm ∧ mm ≤ 60) (hO : FillOk (mL μ (m + 18)) mm ts 0) {s fr to : Int} (ht : to ≤ 3000) : ∀ (k : Nat) (n f : Int), n + k = to + 1 → -3000 ≤ n → 0 ≤ f → f + k ≤ 7000 →
    G w (d + 4) mX12_explained (fun v μ2 => v = some (vI (exF ts mm k n f)) ∧ μ2 = μ) 0 0 49 [some (vP (some m)), some (vI s), some (vI fr), some (vI to), some (vI mm), some (vI f), some (vI n)] [] μ := by
  have o0 := hM.o
  have r46 := hM.r46
  have a46 := hM.a46
  intro k
  induction k with
  | zero =>
    intro n f hn h0 hf hf2
    refine g_iload (i := 6) rfl dX12_explained_49 ?_
    refine g_iload_n (j := 3) rfl dX12_explained_51 ?_
    refine g_icmp_gt (tgt := 106) dX12_explained_52 (by decide) (by omega) (by omega) (fun h52 => ?_) (fun h52 => ?_)
    · refine g_iload (i := 5) rfl dX12_explained_106 ?_
      exact G.retI dX12_explained_108 rfl ⟨by rw [exF], rfl⟩
    · omega
  | succ k ih =>
    intro n f hn h0 hf hf2
    have hw := wy_64 hok h5 n
    have hb := tm_em (a := n) (b := mm) (by omega)
    have hc := clW_64 hm h5 (n % mm)
    have e := hO.at0 (r := n % mm) (by omega) (by omega)
    rw [show 60 * 0 + n % mm = n % mm by omega] at e
    refine g_iload (i := 6) rfl dX12_explained_49 ?_
    refine g_iload_n (j := 3) rfl dX12_explained_51 ?_
    refine g_icmp_gt (tgt := 106) dX12_explained_52 (by decide) (by omega) (by omega) (fun h52 => ?_) (fun h52 => ?_)
    · omega
    · refine g_iload (i := 5) rfl dX12_explained_55 ?_
      refine g_aload_n (j := 0) rfl dX12_explained_57 ?_
      refine g_iload (i := 6) rfl dX12_explained_58 ?_
      refine g_callV dX12_explained_60 mlX12_285 mvX12_waysOf (ci := 12) ⟨by decide, rfl⟩ (by assumption) (c_X12_wy w (d + 1) μ hM hL hok h5 (n := n) (by omega)) sv1 rfl (by omega) (Nat.le_of_ble_eq_true rfl) (Nat.le_refl _) (Nat.le_refl _) (fun v μ2 hR => ?_)
      obtain ⟨rfl, hm⟩ := hR
      replace hm := hm.symm
      subst hm
      refine g_lconst0 dX12_explained_63 ?_
      refine g_lif_ne (tgt := 93) dX12_explained_64 dX12_explained_65 (by decide) (by omega) (by omega) (fun h64 => ?_) (fun h64 => ?_)
      · refine g_iconst dX12_explained_93 ?_
        refine g_callS dX12_explained_94 mlX12_406 msX12_one (c_one01 w (d + 3) μ (by omega)) sk1 rfl (by omega) (Nat.le_of_ble_eq_true rfl) (Nat.le_refl _) (Nat.le_refl _) (fun v μ2 hR => ?_)
        obtain ⟨rfl, hm⟩ := hR
        replace hm := hm.symm
        subst hm
        refine g_iadd dX12_explained_97 ?_
        refine g_istore (i := 5) dX12_explained_98 (by decide) rfl ls5 ?_
        refine g_iinc (i := 6) dX12_explained_100 rfl (by decide) rfl ls6 ?_
        refine g_goto (tgt := 49) (by decide) dX12_explained_103 ?_
        rw [exF]
        first
        | (rw [if_pos (by omega)]; exact ih (n + 1) (f + 1) (by omega) (by omega) (by omega) (by omega))
        | (rw [if_neg (by omega), show f + 0 = f by omega]; exact ih (n + 1) f (by omega) (by omega) (by omega) (by omega))
      · refine g_aload_n (j := 0) rfl dX12_explained_68 ?_
        refine g_getR dX12_explained_69 flX12_81 rfl (by assumption) (kz := 46) rfl (by assumption) ?_
        refine g_iload (i := 6) rfl dX12_explained_72 ?_
        refine g_iload (i := 4) rfl dX12_explained_74 ?_
        refine g_irem (by omega) (by omega) (by omega) dX12_explained_76 ?_
        refine g_iload (i := 4) rfl dX12_explained_77 ?_
        refine g_iadd dX12_explained_79 ?_
        refine g_iload (i := 4) rfl dX12_explained_80 ?_
        refine g_irem (by omega) (by omega) (by omega) dX12_explained_82 ?_
        rw [tmy hm.1]
        refine g_lald dX12_explained_83 (by assumption) (by omega) (by omega) ?_
        rw [e]
        refine g_lconst0 dX12_explained_84 ?_
        refine g_lif_ne (tgt := 93) dX12_explained_85 dX12_explained_86 (by decide) (by omega) (by omega) (fun h85 => ?_) (fun h85 => ?_)
        · refine g_iconst dX12_explained_93 ?_
          refine g_callS dX12_explained_94 mlX12_406 msX12_one (c_one01 w (d + 3) μ (by omega)) sk1 rfl (by omega) (Nat.le_of_ble_eq_true rfl) (Nat.le_refl _) (Nat.le_refl _) (fun v μ2 hR => ?_)
          obtain ⟨rfl, hm⟩ := hR
          replace hm := hm.symm
          subst hm
          refine g_iadd dX12_explained_97 ?_
          refine g_istore (i := 5) dX12_explained_98 (by decide) rfl ls5 ?_
          refine g_iinc (i := 6) dX12_explained_100 rfl (by decide) rfl ls6 ?_
          refine g_goto (tgt := 49) (by decide) dX12_explained_103 ?_
          rw [exF]
          first
          | (rw [if_pos (by omega)]; exact ih (n + 1) (f + 1) (by omega) (by omega) (by omega) (by omega))
          | (rw [if_neg (by omega), show f + 0 = f by omega]; exact ih (n + 1) f (by omega) (by omega) (by omega) (by omega))
        · refine g_iconst dX12_explained_89 ?_
          refine g_goto (tgt := 94) (by decide) dX12_explained_90 ?_
          refine g_callS dX12_explained_94 mlX12_406 msX12_one (c_one01 w (d + 3) μ (by omega)) sk1 rfl (by omega) (Nat.le_of_ble_eq_true rfl) (Nat.le_refl _) (Nat.le_refl _) (fun v μ2 hR => ?_)
          obtain ⟨rfl, hm⟩ := hR
          replace hm := hm.symm
          subst hm
          refine g_iadd dX12_explained_97 ?_
          refine g_istore (i := 5) dX12_explained_98 (by decide) rfl ls5 ?_
          refine g_iinc (i := 6) dX12_explained_100 rfl (by decide) rfl ls6 ?_
          refine g_goto (tgt := 49) (by decide) dX12_explained_103 ?_
          rw [exF]
          first
          | (rw [if_pos (by omega)]; exact ih (n + 1) (f + 1) (by omega) (by omega) (by omega) (by omega))
          | (rw [if_neg (by omega), show f + 0 = f by omega]; exact ih (n + 1) f (by omega) (by omega) (by omega) (by omega))
theorem c_X12_explained (w : WC) (d : Nat) (μ : Mem) {m : Nat} {F : Int → List Tm} (hA : MA w μ m F) {s : Int} (hs : i32 s) {fr to mm : Int} (hfr : i32 fr) (hto : i32 to) (hm : i32 mm) : Con w (d + 5) mX12_explained 0 0 [vP (some m), vI s, vI fr, vI to, vI mm] μ (Bm w μ m F (vI (aExpl F s fr to mm))) := by
  have o0 := hA.o
  refine Con.of (by decide) (Nat.le_of_ble_eq_true rfl) rfl ?_
  refine g_aload_n (j := 0) rfl dX12_explained_0 ?_
  refine g_iload_n (j := 1) rfl dX12_explained_1 ?_
  refine g_callV dX12_explained_2 mlX12_274 mvX12_isForm (ci := 12) ⟨by decide, rfl⟩ (by assumption) (c_X12_isForm w (d + 2) μ hA hs) sv1 rfl (by omega) (Nat.le_of_ble_eq_true rfl) (Nat.le_refl _) (Nat.le_refl _) (fun v μ2 hR => ?_)
  obtain ⟨rfl, hm⟩ := hR
  replace hm := hm.symm
  subst hm
  refine g_ifb_eq (tgt := 29) dX12_explained_5 (by decide)  (fun h5 => ?_) (fun h5 => ?_)
  · refine g_iconst dX12_explained_29 ?_
    exact G.retI dX12_explained_30 rfl (by rw [aExpl, cI_f (by first | exact fun z => h5 z.1 | exact fun z => h13 z.2.1 | exact fun z => h26 z.2.2)]; exact Bm.no hA)
  · refine g_iload_n (j := 2) rfl dX12_explained_8 ?_
    refine g_iload_n (j := 3) rfl dX12_explained_9 ?_
    refine g_callS dX12_explained_10 mlX12_417 msX12_isSpan (c_X12_isSpan w (d + 2) μ hfr hto) sk2 rfl (by omega) (Nat.le_of_ble_eq_true rfl) (Nat.le_refl _) (Nat.le_refl _) (fun v μ2 hR => ?_)
    obtain ⟨rfl, hm⟩ := hR
    replace hm := hm.symm
    subst hm
    refine g_ifb_eq (tgt := 29) dX12_explained_13 (by decide)  (fun h13 => ?_) (fun h13 => ?_)
    · refine g_iconst dX12_explained_29 ?_
      exact G.retI dX12_explained_30 rfl (by rw [aExpl, cI_f (by first | exact fun z => h5 z.1 | exact fun z => h13 z.2.1 | exact fun z => h26 z.2.2)]; exact Bm.no hA)
    · refine g_iload (i := 4) rfl dX12_explained_16 ?_
      refine g_i2l (by omega) dX12_explained_18 ?_
      refine g_lconst1 dX12_explained_19 ?_
      refine g_ldc2 dX12_explained_20 klX12_420 (z := 60) rfl ?_
      refine g_callS dX12_explained_23 mlX12_105 msX12_isIn (c_X12_isIn w (d + 4) μ (x := mm) (a := 1) (b := 60) (by omega) (by omega) (by omega)) sk3 rfl (by omega) (Nat.le_of_ble_eq_true rfl) (Nat.le_refl _) (Nat.le_refl _) (fun v μ2 hR => ?_)
      obtain ⟨rfl, hm⟩ := hR
      replace hm := hm.symm
      subst hm
      refine g_ifb_ne (tgt := 31) dX12_explained_26 (by decide)  (fun h26 => ?_) (fun h26 => ?_)
      · have hV : HasT F s ∧ ((-3000 ≤ fr ∧ fr ≤ 3000) ∧ (-3000 ≤ to ∧ to ≤ 3000) ∧ fr ≤ to) ∧ 1 ≤ mm ∧ mm ≤ 60 := ⟨h5, h13, by omega⟩
        refine g_aload_n (j := 0) rfl dX12_explained_31 ?_
        refine g_iload_n (j := 1) rfl dX12_explained_32 ?_
        refine g_callV dX12_explained_33 mlX12_282 mvX12_lays (ci := 12) ⟨by decide, rfl⟩ (by assumption) (c_X12_lays w d μ hA hV.1.1) sv1 rfl (by omega) (Nat.le_of_ble_eq_true rfl) (Nat.le_refl _) (Nat.le_refl _) (fun v μ1 hR => ?_)
        obtain ⟨rfl, hA1, hL1, hf1⟩ := hR
        have o0b := hA1.o
        refine g_aload_n (j := 0) rfl dX12_explained_36 ?_
        refine g_iload_n (j := 1) rfl dX12_explained_37 ?_
        refine g_iload (i := 4) rfl dX12_explained_38 ?_
        refine g_callV dX12_explained_40 mlX12_422 mvX12_laysClasses (ci := 12) ⟨by decide, rfl⟩ (by assumption) (c_laysClasses w (d + 1) μ1 hA1 hV.1.1 (mm := mm) (by omega)) sv2 rfl (by omega) (Nat.le_of_ble_eq_true rfl) (Nat.le_refl _) (Nat.le_refl _) (fun v μ2 hR => ?_)
        obtain ⟨rfl, hf2, hO2⟩ := hR
        have hA2 := hf2.MA hA1
        refine g_iconst dX12_explained_43 ?_
        refine g_istore (i := 5) dX12_explained_44 (by decide) rfl ls5 ?_
        refine g_iload_n (j := 2) rfl dX12_explained_46 ?_
        refine g_istore (i := 6) dX12_explained_47 (by decide) rfl ls6 ?_
        have hL2 : LaidOk (mL μ2 (m + 4)) (F s) := by
          rw [show mL μ2 (m + 4) = mL μ1 (m + 4) from funext fun j => hf2.1.L hA1.1.a22.2.1 (by omega) j]
          exact hL1
        refine G.post (fun v μ3 hq => ?_) (l12_explained (d := d + 1) hA2.1 hL2 (hA.ok hV.1.1) (hA.l5 hV.1.1) (mm := mm) (by omega) hO2 hV.2.1.2.1.2 (to - fr + 1).toNat fr 0 (by omega) (by omega) (by omega) (by omega))
        obtain ⟨rfl, rfl⟩ := hq
        rw [aExpl, cI_t hV]
        refine ⟨rfl, hA2, (FrM.mono hf1 (fun a z => ?_) (fun j z => Or.inl z)).tr (FrM.mono hf2 (fun _ z => Or.inr (Or.inl z)) (fun _ z => z.elim))⟩
        unfold Cm
        omega
      · refine g_iconst dX12_explained_29 ?_
        exact G.retI dX12_explained_30 rfl (by rw [aExpl, cI_f (by first | exact fun z => h5 z.1 | exact fun z => h13 z.2.1 | exact fun z => h26 z.2.2)]; exact Bm.no hA)
