/-! THE CLASS: fill, met, meets, never, bars, explained -/
section FL
variable {w : WC} {x q : Nat} {ts : List Tm} {mm : Int}
theorem adF_at {L : Int → Int} {t v h m : Int} (hm : 1 ≤ m) (hv : 0 ≤ v ∧ v < m) {s : Int} (hs : 0 ≤ s ∧ s < m) : adF L t v h m m (60 * t + s) = L (60 * t + s) + h * L (60 * (t + 1) + (s - v) % m) := by
  have hd : mdS m (60 * t + s - 60 * t - v) = (s - v) % m := by
    rw [md_small hs hv]
    unfold mdS
    split <;> split <;> omega
  unfold adF
  rw [hd, if_pos ⟨by omega, by omega, Int.emod_lt_of_pos _ (by omega)⟩]
  congr 3
  omega
theorem adF_out {L : Int → Int} {t v h m b k : Int} (hk : k < 60 * t ∨ 60 * t + m ≤ k) : adF L t v h m b k = L k := by
  unfold adF
  rw [if_neg (by omega)]
theorem l_fillV {d : Nat} {R : Option AV → Mem → Prop} {μ1 : Mem} (hT : TPS w μ1 x) (em : mI μ1 (x + 62) 2 = mm) (hm : 1 ≤ mm ∧ mm ≤ 60) {t : Int} (ht : 0 ≤ t ∧ t ≤ 4) (H : Int → Int) (hH : ∀ v, 0 ≤ v → v < mm → mI μ1 (x + 64) v = H v ∧ 0 ≤ H v ∧ H v ≤ 120) {p2 : Int}
    (kk : ∀ (g : Int → Int) (x4 : Option AV), (∀ s, 0 ≤ s → s < mm → g (60 * t + s) = mL μ1 (x + 63) (60 * t + s) + rsum (fun v => H v * mL μ1 (x + 63) (60 * (t + 1) + (s - v) % mm)) 0 mm.toNat) → (∀ k, k < 60 * t ∨ 60 * t + mm ≤ k → g k = mL μ1 (x + 63) k) → G w (d + 3) mX0_fill R 0 0 103 [some (vP (some (x + 62))), some (vP (some q)), some (vI p2), some (vI t), x4] [] (wL μ1 (x + 63) g)) :
    ∀ (n : Nat) (v : Nat) (g : Int → Int), (v : Int) + n = mm → (∀ s, 0 ≤ s → s < mm → g (60 * t + s) = mL μ1 (x + 63) (60 * t + s) + rsum (fun v => H v * mL μ1 (x + 63) (60 * (t + 1) + (s - v) % mm)) 0 v) → (∀ k, k < 60 * t ∨ 60 * t + mm ≤ k → g k = mL μ1 (x + 63) k) →
    G w (d + 3) mX0_fill R 0 0 71 [some (vP (some (x + 62))), some (vP (some q)), some (vI p2), some (vI t), some (vI v)] [] (wL μ1 (x + 63) g) := by
  have hfr : ∀ g, FrC x μ1 (wL μ1 (x + 63) g) := fun g => Fr.wL (by omega)
  have o62 := hT.o62
  have r62 := hT.r62_1
  have a64 := hT.a64
  intro n
  induction n with
  | zero =>
    intro v g hv hg hg2
    refine g_iload (i := 4) rfl dX0_fill_71 ?_
    refine g_aload_n (j := 0) rfl dX0_fill_73 ?_
    refine g_getIv dX0_fill_74 flX0_19 rfl (by simp only [IsO_sI, IsO_sL, IsO_sR, IsO_wI, IsO_wL, IsA_sI, IsA_sL, IsA_sR, IsA_wI, IsA_wL, mR_sI, mR_sL, mR_wI, mR_wL]; assumption) (kz := 2) rfl (by simp [mI_sI, mI_sL, mI_sR, mI_wI, mI_wL, mL_sI, mL_sL, mL_sR, mL_wI, mL_wL, em]; rfl) ?_
    refine g_icmp_ge (tgt := 103) dX0_fill_77 (by decide) (by omega) (by omega) (fun h77 => ?_) (fun h77 => ?_)
    · exact kk g _ (fun s z1 z2 => by rw [hg s z1 z2, show mm.toNat = v by omega]) hg2
    · omega
  | succ n ih =>
    intro v g hv hg hg2
    obtain ⟨q1, q2, q3⟩ := hH v (by omega) (by omega)
    have hT' := (hfr g).tps hT
    refine g_iload (i := 4) rfl dX0_fill_71 ?_
    refine g_aload_n (j := 0) rfl dX0_fill_73 ?_
    refine g_getIv dX0_fill_74 flX0_19 rfl (by simp only [IsO_sI, IsO_sL, IsO_sR, IsO_wI, IsO_wL, IsA_sI, IsA_sL, IsA_sR, IsA_wI, IsA_wL, mR_sI, mR_sL, mR_wI, mR_wL]; assumption) (kz := 2) rfl (by simp [mI_sI, mI_sL, mI_sR, mI_wI, mI_wL, mL_sI, mL_sL, mL_sR, mL_wI, mL_wL, em, q1]; rfl) ?_
    refine g_icmp_ge (tgt := 103) dX0_fill_77 (by decide) (by omega) (by omega) (fun h77 => ?_) (fun h77 => ?_)
    · omega
    · refine g_aload_n (j := 0) rfl dX0_fill_80 ?_
      refine g_getR dX0_fill_81 flX0_15 rfl (by simp only [IsO_sI, IsO_sL, IsO_sR, IsO_wI, IsO_wL, IsA_sI, IsA_sL, IsA_sR, IsA_wI, IsA_wL, mR_sI, mR_sL, mR_wI, mR_wL]; assumption) (kz := 1) rfl (by simp only [IsO_sI, IsO_sL, IsO_sR, IsO_wI, IsO_wL, IsA_sI, IsA_sL, IsA_sR, IsA_wI, IsA_wL, mR_sI, mR_sL, mR_wI, mR_wL]; assumption) ?_
      refine g_iload (i := 4) rfl dX0_fill_84 ?_
      refine g_ialdv dX0_fill_86 (by simp only [IsO_sI, IsO_sL, IsO_sR, IsO_wI, IsO_wL, IsA_sI, IsA_sL, IsA_sR, IsA_wI, IsA_wL, mR_sI, mR_sL, mR_wI, mR_wL]; assumption) (by omega) (by omega) (by simp [mI_sI, mI_sL, mI_sR, mI_wI, mI_wL, mL_sI, mL_sL, mL_sR, mL_wI, mL_wL, em, q1]; rfl) ?_
      refine g_if_le (tgt := 97) dX0_fill_87 (by decide) (by omega) (fun h87 => ?_) (fun h87 => ?_)
      · refine g_iinc (i := 4) dX0_fill_97 rfl (by decide) rfl ls4 ?_
        refine g_goto (tgt := 71) (by decide) dX0_fill_100 ?_
        refine ih (v + 1) g (by omega) (fun s z1 z2 => ?_) hg2
        rw [hg s z1 z2, rsum_last, show (0 : Int) + (v : Int) = v by omega, show H v = 0 by omega, Int.zero_mul, Int.add_zero]
      · refine g_aload_n (j := 0) rfl dX0_fill_90 ?_
        refine g_iload_n (j := 3) rfl dX0_fill_91 ?_
        refine g_iload (i := 4) rfl dX0_fill_92 ?_
        refine g_callV dX0_fill_94 mlX0_41 mvX0_addHits (ci := 0) ⟨by decide, rfl⟩ (by simp only [IsO_sI, IsO_sL, IsO_sR, IsO_wI, IsO_wL, IsA_sI, IsA_sL, IsA_sR, IsA_wI, IsA_wL, mR_sI, mR_sL, mR_wI, mR_wL]; assumption) (c_addHits w (d + 2) (wL μ1 (x + 63) g) hT' (mm := mm) em hm (t := t) (v := (v : Int)) (h := H v) ht (by omega) q1 ⟨q2, q3⟩) sv2 rfl (by omega) (Nat.le_of_ble_eq_true rfl) (Nat.le_refl _) (Nat.le_refl _) (fun v μ2 hR => ?_)
        obtain ⟨rfl, hm⟩ := hR
        replace hm := hm.symm
        subst hm
        rw [wL_wL]
        rw [show mL (wL μ1 (x + 63) g) (x + 63) = g from funext fun k => by rw [mL_wL, if_pos rfl]]
        refine g_iinc (i := 4) dX0_fill_97 rfl (by decide) rfl ls4 ?_
        refine g_goto (tgt := 71) (by decide) dX0_fill_100 ?_
        refine ih (v + 1) _ (by omega) (fun s z1 z2 => ?_) (fun k hk => ?_)
        · have hb := Int.emod_nonneg (s - v) (show mm ≠ 0 by omega)
          have hb2 := Int.emod_lt_of_pos (s - v) (show 0 < mm by omega)
          rw [adF_at hm.1 (by omega) ⟨z1, z2⟩, hg s z1 z2, hg2 _ (by omega), rsum_last, show (0 : Int) + (v : Int) = v by omega]
          omega
        · rw [adF_out hk]
          exact hg2 k hk
/-- rows from t on hold their ways to the classes -/
def FillOk (L : Int → Int) (m : Int) (ts : List Tm) (t : Int) : Prop := ∀ j : Int, t ≤ j → j ≤ ts.length → ∀ r, 0 ≤ r → r < m → L (60 * j + r) = clW m (ts.drop j.toNat) r
theorem l_fillT {d : Nat} {μ0 : Mem} (hT0 : TPS w μ0 x) (hF0 : FoS w μ0 q) (hI0 : FI μ0 q ts) (hq : q + 7 ≤ x + 62) (hm : 1 ≤ mm ∧ mm ≤ 60) {p2 : Int} : ∀ (n : Nat) (t : Int) (μ : Mem) (x4 : Option AV), t + 1 = n → t < ts.length → FrC x μ0 μ → mI μ (x + 62) 2 = mm → FillOk (mL μ (x + 63)) mm ts (t + 1) → (∀ k, 0 ≤ k → k < 60 * (t + 1) → mL μ (x + 63) k = 0) →
    G w (d + 3) mX0_fill (fun v μ2 => v = none ∧ FrC x μ0 μ2 ∧ mI μ2 (x + 62) 2 = mm ∧ FillOk (mL μ2 (x + 63)) mm ts 0) 0 0 58 [some (vP (some (x + 62))), some (vP (some q)), some (vI p2), some (vI t), x4] [] μ := by
  have h5 := hI0.2.1
  intro n
  induction n with
  | zero =>
    intro t μ x4 ht hl hf em hO hZ
    have ht1 : t + 1 = 0 := by omega
    rw [ht1] at hO
    refine g_iload_n (j := 3) rfl dX0_fill_58 ?_
    refine g_if_lt (tgt := 109) dX0_fill_59 (by decide) (by omega) (fun h59 => ?_) (fun h59 => ?_)
    · exact G.retV dX0_fill_109 rfl ⟨rfl, hf, em, hO⟩
    · omega
  | succ n ih =>
    intro t μ x4 ht hl hf em hO hZ
    have hT := hf.tps hT0
    have hF := hf.Fo (fun _ z => z) hF0
    have hI := hf.FI hF0 (fun a z1 z2 z => by omega) hI0
    have o62 := hT.o62
    obtain ⟨u, hu, hku, hat⟩ := hI.at (t := t) (by omega) hl
    have hd := drop_at (by omega) hl hu
    have hxs : 0 ≤ xsN u mm ∧ xsN u mm ≤ 120 := by unfold xsN; split <;> omega
    refine g_iload_n (j := 3) rfl dX0_fill_58 ?_
    refine g_if_lt (tgt := 109) dX0_fill_59 (by decide) (by omega) (fun h59 => ?_) (fun h59 => ?_)
    · omega
    · refine g_aload_n (j := 0) rfl dX0_fill_62 ?_
      refine g_aload_n (j := 1) rfl dX0_fill_63 ?_
      refine g_iload_n (j := 3) rfl dX0_fill_64 ?_
      refine g_callV dX0_fill_65 mlX0_37 mvX0_takeHits (ci := 0) ⟨by decide, rfl⟩ (by assumption) (c_takeHits w d μ hT hF hI hq em hm (t := t) (by omega) hl hku hat) sv2 rfl (by omega) (Nat.le_of_ble_eq_true rfl) (Nat.le_refl _) (Nat.le_refl _) (fun v μ1 hR => ?_)
      obtain ⟨rfl, gh, hgh, hm1⟩ := hR
      have hf1 : FrC x μ μ1 := by rw [hm1]; exact Fr.wI (by omega)
      have em1 : mI μ1 (x + 62) 2 = mm := by rw [hm1, mI_wI, if_neg (by omega)]; exact em
      have eL1 : mL μ1 = mL μ := by rw [hm1]; rfl
      have hT1 := hf1.tps hT
      refine g_iconst dX0_fill_68 ?_
      refine g_istore (i := 4) dX0_fill_69 (by decide) rfl ls4 ?_
      have hh : ∀ v, 0 ≤ v → v < mm → mI μ1 (x + 64) v = hitF (rmF u mm) (xsN u mm).toNat v ∧ 0 ≤ hitF (rmF u mm) (xsN u mm).toNat v ∧ hitF (rmF u mm) (xsN u mm).toNat v ≤ 120 := fun v z1 z2 => by
        have := hitF_bd (rmF u mm) (xsN u mm).toNat v
        exact ⟨by rw [hm1, mI_wI, if_pos rfl]; exact hgh v z1 z2, by omega, by omega⟩
      have key := l_fillV (d := d) (q := q) (R := fun v μ2 => v = none ∧ FrC x μ0 μ2 ∧ mI μ2 (x + 62) 2 = mm ∧ FillOk (mL μ2 (x + 63)) mm ts 0) hT1 em1 hm (t := t) (by omega) _ hh (p2 := p2) (fun g x4 hg hg2 => ?_) mm.toNat 0 (mL μ1 (x + 63)) (by omega) (fun s z1 z2 => by rw [rsum, Int.add_zero]) (fun k _ => rfl)
      · rw [wL_eta] at key
        exact key
      refine g_iinc (i := 3) dX0_fill_103 rfl (by decide) rfl ls3 ?_
      refine g_goto (tgt := 58) (by decide) dX0_fill_106 ?_
      refine ih (t + -1) _ _ (by omega) (by omega) (hf.tr (hf1.tr (Fr.wL (by omega)))) em1 ?_ ?_
      · intro j z1 z2 r z3 z4
        show mL (wL μ1 (x + 63) g) (x + 63) _ = _
        rw [mL_wL, if_pos rfl]
        by_cases hj : j = t
        · subst hj
          rw [hg r z3 z4, eL1, hZ _ (by omega) (by omega), hd, Int.zero_add]
          unfold clW
          refine Eq.trans ?_ (rsum_congr (f := fun y => clW mm (ts.drop (j + 1).toNat) ((r - rmF u mm y) % mm)) _ _ (fun y _ _ => by show clW mm _ ((r - tV u y % mm) % mm) = _; rw [md_sub]))
          refine Eq.trans ?_ (hitF_sum (rmF_bd hm.1) (clW mm (ts.drop (j + 1).toNat)) r _)
          refine rsum_congr _ _ fun v y1 y2 => ?_
          rw [hO (j + 1) (by omega) (by omega) _ (Int.emod_nonneg _ (by omega)) (Int.emod_lt_of_pos _ (by omega))]
        · rw [hg2 _ (by omega), eL1]
          exact hO j (by omega) z2 r z3 z4
      · intro k z1 z2
        show mL (wL μ1 (x + 63) g) (x + 63) _ = _
        rw [mL_wL, if_pos rfl, hg2 _ (by omega), eL1]
        exact hZ k z1 (by omega)
theorem l_fill0 {d : Nat} {R : Option AV → Mem → Prop} {μ : Mem} (hT : TPS w μ x) {p2 : Int} (kk : ∀ (g : Int → Int) (x3 : Option AV), (∀ k, 0 ≤ k → k < 360 → g k = 0) → G w d mX0_fill R 0 0 38 [some (vP (some (x + 62))), some (vP (some q)), some (vI p2), x3, none] [] (wL μ (x + 63) g)) : ∀ (n : Nat) (k : Int) (g : Int → Int), k + n = 360 → 0 ≤ k → (∀ j, 0 ≤ j → j < k → g j = 0) →
    G w d mX0_fill R 0 0 16 [some (vP (some (x + 62))), some (vP (some q)), some (vI p2), some (vI k), none] [] (wL μ (x + 63) g) := by
  have o62 := hT.o62
  have r62 := hT.r62_0
  have a63 := hT.a63
  intro n
  induction n with
  | zero =>
    intro k g hk h0 hg
    refine g_iload_n (j := 3) rfl dX0_fill_16 ?_
    refine g_aload_n (j := 0) rfl dX0_fill_17 ?_
    refine g_getR dX0_fill_18 flX0_9 rfl (by simp only [IsO_sI, IsO_sL, IsO_sR, IsO_wI, IsO_wL, IsA_sI, IsA_sL, IsA_sR, IsA_wI, IsA_wL, mR_sI, mR_sL, mR_wI, mR_wL]; assumption) (kz := 0) rfl (by simp only [IsO_sI, IsO_sL, IsO_sR, IsO_wI, IsO_wL, IsA_sI, IsA_sL, IsA_sR, IsA_wI, IsA_wL, mR_sI, mR_sL, mR_wI, mR_wL]; assumption) ?_
    refine g_alen dX0_fill_21 (by simp only [IsO_sI, IsO_sL, IsO_sR, IsO_wI, IsO_wL, IsA_sI, IsA_sL, IsA_sR, IsA_wI, IsA_wL, mR_sI, mR_sL, mR_wI, mR_wL]; assumption) (by omega) ?_
    refine g_icmp_ge (tgt := 38) dX0_fill_22 (by decide) (by omega) (by omega) (fun h22 => ?_) (fun h22 => ?_)
    · exact kk g _ fun j z1 z2 => hg j z1 (by omega)
    · omega
  | succ n ih =>
    intro k g hk h0 hg
    refine g_iload_n (j := 3) rfl dX0_fill_16 ?_
    refine g_aload_n (j := 0) rfl dX0_fill_17 ?_
    refine g_getR dX0_fill_18 flX0_9 rfl (by simp only [IsO_sI, IsO_sL, IsO_sR, IsO_wI, IsO_wL, IsA_sI, IsA_sL, IsA_sR, IsA_wI, IsA_wL, mR_sI, mR_sL, mR_wI, mR_wL]; assumption) (kz := 0) rfl (by simp only [IsO_sI, IsO_sL, IsO_sR, IsO_wI, IsO_wL, IsA_sI, IsA_sL, IsA_sR, IsA_wI, IsA_wL, mR_sI, mR_sL, mR_wI, mR_wL]; assumption) ?_
    refine g_alen dX0_fill_21 (by simp only [IsO_sI, IsO_sL, IsO_sR, IsO_wI, IsO_wL, IsA_sI, IsA_sL, IsA_sR, IsA_wI, IsA_wL, mR_sI, mR_sL, mR_wI, mR_wL]; assumption) (by omega) ?_
    refine g_icmp_ge (tgt := 38) dX0_fill_22 (by decide) (by omega) (by omega) (fun h22 => ?_) (fun h22 => ?_)
    · omega
    · refine g_aload_n (j := 0) rfl dX0_fill_25 ?_
      refine g_getR dX0_fill_26 flX0_9 rfl (by simp only [IsO_sI, IsO_sL, IsO_sR, IsO_wI, IsO_wL, IsA_sI, IsA_sL, IsA_sR, IsA_wI, IsA_wL, mR_sI, mR_sL, mR_wI, mR_wL]; assumption) (kz := 0) rfl (by simp only [IsO_sI, IsO_sL, IsO_sR, IsO_wI, IsO_wL, IsA_sI, IsA_sL, IsA_sR, IsA_wI, IsA_wL, mR_sI, mR_sL, mR_wI, mR_wL]; assumption) ?_
      refine g_iload_n (j := 3) rfl dX0_fill_29 ?_
      refine g_lconst0 dX0_fill_30 ?_
      refine g_last dX0_fill_31 (by simp only [IsO_sI, IsO_sL, IsO_sR, IsO_wI, IsO_wL, IsA_sI, IsA_sL, IsA_sR, IsA_wI, IsA_wL, mR_sI, mR_sL, mR_wI, mR_wL]; assumption) (by omega) (by omega) ?_
      refine g_iinc (i := 3) dX0_fill_32 rfl (by decide) rfl ls3 ?_
      refine g_goto (tgt := 16) (by decide) dX0_fill_35 ?_
      rw [sL_wL]
      refine ih (k + 1) _ (by omega) (by omega) fun j z1 z2 => ?_
      show (if j = k then 0 else g j) = 0
      split
      · rfl
      · exact hg j z1 (by omega)
theorem c_fill (w : WC) (d : Nat) (μ : Mem) {x q : Nat} {ts : List Tm} {mm : Int} (hT : TPS w μ x) (hF : FoS w μ q) (hI : FI μ q ts) (hq : q + 7 ≤ x + 62) (hm : 1 ≤ mm ∧ mm ≤ 60) : Con w (d + 3) mX0_fill 0 0 [vP (some (x + 62)), vP (some q), vI mm] μ (fun v μ2 => v = none ∧ FrC x μ μ2 ∧ mI μ2 (x + 62) 2 = mm ∧ FillOk (mL μ2 (x + 63)) mm ts 0) := by
  have o62 := hT.o62
  have h5 := hI.2.1
  refine Con.of (by decide) (Nat.le_of_ble_eq_true rfl) rfl ?_
  refine g_aload_n (j := 0) rfl dX0_fill_0 ?_
  refine g_iconst dX0_fill_1 ?_
  refine g_iload_n (j := 2) rfl dX0_fill_2 ?_
  refine g_bipush dX0_fill_3 (by omega) ?_
  refine g_callS dX0_fill_5 mlX0_23 msJ9_min_7cf53 (c_min w (d + 2) μ (a := mm) (b := 60) (by omega) (by omega)) sk2 rfl (by omega) (Nat.le_of_ble_eq_true rfl) (Nat.le_refl _) (Nat.le_refl _) (fun v μ2 hR => ?_)
  obtain ⟨rfl, hm⟩ := hR
  replace hm := hm.symm
  subst hm
  refine g_callS dX0_fill_8 mlX0_29 msJ9_max_7cf53 (c_max w (d + 2) μ (a := 1) (b := min mm 60) (by omega) (by omega)) sk2 rfl (by omega) (Nat.le_of_ble_eq_true rfl) (Nat.le_refl _) (Nat.le_refl _) (fun v μ2 hR => ?_)
  obtain ⟨rfl, hm⟩ := hR
  replace hm := hm.symm
  subst hm
  rw [show max 1 (min mm 60) = mm by omega]
  refine g_putI dX0_fill_11 fpX0_19 rfl rfl rfl (by assumption) (kz := 2) rfl ?_
  refine g_iconst dX0_fill_14 ?_
  refine g_istore_n (j := 3) dX0_fill_15 (by decide) rfl ls3 ?_
  have hf1 : FrC x μ (sI μ (x + 62) 2 mm) := Fr.sI (by omega)
  have em1 : mI (sI μ (x + 62) 2 mm) (x + 62) 2 = mm := by rw [mI_sI, if_pos ⟨rfl, rfl⟩]
  generalize sI μ (x + 62) 2 mm = μ1 at *
  have hT1 := hf1.tps hT
  have key := l_fill0 (d := d + 3) (q := q) (R := fun v μ2 => v = none ∧ FrC x μ μ2 ∧ mI μ2 (x + 62) 2 = mm ∧ FillOk (mL μ2 (x + 63)) mm ts 0) hT1 (p2 := mm) (fun g x3 hg => ?_) 360 0 (mL μ1 (x + 63)) (by omega) (by omega) (fun j z1 z2 => by omega)
  · rw [wL_eta] at key
    exact key
  have hf2 : FrC x μ1 (wL μ1 (x + 63) g) := Fr.wL (by omega)
  have hT2 := hf2.tps hT1
  have hF2 := (hf1.tr hf2).Fo (fun _ z => z) hF
  have hI2 := (hf1.tr hf2).FI hF (fun a z1 z2 z => by omega) hI
  have em2 : mI (wL μ1 (x + 63) g) (x + 62) 2 = mm := em1
  have eg : ∀ k, 0 ≤ k → k < 360 → mL (wL μ1 (x + 63) g) (x + 63) k = 0 := fun k z1 z2 => by rw [mL_wL, if_pos rfl]; exact hg k z1 z2
  have ec := hI2.1
  have oq := hF2.1
  have o62b := hT2.o62
  have r62b := hT2.r62_0
  have a63b := hT2.a63
  generalize wL μ1 (x + 63) g = μ2 at *
  refine g_aload_n (j := 0) rfl dX0_fill_38 ?_
  refine g_getR dX0_fill_39 flX0_9 rfl (by assumption) (kz := 0) rfl (by assumption) ?_
  refine g_aload_n (j := 1) rfl dX0_fill_42 ?_
  refine g_getI dX0_fill_43 flX0_32 rfl (by assumption) (kz := 0) rfl ?_
  refine g_bipush dX0_fill_46 (by omega) ?_
  refine g_imul dX0_fill_48 ?_
  refine g_lconst1 dX0_fill_49 ?_
  rw [ec]
  refine g_last dX0_fill_50 (by assumption) (by omega) (by omega) ?_
  refine g_aload_n (j := 1) rfl dX0_fill_51 ?_
  refine g_getIv dX0_fill_52 flX0_32 rfl (by simp only [IsO_sI, IsO_sL, IsO_sR, IsO_wI, IsO_wL, IsA_sI, IsA_sL, IsA_sR, IsA_wI, IsA_wL, mR_sI, mR_sL, mR_wI, mR_wL]; assumption) (kz := 0) rfl (by simp [mI_sI, mI_sL, mI_sR, mI_wI, mI_wL, mL_sI, mL_sL, mL_sR, mL_wI, mL_wL, ec]; rfl) ?_
  refine g_iconst dX0_fill_55 ?_
  refine g_isub dX0_fill_56 ?_
  refine g_istore_n (j := 3) dX0_fill_57 (by decide) rfl ls3 ?_
  refine l_fillT (d := d) hT hF hI hq hm ts.length _ _ _ (by omega) (by omega) (hf1.tr (hf2.tr (Fr.sL (by omega)))) em2 ?_ ?_
  · intro j z1 z2 r z3 z4
    have hj : j = ts.length := by omega
    subst hj
    rw [mL_sL, List.drop_eq_nil_of_le (by omega)]
    unfold clW
    by_cases hr : r = 0
    · rw [if_pos ⟨rfl, by omega⟩, if_pos hr]
    · rw [if_neg (by omega), if_neg hr]
      exact eg _ (by omega) (by omega)
  · intro k z1 z2
    rw [mL_sL, if_neg (by omega)]
    exact eg k z1 (by omega)
end FL
noncomputable def aMet (F : Int → List Tm) (s m r : Int) : Int := cI (HasT F s ∧ (1 ≤ m ∧ m ≤ 60) ∧ 0 ≤ r ∧ r < m) (clW m (F s) r) (-1)
theorem FillOk.at0 {L : Int → Int} {m r : Int} {ts : List Tm} (h : FillOk L m ts 0) (h0 : 0 ≤ r) (h1 : r < m) : L (60 * 0 + r) = clW m ts r := h 0 (by omega) (by omega) r h0 h1
/-- behind fill, of a slot's form -/
theorem c_fillS (w : WC) (d : Nat) (μ : Mem) {x c N : Nat} {F : Int → List Tm} (h : CA w μ x F c N) {s : Int} (hs : 0 ≤ s ∧ s ≤ 3) {mm : Int} (hm : 1 ≤ mm ∧ mm ≤ 60) : Con w (d + 3) mX0_fill 0 0 [vP (some (x + 62)), vP (some (fA x s)), vI mm] μ (fun v μ2 => v = none ∧ CA w μ2 x F c N ∧ FrC x μ μ2 ∧ mI μ2 (x + 62) 2 = mm ∧ FillOk (mL μ2 (x + 63)) mm (F s) 0) :=
  (c_fill w d μ h.tps (h.tps.fs hs) (h.fm hs) (by have := fA_bd x hs; omega) hm).post fun _ _ q => ⟨q.1, q.2.1.ca h, q.2.1, q.2.2.1, q.2.2.2⟩

theorem c_X11_met (w : WC) (d : Nat) (μ : Mem) {x c N : Nat} {F : Int → List Tm} (h : CA w μ x F c N) {s : Int} (hs : i32 s) {m r : Int} (hm : i32 m) (hr : i32 r) : Con w (d + 4) mX11_met 0 0 [vP (some x), vI s, vI m, vI r] μ (Am w μ x F N 0 (vJ (aMet F s m r))) := by
  have o0 := h.tps.o0
  have r1 := h.tps.r0_1
  have a7 := h.tps.a7
  have r8 := h.tps.r0_8
  have o62 := h.tps.o62
  refine Con.of (by decide) (Nat.le_of_ble_eq_true rfl) rfl ?_
  refine g_aload_n (j := 0) rfl dX11_met_0 ?_
  refine g_iload_n (j := 1) rfl dX11_met_1 ?_
  refine g_callV dX11_met_2 mlX11_128 mvX11_hasTerms (ci := 11) ⟨by decide, rfl⟩ (by assumption) (c_hasTerms w (d + 2) μ h hs) sv1 rfl (by omega) (Nat.le_of_ble_eq_true rfl) (Nat.le_refl _) (Nat.le_refl _) (fun v μ2 hR => ?_)
  obtain ⟨rfl, hm⟩ := hR
  replace hm := hm.symm
  subst hm
  refine g_ifb_eq (tgt := 16) dX11_met_5 (by decide)  (fun h5 => ?_) (fun h5 => ?_)
  · refine g_ldc2 dX11_met_16 klX11_177 (z := -1) rfl ?_
    exact G.retJ dX11_met_19 rfl (by rw [aMet, cI_f (by first | exact fun z => h5 z.1 | exact fun z => h13 (by omega))]; exact Am.no h)
  · refine g_iload_n (j := 2) rfl dX11_met_8 ?_
    refine g_iload_n (j := 3) rfl dX11_met_9 ?_
    refine g_callS dX11_met_10 mlX11_218 msX11_isClass (c_X11_isClass w (d + 2) μ hm hr) sk2 rfl (by omega) (Nat.le_of_ble_eq_true rfl) (Nat.le_refl _) (Nat.le_refl _) (fun v μ2 hR => ?_)
    obtain ⟨rfl, hm⟩ := hR
    replace hm := hm.symm
    subst hm
    refine g_ifb_ne (tgt := 20) dX11_met_13 (by decide)  (fun h13 => ?_) (fun h13 => ?_)
    · have rf := h.tps.rf h5.1
      have of := (h.tps.fs h5.1).1
      have hv0 := h5.1
      refine g_aload_n (j := 0) rfl dX11_met_20 ?_
      refine g_getR dX11_met_21 flX11_67 rfl (by assumption) (kz := 8) rfl (by assumption) ?_
      refine g_aload_n (j := 0) rfl dX11_met_24 ?_
      refine g_getR dX11_met_25 flX11_18 rfl (by assumption) (kz := 1) rfl (by assumption) ?_
      refine g_iload_n (j := 1) rfl dX11_met_28 ?_
      refine g_aald dX11_met_29 (by assumption) (by omega) (by omega) (by omega) (by assumption) ?_
      refine g_iload_n (j := 2) rfl dX11_met_30 ?_
      refine g_callV dX11_met_31 mlX11_200 mvX0_fill (ci := 0) ⟨by decide, rfl⟩ (by assumption) (c_fillS w d μ h h5.1 (mm := m) (by omega)) sv2 rfl (by omega) (Nat.le_of_ble_eq_true rfl) (Nat.le_refl _) (Nat.le_refl _) (fun v μ2 hR => ?_)
      obtain ⟨rfl, h2, hf2, em2, hO2⟩ := hR
      have o0b := h2.tps.o0
      have r8b := h2.tps.r0_8
      have o62b := h2.tps.o62
      refine g_aload_n (j := 0) rfl dX11_met_34 ?_
      refine g_getR dX11_met_35 flX11_67 rfl (by assumption) (kz := 8) rfl (by assumption) ?_
      refine g_iconst dX11_met_38 ?_
      refine g_iload_n (j := 3) rfl dX11_met_39 ?_
      refine g_callV dX11_met_40 mlX11_210 mvX0_rowsFrom (ci := 0) ⟨by decide, rfl⟩ (by assumption) (c_rowsFrom w (d + 3) μ2 h2.tps (t := 0) (r := r) (by omega) (by omega)) sv2 rfl (by omega) (Nat.le_of_ble_eq_true rfl) (Nat.le_refl _) (Nat.le_refl _) (fun v μ3 hR => ?_)
      obtain ⟨rfl, hm⟩ := hR
      replace hm := hm.symm
      subst hm
      rw [hO2.at0 (by omega) (by omega)]
      exact G.retJ dX11_met_43 rfl (by rw [aMet, cI_t ⟨h5, by omega⟩]; exact hf2.am h)
    · refine g_ldc2 dX11_met_16 klX11_177 (z := -1) rfl ?_
      exact G.retJ dX11_met_19 rfl (by rw [aMet, cI_f (by first | exact fun z => h5 z.1 | exact fun z => h13 (by omega))]; exact Am.no h)
theorem l_never {w : WC} {d : Nat} {μ : Mem} {x : Nat} {ts : List Tm} (hT : TPS w μ x) {mm : Int} (hm : 1 ≤ mm ∧ mm ≤ 60) (hO : FillOk (mL μ (x + 63)) mm ts 0) (h5 : ts.length ≤ 5) {s i : Int} (hi : i32 i) : ∀ (n : Nat) (r f : Int), r + n = mm → 0 ≤ r → 0 ≤ f → f ≤ r →
    G w (d + 1) mX11_never (fun v μ2 => v = some (vI (pick (fun r => decide (clW mm ts r = 0)) i (-1) n r f)) ∧ μ2 = μ) 0 0 42 [some (vP (some x)), some (vI s), some (vI mm), some (vI i), some (vI f), some (vI r)] [] μ := by
  have o0 := hT.o0
  have r8 := hT.r0_8
  have o62 := hT.o62
  intro n
  induction n with
  | zero =>
    intro r f hr h0 hf hf2
    refine g_iload (i := 5) rfl dX11_never_42 ?_
    refine g_iload_n (j := 2) rfl dX11_never_44 ?_
    refine g_icmp_ge (tgt := 81) dX11_never_45 (by decide) (by omega) (by omega) (fun h45 => ?_) (fun h45 => ?_)
    · refine g_iload_n (j := 3) rfl dX11_never_81 ?_
      refine g_iconst dX11_never_82 ?_
      refine g_icmp_ne (tgt := 91) dX11_never_83 (by decide) (by omega) (by omega) (fun h83 => ?_) (fun h83 => ?_)
      · refine g_iconst dX11_never_91 ?_
        exact G.retI dX11_never_92 rfl ⟨by rw [pick]; first | rw [if_pos (by omega)] | rw [if_neg (by omega)], rfl⟩
      · refine g_iload (i := 4) rfl dX11_never_86 ?_
        refine g_goto (tgt := 92) (by decide) dX11_never_88 ?_
        exact G.retI dX11_never_92 rfl ⟨by rw [pick]; first | rw [if_pos (by omega)] | rw [if_neg (by omega)], rfl⟩
    · omega
  | succ n ih =>
    intro r f hr h0 hf hf2
    have hw := clW_64 hm h5 r
    refine g_iload (i := 5) rfl dX11_never_42 ?_
    refine g_iload_n (j := 2) rfl dX11_never_44 ?_
    refine g_icmp_ge (tgt := 81) dX11_never_45 (by decide) (by omega) (by omega) (fun h45 => ?_) (fun h45 => ?_)
    · omega
    · refine g_aload_n (j := 0) rfl dX11_never_48 ?_
      refine g_getR dX11_never_49 flX11_67 rfl (by assumption) (kz := 8) rfl (by assumption) ?_
      refine g_iconst dX11_never_52 ?_
      refine g_iload (i := 5) rfl dX11_never_53 ?_
      refine g_callV dX11_never_55 mlX11_210 mvX0_rowsFrom (ci := 0) ⟨by decide, rfl⟩ (by assumption) (c_rowsFrom w d μ hT (t := 0) (r := r) (by omega) (by omega)) sv2 rfl (by omega) (Nat.le_of_ble_eq_true rfl) (Nat.le_refl _) (Nat.le_refl _) (fun v μ2 hR => ?_)
      obtain ⟨rfl, hm⟩ := hR
      replace hm := hm.symm
      subst hm
      rw [hO.at0 (by omega) (by omega)]
      refine g_lconst0 dX11_never_58 ?_
      refine g_lif_ne (tgt := 75) dX11_never_59 dX11_never_60 (by decide) (by omega) (by omega) (fun h59 => ?_) (fun h59 => ?_)
      · refine g_iinc (i := 5) dX11_never_75 rfl (by decide) rfl ls5 ?_
        refine g_goto (tgt := 42) (by decide) dX11_never_78 ?_
        rw [pick]
        first
        | (rw [if_neg (by simp only [decide_eq_true_eq]; omega)]; exact ih (r + 1) f (by omega) (by omega) (by omega) (by omega))
        | (rw [if_pos (by simp only [decide_eq_true_eq]; omega), if_neg (by omega)]; exact ih (r + 1) (f + 1) (by omega) (by omega) (by omega) (by omega))
      · refine g_iload (i := 4) rfl dX11_never_63 ?_
        refine g_iload_n (j := 3) rfl dX11_never_65 ?_
        refine g_icmp_ne (tgt := 72) dX11_never_66 (by decide) (by omega) (by omega) (fun h66 => ?_) (fun h66 => ?_)
        · refine g_iinc (i := 4) dX11_never_72 rfl (by decide) rfl ls4 ?_
          refine g_iinc (i := 5) dX11_never_75 rfl (by decide) rfl ls5 ?_
          refine g_goto (tgt := 42) (by decide) dX11_never_78 ?_
          rw [pick]
          first
          | (rw [if_neg (by simp only [decide_eq_true_eq]; omega)]; exact ih (r + 1) f (by omega) (by omega) (by omega) (by omega))
          | (rw [if_pos (by simp only [decide_eq_true_eq]; omega), if_neg (by omega)]; exact ih (r + 1) (f + 1) (by omega) (by omega) (by omega) (by omega))
        · refine g_iload (i := 5) rfl dX11_never_69 ?_
          exact G.retI dX11_never_71 rfl ⟨by rw [pick, if_pos (by simp only [decide_eq_true_eq]; omega), if_pos (by omega)], rfl⟩
noncomputable def aNever (F : Int → List Tm) (s m i : Int) : Int := cI (HasT F s ∧ (1 ≤ m ∧ m ≤ 60) ∧ -1 ≤ i) (pick (fun r => decide (clW m (F s) r = 0)) i (-1) m.toNat 0 0) (-1)
theorem c_X11_never (w : WC) (d : Nat) (μ : Mem) {x c N : Nat} {F : Int → List Tm} (h : CA w μ x F c N) {s : Int} (hs : i32 s) {m i : Int} (hm : i32 m) (hi : i32 i) : Con w (d + 4) mX11_never 0 0 [vP (some x), vI s, vI m, vI i] μ (Am w μ x F N 0 (vI (aNever F s m i))) := by
  have o0 := h.tps.o0
  have r1 := h.tps.r0_1
  have a7 := h.tps.a7
  have r8 := h.tps.r0_8
  have o62 := h.tps.o62
  refine Con.of (by decide) (Nat.le_of_ble_eq_true rfl) rfl ?_
  refine g_aload_n (j := 0) rfl dX11_never_0 ?_
  refine g_iload_n (j := 1) rfl dX11_never_1 ?_
  refine g_callV dX11_never_2 mlX11_128 mvX11_hasTerms (ci := 11) ⟨by decide, rfl⟩ (by assumption) (c_hasTerms w (d + 2) μ h hs) sv1 rfl (by omega) (Nat.le_of_ble_eq_true rfl) (Nat.le_refl _) (Nat.le_refl _) (fun v μ2 hR => ?_)
  obtain ⟨rfl, hm⟩ := hR
  replace hm := hm.symm
  subst hm
  refine g_ifb_eq (tgt := 20) dX11_never_5 (by decide)  (fun h5 => ?_) (fun h5 => ?_)
  · refine g_iconst dX11_never_20 ?_
    exact G.retI dX11_never_21 rfl (by rw [aNever, cI_f (by first | exact fun z => h5 z.1 | exact fun z => h12 (by omega) | omega)]; exact Am.no h)
  · refine g_iload_n (j := 2) rfl dX11_never_8 ?_
    refine g_callS dX11_never_9 mlX11_197 msX11_isModulus (c_X11_isModulus w (d + 3) μ hm) sk1 rfl (by omega) (Nat.le_of_ble_eq_true rfl) (Nat.le_refl _) (Nat.le_refl _) (fun v μ2 hR => ?_)
    obtain ⟨rfl, hm⟩ := hR
    replace hm := hm.symm
    subst hm
    refine g_ifb_eq (tgt := 20) dX11_never_12 (by decide)  (fun h12 => ?_) (fun h12 => ?_)
    · refine g_iconst dX11_never_20 ?_
      exact G.retI dX11_never_21 rfl (by rw [aNever, cI_f (by first | exact fun z => h5 z.1 | exact fun z => h12 (by omega) | omega)]; exact Am.no h)
    · refine g_iload_n (j := 3) rfl dX11_never_15 ?_
      refine g_iconst dX11_never_16 ?_
      refine g_icmp_ge (tgt := 22) dX11_never_17 (by decide) (by omega) (by omega) (fun h17 => ?_) (fun h17 => ?_)
      · have rf := h.tps.rf h5.1
        have of := (h.tps.fs h5.1).1
        have hv0 := h5.1
        refine g_aload_n (j := 0) rfl dX11_never_22 ?_
        refine g_getR dX11_never_23 flX11_67 rfl (by assumption) (kz := 8) rfl (by assumption) ?_
        refine g_aload_n (j := 0) rfl dX11_never_26 ?_
        refine g_getR dX11_never_27 flX11_18 rfl (by assumption) (kz := 1) rfl (by assumption) ?_
        refine g_iload_n (j := 1) rfl dX11_never_30 ?_
        refine g_aald dX11_never_31 (by assumption) (by omega) (by omega) (by omega) (by assumption) ?_
        refine g_iload_n (j := 2) rfl dX11_never_32 ?_
        refine g_callV dX11_never_33 mlX11_200 mvX0_fill (ci := 0) ⟨by decide, rfl⟩ (by assumption) (c_fillS w d μ h h5.1 (mm := m) (by omega)) sv2 rfl (by omega) (Nat.le_of_ble_eq_true rfl) (Nat.le_refl _) (Nat.le_refl _) (fun v μ2 hR => ?_)
        obtain ⟨rfl, h2, hf2, em2, hO2⟩ := hR
        have o0b := h2.tps.o0
        have r8b := h2.tps.r0_8
        have o62b := h2.tps.o62
        refine g_iconst dX11_never_36 ?_
        refine g_istore (i := 4) dX11_never_37 (by decide) rfl ls4 ?_
        refine g_iconst dX11_never_39 ?_
        refine g_istore (i := 5) dX11_never_40 (by decide) rfl ls5 ?_
        refine G.post (fun v μ3 hq => ?_) (l_never (d := d + 3) h2.tps (mm := m) (by omega) hO2 (h.l5 h5.1) hi m.toNat 0 0 (by omega) (by omega) (by omega) (by omega))
        obtain ⟨rfl, rfl⟩ := hq
        rw [aNever, cI_t ⟨h5, by omega⟩]
        exact hf2.am h
      · refine g_iconst dX11_never_20 ?_
        exact G.retI dX11_never_21 rfl (by rw [aNever, cI_f (by first | exact fun z => h5 z.1 | exact fun z => h12 (by omega) | omega)]; exact Am.no h)
/-- the least m from m on of which some class is never met -/
noncomputable def brF (ts : List Tm) : Nat → Int → Int
  | 0, _ => -1
  | k + 1, m => cI (∃ r, (0 ≤ r ∧ r < m) ∧ clW m ts r = 0) m (brF ts k (m + 1))
theorem l_barsR {w : WC} {d : Nat} {R : Option AV → Mem → Prop} {μ : Mem} {x : Nat} {ts : List Tm} (hT : TPS w μ x) {mm : Int} (hm : 1 ≤ mm ∧ mm ≤ 60) (hO : FillOk (mL μ (x + 63)) mm ts 0) (h5 : ts.length ≤ 5) {s : Int} (k1 : (∃ r, (0 ≤ r ∧ r < mm) ∧ clW mm ts r = 0) → R (some (vI mm)) μ) (k2 : (¬ ∃ r, (0 ≤ r ∧ r < mm) ∧ clW mm ts r = 0) → ∀ x3 : Option AV, G w (d + 4) mX11_bars R 0 0 61 [some (vP (some x)), some (vI s), some (vI mm), x3] [] μ) : ∀ (n : Nat) (r : Int), r + n = mm → 0 ≤ r → (∀ j, 0 ≤ j → j < r → ¬ clW mm ts j = 0) →
    G w (d + 4) mX11_bars R 0 0 34 [some (vP (some x)), some (vI s), some (vI mm), some (vI r)] [] μ := by
  have o0 := hT.o0
  have r8 := hT.r0_8
  have o62 := hT.o62
  intro n
  induction n with
  | zero =>
    intro r hr h0 hj
    refine g_iload_n (j := 3) rfl dX11_bars_34 ?_
    refine g_iload_n (j := 2) rfl dX11_bars_35 ?_
    refine g_icmp_ge (tgt := 61) dX11_bars_36 (by decide) (by omega) (by omega) (fun h36 => ?_) (fun h36 => ?_)
    · exact k2 (fun ⟨r2, y1, y2⟩ => hj r2 y1.1 (by omega) y2) _
    · omega
  | succ n ih =>
    intro r hr h0 hj
    have hw := clW_64 hm h5 r
    refine g_iload_n (j := 3) rfl dX11_bars_34 ?_
    refine g_iload_n (j := 2) rfl dX11_bars_35 ?_
    refine g_icmp_ge (tgt := 61) dX11_bars_36 (by decide) (by omega) (by omega) (fun h36 => ?_) (fun h36 => ?_)
    · omega
    · refine g_aload_n (j := 0) rfl dX11_bars_39 ?_
      refine g_getR dX11_bars_40 flX11_67 rfl (by assumption) (kz := 8) rfl (by assumption) ?_
      refine g_iconst dX11_bars_43 ?_
      refine g_iload_n (j := 3) rfl dX11_bars_44 ?_
      refine g_callV dX11_bars_45 mlX11_210 mvX0_rowsFrom (ci := 0) ⟨by decide, rfl⟩ (by assumption) (c_rowsFrom w (d + 3) μ hT (t := 0) (r := r) (by omega) (by omega)) sv2 rfl (by omega) (Nat.le_of_ble_eq_true rfl) (Nat.le_refl _) (Nat.le_refl _) (fun v μ2 hR => ?_)
      obtain ⟨rfl, hm⟩ := hR
      replace hm := hm.symm
      subst hm
      rw [hO.at0 (by omega) (by omega)]
      refine g_lconst0 dX11_bars_48 ?_
      refine g_lif_ne (tgt := 55) dX11_bars_49 dX11_bars_50 (by decide) (by omega) (by omega) (fun h49 => ?_) (fun h49 => ?_)
      · refine g_iinc (i := 3) dX11_bars_55 rfl (by decide) rfl ls3 ?_
        refine g_goto (tgt := 34) (by decide) dX11_bars_58 ?_
        refine ih (r + 1) (by omega) (by omega) fun j z1 z2 => ?_
        by_cases hjr : j = r
        · rw [hjr]
          omega
        · exact hj j z1 (by omega)
      · refine g_iload_n (j := 2) rfl dX11_bars_53 ?_
        exact G.retI dX11_bars_54 rfl (k1 ⟨r, by omega, by omega⟩)
theorem l_bars {w : WC} {d : Nat} {x c N : Nat} {F : Int → List Tm} {μ0 : Mem} {s : Int} (hs : 0 ≤ s ∧ s ≤ 3) : ∀ (k : Nat) (m : Int) (μ : Mem) (x3 : Option AV), m + k = 61 → 1 ≤ m → CA w μ x F c N → FrC x μ0 μ →
    G w (d + 4) mX11_bars (fun v μ2 => v = some (vI (brF (F s) k m)) ∧ FrC x μ0 μ2) 0 0 12 [some (vP (some x)), some (vI s), some (vI m), x3] [] μ := by
  intro k
  induction k with
  | zero =>
    intro m μ x3 hm h0 h hf
    refine g_iload_n (j := 2) rfl dX11_bars_12 ?_
    refine g_bipush dX11_bars_13 (by omega) ?_
    refine g_icmp_gt (tgt := 67) dX11_bars_15 (by decide) (by omega) (by omega) (fun h15 => ?_) (fun h15 => ?_)
    · refine g_iconst dX11_bars_67 ?_
      exact G.retI dX11_bars_68 rfl ⟨by rw [brF], hf⟩
    · omega
  | succ k ih =>
    intro m μ x3 hm h0 h hf
    have o0 := h.tps.o0
    have r1 := h.tps.r0_1
    have a7 := h.tps.a7
    have r8 := h.tps.r0_8
    have o62 := h.tps.o62
    have rf := h.tps.rf hs
    refine g_iload_n (j := 2) rfl dX11_bars_12 ?_
    refine g_bipush dX11_bars_13 (by omega) ?_
    refine g_icmp_gt (tgt := 67) dX11_bars_15 (by decide) (by omega) (by omega) (fun h15 => ?_) (fun h15 => ?_)
    · omega
    · refine g_aload_n (j := 0) rfl dX11_bars_18 ?_
      refine g_getR dX11_bars_19 flX11_67 rfl (by assumption) (kz := 8) rfl (by assumption) ?_
      refine g_aload_n (j := 0) rfl dX11_bars_22 ?_
      refine g_getR dX11_bars_23 flX11_18 rfl (by assumption) (kz := 1) rfl (by assumption) ?_
      refine g_iload_n (j := 1) rfl dX11_bars_26 ?_
      refine g_aald dX11_bars_27 (by assumption) (by omega) (by omega) (by omega) (by assumption) ?_
      refine g_iload_n (j := 2) rfl dX11_bars_28 ?_
      refine g_callV dX11_bars_29 mlX11_200 mvX0_fill (ci := 0) ⟨by decide, rfl⟩ (by assumption) (c_fillS w d μ h hs (mm := m) (by omega)) sv2 rfl (by omega) (Nat.le_of_ble_eq_true rfl) (Nat.le_refl _) (Nat.le_refl _) (fun v μ2 hR => ?_)
      obtain ⟨rfl, h2, hf2, em2, hO2⟩ := hR
      have o0b := h2.tps.o0
      have r8b := h2.tps.r0_8
      have o62b := h2.tps.o62
      refine g_iconst dX11_bars_32 ?_
      refine g_istore_n (j := 3) dX11_bars_33 (by decide) rfl ls3 ?_
      refine l_barsR (d := d) h2.tps (mm := m) (by omega) hO2 (h.l5 hs) (fun z => ⟨by rw [brF, cI_t z], hf.tr hf2⟩) (fun z y3 => ?_) m.toNat 0 (by omega) (by omega) (fun j z1 z2 => by omega)
      refine g_iinc (i := 2) dX11_bars_61 rfl (by decide) rfl ls2 ?_
      refine g_goto (tgt := 12) (by decide) dX11_bars_64 ?_
      rw [brF, cI_f z]
      exact ih (m + 1) μ2 _ (by omega) (by omega) h2 (hf.tr hf2)
noncomputable def aBars (F : Int → List Tm) (s : Int) : Int := cI (HasT F s) (brF (F s) 60 1) (-1)
theorem c_X11_bars (w : WC) (d : Nat) (μ : Mem) {x c N : Nat} {F : Int → List Tm} (h : CA w μ x F c N) {s : Int} (hs : i32 s) : Con w (d + 4) mX11_bars 0 0 [vP (some x), vI s] μ (Am w μ x F N 0 (vI (aBars F s))) := by
  have o0 := h.tps.o0
  have r1 := h.tps.r0_1
  have a7 := h.tps.a7
  have r8 := h.tps.r0_8
  have o62 := h.tps.o62
  refine Con.of (by decide) (Nat.le_of_ble_eq_true rfl) rfl ?_
  refine g_aload_n (j := 0) rfl dX11_bars_0 ?_
  refine g_iload_n (j := 1) rfl dX11_bars_1 ?_
  refine g_callV dX11_bars_2 mlX11_128 mvX11_hasTerms (ci := 11) ⟨by decide, rfl⟩ (by assumption) (c_hasTerms w (d + 2) μ h hs) sv1 rfl (by omega) (Nat.le_of_ble_eq_true rfl) (Nat.le_refl _) (Nat.le_refl _) (fun v μ2 hR => ?_)
  obtain ⟨rfl, hm⟩ := hR
  replace hm := hm.symm
  subst hm
  refine g_ifb_ne (tgt := 10) dX11_bars_5 (by decide)  (fun h5 => ?_) (fun h5 => ?_)
  · refine g_iconst dX11_bars_10 ?_
    refine g_istore_n (j := 2) dX11_bars_11 (by decide) rfl ls2 ?_
    refine G.post (fun v μ3 hq => ?_) (l_bars (d := d) (μ0 := μ) h5.1 60 1 μ _ (by omega) (by omega) h Fr.rf)
    obtain ⟨rfl, hf⟩ := hq
    rw [aBars, cI_t h5]
    exact FrC.am hf h
  · refine g_iconst dX11_bars_8 ?_
    exact G.retI dX11_bars_9 rfl (by rw [aBars, cI_f h5]; exact Am.no h)
def fxF (p : Int → Bool) : Nat → Int → Int
  | 0, _ => -1
  | k + 1, x => if p x = true then x else fxF p k (x + 1)
theorem fxF_bd (p : Int → Bool) : ∀ (k : Nat) (x : Int), 0 ≤ x → (fxF p k x = -1 ∧ ∀ y, x ≤ y → y < x + k → p y = false) ∨ (x ≤ fxF p k x ∧ fxF p k x < x + k ∧ p (fxF p k x) = true)
  | 0, x, h => Or.inl ⟨rfl, fun y h1 h2 => by omega⟩
  | k + 1, x, h => by
    rw [fxF]
    split
    · next hp => exact Or.inr ⟨by omega, by omega, hp⟩
    · next hp =>
      rcases fxF_bd p k (x + 1) (by omega) with ⟨e, q⟩ | ⟨q1, q2, q3⟩
      · refine Or.inl ⟨e, fun y h1 h2 => ?_⟩
        by_cases hy : y = x
        · rw [hy]; exact Bool.eq_false_iff.mpr hp
        · exact q y (by omega) (by omega)
      · exact Or.inr ⟨by omega, by omega, q3⟩
def fxU (m : Int) (u : Tm) (us : List Tm) (left : Int) : Int := fxF (fun y => decide (0 < clW m us ((left - tV u y) % m))) (xsN u m).toNat 0
def frF (m i : Int) : List Tm → Int → Int → Int
  | [], _, _ => -1
  | u :: us, t, left => if fxU m u us left = -1 ∨ t = i then fxU m u us left else frF m i us (t + 1) ((left - tV u (fxU m u us left)) % m)
section MT
variable {w : WC} {d : Nat} {μ : Mem} {x q : Nat} {ts : List Tm} {mm : Int}
theorem l_firstX (hT : TPS w μ x) (hF : FoS w μ q) (hI : FI μ q ts) (em : mI μ (x + 62) 2 = mm) (hm : 1 ≤ mm ∧ mm ≤ 60) (hO : FillOk (mL μ (x + 63)) mm ts 0) {t left : Int} (hl : 0 ≤ left ∧ left < mm) {u : Tm} (h0 : 0 ≤ t) (h1 : t < ts.length) (hk : TOk u) (hat : TmAt μ q t u) : ∀ (n : Nat) (y : Int), y + n = xsN u mm → 0 ≤ y →
    G w (d + 2) mX0_firstX (fun v μ2 => v = some (vI (fxF (fun y => decide (0 < clW mm (ts.drop (t + 1).toNat) ((left - tV u y) % mm))) n y)) ∧ μ2 = μ) 0 0 3 [some (vP (some (x + 62))), some (vP (some q)), some (vI t), some (vI left), some (vI y)] [] μ := by
  have hxs : 0 ≤ xsN u mm ∧ xsN u mm ≤ 120 := by unfold xsN; split <;> omega
  have h5 := hI.2.1
  have o62 := hT.o62
  intro n
  induction n with
  | zero =>
    intro y hy h2
    refine g_iload (i := 4) rfl dX0_firstX_3 ?_
    refine g_aload_n (j := 0) rfl dX0_firstX_5 ?_
    refine g_aload_n (j := 1) rfl dX0_firstX_6 ?_
    refine g_iload_n (j := 2) rfl dX0_firstX_7 ?_
    refine g_callV dX0_firstX_8 mlX0_55 mvX0_rowLength (ci := 0) ⟨by decide, rfl⟩ (by assumption) (c_rowLength w (d + 1) μ hT hF hI (t := t) h0 h1 hk hat) sv2 rfl (by omega) (Nat.le_of_ble_eq_true rfl) (Nat.le_refl _) (Nat.le_refl _) (fun v μ2 hR => ?_)
    obtain ⟨rfl, hm⟩ := hR
    replace hm := hm.symm
    subst hm
    rw [em]
    refine g_icmp_ge (tgt := 52) dX0_firstX_11 (by decide) (by omega) (by omega) (fun h11 => ?_) (fun h11 => ?_)
    · refine g_iconst dX0_firstX_52 ?_
      exact G.retI dX0_firstX_53 rfl ⟨rfl, rfl⟩
    · omega
  | succ n ih =>
    intro y hy h2
    have hrm := rmF_bd (u := u) (m := mm) hm.1 y
    have hb1 := Int.emod_nonneg (left - tV u y) (show mm ≠ 0 by omega)
    have hb2 := Int.emod_lt_of_pos (left - tV u y) (show 0 < mm by omega)
    have hw := clW_64 hm (ts := ts.drop (t + 1).toNat) (by rw [List.length_drop]; omega) ((left - tV u y) % mm)
    have hrd := hO (t + 1) (by omega) (by omega) _ hb1 hb2
    rw [fxF]
    refine g_iload (i := 4) rfl dX0_firstX_3 ?_
    refine g_aload_n (j := 0) rfl dX0_firstX_5 ?_
    refine g_aload_n (j := 1) rfl dX0_firstX_6 ?_
    refine g_iload_n (j := 2) rfl dX0_firstX_7 ?_
    refine g_callV dX0_firstX_8 mlX0_55 mvX0_rowLength (ci := 0) ⟨by decide, rfl⟩ (by assumption) (c_rowLength w (d + 1) μ hT hF hI (t := t) h0 h1 hk hat) sv2 rfl (by omega) (Nat.le_of_ble_eq_true rfl) (Nat.le_refl _) (Nat.le_refl _) (fun v μ2 hR => ?_)
    obtain ⟨rfl, hm⟩ := hR
    replace hm := hm.symm
    subst hm
    rw [em]
    refine g_icmp_ge (tgt := 52) dX0_firstX_11 (by decide) (by omega) (by omega) (fun h11 => ?_) (fun h11 => ?_)
    · omega
    · refine g_aload_n (j := 0) rfl dX0_firstX_14 ?_
      refine g_iload_n (j := 2) rfl dX0_firstX_15 ?_
      refine g_iconst dX0_firstX_16 ?_
      refine g_iadd dX0_firstX_17 ?_
      refine g_iload_n (j := 3) rfl dX0_firstX_18 ?_
      refine g_aload_n (j := 0) rfl dX0_firstX_19 ?_
      refine g_aload_n (j := 1) rfl dX0_firstX_20 ?_
      refine g_iload_n (j := 2) rfl dX0_firstX_21 ?_
      refine g_iload (i := 4) rfl dX0_firstX_22 ?_
      refine g_callV dX0_firstX_24 mlX0_49 mvX0_remainder (ci := 0) ⟨by decide, rfl⟩ (by assumption) (c_remainder w d μ hT hF hI em hm (t := t) (y := y) h0 h1 hk hat (by omega)) sv3 rfl (by omega) (Nat.le_of_ble_eq_true rfl) (Nat.le_refl _) (Nat.le_refl _) (fun v μ2 hR => ?_)
      obtain ⟨rfl, hm⟩ := hR
      replace hm := hm.symm
      subst hm
      rw [show tV u y % mm = rmF u mm y from rfl]
      refine g_isub dX0_firstX_27 ?_
      refine g_aload_n (j := 0) rfl dX0_firstX_28 ?_
      refine g_getI dX0_firstX_29 flX0_19 rfl (by assumption) (kz := 2) rfl ?_
      rw [em]
      refine g_callS dX0_firstX_32 mlX0_52 msJ9_floorMod_7cf53 (c_floorMod w (d + 1) μ (a := left - rmF u mm y) (b := mm) (by omega) (by omega)) sk2 rfl (by omega) (Nat.le_of_ble_eq_true rfl) (Nat.le_refl _) (Nat.le_refl _) (fun v μ2 hR => ?_)
      obtain ⟨rfl, hm⟩ := hR
      replace hm := hm.symm
      subst hm
      rw [show (left - rmF u mm y) % mm = (left - tV u y) % mm from md_sub _ _ _]
      refine g_callV dX0_firstX_35 mlX0_59 mvX0_rowsFrom (ci := 0) ⟨by decide, rfl⟩ (by assumption) (c_rowsFrom w (d + 1) μ hT (t := t + 1) (r := (left - tV u y) % mm) (by omega) (by omega)) sv2 rfl (by omega) (Nat.le_of_ble_eq_true rfl) (Nat.le_refl _) (Nat.le_refl _) (fun v μ2 hR => ?_)
      obtain ⟨rfl, hm⟩ := hR
      replace hm := hm.symm
      subst hm
      rw [hrd]
      refine g_lconst0 dX0_firstX_38 ?_
      refine g_lif_le (tgt := 46) dX0_firstX_39 dX0_firstX_40 (by decide) (by omega) (by omega) (fun h39 => ?_) (fun h39 => ?_)
      · refine g_iinc (i := 4) dX0_firstX_46 rfl (by decide) rfl ls4 ?_
        refine g_goto (tgt := 3) (by decide) dX0_firstX_49 ?_
        rw [if_neg (by simp only [decide_eq_true_eq]; omega)]
        exact ih (y + 1) (by omega) (by omega)
      · refine g_iload (i := 4) rfl dX0_firstX_43 ?_
        exact G.retI dX0_firstX_45 rfl ⟨by rw [if_pos (by simp only [decide_eq_true_eq]; omega)], rfl⟩
theorem c_firstX (w : WC) (d : Nat) (μ : Mem) {x q : Nat} {ts : List Tm} {mm : Int} (hT : TPS w μ x) (hF : FoS w μ q) (hI : FI μ q ts) (em : mI μ (x + 62) 2 = mm) (hm : 1 ≤ mm ∧ mm ≤ 60) (hO : FillOk (mL μ (x + 63)) mm ts 0) {t left : Int} (hl : 0 ≤ left ∧ left < mm) {u : Tm} (h0 : 0 ≤ t) (h1 : t < ts.length) (hk : TOk u) (hat : TmAt μ q t u) : Con w (d + 2) mX0_firstX 0 0 [vP (some (x + 62)), vP (some q), vI t, vI left] μ (fun v μ2 => v = some (vI (fxU mm u (ts.drop (t + 1).toNat) left)) ∧ μ2 = μ) := by
  have hxs : 0 ≤ xsN u mm ∧ xsN u mm ≤ 120 := by unfold xsN; split <;> omega
  refine Con.of (by decide) (Nat.le_of_ble_eq_true rfl) rfl ?_
  refine g_iconst dX0_firstX_0 ?_
  refine g_istore (i := 4) dX0_firstX_1 (by decide) rfl ls4 ?_
  exact l_firstX hT hF hI em hm hO hl h0 h1 hk hat (xsN u mm).toNat 0 (by omega) (by omega)
theorem fxU_bd {m : Int} (hm : 1 ≤ m ∧ m ≤ 60) (u : Tm) (us : List Tm) (left : Int) : -1 ≤ fxU m u us left ∧ fxU m u us left < 120 := by
  have hxs : 0 ≤ xsN u m ∧ xsN u m ≤ 120 := by unfold xsN; split <;> omega
  have := fxF_bd (fun y => decide (0 < clW m us ((left - tV u y) % m))) (xsN u m).toNat 0 (by omega)
  unfold fxU
  omega
theorem l_firstRow (hT : TPS w μ x) (hF : FoS w μ q) (hI : FI μ q ts) (em : mI μ (x + 62) 2 = mm) (hm : 1 ≤ mm ∧ mm ≤ 60) (hO : FillOk (mL μ (x + 63)) mm ts 0) {i r0 : Int} (hi : 0 ≤ i ∧ i < ts.length) : ∀ (n : Nat) (t left : Int) (x6 : Option AV), t + n = ts.length → 0 ≤ t → t ≤ i → 0 ≤ left ∧ left < mm →
    G w (d + 3) mX0_firstRow (fun v μ2 => v = some (vI (frF mm i (ts.drop t.toNat) t left)) ∧ μ2 = μ) 0 0 6 [some (vP (some (x + 62))), some (vP (some q)), some (vI r0), some (vI i), some (vI left), some (vI t), x6] [] μ := by
  have h5 := hI.2.1
  have ec := hI.1
  have o62 := hT.o62
  obtain ⟨p0, ⟨pr1, pr2, pr3, pr4, pr5, pr6⟩, pa1, pa2, pa3, pa4, pa5, pa6⟩ := id hF
  intro n
  induction n with
  | zero =>
    intro t left x6 hn h0 hti hl
    omega
  | succ n ih =>
    intro t left x6 hn h0 hti hl
    obtain ⟨u, hu, hku, hat⟩ := hI.at (t := t) h0 (by omega)
    have hd := drop_at h0 (by omega) hu
    have hfb := fxU_bd hm u (ts.drop (t + 1).toNat) left
    have ht1 : (t + 1).toNat = t.toNat + 1 := by omega
    rw [hd, frF]
    refine g_iload (i := 5) rfl dX0_firstRow_6 ?_
    refine g_iload_n (j := 3) rfl dX0_firstRow_8 ?_
    refine g_icmp_gt (tgt := 74) dX0_firstRow_9 (by decide) (by omega) (by omega) (fun h9 => ?_) (fun h9 => ?_)
    · omega
    · refine g_iload (i := 5) rfl dX0_firstRow_12 ?_
      refine g_aload_n (j := 1) rfl dX0_firstRow_14 ?_
      refine g_getI dX0_firstRow_15 flX0_32 rfl (by assumption) (kz := 0) rfl ?_
      refine g_icmp_ge (tgt := 74) dX0_firstRow_18 (by decide) (by omega) (by omega) (fun h18 => ?_) (fun h18 => ?_)
      · omega
      · refine g_aload_n (j := 0) rfl dX0_firstRow_21 ?_
        refine g_aload_n (j := 1) rfl dX0_firstRow_22 ?_
        refine g_iload (i := 5) rfl dX0_firstRow_23 ?_
        refine g_iload (i := 4) rfl dX0_firstRow_25 ?_
        refine g_callV dX0_firstRow_27 mlX0_45 mvX0_firstX (ci := 0) ⟨by decide, rfl⟩ (by assumption) (c_firstX w d μ hT hF hI em hm hO (t := t) (left := left) hl h0 (by omega) hku hat) sv3 rfl (by omega) (Nat.le_of_ble_eq_true rfl) (Nat.le_refl _) (Nat.le_refl _) (fun v μ2 hR => ?_)
        obtain ⟨rfl, hm⟩ := hR
        replace hm := hm.symm
        subst hm
        refine g_istore (i := 6) dX0_firstRow_30 (by decide) rfl ls6 ?_
        refine g_iload (i := 6) rfl dX0_firstRow_32 ?_
        refine g_iconst dX0_firstRow_34 ?_
        refine g_icmp_eq (tgt := 44) dX0_firstRow_35 (by decide) (by omega) (by omega) (fun h35 => ?_) (fun h35 => ?_)
        · refine g_iload (i := 6) rfl dX0_firstRow_44 ?_
          exact G.retI dX0_firstRow_46 rfl ⟨by rw [if_pos (by omega)], rfl⟩
        · refine g_iload (i := 5) rfl dX0_firstRow_38 ?_
          refine g_iload_n (j := 3) rfl dX0_firstRow_40 ?_
          refine g_icmp_ne (tgt := 47) dX0_firstRow_41 (by decide) (by omega) (by omega) (fun h41 => ?_) (fun h41 => ?_)
          · refine g_iload (i := 4) rfl dX0_firstRow_47 ?_
            refine g_aload_n (j := 0) rfl dX0_firstRow_49 ?_
            refine g_aload_n (j := 1) rfl dX0_firstRow_50 ?_
            refine g_iload (i := 5) rfl dX0_firstRow_51 ?_
            refine g_iload (i := 6) rfl dX0_firstRow_53 ?_
            refine g_callV dX0_firstRow_55 mlX0_49 mvX0_remainder (ci := 0) ⟨by decide, rfl⟩ (by assumption) (c_remainder w (d + 1) μ hT hF hI em hm (t := t) (y := fxU mm u (ts.drop (t + 1).toNat) left) h0 (by omega) hku hat (by omega)) sv3 rfl (by omega) (Nat.le_of_ble_eq_true rfl) (Nat.le_refl _) (Nat.le_refl _) (fun v μ2 hR => ?_)
            obtain ⟨rfl, hm⟩ := hR
            replace hm := hm.symm
            subst hm
            have hrm := rmF_bd (u := u) (m := mm) hm.1 (fxU mm u (ts.drop (t + 1).toNat) left)
            unfold rmF at hrm
            refine g_isub dX0_firstRow_58 ?_
            refine g_aload_n (j := 0) rfl dX0_firstRow_59 ?_
            
            refine g_getI dX0_firstRow_60 flX0_19 rfl (by assumption) (kz := 2) rfl ?_
            rw [em]
            refine g_callS dX0_firstRow_63 mlX0_52 msJ9_floorMod_7cf53 (c_floorMod w (d + 2) μ (a := left - tV u (fxU mm u (ts.drop (t + 1).toNat) left) % mm) (b := mm) (by omega) (by omega)) sk2 rfl (by omega) (Nat.le_of_ble_eq_true rfl) (Nat.le_refl _) (Nat.le_refl _) (fun v μ2 hR => ?_)
            obtain ⟨rfl, hm⟩ := hR
            replace hm := hm.symm
            subst hm
            rw [md_sub]
            refine g_istore (i := 4) dX0_firstRow_66 (by decide) rfl ls4 ?_
            refine g_iinc (i := 5) dX0_firstRow_68 rfl (by decide) rfl ls5 ?_
            refine g_goto (tgt := 6) (by decide) dX0_firstRow_71 ?_
            rw [if_neg (by omega)]
            exact ih (t + 1) _ _ (by omega) (by omega) (by omega) ⟨Int.emod_nonneg _ (by omega), Int.emod_lt_of_pos _ (by omega)⟩
          · refine g_iload (i := 6) rfl dX0_firstRow_44 ?_
            exact G.retI dX0_firstRow_46 rfl ⟨by rw [if_pos (by omega)], rfl⟩
theorem c_firstRow (w : WC) (d : Nat) (μ : Mem) {x q : Nat} {ts : List Tm} {mm : Int} (hT : TPS w μ x) (hF : FoS w μ q) (hI : FI μ q ts) (em : mI μ (x + 62) 2 = mm) (hm : 1 ≤ mm ∧ mm ≤ 60) (hO : FillOk (mL μ (x + 63)) mm ts 0) {i r : Int} (hi : 0 ≤ i ∧ i < ts.length) (hr : 0 ≤ r ∧ r < mm) : Con w (d + 3) mX0_firstRow 0 0 [vP (some (x + 62)), vP (some q), vI r, vI i] μ (fun v μ2 => v = some (vI (frF mm i ts 0 r)) ∧ μ2 = μ) := by
  refine Con.of (by decide) (Nat.le_of_ble_eq_true rfl) rfl ?_
  refine g_iload_n (j := 2) rfl dX0_firstRow_0 ?_
  refine g_istore (i := 4) dX0_firstRow_1 (by decide) rfl ls4 ?_
  refine g_iconst dX0_firstRow_3 ?_
  refine g_istore (i := 5) dX0_firstRow_4 (by decide) rfl ls5 ?_
  exact l_firstRow (d := d) hT hF hI em hm hO hi ts.length 0 r _ (by omega) (by omega) (by omega) hr
end MT
noncomputable def aMeets (F : Int → List Tm) (s m r i : Int) : Int := cI ((HasI F s i ∧ (1 ≤ m ∧ m ≤ 60) ∧ 0 ≤ r ∧ r < m) ∧ 0 < clW m (F s) r) (frF m i (F s) 0 r) (-1)
theorem c_X11_meets (w : WC) (d : Nat) (μ : Mem) {x c N : Nat} {F : Int → List Tm} (h : CA w μ x F c N) {s : Int} (hs : i32 s) {m r i : Int} (hm : i32 m) (hr : i32 r) (hi : i32 i) : Con w (d + 4) mX11_meets 0 0 [vP (some x), vI s, vI m, vI r, vI i] μ (Am w μ x F N 0 (vI (aMeets F s m r i))) := by
  have o0 := h.tps.o0
  have r1 := h.tps.r0_1
  have a7 := h.tps.a7
  have r8 := h.tps.r0_8
  have o62 := h.tps.o62
  refine Con.of (by decide) (Nat.le_of_ble_eq_true rfl) rfl ?_
  refine g_aload_n (j := 0) rfl dX11_meets_0 ?_
  refine g_iload_n (j := 1) rfl dX11_meets_1 ?_
  refine g_iload (i := 4) rfl dX11_meets_2 ?_
  refine g_callV dX11_meets_4 mlX11_157 mvX11_hasTerm (ci := 11) ⟨by decide, rfl⟩ (by assumption) (c_hasTerm w (d + 2) μ h hs hi) sv2 rfl (by omega) (Nat.le_of_ble_eq_true rfl) (Nat.le_refl _) (Nat.le_refl _) (fun v μ2 hR => ?_)
  obtain ⟨rfl, hm⟩ := hR
  replace hm := hm.symm
  subst hm
  refine g_ifb_eq (tgt := 18) dX11_meets_7 (by decide)  (fun h7 => ?_) (fun h7 => ?_)
  · refine g_iconst dX11_meets_18 ?_
    exact G.retI dX11_meets_19 rfl (by rw [aMeets, cI_f (by first | exact fun z => h7 z.1.1 | exact fun z => h15 (by omega))]; exact Am.no h)
  · refine g_iload_n (j := 2) rfl dX11_meets_10 ?_
    refine g_iload_n (j := 3) rfl dX11_meets_11 ?_
    refine g_callS dX11_meets_12 mlX11_218 msX11_isClass (c_X11_isClass w (d + 2) μ hm hr) sk2 rfl (by omega) (Nat.le_of_ble_eq_true rfl) (Nat.le_refl _) (Nat.le_refl _) (fun v μ2 hR => ?_)
    obtain ⟨rfl, hm⟩ := hR
    replace hm := hm.symm
    subst hm
    refine g_ifb_ne (tgt := 20) dX11_meets_15 (by decide)  (fun h15 => ?_) (fun h15 => ?_)
    · have rf := h.tps.rf h7.1
      have of := (h.tps.fs h7.1).1
      have hv0 := h7.1
      refine g_aload_n (j := 0) rfl dX11_meets_20 ?_
      refine g_getR dX11_meets_21 flX11_67 rfl (by assumption) (kz := 8) rfl (by assumption) ?_
      refine g_aload_n (j := 0) rfl dX11_meets_24 ?_
      refine g_getR dX11_meets_25 flX11_18 rfl (by assumption) (kz := 1) rfl (by assumption) ?_
      refine g_iload_n (j := 1) rfl dX11_meets_28 ?_
      refine g_aald dX11_meets_29 (by assumption) (by omega) (by omega) (by omega) (by assumption) ?_
      refine g_iload_n (j := 2) rfl dX11_meets_30 ?_
      refine g_callV dX11_meets_31 mlX11_200 mvX0_fill (ci := 0) ⟨by decide, rfl⟩ (by assumption) (c_fillS w d μ h h7.1 (mm := m) (by omega)) sv2 rfl (by omega) (Nat.le_of_ble_eq_true rfl) (Nat.le_refl _) (Nat.le_refl _) (fun v μ2 hR => ?_)
      obtain ⟨rfl, h2, hf2, em2, hO2⟩ := hR
      have o0b := h2.tps.o0
      have r8b := h2.tps.r0_8
      have o62b := h2.tps.o62
      refine g_aload_n (j := 0) rfl dX11_meets_34 ?_
      refine g_getR dX11_meets_35 flX11_67 rfl (by assumption) (kz := 8) rfl (by assumption) ?_
      refine g_iconst dX11_meets_38 ?_
      refine g_iload_n (j := 3) rfl dX11_meets_39 ?_
      refine g_callV dX11_meets_40 mlX11_210 mvX0_rowsFrom (ci := 0) ⟨by decide, rfl⟩ (by assumption) (c_rowsFrom w (d + 3) μ2 h2.tps (t := 0) (r := r) (by omega) (by omega)) sv2 rfl (by omega) (Nat.le_of_ble_eq_true rfl) (Nat.le_refl _) (Nat.le_refl _) (fun v μ3 hR => ?_)
      obtain ⟨rfl, hm⟩ := hR
      replace hm := hm.symm
      subst hm
      rw [hO2.at0 (by omega) (by omega)]
      have hw := clW_64 (m := m) (by omega) (h.l5 hv0) r
      have r1b := h2.tps.r0_1
      have a7b := h2.tps.a7
      have rfb := h2.tps.rf hv0
      refine g_lconst0 dX11_meets_43 ?_
      refine g_lif_ne (tgt := 50) dX11_meets_44 dX11_meets_45 (by decide) (by omega) (by omega) (fun h44 => ?_) (fun h44 => ?_)
      · refine g_aload_n (j := 0) rfl dX11_meets_50 ?_
        refine g_getR dX11_meets_51 flX11_67 rfl (by assumption) (kz := 8) rfl (by assumption) ?_
        refine g_aload_n (j := 0) rfl dX11_meets_54 ?_
        refine g_getR dX11_meets_55 flX11_18 rfl (by assumption) (kz := 1) rfl (by assumption) ?_
        refine g_iload_n (j := 1) rfl dX11_meets_58 ?_
        refine g_aald dX11_meets_59 (by assumption) (by omega) (by omega) (by omega) (by assumption) ?_
        refine g_iload_n (j := 3) rfl dX11_meets_60 ?_
        refine g_iload (i := 4) rfl dX11_meets_61 ?_
        refine g_callV dX11_meets_63 mlX11_221 mvX0_firstRow (ci := 0) ⟨by decide, rfl⟩ (by assumption) (c_firstRow w d μ2 h2.tps (h2.tps.fs hv0) (h2.fm hv0) em2 (by omega) hO2 (i := i) (r := r) (by have := h7.2; omega) (by omega)) sv3 rfl (by omega) (Nat.le_of_ble_eq_true rfl) (Nat.le_refl _) (Nat.le_refl _) (fun v μ3 hR => ?_)
        obtain ⟨rfl, hm⟩ := hR
        replace hm := hm.symm
        subst hm
        exact G.retI dX11_meets_66 rfl (by rw [aMeets, cI_t ⟨⟨h7, by omega⟩, by omega⟩]; exact hf2.am h)
      · refine g_iconst dX11_meets_48 ?_
        exact G.retI dX11_meets_49 rfl (by rw [aMeets, cI_f (by omega)]; exact hf2.am h)
    · refine g_iconst dX11_meets_18 ?_
      exact G.retI dX11_meets_19 rfl (by rw [aMeets, cI_f (by first | exact fun z => h7 z.1.1 | exact fun z => h15 (by omega))]; exact Am.no h)
def exF (ts : List Tm) (m : Int) : Nat → Int → Int → Int
  | 0, _, f => f
  | k + 1, n, f => exF ts m k (n + 1) (if wy ts n = 0 ∧ clW m ts (n % m) = 0 then f + 1 else f)
theorem l_explained {w : WC} {d : Nat} {μ : Mem} {x a : Nat} {ts : List Tm} (hT : TPS w μ x) (ha : IsA w μ a 15 6001) (hr : RowW μ a ts) (hok : ∀ u ∈ ts, TOk u) {mm : Int} (hm : 1 ≤ mm ∧ mm ≤ 60) (hO : FillOk (mL μ (x + 63)) mm ts 0) (h5 : ts.length ≤ 5) {s fr to : Int} (ht : to ≤ 3000) : ∀ (k : Nat) (n f : Int), n + k = to + 1 → -3000 ≤ n → 0 ≤ f → f + k ≤ 7000 →
    G w (d + 4) mX11_explained (fun v μ2 => v = some (vI (exF ts mm k n f)) ∧ μ2 = μ) 0 0 54 [some (vP (some x)), some (vI s), some (vI fr), some (vI to), some (vI mm), some (vP (some a)), some (vI f), some (vI n)] [] μ := by
  have o0 := hT.o0
  have r8 := hT.r0_8
  have o62 := hT.o62
  intro k
  induction k with
  | zero =>
    intro n f hn h0 hf hf2
    refine g_iload (i := 7) rfl dX11_explained_54 ?_
    refine g_iload_n (j := 3) rfl dX11_explained_56 ?_
    refine g_icmp_gt (tgt := 103) dX11_explained_57 (by decide) (by omega) (by omega) (fun h57 => ?_) (fun h57 => ?_)
    · refine g_iload (i := 6) rfl dX11_explained_103 ?_
      exact G.retI dX11_explained_105 rfl ⟨by rw [exF], rfl⟩
    · omega
  | succ k ih =>
    intro n f hn h0 hf hf2
    have hw := wy_64 hok h5 n
    have hrn := hr n h0 (by omega)
    have hb1 := Int.emod_nonneg n (show mm ≠ 0 by omega)
    have hb2 := Int.emod_lt_of_pos n (show 0 < mm by omega)
    have hc := clW_64 hm h5 (n % mm)
    refine g_iload (i := 7) rfl dX11_explained_54 ?_
    refine g_iload_n (j := 3) rfl dX11_explained_56 ?_
    refine g_icmp_gt (tgt := 103) dX11_explained_57 (by decide) (by omega) (by omega) (fun h57 => ?_) (fun h57 => ?_)
    · omega
    · refine g_aload (i := 5) rfl dX11_explained_60 ?_
      refine g_iload (i := 7) rfl dX11_explained_62 ?_
      refine g_sipush dX11_explained_64 (by omega) ?_
      refine g_iadd dX11_explained_67 ?_
      refine g_lald dX11_explained_68 (by assumption) (by omega) (by omega) ?_
      rw [hrn]
      refine g_lconst0 dX11_explained_69 ?_
      refine g_lif_ne (tgt := 97) dX11_explained_70 dX11_explained_71 (by decide) (by omega) (by omega) (fun h70 => ?_) (fun h70 => ?_)
      · refine g_iinc (i := 7) dX11_explained_97 rfl (by decide) rfl ls7 ?_
        refine g_goto (tgt := 54) (by decide) dX11_explained_100 ?_
        rw [exF]
        first
        | (rw [if_pos (by omega)]; exact ih (n + 1) (f + 1) (by omega) (by omega) (by omega) (by omega))
        | (rw [if_neg (by omega)]; exact ih (n + 1) f (by omega) (by omega) (by omega) (by omega))
      · refine g_aload_n (j := 0) rfl dX11_explained_74 ?_
        refine g_getR dX11_explained_75 flX11_67 rfl (by assumption) (kz := 8) rfl (by assumption) ?_
        refine g_iconst dX11_explained_78 ?_
        refine g_iload (i := 7) rfl dX11_explained_79 ?_
        refine g_iload (i := 4) rfl dX11_explained_81 ?_
        refine g_callS dX11_explained_83 mlX11_204 msJ9_floorMod_7cf53 (c_floorMod w (d + 3) μ (a := n) (b := mm) (by omega) (by omega)) sk2 rfl (by omega) (Nat.le_of_ble_eq_true rfl) (Nat.le_refl _) (Nat.le_refl _) (fun v μ2 hR => ?_)
        obtain ⟨rfl, hm⟩ := hR
        replace hm := hm.symm
        subst hm
        refine g_callV dX11_explained_86 mlX11_210 mvX0_rowsFrom (ci := 0) ⟨by decide, rfl⟩ (by assumption) (c_rowsFrom w (d + 3) μ hT (t := 0) (r := n % mm) (by omega) (by omega)) sv2 rfl (by omega) (Nat.le_of_ble_eq_true rfl) (Nat.le_refl _) (Nat.le_refl _) (fun v μ2 hR => ?_)
        obtain ⟨rfl, hm⟩ := hR
        replace hm := hm.symm
        subst hm
        rw [hO.at0 (by omega) (by omega)]
        refine g_lconst0 dX11_explained_89 ?_
        refine g_lif_ne (tgt := 97) dX11_explained_90 dX11_explained_91 (by decide) (by omega) (by omega) (fun h90 => ?_) (fun h90 => ?_)
        · refine g_iinc (i := 7) dX11_explained_97 rfl (by decide) rfl ls7 ?_
          refine g_goto (tgt := 54) (by decide) dX11_explained_100 ?_
          rw [exF]
          first
          | (rw [if_pos (by omega)]; exact ih (n + 1) (f + 1) (by omega) (by omega) (by omega) (by omega))
          | (rw [if_neg (by omega)]; exact ih (n + 1) f (by omega) (by omega) (by omega) (by omega))
        · refine g_iinc (i := 6) dX11_explained_94 rfl (by decide) rfl ls6 ?_
          refine g_iinc (i := 7) dX11_explained_97 rfl (by decide) rfl ls7 ?_
          refine g_goto (tgt := 54) (by decide) dX11_explained_100 ?_
          rw [exF]
          first
          | (rw [if_pos (by omega)]; exact ih (n + 1) (f + 1) (by omega) (by omega) (by omega) (by omega))
          | (rw [if_neg (by omega)]; exact ih (n + 1) f (by omega) (by omega) (by omega) (by omega))
noncomputable def aExpl (F : Int → List Tm) (s fr to m : Int) : Int := cI (HasT F s ∧ ((-3000 ≤ fr ∧ fr ≤ 3000) ∧ (-3000 ≤ to ∧ to ≤ 3000) ∧ fr ≤ to) ∧ 1 ≤ m ∧ m ≤ 60) (exF (F s) m (to - fr + 1).toNat fr 0) (-1)
theorem c_X11_explained (w : WC) (d : Nat) (μ : Mem) {x c N : Nat} {F : Int → List Tm} (h : CA w μ x F c N) {s : Int} (hs : i32 s) {fr to m : Int} (hfr : i32 fr) (hto : i32 to) (hm : i32 m) : ∃ bs, bs ≤ 12002 + pot N ∧ Con w (d + 5) mX11_explained 2 bs [vP (some x), vI s, vI fr, vI to, vI m] μ (Am w μ x F N bs (vI (aExpl F s fr to m))) := by
  obtain ⟨bs, hb1, hb2⟩ := room2 (HasT F s ∧ ((-3000 ≤ fr ∧ fr ≤ 3000) ∧ (-3000 ≤ to ∧ to ≤ 3000) ∧ fr ≤ to) ∧ 1 ≤ m ∧ m ≤ 60) (6001 + cwB N (F s))
  refine ⟨bs, (rm_le hb1 hb2 fun z => by have := h.pt (show 0 ≤ s ∧ s ≤ 3 by first | exact z.1.1 | exact z.1); omega), ?_⟩
  have o0 := h.tps.o0
  have r1 := h.tps.r0_1
  have a7 := h.tps.a7
  have r8 := h.tps.r0_8
  have o62 := h.tps.o62
  refine Con.of (by decide) (Nat.le_of_ble_eq_true rfl) rfl ?_
  refine g_aload_n (j := 0) rfl dX11_explained_0 ?_
  refine g_iload_n (j := 1) rfl dX11_explained_1 ?_
  refine g_callV dX11_explained_2 mlX11_128 mvX11_hasTerms (ci := 11) ⟨by decide, rfl⟩ (by assumption) (c_hasTerms w (d + 3) μ h hs) sv1 rfl (by omega) (Nat.le_of_ble_eq_true rfl) (Nat.le_refl _) (Nat.le_refl _) (fun v μ2 hR => ?_)
  obtain ⟨rfl, hm⟩ := hR
  replace hm := hm.symm
  subst hm
  refine g_ifb_eq (tgt := 24) dX11_explained_5 (by decide)  (fun h5 => ?_) (fun h5 => ?_)
  · refine g_iconst dX11_explained_24 ?_
    have hN : ¬ (HasT F s ∧ ((-3000 ≤ fr ∧ fr ≤ 3000) ∧ (-3000 ≤ to ∧ to ≤ 3000) ∧ fr ≤ to) ∧ 1 ≤ m ∧ m ≤ 60) := by
      intro z
      first | exact h5 z.1 | exact h13 z.2.1 | exact h21 z.2.2
    rw [hb2 hN]
    exact G.retI dX11_explained_25 rfl (by rw [aExpl, cI_f hN]; exact Am.no h)
  · refine g_iload_n (j := 2) rfl dX11_explained_8 ?_
    refine g_iload_n (j := 3) rfl dX11_explained_9 ?_
    refine g_callS dX11_explained_10 mlX11_194 msX11_isRange (c_X11_isRange w (d + 3) μ hfr hto) sk2 rfl (by omega) (Nat.le_of_ble_eq_true rfl) (Nat.le_refl _) (Nat.le_refl _) (fun v μ2 hR => ?_)
    obtain ⟨rfl, hm⟩ := hR
    replace hm := hm.symm
    subst hm
    refine g_ifb_eq (tgt := 24) dX11_explained_13 (by decide)  (fun h13 => ?_) (fun h13 => ?_)
    · refine g_iconst dX11_explained_24 ?_
      have hN : ¬ (HasT F s ∧ ((-3000 ≤ fr ∧ fr ≤ 3000) ∧ (-3000 ≤ to ∧ to ≤ 3000) ∧ fr ≤ to) ∧ 1 ≤ m ∧ m ≤ 60) := by
        intro z
        first | exact h5 z.1 | exact h13 z.2.1 | exact h21 z.2.2
      rw [hb2 hN]
      exact G.retI dX11_explained_25 rfl (by rw [aExpl, cI_f hN]; exact Am.no h)
    · refine g_iload (i := 4) rfl dX11_explained_16 ?_
      refine g_callS dX11_explained_18 mlX11_197 msX11_isModulus (c_X11_isModulus w (d + 4) μ hm) sk1 rfl (by omega) (Nat.le_of_ble_eq_true rfl) (Nat.le_refl _) (Nat.le_refl _) (fun v μ2 hR => ?_)
      obtain ⟨rfl, hm⟩ := hR
      replace hm := hm.symm
      subst hm
      refine g_ifb_ne (tgt := 26) dX11_explained_21 (by decide)  (fun h21 => ?_) (fun h21 => ?_)
      · have hV : HasT F s ∧ ((-3000 ≤ fr ∧ fr ≤ 3000) ∧ (-3000 ≤ to ∧ to ≤ 3000) ∧ fr ≤ to) ∧ 1 ≤ m ∧ m ≤ 60 := ⟨h5, h13, by omega⟩
        have hbs := hb1 hV
        subst hbs
        refine g_aload_n (j := 0) rfl dX11_explained_26 ?_
        refine g_iload_n (j := 1) rfl dX11_explained_27 ?_
        refine g_callV dX11_explained_28 mlX11_131 mvX11_wayCounts (ci := 11) ⟨by decide, rfl⟩ (by assumption) (c_wayCounts w d μ h hV.1.1) sv1 rfl (by omega) (Nat.le_of_ble_eq_true rfl) (bc1 := 0) (bs1 := 0) (by omega) (by omega) (fun v μ2 hR => ?_)
        obtain ⟨a, c2, rfl, h2, ha, hr, ⟨hxa, -⟩, hf⟩ := hR
        have o0b := h2.tps.o0
        have r1b := h2.tps.r0_1
        have a7b := h2.tps.a7
        have r8b := h2.tps.r0_8
        have rfb := h2.tps.rf hV.1.1
        have hs3 := hV.1.1
        have o62b := h2.tps.o62
        refine g_astore (i := 5) dX11_explained_31 (by decide) rfl ls5 ?_
        refine g_aload_n (j := 0) rfl dX11_explained_33 ?_
        refine g_getR dX11_explained_34 flX11_67 rfl (by assumption) (kz := 8) rfl (by assumption) ?_
        refine g_aload_n (j := 0) rfl dX11_explained_37 ?_
        refine g_getR dX11_explained_38 flX11_18 rfl (by assumption) (kz := 1) rfl (by assumption) ?_
        refine g_iload_n (j := 1) rfl dX11_explained_41 ?_
        refine g_aald dX11_explained_42 (by assumption) (by omega) (by omega) (by omega) (by assumption) ?_
        refine g_iload (i := 4) rfl dX11_explained_43 ?_
        refine g_callV dX11_explained_45 mlX11_200 mvX0_fill (ci := 0) ⟨by decide, rfl⟩ (by assumption) (c_fillS w (d + 1) μ2 h2 hV.1.1 (mm := m) (by omega)) sv2 rfl (by omega) (Nat.le_of_ble_eq_true rfl) (Nat.le_refl _) (Nat.le_refl _) (fun v μ3 hR => ?_)
        obtain ⟨rfl, h3, hf3, em3, hO3⟩ := hR
        refine g_iconst dX11_explained_48 ?_
        refine g_istore (i := 6) dX11_explained_49 (by decide) rfl ls6 ?_
        refine g_iload_n (j := 2) rfl dX11_explained_51 ?_
        refine g_istore (i := 7) dX11_explained_52 (by decide) rfl ls7 ?_
        have ha3 := hf3.A ha
        have hr3 : RowW μ3 a (F s) := fun n z1 z2 => by
          rw [hf3.L ha.2.1 (by omega)]
          exact hr n z1 z2
        refine G.post (fun v μ4 hq => ?_) (l_explained (d := d + 1) h3.tps ha3 hr3 (h3.ok hV.1.1) (mm := m) (by omega) hO3 (h3.l5 hV.1.1) hV.2.1.2.1.2 (to - fr + 1).toNat fr 0 (by omega) (by omega) (by omega) (by omega))
        obtain ⟨rfl, rfl⟩ := hq
        rw [aExpl, cI_t hV]
        obtain ⟨e1, c3, N3, q1, q2, q3⟩ := Am.wc (a := vI 0) h hV.1.1 h2 hf
        exact ⟨rfl, c2, _, h3, q2.tr (hf3.mono (fun a _ z => by unfold Cc; omega) (fun _ _ _ z => z.elim)), by
          have := (pot_step (ts := F s) h.2.2.1.2.1 (h.ok hV.1.1) (h.l5 hV.1.1)).1
          omega⟩
      · refine g_iconst dX11_explained_24 ?_
        have hN : ¬ (HasT F s ∧ ((-3000 ≤ fr ∧ fr ≤ 3000) ∧ (-3000 ≤ to ∧ to ≤ 3000) ∧ fr ≤ to) ∧ 1 ≤ m ∧ m ≤ 60) := by
          intro z
          first | exact h5 z.1 | exact h13 z.2.1 | exact h21 z.2.2
        rw [hb2 hN]
        exact G.retI dX11_explained_25 rfl (by rw [aExpl, cI_f hN]; exact Am.no h)
