/-! THE CLASS: addLikePowers -/
def clF (g : Int → Int) (f T : Int) : Int → Int := fun k => if f ≤ k ∧ k ≤ f + T then 0 else g k
theorem RwP.cl {g Φ : Int → Int} {T b lo : Int} {v : Int → Int} {L : Int} {m i j : Nat} (hT : 0 ≤ T) (h : RwP g Φ T b lo v L m i) (hij : ¬ i = j) : RwP (clF g ((j : Int) * (T + 1)) T) Φ T b lo v L m i := by
  intro p p0 p1
  rw [← h p p0 p1]
  unfold clF
  rw [if_neg]
  intro z
  rcases Nat.lt_or_gt_of_ne hij with y | y
  · have := row_ge (T := T) (t := (i : Int)) (j := (j : Int)) hT (by omega)
    omega
  · have := row_ge (T := T) (t := (j : Int)) (j := (i : Int)) hT (by omega)
    omega
theorem RwP.c0 {g Φ : Int → Int} {T b lo : Int} {v : Int → Int} {L : Int} {j : Nat} : RwP (clF g (((j + 1 : Nat) : Int) * (T + 1)) T) Φ T b lo v L 0 (j + 1) := by
  intro p p0 p1
  unfold clF
  rw [if_pos (by omega), hk_n]
def AlH (w : WC) (μ : Mem) (s c N q : Nat) (T t : Int) (u : Tm) (kk : Nat) : Prop := SeS w μ s c N ∧ FoS w μ q ∧ mI μ s 3 = T ∧ (0 ≤ T ∧ T ≤ 18000) ∧ (0 ≤ t ∧ t < 5) ∧ TOk u ∧ TmAt μ q t u ∧ (1 ≤ kk ∧ kk ≤ 5) ∧ ((kk : Int) + 1) * (T + 1) ≤ (N : Int)
theorem AlH.rw {w : WC} {μ : Mem} {s c N q : Nat} {T t : Int} {u : Tm} {kk : Nat} (h : AlH w μ s c N q T t u kk) {j : Nat} (hj : j ≤ kk) : (0 ≤ (j : Int) * (T + 1) ∧ (j : Int) * (T + 1) + T < (N : Int)) ∧ (j : Int) * (T + 1) + T ≤ 1000000 := by
  obtain ⟨-, -, -, hT, -, -, -, hk, hN⟩ := h
  have h1 := Int.mul_nonneg (Int.natCast_nonneg j) (show 0 ≤ T + 1 by omega)
  have h2 := row_ge (T := T) (t := (j : Int)) (j := (kk : Int) + 1) hT.1 (by omega)
  have h3 : (j : Int) * (T + 1) ≤ 5 * 18001 := Int.mul_le_mul (by omega) (by omega) (by omega) (by omega)
  omega
theorem l_p3 {w : WC} {d : Nat} {μ : Mem} {s c N q : Nat} {T t re b : Int} {u : Tm} {kk : Nat} {Φ : Int → Int} {Q : Option AV → Mem → Prop} (h : AlH w μ s c N q T t u kk) (kk2 : ∀ g, RwP g Φ T b (loT u) (tV u) (tL u) (0) (0) → (∀ i, 1 ≤ i → i ≤ kk → RwP g Φ T b (loT u) (tV u) (tL u) (0) (i)) → G w (d + 2) mX7_addLikePowers Q 0 0 21 [some (vP (some s)), some (vP (some q)), some (vI t), some (vI (kk : Int)), some (vI re), some (vI ((kk + 1 : Nat) : Int)), none, none] [] (wL μ c g)) : ∀ (r j : Nat) (g : Int → Int), j + r = kk → RwP g Φ T b (loT u) (tV u) (tL u) (0) (0) → (∀ i, 1 ≤ i → i < j + 1 → RwP g Φ T b (loT u) (tV u) (tL u) (0) (i)) → G w (d + 2) mX7_addLikePowers Q 0 0 3 [some (vP (some s)), some (vP (some q)), some (vI t), some (vI (kk : Int)), some (vI re), some (vI ((j + 1 : Nat) : Int)), none, none] [] (wL μ c g) := by
  obtain ⟨hS, hF, eT, hT, ht, hu, hat, hk, hN⟩ := id h
  have hS0 := hS
  have hF0 := hF
  obtain ⟨o0, r0, r1, a1, a2⟩ := hS
  obtain ⟨p0, ⟨q1, q2, q3, q4, q5, q6⟩, b1, b2, b3, b4, b5, b6⟩ := hF
  obtain ⟨g1, g2, g3, g4, g5, g6⟩ := id hat
  intro r
  induction r with
  | zero =>
    intro j g hr h0 hD
    have ej : j = kk := by omega
    subst ej
    refine g_iload (i := 5) rfl dX7_addLikePowers_3 ?_
    refine g_iload_n (j := 3) rfl dX7_addLikePowers_5 ?_
    refine g_icmp_gt (tgt := 21) dX7_addLikePowers_6 (by decide) (by omega) (by omega) (fun h6 => ?_) (fun h6 => ?_)
    · exact kk2 g h0 (fun i z1 z2 => hD i z1 (by omega))
    · omega
  | succ r ih =>
    intro j g hr h0 hD
    have hrw := h.rw (j := j + 1) (by omega)
    refine g_iload (i := 5) rfl dX7_addLikePowers_3 ?_
    refine g_iload_n (j := 3) rfl dX7_addLikePowers_5 ?_
    refine g_icmp_gt (tgt := 21) dX7_addLikePowers_6 (by decide) (by omega) (by omega) (fun h6 => ?_) (fun h6 => ?_)
    · omega
    · refine g_aload_n (j := 0) rfl dX7_addLikePowers_9 ?_
      refine g_iload (i := 5) rfl dX7_addLikePowers_10 ?_
      refine g_callV dX7_addLikePowers_12 mlX7_39 mvX7_clear (ci := 7) ⟨by decide, rfl⟩ (by simp only [IsO_sI, IsO_sL, IsO_sR, IsO_wI, IsO_wL, IsA_sI, IsA_sL, IsA_sR, IsA_wI, IsA_wL, mR_sI, mR_sL, mR_wI, mR_wL]; assumption) (c_clearT w d _ (hS0.wL (k := c) (g := g)) (t := ((j + 1 : Nat) : Int)) (T := T) eT rfl hrw.1.1 hT.1 hrw.1.2 (by omega)) sv1 rfl (by omega) (Nat.le_of_ble_eq_true rfl) (Nat.le_refl _) (Nat.le_refl _) (fun v μ2 hR => ?_)
      obtain ⟨rfl, hm⟩ := hR
      replace hm := hm.symm
      subst hm
      rw [mL_wL_self, wL_wL, show (fun k => if ((j + 1 : Nat) : Int) * (T + 1) ≤ k ∧ k ≤ ((j + 1 : Nat) : Int) * (T + 1) + T then 0 else g k) = clF g (((j + 1 : Nat) : Int) * (T + 1)) T from rfl]
      refine g_iinc (i := 5) dX7_addLikePowers_15 rfl (by decide) rfl ls5 ?_
      refine g_goto (tgt := 3) (by decide) dX7_addLikePowers_18 ?_
      rw [show ((j + 1 : Nat) : Int) + 1 = ((j + 1 + 1 : Nat) : Int) by omega]
      refine ih (j + 1) _ (by omega) (h0.cl hT.1 (by omega)) (fun i z1 z2 => ?_)
      by_cases z : i = j + 1
      · rw [z]
        exact RwP.c0
      · exact (hD i z1 (by omega)).cl hT.1 z
theorem l_p59 {w : WC} {d : Nat} {μ : Mem} {s c N q : Nat} {T t re b : Int} {u : Tm} {kk : Nat} {Φ : Int → Int} {Q : Option AV → Mem → Prop} {R x sh : Int} {m : Nat} (h : AlH w μ s c N q T t u kk) (hM : ∀ x, tL u ≤ x → x < tL u + ((m + 1 : Nat) : Int) → loT u ≤ tV u x ∧ tV u x ≤ hiT u) (hsh : sh = tV u (tL u + (m : Int)) - loT u) (hΦ : ∀ n, n < b → Φ n = 0) (hΨ : ∀ n, b + R < n → Φ n = 0) (hR : 0 ≤ R ∧ R ≤ 1000000) (hre : re = min T R) (kk2 : ∀ g, (∀ i, i ≤ kk → RwP g Φ T b (loT u) (tV u) (tL u) (m + 1) (i)) → G w (d + 2) mX7_addLikePowers Q 0 0 96 [some (vP (some s)), some (vP (some q)), some (vI t), some (vI (kk : Int)), some (vI re), some (vI x), some (vI sh), some (vI ((kk + 1 : Nat) : Int))] [] (wL μ c g)) : ∀ (r j : Nat) (g : Int → Int), j + r = kk → (∀ i, i < j + 1 → RwP g Φ T b (loT u) (tV u) (tL u) (m + 1) (i)) → (∀ i, j + 1 ≤ i → i ≤ kk → RwP g Φ T b (loT u) (tV u) (tL u) (m) (i)) → G w (d + 2) mX7_addLikePowers Q 0 0 59 [some (vP (some s)), some (vP (some q)), some (vI t), some (vI (kk : Int)), some (vI re), some (vI x), some (vI sh), some (vI ((j + 1 : Nat) : Int))] [] (wL μ c g) := by
  obtain ⟨hS, hF, eT, hT, ht, hu, hat, hk, hN⟩ := id h
  have hS0 := hS
  have hF0 := hF
  obtain ⟨o0, r0, r1, a1, a2⟩ := hS
  obtain ⟨p0, ⟨q1, q2, q3, q4, q5, q6⟩, b1, b2, b3, b4, b5, b6⟩ := hF
  obtain ⟨g1, g2, g3, g4, g5, g6⟩ := id hat
  have hL0 := hM (tL u + (m : Int)) (by omega) (by omega)
  have hlo3 : -3000 ≤ loT u ∧ loT u ≤ 3000 := tLo_bd hu
  have hhi3 : -3000 ≤ hiT u ∧ hiT u ≤ 3000 := tHi_bd hu
  intro r
  induction r with
  | zero =>
    intro j g hr hD hE
    have ej : j = kk := by omega
    subst ej
    refine g_iload (i := 7) rfl dX7_addLikePowers_59 ?_
    refine g_iload_n (j := 3) rfl dX7_addLikePowers_61 ?_
    refine g_icmp_gt (tgt := 96) dX7_addLikePowers_62 (by decide) (by omega) (by omega) (fun h62 => ?_) (fun h62 => ?_)
    · exact kk2 g (fun i z => hD i (by omega))
    · omega
  | succ r ih =>
    intro j g hr hD hE
    have hrw := h.rw (j := j + 1) (by omega)
    have hrj := h.rw (j := j) (by omega)
    have hn0 := Int.mul_nonneg (Int.natCast_nonneg j) (show 0 ≤ hiT u - loT u by omega)
    have hn5 : (j : Int) * (hiT u - loT u) ≤ 5 * 6000 := Int.mul_le_mul (by omega) (by omega) (by omega) (by omega)
    have hap := row_ge (T := T) (t := (j : Int)) (j := ((j + 1 : Nat) : Int)) hT.1 (by omega)
    refine g_iload (i := 7) rfl dX7_addLikePowers_59 ?_
    refine g_iload_n (j := 3) rfl dX7_addLikePowers_61 ?_
    refine g_icmp_gt (tgt := 96) dX7_addLikePowers_62 (by decide) (by omega) (by omega) (fun h62 => ?_) (fun h62 => ?_)
    · omega
    · refine g_aload_n (j := 0) rfl dX7_addLikePowers_65 ?_
      refine g_iload (i := 7) rfl dX7_addLikePowers_66 ?_
      refine g_iload (i := 7) rfl dX7_addLikePowers_68 ?_
      refine g_iconst dX7_addLikePowers_70 ?_
      refine g_isub dX7_addLikePowers_71 ?_
      rw [show ((j + 1 : Nat) : Int) - 1 = (j : Int) by omega]
      refine g_iload (i := 6) rfl dX7_addLikePowers_72 ?_
      refine g_iload (i := 4) rfl dX7_addLikePowers_74 ?_
      refine g_iload (i := 7) rfl dX7_addLikePowers_76 ?_
      refine g_iconst dX7_addLikePowers_78 ?_
      refine g_isub dX7_addLikePowers_79 ?_
      rw [show ((j + 1 : Nat) : Int) - 1 = (j : Int) by omega]
      refine g_aload_n (j := 1) rfl dX7_addLikePowers_80 ?_
      refine g_iload_n (j := 2) rfl dX7_addLikePowers_81 ?_
      refine g_callV dX7_addLikePowers_82 mlX7_62 mvX1_spread (ci := 1) ⟨by decide, rfl⟩ (by simp only [IsO_sI, IsO_sL, IsO_sR, IsO_wI, IsO_wL, IsA_sI, IsA_sL, IsA_sR, IsA_wI, IsA_wL, mR_sI, mR_sL, mR_wI, mR_wL]; assumption) (c_spread w d _ (q := q) hF0.wL ht) sv1 rfl (by omega) (Nat.le_of_ble_eq_true rfl) (Nat.le_refl _) (Nat.le_refl _) (fun v μ2 hR => ?_)
      obtain ⟨rfl, hm⟩ := hR
      replace hm := hm.symm
      subst hm
      simp only [mI_wL]
      rw [g5, g6]
      refine g_imul dX7_addLikePowers_85 ?_
      refine g_iadd dX7_addLikePowers_86 ?_
      refine g_callV dX7_addLikePowers_87 mlX7_82 mvX7_addShifted (ci := 7) ⟨by decide, rfl⟩ (by simp only [IsO_sI, IsO_sL, IsO_sR, IsO_wI, IsO_wL, IsA_sI, IsA_sL, IsA_sR, IsA_wI, IsA_wL, mR_sI, mR_sL, mR_wI, mR_wL]; assumption) (c_addShifted w d _ (hS0.wL (k := c) (g := g)) (p1 := ((j + 1 : Nat) : Int)) (p2 := (j : Int)) (sh := sh) (re := re + (j : Int) * (hiT u - loT u)) (a := ((j + 1 : Nat) : Int) * (T + 1)) (b := (j : Int) * (T + 1)) (by simp only [mI_wL]; rw [eT]) (by simp only [mI_wL]; rw [eT]) hrw.1.1 hrj.1.1 (by omega) (by omega) (by simp only [mI_wL]; omega) (by simp only [mI_wL]; omega) (by simp only [mI_wL]; omega) (by simp only [mI_wL]; omega) (by simp only [mI_wL]; omega)) sv4 rfl (by omega) (Nat.le_of_ble_eq_true rfl) (Nat.le_refl _) (Nat.le_refl _) (fun v μ2 hR => ?_)
      obtain ⟨rfl, hm⟩ := hR
      replace hm := hm.symm
      subst hm
      rw [mL_wL_self, wL_wL]
      simp only [mI_wL]
      rw [eT]
      refine g_iinc (i := 7) dX7_addLikePowers_90 rfl (by decide) rfl ls7 ?_
      refine g_goto (tgt := 59) (by decide) dX7_addLikePowers_93 ?_
      rw [show ((j + 1 : Nat) : Int) + 1 = ((j + 1 + 1 : Nat) : Int) by omega]
      refine ih (j + 1) _ (by omega) (fun i z => ?_) (fun i z1 z2 => ?_)
      · by_cases y : i = j + 1
        · rw [y]
          exact RwP.sh hT.1 hΦ (fun x z1 z2 => (hM x z1 z2).1) hsh (hE (j + 1) (by omega) (by omega)) (hD j (by omega)) ((hD j (by omega)).far hΨ (fun x z1 z2 => (hM x z1 z2).2) (by rw [hre]) (by have := hM (tL u) (by omega) (by omega); omega))
        · exact (hD i (by omega)).ne hT.1 y (by omega) (by omega) _
      · exact (hE i (by omega) z2).ne hT.1 (by omega) (by omega) (by omega) _
theorem l_p29 {w : WC} {d : Nat} {μ : Mem} {s c N q : Nat} {T t re b : Int} {u : Tm} {kk : Nat} {Φ : Int → Int} {R : Int} (h : AlH w μ s c N q T t u kk) (hΦ : ∀ n, n < b → Φ n = 0) (hΨ : ∀ n, b + R < n → Φ n = 0) (hR : 0 ≤ R ∧ R ≤ 1000000) (hre : re = min T R) : ∀ (r m : Nat) (g : Int → Int) (x6 x7 : Option AV), m + r = (tH u - tL u + 1).toNat → (∀ i, i ≤ kk → RwP g Φ T b (loT u) (tV u) (tL u) (m) (i)) → G w (d + 2) mX7_addLikePowers (fun v μ2 => v = none ∧ ∃ g, μ2 = wL μ c g ∧ ∀ p, 0 ≤ p → p ≤ T → g p = hkU u kk Φ (p + b + (kk : Int) * loT u)) 0 0 29 [some (vP (some s)), some (vP (some q)), some (vI t), some (vI (kk : Int)), some (vI re), some (vI (tL u + (m : Int))), x6, x7] [] (wL μ c g) := by
  obtain ⟨hS, hF, eT, hT, ht, hu, hat, hk, hN⟩ := id h
  have hS0 := hS
  have hF0 := hF
  obtain ⟨o0, r0, r1, a1, a2⟩ := hS
  obtain ⟨p0, ⟨q1, q2, q3, q4, q5, q6⟩, b1, b2, b3, b4, b5, b6⟩ := hF
  obtain ⟨g1, g2, g3, g4, g5, g6⟩ := id hat
  have hrk := h.rw (j := kk) (Nat.le_refl _)
  have hkT : T + 1 ≤ (kk : Int) * (T + 1) := by
    have := Int.mul_le_mul_of_nonneg_right (show (1 : Int) ≤ (kk : Int) by omega) (show 0 ≤ T + 1 by omega)
    omega
  obtain ⟨⟨f1, f2⟩, ⟨k1, k2⟩, ⟨l1, l2, l3⟩, -, -⟩ := id hu
  have hlo3 : -3000 ≤ loT u ∧ loT u ≤ 3000 := tLo_bd hu
  intro r
  induction r with
  | zero =>
    intro m g x6 x7 hr hD
    refine g_iload (i := 5) rfl dX7_addLikePowers_29 ?_
    refine g_aload_n (j := 1) rfl dX7_addLikePowers_31 ?_
    refine g_getR dX7_addLikePowers_32 flX7_89 rfl (by simp only [IsO_sI, IsO_sL, IsO_sR, IsO_wI, IsO_wL, IsA_sI, IsA_sL, IsA_sR, IsA_wI, IsA_wL, mR_sI, mR_sL, mR_wI, mR_wL]; assumption) (kz := 4) rfl (by simp only [IsO_sI, IsO_sL, IsO_sR, IsO_wI, IsO_wL, IsA_sI, IsA_sL, IsA_sR, IsA_wI, IsA_wL, mR_sI, mR_sL, mR_wI, mR_wL]; assumption) ?_
    refine g_iload_n (j := 2) rfl dX7_addLikePowers_35 ?_
    refine g_ialdv dX7_addLikePowers_36 (by simp only [IsO_sI, IsO_sL, IsO_sR, IsO_wI, IsO_wL, IsA_sI, IsA_sL, IsA_sR, IsA_wI, IsA_wL, mR_sI, mR_sL, mR_wI, mR_wL]; assumption) (by omega) (by omega) (by simp [mI_sI, mI_sL, mI_sR, mI_wI, mI_wL, mL_sI, mL_sL, mL_sR, mL_wI, mL_wL, g1, g2, g3, g4, g5, g6]; rfl) ?_
    refine g_icmp_gt (tgt := 102) dX7_addLikePowers_37 (by decide) (by omega) (by omega) (fun h37 => ?_) (fun h37 => ?_)
    · refine g_aload_n (j := 0) rfl dX7_addLikePowers_102 ?_
      refine g_iconst dX7_addLikePowers_103 ?_
      refine g_callV dX7_addLikePowers_104 mlX7_39 mvX7_clear (ci := 7) ⟨by decide, rfl⟩ (by simp only [IsO_sI, IsO_sL, IsO_sR, IsO_wI, IsO_wL, IsA_sI, IsA_sL, IsA_sR, IsA_wI, IsA_wL, mR_sI, mR_sL, mR_wI, mR_wL]; assumption) (c_clearT w d _ (hS0.wL (k := c) (g := g)) (t := 0) (f := 0) (T := T) eT (by omega) (by omega) hT.1 (by omega) (by omega)) sv1 rfl (by omega) (Nat.le_of_ble_eq_true rfl) (Nat.le_refl _) (Nat.le_refl _) (fun v μ2 hR => ?_)
      obtain ⟨rfl, hm⟩ := hR
      replace hm := hm.symm
      subst hm
      rw [mL_wL_self, wL_wL, show (fun k => if 0 ≤ k ∧ k ≤ 0 + T then 0 else g k) = clF g 0 T from rfl]
      refine g_aload_n (j := 0) rfl dX7_addLikePowers_107 ?_
      refine g_iconst dX7_addLikePowers_108 ?_
      refine g_iload_n (j := 3) rfl dX7_addLikePowers_109 ?_
      refine g_iconst dX7_addLikePowers_110 ?_
      refine g_aload_n (j := 0) rfl dX7_addLikePowers_111 ?_
      refine g_getIv dX7_addLikePowers_112 flX7_23 rfl (by simp only [IsO_sI, IsO_sL, IsO_sR, IsO_wI, IsO_wL, IsA_sI, IsA_sL, IsA_sR, IsA_wI, IsA_wL, mR_sI, mR_sL, mR_wI, mR_wL]; assumption) (kz := 3) rfl (by simp [mI_sI, mI_sL, mI_sR, mI_wI, mI_wL, mL_sI, mL_sL, mL_sR, mL_wI, mL_wL, g1, g2, g3, g4, g5, g6]; rfl) ?_
      rw [eT]
      refine g_callV dX7_addLikePowers_115 mlX7_82 mvX7_addShifted (ci := 7) ⟨by decide, rfl⟩ (by simp only [IsO_sI, IsO_sL, IsO_sR, IsO_wI, IsO_wL, IsA_sI, IsA_sL, IsA_sR, IsA_wI, IsA_wL, mR_sI, mR_sL, mR_wI, mR_wL]; assumption) (c_addShifted w d _ (hS0.wL (k := c) (g := clF g 0 T)) (p1 := 0) (p2 := (kk : Int)) (sh := 0) (re := T) (a := 0) (b := (kk : Int) * (T + 1)) (by omega) (by simp only [mI_wL]; rw [eT]) (by omega) hrk.1.1 (by omega) (by omega) (by simp only [mI_wL]; omega) (by simp only [mI_wL]; omega) (by simp only [mI_wL]; omega) (by simp only [mI_wL]; omega) (by simp only [mI_wL]; omega)) sv4 rfl (by omega) (Nat.le_of_ble_eq_true rfl) (Nat.le_refl _) (Nat.le_refl _) (fun v μ2 hR => ?_)
      obtain ⟨rfl, hm⟩ := hR
      replace hm := hm.symm
      subst hm
      rw [mL_wL_self, wL_wL]
      simp only [mI_wL]
      rw [eT]
      refine G.retV dX7_addLikePowers_118 rfl ⟨rfl, _, rfl, fun p z0 z1 => ?_⟩
      have em : m = (tH u - tL u + 1).toNat := by omega
      have e := hD kk (Nat.le_refl _) p z0 z1
      rw [em] at e
      unfold shF
      rw [if_pos (by omega), show clF g 0 T p = 0 from if_pos (by omega), show p - 0 - 0 + (kk : Int) * (T + 1) = (kk : Int) * (T + 1) + p by omega, show clF g 0 T ((kk : Int) * (T + 1) + p) = g ((kk : Int) * (T + 1) + p) from if_neg (by omega), e, Int.zero_add]
      rfl
    · omega
  | succ r ih =>
    intro m g x6 x7 hr hD
    have hv3 := hu.v3 (x := tL u + (m : Int)) (by omega) (by omega)
    refine g_iload (i := 5) rfl dX7_addLikePowers_29 ?_
    refine g_aload_n (j := 1) rfl dX7_addLikePowers_31 ?_
    refine g_getR dX7_addLikePowers_32 flX7_89 rfl (by simp only [IsO_sI, IsO_sL, IsO_sR, IsO_wI, IsO_wL, IsA_sI, IsA_sL, IsA_sR, IsA_wI, IsA_wL, mR_sI, mR_sL, mR_wI, mR_wL]; assumption) (kz := 4) rfl (by simp only [IsO_sI, IsO_sL, IsO_sR, IsO_wI, IsO_wL, IsA_sI, IsA_sL, IsA_sR, IsA_wI, IsA_wL, mR_sI, mR_sL, mR_wI, mR_wL]; assumption) ?_
    refine g_iload_n (j := 2) rfl dX7_addLikePowers_35 ?_
    refine g_ialdv dX7_addLikePowers_36 (by simp only [IsO_sI, IsO_sL, IsO_sR, IsO_wI, IsO_wL, IsA_sI, IsA_sL, IsA_sR, IsA_wI, IsA_wL, mR_sI, mR_sL, mR_wI, mR_wL]; assumption) (by omega) (by omega) (by simp [mI_sI, mI_sL, mI_sR, mI_wI, mI_wL, mL_sI, mL_sL, mL_sR, mL_wI, mL_wL, g1, g2, g3, g4, g5, g6]; rfl) ?_
    refine g_icmp_gt (tgt := 102) dX7_addLikePowers_37 (by decide) (by omega) (by omega) (fun h37 => ?_) (fun h37 => ?_)
    · omega
    · refine g_aload_n (j := 1) rfl dX7_addLikePowers_40 ?_
      refine g_iload_n (j := 2) rfl dX7_addLikePowers_41 ?_
      refine g_iload (i := 5) rfl dX7_addLikePowers_42 ?_
      refine g_callV dX7_addLikePowers_44 mlX7_92 mvX1_valueOf (ci := 1) ⟨by decide, rfl⟩ (by simp only [IsO_sI, IsO_sL, IsO_sR, IsO_wI, IsO_wL, IsA_sI, IsA_sL, IsA_sR, IsA_wI, IsA_wL, mR_sI, mR_sL, mR_wI, mR_wL]; assumption) (c_valueOf w d _ (q := q) hF0.wL (k := tK u) (f := tF u) (x := tL u + (m : Int)) ht g2 g1 (by omega) (by omega) (by omega) (by omega)) sv2 rfl (by omega) (Nat.le_of_ble_eq_true rfl) (Nat.le_refl _) (Nat.le_refl _) (fun v μ2 hR => ?_)
      obtain ⟨rfl, hm⟩ := hR
      replace hm := hm.symm
      subst hm
      rw [show pv (tK u) (tF u) (tL u + (m : Int)) = tV u (tL u + (m : Int)) from rfl]
      refine g_aload_n (j := 1) rfl dX7_addLikePowers_47 ?_
      refine g_getR dX7_addLikePowers_48 flX7_75 rfl (by simp only [IsO_sI, IsO_sL, IsO_sR, IsO_wI, IsO_wL, IsA_sI, IsA_sL, IsA_sR, IsA_wI, IsA_wL, mR_sI, mR_sL, mR_wI, mR_wL]; assumption) (kz := 5) rfl (by simp only [IsO_sI, IsO_sL, IsO_sR, IsO_wI, IsO_wL, IsA_sI, IsA_sL, IsA_sR, IsA_wI, IsA_wL, mR_sI, mR_sL, mR_wI, mR_wL]; assumption) ?_
      refine g_iload_n (j := 2) rfl dX7_addLikePowers_51 ?_
      refine g_ialdv dX7_addLikePowers_52 (by simp only [IsO_sI, IsO_sL, IsO_sR, IsO_wI, IsO_wL, IsA_sI, IsA_sL, IsA_sR, IsA_wI, IsA_wL, mR_sI, mR_sL, mR_wI, mR_wL]; assumption) (by omega) (by omega) (by simp [mI_sI, mI_sL, mI_sR, mI_wI, mI_wL, mL_sI, mL_sL, mL_sR, mL_wI, mL_wL, g1, g2, g3, g4, g5, g6]; rfl) ?_
      refine g_isub dX7_addLikePowers_53 ?_
      refine g_istore (i := 6) dX7_addLikePowers_54 (by decide) rfl ls6 ?_
      refine g_iconst dX7_addLikePowers_56 ?_
      refine g_istore (i := 7) dX7_addLikePowers_57 (by decide) rfl ls7 ?_
      refine l_p59 (m := m) h (fun x z1 z2 => hu.val z1 (by omega)) rfl hΦ hΨ hR hre (fun g2 hD2 => ?_) kk 0 g (by omega) (fun i z => ?_) (fun i z1 z2 => hD i z2)
      · refine g_iinc (i := 5) dX7_addLikePowers_96 rfl (by decide) rfl ls5 ?_
        refine g_goto (tgt := 29) (by decide) dX7_addLikePowers_99 ?_
        rw [show tL u + (m : Int) + 1 = tL u + ((m + 1 : Nat) : Int) by omega]
        exact ih (m + 1) g2 _ _ (by omega) hD2
      · have e0 : i = 0 := by omega
        subst e0
        intro p p0 p1
        have := hD 0 (by omega) p p0 p1
        rw [hk_0] at this ⊢
        exact this
theorem c_addLikePowers (w : WC) (d : Nat) (μ : Mem) {s c N q : Nat} {T t re b R : Int} {u : Tm} {kk : Nat} {Φ : Int → Int} (h : AlH w μ s c N q T t u kk) (hΦ : ∀ n, n < b → Φ n = 0) (hΨ : ∀ n, b + R < n → Φ n = 0) (hR : 0 ≤ R ∧ R ≤ 1000000) (hre : re = min T R) (hrow : ∀ p, 0 ≤ p → p ≤ T → mL μ c p = Φ (p + b)) : Con w (d + 3) mX7_addLikePowers 0 0 [vP (some s), vP (some q), vI t, vI (kk : Int), vI re] μ (fun v μ2 => v = none ∧ ∃ g, μ2 = wL μ c g ∧ ∀ p, 0 ≤ p → p ≤ T → g p = hkU u kk Φ (p + b + (kk : Int) * loT u)) := by
  obtain ⟨hS, hF, eT, hT, ht, hu, hat, hk, hN⟩ := id h
  have hS0 := hS
  have hF0 := hF
  obtain ⟨o0, r0, r1, a1, a2⟩ := hS
  obtain ⟨p0, ⟨q1, q2, q3, q4, q5, q6⟩, b1, b2, b3, b4, b5, b6⟩ := hF
  obtain ⟨g1, g2, g3, g4, g5, g6⟩ := id hat
  refine Con.of (by decide) (Nat.le_of_ble_eq_true rfl) rfl ?_
  refine g_iconst dX7_addLikePowers_0 ?_
  refine g_istore (i := 5) dX7_addLikePowers_1 (by decide) rfl ls5 ?_
  have := l_p3 (d := d + 1) (re := re) (b := b) (Φ := Φ) (Q := fun v μ2 => v = none ∧ ∃ g, μ2 = wL μ c g ∧ ∀ p, 0 ≤ p → p ≤ T → g p = hkU u kk Φ (p + b + (kk : Int) * loT u)) h (fun g h0 hD => ?_) kk 0 (mL μ c) (by omega) (fun p p0 p1 => ?_) (fun i z1 z2 => by omega)
  · rw [wL_eta] at this
    exact this
  · refine g_aload_n (j := 1) rfl dX7_addLikePowers_21 ?_
    refine g_getR dX7_addLikePowers_22 flX7_86 rfl (by simp only [IsO_sI, IsO_sL, IsO_sR, IsO_wI, IsO_wL, IsA_sI, IsA_sL, IsA_sR, IsA_wI, IsA_wL, mR_sI, mR_sL, mR_wI, mR_wL]; assumption) (kz := 3) rfl (by simp only [IsO_sI, IsO_sL, IsO_sR, IsO_wI, IsO_wL, IsA_sI, IsA_sL, IsA_sR, IsA_wI, IsA_wL, mR_sI, mR_sL, mR_wI, mR_wL]; assumption) ?_
    refine g_iload_n (j := 2) rfl dX7_addLikePowers_25 ?_
    refine g_ialdv dX7_addLikePowers_26 (by simp only [IsO_sI, IsO_sL, IsO_sR, IsO_wI, IsO_wL, IsA_sI, IsA_sL, IsA_sR, IsA_wI, IsA_wL, mR_sI, mR_sL, mR_wI, mR_wL]; assumption) (by omega) (by omega) (by simp [mI_sI, mI_sL, mI_sR, mI_wI, mI_wL, mL_sI, mL_sL, mL_sR, mL_wI, mL_wL, g3]; rfl) ?_
    refine g_istore (i := 5) dX7_addLikePowers_27 (by decide) rfl ls5 ?_
    have := l_p29 (d := d + 1) (re := re) (b := b) h hΦ hΨ hR hre (tH u - tL u + 1).toNat 0 g none none (Nat.zero_add _) (fun i z => (Nat.eq_zero_or_pos i).elim (fun y => by rw [y]; exact h0) (fun y => hD i y z))
    rw [show tL u + ((0 : Nat) : Int) = tL u by omega] at this
    exact this
  · rw [hk_0, show (((0 : Nat) : Int)) * (T + 1) + p = p by omega, hrow p p0 p1, show p + b + ((0 : Nat) : Int) * loT u = p + b by omega]
