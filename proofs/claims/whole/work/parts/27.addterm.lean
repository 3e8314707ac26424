/-! SERIES: addTerm -/
/-- a row of coefficients, 0 outside -/
def rowZ (L : Int → Int) (b T : Int) : Int → Int := fun p => if 0 ≤ p ∧ p ≤ T then L (b + p) else 0
theorem mL_wL_self (μ : Mem) (c : Nat) (g : Int → Int) : mL (wL μ c g) c = g := funext fun k => by rw [mL_wL, if_pos rfl]
theorem rsum_shift (f : Int → Int) (m : Int) : ∀ (n : Nat) (l : Int), rsum (fun x => f (x + m)) l n = rsum f (l + m) n
  | 0, _ => rfl
  | n + 1, l => by
    rw [rsum, rsum, rsum_shift f m n (l + 1), show l + 1 + m = l + m + 1 by omega]
/-- gains and losses of a line: the sum of its range -/
theorem lines_eq {g : Int → Int} {a b f len : Int} (hf : 1 ≤ f) (hl : 0 ≤ len) : ∀ (n : Nat) (k : Int), k - a ≤ n → a ≤ k → k ≤ b → lkL g a b f len 1 k = rsum (fun i => if a ≤ k - f * i then g (k - f * i) else 0) 0 (len + 1).toNat := by
  have hm : 1 ≤ f * (len + 1) := by
    have := Int.mul_le_mul hf (show 1 ≤ len + 1 by omega) (by omega) (by omega)
    omega
  have hfl : f * (len + 1) = f * len + f := by rw [Int.mul_add, Int.mul_one]
  have hlk : ∀ k, lkL g a b f len 1 k = upF (dnF g a b (f * (len + 1))) a b (f * 1) k := fun k => by
    show upF (dnF g a b (f * (len + ((0 : Nat) + 1)))) a b (f * ((0 : Nat) + 1)) k = _
    rw [show (((0 : Nat) : Int) + 1) = 1 from rfl]
  have tele : ∀ k, a ≤ k → k ≤ b → rsum (fun i => if a ≤ k - f * i then g (k - f * i) else 0) 0 (len + 1).toNat = dnF g a b (f * (len + 1)) k + rsum (fun i => if a ≤ k - f - f * i then g (k - f - f * i) else 0) 0 (len + 1).toNat := by
    intro k h1 h2
    obtain ⟨m, hmm⟩ : ∃ m : Nat, len = m := ⟨len.toNat, by omega⟩
    subst hmm
    rw [show ((m : Int) + 1).toNat = m + 1 by omega, rsum, rsum_last]
    have e1 : rsum (fun i => if a ≤ k - f - f * i then g (k - f - f * i) else 0) 0 m = rsum (fun i => if a ≤ k - f * i then g (k - f * i) else 0) (0 + 1) m := by
      rw [← rsum_shift _ 1 m 0]
      refine rsum_congr m 0 fun x _ _ => ?_
      have : f * (x + 1) = f * x + f := by rw [Int.mul_add, Int.mul_one]
      rw [show k - f - f * x = k - f * (x + 1) by omega]
    rw [e1, Int.mul_zero, Int.sub_zero, if_pos h1]
    unfold dnF
    rw [show (0 : Int) + (m : Int) = m by omega, show k - f - f * (m : Int) = k - f * ((m : Int) + 1) by omega]
    by_cases hc : a + f * ((m : Int) + 1) ≤ k
    · rw [if_pos ⟨hc, h2⟩, if_pos (by omega)]
      omega
    · rw [if_neg (fun q => hc q.1), if_neg (by omega)]
      omega
  intro n
  induction n with
  | zero =>
    intro k hn h1 h2
    rw [hlk, upF_low (by omega) (by omega), tele k h1 h2, rsum_0 (f := fun i => if a ≤ k - f - f * i then g (k - f - f * i) else 0), Int.add_zero]
    intro x hx _
    have := Int.mul_nonneg (show 0 ≤ f by omega) hx
    rw [if_neg (by omega)]
  | succ n ih =>
    intro k hn h1 h2
    by_cases hc : a + f ≤ k
    · rw [hlk, upF_step (by omega) (by omega) h2, ← hlk, ih (k - f * 1) (by omega) (by omega) (by omega), tele k h1 h2, Int.mul_one]
    · rw [hlk, upF_low (by omega) (by omega), tele k h1 h2, rsum_0 (f := fun i => if a ≤ k - f - f * i then g (k - f - f * i) else 0), Int.add_zero]
      intro x hx _
      have := Int.mul_nonneg (show 0 ≤ f by omega) hx
      rw [if_neg (by omega)]
/-- what addTerm makes of the cells: row a out of row b by the term u -/
def atF (L : Int → Int) (a b T : Int) (u : Tm) (n : Nat) : Int → Int := fun k => if a ≤ k ∧ k ≤ a + T then rsum (fun x => rowZ L b T (k - a - (tV u x - tLo (tK u) (tF u) (tL u) (tH u)))) (tL u) n else L k
theorem at_step {L : Int → Int} {a b T re : Int} {u : Tm} {n : Nat} (hz : ∀ p, re < p → p ≤ T → L (b + p) = 0) (hr : 0 ≤ re) (hT : 0 ≤ T) (hab : a + T < b ∨ b + T < a) (hs : 0 ≤ tV u (tL u + n) - tLo (tK u) (tF u) (tL u) (tH u)) : shF (atF L a b T u n) a b (tV u (tL u + n) - tLo (tK u) (tF u) (tL u) (tH u)) (min T (tV u (tL u + n) - tLo (tK u) (tF u) (tL u) (tH u) + re)) = atF L a b T u (n + 1) := by
  funext k
  generalize hsh : tV u (tL u + n) - tLo (tK u) (tF u) (tL u) (tH u) = sh at hs ⊢
  unfold shF
  by_cases hk : a ≤ k ∧ k ≤ a + T
  · have e : atF L a b T u (n + 1) k = atF L a b T u n k + rowZ L b T (k - a - sh) := by
      unfold atF
      rw [if_pos hk, if_pos hk, rsum_last, hsh]
    rw [e]
    by_cases h1 : a + sh ≤ k ∧ k ≤ a + min T (sh + re)
    · rw [if_pos h1]
      congr 1
      unfold atF rowZ
      rw [if_neg (by omega), if_pos (by omega), show k - a - sh + b = b + (k - a - sh) by omega]
    · rw [if_neg h1]
      unfold rowZ
      by_cases h2 : 0 ≤ k - a - sh ∧ k - a - sh ≤ T
      · rw [if_pos h2, hz _ (by omega) h2.2, Int.add_zero]
      · rw [if_neg h2, Int.add_zero]
  · rw [if_neg (by omega)]
    unfold atF
    rw [if_neg hk, if_neg hk]
theorem at_0 {L : Int → Int} {a b T : Int} {u : Tm} (hz : ∀ p, 0 ≤ p → p ≤ T → L (a + p) = 0) : atF L a b T u 0 = L := by
  funext k
  unfold atF
  by_cases hk : a ≤ k ∧ k ≤ a + T
  · rw [if_pos hk, rsum, ← hz (k - a) (by omega) (by omega), show a + (k - a) = k by omega]
  · rw [if_neg hk]
theorem dnF_out {g : Int → Int} {a b cut k : Int} (h : ¬ (a ≤ k ∧ k ≤ b)) (hc : 1 ≤ cut) : dnF g a b cut k = g k := if_neg (fun q => h ⟨by omega, q.2⟩)
theorem upF_out {g : Int → Int} {a b step k : Int} (h : ¬ (a ≤ k ∧ k ≤ b)) : upF g a b step k = g k := if_neg h
theorem FoS.wL {w : WC} {μ : Mem} {q k : Nat} {g : Int → Int} (h : FoS w μ q) : FoS w (wL μ k g) q := h
/-- a line's row, by gains and losses -/
theorem at_line {L : Int → Int} {a b T re : Int} {u : Tm} (hu : TOk u) (h0 : tK u = 0) (hza : ∀ p, 0 ≤ p → p ≤ T → L (a + p) = 0) (hz : ∀ p, re < p → p ≤ T → L (b + p) = 0) (hr : 0 ≤ re) (hT : 0 ≤ T) (hab : a + T < b ∨ b + T < a) : lkL (shF L a b 0 (min T (0 + re))) a (a + T) (tF u) (tH u - tL u) 1 = atF L a b T u (tH u - tL u + 1).toNat := by
  obtain ⟨⟨f1, f2⟩, -, ⟨l1, l2, l3⟩, -, -⟩ := hu
  funext k
  have hlo : tLo (tK u) (tF u) (tL u) (tH u) = tF u * tL u := by
    unfold tLo
    rw [if_neg (by omega), h0]
    exact Int.min_eq_left (Int.mul_le_mul_of_nonneg_left l2 (by omega))
  have hg : ∀ y, a ≤ y → y ≤ a + T → shF L a b 0 (min T (0 + re)) y = rowZ L b T (y - a) := by
    intro y h1 h2
    unfold shF rowZ
    rw [if_pos (c := 0 ≤ y - a ∧ y - a ≤ T) (by omega)]
    have := hza (y - a) (by omega) (by omega)
    rw [show a + (y - a) = y by omega] at this
    by_cases hc : a + 0 ≤ y ∧ y ≤ a + min T (0 + re)
    · rw [if_pos hc, this, Int.zero_add, show y - a - 0 + b = b + (y - a) by omega]
    · rw [if_neg hc, this, hz _ (by omega) (by omega)]
  by_cases hk : a ≤ k ∧ k ≤ a + T
  · rw [lines_eq f1 (by omega) (k - a).toNat k (by omega) hk.1 hk.2]
    unfold atF
    rw [if_pos hk, hlo]
    have := rsum_shift (fun x => rowZ L b T (k - a - (tV u x - tF u * tL u))) (tL u) (tH u - tL u + 1).toNat 0
    rw [Int.zero_add] at this
    rw [← this]
    refine rsum_congr _ _ fun x hx _ => ?_
    have hx2 : 0 ≤ tF u * x := Int.mul_nonneg (by omega) hx
    have ev : tV u (x + tL u) = tF u * x + tF u * tL u := by
      unfold tV pv
      rw [h0, pw_0, Int.mul_add]
    rw [ev, show k - a - (tF u * x + tF u * tL u - tF u * tL u) = k - tF u * x - a by omega]
    by_cases hc : a ≤ k - tF u * x
    · rw [if_pos hc, hg _ hc (by omega)]
    · rw [if_neg hc]
      unfold rowZ
      rw [if_neg (by omega)]
  · have hp : 1 ≤ tF u * (tH u - tL u + (((0 : Nat) : Int) + 1)) := by
      have := Int.mul_le_mul f1 (show 1 ≤ tH u - tL u + (((0 : Nat) : Int) + 1) by omega) (by omega) (by omega)
      omega
    show upF (dnF _ a (a + T) _) a (a + T) _ k = _
    rw [upF_out hk, dnF_out hk hp]
    show shF L a b 0 (min T (0 + re)) k = _
    unfold atF shF
    rw [if_neg hk, if_neg (by omega)]
theorem l_addTerm (w : WC) (d : Nat) (μ : Mem) {s c N q : Nat} (hS : SeS w μ s c N) (hF : FoS w μ q) {u : Tm} {t re a b : Int} (ht : 0 ≤ t ∧ t < 5) (hu : TOk u) (hat : TmAt μ q t u) (ha : t * (mI μ s 3 + 1) = a) (hb : (t + 1) * (mI μ s 3 + 1) = b) (h0 : 0 ≤ a) (h1 : 0 ≤ b) (hr : 0 ≤ re) (hT : 0 ≤ mI μ s 3) (hN : a + mI μ s 3 < N) (hN2 : b + mI μ s 3 < N) (hab : a + mI μ s 3 < b ∨ b + mI μ s 3 < a) (hB : a + mI μ s 3 ≤ 1000000 ∧ b + mI μ s 3 ≤ 1000000 ∧ re ≤ 1000000)
    (hz : ∀ p, re < p → p ≤ mI μ s 3 → mL μ c (b + p) = 0) : ∀ (m n : Nat), m + n = (tH u - tL u + 1).toNat →
    G w (d + 2) mX7_addTerm (fun v μ2 => v = some (vI (min (mI μ s 3) (re + (tHi (tK u) (tF u) (tL u) (tH u) - tLo (tK u) (tF u) (tL u) (tH u))))) ∧ μ2 = wL μ c (atF (mL μ c) a b (mI μ s 3) u (tH u - tL u + 1).toNat)) 0 0 38 [some (vP (some s)), some (vP (some q)), some (vI t), some (vI re), some (vI (tL u + n))] [] (wL μ c (atF (mL μ c) a b (mI μ s 3) u n)) := by
  have hS0 := hS
  have hF0 := hF
  have hu0 := hu
  have hlo := tLo_bd hu
  have hhi := tHi_bd hu
  obtain ⟨g1, g2, g3, g4, g5, g6⟩ := hat
  obtain ⟨⟨f1, f2⟩, ⟨k1, k2⟩, ⟨l1, l2, l3⟩, -, -⟩ := hu
  obtain ⟨o0, r0, r1, a1, a2⟩ := hS
  obtain ⟨p0, ⟨q1, q2, q3, q4, q5, q6⟩, b1, b2, b3, b4, b5, b6⟩ := hF
  intro m
  induction m with
  | zero =>
    intro n hn
    refine g_iload (i := 4) rfl dX7_addTerm_38 ?_
    refine g_aload_n (j := 1) rfl dX7_addTerm_40 ?_
    refine g_getR dX7_addTerm_41 flX7_89 rfl (by simp only [IsO_sI, IsO_sL, IsO_sR, IsO_wI, IsO_wL, IsA_sI, IsA_sL, IsA_sR, IsA_wI, IsA_wL, mR_sI, mR_sL, mR_wI, mR_wL]; assumption) (kz := 4) rfl (by simp only [IsO_sI, IsO_sL, IsO_sR, IsO_wI, IsO_wL, IsA_sI, IsA_sL, IsA_sR, IsA_wI, IsA_wL, mR_sI, mR_sL, mR_wI, mR_wL]; assumption) ?_
    refine g_iload_n (j := 2) rfl dX7_addTerm_44 ?_
    refine g_ialdv dX7_addTerm_45 (by simp only [IsO_sI, IsO_sL, IsO_sR, IsO_wI, IsO_wL, IsA_sI, IsA_sL, IsA_sR, IsA_wI, IsA_wL, mR_sI, mR_sL, mR_wI, mR_wL]; assumption) (by omega) (by omega) (by simp [mI_sI, mI_sL, mI_sR, mI_wI, mI_wL, mL_sI, mL_sL, mL_sR, mL_wI, mL_wL, g1, g2, g3, g4, g5, g6]; rfl) ?_
    refine g_icmp_gt (tgt := 78) dX7_addTerm_46 (by decide) (by omega) (by omega) (fun h46 => ?_) (fun h46 => ?_)
    · refine g_aload_n (j := 0) rfl dX7_addTerm_78 ?_
      refine g_getIv dX7_addTerm_79 flX7_23 rfl (by simp only [IsO_sI, IsO_sL, IsO_sR, IsO_wI, IsO_wL, IsA_sI, IsA_sL, IsA_sR, IsA_wI, IsA_wL, mR_sI, mR_sL, mR_wI, mR_wL]; assumption) (kz := 3) rfl (by simp [mI_sI, mI_sL, mI_sR, mI_wI, mI_wL, mL_sI, mL_sL, mL_sR, mL_wI, mL_wL, g1, g2, g3, g4, g5, g6]; rfl) ?_
      refine g_iload_n (j := 3) rfl dX7_addTerm_82 ?_
      refine g_aload_n (j := 1) rfl dX7_addTerm_83 ?_
      refine g_iload_n (j := 2) rfl dX7_addTerm_84 ?_
      refine g_callV dX7_addTerm_85 mlX7_62 mvX1_spread (ci := 1) ⟨by decide, rfl⟩ (by simp only [IsO_sI, IsO_sL, IsO_sR, IsO_wI, IsO_wL, IsA_sI, IsA_sL, IsA_sR, IsA_wI, IsA_wL, mR_sI, mR_sL, mR_wI, mR_wL]; assumption) (c_spread w d _ (q := q) hF0.wL ht) sv1 rfl (by omega) (Nat.le_of_ble_eq_true rfl) (Nat.le_refl _) (Nat.le_refl _) (fun v μ2 hR => ?_)
      obtain ⟨rfl, hm⟩ := hR
      replace hm := hm.symm
      subst hm
      simp only [mI_wL]
      rw [g5, g6]
      refine g_iadd dX7_addTerm_88 ?_
      refine g_callS dX7_addTerm_89 mlX7_65 msJ9_min_7cf53 (c_min w d _ (by omega) (by omega)) sk2 rfl (by omega) (Nat.le_of_ble_eq_true rfl) (Nat.le_refl _) (Nat.le_refl _) (fun v μ2 hR => ?_)
      obtain ⟨rfl, hm⟩ := hR
      replace hm := hm.symm
      subst hm
      exact G.retI dX7_addTerm_92 rfl ⟨rfl, by rw [← hn, Nat.zero_add]⟩
    · omega
  | succ m ih =>
    intro n hn
    have hv := hu0.val (x := tL u + n) (by omega) (by omega)
    have hv3 := hu0.v3 (x := tL u + n) (by omega) (by omega)
    have hst := at_step (u := u) (n := n) hz hr hT hab (by omega)
    refine g_iload (i := 4) rfl dX7_addTerm_38 ?_
    refine g_aload_n (j := 1) rfl dX7_addTerm_40 ?_
    refine g_getR dX7_addTerm_41 flX7_89 rfl (by simp only [IsO_sI, IsO_sL, IsO_sR, IsO_wI, IsO_wL, IsA_sI, IsA_sL, IsA_sR, IsA_wI, IsA_wL, mR_sI, mR_sL, mR_wI, mR_wL]; assumption) (kz := 4) rfl (by simp only [IsO_sI, IsO_sL, IsO_sR, IsO_wI, IsO_wL, IsA_sI, IsA_sL, IsA_sR, IsA_wI, IsA_wL, mR_sI, mR_sL, mR_wI, mR_wL]; assumption) ?_
    refine g_iload_n (j := 2) rfl dX7_addTerm_44 ?_
    refine g_ialdv dX7_addTerm_45 (by simp only [IsO_sI, IsO_sL, IsO_sR, IsO_wI, IsO_wL, IsA_sI, IsA_sL, IsA_sR, IsA_wI, IsA_wL, mR_sI, mR_sL, mR_wI, mR_wL]; assumption) (by omega) (by omega) (by simp [mI_sI, mI_sL, mI_sR, mI_wI, mI_wL, mL_sI, mL_sL, mL_sR, mL_wI, mL_wL, g1, g2, g3, g4, g5, g6]; rfl) ?_
    refine g_icmp_gt (tgt := 78) dX7_addTerm_46 (by decide) (by omega) (by omega) (fun h46 => ?_) (fun h46 => ?_)
    · omega
    · refine g_aload_n (j := 0) rfl dX7_addTerm_49 ?_
      refine g_iload_n (j := 2) rfl dX7_addTerm_50 ?_
      refine g_iload_n (j := 2) rfl dX7_addTerm_51 ?_
      refine g_iconst dX7_addTerm_52 ?_
      refine g_iadd dX7_addTerm_53 ?_
      refine g_aload_n (j := 1) rfl dX7_addTerm_54 ?_
      refine g_iload_n (j := 2) rfl dX7_addTerm_55 ?_
      refine g_iload (i := 4) rfl dX7_addTerm_56 ?_
      refine g_callV dX7_addTerm_58 mlX7_92 mvX1_valueOf (ci := 1) ⟨by decide, rfl⟩ (by simp only [IsO_sI, IsO_sL, IsO_sR, IsO_wI, IsO_wL, IsA_sI, IsA_sL, IsA_sR, IsA_wI, IsA_wL, mR_sI, mR_sL, mR_wI, mR_wL]; assumption) (c_valueOf w d _ (q := q) hF0.wL (k := tK u) (f := tF u) (x := tL u + n) ht g2 g1 (by omega) (by omega) (by omega) (by omega)) sv2 rfl (by omega) (Nat.le_of_ble_eq_true rfl) (Nat.le_refl _) (Nat.le_refl _) (fun v μ2 hR => ?_)
      obtain ⟨rfl, hm⟩ := hR
      replace hm := hm.symm
      subst hm
      rw [show pv (tK u) (tF u) (tL u + n) = tV u (tL u + n) from rfl]
      refine g_aload_n (j := 1) rfl dX7_addTerm_61 ?_
      refine g_getR dX7_addTerm_62 flX7_75 rfl (by simp only [IsO_sI, IsO_sL, IsO_sR, IsO_wI, IsO_wL, IsA_sI, IsA_sL, IsA_sR, IsA_wI, IsA_wL, mR_sI, mR_sL, mR_wI, mR_wL]; assumption) (kz := 5) rfl (by simp only [IsO_sI, IsO_sL, IsO_sR, IsO_wI, IsO_wL, IsA_sI, IsA_sL, IsA_sR, IsA_wI, IsA_wL, mR_sI, mR_sL, mR_wI, mR_wL]; assumption) ?_
      refine g_iload_n (j := 2) rfl dX7_addTerm_65 ?_
      refine g_ialdv dX7_addTerm_66 (by simp only [IsO_sI, IsO_sL, IsO_sR, IsO_wI, IsO_wL, IsA_sI, IsA_sL, IsA_sR, IsA_wI, IsA_wL, mR_sI, mR_sL, mR_wI, mR_wL]; assumption) (by omega) (by omega) (by simp [mI_sI, mI_sL, mI_sR, mI_wI, mI_wL, mL_sI, mL_sL, mL_sR, mL_wI, mL_wL, g1, g2, g3, g4, g5, g6]; rfl) ?_
      refine g_isub dX7_addTerm_67 ?_
      refine g_iload_n (j := 3) rfl dX7_addTerm_68 ?_
      refine g_callV dX7_addTerm_69 mlX7_82 mvX7_addShifted (ci := 7) ⟨by decide, rfl⟩ (by simp only [IsO_sI, IsO_sL, IsO_sR, IsO_wI, IsO_wL, IsA_sI, IsA_sL, IsA_sR, IsA_wI, IsA_wL, mR_sI, mR_sL, mR_wI, mR_wL]; assumption) (c_addShifted w d _ (hS0.wL (k := c) (g := atF (mL μ c) a b (mI μ s 3) u n)) (a := a) (b := b) ha hb h0 h1 (by omega) hr hT hN hN2 hab (by simp only [mI_wL]; omega)) sv4 rfl (by omega) (Nat.le_of_ble_eq_true rfl) (Nat.le_refl _) (Nat.le_refl _) (fun v μ2 hR => ?_)
      obtain ⟨rfl, hm⟩ := hR
      replace hm := hm.symm
      subst hm
      rw [mL_wL_self, wL_wL]
      simp only [mI_wL]
      rw [hst]
      refine g_iinc (i := 4) dX7_addTerm_72 rfl (by decide) rfl ls4 ?_
      refine g_goto (tgt := 38) (by decide) dX7_addTerm_75 ?_
      have e : tL u + (n : Int) + 1 = tL u + ((n + 1 : Nat) : Int) := by omega
      rw [e]
      exact ih (n + 1) (by omega)
theorem c_addTerm (w : WC) (d : Nat) (μ : Mem) {s c N q : Nat} (hS : SeS w μ s c N) (hF : FoS w μ q) {u : Tm} {t re a b : Int} (ht : 0 ≤ t ∧ t < 5) (hu : TOk u) (hat : TmAt μ q t u) (ha : t * (mI μ s 3 + 1) = a) (hb : (t + 1) * (mI μ s 3 + 1) = b) (h0 : 0 ≤ a) (h1 : 0 ≤ b) (hr : 0 ≤ re) (hT : 0 ≤ mI μ s 3) (hN : a + mI μ s 3 < N) (hN2 : b + mI μ s 3 < N) (hab : a + mI μ s 3 < b ∨ b + mI μ s 3 < a) (hB : a + mI μ s 3 ≤ 1000000 ∧ b + mI μ s 3 ≤ 1000000 ∧ re ≤ 1000000)
    (hza : ∀ p, 0 ≤ p → p ≤ mI μ s 3 → mL μ c (a + p) = 0) (hz : ∀ p, re < p → p ≤ mI μ s 3 → mL μ c (b + p) = 0) : Con w (d + 2) mX7_addTerm 0 0 [vP (some s), vP (some q), vI t, vI re] μ (fun v μ2 => v = some (vI (min (mI μ s 3) (re + (tHi (tK u) (tF u) (tL u) (tH u) - tLo (tK u) (tF u) (tL u) (tH u))))) ∧ μ2 = wL μ c (atF (mL μ c) a b (mI μ s 3) u (tH u - tL u + 1).toNat)) := by
  have hS0 := hS
  have hF0 := hF
  have hu0 := hu
  have hat0 := hat
  have hlo := tLo_bd hu
  have hhi := tHi_bd hu
  obtain ⟨g1, g2, g3, g4, g5, g6⟩ := hat
  obtain ⟨⟨f1, f2⟩, ⟨k1, k2⟩, ⟨l1, l2, l3⟩, -, -⟩ := hu
  obtain ⟨o0, r0, r1, a1, a2⟩ := hS
  obtain ⟨p0, ⟨q1, q2, q3, q4, q5, q6⟩, b1, b2, b3, b4, b5, b6⟩ := hF
  refine Con.of (by decide) (Nat.le_of_ble_eq_true rfl) rfl ?_
  refine g_aload_n (j := 1) rfl dX7_addTerm_0 ?_
  refine g_getR dX7_addTerm_1 flX7_51 rfl (by assumption) (kz := 2) rfl (by assumption) ?_
  refine g_iload_n (j := 2) rfl dX7_addTerm_4 ?_
  refine g_iald dX7_addTerm_5 (by assumption) (by omega) (by omega) ?_
  rw [g2]
  refine g_if_ne (tgt := 30) dX7_addTerm_6 (by decide) (by omega) (fun h6 => ?_) (fun h6 => ?_)
  · refine g_aload_n (j := 1) rfl dX7_addTerm_30 ?_
    refine g_getR dX7_addTerm_31 flX7_86 rfl (by assumption) (kz := 3) rfl (by assumption) ?_
    refine g_iload_n (j := 2) rfl dX7_addTerm_34 ?_
    refine g_iald dX7_addTerm_35 (by assumption) (by omega) (by omega) ?_
    refine g_istore (i := 4) dX7_addTerm_36 (by decide) rfl ls4 ?_
    rw [g3]
    have := l_addTerm w d μ hS0 hF0 ht hu0 hat0 ha hb h0 h1 hr hT hN hN2 hab hB hz (tH u - tL u + 1).toNat 0 (by omega)
    rw [at_0 hza, wL_eta, show tL u + ((0 : Nat) : Int) = tL u by omega] at this
    exact this
  · refine g_aload_n (j := 0) rfl dX7_addTerm_9 ?_
    refine g_iload_n (j := 2) rfl dX7_addTerm_10 ?_
    refine g_iload_n (j := 2) rfl dX7_addTerm_11 ?_
    refine g_iconst dX7_addTerm_12 ?_
    refine g_iadd dX7_addTerm_13 ?_
    refine g_iconst dX7_addTerm_14 ?_
    refine g_iload_n (j := 3) rfl dX7_addTerm_15 ?_
    refine g_callV dX7_addTerm_16 mlX7_82 mvX7_addShifted (ci := 7) ⟨by decide, rfl⟩ (by assumption) (c_addShifted w d _ hS0 (a := a) (b := b) ha hb h0 h1 (by omega) hr hT hN hN2 hab (by omega)) sv4 rfl (by omega) (Nat.le_of_ble_eq_true rfl) (Nat.le_refl _) (Nat.le_refl _) (fun v μ2 hR => ?_)
    obtain ⟨rfl, hm⟩ := hR
    replace hm := hm.symm
    subst hm
    refine g_aload_n (j := 0) rfl dX7_addTerm_19 ?_
    refine g_iload_n (j := 2) rfl dX7_addTerm_20 ?_
    refine g_aload_n (j := 1) rfl dX7_addTerm_21 ?_
    refine g_iload_n (j := 2) rfl dX7_addTerm_22 ?_
    refine g_iconst dX7_addTerm_23 ?_
    refine g_callV dX7_addTerm_24 mlX7_54 mvX7_addLikeLines (ci := 7) ⟨by decide, rfl⟩ (by simp only [IsO_sI, IsO_sL, IsO_sR, IsO_wI, IsO_wL, IsA_sI, IsA_sL, IsA_sR, IsA_wI, IsA_wL, mR_sI, mR_sL, mR_wI, mR_wL]; assumption) (c_addLikeLines w d _ (hS0.wL (k := c)) (q := q) hF0.wL (u := u) (a := a) ht hu0 g1 g3 g4 ha h0 hT hN (by simp only [mI_wL]; omega) (by omega)) sv4 rfl (by omega) (Nat.le_of_ble_eq_true rfl) (Nat.le_refl _) (Nat.le_refl _) (fun v μ2 hR => ?_)
    obtain ⟨rfl, hm⟩ := hR
    replace hm := hm.symm
    subst hm
    rw [mL_wL_self, wL_wL]
    simp only [mI_wL]
    rw [show ((1 : Int)).toNat = 1 from rfl, at_line hu0 (by omega) hza hz hr hT hab]
    refine g_goto (tgt := 78) (by decide) dX7_addTerm_27 ?_
    refine g_aload_n (j := 0) rfl dX7_addTerm_78 ?_
    refine g_getIv dX7_addTerm_79 flX7_23 rfl (by simp only [IsO_sI, IsO_sL, IsO_sR, IsO_wI, IsO_wL, IsA_sI, IsA_sL, IsA_sR, IsA_wI, IsA_wL, mR_sI, mR_sL, mR_wI, mR_wL]; assumption) (kz := 3) rfl (by simp [mI_sI, mI_sL, mI_sR, mI_wI, mI_wL, mL_sI, mL_sL, mL_sR, mL_wI, mL_wL, g1, g2, g3, g4, g5, g6]; rfl) ?_
    refine g_iload_n (j := 3) rfl dX7_addTerm_82 ?_
    refine g_aload_n (j := 1) rfl dX7_addTerm_83 ?_
    refine g_iload_n (j := 2) rfl dX7_addTerm_84 ?_
    refine g_callV dX7_addTerm_85 mlX7_62 mvX1_spread (ci := 1) ⟨by decide, rfl⟩ (by simp only [IsO_sI, IsO_sL, IsO_sR, IsO_wI, IsO_wL, IsA_sI, IsA_sL, IsA_sR, IsA_wI, IsA_wL, mR_sI, mR_sL, mR_wI, mR_wL]; assumption) (c_spread w d _ (q := q) hF0.wL ht) sv1 rfl (by omega) (Nat.le_of_ble_eq_true rfl) (Nat.le_refl _) (Nat.le_refl _) (fun v μ2 hR => ?_)
    obtain ⟨rfl, hm⟩ := hR
    replace hm := hm.symm
    subst hm
    simp only [mI_wL]
    rw [g5, g6]
    refine g_iadd dX7_addTerm_88 ?_
    refine g_callS dX7_addTerm_89 mlX7_65 msJ9_min_7cf53 (c_min w d _ (by omega) (by omega)) sk2 rfl (by omega) (Nat.le_of_ble_eq_true rfl) (Nat.le_refl _) (Nat.le_refl _) (fun v μ2 hR => ?_)
    obtain ⟨rfl, hm⟩ := hR
    replace hm := hm.symm
    subst hm
    exact G.retI dX7_addTerm_92 rfl ⟨rfl, rfl⟩
