/-! SERIES: rows of coefficients -/
/-- the cells of a Series at s; its row of coefficients at c has N places -/
def SeS (w : WC) (μ : Mem) (s c N : Nat) : Prop := IsO w μ s 7 ∧ mR μ s 0 = some (s + 1) ∧ mR μ s 1 = some c ∧ IsA w μ (s + 1) 14 6 ∧ IsA w μ c 15 N
theorem l_clear (w : WC) (d : Nat) (μ : Mem) {s c N : Nat} (hS : SeS w μ s c N) {f t : Int} (h0 : 0 ≤ f) (hT : 0 ≤ mI μ s 3) (hN : f + mI μ s 3 < N) (hb : f + mI μ s 3 ≤ 2000000000) : ∀ (n : Nat) (u : Int) (g : Int → Int), f ≤ u → u + n = f + mI μ s 3 + 1 → (∀ k, g k = if f ≤ k ∧ k < u then 0 else mL μ c k) →
    G w d mX7_clear (fun v μ2 => v = none ∧ μ2 = wL μ c (fun k => if f ≤ k ∧ k ≤ f + mI μ s 3 then 0 else mL μ c k)) 0 0 11 [some (vP (some s)), some (vI t), some (vI f), some (vI u)] [] (wL μ c g) := by
  intro n
  obtain ⟨o0, r0, r1, a1, a2⟩ := hS
  induction n with
  | zero =>
    intro u g hu hn hg
    refine g_iload_n (j := 3) rfl dX7_clear_11 ?_
    refine g_iload_n (j := 2) rfl dX7_clear_12 ?_
    refine g_aload_n (j := 0) rfl dX7_clear_13 ?_
    refine g_getIv dX7_clear_14 flX7_23 rfl (by simp only [IsO_sI, IsO_sL, IsO_sR, IsO_wI, IsO_wL, IsA_sI, IsA_sL, IsA_sR, IsA_wI, IsA_wL, mR_sI, mR_sL, mR_wI, mR_wL]; assumption) (kz := 3) rfl (by simp [mI_sI, mI_sL, mI_sR, mI_wI, mI_wL, mL_sI, mL_sL, mL_sR, mL_wI, mL_wL]; rfl) ?_
    refine g_iadd dX7_clear_17 ?_
    refine g_icmp_gt (tgt := 34) dX7_clear_18 (by decide) (by omega) (by omega) (fun h18 => ?_) (fun h18 => ?_)
    · exact G.retV dX7_clear_34 rfl ⟨rfl, wL_congr fun k => by
        rw [hg]
        congr 1
        exact propext ⟨fun q => ⟨q.1, by omega⟩, fun q => ⟨q.1, by omega⟩⟩⟩
    · omega
  | succ n ih =>
    intro u g hu hn hg
    refine g_iload_n (j := 3) rfl dX7_clear_11 ?_
    refine g_iload_n (j := 2) rfl dX7_clear_12 ?_
    refine g_aload_n (j := 0) rfl dX7_clear_13 ?_
    refine g_getIv dX7_clear_14 flX7_23 rfl (by simp only [IsO_sI, IsO_sL, IsO_sR, IsO_wI, IsO_wL, IsA_sI, IsA_sL, IsA_sR, IsA_wI, IsA_wL, mR_sI, mR_sL, mR_wI, mR_wL]; assumption) (kz := 3) rfl (by simp [mI_sI, mI_sL, mI_sR, mI_wI, mI_wL, mL_sI, mL_sL, mL_sR, mL_wI, mL_wL]; rfl) ?_
    refine g_iadd dX7_clear_17 ?_
    refine g_icmp_gt (tgt := 34) dX7_clear_18 (by decide) (by omega) (by omega) (fun h18 => ?_) (fun h18 => ?_)
    · omega
    · refine g_aload_n (j := 0) rfl dX7_clear_21 ?_
      refine g_getR dX7_clear_22 flX7_15 rfl (by simp only [IsO_sI, IsO_sL, IsO_sR, IsO_wI, IsO_wL, IsA_sI, IsA_sL, IsA_sR, IsA_wI, IsA_wL, mR_sI, mR_sL, mR_wI, mR_wL]; assumption) (kz := 1) rfl (by simp only [IsO_sI, IsO_sL, IsO_sR, IsO_wI, IsO_wL, IsA_sI, IsA_sL, IsA_sR, IsA_wI, IsA_wL, mR_sI, mR_sL, mR_wI, mR_wL]; assumption) ?_
      refine g_iload_n (j := 3) rfl dX7_clear_25 ?_
      refine g_lconst0 dX7_clear_26 ?_
      refine g_last dX7_clear_27 (by simp only [IsO_sI, IsO_sL, IsO_sR, IsO_wI, IsO_wL, IsA_sI, IsA_sL, IsA_sR, IsA_wI, IsA_wL, mR_sI, mR_sL, mR_wI, mR_wL]; assumption) (by omega) (by omega) ?_
      refine g_iinc (i := 3) dX7_clear_28 rfl (by decide) rfl ls3 ?_
      refine g_goto (tgt := 11) (by decide) dX7_clear_31 ?_
      rw [sL_wL]
      refine ih (u + 1) _ (by omega) (by omega) fun k => ?_
      by_cases hk : k = u
      · rw [if_pos hk, if_pos (by omega)]
      · rw [if_neg hk, hg]
        congr 1
        exact propext ⟨fun q => ⟨q.1, by omega⟩, fun q => ⟨q.1, by omega⟩⟩
theorem c_clear (w : WC) (d : Nat) (μ : Mem) {s c N : Nat} (hS : SeS w μ s c N) {t f : Int} (ht : t * (mI μ s 3 + 1) = f) (h0 : 0 ≤ f) (hT : 0 ≤ mI μ s 3) (hN : f + mI μ s 3 < N) (hb : f + mI μ s 3 ≤ 2000000000) : Con w d mX7_clear 0 0 [vP (some s), vI t] μ (fun v μ2 => v = none ∧ μ2 = wL μ c (fun k => if f ≤ k ∧ k ≤ f + mI μ s 3 then 0 else mL μ c k)) := by
  have hS0 := hS
  obtain ⟨o0, r0, r1, a1, a2⟩ := hS
  refine Con.of (by decide) (Nat.le_of_ble_eq_true rfl) rfl ?_
  refine g_iload_n (j := 1) rfl dX7_clear_0 ?_
  refine g_aload_n (j := 0) rfl dX7_clear_1 ?_
  refine g_getI dX7_clear_2 flX7_23 rfl (by assumption) (kz := 3) rfl ?_
  refine g_iconst dX7_clear_5 ?_
  refine g_iadd dX7_clear_6 ?_
  refine g_imul dX7_clear_7 ?_
  refine g_istore_n (j := 2) dX7_clear_8 (by decide) rfl ls2 ?_
  refine g_iload_n (j := 2) rfl dX7_clear_9 ?_
  refine g_istore_n (j := 3) dX7_clear_10 (by decide) rfl ls3 ?_
  rw [ht, ← wL_eta μ c]
  refine G.post ?_ (l_clear w d μ hS0 (f := f) (t := t) h0 hT hN hb (mI μ s 3 + 1).toNat f (mL μ c) (by omega) (by omega) fun k => by rw [if_neg (by omega)])
  rw [wL_eta μ c]
  exact fun _ _ h => h
/-- addShifted, from place u of its loop on -/
theorem l_addShifted (w : WC) (d : Nat) (μ : Mem) {s c N : Nat} (hS : SeS w μ s c N) {p1 p2 re a f e sh : Int} (h0 : 0 ≤ a) (h1 : 0 ≤ sh) (h2 : 0 ≤ f + sh) (hN : a + e < N) (hN2 : f + e < N) (hd : ∀ u v : Int, sh ≤ u → u ≤ e → sh ≤ v → v ≤ e → ¬ f + u = a + v) (hb : a + e ≤ 2000000000 ∧ f + e ≤ 2000000000 ∧ -2000000000 ≤ f ∧ -2000000000 ≤ e ∧ e ≤ 2000000000 ∧ sh ≤ 2000000000 ∧ a ≤ 2000000000 ∧ f ≤ 2000000000) : ∀ (n : Nat) (u : Int) (g : Int → Int), sh ≤ u → (u + n = e + 1 ∨ (n = 0 ∧ e < u ∧ u = sh)) → (∀ k, g k = if a + sh ≤ k ∧ k < a + u then mL μ c k + mL μ c (k - a + f) else mL μ c k) →
    G w d mX7_addShifted (fun v μ2 => v = none ∧ μ2 = wL μ c (fun k => if a + sh ≤ k ∧ k ≤ a + e then mL μ c k + mL μ c (k - a + f) else mL μ c k)) 0 0 38 [some (vP (some s)), some (vI p1), some (vI p2), some (vI sh), some (vI re), some (vI a), some (vI f), some (vI e), some (vI u)] [] (wL μ c g) := by
  intro n
  obtain ⟨o0, r0, r1, a1, a2⟩ := hS
  induction n with
  | zero =>
    intro u g hu hn hg
    refine g_iload (i := 8) rfl dX7_addShifted_38 ?_
    refine g_iload (i := 7) rfl dX7_addShifted_40 ?_
    refine g_icmp_gt (tgt := 74) dX7_addShifted_42 (by decide) (by omega) (by omega) (fun h42 => ?_) (fun h42 => ?_)
    · exact G.retV dX7_addShifted_74 rfl ⟨rfl, wL_congr fun k => by
        rw [hg]
        congr 1
        exact propext ⟨fun q => ⟨q.1, by omega⟩, fun q => ⟨q.1, by omega⟩⟩⟩
    · omega
  | succ n ih =>
    intro u g hu hn hg
    have hg1 : g (a + u) = mL μ c (a + u) := by rw [hg, if_neg (by omega)]
    have hg2 : g (f + u) = mL μ c (f + u) := by
      rw [hg, if_neg]
      intro q
      exact hd u (f + u - a) (by omega) (by omega) (by omega) (by omega) (by omega)
    refine g_iload (i := 8) rfl dX7_addShifted_38 ?_
    refine g_iload (i := 7) rfl dX7_addShifted_40 ?_
    refine g_icmp_gt (tgt := 74) dX7_addShifted_42 (by decide) (by omega) (by omega) (fun h42 => ?_) (fun h42 => ?_)
    · omega
    · refine g_aload_n (j := 0) rfl dX7_addShifted_45 ?_
      refine g_getR dX7_addShifted_46 flX7_15 rfl (by simp only [IsO_sI, IsO_sL, IsO_sR, IsO_wI, IsO_wL, IsA_sI, IsA_sL, IsA_sR, IsA_wI, IsA_wL, mR_sI, mR_sL, mR_wI, mR_wL]; assumption) (kz := 1) rfl (by simp only [IsO_sI, IsO_sL, IsO_sR, IsO_wI, IsO_wL, IsA_sI, IsA_sL, IsA_sR, IsA_wI, IsA_wL, mR_sI, mR_sL, mR_wI, mR_wL]; assumption) ?_
      refine g_iload (i := 5) rfl dX7_addShifted_49 ?_
      refine g_iload (i := 8) rfl dX7_addShifted_51 ?_
      refine g_iadd dX7_addShifted_53 ?_
      refine g_dup2 rfl rfl dX7_addShifted_54 ?_
      refine g_laldv dX7_addShifted_55 (by simp only [IsO_sI, IsO_sL, IsO_sR, IsO_wI, IsO_wL, IsA_sI, IsA_sL, IsA_sR, IsA_wI, IsA_wL, mR_sI, mR_sL, mR_wI, mR_wL]; assumption) (by omega) (by omega) (by simp [mI_sI, mI_sL, mI_sR, mI_wI, mI_wL, mL_sI, mL_sL, mL_sR, mL_wI, mL_wL]; rfl) ?_
      refine g_aload_n (j := 0) rfl dX7_addShifted_56 ?_
      refine g_getR dX7_addShifted_57 flX7_15 rfl (by simp only [IsO_sI, IsO_sL, IsO_sR, IsO_wI, IsO_wL, IsA_sI, IsA_sL, IsA_sR, IsA_wI, IsA_wL, mR_sI, mR_sL, mR_wI, mR_wL]; assumption) (kz := 1) rfl (by simp only [IsO_sI, IsO_sL, IsO_sR, IsO_wI, IsO_wL, IsA_sI, IsA_sL, IsA_sR, IsA_wI, IsA_wL, mR_sI, mR_sL, mR_wI, mR_wL]; assumption) ?_
      refine g_iload (i := 6) rfl dX7_addShifted_60 ?_
      refine g_iload (i := 8) rfl dX7_addShifted_62 ?_
      refine g_iadd dX7_addShifted_64 ?_
      refine g_laldv dX7_addShifted_65 (by simp only [IsO_sI, IsO_sL, IsO_sR, IsO_wI, IsO_wL, IsA_sI, IsA_sL, IsA_sR, IsA_wI, IsA_wL, mR_sI, mR_sL, mR_wI, mR_wL]; assumption) (by omega) (by omega) (by simp [mI_sI, mI_sL, mI_sR, mI_wI, mI_wL, mL_sI, mL_sL, mL_sR, mL_wI, mL_wL]; rfl) ?_
      refine g_ladd dX7_addShifted_66 ?_
      refine g_last dX7_addShifted_67 (by simp only [IsO_sI, IsO_sL, IsO_sR, IsO_wI, IsO_wL, IsA_sI, IsA_sL, IsA_sR, IsA_wI, IsA_wL, mR_sI, mR_sL, mR_wI, mR_wL]; assumption) (by omega) (by omega) ?_
      refine g_iinc (i := 8) dX7_addShifted_68 rfl (by decide) rfl ls8 ?_
      refine g_goto (tgt := 38) (by decide) dX7_addShifted_71 ?_
      rw [sL_wL]
      refine ih (u + 1) _ (by omega) (by omega) fun k => ?_
      by_cases hk : k = a + u
      · rw [if_pos hk, if_pos (by omega), hg1, hg2, hk, show a + u - a + f = f + u by omega]
      · rw [if_neg hk, hg]
        congr 1
        exact propext ⟨fun q => ⟨q.1, by omega⟩, fun q => ⟨q.1, by omega⟩⟩
/-- what addShifted makes of the row of coefficients -/
def shF (L : Int → Int) (a b sh e : Int) : Int → Int := fun k => if a + sh ≤ k ∧ k ≤ a + e then L k + L (k - a - sh + b) else L k
theorem c_addShifted (w : WC) (d : Nat) (μ : Mem) {s c N : Nat} (hS : SeS w μ s c N) {p1 p2 sh re a b : Int} (ha : p1 * (mI μ s 3 + 1) = a) (hb : p2 * (mI μ s 3 + 1) = b) (h0 : 0 ≤ a) (h1 : 0 ≤ b) (hs : 0 ≤ sh) (hr : 0 ≤ re) (hT : 0 ≤ mI μ s 3) (hN : a + mI μ s 3 < N) (hN2 : b + mI μ s 3 < N) (hab : a + mI μ s 3 < b ∨ b + mI μ s 3 < a) (hB : a + mI μ s 3 ≤ 1000000000 ∧ b + mI μ s 3 ≤ 1000000000 ∧ sh ≤ 1000000000 ∧ re ≤ 1000000000) : Con w (d + 1) mX7_addShifted 0 0 [vP (some s), vI p1, vI p2, vI sh, vI re] μ (fun v μ2 => v = none ∧ μ2 = wL μ c (shF (mL μ c) a b sh (min (mI μ s 3) (sh + re)))) := by
  have hS0 := hS
  obtain ⟨o0, r0, r1, a1, a2⟩ := hS
  refine Con.of (by decide) (Nat.le_of_ble_eq_true rfl) rfl ?_
  refine g_iload_n (j := 1) rfl dX7_addShifted_0 ?_
  refine g_aload_n (j := 0) rfl dX7_addShifted_1 ?_
  refine g_getI dX7_addShifted_2 flX7_23 rfl (by assumption) (kz := 3) rfl ?_
  refine g_iconst dX7_addShifted_5 ?_
  refine g_iadd dX7_addShifted_6 ?_
  refine g_imul dX7_addShifted_7 ?_
  refine g_istore (i := 5) dX7_addShifted_8 (by decide) rfl ls5 ?_
  refine g_iload_n (j := 2) rfl dX7_addShifted_10 ?_
  refine g_aload_n (j := 0) rfl dX7_addShifted_11 ?_
  refine g_getI dX7_addShifted_12 flX7_23 rfl (by assumption) (kz := 3) rfl ?_
  refine g_iconst dX7_addShifted_15 ?_
  refine g_iadd dX7_addShifted_16 ?_
  refine g_imul dX7_addShifted_17 ?_
  refine g_iload_n (j := 3) rfl dX7_addShifted_18 ?_
  refine g_isub dX7_addShifted_19 ?_
  refine g_istore (i := 6) dX7_addShifted_20 (by decide) rfl ls6 ?_
  refine g_aload_n (j := 0) rfl dX7_addShifted_22 ?_
  refine g_getI dX7_addShifted_23 flX7_23 rfl (by assumption) (kz := 3) rfl ?_
  refine g_iload_n (j := 3) rfl dX7_addShifted_26 ?_
  refine g_iload (i := 4) rfl dX7_addShifted_27 ?_
  refine g_iadd dX7_addShifted_29 ?_
  refine g_callS dX7_addShifted_30 mlX7_65 msJ9_min_7cf53 (c_min w d _ (by omega) (by omega)) sk2 rfl (by omega) (Nat.le_of_ble_eq_true rfl) (Nat.le_refl _) (Nat.le_refl _) (fun v μ2 hR => ?_)
  obtain ⟨rfl, hm⟩ := hR
  replace hm := hm.symm
  subst hm
  refine g_istore (i := 7) dX7_addShifted_33 (by decide) rfl ls7 ?_
  refine g_iload_n (j := 3) rfl dX7_addShifted_35 ?_
  refine g_istore (i := 8) dX7_addShifted_36 (by decide) rfl ls8 ?_
  rw [ha, hb, ← wL_eta μ c]
  refine G.post ?_ (l_addShifted w (d + 1) μ hS0 (p1 := p1) (p2 := p2) (re := re) (a := a) (f := b - sh) (e := min (mI μ s 3) (sh + re)) (sh := sh) h0 hs (by omega) (by omega) (by omega) (fun u v _ _ _ _ => by omega) (by omega) (min (mI μ s 3) (sh + re) + 1 - sh).toNat sh (mL μ c) (by omega) (by omega) fun k => by rw [if_neg (by omega)])
  rw [wL_eta μ c]
  intro v μ2 h
  refine ⟨h.1, h.2.trans (wL_congr fun k => ?_)⟩
  unfold shF
  rw [show k - a + (b - sh) = k - a - sh + b by omega]
/-- the coefficient of a sum in row t -/
noncomputable def wyF (μ : Mem) (s c : Nat) (t sm : Int) : Int := if bI (sm - mI μ (s + 1) t < 0 ∨ mI μ s 3 < sm - mI μ (s + 1) t) = 1 then 0 else mL μ c (t * (mI μ s 3 + 1) + (sm - mI μ (s + 1) t))
theorem c_waysFrom (w : WC) (d : Nat) (μ : Mem) {s c N : Nat} (hS : SeS w μ s c N) {t sm : Int} (ht : 0 ≤ t ∧ t ≤ 5) (h0 : 0 ≤ t * (mI μ s 3 + 1)) (hN : 0 ≤ mI μ s 3 → t * (mI μ s 3 + 1) + mI μ s 3 < N) (hB : -1000000 ≤ sm ∧ sm ≤ 1000000 ∧ -1000000 ≤ mI μ (s + 1) t ∧ mI μ (s + 1) t ≤ 1000000 ∧ -1000000 ≤ mI μ s 3 ∧ mI μ s 3 ≤ 1000000) : Con w d mX7_waysFrom 0 0 [vP (some s), vI t, vI sm] μ (fun v μ2 => v = some (vJ (wyF μ s c t sm)) ∧ μ2 = μ) := by
  obtain ⟨o0, r0, r1, a1, a2⟩ := hS
  refine Con.of (by decide) (Nat.le_of_ble_eq_true rfl) rfl ?_
  refine g_iload_n (j := 1) rfl dX7_waysFrom_0 ?_
  refine g_if_lt (tgt := 9) dX7_waysFrom_1 (by decide) (by omega) (fun h1 => ?_) (fun h1 => ?_)
  · omega
  · refine g_iload_n (j := 1) rfl dX7_waysFrom_4 ?_
    refine g_iconst dX7_waysFrom_5 ?_
    refine g_icmp_le (tgt := 11) dX7_waysFrom_6 (by decide) (by omega) (by omega) (fun h6 => ?_) (fun h6 => ?_)
    · refine g_iload_n (j := 2) rfl dX7_waysFrom_11 ?_
      refine g_aload_n (j := 0) rfl dX7_waysFrom_12 ?_
      refine g_getR dX7_waysFrom_13 flX7_9 rfl (by assumption) (kz := 0) rfl (by assumption) ?_
      refine g_iload_n (j := 1) rfl dX7_waysFrom_16 ?_
      refine g_iald dX7_waysFrom_17 (by assumption) (by omega) (by omega) ?_
      refine g_isub dX7_waysFrom_18 ?_
      refine g_istore_n (j := 3) dX7_waysFrom_19 (by decide) rfl ls3 ?_
      refine g_iload_n (j := 3) rfl dX7_waysFrom_20 ?_
      refine g_if_lt (tgt := 32) dX7_waysFrom_21 (by decide) (by omega) (fun h21 => ?_) (fun h21 => ?_)
      · refine g_lconst0 dX7_waysFrom_32 ?_
        refine g_goto (tgt := 51) (by decide) dX7_waysFrom_33 ?_
        exact G.retJ dX7_waysFrom_51 rfl ⟨by rw [wyF, if_pos (bI_1 (Or.inl (by omega)))], rfl⟩
      · refine g_iload_n (j := 3) rfl dX7_waysFrom_24 ?_
        refine g_aload_n (j := 0) rfl dX7_waysFrom_25 ?_
        refine g_getI dX7_waysFrom_26 flX7_23 rfl (by assumption) (kz := 3) rfl ?_
        refine g_icmp_le (tgt := 36) dX7_waysFrom_29 (by decide) (by omega) (by omega) (fun h29 => ?_) (fun h29 => ?_)
        · refine g_aload_n (j := 0) rfl dX7_waysFrom_36 ?_
          refine g_getR dX7_waysFrom_37 flX7_15 rfl (by assumption) (kz := 1) rfl (by assumption) ?_
          refine g_iload_n (j := 1) rfl dX7_waysFrom_40 ?_
          refine g_aload_n (j := 0) rfl dX7_waysFrom_41 ?_
          refine g_getI dX7_waysFrom_42 flX7_23 rfl (by assumption) (kz := 3) rfl ?_
          refine g_iconst dX7_waysFrom_45 ?_
          refine g_iadd dX7_waysFrom_46 ?_
          refine g_imul dX7_waysFrom_47 ?_
          refine g_iload_n (j := 3) rfl dX7_waysFrom_48 ?_
          refine g_iadd dX7_waysFrom_49 ?_
          refine g_lald dX7_waysFrom_50 (by assumption) (by omega) (by omega) ?_
          exact G.retJ dX7_waysFrom_51 rfl ⟨by first | rw [wyF, if_pos (bI_1 (by omega))] | rw [wyF, if_neg (by rw [bI_0 (by omega)]; decide)], rfl⟩
        · refine g_lconst0 dX7_waysFrom_32 ?_
          refine g_goto (tgt := 51) (by decide) dX7_waysFrom_33 ?_
          exact G.retJ dX7_waysFrom_51 rfl ⟨by first | rw [wyF, if_pos (bI_1 (by omega))] | rw [wyF, if_neg (by rw [bI_0 (by omega)]; decide)], rfl⟩
    · omega
