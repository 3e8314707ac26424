/-! SERIES: countWays -/
/-- the rows hold the ways of the terms from t on -/
def RowsOk (g : Int → Int) (T : Int) (ts : List Tm) (t : Int) : Prop := ∀ j p : Int, t ≤ j → j ≤ ts.length → 0 ≤ p → p ≤ T → g (j * (T + 1) + p) = wy (ts.drop j.toNat) (p + lfT (ts.drop j.toNat))
/-- the Series at s holds the ways of ts, in its row c of N places -/
def SeW (w : WC) (μ : Mem) (s c N : Nat) (ts : List Tm) : Prop := SeS w μ s c N ∧ mI μ s 3 = 3000 - lfT ts ∧ (∀ t : Int, 0 ≤ t → t ≤ ts.length → mI μ (s + 1) t = lfT (ts.drop t.toNat)) ∧ (0 ≤ 3000 - lfT ts → ((ts.length : Int) + 1) * (3000 - lfT ts + 1) ≤ N ∧ RowsOk (mL μ c) (3000 - lfT ts) ts 0)
theorem row_ge {t j T : Int} (hT : 0 ≤ T) (h : t + 1 ≤ j) : t * (T + 1) + (T + 1) ≤ j * (T + 1) := by
  have := Int.mul_le_mul_of_nonneg_right h (show 0 ≤ T + 1 by omega)
  rw [Int.add_mul, Int.one_mul] at this
  exact this
theorem row_nn {t T : Int} (hT : 0 ≤ T) (h : 0 ≤ t) : 0 ≤ t * (T + 1) := Int.mul_nonneg h (by omega)
theorem lf_hf : ∀ (ts : List Tm), (∀ u ∈ ts, TOk u) → lfT ts ≤ hfT ts
  | [], _ => Int.le_refl _
  | u :: us, h => by
    have h1 := lf_hf us fun v hv => h v (List.mem_cons_of_mem _ hv)
    have hk := h u List.mem_cons_self
    have h2 := hk.val (Int.le_refl _) hk.2.2.1.2.1
    simp only [lfT, hfT]
    omega
theorem hf_bd : ∀ (ts : List Tm), (∀ u ∈ ts, TOk u) → hfT ts ≤ 3000 * (ts.length : Int)
  | [], _ => by simp [hfT]
  | u :: us, h => by
    have h1 := hf_bd us fun v hv => h v (List.mem_cons_of_mem _ hv)
    have h2 := tHi_bd (h u List.mem_cons_self)
    simp only [hfT, List.length_cons]
    omega
/-- a row more -/
theorem rows_more {g : Int → Int} {T t : Int} {ts : List Tm} {u : Tm} (hok : ∀ u ∈ ts, TOk u) (h0 : 0 ≤ t) (ht : t < ts.length) (hu : ts[t.toNat]? = some u) (hT : 0 ≤ T) (hg : RowsOk g T ts (t + 1)) : RowsOk (atF g (t * (T + 1)) ((t + 1) * (T + 1)) T u (tH u - tL u + 1).toNat) T ts t := by
  intro j p hj hl hp hpT
  have hl2 : t.toNat < ts.length := by omega
  have hk : TOk u := hok u (List.mem_of_getElem? hu)
  have hd : ts.drop t.toNat = u :: ts.drop (t + 1).toNat := by
    rw [show (t + 1).toNat = t.toNat + 1 by omega, List.drop_eq_getElem_cons hl2]
    congr 1
    rw [List.getElem?_eq_getElem hl2] at hu
    exact Option.some.inj hu
  rcases (by omega : j = t ∨ t + 1 ≤ j) with rfl | hj2
  · unfold atF
    rw [if_pos (by omega), hd, wy]
    refine rsum_congr _ _ fun x h1 h2 => ?_
    have hx := (hk.val h1 (by have := hk.2.2.1; omega)).1
    have hlf : lfT (u :: ts.drop (j + 1).toNat) = lfT (ts.drop (j + 1).toNat) + tLo (tK u) (tF u) (tL u) (tH u) := rfl
    rw [hlf, show j * (T + 1) + p - j * (T + 1) = p by omega]
    unfold rowZ
    by_cases hc : 0 ≤ p - (tV u x - tLo (tK u) (tF u) (tL u) (tH u)) ∧ p - (tV u x - tLo (tK u) (tF u) (tL u) (tH u)) ≤ T
    · rw [if_pos hc, hg (j + 1) _ (by omega) (by omega) hc.1 hc.2]
      congr 1
      omega
    · rw [if_neg hc, wy_lo _ _ (fun v hv => hok v (List.mem_of_mem_drop hv)) (by omega)]
  · have := row_ge hT hj2
    unfold atF
    rw [if_neg (by omega)]
    exact hg j p hj2 hl hp hpT
theorem rows_far {g : Int → Int} {T t : Int} {ts : List Tm} (hok : ∀ u ∈ ts, TOk u) (h0 : 0 ≤ t) (ht : t < ts.length) (hg : RowsOk g T ts (t + 1)) {p : Int} (h1 : min T (hfT (ts.drop (t + 1).toNat) - lfT (ts.drop (t + 1).toNat)) < p) (h2 : p ≤ T) : g ((t + 1) * (T + 1) + p) = 0 := by
  have := lf_hf (ts.drop (t + 1).toNat) fun v hv => hok v (List.mem_of_mem_drop hv)
  rw [hg (t + 1) p (by omega) (by omega) (by omega) h2, wy_hi _ _ (fun v hv => hok v (List.mem_of_mem_drop hv)) (by omega)]
theorem c_clearT (w : WC) (d : Nat) (μ : Mem) {s c N : Nat} (hS : SeS w μ s c N) {t f T : Int} (eT : mI μ s 3 = T) (ht : t * (T + 1) = f) (h0 : 0 ≤ f) (hT : 0 ≤ T) (hN : f + T < N) (hb : f + T ≤ 2000000000) : Con w d mX7_clear 0 0 [vP (some s), vI t] μ (fun v μ2 => v = none ∧ μ2 = wL μ c (fun k => if f ≤ k ∧ k ≤ f + T then 0 else mL μ c k)) := by
  subst eT
  exact c_clear w d μ hS ht h0 hT hN hb
theorem c_addTermT (w : WC) (d : Nat) (μ : Mem) {s c N q : Nat} (hS : SeS w μ s c N) (hF : FoS w μ q) {u : Tm} {t re a b T : Int} (eT : mI μ s 3 = T) (ht : 0 ≤ t ∧ t < 5) (hu : TOk u) (hat : TmAt μ q t u) (ha : t * (T + 1) = a) (hb : (t + 1) * (T + 1) = b) (h0 : 0 ≤ a) (h1 : 0 ≤ b) (hr : 0 ≤ re) (hT : 0 ≤ T) (hN : a + T < N) (hN2 : b + T < N) (hab : a + T < b ∨ b + T < a) (hB : a + T ≤ 1000000 ∧ b + T ≤ 1000000 ∧ re ≤ 1000000)
    (hza : ∀ p, 0 ≤ p → p ≤ T → mL μ c (a + p) = 0) (hz : ∀ p, re < p → p ≤ T → mL μ c (b + p) = 0) : Con w (d + 2) mX7_addTerm 0 0 [vP (some s), vP (some q), vI t, vI re] μ (fun v μ2 => v = some (vI (min T (re + (tHi (tK u) (tF u) (tL u) (tH u) - tLo (tK u) (tF u) (tL u) (tH u))))) ∧ μ2 = wL μ c (atF (mL μ c) a b T u (tH u - tL u + 1).toNat)) := by
  subst eT
  exact c_addTerm w d μ hS hF ht hu hat ha hb h0 h1 hr hT hN hN2 hab hB hza hz
theorem FI.wL {μ : Mem} {q c : Nat} {g : Int → Int} {ts : List Tm} (h : FI μ q ts) : FI (wL μ c g) q ts := h
theorem l_countWays (w : WC) (d : Nat) (μ : Mem) {s c N q : Nat} {ts : List Tm} (hS : SeS w μ s c N) (hF : FoS w μ q) (hI : FI μ q ts) (x1 : Int) {T : Int} (hT3 : mI μ s 3 = T) (hT : 0 ≤ T ∧ T ≤ 18000) (hN : ((ts.length : Int) + 1) * (T + 1) ≤ N) (R : Option AV → Mem → Prop) (hR : ∀ g, RowsOk g T ts 0 → R none (wL μ c g)) : ∀ (n : Nat) (t : Int) (g : Int → Int), t + 1 = n → t < ts.length → RowsOk g T ts (t + 1) →
    G w (d + 3) mX7_countWays R 0 0 68 [some (vP (some s)), some (vI x1), some (vP (some q)), some (vI (min T (hfT (ts.drop (t + 1).toNat) - lfT (ts.drop (t + 1).toNat)))), some (vI t)] [] (wL μ c g) := by
  have hS0 := hS
  have hF0 := hF
  obtain ⟨o0, r0, r1, a1, a2⟩ := hS
  have p0 := hF.1
  have hl5 := hI.2.1
  have hok := hI.2.2.1
  intro n
  induction n with
  | zero =>
    intro t g hn ht hg
    have ht0 : t = -1 := by omega
    refine g_iload (i := 4) rfl dX7_countWays_68 ?_
    refine g_if_lt (tgt := 94) dX7_countWays_70 (by decide) (by omega) (fun h70 => ?_) (fun h70 => ?_)
    · exact G.retV dX7_countWays_94 rfl (hR g (by rw [ht0] at hg; exact hg))
    · omega
  | succ n ih =>
    intro t g hn ht hg
    have h0 : 0 ≤ t := by omega
    obtain ⟨u, hu, hk, hat⟩ := hI.at (t := t) h0 (by omega)
    have g1 := row_nn hT.1 h0
    have g2 := row_ge (t := t) (j := t + 1) hT.1 (by omega)
    have g3 := row_ge (t := t + 1) (j := ts.length + 1) hT.1 (by omega)
    have hlo := lf_hf (ts.drop (t + 1).toNat) fun v hv => hok v (List.mem_of_mem_drop hv)
    have g4 : t * (T + 1) ≤ 4 * 18001 := Int.mul_le_mul (by omega) (by omega) (by omega) (by omega)
    have g5 : (t + 1) * (T + 1) ≤ 5 * 18001 := Int.mul_le_mul (by omega) (by omega) (by omega) (by omega)
    have hz := fun p => rows_far (p := p) hok h0 ht hg
    generalize hcl : (fun k => if t * (T + 1) ≤ k ∧ k ≤ t * (T + 1) + T then 0 else g k) = g1'
    have hz2 : ∀ p, 0 ≤ p → p ≤ T → g1' (t * (T + 1) + p) = 0 := fun p h1 h2 => by
      rw [← hcl]
      exact if_pos ⟨by omega, by omega⟩
    have hg1 : RowsOk g1' (T) ts (t + 1) := fun j p hj hl hp hpT => by
      have := row_ge hT.1 hj
      rw [← hcl]
      show (if _ then _ else _) = _
      rw [if_neg (by omega)]
      exact hg j p hj hl hp hpT
    have hz1 : ∀ p, min (T) (hfT (ts.drop (t + 1).toNat) - lfT (ts.drop (t + 1).toNat)) < p → p ≤ T → g1' ((t + 1) * (T + 1) + p) = 0 := fun p h1 h2 => by
      rw [← hcl]
      show (if _ then _ else _) = _
      rw [if_neg (by omega)]
      exact hz p h1 h2
    have hmore := rows_more hok h0 ht hu hT.1 hg1
    have hd : ts.drop t.toNat = u :: ts.drop (t + 1).toNat := by
      have hl2 : t.toNat < ts.length := by omega
      rw [show (t + 1).toNat = t.toNat + 1 by omega, List.drop_eq_getElem_cons hl2]
      congr 1
      rw [List.getElem?_eq_getElem hl2] at hu
      exact Option.some.inj hu
    have hlast : min (T) (min (T) (hfT (ts.drop (t + 1).toNat) - lfT (ts.drop (t + 1).toNat)) + (tHi (tK u) (tF u) (tL u) (tH u) - tLo (tK u) (tF u) (tL u) (tH u))) = min (T) (hfT (ts.drop (t + -1 + 1).toNat) - lfT (ts.drop (t + -1 + 1).toNat)) := by
      have := hk.val (Int.le_refl _) hk.2.2.1.2.1
      rw [show t + -1 + 1 = t by omega, hd, hfT, lfT]
      omega
    refine g_iload (i := 4) rfl dX7_countWays_68 ?_
    refine g_if_lt (tgt := 94) dX7_countWays_70 (by decide) (by omega) (fun h70 => ?_) (fun h70 => ?_)
    · omega
    · refine g_aload_n (j := 0) rfl dX7_countWays_73 ?_
      refine g_iload (i := 4) rfl dX7_countWays_74 ?_
      refine g_callV dX7_countWays_76 mlX7_39 mvX7_clear (ci := 7) ⟨by decide, rfl⟩ (by simp only [IsO_sI, IsO_sL, IsO_sR, IsO_wI, IsO_wL, IsA_sI, IsA_sL, IsA_sR, IsA_wI, IsA_wL, mR_sI, mR_sL, mR_wI, mR_wL]; assumption) (c_clearT w d _ (hS0.wL (k := c) (g := g)) (t := t) (T := T) hT3 rfl g1 hT.1 (by omega) (by omega)) sv1 rfl (by omega) (Nat.le_of_ble_eq_true rfl) (Nat.le_refl _) (Nat.le_refl _) (fun v μ2 hR => ?_)
      obtain ⟨rfl, hm⟩ := hR
      replace hm := hm.symm
      subst hm
      rw [mL_wL_self, wL_wL, hcl]
      refine g_aload_n (j := 0) rfl dX7_countWays_79 ?_
      refine g_aload_n (j := 2) rfl dX7_countWays_80 ?_
      refine g_iload (i := 4) rfl dX7_countWays_81 ?_
      refine g_iload_n (j := 3) rfl dX7_countWays_83 ?_
      refine g_callV dX7_countWays_84 mlX7_43 mvX7_addTerm (ci := 7) ⟨by decide, rfl⟩ (by simp only [IsO_sI, IsO_sL, IsO_sR, IsO_wI, IsO_wL, IsA_sI, IsA_sL, IsA_sR, IsA_wI, IsA_wL, mR_sI, mR_sL, mR_wI, mR_wL]; assumption) (c_addTermT w d _ (hS0.wL (k := c) (g := g1')) hF0.wL (u := u) (t := t) (T := T) (a := t * (T + 1)) (b := (t + 1) * (T + 1)) hT3 (by omega) hk hat rfl rfl (by omega) (by omega) (by omega) (by omega) (by omega) (by omega) (by omega) (by omega) (by rw [mL_wL_self]; exact hz2) (by rw [mL_wL_self]; exact hz1)) sv3 rfl (by omega) (Nat.le_of_ble_eq_true rfl) (Nat.le_refl _) (Nat.le_refl _) (fun v μ2 hR => ?_)
      obtain ⟨rfl, hm⟩ := hR
      replace hm := hm.symm
      subst hm
      rw [mL_wL_self, wL_wL, hlast]
      refine g_istore_n (j := 3) dX7_countWays_87 (by decide) rfl ls3 ?_
      refine g_iinc (i := 4) dX7_countWays_88 rfl (by decide) rfl ls4 ?_
      refine g_goto (tgt := 68) (by decide) dX7_countWays_91 ?_
      exact ih (t + -1) _ (by omega) (by omega) (by rw [show t + -1 + 1 = t by omega]; exact hmore)
