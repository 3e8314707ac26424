/-! SERIES: addLikeLines, forget, measure, makeRows, copyRow -/
theorem c_addLikeLines (w : WC) (d : Nat) (μ : Mem) {s c N q : Nat} (hS : SeS w μ s c N) (hF : FoS w μ q) {u : Tm} {r t like a : Int} (ht : 0 ≤ t ∧ t < 5) (hu : TOk u) (g1 : mI μ (q + 1) t = tF u) (g3 : mI μ (q + 3) t = tL u) (g4 : mI μ (q + 4) t = tH u) (ha : r * (mI μ s 3 + 1) = a) (h0 : 0 ≤ a) (hT : 0 ≤ mI μ s 3) (hN : a + mI μ s 3 < N) (hB : a + mI μ s 3 ≤ 100000000) (hlk : 0 ≤ like ∧ like ≤ 5) : Con w d mX7_addLikeLines 0 0 [vP (some s), vI r, vP (some q), vI t, vI like] μ (fun v μ2 => v = none ∧ μ2 = wL μ c (lkL (mL μ c) a (a + mI μ s 3) (tF u) (tH u - tL u) like.toNat)) := by
  have hS0 := hS
  have hF0 := hF
  obtain ⟨o0, r0, r1, a1, a2⟩ := hS
  obtain ⟨p0, ⟨q1, q2, q3, q4, q5, q6⟩, b1, b2, b3, b4, b5, b6⟩ := hF
  refine Con.of (by decide) (Nat.le_of_ble_eq_true rfl) rfl ?_
  refine g_iload_n (j := 1) rfl dX7_addLikeLines_0 ?_
  refine g_aload_n (j := 0) rfl dX7_addLikeLines_1 ?_
  refine g_getI dX7_addLikeLines_2 flX7_23 rfl (by assumption) (kz := 3) rfl ?_
  refine g_iconst dX7_addLikeLines_5 ?_
  refine g_iadd dX7_addLikeLines_6 ?_
  refine g_imul dX7_addLikeLines_7 ?_
  refine g_istore (i := 5) dX7_addLikeLines_8 (by decide) rfl ls5 ?_
  refine g_iload (i := 5) rfl dX7_addLikeLines_10 ?_
  refine g_aload_n (j := 0) rfl dX7_addLikeLines_12 ?_
  refine g_getI dX7_addLikeLines_13 flX7_23 rfl (by assumption) (kz := 3) rfl ?_
  refine g_iadd dX7_addLikeLines_16 ?_
  refine g_istore (i := 6) dX7_addLikeLines_17 (by decide) rfl ls6 ?_
  refine g_aload_n (j := 2) rfl dX7_addLikeLines_19 ?_
  refine g_getR dX7_addLikeLines_20 flX7_89 rfl (by assumption) (kz := 4) rfl (by assumption) ?_
  refine g_iload_n (j := 3) rfl dX7_addLikeLines_23 ?_
  refine g_iald dX7_addLikeLines_24 (by assumption) (by omega) (by omega) ?_
  refine g_aload_n (j := 2) rfl dX7_addLikeLines_25 ?_
  refine g_getR dX7_addLikeLines_26 flX7_86 rfl (by assumption) (kz := 3) rfl (by assumption) ?_
  refine g_iload_n (j := 3) rfl dX7_addLikeLines_29 ?_
  refine g_iald dX7_addLikeLines_30 (by assumption) (by omega) (by omega) ?_
  refine g_isub dX7_addLikeLines_31 ?_
  refine g_istore (i := 7) dX7_addLikeLines_32 (by decide) rfl ls7 ?_
  refine g_iconst dX7_addLikeLines_34 ?_
  refine g_istore (i := 8) dX7_addLikeLines_35 (by decide) rfl ls8 ?_
  rw [ha, g3, g4]
  have := l_lines (d := d) (v1 := r) hS0 hF0 ht hu g1 g3 g4 h0 (by omega) hN hB hlk.2 (mL μ c) (Pq := fun v μ2 => v = none ∧ μ2 = wL μ c (lkL (mL μ c) a (a + mI μ s 3) (tF u) (tH u - tL u) like.toNat)) ⟨rfl, rfl⟩ hlk.1 like.toNat 1 none none none (by omega) (by omega) (by omega)
  rw [show (1 - 1 : Int).toNat = 0 from rfl, show lkL (mL μ c) a (a + mI μ s 3) (tF u) (tH u - tL u) 0 = mL μ c from rfl, wL_eta] at this
  exact this
theorem c_forget (w : WC) (d : Nat) (μ : Mem) {s : Nat} (o0 : IsO w μ s 7) {x : Int} (hx : i32 x) (h2 : i32 (mI μ s 2)) : Con w d mX7_forget 0 0 [vP (some s), vI x] μ (fun v μ2 => v = none ∧ μ2 = sI μ s 2 (if mI μ s 2 = x then -1 else mI μ s 2)) := by
  refine Con.of (by decide) (Nat.le_of_ble_eq_true rfl) rfl ?_
  refine g_aload_n (j := 0) rfl dX7_forget_0 ?_
  refine g_getI dX7_forget_1 flX7_19 rfl (by assumption) (kz := 2) rfl ?_
  refine g_iload_n (j := 1) rfl dX7_forget_4 ?_
  refine g_icmp_ne (tgt := 13) dX7_forget_5 (by decide) (by omega) (by omega) (fun h5 => ?_) (fun h5 => ?_)
  · exact G.retV dX7_forget_13 rfl ⟨rfl, by rw [if_neg (by omega), sI_w, wI_eta' fun k => by split <;> simp_all]⟩
  · refine g_aload_n (j := 0) rfl dX7_forget_8 ?_
    refine g_iconst dX7_forget_9 ?_
    refine g_putI dX7_forget_10 fpX7_19 rfl rfl rfl (by assumption) (kz := 2) rfl ?_
    exact G.retV dX7_forget_13 rfl ⟨rfl, by rw [if_pos (by omega)]⟩
/-- the least sum of a list of terms -/
def lfT : List Tm → Int
  | [] => 0
  | u :: us => lfT us + tLo (tK u) (tF u) (tL u) (tH u)
theorem tLo_bd {u : Tm} (h : TOk u) : -3000 ≤ tLo (tK u) (tF u) (tL u) (tH u) ∧ tLo (tK u) (tF u) (tL u) (tH u) ≤ 3000 := by
  obtain ⟨-, -, -, h4, h5⟩ := h
  unfold tV at h4 h5
  unfold tLo
  split
  · omega
  · omega
theorem lfT_bd : ∀ (ts : List Tm), (∀ u ∈ ts, TOk u) → -3000 * (ts.length : Int) ≤ lfT ts ∧ lfT ts ≤ 3000 * (ts.length : Int)
  | [], _ => by simp [lfT]
  | u :: us, h => by
    have h1 := lfT_bd us fun v hv => h v (List.mem_cons_of_mem _ hv)
    have h2 := tLo_bd (h u List.mem_cons_self)
    simp only [lfT, List.length_cons]
    omega
theorem lfT_drop {ts : List Tm} (h : ∀ u ∈ ts, TOk u) (h5 : ts.length ≤ 5) (k : Nat) : -15000 ≤ lfT (ts.drop k) ∧ lfT (ts.drop k) ≤ 15000 := by
  have := lfT_bd (ts.drop k) fun v hv => h v (List.mem_of_mem_drop hv)
  have hl : (ts.drop k).length ≤ 5 := by rw [List.length_drop]; omega
  omega
/-- what measure lays into leastFrom -/
def lfF (g : Int → Int) (ts : List Tm) : Int → Int := fun k => if 0 ≤ k ∧ k ≤ ts.length then lfT (ts.drop k.toNat) else g k
theorem l_measure (w : WC) (d : Nat) (μ : Mem) {s q : Nat} (o0 : IsO w μ s 7) (r0 : mR μ s 0 = some (s + 1)) (a1 : IsA w μ (s + 1) 14 6) (hF : FoS w μ q) {ts : List Tm} (hI : FI μ q ts) (hsq : s + 2 ≤ q ∨ q + 7 ≤ s) : ∀ (n : Nat) (t : Int) (g : Int → Int), t + 1 = n → t < ts.length → (∀ k, g k = if t < k ∧ k ≤ ts.length then lfT (ts.drop k.toNat) else mI μ (s + 1) k) →
    G w d mX7_measure (fun v μ2 => v = none ∧ μ2 = sI (wI μ (s + 1) (lfF (mI μ (s + 1)) ts)) s 3 (3000 - lfT ts)) 0 0 17 [some (vP (some s)), some (vP (some q)), some (vI t)] [] (wI μ (s + 1) g) := by
  have hI0 := hI
  have h5 := hI.2.1
  have hok := hI.2.2.1
  obtain ⟨p0, ⟨q1, q2, q3, q4, q5, q6⟩, b1, b2, b3, b4, b5, b6⟩ := hF
  intro n
  induction n with
  | zero =>
    intro t g hn ht hg
    have e0 : g 0 = lfT ts := by rw [hg, if_pos (by omega)]; rfl
    refine g_iload_n (j := 2) rfl dX7_measure_17 ?_
    refine g_if_lt (tgt := 48) dX7_measure_18 (by decide) (by omega) (fun h18 => ?_) (fun h18 => ?_)
    · refine g_aload_n (j := 0) rfl dX7_measure_48 ?_
      refine g_sipush dX7_measure_49 (by omega) ?_
      refine g_aload_n (j := 0) rfl dX7_measure_52 ?_
      refine g_getR dX7_measure_53 flX7_9 rfl (by simp only [IsO_sI, IsO_sL, IsO_sR, IsO_wI, IsO_wL, IsA_sI, IsA_sL, IsA_sR, IsA_wI, IsA_wL, mR_sI, mR_sL, mR_wI, mR_wL]; assumption) (kz := 0) rfl (by simp only [IsO_sI, IsO_sL, IsO_sR, IsO_wI, IsO_wL, IsA_sI, IsA_sL, IsA_sR, IsA_wI, IsA_wL, mR_sI, mR_sL, mR_wI, mR_wL]; assumption) ?_
      refine g_iconst dX7_measure_56 ?_
      refine g_ialdv dX7_measure_57 (by simp only [IsO_sI, IsO_sL, IsO_sR, IsO_wI, IsO_wL, IsA_sI, IsA_sL, IsA_sR, IsA_wI, IsA_wL, mR_sI, mR_sL, mR_wI, mR_wL]; assumption) (by omega) (by omega) (by simp [mI_sI, mI_sL, mI_sR, mI_wI, mI_wL, mL_sI, mL_sL, mL_sR, mL_wI, mL_wL, e0]; rfl) ?_
      refine g_isub dX7_measure_58 ?_
      refine g_putI dX7_measure_59 fpX7_23 rfl rfl rfl (by simp only [IsO_sI, IsO_sL, IsO_sR, IsO_wI, IsO_wL, IsA_sI, IsA_sL, IsA_sR, IsA_wI, IsA_wL, mR_sI, mR_sL, mR_wI, mR_wL]; assumption) (kz := 3) rfl ?_
      exact G.retV dX7_measure_62 rfl ⟨rfl, by
        rw [wI_congr (h := lfF (mI μ (s + 1)) ts) fun k => by
          rw [hg]
          unfold lfF
          congr 1
          exact propext ⟨fun q => ⟨by omega, q.2⟩, fun q => ⟨by omega, q.2⟩⟩]⟩
    · omega
  | succ n ih =>
    intro t g hn ht hg
    obtain ⟨u, hu, hk, -, -, -, -, g5, -⟩ := hI0.at (t := t) (by omega) (by omega)
    have hl : t.toNat < ts.length := by omega
    have hne : ¬ q + 5 = s + 1 := by omega
    have e1 : g (t + 1) = lfT (ts.drop (t + 1).toNat) := by rw [hg, if_pos (by omega)]
    have hd : lfT (ts.drop t.toNat) = lfT (ts.drop (t + 1).toNat) + tLo (tK u) (tF u) (tL u) (tH u) := by
      rw [show (t + 1).toNat = t.toNat + 1 by omega, List.drop_eq_getElem_cons hl, lfT]
      rw [List.getElem?_eq_getElem hl] at hu
      rw [Option.some.inj hu]
    have hb1 := lfT_drop hok h5 (t + 1).toNat
    have hb2 := tLo_bd hk
    refine g_iload_n (j := 2) rfl dX7_measure_17 ?_
    refine g_if_lt (tgt := 48) dX7_measure_18 (by decide) (by omega) (fun h18 => ?_) (fun h18 => ?_)
    · omega
    · refine g_aload_n (j := 0) rfl dX7_measure_21 ?_
      refine g_getR dX7_measure_22 flX7_9 rfl (by simp only [IsO_sI, IsO_sL, IsO_sR, IsO_wI, IsO_wL, IsA_sI, IsA_sL, IsA_sR, IsA_wI, IsA_wL, mR_sI, mR_sL, mR_wI, mR_wL]; assumption) (kz := 0) rfl (by simp only [IsO_sI, IsO_sL, IsO_sR, IsO_wI, IsO_wL, IsA_sI, IsA_sL, IsA_sR, IsA_wI, IsA_wL, mR_sI, mR_sL, mR_wI, mR_wL]; assumption) ?_
      refine g_iload_n (j := 2) rfl dX7_measure_25 ?_
      refine g_aload_n (j := 0) rfl dX7_measure_26 ?_
      refine g_getR dX7_measure_27 flX7_9 rfl (by simp only [IsO_sI, IsO_sL, IsO_sR, IsO_wI, IsO_wL, IsA_sI, IsA_sL, IsA_sR, IsA_wI, IsA_wL, mR_sI, mR_sL, mR_wI, mR_wL]; assumption) (kz := 0) rfl (by simp only [IsO_sI, IsO_sL, IsO_sR, IsO_wI, IsO_wL, IsA_sI, IsA_sL, IsA_sR, IsA_wI, IsA_wL, mR_sI, mR_sL, mR_wI, mR_wL]; assumption) ?_
      refine g_iload_n (j := 2) rfl dX7_measure_30 ?_
      refine g_iconst dX7_measure_31 ?_
      refine g_iadd dX7_measure_32 ?_
      refine g_ialdv dX7_measure_33 (by simp only [IsO_sI, IsO_sL, IsO_sR, IsO_wI, IsO_wL, IsA_sI, IsA_sL, IsA_sR, IsA_wI, IsA_wL, mR_sI, mR_sL, mR_wI, mR_wL]; assumption) (by omega) (by omega) (by simp [mI_sI, mI_sL, mI_sR, mI_wI, mI_wL, mL_sI, mL_sL, mL_sR, mL_wI, mL_wL, e1, g5, hne]; rfl) ?_
      refine g_aload_n (j := 1) rfl dX7_measure_34 ?_
      refine g_getR dX7_measure_35 flX7_75 rfl (by simp only [IsO_sI, IsO_sL, IsO_sR, IsO_wI, IsO_wL, IsA_sI, IsA_sL, IsA_sR, IsA_wI, IsA_wL, mR_sI, mR_sL, mR_wI, mR_wL]; assumption) (kz := 5) rfl (by simp only [IsO_sI, IsO_sL, IsO_sR, IsO_wI, IsO_wL, IsA_sI, IsA_sL, IsA_sR, IsA_wI, IsA_wL, mR_sI, mR_sL, mR_wI, mR_wL]; assumption) ?_
      refine g_iload_n (j := 2) rfl dX7_measure_38 ?_
      refine g_ialdv dX7_measure_39 (by simp only [IsO_sI, IsO_sL, IsO_sR, IsO_wI, IsO_wL, IsA_sI, IsA_sL, IsA_sR, IsA_wI, IsA_wL, mR_sI, mR_sL, mR_wI, mR_wL]; assumption) (by omega) (by omega) (by simp [mI_sI, mI_sL, mI_sR, mI_wI, mI_wL, mL_sI, mL_sL, mL_sR, mL_wI, mL_wL, e1, g5, hne]; rfl) ?_
      refine g_iadd dX7_measure_40 ?_
      refine g_iast dX7_measure_41 (by simp only [IsO_sI, IsO_sL, IsO_sR, IsO_wI, IsO_wL, IsA_sI, IsA_sL, IsA_sR, IsA_wI, IsA_wL, mR_sI, mR_sL, mR_wI, mR_wL]; assumption) (by omega) (by omega) ?_
      refine g_iinc (i := 2) dX7_measure_42 rfl (by decide) rfl ls2 ?_
      refine g_goto (tgt := 17) (by decide) dX7_measure_45 ?_
      rw [sI_wI]
      refine ih (t + -1) _ (by omega) (by omega) fun k => ?_
      by_cases hk2 : k = t
      · rw [if_pos hk2, if_pos (by omega), hk2, hd]
      · rw [if_neg hk2, hg]
        congr 1
        exact propext ⟨fun q => ⟨by omega, q.2⟩, fun q => ⟨by omega, q.2⟩⟩
theorem c_measure (w : WC) (d : Nat) (μ : Mem) {s q : Nat} (o0 : IsO w μ s 7) (r0 : mR μ s 0 = some (s + 1)) (a1 : IsA w μ (s + 1) 14 6) (hF : FoS w μ q) {ts : List Tm} (hI : FI μ q ts) (hsq : s + 2 ≤ q ∨ q + 7 ≤ s) : Con w d mX7_measure 0 0 [vP (some s), vP (some q)] μ (fun v μ2 => v = none ∧ μ2 = sI (wI μ (s + 1) (lfF (mI μ (s + 1)) ts)) s 3 (3000 - lfT ts)) := by
  have h5 := hI.2.1
  have hc : mI μ q 0 = ts.length := hI.1
  have hne0 : ¬ q = s + 1 := by omega
  have hF0 := hF
  obtain ⟨p0, ⟨q1, q2, q3, q4, q5, q6⟩, b1, b2, b3, b4, b5, b6⟩ := hF
  refine Con.of (by decide) (Nat.le_of_ble_eq_true rfl) rfl ?_
  refine g_aload_n (j := 0) rfl dX7_measure_0 ?_
  refine g_getR dX7_measure_1 flX7_9 rfl (by assumption) (kz := 0) rfl (by assumption) ?_
  refine g_aload_n (j := 1) rfl dX7_measure_4 ?_
  refine g_getI dX7_measure_5 flX7_30 rfl (by assumption) (kz := 0) rfl ?_
  rw [hc]
  refine g_iconst dX7_measure_8 ?_
  refine g_iast dX7_measure_9 (by assumption) (by omega) (by omega) ?_
  refine g_aload_n (j := 1) rfl dX7_measure_10 ?_
  refine g_getIv dX7_measure_11 flX7_30 rfl (by simp only [IsO_sI, IsO_sL, IsO_sR, IsO_wI, IsO_wL, IsA_sI, IsA_sL, IsA_sR, IsA_wI, IsA_wL, mR_sI, mR_sL, mR_wI, mR_wL]; assumption) (kz := 0) rfl (by simp [mI_sI, mI_sL, mI_sR, mI_wI, mI_wL, mL_sI, mL_sL, mL_sR, mL_wI, mL_wL, hc, hne0]; rfl) ?_
  refine g_iconst dX7_measure_14 ?_
  refine g_isub dX7_measure_15 ?_
  refine g_istore_n (j := 2) dX7_measure_16 (by decide) rfl ls2 ?_
  rw [sI_w μ (s + 1) ts.length 0]
  refine l_measure w d μ o0 r0 a1 hF0 hI hsq ts.length (ts.length - 1) _ (by omega) (by omega) fun k => ?_
  by_cases hk : k = ts.length
  · rw [if_pos hk, if_pos (by omega), hk, show (ts.length : Int).toNat = ts.length by omega, List.drop_length, lfT]
  · rw [if_neg hk, if_neg (by omega)]
/-- how many places a longer row of coefficients has -/
def mkN (N : Nat) (needed : Int) : Nat := (max needed (min (2 * N) 108006)).toNat
theorem c_makeRows (w : WC) (d : Nat) (μ : Mem) {s c N : Nat} (hS : SeS w μ s c N) {r e : Int} (hT : i32 (mI μ s 3)) (he : r * (mI μ s 3 + 1) = e) (hB : 0 ≤ mI μ s 3 → 0 ≤ e ∧ e ≤ 200000) (hN : N ≤ 200000) : Con w (d + 1) mX7_makeRows 1 (if 0 ≤ mI μ s 3 ∧ N < e then mkN N e else 0) [vP (some s), vI r] μ (fun v μ2 => (mI μ s 3 < 0 ∧ v = some (vI 0) ∧ μ2 = μ) ∨ (0 ≤ mI μ s 3 ∧ e ≤ N ∧ v = some (vI 1) ∧ μ2 = μ) ∨ (0 ≤ mI μ s 3 ∧ N < e ∧ v = some (vI 1) ∧ μ2 = sR (sN μ 15 (mkN N e)) s 1 (some (mZ μ)))) := by
  obtain ⟨o0, r0, r1, a1, a2⟩ := hS
  have o0' : IsO w (sN μ 15 (mkN N e)) s 7 := ⟨o0.1, by rw [mZ_sN]; have := o0.2.1; omega, by rw [mS_sN_ne (by have := o0.2.1; omega)]; exact o0.2.2⟩
  refine Con.of (by decide) (Nat.le_of_ble_eq_true rfl) rfl ?_
  refine g_aload_n (j := 0) rfl dX7_makeRows_0 ?_
  refine g_getI dX7_makeRows_1 flX7_23 rfl (by assumption) (kz := 3) rfl ?_
  refine g_if_ge (tgt := 9) dX7_makeRows_4 (by decide) (by omega) (fun h4 => ?_) (fun h4 => ?_)
  · refine g_iload_n (j := 1) rfl dX7_makeRows_9 ?_
    refine g_aload_n (j := 0) rfl dX7_makeRows_10 ?_
    refine g_getI dX7_makeRows_11 flX7_23 rfl (by assumption) (kz := 3) rfl ?_
    refine g_iconst dX7_makeRows_14 ?_
    refine g_iadd dX7_makeRows_15 ?_
    refine g_imul dX7_makeRows_16 ?_
    refine g_istore_n (j := 2) dX7_makeRows_17 (by decide) rfl ls2 ?_
    rw [he]
    obtain ⟨he1, he2⟩ := hB h4
    refine g_iload_n (j := 2) rfl dX7_makeRows_18 ?_
    refine g_aload_n (j := 0) rfl dX7_makeRows_19 ?_
    refine g_getR dX7_makeRows_20 flX7_15 rfl (by assumption) (kz := 1) rfl (by assumption) ?_
    refine g_alen dX7_makeRows_23 (by assumption) (by omega) ?_
    refine g_icmp_le (tgt := 49) dX7_makeRows_24 (by decide) (by omega) (by omega) (fun h24 => ?_) (fun h24 => ?_)
    · refine g_iconst dX7_makeRows_49 ?_
      exact G.retZ dX7_makeRows_50 rfl (by omega) (Or.inr (Or.inl ⟨h4, h24, rfl, rfl⟩))
    · rw [if_pos ⟨h4, h24⟩]
      generalize hk : mkN N e = K at *
      have hK : (K : Int) = max e (min (2 * N) 108006) := by rw [← hk, mkN, Int.toNat_of_nonneg (by omega)]
      refine g_aload_n (j := 0) rfl dX7_makeRows_27 ?_
      refine g_iload_n (j := 2) rfl dX7_makeRows_28 ?_
      refine g_iconst dX7_makeRows_29 ?_
      refine g_aload_n (j := 0) rfl dX7_makeRows_30 ?_
      refine g_getR dX7_makeRows_31 flX7_15 rfl (by assumption) (kz := 1) rfl (by assumption) ?_
      refine g_alen dX7_makeRows_34 (by assumption) (by omega) ?_
      refine g_imul dX7_makeRows_35 ?_
      refine g_ldc dX7_makeRows_36 kcX7_78 (z := 108006) rfl ?_
      refine g_callS dX7_makeRows_38 mlX7_65 msJ9_min_7cf53 (c_min w d _ (by omega) (by omega)) sk2 rfl (by omega) (Nat.le_of_ble_eq_true rfl) (Nat.le_refl _) (Nat.le_refl _) (fun v μ2 hR => ?_)
      obtain ⟨rfl, hm⟩ := hR
      replace hm := hm.symm
      subst hm
      refine g_callS dX7_makeRows_41 mlX7_79 msJ9_max_7cf53 (c_max w d _ (by omega) (by omega)) sk2 rfl (by omega) (Nat.le_of_ble_eq_true rfl) (Nat.le_refl _) (Nat.le_refl _) (fun v μ2 hR => ?_)
      obtain ⟨rfl, hm⟩ := hR
      replace hm := hm.symm
      subst hm
      refine g_newa (t := 15) (n := K) (bc1 := 0) (bs1 := 0) dX7_makeRows_44 ac_long ⟨by decide, by decide, rfl⟩ hK.symm (by omega) (by omega) (by omega) ?_
      refine g_putR dX7_makeRows_46 fpX7_15 rfl rfl rfl (by assumption) (kz := 1) rfl ?_
      refine g_iconst dX7_makeRows_49 ?_
      exact G.retZ dX7_makeRows_50 rfl (by omega) (Or.inr (Or.inr ⟨h4, h24, rfl, rfl⟩))
  · refine g_iconst dX7_makeRows_7 ?_
    exact G.retZ dX7_makeRows_8 rfl (by omega) (Or.inl ⟨h4, rfl, rfl⟩)
theorem wyF_wL {μ : Mem} {s c k : Nat} {g : Int → Int} (h : ¬ c = k) (t sm : Int) : wyF (wL μ k g) s c t sm = wyF μ s c t sm := by
  unfold wyF
  rw [mL_wL, if_neg h]
  rfl
theorem SeS.wL {w : WC} {μ : Mem} {s c N k : Nat} {g : Int → Int} (h : SeS w μ s c N) : SeS w (wL μ k g) s c N := h
theorem l_copyRow (w : WC) (d : Nat) (μ : Mem) {s c N k : Nat} (hS : SeS w μ s c N) (hk : IsA w μ k 15 6001) (hck : ¬ c = k) (hN : 0 ≤ mI μ s 3 → mI μ s 3 < N) (hB : -1000000 ≤ mI μ (s + 1) 0 ∧ mI μ (s + 1) 0 ≤ 1000000 ∧ -1000000 ≤ mI μ s 3 ∧ mI μ s 3 ≤ 1000000) : ∀ (n : Nat) (i : Int) (g : Int → Int), 0 ≤ i → i + n = 6001 → (∀ j, g j = if 0 ≤ j ∧ j < i then wyF μ s c 0 (j - 3000) else mL μ k j) →
    G w (d + 1) mX7_copyRow (fun v μ2 => v = none ∧ μ2 = wL μ k (fun j => if 0 ≤ j ∧ j < 6001 then wyF μ s c 0 (j - 3000) else mL μ k j)) 0 0 2 [some (vP (some s)), some (vP (some k)), some (vI i)] [] (wL μ k g) := by
  have hS0 := hS
  obtain ⟨o0, r0, r1, a1, a2⟩ := hS
  intro n
  induction n with
  | zero =>
    intro i g hi hn hg
    refine g_iload_n (j := 2) rfl dX7_copyRow_2 ?_
    refine g_aload_n (j := 1) rfl dX7_copyRow_3 ?_
    refine g_alen dX7_copyRow_4 (by simp only [IsO_sI, IsO_sL, IsO_sR, IsO_wI, IsO_wL, IsA_sI, IsA_sL, IsA_sR, IsA_wI, IsA_wL, mR_sI, mR_sL, mR_wI, mR_wL]; assumption) (by omega) ?_
    refine g_icmp_ge (tgt := 27) dX7_copyRow_5 (by decide) (by omega) (by omega) (fun h5 => ?_) (fun h5 => ?_)
    · exact G.retV dX7_copyRow_27 rfl ⟨rfl, wL_congr fun j => by
        rw [hg]
        congr 1
        exact propext ⟨fun q => ⟨q.1, by omega⟩, fun q => ⟨q.1, by omega⟩⟩⟩
    · omega
  | succ n ih =>
    intro i g hi hn hg
    refine g_iload_n (j := 2) rfl dX7_copyRow_2 ?_
    refine g_aload_n (j := 1) rfl dX7_copyRow_3 ?_
    refine g_alen dX7_copyRow_4 (by simp only [IsO_sI, IsO_sL, IsO_sR, IsO_wI, IsO_wL, IsA_sI, IsA_sL, IsA_sR, IsA_wI, IsA_wL, mR_sI, mR_sL, mR_wI, mR_wL]; assumption) (by omega) ?_
    refine g_icmp_ge (tgt := 27) dX7_copyRow_5 (by decide) (by omega) (by omega) (fun h5 => ?_) (fun h5 => ?_)
    · omega
    · refine g_aload_n (j := 1) rfl dX7_copyRow_8 ?_
      refine g_iload_n (j := 2) rfl dX7_copyRow_9 ?_
      refine g_aload_n (j := 0) rfl dX7_copyRow_10 ?_
      refine g_iconst dX7_copyRow_11 ?_
      refine g_iload_n (j := 2) rfl dX7_copyRow_12 ?_
      refine g_sipush dX7_copyRow_13 (by omega) ?_
      refine g_isub dX7_copyRow_16 ?_
      refine g_callV dX7_copyRow_17 mlX7_71 mvX7_waysFrom (ci := 7) ⟨by decide, rfl⟩ (by simp only [IsO_sI, IsO_sL, IsO_sR, IsO_wI, IsO_wL, IsA_sI, IsA_sL, IsA_sR, IsA_wI, IsA_wL, mR_sI, mR_sL, mR_wI, mR_wL]; assumption) (c_waysFrom w d _ (hS0.wL (k := k) (g := g)) (t := 0) (sm := i - 3000) (by omega) (by omega) (by intro h; have := hN h; show 0 * (mI μ s 3 + 1) + mI μ s 3 < N; omega) ⟨by omega, by omega, hB⟩) sv2 rfl (by omega) (Nat.le_of_ble_eq_true rfl) (Nat.le_refl _) (Nat.le_refl _) (fun v μ2 hR => ?_)
      obtain ⟨rfl, hm⟩ := hR
      replace hm := hm.symm
      subst hm
      rw [wyF_wL hck]
      refine g_last dX7_copyRow_20 (by simp only [IsO_sI, IsO_sL, IsO_sR, IsO_wI, IsO_wL, IsA_sI, IsA_sL, IsA_sR, IsA_wI, IsA_wL, mR_sI, mR_sL, mR_wI, mR_wL]; assumption) (by omega) (by omega) ?_
      refine g_iinc (i := 2) dX7_copyRow_21 rfl (by decide) rfl ls2 ?_
      refine g_goto (tgt := 2) (by decide) dX7_copyRow_24 ?_
      rw [sL_wL]
      refine ih (i + 1) _ (by omega) (by omega) fun j => ?_
      by_cases hj : j = i
      · rw [if_pos hj, if_pos (by omega), hj]
      · rw [if_neg hj, hg]
        congr 1
        exact propext ⟨fun q => ⟨q.1, by omega⟩, fun q => ⟨q.1, by omega⟩⟩
theorem c_copyRow (w : WC) (d : Nat) (μ : Mem) {s c N k : Nat} (hS : SeS w μ s c N) (hk : IsA w μ k 15 6001) (hck : ¬ c = k) (hN : 0 ≤ mI μ s 3 → mI μ s 3 < N) (hB : -1000000 ≤ mI μ (s + 1) 0 ∧ mI μ (s + 1) 0 ≤ 1000000 ∧ -1000000 ≤ mI μ s 3 ∧ mI μ s 3 ≤ 1000000) : Con w (d + 1) mX7_copyRow 0 0 [vP (some s), vP (some k)] μ (fun v μ2 => v = none ∧ μ2 = wL μ k (fun j => if 0 ≤ j ∧ j < 6001 then wyF μ s c 0 (j - 3000) else mL μ k j)) := by
  refine Con.of (by decide) (Nat.le_of_ble_eq_true rfl) rfl ?_
  refine g_iconst dX7_copyRow_0 ?_
  refine g_istore_n (j := 2) dX7_copyRow_1 (by decide) rfl ls2 ?_
  rw [← wL_eta μ k]
  refine G.post ?_ (l_copyRow w d μ hS hk hck hN hB 6001 0 (mL μ k) (by omega) (by omega) fun j => by rw [if_neg (by omega)])
  rw [wL_eta μ k]
  exact fun _ _ h => h
