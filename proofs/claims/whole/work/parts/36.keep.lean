/-! WAYS OF LIKE TERMS, PURE -/
/-- k of the x from l on, m of them, any of them any number of times: what f has of the rest -/
def hk (v : Int → Int) : Nat → Int → Nat → (Int → Int) → Int → Int
  | _, _, 0, f => f
  | 0, _, _ + 1, _ => fun _ => 0
  | m + 1, l, k + 1, f => fun n => hk v (m + 1) l k f (n - v l) + hk v m (l + 1) (k + 1) f n
termination_by m _ k _ => m + k
def uwF : List Tm → List Tm → (Int → Int) → Int → Int
  | _, [], f => f
  | pre, u :: us, f => uwF (u :: pre) us (if u ∈ pre then f else hk (tV u) (tH u - tL u + 1).toNat (tL u) (us.count u + 1) f)
/-- unlike ways of n -/
def uw (ts : List Tm) (n : Int) : Int := uwF [] ts (fun n => if n = 0 then 1 else 0) n
/-! SERIES AND TALLY, WITH THEIR INVARIANTS -/
theorem wyF_wy {w : WC} {μ : Mem} {s c N : Nat} {ts : List Tm} (hS : SeW w μ s c N ts) (hok : ∀ u ∈ ts, TOk u) {t sm : Int} (ht : 0 ≤ t ∧ t ≤ ts.length) (hsm : sm ≤ 3000 - lfT ts + lfT (ts.drop t.toNat)) : wyF μ s c t sm = wy (ts.drop t.toNat) sm := by
  obtain ⟨-, h1, h2, h3⟩ := hS
  have hok2 : ∀ u ∈ ts.drop t.toNat, TOk u := fun u hu => hok u (List.mem_of_mem_drop hu)
  unfold wyF
  rw [h1, h2 t ht.1 ht.2]
  by_cases hb : sm - lfT (ts.drop t.toNat) < 0 ∨ 3000 - lfT ts < sm - lfT (ts.drop t.toNat)
  · rw [bI_1 hb, if_pos rfl, wy_lo _ _ hok2 (by omega)]
  · rw [bI_0 hb, if_neg (by decide)]
    rw [(h3 (by omega)).2 t (sm - lfT (ts.drop t.toNat)) ht.1 ht.2 (by omega) (by omega)]
    congr 1
    omega
theorem c_waysFromT (w : WC) (d : Nat) (μ : Mem) {s c N : Nat} {ts : List Tm} (hS : SeW w μ s c N ts) (hok : ∀ u ∈ ts, TOk u) (h5 : ts.length ≤ 5) {t sm : Int} (ht : 0 ≤ t ∧ t ≤ ts.length) (hsm : sm ≤ 3000 - lfT ts + lfT (ts.drop t.toNat)) (hb : -1000000 ≤ sm ∧ sm ≤ 1000000) (hT : 0 ≤ 3000 - lfT ts) : Con w d mX7_waysFrom 0 0 [vP (some s), vI t, vI sm] μ (fun v μ2 => v = some (vJ (wy (ts.drop t.toNat) sm)) ∧ μ2 = μ) := by
  have hS0 := hS
  obtain ⟨g0, h1, h2, h3⟩ := hS
  have hl := lfT_bd ts hok
  have hld := lfT_bd (ts.drop t.toNat) (fun u hu => hok u (List.mem_of_mem_drop hu))
  have hlen : (ts.drop t.toNat).length ≤ 5 := by rw [List.length_drop]; omega
  rw [← wyF_wy hS0 hok ht hsm]
  have h4 := (h3 hT).1
  refine c_waysFrom w d μ g0 ⟨ht.1, by omega⟩ (by rw [h1]; exact row_nn hT ht.1) (fun _ => ?_) (by rw [h1, h2 t ht.1 ht.2]; omega)
  rw [h1]
  have := row_ge (T := 3000 - lfT ts) (t := t) (j := ts.length + 1) hT (by omega)
  omega
def RowW (μ : Mem) (a : Nat) (ts : List Tm) : Prop := ∀ n, -3000 ≤ n → n ≤ 3000 → mL μ a (n + 3000) = wy ts n
def RowU (μ : Mem) (a : Nat) (ts : List Tm) : Prop := ∀ n, -3000 ≤ n → n ≤ 3000 → mL μ a (n + 3000) = uw ts n
/-- behind keepWays: the row a, all of it anew -/
def KeepR (μ : Mem) (t a : Nat) (k : Int) (g : Int → Int) (μ2 : Mem) : Prop := (mR μ t k = some a ∧ μ2 = sI (wL μ a g) t (k + 2) 1) ∨ (mR μ t k = none ∧ a = mZ μ ∧ μ2 = sI (wL (sR (sN μ 15 6001) t k (some a)) a g) t (k + 2) 1)

theorem c_keepWays (w : WC) (d : Nat) (μ : Mem) {t s c N : Nat} {ts : List Tm} (ot : IsO w μ t 9) (hS : SeW w μ s c N ts) (hok : ∀ u ∈ ts, TOk u) (h5 : ts.length ≤ 5) (hts : ¬ t = s) (hr : ∀ a, mR μ t 0 = some a → IsA w μ a 15 6001 ∧ ¬ a = c) : Con w (d + 2) mX9_keepWays 1 6001 [vP (some t), vP (some s)] μ (fun v μ2 => ∃ a g, v = some (vP (some a)) ∧ (∀ n, -3000 ≤ n → n ≤ 3000 → g (n + 3000) = wy ts n) ∧ KeepR μ t a 0 g μ2) := by
  have hl := lfT_bd ts hok
  have e1 := hS.2.1
  have e2 := hS.2.2.1 0 (by omega) (by omega)
  rw [show ts.drop (0 : Int).toNat = ts from rfl] at e2
  have hN : 0 ≤ 3000 - lfT ts → 3000 - lfT ts < N := fun z => by
    have := (hS.2.2.2 z).1
    have g := row_ge (T := 3000 - lfT ts) (t := 0) (j := ts.length + 1) z (by omega)
    omega
  have hw : ∀ n, -3000 ≤ n → n ≤ 3000 → wyF μ s c 0 n = wy ts n := fun n z1 z2 => wyF_wy hS hok (t := 0) (by omega) (by rw [show ts.drop (0 : Int).toNat = ts from rfl]; omega)
  obtain ⟨os, rs0, rs1, as1, as2⟩ := hS.1
  cases hrt : mR μ t 0 with
  | some a =>
    obtain ⟨aa, hac⟩ := hr a hrt
    refine Con.of (by decide) (Nat.le_of_ble_eq_true rfl) rfl ?_
    refine g_aload_n (j := 0) rfl dX9_keepWays_0 ?_
    refine g_getR dX9_keepWays_1 flX9_18 rfl (by assumption) (kz := 0) rfl (by assumption) ?_
    refine g_ifnonnull (tgt := 16) (by decide) dX9_keepWays_4 ?_
    refine g_aload_n (j := 1) rfl dX9_keepWays_16 ?_
    refine g_aload_n (j := 0) rfl dX9_keepWays_17 ?_
    refine g_getR dX9_keepWays_18 flX9_18 rfl (by assumption) (kz := 0) rfl (by assumption) ?_
    refine g_callV dX9_keepWays_21 mlX9_22 mvX7_copyRow (ci := 7) ⟨by decide, rfl⟩ (by assumption) (c_copyRow w d μ hS.1 aa (fun z => hac z.symm) (by rw [e1]; exact hN) (by rw [e1, e2]; omega)) sv1 rfl (by omega) (Nat.le_of_ble_eq_true rfl) (bc1 := 0) (bs1 := 0) (Nat.zero_le _) (Nat.zero_le _) (fun v μ2 hR => ?_)
    obtain ⟨rfl, rfl⟩ := hR
    refine g_aload_n (j := 0) rfl dX9_keepWays_24 ?_
    refine g_iconst dX9_keepWays_25 ?_
    refine g_putI dX9_keepWays_26 fpX9_9 rfl (nar_bool (by omega)) rfl (by simp only [IsO_sI, IsO_sL, IsO_sR, IsO_wI, IsO_wL, IsA_sI, IsA_sL, IsA_sR, IsA_wI, IsA_wL, mR_sI, mR_sL, mR_wI, mR_wL]; assumption) (kz := 2) rfl ?_
    refine g_aload_n (j := 0) rfl dX9_keepWays_29 ?_
    refine g_getR dX9_keepWays_30 flX9_18 rfl (by simp only [IsO_sI, IsO_sL, IsO_sR, IsO_wI, IsO_wL, IsA_sI, IsA_sL, IsA_sR, IsA_wI, IsA_wL, mR_sI, mR_sL, mR_wI, mR_wL]; assumption) (kz := 0) rfl (by simp only [IsO_sI, IsO_sL, IsO_sR, IsO_wI, IsO_wL, IsA_sI, IsA_sL, IsA_sR, IsA_wI, IsA_wL, mR_sI, mR_sL, mR_wI, mR_wL]; assumption) ?_
    refine G.retP dX9_keepWays_33 rfl (Or.inr ⟨_, rfl⟩) ⟨a, _, rfl, fun n z1 z2 => ?_, Or.inl ⟨hrt, rfl⟩⟩
    show (if _ then _ else _) = _
    rw [if_pos (by omega), show n + 3000 - 3000 = n by omega]
    exact hw n z1 z2
  | none =>
    refine Con.of (by decide) (Nat.le_of_ble_eq_true rfl) rfl ?_
    refine g_aload_n (j := 0) rfl dX9_keepWays_0 ?_
    refine g_getR dX9_keepWays_1 flX9_18 rfl (by assumption) (kz := 0) rfl (by assumption) ?_
    refine g_ifnonnullN dX9_keepWays_4 ?_
    refine g_aload_n (j := 0) rfl dX9_keepWays_7 ?_
    refine g_sipush dX9_keepWays_8 (by omega) ?_
    refine g_newa (t := 15) (n := 6001) (bc1 := 0) (bs1 := 0) dX9_keepWays_11 ac_long ⟨by decide, by decide, rfl⟩ rfl (by omega) (by omega) (by omega) ?_
    have hz := Fr.sN (P := fun _ => False) (K := fun _ _ => False) (μ := μ) (t := 15) (n := 6001)
    have ot1 := hz.O ot
    refine g_putR dX9_keepWays_13 fpX9_18 rfl rfl rfl (by assumption) (kz := 0) rfl ?_
    have hanew := IsA_new (w := w) (μ := μ) (t := 15) (n := 6001) (by have := ot.1; have := ot.2.1; omega) (by omega)
    have hfr : Fr (fun _ => False) (fun q j => q = t ∧ j = 0) μ (sR (sN μ 15 6001) t 0 (some (mZ μ))) := Fr.sN.tr (Fr.sR ⟨rfl, rfl⟩)
    have ot2 := hfr.O ot
    have aN : IsA w (sR (sN μ 15 6001) t 0 (some (mZ μ))) (mZ μ) 15 6001 := by rw [IsA_sR]; exact hanew
    have rN : mR (sR (sN μ 15 6001) t 0 (some (mZ μ))) t 0 = some (mZ μ) := by rw [mR_sR, if_pos ⟨rfl, rfl⟩]
    have hS1 : SeS w (sR (sN μ 15 6001) t 0 (some (mZ μ))) s c N := hfr.Se (fun j z => hts z.1.symm) hS.1
    have e1' : mI (sR (sN μ 15 6001) t 0 (some (mZ μ))) s 3 = 3000 - lfT ts := (hfr.I os.2.1 (fun z => z) 3).trans e1
    have e2' : mI (sR (sN μ 15 6001) t 0 (some (mZ μ))) (s + 1) 0 = lfT ts := (hfr.I as1.2.1 (fun z => z) 0).trans e2
    have hw' : ∀ n, wyF (sR (sN μ 15 6001) t 0 (some (mZ μ))) s c 0 n = wyF μ s c 0 n := fun n => by
      unfold wyF
      rw [hfr.I os.2.1 (fun z => z), hfr.I as1.2.1 (fun z => z), hfr.L as2.2.1 (fun z => z)]
    have hcz : ¬ c = mZ μ := by have := as2.2.1; omega
    have os2 := hfr.O os
    generalize hm1 : sR (sN μ 15 6001) t 0 (some (mZ μ)) = μ1 at *
    refine g_aload_n (j := 1) rfl dX9_keepWays_16 ?_
    refine g_aload_n (j := 0) rfl dX9_keepWays_17 ?_
    refine g_getR dX9_keepWays_18 flX9_18 rfl (by assumption) (kz := 0) rfl (by assumption) ?_
    refine g_callV dX9_keepWays_21 mlX9_22 mvX7_copyRow (ci := 7) ⟨by decide, rfl⟩ (by assumption) (c_copyRow w d μ1 hS1 aN hcz (by rw [e1']; exact hN) (by rw [e1', e2']; omega)) sv1 rfl (by omega) (Nat.le_of_ble_eq_true rfl) (bc1 := 0) (bs1 := 0) (Nat.zero_le _) (Nat.zero_le _) (fun v μ2 hR => ?_)
    obtain ⟨rfl, rfl⟩ := hR
    refine g_aload_n (j := 0) rfl dX9_keepWays_24 ?_
    refine g_iconst dX9_keepWays_25 ?_
    refine g_putI dX9_keepWays_26 fpX9_9 rfl (nar_bool (by omega)) rfl (by simp only [IsO_sI, IsO_sL, IsO_sR, IsO_wI, IsO_wL, IsA_sI, IsA_sL, IsA_sR, IsA_wI, IsA_wL, mR_sI, mR_sL, mR_wI, mR_wL]; assumption) (kz := 2) rfl ?_
    refine g_aload_n (j := 0) rfl dX9_keepWays_29 ?_
    refine g_getR dX9_keepWays_30 flX9_18 rfl (by simp only [IsO_sI, IsO_sL, IsO_sR, IsO_wI, IsO_wL, IsA_sI, IsA_sL, IsA_sR, IsA_wI, IsA_wL, mR_sI, mR_sL, mR_wI, mR_wL]; assumption) (kz := 0) rfl (by simp only [IsO_sI, IsO_sL, IsO_sR, IsO_wI, IsO_wL, IsA_sI, IsA_sL, IsA_sR, IsA_wI, IsA_wL, mR_sI, mR_sL, mR_wI, mR_wL]; assumption) ?_
    refine G.retP dX9_keepWays_33 rfl (Or.inr ⟨_, rfl⟩) ⟨mZ μ, _, rfl, fun n z1 z2 => ?_, Or.inr ⟨hrt, rfl, by rw [hm1]; rfl⟩⟩
    show (if _ then _ else _) = _
    rw [if_pos (by omega), show n + 3000 - 3000 = n by omega, hw']
    exact hw n z1 z2
