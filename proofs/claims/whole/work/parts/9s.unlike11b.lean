/-! THE CLASS: unlike, many -/
/-- the Series behind countUnlike -/
def SeU (w : WC) (μ : Mem) (s c N : Nat) (ts : List Tm) : Prop := SeS w μ s c N ∧ mI μ s 3 = 3000 - lfT ts ∧ (∀ t : Int, 0 ≤ t → t ≤ ts.length → mI μ (s + 1) t = lfT (ts.drop t.toNat)) ∧ (0 ≤ 3000 - lfT ts → cwE ts ≤ (N : Int) ∧ ∀ p, 0 ≤ p → p ≤ 3000 - lfT ts → mL μ c p = uw ts (p + lfT ts))
def CuR (w : WC) (μ : Mem) (s c N : Nat) (ts : List Tm) (μ2 : Mem) : Prop := ∃ (c2 N2 : Nat), SeU w μ2 s c2 N2 ts ∧ mI μ2 s 2 = -1 ∧ Row2 μ μ2 c N (cwE ts) c2 N2 ∧ N2 ≤ 200000 ∧ Ch (fun x => x = s ∨ x = s + 1 ∨ x = c) μ μ2
theorem c_countUnlike (w : WC) (d : Nat) (μ : Mem) {s c N q : Nat} {ts : List Tm} (hS : SeS w μ s c N) (hF : FoS w μ q) (hI : FI μ q ts) (hsq : s + 2 ≤ q ∨ q + 7 ≤ s) (hcq : ∀ x, q ≤ x → x < q + 7 → ¬ x = c) (hcs : ¬ c = s ∧ ¬ c = s + 1) (hN : N ≤ 200000) : Con w (d + 5) mX7_countUnlike 1 (cwB N ts) [vP (some s), vP (some q)] μ (fun v μ2 => v = none ∧ CuR w μ s c N ts μ2) := by
  have hS0 := hS
  have hok := hI.2.2.1
  have h5 := hI.2.1
  have hlf := lfT_bd ts hok
  have hE := cwE_bd hok h5
  have hEe : cwE ts = ((ts.length : Int) + 1) * (3000 - lfT ts + 1) := rfl
  unfold CuR cwB SeU
  generalize hTT : 3000 - lfT ts = T at *
  obtain ⟨o0, r0, r1, a1, a2⟩ := hS
  refine Con.of (by decide) (Nat.le_of_ble_eq_true rfl) rfl ?_
  refine g_aload_n (j := 0) rfl dX7_countUnlike_0 ?_
  refine g_iconst dX7_countUnlike_1 ?_
  refine g_putI dX7_countUnlike_2 fpX7_19 rfl rfl rfl (by assumption) (kz := 2) rfl ?_
  refine g_aload_n (j := 0) rfl dX7_countUnlike_5 ?_
  refine g_aload_n (j := 1) rfl dX7_countUnlike_6 ?_
  refine g_callV dX7_countUnlike_7 mlX7_26 mvX7_measure (ci := 7) ⟨by decide, rfl⟩ (by simp only [IsO_sI, IsO_sL, IsO_sR, IsO_wI, IsO_wL, IsA_sI, IsA_sL, IsA_sR, IsA_wI, IsA_wL, mR_sI, mR_sL, mR_wI, mR_wL]; assumption) (c_measure w (d + 4) (sI μ s 2 (-1)) (by rw [IsO_sI]; exact o0) (by rw [mR_sI]; exact r0) (by rw [IsA_sI]; exact a1) hF.sI (ts := ts) ((ChI.s (P := fun x => x = s) rfl).FI (fun x _ _ => by omega) hI) hsq) sv1 rfl (by omega) (Nat.le_of_ble_eq_true rfl) (Nat.le_refl _) (Nat.le_refl _) (fun v μ2 hR => ?_)
  obtain ⟨rfl, hm⟩ := hR
  have hch : ChI (fun x => x = s ∨ x = s + 1 ∨ x = c) μ μ2 := by
    refine ⟨by rw [hm]; rfl, by rw [hm]; rfl, by rw [hm]; rfl, by rw [hm]; rfl, fun x hx j => ?_⟩
    rw [hm, mI_sI, if_neg (fun (z : x = s ∧ j = 3) => hx (Or.inl z.1)), mI_wI, if_neg (fun (z : x = s + 1) => hx (Or.inr (Or.inl z))), mI_sI, if_neg (fun (z : x = s ∧ j = 2) => hx (Or.inl z.1))]
  have hSb : SeS w μ2 s c N := by rw [hm]; exact hS0
  have hTb : mI μ2 s 3 = 3000 - lfT ts := by rw [hm, mI_sI, if_pos ⟨rfl, rfl⟩]
  have hsb : mI μ2 s 2 = (-1) := by
    rw [hm, mI_sI, if_neg (by omega), mI_wI, if_neg (by omega), mI_sI, if_pos ⟨rfl, rfl⟩]
  have hlb : ∀ t : Int, 0 ≤ t → t ≤ ts.length → mI μ2 (s + 1) t = lfT (ts.drop t.toNat) := fun t z1 z2 => by
    rw [hm, mI_sI, if_neg (by omega), mI_wI, if_pos rfl]
    exact if_pos ⟨z1, z2⟩
  clear hm
  have hFb : FoS w μ2 q := hch.Fo hF
  have hIb : FI μ2 q ts := hch.FI (fun x z1 z2 z3 => by have := hcq x z1 z2; omega) hI
  have hcb := hIb.1
  obtain ⟨ob0, rb0, rb1, ab1, ab2⟩ := id hSb
  have pb0 := hFb.1
  rw [hTT] at hTb
  refine g_aload_n (j := 0) rfl dX7_countUnlike_10 ?_
  refine g_aload_n (j := 1) rfl dX7_countUnlike_11 ?_
  refine g_getI dX7_countUnlike_12 flX7_30 rfl (by assumption) (kz := 0) rfl ?_
  rw [hcb]
  refine g_iconst dX7_countUnlike_15 ?_
  refine g_iadd dX7_countUnlike_16 ?_
  refine g_callV dX7_countUnlike_17 mlX7_35 mvX7_makeRows (ci := 7) ⟨by decide, rfl⟩ (by assumption) (c_makeRows2 w (d + 3) μ2 hSb (r := ts.length + 1) (e := cwE ts) (T := T) hTb (by omega) hEe.symm (fun z => by have := hE z; omega) hN) sv1 rfl (by omega) (Nat.le_of_ble_eq_true rfl) (bc1 := 0) (bs1 := 0) (Nat.le_of_eq (Nat.zero_add _)) (Nat.le_of_eq (Nat.zero_add _)) (fun v μ3 hR => ?_)
  obtain ⟨b, c2, N2, rfl, hb, hS3, hrow, hch3, hi3⟩ := hR
  have hzz : mZ μ2 = mZ μ := hch.2.2.2.1
  obtain ⟨o30, r30, r31, a31, a32⟩ := id hS3
  have hT3 : mI μ3 s 3 = T := (hi3 s ob0.2.1 3).trans hTb
  have hs3 : mI μ3 s 2 = (-1) := (hi3 s ob0.2.1 2).trans hsb
  have hl3 : ∀ t : Int, 0 ≤ t → t ≤ ts.length → mI μ3 (s + 1) t = lfT (ts.drop t.toNat) := fun t z1 z2 => (hi3 (s + 1) ab1.2.1 t).trans (hlb t z1 z2)
  have hF3 : FoS w μ3 q := hch3.Fo (by omega) hFb
  have hI3 : FI μ3 q ts := hch3.FI hFb (fun x z1 z2 => by omega) hIb
  have hc3 := hI3.1
  have p30 := hF3.1
  have hrow2 : Row2 μ μ3 c N (cwE ts) c2 N2 := by unfold Row2 at hrow ⊢; rw [hzz] at hrow; exact hrow
  have hN2 : N2 ≤ 200000 := by
    rcases hb with ⟨-, -, z⟩ | ⟨-, z2, -⟩
    · omega
    · have := hE z2
      rcases hrow2 with ⟨-, z, -⟩ | ⟨z0, -, z, -⟩
      · omega
      · rw [z, mkN]
        omega
  have hchA : Ch (fun x => x = s ∨ x = s + 1 ∨ x = c) μ μ3 := (Ch.I hch).tr (hch3.mono fun x _ z => Or.inl z)
  have hb1 : b = 0 ∨ b = 1 := by omega
  refine g_if_ne (tgt := 24) dX7_countUnlike_20 (by decide) (by omega) (fun h20 => ?_) (fun h20 => ?_)
  · have hT0 : 0 ≤ T := by omega
    have hE2 := hE hT0
    have hmul : ((ts.length : Int) + 1) * (T + 1) = ts.length * (T + 1) + (T + 1) := by rw [Int.add_mul, Int.one_mul]
    have hf0 : 0 ≤ (ts.length : Int) * (T + 1) := row_nn hT0 (by omega)
    refine g_iconst dX7_countUnlike_24 ?_
    refine g_istore_n (j := 2) dX7_countUnlike_25 (by decide) rfl ls2 ?_
    refine g_aload_n (j := 0) rfl dX7_countUnlike_26 ?_
    refine g_iconst dX7_countUnlike_27 ?_
    refine g_callV dX7_countUnlike_28 mlX7_39 mvX7_clear (ci := 7) ⟨by decide, rfl⟩ (by assumption) (c_clearT w (d + 4) μ3 hS3 (t := 0) (f := 0) (T := T) hT3 (by omega) (by omega) hT0 (by omega) (by omega)) sv1 rfl (by omega) (Nat.le_of_ble_eq_true rfl) (Nat.le_refl _) (Nat.le_refl _) (fun v μ4 hR => ?_)
    obtain ⟨rfl, rfl⟩ := hR
    refine g_aload_n (j := 0) rfl dX7_countUnlike_31 ?_
    refine g_getR dX7_countUnlike_32 flX7_15 rfl (by simp only [IsO_sI, IsO_sL, IsO_sR, IsO_wI, IsO_wL, IsA_sI, IsA_sL, IsA_sR, IsA_wI, IsA_wL, mR_sI, mR_sL, mR_wI, mR_wL]; assumption) (kz := 1) rfl (by simp only [IsO_sI, IsO_sL, IsO_sR, IsO_wI, IsO_wL, IsA_sI, IsA_sL, IsA_sR, IsA_wI, IsA_wL, mR_sI, mR_sL, mR_wI, mR_wL]; assumption) ?_
    refine g_iconst dX7_countUnlike_35 ?_
    refine g_lconst1 dX7_countUnlike_36 ?_
    refine g_last dX7_countUnlike_37 (by simp only [IsO_sI, IsO_sL, IsO_sR, IsO_wI, IsO_wL, IsA_sI, IsA_sL, IsA_sR, IsA_wI, IsA_wL, mR_sI, mR_sL, mR_wI, mR_wL]; assumption) (by omega) (by omega) ?_
    refine g_iconst dX7_countUnlike_38 ?_
    refine g_istore_n (j := 3) dX7_countUnlike_39 (by decide) rfl ls3 ?_
    rw [sL_wL]
    have h0 : (0 : Int) = min T 0 := by omega
    have := l_u40 (d := d + 1) hS3 hF3 hI3 hT3 ⟨hT0, by omega⟩ (by omega) ts.length 0 [] dlt 0 0 (fun j => if j = 0 then 1 else if 0 ≤ j ∧ j ≤ 0 + T then 0 else mL μ3 c2 j) none (Nat.zero_add _) ⟨fun u => ⟨fun z => absurd z List.not_mem_nil, fun z => by simp at z⟩, fun n => rfl, by rw [List.drop_zero, lfR_X, lfX_0]; omega, fun n z => if_neg (by omega), fun n z => if_neg (by omega), by omega, fun p z0 z1 => ?_⟩
    · rw [← h0] at this
      refine G.less (Nat.zero_le _) (Nat.zero_le _) (G.post (fun v μ5 hq => ?_) this)
      obtain ⟨rfl, g2, rfl, hg2⟩ := hq
      exact ⟨rfl, c2, N2, ⟨hS3, hT3, hl3, fun _ => ⟨by omega, fun p z0 z1 => by rw [mL_wL_self]; exact hg2 p z0 z1⟩⟩, hs3, hrow2, hN2, hchA.tr2 (Ch.wL' (P := fun x => x = c2) rfl) (fun x hx z => by rcases hrow2 with ⟨z1, -, -⟩ | ⟨-, z1, -, -⟩ <;> omega)⟩
    · show (if p = 0 then 1 else if 0 ≤ p ∧ p ≤ 0 + T then 0 else mL μ3 c2 p) = dlt (p + 0)
      rw [Int.add_zero]
      unfold dlt
      by_cases z : p = 0
      · rw [if_pos z, if_pos z]
      · rw [if_neg z, if_neg z, if_pos (by omega)]
  · exact G.retV dX7_countUnlike_23 rfl ⟨rfl, c2, N2, ⟨hS3, hT3, hl3, fun z => by omega⟩, hs3, hrow2, hN2, hchA⟩
section CUT
variable {w : WC} {μ μ2 : Mem} {x c N : Nat} {F : Int → List Tm} {P : Nat → Prop} {K : Nat → Int → Prop}
theorem CA.cu (h : CA w μ x F c N) {s : Int} (hs : 0 ≤ s ∧ s ≤ 3) (hR : CuR w μ (x + 59) c N (F s) μ2) : ∃ c2, CA w μ2 x F c2 (nxN N (F s)) ∧ SeU w μ2 (x + 59) c2 (nxN N (F s)) (F s) ∧ Fr (Sc x) (Ks x) μ μ2 := by
  have hok := h.ok hs
  have h5 := h.l5 hs
  obtain ⟨hT, hF, ⟨s1, s2, s3, s4, s5⟩, ⟨d1, d2⟩, hKn⟩ := h
  have hz := hT.2.2.2.2
  obtain ⟨c2, N2, hW, ho, hrow, hN2, hch⟩ := hR
  have hfr1 : Fr (fun a => a = x + 59 ∨ a = x + 59 + 1 ∨ a = c) (fun a _ => a = x + 59 ∨ a = x + 59 + 1 ∨ a = c) μ μ2 := Fr.of hch (fun _ _ z _ => z)
  have hfr : Fr (Sc x) (Ks x) μ μ2 := hfr1.mono (fun a _ z => by unfold Sc; omega) (fun a _ j z => by unfold Ks Sc; omega)
  have hE := cwE_bd hok h5
  have hNe : N2 = nxN N (F s) := by
    unfold nxN
    by_cases hT0 : 0 ≤ 3000 - lfT (F s)
    · have hg : cwE (F s) ≤ N2 := (hW.2.2.2 hT0).1
      by_cases hlt : (N : Int) < cwE (F s)
      · rw [if_pos ⟨hT0, hlt⟩]
        rcases hrow with ⟨-, z, -⟩ | ⟨-, -, z, -⟩
        · omega
        · exact z
      · rw [if_neg (fun z => hlt z.2)]
        rcases hrow with ⟨-, z, -⟩ | ⟨z, -⟩
        · exact z
        · omega
    · rw [if_neg (fun z => hT0 z.1)]
      have := cwE_neg (ts := F s) (by omega)
      rcases hrow with ⟨-, z, -⟩ | ⟨z, -⟩
      · exact z
      · omega
  have hN6 : N2 ≤ 108006 := by
    rcases hrow with ⟨-, z, -⟩ | ⟨z0, -, z, -⟩
    · omega
    · by_cases hT0 : 0 ≤ 3000 - lfT (F s)
      · have := hE hT0
        rw [z]
        unfold mkN
        omega
      · have := cwE_neg (ts := F s) (by omega)
        omega
  have hge := nxN_ge N (F s)
  have hD : ∀ j, DR μ2 x j = DR μ x j := fun j => hfr1.R (dr_lt hT j) fun z => by omega
  rw [← hNe] at hge ⊢
  refine ⟨c2, ⟨hT.fr hfr (fun a j _ z => Or.inl (Ks_Kc z)), fun t ht => ?_, ⟨hW.1, hN6, ?_, by omega, fun z => by omega⟩, ⟨fun j hj a ha => ?_, fun j k a hj hk ha hb => ?_⟩, fun t ht => ?_⟩, hW, hfr⟩
  · have := fA_bd x ht
    exact hfr.FI (hT.fs ht) (fun a z1 z2 z => by unfold Sc at z; omega) (hF t ht)
  · rcases hrow with ⟨z, -, -⟩ | ⟨-, z, -, -⟩ <;> omega
  · rw [hD] at ha
    obtain ⟨q1, q2, q3⟩ := d1 j hj a ha
    refine ⟨hfr.A q1, q2, fun z => ?_⟩
    have := q1.2.1
    rcases hrow with ⟨z1, -, -⟩ | ⟨-, z1, -, -⟩ <;> omega
  · rw [hD] at ha hb
    exact d2 j k a hj hk ha hb
  · have hb := fA_bd x ht
    have e2 := hfr.I (x := tA x t) (by omega) (fun z => by unfold Sc at z; omega)
    have er0 : mR μ2 (tA x t) 0 = mR μ (tA x t) 0 := by rw [DR_w _ _ ht, DR_w _ _ ht, hD]
    have er1 : mR μ2 (tA x t) 1 = mR μ (tA x t) 1 := by rw [DR_u _ _ ht, DR_u _ _ ht, hD]
    obtain ⟨⟨k1, k2⟩, k3, k4⟩ := hKn t ht
    refine ⟨⟨by rw [e2]; exact k1, ?_⟩, by rw [e2]; exact k3, ?_⟩
    · rw [e2, er0]
      intro z
      obtain ⟨q1, a, q2, q3⟩ := k2 z
      have qa := d1 t.toNat (by omega) a (by rw [← DR_w _ _ ht]; exact q2)
      exact ⟨fun q => by have := q1 q; omega, a, q2, fun n z1 z2 => by rw [hfr1.L qa.1.2.1 (by omega)]; exact q3 n z1 z2⟩
    · rw [e2, er1]
      intro z
      obtain ⟨q1, a, q2, q3⟩ := k4 z
      have qa := d1 (4 + t.toNat) (by omega) a (by rw [← DR_u _ _ ht]; exact q2)
      exact ⟨fun q => by have := q1 q; omega, a, q2, fun n z1 z2 => by rw [hfr1.L qa.1.2.1 (by omega)]; exact q3 n z1 z2⟩
end CUT
theorem c_seriesU (w : WC) (d : Nat) (μ : Mem) {x c N : Nat} {F : Int → List Tm} (h : CA w μ x F c N) {s : Int} (hs : 0 ≤ s ∧ s ≤ 3) : Con w (d + 5) mX7_countUnlike 1 (cwB N (F s)) [vP (some (x + 59)), vP (some (fA x s))] μ (fun v μ2 => v = none ∧ ∃ c2, CA w μ2 x F c2 (nxN N (F s)) ∧ SeU w μ2 (x + 59) c2 (nxN N (F s)) (F s) ∧ Fr (Sc x) (Ks x) μ μ2) := by
  have hb := fA_bd x hs
  have hc := h.2.2.1.2.2.1
  refine (c_countUnlike w d μ h.2.2.1.1 (h.tps.fs hs) (h.fm hs) (by omega) (fun a z1 z2 => by omega) (by omega) (by have := h.2.2.1.2.1; omega)).post fun v μ2 hR => ?_
  exact ⟨hR.1, h.cu hs hR.2⟩
theorem wyF_uw {w : WC} {μ : Mem} {s c N : Nat} {ts : List Tm} (hS : SeU w μ s c N ts) (hok : ∀ u ∈ ts, TOk u) {n : Int} (hn : n ≤ 3000) : wyF μ s c 0 n = uw ts n := by
  obtain ⟨-, h1, h2, h3⟩ := hS
  have e2 := h2 0 (by omega) (by omega)
  rw [show ts.drop (0 : Int).toNat = ts from rfl] at e2
  unfold wyF
  rw [h1, e2]
  by_cases hb : n - lfT ts < 0 ∨ 3000 - lfT ts < n - lfT ts
  · rw [bI_1 hb, if_pos rfl, uw_lo hok (by omega)]
  · rw [bI_0 hb, if_neg (by decide), Int.zero_mul, Int.zero_add, (h3 (by omega)).2 _ (by omega) (by omega)]
    congr 1
    omega
theorem c_keepUnlike (w : WC) (d : Nat) (μ : Mem) {t s c N : Nat} {ts : List Tm} (ot : IsO w μ t 9) (hS : SeU w μ s c N ts) (hok : ∀ u ∈ ts, TOk u) (h5 : ts.length ≤ 5) (hts : ¬ t = s) (hr : ∀ a, mR μ t 1 = some a → IsA w μ a 15 6001 ∧ ¬ a = c) : Con w (d + 2) mX9_keepUnlike 1 6001 [vP (some t), vP (some s)] μ (fun v μ2 => ∃ a g, v = some (vP (some a)) ∧ (∀ n, -3000 ≤ n → n ≤ 3000 → g (n + 3000) = uw ts n) ∧ KeepR μ t a 1 g μ2) := by
  have hl := lfT_bd ts hok
  have e1 := hS.2.1
  have e2 := hS.2.2.1 0 (by omega) (by omega)
  rw [show ts.drop (0 : Int).toNat = ts from rfl] at e2
  have hN : 0 ≤ 3000 - lfT ts → 3000 - lfT ts < N := fun z => by
    have := (hS.2.2.2 z).1
    have g := row_ge (T := 3000 - lfT ts) (t := 0) (j := ts.length + 1) z (by omega)
    unfold cwE at this
    omega
  have hw : ∀ n, -3000 ≤ n → n ≤ 3000 → wyF μ s c 0 n = uw ts n := fun n z1 z2 => wyF_uw hS hok z2
  obtain ⟨os, rs0, rs1, as1, as2⟩ := hS.1
  cases hrt : mR μ t 1 with
  | some a =>
    obtain ⟨aa, hac⟩ := hr a hrt
    refine Con.of (by decide) (Nat.le_of_ble_eq_true rfl) rfl ?_
    refine g_aload_n (j := 0) rfl dX9_keepUnlike_0 ?_
    refine g_getR dX9_keepUnlike_1 flX9_28 rfl (by assumption) (kz := 1) rfl (by assumption) ?_
    refine g_ifnonnull (tgt := 16) (by decide) dX9_keepUnlike_4 ?_
    refine g_aload_n (j := 1) rfl dX9_keepUnlike_16 ?_
    refine g_aload_n (j := 0) rfl dX9_keepUnlike_17 ?_
    refine g_getR dX9_keepUnlike_18 flX9_28 rfl (by assumption) (kz := 1) rfl (by assumption) ?_
    refine g_callV dX9_keepUnlike_21 mlX9_22 mvX7_copyRow (ci := 7) ⟨by decide, rfl⟩ (by assumption) (c_copyRow w d μ hS.1 aa (fun z => hac z.symm) (by rw [e1]; exact hN) (by rw [e1, e2]; omega)) sv1 rfl (by omega) (Nat.le_of_ble_eq_true rfl) (bc1 := 0) (bs1 := 0) (Nat.zero_le _) (Nat.zero_le _) (fun v μ2 hR => ?_)
    obtain ⟨rfl, rfl⟩ := hR
    refine g_aload_n (j := 0) rfl dX9_keepUnlike_24 ?_
    refine g_iconst dX9_keepUnlike_25 ?_
    refine g_putI dX9_keepUnlike_26 fpX9_15 rfl (nar_bool (by omega)) rfl (by simp only [IsO_sI, IsO_sL, IsO_sR, IsO_wI, IsO_wL, IsA_sI, IsA_sL, IsA_sR, IsA_wI, IsA_wL, mR_sI, mR_sL, mR_wI, mR_wL]; assumption) (kz := 3) rfl ?_
    refine g_aload_n (j := 0) rfl dX9_keepUnlike_29 ?_
    refine g_getR dX9_keepUnlike_30 flX9_28 rfl (by simp only [IsO_sI, IsO_sL, IsO_sR, IsO_wI, IsO_wL, IsA_sI, IsA_sL, IsA_sR, IsA_wI, IsA_wL, mR_sI, mR_sL, mR_wI, mR_wL]; assumption) (kz := 1) rfl (by simp only [IsO_sI, IsO_sL, IsO_sR, IsO_wI, IsO_wL, IsA_sI, IsA_sL, IsA_sR, IsA_wI, IsA_wL, mR_sI, mR_sL, mR_wI, mR_wL]; assumption) ?_
    refine G.retP dX9_keepUnlike_33 rfl (Or.inr ⟨_, rfl⟩) ⟨a, _, rfl, fun n z1 z2 => ?_, Or.inl ⟨hrt, rfl⟩⟩
    show (if _ then _ else _) = _
    rw [if_pos (by omega), show n + 3000 - 3000 = n by omega]
    exact hw n z1 z2
  | none =>
    refine Con.of (by decide) (Nat.le_of_ble_eq_true rfl) rfl ?_
    refine g_aload_n (j := 0) rfl dX9_keepUnlike_0 ?_
    refine g_getR dX9_keepUnlike_1 flX9_28 rfl (by assumption) (kz := 1) rfl (by assumption) ?_
    refine g_ifnonnullN dX9_keepUnlike_4 ?_
    refine g_aload_n (j := 0) rfl dX9_keepUnlike_7 ?_
    refine g_sipush dX9_keepUnlike_8 (by omega) ?_
    refine g_newa (t := 15) (n := 6001) (bc1 := 0) (bs1 := 0) dX9_keepUnlike_11 ac_long ⟨by decide, by decide, rfl⟩ rfl (by omega) (by omega) (by omega) ?_
    have hz := Fr.sN (P := fun _ => False) (K := fun _ _ => False) (μ := μ) (t := 15) (n := 6001)
    have ot1 := hz.O ot
    refine g_putR dX9_keepUnlike_13 fpX9_28 rfl rfl rfl (by assumption) (kz := 1) rfl ?_
    have hanew := IsA_new (w := w) (μ := μ) (t := 15) (n := 6001) (by have := ot.1; have := ot.2.1; omega) (by omega)
    have hfr : Fr (fun _ => False) (fun q j => q = t ∧ j = 1) μ (sR (sN μ 15 6001) t 1 (some (mZ μ))) := Fr.sN.tr (Fr.sR ⟨rfl, rfl⟩)
    have ot2 := hfr.O ot
    have aN : IsA w (sR (sN μ 15 6001) t 1 (some (mZ μ))) (mZ μ) 15 6001 := by rw [IsA_sR]; exact hanew
    have rN : mR (sR (sN μ 15 6001) t 1 (some (mZ μ))) t 1 = some (mZ μ) := by rw [mR_sR, if_pos ⟨rfl, rfl⟩]
    have hS1 : SeS w (sR (sN μ 15 6001) t 1 (some (mZ μ))) s c N := hfr.Se (fun j z => hts z.1.symm) hS.1
    have e1' : mI (sR (sN μ 15 6001) t 1 (some (mZ μ))) s 3 = 3000 - lfT ts := (hfr.I os.2.1 (fun z => z) 3).trans e1
    have e2' : mI (sR (sN μ 15 6001) t 1 (some (mZ μ))) (s + 1) 0 = lfT ts := (hfr.I as1.2.1 (fun z => z) 0).trans e2
    have hw' : ∀ n, wyF (sR (sN μ 15 6001) t 1 (some (mZ μ))) s c 0 n = wyF μ s c 0 n := fun n => by
      unfold wyF
      rw [hfr.I os.2.1 (fun z => z), hfr.I as1.2.1 (fun z => z), hfr.L as2.2.1 (fun z => z)]
    have hcz : ¬ c = mZ μ := by have := as2.2.1; omega
    have os2 := hfr.O os
    generalize hm1 : sR (sN μ 15 6001) t 1 (some (mZ μ)) = μ1 at *
    refine g_aload_n (j := 1) rfl dX9_keepUnlike_16 ?_
    refine g_aload_n (j := 0) rfl dX9_keepUnlike_17 ?_
    refine g_getR dX9_keepUnlike_18 flX9_28 rfl (by assumption) (kz := 1) rfl (by assumption) ?_
    refine g_callV dX9_keepUnlike_21 mlX9_22 mvX7_copyRow (ci := 7) ⟨by decide, rfl⟩ (by assumption) (c_copyRow w d μ1 hS1 aN hcz (by rw [e1']; exact hN) (by rw [e1', e2']; omega)) sv1 rfl (by omega) (Nat.le_of_ble_eq_true rfl) (bc1 := 0) (bs1 := 0) (Nat.zero_le _) (Nat.zero_le _) (fun v μ2 hR => ?_)
    obtain ⟨rfl, rfl⟩ := hR
    refine g_aload_n (j := 0) rfl dX9_keepUnlike_24 ?_
    refine g_iconst dX9_keepUnlike_25 ?_
    refine g_putI dX9_keepUnlike_26 fpX9_15 rfl (nar_bool (by omega)) rfl (by simp only [IsO_sI, IsO_sL, IsO_sR, IsO_wI, IsO_wL, IsA_sI, IsA_sL, IsA_sR, IsA_wI, IsA_wL, mR_sI, mR_sL, mR_wI, mR_wL]; assumption) (kz := 3) rfl ?_
    refine g_aload_n (j := 0) rfl dX9_keepUnlike_29 ?_
    refine g_getR dX9_keepUnlike_30 flX9_28 rfl (by simp only [IsO_sI, IsO_sL, IsO_sR, IsO_wI, IsO_wL, IsA_sI, IsA_sL, IsA_sR, IsA_wI, IsA_wL, mR_sI, mR_sL, mR_wI, mR_wL]; assumption) (kz := 1) rfl (by simp only [IsO_sI, IsO_sL, IsO_sR, IsO_wI, IsO_wL, IsA_sI, IsA_sL, IsA_sR, IsA_wI, IsA_wL, mR_sI, mR_sL, mR_wI, mR_wL]; assumption) ?_
    refine G.retP dX9_keepUnlike_33 rfl (Or.inr ⟨_, rfl⟩) ⟨mZ μ, _, rfl, fun n z1 z2 => ?_, Or.inr ⟨hrt, rfl, by rw [hm1]; rfl⟩⟩
    show (if _ then _ else _) = _
    rw [if_pos (by omega), show n + 3000 - 3000 = n by omega, hw']
    exact hw n z1 z2
theorem c_unlikeCounts (w : WC) (d : Nat) (μ : Mem) {x c N : Nat} {F : Int → List Tm} (h : CA w μ x F c N) {s : Int} (hs : 0 ≤ s ∧ s ≤ 3) : Con w (d + 6) mX11_unlikeCounts 2 (6001 + cwB N (F s)) [vP (some x), vI s] μ (WcR w μ x N F s 1 RowU) := by
  have o0 := h.tps.o0
  have r2 := h.tps.r0_2
  have a8 := h.tps.a8
  have rt := h.tps.rt hs
  have ot := h.tps.ot hs
  have r7 := h.tps.r0_7
  have r1 := h.tps.r0_1
  have a7 := h.tps.a7
  have rf := h.tps.rf hs
  have o59 := h.tps.o59
  have hb := fA_bd x hs
  obtain ⟨-, k1, k2⟩ := h.2.2.2.2 s hs
  refine Con.of (by decide) (Nat.le_of_ble_eq_true rfl) rfl ?_
  rcases k1 with k1 | k1
  · refine g_aload_n (j := 0) rfl dX11_unlikeCounts_0 ?_
    refine g_getR dX11_unlikeCounts_1 flX11_24 rfl (by assumption) (kz := 2) rfl (by assumption) ?_
    refine g_iload_n (j := 1) rfl dX11_unlikeCounts_4 ?_
    refine g_aald dX11_unlikeCounts_5 (by assumption) (by omega) (by omega) (by omega) (by assumption) ?_
    refine g_astore_n (j := 2) dX11_unlikeCounts_6 (by decide) rfl ls2 ?_
    refine g_aload_n (j := 2) rfl dX11_unlikeCounts_7 ?_
    refine g_getI dX11_unlikeCounts_8 flX11_322 rfl (by assumption) (kz := 3) rfl ?_
    refine g_if_eq (tgt := 19) dX11_unlikeCounts_11 (by decide) (by omega) (fun h11 => ?_) (fun h11 => ?_)
    · refine g_aload_n (j := 0) rfl dX11_unlikeCounts_19 ?_
      refine g_getR dX11_unlikeCounts_20 flX11_60 rfl (by assumption) (kz := 7) rfl (by assumption) ?_
      refine g_aload_n (j := 0) rfl dX11_unlikeCounts_23 ?_
      refine g_getR dX11_unlikeCounts_24 flX11_18 rfl (by assumption) (kz := 1) rfl (by assumption) ?_
      refine g_iload_n (j := 1) rfl dX11_unlikeCounts_27 ?_
      refine g_aald dX11_unlikeCounts_28 (by assumption) (by omega) (by omega) (by omega) (by assumption) ?_
      refine g_callV dX11_unlikeCounts_29 mlX11_328 mvX7_countUnlike (ci := 7) ⟨by decide, rfl⟩ (by assumption) (c_seriesU w d μ h hs) sv1 rfl (by omega) (Nat.le_of_ble_eq_true rfl) (bc1 := 1) (bs1 := 6001) (Nat.le_refl _) (Nat.le_refl _) (fun v μ1 hR => ?_)
      obtain ⟨rfl, c1, h1, hW, hf1⟩ := hR
      have o0b := h1.tps.o0
      have r7b := h1.tps.r0_7
      have otb := h1.tps.ot hs
      have hN := fun z => (hW.2.2.2 z).1
      refine g_aload_n (j := 2) rfl dX11_unlikeCounts_32 ?_
      refine g_aload_n (j := 0) rfl dX11_unlikeCounts_33 ?_
      refine g_getR dX11_unlikeCounts_34 flX11_60 rfl (by assumption) (kz := 7) rfl (by assumption) ?_
      refine g_callV dX11_unlikeCounts_37 mlX11_331 mvX9_keepUnlike (ci := 9) ⟨by decide, rfl⟩ (by assumption) (c_keepUnlike w (d + 2) μ1 otb hW (h1.ok hs) (h1.l5 hs) (by omega) (fun a z => by rw [DR_u _ _ hs] at z; have := h1.2.2.2.1.1 _ (by omega) a z; exact ⟨this.1, this.2.2⟩)) sv1 rfl (by omega) (Nat.le_of_ble_eq_true rfl) (bc1 := 0) (bs1 := 0) (by omega) (by omega) (fun v μ2 hR => ?_)
      obtain ⟨a, g, rfl, hg, hR⟩ := hR
      obtain ⟨h2, hf2, g1, g2, g3, g4, g5⟩ := h1.keep hs hN (Or.inr rfl) (Or.inr ⟨rfl, hg⟩) hR
      obtain ⟨-, a2, q2, q3⟩ := (h2.2.2.2.2 s hs).2.2 g2
      cases g1.symm.trans q2
      refine G.retP dX11_unlikeCounts_40 rfl (Or.inr ⟨_, rfl⟩) ⟨a, c1, rfl, h2, g3, q3, ⟨g4, ⟨g2, g1⟩, fun z => absurd (k1.symm.trans z) (by decide), fun t ht hts => ?_⟩, (hf1.mono (fun _ _ z => Or.inl z) (fun _ _ _ z => Ks_Kc z)).tr hf2⟩
      have hbt := fA_bd x ht
      have hlt := (h.tps.ot ht).2.1
      have hlt1 := (h1.tps.ot ht).2.1
      have hne : ¬ tA x t = tA x s := by unfold tA; omega
      exact ⟨fun j => (g5.I hlt1 (by omega) j).trans (hf1.I hlt (fun z => by unfold Sc at z; omega) j), fun j => (g5.R hlt1 (by omega)).trans (hf1.R hlt (fun z => by unfold Ks Sc at z; omega))⟩
    · exact absurd k1 h11
  · obtain ⟨hN, a, ra, hw⟩ := k2 k1
    have ra2 := ra
    rw [DR_u _ _ hs] at ra2
    have hd := h.2.2.2.1.1 _ (by omega) a ra2
    refine g_aload_n (j := 0) rfl dX11_unlikeCounts_0 ?_
    refine g_getR dX11_unlikeCounts_1 flX11_24 rfl (by assumption) (kz := 2) rfl (by assumption) ?_
    refine g_iload_n (j := 1) rfl dX11_unlikeCounts_4 ?_
    refine g_aald dX11_unlikeCounts_5 (by assumption) (by omega) (by omega) (by omega) (by assumption) ?_
    refine g_astore_n (j := 2) dX11_unlikeCounts_6 (by decide) rfl ls2 ?_
    refine g_aload_n (j := 2) rfl dX11_unlikeCounts_7 ?_
    refine g_getI dX11_unlikeCounts_8 flX11_322 rfl (by assumption) (kz := 3) rfl ?_
    refine g_if_eq (tgt := 19) dX11_unlikeCounts_11 (by decide) (by omega) (fun h11 => ?_) (fun h11 => ?_)
    · omega
    · refine g_aload_n (j := 2) rfl dX11_unlikeCounts_14 ?_
      refine g_getR dX11_unlikeCounts_15 flX11_325 rfl (by assumption) (kz := 1) rfl (by assumption) ?_
      exact G.retP dX11_unlikeCounts_18 rfl (Or.inr ⟨_, rfl⟩) ⟨a, c, rfl, by rw [nxN_of hN]; exact h, hd.1, hw, ⟨hd.2.1, ⟨k1, ra⟩, fun _ => rfl, fun _ _ _ => ⟨fun _ => rfl, fun _ => rfl⟩⟩, Fr.rf⟩
theorem c_X11_unlike (w : WC) (d : Nat) (μ : Mem) {x c N : Nat} {F : Int → List Tm} (h : CA w μ x F c N) {s : Int} (hs : i32 s) {n : Int} (hn : i32 n) : ∃ bs, bs ≤ 12002 + pot N ∧ Con w (d + 7) mX11_unlike 2 bs [vP (some x), vI s, vI n] μ (Am w μ x F N bs (vJ (aUnl F s n))) := by
  obtain ⟨bs, hb1, hb2⟩ := room2 (HasT F s ∧ -3000 ≤ n ∧ n ≤ 3000) (6001 + cwB N (F s))
  refine ⟨bs, (rm_le hb1 hb2 fun z => by have := h.pt (show 0 ≤ s ∧ s ≤ 3 by first | exact z.1.1 | exact z.1); omega), ?_⟩
  have o0 := h.tps.o0
  refine Con.of (by decide) (Nat.le_of_ble_eq_true rfl) rfl ?_
  refine g_aload_n (j := 0) rfl dX11_unlike_0 ?_
  refine g_iload_n (j := 1) rfl dX11_unlike_1 ?_
  refine g_callV dX11_unlike_2 mlX11_128 mvX11_hasTerms (ci := 11) ⟨by decide, rfl⟩ (by assumption) (c_hasTerms w (d + 2) μ h hs) sv1 rfl (by omega) (Nat.le_of_ble_eq_true rfl) (Nat.le_refl _) (Nat.le_refl _) (fun v μ2 hR => ?_)
  obtain ⟨rfl, hm⟩ := hR
  replace hm := hm.symm
  subst hm
  refine g_ifb_eq (tgt := 15) dX11_unlike_5 (by decide)  (fun h5 => ?_) (fun h5 => ?_)
  · refine g_ldc2 dX11_unlike_15 klX11_177 (z := -1) rfl ?_
    rw [hb2 (by first | exact fun z => h5 z.1 | exact fun z => h12 (by omega))]
    exact G.retJ dX11_unlike_18 rfl (by rw [aUnl, cI_f (by first | exact fun z => h5 z.1 | exact fun z => h12 (by omega))]; exact Am.no h)
  · refine g_iload_n (j := 2) rfl dX11_unlike_8 ?_
    refine g_callS dX11_unlike_9 mlX11_174 msX11_isNumber (c_X11_isNumber w (d + 2) μ (by assumption)) sk1 rfl (by omega) (Nat.le_of_ble_eq_true rfl) (Nat.le_refl _) (Nat.le_refl _) (fun v μ2 hR => ?_)
    obtain ⟨rfl, hm⟩ := hR
    replace hm := hm.symm
    subst hm
    refine g_ifb_ne (tgt := 19) dX11_unlike_12 (by decide)  (fun h12 => ?_) (fun h12 => ?_)
    · have hV : HasT F s ∧ -3000 ≤ n ∧ n ≤ 3000 := ⟨h5, by omega⟩
      have hbs := hb1 hV
      subst hbs
      refine g_aload_n (j := 0) rfl dX11_unlike_19 ?_
      refine g_iload_n (j := 1) rfl dX11_unlike_20 ?_
      refine g_callV dX11_unlike_21 mlX11_179 mvX11_unlikeCounts (ci := 11) ⟨by decide, rfl⟩ (by assumption) (c_unlikeCounts w d μ h h5.1) sv1 rfl (by omega) (Nat.le_of_ble_eq_true rfl) (bc1 := 0) (bs1 := 0) (by omega) (by omega) (fun v μ2 hR => ?_)
      obtain ⟨a, c2, rfl, h2, ha, hr, -, hf⟩ := hR
      refine g_iload_n (j := 2) rfl dX11_unlike_24 ?_
      refine g_sipush dX11_unlike_25 (by omega) ?_
      refine g_iadd dX11_unlike_28 ?_
      refine g_lald dX11_unlike_29 (by assumption) (by omega) (by omega) ?_
      rw [hr n (by omega) (by omega)]
      exact G.retJ dX11_unlike_30 rfl (by rw [aUnl, cI_t hV]; exact Am.wc h h5.1 h2 hf)
    · refine g_ldc2 dX11_unlike_15 klX11_177 (z := -1) rfl ?_
      rw [hb2 (by first | exact fun z => h5 z.1 | exact fun z => h12 (by omega))]
      exact G.retJ dX11_unlike_18 rfl (by rw [aUnl, cI_f (by first | exact fun z => h5 z.1 | exact fun z => h12 (by omega))]; exact Am.no h)
theorem l_many11 {w : WC} {d x a bc bs : Nat} {s n0 k ex : Int} {f : Int → Int} {μ : Mem} (ha : IsA w μ a 15 6001) (hk : 1 ≤ k ∧ k ≤ 1000000) (hex : ex = 0 ∨ ex = 1) (hi : ∀ n, i64 (f n)) (hU : ∀ n, -3000 ≤ n → n ≤ 3000 → mL μ a (n + 3000) = f n) : ∀ (r : Nat) (n : Int) (x7 x8 : Option AV), n + (r : Int) = 3001 → -3000 ≤ n → G w d mX11_many (fun v μ2 => v = some (vI (manF f k ex r n)) ∧ μ2 = μ) bc bs 39 [some (vP (some x)), some (vI s), some (vI n0), some (vI k), some (vI ex), some (vP (some a)), some (vI n), x7, x8] [] μ := by
  intro r
  induction r with
  | zero =>
    intro n x7 x8 hr h0
    refine g_iload (i := 6) rfl dX11_many_39 ?_
    refine g_sipush dX11_many_41 (by omega) ?_
    refine g_icmp_gt (tgt := 88) dX11_many_44 (by decide) (by omega) (by omega) (fun h44 => ?_) (fun h44 => ?_)
    · refine g_ldc dX11_many_88 kcX11_161 (z := -100000) rfl ?_
      exact G.retI dX11_many_90 rfl ⟨rfl, rfl⟩
    · omega
  | succ r ih =>
    intro n x7 x8 hr h0
    refine g_iload (i := 6) rfl dX11_many_39 ?_
    refine g_sipush dX11_many_41 (by omega) ?_
    refine g_icmp_gt (tgt := 88) dX11_many_44 (by decide) (by omega) (by omega) (fun h44 => ?_) (fun h44 => ?_)
    · omega
    · refine g_aload (i := 5) rfl dX11_many_47 ?_
      refine g_iload (i := 6) rfl dX11_many_49 ?_
      refine g_sipush dX11_many_51 (by omega) ?_
      refine g_iadd dX11_many_54 ?_
      refine g_lald dX11_many_55 (by assumption) (by omega) (by omega) ?_
      rw [hU n (by omega) (by omega)]
      have hi := hi n
      refine g_lstore (i := 7) dX11_many_56 (by decide) rfl lj7 ?_
      refine g_lload (i := 7) rfl dX11_many_58 ?_
      refine g_iload_n (j := 3) rfl dX11_many_60 ?_
      refine g_i2l (by omega) dX11_many_61 ?_
      refine g_lif_eq (tgt := 79) dX11_many_62 dX11_many_63 (by decide) (by omega) (by omega) (fun h62 => ?_) (fun h62 => ?_)
      · refine g_iload (i := 6) rfl dX11_many_79 ?_
        exact G.retI dX11_many_81 rfl ⟨by rw [manF, cI_t (by omega)], rfl⟩
      · refine g_iload (i := 4) rfl dX11_many_66 ?_
        refine g_if_ne (tgt := 82) dX11_many_68 (by decide) (by omega) (fun h68 => ?_) (fun h68 => ?_)
        · refine g_iinc (i := 6) dX11_many_82 rfl (by decide) rfl ls6 ?_
          refine g_goto (tgt := 39) (by decide) dX11_many_85 ?_
          rw [manF, cI_f (by omega)]
          exact ih (n + 1) _ _ (by omega) (by omega)
        · refine g_lload (i := 7) rfl dX11_many_71 ?_
          refine g_iload_n (j := 3) rfl dX11_many_73 ?_
          refine g_i2l (by omega) dX11_many_74 ?_
          refine g_lif_le (tgt := 82) dX11_many_75 dX11_many_76 (by decide) (by omega) (by omega) (fun h75 => ?_) (fun h75 => ?_)
          · refine g_iinc (i := 6) dX11_many_82 rfl (by decide) rfl ls6 ?_
            refine g_goto (tgt := 39) (by decide) dX11_many_85 ?_
            rw [manF, cI_f (by omega)]
            exact ih (n + 1) _ _ (by omega) (by omega)
          · refine g_iload (i := 6) rfl dX11_many_79 ?_
            exact G.retI dX11_many_81 rfl ⟨by rw [manF, cI_t (by omega)], rfl⟩
theorem c_X11_many (w : WC) (d : Nat) (μ : Mem) {x c N : Nat} {F : Int → List Tm} (h : CA w μ x F c N) {s : Int} (hs : i32 s) {n k ex : Int} (hn : i32 n) (hk : i32 k) (hex : ex = 0 ∨ ex = 1) : ∃ bs, bs ≤ 12002 + pot N ∧ Con w (d + 7) mX11_many 2 bs [vP (some x), vI s, vI n, vI k, vI ex] μ (Am w μ x F N bs (vI (aMany F s n k ex))) := by
  obtain ⟨bs, hb1, hb2⟩ := room2 (HasT F s ∧ (-3000 ≤ n ∧ n ≤ 3000) ∧ 1 ≤ k ∧ k ≤ 1000000) (6001 + cwB N (F s))
  refine ⟨bs, (rm_le hb1 hb2 fun z => by have := h.pt (show 0 ≤ s ∧ s ≤ 3 by first | exact z.1.1 | exact z.1); omega), ?_⟩
  have o0 := h.tps.o0
  refine Con.of (by decide) (Nat.le_of_ble_eq_true rfl) rfl ?_
  refine g_aload_n (j := 0) rfl dX11_many_0 ?_
  refine g_iload_n (j := 1) rfl dX11_many_1 ?_
  refine g_callV dX11_many_2 mlX11_128 mvX11_hasTerms (ci := 11) ⟨by decide, rfl⟩ (by assumption) (c_hasTerms w (d + 2) μ h hs) sv1 rfl (by omega) (Nat.le_of_ble_eq_true rfl) (Nat.le_refl _) (Nat.le_refl _) (fun v μ2 hR => ?_)
  obtain ⟨rfl, hm⟩ := hR
  replace hm := hm.symm
  subst hm
  refine g_ifb_eq (tgt := 26) dX11_many_5 (by decide)  (fun h5 => ?_) (fun h5 => ?_)
  · refine g_ldc dX11_many_26 kcX11_161 (z := -100000) rfl ?_
    rw [hb2 (fun z => by obtain ⟨z1, z2, z3⟩ := z; first | exact h5 z1 | exact h12 z2 | omega)]
    exact G.retI dX11_many_28 rfl (by rw [aMany, cI_f (fun z => by obtain ⟨z1, z2, z3⟩ := z; first | exact h5 z1 | exact h12 z2 | omega)]; exact Am.no h)
  · refine g_iload_n (j := 2) rfl dX11_many_8 ?_
    refine g_callS dX11_many_9 mlX11_174 msX11_isNumber (c_X11_isNumber w (d + 2) μ (by assumption)) sk1 rfl (by omega) (Nat.le_of_ble_eq_true rfl) (Nat.le_refl _) (Nat.le_refl _) (fun v μ2 hR => ?_)
    obtain ⟨rfl, hm⟩ := hR
    replace hm := hm.symm
    subst hm
    refine g_ifb_eq (tgt := 26) dX11_many_12 (by decide)  (fun h12 => ?_) (fun h12 => ?_)
    · refine g_ldc dX11_many_26 kcX11_161 (z := -100000) rfl ?_
      rw [hb2 (fun z => by obtain ⟨z1, z2, z3⟩ := z; first | exact h5 z1 | exact h12 z2 | omega)]
      exact G.retI dX11_many_28 rfl (by rw [aMany, cI_f (fun z => by obtain ⟨z1, z2, z3⟩ := z; first | exact h5 z1 | exact h12 z2 | omega)]; exact Am.no h)
    · refine g_iload_n (j := 3) rfl dX11_many_15 ?_
      refine g_iconst dX11_many_16 ?_
      refine g_icmp_lt (tgt := 26) dX11_many_17 (by decide) (by omega) (by omega) (fun h17 => ?_) (fun h17 => ?_)
      · refine g_ldc dX11_many_26 kcX11_161 (z := -100000) rfl ?_
        rw [hb2 (fun z => by obtain ⟨z1, z2, z3⟩ := z; first | exact h5 z1 | exact h12 z2 | omega)]
        exact G.retI dX11_many_28 rfl (by rw [aMany, cI_f (fun z => by obtain ⟨z1, z2, z3⟩ := z; first | exact h5 z1 | exact h12 z2 | omega)]; exact Am.no h)
      · refine g_iload_n (j := 3) rfl dX11_many_20 ?_
        refine g_ldc dX11_many_21 kcX11_213 (z := 1000000) rfl ?_
        refine g_icmp_le (tgt := 29) dX11_many_23 (by decide) (by omega) (by omega) (fun h23 => ?_) (fun h23 => ?_)
        · have hV : HasT F s ∧ (-3000 ≤ n ∧ n ≤ 3000) ∧ 1 ≤ k ∧ k ≤ 1000000 := ⟨h5, by omega, by omega⟩
          have hbs := hb1 hV
          subst hbs
          refine g_aload_n (j := 0) rfl dX11_many_29 ?_
          refine g_iload_n (j := 1) rfl dX11_many_30 ?_
          refine g_callV dX11_many_31 mlX11_179 mvX11_unlikeCounts (ci := 11) ⟨by decide, rfl⟩ (by assumption) (c_unlikeCounts w d μ h h5.1) sv1 rfl (by omega) (Nat.le_of_ble_eq_true rfl) (bc1 := 0) (bs1 := 0) (by omega) (by omega) (fun v μ2 hR => ?_)
          obtain ⟨a, c2, rfl, h2, ha, hr, -, hf⟩ := hR
          refine g_astore (i := 5) dX11_many_34 (by decide) rfl ls5 ?_
          refine g_iload_n (j := 2) rfl dX11_many_36 ?_
          refine g_istore (i := 6) dX11_many_37 (by decide) rfl ls6 ?_
          have hu64 := fun n => uw_i64 (ts := F s) (by have := h5.2; omega) (h.l5 h5.1) (h.ok h5.1) n
          refine G.post (fun v μ3 hq => ?_) (l_many11 (f := uw (F s)) ha hV.2.2 hex hu64 hr (3001 - n).toNat n none none (by omega) (by omega))
          obtain ⟨rfl, rfl⟩ := hq
          rw [aMany, cI_t hV]
          exact Am.wc h h5.1 h2 hf
        · refine g_ldc dX11_many_26 kcX11_161 (z := -100000) rfl ?_
          rw [hb2 (fun z => by obtain ⟨z1, z2, z3⟩ := z; first | exact h5 z1 | exact h12 z2 | omega)]
          exact G.retI dX11_many_28 rfl (by rw [aMany, cI_f (fun z => by obtain ⟨z1, z2, z3⟩ := z; first | exact h5 z1 | exact h12 z2 | omega)]; exact Am.no h)
