/-! THE MODEL: unlike, many, the methods -/
def P49 (m a : Nat) : Prop := m + 4 ≤ a ∧ a ≤ m + 9
def Ju (j : Int) : Prop := j = 21 ∨ j = 23 ∨ j = 29
def UlF (m : Nat) : Mem → Mem → Prop := FrZ m (P49 m) Ju
theorem dlt_row {ts : List Tm} {j : Int} {g : Int → Int} (h : ∀ j, -3000 ≤ j → j ≤ 3000 → g (j + 3000) = wsK (TT2 ts) (lbs ts) dlt j []) (z1 : -3000 ≤ j) (z2 : j ≤ 3000) : g (j + 3000) = 0 := h j z1 z2
theorem l_u79 {w : WC} {d m : Nat} {ts : List Tm} {s : Int} (hs : 0 ≤ s ∧ s ≤ 3) (h1 : 1 ≤ ts.length) (h5 : ts.length ≤ 5) (htk : ∀ u ∈ ts, TOk u) : ∀ (K2 K1 : KL) (μ : Mem) (x5 : Option AV), tnK (lbs ts) = K1 ++ K2 → MoS w μ m → MFI μ m s ts → KS μ m (tnK (lbs ts)) → (∀ n, -3000 ≤ n → n ≤ 3000 → mL μ (m + 5) (n + 3000) = wsK (TT2 ts) (lbs ts) dlt n K1) → G w (d + 5) mX12_laysUnlike (fun v μ2 => v = none ∧ (∀ n, -3000 ≤ n → n ≤ 3000 → mL μ2 (m + 5) (n + 3000) = uw ts n) ∧ FrZ m (P49 m) (fun _ => False) μ μ2) 0 0 79 [some (vP (some m)), some (vI s), some (vJ (smK K1 : Int)), none, some (vI (K1.length : Int)), x5] [] μ := by
  have hok := tn_ok h1 h5 (fun u hu => by have := (htk u hu).2.2.1; omega)
  have hsm := tn_sm h1 h5
  have hl7 := hok.2.2.1
  have hsu := lnK_ok _ hok.2.2.2
  intro K2
  induction K2 with
  | nil =>
    intro K1 μ x5 he hM hI hK hD
    have hl : (tnK (lbs ts)).length = K1.length := by rw [he, List.append_nil]
    have o0 := hM.o
    refine g_iload (i := 4) rfl dX12_laysUnlike_79 ?_
    refine g_aload_n (j := 0) rfl dX12_laysUnlike_81 ?_
    refine g_getI dX12_laysUnlike_82 flX12_289 rfl (by assumption) (kz := 29) rfl ?_
    rw [hK.1]
    refine g_icmp_ge (tgt := 158) dX12_laysUnlike_85 (by decide) (by omega) (by omega) (fun h85 => ?_) (fun h85 => ?_)
    · refine g_iconst dX12_laysUnlike_158 ?_
      refine g_istore (i := 4) dX12_laysUnlike_159 (by decide) rfl ls4 ?_
      have eK : K1 = tnK (lbs ts) := by rw [he, List.append_nil]
      rw [← eK] at hok hsm
      have hU : ∀ j, i64 ((smK K1 : Int) * uw ts (j - 3000)) := fun j => by
        have h := hok.1 (j - 3000)
        rw [← h.1]
        have := h.2.2.2
        constructor <;> omega
      refine G.post (fun v μ2 hq => ⟨hq.1, fun n z1 z2 => ?_, FrZ.mono hq.2.2 (fun a z => by unfold P49; omega) (fun _ z => z)⟩) (l_u161 (U := fun j => uw ts (j - 3000)) (al := (smK K1 : Int)) ⟨by have := hok.2.1; omega, by omega⟩ hU 6001 0 μ _ (by omega) (by omega) hM (fun j z1 z2 => ?_))
      · rw [hq.2.1 (n + 3000) (by omega) (by omega)]
        rw [show n + 3000 - 3000 = n by omega]
      · rw [if_neg (by omega)]
        have h := hD (j - 3000) (by omega) (by omega)
        rw [show j - 3000 + 3000 = j by omega] at h
        rw [h]
        exact (hok.1 _).1
    · omega
  | cons q K2 ih =>
    intro K1 μ x5 he hM hI hK hD
    have hl : (tnK (lbs ts)).length = K1.length + (K2.length + 1) := by rw [he, List.length_append, List.length_cons]
    have hq : (tnK (lbs ts))[K1.length]? = some q := by
      rw [he, List.getElem?_append_right (Nat.le_refl _), Nat.sub_self]
      rfl
    obtain ⟨hs1, hs2, hs3⟩ := hK.2.1 _ q hq
    have hsum := hsu q (List.mem_of_getElem? hq)
    have o0 := hM.o
    refine g_iload (i := 4) rfl dX12_laysUnlike_79 ?_
    refine g_aload_n (j := 0) rfl dX12_laysUnlike_81 ?_
    refine g_getI dX12_laysUnlike_82 flX12_289 rfl (by assumption) (kz := 29) rfl ?_
    rw [hK.1]
    refine g_icmp_ge (tgt := 158) dX12_laysUnlike_85 (by decide) (by omega) (by omega) (fun h85 => ?_) (fun h85 => ?_)
    · omega
    · refine g_aload_n (j := 0) rfl dX12_laysUnlike_88 ?_
      refine g_iload_n (j := 1) rfl dX12_laysUnlike_89 ?_
      refine g_iload (i := 4) rfl dX12_laysUnlike_90 ?_
      refine g_callV dX12_laysUnlike_92 mlX12_296 mvX12_laysRounds (ci := 12) ⟨by decide, rfl⟩ (by assumption) (c_laysRounds w d μ (t := K1.length) (L := q.1) hs (by omega) hM hI hs1 hsum hs2) sv2 rfl (by omega) (Nat.le_of_ble_eq_true rfl) (Nat.le_refl _) (Nat.le_refl _) (fun v μ0 hR => ?_)
      obtain ⟨rfl, g2, rfl, hL2⟩ := hR
      have hf2 : FrZ m (P49 m) (fun _ => False) μ (wL μ (m + 4) g2) := ⟨Fr.wL (Or.inr (by unfold P49; omega)), fun _ _ => rfl⟩
      have hL3 : LayF (mL (wL μ (m + 4) g2) (m + 4)) 0 (evM (TT2 ts) (mnB (lbs ts) q.1 []) dlt) := by rw [mL_wL_self]; exact hL2
      have hM2 : MoS w (wL μ (m + 4) g2) m := hM
      have hI2 : MFI (wL μ (m + 4) g2) m s ts := hI
      have hK2 : KS (wL μ (m + 4) g2) m (tnK (lbs ts)) := hK.l (P := fun a => a = m + 4) (J := fun _ => False) ⟨Fr.wL (Or.inr rfl), fun _ _ => rfl⟩ hM (by omega) (fun z => z)
      have hs4 : mL (wL μ (m + 4) g2) (m + 9) (K1.length : Int) = (q.2 : Int) := by rw [mL_wL, if_neg (by omega)]; exact hs3
      have hD2 : ∀ n, -3000 ≤ n → n ≤ 3000 → mL (wL μ (m + 4) g2) (m + 5) (n + 3000) = wsK (TT2 ts) (lbs ts) dlt n K1 := fun n z1 z2 => by rw [mL_wL, if_neg (by omega)]; exact hD n z1 z2
      generalize wL μ (m + 4) g2 = μ1 at *
      have r281 := hM2.r28
      have a281 := hM2.a28
      have o02 := hM2.o
      refine g_lload_n (j := 2) rfl dX12_laysUnlike_95 ?_
      refine g_aload_n (j := 0) rfl dX12_laysUnlike_96 ?_
      refine g_getR dX12_laysUnlike_97 flX12_54 rfl (by assumption) (kz := 28) rfl (by assumption) ?_
      refine g_iload (i := 4) rfl dX12_laysUnlike_100 ?_
      refine g_lald dX12_laysUnlike_102 (by assumption) (by omega) (by omega) ?_
      rw [hs4]
      refine g_ladd dX12_laysUnlike_103 ?_
      refine g_lstore_n (j := 2) dX12_laysUnlike_104 (by decide) rfl lj2 ?_
      refine g_sipush dX12_laysUnlike_105 (by omega) ?_
      refine g_istore (i := 5) dX12_laysUnlike_108 (by decide) rfl ls5 ?_
      refine l_u110 (t := K1.length) (f := evM (TT2 ts) (mnB (lbs ts) q.1 []) dlt) (A := fun n => wsK (TT2 ts) (lbs ts) dlt n K1) (by omega) 6001 (-3000) μ1 (by omega) (by omega) hM2 hL3 hs4 (fun j z1 z2 => by rw [if_neg (by omega)]; exact hD2 j z1 z2) (fun μ3 g1 g2 => ?_)
      have hf3 : FrZ m (P49 m) (fun _ => False) μ1 μ3 := FrZ.mono g2 (fun a z => by unfold P49; omega) (fun _ z => z)
      refine g_iinc (i := 4) dX12_laysUnlike_152 rfl (by decide) rfl ls4 ?_
      refine g_goto (tgt := 79) (by decide) dX12_laysUnlike_155 ?_
      rw [show (smK K1 : Int) + (q.2 : Int) = ((smK (K1 ++ [q]) : Nat) : Int) by rw [smK_app]; omega, show (K1.length : Int) + 1 = (((K1 ++ [q]).length : Nat) : Int) by rw [List.length_append]; rfl]
      exact G.post (fun v μ4 hq => ⟨hq.1, hq.2.1, FrZ.tr (FrZ.tr hf2 hf3) hq.2.2⟩) (ih (K1 ++ [q]) μ3 _ (by rw [he, List.append_assoc]; rfl) (FrZ.Mo g2 hM2) (FrZ.mfi g2 hM2 (by omega) hI2) (hK2.l g2 hM2 (by omega) (fun z => z)) (fun n z1 z2 => by rw [g1 n z1 z2, wsK_app]))
theorem c_laysUnlike (w : WC) (d : Nat) (μ : Mem) {m : Nat} {F : Int → List Tm} (hA : MA w μ m F) {s : Int} (hs : 0 ≤ s ∧ s ≤ 3) (h1 : 1 ≤ (F s).length) : Con w (d + 10) mX12_laysUnlike 0 0 [vP (some m), vI s] μ (fun v μ2 => v = none ∧ MA w μ2 m F ∧ (∀ n, -3000 ≤ n → n ≤ 3000 → mL μ2 (m + 5) (n + 3000) = uw (F s) n) ∧ UlF m μ μ2) := by
  have o0 := hA.1.o
  have h5s := (hA.2.1 s hs).2.1
  have htk := (hA.2.1 s hs).2.2.1
  have hb23 := hA.2.2.2.1
  refine Con.of (by decide) (Nat.le_of_ble_eq_true rfl) rfl ?_
  refine g_aload_n (j := 0) rfl dX12_laysUnlike_0 ?_
  refine g_getI dX12_laysUnlike_1 flX12_39 rfl (by assumption) (kz := 23) rfl ?_
  refine g_iload_n (j := 1) rfl dX12_laysUnlike_4 ?_
  refine g_icmp_ne (tgt := 9) dX12_laysUnlike_5 (by decide) (by omega) (by omega) (fun h5 => ?_) (fun h5 => ?_)
  · refine g_aload_n (j := 0) rfl dX12_laysUnlike_9 ?_
    refine g_iload_n (j := 1) rfl dX12_laysUnlike_10 ?_
    refine g_putI dX12_laysUnlike_11 fpX12_39 rfl rfl rfl (by assumption) (kz := 23) rfl ?_
    refine g_aload_n (j := 0) rfl dX12_laysUnlike_14 ?_
    refine g_iconst dX12_laysUnlike_15 ?_
    refine g_putI dX12_laysUnlike_16 fpX12_31 rfl rfl rfl (by simp only [IsO_sI, IsO_sL, IsO_sR, IsO_wI, IsO_wL, IsA_sI, IsA_sL, IsA_sR, IsA_wI, IsA_wL, mR_sI, mR_sL, mR_wI, mR_wL]; assumption) (kz := 21) rfl ?_
    have hf1 : FrZ m (fun _ => False) (fun j => j = 21 ∨ j = 23) μ (sI (sI μ m 23 s) m 21 (-1)) := (FrZ.sI (by omega)).tr (FrZ.sI (by omega))
    have k21 : mI (sI (sI μ m 23 s) m 21 (-1)) m 21 = -1 := by simp [mI_sI]
    have k23 : mI (sI (sI μ m 23 s) m 21 (-1)) m 23 = s := by simp [mI_sI]
    generalize sI (sI μ m 23 s) m 21 (-1) = μ1 at *
    have hM1 := FrZ.Mo hf1 hA.1
    have o01 := hM1.o
    refine g_iconst dX12_laysUnlike_19 ?_
    refine g_istore_n (j := 2) dX12_laysUnlike_20 (by decide) rfl ls2 ?_
    refine l_u21 6001 0 μ1 (by omega) (by omega) hM1 (fun j z1 z2 => absurd z1 (by omega)) (fun μ2 hM2 hZ2 hf2 => ?_)
    have o02 := hM2.o
    refine g_iconst dX12_laysUnlike_41 ?_
    refine g_istore_n (j := 2) dX12_laysUnlike_42 (by decide) rfl ls2 ?_
    refine l_u43 8 0 μ2 (by omega) (by omega) hM2 (fun j z1 z2 => absurd z1 (by omega)) (fun μ3 hM3 hZ3 hf3 => ?_)
    have o03 := hM3.o
    refine g_aload_n (j := 0) rfl dX12_laysUnlike_62 ?_
    refine g_iconst dX12_laysUnlike_63 ?_
    refine g_putI dX12_laysUnlike_64 fpX12_289 rfl rfl rfl (by assumption) (kz := 29) rfl ?_
    have hf4 : FrZ m (fun _ => False) (fun j => j = 29) μ3 (sI μ3 m 29 0) := FrZ.sI rfl
    have k29 : mI (sI μ3 m 29 0) m 29 = 0 := by rw [mI_sI, if_pos ⟨rfl, rfl⟩]
    have hZ4 : ∀ j, 0 ≤ j → j < 8 → mL (sI μ3 m 29 0) (m + 9) j = 0 := hZ3
    have hM4 := FrZ.Mo hf4 hM3
    have hI4 := FrZ.mfi hf4 hM3 ⟨fun z => z, fun z => z⟩ (FrZ.mfi hf3 hM2 (by omega) (FrZ.mfi hf2 hM1 (by omega) (FrZ.mfi hf1 hA.1 ⟨fun z => z, fun z => z⟩ (hA.2.1 s hs))))
    have e5 : ∀ j, mL (sI μ3 m 29 0) (m + 5) j = mL μ2 (m + 5) j := fun j => hf3.1.L hM2.a24.2.1 (by omega) j
    generalize sI μ3 m 29 0 = μ4 at *
    have o04 := hM4.o
    have hK4 : KS μ4 m [] := ⟨k29, fun t q hq => by simp at hq, fun j z1 z2 => hZ4 j z1 z2⟩
    have hok := tn_ok h1 h5s (fun u hu => by have := (htk u hu).2.2.1; omega)
    refine g_aload_n (j := 0) rfl dX12_laysUnlike_67 ?_
    refine g_iload_n (j := 1) rfl dX12_laysUnlike_68 ?_
    refine g_iconst dX12_laysUnlike_69 ?_
    refine g_iconst dX12_laysUnlike_70 ?_
    refine g_callV dX12_laysUnlike_71 mlX12_292 mvX12_turns (ci := 12) ⟨by decide, rfl⟩ (by assumption) ((c_turns (w := w) (d := d + 1) (m := m) (ts := F s) hs (F s).length [] [] μ4 0) (by simp) hM4 hI4 (fun i hi => absurd hi (Nat.not_lt_zero i)) (fun i hi => absurd hi (Nat.not_lt_zero i)) MsK.nil hK4 (by have := hok.2.2.1; unfold tnK at this; rw [lbs_len] at this; exact this)) sv3 rfl (by omega) (Nat.le_of_ble_eq_true rfl) (Nat.le_refl _) (Nat.le_refl _) (fun v μ5 hR => ?_)
    obtain ⟨rfl, hK5, hf5, -⟩ := hR
    have hM5 := hf5.mo hM4
    have hI5 := hf5.mfi hM4 hI4
    have hK5 : KS μ5 m (tnK (lbs (F s))) := by
      unfold tnK
      rw [lbs_len]
      exact hK5
    have o05 := hM5.o
    refine g_lconst0 dX12_laysUnlike_74 ?_
    refine g_lstore_n (j := 2) dX12_laysUnlike_75 (by decide) rfl lj2 ?_
    refine g_iconst dX12_laysUnlike_76 ?_
    refine g_istore (i := 4) dX12_laysUnlike_77 (by decide) rfl ls4 ?_
    refine G.post (fun v μ6 hq => ?_) (l_u79 (d := d + 5) hs h1 h5s htk (tnK (lbs (F s))) [] μ5 _ rfl hM5 hI5 hK5 (fun n z1 z2 => ?_))
    · obtain ⟨rfl, hU, hf6⟩ := hq
      have j21 : mI μ6 m 21 = -1 := (hf6.2 _ (fun z => z)).trans ((hf5.2 _ (by omega)).trans ((hf4.2 _ (by omega)).trans ((hf3.2 _ (fun z => z)).trans ((hf2.2 _ (fun z => z)).trans k21))))
      have j23 : mI μ6 m 23 = s := (hf6.2 _ (fun z => z)).trans ((hf5.2 _ (by omega)).trans ((hf4.2 _ (by omega)).trans ((hf3.2 _ (fun z => z)).trans ((hf2.2 _ (fun z => z)).trans k23))))
      have hall : UlF m μ μ6 := (((((FrZ.mono hf1 (fun _ z => z.elim) (fun j z => by unfold Ju; omega)).tr (FrZ.mono hf2 (fun a z => by unfold P49; omega) (fun _ z => z.elim))).tr (FrZ.mono hf3 (fun a z => by unfold P49; omega) (fun _ z => z.elim))).tr (FrZ.mono hf4 (fun _ z => z.elim) (fun j z => by unfold Ju; omega))).tr (FrZ.mono hf5 (fun a z => by unfold P69 at z; unfold P49; omega) (fun j z => by unfold Ju; omega))).tr (FrZ.mono hf6 (fun _ z => z) (fun _ z => z.elim))
      exact ⟨rfl, ⟨FrZ.Mo hall hA.1, fun s2 hs2 => FrZ.mfi hall hA.1 (by unfold P49; omega) (hA.2.1 s2 hs2), ⟨by omega, fun z => by omega⟩, ⟨by omega, fun _ n z1 z2 => by rw [j23]; exact hU n z1 z2⟩⟩, hU, hall⟩
    · show _ = (0 : Int)
      rw [hf5.1.L hM4.a24.2.1 (by unfold P69; omega), e5]
      exact hZ2 _ (by omega) (by omega)
  · exact G.retV dX12_laysUnlike_8 rfl ⟨rfl, hA, fun n z1 z2 => by have := hA.2.2.2.2 (by omega) n z1 z2; rw [h5] at this; exact this, FrZ.rf⟩
noncomputable def aUnl (F : Int → List Tm) (s n : Int) : Int := cI (HasT F s ∧ -3000 ≤ n ∧ n ≤ 3000) (uw (F s) n) (-1)
/-- the first from n on, k to go -/
noncomputable def manF (f : Int → Int) (k : Int) (ex : Int) : Nat → Int → Int
  | 0, _ => -100000
  | r + 1, n => cI (f n = k ∨ (ex = 0 ∧ k < f n)) n (manF f k ex r (n + 1))
noncomputable def aMany (F : Int → List Tm) (s n k ex : Int) : Int := cI (HasT F s ∧ (-3000 ≤ n ∧ n ≤ 3000) ∧ 1 ≤ k ∧ k ≤ 1000000) (manF (uw (F s)) k ex (3001 - n).toNat n) (-100000)
theorem uw_i64 {ts : List Tm} (h1 : 0 < ts.length) (h5 : ts.length ≤ 5) (hok : ∀ u ∈ ts, TOk u) (n : Int) : i64 (uw ts n) := by
  have := (tn_ok h1 h5 (fun u hu => by have := (hok u hu).2.2.1; omega)).1 n
  constructor <;> omega
theorem c_X12_unlike (w : WC) (d : Nat) (μ : Mem) {m : Nat} {F : Int → List Tm} (hA : MA w μ m F) {s : Int} (hs : i32 s) {n : Int} (hn : i32 n) : Con w (d + 11) mX12_unlike 0 0 [vP (some m), vI s, vI n] μ (fun v μ2 => v = some (vJ (aUnl F s n)) ∧ MA w μ2 m F ∧ UlF m μ μ2) := by
  have o0 := hA.1.o
  refine Con.of (by decide) (Nat.le_of_ble_eq_true rfl) rfl ?_
  refine g_aload_n (j := 0) rfl dX12_unlike_0 ?_
  refine g_iload_n (j := 1) rfl dX12_unlike_1 ?_
  refine g_callV dX12_unlike_2 mlX12_274 mvX12_isForm (ci := 12) ⟨by decide, rfl⟩ (by assumption) (c_X12_isForm w (d + 8) μ hA hs) sv1 rfl (by omega) (Nat.le_of_ble_eq_true rfl) (Nat.le_refl _) (Nat.le_refl _) (fun v μ2 hR => ?_)
  obtain ⟨rfl, hm⟩ := hR
  replace hm := hm.symm
  subst hm
  refine g_ifb_eq (tgt := 15) dX12_unlike_5 (by decide)  (fun h5 => ?_) (fun h5 => ?_)
  · refine g_ldc2 dX12_unlike_15 klX12_280 (z := -1) rfl ?_
    exact G.retJ dX12_unlike_18 rfl ⟨by rw [aUnl, cI_f (fun z => by obtain ⟨z1, z2⟩ := z; first | exact h5 z1 | exact h12 z2)], hA, FrZ.rf⟩
  · refine g_iload_n (j := 2) rfl dX12_unlike_8 ?_
    refine g_callS dX12_unlike_9 mlX12_277 msX12_isN (c_X12_isN w (d + 9) μ hn) sk1 rfl (by omega) (Nat.le_of_ble_eq_true rfl) (Nat.le_refl _) (Nat.le_refl _) (fun v μ2 hR => ?_)
    obtain ⟨rfl, hm⟩ := hR
    replace hm := hm.symm
    subst hm
    refine g_ifb_ne (tgt := 19) dX12_unlike_12 (by decide)  (fun h12 => ?_) (fun h12 => ?_)
    · refine g_aload_n (j := 0) rfl dX12_unlike_19 ?_
      refine g_iload_n (j := 1) rfl dX12_unlike_20 ?_
      refine g_callV dX12_unlike_21 mlX12_310 mvX12_laysUnlike (ci := 12) ⟨by decide, rfl⟩ (by assumption) (c_laysUnlike w d μ hA h5.1 (by have := h5.2; omega)) sv1 rfl (by omega) (Nat.le_of_ble_eq_true rfl) (Nat.le_refl _) (Nat.le_refl _) (fun v μ2 hR => ?_)
      obtain ⟨rfl, hA2, hU, hf2⟩ := hR
      have o02 := hA2.1.o
      have r242 := hA2.1.r24
      have a242 := hA2.1.a24
      have hi := uw_i64 (by have := h5.2; omega) (hA.2.1 s h5.1).2.1 (hA.2.1 s h5.1).2.2.1
      refine g_aload_n (j := 0) rfl dX12_unlike_24 ?_
      refine g_getR dX12_unlike_25 flX12_42 rfl (by assumption) (kz := 24) rfl (by assumption) ?_
      refine g_iload_n (j := 2) rfl dX12_unlike_28 ?_
      refine g_sipush dX12_unlike_29 (by omega) ?_
      refine g_iadd dX12_unlike_32 ?_
      refine g_lald dX12_unlike_33 (by assumption) (by omega) (by omega) ?_
      rw [hU n (by omega) (by omega)]
      exact G.retJ dX12_unlike_34 rfl ⟨by rw [aUnl, cI_t ⟨h5, h12⟩], hA2, hf2⟩
    · refine g_ldc2 dX12_unlike_15 klX12_280 (z := -1) rfl ?_
      exact G.retJ dX12_unlike_18 rfl ⟨by rw [aUnl, cI_f (fun z => by obtain ⟨z1, z2⟩ := z; first | exact h5 z1 | exact h12 z2)], hA, FrZ.rf⟩
theorem l_many12 {w : WC} {d m : Nat} {s n0 k ex : Int} {f : Int → Int} {μ : Mem} (hM : MoS w μ m) (hk : 1 ≤ k ∧ k ≤ 1000000) (hex : ex = 0 ∨ ex = 1) (hi : ∀ n, i64 (f n)) (hU : ∀ n, -3000 ≤ n → n ≤ 3000 → mL μ (m + 5) (n + 3000) = f n) : ∀ (r : Nat) (n : Int), n + (r : Int) = 3001 → -3000 ≤ n → G w d mX12_many (fun v μ2 => v = some (vI (manF f k ex r n)) ∧ μ2 = μ) 0 0 39 [some (vP (some m)), some (vI s), some (vI n0), some (vI k), some (vI ex), some (vI n)] [] μ := by
  have o0 := hM.o
  have r24 := hM.r24
  have a24 := hM.a24
  intro r
  induction r with
  | zero =>
    intro n hr h0
    refine g_iload (i := 5) rfl dX12_many_39 ?_
    refine g_sipush dX12_many_41 (by omega) ?_
    refine g_icmp_gt (tgt := 98) dX12_many_44 (by decide) (by omega) (by omega) (fun h44 => ?_) (fun h44 => ?_)
    · refine g_ldcw dX12_many_98 kcX12_321 (z := -100000) rfl ?_
      exact G.retI dX12_many_101 rfl ⟨rfl, rfl⟩
    · omega
  | succ r ih =>
    intro n hr h0
    refine g_iload (i := 5) rfl dX12_many_39 ?_
    refine g_sipush dX12_many_41 (by omega) ?_
    refine g_icmp_gt (tgt := 98) dX12_many_44 (by decide) (by omega) (by omega) (fun h44 => ?_) (fun h44 => ?_)
    · omega
    · refine g_iload (i := 4) rfl dX12_many_47 ?_
      refine g_if_eq (tgt := 72) dX12_many_49 (by decide) (by omega) (fun h49 => ?_) (fun h49 => ?_)
      · refine g_aload_n (j := 0) rfl dX12_many_72 ?_
        refine g_getR dX12_many_73 flX12_42 rfl (by assumption) (kz := 24) rfl (by assumption) ?_
        refine g_iload (i := 5) rfl dX12_many_76 ?_
        refine g_sipush dX12_many_78 (by omega) ?_
        refine g_iadd dX12_many_81 ?_
        refine g_lald dX12_many_82 (by assumption) (by omega) (by omega) ?_
        rw [hU n (by omega) (by omega)]
        have hi := hi n
        refine g_iload_n (j := 3) rfl dX12_many_83 ?_
        refine g_i2l (by omega) dX12_many_84 ?_
        refine g_lif_lt (tgt := 92) dX12_many_85 dX12_many_86 (by decide) (by omega) (by omega) (fun h85 => ?_) (fun h85 => ?_)
        · refine g_iinc (i := 5) dX12_many_92 rfl (by decide) rfl ls5 ?_
          refine g_goto (tgt := 39) (by decide) dX12_many_95 ?_
          rw [manF, cI_f (by omega)]
          exact ih (n + 1) (by omega) (by omega)
        · refine g_iload (i := 5) rfl dX12_many_89 ?_
          exact G.retI dX12_many_91 rfl ⟨by rw [manF, cI_t (by omega)], rfl⟩
      · refine g_aload_n (j := 0) rfl dX12_many_52 ?_
        refine g_getR dX12_many_53 flX12_42 rfl (by assumption) (kz := 24) rfl (by assumption) ?_
        refine g_iload (i := 5) rfl dX12_many_56 ?_
        refine g_sipush dX12_many_58 (by omega) ?_
        refine g_iadd dX12_many_61 ?_
        refine g_lald dX12_many_62 (by assumption) (by omega) (by omega) ?_
        rw [hU n (by omega) (by omega)]
        have hi := hi n
        refine g_iload_n (j := 3) rfl dX12_many_63 ?_
        refine g_i2l (by omega) dX12_many_64 ?_
        refine g_lif_ne (tgt := 92) dX12_many_65 dX12_many_66 (by decide) (by omega) (by omega) (fun h65 => ?_) (fun h65 => ?_)
        · refine g_iinc (i := 5) dX12_many_92 rfl (by decide) rfl ls5 ?_
          refine g_goto (tgt := 39) (by decide) dX12_many_95 ?_
          rw [manF, cI_f (by omega)]
          exact ih (n + 1) (by omega) (by omega)
        · refine g_goto (tgt := 89) (by decide) dX12_many_69 ?_
          refine g_iload (i := 5) rfl dX12_many_89 ?_
          exact G.retI dX12_many_91 rfl ⟨by rw [manF, cI_t (by omega)], rfl⟩
theorem c_X12_many (w : WC) (d : Nat) (μ : Mem) {m : Nat} {F : Int → List Tm} (hA : MA w μ m F) {s : Int} (hs : i32 s) {n k ex : Int} (hn : i32 n) (hk : i32 k) (hex : ex = 0 ∨ ex = 1) : Con w (d + 11) mX12_many 0 0 [vP (some m), vI s, vI n, vI k, vI ex] μ (fun v μ2 => v = some (vI (aMany F s n k ex)) ∧ MA w μ2 m F ∧ UlF m μ μ2) := by
  have o0 := hA.1.o
  refine Con.of (by decide) (Nat.le_of_ble_eq_true rfl) rfl ?_
  refine g_aload_n (j := 0) rfl dX12_many_0 ?_
  refine g_iload_n (j := 1) rfl dX12_many_1 ?_
  refine g_callV dX12_many_2 mlX12_274 mvX12_isForm (ci := 12) ⟨by decide, rfl⟩ (by assumption) (c_X12_isForm w (d + 8) μ hA hs) sv1 rfl (by omega) (Nat.le_of_ble_eq_true rfl) (Nat.le_refl _) (Nat.le_refl _) (fun v μ2 hR => ?_)
  obtain ⟨rfl, hm⟩ := hR
  replace hm := hm.symm
  subst hm
  refine g_ifb_eq (tgt := 27) dX12_many_5 (by decide)  (fun h5 => ?_) (fun h5 => ?_)
  · refine g_ldcw dX12_many_27 kcX12_321 (z := -100000) rfl ?_
    exact G.retI dX12_many_30 rfl ⟨by rw [aMany, cI_f (fun z => by obtain ⟨z1, z2, z3⟩ := z; first | exact h5 z1 | exact h12 z2 | exact h24 z3)], hA, FrZ.rf⟩
  · refine g_iload_n (j := 2) rfl dX12_many_8 ?_
    refine g_callS dX12_many_9 mlX12_277 msX12_isN (c_X12_isN w (d + 9) μ hn) sk1 rfl (by omega) (Nat.le_of_ble_eq_true rfl) (Nat.le_refl _) (Nat.le_refl _) (fun v μ2 hR => ?_)
    obtain ⟨rfl, hm⟩ := hR
    replace hm := hm.symm
    subst hm
    refine g_ifb_eq (tgt := 27) dX12_many_12 (by decide)  (fun h12 => ?_) (fun h12 => ?_)
    · refine g_ldcw dX12_many_27 kcX12_321 (z := -100000) rfl ?_
      exact G.retI dX12_many_30 rfl ⟨by rw [aMany, cI_f (fun z => by obtain ⟨z1, z2, z3⟩ := z; first | exact h5 z1 | exact h12 z2 | exact h24 z3)], hA, FrZ.rf⟩
    · refine g_iload_n (j := 3) rfl dX12_many_15 ?_
      refine g_i2l (by omega) dX12_many_16 ?_
      refine g_lconst1 dX12_many_17 ?_
      refine g_ldc2 dX12_many_18 klX12_438 (z := 1000000) rfl ?_
      refine g_callS dX12_many_21 mlX12_105 msX12_isIn (c_X12_isIn w (d + 10) μ (x := k) (a := 1) (b := 1000000) (i64_32 hk) (by decide) (by decide)) sk3 rfl (by omega) (Nat.le_of_ble_eq_true rfl) (Nat.le_refl _) (Nat.le_refl _) (fun v μ2 hR => ?_)
      obtain ⟨rfl, hm⟩ := hR
      replace hm := hm.symm
      subst hm
      refine g_ifb_ne (tgt := 31) dX12_many_24 (by decide)  (fun h24 => ?_) (fun h24 => ?_)
      · refine g_aload_n (j := 0) rfl dX12_many_31 ?_
        refine g_iload_n (j := 1) rfl dX12_many_32 ?_
        refine g_callV dX12_many_33 mlX12_310 mvX12_laysUnlike (ci := 12) ⟨by decide, rfl⟩ (by assumption) (c_laysUnlike w d μ hA h5.1 (by have := h5.2; omega)) sv1 rfl (by omega) (Nat.le_of_ble_eq_true rfl) (Nat.le_refl _) (Nat.le_refl _) (fun v μ2 hR => ?_)
        obtain ⟨rfl, hA2, hU, hf2⟩ := hR
        have o02 := hA2.1.o
        have r242 := hA2.1.r24
        have a242 := hA2.1.a24
        have hi := uw_i64 (by have := h5.2; omega) (hA.2.1 s h5.1).2.1 (hA.2.1 s h5.1).2.2.1
        refine g_iload_n (j := 2) rfl dX12_many_36 ?_
        refine g_istore (i := 5) dX12_many_37 (by decide) rfl ls5 ?_
        refine G.post (fun v μ3 hq => ?_) (l_many12 (d := d + 11) (f := uw (F s)) hA2.1 h24 hex hi hU (3001 - n).toNat n (by omega) (by omega))
        obtain ⟨rfl, rfl⟩ := hq
        exact ⟨by rw [aMany, cI_t ⟨h5, h12, h24⟩], hA2, hf2⟩
      · refine g_ldcw dX12_many_27 kcX12_321 (z := -100000) rfl ?_
        exact G.retI dX12_many_30 rfl ⟨by rw [aMany, cI_f (fun z => by obtain ⟨z1, z2, z3⟩ := z; first | exact h5 z1 | exact h12 z2 | exact h24 z3)], hA, FrZ.rf⟩
