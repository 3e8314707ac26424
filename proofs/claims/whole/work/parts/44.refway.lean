/-! THE REFERENCE: finds, way, number, common -/
section FW
variable {w : WC} {d m : Nat} {μ : Mem} {F : Int → List Tm} {ts : List Tm} {R : Option AV → Mem → Prop}
theorem c_X12_atT (w : WC) (d : Nat) (μ : Mem) (hM : MoS w μ m) (hL : LaidOk (mL μ (m + 4)) ts) (hok : ∀ u ∈ ts, TOk u) (h5 : ts.length ≤ 5) {t s : Int} (ht : 0 ≤ t ∧ t ≤ ts.length) (hs : i64 s) : Con w (d + 1) mX12_at 0 0 [vP (some m), vI t, vJ s] μ (fun v μ2 => v = some (vJ (wy (ts.drop t.toNat) (s - 15000))) ∧ μ2 = μ) := by
  refine (c_X12_at w d μ hM (l := t) (s := s) (by omega) hs).post fun v μ2 hR => ?_
  rw [hR.1, atL_wy (fun u hu => hok u (List.mem_of_mem_drop hu)) (by rw [List.length_drop]; omega) (hL t ht.1 ht.2)]
  exact ⟨rfl, hR.2⟩
theorem MFI.wI {s : Int} {a : Nat} {g : Int → Int} (h : MFI μ m s ts) (ha : ¬ a = m + 1 ∧ ¬ a = m + 2) : MFI (wI μ a g) m s ts := by
  obtain ⟨g1, g2, g3, g4⟩ := h
  refine ⟨by rw [mI_wI, if_neg (fun z => ha.1 z.symm)]; exact g1, g2, g3, fun i u hu => ?_⟩
  rw [mI_wI, if_neg (fun z => ha.2 z.symm), mI_wI, if_neg (fun z => ha.2 z.symm), mI_wI, if_neg (fun z => ha.2 z.symm), mI_wI, if_neg (fun z => ha.2 z.symm)]
  exact g4 i u hu
/-- the x of one term -/
theorem l12_takeX (hM : MoS w μ m) (hL : LaidOk (mL μ (m + 4)) ts) {s : Int} (hs : 0 ≤ s ∧ s ≤ 3) (hI : MFI μ m s ts) {n k0 t rs : Int} {u : Tm} (h0 : 0 ≤ t) (h1 : t < ts.length) (hu : ts[t.toNat]? = some u) (hk : TOk u) (e0 : mI μ (m + 2) (4 * (5 * s + t) + 0) = tF u) (e1 : mI μ (m + 2) (4 * (5 * s + t) + 1) = tK u) (hlb : -100000 ≤ rs ∧ rs ≤ 100000) :
    ∀ (f : Nat) (y k : Int), tL u ≤ y → y + f = tH u + 1 → 0 ≤ k → k < rsum (fun z => wy (ts.drop (t + 1).toNat) (rs - 15000 - tV u z)) y f → k ≤ 9000000000000000000 →
    G w (d + 4) mX12_finds R 0 0 116 [some (vP (some m)), some (vI s), some (vI n), some (vJ k0), none, some (vJ (xW (tV u) (ts.drop (t + 1).toNat) (rs - 15000) f y k).2), none, some (vJ rs), none, some (vI t), some (vI (xW (tV u) (ts.drop (t + 1).toNat) (rs - 15000) f y k).1)] [] μ →
    G w (d + 4) mX12_finds R 0 0 57 [some (vP (some m)), some (vI s), some (vI n), some (vJ k0), none, some (vJ k), none, some (vJ rs), none, some (vI t), some (vI y)] [] μ := by
  have o0 := hM.o
  have hok := hI.2.2.1
  have h5 := hI.2.1
  have hok2 : ∀ v ∈ ts.drop (t + 1).toNat, TOk v := fun v hv => hok v (List.mem_of_mem_drop hv)
  have hl2 : (ts.drop (t + 1).toNat).length ≤ 5 := by rw [List.length_drop]; omega
  obtain ⟨⟨k1, k2, k3, k4⟩, -⟩ := hk.pv
  have hl := hk.2.2.1
  intro f
  induction f with
  | zero =>
    intro y k z1 z2 z3 z4
    simp [rsum] at z4
    omega
  | succ f ih =>
    intro y k z1 z2 z3 z4 z5 kk
    have hv3 := hk.v3 (x := y) z1 (by omega)
    have hw := wy_64 hok2 hl2 (rs - 15000 - tV u y)
    have er : rs - tV u y - 15000 = rs - 15000 - tV u y := by omega
    rw [rsum] at z4
    unfold xW at kk
    refine g_lload (i := 5) rfl dX12_finds_57 ?_
    refine g_aload_n (j := 0) rfl dX12_finds_59 ?_
    refine g_iload (i := 9) rfl dX12_finds_60 ?_
    refine g_iconst dX12_finds_62 ?_
    refine g_iadd dX12_finds_63 ?_
    refine g_lload (i := 7) rfl dX12_finds_64 ?_
    refine g_aload_n (j := 0) rfl dX12_finds_66 ?_
    refine g_iload_n (j := 1) rfl dX12_finds_67 ?_
    refine g_iload (i := 9) rfl dX12_finds_68 ?_
    refine g_iload (i := 10) rfl dX12_finds_70 ?_
    refine g_i2l (by omega) dX12_finds_72 ?_
    refine g_callV dX12_finds_73 mlX12_234 mvX12_valueOf (ci := 12) ⟨by decide, rfl⟩ (by assumption) (c_X12_valueOf w d _ hM (s := s) (i := t) (x := y) (by omega) (by omega) e0 e1 k1 k2 (by omega)) sv3 rfl (by omega) (Nat.le_of_ble_eq_true rfl) (Nat.le_refl _) (Nat.le_refl _) (fun v μ2 hR => ?_)
    obtain ⟨rfl, hm⟩ := hR
    replace hm := hm.symm
    subst hm
    rw [show pv (tK u) (tF u) y = tV u y from rfl]
    refine g_lsub dX12_finds_76 ?_
    refine g_callV dX12_finds_77 mlX12_262 mvX12_at (ci := 12) ⟨by decide, rfl⟩ (by assumption) (c_X12_atT w d _ hM hL hok h5 (t := t + 1) (s := rs - tV u y) (by omega) (by omega)) sv2 rfl (by omega) (Nat.le_of_ble_eq_true rfl) (Nat.le_refl _) (Nat.le_refl _) (fun v μ2 hR => ?_)
    obtain ⟨rfl, hm⟩ := hR
    replace hm := hm.symm
    subst hm
    rw [er]
    refine g_lif_lt (tgt := 116) dX12_finds_80 dX12_finds_81 (by decide) (by omega) (by omega) (fun h80 => ?_) (fun h80 => ?_)
    · rw [if_pos h80] at kk
      exact kk
    · refine g_lload (i := 5) rfl dX12_finds_84 ?_
      refine g_aload_n (j := 0) rfl dX12_finds_86 ?_
      refine g_iload (i := 9) rfl dX12_finds_87 ?_
      refine g_iconst dX12_finds_89 ?_
      refine g_iadd dX12_finds_90 ?_
      refine g_lload (i := 7) rfl dX12_finds_91 ?_
      refine g_aload_n (j := 0) rfl dX12_finds_93 ?_
      refine g_iload_n (j := 1) rfl dX12_finds_94 ?_
      refine g_iload (i := 9) rfl dX12_finds_95 ?_
      refine g_iload (i := 10) rfl dX12_finds_97 ?_
      refine g_i2l (by omega) dX12_finds_99 ?_
      refine g_callV dX12_finds_100 mlX12_234 mvX12_valueOf (ci := 12) ⟨by decide, rfl⟩ (by assumption) (c_X12_valueOf w d _ hM (s := s) (i := t) (x := y) (by omega) (by omega) e0 e1 k1 k2 (by omega)) sv3 rfl (by omega) (Nat.le_of_ble_eq_true rfl) (Nat.le_refl _) (Nat.le_refl _) (fun v μ2 hR => ?_)
      obtain ⟨rfl, hm⟩ := hR
      replace hm := hm.symm
      subst hm
      rw [show pv (tK u) (tF u) y = tV u y from rfl]
      refine g_lsub dX12_finds_103 ?_
      refine g_callV dX12_finds_104 mlX12_262 mvX12_at (ci := 12) ⟨by decide, rfl⟩ (by assumption) (c_X12_atT w d _ hM hL hok h5 (t := t + 1) (s := rs - tV u y) (by omega) (by omega)) sv2 rfl (by omega) (Nat.le_of_ble_eq_true rfl) (Nat.le_refl _) (Nat.le_refl _) (fun v μ2 hR => ?_)
      obtain ⟨rfl, hm⟩ := hR
      replace hm := hm.symm
      subst hm
      rw [er]
      refine g_lsub dX12_finds_107 ?_
      refine g_lstore (i := 5) dX12_finds_108 (by decide) rfl lj5 ?_
      refine g_iinc (i := 10) dX12_finds_110 rfl (by decide) rfl ls10 ?_
      refine g_goto (tgt := 57) (by decide) dX12_finds_113 ?_
      rw [if_neg (by omega)] at kk
      exact ih (y + 1) _ (by omega) (by omega) (by omega) (by omega) (by omega) kk
theorem l12_take {μ1 : Mem} (hM : MoS w μ1 m) (hL : LaidOk (mL μ1 (m + 4)) ts) {s : Int} (hs : 0 ≤ s ∧ s ≤ 3) (hI : MFI μ1 m s ts) {n k0 : Int} : ∀ (r : Nat) (t rs k : Int) (g : Int → Int) (x10 : Option AV), t + r = ts.length → 0 ≤ t → 12000 - 3000 * t ≤ rs ∧ rs ≤ 18000 + 3000 * t → 0 ≤ k → k < wy (ts.drop t.toNat) (rs - 15000) →
    G w (d + 4) mX12_finds (fun v μ2 => v = some (vI 1) ∧ ∃ g2, μ2 = wI μ1 (m + 10) g2 ∧ (∀ j, 0 ≤ j → j < t → g2 j = g j) ∧ ∀ j : Int, t ≤ j → j < ts.length → g2 j = wyX (ts.drop t.toNat) (rs - 15000) k (j - t).toNat) 0 0 36 [some (vP (some m)), some (vI s), some (vI n), some (vJ k0), none, some (vJ k), none, some (vJ rs), none, some (vI t), x10] [] (wI μ1 (m + 10) g) := by
  have hok := hI.2.2.1
  have h5 := hI.2.1
  intro r
  induction r with
  | zero =>
    intro t rs k g x10 hr h0 hl hk hk2
    have hM2 : MoS w (wI μ1 (m + 10) g) m := hM.of_wI
    have o0 := hM2.o
    have r0 := hM2.r0
    have a0 := hM2.a0
    have ec := (hI.wI (a := m + 10) (g := g) (by omega)).1
    refine g_iload (i := 9) rfl dX12_finds_36 ?_
    refine g_aload_n (j := 0) rfl dX12_finds_38 ?_
    refine g_getR dX12_finds_39 flX12_9 rfl (by assumption) (kz := 0) rfl (by assumption) ?_
    refine g_iload_n (j := 1) rfl dX12_finds_42 ?_
    refine g_iald dX12_finds_43 (by assumption) (by omega) (by omega) ?_
    rw [ec]
    refine g_icmp_ge (tgt := 146) dX12_finds_44 (by decide) (by omega) (by omega) (fun h44 => ?_) (fun h44 => ?_)
    · refine g_iconst dX12_finds_146 ?_
      exact G.retZ dX12_finds_147 rfl (Or.inr rfl) ⟨rfl, g, rfl, fun _ _ _ => rfl, fun j z1 z2 => by omega⟩
    · omega
  | succ r ih =>
    intro t rs k g x10 hr h0 hl hk hk2
    have hM2 : MoS w (wI μ1 (m + 10) g) m := hM.of_wI
    have o0 := hM2.o
    have r0 := hM2.r0
    have a0 := hM2.a0
    have r30 := hM2.r30
    have a30 := hM2.a30
    have hI2 := hI.wI (a := m + 10) (g := g) (by omega)
    have ec := hI2.1
    obtain ⟨u, hu, hku, e0, e1, e2, e3⟩ := hI2.at (t := t) h0 (by omega)
    have hd := drop_at h0 (by omega) hu
    have hl3 := hku.2.2.1
    obtain ⟨⟨k1, k2, k3, k4⟩, -⟩ := hku.pv
    have hwy : wy (ts.drop t.toNat) (rs - 15000) = rsum (fun z => wy (ts.drop (t + 1).toNat) (rs - 15000 - tV u z)) (tL u) (tH u - tL u + 1).toNat := by rw [hd, wy]
    have hp := xW_ok (tV u) (ts.drop (t + 1).toNat) (rs - 15000) (tH u - tL u + 1).toNat (tL u) k hk (by rw [← hwy]; exact hk2)
    have hw := wy_64 (ts := ts.drop t.toNat) (fun v hv => hok v (List.mem_of_mem_drop hv)) (by rw [List.length_drop]; omega) (rs - 15000)
    have hv3 := hku.v3 (x := (xW (tV u) (ts.drop (t + 1).toNat) (rs - 15000) (tH u - tL u + 1).toNat (tL u) k).1) (by omega) (by omega)
    refine g_iload (i := 9) rfl dX12_finds_36 ?_
    refine g_aload_n (j := 0) rfl dX12_finds_38 ?_
    refine g_getR dX12_finds_39 flX12_9 rfl (by assumption) (kz := 0) rfl (by assumption) ?_
    refine g_iload_n (j := 1) rfl dX12_finds_42 ?_
    refine g_iald dX12_finds_43 (by assumption) (by omega) (by omega) ?_
    rw [ec]
    refine g_icmp_ge (tgt := 146) dX12_finds_44 (by decide) (by omega) (by omega) (fun h44 => ?_) (fun h44 => ?_)
    · omega
    · refine g_aload_n (j := 0) rfl dX12_finds_47 ?_
      refine g_iload_n (j := 1) rfl dX12_finds_48 ?_
      refine g_iload (i := 9) rfl dX12_finds_49 ?_
      refine g_iconst dX12_finds_51 ?_
      refine g_callV dX12_finds_52 mlX12_93 mvX12_of (ci := 12) ⟨by decide, rfl⟩ (by assumption) (c_X12_of w d _ hM2 (s := s) (i := t) (k := 2) (by omega) (by omega) (by omega)) sv3 rfl (by omega) (Nat.le_of_ble_eq_true rfl) (Nat.le_refl _) (Nat.le_refl _) (fun v μ2 hR => ?_)
      obtain ⟨rfl, hm⟩ := hR
      replace hm := hm.symm
      subst hm
      rw [e2]
      refine g_istore (i := 10) dX12_finds_55 (by decide) rfl ls10 ?_
      refine l12_takeX hM2 (by rw [mL_wI]; exact hL) hs hI2 h0 (by omega) hu hku e0 e1 (by omega) (tH u - tL u + 1).toNat (tL u) k (Int.le_refl _) (by omega) hk (by rw [← hwy]; exact hk2) (by omega) ?_
      generalize hP : xW (tV u) (ts.drop (t + 1).toNat) (rs - 15000) (tH u - tL u + 1).toNat (tL u) k = P at hp hv3 ⊢
      have hM3 : MoS w (sI (wI μ1 (m + 10) g) (m + 10) t P.1) m := hM2.of_sI
      refine g_aload_n (j := 0) rfl dX12_finds_116 ?_
      refine g_getR dX12_finds_117 flX12_57 rfl (by assumption) (kz := 30) rfl (by assumption) ?_
      refine g_iload (i := 9) rfl dX12_finds_120 ?_
      refine g_iload (i := 10) rfl dX12_finds_122 ?_
      refine g_iast dX12_finds_124 (by assumption) (by omega) (by omega) ?_
      refine g_lload (i := 7) rfl dX12_finds_125 ?_
      refine g_aload_n (j := 0) rfl dX12_finds_127 ?_
      refine g_iload_n (j := 1) rfl dX12_finds_128 ?_
      refine g_iload (i := 9) rfl dX12_finds_129 ?_
      refine g_iload (i := 10) rfl dX12_finds_131 ?_
      refine g_i2l (by omega) dX12_finds_133 ?_
      refine g_callV dX12_finds_134 mlX12_234 mvX12_valueOf (ci := 12) ⟨by decide, rfl⟩ (by simp only [IsO_sI, IsO_sL, IsO_sR, IsO_wI, IsO_wL, IsA_sI, IsA_sL, IsA_sR, IsA_wI, IsA_wL, mR_sI, mR_sL, mR_wI, mR_wL]; assumption) (c_X12_valueOf w d _ hM3 (s := s) (i := t) (x := P.1) (by omega) (by omega) (by rw [mI_sI, if_neg (by omega)]; exact e0) (by rw [mI_sI, if_neg (by omega)]; exact e1) k1 k2 (by omega)) sv3 rfl (by omega) (Nat.le_of_ble_eq_true rfl) (Nat.le_refl _) (Nat.le_refl _) (fun v μ2 hR => ?_)
      obtain ⟨rfl, hm⟩ := hR
      replace hm := hm.symm
      subst hm
      rw [show pv (tK u) (tF u) P.1 = tV u P.1 from rfl]
      refine g_lsub dX12_finds_137 ?_
      refine g_lstore (i := 7) dX12_finds_138 (by decide) rfl lj7 ?_
      refine g_iinc (i := 9) dX12_finds_140 rfl (by decide) rfl ls9 ?_
      refine g_goto (tgt := 36) (by decide) dX12_finds_143 ?_
      rw [sI_wI]
      have er : rs - tV u P.1 - 15000 = rs - 15000 - tV u P.1 := by omega
      refine G.post (fun v μ2 hq => ?_) (ih (t + 1) (rs - tV u P.1) P.2 _ _ (by omega) (by omega) (by omega) hp.2.1 (by rw [er]; exact hp.2.2))
      obtain ⟨rfl, g2, rfl, q1, q2⟩ := hq
      refine ⟨rfl, g2, rfl, fun j z1 z2 => ?_, fun j z1 z2 => ?_⟩
      · rw [q1 j z1 (by omega)]
        exact if_neg (by omega)
      · rw [hd]
        rcases (by omega : j = t ∨ t + 1 ≤ j) with rfl | z
        · rw [q1 j h0 (by omega), if_pos rfl, show (j - j).toNat = 0 by omega, wyX, hP]
        · rw [q2 j z z2, show (j - t).toNat = (j - (t + 1)).toNat + 1 by omega, wyX, hP, er]
theorem c_X12_finds (w : WC) (d : Nat) (μ : Mem) (hA : MA w μ m F) {s n k : Int} (hs : 0 ≤ s ∧ s ≤ 3) (hn : -3000 ≤ n ∧ n ≤ 3000) (hk : i64 k) : Con w (d + 5) mX12_finds 0 0 [vP (some m), vI s, vI n, vJ k] μ (fun v μ2 => v = some (vI (bI (0 ≤ k ∧ k < wy (F s) n))) ∧ MA w μ2 m F ∧ FrM m (fun a => a = m + 4 ∨ a = m + 10) (fun j => j = 21) μ μ2 ∧ (0 ≤ k ∧ k < wy (F s) n → ∀ j : Int, 0 ≤ j → j < (F s).length → mI μ2 (m + 10) j = wyX (F s) n k j.toNat)) := by
  have o0 := hA.o
  refine Con.of (by decide) (Nat.le_of_ble_eq_true rfl) rfl ?_
  refine g_aload_n (j := 0) rfl dX12_finds_0 ?_
  refine g_iload_n (j := 1) rfl dX12_finds_1 ?_
  refine g_callV dX12_finds_2 mlX12_282 mvX12_lays (ci := 12) ⟨by decide, rfl⟩ (by assumption) (c_X12_lays w d μ hA hs) sv1 rfl (by omega) (Nat.le_of_ble_eq_true rfl) (Nat.le_refl _) (Nat.le_refl _) (fun v μ2 hR => ?_)
  obtain ⟨rfl, hA2, hL, hf⟩ := hR
  have o2 := hA2.o
  have hw := wy_64 (hA2.ok hs) (hA2.l5 hs) n
  refine g_lload_n (j := 3) rfl dX12_finds_5 ?_
  refine g_lconst0 dX12_finds_6 ?_
  refine g_aload_n (j := 0) rfl dX12_finds_7 ?_
  refine g_iload_n (j := 2) rfl dX12_finds_8 ?_
  refine g_callV dX12_finds_9 mlX12_285 mvX12_waysOf (ci := 12) ⟨by decide, rfl⟩ (by assumption) (c_X12_wy w d μ2 hA2.1 hL (hA2.ok hs) (hA2.l5 hs) (n := n) (by omega)) sv1 rfl (by omega) (Nat.le_of_ble_eq_true rfl) (Nat.le_refl _) (Nat.le_refl _) (fun v μ4 hR => ?_)
  obtain ⟨rfl, hm⟩ := hR
  replace hm := hm.symm
  subst hm
  refine g_lconst1 dX12_finds_12 ?_
  refine g_lsub dX12_finds_13 ?_
  refine g_callS dX12_finds_14 mlX12_105 msX12_isIn (c_X12_isIn w d μ2 (x := k) (a := 0) (b := wy (F s) n - 1) hk (by omega) (by omega)) sk3 rfl (by omega) (Nat.le_of_ble_eq_true rfl) (Nat.le_refl _) (Nat.le_refl _) (fun v μ4 hR => ?_)
  obtain ⟨rfl, hm⟩ := hR
  replace hm := hm.symm
  subst hm
  refine g_ifb_ne (tgt := 22) dX12_finds_17 (by decide)  (fun h17 => ?_) (fun h17 => ?_)
  · refine g_lload_n (j := 3) rfl dX12_finds_22 ?_
    refine g_lstore (i := 5) dX12_finds_23 (by decide) rfl lj5 ?_
    refine g_iload_n (j := 2) rfl dX12_finds_25 ?_
    refine g_sipush dX12_finds_26 (by omega) ?_
    refine g_iadd dX12_finds_29 ?_
    refine g_i2l (by omega) dX12_finds_30 ?_
    refine g_lstore (i := 7) dX12_finds_31 (by decide) rfl lj7 ?_
    refine g_iconst dX12_finds_33 ?_
    refine g_istore (i := 9) dX12_finds_34 (by decide) rfl ls9 ?_
    have := l12_take (d := d + 1) hA2.1 hL hs (hA2.2.1 s hs) (n := n) (k0 := k) (F s).length 0 (n + 15000) k (mI μ2 (m + 10)) none (by omega) (by omega) (by omega) (by omega) (by rw [show ((F s).drop (0 : Int).toNat) = F s from rfl, show n + 15000 - 15000 = n by omega]; omega)
    rw [wI_eta] at this
    refine G.post (fun v μ3 hq => ?_) this
    obtain ⟨rfl, g2, rfl, -, q2⟩ := hq
    have hf2 : FrM m (fun a => a = m + 10) (fun _ => False) μ2 (wI μ2 (m + 10) g2) := FrM.wI rfl (by omega)
    refine ⟨by rw [bI_1 (by omega)], hf2.MA hA2 (by omega) ⟨fun z => z, fun z => z⟩, (hf.mono (fun _ z => Or.inl z) (fun _ z => z)).tr (hf2.mono (fun _ z => Or.inr z) (fun _ z => z.elim)), fun _ j z1 z2 => ?_⟩
    rw [mI_wI, if_pos rfl, q2 j z1 z2, show j - 0 = j by omega, show n + 15000 - 15000 = n by omega]
    rfl
  · refine g_iconst dX12_finds_20 ?_
    exact G.retZ dX12_finds_21 rfl (Or.inl rfl) ⟨by rw [bI_0 (by omega)], hA2, hf.mono (fun _ z => Or.inl z) (fun _ z => z), fun z => by omega⟩
theorem c_X12_way (w : WC) (d : Nat) (μ : Mem) (hA : MA w μ m F) {s n k i : Int} (hs : i32 s) (hn : i32 n) (hk : i64 k) (hi : i32 i) : Con w (d + 6) mX12_way 0 0 [vP (some m), vI s, vI n, vJ k, vI i] μ (Bm w μ m F (vI (aWay F s n k i))) := by
  have o0 := hA.o
  refine Con.of (by decide) (Nat.le_of_ble_eq_true rfl) rfl ?_
  refine g_aload_n (j := 0) rfl dX12_way_0 ?_
  refine g_iload_n (j := 1) rfl dX12_way_1 ?_
  refine g_callV dX12_way_2 mlX12_274 mvX12_isForm (ci := 12) ⟨by decide, rfl⟩ (by assumption) (c_X12_isForm w d μ hA hs) sv1 rfl (by omega) (Nat.le_of_ble_eq_true rfl) (Nat.le_refl _) (Nat.le_refl _) (fun v μ2 hR => ?_)
  obtain ⟨rfl, hm⟩ := hR
  replace hm := hm.symm
  subst hm
  refine g_ifb_eq (tgt := 45) dX12_way_5 (by decide)  (fun h5 => ?_) (fun h5 => ?_)
  · refine g_ldcw dX12_way_45 kcX12_321 (z := -100000) rfl ?_
    exact G.retI dX12_way_48 rfl (by rw [aWay, cI_f (fun z => h5 ⟨z.1.1, by have := z.1.2; omega⟩)]; exact Bm.no hA)
  · refine g_iload_n (j := 2) rfl dX12_way_8 ?_
    refine g_callS dX12_way_9 mlX12_277 msX12_isN (c_X12_isN w d μ hn) sk1 rfl (by omega) (Nat.le_of_ble_eq_true rfl) (Nat.le_refl _) (Nat.le_refl _) (fun v μ2 hR => ?_)
    obtain ⟨rfl, hm⟩ := hR
    replace hm := hm.symm
    subst hm
    refine g_ifb_eq (tgt := 45) dX12_way_12 (by decide)  (fun h12 => ?_) (fun h12 => ?_)
    · refine g_ldcw dX12_way_45 kcX12_321 (z := -100000) rfl ?_
      exact G.retI dX12_way_48 rfl (by rw [aWay, cI_f (fun z => h12 z.2.1)]; exact Bm.no hA)
    · refine g_aload_n (j := 0) rfl dX12_way_15 ?_
      refine g_iload_n (j := 1) rfl dX12_way_16 ?_
      refine g_iload (i := 5) rfl dX12_way_17 ?_
      refine g_callV dX12_way_19 mlX12_313 mvX12_isTerm (ci := 12) ⟨by decide, rfl⟩ (by assumption) (c_X12_isTerm w d μ hA hs hi) sv2 rfl (by omega) (Nat.le_of_ble_eq_true rfl) (Nat.le_refl _) (Nat.le_refl _) (fun v μ2 hR => ?_)
      obtain ⟨rfl, hm⟩ := hR
      replace hm := hm.symm
      subst hm
      refine g_ifb_eq (tgt := 45) dX12_way_22 (by decide)  (fun h22 => ?_) (fun h22 => ?_)
      · refine g_ldcw dX12_way_45 kcX12_321 (z := -100000) rfl ?_
        exact G.retI dX12_way_48 rfl (by rw [aWay, cI_f (fun z => h22 z.1)]; exact Bm.no hA)
      · refine g_aload_n (j := 0) rfl dX12_way_25 ?_
        refine g_iload_n (j := 1) rfl dX12_way_26 ?_
        refine g_iload_n (j := 2) rfl dX12_way_27 ?_
        refine g_lload_n (j := 3) rfl dX12_way_28 ?_
        refine g_callV dX12_way_29 mlX12_317 mvX12_finds (ci := 12) ⟨by decide, rfl⟩ (by assumption) (c_X12_finds w d μ hA h5.1 h12 hk) sv3 rfl (by omega) (Nat.le_of_ble_eq_true rfl) (Nat.le_refl _) (Nat.le_refl _) (fun v μ2 hR => ?_)
        obtain ⟨rfl, hA2, hf, hx⟩ := hR
        have hf2 := hf.mono (P2 := Cm m) (J2 := Jm) (fun a z => by unfold Cm; omega) (fun j z => Or.inl z)
        have o2 := hA2.1.o
        have r30 := hA2.1.r30
        have a30 := hA2.1.a30
        have h5l := hA.l5 h5.1
        have hi0 := h22.2.1
        have hi1 := h22.2.2
        refine g_ifb_eq (tgt := 45) dX12_way_32 (by decide)  (fun h32 => ?_) (fun h32 => ?_)
        · refine g_ldcw dX12_way_45 kcX12_321 (z := -100000) rfl ?_
          exact G.retI dX12_way_48 rfl ⟨by rw [aWay, cI_f (fun z => h32 z.2.2)], hA2, hf2⟩
        · refine g_aload_n (j := 0) rfl dX12_way_35 ?_
          refine g_getR dX12_way_36 flX12_57 rfl (by assumption) (kz := 30) rfl (by assumption) ?_
          refine g_iload (i := 5) rfl dX12_way_39 ?_
          refine g_iald dX12_way_41 (by assumption) (by omega) (by omega) ?_
          refine g_goto (tgt := 48) (by decide) dX12_way_42 ?_
          rw [hx h32 i hi0 hi1]
          exact G.retI dX12_way_48 rfl ⟨by rw [aWay, cI_t ⟨h22, h12, h32⟩], hA2, hf2⟩
theorem l12_ahX (hM : MoS w μ m) (hL : LaidOk (mL μ (m + 4)) ts) {s : Int} (hs : 0 ≤ s ∧ s ≤ 3) (hI : MFI μ m s ts) {n a0 a1 a2 a3 a4 t rs rt : Int} {u : Tm} (h0 : 0 ≤ t) (h1 : t < ts.length) (hu : ts[t.toNat]? = some u) (hk : TOk u) (e0 : mI μ (m + 2) (4 * (5 * s + t) + 0) = tF u) (e1 : mI μ (m + 2) (4 * (5 * s + t) + 1) = tK u) (hlb : -100000 ≤ rs ∧ rs ≤ 100000) (hrt : mI μ (m + 10) t = rt) (hrb : tL u ≤ rt ∧ rt ≤ tH u) :
    ∀ (f : Nat) (y a : Int), tL u ≤ y → y + f = rt →
    (∀ x13 : Option AV, G w (d + 4) mX12_number R 0 0 178 [some (vP (some m)), some (vI s), some (vI n), some (vI a0), some (vI a1), some (vI a2), some (vI a3), some (vI a4), some (vJ (a + rsum (fun z => wy (ts.drop (t + 1).toNat) (rs - 15000 - tV u z)) y f)), none, some (vJ rs), none, some (vI t), x13] [] μ) →
    G w (d + 4) mX12_number R 0 0 134 [some (vP (some m)), some (vI s), some (vI n), some (vI a0), some (vI a1), some (vI a2), some (vI a3), some (vI a4), some (vJ a), none, some (vJ rs), none, some (vI t), some (vI y)] [] μ := by
  have o0 := hM.o
  have r30 := hM.r30
  have a30 := hM.a30
  have hok := hI.2.2.1
  have h5 := hI.2.1
  obtain ⟨⟨k1, k2, k3, k4⟩, -⟩ := hk.pv
  have hl := hk.2.2.1
  intro f
  induction f with
  | zero =>
    intro y a z1 z2 kk
    simp only [rsum, Int.add_zero] at kk
    refine g_iload (i := 13) rfl dX12_number_134 ?_
    refine g_aload_n (j := 0) rfl dX12_number_136 ?_
    refine g_getR dX12_number_137 flX12_57 rfl (by assumption) (kz := 30) rfl (by assumption) ?_
    refine g_iload (i := 12) rfl dX12_number_140 ?_
    refine g_iald dX12_number_142 (by assumption) (by omega) (by omega) ?_
    rw [hrt]
    refine g_icmp_ge (tgt := 178) dX12_number_143 (by decide) (by omega) (by omega) (fun h143 => ?_) (fun h143 => ?_)
    · exact kk _
    · omega
  | succ f ih =>
    intro y a z1 z2 kk
    have hv3 := hk.v3 (x := y) z1 (by omega)
    have er : rs - tV u y - 15000 = rs - 15000 - tV u y := by omega
    refine g_iload (i := 13) rfl dX12_number_134 ?_
    refine g_aload_n (j := 0) rfl dX12_number_136 ?_
    refine g_getR dX12_number_137 flX12_57 rfl (by assumption) (kz := 30) rfl (by assumption) ?_
    refine g_iload (i := 12) rfl dX12_number_140 ?_
    refine g_iald dX12_number_142 (by assumption) (by omega) (by omega) ?_
    rw [hrt]
    refine g_icmp_ge (tgt := 178) dX12_number_143 (by decide) (by omega) (by omega) (fun h143 => ?_) (fun h143 => ?_)
    · omega
    · refine g_lload (i := 8) rfl dX12_number_146 ?_
      refine g_aload_n (j := 0) rfl dX12_number_148 ?_
      refine g_iload (i := 12) rfl dX12_number_149 ?_
      refine g_iconst dX12_number_151 ?_
      refine g_iadd dX12_number_152 ?_
      refine g_lload (i := 10) rfl dX12_number_153 ?_
      refine g_aload_n (j := 0) rfl dX12_number_155 ?_
      refine g_iload_n (j := 1) rfl dX12_number_156 ?_
      refine g_iload (i := 12) rfl dX12_number_157 ?_
      refine g_iload (i := 13) rfl dX12_number_159 ?_
      refine g_i2l (by omega) dX12_number_161 ?_
      refine g_callV dX12_number_162 mlX12_234 mvX12_valueOf (ci := 12) ⟨by decide, rfl⟩ (by assumption) (c_X12_valueOf w d _ hM (s := s) (i := t) (x := y) (by omega) (by omega) e0 e1 k1 k2 (by omega)) sv3 rfl (by omega) (Nat.le_of_ble_eq_true rfl) (Nat.le_refl _) (Nat.le_refl _) (fun v μ2 hR => ?_)
      obtain ⟨rfl, hm⟩ := hR
      replace hm := hm.symm
      subst hm
      rw [show pv (tK u) (tF u) y = tV u y from rfl]
      refine g_lsub dX12_number_165 ?_
      refine g_callV dX12_number_166 mlX12_262 mvX12_at (ci := 12) ⟨by decide, rfl⟩ (by assumption) (c_X12_atT w d _ hM hL hok h5 (t := t + 1) (s := rs - tV u y) (by omega) (by omega)) sv2 rfl (by omega) (Nat.le_of_ble_eq_true rfl) (Nat.le_refl _) (Nat.le_refl _) (fun v μ2 hR => ?_)
      obtain ⟨rfl, hm⟩ := hR
      replace hm := hm.symm
      subst hm
      rw [er]
      refine g_ladd dX12_number_169 ?_
      refine g_lstore (i := 8) dX12_number_170 (by decide) rfl lj8 ?_
      refine g_iinc (i := 13) dX12_number_172 rfl (by decide) rfl ls13 ?_
      refine g_goto (tgt := 134) (by decide) dX12_number_175 ?_
      refine ih (y + 1) _ (by omega) (by omega) fun x13 => ?_
      rw [rsum, ← Int.add_assoc] at kk
      exact kk x13
theorem l12_number (hM : MoS w μ m) (hL : LaidOk (mL μ (m + 4)) ts) {s : Int} (hs : 0 ≤ s ∧ s ≤ 3) (hI : MFI μ m s ts) (hr32 : ∀ j, 0 ≤ j → j < 5 → i32 (mI μ (m + 10) j)) {n a0 a1 a2 a3 a4 : Int} : ∀ (r : Nat) (t rs a : Int) (x13 : Option AV), t + r = ts.length → 0 ≤ t → 12000 - 3000 * t ≤ rs ∧ rs ≤ 18000 + 3000 * t →
    G w (d + 4) mX12_number (fun v μ2 => v = some (vJ (cI (isWy (ts.drop t.toNat) t (mI μ (m + 10)) (rs - 15000)) (a + ahW (ts.drop t.toNat) t (mI μ (m + 10)) (rs - 15000)) (-1))) ∧ μ2 = μ) 0 0 77 [some (vP (some m)), some (vI s), some (vI n), some (vI a0), some (vI a1), some (vI a2), some (vI a3), some (vI a4), some (vJ a), none, some (vJ rs), none, some (vI t), x13] [] μ := by
  have o0 := hM.o
  have r0 := hM.r0
  have a0' := hM.a0
  have r30 := hM.r30
  have a30 := hM.a30
  have hok := hI.2.2.1
  have h5 := hI.2.1
  have ec := hI.1
  intro r
  induction r with
  | zero =>
    intro t rs a x13 hr h0 hl
    have hd : ts.drop t.toNat = [] := List.drop_eq_nil_of_le (by omega)
    rw [hd]
    refine g_iload (i := 12) rfl dX12_number_77 ?_
    refine g_aload_n (j := 0) rfl dX12_number_79 ?_
    refine g_getR dX12_number_80 flX12_9 rfl (by assumption) (kz := 0) rfl (by assumption) ?_
    refine g_iload_n (j := 1) rfl dX12_number_83 ?_
    refine g_iald dX12_number_84 (by assumption) (by omega) (by omega) ?_
    rw [ec]
    refine g_icmp_ge (tgt := 204) dX12_number_85 (by decide) (by omega) (by omega) (fun h85 => ?_) (fun h85 => ?_)
    · refine g_lload (i := 10) rfl dX12_number_204 ?_
      refine g_ldc2 dX12_number_206 klX12_322 (z := 15000) rfl ?_
      refine g_lif_ne (tgt := 218) dX12_number_209 dX12_number_210 (by decide) (by omega) (by omega) (fun h209 => ?_) (fun h209 => ?_)
      · refine g_ldc2 dX12_number_218 klX12_280 (z := -1) rfl ?_
        exact G.retJ dX12_number_221 rfl ⟨by rw [cI_f (fun z => by unfold isWy at z; omega)], rfl⟩
      · refine g_lload (i := 8) rfl dX12_number_213 ?_
        refine g_goto (tgt := 221) (by decide) dX12_number_215 ?_
        exact G.retJ dX12_number_221 rfl ⟨by rw [cI_t (by unfold isWy; omega), ahW, Int.add_zero], rfl⟩
    · omega
  | succ r ih =>
    intro t rs a x13 hr h0 hl
    obtain ⟨u, hu, hku, e0, e1, e2, e3⟩ := hI.at (t := t) h0 (by omega)
    have hd := drop_at h0 (by omega) hu
    have hl3 := hku.2.2.1
    obtain ⟨⟨k1, k2, k3, k4⟩, -⟩ := hku.pv
    have hrt := hr32 t h0 (by omega)
    rw [hd]
    refine g_iload (i := 12) rfl dX12_number_77 ?_
    refine g_aload_n (j := 0) rfl dX12_number_79 ?_
    refine g_getR dX12_number_80 flX12_9 rfl (by assumption) (kz := 0) rfl (by assumption) ?_
    refine g_iload_n (j := 1) rfl dX12_number_83 ?_
    refine g_iald dX12_number_84 (by assumption) (by omega) (by omega) ?_
    rw [ec]
    refine g_icmp_ge (tgt := 204) dX12_number_85 (by decide) (by omega) (by omega) (fun h85 => ?_) (fun h85 => ?_)
    · omega
    · refine g_aload_n (j := 0) rfl dX12_number_88 ?_
      refine g_getR dX12_number_89 flX12_57 rfl (by assumption) (kz := 30) rfl (by assumption) ?_
      refine g_iload (i := 12) rfl dX12_number_92 ?_
      refine g_iald dX12_number_94 (by assumption) (by omega) (by omega) ?_
      refine g_i2l (by omega) dX12_number_95 ?_
      refine g_aload_n (j := 0) rfl dX12_number_96 ?_
      refine g_iload_n (j := 1) rfl dX12_number_97 ?_
      refine g_iload (i := 12) rfl dX12_number_98 ?_
      refine g_iconst dX12_number_100 ?_
      refine g_callV dX12_number_101 mlX12_93 mvX12_of (ci := 12) ⟨by decide, rfl⟩ (by assumption) (c_X12_of w d _ hM (s := s) (i := t) (k := 2) (by omega) (by omega) (by omega)) sv3 rfl (by omega) (Nat.le_of_ble_eq_true rfl) (Nat.le_refl _) (Nat.le_refl _) (fun v μ2 hR => ?_)
      obtain ⟨rfl, hm⟩ := hR
      replace hm := hm.symm
      subst hm
      rw [e2]
      refine g_i2l (by omega) dX12_number_104 ?_
      refine g_aload_n (j := 0) rfl dX12_number_105 ?_
      refine g_iload_n (j := 1) rfl dX12_number_106 ?_
      refine g_iload (i := 12) rfl dX12_number_107 ?_
      refine g_iconst dX12_number_109 ?_
      refine g_callV dX12_number_110 mlX12_93 mvX12_of (ci := 12) ⟨by decide, rfl⟩ (by assumption) (c_X12_of w d _ hM (s := s) (i := t) (k := 3) (by omega) (by omega) (by omega)) sv3 rfl (by omega) (Nat.le_of_ble_eq_true rfl) (Nat.le_refl _) (Nat.le_refl _) (fun v μ2 hR => ?_)
      obtain ⟨rfl, hm⟩ := hR
      replace hm := hm.symm
      subst hm
      rw [e3]
      refine g_i2l (by omega) dX12_number_113 ?_
      refine g_callS dX12_number_114 mlX12_105 msX12_isIn (c_X12_isIn w d _ (x := mI μ (m + 10) t) (a := tL u) (b := tH u) (by omega) (by omega) (by omega)) sk3 rfl (by omega) (Nat.le_of_ble_eq_true rfl) (Nat.le_refl _) (Nat.le_refl _) (fun v μ2 hR => ?_)
      obtain ⟨rfl, hm⟩ := hR
      replace hm := hm.symm
      subst hm
      refine g_ifb_ne (tgt := 124) dX12_number_117 (by decide)  (fun h117 => ?_) (fun h117 => ?_)
      · have hv3 := hku.v3 h117.1 h117.2
        refine g_aload_n (j := 0) rfl dX12_number_124 ?_
        refine g_iload_n (j := 1) rfl dX12_number_125 ?_
        refine g_iload (i := 12) rfl dX12_number_126 ?_
        refine g_iconst dX12_number_128 ?_
        refine g_callV dX12_number_129 mlX12_93 mvX12_of (ci := 12) ⟨by decide, rfl⟩ (by assumption) (c_X12_of w d _ hM (s := s) (i := t) (k := 2) (by omega) (by omega) (by omega)) sv3 rfl (by omega) (Nat.le_of_ble_eq_true rfl) (Nat.le_refl _) (Nat.le_refl _) (fun v μ2 hR => ?_)
        obtain ⟨rfl, hm⟩ := hR
        replace hm := hm.symm
        subst hm
        rw [e2]
        refine g_istore (i := 13) dX12_number_132 (by decide) rfl ls13 ?_
        refine l12_ahX hM hL hs hI h0 (by omega) hu hku e0 e1 (by omega) rfl h117 (mI μ (m + 10) t - tL u).toNat (tL u) a (Int.le_refl _) (by omega) fun y13 => ?_
        refine g_lload (i := 10) rfl dX12_number_178 ?_
        refine g_aload_n (j := 0) rfl dX12_number_180 ?_
        refine g_iload_n (j := 1) rfl dX12_number_181 ?_
        refine g_iload (i := 12) rfl dX12_number_182 ?_
        refine g_aload_n (j := 0) rfl dX12_number_184 ?_
        refine g_getR dX12_number_185 flX12_57 rfl (by assumption) (kz := 30) rfl (by assumption) ?_
        refine g_iload (i := 12) rfl dX12_number_188 ?_
        refine g_iald dX12_number_190 (by assumption) (by omega) (by omega) ?_
        refine g_i2l (by omega) dX12_number_191 ?_
        refine g_callV dX12_number_192 mlX12_234 mvX12_valueOf (ci := 12) ⟨by decide, rfl⟩ (by assumption) (c_X12_valueOf w d _ hM (s := s) (i := t) (x := mI μ (m + 10) t) (by omega) (by omega) e0 e1 k1 k2 (by omega)) sv3 rfl (by omega) (Nat.le_of_ble_eq_true rfl) (Nat.le_refl _) (Nat.le_refl _) (fun v μ2 hR => ?_)
        obtain ⟨rfl, hm⟩ := hR
        replace hm := hm.symm
        subst hm
        rw [show pv (tK u) (tF u) (mI μ (m + 10) t) = tV u (mI μ (m + 10) t) from rfl]
        refine g_lsub dX12_number_195 ?_
        refine g_lstore (i := 10) dX12_number_196 (by decide) rfl lj10 ?_
        refine g_iinc (i := 12) dX12_number_198 rfl (by decide) rfl ls12 ?_
        refine g_goto (tgt := 77) (by decide) dX12_number_201 ?_
        have er : rs - tV u (mI μ (m + 10) t) - 15000 = rs - 15000 - tV u (mI μ (m + 10) t) := by omega
        refine G.post (fun v μ2 hq => ?_) (ih (t + 1) (rs - tV u (mI μ (m + 10) t)) _ _ (by omega) (by omega) (by omega))
        rw [hq.1, er]
        refine ⟨congrArg (fun z => some (vJ z)) ?_, hq.2⟩
        by_cases hz : isWy (ts.drop (t + 1).toNat) (t + 1) (mI μ (m + 10)) (rs - 15000 - tV u (mI μ (m + 10) t))
        · rw [cI_t hz, cI_t ⟨h117, hz⟩, ahW, Int.add_assoc]
        · rw [cI_f hz, cI_f (fun z => hz z.2)]
      · refine g_ldc2 dX12_number_120 klX12_280 (z := -1) rfl ?_
        exact G.retJ dX12_number_123 rfl ⟨by rw [cI_f (fun z => h117 z.1)], rfl⟩
theorem c_X12_number (w : WC) (d : Nat) (μ : Mem) (hA : MA w μ m F) {s n a0 a1 a2 a3 a4 : Int} (hs : i32 s) (hn : i32 n) (h0 : i32 a0) (h1 : i32 a1) (h2 : i32 a2) (h3 : i32 a3) (h4 : i32 a4) : Con w (d + 5) mX12_number 0 0 [vP (some m), vI s, vI n, vI a0, vI a1, vI a2, vI a3, vI a4] μ (Bm w μ m F (vJ (aNumber F s n a0 a1 a2 a3 a4))) := by
  have o0 := hA.o
  have r30 := hA.1.r30
  have a30 := hA.1.a30
  refine Con.of (by decide) (Nat.le_of_ble_eq_true rfl) rfl ?_
  refine g_aload_n (j := 0) rfl dX12_number_0 ?_
  refine g_iload_n (j := 1) rfl dX12_number_1 ?_
  refine g_callV dX12_number_2 mlX12_274 mvX12_isForm (ci := 12) ⟨by decide, rfl⟩ (by assumption) (c_X12_isForm w d μ hA hs) sv1 rfl (by omega) (Nat.le_of_ble_eq_true rfl) (Nat.le_refl _) (Nat.le_refl _) (fun v μ2 hR => ?_)
  obtain ⟨rfl, hm⟩ := hR
  replace hm := hm.symm
  subst hm
  refine g_ifb_eq (tgt := 15) dX12_number_5 (by decide)  (fun h5 => ?_) (fun h5 => ?_)
  · refine g_ldc2 dX12_number_15 klX12_280 (z := -1) rfl ?_
    exact G.retJ dX12_number_18 rfl (by rw [aNumber, cI_f (fun z => h5 z.1)]; exact Bm.no hA)
  · refine g_iload_n (j := 2) rfl dX12_number_8 ?_
    refine g_callS dX12_number_9 mlX12_277 msX12_isN (c_X12_isN w d μ hn) sk1 rfl (by omega) (Nat.le_of_ble_eq_true rfl) (Nat.le_refl _) (Nat.le_refl _) (fun v μ2 hR => ?_)
    obtain ⟨rfl, hm⟩ := hR
    replace hm := hm.symm
    subst hm
    refine g_ifb_ne (tgt := 19) dX12_number_12 (by decide)  (fun h12 => ?_) (fun h12 => ?_)
    · refine g_aload_n (j := 0) rfl dX12_number_19 ?_
      refine g_getR dX12_number_20 flX12_57 rfl (by assumption) (kz := 30) rfl (by assumption) ?_
      refine g_iconst dX12_number_23 ?_
      refine g_iload_n (j := 3) rfl dX12_number_24 ?_
      refine g_iast dX12_number_25 (by assumption) (by omega) (by omega) ?_
      refine g_aload_n (j := 0) rfl dX12_number_26 ?_
      refine g_getR dX12_number_27 flX12_57 rfl (by simp only [IsO_sI, IsO_sL, IsO_sR, IsO_wI, IsO_wL, IsA_sI, IsA_sL, IsA_sR, IsA_wI, IsA_wL, mR_sI, mR_sL, mR_wI, mR_wL]; assumption) (kz := 30) rfl (by simp only [IsO_sI, IsO_sL, IsO_sR, IsO_wI, IsO_wL, IsA_sI, IsA_sL, IsA_sR, IsA_wI, IsA_wL, mR_sI, mR_sL, mR_wI, mR_wL]; assumption) ?_
      refine g_iconst dX12_number_30 ?_
      refine g_iload (i := 4) rfl dX12_number_31 ?_
      refine g_iast dX12_number_33 (by simp only [IsO_sI, IsO_sL, IsO_sR, IsO_wI, IsO_wL, IsA_sI, IsA_sL, IsA_sR, IsA_wI, IsA_wL, mR_sI, mR_sL, mR_wI, mR_wL]; assumption) (by omega) (by omega) ?_
      refine g_aload_n (j := 0) rfl dX12_number_34 ?_
      refine g_getR dX12_number_35 flX12_57 rfl (by simp only [IsO_sI, IsO_sL, IsO_sR, IsO_wI, IsO_wL, IsA_sI, IsA_sL, IsA_sR, IsA_wI, IsA_wL, mR_sI, mR_sL, mR_wI, mR_wL]; assumption) (kz := 30) rfl (by simp only [IsO_sI, IsO_sL, IsO_sR, IsO_wI, IsO_wL, IsA_sI, IsA_sL, IsA_sR, IsA_wI, IsA_wL, mR_sI, mR_sL, mR_wI, mR_wL]; assumption) ?_
      refine g_iconst dX12_number_38 ?_
      refine g_iload (i := 5) rfl dX12_number_39 ?_
      refine g_iast dX12_number_41 (by simp only [IsO_sI, IsO_sL, IsO_sR, IsO_wI, IsO_wL, IsA_sI, IsA_sL, IsA_sR, IsA_wI, IsA_wL, mR_sI, mR_sL, mR_wI, mR_wL]; assumption) (by omega) (by omega) ?_
      refine g_aload_n (j := 0) rfl dX12_number_42 ?_
      refine g_getR dX12_number_43 flX12_57 rfl (by simp only [IsO_sI, IsO_sL, IsO_sR, IsO_wI, IsO_wL, IsA_sI, IsA_sL, IsA_sR, IsA_wI, IsA_wL, mR_sI, mR_sL, mR_wI, mR_wL]; assumption) (kz := 30) rfl (by simp only [IsO_sI, IsO_sL, IsO_sR, IsO_wI, IsO_wL, IsA_sI, IsA_sL, IsA_sR, IsA_wI, IsA_wL, mR_sI, mR_sL, mR_wI, mR_wL]; assumption) ?_
      refine g_iconst dX12_number_46 ?_
      refine g_iload (i := 6) rfl dX12_number_47 ?_
      refine g_iast dX12_number_49 (by simp only [IsO_sI, IsO_sL, IsO_sR, IsO_wI, IsO_wL, IsA_sI, IsA_sL, IsA_sR, IsA_wI, IsA_wL, mR_sI, mR_sL, mR_wI, mR_wL]; assumption) (by omega) (by omega) ?_
      refine g_aload_n (j := 0) rfl dX12_number_50 ?_
      refine g_getR dX12_number_51 flX12_57 rfl (by simp only [IsO_sI, IsO_sL, IsO_sR, IsO_wI, IsO_wL, IsA_sI, IsA_sL, IsA_sR, IsA_wI, IsA_wL, mR_sI, mR_sL, mR_wI, mR_wL]; assumption) (kz := 30) rfl (by simp only [IsO_sI, IsO_sL, IsO_sR, IsO_wI, IsO_wL, IsA_sI, IsA_sL, IsA_sR, IsA_wI, IsA_wL, mR_sI, mR_sL, mR_wI, mR_wL]; assumption) ?_
      refine g_iconst dX12_number_54 ?_
      refine g_iload (i := 7) rfl dX12_number_55 ?_
      refine g_iast dX12_number_57 (by simp only [IsO_sI, IsO_sL, IsO_sR, IsO_wI, IsO_wL, IsA_sI, IsA_sL, IsA_sR, IsA_wI, IsA_wL, mR_sI, mR_sL, mR_wI, mR_wL]; assumption) (by omega) (by omega) ?_
      obtain ⟨μ1, hm1⟩ : ∃ μ1, μ1 = sI (sI (sI (sI (sI μ (m + 10) 0 a0) (m + 10) 1 a1) (m + 10) 2 a2) (m + 10) 3 a3) (m + 10) 4 a4 := ⟨_, rfl⟩
      rw [← hm1]
      have hf1 : FrM m (fun a => a = m + 10) (fun _ => False) μ μ1 := by
        rw [hm1]
        have e : ∀ (m2 : Mem) (k v : Int), FrM m (fun a => a = m + 10) (fun _ => False) m2 (sI m2 (m + 10) k v) := fun m2 k v => FrM.sIr rfl (by omega)
        exact ((((e _ _ _).tr (e _ _ _)).tr (e _ _ _)).tr (e _ _ _)).tr (e _ _ _)
      have hrow : ∀ j, 0 ≤ j → j < 5 → mI μ1 (m + 10) j = rw5 a0 a1 a2 a3 a4 j := fun j z1 z2 => by
        rw [hm1]
        simp only [mI_sI]
        unfold rw5
        rcases (by omega : j = 0 ∨ j = 1 ∨ j = 2 ∨ j = 3 ∨ j = 4) with rfl | rfl | rfl | rfl | rfl <;> simp
      have hA1 : MA w μ1 m F := hf1.MA hA (by omega) ⟨fun z => z, fun z => z⟩
      have o1 := hA1.o
      clear hm1
      refine g_aload_n (j := 0) rfl dX12_number_58 ?_
      refine g_iload_n (j := 1) rfl dX12_number_59 ?_
      refine g_callV dX12_number_60 mlX12_282 mvX12_lays (ci := 12) ⟨by decide, rfl⟩ (by assumption) (c_X12_lays w d μ1 hA1 h5.1) sv1 rfl (by omega) (Nat.le_of_ble_eq_true rfl) (Nat.le_refl _) (Nat.le_refl _) (fun v μ2 hR => ?_)
      obtain ⟨rfl, hA2, hL, hf2⟩ := hR
      refine g_lconst0 dX12_number_63 ?_
      refine g_lstore (i := 8) dX12_number_64 (by decide) rfl lj8 ?_
      refine g_iload_n (j := 2) rfl dX12_number_66 ?_
      refine g_sipush dX12_number_67 (by omega) ?_
      refine g_iadd dX12_number_70 ?_
      refine g_i2l (by omega) dX12_number_71 ?_
      refine g_lstore (i := 10) dX12_number_72 (by decide) rfl lj10 ?_
      refine g_iconst dX12_number_74 ?_
      refine g_istore (i := 12) dX12_number_75 (by decide) rfl ls12 ?_
      have hl5 := hA.l5 h5.1
      have hrow2 : ∀ j, 0 ≤ j → j < 5 → mI μ2 (m + 10) j = rw5 a0 a1 a2 a3 a4 j := fun j z1 z2 => by
        rw [hf2.1.I (x := m + 10) hA1.1.a30.2.1 (fun z => by omega)]
        exact hrow j z1 z2
      have hr32 : ∀ j, 0 ≤ j → j < 5 → i32 (mI μ2 (m + 10) j) := fun j z1 z2 => by
        rw [hrow2 j z1 z2]
        unfold rw5
        rcases (by omega : j = 0 ∨ j = 1 ∨ j = 2 ∨ j = 3 ∨ j = 4) with rfl | rfl | rfl | rfl | rfl <;> simp <;> omega
      have ew := isWy_congr (r := mI μ2 (m + 10)) (r2 := rw5 a0 a1 a2 a3 a4) (F s) 0 n (fun j z1 z2 => hrow2 j z1 (by omega))
      have ea := ahW_congr (r := mI μ2 (m + 10)) (r2 := rw5 a0 a1 a2 a3 a4) (F s) 0 n (fun j z1 z2 => hrow2 j z1 (by omega))
      have hff : FrM m (Cm m) Jm μ μ2 := (hf1.mono (fun a z => by unfold Cm; omega) (fun _ z => z.elim)).tr (hf2.mono (fun a z => by unfold Cm; omega) (fun j z => Or.inl z))
      refine G.post (fun v μ3 hq => ?_) (l12_number (d := d + 1) hA2.1 hL h5.1 (hA2.2.1 s h5.1) hr32 (F s).length 0 (n + 15000) 0 none (by omega) (by omega) (by omega))
      rw [show ((F s).drop (0 : Int).toNat) = F s from rfl, show n + 15000 - 15000 = n by omega, ea, Int.zero_add] at hq
      obtain ⟨rfl, rfl⟩ := hq
      refine ⟨congrArg (fun z => some (vJ z)) ?_, hA2, hff⟩
      by_cases hz : isWy (F s) 0 (mI μ3 (m + 10)) n
      · rw [cI_t hz, aNumber, cI_t ⟨h5, h12, ew.mp hz⟩]
      · rw [cI_f hz, aNumber, cI_f (fun z => hz (ew.mpr z.2.2))]
    · refine g_ldc2 dX12_number_15 klX12_280 (z := -1) rfl ?_
      exact G.retJ dX12_number_18 rfl (by rw [aNumber, cI_f (fun z => h12 z.2.1)]; exact Bm.no hA)
end FW
section CM
variable {w : WC} {d m : Nat} {μ : Mem} {F : Int → List Tm} {ts us : List Tm} {R : Option AV → Mem → Prop}
theorem l12_com1 (hM : MoS w μ m) (hL : LaidOk (mL μ (m + 4)) ts) (hok : ∀ u ∈ ts, TOk u) (h5 : ts.length ≤ 5) {s s2 fr to i : Int} (ht : to ≤ 3000) (hf0 : -3000 ≤ fr) {x7 : Option AV} (kk : ∀ (g : Int → Int) (x6 : Option AV), (∀ n, fr ≤ n → n ≤ to → g (n + 3000) = if 0 < wy ts n then 1 else 0) → G w (d + 3) mX12_common R 0 0 77 [some (vP (some m)), some (vI s), some (vI s2), some (vI fr), some (vI to), some (vI i), x6, x7] [] (wI μ (m + 19) g)) : ∀ (k : Nat) (n : Int) (g : Int → Int), n + k = to + 1 → fr ≤ n → (∀ j, fr ≤ j → j < n → g (j + 3000) = if 0 < wy ts j then 1 else 0) →
    G w (d + 3) mX12_common R 0 0 37 [some (vP (some m)), some (vI s), some (vI s2), some (vI fr), some (vI to), some (vI i), some (vI n), x7] [] (wI μ (m + 19) g) := by
  intro k
  induction k with
  | zero =>
    intro n g hn h0 hg
    refine g_iload (i := 6) rfl dX12_common_37 ?_
    refine g_iload (i := 4) rfl dX12_common_39 ?_
    refine g_icmp_gt (tgt := 77) dX12_common_41 (by decide) (by omega) (by omega) (fun h41 => ?_) (fun h41 => ?_)
    · exact kk g _ fun j z1 z2 => hg j z1 (by omega)
    · omega
  | succ k ih =>
    intro n g hn h0 hg
    have hM2 : MoS w (wI μ (m + 19) g) m := hM.of_wI
    have o0 := hM2.o
    have r47 := hM2.r47
    have a47 := hM2.a47
    have hw := wy_64 hok h5 n
    refine g_iload (i := 6) rfl dX12_common_37 ?_
    refine g_iload (i := 4) rfl dX12_common_39 ?_
    refine g_icmp_gt (tgt := 77) dX12_common_41 (by decide) (by omega) (by omega) (fun h41 => ?_) (fun h41 => ?_)
    · omega
    · refine g_aload_n (j := 0) rfl dX12_common_44 ?_
      refine g_getR dX12_common_45 flX12_84 rfl (by assumption) (kz := 47) rfl (by assumption) ?_
      refine g_iload (i := 6) rfl dX12_common_48 ?_
      refine g_sipush dX12_common_50 (by omega) ?_
      refine g_iadd dX12_common_53 ?_
      refine g_aload_n (j := 0) rfl dX12_common_54 ?_
      refine g_iload (i := 6) rfl dX12_common_55 ?_
      refine g_callV dX12_common_57 mlX12_285 mvX12_waysOf (ci := 12) ⟨by decide, rfl⟩ (by assumption) (c_X12_wy w d _ hM2 (by rw [mL_wI]; exact hL) hok h5 (n := n) (by omega)) sv1 rfl (by omega) (Nat.le_of_ble_eq_true rfl) (Nat.le_refl _) (Nat.le_refl _) (fun v μ2 hR => ?_)
      obtain ⟨rfl, hm⟩ := hR
      replace hm := hm.symm
      subst hm
      refine g_lconst0 dX12_common_60 ?_
      refine g_lif_le (tgt := 69) dX12_common_61 dX12_common_62 (by decide) (by omega) (by omega) (fun h61 => ?_) (fun h61 => ?_)
      · refine g_iconst dX12_common_69 ?_
        refine g_zast dX12_common_70 (by assumption) (by omega) (by omega) (by omega) ?_
        refine g_iinc (i := 6) dX12_common_71 rfl (by decide) rfl ls6 ?_
        refine g_goto (tgt := 37) (by decide) dX12_common_74 ?_
        rw [sI_wI]
        refine ih (n + 1) _ (by omega) (by omega) fun j z1 z2 => ?_
        show (if _ then _ else _) = _
        by_cases hj : j = n
        · rw [if_pos (by omega), hj, if_neg (by omega)]
        · rw [if_neg (by omega)]
          exact hg j z1 (by omega)
      · refine g_iconst dX12_common_65 ?_
        refine g_goto (tgt := 70) (by decide) dX12_common_66 ?_
        refine g_zast dX12_common_70 (by assumption) (by omega) (by omega) (by omega) ?_
        refine g_iinc (i := 6) dX12_common_71 rfl (by decide) rfl ls6 ?_
        refine g_goto (tgt := 37) (by decide) dX12_common_74 ?_
        rw [sI_wI]
        refine ih (n + 1) _ (by omega) (by omega) fun j z1 z2 => ?_
        show (if _ then _ else _) = _
        by_cases hj : j = n
        · rw [if_pos (by omega), hj, if_pos (by omega)]
        · rw [if_neg (by omega)]
          exact hg j z1 (by omega)
theorem l12_com2 (hM : MoS w μ m) (hL : LaidOk (mL μ (m + 4)) us) (hok : ∀ u ∈ us, TOk u) (h5 : us.length ≤ 5) {s s2 fr to i : Int} (hi : i32 i) (ht : to ≤ 3000) (hf0 : -3000 ≤ fr) (hg : ∀ n, fr ≤ n → n ≤ to → mI μ (m + 19) (n + 3000) = if 0 < wy ts n then 1 else 0) : ∀ (k : Nat) (n f : Int), n + k = to + 1 → fr ≤ n → 0 ≤ f → f + k ≤ 7000 →
    G w (d + 3) mX12_common (fun v μ2 => v = some (vI (pick (fun n => decide (0 < wy ts n ∧ 0 < wy us n)) i (-100000) k n f)) ∧ μ2 = μ) 0 0 88 [some (vP (some m)), some (vI s), some (vI s2), some (vI fr), some (vI to), some (vI i), some (vI f), some (vI n)] [] μ := by
  have o0 := hM.o
  have r47 := hM.r47
  have a47 := hM.a47
  intro k
  induction k with
  | zero =>
    intro n f hn h0 hf hf2
    refine g_iload (i := 7) rfl dX12_common_88 ?_
    refine g_iload (i := 4) rfl dX12_common_90 ?_
    refine g_icmp_gt (tgt := 142) dX12_common_92 (by decide) (by omega) (by omega) (fun h92 => ?_) (fun h92 => ?_)
    · refine g_iload (i := 5) rfl dX12_common_142 ?_
      refine g_iconst dX12_common_144 ?_
      refine g_icmp_ne (tgt := 153) dX12_common_145 (by decide) (by omega) (by omega) (fun h145 => ?_) (fun h145 => ?_)
      · refine g_ldcw dX12_common_153 kcX12_321 (z := -100000) rfl ?_
        exact G.retI dX12_common_156 rfl ⟨by rw [pick, if_neg h145], rfl⟩
      · refine g_iload (i := 6) rfl dX12_common_148 ?_
        refine g_goto (tgt := 156) (by decide) dX12_common_150 ?_
        exact G.retI dX12_common_156 rfl ⟨by rw [pick, if_pos h145], rfl⟩
    · omega
  | succ k ih =>
    intro n f hn h0 hf hf2
    have hw := wy_64 hok h5 n
    have hgn := hg n h0 (by omega)
    obtain ⟨e, he⟩ : ∃ e : Int, e = if 0 < wy ts n then 1 else 0 := ⟨_, rfl⟩
    rw [← he] at hgn
    have he1 : (e = 1 ∧ 0 < wy ts n) ∨ (e = 0 ∧ ¬ 0 < wy ts n) := by
      rw [he]
      split
      · next z => exact Or.inl ⟨rfl, z⟩
      · next z => exact Or.inr ⟨rfl, z⟩
    refine g_iload (i := 7) rfl dX12_common_88 ?_
    refine g_iload (i := 4) rfl dX12_common_90 ?_
    refine g_icmp_gt (tgt := 142) dX12_common_92 (by decide) (by omega) (by omega) (fun h92 => ?_) (fun h92 => ?_)
    · omega
    · refine g_aload_n (j := 0) rfl dX12_common_95 ?_
      refine g_getR dX12_common_96 flX12_84 rfl (by assumption) (kz := 47) rfl (by assumption) ?_
      refine g_iload (i := 7) rfl dX12_common_99 ?_
      refine g_sipush dX12_common_101 (by omega) ?_
      refine g_iadd dX12_common_104 ?_
      refine g_zald dX12_common_105 (by assumption) (by omega) (by omega) ?_
      rw [hgn]
      refine g_if_eq (tgt := 136) dX12_common_106 (by decide) (by omega) (fun h106 => ?_) (fun h106 => ?_)
      · refine g_iinc (i := 7) dX12_common_136 rfl (by decide) rfl ls7 ?_
        refine g_goto (tgt := 88) (by decide) dX12_common_139 ?_
        rw [pick, if_neg (by rw [decide_eq_true_iff]; omega)]
        exact ih (n + 1) f (by omega) (by omega) (by omega) (by omega)
      · refine g_aload_n (j := 0) rfl dX12_common_109 ?_
        refine g_iload (i := 7) rfl dX12_common_110 ?_
        refine g_callV dX12_common_112 mlX12_285 mvX12_waysOf (ci := 12) ⟨by decide, rfl⟩ (by assumption) (c_X12_wy w d _ hM hL hok h5 (n := n) (by omega)) sv1 rfl (by omega) (Nat.le_of_ble_eq_true rfl) (Nat.le_refl _) (Nat.le_refl _) (fun v μ2 hR => ?_)
        obtain ⟨rfl, hm⟩ := hR
        replace hm := hm.symm
        subst hm
        refine g_lconst0 dX12_common_115 ?_
        refine g_lif_ne (tgt := 123) dX12_common_116 dX12_common_117 (by decide) (by omega) (by omega) (fun h116 => ?_) (fun h116 => ?_)
        · refine g_iload (i := 6) rfl dX12_common_123 ?_
          refine g_iload (i := 5) rfl dX12_common_125 ?_
          refine g_icmp_ne (tgt := 133) dX12_common_127 (by decide) (by omega) (by omega) (fun h127 => ?_) (fun h127 => ?_)
          · refine g_iinc (i := 6) dX12_common_133 rfl (by decide) rfl ls6 ?_
            refine g_iinc (i := 7) dX12_common_136 rfl (by decide) rfl ls7 ?_
            refine g_goto (tgt := 88) (by decide) dX12_common_139 ?_
            rw [pick, if_pos (by rw [decide_eq_true_iff]; omega), if_neg h127]
            exact ih (n + 1) (f + 1) (by omega) (by omega) (by omega) (by omega)
          · refine g_iload (i := 7) rfl dX12_common_130 ?_
            exact G.retI dX12_common_132 rfl ⟨by rw [pick, if_pos (by rw [decide_eq_true_iff]; omega), if_pos h127], rfl⟩
        · refine g_goto (tgt := 136) (by decide) dX12_common_120 ?_
          refine g_iinc (i := 7) dX12_common_136 rfl (by decide) rfl ls7 ?_
          refine g_goto (tgt := 88) (by decide) dX12_common_139 ?_
          rw [pick, if_neg (by rw [decide_eq_true_iff]; omega)]
          exact ih (n + 1) f (by omega) (by omega) (by omega) (by omega)
theorem c_X12_common (w : WC) (d : Nat) (μ : Mem) (hA : MA w μ m F) {s s2 fr to i : Int} (hs : i32 s) (hs2 : i32 s2) (hfr : i32 fr) (hto : i32 to) (hi : i32 i) : Con w (d + 5) mX12_common 0 0 [vP (some m), vI s, vI s2, vI fr, vI to, vI i] μ (Bm w μ m F (vI (aCommon F s s2 fr to i))) := by
  have o0 := hA.o
  refine Con.of (by decide) (Nat.le_of_ble_eq_true rfl) rfl ?_
  refine g_aload_n (j := 0) rfl dX12_common_0 ?_
  refine g_iload_n (j := 1) rfl dX12_common_1 ?_
  refine g_callV dX12_common_2 mlX12_274 mvX12_isForm (ci := 12) ⟨by decide, rfl⟩ (by assumption) (c_X12_isForm w d μ hA hs) sv1 rfl (by omega) (Nat.le_of_ble_eq_true rfl) (Nat.le_refl _) (Nat.le_refl _) (fun v μ2 hR => ?_)
  obtain ⟨rfl, hm⟩ := hR
  replace hm := hm.symm
  subst hm
  refine g_ifb_eq (tgt := 25) dX12_common_5 (by decide)  (fun h5 => ?_) (fun h5 => ?_)
  · refine g_ldcw dX12_common_25 kcX12_321 (z := -100000) rfl ?_
    exact G.retI dX12_common_28 rfl (by rw [aCommon, cI_f (by first | exact fun z => h5 z.1 | exact fun z => h13 z.2.1 | exact fun z => h22 z.2.2.1)]; exact Bm.no hA)
  · refine g_aload_n (j := 0) rfl dX12_common_8 ?_
    refine g_iload_n (j := 2) rfl dX12_common_9 ?_
    refine g_callV dX12_common_10 mlX12_274 mvX12_isForm (ci := 12) ⟨by decide, rfl⟩ (by assumption) (c_X12_isForm w d μ hA hs2) sv1 rfl (by omega) (Nat.le_of_ble_eq_true rfl) (Nat.le_refl _) (Nat.le_refl _) (fun v μ2 hR => ?_)
    obtain ⟨rfl, hm⟩ := hR
    replace hm := hm.symm
    subst hm
    refine g_ifb_eq (tgt := 25) dX12_common_13 (by decide)  (fun h13 => ?_) (fun h13 => ?_)
    · refine g_ldcw dX12_common_25 kcX12_321 (z := -100000) rfl ?_
      exact G.retI dX12_common_28 rfl (by rw [aCommon, cI_f (by first | exact fun z => h5 z.1 | exact fun z => h13 z.2.1 | exact fun z => h22 z.2.2.1)]; exact Bm.no hA)
    · refine g_iload_n (j := 3) rfl dX12_common_16 ?_
      refine g_iload (i := 4) rfl dX12_common_17 ?_
      refine g_callS dX12_common_19 mlX12_417 msX12_isSpan (c_X12_isSpan w d μ hfr hto) sk2 rfl (by omega) (Nat.le_of_ble_eq_true rfl) (Nat.le_refl _) (Nat.le_refl _) (fun v μ2 hR => ?_)
      obtain ⟨rfl, hm⟩ := hR
      replace hm := hm.symm
      subst hm
      refine g_ifb_ne (tgt := 29) dX12_common_22 (by decide)  (fun h22 => ?_) (fun h22 => ?_)
      · refine g_aload_n (j := 0) rfl dX12_common_29 ?_
        refine g_iload_n (j := 1) rfl dX12_common_30 ?_
        refine g_callV dX12_common_31 mlX12_282 mvX12_lays (ci := 12) ⟨by decide, rfl⟩ (by assumption) (c_X12_lays w d μ hA h5.1) sv1 rfl (by omega) (Nat.le_of_ble_eq_true rfl) (Nat.le_refl _) (Nat.le_refl _) (fun v μ1 hR => ?_)
        obtain ⟨rfl, hA1, hL1, hf1⟩ := hR
        have o1 := hA1.o
        refine g_iload_n (j := 3) rfl dX12_common_34 ?_
        refine g_istore (i := 6) dX12_common_35 (by decide) rfl ls6 ?_
        rw [← wI_eta μ1 (m + 19)]
        refine l12_com1 (d := d + 2) hA1.1 hL1 (hA.ok h5.1) (hA.l5 h5.1) h22.2.1.2 h22.1.1 (fun g x6 hg => ?_) (to - fr + 1).toNat fr (mI μ1 (m + 19)) (by omega) (by omega) (fun j z1 z2 => by omega)
        have hf2 : FrM m (fun a => a = m + 19) (fun _ => False) μ1 (wI μ1 (m + 19) g) := FrM.wI rfl (by omega)
        have hA2 := hf2.MA hA1 (by omega) ⟨fun z => z, fun z => z⟩
        have hg2 : ∀ n, fr ≤ n → n ≤ to → mI (wI μ1 (m + 19) g) (m + 19) (n + 3000) = if 0 < wy (F s) n then 1 else 0 := fun n z1 z2 => by
          rw [mI_wI, if_pos rfl]
          exact hg n z1 z2
        generalize wI μ1 (m + 19) g = μ2 at hf2 hA2 hg2 ⊢
        have o2 := hA2.o
        refine g_aload_n (j := 0) rfl dX12_common_77 ?_
        refine g_iload_n (j := 2) rfl dX12_common_78 ?_
        refine g_callV dX12_common_79 mlX12_282 mvX12_lays (ci := 12) ⟨by decide, rfl⟩ (by assumption) (c_X12_lays w d μ2 hA2 h13.1) sv1 rfl (by omega) (Nat.le_of_ble_eq_true rfl) (Nat.le_refl _) (Nat.le_refl _) (fun v μ3 hR => ?_)
        obtain ⟨rfl, hA3, hL3, hf3⟩ := hR
        refine g_iconst dX12_common_82 ?_
        refine g_istore (i := 6) dX12_common_83 (by decide) rfl ls6 ?_
        refine g_iload_n (j := 3) rfl dX12_common_85 ?_
        refine g_istore (i := 7) dX12_common_86 (by decide) rfl ls7 ?_
        have hg3 : ∀ n, fr ≤ n → n ≤ to → mI μ3 (m + 19) (n + 3000) = if 0 < wy (F s) n then 1 else 0 := fun n z1 z2 => by
          rw [hf3.1.I (x := m + 19) hA2.1.a47.2.1 (fun z => by omega)]
          exact hg2 n z1 z2
        refine G.post (fun v μ4 hq => ?_) (l12_com2 (d := d + 2) hA3.1 hL3 (hA.ok h13.1) (hA.l5 h13.1) hi h22.2.1.2 h22.1.1 hg3 (to - fr + 1).toNat fr 0 (by omega) (by omega) (by omega) (by omega))
        obtain ⟨rfl, rfl⟩ := hq
        have hff : FrM m (Cm m) Jm μ μ4 := ((hf1.mono (fun a z => by unfold Cm; omega) (fun j z => Or.inl z)).tr (hf2.mono (fun a z => by unfold Cm; omega) (fun _ z => z.elim))).tr (hf3.mono (fun a z => by unfold Cm; omega) (fun j z => Or.inl z))
        by_cases h1 : -1 ≤ i
        · rw [aCommon, cI_t ⟨h5, h13, h22, h1⟩]
          exact ⟨rfl, hA3, hff⟩
        · rw [aCommon, cI_f (fun z => h1 z.2.2.2), pick_lo _ _ (by omega) _ _ _ (by omega)]
          exact ⟨rfl, hA3, hff⟩
      · refine g_ldcw dX12_common_25 kcX12_321 (z := -100000) rfl ?_
        exact G.retI dX12_common_28 rfl (by rw [aCommon, cI_f (by first | exact fun z => h5 z.1 | exact fun z => h13 z.2.1 | exact fun z => h22 z.2.2.1)]; exact Bm.no hA)
end CM
