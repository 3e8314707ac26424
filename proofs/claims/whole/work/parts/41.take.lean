/-! THE CLASS: takeWay, way, rowIsWay, waysAhead, number -/
/-- the i-th x of the k-th way of n -/
def wyX : List Tm → Int → Int → Nat → Int
  | [], _, _, _ => 0
  | u :: us, n, k, i => match i with
    | 0 => (xW (tV u) us n (tH u - tL u + 1).toNat (tL u) k).1
    | i + 1 => wyX us (n - tV u (xW (tV u) us n (tH u - tL u + 1).toNat (tL u) k).1) (xW (tV u) us n (tH u - tL u + 1).toNat (tL u) k).2 i
theorem xW_ok (v : Int → Int) (us : List Tm) (n : Int) : ∀ (m : Nat) (x k : Int), 0 ≤ k → k < rsum (fun y => wy us (n - v y)) x m → (x ≤ (xW v us n m x k).1 ∧ (xW v us n m x k).1 < x + m) ∧ 0 ≤ (xW v us n m x k).2 ∧ (xW v us n m x k).2 < wy us (n - v (xW v us n m x k).1)
  | 0, x, k, h0, h1 => by simp [rsum] at h1; omega
  | m + 1, x, k, h0, h1 => by
    rw [rsum] at h1
    unfold xW
    by_cases h : k < wy us (n - v x)
    · rw [if_pos h]
      exact ⟨⟨Int.le_refl _, by show x < _; omega⟩, h0, h⟩
    · rw [if_neg h]
      have := xW_ok v us n m (x + 1) (k - wy us (n - v x)) (by omega) (by omega)
      omega
section TW
variable {w : WC} {d : Nat} {R : Option AV → Mem → Prop} {x c N q : Nat} {ts : List Tm}
/-- the x of one term -/
theorem l_takeX {μ : Mem} (o0 : IsO w μ x 11) (r7 : mR μ x 7 = some (x + 59)) (r11 : mR μ x 11 = some (x + 70)) (a70 : IsA w μ (x + 70) 14 5) (hS : SeW w μ (x + 59) c N ts) (hF : FoS w μ q) (hI : FI μ q ts) (hT : 0 ≤ 3000 - lfT ts) {s n k0 t left : Int} {u : Tm} (h0 : 0 ≤ t) (h1 : t < ts.length) (hu : ts[t.toNat]? = some u) (hk : TOk u) (hat : TmAt μ q t u) (hlu : left ≤ 3000 - lfT ts + lfT (ts.drop t.toNat)) (hlb : -100000 ≤ left ∧ left ≤ 100000) :
    ∀ (m : Nat) (y k : Int) (x11 x12 : Option AV), tL u ≤ y → y + m = tH u + 1 → 0 ≤ k → k < rsum (fun z => wy (ts.drop (t + 1).toNat) (left - tV u z)) y m → k ≤ 9000000000000000000 →
    (∀ (x10 x11 x12 : Option AV), G w (d + 2) mX11_takeWay R 0 0 126 [some (vP (some x)), some (vI s), some (vI n), some (vJ k0), none, some (vP (some q)), some (vJ (xW (tV u) (ts.drop (t + 1).toNat) left m y k).2), none, some (vI (left - tV u (xW (tV u) (ts.drop (t + 1).toNat) left m y k).1)), some (vI t), x10, x11, x12, none] [] (sI μ (x + 70) t (xW (tV u) (ts.drop (t + 1).toNat) left m y k).1)) →
    G w (d + 2) mX11_takeWay R 0 0 47 [some (vP (some x)), some (vI s), some (vI n), some (vJ k0), none, some (vP (some q)), some (vJ k), none, some (vI left), some (vI t), some (vI y), x11, x12, none] [] μ := by
  obtain ⟨g1, g2, g3, g4, -, -⟩ := hat
  have hok := hI.2.2.1
  have h5 := hI.2.1
  obtain ⟨p0, ⟨pr1, pr2, pr3, pr4, pr5, pr6⟩, pa1, pa2, pa3, pa4, pa5, pa6⟩ := id hF
  have hd := drop_at h0 h1 hu
  have hlf : lfT (ts.drop t.toNat) = lfT (ts.drop (t + 1).toNat) + tLo (tK u) (tF u) (tL u) (tH u) := by rw [hd]; rfl
  have hok2 : ∀ v ∈ ts.drop (t + 1).toNat, TOk v := fun v hv => hok v (List.mem_of_mem_drop hv)
  have hl2 : (ts.drop (t + 1).toNat).length ≤ 5 := by rw [List.length_drop]; omega
  have os := hS.1.1
  obtain ⟨⟨k1, k2, k3, k4⟩, -⟩ := hk.pv
  have hl := hk.2.2.1
  intro m
  induction m with
  | zero =>
    intro y k x11 x12 z1 z2 z3 z4
    simp [rsum] at z4
    omega
  | succ m ih =>
    intro y k x11 x12 z1 z2 z3 z4 z5 kk
    have hv := hk.val (x := y) z1 (by omega)
    have hv3 := hk.v3 (x := y) z1 (by omega)
    have hw := wy_64 hok2 hl2 (left - tV u y)
    rw [rsum] at z4
    unfold xW at kk
    refine g_iload (i := 10) rfl dX11_takeWay_47 ?_
    refine g_aload (i := 5) rfl dX11_takeWay_49 ?_
    refine g_getR dX11_takeWay_51 flX11_171 rfl (by assumption) (kz := 4) rfl (by assumption) ?_
    refine g_iload (i := 9) rfl dX11_takeWay_54 ?_
    refine g_iald dX11_takeWay_56 (by assumption) (by omega) (by omega) ?_
    rw [g4]
    refine g_icmp_gt (tgt := 126) dX11_takeWay_57 (by decide) (by omega) (by omega) (fun h57 => ?_) (fun h57 => ?_)
    · omega
    · refine g_iload (i := 8) rfl dX11_takeWay_60 ?_
      refine g_aload (i := 5) rfl dX11_takeWay_62 ?_
      refine g_iload (i := 9) rfl dX11_takeWay_64 ?_
      refine g_iload (i := 10) rfl dX11_takeWay_66 ?_
      refine g_callV dX11_takeWay_68 mlX11_228 mvX1_valueOf (ci := 1) ⟨by decide, rfl⟩ (by assumption) (c_valueOf w d μ hF (t := t) (x := y) (by omega) g2 g1 k2 k1 (by omega) (by omega)) sv2 rfl (by omega) (Nat.le_of_ble_eq_true rfl) (Nat.le_refl _) (Nat.le_refl _) (fun v μ2 hR => ?_)
      obtain ⟨rfl, hm⟩ := hR
      replace hm := hm.symm
      subst hm
      rw [show pv (tK u) (tF u) y = tV u y from rfl]
      refine g_isub dX11_takeWay_71 ?_
      refine g_istore (i := 11) dX11_takeWay_72 (by decide) rfl ls11 ?_
      refine g_aload_n (j := 0) rfl dX11_takeWay_74 ?_
      refine g_getR dX11_takeWay_75 flX11_60 rfl (by assumption) (kz := 7) rfl (by assumption) ?_
      refine g_iload (i := 9) rfl dX11_takeWay_78 ?_
      refine g_iconst dX11_takeWay_80 ?_
      refine g_iadd dX11_takeWay_81 ?_
      refine g_iload (i := 11) rfl dX11_takeWay_82 ?_
      refine g_callV dX11_takeWay_84 mlX11_334 mvX7_waysFrom (ci := 7) ⟨by decide, rfl⟩ (by assumption) (c_waysFromT w d μ hS hok h5 (t := t + 1) (sm := left - tV u y) (by omega) (by omega) (by omega) hT) sv2 rfl (by omega) (Nat.le_of_ble_eq_true rfl) (Nat.le_refl _) (Nat.le_refl _) (fun v μ2 hR => ?_)
      obtain ⟨rfl, hm⟩ := hR
      replace hm := hm.symm
      subst hm
      refine g_lstore (i := 12) dX11_takeWay_87 (by decide) rfl lj12 ?_
      refine g_lload (i := 6) rfl dX11_takeWay_89 ?_
      refine g_lload (i := 12) rfl dX11_takeWay_91 ?_
      refine g_lif_ge (tgt := 113) dX11_takeWay_93 dX11_takeWay_94 (by decide) (by omega) (by omega) (fun h93 => ?_) (fun h93 => ?_)
      · refine g_lload (i := 6) rfl dX11_takeWay_113 ?_
        refine g_lload (i := 12) rfl dX11_takeWay_115 ?_
        refine g_lsub dX11_takeWay_117 ?_
        refine g_lstore (i := 6) dX11_takeWay_118 (by decide) rfl lj6 ?_
        refine g_iinc (i := 10) dX11_takeWay_120 rfl (by decide) rfl ls10 ?_
        refine g_goto (tgt := 47) (by decide) dX11_takeWay_123 ?_
        rw [if_neg (by omega)] at kk
        exact ih (y + 1) _ _ _ (by omega) (by omega) (by omega) (by omega) (by omega) kk
      · refine g_aload_n (j := 0) rfl dX11_takeWay_97 ?_
        refine g_getR dX11_takeWay_98 flX11_85 rfl (by assumption) (kz := 11) rfl (by assumption) ?_
        refine g_iload (i := 9) rfl dX11_takeWay_101 ?_
        refine g_iload (i := 10) rfl dX11_takeWay_103 ?_
        refine g_iast dX11_takeWay_105 (by assumption) (by omega) (by omega) ?_
        refine g_iload (i := 11) rfl dX11_takeWay_106 ?_
        refine g_istore (i := 8) dX11_takeWay_108 (by decide) rfl ls8 ?_
        refine g_goto (tgt := 126) (by decide) dX11_takeWay_110 ?_
        rw [if_pos h93] at kk
        exact kk _ _ _
theorem l_take (w : WC) (d : Nat) {μ1 : Mem} {x c N : Nat} {F : Int → List Tm} (hC : CA w μ1 x F c N) {s : Int} (hs : 0 ≤ s ∧ s ≤ 3) (hSe : SeW w μ1 (x + 59) c N (F s)) (hT : 0 ≤ 3000 - lfT (F s)) {n k0 : Int} : ∀ (r : Nat) (t left k : Int) (g : Int → Int) (x10 x11 x12 : Option AV), t + r = (F s).length → 0 ≤ t → left ≤ 3000 - lfT (F s) + lfT ((F s).drop t.toNat) → -3000 - 3000 * t ≤ left ∧ left ≤ 3000 + 3000 * t → 0 ≤ k → k < wy ((F s).drop t.toNat) left →
    G w (d + 2) mX11_takeWay (fun v μ2 => v = none ∧ ∃ g2, μ2 = wI μ1 (x + 70) g2 ∧ (∀ j, 0 ≤ j → j < t → g2 j = g j) ∧ ∀ j, t ≤ j → j < (F s).length → g2 j = wyX ((F s).drop t.toNat) left k (j - t).toNat) 0 0 27 [some (vP (some x)), some (vI s), some (vI n), some (vJ k0), none, some (vP (some (fA x s))), some (vJ k), none, some (vI left), some (vI t), x10, x11, x12, none] [] (wI μ1 (x + 70) g) := by
  have hok := hC.ok hs
  have h5 := hC.l5 hs
  have hb := fA_bd x hs
  have hcx := hC.2.2.1.2.2.1
  intro r
  induction r with
  | zero =>
    intro t left k g x10 x11 x12 hr h0 hl hl2 hk hk2
    have of : IsO w (wI μ1 (x + 70) g) (fA x s) 1 := (hC.tps.fs hs).1
    have ec : mI (wI μ1 (x + 70) g) (fA x s) 0 = (F s).length := by
      rw [mI_wI, if_neg (by omega)]
      exact (hC.fm hs).1
    refine g_iload (i := 9) rfl dX11_takeWay_27 ?_
    refine g_aload (i := 5) rfl dX11_takeWay_29 ?_
    refine g_getI dX11_takeWay_31 flX11_125 rfl of (kz := 0) rfl ?_
    rw [ec]
    refine g_icmp_ge (tgt := 132) dX11_takeWay_34 (by decide) (by omega) (by omega) (fun h34 => ?_) (fun h34 => by omega)
    exact G.retV dX11_takeWay_132 rfl ⟨rfl, g, rfl, fun _ _ _ => rfl, fun j z1 z2 => by omega⟩
  | succ r ih =>
    intro t left k g x10 x11 x12 hr h0 hl hl2 hk hk2
    obtain ⟨u, hu, hku, hat0⟩ := (hC.fm hs).at (t := t) h0 (by omega)
    have hd := drop_at h0 (by omega) hu
    have hfr : Fr (fun a => a = x + 70) (fun _ _ => False) μ1 (wI μ1 (x + 70) g) := Fr.wI rfl
    have hFo : FoS w (wI μ1 (x + 70) g) (fA x s) := hC.tps.fs hs
    have hFI : FI (wI μ1 (x + 70) g) (fA x s) (F s) := hfr.FI (hC.tps.fs hs) (fun a z1 z2 z => by omega) (hC.fm hs)
    have hSe2 : SeW w (wI μ1 (x + 70) g) (x + 59) c N (F s) := hfr.SeWd (fun _ z => z) (by omega) (by omega) (by omega) hSe
    obtain ⟨u', hu', -, hat⟩ := hFI.at (t := t) h0 (by omega)
    cases hu.symm.trans hu'
    have of := hFo.1
    have ec := hFI.1
    have ha3 := hFo.2.2.2.2.1
    have hr3 := hFo.2.1.2.2.1
    have gL := hat.2.2.1
    have hl3 := hku.2.2.1
    have hwy : wy ((F s).drop t.toNat) left = rsum (fun z => wy ((F s).drop (t + 1).toNat) (left - tV u z)) (tL u) (tH u - tL u + 1).toNat := by rw [hd, wy]
    have hp := xW_ok (tV u) ((F s).drop (t + 1).toNat) left (tH u - tL u + 1).toNat (tL u) k hk (by rw [← hwy]; exact hk2)
    have hv := hku.val (x := (xW (tV u) ((F s).drop (t + 1).toNat) left (tH u - tL u + 1).toNat (tL u) k).1) (by omega) (by omega)
    have hv3 := hku.v3 (x := (xW (tV u) ((F s).drop (t + 1).toNat) left (tH u - tL u + 1).toNat (tL u) k).1) (by omega) (by omega)
    have hlf : lfT ((F s).drop t.toNat) = lfT ((F s).drop (t + 1).toNat) + tLo (tK u) (tF u) (tL u) (tH u) := by rw [hd]; rfl
    have hw := wy_64 (ts := (F s).drop t.toNat) (fun v hv => hok v (List.mem_of_mem_drop hv)) (by rw [List.length_drop]; omega) left
    have ht1 : (t + 1).toNat = t.toNat + 1 := by omega
    refine g_iload (i := 9) rfl dX11_takeWay_27 ?_
    refine g_aload (i := 5) rfl dX11_takeWay_29 ?_
    refine g_getI dX11_takeWay_31 flX11_125 rfl of (kz := 0) rfl ?_
    rw [ec]
    refine g_icmp_ge (tgt := 132) dX11_takeWay_34 (by decide) (by omega) (by omega) (fun h34 => by omega) (fun h34 => ?_)
    refine g_aload (i := 5) rfl dX11_takeWay_37 ?_
    refine g_getR dX11_takeWay_39 flX11_168 rfl of (kz := 3) rfl hr3 ?_
    refine g_iload (i := 9) rfl dX11_takeWay_42 ?_
    refine g_iald dX11_takeWay_44 ha3 (by omega) (by omega) ?_
    rw [gL]
    refine g_istore (i := 10) dX11_takeWay_45 (by decide) rfl ls10 ?_
    refine l_takeX (by rw [IsO_wI]; exact hC.tps.o0) (by rw [mR_wI]; exact hC.tps.r0_7) (by rw [mR_wI]; exact hC.tps.r0_11) (by rw [IsA_wI]; exact hC.tps.a70) hSe2 hFo hFI hT h0 (by omega) hu hku hat hl (by omega) (tH u - tL u + 1).toNat (tL u) k _ _ (Int.le_refl _) (by omega) hk (by rw [← hwy]; exact hk2) (by omega) fun y10 y11 y12 => ?_
    generalize hP : xW (tV u) ((F s).drop (t + 1).toNat) left (tH u - tL u + 1).toNat (tL u) k = P at hp hv hv3 ⊢
    refine g_iinc (i := 9) dX11_takeWay_126 rfl (by decide) rfl ls9 ?_
    refine g_goto (tgt := 27) (by decide) dX11_takeWay_129 ?_
    rw [sI_wI]
    refine G.post (fun v μ2 hq => ?_) (ih (t + 1) (left - tV u P.1) P.2 _ _ _ _ (by omega) (by omega) (by omega) (by omega) hp.2.1 hp.2.2)
    obtain ⟨rfl, g2, rfl, q1, q2⟩ := hq
    refine ⟨rfl, g2, rfl, fun j z1 z2 => ?_, fun j z1 z2 => ?_⟩
    · rw [q1 j z1 (by omega)]
      exact if_neg (by omega)
    · rw [hd]
      rcases (by omega : j = t ∨ t + 1 ≤ j) with rfl | z
      · rw [q1 j h0 (by omega), if_pos rfl, show (j - j).toNat = 0 by omega, wyX, hP]
      · rw [q2 j z z2, show (j - t).toNat = (j - (t + 1)).toNat + 1 by omega, wyX, hP]
theorem nxN_2 (N : Nat) (ts : List Tm) : nxN (nxN N ts) ts = nxN N ts ∧ cwB (nxN N ts) ts = 0 := by
  have h : 0 ≤ 3000 - lfT ts → cwE ts ≤ nxN N ts := fun z => by
    unfold nxN
    split
    · unfold mkN
      omega
    · next q =>
      have := fun r => q ⟨z, r⟩
      omega
  exact ⟨nxN_of h, cwB_of h⟩
theorem wy_top {ts : List Tm} {n : Int} (hok : ∀ u ∈ ts, TOk u) (hn : n ≤ 3000) (h : 0 < wy ts n) : 0 ≤ 3000 - lfT ts := by
  rcases (by omega : n < lfT ts ∨ lfT ts ≤ n) with z | z
  · rw [wy_lo ts n hok z] at h
    omega
  · omega
theorem c_takeWay (w : WC) (d : Nat) (μ : Mem) {x c N : Nat} {F : Int → List Tm} (h : CA w μ x F c N) {s n k : Int} (hs : 0 ≤ s ∧ s ≤ 3) (hn : -3000 ≤ n ∧ n ≤ 3000) (hk : 0 ≤ k ∧ k < wy (F s) n) : Con w (d + 4) mX11_takeWay 1 (cwB N (F s)) [vP (some x), vI s, vI n, vJ k] μ (fun v μ2 => v = none ∧ ∃ c2, CA w μ2 x F c2 (nxN N (F s)) ∧ Fr (fun a => Sc x a ∨ a = x + 70) (Kc x) μ μ2 ∧ ∀ j : Int, 0 ≤ j → j < (F s).length → mI μ2 (x + 70) j = wyX (F s) n k j.toNat) := by
  have o0 := h.tps.o0
  have r1 := h.tps.r0_1
  have r7 := h.tps.r0_7
  have a7 := h.tps.a7
  have rf := h.tps.rf hs
  have o59 := h.tps.o59
  refine Con.of (by decide) (Nat.le_of_ble_eq_true rfl) rfl ?_
  refine g_aload_n (j := 0) rfl dX11_takeWay_0 ?_
  refine g_getR dX11_takeWay_1 flX11_18 rfl (by assumption) (kz := 1) rfl (by assumption) ?_
  refine g_iload_n (j := 1) rfl dX11_takeWay_4 ?_
  refine g_aald dX11_takeWay_5 (by assumption) (by omega) (by omega) (by omega) (by assumption) ?_
  refine g_astore (i := 5) dX11_takeWay_6 (by decide) rfl ls5 ?_
  refine g_aload_n (j := 0) rfl dX11_takeWay_8 ?_
  refine g_getR dX11_takeWay_9 flX11_60 rfl (by assumption) (kz := 7) rfl (by assumption) ?_
  refine g_iload_n (j := 1) rfl dX11_takeWay_12 ?_
  refine g_aload (i := 5) rfl dX11_takeWay_13 ?_
  refine g_callV dX11_takeWay_15 mlX11_315 mvX7_countWays (ci := 7) ⟨by decide, rfl⟩ (by assumption) (c_series w (d) μ h hs) sv2 rfl (by omega) (Nat.le_of_ble_eq_true rfl) (bc1 := 0) (bs1 := 0) (by omega) (by omega) (fun v μ2 hR => ?_)
  obtain ⟨rfl, c2, h2, ho, hf⟩ := hR
  refine g_lload_n (j := 3) rfl dX11_takeWay_18 ?_
  refine g_lstore (i := 6) dX11_takeWay_19 (by decide) rfl lj6 ?_
  refine g_iload_n (j := 2) rfl dX11_takeWay_21 ?_
  refine g_istore (i := 8) dX11_takeWay_22 (by decide) rfl ls8 ?_
  refine g_iconst dX11_takeWay_24 ?_
  refine g_istore (i := 9) dX11_takeWay_25 (by decide) rfl ls9 ?_
  have := l_take w (d + 2) h2 hs (h2.se hs.1 ho) (wy_top (h.ok hs) hn.2 (by omega)) (n := n) (k0 := k) (F s).length 0 n k (mI μ2 (x + 70)) none none none (by omega) (by omega) (by rw [show ((F s).drop (0 : Int).toNat) = F s from rfl]; omega) (by omega) hk.1 hk.2
  rw [wI_eta] at this
  refine G.post (fun v μ3 hq => ?_) this
  obtain ⟨rfl, g2, rfl, -, q2⟩ := hq
  have hf2 : Fr (fun a => a = x + 70) (fun _ _ => False) μ2 (wI μ2 (x + 70) g2) := Fr.wI rfl
  refine ⟨rfl, c2, h2.fr hf2 (fun a z => by omega) (fun _ _ z => z.elim), (hf.mono (fun _ _ z => Or.inl z) (fun _ _ _ z => Ks_Kc z)).tr (hf2.mono (fun _ _ z => Or.inr z) (fun _ _ _ z => z.elim)), fun j z1 z2 => ?_⟩
  rw [mI_wI, if_pos rfl, q2 j z1 z2, show j - 0 = j by omega]
  rfl
noncomputable def aWay (F : Int → List Tm) (s n k i : Int) : Int := cI (HasI F s i ∧ (-3000 ≤ n ∧ n ≤ 3000) ∧ 0 ≤ k ∧ k < wy (F s) n) (wyX (F s) n k i.toNat) (-100000)
theorem c_X11_way (w : WC) (d : Nat) (μ : Mem) {x c N : Nat} {F : Int → List Tm} (h : CA w μ x F c N) {s n k i : Int} (hs : i32 s) (hn : i32 n) (hk : i64 k) (hi : i32 i) : ∃ bs, bs ≤ 12002 + pot N ∧ Con w (d + 5) mX11_way 3 bs [vP (some x), vI s, vI n, vJ k, vI i] μ (Am w μ x F N bs (vI (aWay F s n k i))) := by
  obtain ⟨bs, hb1, hb2⟩ := room2 (HasI F s i ∧ (-3000 ≤ n ∧ n ≤ 3000) ∧ 0 ≤ k) (6001 + cwB N (F s))
  refine ⟨bs, (rm_le hb1 hb2 fun z => by have := h.pt (show 0 ≤ s ∧ s ≤ 3 by first | exact z.1.1 | exact z.1); omega), ?_⟩
  have o0 := h.tps.o0
  refine Con.of (by decide) (Nat.le_of_ble_eq_true rfl) rfl ?_
  refine g_aload_n (j := 0) rfl dX11_way_0 ?_
  refine g_iload_n (j := 1) rfl dX11_way_1 ?_
  refine g_iload (i := 5) rfl dX11_way_2 ?_
  refine g_callV dX11_way_4 mlX11_157 mvX11_hasTerm (ci := 11) ⟨by decide, rfl⟩ (by assumption) (c_hasTerm w d μ h hs hi) sv2 rfl (by omega) (Nat.le_of_ble_eq_true rfl) (Nat.le_refl _) (Nat.le_refl _) (fun v μ2 hR => ?_)
  obtain ⟨rfl, hm⟩ := hR
  replace hm := hm.symm
  subst hm
  refine g_ifb_eq (tgt := 17) dX11_way_7 (by decide)  (fun h7 => ?_) (fun h7 => ?_)
  · refine g_ldc dX11_way_17 kcX11_161 (z := -100000) rfl ?_
    rw [hb2 (fun z => h7 z.1)]
    exact G.retI dX11_way_19 rfl (by rw [aWay, cI_f (fun z => h7 z.1)]; exact Am.no h)
  · refine g_iload_n (j := 2) rfl dX11_way_10 ?_
    refine g_callS dX11_way_11 mlX11_174 msX11_isNumber (c_X11_isNumber w d μ hn) sk1 rfl (by omega) (Nat.le_of_ble_eq_true rfl) (Nat.le_refl _) (Nat.le_refl _) (fun v μ2 hR => ?_)
    obtain ⟨rfl, hm⟩ := hR
    replace hm := hm.symm
    subst hm
    refine g_ifb_ne (tgt := 20) dX11_way_14 (by decide)  (fun h14 => ?_) (fun h14 => ?_)
    · refine g_lload_n (j := 3) rfl dX11_way_20 ?_
      refine g_lconst0 dX11_way_21 ?_
      refine g_lif_lt (tgt := 42) dX11_way_22 dX11_way_23 (by decide) (by omega) (by omega) (fun h22 => ?_) (fun h22 => ?_)
      · refine g_ldc dX11_way_42 kcX11_161 (z := -100000) rfl ?_
        rw [hb2 (fun z => by have := z.2.2; omega)]
        exact G.retI dX11_way_44 rfl (by rw [aWay, cI_f (fun z => by have := z.2.2.1; omega)]; exact Am.no h)
      · refine g_lload_n (j := 3) rfl dX11_way_26 ?_
        have hbs := hb1 ⟨h7, h14, by omega⟩
        subst hbs
        refine g_aload_n (j := 0) rfl dX11_way_27 ?_
        refine g_iload_n (j := 1) rfl dX11_way_28 ?_
        refine g_callV dX11_way_29 mlX11_131 mvX11_wayCounts (ci := 11) ⟨by decide, rfl⟩ (by assumption) (c_wayCounts w d μ h h7.1) sv1 rfl (by omega) (Nat.le_of_ble_eq_true rfl) (bc1 := 1) (bs1 := 0) (by omega) (by omega) (fun v μ2 hR => ?_)
        obtain ⟨a, c2, rfl, h2, ha, hr, -, hf⟩ := hR
        have hrn := hr n h14.1 h14.2
        have hw := wy_64 (h.ok h7.1) (h.l5 h7.1) n
        have o02 := h2.tps.o0
        refine g_iload_n (j := 2) rfl dX11_way_32 ?_
        refine g_sipush dX11_way_33 (by omega) ?_
        refine g_iadd dX11_way_36 ?_
        refine g_lald dX11_way_37 (by assumption) (by omega) (by omega) ?_
        rw [hrn]
        refine g_lif_lt (tgt := 45) dX11_way_38 dX11_way_39 (by decide) (by omega) (by omega) (fun h38 => ?_) (fun h38 => ?_)
        · refine g_aload_n (j := 0) rfl dX11_way_45 ?_
          refine g_iload_n (j := 1) rfl dX11_way_46 ?_
          refine g_iload_n (j := 2) rfl dX11_way_47 ?_
          refine g_lload_n (j := 3) rfl dX11_way_48 ?_
          refine g_callV dX11_way_49 mlX11_182 mvX11_takeWay (ci := 11) ⟨by decide, rfl⟩ (by assumption) (c_takeWay w d μ2 h2 h7.1 h14 ⟨h22, h38⟩) sv3 rfl (by omega) (Nat.le_of_ble_eq_true rfl) (bc1 := 0) (bs1 := 0) (by omega) (by rw [(nxN_2 N (F s)).2]; omega) (fun v μ3 hR => ?_)
          obtain ⟨rfl, c3, h3, hf3, hx⟩ := hR
          rw [(nxN_2 N (F s)).1] at h3
          have o03 := h3.tps.o0
          have r113 := h3.tps.r0_11
          have a703 := h3.tps.a70
          have h5 := h.l5 h7.1
          have hI := h7.2
          have hi0 := hI.1
          have hi1 := hI.2
          refine g_aload_n (j := 0) rfl dX11_way_52 ?_
          refine g_getR dX11_way_53 flX11_85 rfl (by assumption) (kz := 11) rfl (by assumption) ?_
          refine g_iload (i := 5) rfl dX11_way_56 ?_
          refine g_iald dX11_way_58 (by assumption) (by omega) (by omega) ?_
          rw [hx i hi0 hi1]
          have hp := (pot_step (ts := F s) h.2.2.1.2.1 (h.ok h7.1) (h.l5 h7.1)).1
          exact G.retI dX11_way_59 rfl ⟨by rw [aWay, cI_t ⟨h7, h14, h22, h38⟩], c3, _, h3, (hf.mono (fun _ _ z => Tc_Cc z) (fun _ _ _ z => z)).tr (hf3.mono (fun a _ z => by unfold Sc at z; unfold Cc; omega) (fun _ _ _ z => z)), by omega⟩
        · refine g_ldc dX11_way_42 kcX11_161 (z := -100000) rfl ?_
          exact G.retI dX11_way_44 rfl (by rw [aWay, cI_f (fun z => by have := z.2.2.2; omega)]; exact Am.wc h h7.1 h2 hf)
    · refine g_ldc dX11_way_17 kcX11_161 (z := -100000) rfl ?_
      rw [hb2 (fun z => h14 z.2.1)]
      exact G.retI dX11_way_19 rfl (by rw [aWay, cI_f (fun z => h14 z.2.1)]; exact Am.no h)
end TW
