/-! THE CLASS: rowIsWay, waysAhead, number, common -/
theorem isWy_congr {r r2 : Int → Int} : ∀ (ts : List Tm) (t n : Int), (∀ j, t ≤ j → j < t + ts.length → r j = r2 j) → (isWy ts t r n ↔ isWy ts t r2 n)
  | [], _, _, _ => Iff.rfl
  | u :: us, t, n, h => by
    have e := h t (Int.le_refl _) (by rw [List.length_cons]; omega)
    unfold isWy
    rw [e, isWy_congr us (t + 1) _ fun j z1 z2 => h j (by omega) (by rw [List.length_cons]; omega)]
theorem ahW_congr {r r2 : Int → Int} : ∀ (ts : List Tm) (t n : Int), (∀ j, t ≤ j → j < t + ts.length → r j = r2 j) → ahW ts t r n = ahW ts t r2 n
  | [], _, _, _ => rfl
  | u :: us, t, n, h => by
    have e := h t (Int.le_refl _) (by rw [List.length_cons]; omega)
    unfold ahW
    rw [e, ahW_congr us (t + 1) _ fun j z1 z2 => h j (by omega) (by rw [List.length_cons]; omega)]
theorem isWy_lo {r : Int → Int} : ∀ (ts : List Tm) (t n : Int), (∀ u ∈ ts, TOk u) → isWy ts t r n → lfT ts ≤ n
  | [], _, n, _, h => by
    unfold isWy at h
    rw [lfT]
    omega
  | u :: us, t, n, hok, h => by
    have := isWy_lo us (t + 1) _ (fun v hv => hok v (List.mem_cons_of_mem _ hv)) h.2
    have := ((hok u List.mem_cons_self).val h.1.1 h.1.2).1
    rw [lfT]
    omega
section NB
variable {w : WC} {d : Nat} {R : Option AV → Mem → Prop} {x c N q : Nat} {ts : List Tm}
theorem l_rowIsWay {μ : Mem} (o0 : IsO w μ x 11) (r11 : mR μ x 11 = some (x + 70)) (a70 : IsA w μ (x + 70) 14 5) (hr : ∀ j, 0 ≤ j → j < 5 → i32 (mI μ (x + 70) j)) (hF : FoS w μ q) (hI : FI μ q ts) {n : Int} (hn : i32 n) : ∀ (r : Nat) (t sum : Int), t + r = ts.length → 0 ≤ t → -3000 * t ≤ sum ∧ sum ≤ 3000 * t →
    G w (d + 2) mX11_rowIsWay (fun v μ2 => v = some (vI (bI (isWy (ts.drop t.toNat) t (mI μ (x + 70)) (n - sum)))) ∧ μ2 = μ) 0 0 5 [some (vP (some x)), some (vP (some q)), some (vI n), some (vI sum), some (vI t)] [] μ := by
  have h5 := hI.2.1
  have ec := hI.1
  obtain ⟨p0, ⟨pr1, pr2, pr3, pr4, pr5, pr6⟩, pa1, pa2, pa3, pa4, pa5, pa6⟩ := id hF
  intro r
  induction r with
  | zero =>
    intro t sum hr2 h0 hs
    have hd : ts.drop t.toNat = [] := List.drop_eq_nil_of_le (by omega)
    rw [hd]
    refine g_iload (i := 4) rfl dX11_rowIsWay_5 ?_
    refine g_aload_n (j := 1) rfl dX11_rowIsWay_7 ?_
    refine g_getI dX11_rowIsWay_8 flX11_125 rfl (by assumption) (kz := 0) rfl ?_
    rw [ec]
    refine g_icmp_ge (tgt := 72) dX11_rowIsWay_11 (by decide) (by omega) (by omega) (fun h11 => ?_) (fun h11 => ?_)
    · refine g_iload_n (j := 3) rfl dX11_rowIsWay_72 ?_
      refine g_iload_n (j := 2) rfl dX11_rowIsWay_73 ?_
      refine g_icmp_ne (tgt := 81) dX11_rowIsWay_74 (by decide) (by omega) (by omega) (fun h74 => ?_) (fun h74 => ?_)
      · refine g_iconst dX11_rowIsWay_81 ?_
        exact G.retB dX11_rowIsWay_82 rfl (eq_bI (Or.inr ⟨rfl, fun z => by unfold isWy at z; omega⟩)) ⟨rfl, rfl⟩
      · refine g_iconst dX11_rowIsWay_77 ?_
        refine g_goto (tgt := 82) (by decide) dX11_rowIsWay_78 ?_
        exact G.retB dX11_rowIsWay_82 rfl (eq_bI (Or.inl ⟨rfl, by unfold isWy; omega⟩)) ⟨rfl, rfl⟩
    · omega
  | succ r ih =>
    intro t sum hr2 h0 hs
    obtain ⟨u, hu, hku, hat⟩ := hI.at (t := t) h0 (by omega)
    obtain ⟨g1, g2, g3, g4, -, -⟩ := hat
    obtain ⟨⟨k1, k2, k3, k4⟩, -⟩ := hku.pv
    have hl3 := hku.2.2.1
    have hd := drop_at h0 (by omega) hu
    have hrt := hr t h0 (by omega)
    have ht1 : (t + 1).toNat = t.toNat + 1 := by omega
    refine g_iload (i := 4) rfl dX11_rowIsWay_5 ?_
    refine g_aload_n (j := 1) rfl dX11_rowIsWay_7 ?_
    refine g_getI dX11_rowIsWay_8 flX11_125 rfl (by assumption) (kz := 0) rfl ?_
    rw [ec]
    refine g_icmp_ge (tgt := 72) dX11_rowIsWay_11 (by decide) (by omega) (by omega) (fun h11 => ?_) (fun h11 => ?_)
    · omega
    · refine g_aload_n (j := 0) rfl dX11_rowIsWay_14 ?_
      refine g_getR dX11_rowIsWay_15 flX11_85 rfl (by assumption) (kz := 11) rfl (by assumption) ?_
      refine g_iload (i := 4) rfl dX11_rowIsWay_18 ?_
      refine g_iald dX11_rowIsWay_20 (by assumption) (by omega) (by omega) ?_
      refine g_aload_n (j := 1) rfl dX11_rowIsWay_21 ?_
      refine g_getR dX11_rowIsWay_22 flX11_168 rfl (by assumption) (kz := 3) rfl (by assumption) ?_
      refine g_iload (i := 4) rfl dX11_rowIsWay_25 ?_
      refine g_iald dX11_rowIsWay_27 (by assumption) (by omega) (by omega) ?_
      rw [g3]
      refine g_icmp_lt (tgt := 48) dX11_rowIsWay_28 (by decide) (by omega) (by omega) (fun h28 => ?_) (fun h28 => ?_)
      · refine g_iconst dX11_rowIsWay_48 ?_
        rw [hd]
        exact G.retB dX11_rowIsWay_49 rfl (eq_bI (Or.inr ⟨rfl, fun z => by have := z.1; omega⟩)) ⟨rfl, rfl⟩
      · refine g_aload_n (j := 0) rfl dX11_rowIsWay_31 ?_
        refine g_getR dX11_rowIsWay_32 flX11_85 rfl (by assumption) (kz := 11) rfl (by assumption) ?_
        refine g_iload (i := 4) rfl dX11_rowIsWay_35 ?_
        refine g_iald dX11_rowIsWay_37 (by assumption) (by omega) (by omega) ?_
        refine g_aload_n (j := 1) rfl dX11_rowIsWay_38 ?_
        refine g_getR dX11_rowIsWay_39 flX11_171 rfl (by assumption) (kz := 4) rfl (by assumption) ?_
        refine g_iload (i := 4) rfl dX11_rowIsWay_42 ?_
        refine g_iald dX11_rowIsWay_44 (by assumption) (by omega) (by omega) ?_
        rw [g4]
        refine g_icmp_le (tgt := 50) dX11_rowIsWay_45 (by decide) (by omega) (by omega) (fun h45 => ?_) (fun h45 => ?_)
        · have hv3 := hku.v3 (x := mI μ (x + 70) t) (by omega) (by omega)
          refine g_iload_n (j := 3) rfl dX11_rowIsWay_50 ?_
          refine g_aload_n (j := 1) rfl dX11_rowIsWay_51 ?_
          refine g_iload (i := 4) rfl dX11_rowIsWay_52 ?_
          refine g_aload_n (j := 0) rfl dX11_rowIsWay_54 ?_
          refine g_getR dX11_rowIsWay_55 flX11_85 rfl (by assumption) (kz := 11) rfl (by assumption) ?_
          refine g_iload (i := 4) rfl dX11_rowIsWay_58 ?_
          refine g_iald dX11_rowIsWay_60 (by assumption) (by omega) (by omega) ?_
          refine g_callV dX11_rowIsWay_61 mlX11_228 mvX1_valueOf (ci := 1) ⟨by decide, rfl⟩ (by assumption) (c_valueOf w d μ hF (t := t) (x := mI μ (x + 70) t) (by omega) g2 g1 k2 k1 (by omega) (by omega)) sv2 rfl (by omega) (Nat.le_of_ble_eq_true rfl) (Nat.le_refl _) (Nat.le_refl _) (fun v μ2 hR => ?_)
          obtain ⟨rfl, hm⟩ := hR
          replace hm := hm.symm
          subst hm
          refine g_iadd dX11_rowIsWay_64 ?_
          refine g_istore_n (j := 3) dX11_rowIsWay_65 (by decide) rfl ls3 ?_
          refine g_iinc (i := 4) dX11_rowIsWay_66 rfl (by decide) rfl ls4 ?_
          refine g_goto (tgt := 5) (by decide) dX11_rowIsWay_69 ?_
          rw [show pv (tK u) (tF u) (mI μ (x + 70) t) = tV u (mI μ (x + 70) t) from rfl]
          refine G.post (fun v μ2 hq => ?_) (ih (t + 1) (sum + tV u (mI μ (x + 70) t)) (by omega) (by omega) (by omega))
          rw [hq.1, hd]
          refine ⟨congrArg (fun z => some (vI z)) (bI_congr ?_), hq.2⟩
          show _ ↔ (tL u ≤ mI μ (x + 70) t ∧ mI μ (x + 70) t ≤ tH u) ∧ isWy (ts.drop (t + 1).toNat) (t + 1) (mI μ (x + 70)) (n - sum - tV u (mI μ (x + 70) t))
          rw [show n - sum - tV u (mI μ (x + 70) t) = n - (sum + tV u (mI μ (x + 70) t)) by omega]
          exact ⟨fun z => ⟨⟨by omega, by omega⟩, z⟩, fun z => z.2⟩
        · refine g_iconst dX11_rowIsWay_48 ?_
          rw [hd]
          exact G.retB dX11_rowIsWay_49 rfl (eq_bI (Or.inr ⟨rfl, fun z => by have := z.1; omega⟩)) ⟨rfl, rfl⟩
theorem c_rowIsWay (w : WC) (d : Nat) (μ : Mem) (o0 : IsO w μ x 11) (r11 : mR μ x 11 = some (x + 70)) (a70 : IsA w μ (x + 70) 14 5) (hr : ∀ j, 0 ≤ j → j < 5 → i32 (mI μ (x + 70) j)) (hF : FoS w μ q) (hI : FI μ q ts) {n : Int} (hn : i32 n) : Con w (d + 2) mX11_rowIsWay 0 0 [vP (some x), vP (some q), vI n] μ (fun v μ2 => v = some (vI (bI (isWy ts 0 (mI μ (x + 70)) n))) ∧ μ2 = μ) := by
  refine Con.of (by decide) (Nat.le_of_ble_eq_true rfl) rfl ?_
  refine g_iconst dX11_rowIsWay_0 ?_
  refine g_istore_n (j := 3) dX11_rowIsWay_1 (by decide) rfl ls3 ?_
  refine g_iconst dX11_rowIsWay_2 ?_
  refine g_istore (i := 4) dX11_rowIsWay_3 (by decide) rfl ls4 ?_
  have := l_rowIsWay (d := d) o0 r11 a70 hr hF hI hn ts.length 0 0 (by omega) (by omega) (by omega)
  rw [show n - 0 = n by omega] at this
  exact this
theorem l_ahX {μ : Mem} (o0 : IsO w μ x 11) (r7 : mR μ x 7 = some (x + 59)) (r11 : mR μ x 11 = some (x + 70)) (a70 : IsA w μ (x + 70) 14 5) (hS : SeW w μ (x + 59) c N ts) (hF : FoS w μ q) (hI : FI μ q ts) (hT : 0 ≤ 3000 - lfT ts) {s n t left rt : Int} {u : Tm} (h0 : 0 ≤ t) (h1 : t < ts.length) (hu : ts[t.toNat]? = some u) (hk : TOk u) (hat : TmAt μ q t u) (hlu : left ≤ 3000 - lfT ts + lfT (ts.drop t.toNat)) (hlb : -100000 ≤ left ∧ left ≤ 100000) (hrt : mI μ (x + 70) t = rt) (hrb : tL u ≤ rt ∧ rt ≤ tH u) :
    ∀ (m : Nat) (y a : Int), tL u ≤ y → y + m = rt →
    (∀ x8 : Option AV, G w (d + 2) mX11_waysAhead R 0 0 88 [some (vP (some x)), some (vI s), some (vI n), some (vP (some q)), some (vJ (a + rsum (fun z => wy (ts.drop (t + 1).toNat) (left - tV u z)) y m)), none, some (vI left), some (vI t), x8] [] μ) →
    G w (d + 2) mX11_waysAhead R 0 0 43 [some (vP (some x)), some (vI s), some (vI n), some (vP (some q)), some (vJ a), none, some (vI left), some (vI t), some (vI y)] [] μ := by
  obtain ⟨g1, g2, g3, g4, -, -⟩ := hat
  have hok := hI.2.2.1
  have h5 := hI.2.1
  obtain ⟨p0, ⟨pr1, pr2, pr3, pr4, pr5, pr6⟩, pa1, pa2, pa3, pa4, pa5, pa6⟩ := id hF
  have hd := drop_at h0 h1 hu
  have hlf : lfT (ts.drop t.toNat) = lfT (ts.drop (t + 1).toNat) + tLo (tK u) (tF u) (tL u) (tH u) := by rw [hd]; rfl
  have os := hS.1.1
  obtain ⟨⟨k1, k2, k3, k4⟩, -⟩ := hk.pv
  have hl := hk.2.2.1
  intro m
  induction m with
  | zero =>
    intro y a z1 z2 kk
    simp only [rsum, Int.add_zero] at kk
    refine g_iload (i := 8) rfl dX11_waysAhead_43 ?_
    refine g_aload_n (j := 0) rfl dX11_waysAhead_45 ?_
    refine g_getR dX11_waysAhead_46 flX11_85 rfl (by assumption) (kz := 11) rfl (by assumption) ?_
    refine g_iload (i := 7) rfl dX11_waysAhead_49 ?_
    refine g_iald dX11_waysAhead_51 (by assumption) (by omega) (by omega) ?_
    rw [hrt]
    refine g_icmp_ge (tgt := 88) dX11_waysAhead_52 (by decide) (by omega) (by omega) (fun h52 => ?_) (fun h52 => ?_)
    · exact kk _
    · omega
  | succ m ih =>
    intro y a z1 z2 kk
    have hv := hk.val (x := y) z1 (by omega)
    have hv3 := hk.v3 (x := y) z1 (by omega)
    refine g_iload (i := 8) rfl dX11_waysAhead_43 ?_
    refine g_aload_n (j := 0) rfl dX11_waysAhead_45 ?_
    refine g_getR dX11_waysAhead_46 flX11_85 rfl (by assumption) (kz := 11) rfl (by assumption) ?_
    refine g_iload (i := 7) rfl dX11_waysAhead_49 ?_
    refine g_iald dX11_waysAhead_51 (by assumption) (by omega) (by omega) ?_
    rw [hrt]
    refine g_icmp_ge (tgt := 88) dX11_waysAhead_52 (by decide) (by omega) (by omega) (fun h52 => ?_) (fun h52 => ?_)
    · omega
    · refine g_lload (i := 4) rfl dX11_waysAhead_55 ?_
      refine g_aload_n (j := 0) rfl dX11_waysAhead_57 ?_
      refine g_getR dX11_waysAhead_58 flX11_60 rfl (by assumption) (kz := 7) rfl (by assumption) ?_
      refine g_iload (i := 7) rfl dX11_waysAhead_61 ?_
      refine g_iconst dX11_waysAhead_63 ?_
      refine g_iadd dX11_waysAhead_64 ?_
      refine g_iload (i := 6) rfl dX11_waysAhead_65 ?_
      refine g_aload_n (j := 3) rfl dX11_waysAhead_67 ?_
      refine g_iload (i := 7) rfl dX11_waysAhead_68 ?_
      refine g_iload (i := 8) rfl dX11_waysAhead_70 ?_
      refine g_callV dX11_waysAhead_72 mlX11_228 mvX1_valueOf (ci := 1) ⟨by decide, rfl⟩ (by assumption) (c_valueOf w d μ hF (t := t) (x := y) (by omega) g2 g1 k2 k1 (by omega) (by omega)) sv2 rfl (by omega) (Nat.le_of_ble_eq_true rfl) (Nat.le_refl _) (Nat.le_refl _) (fun v μ2 hR => ?_)
      obtain ⟨rfl, hm⟩ := hR
      replace hm := hm.symm
      subst hm
      rw [show pv (tK u) (tF u) y = tV u y from rfl]
      refine g_isub dX11_waysAhead_75 ?_
      refine g_callV dX11_waysAhead_76 mlX11_334 mvX7_waysFrom (ci := 7) ⟨by decide, rfl⟩ (by assumption) (c_waysFromT w d μ hS hok h5 (t := t + 1) (sm := left - tV u y) (by omega) (by omega) (by omega) hT) sv2 rfl (by omega) (Nat.le_of_ble_eq_true rfl) (Nat.le_refl _) (Nat.le_refl _) (fun v μ2 hR => ?_)
      obtain ⟨rfl, hm⟩ := hR
      replace hm := hm.symm
      subst hm
      refine g_ladd dX11_waysAhead_79 ?_
      refine g_lstore (i := 4) dX11_waysAhead_80 (by decide) rfl lj4 ?_
      refine g_iinc (i := 8) dX11_waysAhead_82 rfl (by decide) rfl ls8 ?_
      refine g_goto (tgt := 43) (by decide) dX11_waysAhead_85 ?_
      refine ih (y + 1) _ (by omega) (by omega) fun x8 => ?_
      rw [rsum, ← Int.add_assoc] at kk
      exact kk x8
theorem l_aheadW {μ : Mem} (o0 : IsO w μ x 11) (r7 : mR μ x 7 = some (x + 59)) (r11 : mR μ x 11 = some (x + 70)) (a70 : IsA w μ (x + 70) 14 5) (hS : SeW w μ (x + 59) c N ts) (hF : FoS w μ q) (hI : FI μ q ts) (hT : 0 ≤ 3000 - lfT ts) {s n : Int} : ∀ (r : Nat) (t left a : Int) (x8 : Option AV), t + r = ts.length → 0 ≤ t → left ≤ 3000 - lfT ts + lfT (ts.drop t.toNat) → -3000 - 3000 * t ≤ left ∧ left ≤ 3000 + 3000 * t → isWy (ts.drop t.toNat) t (mI μ (x + 70)) left →
    G w (d + 2) mX11_waysAhead (fun v μ2 => v = some (vJ (a + ahW (ts.drop t.toNat) t (mI μ (x + 70)) left)) ∧ μ2 = μ) 0 0 25 [some (vP (some x)), some (vI s), some (vI n), some (vP (some q)), some (vJ a), none, some (vI left), some (vI t), x8] [] μ := by
  have h5 := hI.2.1
  have ec := hI.1
  obtain ⟨p0, ⟨pr1, pr2, pr3, pr4, pr5, pr6⟩, pa1, pa2, pa3, pa4, pa5, pa6⟩ := id hF
  intro r
  induction r with
  | zero =>
    intro t left a x8 hr h0 hl hl2 hw
    have hd : ts.drop t.toNat = [] := List.drop_eq_nil_of_le (by omega)
    refine g_iload (i := 7) rfl dX11_waysAhead_25 ?_
    refine g_aload_n (j := 3) rfl dX11_waysAhead_27 ?_
    refine g_getI dX11_waysAhead_28 flX11_125 rfl (by assumption) (kz := 0) rfl ?_
    rw [ec]
    refine g_icmp_ge (tgt := 112) dX11_waysAhead_31 (by decide) (by omega) (by omega) (fun h31 => ?_) (fun h31 => ?_)
    · refine g_lload (i := 4) rfl dX11_waysAhead_112 ?_
      exact G.retJ dX11_waysAhead_114 rfl ⟨by rw [hd, ahW, Int.add_zero], rfl⟩
    · omega
  | succ r ih =>
    intro t left a x8 hr h0 hl hl2 hw
    obtain ⟨u, hu, hku, hat⟩ := hI.at (t := t) h0 (by omega)
    have hat0 := hat
    obtain ⟨g1, g2, g3, g4, -, -⟩ := hat
    obtain ⟨⟨k1, k2, k3, k4⟩, -⟩ := hku.pv
    have hl3 := hku.2.2.1
    have hd := drop_at h0 (by omega) hu
    have hlf : lfT (ts.drop t.toNat) = lfT (ts.drop (t + 1).toNat) + tLo (tK u) (tF u) (tL u) (tH u) := by rw [hd]; rfl
    have ht1 : (t + 1).toNat = t.toNat + 1 := by omega
    rw [hd] at hw
    obtain ⟨hb, hw2⟩ := hw
    have hv3 := hku.v3 hb.1 hb.2
    have hv := hku.val hb.1 hb.2
    refine g_iload (i := 7) rfl dX11_waysAhead_25 ?_
    refine g_aload_n (j := 3) rfl dX11_waysAhead_27 ?_
    refine g_getI dX11_waysAhead_28 flX11_125 rfl (by assumption) (kz := 0) rfl ?_
    rw [ec]
    refine g_icmp_ge (tgt := 112) dX11_waysAhead_31 (by decide) (by omega) (by omega) (fun h31 => ?_) (fun h31 => ?_)
    · omega
    · refine g_aload_n (j := 3) rfl dX11_waysAhead_34 ?_
      refine g_getR dX11_waysAhead_35 flX11_168 rfl (by assumption) (kz := 3) rfl (by assumption) ?_
      refine g_iload (i := 7) rfl dX11_waysAhead_38 ?_
      refine g_iald dX11_waysAhead_40 (by assumption) (by omega) (by omega) ?_
      rw [g3]
      refine g_istore (i := 8) dX11_waysAhead_41 (by decide) rfl ls8 ?_
      refine l_ahX o0 r7 r11 a70 hS hF hI hT h0 (by omega) hu hku hat0 hl (by omega) rfl hb (mI μ (x + 70) t - tL u).toNat (tL u) a (Int.le_refl _) (by omega) fun y8 => ?_
      refine g_iload (i := 6) rfl dX11_waysAhead_88 ?_
      refine g_aload_n (j := 3) rfl dX11_waysAhead_90 ?_
      refine g_iload (i := 7) rfl dX11_waysAhead_91 ?_
      refine g_aload_n (j := 0) rfl dX11_waysAhead_93 ?_
      refine g_getR dX11_waysAhead_94 flX11_85 rfl (by assumption) (kz := 11) rfl (by assumption) ?_
      refine g_iload (i := 7) rfl dX11_waysAhead_97 ?_
      refine g_iald dX11_waysAhead_99 (by assumption) (by omega) (by omega) ?_
      refine g_callV dX11_waysAhead_100 mlX11_228 mvX1_valueOf (ci := 1) ⟨by decide, rfl⟩ (by assumption) (c_valueOf w d μ hF (t := t) (x := mI μ (x + 70) t) (by omega) g2 g1 k2 k1 (by omega) (by omega)) sv2 rfl (by omega) (Nat.le_of_ble_eq_true rfl) (Nat.le_refl _) (Nat.le_refl _) (fun v μ2 hR => ?_)
      obtain ⟨rfl, hm⟩ := hR
      replace hm := hm.symm
      subst hm
      rw [show pv (tK u) (tF u) (mI μ (x + 70) t) = tV u (mI μ (x + 70) t) from rfl]
      refine g_isub dX11_waysAhead_103 ?_
      refine g_istore (i := 6) dX11_waysAhead_104 (by decide) rfl ls6 ?_
      refine g_iinc (i := 7) dX11_waysAhead_106 rfl (by decide) rfl ls7 ?_
      refine g_goto (tgt := 25) (by decide) dX11_waysAhead_109 ?_
      refine G.post (fun v μ2 hq => ?_) (ih (t + 1) (left - tV u (mI μ (x + 70) t)) _ _ (by omega) (by omega) (by omega) (by omega) hw2)
      rw [hq.1, hd]
      exact ⟨by rw [ahW, Int.add_assoc], hq.2⟩
end NB
theorem c_waysAhead (w : WC) (d : Nat) (μ : Mem) {x c N : Nat} {F : Int → List Tm} (h : CA w μ x F c N) {s n : Int} (hs : 0 ≤ s ∧ s ≤ 3) (hn : -3000 ≤ n ∧ n ≤ 3000) (hw : isWy (F s) 0 (mI μ (x + 70)) n) : Con w (d + 4) mX11_waysAhead 1 (cwB N (F s)) [vP (some x), vI s, vI n] μ (fun v μ2 => v = some (vJ (ahW (F s) 0 (mI μ (x + 70)) n)) ∧ ∃ c2, CA w μ2 x F c2 (nxN N (F s)) ∧ Fr (Sc x) (Ks x) μ μ2) := by
  have o0 := h.tps.o0
  have r1 := h.tps.r0_1
  have r7 := h.tps.r0_7
  have a7 := h.tps.a7
  have rf := h.tps.rf hs
  have o59 := h.tps.o59
  have hT : 0 ≤ 3000 - lfT (F s) := by
    have := isWy_lo _ _ _ (h.ok hs) hw
    omega
  refine Con.of (by decide) (Nat.le_of_ble_eq_true rfl) rfl ?_
  refine g_aload_n (j := 0) rfl dX11_waysAhead_0 ?_
  refine g_getR dX11_waysAhead_1 flX11_18 rfl (by assumption) (kz := 1) rfl (by assumption) ?_
  refine g_iload_n (j := 1) rfl dX11_waysAhead_4 ?_
  refine g_aald dX11_waysAhead_5 (by assumption) (by omega) (by omega) (by omega) (by assumption) ?_
  refine g_astore_n (j := 3) dX11_waysAhead_6 (by decide) rfl ls3 ?_
  refine g_aload_n (j := 0) rfl dX11_waysAhead_7 ?_
  refine g_getR dX11_waysAhead_8 flX11_60 rfl (by assumption) (kz := 7) rfl (by assumption) ?_
  refine g_iload_n (j := 1) rfl dX11_waysAhead_11 ?_
  refine g_aload_n (j := 3) rfl dX11_waysAhead_12 ?_
  refine g_callV dX11_waysAhead_13 mlX11_315 mvX7_countWays (ci := 7) ⟨by decide, rfl⟩ (by assumption) (c_series w (d) μ h hs) sv2 rfl (by omega) (Nat.le_of_ble_eq_true rfl) (bc1 := 0) (bs1 := 0) (by omega) (by omega) (fun v μ2 hR => ?_)
  obtain ⟨rfl, c2, h2, ho, hf⟩ := hR
  refine g_lconst0 dX11_waysAhead_16 ?_
  refine g_lstore (i := 4) dX11_waysAhead_17 (by decide) rfl lj4 ?_
  refine g_iload_n (j := 2) rfl dX11_waysAhead_19 ?_
  refine g_istore (i := 6) dX11_waysAhead_20 (by decide) rfl ls6 ?_
  refine g_iconst dX11_waysAhead_22 ?_
  refine g_istore (i := 7) dX11_waysAhead_23 (by decide) rfl ls7 ?_
  have er : mI μ2 (x + 70) = mI μ (x + 70) := funext fun j => hf.I h.tps.a70.2.1 (fun z => by unfold Sc at z; omega) j
  rw [← er] at hw ⊢
  refine G.post (fun v μ3 hq => ?_) (l_aheadW (d := d + 2) h2.tps.o0 h2.tps.r0_7 h2.tps.r0_11 h2.tps.a70 (h2.se hs.1 ho) (h2.tps.fs hs) (h2.fm hs) hT (F s).length 0 n 0 none (by omega) (by omega) (by rw [show ((F s).drop (0 : Int).toNat) = F s from rfl]; omega) (by omega) hw)
  rw [hq.1, hq.2]
  exact ⟨by rw [show ((F s).drop (0 : Int).toNat) = F s from rfl, Int.zero_add], c2, h2, hf⟩
/-- five numbers, a row -/
def rw5 (a b c d e : Int) : Int → Int := fun j => if j = 0 then a else if j = 1 then b else if j = 2 then c else if j = 3 then d else e
noncomputable def aNumber (F : Int → List Tm) (s n a b c d e : Int) : Int := cI (HasT F s ∧ (-3000 ≤ n ∧ n ≤ 3000) ∧ isWy (F s) 0 (rw5 a b c d e) n) (ahW (F s) 0 (rw5 a b c d e) n) (-1)
theorem c_X11_number (w : WC) (d : Nat) (μ : Mem) {x c N : Nat} {F : Int → List Tm} (h : CA w μ x F c N) {s n a0 a1 a2 a3 a4 : Int} (hs : i32 s) (hn : i32 n) (h0 : i32 a0) (h1 : i32 a1) (h2 : i32 a2) (h3 : i32 a3) (h4 : i32 a4) : ∃ bs, bs ≤ 12002 + pot N ∧ Con w (d + 5) mX11_number 3 bs [vP (some x), vI s, vI n, vI a0, vI a1, vI a2, vI a3, vI a4] μ (Am w μ x F N bs (vJ (aNumber F s n a0 a1 a2 a3 a4))) := by
  obtain ⟨bs, hb1, hb2⟩ := room2 (HasT F s ∧ (-3000 ≤ n ∧ n ≤ 3000) ∧ isWy (F s) 0 (rw5 a0 a1 a2 a3 a4) n) (cwB N (F s))
  refine ⟨bs, (rm_le hb1 hb2 fun z => by have := h.pt (show 0 ≤ s ∧ s ≤ 3 by first | exact z.1.1 | exact z.1); omega), ?_⟩
  have o0 := h.tps.o0
  have r11 := h.tps.r0_11
  have a70 := h.tps.a70
  refine Con.of (by decide) (Nat.le_of_ble_eq_true rfl) rfl ?_
  refine g_aload_n (j := 0) rfl dX11_number_0 ?_
  refine g_iload_n (j := 1) rfl dX11_number_1 ?_
  refine g_callV dX11_number_2 mlX11_128 mvX11_hasTerms (ci := 11) ⟨by decide, rfl⟩ (by assumption) (c_hasTerms w d μ h hs) sv1 rfl (by omega) (Nat.le_of_ble_eq_true rfl) (Nat.le_refl _) (Nat.le_refl _) (fun v μ2 hR => ?_)
  obtain ⟨rfl, hm⟩ := hR
  replace hm := hm.symm
  subst hm
  refine g_ifb_eq (tgt := 15) dX11_number_5 (by decide)  (fun h5 => ?_) (fun h5 => ?_)
  · refine g_ldc2 dX11_number_15 klX11_177 (z := -1) rfl ?_
    rw [hb2 (fun z => h5 z.1)]
    exact G.retJ dX11_number_18 rfl (by rw [aNumber, cI_f (fun z => h5 z.1)]; exact Am.no h)
  · refine g_iload_n (j := 2) rfl dX11_number_8 ?_
    refine g_callS dX11_number_9 mlX11_174 msX11_isNumber (c_X11_isNumber w d μ hn) sk1 rfl (by omega) (Nat.le_of_ble_eq_true rfl) (Nat.le_refl _) (Nat.le_refl _) (fun v μ2 hR => ?_)
    obtain ⟨rfl, hm⟩ := hR
    replace hm := hm.symm
    subst hm
    refine g_ifb_ne (tgt := 19) dX11_number_12 (by decide)  (fun h12 => ?_) (fun h12 => ?_)
    · refine g_aload_n (j := 0) rfl dX11_number_19 ?_
      refine g_getR dX11_number_20 flX11_85 rfl (by assumption) (kz := 11) rfl (by assumption) ?_
      refine g_iconst dX11_number_23 ?_
      refine g_iload_n (j := 3) rfl dX11_number_24 ?_
      refine g_iast dX11_number_25 (by assumption) (by omega) (by omega) ?_
      refine g_aload_n (j := 0) rfl dX11_number_26 ?_
      refine g_getR dX11_number_27 flX11_85 rfl (by simp only [IsO_sI, IsO_sL, IsO_sR, IsO_wI, IsO_wL, IsA_sI, IsA_sL, IsA_sR, IsA_wI, IsA_wL, mR_sI, mR_sL, mR_wI, mR_wL]; assumption) (kz := 11) rfl (by simp only [IsO_sI, IsO_sL, IsO_sR, IsO_wI, IsO_wL, IsA_sI, IsA_sL, IsA_sR, IsA_wI, IsA_wL, mR_sI, mR_sL, mR_wI, mR_wL]; assumption) ?_
      refine g_iconst dX11_number_30 ?_
      refine g_iload (i := 4) rfl dX11_number_31 ?_
      refine g_iast dX11_number_33 (by simp only [IsO_sI, IsO_sL, IsO_sR, IsO_wI, IsO_wL, IsA_sI, IsA_sL, IsA_sR, IsA_wI, IsA_wL, mR_sI, mR_sL, mR_wI, mR_wL]; assumption) (by omega) (by omega) ?_
      refine g_aload_n (j := 0) rfl dX11_number_34 ?_
      refine g_getR dX11_number_35 flX11_85 rfl (by simp only [IsO_sI, IsO_sL, IsO_sR, IsO_wI, IsO_wL, IsA_sI, IsA_sL, IsA_sR, IsA_wI, IsA_wL, mR_sI, mR_sL, mR_wI, mR_wL]; assumption) (kz := 11) rfl (by simp only [IsO_sI, IsO_sL, IsO_sR, IsO_wI, IsO_wL, IsA_sI, IsA_sL, IsA_sR, IsA_wI, IsA_wL, mR_sI, mR_sL, mR_wI, mR_wL]; assumption) ?_
      refine g_iconst dX11_number_38 ?_
      refine g_iload (i := 5) rfl dX11_number_39 ?_
      refine g_iast dX11_number_41 (by simp only [IsO_sI, IsO_sL, IsO_sR, IsO_wI, IsO_wL, IsA_sI, IsA_sL, IsA_sR, IsA_wI, IsA_wL, mR_sI, mR_sL, mR_wI, mR_wL]; assumption) (by omega) (by omega) ?_
      refine g_aload_n (j := 0) rfl dX11_number_42 ?_
      refine g_getR dX11_number_43 flX11_85 rfl (by simp only [IsO_sI, IsO_sL, IsO_sR, IsO_wI, IsO_wL, IsA_sI, IsA_sL, IsA_sR, IsA_wI, IsA_wL, mR_sI, mR_sL, mR_wI, mR_wL]; assumption) (kz := 11) rfl (by simp only [IsO_sI, IsO_sL, IsO_sR, IsO_wI, IsO_wL, IsA_sI, IsA_sL, IsA_sR, IsA_wI, IsA_wL, mR_sI, mR_sL, mR_wI, mR_wL]; assumption) ?_
      refine g_iconst dX11_number_46 ?_
      refine g_iload (i := 6) rfl dX11_number_47 ?_
      refine g_iast dX11_number_49 (by simp only [IsO_sI, IsO_sL, IsO_sR, IsO_wI, IsO_wL, IsA_sI, IsA_sL, IsA_sR, IsA_wI, IsA_wL, mR_sI, mR_sL, mR_wI, mR_wL]; assumption) (by omega) (by omega) ?_
      refine g_aload_n (j := 0) rfl dX11_number_50 ?_
      refine g_getR dX11_number_51 flX11_85 rfl (by simp only [IsO_sI, IsO_sL, IsO_sR, IsO_wI, IsO_wL, IsA_sI, IsA_sL, IsA_sR, IsA_wI, IsA_wL, mR_sI, mR_sL, mR_wI, mR_wL]; assumption) (kz := 11) rfl (by simp only [IsO_sI, IsO_sL, IsO_sR, IsO_wI, IsO_wL, IsA_sI, IsA_sL, IsA_sR, IsA_wI, IsA_wL, mR_sI, mR_sL, mR_wI, mR_wL]; assumption) ?_
      refine g_iconst dX11_number_54 ?_
      refine g_iload (i := 7) rfl dX11_number_55 ?_
      refine g_iast dX11_number_57 (by simp only [IsO_sI, IsO_sL, IsO_sR, IsO_wI, IsO_wL, IsA_sI, IsA_sL, IsA_sR, IsA_wI, IsA_wL, mR_sI, mR_sL, mR_wI, mR_wL]; assumption) (by omega) (by omega) ?_
      obtain ⟨μ1, hm1⟩ : ∃ μ1, μ1 = sI (sI (sI (sI (sI μ (x + 70) 0 a0) (x + 70) 1 a1) (x + 70) 2 a2) (x + 70) 3 a3) (x + 70) 4 a4 := ⟨_, rfl⟩
      rw [← hm1]
      have hf1 : Fr (fun a => a = x + 70) (fun _ _ => False) μ μ1 := by
        rw [hm1]
        have e : ∀ (m : Mem) (k v : Int), Fr (fun a => a = x + 70) (fun _ _ => False) m (sI m (x + 70) k v) := fun m k v => Fr.sI rfl
        exact ((((e _ _ _).tr (e _ _ _)).tr (e _ _ _)).tr (e _ _ _)).tr (e _ _ _)
      have hrow : ∀ j, 0 ≤ j → j < 5 → mI μ1 (x + 70) j = rw5 a0 a1 a2 a3 a4 j := fun j z1 z2 => by
        rw [hm1]
        simp only [mI_sI]
        unfold rw5
        rcases (by omega : j = 0 ∨ j = 1 ∨ j = 2 ∨ j = 3 ∨ j = 4) with rfl | rfl | rfl | rfl | rfl <;> simp
      have hr32 : ∀ j, 0 ≤ j → j < 5 → i32 (mI μ1 (x + 70) j) := fun j z1 z2 => by
        rw [hrow j z1 z2]
        unfold rw5
        rcases (by omega : j = 0 ∨ j = 1 ∨ j = 2 ∨ j = 3 ∨ j = 4) with rfl | rfl | rfl | rfl | rfl <;> simp <;> omega
      have h1' : CA w μ1 x F c N := h.fr hf1 (fun a z => by omega) (fun _ _ z => z.elim)
      have hl5 := h.l5 h5.1
      have ew := isWy_congr (r := mI μ1 (x + 70)) (r2 := rw5 a0 a1 a2 a3 a4) (F s) 0 n (fun j z1 z2 => hrow j z1 (by omega))
      have ea := ahW_congr (r := mI μ1 (x + 70)) (r2 := rw5 a0 a1 a2 a3 a4) (F s) 0 n (fun j z1 z2 => hrow j z1 (by omega))
      have hf1' : Fr (Cc x) (Kc x) μ μ1 := hf1.mono (fun a _ z => by unfold Cc; omega) (fun _ _ _ z => z.elim)
      have o01 := h1'.tps.o0
      have r111 := h1'.tps.r0_11
      have r11' := h1'.tps.r0_1
      have a71 := h1'.tps.a7
      have rf1 := h1'.tps.rf h5.1
      have a701 := h1'.tps.a70
      clear hm1
      have hs4 := h5.1
      refine g_aload_n (j := 0) rfl dX11_number_58 ?_
      refine g_aload_n (j := 0) rfl dX11_number_59 ?_
      refine g_getR dX11_number_60 flX11_18 rfl (by assumption) (kz := 1) rfl (by assumption) ?_
      refine g_iload_n (j := 1) rfl dX11_number_63 ?_
      refine g_aald dX11_number_64 (by assumption) (by omega) (by omega) (by omega) (by assumption) ?_
      refine g_iload_n (j := 2) rfl dX11_number_65 ?_
      refine g_callV dX11_number_66 mlX11_186 mvX11_rowIsWay (ci := 11) ⟨by decide, rfl⟩ (by assumption) (c_rowIsWay w d μ1 o01 r111 a701 hr32 (h1'.tps.fs h5.1) (h1'.fm h5.1) hn) sv2 rfl (by omega) (Nat.le_of_ble_eq_true rfl) (Nat.le_refl _) (Nat.le_refl _) (fun v μ2 hR => ?_)
      obtain ⟨rfl, hm⟩ := hR
      replace hm := hm.symm
      subst hm
      refine g_ifb_ne (tgt := 76) dX11_number_69 (by decide)  (fun h69 => ?_) (fun h69 => ?_)
      · have hbs := hb1 ⟨h5, h12, ew.mp h69⟩
        subst hbs
        refine g_aload_n (j := 0) rfl dX11_number_76 ?_
        refine g_iload_n (j := 1) rfl dX11_number_77 ?_
        refine g_iload_n (j := 2) rfl dX11_number_78 ?_
        refine g_callV dX11_number_79 mlX11_190 mvX11_waysAhead (ci := 11) ⟨by decide, rfl⟩ (by assumption) (c_waysAhead w d μ1 h1' h5.1 h12 h69) sv2 rfl (by omega) (Nat.le_of_ble_eq_true rfl) (bc1 := 0) (bs1 := 0) (by omega) (by omega) (fun v μ2 hR => ?_)
        obtain ⟨rfl, c2, hA2, hf2⟩ := hR
        rw [ea]
        have hp := (pot_step (ts := F s) h.2.2.1.2.1 (h.ok h5.1) (h.l5 h5.1)).1
        exact G.retJ dX11_number_82 rfl ⟨by rw [aNumber, cI_t ⟨h5, h12, ew.mp h69⟩], c2, _, hA2, hf1'.tr (hf2.mono (fun a _ z => by unfold Sc at z; unfold Cc; omega) (fun _ _ _ z => Ks_Kc z)), by omega⟩
      · refine g_ldc2 dX11_number_72 klX11_177 (z := -1) rfl ?_
        rw [hb2 (fun z => h69 (ew.mpr z.2.2))]
        exact G.retJ dX11_number_75 rfl (by rw [aNumber, cI_f (fun z => h69 (ew.mpr z.2.2))]; exact ⟨rfl, c, N, h1', hf1', by omega⟩)
    · refine g_ldc2 dX11_number_15 klX11_177 (z := -1) rfl ?_
      rw [hb2 (fun z => h12 z.2.1)]
      exact G.retJ dX11_number_18 rfl (by rw [aNumber, cI_f (fun z => h12 z.2.1)]; exact Am.no h)
theorem l_common {w : WC} {d : Nat} {μ : Mem} {a b : Nat} {ts us : List Tm} {bc bs : Nat} (ha : IsA w μ a 15 6001) (hr : RowW μ a ts) (hb : IsA w μ b 15 6001) (hr2 : RowW μ b us) (hok : ∀ u ∈ ts, TOk u) (h5 : ts.length ≤ 5) (hok2 : ∀ u ∈ us, TOk u) (h52 : us.length ≤ 5) {s s2 fr to i : Int} {p : Option Nat} (hi : i32 i) (ht : to ≤ 3000) : ∀ (k : Nat) (n f : Int), n + k = to + 1 → -3000 ≤ n → 0 ≤ f → f + k ≤ 7000 →
    G w d mX11_common (fun v μ2 => v = some (vI (pick (fun n => decide (0 < wy ts n ∧ 0 < wy us n)) i (-100000) k n f)) ∧ μ2 = μ) bc bs 54 [some (vP p), some (vI s), some (vI s2), some (vI fr), some (vI to), some (vI i), some (vP (some a)), some (vP (some b)), some (vI f), some (vI n)] [] μ := by
  intro k
  induction k with
  | zero =>
    intro n f hn h0 hf hf2
    refine g_iload (i := 9) rfl dX11_common_54 ?_
    refine g_iload (i := 4) rfl dX11_common_56 ?_
    refine g_icmp_gt (tgt := 108) dX11_common_58 (by decide) (by omega) (by omega) (fun h58 => ?_) (fun h58 => ?_)
    · refine g_iload (i := 5) rfl dX11_common_108 ?_
      refine g_iconst dX11_common_110 ?_
      refine g_icmp_ne (tgt := 119) dX11_common_111 (by decide) (by omega) (by omega) (fun h111 => ?_) (fun h111 => ?_)
      · refine g_ldc dX11_common_119 kcX11_161 (z := -100000) rfl ?_
        exact G.retI dX11_common_121 rfl ⟨by rw [pick, if_neg h111], rfl⟩
      · refine g_iload (i := 8) rfl dX11_common_114 ?_
        refine g_goto (tgt := 121) (by decide) dX11_common_116 ?_
        exact G.retI dX11_common_121 rfl ⟨by rw [pick, if_pos h111], rfl⟩
    · omega
  | succ k ih =>
    intro n f hn h0 hf hf2
    have hw := wy_64 hok h5 n
    have hw2 := wy_64 hok2 h52 n
    have hrn := hr n h0 (by omega)
    have hrn2 := hr2 n h0 (by omega)
    refine g_iload (i := 9) rfl dX11_common_54 ?_
    refine g_iload (i := 4) rfl dX11_common_56 ?_
    refine g_icmp_gt (tgt := 108) dX11_common_58 (by decide) (by omega) (by omega) (fun h58 => ?_) (fun h58 => ?_)
    · omega
    · refine g_aload (i := 6) rfl dX11_common_61 ?_
      refine g_iload (i := 9) rfl dX11_common_63 ?_
      refine g_sipush dX11_common_65 (by omega) ?_
      refine g_iadd dX11_common_68 ?_
      refine g_lald dX11_common_69 (by assumption) (by omega) (by omega) ?_
      rw [hrn]
      refine g_lconst0 dX11_common_70 ?_
      refine g_lif_le (tgt := 102) dX11_common_71 dX11_common_72 (by decide) (by omega) (by omega) (fun h71 => ?_) (fun h71 => ?_)
      · refine g_iinc (i := 9) dX11_common_102 rfl (by decide) rfl ls9 ?_
        refine g_goto (tgt := 54) (by decide) dX11_common_105 ?_
        rw [pick, if_neg (by rw [decide_eq_true_iff]; omega)]
        exact ih (n + 1) f (by omega) (by omega) (by omega) (by omega)
      · refine g_aload (i := 7) rfl dX11_common_75 ?_
        refine g_iload (i := 9) rfl dX11_common_77 ?_
        refine g_sipush dX11_common_79 (by omega) ?_
        refine g_iadd dX11_common_82 ?_
        refine g_lald dX11_common_83 (by assumption) (by omega) (by omega) ?_
        rw [hrn2]
        refine g_lconst0 dX11_common_84 ?_
        refine g_lif_le (tgt := 102) dX11_common_85 dX11_common_86 (by decide) (by omega) (by omega) (fun h85 => ?_) (fun h85 => ?_)
        · refine g_iinc (i := 9) dX11_common_102 rfl (by decide) rfl ls9 ?_
          refine g_goto (tgt := 54) (by decide) dX11_common_105 ?_
          rw [pick, if_neg (by rw [decide_eq_true_iff]; omega)]
          exact ih (n + 1) f (by omega) (by omega) (by omega) (by omega)
        · refine g_iload (i := 8) rfl dX11_common_89 ?_
          refine g_iload (i := 5) rfl dX11_common_91 ?_
          refine g_icmp_ne (tgt := 99) dX11_common_93 (by decide) (by omega) (by omega) (fun h93 => ?_) (fun h93 => ?_)
          · refine g_iinc (i := 8) dX11_common_99 rfl (by decide) rfl ls8 ?_
            refine g_iinc (i := 9) dX11_common_102 rfl (by decide) rfl ls9 ?_
            refine g_goto (tgt := 54) (by decide) dX11_common_105 ?_
            rw [pick, if_pos (by rw [decide_eq_true_iff]; omega), if_neg h93]
            exact ih (n + 1) (f + 1) (by omega) (by omega) (by omega) (by omega)
          · refine g_iload (i := 9) rfl dX11_common_96 ?_
            exact G.retI dX11_common_98 rfl ⟨by rw [pick, if_pos (by rw [decide_eq_true_iff]; omega), if_pos h93], rfl⟩
noncomputable def aCommon (F : Int → List Tm) (s s2 fr to i : Int) : Int := cI (HasT F s ∧ HasT F s2 ∧ ((-3000 ≤ fr ∧ fr ≤ 3000) ∧ (-3000 ≤ to ∧ to ≤ 3000) ∧ fr ≤ to) ∧ -1 ≤ i) (pick (fun n => decide (0 < wy (F s) n ∧ 0 < wy (F s2) n)) i (-100000) (to - fr + 1).toNat fr 0) (-100000)
theorem c_X11_common (w : WC) (d : Nat) (μ : Mem) {x c N : Nat} {F : Int → List Tm} (h : CA w μ x F c N) {s s2 fr to i : Int} (hs : i32 s) (hs2 : i32 s2) (hfr : i32 fr) (hto : i32 to) (hi : i32 i) : ∃ bs, bs ≤ 12002 + pot N ∧ Con w (d + 5) mX11_common 4 bs [vP (some x), vI s, vI s2, vI fr, vI to, vI i] μ (Am w μ x F N bs (vI (aCommon F s s2 fr to i))) := by
  obtain ⟨bs, hb1, hb2⟩ := room2 (HasT F s ∧ HasT F s2 ∧ ((-3000 ≤ fr ∧ fr ≤ 3000) ∧ (-3000 ≤ to ∧ to ≤ 3000) ∧ fr ≤ to) ∧ -1 ≤ i) (12002 + cwB N (F s) + cwB (nxN N (F s)) (F s2))
  refine ⟨bs, (rm_le hb1 hb2 fun z => by have q1 := pot_step (ts := F s) h.2.2.1.2.1 (h.ok z.1.1) (h.l5 z.1.1); have q2 := pot_step (ts := F s2) q1.2 (h.ok z.2.1.1) (h.l5 z.2.1.1); omega), ?_⟩
  have o0 := h.tps.o0
  refine Con.of (by decide) (Nat.le_of_ble_eq_true rfl) rfl ?_
  refine g_aload_n (j := 0) rfl dX11_common_0 ?_
  refine g_iload_n (j := 1) rfl dX11_common_1 ?_
  refine g_callV dX11_common_2 mlX11_128 mvX11_hasTerms (ci := 11) ⟨by decide, rfl⟩ (by assumption) (c_hasTerms w d μ h hs) sv1 rfl (by omega) (Nat.le_of_ble_eq_true rfl) (Nat.le_refl _) (Nat.le_refl _) (fun v μ2 hR => ?_)
  obtain ⟨rfl, hm⟩ := hR
  replace hm := hm.symm
  subst hm
  refine g_ifb_eq (tgt := 31) dX11_common_5 (by decide)  (fun h5 => ?_) (fun h5 => ?_)
  · refine g_ldc dX11_common_31 kcX11_161 (z := -100000) rfl ?_
    have hN : ¬ (HasT F s ∧ HasT F s2 ∧ ((-3000 ≤ fr ∧ fr ≤ 3000) ∧ (-3000 ≤ to ∧ to ≤ 3000) ∧ fr ≤ to) ∧ -1 ≤ i) := by
      intro z
      first | exact h5 z.1 | exact h13 z.2.1 | exact h22 z.2.2.1 | omega
    rw [hb2 hN]
    exact G.retI dX11_common_33 rfl (by rw [aCommon, cI_f hN]; exact Am.no h)
  · refine g_aload_n (j := 0) rfl dX11_common_8 ?_
    refine g_iload_n (j := 2) rfl dX11_common_9 ?_
    refine g_callV dX11_common_10 mlX11_128 mvX11_hasTerms (ci := 11) ⟨by decide, rfl⟩ (by assumption) (c_hasTerms w d μ h hs2) sv1 rfl (by omega) (Nat.le_of_ble_eq_true rfl) (Nat.le_refl _) (Nat.le_refl _) (fun v μ2 hR => ?_)
    obtain ⟨rfl, hm⟩ := hR
    replace hm := hm.symm
    subst hm
    refine g_ifb_eq (tgt := 31) dX11_common_13 (by decide)  (fun h13 => ?_) (fun h13 => ?_)
    · refine g_ldc dX11_common_31 kcX11_161 (z := -100000) rfl ?_
      have hN : ¬ (HasT F s ∧ HasT F s2 ∧ ((-3000 ≤ fr ∧ fr ≤ 3000) ∧ (-3000 ≤ to ∧ to ≤ 3000) ∧ fr ≤ to) ∧ -1 ≤ i) := by
        intro z
        first | exact h5 z.1 | exact h13 z.2.1 | exact h22 z.2.2.1 | omega
      rw [hb2 hN]
      exact G.retI dX11_common_33 rfl (by rw [aCommon, cI_f hN]; exact Am.no h)
    · refine g_iload_n (j := 3) rfl dX11_common_16 ?_
      refine g_iload (i := 4) rfl dX11_common_17 ?_
      refine g_callS dX11_common_19 mlX11_194 msX11_isRange (c_X11_isRange w d μ hfr hto) sk2 rfl (by omega) (Nat.le_of_ble_eq_true rfl) (Nat.le_refl _) (Nat.le_refl _) (fun v μ2 hR => ?_)
      obtain ⟨rfl, hm⟩ := hR
      replace hm := hm.symm
      subst hm
      refine g_ifb_eq (tgt := 31) dX11_common_22 (by decide)  (fun h22 => ?_) (fun h22 => ?_)
      · refine g_ldc dX11_common_31 kcX11_161 (z := -100000) rfl ?_
        have hN : ¬ (HasT F s ∧ HasT F s2 ∧ ((-3000 ≤ fr ∧ fr ≤ 3000) ∧ (-3000 ≤ to ∧ to ≤ 3000) ∧ fr ≤ to) ∧ -1 ≤ i) := by
          intro z
          first | exact h5 z.1 | exact h13 z.2.1 | exact h22 z.2.2.1 | omega
        rw [hb2 hN]
        exact G.retI dX11_common_33 rfl (by rw [aCommon, cI_f hN]; exact Am.no h)
      · refine g_iload (i := 5) rfl dX11_common_25 ?_
        refine g_iconst dX11_common_27 ?_
        refine g_icmp_ge (tgt := 34) dX11_common_28 (by decide) (by omega) (by omega) (fun h28 => ?_) (fun h28 => ?_)
        · have hV : HasT F s ∧ HasT F s2 ∧ ((-3000 ≤ fr ∧ fr ≤ 3000) ∧ (-3000 ≤ to ∧ to ≤ 3000) ∧ fr ≤ to) ∧ -1 ≤ i := ⟨h5, h13, h22, by omega⟩
          have hbs := hb1 hV
          subst hbs
          refine g_aload_n (j := 0) rfl dX11_common_34 ?_
          refine g_iload_n (j := 1) rfl dX11_common_35 ?_
          refine g_callV dX11_common_36 mlX11_131 mvX11_wayCounts (ci := 11) ⟨by decide, rfl⟩ (by assumption) (c_wayCounts w d μ h h5.1) sv1 rfl (by omega) (Nat.le_of_ble_eq_true rfl) (bc1 := 2) (bs1 := 6001 + cwB (nxN N (F s)) (F s2)) (by omega) (by omega) (fun v μ1 hR => ?_)
          obtain ⟨a1, c1, rfl, hA1, ha1, hr1, hx1, hf1⟩ := hR
          have o01 := hA1.tps.o0
          refine g_astore (i := 6) dX11_common_39 (by decide) rfl ls6 ?_
          refine g_aload_n (j := 0) rfl dX11_common_41 ?_
          refine g_iload_n (j := 2) rfl dX11_common_42 ?_
          refine g_callV dX11_common_43 mlX11_131 mvX11_wayCounts (ci := 11) ⟨by decide, rfl⟩ (by assumption) (c_wayCounts w d μ1 hA1 h13.1) sv1 rfl (by omega) (Nat.le_of_ble_eq_true rfl) (bc1 := 0) (bs1 := 0) (by omega) (by omega) (fun v μ2 hR => ?_)
          obtain ⟨a2, c2, rfl, hA2, ha2, hr2, hx2, hf2⟩ := hR
          have o02 := hA2.tps.o0
          refine g_astore (i := 7) dX11_common_46 (by decide) rfl ls7 ?_
          refine g_iconst dX11_common_48 ?_
          refine g_istore (i := 8) dX11_common_49 (by decide) rfl ls8 ?_
          refine g_iload_n (j := 3) rfl dX11_common_51 ?_
          refine g_istore (i := 9) dX11_common_52 (by decide) rfl ls9 ?_
          have hp := (pot_step (ts := F s) h.2.2.1.2.1 (h.ok h5.1) (h.l5 h5.1))
          have hp2 := (pot_step (ts := F s2) hp.2 (h.ok h13.1) (h.l5 h13.1)).1
          have hk1 : RowW μ2 a1 (F s) := by
            by_cases hss : s = s2
            · have e := hx2.2.2.1 (by rw [← hss]; exact hx1.2.1.1)
              rw [e]
              exact hr1
            · have e := hx2.2.2.2 s h5.1 hss
              obtain ⟨-, a', q1, q2⟩ := (hA2.2.2.2.2 s h5.1).1.2 ((e.1 2).trans hx1.2.1.1)
              rw [e.2 0] at q1
              cases q1.symm.trans hx1.2.1.2
              exact q2
          refine G.post (fun v μ3 hq => ?_) (l_common (hf2.A ha1) hk1 ha2 hr2 (h.ok h5.1) (h.l5 h5.1) (h.ok h13.1) (h.l5 h13.1) hi hV.2.2.1.2.1.2 (to - fr + 1).toNat fr 0 (by omega) (by omega) (by omega) (by omega))
          obtain ⟨rfl, rfl⟩ := hq
          exact ⟨by rw [aCommon, cI_t hV], c2, _, hA2, (hf1.tr hf2).mono (fun _ _ z => Tc_Cc z) (fun _ _ _ z => z), by omega⟩
        · refine g_ldc dX11_common_31 kcX11_161 (z := -100000) rfl ?_
          have hN : ¬ (HasT F s ∧ HasT F s2 ∧ ((-3000 ≤ fr ∧ fr ≤ 3000) ∧ (-3000 ≤ to ∧ to ≤ 3000) ∧ fr ≤ to) ∧ -1 ≤ i) := by
            intro z
            first | exact h5 z.1 | exact h13 z.2.1 | exact h22 z.2.2.1 | omega
          rw [hb2 hN]
          exact G.retI dX11_common_33 rfl (by rw [aCommon, cI_f hN]; exact Am.no h)
