/-! THE MODEL: a layer out of any row -/
/-- a row by a term more -/
def wyP (u : Tm) (f : Int → Int) : Int → Int := fun n => rsum (fun x => f (n - tV u x)) (tL u) (tH u - tL u + 1).toNat
def LayF (L : Int → Int) (l : Int) (f : Int → Int) : Prop := ∀ s : Int, 0 ≤ s → s ≤ 30000 → L (30001 * l + s) = f (s - 15000)
/-- what the layer can hold -/
def SuF (f : Int → Int) : Prop := ∀ n, n < -15000 ∨ 15000 < n → f n = 0
def XOk (u : Tm) (f : Int → Int) : Prop := (1 ≤ tF u ∧ tF u ≤ 495) ∧ (0 ≤ tK u ∧ tK u ≤ 4) ∧ (-3000 ≤ tL u ∧ tL u ≤ tH u ∧ tH u ≤ 3000) ∧ (∀ x, tL u ≤ x → x ≤ tH u → -15000 ≤ tV u x ∧ tV u x ≤ 15000) ∧ SuF f ∧ SuF (wyP u f)
theorem atL_f {L f : Int → Int} {l s : Int} (hs : SuF f) (hL : LayF L l f) : atL L l s = f (s - 15000) := by
  unfold atL
  by_cases h : 0 ≤ s ∧ s ≤ 30000
  · rw [if_pos h, hL s h.1 h.2]
  · rw [if_neg h, hs _ (by omega)]
theorem wyP_line {u : Tm} {f : Int → Int} (hl : tL u ≤ tH u) (h0 : tK u = 0) (n : Int) : wyP u f n = wyP u f (n - tF u) + f (n - tF u * tL u) - f (n - tF u * (tH u + 1)) := by
  have ev : ∀ x, tV u x = tF u * x := fun x => by unfold tV pv; rw [h0, pw_0]
  obtain ⟨m, hm⟩ : ∃ m : Nat, tH u - tL u = m := ⟨(tH u - tL u).toNat, by omega⟩
  have e1 : (tH u - tL u + 1).toNat = m + 1 := by omega
  have e2 : wyP u f n = f (n - tF u * tL u) + rsum (fun x => f (n - tF u * x)) (tL u + 1) m := by
    rw [wyP, e1, rsum, ev]
    congr 1
    exact rsum_congr _ _ fun x _ _ => by rw [ev]
  have e3 : wyP u f (n - tF u) = rsum (fun x => f (n - tF u * x)) (tL u + 1) m + f (n - tF u * (tH u + 1)) := by
    rw [wyP, e1, rsum_last, ev]
    have : rsum (fun x => f (n - tF u - tV u x)) (tL u) m = rsum (fun x => f (n - tF u * x)) (tL u + 1) m := by
      rw [← rsum_shift _ 1 m (tL u)]
      refine rsum_congr _ _ fun x _ _ => ?_
      rw [ev, Int.mul_add, Int.mul_one]
      congr 1
      omega
    rw [this]
    congr 2
    have e4 : tH u + 1 = tL u + (m : Int) + 1 := by omega
    rw [e4, Int.mul_add (tF u) (tL u + (m : Int)) 1, Int.mul_one]
    omega
  rw [e2, e3]
  omega
/-- the layer under way: up to s it holds the row -/
def LyF (L g : Int → Int) (l : Int) (h : Int → Int) (s : Int) : Prop := ∀ k, g k = if 30001 * l ≤ k ∧ k < 30001 * l + s then h (k - 30001 * l - 15000) else L k
theorem LyF.src {L g : Int → Int} {l j s : Int} {h f : Int → Int} (hh : LyF L g l h s) (hj : ¬ l = j) (hs : s ≤ 30001) (hL : LayF L j f) : LayF g j f := fun z h0 h1 => by
  rw [hh, if_neg (by omega)]
  exact hL z h0 h1
theorem LyF.more {L g : Int → Int} {l s : Int} {h : Int → Int} (hh : LyF L g l h s) (h0 : 0 ≤ s) {v : Int} (hv : v = h (s - 15000)) : LyF L (fun j => if j = 30001 * l + s then v else g j) l h (s + 1) := fun k => by
  show (if k = 30001 * l + s then v else g k) = _
  by_cases hk : k = 30001 * l + s
  · rw [if_pos hk, if_pos (by omega), hv]
    congr 1
    omega
  · rw [if_neg hk, hh]
    congr 1
    exact propext ⟨fun q => ⟨q.1, by omega⟩, fun q => ⟨q.1, by omega⟩⟩
section LZ
variable {w : WC} {d : Nat} {μ : Mem} {m : Nat} {R : Option AV → Mem → Prop}
/-- the x of a term that isn't a line, one behind the other -/
theorem l_layXF (hM : MoS w μ m) {l j s : Int} {u : Tm} {f : Int → Int} {g : Int → Int} (hx : XOk u f) (hj : 0 ≤ j ∧ j ≤ 5) (hs : 0 ≤ s ∧ s ≤ 30000) (hg : LayF g j f)
    (kk : ∀ x : Int, G w (d + 3) mX12_laysLayer R 0 0 121 [some (vP (some m)), some (vI l), some (vI j), some (vI (tF u)), some (vI (tK u)), some (vI (tL u)), some (vI (tH u)), some (vI s), some (vJ (wyP u f (s - 15000))), none, some (vI x)] [] (wL μ (m + 4) g)) : ∀ (n k : Nat), n + k = (tH u - tL u + 1).toNat →
    G w (d + 3) mX12_laysLayer R 0 0 83 [some (vP (some m)), some (vI l), some (vI j), some (vI (tF u)), some (vI (tK u)), some (vI (tL u)), some (vI (tH u)), some (vI s), some (vJ (rsum (fun x => f (s - 15000 - tV u x)) (tL u) k)), none, some (vI (tL u + k))] [] (wL μ (m + 4) g) := by
  have o0 := hM.o
  obtain ⟨⟨f1, f2⟩, ⟨k1, k2⟩, ⟨l1, l2, l3⟩, hv3, hsf, hsp⟩ := id hx
  intro n
  induction n with
  | zero =>
    intro k hk
    refine g_iload (i := 10) rfl dX12_laysLayer_83 ?_
    refine g_iload (i := 6) rfl dX12_laysLayer_85 ?_
    refine g_icmp_gt (tgt := 121) dX12_laysLayer_87 (by decide) (by omega) (by omega) (fun h87 => ?_) (fun h87 => ?_)
    · rw [show rsum (fun x => f (s - 15000 - tV u x)) (tL u) k = wyP u f (s - 15000) by rw [wyP, ← hk, Nat.zero_add]]
      exact kk _
    · omega
  | succ n ih =>
    intro k hk
    have hv := hv3 (tL u + k) (by omega) (by omega)
    have hat := atL_f (s := s - tV u (tL u + k)) hsf hg
    refine g_iload (i := 10) rfl dX12_laysLayer_83 ?_
    refine g_iload (i := 6) rfl dX12_laysLayer_85 ?_
    refine g_icmp_gt (tgt := 121) dX12_laysLayer_87 (by decide) (by omega) (by omega) (fun h87 => ?_) (fun h87 => ?_)
    · omega
    · refine g_lload (i := 8) rfl dX12_laysLayer_90 ?_
      refine g_aload_n (j := 0) rfl dX12_laysLayer_92 ?_
      refine g_iload_n (j := 2) rfl dX12_laysLayer_93 ?_
      refine g_iload (i := 7) rfl dX12_laysLayer_94 ?_
      refine g_i2l (by omega) dX12_laysLayer_96 ?_
      refine g_iload_n (j := 3) rfl dX12_laysLayer_97 ?_
      refine g_i2l (by omega) dX12_laysLayer_98 ?_
      refine g_iload (i := 4) rfl dX12_laysLayer_99 ?_
      refine g_iload (i := 10) rfl dX12_laysLayer_101 ?_
      refine g_i2l (by omega) dX12_laysLayer_103 ?_
      refine g_callS dX12_laysLayer_104 mlX12_97 msX12_plain (c_X12_plain w d _ (k := tK u) (x := tL u + k) (by omega) (by omega)) sk2 rfl (by omega) (Nat.le_of_ble_eq_true rfl) (Nat.le_refl _) (Nat.le_refl _) (fun v μ2 hR => ?_)
      obtain ⟨rfl, hm⟩ := hR
      replace hm := hm.symm
      subst hm
      refine g_lmul dX12_laysLayer_107 ?_
      refine g_lsub dX12_laysLayer_108 ?_
      refine g_callV dX12_laysLayer_109 mlX12_262 mvX12_at (ci := 12) ⟨by decide, rfl⟩ (by simp only [IsO_sI, IsO_sL, IsO_sR, IsO_wI, IsO_wL, IsA_sI, IsA_sL, IsA_sR, IsA_wI, IsA_wL, mR_sI, mR_sL, mR_wI, mR_wL]; assumption) (c_X12_at w d _ (hM.of_wL (a := m + 4) (g := g)) (l := j) (s := s - tV u (tL u + k)) hj (by omega)) sv2 rfl (by omega) (Nat.le_of_ble_eq_true rfl) (Nat.le_refl _) (Nat.le_refl _) (fun v μ2 hR => ?_)
      obtain ⟨rfl, hm⟩ := hR
      replace hm := hm.symm
      subst hm
      rw [mL_wL_self, hat]
      refine g_ladd dX12_laysLayer_112 ?_
      refine g_lstore (i := 8) dX12_laysLayer_113 (by decide) rfl lj8 ?_
      refine g_iinc (i := 10) dX12_laysLayer_115 rfl (by decide) rfl ls10 ?_
      refine g_goto (tgt := 83) (by decide) dX12_laysLayer_118 ?_
      have e : rsum (fun x => f (s - 15000 - tV u x)) (tL u) k + f (s - tV u (tL u + k) - 15000) = rsum (fun x => f (s - 15000 - tV u x)) (tL u) (k + 1) := by
        rw [rsum_last, show s - tV u (tL u + k) - 15000 = s - 15000 - tV u (tL u + k) by omega]
      rw [e, show tL u + (k : Int) + 1 = tL u + ((k + 1 : Nat) : Int) by omega]
      exact ih (k + 1) (by omega)
theorem l_layStoreF (hM : MoS w μ m) {l j s f k lo hi v : Int} {g : Int → Int} {x9 x10 : Option AV} (hl : 0 ≤ l ∧ l ≤ 5) (hs : 0 ≤ s ∧ s ≤ 30000)
    (kk : ∀ x8 x9 x10 : Option AV, G w (d + 3) mX12_laysLayer R 0 0 3 [some (vP (some m)), some (vI l), some (vI j), some (vI f), some (vI k), some (vI lo), some (vI hi), some (vI (s + 1)), x8, x9, x10] [] (wL μ (m + 4) (fun j => if j = 30001 * l + s then v else g j))) :
    G w (d + 3) mX12_laysLayer R 0 0 121 [some (vP (some m)), some (vI l), some (vI j), some (vI f), some (vI k), some (vI lo), some (vI hi), some (vI s), some (vJ v), x9, x10] [] (wL μ (m + 4) g) := by
  have o0 := hM.o
  have r22 := hM.r22
  have a22 := hM.a22
  refine g_aload_n (j := 0) rfl dX12_laysLayer_121 ?_
  refine g_getR dX12_laysLayer_122 flX12_35 rfl (by simp only [IsO_sI, IsO_sL, IsO_sR, IsO_wI, IsO_wL, IsA_sI, IsA_sL, IsA_sR, IsA_wI, IsA_wL, mR_sI, mR_sL, mR_wI, mR_wL]; assumption) (kz := 22) rfl (by simp only [IsO_sI, IsO_sL, IsO_sR, IsO_wI, IsO_wL, IsA_sI, IsA_sL, IsA_sR, IsA_wI, IsA_wL, mR_sI, mR_sL, mR_wI, mR_wL]; assumption) ?_
  refine g_sipush dX12_laysLayer_125 (by omega) ?_
  refine g_iload_n (j := 1) rfl dX12_laysLayer_128 ?_
  refine g_imul dX12_laysLayer_129 ?_
  refine g_iload (i := 7) rfl dX12_laysLayer_130 ?_
  refine g_iadd dX12_laysLayer_132 ?_
  refine g_lload (i := 8) rfl dX12_laysLayer_133 ?_
  refine g_last dX12_laysLayer_135 (by simp only [IsO_sI, IsO_sL, IsO_sR, IsO_wI, IsO_wL, IsA_sI, IsA_sL, IsA_sR, IsA_wI, IsA_wL, mR_sI, mR_sL, mR_wI, mR_wL]; assumption) (by omega) (by omega) ?_
  refine g_iinc (i := 7) dX12_laysLayer_136 rfl (by decide) rfl ls7 ?_
  refine g_goto (tgt := 3) (by decide) dX12_laysLayer_139 ?_
  rw [sL_wL]
  exact kk _ _ _
theorem l_laysF (hM : MoS w μ m) {l j : Int} {u : Tm} {f : Int → Int} (hx : XOk u f) (hl : 0 ≤ l ∧ l ≤ 5) (hj : 0 ≤ j ∧ j ≤ 5) (hlj : ¬ l = j) (hL : LayF (mL μ (m + 4)) j f)
    (kk : ∀ g, LyF (mL μ (m + 4)) g l (wyP u f) 30001 → R none (wL μ (m + 4) g)) : ∀ (n : Nat) (s : Int) (g : Int → Int) (x8 x9 x10 : Option AV), 0 ≤ s → s + n = 30001 → LyF (mL μ (m + 4)) g l (wyP u f) s →
    G w (d + 3) mX12_laysLayer R 0 0 3 [some (vP (some m)), some (vI l), some (vI j), some (vI (tF u)), some (vI (tK u)), some (vI (tL u)), some (vI (tH u)), some (vI s), x8, x9, x10] [] (wL μ (m + 4) g) := by
  have o0 := hM.o
  have r22 := hM.r22
  have a22 := hM.a22
  obtain ⟨⟨f1, f2⟩, ⟨k1, k2⟩, ⟨l1, l2, l3⟩, hv3, hsf, hsp⟩ := id hx
  intro n
  induction n with
  | zero =>
    intro s g x8 x9 x10 hs hn hg
    have hs0 : s = 30001 := by omega
    subst hs0
    refine g_iload (i := 7) rfl dX12_laysLayer_3 ?_
    refine g_sipush dX12_laysLayer_5 (by omega) ?_
    refine g_icmp_ge (tgt := 142) dX12_laysLayer_8 (by decide) (by omega) (by omega) (fun h8 => ?_) (fun h8 => ?_)
    · exact G.retV dX12_laysLayer_142 rfl (kk g hg)
    · omega
  | succ n ih =>
    intro s g x8 x9 x10 hs hn hg
    have hsrc := hg.src hlj (by omega) hL
    have hst : ∀ v : Int, v = wyP u f (s - 15000) → ∀ x9 x10 : Option AV, G w (d + 3) mX12_laysLayer R 0 0 121 [some (vP (some m)), some (vI l), some (vI j), some (vI (tF u)), some (vI (tK u)), some (vI (tL u)), some (vI (tH u)), some (vI s), some (vJ v), x9, x10] [] (wL μ (m + 4) g) := fun v hv x9 x10 =>
      l_layStoreF hM hl (by omega) fun x8 x9 x10 => ih (s + 1) _ _ _ _ (by omega) (by omega) (hg.more hs hv)
    have hlin : tK u = 0 → (-15000 ≤ tF u * tL u ∧ tF u * tL u ≤ 15000) ∧ (-15000 ≤ tF u * (tH u + 1) ∧ tF u * (tH u + 1) ≤ 15500) := fun z => by
      have h1 := hv3 (tL u) (Int.le_refl _) l2
      have h2 := hv3 (tH u) l2 (Int.le_refl _)
      unfold tV pv at h1 h2
      rw [z, pw_0] at h1 h2
      rw [Int.mul_add, Int.mul_one]
      omega
    refine g_iload (i := 7) rfl dX12_laysLayer_3 ?_
    refine g_sipush dX12_laysLayer_5 (by omega) ?_
    refine g_icmp_ge (tgt := 142) dX12_laysLayer_8 (by decide) (by omega) (by omega) (fun h8 => ?_) (fun h8 => ?_)
    · omega
    · refine g_lconst0 dX12_laysLayer_11 ?_
      refine g_lstore (i := 8) dX12_laysLayer_12 (by decide) rfl lj8 ?_
      refine g_iload (i := 4) rfl dX12_laysLayer_14 ?_
      refine g_if_ne (tgt := 79) dX12_laysLayer_16 (by decide) (by omega) (fun h16 => ?_) (fun h16 => ?_)
      · refine g_iload (i := 5) rfl dX12_laysLayer_79 ?_
        refine g_istore (i := 10) dX12_laysLayer_81 (by decide) rfl ls10 ?_
        have := l_layXF (d := d) (R := R) hM (l := l) (j := j) (s := s) hx hj (by omega) hsrc (fun x => hst _ rfl _ _) (tH u - tL u + 1).toNat 0 (by omega)
        rw [show tL u + ((0 : Nat) : Int) = tL u by omega] at this
        exact this
      · have hk0 : tK u = 0 := by omega
        have hln := hlin hk0
        have hwl := wyP_line (f := f) l2 hk0 (s - 15000)
        refine g_iload (i := 7) rfl dX12_laysLayer_19 ?_
        refine g_iload_n (j := 3) rfl dX12_laysLayer_21 ?_
        refine g_icmp_lt (tgt := 43) dX12_laysLayer_22 (by decide) (by omega) (by omega) (fun h22 => ?_) (fun h22 => ?_)
        · refine g_lconst0 dX12_laysLayer_43 ?_
          refine g_aload_n (j := 0) rfl dX12_laysLayer_44 ?_
          refine g_iload_n (j := 2) rfl dX12_laysLayer_45 ?_
          refine g_iload (i := 7) rfl dX12_laysLayer_46 ?_
          refine g_iload_n (j := 3) rfl dX12_laysLayer_48 ?_
          refine g_iload (i := 5) rfl dX12_laysLayer_49 ?_
          refine g_imul dX12_laysLayer_51 ?_
          refine g_isub dX12_laysLayer_52 ?_
          refine g_i2l (by omega) dX12_laysLayer_53 ?_
          refine g_callV dX12_laysLayer_54 mlX12_262 mvX12_at (ci := 12) ⟨by decide, rfl⟩ (by simp only [IsO_sI, IsO_sL, IsO_sR, IsO_wI, IsO_wL, IsA_sI, IsA_sL, IsA_sR, IsA_wI, IsA_wL, mR_sI, mR_sL, mR_wI, mR_wL]; assumption) (c_X12_at w d _ (hM.of_wL (a := m + 4) (g := g)) (l := j) (s := s - tF u * tL u) hj (by omega)) sv2 rfl (by omega) (Nat.le_of_ble_eq_true rfl) (Nat.le_refl _) (Nat.le_refl _) (fun v μ2 hR => ?_)
          obtain ⟨rfl, hm⟩ := hR
          replace hm := hm.symm
          subst hm
          rw [mL_wL_self, atL_f hsf hsrc]
          refine g_ladd dX12_laysLayer_57 ?_
          refine g_aload_n (j := 0) rfl dX12_laysLayer_58 ?_
          refine g_iload_n (j := 2) rfl dX12_laysLayer_59 ?_
          refine g_iload (i := 7) rfl dX12_laysLayer_60 ?_
          refine g_iload_n (j := 3) rfl dX12_laysLayer_62 ?_
          refine g_iload (i := 6) rfl dX12_laysLayer_63 ?_
          refine g_iconst dX12_laysLayer_65 ?_
          refine g_iadd dX12_laysLayer_66 ?_
          refine g_imul dX12_laysLayer_67 ?_
          refine g_isub dX12_laysLayer_68 ?_
          refine g_i2l (by omega) dX12_laysLayer_69 ?_
          refine g_callV dX12_laysLayer_70 mlX12_262 mvX12_at (ci := 12) ⟨by decide, rfl⟩ (by simp only [IsO_sI, IsO_sL, IsO_sR, IsO_wI, IsO_wL, IsA_sI, IsA_sL, IsA_sR, IsA_wI, IsA_wL, mR_sI, mR_sL, mR_wI, mR_wL]; assumption) (c_X12_at w d _ (hM.of_wL (a := m + 4) (g := g)) (l := j) (s := s - tF u * (tH u + 1)) hj (by omega)) sv2 rfl (by omega) (Nat.le_of_ble_eq_true rfl) (Nat.le_refl _) (Nat.le_refl _) (fun v μ2 hR => ?_)
          obtain ⟨rfl, hm⟩ := hR
          replace hm := hm.symm
          subst hm
          rw [mL_wL_self, atL_f hsf hsrc]
          refine g_lsub dX12_laysLayer_73 ?_
          refine g_lstore (i := 8) dX12_laysLayer_74 (by decide) rfl lj8 ?_
          refine g_goto (tgt := 121) (by decide) dX12_laysLayer_76 ?_
          refine hst _ ?_ _ _
          have hz := hsp (s - 15000 - tF u) (by omega)
          rw [hwl, hz, show s - tF u * tL u - 15000 = s - 15000 - tF u * tL u by omega, show s - tF u * (tH u + 1) - 15000 = s - 15000 - tF u * (tH u + 1) by omega]
        · refine g_aload_n (j := 0) rfl dX12_laysLayer_25 ?_
          refine g_getR dX12_laysLayer_26 flX12_35 rfl (by simp only [IsO_sI, IsO_sL, IsO_sR, IsO_wI, IsO_wL, IsA_sI, IsA_sL, IsA_sR, IsA_wI, IsA_wL, mR_sI, mR_sL, mR_wI, mR_wL]; assumption) (kz := 22) rfl (by simp only [IsO_sI, IsO_sL, IsO_sR, IsO_wI, IsO_wL, IsA_sI, IsA_sL, IsA_sR, IsA_wI, IsA_wL, mR_sI, mR_sL, mR_wI, mR_wL]; assumption) ?_
          refine g_sipush dX12_laysLayer_29 (by omega) ?_
          refine g_iload_n (j := 1) rfl dX12_laysLayer_32 ?_
          refine g_imul dX12_laysLayer_33 ?_
          refine g_iload (i := 7) rfl dX12_laysLayer_34 ?_
          refine g_iadd dX12_laysLayer_36 ?_
          refine g_iload_n (j := 3) rfl dX12_laysLayer_37 ?_
          refine g_isub dX12_laysLayer_38 ?_
          refine g_laldv dX12_laysLayer_39 (by simp only [IsO_sI, IsO_sL, IsO_sR, IsO_wI, IsO_wL, IsA_sI, IsA_sL, IsA_sR, IsA_wI, IsA_wL, mR_sI, mR_sL, mR_wI, mR_wL]; assumption) (by omega) (by omega) (by simp [mI_sI, mI_sL, mI_sR, mI_wI, mI_wL, mL_sI, mL_sL, mL_sR, mL_wI, mL_wL]; rfl) ?_
          refine g_goto (tgt := 44) (by decide) dX12_laysLayer_40 ?_
          refine g_aload_n (j := 0) rfl dX12_laysLayer_44 ?_
          refine g_iload_n (j := 2) rfl dX12_laysLayer_45 ?_
          refine g_iload (i := 7) rfl dX12_laysLayer_46 ?_
          refine g_iload_n (j := 3) rfl dX12_laysLayer_48 ?_
          refine g_iload (i := 5) rfl dX12_laysLayer_49 ?_
          refine g_imul dX12_laysLayer_51 ?_
          refine g_isub dX12_laysLayer_52 ?_
          refine g_i2l (by omega) dX12_laysLayer_53 ?_
          refine g_callV dX12_laysLayer_54 mlX12_262 mvX12_at (ci := 12) ⟨by decide, rfl⟩ (by simp only [IsO_sI, IsO_sL, IsO_sR, IsO_wI, IsO_wL, IsA_sI, IsA_sL, IsA_sR, IsA_wI, IsA_wL, mR_sI, mR_sL, mR_wI, mR_wL]; assumption) (c_X12_at w d _ (hM.of_wL (a := m + 4) (g := g)) (l := j) (s := s - tF u * tL u) hj (by omega)) sv2 rfl (by omega) (Nat.le_of_ble_eq_true rfl) (Nat.le_refl _) (Nat.le_refl _) (fun v μ2 hR => ?_)
          obtain ⟨rfl, hm⟩ := hR
          replace hm := hm.symm
          subst hm
          rw [mL_wL_self, atL_f hsf hsrc]
          refine g_ladd dX12_laysLayer_57 ?_
          refine g_aload_n (j := 0) rfl dX12_laysLayer_58 ?_
          refine g_iload_n (j := 2) rfl dX12_laysLayer_59 ?_
          refine g_iload (i := 7) rfl dX12_laysLayer_60 ?_
          refine g_iload_n (j := 3) rfl dX12_laysLayer_62 ?_
          refine g_iload (i := 6) rfl dX12_laysLayer_63 ?_
          refine g_iconst dX12_laysLayer_65 ?_
          refine g_iadd dX12_laysLayer_66 ?_
          refine g_imul dX12_laysLayer_67 ?_
          refine g_isub dX12_laysLayer_68 ?_
          refine g_i2l (by omega) dX12_laysLayer_69 ?_
          refine g_callV dX12_laysLayer_70 mlX12_262 mvX12_at (ci := 12) ⟨by decide, rfl⟩ (by simp only [IsO_sI, IsO_sL, IsO_sR, IsO_wI, IsO_wL, IsA_sI, IsA_sL, IsA_sR, IsA_wI, IsA_wL, mR_sI, mR_sL, mR_wI, mR_wL]; assumption) (c_X12_at w d _ (hM.of_wL (a := m + 4) (g := g)) (l := j) (s := s - tF u * (tH u + 1)) hj (by omega)) sv2 rfl (by omega) (Nat.le_of_ble_eq_true rfl) (Nat.le_refl _) (Nat.le_refl _) (fun v μ2 hR => ?_)
          obtain ⟨rfl, hm⟩ := hR
          replace hm := hm.symm
          subst hm
          rw [mL_wL_self, atL_f hsf hsrc]
          refine g_lsub dX12_laysLayer_73 ?_
          refine g_lstore (i := 8) dX12_laysLayer_74 (by decide) rfl lj8 ?_
          refine g_goto (tgt := 121) (by decide) dX12_laysLayer_76 ?_
          refine hst _ ?_ _ _
          have hgv : g (30001 * l + s - tF u) = wyP u f (s - 15000 - tF u) := by
            rw [hg, if_pos (by omega)]
            congr 1
            omega
          rw [hwl, hgv, show s - tF u * tL u - 15000 = s - 15000 - tF u * tL u by omega, show s - tF u * (tH u + 1) - 15000 = s - 15000 - tF u * (tH u + 1) by omega]
theorem c_laysLayerF (hM : MoS w μ m) {l j : Int} {u : Tm} {f : Int → Int} (hx : XOk u f) (hl : 0 ≤ l ∧ l ≤ 5) (hj : 0 ≤ j ∧ j ≤ 5) (hlj : ¬ l = j) (hL : LayF (mL μ (m + 4)) j f) : Con w (d + 3) mX12_laysLayer 0 0 [vP (some m), vI l, vI j, vI (tF u), vI (tK u), vI (tL u), vI (tH u)] μ (fun v μ2 => v = none ∧ ∃ g, LyF (mL μ (m + 4)) g l (wyP u f) 30001 ∧ μ2 = wL μ (m + 4) g) := by
  refine Con.of (by decide) (Nat.le_of_ble_eq_true rfl) rfl ?_
  refine g_iconst dX12_laysLayer_0 ?_
  refine g_istore (i := 7) dX12_laysLayer_1 (by decide) rfl ls7 ?_
  rw [← wL_eta μ (m + 4)]
  refine G.post ?_ (l_laysF hM hx hl hj hlj hL (R := fun v μ2 => v = none ∧ ∃ g, LyF (mL μ (m + 4)) g l (wyP u f) 30001 ∧ μ2 = wL μ (m + 4) g) (fun g hg => ⟨rfl, g, hg, rfl⟩) 30001 0 (mL μ (m + 4)) _ _ _ (by omega) (by omega) (fun k => by rw [if_neg (by omega)]))
  rw [wL_eta μ (m + 4)]
  exact fun _ _ h => h
end LZ
