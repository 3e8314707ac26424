/-! WRITE -/
theorem wyX_bd : ∀ (ts : List Tm) (n k : Int) (i : Nat), (∀ u ∈ ts, TOk u) → 0 ≤ k → k < wy ts n → -3000 ≤ wyX ts n k i ∧ wyX ts n k i ≤ 3000
  | [], n, k, i, _, _, _ => by unfold wyX; omega
  | u :: us, n, k, i, hok, h0, h1 => by
    have hk := hok u List.mem_cons_self
    have hl := hk.2.2.1
    have hx := xW_ok (tV u) us n (tH u - tL u + 1).toNat (tL u) k h0 (by simpa only [wy] using h1)
    cases i with
    | zero => unfold wyX; simp only []; omega
    | succ i =>
      unfold wyX
      exact wyX_bd us _ _ i (fun v hv => hok v (List.mem_cons_of_mem _ hv)) hx.2.1 hx.2.2
def rwL (r : Int → Int) : Nat → Int → List Int
  | 0, _ => []
  | k + 1, t => (if t = 0 then 61 else 44) :: (nmL (r t) ++ rwL r k (t + 1))
theorem rwL_len (r : Int → Int) : ∀ (k : Nat) (t : Int), (rwL r k t).length ≤ 6 * k
  | 0, _ => by simp [rwL]
  | k + 1, t => by
    have h1 := nmL_len (r t)
    have h2 := rwL_len r k (t + 1)
    simp [rwL]
    omega
noncomputable def bdL (ts : List Tm) (n : Int) : List Int := @ite _ (wy ts n = 0) (Classical.propDecidable _) (tXL 10) (rwL (fun t => wyX ts n 0 t.toNat) ts.length 0)
noncomputable def lnL (ts : List Tm) (n : Int) : List Int := nmL n ++ (bdL ts n ++ [59])
theorem bdL_0 {ts : List Tm} {n : Int} (h : wy ts n = 0) : bdL ts n = tXL 10 := if_pos h
theorem bdL_1 {ts : List Tm} {n : Int} (h : ¬ wy ts n = 0) : bdL ts n = rwL (fun t => wyX ts n 0 t.toNat) ts.length 0 := if_neg h
theorem bdL_len {ts : List Tm} (h5 : ts.length ≤ 5) (n : Int) : (bdL ts n).length ≤ 30 := by
  by_cases h : wy ts n = 0
  · rw [bdL_0 h]
    have := tXL_small 10 (by omega)
    omega
  · rw [bdL_1 h]
    have := rwL_len (fun t => wyX ts n 0 t.toNat) ts.length 0
    omega
theorem lnL_len {ts : List Tm} (h5 : ts.length ≤ 5) (n : Int) : (lnL ts n).length ≤ 36 := by
  have h1 := nmL_len n
  have h2 := bdL_len h5 n
  unfold lnL
  simp
  omega
noncomputable def wrL (ts : List Tm) : Nat → Int → List Int
  | 0, _ => []
  | k + 1, n => lnL ts n ++ wrL ts k (n + 1)
theorem PlC.fr {w : WC} {P : Nat → Prop} {K : Nat → Int → Prop} {μ μ2 : Mem} {x : Nat} {L : List Int} (h : PlC μ x L) (hf : Fr P K μ μ2) (hT : TPS w μ x) (h1 : ¬ P (x + 68)) (h2 : ¬ P (x + 69)) : PlC μ2 x L := by
  obtain ⟨e1, e2, e3⟩ := h
  exact ⟨(hf.I hT.o68.2.1 h1 1).trans e1, e2, fun i v hv => (hf.I hT.a69.2.1 h2 i).trans (e3 i v hv)⟩
theorem PlM.fr {w : WC} {P : Nat → Prop} {J : Int → Prop} {μ μ2 : Mem} {m : Nat} {L : List Int} (h : PlM μ m L) (hf : FrM m P J μ μ2) (hM : MoS w μ m) (h1 : ¬ P (m + 20)) (h2 : ¬ J 49) : PlM μ2 m L := by
  obtain ⟨e1, e2, e3⟩ := h
  exact ⟨(hf.2.1 49 h2).trans e1, e2, fun i v hv => (hf.1.I hM.a48.2.1 (fun z => z.elim (by omega) h1) i).trans (e3 i v hv)⟩
/-- wayCounts where they are known -/
theorem c_wayCounts1 (w : WC) (d : Nat) (μ : Mem) {x c N : Nat} {F : Int → List Tm} (h : CA w μ x F c N) {s : Int} (hs : 0 ≤ s ∧ s ≤ 3) (k1 : mI μ (tA x s) 2 = 1) : Con w d mX11_wayCounts 0 0 [vP (some x), vI s] μ (fun v μ2 => ∃ a, v = some (vP (some a)) ∧ IsA w μ a 15 6001 ∧ RowW μ a (F s) ∧ μ2 = μ) := by
  have o0 := h.tps.o0
  have r2 := h.tps.r0_2
  have a8 := h.tps.a8
  have rt := h.tps.rt hs
  have ot := h.tps.ot hs
  obtain ⟨⟨-, k2⟩, -⟩ := h.2.2.2.2 s hs
  obtain ⟨hN, a, ra, hw⟩ := k2 k1
  have ra2 := ra
  rw [DR_w _ _ hs] at ra2
  have hd := h.2.2.2.1.1 _ (by omega) a ra2
  refine Con.of (by decide) (Nat.le_of_ble_eq_true rfl) rfl ?_
  refine g_aload_n (j := 0) rfl dX11_wayCounts_0 ?_
  refine g_getR dX11_wayCounts_1 flX11_24 rfl (by assumption) (kz := 2) rfl (by assumption) ?_
  refine g_iload_n (j := 1) rfl dX11_wayCounts_4 ?_
  refine g_aald dX11_wayCounts_5 (by assumption) (by omega) (by omega) (by omega) (by assumption) ?_
  refine g_astore_n (j := 2) dX11_wayCounts_6 (by decide) rfl ls2 ?_
  refine g_aload_n (j := 2) rfl dX11_wayCounts_7 ?_
  refine g_getI dX11_wayCounts_8 flX11_307 rfl (by assumption) (kz := 2) rfl ?_
  refine g_if_eq (tgt := 19) dX11_wayCounts_11 (by decide) (by omega) (fun h11 => ?_) (fun h11 => ?_)
  · omega
  · refine g_aload_n (j := 2) rfl dX11_wayCounts_14 ?_
    refine g_getR dX11_wayCounts_15 flX11_311 rfl (by assumption) (kz := 0) rfl (by assumption) ?_
    exact G.retP dX11_wayCounts_18 rfl (Or.inr ⟨_, rfl⟩) ⟨a, rfl, hd.1, hw, rfl⟩
def Cw (x a : Nat) : Prop := Cc x a ∨ a = x + 68 ∨ a = x + 69
theorem l_row {w : WC} {d x c N : Nat} {F : Int → List Tm} {R : Option AV → Mem → Prop} {bc bs : Nat} {μ1 : Mem} {s n : Int} (hs : 0 ≤ s ∧ s ≤ 3) {rr : Int → Int} (hb : ∀ t, -3000 ≤ rr t ∧ rr t ≤ 3000) {L0 : List Int} (kk : ∀ (μ : Mem) (x3 : Option AV), CA w μ x F c N → FrP x μ1 μ → PlC μ x L0 → G w (d + 5) mX11_writeLine R bc bs 96 [some (vP (some x)), some (vI s), some (vI n), x3] [] μ) : ∀ (r : Nat) (t : Int) (μ : Mem) (L : List Int), t + r = (F s).length → 0 ≤ t → CA w μ x F c N → FrP x μ1 μ → PlC μ x L → L.length + 6 * r ≤ 2399 → L ++ rwL rr r t = L0 → (∀ j : Int, 0 ≤ j → j < (F s).length → mI μ (x + 70) j = rr j) →
    G w (d + 5) mX11_writeLine R bc bs 46 [some (vP (some x)), some (vI s), some (vI n), some (vI t)] [] μ := by
  intro r
  induction r with
  | zero =>
    intro t μ L ht h0 h hf hP hl hL hr
    have o0 := h.tps.o0
    have r1 := h.tps.r0_1
    have a7 := h.tps.a7
    have rf := h.tps.rf hs
    have ec := (h.fm hs).1
    have of := (h.tps.fs hs).1
    have h5 := h.l5 hs
    rw [rwL, List.append_nil] at hL
    subst hL
    refine g_iload_n (j := 3) rfl dX11_writeLine_46 ?_
    refine g_aload_n (j := 0) rfl dX11_writeLine_47 ?_
    refine g_getR dX11_writeLine_48 flX11_18 rfl (by assumption) (kz := 1) rfl (by assumption) ?_
    refine g_iload_n (j := 1) rfl dX11_writeLine_51 ?_
    refine g_aald dX11_writeLine_52 (by assumption) (by omega) (by omega) (by omega) (by assumption) ?_
    refine g_getI dX11_writeLine_53 flX11_125 rfl (by assumption) (kz := 0) rfl ?_
    refine g_icmp_ge (tgt := 96) dX11_writeLine_56 (by decide) (by omega) (by omega) (fun h56 => ?_) (fun h56 => ?_)
    · exact kk μ _ h hf hP
    · omega
  | succ r ih =>
    intro t μ L ht h0 h hf hP hl hL hr
    have o0 := h.tps.o0
    have r1 := h.tps.r0_1
    have a7 := h.tps.a7
    have rf := h.tps.rf hs
    have r10 := h.tps.r0_10
    have o68 := h.tps.o68
    have ec := (h.fm hs).1
    have of := (h.tps.fs hs).1
    have h5 := h.l5 hs
    have hbt := hb t
    have hrt := hr t h0 (by omega)
    rw [rwL] at hL
    refine g_iload_n (j := 3) rfl dX11_writeLine_46 ?_
    refine g_aload_n (j := 0) rfl dX11_writeLine_47 ?_
    refine g_getR dX11_writeLine_48 flX11_18 rfl (by assumption) (kz := 1) rfl (by assumption) ?_
    refine g_iload_n (j := 1) rfl dX11_writeLine_51 ?_
    refine g_aald dX11_writeLine_52 (by assumption) (by omega) (by omega) (by omega) (by assumption) ?_
    refine g_getI dX11_writeLine_53 flX11_125 rfl (by assumption) (kz := 0) rfl ?_
    refine g_icmp_ge (tgt := 96) dX11_writeLine_56 (by decide) (by omega) (by omega) (fun h56 => ?_) (fun h56 => ?_)
    · omega
    · refine g_aload_n (j := 0) rfl dX11_writeLine_59 ?_
      refine g_getR dX11_writeLine_60 flX11_81 rfl (by assumption) (kz := 10) rfl (by assumption) ?_
      refine g_iload_n (j := 3) rfl dX11_writeLine_63 ?_
      refine g_if_ne (tgt := 72) dX11_writeLine_64 (by decide) (by omega) (fun h64 => ?_) (fun h64 => ?_)
      · refine g_bipush dX11_writeLine_72 (by omega) ?_
        refine g_callV dX11_writeLine_74 mlX11_281 mvX5_putSign (ci := 5) ⟨by decide, rfl⟩ (by assumption) (c_putSign w (d + 4) μ h.tps hP (by omega) (by omega)) sv1 rfl (by omega) (Nat.le_of_ble_eq_true rfl) (Nat.le_refl _) (Nat.le_refl _) (fun v μ4 hR => ?_)
        obtain ⟨rfl, hP1, hfx⟩ := hR
        have h1 := hfx.ca h
        have o01 := h1.tps.o0
        have r101 := h1.tps.r0_10
        have r111 := h1.tps.r0_11
        have o681 := h1.tps.o68
        have a701 := h1.tps.a70
        have hrt1 := (hfx.I h.tps.a70.2.1 (by omega) t).trans hrt
        refine g_aload_n (j := 0) rfl dX11_writeLine_77 ?_
        refine g_getR dX11_writeLine_78 flX11_81 rfl (by assumption) (kz := 10) rfl (by assumption) ?_
        refine g_aload_n (j := 0) rfl dX11_writeLine_81 ?_
        refine g_getR dX11_writeLine_82 flX11_85 rfl (by assumption) (kz := 11) rfl (by assumption) ?_
        refine g_iload_n (j := 3) rfl dX11_writeLine_85 ?_
        refine g_iald dX11_writeLine_86 (by assumption) (by omega) (by omega) ?_
        rw [hrt1]
        refine g_callV dX11_writeLine_87 mlX11_337 mvX5_putInt (ci := 5) ⟨by decide, rfl⟩ (by assumption) (c_putInt w (d + 3) μ4 h1.tps hP1 (n := rr t) (by omega) (by simp; omega)) sv1 rfl (by omega) (Nat.le_of_ble_eq_true rfl) (Nat.le_refl _) (Nat.le_refl _) (fun v μ5 hR => ?_)
        obtain ⟨rfl, hP2, hfx2⟩ := hR
        have h2 := hfx2.ca h1
        refine g_iinc (i := 3) dX11_writeLine_90 rfl (by decide) rfl ls3 ?_
        refine g_goto (tgt := 46) (by decide) dX11_writeLine_93 ?_
        refine ih (t + 1) μ5 _ (by omega) (by omega) h2 ((hf.tr hfx).tr hfx2) hP2 (by have := nmL_len (rr t); simp; omega) ?_ (fun j z1 z2 => ?_)
        · rw [← hL]
          first | rw [if_neg (by omega)] | rw [if_pos (by omega)]
          simp
        · rw [hfx2.I h1.tps.a70.2.1 (by omega), hfx.I h.tps.a70.2.1 (by omega)]
          exact hr j z1 z2
      · refine g_bipush dX11_writeLine_67 (by omega) ?_
        refine g_goto (tgt := 74) (by decide) dX11_writeLine_69 ?_
        refine g_callV dX11_writeLine_74 mlX11_281 mvX5_putSign (ci := 5) ⟨by decide, rfl⟩ (by assumption) (c_putSign w (d + 4) μ h.tps hP (by omega) (by omega)) sv1 rfl (by omega) (Nat.le_of_ble_eq_true rfl) (Nat.le_refl _) (Nat.le_refl _) (fun v μ4 hR => ?_)
        obtain ⟨rfl, hP1, hfx⟩ := hR
        have h1 := hfx.ca h
        have o01 := h1.tps.o0
        have r101 := h1.tps.r0_10
        have r111 := h1.tps.r0_11
        have o681 := h1.tps.o68
        have a701 := h1.tps.a70
        have hrt1 := (hfx.I h.tps.a70.2.1 (by omega) t).trans hrt
        refine g_aload_n (j := 0) rfl dX11_writeLine_77 ?_
        refine g_getR dX11_writeLine_78 flX11_81 rfl (by assumption) (kz := 10) rfl (by assumption) ?_
        refine g_aload_n (j := 0) rfl dX11_writeLine_81 ?_
        refine g_getR dX11_writeLine_82 flX11_85 rfl (by assumption) (kz := 11) rfl (by assumption) ?_
        refine g_iload_n (j := 3) rfl dX11_writeLine_85 ?_
        refine g_iald dX11_writeLine_86 (by assumption) (by omega) (by omega) ?_
        rw [hrt1]
        refine g_callV dX11_writeLine_87 mlX11_337 mvX5_putInt (ci := 5) ⟨by decide, rfl⟩ (by assumption) (c_putInt w (d + 3) μ4 h1.tps hP1 (n := rr t) (by omega) (by simp; omega)) sv1 rfl (by omega) (Nat.le_of_ble_eq_true rfl) (Nat.le_refl _) (Nat.le_refl _) (fun v μ5 hR => ?_)
        obtain ⟨rfl, hP2, hfx2⟩ := hR
        have h2 := hfx2.ca h1
        refine g_iinc (i := 3) dX11_writeLine_90 rfl (by decide) rfl ls3 ?_
        refine g_goto (tgt := 46) (by decide) dX11_writeLine_93 ?_
        refine ih (t + 1) μ5 _ (by omega) (by omega) h2 ((hf.tr hfx).tr hfx2) hP2 (by have := nmL_len (rr t); simp; omega) ?_ (fun j z1 z2 => ?_)
        · rw [← hL]
          first | rw [if_neg (by omega)] | rw [if_pos (by omega)]
          simp
        · rw [hfx2.I h1.tps.a70.2.1 (by omega), hfx.I h.tps.a70.2.1 (by omega)]
          exact hr j z1 z2
theorem c_writeLine (w : WC) (d : Nat) (μ : Mem) {x c N : Nat} {F : Int → List Tm} (h : CA w μ x F c N) {s n : Int} (hs : 0 ≤ s ∧ s ≤ 3) (hn : -3000 ≤ n ∧ n ≤ 3000) {L : List Int} (hP : PlC μ x L) (hl : L.length + 36 ≤ 2400) {kn : Bool} (hkn0 : kn = true → mI μ (tA x s) 2 = 1) : Con w (d + 5) mX11_writeLine 3 (if kn then 0 else 6001 + cwB N (F s)) [vP (some x), vI s, vI n] μ (fun v μ2 => v = none ∧ ∃ c2, CA w μ2 x F c2 (nxN N (F s)) ∧ mI μ2 (tA x s) 2 = 1 ∧ PlC μ2 x (L ++ lnL (F s) n) ∧ Fr (Cw x) (Kc x) μ μ2) := by
  have o0 := h.tps.o0
  have r10 := h.tps.r0_10
  have o68 := h.tps.o68
  have hbA := fA_bd x hs
  have hnl := nmL_len n
  have hl10 := tXL_small 10 (by omega)
  have hbl := bdL_len (h.l5 hs) n
  cases kn with
  | true =>
    have k1 := hkn0 rfl
    have hkn := ((h.2.2.2.2 s hs).1.2 k1).1
    show Con w (d + 5) mX11_writeLine 3 0 _ μ _
    refine Con.of (by decide) (Nat.le_of_ble_eq_true rfl) rfl ?_
    refine g_aload_n (j := 0) rfl dX11_writeLine_0 ?_
    refine g_getR dX11_writeLine_1 flX11_81 rfl (by assumption) (kz := 10) rfl (by assumption) ?_
    refine g_iload_n (j := 2) rfl dX11_writeLine_4 ?_
    refine g_callV dX11_writeLine_5 mlX11_337 mvX5_putInt (ci := 5) ⟨by decide, rfl⟩ (by assumption) (c_putInt w (d + 3) μ h.tps hP (n := n) (by omega) (by omega)) sv1 rfl (by omega) (Nat.le_of_ble_eq_true rfl) (Nat.le_refl _) (Nat.le_refl _) (fun v μ1 hR => ?_)
    obtain ⟨rfl, hP1, hfx1⟩ := hR
    have h1 := hfx1.ca h
    have o01 := h1.tps.o0
    replace k1 : mI μ1 (tA x s) 2 = 1 := (hfx1.I (h.tps.ot hs).2.1 (by omega) 2).trans k1
    refine g_aload_n (j := 0) rfl dX11_writeLine_8 ?_
    refine g_iload_n (j := 1) rfl dX11_writeLine_9 ?_
    refine g_callV dX11_writeLine_10 mlX11_131 mvX11_wayCounts (ci := 11) ⟨by decide, rfl⟩ (by assumption) (c_wayCounts1 w (d + 4) μ1 h1 hs k1) sv1 rfl (by omega) (Nat.le_of_ble_eq_true rfl) (bc1 := 1) (bs1 := 0) (by omega) (by omega) (fun v μ2 hR => ?_)
    obtain ⟨a, rfl, ha, hr, hm⟩ := hR
    replace hm := hm.symm
    subst hm
    have h2 := h1
    have hN1 : nxN N (F s) = N := nxN_of hkn
    have hN0 : cwB N (F s) = 0 := cwB_of hkn
    have hk2 := k1
    have hP2 := hP1
    have hf2 : Fr (Tc x) (Kc x) μ1 μ1 := Fr.rf
    have hrn := hr n hn.1 hn.2
    have hw := wy_64 (h.ok hs) (h.l5 hs) n
    have o02 := h2.tps.o0
    have r102 := h2.tps.r0_10
    have o682 := h2.tps.o68
    refine g_iload_n (j := 2) rfl dX11_writeLine_13 ?_
    refine g_sipush dX11_writeLine_14 (by omega) ?_
    refine g_iadd dX11_writeLine_17 ?_
    refine g_lald dX11_writeLine_18 (by assumption) (by omega) (by omega) ?_
    rw [hrn]
    refine g_lconst0 dX11_writeLine_19 ?_
    refine g_lif_ne (tgt := 37) dX11_writeLine_20 dX11_writeLine_21 (by decide) (by omega) (by omega) (fun h20 => ?_) (fun h20 => ?_)
    · refine g_aload_n (j := 0) rfl dX11_writeLine_37 ?_
      refine g_iload_n (j := 1) rfl dX11_writeLine_38 ?_
      refine g_iload_n (j := 2) rfl dX11_writeLine_39 ?_
      refine g_lconst0 dX11_writeLine_40 ?_
      refine g_callV dX11_writeLine_41 mlX11_182 mvX11_takeWay (ci := 11) ⟨by decide, rfl⟩ (by assumption) (c_takeWay w d μ1 h2 hs hn (k := 0) (by omega)) sv3 rfl (by omega) (Nat.le_of_ble_eq_true rfl) (bc1 := 0) (bs1 := 0) (by omega) (by rw [hN0]; omega) (fun v μ3 hR => ?_)
      obtain ⟨rfl, c3, h3, hf3, hx3⟩ := hR
      rw [hN1] at h3
      have hP3 := hP2.fr hf3 h2.tps (fun z => by unfold Sc at z; omega) (fun z => by unfold Sc at z; omega)
      have o03 := h3.tps.o0
      refine g_iconst dX11_writeLine_44 ?_
      refine g_istore_n (j := 3) dX11_writeLine_45 (by decide) rfl ls3 ?_
      refine l_row (d := d) (μ1 := μ3) (L0 := (L ++ nmL n) ++ bdL (F s) n) hs (rr := fun t => wyX (F s) n 0 t.toNat) (fun t => wyX_bd (F s) n 0 t.toNat (h.ok hs) (by omega) (by omega)) (fun μ5 y3 h5 hfx5 hP5 => ?_) (F s).length 0 μ3 (L ++ nmL n) (by omega) (by omega) h3 Fr.rf hP3 (by have := h.l5 hs; simp; omega) (by rw [bdL_1 (by omega)]) hx3
      have o05 := h5.tps.o0
      have r105 := h5.tps.r0_10
      have o685 := h5.tps.o68
      have hk3 := (hf3.I (h2.tps.ot hs).2.1 (fun z => by unfold Sc at z; omega) 2).trans hk2
      have hk5 := (hfx5.I (h3.tps.ot hs).2.1 (by omega) 2).trans hk3
      refine g_aload_n (j := 0) rfl dX11_writeLine_96 ?_
      refine g_getR dX11_writeLine_97 flX11_81 rfl (by assumption) (kz := 10) rfl (by assumption) ?_
      refine g_bipush dX11_writeLine_100 (by omega) ?_
      refine g_callV dX11_writeLine_102 mlX11_281 mvX5_putSign (ci := 5) ⟨by decide, rfl⟩ (by assumption) (c_putSign w (d + 4) μ5 h5.tps hP5 (c := 59) (by omega) (by simp; omega)) sv1 rfl (by omega) (Nat.le_of_ble_eq_true rfl) (bc1 := 0) (bs1 := 0) (by omega) (by omega) (fun v μ6 hR => ?_)
      obtain ⟨rfl, hP6, hfx6⟩ := hR
      have h6 := hfx6.ca h5
      have hk6 := (hfx6.I (h5.tps.ot hs).2.1 (by omega) 2).trans hk5
      refine G.retV dX11_writeLine_105 rfl ⟨rfl, c3, by rw [hN1]; exact h6, hk6, ?_, ?_⟩
      · rw [lnL]
        simpa only [List.append_assoc] using hP6
      · exact (hfx1.mono (fun a _ z => Or.inr z) (fun _ _ _ z => z.elim)).tr ((hf2.mono (fun _ _ z => Or.inl (Tc_Cc z)) (fun _ _ _ z => z)).tr ((hf3.mono (fun a _ z => Or.inl (by unfold Sc at z; unfold Cc; omega)) (fun _ _ _ z => z)).tr ((hfx5.tr hfx6).mono (fun a _ z => Or.inr z) (fun _ _ _ z => z.elim))))
    · refine g_aload_n (j := 0) rfl dX11_writeLine_24 ?_
      refine g_getR dX11_writeLine_25 flX11_81 rfl (by assumption) (kz := 10) rfl (by assumption) ?_
      refine g_ldcwT dX11_writeLine_28 (n := 10) (tx := " not") (List.mem_of_getElem? (i := 10) rfl) ?_
      refine g_callV dX11_writeLine_31 mlX11_344 mvX5_putText (ci := 5) ⟨by decide, rfl⟩ (by assumption) (c_putText w (d) μ1 (n := 10) (by omega) h2.tps hP2 (by simp; omega)) sv1 rfl (by omega) (Nat.le_of_ble_eq_true rfl) (Nat.le_refl _) (Nat.le_refl _) (fun v μ5 hR => ?_)
      obtain ⟨rfl, hP5, hfx5⟩ := hR
      have h5 := hfx5.ca h2
      have o05 := h5.tps.o0
      have r105 := h5.tps.r0_10
      have o685 := h5.tps.o68
      have hk5 := (hfx5.I (h2.tps.ot hs).2.1 (by omega) 2).trans hk2
      have hb5 : bdL (F s) n = tXL 10 := bdL_0 (by omega)
      have hl5 := hl10
      refine g_goto (tgt := 96) (by decide) dX11_writeLine_34 ?_
      refine g_aload_n (j := 0) rfl dX11_writeLine_96 ?_
      refine g_getR dX11_writeLine_97 flX11_81 rfl (by assumption) (kz := 10) rfl (by assumption) ?_
      refine g_bipush dX11_writeLine_100 (by omega) ?_
      refine g_callV dX11_writeLine_102 mlX11_281 mvX5_putSign (ci := 5) ⟨by decide, rfl⟩ (by assumption) (c_putSign w (d + 4) μ5 h5.tps hP5 (c := 59) (by omega) (by simp; omega)) sv1 rfl (by omega) (Nat.le_of_ble_eq_true rfl) (Nat.le_refl _) (Nat.le_refl _) (fun v μ6 hR => ?_)
      obtain ⟨rfl, hP6, hfx6⟩ := hR
      have h6 := hfx6.ca h5
      have hk6 := (hfx6.I (h5.tps.ot hs).2.1 (by omega) 2).trans hk5
      refine G.retV dX11_writeLine_105 rfl ⟨rfl, c, by rw [hN1]; exact h6, hk6, ?_, ?_⟩
      · rw [lnL, hb5]
        simpa only [List.append_assoc] using hP6
      · exact (hfx1.mono (fun a _ z => Or.inr z) (fun _ _ _ z => z.elim)).tr ((hf2.mono (fun _ _ z => Or.inl (Tc_Cc z)) (fun _ _ _ z => z)).tr ((hfx5.tr hfx6).mono (fun a _ z => Or.inr z) (fun _ _ _ z => z.elim)))
  | false =>
    show Con w (d + 5) mX11_writeLine 3 (6001 + cwB N (F s)) _ μ _
    refine Con.of (by decide) (Nat.le_of_ble_eq_true rfl) rfl ?_
    refine g_aload_n (j := 0) rfl dX11_writeLine_0 ?_
    refine g_getR dX11_writeLine_1 flX11_81 rfl (by assumption) (kz := 10) rfl (by assumption) ?_
    refine g_iload_n (j := 2) rfl dX11_writeLine_4 ?_
    refine g_callV dX11_writeLine_5 mlX11_337 mvX5_putInt (ci := 5) ⟨by decide, rfl⟩ (by assumption) (c_putInt w (d + 3) μ h.tps hP (n := n) (by omega) (by omega)) sv1 rfl (by omega) (Nat.le_of_ble_eq_true rfl) (Nat.le_refl _) (Nat.le_refl _) (fun v μ1 hR => ?_)
    obtain ⟨rfl, hP1, hfx1⟩ := hR
    have h1 := hfx1.ca h
    have o01 := h1.tps.o0
    refine g_aload_n (j := 0) rfl dX11_writeLine_8 ?_
    refine g_iload_n (j := 1) rfl dX11_writeLine_9 ?_
    refine g_callV dX11_writeLine_10 mlX11_131 mvX11_wayCounts (ci := 11) ⟨by decide, rfl⟩ (by assumption) (c_wayCounts w d μ1 h1 hs) sv1 rfl (by omega) (Nat.le_of_ble_eq_true rfl) (bc1 := 1) (bs1 := 0) (by omega) (Nat.le_of_eq (Nat.zero_add _)) (fun v μ2 hR => ?_)
    obtain ⟨a, c2, rfl, h2, ha, hr, ⟨hxa, ⟨hk2, -⟩, -, -⟩, hf2⟩ := hR
    have hP2 := hP1.fr hf2 h1.tps (fun z => by unfold Tc Sc at z; omega) (fun z => by unfold Tc Sc at z; omega)
    have hN1 := (nxN_2 N (F s)).1
    have hN0 := (nxN_2 N (F s)).2
    have hrn := hr n hn.1 hn.2
    have hw := wy_64 (h.ok hs) (h.l5 hs) n
    have o02 := h2.tps.o0
    have r102 := h2.tps.r0_10
    have o682 := h2.tps.o68
    refine g_iload_n (j := 2) rfl dX11_writeLine_13 ?_
    refine g_sipush dX11_writeLine_14 (by omega) ?_
    refine g_iadd dX11_writeLine_17 ?_
    refine g_lald dX11_writeLine_18 (by assumption) (by omega) (by omega) ?_
    rw [hrn]
    refine g_lconst0 dX11_writeLine_19 ?_
    refine g_lif_ne (tgt := 37) dX11_writeLine_20 dX11_writeLine_21 (by decide) (by omega) (by omega) (fun h20 => ?_) (fun h20 => ?_)
    · refine g_aload_n (j := 0) rfl dX11_writeLine_37 ?_
      refine g_iload_n (j := 1) rfl dX11_writeLine_38 ?_
      refine g_iload_n (j := 2) rfl dX11_writeLine_39 ?_
      refine g_lconst0 dX11_writeLine_40 ?_
      refine g_callV dX11_writeLine_41 mlX11_182 mvX11_takeWay (ci := 11) ⟨by decide, rfl⟩ (by assumption) (c_takeWay w d μ2 h2 hs hn (k := 0) (by omega)) sv3 rfl (by omega) (Nat.le_of_ble_eq_true rfl) (bc1 := 0) (bs1 := 0) (by omega) (by rw [hN0]; omega) (fun v μ3 hR => ?_)
      obtain ⟨rfl, c3, h3, hf3, hx3⟩ := hR
      rw [hN1] at h3
      have hP3 := hP2.fr hf3 h2.tps (fun z => by unfold Sc at z; omega) (fun z => by unfold Sc at z; omega)
      have o03 := h3.tps.o0
      refine g_iconst dX11_writeLine_44 ?_
      refine g_istore_n (j := 3) dX11_writeLine_45 (by decide) rfl ls3 ?_
      refine l_row (d := d) (μ1 := μ3) (L0 := (L ++ nmL n) ++ bdL (F s) n) hs (rr := fun t => wyX (F s) n 0 t.toNat) (fun t => wyX_bd (F s) n 0 t.toNat (h.ok hs) (by omega) (by omega)) (fun μ5 y3 h5 hfx5 hP5 => ?_) (F s).length 0 μ3 (L ++ nmL n) (by omega) (by omega) h3 Fr.rf hP3 (by have := h.l5 hs; simp; omega) (by rw [bdL_1 (by omega)]) hx3
      have o05 := h5.tps.o0
      have r105 := h5.tps.r0_10
      have o685 := h5.tps.o68
      have hk3 := (hf3.I (h2.tps.ot hs).2.1 (fun z => by unfold Sc at z; omega) 2).trans hk2
      have hk5 := (hfx5.I (h3.tps.ot hs).2.1 (by omega) 2).trans hk3
      refine g_aload_n (j := 0) rfl dX11_writeLine_96 ?_
      refine g_getR dX11_writeLine_97 flX11_81 rfl (by assumption) (kz := 10) rfl (by assumption) ?_
      refine g_bipush dX11_writeLine_100 (by omega) ?_
      refine g_callV dX11_writeLine_102 mlX11_281 mvX5_putSign (ci := 5) ⟨by decide, rfl⟩ (by assumption) (c_putSign w (d + 4) μ5 h5.tps hP5 (c := 59) (by omega) (by simp; omega)) sv1 rfl (by omega) (Nat.le_of_ble_eq_true rfl) (bc1 := 0) (bs1 := 0) (by omega) (by omega) (fun v μ6 hR => ?_)
      obtain ⟨rfl, hP6, hfx6⟩ := hR
      have h6 := hfx6.ca h5
      have hk6 := (hfx6.I (h5.tps.ot hs).2.1 (by omega) 2).trans hk5
      refine G.retV dX11_writeLine_105 rfl ⟨rfl, c3, h6, hk6, ?_, ?_⟩
      · rw [lnL]
        simpa only [List.append_assoc] using hP6
      · exact (hfx1.mono (fun a _ z => Or.inr z) (fun _ _ _ z => z.elim)).tr ((hf2.mono (fun _ _ z => Or.inl (Tc_Cc z)) (fun _ _ _ z => z)).tr ((hf3.mono (fun a _ z => Or.inl (by unfold Sc at z; unfold Cc; omega)) (fun _ _ _ z => z)).tr ((hfx5.tr hfx6).mono (fun a _ z => Or.inr z) (fun _ _ _ z => z.elim))))
    · refine g_aload_n (j := 0) rfl dX11_writeLine_24 ?_
      refine g_getR dX11_writeLine_25 flX11_81 rfl (by assumption) (kz := 10) rfl (by assumption) ?_
      refine g_ldcwT dX11_writeLine_28 (n := 10) (tx := " not") (List.mem_of_getElem? (i := 10) rfl) ?_
      refine g_callV dX11_writeLine_31 mlX11_344 mvX5_putText (ci := 5) ⟨by decide, rfl⟩ (by assumption) (c_putText w (d) μ2 (n := 10) (by omega) h2.tps hP2 (by simp; omega)) sv1 rfl (by omega) (Nat.le_of_ble_eq_true rfl) (Nat.le_refl _) (Nat.le_refl _) (fun v μ5 hR => ?_)
      obtain ⟨rfl, hP5, hfx5⟩ := hR
      have h5 := hfx5.ca h2
      have o05 := h5.tps.o0
      have r105 := h5.tps.r0_10
      have o685 := h5.tps.o68
      have hk5 := (hfx5.I (h2.tps.ot hs).2.1 (by omega) 2).trans hk2
      have hb5 : bdL (F s) n = tXL 10 := bdL_0 (by omega)
      have hl5 := hl10
      refine g_goto (tgt := 96) (by decide) dX11_writeLine_34 ?_
      refine g_aload_n (j := 0) rfl dX11_writeLine_96 ?_
      refine g_getR dX11_writeLine_97 flX11_81 rfl (by assumption) (kz := 10) rfl (by assumption) ?_
      refine g_bipush dX11_writeLine_100 (by omega) ?_
      refine g_callV dX11_writeLine_102 mlX11_281 mvX5_putSign (ci := 5) ⟨by decide, rfl⟩ (by assumption) (c_putSign w (d + 4) μ5 h5.tps hP5 (c := 59) (by omega) (by simp; omega)) sv1 rfl (by omega) (Nat.le_of_ble_eq_true rfl) (Nat.le_refl _) (Nat.le_refl _) (fun v μ6 hR => ?_)
      obtain ⟨rfl, hP6, hfx6⟩ := hR
      have h6 := hfx6.ca h5
      have hk6 := (hfx6.I (h5.tps.ot hs).2.1 (by omega) 2).trans hk5
      refine G.retV dX11_writeLine_105 rfl ⟨rfl, c2, h6, hk6, ?_, ?_⟩
      · rw [lnL, hb5]
        simpa only [List.append_assoc] using hP6
      · exact (hfx1.mono (fun a _ z => Or.inr z) (fun _ _ _ z => z.elim)).tr ((hf2.mono (fun _ _ z => Or.inl (Tc_Cc z)) (fun _ _ _ z => z)).tr ((hfx5.tr hfx6).mono (fun a _ z => Or.inr z) (fun _ _ _ z => z.elim)))
theorem l_write {w : WC} {d x : Nat} {F : Int → List Tm} {μ0 : Mem} {s fr to : Int} (hs : 0 ≤ s ∧ s ≤ 3) (hto : to ≤ 3000) (hfr : -3000 ≤ fr) {N2 : Nat} (hN1 : nxN N2 (F s) = N2) : ∀ (r : Nat) (n : Int) (μ : Mem) (c : Nat) (L : List Int), n + r = to + 1 → fr ≤ n → CA w μ x F c N2 → mI μ (tA x s) 2 = 1 → Fr (Cw x) (Kc x) μ0 μ → PlC μ x L → L.length + 36 * r ≤ 2400 →
    G w (d + 6) mX11_write (fun v μ2 => v = some (vI (L ++ wrL (F s) r n).length) ∧ (∃ c2, CA w μ2 x F c2 N2) ∧ PlC μ2 x (L ++ wrL (F s) r n) ∧ Fr (Cw x) (Kc x) μ0 μ2) (3 * r) 0 37 [some (vP (some x)), some (vI s), some (vI fr), some (vI to), some (vI n)] [] μ := by
  intro r
  induction r with
  | zero =>
    intro n μ c L hn h0 h hk hf hP hl
    have o0 := h.tps.o0
    have r10 := h.tps.r0_10
    have o68 := h.tps.o68
    rw [wrL, List.append_nil]
    refine g_iload (i := 4) rfl dX11_write_37 ?_
    refine g_iload_n (j := 3) rfl dX11_write_39 ?_
    refine g_icmp_gt (tgt := 56) dX11_write_40 (by decide) (by omega) (by omega) (fun h40 => ?_) (fun h40 => ?_)
    · refine g_aload_n (j := 0) rfl dX11_write_56 ?_
      refine g_getR dX11_write_57 flX11_81 rfl (by assumption) (kz := 10) rfl (by assumption) ?_
      refine g_getI dX11_write_60 flX11_278 rfl (by assumption) (kz := 1) rfl ?_
      rw [hP.1]
      exact G.retI dX11_write_63 rfl ⟨rfl, ⟨c, h⟩, hP, hf⟩
    · omega
  | succ r ih =>
    intro n μ c L hn h0 h hk hf hP hl
    have o0 := h.tps.o0
    have hll := lnL_len (h.l5 hs) n
    rw [wrL]
    refine g_iload (i := 4) rfl dX11_write_37 ?_
    refine g_iload_n (j := 3) rfl dX11_write_39 ?_
    refine g_icmp_gt (tgt := 56) dX11_write_40 (by decide) (by omega) (by omega) (fun h40 => ?_) (fun h40 => ?_)
    · omega
    · refine g_aload_n (j := 0) rfl dX11_write_43 ?_
      refine g_iload_n (j := 1) rfl dX11_write_44 ?_
      refine g_iload (i := 4) rfl dX11_write_45 ?_
      refine g_callV dX11_write_47 mlX11_288 mvX11_writeLine (ci := 11) ⟨by decide, rfl⟩ (by assumption) (c_writeLine w d μ h hs (n := n) (by omega) hP (by omega) (kn := true) (fun _ => hk)) sv2 rfl (by omega) (Nat.le_of_ble_eq_true rfl) (bc1 := 3 * r) (bs1 := 0) (by omega) (by simp) (fun v μ2 hR => ?_)
      obtain ⟨rfl, c2, h2, hk2, hP2, hf2⟩ := hR
      rw [hN1] at h2
      refine g_iinc (i := 4) dX11_write_50 rfl (by decide) rfl ls4 ?_
      refine g_goto (tgt := 37) (by decide) dX11_write_53 ?_
      refine G.post (fun v μ3 hq => ?_) (ih (n + 1) μ2 c2 _ (by omega) (by omega) h2 hk2 (hf.tr hf2) hP2 (by rw [List.length_append]; omega))
      rw [List.append_assoc] at hq
      exact hq
theorem c_X11_write (w : WC) (d : Nat) (μ : Mem) {x c N : Nat} {F : Int → List Tm} (h : CA w μ x F c N) {s fr to : Int} (hs : i32 s) (hfr : i32 fr) (hto : i32 to) : ∃ bs, bs ≤ 12002 + pot N ∧ Con w (d + 6) mX11_write 200 bs [vP (some x), vI s, vI fr, vI to] μ (fun v μ2 => (∃ c2 N2, CA w μ2 x F c2 N2 ∧ bs + pot N2 ≤ 12002 + pot N) ∧ Fr (Cw x) (Kc x) μ μ2 ∧ ((HasT F s ∧ ((-3000 ≤ fr ∧ fr ≤ 3000) ∧ (-3000 ≤ to ∧ to ≤ 3000) ∧ fr ≤ to) ∧ to - fr < 60) ∧ v = some (vI (wrL (F s) (to - fr + 1).toNat fr).length) ∧ PlC μ2 x (wrL (F s) (to - fr + 1).toNat fr) ∨ ¬ (HasT F s ∧ ((-3000 ≤ fr ∧ fr ≤ 3000) ∧ (-3000 ≤ to ∧ to ≤ 3000) ∧ fr ≤ to) ∧ to - fr < 60) ∧ v = some (vI (-1)) ∧ μ2 = μ)) := by
  obtain ⟨bs, hb1, hb2⟩ := room2 (HasT F s ∧ ((-3000 ≤ fr ∧ fr ≤ 3000) ∧ (-3000 ≤ to ∧ to ≤ 3000) ∧ fr ≤ to) ∧ to - fr < 60) (6001 + cwB N (F s))
  refine ⟨bs, (rm_le hb1 hb2 fun z => by have := h.pt (show 0 ≤ s ∧ s ≤ 3 by first | exact z.1.1 | exact z.1); omega), ?_⟩
  have o0 := h.tps.o0
  have r10 := h.tps.r0_10
  have o68 := h.tps.o68
  refine Con.of (by decide) (Nat.le_of_ble_eq_true rfl) rfl ?_
  refine g_aload_n (j := 0) rfl dX11_write_0 ?_
  refine g_iload_n (j := 1) rfl dX11_write_1 ?_
  refine g_callV dX11_write_2 mlX11_128 mvX11_hasTerms (ci := 11) ⟨by decide, rfl⟩ (by assumption) (c_hasTerms w (d + 4) μ h hs) sv1 rfl (by omega) (Nat.le_of_ble_eq_true rfl) (Nat.le_refl _) (Nat.le_refl _) (fun v μ2 hR => ?_)
  obtain ⟨rfl, hm⟩ := hR
  replace hm := hm.symm
  subst hm
  refine g_ifb_eq (tgt := 24) dX11_write_5 (by decide)  (fun h5 => ?_) (fun h5 => ?_)
  · refine g_iconst dX11_write_24 ?_
    have hN : ¬ (HasT F s ∧ ((-3000 ≤ fr ∧ fr ≤ 3000) ∧ (-3000 ≤ to ∧ to ≤ 3000) ∧ fr ≤ to) ∧ to - fr < 60) := by
      intro z
      first | exact h5 z.1 | exact h13 z.2.1 | omega
    rw [hb2 hN]
    exact G.retI dX11_write_25 rfl ⟨⟨c, N, h, by omega⟩, Fr.rf, Or.inr ⟨hN, rfl, rfl⟩⟩
  · refine g_iload_n (j := 2) rfl dX11_write_8 ?_
    refine g_iload_n (j := 3) rfl dX11_write_9 ?_
    refine g_callS dX11_write_10 mlX11_194 msX11_isRange (c_X11_isRange w (d + 4) μ hfr hto) sk2 rfl (by omega) (Nat.le_of_ble_eq_true rfl) (Nat.le_refl _) (Nat.le_refl _) (fun v μ2 hR => ?_)
    obtain ⟨rfl, hm⟩ := hR
    replace hm := hm.symm
    subst hm
    refine g_ifb_eq (tgt := 24) dX11_write_13 (by decide)  (fun h13 => ?_) (fun h13 => ?_)
    · refine g_iconst dX11_write_24 ?_
      have hN : ¬ (HasT F s ∧ ((-3000 ≤ fr ∧ fr ≤ 3000) ∧ (-3000 ≤ to ∧ to ≤ 3000) ∧ fr ≤ to) ∧ to - fr < 60) := by
        intro z
        first | exact h5 z.1 | exact h13 z.2.1 | omega
      rw [hb2 hN]
      exact G.retI dX11_write_25 rfl ⟨⟨c, N, h, by omega⟩, Fr.rf, Or.inr ⟨hN, rfl, rfl⟩⟩
    · refine g_iload_n (j := 3) rfl dX11_write_16 ?_
      refine g_iload_n (j := 2) rfl dX11_write_17 ?_
      refine g_isub dX11_write_18 ?_
      refine g_bipush dX11_write_19 (by omega) ?_
      refine g_icmp_lt (tgt := 26) dX11_write_21 (by decide) (by omega) (by omega) (fun h21 => ?_) (fun h21 => ?_)
      · refine g_aload_n (j := 0) rfl dX11_write_26 ?_
        refine g_getR dX11_write_27 flX11_81 rfl (by assumption) (kz := 10) rfl (by assumption) ?_
        refine g_iconst dX11_write_30 ?_
        refine g_putI dX11_write_31 fpX11_278 rfl rfl rfl (by assumption) (kz := 1) rfl ?_
        refine g_iload_n (j := 2) rfl dX11_write_34 ?_
        refine g_istore (i := 4) dX11_write_35 (by decide) rfl ls4 ?_
        have hV : HasT F s ∧ ((-3000 ≤ fr ∧ fr ≤ 3000) ∧ (-3000 ≤ to ∧ to ≤ 3000) ∧ fr ≤ to) ∧ to - fr < 60 := ⟨h5, h13, by omega⟩
        have hbs := hb1 hV
        subst hbs
        have hf1 : FrP x μ (sI μ (x + 68) 1 0) := Fr.sI (Or.inl rfl)
        have hP1 : PlC (sI μ (x + 68) 1 0) x [] := ⟨by rw [mI_sI, if_pos ⟨rfl, rfl⟩]; rfl, by simp, fun i v z => by simp at z⟩
        have h1 := hf1.ca h
        generalize sI μ (x + 68) 1 0 = μ1 at *
        have o01 := h1.tps.o0
        refine g_iload (i := 4) rfl dX11_write_37 ?_
        refine g_iload_n (j := 3) rfl dX11_write_39 ?_
        refine g_icmp_gt (tgt := 56) dX11_write_40 (by decide) (by omega) (by omega) (fun h40 => ?_) (fun h40 => ?_)
        · omega
        · refine g_aload_n (j := 0) rfl dX11_write_43 ?_
          refine g_iload_n (j := 1) rfl dX11_write_44 ?_
          refine g_iload (i := 4) rfl dX11_write_45 ?_
          refine g_callV dX11_write_47 mlX11_288 mvX11_writeLine (ci := 11) ⟨by decide, rfl⟩ (by assumption) (c_writeLine w d μ1 h1 hV.1.1 (n := fr) (by omega) hP1 (by simp) (kn := false) (fun z => by cases z)) sv2 rfl (by omega) (Nat.le_of_ble_eq_true rfl) (bc1 := 197) (bs1 := 0) (by omega) (by show 0 + (6001 + cwB N (F s)) ≤ _; omega) (fun v μ2 hR => ?_)
          obtain ⟨rfl, c2, h2, hk2, hP2, hf2⟩ := hR
          refine g_iinc (i := 4) dX11_write_50 rfl (by decide) rfl ls4 ?_
          refine g_goto (tgt := 37) (by decide) dX11_write_53 ?_
          have hll := lnL_len (h.l5 hV.1.1) fr
          refine G.less (bc2 := 3 * (to - fr).toNat) (bs2 := 0) (by omega) (by omega) ?_
          refine G.post (fun v μ3 hq => ?_) (l_write (d := d) (μ0 := μ) hV.1.1 hV.2.1.2.1.2 hV.2.1.1.1 (nxN_2 N (F s)).1 (to - fr).toNat (fr + 1) μ2 c2 _ (by omega) (by omega) h2 hk2 ((hf1.mono (fun a _ z => Or.inr z) (fun _ _ _ z => z.elim)).tr hf2) hP2 (by simp; omega))
          obtain ⟨q1, ⟨c3, q2⟩, q3, q4⟩ := hq
          have hpot := (pot_step (ts := F s) h.2.2.1.2.1 (h.ok hV.1.1) (h.l5 hV.1.1)).1
          have ew : wrL (F s) (to - fr + 1).toNat fr = [] ++ lnL (F s) fr ++ wrL (F s) (to - fr).toNat (fr + 1) := by
            rw [show (to - fr + 1).toNat = (to - fr).toNat + 1 by omega, wrL, List.nil_append]
          rw [ew]
          exact ⟨⟨c3, _, q2, by omega⟩, q4, Or.inl ⟨hV, q1, q3⟩⟩
      · refine g_iconst dX11_write_24 ?_
        have hN : ¬ (HasT F s ∧ ((-3000 ≤ fr ∧ fr ≤ 3000) ∧ (-3000 ≤ to ∧ to ≤ 3000) ∧ fr ≤ to) ∧ to - fr < 60) := by
          intro z
          first | exact h5 z.1 | exact h13 z.2.1 | omega
        rw [hb2 hN]
        exact G.retI dX11_write_25 rfl ⟨⟨c, N, h, by omega⟩, Fr.rf, Or.inr ⟨hN, rfl, rfl⟩⟩
theorem l12_row {w : WC} {d m : Nat} {F : Int → List Tm} {R : Option AV → Mem → Prop} {μ1 : Mem} {s fr to n : Int} (hs : 0 ≤ s ∧ s ≤ 3) {rr : Int → Int} (hb : ∀ t, -3000 ≤ rr t ∧ rr t ≤ 3000) {L0 : List Int} (kk : ∀ (μ : Mem) (x5 : Option AV), MA w μ m F → FrQ m μ1 μ → PlM μ m L0 → G w (d + 6) mX12_write R 0 0 114 [some (vP (some m)), some (vI s), some (vI fr), some (vI to), some (vI n), x5] [] μ) : ∀ (r : Nat) (t : Int) (μ : Mem) (L : List Int), t + r = (F s).length → 0 ≤ t → MA w μ m F → FrQ m μ1 μ → PlM μ m L → L.length + 6 * r ≤ 2399 → L ++ rwL rr r t = L0 → (∀ j : Int, 0 ≤ j → j < (F s).length → mI μ (m + 10) j = rr j) →
    G w (d + 6) mX12_write R 0 0 60 [some (vP (some m)), some (vI s), some (vI fr), some (vI to), some (vI n), some (vI t)] [] μ := by
  intro r
  induction r with
  | zero =>
    intro t μ L ht h0 hA hf hP hl hL hr
    have o0 := hA.o
    have r0 := hA.1.r0
    have a0 := hA.1.a0
    have ec := (hA.2.1 s hs).1
    have h5 := hA.l5 hs
    rw [rwL, List.append_nil] at hL
    subst hL
    refine g_iload (i := 5) rfl dX12_write_60 ?_
    refine g_aload_n (j := 0) rfl dX12_write_62 ?_
    refine g_getR dX12_write_63 flX12_9 rfl (by assumption) (kz := 0) rfl (by assumption) ?_
    refine g_iload_n (j := 1) rfl dX12_write_66 ?_
    refine g_iald dX12_write_67 (by assumption) (by omega) (by omega) ?_
    refine g_icmp_ge (tgt := 104) dX12_write_68 (by decide) (by omega) (by omega) (fun h68 => ?_) (fun h68 => ?_)
    · refine g_goto (tgt := 114) (by decide) dX12_write_104 ?_
      exact kk μ _ hA hf hP
    · omega
  | succ r ih =>
    intro t μ L ht h0 hA hf hP hl hL hr
    have o0 := hA.o
    have r0 := hA.1.r0
    have a0 := hA.1.a0
    have ec := (hA.2.1 s hs).1
    have h5 := hA.l5 hs
    have hbt := hb t
    have hrt := hr t h0 (by omega)
    rw [rwL] at hL
    refine g_iload (i := 5) rfl dX12_write_60 ?_
    refine g_aload_n (j := 0) rfl dX12_write_62 ?_
    refine g_getR dX12_write_63 flX12_9 rfl (by assumption) (kz := 0) rfl (by assumption) ?_
    refine g_iload_n (j := 1) rfl dX12_write_66 ?_
    refine g_iald dX12_write_67 (by assumption) (by omega) (by omega) ?_
    refine g_icmp_ge (tgt := 104) dX12_write_68 (by decide) (by omega) (by omega) (fun h68 => ?_) (fun h68 => ?_)
    · omega
    · refine g_aload_n (j := 0) rfl dX12_write_71 ?_
      refine g_iload (i := 5) rfl dX12_write_72 ?_
      refine g_if_ne (tgt := 82) dX12_write_74 (by decide) (by omega) (fun h74 => ?_) (fun h74 => ?_)
      · refine g_bipush dX12_write_82 (by omega) ?_
        refine g_callV dX12_write_84 mlX12_445 mvX12_says (ci := 12) ⟨by decide, rfl⟩ (by assumption) (c_says w (d + 5) μ hA.1 hP (by omega)) sv1 rfl (by omega) (Nat.le_of_ble_eq_true rfl) (Nat.le_refl _) (Nat.le_refl _) (fun v μ4 hR => ?_)
        obtain ⟨rfl, hP1, hfx⟩ := hR
        have hA1 := FrQ.MA hfx hA
        have o01 := hA1.o
        have r301 := hA1.1.r30
        have a301 := hA1.1.a30
        have hrt1 := (hfx.1.I hA.1.a30.2.1 (by omega) t).trans hrt
        refine g_aload_n (j := 0) rfl dX12_write_87 ?_
        refine g_aload_n (j := 0) rfl dX12_write_88 ?_
        refine g_getR dX12_write_89 flX12_57 rfl (by assumption) (kz := 30) rfl (by assumption) ?_
        refine g_iload (i := 5) rfl dX12_write_92 ?_
        refine g_iald dX12_write_94 (by assumption) (by omega) (by omega) ?_
        rw [hrt1]
        refine g_callV dX12_write_95 mlX12_452 mvX12_saysNumber (ci := 12) ⟨by decide, rfl⟩ (by assumption) (c_saysNumber w (d + 4) μ4 hA1.1 hP1 (n := rr t) (by omega) (by simp; omega)) sv1 rfl (by omega) (Nat.le_of_ble_eq_true rfl) (Nat.le_refl _) (Nat.le_refl _) (fun v μ5 hR => ?_)
        obtain ⟨rfl, hP2, hfx2⟩ := hR
        have hA2 := FrQ.MA hfx2 hA1
        refine g_iinc (i := 5) dX12_write_98 rfl (by decide) rfl ls5 ?_
        refine g_goto (tgt := 60) (by decide) dX12_write_101 ?_
        refine ih (t + 1) μ5 _ (by omega) (by omega) hA2 (FrM.tr (FrM.tr hf hfx) hfx2) hP2 (by have := nmL_len (rr t); simp; omega) ?_ (fun j z1 z2 => ?_)
        · rw [← hL]
          first | rw [if_neg (by omega)] | rw [if_pos (by omega)]
          simp
        · rw [hfx2.1.I hA1.1.a30.2.1 (by omega), hfx.1.I hA.1.a30.2.1 (by omega)]
          exact hr j z1 z2
      · refine g_bipush dX12_write_77 (by omega) ?_
        refine g_goto (tgt := 84) (by decide) dX12_write_79 ?_
        refine g_callV dX12_write_84 mlX12_445 mvX12_says (ci := 12) ⟨by decide, rfl⟩ (by assumption) (c_says w (d + 5) μ hA.1 hP (by omega)) sv1 rfl (by omega) (Nat.le_of_ble_eq_true rfl) (Nat.le_refl _) (Nat.le_refl _) (fun v μ4 hR => ?_)
        obtain ⟨rfl, hP1, hfx⟩ := hR
        have hA1 := FrQ.MA hfx hA
        have o01 := hA1.o
        have r301 := hA1.1.r30
        have a301 := hA1.1.a30
        have hrt1 := (hfx.1.I hA.1.a30.2.1 (by omega) t).trans hrt
        refine g_aload_n (j := 0) rfl dX12_write_87 ?_
        refine g_aload_n (j := 0) rfl dX12_write_88 ?_
        refine g_getR dX12_write_89 flX12_57 rfl (by assumption) (kz := 30) rfl (by assumption) ?_
        refine g_iload (i := 5) rfl dX12_write_92 ?_
        refine g_iald dX12_write_94 (by assumption) (by omega) (by omega) ?_
        rw [hrt1]
        refine g_callV dX12_write_95 mlX12_452 mvX12_saysNumber (ci := 12) ⟨by decide, rfl⟩ (by assumption) (c_saysNumber w (d + 4) μ4 hA1.1 hP1 (n := rr t) (by omega) (by simp; omega)) sv1 rfl (by omega) (Nat.le_of_ble_eq_true rfl) (Nat.le_refl _) (Nat.le_refl _) (fun v μ5 hR => ?_)
        obtain ⟨rfl, hP2, hfx2⟩ := hR
        have hA2 := FrQ.MA hfx2 hA1
        refine g_iinc (i := 5) dX12_write_98 rfl (by decide) rfl ls5 ?_
        refine g_goto (tgt := 60) (by decide) dX12_write_101 ?_
        refine ih (t + 1) μ5 _ (by omega) (by omega) hA2 (FrM.tr (FrM.tr hf hfx) hfx2) hP2 (by have := nmL_len (rr t); simp; omega) ?_ (fun j z1 z2 => ?_)
        · rw [← hL]
          first | rw [if_neg (by omega)] | rw [if_pos (by omega)]
          simp
        · rw [hfx2.1.I hA1.1.a30.2.1 (by omega), hfx.1.I hA.1.a30.2.1 (by omega)]
          exact hr j z1 z2
def FrY (m : Nat) : Mem → Mem → Prop := FrM m (fun a => Cm m a ∨ a = m + 20) (fun j => Jm j ∨ j = 49)
theorem l12_write {w : WC} {d m : Nat} {F : Int → List Tm} {μ0 : Mem} {s fr to : Int} (hs : 0 ≤ s ∧ s ≤ 3) (hto : to ≤ 3000) (hfr : -3000 ≤ fr) : ∀ (r : Nat) (n : Int) (μ : Mem) (L : List Int) (x5 : Option AV), n + r = to + 1 → fr ≤ n → MA w μ m F → FrY m μ0 μ → PlM μ m L → L.length + 36 * r ≤ 2400 →
    G w (d + 6) mX12_write (fun v μ2 => v = some (vI (L ++ wrL (F s) r n).length) ∧ MA w μ2 m F ∧ PlM μ2 m (L ++ wrL (F s) r n) ∧ FrY m μ0 μ2) 0 0 34 [some (vP (some m)), some (vI s), some (vI fr), some (vI to), some (vI n), x5] [] μ := by
  intro r
  induction r with
  | zero =>
    intro n μ L x5 hn h0 hA hf hP hl
    have o0 := hA.o
    rw [wrL, List.append_nil]
    refine g_iload (i := 4) rfl dX12_write_34 ?_
    refine g_iload_n (j := 3) rfl dX12_write_36 ?_
    refine g_icmp_gt (tgt := 126) dX12_write_37 (by decide) (by omega) (by omega) (fun h37 => ?_) (fun h37 => ?_)
    · refine g_aload_n (j := 0) rfl dX12_write_126 ?_
      refine g_getI dX12_write_127 flX12_442 rfl (by assumption) (kz := 49) rfl ?_
      rw [hP.1]
      exact G.retI dX12_write_130 rfl ⟨rfl, hA, hP, hf⟩
    · omega
  | succ r ih =>
    intro n μ L x5 hn h0 hA hf hP hl
    have o0 := hA.o
    have h5 := hA.l5 hs
    have hll := lnL_len h5 n
    have hnl := nmL_len n
    have hbl := bdL_len h5 n
    have hl10 := tXL_small 10 (by omega)
    have hw := wy_64 (hA.ok hs) h5 n
    rw [wrL]
    have key : ∀ (μ6 : Mem) (y5 : Option AV), MA w μ6 m F → FrY m μ0 μ6 → PlM μ6 m ((L ++ nmL n) ++ bdL (F s) n) → G w (d + 6) mX12_write (fun v μ2 => v = some (vI (L ++ (lnL (F s) n ++ wrL (F s) r (n + 1))).length) ∧ MA w μ2 m F ∧ PlM μ2 m (L ++ (lnL (F s) n ++ wrL (F s) r (n + 1))) ∧ FrY m μ0 μ2) 0 0 114 [some (vP (some m)), some (vI s), some (vI fr), some (vI to), some (vI n), y5] [] μ6 := by
      intro μ6 y5 hA6 hf6 hP6
      have o06 := hA6.o
      refine g_aload_n (j := 0) rfl dX12_write_114 ?_
      refine g_bipush dX12_write_115 (by omega) ?_
      refine g_callV dX12_write_117 mlX12_445 mvX12_says (ci := 12) ⟨by decide, rfl⟩ (by assumption) (c_says w (d + 5) μ6 hA6.1 hP6 (c := 59) (by simp; omega)) sv1 rfl (by omega) (Nat.le_of_ble_eq_true rfl) (Nat.le_refl _) (Nat.le_refl _) (fun v μ7 hR => ?_)
      obtain ⟨rfl, hP7, hfx7⟩ := hR
      have hA7 := FrQ.MA hfx7 hA6
      refine g_iinc (i := 4) dX12_write_120 rfl (by decide) rfl ls4 ?_
      refine g_goto (tgt := 34) (by decide) dX12_write_123 ?_
      have hP8 : PlM μ7 m (L ++ lnL (F s) n) := by
        rw [lnL]
        simpa only [List.append_assoc] using hP7
      refine G.post (fun v μ8 hq => ?_) (ih (n + 1) μ7 _ _ (by omega) (by omega) hA7 (FrM.tr hf6 (FrM.mono hfx7 (fun _ z => Or.inr z) (fun _ z => Or.inr z))) hP8 (by rw [List.length_append]; omega))
      rw [List.append_assoc] at hq
      exact hq
    refine g_iload (i := 4) rfl dX12_write_34 ?_
    refine g_iload_n (j := 3) rfl dX12_write_36 ?_
    refine g_icmp_gt (tgt := 126) dX12_write_37 (by decide) (by omega) (by omega) (fun h37 => ?_) (fun h37 => ?_)
    · omega
    · refine g_aload_n (j := 0) rfl dX12_write_40 ?_
      refine g_iload (i := 4) rfl dX12_write_41 ?_
      refine g_callV dX12_write_43 mlX12_452 mvX12_saysNumber (ci := 12) ⟨by decide, rfl⟩ (by assumption) (c_saysNumber w (d + 4) μ hA.1 hP (n := n) (by omega) (by omega)) sv1 rfl (by omega) (Nat.le_of_ble_eq_true rfl) (Nat.le_refl _) (Nat.le_refl _) (fun v μ1 hR => ?_)
      obtain ⟨rfl, hP1, hfx1⟩ := hR
      have hA1 := FrQ.MA hfx1 hA
      have o01 := hA1.o
      have hf1 : FrY m μ0 μ1 := FrM.tr hf (FrM.mono hfx1 (fun _ z => Or.inr z) (fun _ z => Or.inr z))
      refine g_aload_n (j := 0) rfl dX12_write_46 ?_
      refine g_iload_n (j := 1) rfl dX12_write_47 ?_
      refine g_iload (i := 4) rfl dX12_write_48 ?_
      refine g_lconst0 dX12_write_50 ?_
      refine g_callV dX12_write_51 mlX12_317 mvX12_finds (ci := 12) ⟨by decide, rfl⟩ (by assumption) (c_X12_finds w d μ1 hA1 hs (n := n) (k := 0) (by omega) (by omega)) sv3 rfl (by omega) (Nat.le_of_ble_eq_true rfl) (Nat.le_refl _) (Nat.le_refl _) (fun v μ2 hR => ?_)
      obtain ⟨rfl, hA2, hf2, hx2⟩ := hR
      have o02 := hA2.o
      have hP2 := PlM.fr hP1 hf2 hA1.1 (by omega) (by omega)
      have hf2' : FrY m μ0 μ2 := FrM.tr hf1 (FrM.mono hf2 (fun a z => Or.inl (by unfold Cm; omega)) (fun j z => Or.inl (Or.inl z)))
      refine g_ifb_eq (tgt := 107) dX12_write_54 (by decide)  (fun h54 => ?_) (fun h54 => ?_)
      · refine g_aload_n (j := 0) rfl dX12_write_107 ?_
        refine g_ldcwT dX12_write_108 (n := 10) (tx := " not") (List.mem_of_getElem? (i := 21) rfl) ?_
        refine g_callV dX12_write_111 mlX12_448 mvX12_saysWord (ci := 12) ⟨by decide, rfl⟩ (by assumption) (c_saysWord w (d + 1) μ2 (n := 10) (by omega) hA2.1 hP2 (by simp; omega)) sv1 rfl (by omega) (Nat.le_of_ble_eq_true rfl) (Nat.le_refl _) (Nat.le_refl _) (fun v μ3 hR => ?_)
        obtain ⟨rfl, hP3, hfx3⟩ := hR
        have hA3 := FrQ.MA hfx3 hA2
        exact key μ3 _ hA3 (FrM.tr hf2' (FrM.mono hfx3 (fun _ z => Or.inr z) (fun _ z => Or.inr z))) (by rw [bdL_0 (by omega)]; exact hP3)
      · refine g_iconst dX12_write_57 ?_
        refine g_istore (i := 5) dX12_write_58 (by decide) rfl ls5 ?_
        exact l12_row (d := d) (μ1 := μ2) (L0 := (L ++ nmL n) ++ bdL (F s) n) hs (rr := fun t => wyX (F s) n 0 t.toNat) (fun t => wyX_bd (F s) n 0 t.toNat (hA.ok hs) (by omega) (by omega)) (fun μ6 y5 hA6 hf6 hP6 => key μ6 y5 hA6 (FrM.tr hf2' (FrM.mono hf6 (fun _ z => Or.inr z) (fun _ z => Or.inr z))) hP6) (F s).length 0 μ2 (L ++ nmL n) (by omega) (by omega) hA2 FrM.rf hP2 (by simp; omega) (by rw [bdL_1 (by omega)]) (hx2 (by omega))
theorem c_X12_write (w : WC) (d : Nat) (μ : Mem) {m : Nat} {F : Int → List Tm} (hA : MA w μ m F) {s fr to : Int} (hs : i32 s) (hfr : i32 fr) (hto : i32 to) : Con w (d + 6) mX12_write 0 0 [vP (some m), vI s, vI fr, vI to] μ (fun v μ2 => MA w μ2 m F ∧ FrY m μ μ2 ∧ ((HasT F s ∧ ((-3000 ≤ fr ∧ fr ≤ 3000) ∧ (-3000 ≤ to ∧ to ≤ 3000) ∧ fr ≤ to) ∧ to - fr < 60) ∧ v = some (vI (wrL (F s) (to - fr + 1).toNat fr).length) ∧ PlM μ2 m (wrL (F s) (to - fr + 1).toNat fr) ∨ ¬ (HasT F s ∧ ((-3000 ≤ fr ∧ fr ≤ 3000) ∧ (-3000 ≤ to ∧ to ≤ 3000) ∧ fr ≤ to) ∧ to - fr < 60) ∧ v = some (vI (-1)) ∧ μ2 = μ)) := by
  have o0 := hA.o
  refine Con.of (by decide) (Nat.le_of_ble_eq_true rfl) rfl ?_
  refine g_aload_n (j := 0) rfl dX12_write_0 ?_
  refine g_iload_n (j := 1) rfl dX12_write_1 ?_
  refine g_callV dX12_write_2 mlX12_274 mvX12_isForm (ci := 12) ⟨by decide, rfl⟩ (by assumption) (c_X12_isForm w (d + 3) μ hA hs) sv1 rfl (by omega) (Nat.le_of_ble_eq_true rfl) (Nat.le_refl _) (Nat.le_refl _) (fun v μ2 hR => ?_)
  obtain ⟨rfl, hm⟩ := hR
  replace hm := hm.symm
  subst hm
  refine g_ifb_eq (tgt := 24) dX12_write_5 (by decide)  (fun h5 => ?_) (fun h5 => ?_)
  · refine g_iconst dX12_write_24 ?_
    have hN : ¬ (HasT F s ∧ ((-3000 ≤ fr ∧ fr ≤ 3000) ∧ (-3000 ≤ to ∧ to ≤ 3000) ∧ fr ≤ to) ∧ to - fr < 60) := by
      intro z
      first | exact h5 z.1 | exact h13 z.2.1 | omega
    exact G.retI dX12_write_25 rfl ⟨hA, FrM.rf, Or.inr ⟨hN, rfl, rfl⟩⟩
  · refine g_iload_n (j := 2) rfl dX12_write_8 ?_
    refine g_iload_n (j := 3) rfl dX12_write_9 ?_
    refine g_callS dX12_write_10 mlX12_417 msX12_isSpan (c_X12_isSpan w (d + 3) μ hfr hto) sk2 rfl (by omega) (Nat.le_of_ble_eq_true rfl) (Nat.le_refl _) (Nat.le_refl _) (fun v μ2 hR => ?_)
    obtain ⟨rfl, hm⟩ := hR
    replace hm := hm.symm
    subst hm
    refine g_ifb_eq (tgt := 24) dX12_write_13 (by decide)  (fun h13 => ?_) (fun h13 => ?_)
    · refine g_iconst dX12_write_24 ?_
      have hN : ¬ (HasT F s ∧ ((-3000 ≤ fr ∧ fr ≤ 3000) ∧ (-3000 ≤ to ∧ to ≤ 3000) ∧ fr ≤ to) ∧ to - fr < 60) := by
        intro z
        first | exact h5 z.1 | exact h13 z.2.1 | omega
      exact G.retI dX12_write_25 rfl ⟨hA, FrM.rf, Or.inr ⟨hN, rfl, rfl⟩⟩
    · refine g_iload_n (j := 3) rfl dX12_write_16 ?_
      refine g_iload_n (j := 2) rfl dX12_write_17 ?_
      refine g_isub dX12_write_18 ?_
      refine g_bipush dX12_write_19 (by omega) ?_
      refine g_icmp_lt (tgt := 26) dX12_write_21 (by decide) (by omega) (by omega) (fun h21 => ?_) (fun h21 => ?_)
      · refine g_aload_n (j := 0) rfl dX12_write_26 ?_
        refine g_iconst dX12_write_27 ?_
        refine g_putI dX12_write_28 fpX12_442 rfl rfl rfl (by assumption) (kz := 49) rfl ?_
        refine g_iload_n (j := 2) rfl dX12_write_31 ?_
        refine g_istore (i := 4) dX12_write_32 (by decide) rfl ls4 ?_
        have hV : HasT F s ∧ ((-3000 ≤ fr ∧ fr ≤ 3000) ∧ (-3000 ≤ to ∧ to ≤ 3000) ∧ fr ≤ to) ∧ to - fr < 60 := ⟨h5, h13, by omega⟩
        have hf1 : FrQ m μ (sI μ m 49 0) := FrM.sI (J := fun j => j = 49) rfl
        have hP1 : PlM (sI μ m 49 0) m [] := ⟨by rw [mI_sI, if_pos ⟨rfl, rfl⟩]; rfl, by simp, fun i v z => by simp at z⟩
        refine G.post (fun v μ3 hq => ?_) (l12_write (d := d) (μ0 := μ) hV.1.1 hV.2.1.2.1.2 hV.2.1.1.1 (to - fr + 1).toNat fr _ [] _ (by omega) (by omega) (FrQ.MA hf1 hA) (FrM.mono hf1 (fun _ z => Or.inr z) (fun _ z => Or.inr z)) hP1 (by simp; omega))
        exact ⟨hq.2.1, hq.2.2.2, Or.inl ⟨hV, hq.1, hq.2.2.1⟩⟩
      · refine g_iconst dX12_write_24 ?_
        have hN : ¬ (HasT F s ∧ ((-3000 ≤ fr ∧ fr ≤ 3000) ∧ (-3000 ≤ to ∧ to ≤ 3000) ∧ fr ≤ to) ∧ to - fr < 60) := by
          intro z
          first | exact h5 z.1 | exact h13 z.2.1 | omega
        exact G.retI dX12_write_25 rfl ⟨hA, FrM.rf, Or.inr ⟨hN, rfl, rfl⟩⟩
