/-! PROVE: the class's method -/
def PaP (x a : Nat) : Prop := (x + 1 ≤ a ∧ a ≤ x + 6) ∧ ¬ a = x + 2 ∨ a = x + 57
def PaK (x a : Nat) (j : Int) : Prop := a = x + 56 ∧ (j = 2 ∨ j = 3)
def PaF (x : Nat) : Mem → Mem → Prop := Fr (PaP x) (PaK x)
def PoF3 (r : (FlF × Nat) ⊕ Nat) (E : FlF × Nat → Prop) (S : Nat → Prop) : Prop := match r with
  | .inl e => E e
  | .inr j => S j
theorem PvF_Pa {x : Nat} {μ μ2 : Mem} (h : Fr (fun a => a = x + 1 ∨ a = x + 57) (fun _ _ => False) μ μ2) : PaF x μ μ2 := h.mono (fun a _ z => by unfold PaP; omega) (fun _ _ _ z => z.elim)
theorem c_X6_readAll (w : WC) (d : Nat) (μ : Mem) {x q a : Nat} {n : Int} {B : Int → Int} {ts : List Tm} (hT : TPS w μ x) (hB : TpC μ x n B) (hq : FoS w μ q) (hI : FI μ q ts) (hqx : x + 9 ≤ q ∧ q + 7 ≤ x + 41) (ha : IsA w μ a 15 6001) (hr : RowW μ a ts) (hax : x + 120 ≤ a) : Con w (d + 7) mX6_readAll 0 0 [vP (some (x + 56)), vP (some q), vP (some a)] μ (fun v μ2 => PaF x μ μ2 ∧ TpC μ2 x n B ∧ PoF3 (prAll n B ts 61 [] 0) (fun e => v = some (vI (-1)) ∧ FaC μ2 x (fa4 e.1.1 (tP n B e.1.2.1) (e.2 : Int) e.1.2.2)) (fun c => v = some (vI (c : Int)) ∧ ∀ j, 12 ≤ j → mI μ2 (x + 1) j = mI μ (x + 1) j)) := by
  have o56 := hT.o56
  have r560 := hT.r56_0
  refine Con.of (by decide) (Nat.le_of_ble_eq_true rfl) rfl ?_
  refine g_aload_n (j := 0) rfl dX6_readAll_0 ?_
  refine g_aload_n (j := 1) rfl dX6_readAll_1 ?_
  refine g_putR dX6_readAll_2 fpX6_19 rfl rfl rfl (by assumption) (kz := 2) rfl ?_
  refine g_aload_n (j := 0) rfl dX6_readAll_5 ?_
  refine g_aload_n (j := 2) rfl dX6_readAll_6 ?_
  refine g_putR dX6_readAll_7 fpX6_23 rfl rfl rfl (by simp only [IsO_sI, IsO_sL, IsO_sR, IsO_wI, IsO_wL, IsA_sI, IsA_sL, IsA_sR, IsA_wI, IsA_wL, mR_sI, mR_sL, mR_wI, mR_wL]; assumption) (kz := 3) rfl ?_
  have hf1 : PaF x μ (sR (sR μ (x + 56) 2 (some q)) (x + 56) 3 (some a)) := (Fr.sR (K := PaK x) ⟨rfl, Or.inl rfl⟩).tr (Fr.sR (K := PaK x) ⟨rfl, Or.inr rfl⟩)
  have hT1 : TPS w (sR (sR μ (x + 56) 2 (some q)) (x + 56) 3 (some a)) x := hT.fr hf1 fun b j _ z => by unfold PaK at z; unfold Kx Kc; omega
  have hB1 : TpC (sR (sR μ (x + 56) 2 (some q)) (x + 56) 3 (some a)) x n B := hB.fr hT rfl (fun _ => rfl)
  have r2 : mR (sR (sR μ (x + 56) 2 (some q)) (x + 56) 3 (some a)) (x + 56) 2 = some q := by rw [mR_sR, if_neg (by omega), mR_sR, if_pos ⟨rfl, rfl⟩]
  have r3 : mR (sR (sR μ (x + 56) 2 (some q)) (x + 56) 3 (some a)) (x + 56) 3 = some a := by rw [mR_sR, if_pos ⟨rfl, rfl⟩]
  have hI1 : FI (sR (sR μ (x + 56) 2 (some q)) (x + 56) 3 (some a)) q ts := hI
  have hr1 : RowW (sR (sR μ (x + 56) 2 (some q)) (x + 56) 3 (some a)) a ts := hr
  have ha1 := hf1.A ha
  have ej1 : ∀ j, mI (sR (sR μ (x + 56) 2 (some q)) (x + 56) 3 (some a)) (x + 1) j = mI μ (x + 1) j := fun _ => rfl
  have hq1 : FoS w (sR (sR μ (x + 56) 2 (some q)) (x + 56) 3 (some a)) q := by
    obtain ⟨f1, ⟨f2, f3, f4, f5, f6, f7⟩, f8, f9, f10, f11, f12, f13⟩ := hq
    have er : ∀ j, mR (sR (sR μ (x + 56) 2 (some q)) (x + 56) 3 (some a)) q j = mR μ q j := fun j => by rw [mR_sR, if_neg (by omega), mR_sR, if_neg (by omega)]
    exact ⟨hf1.O f1, ⟨(er _).trans f2, (er _).trans f3, (er _).trans f4, (er _).trans f5, (er _).trans f6, (er _).trans f7⟩, hf1.A f8, hf1.A f9, hf1.A f10, hf1.A f11, hf1.A f12, hf1.A f13⟩
  generalize sR (sR μ (x + 56) 2 (some q)) (x + 56) 3 (some a) = μ1 at *
  have o561 := hT1.o56
  have r5601 := hT1.r56_0
  have o11 := hT1.o1
  refine g_aload_n (j := 0) rfl dX6_readAll_10 ?_
  refine g_getR dX6_readAll_11 flX6_9 rfl (by assumption) (kz := 0) rfl (by assumption) ?_
  refine g_iconst dX6_readAll_14 ?_
  refine g_iconst dX6_readAll_15 ?_
  refine g_callV dX6_readAll_16 mlX6_27 mvX10_begin (ci := 10) ⟨by decide, rfl⟩ (by assumption) (c_begin w (d + 4) μ1 hT1 hB1 (fo := 0) (fi := -1)) sv2 rfl (by omega) (Nat.le_of_ble_eq_true rfl) (Nat.le_refl _) (Nat.le_refl _) (fun v μ2 hR => ?_)
  obtain ⟨rfl, T, hK, hc, e8, e10, e11, e12⟩ := hR
  have hf2 : PaF x μ μ2 := hf1.tr (hc.mono (fun a _ z => by unfold PaP; omega) (fun _ _ _ z => z.elim))
  have hPK : PvK w μ2 x n B T q a ts := by
    obtain ⟨f1, ⟨f2, f3, f4, f5, f6, f7⟩, f8, f9, f10, f11, f12, f13⟩ := id hq1
    have er := fun j => hc.R (x := q) (j := j) f1.2.1 (fun z => z)
    exact ⟨hK, ⟨(hc.R hT1.o56.2.1 (fun z => z)).trans r2, ⟨hc.O f1, ⟨(er _).trans f2, (er _).trans f3, (er _).trans f4, (er _).trans f5, (er _).trans f6, (er _).trans f7⟩, hc.A f8, hc.A f9, hc.A f10, hc.A f11, hc.A f12, hc.A f13⟩, hc.FI hq1 (fun b z1 z2 z => by omega) hI1, hqx⟩, ⟨(hc.R hT1.o56.2.1 (fun z => z)).trans r3, hc.A ha1, fun m z1 z2 => (hc.L ha1.2.1 (fun z => by omega) _).trans (hr1 m z1 z2), hax⟩⟩
  refine g_iconst dX6_readAll_19 ?_
  refine g_istore_n (j := 3) dX6_readAll_20 (by decide) rfl ls3 ?_
  refine l_X6_readAll (d := d) 61 [] 0 μ2 rfl (by decide) hPK e8 (Nat.zero_le _) e11 (fun k z hz => by simp at hz) (fun e μ3 y1 y2 => ?_) (fun c μ3 y1 y2 => ?_)
  · rw [y1]
    exact ⟨hf2.tr (PvF_Pa y2.1), hK.2.1.fr hK.1 (y2.2.1 5 (by omega)) (fun j => y2.1.I hK.1.a2.2.1 (by omega) j), rfl, y2.2.2⟩
  · rw [y1]
    exact ⟨hf2.tr (PvF_Pa y2.1), hK.2.1.fr hK.1 (y2.2 5 (by omega)) (fun j => y2.1.I hK.1.a2.2.1 (by omega) j), rfl, fun j z => (y2.2 j (by omega)).trans ((e12 j z).trans (ej1 j))⟩
noncomputable def pvA (n : Int) (B : Int → Int) (F : Int → List Tm) (s : Int) : Int := cI (HasT F s) (match prAll n B (F s) 61 [] 0 with
  | .inl _ => -1
  | .inr c => (c : Int)) (-2)
noncomputable def pvU (n : Int) (B : Int → Int) (F : Int → List Tm) (s : Int) : Int → Int := pI (HasT F s) (match prAll n B (F s) 61 [] 0 with
  | .inl e => fa4 e.1.1 (tP n B e.1.2.1) (e.2 : Int) e.1.2.2
  | .inr _ => fa0) fa0
def Cp (x a : Nat) : Prop := Tc x a ∨ (x + 1 ≤ a ∧ a ≤ x + 6) ∧ ¬ a = x + 2 ∨ a = x + 57
theorem PaF.Cp {x : Nat} {μ μ2 : Mem} (h : PaF x μ μ2) : Fr (Cp x) (Kc x) μ μ2 := h.mono (fun a _ z => by unfold PaP at z; unfold _root_.Jvm.Pilot.CToldPowersLaw_law_r3284_2a4c2b.Cp; omega) (fun a j _ z => by unfold PaK at z; unfold Kc; omega)

theorem prAll_c (n : Int) (B : Int → Int) (ts : List Tm) : ∀ (k : Nat) (told : List Int) (i c : Nat), prAll n B ts k told i = .inr c → c ≤ told.length + k := by
  intro k
  induction k with
  | zero =>
    intro told i c h
    unfold prAll at h
    cases h
    omega
  | succ k ih =>
    intro told i c h
    unfold prAll pI at h
    split at h
    · cases h
      omega
    · rcases hr : prL n B ts told i with e | j
      · rw [hr] at h
        cases h
      · rw [hr] at h
        have := ih _ _ _ h
        rw [List.length_append] at this
        simp at this
        omega
theorem c_X11_prove (w : WC) (d : Nat) (μ : Mem) {x c N : Nat} {F : Int → List Tm} (h : CA w μ x F c N) {n : Int} {B : Int → Int} (hB : TpC μ x n B) {s : Int} (hs : i32 s) : ∃ bs, bs ≤ 12002 + pot N ∧ Con w (d + 9) mX11_prove 2 bs [vP (some x), vI s] μ (fun v μ2 => v = some (vI (pvA n B F s)) ∧ (∃ c2 N2, CA w μ2 x F c2 N2 ∧ bs + pot N2 ≤ 12002 + pot N) ∧ TpC μ2 x 0 B ∧ FaC μ2 x (pvU n B F s) ∧ Fr (Cp x) (Kc x) μ μ2) := by
  obtain ⟨bs, hb1, hb2⟩ := room2 (HasT F s) (6001 + cwB N (F s))
  refine ⟨bs, (rm_le hb1 hb2 fun z => by have := h.pt (show 0 ≤ s ∧ s ≤ 3 by first | exact z.1.1 | exact z.1); omega), ?_⟩
  have o0 := h.tps.o0
  have r0 := h.tps.r0_0
  have o1 := h.tps.o1
  refine Con.of (by decide) (Nat.le_of_ble_eq_true rfl) rfl ?_
  refine g_aload_n (j := 0) rfl dX11_prove_0 ?_
  refine g_getR dX11_prove_1 flX11_12 rfl (by assumption) (kz := 0) rfl (by assumption) ?_
  refine g_callV dX11_prove_4 mlX11_107 mvX10_forgetFault (ci := 10) ⟨by decide, rfl⟩ (by assumption) (c_forgetFault w (d + 8) μ h.tps) sv0 rfl (by omega) (Nat.le_of_ble_eq_true rfl) (Nat.le_refl _) (Nat.le_refl _) (fun v μ1 hR => ?_)
  obtain ⟨rfl, hF1, hf1, ej1⟩ := hR
  have h1 := h.fr hf1 (fun a z => by omega) (fun _ _ z => z.elim)
  have hB1 : TpC μ1 x n B := hB.fr h.tps (ej1 5 (by omega)) (fun j => hf1.I h.tps.a2.2.1 (by omega) j)
  have hg1 : Fr (Cp x) (Kc x) μ μ1 := hf1.mono (fun a _ z => by unfold Cp; omega) (fun _ _ _ z => z.elim)
  have o01 := h1.tps.o0
  have r01 := h1.tps.r0_0
  have r51 := h1.tps.r0_5
  have r11 := h1.tps.r0_1
  have a71 := h1.tps.a7
  have o11 := h1.tps.o1
  have o561 := h1.tps.o56
  refine g_bipush dX11_prove_7 (by omega) ?_
  refine g_istore_n (j := 2) dX11_prove_9 (by decide) rfl ls2 ?_
  refine g_aload_n (j := 0) rfl dX11_prove_10 ?_
  refine g_iload_n (j := 1) rfl dX11_prove_11 ?_
  refine g_callV dX11_prove_12 mlX11_128 mvX11_hasTerms (ci := 11) ⟨by decide, rfl⟩ (by assumption) (c_hasTerms w (d + 7) μ1 h1 hs) sv1 rfl (by omega) (Nat.le_of_ble_eq_true rfl) (Nat.le_refl _) (Nat.le_refl _) (fun v μ2 hR => ?_)
  obtain ⟨rfl, hm⟩ := hR
  replace hm := hm.symm
  subst hm
  refine g_ifb_eq (tgt := 37) dX11_prove_15 (by decide)  (fun h15 => ?_) (fun h15 => ?_)
  · refine g_aload_n (j := 0) rfl dX11_prove_37 ?_
    refine g_getR dX11_prove_38 flX11_12 rfl (by assumption) (kz := 0) rfl (by assumption) ?_
    refine g_iconst dX11_prove_41 ?_
    refine g_putI dX11_prove_42 fpX11_99 rfl rfl rfl (by assumption) (kz := 5) rfl ?_
    refine g_iload_n (j := 2) rfl dX11_prove_45 ?_
    rw [hb2 h15]
    obtain ⟨qc, qt⟩ := h1.len0
    exact G.retI dX11_prove_46 rfl ⟨by rw [pvA, cI_f h15], ⟨c, N, qc, by omega⟩, qt B, by rw [pvU, pI_f h15]; exact hF1.len0, hg1.tr (Fr.sI (by unfold Cp; omega))⟩
  · have hbs := hb1 h15
    subst hbs
    have hss := h15.1
    have rf1 := h1.tps.rf h15.1
    refine g_aload_n (j := 0) rfl dX11_prove_18 ?_
    refine g_getR dX11_prove_19 flX11_46 rfl (by assumption) (kz := 5) rfl (by assumption) ?_
    refine g_aload_n (j := 0) rfl dX11_prove_22 ?_
    refine g_getR dX11_prove_23 flX11_18 rfl (by assumption) (kz := 1) rfl (by assumption) ?_
    refine g_iload_n (j := 1) rfl dX11_prove_26 ?_
    refine g_aald dX11_prove_27 (by assumption) (by omega) (by omega) (by omega) (by assumption) ?_
    refine g_aload_n (j := 0) rfl dX11_prove_28 ?_
    refine g_iload_n (j := 1) rfl dX11_prove_29 ?_
    refine g_callV dX11_prove_30 mlX11_131 mvX11_wayCounts (ci := 11) ⟨by decide, rfl⟩ (by assumption) (c_wayCounts w (d + 4) μ1 h1 h15.1) sv1 rfl (by omega) (Nat.le_of_ble_eq_true rfl) (bc1 := 0) (bs1 := 0) (by omega) (by omega) (fun v μ2 hR => ?_)
    obtain ⟨a, c2, rfl, h2, ha, hr, ⟨hxa, -⟩, hf2⟩ := hR
    have hB2 : TpC μ2 x n B := hB1.fr h1.tps (hf2.I h1.tps.o1.2.1 (by unfold Tc Sc; omega) 5) (fun j => hf2.I h1.tps.a2.2.1 (by unfold Tc Sc; omega) j)
    have ej2 : ∀ j, mI μ2 (x + 1) j = mI μ1 (x + 1) j := hf2.I h1.tps.o1.2.1 (by unfold Tc Sc; omega)
    have hg2 : Fr (Cp x) (Kc x) μ μ2 := hg1.tr (hf2.mono (fun a _ z => Or.inl z) (fun _ _ _ z => z))
    have o02 := h2.tps.o0
    have o562 := h2.tps.o56
    have hqb := fA_bd x h15.1
    have hpot := (pot_step (ts := F s) h1.2.2.1.2.1 (h1.ok h15.1) (h1.l5 h15.1)).1
    refine g_callV dX11_prove_33 mlX11_135 mvX6_readAll (ci := 6) ⟨by decide, rfl⟩ (by assumption) (c_X6_readAll w (d + 1) μ2 h2.tps hB2 (h2.tps.fs h15.1) (h2.fm h15.1) (by omega) ha hr hxa) sv2 rfl (by omega) (Nat.le_of_ble_eq_true rfl) (Nat.le_refl _) (Nat.le_refl _) (fun v μ3 hR => ?_)
    obtain ⟨hf3, hB3, hq⟩ := hR
    have h3 := h2.fr hf3 (fun b z => by unfold PaP at z; omega) (fun b j z => by unfold PaK at z; unfold Kx Kc; omega)
    have hg3 := hg2.tr hf3.Cp
    have o03 := h3.tps.o0
    have r03 := h3.tps.r0_0
    have o13 := h3.tps.o1
    obtain ⟨qc, qt⟩ := h3.len0
    obtain ⟨z, hz, hF3⟩ : ∃ z : Int, v = some (vI z) ∧ (i32 z ∧ pvA n B F s = z) ∧ FaC μ3 x (pvU n B F s) := by
      unfold pvA pvU
      rw [cI_t h15, pI_t h15]
      rcases hr : prAll n B (F s) 61 [] 0 with e | c
      · rw [hr] at hq
        exact ⟨_, hq.1, ⟨by omega, rfl⟩, hq.2⟩
      · rw [hr] at hq
        have hc := prAll_c n B (F s) 61 [] 0 c hr
        obtain ⟨b1, b2, b3, b4⟩ := hF1
        refine ⟨_, hq.1, ⟨by simp at hc; omega, rfl⟩, ⟨?_, ?_, ?_, ?_⟩⟩
        · exact ((hq.2 12 (by omega)).trans (ej2 12)).trans b1
        · exact ((hq.2 13 (by omega)).trans (ej2 13)).trans b2
        · exact ((hq.2 14 (by omega)).trans (ej2 14)).trans b3
        · exact ((hq.2 15 (by omega)).trans (ej2 15)).trans b4
    obtain ⟨⟨hz32, ez⟩, hF3⟩ := hF3
    subst hz
    refine g_istore_n (j := 2) dX11_prove_36 (by decide) rfl ls2 ?_
    refine g_aload_n (j := 0) rfl dX11_prove_37 ?_
    refine g_getR dX11_prove_38 flX11_12 rfl (by assumption) (kz := 0) rfl (by assumption) ?_
    refine g_iconst dX11_prove_41 ?_
    refine g_putI dX11_prove_42 fpX11_99 rfl rfl rfl (by assumption) (kz := 5) rfl ?_
    refine g_iload_n (j := 2) rfl dX11_prove_45 ?_
    exact G.retI dX11_prove_46 rfl ⟨by rw [ez], ⟨_, _, qc, by omega⟩, qt B, hF3.len0, hg3.tr (Fr.sI (by unfold Cp; omega))⟩
