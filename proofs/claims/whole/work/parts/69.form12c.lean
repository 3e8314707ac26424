/-! THE MODEL: form, the loop -/
def Jz (j : Int) : Prop := 3 ≤ j ∧ j ≤ 20
def RzX (m : Nat) (μ μ2 : Mem) : Prop := FrZ m (P12 m) Jz μ μ2 ∧ (∀ j, ¬ j = 4 → mI μ2 (m + 1) j = mI μ (m + 1) j) ∧ ∀ j, j < 80 → mI μ2 (m + 2) j = mI μ (m + 2) j
theorem RzX.tr {m : Nat} {μ μ2 μ3 : Mem} (h : RzX m μ μ2) (h2 : RzX m μ2 μ3) : RzX m μ μ3 := ⟨h.1.tr h2.1, fun j z => (h2.2.1 j z).trans (h.2.1 j z), fun j z => (h2.2.2 j z).trans (h.2.2 j z)⟩
theorem RzX.rf {m : Nat} {μ : Mem} : RzX m μ μ := ⟨FrZ.rf, fun _ _ => rfl, fun _ _ => rfl⟩
theorem Jf.z {j : Int} (h : Jf j) : Jz j := by unfold Jf Jn at h; unfold Jz; omega
theorem Jt.z {j : Int} (h : Jt j) : Jz j := by unfold Jt Jn at h; unfold Jz; omega
theorem RzF.X {m : Nat} {μ μ2 : Mem} (h : RzF m μ μ2) : RzX m μ μ2 := ⟨h.1.mono (fun _ z => z) (fun _ z => z.z), h.2.1, h.2.2⟩
theorem RzE.X {m : Nat} {f : Int → Int} {μ μ2 : Mem} (h : RzE m f μ μ2) : RzX m μ μ2 := ⟨h.1.mono (fun _ z => z) (fun _ z => z.z), h.2.1, h.2.2.1⟩
theorem RzF.Ba {m : Nat} {f : Int → Int} {μ μ2 : Mem} (h : RzF m μ μ2) (hB : BaM μ m f) : BaM μ2 m f := ⟨(h.1.2 8 (by unfold Jt Jn; omega)).trans hB.1, (h.1.2 9 (by unfold Jt Jn; omega)).trans hB.2.1, (h.1.2 10 (by unfold Jt Jn; omega)).trans hB.2.2.1, (h.1.2 11 (by unfold Jt Jn; omega)).trans hB.2.2.2⟩
theorem RzX.of {m : Nat} {J : Int → Prop} {w : WC} {μ μ2 : Mem} (h : FrZ m (fun _ => False) J μ μ2) (hM : MoS w μ m) (hJ : ∀ j, J j → Jz j) : RzX m μ μ2 := ⟨FrZ.mono h (fun _ z => z.elim) hJ, fun j _ => (RmT.r12 h hM).1 j, fun j _ => (RmT.r12 h hM).2 j⟩
theorem RzX.MA {w : WC} {m : Nat} {F : Int → List Tm} {μ μ2 : Mem} (h : RzX m μ μ2) (hA : MA w μ m F) : MA w μ2 m F := by
  obtain ⟨hM, hF, ⟨l1, l2⟩, ⟨u1, u2⟩⟩ := hA
  have hM2 := FrZ.Mo h.1 hM
  have e4 := h.1.1.L (x := m + 4) hM.a22.2.1 (by unfold P12; omega)
  have e5 := h.1.1.L (x := m + 5) hM.a24.2.1 (by unfold P12; omega)
  refine ⟨hM2, fun s hs => ?_, ?_, ?_⟩
  · exact (hF s hs).eq (h.2.1 s (by omega)) (fun j _ _ => h.2.2 j (by omega))
  · rw [h.1.2 21 (by unfold Jz; omega), show mL μ2 (m + 4) = mL μ (m + 4) from funext e4]
    exact ⟨l1, l2⟩
  · rw [h.1.2 23 (by unfold Jz; omega)]
    exact ⟨u1, fun z n z1 z2 => by rw [e5]; exact u2 z n z1 z2⟩
theorem rdFm0 {n : Int} {B : Int → Int} {acc : List Tm} {i : Nat} {e : FlT} (h : rd5 n B i = .inl e) : rdFm n B 0 acc i = .inl (e, 5) := by
  unfold rd5 at h
  unfold rdFm
  by_cases h1 : isN n B (tP n B i)
  · rw [pI_t h1] at h ⊢
    by_cases h2 : 1 ≤ ka n B (tP n B i) ∧ ka n B (tP n B i) ≤ 99
    · rw [pI_t h2] at h ⊢
      cases h
      rfl
    · rw [pI_f h2] at h ⊢
      cases h
      rfl
  · rw [pI_f h1] at h ⊢
    by_cases h2 : ¬ kdT n B (tP n B i) = -1
    · rw [pI_t h2] at h ⊢
      cases h
      rfl
    · rw [pI_f h2] at h ⊢
      cases h
      rfl
theorem ZS.out {w : WC} {m i : Nat} {n : Int} {B : Int → Int} {acc : List Tm} {fo fi v : Int} {μ : Mem} (h : ZS w μ m n B i acc fo fi) : ZS w (sI μ m 18 v) m n B i acc v fi ∧ RzX m μ (sI μ m 18 v) := by
  obtain ⟨q1, ⟨q2, q3⟩, q4, q5⟩ := h
  have hf : FrZ m (fun _ => False) (fun j => j = 18) μ (sI μ m 18 v) := FrZ.sI rfl
  obtain ⟨r1, r2⟩ := RmT.r12 hf q1.1
  refine ⟨⟨q1.fr hf ⟨fun z => by omega, fun z => by omega, fun j z1 z2 z => by omega⟩ (fun z => z) rfl, ⟨by rw [mI_sI, if_pos ⟨rfl, rfl⟩], (hf.2 19 (by omega)).trans q3⟩, (r1 4).trans q4, fun j hj u hu => ?_⟩, RzX.of hf q1.1 (fun j z => by unfold Jz; omega)⟩
  have := q5 j hj u hu
  unfold TmM at this ⊢
  rw [r2, r2, r2, r2]
  exact this
theorem ZS.of {w : WC} {m i : Nat} {n : Int} {B : Int → Int} {acc : List Tm} {fo fi : Int} {μ : Mem} (h : StM w μ m n B i) (e18 : mI μ m 18 = fo) (e19 : mI μ m 19 = fi) (hI : MFI μ m 4 acc) : ZS w μ m n B i acc fo fi := ⟨h, ⟨e18, e19⟩, hI.1, fun j _ u hu => hI.2.2.2 j u hu⟩
theorem l12_form {w : WC} {d m : Nat} {n : Int} {B : Int → Int} {R : Option AV → Mem → Prop} {s1 l2 : Int} : ∀ (k : Nat) (acc : List Tm) (i : Nat) (μ : Mem) {fo : Int}, acc.length + k = 5 → ZS w μ m n B i acc fo (-1) → BaM μ m fa0 → (∀ u ∈ acc, TOk u) → (∀ μ2, PoF (rdFm n B k acc i) (fun e o => BaM μ2 m (fa4 e.1 (tP n B e.2) o (-1))) (fun ts => BaM μ2 m fa0 ∧ MFI μ2 m 4 ts) → RzX m μ μ2 → G w (d + 9) mX12_form R 0 0 66 [some (vP (some m)), some (vI s1), some (vI l2), some (vI 0)] [] μ2) → G w (d + 9) mX12_form R 0 0 18 [some (vP (some m)), some (vI s1), some (vI l2), some (vI 1)] [] μ := by
  intro k
  induction k with
  | zero =>
    intro acc i μ fo hl h hBa hok0 kk
    have hS := h.1
    have o0 := hS.1.o
    have r0 := hS.1.r0
    have a0 := hS.1.a0
    have o01 := h.2.2.1
    refine g_iload_n (j := 3) rfl dX12_form_18 ?_
    refine g_if_eq (tgt := 66) dX12_form_19 (by decide) (by omega) (fun h19 => ?_) (fun h19 => ?_)
    · omega
    · refine g_aload_n (j := 0) rfl dX12_form_22 ?_
      refine g_aload_n (j := 0) rfl dX12_form_23 ?_
      refine g_getR dX12_form_24 flX12_9 rfl (by assumption) (kz := 0) rfl (by assumption) ?_
      refine g_iconst dX12_form_27 ?_
      refine g_iald dX12_form_28 (by assumption) (by omega) (by omega) ?_
      rw [h.2.2.1]
      refine g_putI dX12_form_29 fpX12_159 rfl rfl rfl (by assumption) (kz := 18) rfl ?_
      obtain ⟨hZ1, hx1⟩ := h.out (v := (acc.length : Int))
      have hBa1 : BaM (sI μ m 18 (acc.length : Int)) m fa0 := ⟨by rw [mI_sI, if_neg (by omega)]; exact hBa.1, by rw [mI_sI, if_neg (by omega)]; exact hBa.2.1, by rw [mI_sI, if_neg (by omega)]; exact hBa.2.2.1, by rw [mI_sI, if_neg (by omega)]; exact hBa.2.2.2⟩
      generalize sI μ m 18 (acc.length : Int) = μ1 at *
      have o01 := hZ1.1.1.o
      refine g_aload_n (j := 0) rfl dX12_form_32 ?_
      refine g_callV dX12_form_33 mlX12_250 mvX12_readTerm (ci := 12) ⟨by decide, rfl⟩ (by assumption) (c_readTerm12 w d μ1 hZ1 (by omega) hok0) sv0 rfl (by omega) (Nat.le_of_ble_eq_true rfl) (Nat.le_refl _) (Nat.le_refl _) (fun v μ2 hR => ?_)
      obtain ⟨hR, -⟩ := hR
      obtain ⟨e, hr, rfl, hE⟩ := hR (by omega)
      refine g_if_eq (tgt := 50) dX12_form_36 (by decide) (by omega) (fun h36 => ?_) (fun h36 => ?_)
      · refine g_iconst dX12_form_50 ?_
        refine g_istore_n (j := 3) dX12_form_51 (by decide) rfl ls3 ?_
        refine g_iload_n (j := 3) rfl dX12_form_52 ?_
        refine g_if_eq (tgt := 18) dX12_form_53 (by decide) (by omega) (fun h53 => ?_) (fun h53 => ?_)
        · refine g_iload_n (j := 3) rfl dX12_form_18 ?_
          refine g_if_eq (tgt := 66) dX12_form_19 (by decide) (by omega) (fun h19 => ?_) (fun h19 => ?_)
          · have er := rdFm0 (acc := acc) hr
            refine kk μ2 ?_ (hx1.tr hE.X)
            unfold PoF
            rw [er]
            rw [show ((acc.length : Nat) : Int) = ((5 : Nat) : Int) by omega] at hE
            exact hE.2.2.2
          · omega
        · omega
      · omega
  | succ k ih =>
    intro acc i μ fo hl h hBa hok0 kk
    have hS := h.1
    have o0 := hS.1.o
    have r0 := hS.1.r0
    have a0 := hS.1.a0
    refine g_iload_n (j := 3) rfl dX12_form_18 ?_
    refine g_if_eq (tgt := 66) dX12_form_19 (by decide) (by omega) (fun h19 => ?_) (fun h19 => ?_)
    · omega
    · refine g_aload_n (j := 0) rfl dX12_form_22 ?_
      refine g_aload_n (j := 0) rfl dX12_form_23 ?_
      refine g_getR dX12_form_24 flX12_9 rfl (by assumption) (kz := 0) rfl (by assumption) ?_
      refine g_iconst dX12_form_27 ?_
      refine g_iald dX12_form_28 (by assumption) (by omega) (by omega) ?_
      rw [h.2.2.1]
      refine g_putI dX12_form_29 fpX12_159 rfl rfl rfl (by assumption) (kz := 18) rfl ?_
      obtain ⟨hZ1, hx1⟩ := h.out (v := (acc.length : Int))
      have hBa1 : BaM (sI μ m 18 (acc.length : Int)) m fa0 := ⟨by rw [mI_sI, if_neg (by omega)]; exact hBa.1, by rw [mI_sI, if_neg (by omega)]; exact hBa.2.1, by rw [mI_sI, if_neg (by omega)]; exact hBa.2.2.1, by rw [mI_sI, if_neg (by omega)]; exact hBa.2.2.2⟩
      generalize sI μ m 18 (acc.length : Int) = μ1 at *
      have o01 := hZ1.1.1.o
      refine g_aload_n (j := 0) rfl dX12_form_32 ?_
      refine g_callV dX12_form_33 mlX12_250 mvX12_readTerm (ci := 12) ⟨by decide, rfl⟩ (by assumption) (c_readTerm12 w d μ1 hZ1 (by omega) hok0) sv0 rfl (by omega) (Nat.le_of_ble_eq_true rfl) (Nat.le_refl _) (Nat.le_refl _) (fun v μ2 hR => ?_)
      replace hR := hR.2 (by omega)
      rcases hr : rdTm n B i with e | s
      · rw [hr] at hR
        obtain ⟨rfl, hE⟩ := hR
        refine g_if_eq (tgt := 50) dX12_form_36 (by decide) (by omega) (fun h36 => ?_) (fun h36 => ?_)
        · refine g_iconst dX12_form_50 ?_
          refine g_istore_n (j := 3) dX12_form_51 (by decide) rfl ls3 ?_
          refine g_iload_n (j := 3) rfl dX12_form_52 ?_
          refine g_if_eq (tgt := 18) dX12_form_53 (by decide) (by omega) (fun h53 => ?_) (fun h53 => ?_)
          · refine g_iload_n (j := 3) rfl dX12_form_18 ?_
            refine g_if_eq (tgt := 66) dX12_form_19 (by decide) (by omega) (fun h19 => ?_) (fun h19 => ?_)
            · refine kk μ2 ?_ (hx1.tr hE.X)
              unfold PoF rdFm
              rw [hr]
              exact hE.2.2.2
            · omega
          · omega
        · omega
      · rw [hr] at hR
        obtain ⟨rfl, hS2, g18, g19, hI2, hz2⟩ := hR
        refine g_if_eq (tgt := 50) dX12_form_36 (by decide) (by omega) (fun h36 => ?_) (fun h36 => ?_)
        · omega
        · have hZ3 := ZS.of hS2 g18 g19 hI2
          have o02 := hS2.1.o
          have hBa2 := hz2.Ba hBa1
          obtain ⟨-, -, ⟨-, -, f12, -, -, -⟩, -⟩ := id hS2
          have hm2 := mS2_c n B (tP n B s.2)
          refine g_aload_n (j := 0) rfl dX12_form_39 ?_
          refine g_getI dX12_form_40 flX12_142 rfl (by assumption) (kz := 12) rfl ?_
          rw [f12]
          refine g_if_eq (tgt := 50) dX12_form_43 (by decide) (by omega) (fun h43 => ?_) (fun h43 => ?_)
          · refine g_iconst dX12_form_50 ?_
            refine g_istore_n (j := 3) dX12_form_51 (by decide) rfl ls3 ?_
            refine g_iload_n (j := 3) rfl dX12_form_52 ?_
            refine g_if_eq (tgt := 18) dX12_form_53 (by decide) (by omega) (fun h53 => ?_) (fun h53 => ?_)
            · refine g_iload_n (j := 3) rfl dX12_form_18 ?_
              refine g_if_eq (tgt := 66) dX12_form_19 (by decide) (by omega) (fun h19 => ?_) (fun h19 => ?_)
              · refine kk μ2 ?_ (hx1.tr hz2.X)
                unfold PoF rdFm
                rw [hr]
                dsimp only
                rw [pI_t (by omega)]
                exact ⟨hBa2, hI2⟩
              · omega
            · omega
          · refine g_iconst dX12_form_46 ?_
            refine g_goto (tgt := 51) (by decide) dX12_form_47 ?_
            refine g_istore_n (j := 3) dX12_form_51 (by decide) rfl ls3 ?_
            refine g_iload_n (j := 3) rfl dX12_form_52 ?_
            refine g_if_eq (tgt := 18) dX12_form_53 (by decide) (by omega) (fun h53 => ?_) (fun h53 => ?_)
            · omega
            · refine g_aload_n (j := 0) rfl dX12_form_56 ?_
              refine g_bipush dX12_form_57 (by omega) ?_
              refine g_callV dX12_form_59 mlX12_253 mvX12_takesSign (ci := 12) ⟨by decide, rfl⟩ (by assumption) (c_takesSign w (d + 5) μ2 hS2 (c := 43) (by omega) g18 g19) sv1 rfl (by omega) (Nat.le_of_ble_eq_true rfl) (Nat.le_refl _) (Nat.le_refl _) (fun v μ3 hR => ?_)
              rcases hR with ⟨hg, rfl, hS3, hr3⟩ | ⟨hg, rfl, hE⟩
              · refine g_istore_n (j := 3) dX12_form_62 (by decide) rfl ls3 ?_
                refine g_goto (tgt := 18) (by decide) dX12_form_63 ?_
                have hlt : tP n B s.2 < n := hg.1
                refine ih (acc ++ [s.1]) (s.2 + 1) μ3 (fo := (acc.length : Int)) (by rw [List.length_append]; simp; omega) (hZ3.rd hS3 hr3.T).1 ((hr3.T.z hS2.1).Ba hBa2) hI2.2.2.1 (fun μ4 y1 y2 => kk μ4 ?_ (((hx1.tr hz2.X).tr (hr3.T.z hS2.1).X).tr y2))
                unfold PoF rdFm
                rw [hr]
                dsimp only
                rw [pI_f (by omega), pI_t hg]
                exact y1
              · refine g_istore_n (j := 3) dX12_form_62 (by decide) rfl ls3 ?_
                refine g_goto (tgt := 18) (by decide) dX12_form_63 ?_
                refine g_iload_n (j := 3) rfl dX12_form_18 ?_
                refine g_if_eq (tgt := 66) dX12_form_19 (by decide) (by omega) (fun h19 => ?_) (fun h19 => ?_)
                · refine kk μ3 ?_ ((hx1.tr hz2.X).tr (hE.z hS2.1).X)
                  unfold PoF rdFm
                  rw [hr]
                  dsimp only
                  rw [pI_f (by omega), pI_f hg]
                  exact hE.2
                · omega
        
theorem rdBd_c {n : Int} {B : Int → Int} {f k ls : Int} {i : Nat} {e : FlT} (h : rdBd n B f k ls i = .inl e) : 1 ≤ e.1 ∧ e.1 ≤ 4 := by
  unfold rdBd pI at h
  repeat' split at h
  all_goals cases h
  all_goals (dsimp only; omega)
theorem rdRg_c {n : Int} {B : Int → Int} {f k : Int} {i : Nat} {e : FlT} (h : rdRg n B f k i = .inl e) : 1 ≤ e.1 ∧ e.1 ≤ 4 := by
  unfold rdRg at h
  rcases hb : rdBd n B f k (-3000) (i + 1) with y | y
  · rw [hb] at h
    cases h
    exact rdBd_c hb
  · rw [hb] at h
    dsimp only at h
    unfold pI rdRg2 at h
    split at h
    · rcases hb2 : rdBd n B f k y.1 (y.2 + 2) with q | q
      · rw [hb2] at h
        cases h
        exact rdBd_c hb2
      · rw [hb2] at h
        cases h
    · cases h
      dsimp only
      omega
theorem rdT2_c {n : Int} {B : Int → Int} {f : Int} {i : Nat} {e : FlT} (h : rdT2 n B f i = .inl e) : 1 ≤ e.1 ∧ e.1 ≤ 4 := by
  unfold rdT2 pI at h
  split at h
  · cases h
    dsimp only
    omega
  · split at h
    · exact rdRg_c h
    · cases h
theorem rdTm_c {n : Int} {B : Int → Int} {i : Nat} {e : FlT} (h : rdTm n B i = .inl e) : 1 ≤ e.1 ∧ e.1 ≤ 4 := by
  unfold rdTm pI at h
  split at h
  · split at h
    · exact rdT2_c h
    · cases h
      dsimp only
      omega
  · split at h
    · exact rdT2_c h
    · cases h
      dsimp only
      omega
theorem rdFm_c (n : Int) (B : Int → Int) : ∀ (k : Nat) (acc : List Tm) (i : Nat) (e : FlT × Nat), rdFm n B k acc i = .inl e → 1 ≤ e.1.1 ∧ e.1.1 ≤ 4 := by
  intro k
  induction k with
  | zero =>
    intro acc i e h
    unfold rdFm pI at h
    repeat' split at h
    all_goals cases h
    all_goals (dsimp only; omega)
  | succ k ih =>
    intro acc i e h
    unfold rdFm at h
    rcases hb : rdTm n B i with y | y
    · rw [hb] at h
      cases h
      exact rdTm_c hb
    · rw [hb] at h
      dsimp only at h
      unfold pI at h
      split at h
      · cases h
      · split at h
        · exact ih _ _ _ h
        · cases h
          dsimp only
          omega
def Jw (j : Int) : Prop := Jz j ∨ j = 21 ∨ j = 23
/-- behind the loop -/
theorem l12_formE {w : WC} {d m : Nat} {n : Int} {B : Int → Int} {F : Int → List Tm} {μ0 : Mem} (h : MA w μ0 m F) {s l2 : Int} (hs : i32 s) (hl2 : l2 = bI (0 ≤ s ∧ s ≤ 3)) {μ : Mem} (hX : RzX m μ0 μ) (hq : (0 ≤ s ∧ s ≤ 3 → PoF (rdFm n B 5 [] 0) (fun e o => BaM μ m (fa4 e.1 (tP n B e.2) o (-1))) (fun ts => BaM μ m fa0 ∧ MFI μ m 4 ts)) ∧ (¬ (0 ≤ s ∧ s ≤ 3) → BaM μ m fa0)) : G w (d + 9) mX12_form (fun v μ2 => v = some (vI (foA n B s)) ∧ MA w μ2 m (foM n B F s) ∧ TpM μ2 m 0 B ∧ FaM μ2 m (foU n B s) ∧ FrZ m (P12 m) Jw μ0 μ2) 0 0 66 [some (vP (some m)), some (vI s), some (vI l2), some (vI 0)] [] μ := by
  have hA := hX.MA h
  have hM := hA.1
  have o0 := hM.o
  have hb01 := bI_01 (0 ≤ s ∧ s ≤ 3)
  have key : ∃ f, BaM μ m f ∧ f = foU n B s ∧ i32 (f 0) ∧ (f 0 = 0 → 0 ≤ s ∧ s ≤ 3 → ∃ ts, rdFm n B 5 [] 0 = .inr ts ∧ MFI μ m 4 ts) ∧ (¬ f 0 = 0 → 0 ≤ s ∧ s ≤ 3 → ∃ e, rdFm n B 5 [] 0 = .inl e) := by
    by_cases hz : 0 ≤ s ∧ s ≤ 3
    · replace hq := hq.1 hz
      unfold foU
      rw [pI_t hz]
      rcases hr : rdFm n B 5 [] 0 with e | ts
      · rw [hr] at hq
        have hc := rdFm_c n B 5 [] 0 e hr
        refine ⟨_, hq, rfl, ?_, fun z => ?_, fun _ _ => ⟨e, rfl⟩⟩
        · show i32 e.1.1
          omega
        · exfalso
          have z2 : e.1.1 = 0 := z
          omega
      · rw [hr] at hq
        exact ⟨_, hq.1, rfl, by show i32 0; omega, fun _ _ => ⟨ts, rfl, hq.2⟩, fun z => absurd (show fa0 0 = 0 from rfl) z⟩
    · refine ⟨fa0, hq.2 hz, by unfold foU; rw [pI_f hz], by show i32 0; omega, fun _ y => absurd y hz, fun _ y => absurd y hz⟩
  obtain ⟨f, hBa, ef, h32, kt, kf⟩ := key
  refine g_aload_n (j := 0) rfl dX12_form_66 ?_
  refine g_callV dX12_form_67 mlX12_256 mvX12_isRead (ci := 12) ⟨by decide, rfl⟩ (by assumption) (c_isRead w (d + 8) μ hM hBa h32) sv0 rfl (by omega) (Nat.le_of_ble_eq_true rfl) (Nat.le_refl _) (Nat.le_refl _) (fun v μ1 hR => ?_)
  obtain ⟨rfl, g3, hF1, hf1⟩ := hR
  have hX1 : RzX m μ0 μ1 := hX.tr (RzX.of hf1 hM (fun j z => by unfold Jz; omega))
  have hA1 := hX1.MA h
  have o01 := hA1.1.o
  have r01 := hA1.1.r0
  have a01 := hA1.1.a0
  have g8 := (hf1.2 8 (by omega)).trans hBa.1
  have hT1 : TpM μ1 m 0 B := ⟨g3, ByOk.nil (n := 0), fun j z1 z2 => by omega⟩
  have hW1 : FrZ m (P12 m) Jw μ0 μ1 := hX1.1.mono (fun _ z => z) (fun _ z => Or.inl z)
  refine g_pop rfl dX12_form_70 ?_
  refine g_iload_n (j := 2) rfl dX12_form_71 ?_
  refine g_if_ne (tgt := 78) dX12_form_72 (by decide) (by omega) (fun h72 => ?_) (fun h72 => ?_)
  · refine g_aload_n (j := 0) rfl dX12_form_78 ?_
    refine g_getI dX12_form_79 flX12_153 rfl (by assumption) (kz := 8) rfl ?_
    rw [g8]
    refine g_if_eq (tgt := 87) dX12_form_82 (by decide) (by omega) (fun h82 => ?_) (fun h82 => ?_)
    · have hz : 0 ≤ s ∧ s ≤ 3 := by
        rcases Classical.em (0 ≤ s ∧ s ≤ 3) with y | y
        · exact y
        · rw [bI, if_neg y] at hl2
          omega
      obtain ⟨ts, er, hI⟩ := kt (by omega) hz
      have hI1 : MFI μ1 m 4 ts := by
        obtain ⟨r1, r2⟩ := RmT.r12 hf1 hM
        exact ⟨(r1 4).trans hI.1, hI.2.1, hI.2.2.1, fun i u hu => by rw [r2, r2, r2, r2]; exact hI.2.2.2 i u hu⟩
      refine g_aload_n (j := 0) rfl dX12_form_87 ?_
      refine g_iload_n (j := 1) rfl dX12_form_88 ?_
      refine g_callV dX12_form_89 mlX12_259 mvX12_takesOver (ci := 12) ⟨by decide, rfl⟩ (by assumption) (c_takesOver w (d + 7) μ1 hA1 (s := s) hz hI1) sv1 rfl (by omega) (Nat.le_of_ble_eq_true rfl) (Nat.le_refl _) (Nat.le_refl _) (fun v μ2 hR => ?_)
      obtain ⟨rfl, hA2, hf2, g2⟩ := hR
      have o02 := hA2.1.o
      have r02 := hA2.1.r0
      have a02 := hA2.1.a0
      refine g_aload_n (j := 0) rfl dX12_form_92 ?_
      refine g_getR dX12_form_93 flX12_9 rfl (by assumption) (kz := 0) rfl (by assumption) ?_
      refine g_iload_n (j := 1) rfl dX12_form_96 ?_
      refine g_iald dX12_form_97 (by assumption) (by omega) (by omega) ?_
      refine G.retI dX12_form_98 rfl ⟨by rw [foA, cI_t hz, er, g2], by rw [foM, pI_t hz, er]; exact hA2, ⟨(hf2.2.1 3 (by omega)).trans g3, ByOk.nil (n := 0), fun j z1 z2 => by omega⟩, by rw [← ef]; exact ⟨(hf2.2.1 4 (by omega)).trans hF1.1, (hf2.2.1 5 (by omega)).trans hF1.2.1, (hf2.2.1 6 (by omega)).trans hF1.2.2.1, (hf2.2.1 7 (by omega)).trans hF1.2.2.2⟩, hW1.tr ⟨hf2.1, fun j hj => hf2.2.1 j (fun z => hj (Or.inr z))⟩⟩
    · refine g_iconst dX12_form_85 ?_
      have hz : 0 ≤ s ∧ s ≤ 3 := by
        rcases Classical.em (0 ≤ s ∧ s ≤ 3) with y | y
        · exact y
        · rw [bI, if_neg y] at hl2
          omega
      obtain ⟨e, er⟩ := kf (by omega) hz
      exact G.retI dX12_form_86 rfl ⟨by rw [foA, cI_t hz, er], by rw [foM, pI_t hz, er]; exact hA1, hT1, by rw [← ef]; exact hF1, hW1⟩
  · refine g_bipush dX12_form_75 (by omega) ?_
    have hz : ¬ (0 ≤ s ∧ s ≤ 3) := by
      intro y
      rw [bI, if_pos y] at hl2
      omega
    exact G.retI dX12_form_77 rfl ⟨by rw [foA, cI_f hz], by rw [foM, pI_f hz]; exact hA1, hT1, by rw [← ef]; exact hF1, hW1⟩
theorem c_X12_form (w : WC) (d : Nat) (μ : Mem) {m : Nat} {F : Int → List Tm} (h : MA w μ m F) {n : Int} {B : Int → Int} (hB : TpM μ m n B) {s : Int} (hs : i32 s) : Con w (d + 9) mX12_form 0 0 [vP (some m), vI s] μ (fun v μ2 => v = some (vI (foA n B s)) ∧ MA w μ2 m (foM n B F s) ∧ TpM μ2 m 0 B ∧ FaM μ2 m (foU n B s) ∧ FrZ m (P12 m) Jw μ μ2) := by
  have hM := h.1
  have o0 := hM.o
  refine Con.of (by decide) (Nat.le_of_ble_eq_true rfl) rfl ?_
  refine g_aload_n (j := 0) rfl dX12_form_0 ?_
  refine g_callV dX12_form_1 mlX12_247 mvX12_begins (ci := 12) ⟨by decide, rfl⟩ (by assumption) (c_begins w (d + 5) μ hM hB) sv0 rfl (by omega) (Nat.le_of_ble_eq_true rfl) (Nat.le_refl _) (Nat.le_refl _) (fun v μ1 hR => ?_)
  obtain ⟨rfl, hS1, e18, e19, hBa1, hf1⟩ := hR
  have hX1 : RzX m μ μ1 := RzX.of hf1 hM (fun j z => by unfold Jb at z; rcases z with z | z; exact z.z; unfold Jz; omega)
  have o01 := hS1.1.o
  have r01 := hS1.1.r0
  have a01 := hS1.1.a0
  refine g_aload_n (j := 0) rfl dX12_form_4 ?_
  refine g_getR dX12_form_5 flX12_9 rfl (by assumption) (kz := 0) rfl (by assumption) ?_
  refine g_iconst dX12_form_8 ?_
  refine g_iconst dX12_form_9 ?_
  refine g_iast dX12_form_10 (by assumption) (by omega) (by omega) ?_
  have hm2 : RzX m μ (sI μ1 (m + 1) 4 0) := hX1.tr ⟨⟨Fr.sI (Or.inr (Or.inl rfl)), fun j _ => by rw [mI_sI, if_neg (by omega)]⟩, fun j hj => by rw [mI_sI, if_neg (by omega)], fun j _ => by rw [mI_sI, if_neg (by omega)]⟩
  have hS2 : StM w (sI μ1 (m + 1) 4 0) m n B 0 := hS1.fr (P := P12 m) (J := fun _ => False) ⟨Fr.sI (Or.inr (Or.inl rfl)), fun j _ => by rw [mI_sI, if_neg (by omega)]⟩ ⟨fun z => z, fun z => z, fun _ _ _ z => z⟩ (by unfold P12; omega) rfl
  have hZ2 : ZS w (sI μ1 (m + 1) 4 0) m n B 0 [] 0 (-1) := ⟨hS2, ⟨by rw [mI_sI, if_neg (by omega)]; exact e18, by rw [mI_sI, if_neg (by omega)]; exact e19⟩, by rw [mI_sI, if_pos ⟨rfl, rfl⟩]; rfl, fun j hj => absurd hj (Nat.not_lt_zero j)⟩
  have hBa2 : BaM (sI μ1 (m + 1) 4 0) m fa0 := by
    obtain ⟨b1, b2, b3, b4⟩ := hBa1
    exact ⟨by rw [mI_sI, if_neg (by omega)]; exact b1, by rw [mI_sI, if_neg (by omega)]; exact b2, by rw [mI_sI, if_neg (by omega)]; exact b3, by rw [mI_sI, if_neg (by omega)]; exact b4⟩
  generalize sI μ1 (m + 1) 4 0 = μ2 at *
  have o02 := hS2.1.o
  refine g_iload_n (j := 1) rfl dX12_form_11 ?_
  refine g_callS dX12_form_12 mlX12_111 msX12_isSlot (c_X12_isSlot w (d + 7) μ2 hs) sk1 rfl (by omega) (Nat.le_of_ble_eq_true rfl) (Nat.le_refl _) (Nat.le_refl _) (fun v μ2 hR => ?_)
  obtain ⟨rfl, hm⟩ := hR
  replace hm := hm.symm
  subst hm
  refine g_istore_n (j := 2) dX12_form_15 (by decide) rfl ls2 ?_
  refine g_iload_n (j := 2) rfl dX12_form_16 ?_
  refine g_istore_n (j := 3) dX12_form_17 (by decide) rfl ls3 ?_
  rcases Classical.em (0 ≤ s ∧ s ≤ 3) with hz | hz
  · have hb : bI (0 ≤ s ∧ s ≤ 3) = 1 := by rw [bI, if_pos hz]
    rw [hb]
    exact l12_form (d := d) 5 [] 0 μ2 rfl hZ2 hBa2 (fun u hu => absurd hu (List.not_mem_nil)) (fun μ3 y1 y2 => l12_formE (d := d) h hs hb.symm (hm2.tr y2) ⟨fun _ => y1, fun y => absurd hz y⟩)
  · have hb : bI (0 ≤ s ∧ s ≤ 3) = 0 := by rw [bI, if_neg hz]
    rw [hb]
    refine g_iload_n (j := 3) rfl dX12_form_18 ?_
    refine g_if_eq (tgt := 66) dX12_form_19 (by decide) (by omega) (fun h19 => ?_) (fun h19 => ?_)
    · exact l12_formE (d := d) h hs hb.symm hm2 ⟨fun y => absurd y hz, fun _ => hBa2⟩
    · omega
