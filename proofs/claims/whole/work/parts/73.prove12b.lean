theorem prX_c {n : Int} {B : Int → Int} {z : Int} : ∀ (us : List Tm) (t : Nat) (s : Int) (i : Nat) (e : FlF), prX n B z us t s i = .inl e → 1 ≤ e.1 ∧ e.1 ≤ 9 := by
  intro us
  induction us with
  | nil =>
    intro t s i e h
    unfold prX pI at h
    split at h <;> cases h <;> (dsimp only; omega)
  | cons u us ih =>
    intro t s i e h
    unfold prX at h
    by_cases h1 : isN n B (tP n B (jW n B i))
    · rw [pI_t h1] at h
      by_cases h2 : tL u ≤ vW n B i ∧ vW n B i ≤ tH u
      · rw [pI_t h2] at h
        by_cases h3 : isSg n B (tP n B (jW n B i + 1)) 59
        · rw [pI_t h3] at h
          unfold pI at h
          split at h
          · split at h <;> cases h <;> (dsimp only; omega)
          · cases h <;> (dsimp only; omega)
        · rw [pI_f h3] at h
          by_cases h4 : isSg n B (tP n B (jW n B i + 1)) 44
          · rw [pI_t h4] at h
            exact ih _ _ _ _ h
          · rw [pI_f h4] at h
            cases h <;> (dsimp only; omega)
      · rw [pI_f h2] at h
        cases h <;> (dsimp only; omega)
    · rw [pI_f h1] at h
      cases h <;> (dsimp only; omega)
theorem prR_c {n : Int} {B : Int → Int} {ts : List Tm} {z : Int} {i : Nat} {e : FlF} (h : prR n B ts z i = .inl e) : 1 ≤ e.1 ∧ e.1 ≤ 9 := by
  unfold prR at h
  by_cases h1 : isSg n B (tP n B i) 61
  · rw [pI_t h1] at h
    exact prX_c _ _ _ _ _ h
  · rw [pI_f h1] at h
    unfold prN pI at h
    repeat' split at h
    all_goals cases h <;> (dsimp only; omega)
theorem prL_c {n : Int} {B : Int → Int} {ts : List Tm} {told : List Int} {i : Nat} {e : FlF} (h : prL n B ts told i = .inl e) : 1 ≤ e.1 ∧ e.1 ≤ 9 := by
  unfold prL at h
  by_cases h1 : told.length = 60 ∧ isSg n B (tP n B i) 45
  · rw [pI_t h1] at h
    cases h <;> (dsimp only; omega)
  · rw [pI_f h1] at h
    by_cases h2 : isN n B (tP n B (jW n B i))
    · rw [pI_t h2] at h
      by_cases h3 : ¬ (-3000 ≤ vW n B i ∧ vW n B i ≤ 3000) ∨ vW n B i ∈ told
      · rw [pI_t h3] at h
        cases h <;> (dsimp only; omega)
      · rw [pI_f h3] at h
        by_cases h4 : told.length = 60
        · rw [pI_t h4] at h
          cases h <;> (dsimp only; omega)
        · rw [pI_f h4] at h
          exact prR_c h
    · rw [pI_f h2] at h
      cases h <;> (dsimp only; omega)
theorem prAll_e (n : Int) (B : Int → Int) (ts : List Tm) : ∀ (k : Nat) (told : List Int) (i : Nat) (e : FlF × Nat), prAll n B ts k told i = .inl e → 1 ≤ e.1.1 ∧ e.1.1 ≤ 9 := by
  intro k
  induction k with
  | zero =>
    intro told i e h
    unfold prAll at h
    cases h
  | succ k ih =>
    intro told i e h
    unfold prAll pI at h
    split at h
    · cases h
    · rcases hr : prL n B ts told i with y | y
      · rw [hr] at h
        cases h
        exact prL_c hr
      · rw [hr] at h
        exact ih _ _ _ h
theorem l12_proveE {w : WC} {d m : Nat} {F : Int → List Tm} {n s l2 : Int} {B : Int → Int} {μ0 μ : Mem} {f : Int → Int} (hA : MA w μ m F) (hBa : BaM μ m f) (ef : f = pvU n B F s) (h32 : i32 (f 0)) (hl2 : l2 = 0 ∨ l2 = 1) (hX : FrZ m (P4 m) JP μ0 μ) (k1 : l2 = 0 → pvA n B F s = -2) (k2 : ¬ l2 = 0 → ¬ f 0 = 0 → pvA n B F s = -1) (k3 : ¬ l2 = 0 → f 0 = 0 → mI μ m 32 = pvA n B F s) (hpv : i32 (pvA n B F s)) : G w (d + 8) mX12_prove (fun v μ2 => v = some (vI (pvA n B F s)) ∧ MA w μ2 m F ∧ TpM μ2 m 0 B ∧ FaM μ2 m (pvU n B F s) ∧ FrZ m (P4 m) JP μ0 μ2) 0 0 73 [some (vP (some m)), some (vI s), some (vI l2), some (vI 0)] [] μ := by
  have hM := hA.1
  have o0 := hM.o
  refine g_aload_n (j := 0) rfl dX12_prove_73 ?_
  refine g_callV dX12_prove_74 mlX12_256 mvX12_isRead (ci := 12) ⟨by decide, rfl⟩ (by assumption) (c_isRead w (d + 7) μ hM hBa h32) sv0 rfl (by omega) (Nat.le_of_ble_eq_true rfl) (Nat.le_refl _) (Nat.le_refl _) (fun v μ1 hR => ?_)
  obtain ⟨rfl, g3, hF1, hf1⟩ := hR
  have hA1 : MA w μ1 m F := FrZ.MA hf1 hA ⟨fun z => z, fun z => z, fun z => z, fun z => z⟩ (by omega)
  have o01 := hA1.1.o
  have g8 := (hf1.2 8 (by omega)).trans hBa.1
  have g32 := hf1.2 32 (by omega)
  have hT1 : TpM μ1 m 0 B := ⟨g3, ByOk.nil (n := 0), fun j z1 z2 => by omega⟩
  have hX1 : FrZ m (P4 m) JP μ0 μ1 := FrZ.tr hX (FrZ.mono hf1 (fun _ z => z.elim) (fun j z => Or.inl (by unfold Jz; omega)))
  rw [ef] at hF1
  refine g_pop rfl dX12_prove_77 ?_
  refine g_iload_n (j := 2) rfl dX12_prove_78 ?_
  refine g_if_ne (tgt := 87) dX12_prove_79 (by decide) (by omega) (fun h79 => ?_) (fun h79 => ?_)
  · refine g_aload_n (j := 0) rfl dX12_prove_87 ?_
    refine g_getI dX12_prove_88 flX12_153 rfl (by assumption) (kz := 8) rfl ?_
    rw [g8]
    refine g_if_eq (tgt := 98) dX12_prove_91 (by decide) (by omega) (fun h91 => ?_) (fun h91 => ?_)
    · refine g_aload_n (j := 0) rfl dX12_prove_98 ?_
      refine g_getI dX12_prove_99 flX12_324 rfl (by assumption) (kz := 32) rfl ?_
      exact G.retI dX12_prove_102 rfl ⟨by rw [g32, k3 (by omega) (by omega)], hA1, hT1, hF1, hX1⟩
    · refine g_iconst dX12_prove_94 ?_
      refine g_goto (tgt := 102) (by decide) dX12_prove_95 ?_
      exact G.retI dX12_prove_102 rfl ⟨by rw [k2 (by omega) (by omega)], hA1, hT1, hF1, hX1⟩
  · refine g_bipush dX12_prove_82 (by omega) ?_
    refine g_goto (tgt := 102) (by decide) dX12_prove_84 ?_
    exact G.retI dX12_prove_102 rfl ⟨by rw [k1 (by omega)], hA1, hT1, hF1, hX1⟩
theorem c_X12_prove (w : WC) (d : Nat) (μ : Mem) {m : Nat} {F : Int → List Tm} (hA : MA w μ m F) {n : Int} {B : Int → Int} (hB : TpM μ m n B) {s : Int} (hs : i32 s) : Con w (d + 8) mX12_prove 0 0 [vP (some m), vI s] μ (fun v μ2 => v = some (vI (pvA n B F s)) ∧ MA w μ2 m F ∧ TpM μ2 m 0 B ∧ FaM μ2 m (pvU n B F s) ∧ FrZ m (P4 m) JP μ μ2) := by
  have o0 := hA.o
  refine Con.of (by decide) (Nat.le_of_ble_eq_true rfl) rfl ?_
  refine g_aload_n (j := 0) rfl dX12_prove_0 ?_
  refine g_callV dX12_prove_1 mlX12_247 mvX12_begins (ci := 12) ⟨by decide, rfl⟩ (by assumption) (c_begins w (d + 4) μ hA.1 hB) sv0 rfl (by omega) (Nat.le_of_ble_eq_true rfl) (Nat.le_refl _) (Nat.le_refl _) (fun v μ1 hR => ?_)
  obtain ⟨rfl, hS1, e18, e19, hBa1, hf1⟩ := hR
  have hf1' : FrZ m (fun _ => False) JP μ μ1 := FrZ.mono hf1 (fun _ z => z) (fun j z => by unfold Jb at z; unfold JP; rcases z with z | z; exact Or.inl z.z; exact Or.inl (by unfold Jz; omega))
  have hA1 : MA w μ1 m F := FrZ.MA hf1 hA ⟨fun z => z, fun z => z, fun z => z, fun z => z⟩ (by unfold Jb Jf Jn; omega)
  have o01 := hA1.o
  refine g_aload_n (j := 0) rfl dX12_prove_4 ?_
  refine g_iconst dX12_prove_5 ?_
  refine g_putI dX12_prove_6 fpX12_324 rfl rfl rfl (by assumption) (kz := 32) rfl ?_
  have hf2 : FrZ m (fun _ => False) JP μ (sI μ1 m 32 0) := FrZ.tr hf1' (FrZ.sI (by unfold JP; omega))
  have hS2 : StM w (sI μ1 m 32 0) m n B 0 := hS1.fr (P := fun _ => False) (J := fun j => j = 32) (FrZ.sI rfl) ⟨by omega, by omega, fun k z1 z2 z => by omega⟩ (fun z => z) rfl
  have hA2 : MA w (sI μ1 m 32 0) m F := FrZ.MA (P := fun _ => False) (J := fun j => j = 32) (FrZ.sI rfl) hA1 ⟨fun z => z, fun z => z, fun z => z, fun z => z⟩ (by omega)
  have hBa2 : BaM (sI μ1 m 32 0) m fa0 := ⟨by rw [mI_sI, if_neg (by omega)]; exact hBa1.1, by rw [mI_sI, if_neg (by omega)]; exact hBa1.2.1, by rw [mI_sI, if_neg (by omega)]; exact hBa1.2.2.1, by rw [mI_sI, if_neg (by omega)]; exact hBa1.2.2.2⟩
  have e322 : mI (sI μ1 m 32 0) m 32 = 0 := by rw [mI_sI, if_pos ⟨rfl, rfl⟩]
  generalize sI μ1 m 32 0 = μ2 at *
  have o02 := hA2.o
  have hP2 : PsM w μ2 m F n B 0 [] := ⟨hS2, hA2, e322, fun k z hz => by simp at hz⟩
  have hX2 : FrZ m (P4 m) JP μ μ2 := FrZ.mono hf2 (fun _ z => z.elim) (fun _ z => z)
  have f12 := hS2.2.2.1.2.2.1
  have hm2 := mS2_c n B (tP n B 0)
  refine g_aload_n (j := 0) rfl dX12_prove_9 ?_
  refine g_iload_n (j := 1) rfl dX12_prove_10 ?_
  refine g_callV dX12_prove_11 mlX12_274 mvX12_isForm (ci := 12) ⟨by decide, rfl⟩ (by assumption) (c_X12_isForm w (d + 5) μ2 hA2 hs) sv1 rfl (by omega) (Nat.le_of_ble_eq_true rfl) (Nat.le_refl _) (Nat.le_refl _) (fun v μ2 hR => ?_)
  obtain ⟨rfl, hm⟩ := hR
  replace hm := hm.symm
  subst hm
  rcases Classical.em (HasT F s) with hh | hh
  · have hb : bI (HasT F s) = 1 := by rw [bI, if_pos hh]
    rw [hb]
    refine g_istore_n (j := 2) dX12_prove_14 (by decide) rfl ls2 ?_
    refine g_iload_n (j := 2) rfl dX12_prove_15 ?_
    refine g_if_eq (tgt := 30) dX12_prove_16 (by decide) (by omega) (fun h16 => ?_) (fun h16 => ?_)
    · omega
    · refine g_aload_n (j := 0) rfl dX12_prove_19 ?_
      refine g_getI dX12_prove_20 flX12_142 rfl (by assumption) (kz := 12) rfl ?_
      rw [f12]
      refine g_if_eq (tgt := 30) dX12_prove_23 (by decide) (by omega) (fun h23 => ?_) (fun h23 => ?_)
      · refine g_iconst dX12_prove_30 ?_
        refine g_istore_n (j := 3) dX12_prove_31 (by decide) rfl ls3 ?_
        have hend : ¬ tP n B 0 < n := by omega
        have er := prAll_end (ts := F s) (k := 61) (told := []) hend
        refine g_iload_n (j := 3) rfl dX12_prove_32 ?_
        refine g_if_eq (tgt := 73) dX12_prove_33 (by decide) (by omega) (fun h33 => ?_) (fun h33 => ?_)
        · refine l12_proveE (d := d) (n := n) (B := B) hA2 hBa2 (f := fa0) (by rw [pvU, pI_t hh, er]) (by show i32 0; omega) (Or.inr rfl) hX2 (fun z => by omega) (fun _ z => absurd (show fa0 0 = 0 from rfl) z) (fun _ _ => ?_) ?_
          · rw [pvA, cI_t hh, er, e322]
            rfl
          · rw [pvA, cI_t hh, er]
            show i32 (([] : List Int).length : Int)
            exact (show i32 (0 : Int) by omega)
        · omega
      · refine g_iconst dX12_prove_26 ?_
        refine g_goto (tgt := 31) (by decide) dX12_prove_27 ?_
        refine g_istore_n (j := 3) dX12_prove_31 (by decide) rfl ls3 ?_
        refine l12_prove (d := d) hh.1 61 [] 0 μ2 rfl (by omega) hP2 hBa2 (fun e μ3 y1 y2 => ?_) (fun μ3 c y1 y2 y3 y4 y5 => ?_) (by decide)
        · have hc := prAll_e n B (F s) 61 [] 0 e y1
          refine l12_proveE (d := d) y2.1 y2.2.1 (by rw [pvU, pI_t hh, y1]) (by show i32 e.1.1; omega) (Or.inr rfl) (FrZ.tr hX2 y2.2.2) (fun z => by omega) (fun _ _ => by rw [pvA, cI_t hh, y1]) (fun _ z => absurd (show e.1.1 = 0 from z) (by omega)) ?_
          rw [pvA, cI_t hh, y1]
          exact (show i32 (-1 : Int) by omega)
        · have hc := prAll_c n B (F s) 61 [] 0 c y1
          refine l12_proveE (d := d) y2 y3 (f := fa0) (by rw [pvU, pI_t hh, y1]) (by show i32 0; omega) (Or.inr rfl) (FrZ.tr hX2 y5.P) (fun z => by omega) (fun _ z => absurd (show fa0 0 = 0 from rfl) z) (fun _ _ => by rw [pvA, cI_t hh, y1]; exact y4) ?_
          rw [pvA, cI_t hh, y1]
          simp at hc
          exact (show i32 (c : Int) by omega)
  · have hb : bI (HasT F s) = 0 := by rw [bI, if_neg hh]
    rw [hb]
    refine g_istore_n (j := 2) dX12_prove_14 (by decide) rfl ls2 ?_
    refine g_iload_n (j := 2) rfl dX12_prove_15 ?_
    refine g_if_eq (tgt := 30) dX12_prove_16 (by decide) (by omega) (fun h16 => ?_) (fun h16 => ?_)
    · refine g_iconst dX12_prove_30 ?_
      refine g_istore_n (j := 3) dX12_prove_31 (by decide) rfl ls3 ?_
      refine g_iload_n (j := 3) rfl dX12_prove_32 ?_
      refine g_if_eq (tgt := 73) dX12_prove_33 (by decide) (by omega) (fun h33 => ?_) (fun h33 => ?_)
      · refine l12_proveE (d := d) (n := n) (B := B) hA2 hBa2 (f := fa0) (by rw [pvU, pI_f hh]) (by show i32 0; omega) (Or.inl rfl) hX2 (fun _ => by rw [pvA, cI_f hh]) (fun z => absurd rfl z) (fun z => absurd rfl z) ?_
        rw [pvA, cI_f hh]
        exact (show i32 (-2 : Int) by omega)
      · omega
    · omega
