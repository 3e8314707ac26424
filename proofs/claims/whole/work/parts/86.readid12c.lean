theorem l_X12_mul {w : WC} {m D : Nat} {F : Int → List Tm} {n : Int} {B : Int → Int} {fo op : Int} {pow : IdR} (hpow : (∀ (μ : Mem) (s : IdS), ImK w μ m F n B s → mI μ m 18 = fo → mI μ m 19 = op → Con w D mX12_readPower 0 0 [vP (some m)] μ (ImP w m F n B fo (op) (pow s) μ))) (hgr : Gr 1 pow) (hD : 4 ≤ D) : ∀ (k : Nat) (s : IdS) (μ : Mem), 61 ≤ s.2.1 + k → ImK w μ m F n B s → mI μ m 18 = fo → mI μ m 19 = op → G w (D + 1) mX12_readProduct (ImP w m F n B fo op (idMul n B op pow k s) μ) 0 0 9 [some (vP (some m))] [] μ := by
  intro k
  induction k with
  | zero =>
    intro s μ hk h e18 e19
    have := h.2.2.2.2.1
    omega
  | succ k ih =>
    intro s μ hk h e18 e19
    have o0 := h.1.1.o
    have hbb := h.2.2.2.2
    refine g_aload_n (j := 0) rfl dX12_readProduct_9 ?_
    refine g_bipush dX12_readProduct_10 (by omega) ?_
    refine g_callV dX12_readProduct_12 mlX12_184 mvX12_isSign (ci := 12) ⟨by decide, rfl⟩ (by assumption) (c_isSign12 w D μ h.1 (c := 42) (by omega)) sv1 rfl (by omega) (Nat.le_of_ble_eq_true rfl) (Nat.le_refl _) (Nat.le_refl _) (fun v μ2 hR => ?_)
    obtain ⟨rfl, hm⟩ := hR
    replace hm := hm.symm
    subst hm
    refine g_ifb_eq (tgt := 41) dX12_readProduct_15 (by decide)  (fun h15 => ?_) (fun h15 => ?_)
    · refine g_iconst dX12_readProduct_41 ?_
      refine G.retZ dX12_readProduct_42 rfl (Or.inr rfl) ?_
      unfold idMul
      rw [pI_f h15]
      exact ⟨rfl, h, ⟨e18, e19⟩, ImG.rf⟩
    · refine g_aload_n (j := 0) rfl dX12_readProduct_18 ?_
      refine g_callV dX12_readProduct_19 mlX12_190 mvX12_next (ci := 12) ⟨by decide, rfl⟩ (by assumption) (c_nextS w (D - 2) μ h.1) sv0 rfl (by omega) (Nat.le_of_ble_eq_true rfl) (Nat.le_refl _) (Nat.le_refl _) (fun v μ2 hR => ?_)
      obtain ⟨rfl, hS2, hr2⟩ := hR
      obtain ⟨h2, hg2⟩ := h.rd hS2 hr2.T
      have e182 := FrZ.rd18 hr2 (j := 18) (by unfold Jn; omega) e18
      have e192 := FrZ.rd18 hr2 (j := 19) (by unfold Jn; omega) e19
      have o02 := h2.1.1.o
      refine g_aload_n (j := 0) rfl dX12_readProduct_22 ?_
      refine g_callV dX12_readProduct_23 mlX12_347 mvX12_readPower (ci := 12) ⟨by decide, rfl⟩ (by assumption) (hpow μ2 (s.1 + 1, s.2) h2 e182 e192) sv0 rfl (by omega) (Nat.le_of_ble_eq_true rfl) (Nat.le_refl _) (Nat.le_refl _) (fun v μ4 hR => ?_)
      rcases hr : pow (s.1 + 1, s.2) with e | s4
      · rw [hr] at hR
        obtain ⟨rfl, hE⟩ := hR
        refine g_if_ne (tgt := 31) dX12_readProduct_26 (by decide) (by omega) (fun h26 => ?_) (fun h26 => ?_)
        · omega
        · refine g_iconst dX12_readProduct_29 ?_
          refine G.retZ dX12_readProduct_30 rfl (Or.inl rfl) ?_
          unfold idMul
          rw [pI_t h15, hr]
          exact ⟨rfl, hg2.E hE⟩
      · rw [hr] at hR
        obtain ⟨rfl, h4, ⟨e184, e194⟩, hg4⟩ := hR
        refine g_if_ne (tgt := 31) dX12_readProduct_26 (by decide) (by omega) (fun h26 => ?_) (fun h26 => ?_)
        · obtain ⟨q1, q2, q3, kk4, q4⟩ := hgr _ _ hr
          dsimp only at q1 q3 q4
          have o04 := h4.1.1.o
          refine g_aload_n (j := 0) rfl dX12_readProduct_31 ?_
          refine g_bipush dX12_readProduct_32 (by omega) ?_
          refine g_iconst dX12_readProduct_34 ?_
          refine g_callV dX12_readProduct_35 mlX12_344 mvX12_puts (ci := 12) ⟨by decide, rfl⟩ (by assumption) (c_puts w D μ4 h4.1.1 (ops := s4.2.2.2) h4.2.2.1.1 (by omega) h4.2.2.2.1 (o := (4, 0)) (sg := 42) rfl rfl) sv2 rfl (by omega) (Nat.le_of_ble_eq_true rfl) (Nat.le_refl _) (Nat.le_refl _) (fun v μ5 hR => ?_)
          obtain ⟨rfl, p1, p2, p3, p4, p5, p6⟩ := hR
          obtain ⟨h5, hg5⟩ := h4.put p1 p2 p3 ⟨p4, p5⟩ p6 (by omega)
          have e185 := (p3.2 18 (by omega)).trans e184
          have e195 := (p3.2 19 (by omega)).trans e194
          refine g_goto (tgt := 9) (by decide) dX12_readProduct_38 ?_
          have er : idMul n B op pow (k + 1) s = idMul n B op pow k (s4.1, s4.2.1, s4.2.2.1, s4.2.2.2 ++ [(4, 0)]) := by
            show pI _ _ _ = _
            rw [pI_t h15, hr]
            rfl
          rw [er]
          refine G.post (fun v μ6 hq => ImP.tr ((hg2.tr hg4).tr hg5) hq) (ih _ μ5 (by show 61 ≤ s4.2.1 + k; omega) h5 e185 e195)
        · omega

theorem c_X12_readProduct (w : WC) {m D : Nat} {F : Int → List Tm} {n : Int} {B : Int → Int} {fo op : Int} {pow : IdR} (hpow : (∀ (μ : Mem) (s : IdS), ImK w μ m F n B s → mI μ m 18 = fo → mI μ m 19 = op → Con w D mX12_readPower 0 0 [vP (some m)] μ (ImP w m F n B fo (op) (pow s) μ))) (hgr : Gr 1 pow) (hD : 4 ≤ D) (μ : Mem) (s : IdS) (h : ImK w μ m F n B s) (e18 : mI μ m 18 = fo) (e19 : mI μ m 19 = op) : Con w (D + 1) mX12_readProduct 0 0 [vP (some m)] μ (ImP w m F n B fo op (idProd n B op pow s) μ) := by
  have o0 := h.1.1.o
  unfold idProd
  refine Con.of (by decide) (Nat.le_of_ble_eq_true rfl) rfl ?_
  refine g_aload_n (j := 0) rfl dX12_readProduct_0 ?_
  refine g_callV dX12_readProduct_1 mlX12_347 mvX12_readPower (ci := 12) ⟨by decide, rfl⟩ (by assumption) (hpow μ s h e18 e19) sv0 rfl (by omega) (Nat.le_of_ble_eq_true rfl) (Nat.le_refl _) (Nat.le_refl _) (fun v μ1 hR => ?_)
  rcases hr : pow s with e | s3
  · rw [hr] at hR
    obtain ⟨rfl, hE⟩ := hR
    refine g_if_ne (tgt := 9) dX12_readProduct_4 (by decide) (by omega) (fun h4 => ?_) (fun h4 => ?_)
    · omega
    · refine g_iconst dX12_readProduct_7 ?_
      exact G.retZ dX12_readProduct_8 rfl (Or.inl rfl) ⟨rfl, hE⟩
  · rw [hr] at hR
    obtain ⟨rfl, h3, ⟨e183, e193⟩, hg3⟩ := hR
    obtain ⟨q1, -, -, k, q4⟩ := hgr _ _ hr
    refine g_if_ne (tgt := 9) dX12_readProduct_4 (by decide) (by omega) (fun h4 => ?_) (fun h4 => ?_)
    · refine G.post (fun v μ6 hq => ImP.tr hg3 hq) (l_X12_mul hpow hgr hD 60 s3 μ1 (by omega) h3 e183 e193)
    · omega
theorem mG2_sg {n : Int} {B : Int → Int} {p c : Int} (h : isSg n B p c) : mG2 n B p = c := by
  unfold mG2
  have h1 := h.1
  have h2 := h.2.1
  have h3 := h.2.2
  first
  | (rw [if_pos ⟨h1, by omega⟩]; exact h3)
  | (rw [if_pos h1]; simp [h2, h3])
  | (simp [h1, h2, h3])
theorem l_X12_add {w : WC} {m D : Nat} {F : Int → List Tm} {n : Int} {B : Int → Int} {fo op : Int} {prod : IdR} (hprod : (∀ (μ : Mem) (s : IdS), ImK w μ m F n B s → mI μ m 18 = fo → mI μ m 19 = op → Con w D mX12_readProduct 0 0 [vP (some m)] μ (ImP w m F n B fo (op) (prod s) μ))) (hgr : Gr 1 prod) (hD : 4 ≤ D) : ∀ (k : Nat) (s : IdS) (μ : Mem) {l1 : Option AV}, 61 ≤ s.2.1 + k → ImK w μ m F n B s → mI μ m 18 = fo → mI μ m 19 = op → G w (D + 1) mX12_readSum (ImP w m F n B fo op (idAdd n B op prod k s) μ) 0 0 9 [some (vP (some m)), l1] [] μ := by
  intro k
  induction k with
  | zero =>
    intro s μ l1 hk h e18 e19
    have := h.2.2.2.2.1
    omega
  | succ k ih =>
    intro s μ l1 hk h e18 e19
    have o0 := h.1.1.o
    have hbb := h.2.2.2.2
    refine g_aload_n (j := 0) rfl dX12_readSum_9 ?_
    refine g_bipush dX12_readSum_10 (by omega) ?_
    refine g_callV dX12_readSum_12 mlX12_184 mvX12_isSign (ci := 12) ⟨by decide, rfl⟩ (by assumption) (c_isSign12 w D μ h.1 (c := 43) (by omega)) sv1 rfl (by omega) (Nat.le_of_ble_eq_true rfl) (Nat.le_refl _) (Nat.le_refl _) (fun v μ2 hR => ?_)
    obtain ⟨rfl, hm⟩ := hR
    replace hm := hm.symm
    subst hm
    refine g_ifb_ne (tgt := 27) dX12_readSum_15 (by decide)  (fun h15 => ?_) (fun h15 => ?_)
    · refine g_aload_n (j := 0) rfl dX12_readSum_27 ?_
      refine g_getI dX12_readSum_28 flX12_139 rfl (by assumption) (kz := 17) rfl ?_
      have f17 := h.1.2.2.1.2.2.2.2.2
      rw [f17, mG2_sg (by assumption)]
      refine g_istore_n (j := 1) dX12_readSum_31 (by decide) rfl ls1 ?_
      refine g_aload_n (j := 0) rfl dX12_readSum_32 ?_
      refine g_callV dX12_readSum_33 mlX12_190 mvX12_next (ci := 12) ⟨by decide, rfl⟩ (by assumption) (c_nextS w (D - 2) μ h.1) sv0 rfl (by omega) (Nat.le_of_ble_eq_true rfl) (Nat.le_refl _) (Nat.le_refl _) (fun v μ2 hR => ?_)
      obtain ⟨rfl, hS2, hr2⟩ := hR
      obtain ⟨h2, hg2⟩ := h.rd hS2 hr2.T
      have e182 := FrZ.rd18 hr2 (j := 18) (by unfold Jn; omega) e18
      have e192 := FrZ.rd18 hr2 (j := 19) (by unfold Jn; omega) e19
      have o02 := h2.1.1.o
      refine g_aload_n (j := 0) rfl dX12_readSum_36 ?_
      refine g_callV dX12_readSum_37 mlX12_341 mvX12_readProduct (ci := 12) ⟨by decide, rfl⟩ (by assumption) (hprod μ2 (s.1 + 1, s.2) h2 e182 e192) sv0 rfl (by omega) (Nat.le_of_ble_eq_true rfl) (Nat.le_refl _) (Nat.le_refl _) (fun v μ4 hR => ?_)
      have hdum := trivial
      rcases hr : prod (s.1 + 1, s.2) with e | s4
      · rw [hr] at hR
        obtain ⟨rfl, hE⟩ := hR
        refine g_if_ne (tgt := 45) dX12_readSum_40 (by decide) (by omega) (fun h40 => ?_) (fun h40 => ?_)
        · omega
        · refine g_iconst dX12_readSum_43 ?_
          refine G.retZ dX12_readSum_44 rfl (Or.inl rfl) ?_
          unfold idAdd
          rw [pI_t (Or.inl h15), hr]
          exact ⟨rfl, hg2.E hE⟩
      · rw [hr] at hR
        obtain ⟨rfl, h4, ⟨e184, e194⟩, hg4⟩ := hR
        refine g_if_ne (tgt := 45) dX12_readSum_40 (by decide) (by omega) (fun h40 => ?_) (fun h40 => ?_)
        · obtain ⟨q1, q2, q3, kk4, q4⟩ := hgr _ _ hr
          dsimp only at q1 q3 q4
          have o04 := h4.1.1.o
          refine g_aload_n (j := 0) rfl dX12_readSum_45 ?_
          refine g_iload_n (j := 1) rfl dX12_readSum_46 ?_
          refine g_iconst dX12_readSum_47 ?_
          refine g_callV dX12_readSum_48 mlX12_344 mvX12_puts (ci := 12) ⟨by decide, rfl⟩ (by assumption) (c_puts w D μ4 h4.1.1 (ops := s4.2.2.2) h4.2.2.1.1 (by omega) h4.2.2.2.1 (o := (2, 0)) (sg := 43) rfl rfl) sv2 rfl (by omega) (Nat.le_of_ble_eq_true rfl) (Nat.le_refl _) (Nat.le_refl _) (fun v μ5 hR => ?_)
          obtain ⟨rfl, p1, p2, p3, p4, p5, p6⟩ := hR
          obtain ⟨h5, hg5⟩ := h4.put p1 p2 p3 ⟨p4, p5⟩ p6 (by omega)
          have e185 := (p3.2 18 (by omega)).trans e184
          have e195 := (p3.2 19 (by omega)).trans e194
          refine g_goto (tgt := 9) (by decide) dX12_readSum_51 ?_
          have er : idAdd n B op prod (k + 1) s = idAdd n B op prod k (s4.1, s4.2.1, s4.2.2.1, s4.2.2.2 ++ [(2, 0)]) := by
            show pI _ _ _ = _
            rw [pI_t (Or.inl h15), hr]
            unfold idB
            dsimp only
            rw [cI_t h15]
          rw [er]
          exact G.post (fun v μ6 hq => ImP.tr ((hg2.tr hg4).tr hg5) hq) (ih _ μ5 (by show 61 ≤ s4.2.1 + k; omega) h5 e185 e195)
        · omega
    · refine g_aload_n (j := 0) rfl dX12_readSum_18 ?_
      refine g_bipush dX12_readSum_19 (by omega) ?_
      refine g_callV dX12_readSum_21 mlX12_184 mvX12_isSign (ci := 12) ⟨by decide, rfl⟩ (by assumption) (c_isSign12 w D μ h.1 (c := 45) (by omega)) sv1 rfl (by omega) (Nat.le_of_ble_eq_true rfl) (Nat.le_refl _) (Nat.le_refl _) (fun v μ2 hR => ?_)
      obtain ⟨rfl, hm⟩ := hR
      replace hm := hm.symm
      subst hm
      refine g_ifb_eq (tgt := 54) dX12_readSum_24 (by decide)  (fun h24 => ?_) (fun h24 => ?_)
      · refine g_iconst dX12_readSum_54 ?_
        refine G.retZ dX12_readSum_55 rfl (Or.inr rfl) ?_
        unfold idAdd
        rw [pI_f (fun z => z.elim h15 h24)]
        exact ⟨rfl, h, ⟨e18, e19⟩, ImG.rf⟩
      · refine g_aload_n (j := 0) rfl dX12_readSum_27 ?_
        refine g_getI dX12_readSum_28 flX12_139 rfl (by assumption) (kz := 17) rfl ?_
        have f17 := h.1.2.2.1.2.2.2.2.2
        rw [f17, mG2_sg (by assumption)]
        refine g_istore_n (j := 1) dX12_readSum_31 (by decide) rfl ls1 ?_
        refine g_aload_n (j := 0) rfl dX12_readSum_32 ?_
        refine g_callV dX12_readSum_33 mlX12_190 mvX12_next (ci := 12) ⟨by decide, rfl⟩ (by assumption) (c_nextS w (D - 2) μ h.1) sv0 rfl (by omega) (Nat.le_of_ble_eq_true rfl) (Nat.le_refl _) (Nat.le_refl _) (fun v μ2 hR => ?_)
        obtain ⟨rfl, hS2, hr2⟩ := hR
        obtain ⟨h2, hg2⟩ := h.rd hS2 hr2.T
        have e182 := FrZ.rd18 hr2 (j := 18) (by unfold Jn; omega) e18
        have e192 := FrZ.rd18 hr2 (j := 19) (by unfold Jn; omega) e19
        have o02 := h2.1.1.o
        refine g_aload_n (j := 0) rfl dX12_readSum_36 ?_
        refine g_callV dX12_readSum_37 mlX12_341 mvX12_readProduct (ci := 12) ⟨by decide, rfl⟩ (by assumption) (hprod μ2 (s.1 + 1, s.2) h2 e182 e192) sv0 rfl (by omega) (Nat.le_of_ble_eq_true rfl) (Nat.le_refl _) (Nat.le_refl _) (fun v μ4 hR => ?_)
        have hdum := trivial
        rcases hr : prod (s.1 + 1, s.2) with e | s4
        · rw [hr] at hR
          obtain ⟨rfl, hE⟩ := hR
          refine g_if_ne (tgt := 45) dX12_readSum_40 (by decide) (by omega) (fun h40 => ?_) (fun h40 => ?_)
          · omega
          · refine g_iconst dX12_readSum_43 ?_
            refine G.retZ dX12_readSum_44 rfl (Or.inl rfl) ?_
            unfold idAdd
            rw [pI_t (Or.inr h24), hr]
            exact ⟨rfl, hg2.E hE⟩
        · rw [hr] at hR
          obtain ⟨rfl, h4, ⟨e184, e194⟩, hg4⟩ := hR
          refine g_if_ne (tgt := 45) dX12_readSum_40 (by decide) (by omega) (fun h40 => ?_) (fun h40 => ?_)
          · obtain ⟨q1, q2, q3, kk4, q4⟩ := hgr _ _ hr
            dsimp only at q1 q3 q4
            have o04 := h4.1.1.o
            refine g_aload_n (j := 0) rfl dX12_readSum_45 ?_
            refine g_iload_n (j := 1) rfl dX12_readSum_46 ?_
            refine g_iconst dX12_readSum_47 ?_
            refine g_callV dX12_readSum_48 mlX12_344 mvX12_puts (ci := 12) ⟨by decide, rfl⟩ (by assumption) (c_puts w D μ4 h4.1.1 (ops := s4.2.2.2) h4.2.2.1.1 (by omega) h4.2.2.2.1 (o := (3, 0)) (sg := 45) rfl rfl) sv2 rfl (by omega) (Nat.le_of_ble_eq_true rfl) (Nat.le_refl _) (Nat.le_refl _) (fun v μ5 hR => ?_)
            obtain ⟨rfl, p1, p2, p3, p4, p5, p6⟩ := hR
            obtain ⟨h5, hg5⟩ := h4.put p1 p2 p3 ⟨p4, p5⟩ p6 (by omega)
            have e185 := (p3.2 18 (by omega)).trans e184
            have e195 := (p3.2 19 (by omega)).trans e194
            refine g_goto (tgt := 9) (by decide) dX12_readSum_51 ?_
            have er : idAdd n B op prod (k + 1) s = idAdd n B op prod k (s4.1, s4.2.1, s4.2.2.1, s4.2.2.2 ++ [(3, 0)]) := by
              show pI _ _ _ = _
              rw [pI_t (Or.inr h24), hr]
              unfold idB
              dsimp only
              rw [cI_f h15]
            rw [er]
            exact G.post (fun v μ6 hq => ImP.tr ((hg2.tr hg4).tr hg5) hq) (ih _ μ5 (by show 61 ≤ s4.2.1 + k; omega) h5 e185 e195)
          · omega
theorem c_X12_readSum (w : WC) {m D : Nat} {F : Int → List Tm} {n : Int} {B : Int → Int} {fo op : Int} {prod : IdR} (hprod : (∀ (μ : Mem) (s : IdS), ImK w μ m F n B s → mI μ m 18 = fo → mI μ m 19 = op → Con w D mX12_readProduct 0 0 [vP (some m)] μ (ImP w m F n B fo (op) (prod s) μ))) (hgr : Gr 1 prod) (hD : 4 ≤ D) (μ : Mem) (s : IdS) (h : ImK w μ m F n B s) (e18 : mI μ m 18 = fo) (e19 : mI μ m 19 = op) : Con w (D + 1) mX12_readSum 0 0 [vP (some m)] μ (ImP w m F n B fo op (idSum n B op prod s) μ) := by
  have o0 := h.1.1.o
  unfold idSum
  refine Con.of (by decide) (Nat.le_of_ble_eq_true rfl) rfl ?_
  refine g_aload_n (j := 0) rfl dX12_readSum_0 ?_
  refine g_callV dX12_readSum_1 mlX12_341 mvX12_readProduct (ci := 12) ⟨by decide, rfl⟩ (by assumption) (hprod μ s h e18 e19) sv0 rfl (by omega) (Nat.le_of_ble_eq_true rfl) (Nat.le_refl _) (Nat.le_refl _) (fun v μ1 hR => ?_)
  rcases hr : prod s with e | s3
  · rw [hr] at hR
    obtain ⟨rfl, hE⟩ := hR
    refine g_if_ne (tgt := 9) dX12_readSum_4 (by decide) (by omega) (fun h4 => ?_) (fun h4 => ?_)
    · omega
    · refine g_iconst dX12_readSum_7 ?_
      exact G.retZ dX12_readSum_8 rfl (Or.inl rfl) ⟨rfl, hE⟩
  · rw [hr] at hR
    obtain ⟨rfl, h3, ⟨e183, e193⟩, hg3⟩ := hR
    obtain ⟨q1, -, -, k, q4⟩ := hgr _ _ hr
    refine g_if_ne (tgt := 9) dX12_readSum_4 (by decide) (by omega) (fun h4 => ?_) (fun h4 => ?_)
    · refine G.post (fun v μ6 hq => ImP.tr hg3 hq) (l_X12_add hprod hgr hD 60 s3 μ1 (by omega) h3 e183 e193)
    · omega
