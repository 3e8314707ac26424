/-! THE CLASS: reads an identity -/
def IdK (w : WC) (μ : Mem) (x : Nat) (n : Int) (B : Int → Int) (T y : Nat) (s : IdS) : Prop := TkC w μ x n B T ∧ (mR μ (x + 58) 1 = some y ∧ (y = x + 71 ∨ y = x + 85)) ∧ (mI μ (x + 1) 8 = (s.1 : Int) ∧ s.1 ≤ T) ∧ IcS μ y s.2.1 s.2.2.1 s.2.2.2 ∧ (s.2.1 ≤ 60 ∧ s.2.2.2.length ≤ 3 * s.2.1)
def IdQ (x y : Nat) : Mem → Mem → Prop := Fr (fun a => a = x + 1 ∨ (y ≤ a ∧ a ≤ y + 8)) (fun _ _ => False)
def IdG (x y : Nat) (μ μ2 : Mem) : Prop := IdQ x y μ μ2 ∧ (∀ j, ¬ (8 ≤ j ∧ j ≤ 11) → mI μ2 (x + 1) j = mI μ (x + 1) j) ∧ mI μ2 y 15 = mI μ y 15
def IdE (x y : Nat) (f : Int → Int) (μ μ2 : Mem) : Prop := IdQ x y μ μ2 ∧ (∀ j, ¬ (8 ≤ j ∧ j ≤ 15) → mI μ2 (x + 1) j = mI μ (x + 1) j) ∧ FaC μ2 x f
def IdP (w : WC) (x : Nat) (n : Int) (B : Int → Int) (T y : Nat) (fo op : Int) (r : FlF ⊕ IdS) (μ : Mem) (v : Option AV) (μ2 : Mem) : Prop := match r with
  | .inl e => v = some (vI 0) ∧ IdE x y (fa4 e.1 (tP n B e.2.1) fo e.2.2) μ μ2
  | .inr s2 => v = some (vI 1) ∧ IdK w μ2 x n B T y s2 ∧ (mI μ2 (x + 1) 10 = fo ∧ mI μ2 (x + 1) 11 = op) ∧ IdG x y μ μ2
section IK
variable {w : WC} {x T y : Nat} {n : Int} {B : Int → Int} {s : IdS} {μ μ2 μ3 : Mem}
theorem IdG.tr (h : IdG x y μ μ2) (h2 : IdG x y μ2 μ3) : IdG x y μ μ3 := ⟨h.1.tr h2.1, fun j z => (h2.2.1 j z).trans (h.2.1 j z), h2.2.2.trans h.2.2⟩
theorem IdG.rf : IdG x y μ μ := ⟨Fr.rf, fun _ _ => rfl, rfl⟩
theorem IdG.E {f : Int → Int} (h : IdG x y μ μ2) (h2 : IdE x y f μ2 μ3) : IdE x y f μ μ3 := ⟨h.1.tr h2.1, fun j z => (h2.2.1 j z).trans (h.2.1 j (fun q => z (by omega))), h2.2.2⟩
theorem PwE.i {f : Int → Int} (h : PwE x f μ μ2) : IdE x y f μ μ2 := ⟨h.1.mono (fun _ _ z => Or.inl z) (fun _ _ _ z => z), h.2.1, h.2.2⟩
theorem IdK.yb (h : IdK w μ x n B T y s) : x + 71 ≤ y ∧ y + 13 ≤ x + 98 := by
  rcases h.2.1.2 with z | z <;> omega
theorem IdK.ido (h : IdK w μ x n B T y s) : IdO w μ y := h.1.1.ido h.2.1.2
theorem IdK.o58 (h : IdK w μ x n B T y s) : IsO w μ (x + 58) 4 := h.1.1.o58
theorem IdK.r0 (h : IdK w μ x n B T y s) : mR μ (x + 58) 0 = some (x + 1) := h.1.1.r58_0
/-- fields of the tape alone change -/
theorem IdK.tp (h : IdK w μ x n B T y s) {s2 : IdS} (hf : PwS x μ μ2) (e8 : mI μ2 (x + 1) 8 = (s2.1 : Int)) (hi : s2.1 ≤ T) (e2 : s2.2 = s.2) : IdK w μ2 x n B T y s2 ∧ IdG x y μ μ2 := by
  have hy := h.yb
  obtain ⟨hK, hr, -, ⟨hc, hO, hS⟩, hb⟩ := id h
  have hI := h.ido
  have hfr : Fr (fun a => a = x + 1) (fun _ _ => False) μ μ2 := hf.1
  have ey : ∀ j, mI μ2 y j = mI μ y j := hfr.I hI.1.2.1 (by omega)
  have ea1 : ∀ j, mI μ2 (y + 1) j = mI μ (y + 1) j := hfr.I hI.a0.2.1 (by omega)
  have ea2 : ∀ j, mI μ2 (y + 2) j = mI μ (y + 2) j := hfr.I hI.a1.2.1 (by omega)
  have ea3 : ∀ j, mI μ2 (y + 3) j = mI μ (y + 3) j := hfr.I hI.a2.2.1 (by omega)
  have ea4 : ∀ j, mI μ2 (y + 4) j = mI μ (y + 4) j := hfr.I hI.a3.2.1 (by omega)
  have ea5 : ∀ j, mI μ2 (y + 5) j = mI μ (y + 5) j := hfr.I hI.a4.2.1 (by omega)
  have ea8 : ∀ j, mI μ2 (y + 8) j = mI μ (y + 8) j := hfr.I hI.a7.2.1 (by omega)
  refine ⟨⟨hK.fr hfr (hK.1.fr hfr fun _ _ _ z => z.elim) (fun a z1 z2 z => by omega) (hf.2 5 (by omega)) (hf.2 7 (by omega)), ⟨(hfr.R h.o58.2.1 (fun z => z)).trans hr.1, hr.2⟩, ⟨e8, hi⟩, ?_, by rw [e2]; exact hb⟩, ⟨hfr.mono (fun _ _ z => Or.inl z) (fun _ _ _ z => z), hf.2, ey 15⟩⟩
  rw [e2]
  refine ⟨by rw [ey, ey, ey, ey]; exact hc, fun j q hq => ?_, fun k v hv => by rw [ea8]; exact hS k v hv⟩
  rw [ea1, ea2, ea3, ea4, ea5, ea5, ea5]
  exact hO j q hq
/-- the Identity alone changes -/
theorem IdK.id (h : IdK w μ x n B T y s) {s2 : IdS} (hf : IdF y μ μ2) (e1 : s2.1 = s.1) (hc : IcS μ2 y s2.2.1 s2.2.2.1 s2.2.2.2) (hb : s2.2.1 ≤ 60 ∧ s2.2.2.2.length ≤ 3 * s2.2.1) : IdK w μ2 x n B T y s2 ∧ IdG x y μ μ2 := by
  have hy := h.yb
  obtain ⟨hK, hr, h8, -, -⟩ := _root_.id h
  have e : ∀ j, mI μ2 (x + 1) j = mI μ (x + 1) j := hf.1.I hK.1.o1.2.1 (by omega)
  exact ⟨⟨hK.fr hf.1 (hK.1.fr hf.1 fun _ _ _ z => z.elim) (fun a z1 z2 z => by omega) (e 5) (e 7), ⟨(hf.1.R h.o58.2.1 (fun z => z)).trans hr.1, hr.2⟩, ⟨by rw [e, e1]; exact h8.1, by rw [e1]; exact h8.2⟩, hc, hb⟩, ⟨hf.1.mono (fun _ _ z => Or.inr z) (fun _ _ _ z => z), fun j _ => e j, hf.2⟩⟩
theorem IdK.adv (h : IdK w μ x n B T y s) (e8 : mI μ2 (x + 1) 8 = ((s.1 + 1 : Nat) : Int)) (hi : s.1 < T) (hr : RdS x μ μ2) : IdK w μ2 x n B T y (s.1 + 1, s.2) ∧ IdG x y μ μ2 := h.tp hr.w e8 hi rfl
theorem IdK.lt (h : IdK w μ x n B T y s) {c : Int} (hs : isSg n B (tP n B s.1) c) : s.1 < T := (h.1.lt h.2.2.1.2).1.mp hs.1
theorem c_readInner (w : WC) (d : Nat) {x T y : Nat} {n : Int} {B : Int → Int} {fo op : Int} {D : Nat} {inn : IdR} (hsum : (∀ (μ : Mem) (s : IdS), IdK w μ x n B T y s → mI μ (x + 1) 10 = fo → mI μ (x + 1) 11 = op + 1 → Con w D mX4_readSum 0 0 [vP (some (x + 58)), vI (op + 1)] μ (IdP w x n B T y fo (op + 1) (inn s) μ))) (hD : 2 ≤ D) {μ : Mem} {s : IdS} (h : IdK w μ x n B T y s) (hlt : s.1 < T) (hop : 0 ≤ op ∧ op ≤ 6) (e10 : mI μ (x + 1) 10 = fo) : Con w (D + 1) mX4_readInner 0 0 [vP (some (x + 58)), vI (op + 1)] μ (IdP w x n B T y fo op (idB (inn (s.1 + 1, s.2)) fun s2 => pI (isSg n B (tP n B s2.1) 41) (.inr (s2.1 + 1, s2.2)) (.inl (1, s2.1, op + 1))) μ) := by
  have o58 := h.o58
  have r0 := h.r0
  have r1 := h.2.1.1
  have o1 := h.1.1.o1
  have e8 := h.2.2.1.1
  have hi := h.2.2.1.2
  refine Con.of (by decide) (Nat.le_of_ble_eq_true rfl) rfl ?_
  refine g_aload_n (j := 0) rfl dX4_readInner_0 ?_
  refine g_getR dX4_readInner_1 flX4_9 rfl (by assumption) (kz := 0) rfl (by assumption) ?_
  refine g_iload_n (j := 1) rfl dX4_readInner_4 ?_
  refine g_putI dX4_readInner_5 fpX4_96 rfl rfl rfl (by assumption) (kz := 11) rfl ?_
  have hw1 : PwS x μ (sI μ (x + 1) 11 (op + 1)) := PwS.sI (by omega)
  obtain ⟨h1, hg1⟩ := h.tp (s2 := s) hw1 (by rw [mI_sI, if_neg (by omega)]; exact e8) hi rfl
  have e101 : mI (sI μ (x + 1) 11 (op + 1)) (x + 1) 10 = fo := by rw [mI_sI, if_neg (by omega)]; exact e10
  have e111 : mI (sI μ (x + 1) 11 (op + 1)) (x + 1) 11 = op + 1 := by rw [mI_sI, if_pos ⟨rfl, rfl⟩]
  generalize sI μ (x + 1) 11 (op + 1) = μ1 at *
  have o581 := h1.o58
  have r01 := h1.r0
  have r11 := h1.2.1.1
  have o11 := h1.1.1.o1
  have e81 := h1.2.2.1.1
  have hi1 := h1.2.2.1.2
  refine g_aload_n (j := 0) rfl dX4_readInner_8 ?_
  refine g_getR dX4_readInner_9 flX4_9 rfl (by assumption) (kz := 0) rfl (by assumption) ?_
  refine g_callV dX4_readInner_12 mlX4_51 mvX10_advance (ci := 10) ⟨by decide, rfl⟩ (by assumption) (c_advance w D μ1 h1.1 e81 hlt) sv0 rfl (by omega) (Nat.le_of_ble_eq_true rfl) (Nat.le_refl _) (Nat.le_refl _) (fun v μ2 hR => ?_)
  obtain ⟨rfl, e82, hr2⟩ := hR
  obtain ⟨h2, hg2⟩ := h1.adv e82 hlt hr2
  have e102 := (hr2.2 10 (by omega) (by omega)).trans e101
  have e112 := (hr2.2 11 (by omega) (by omega)).trans e111
  have hg12 := hg1.tr hg2
  have o582 := h2.o58
  refine g_aload_n (j := 0) rfl dX4_readInner_15 ?_
  refine g_iload_n (j := 1) rfl dX4_readInner_16 ?_
  refine g_callV dX4_readInner_17 mlX4_30 mvX4_readSum (ci := 4) ⟨by decide, rfl⟩ (by assumption) (hsum μ2 (s.1 + 1, s.2) h2 e102 e112) sv1 rfl (by omega) (Nat.le_of_ble_eq_true rfl) (Nat.le_refl _) (Nat.le_refl _) (fun v μ3 hR => ?_)
  rcases hr : inn (s.1 + 1, s.2) with e | s3
  · rw [hr] at hR
    obtain ⟨rfl, hE⟩ := hR
    refine g_if_ne (tgt := 25) dX4_readInner_20 (by decide) (by omega) (fun h20 => ?_) (fun h20 => ?_)
    · omega
    · refine g_iconst dX4_readInner_23 ?_
      refine G.retZ dX4_readInner_24 rfl (Or.inl rfl) ?_
      exact ⟨rfl, hg12.E hE⟩
  · rw [hr] at hR
    obtain ⟨rfl, h3, ⟨e103, e113⟩, hg3⟩ := hR
    refine g_if_ne (tgt := 25) dX4_readInner_20 (by decide) (by omega) (fun h20 => ?_) (fun h20 => ?_)
    · have o583 := h3.o58
      have r03 := h3.r0
      have r13 := h3.2.1.1
      have o13 := h3.1.1.o1
      have e83 := h3.2.2.1.1
      have hi3 := h3.2.2.1.2
      refine g_aload_n (j := 0) rfl dX4_readInner_25 ?_
      refine g_getR dX4_readInner_26 flX4_9 rfl (by assumption) (kz := 0) rfl (by assumption) ?_
      refine g_bipush dX4_readInner_29 (by omega) ?_
      refine g_callV dX4_readInner_31 mlX4_34 mvX10_isSign (ci := 10) ⟨by decide, rfl⟩ (by assumption) (c_isSign w D μ3 h3.1 e83 hi3 (c := 41) (by omega)) sv1 rfl (by omega) (Nat.le_of_ble_eq_true rfl) (Nat.le_refl _) (Nat.le_refl _) (fun v μ2 hR => ?_)
      obtain ⟨rfl, hm⟩ := hR
      replace hm := hm.symm
      subst hm
      refine g_ifb_ne (tgt := 46) dX4_readInner_34 (by decide)  (fun h34 => ?_) (fun h34 => ?_)
      · refine g_aload_n (j := 0) rfl dX4_readInner_46 ?_
        refine g_getR dX4_readInner_47 flX4_9 rfl (by assumption) (kz := 0) rfl (by assumption) ?_
        refine g_iload_n (j := 1) rfl dX4_readInner_50 ?_
        refine g_iconst dX4_readInner_51 ?_
        refine g_isub dX4_readInner_52 ?_
        refine g_putI dX4_readInner_53 fpX4_96 rfl rfl rfl (by assumption) (kz := 11) rfl ?_
        have hw4 : PwS x μ3 (sI μ3 (x + 1) 11 (op + 1 - 1)) := PwS.sI (by omega)
        obtain ⟨h4, hg4⟩ := h3.tp (s2 := s3) hw4 (by rw [mI_sI, if_neg (by omega)]; exact e83) hi3 rfl
        have e104 : mI (sI μ3 (x + 1) 11 (op + 1 - 1)) (x + 1) 10 = fo := by rw [mI_sI, if_neg (by omega)]; exact e103
        have e114 : mI (sI μ3 (x + 1) 11 (op + 1 - 1)) (x + 1) 11 = op := by rw [mI_sI, if_pos ⟨rfl, rfl⟩]; omega
        generalize sI μ3 (x + 1) 11 (op + 1 - 1) = μ4 at *
        have o584 := h4.o58
        have r04 := h4.r0
        have r14 := h4.2.1.1
        have o14 := h4.1.1.o1
        have e84 := h4.2.2.1.1
        have hi4 := h4.2.2.1.2
        refine g_aload_n (j := 0) rfl dX4_readInner_56 ?_
        refine g_getR dX4_readInner_57 flX4_9 rfl (by assumption) (kz := 0) rfl (by assumption) ?_
        refine g_callV dX4_readInner_60 mlX4_51 mvX10_advance (ci := 10) ⟨by decide, rfl⟩ (by assumption) (c_advance w D μ4 h4.1 e84 (h4.lt h34)) sv0 rfl (by omega) (Nat.le_of_ble_eq_true rfl) (Nat.le_refl _) (Nat.le_refl _) (fun v μ5 hR => ?_)
        obtain ⟨rfl, e85, hr5⟩ := hR
        obtain ⟨h5, hg5⟩ := h4.adv e85 (h4.lt h34) hr5
        have e105 := (hr5.2 10 (by omega) (by omega)).trans e104
        have e115 := (hr5.2 11 (by omega) (by omega)).trans e114
        refine g_iconst dX4_readInner_63 ?_
        refine G.retZ dX4_readInner_64 rfl (Or.inr rfl) ?_
        unfold idB
        dsimp only
        rw [pI_t h34]
        exact ⟨rfl, h5, ⟨e105, e115⟩, ((hg12.tr hg3).tr hg4).tr hg5⟩
      · refine g_aload_n (j := 0) rfl dX4_readInner_37 ?_
        refine g_getR dX4_readInner_38 flX4_9 rfl (by assumption) (kz := 0) rfl (by assumption) ?_
        refine g_iconst dX4_readInner_41 ?_
        refine g_callV dX4_readInner_42 mlX4_38 mvX10_fail (ci := 10) ⟨by decide, rfl⟩ (by assumption) (c_fail w D μ3 h3.1 e83 hi3 (k := 1) e103 e113) sv1 rfl (by omega) (Nat.le_of_ble_eq_true rfl) (Nat.le_refl _) (Nat.le_refl _) (fun v μ4 hR => ?_)
        obtain ⟨rfl, hE⟩ := hR
        refine G.retZ dX4_readInner_45 rfl (Or.inl rfl) ?_
        unfold idB
        dsimp only
        rw [pI_f h34]
        exact ⟨rfl, (hg12.tr hg3).E hE.w.i⟩
    · omega
theorem ltT_bd (n : Int) (B : Int → Int) (p : Int) : -1 ≤ ltT n B p ∧ ltT n B p ≤ 5 ∧ (¬ ltT n B p = -1 → p < n) := by
  unfold ltT
  by_cases z : p < n ∧ srt (B p) = 2 ∧ en n B p - p = 1 ∧ 97 ≤ B p ∧ B p ≤ 102
  · rw [cI_t z]
    omega
  · rw [cI_f z]
    omega
theorem IcS.p {p p2 : Nat} {L : Int} {ops : List Op} (h : IcS μ y p L ops) (e17 : mI μ2 y 17 = (p2 : Int)) (ey : ∀ j, ¬ j = 17 → mI μ2 y j = mI μ y j) (ea : ∀ a j, ¬ a = y → mI μ2 a j = mI μ a j) : IcS μ2 y p2 L ops := by
  obtain ⟨⟨a, b, c, _⟩, hO, hS⟩ := h
  refine ⟨⟨(ey 13 (by omega)).trans a, (ey 14 (by omega)).trans b, (ey 16 (by omega)).trans c, e17⟩, fun j q hq => ?_, fun k v hv => by rw [ea _ _ (by omega)]; exact hS k v hv⟩
  rw [ea (y + 1) _ (by omega), ea (y + 2) _ (by omega), ea (y + 3) _ (by omega), ea (y + 4) _ (by omega), ea (y + 5) _ (by omega), ea (y + 5) _ (by omega), ea (y + 5) _ (by omega)]
  exact hO j q hq
theorem l_part66_0 {w : WC} {x T y D : Nat} {n : Int} {B : Int → Int} {fo op : Int} {inn : IdR} (hsum : op < 6 → (∀ (μ : Mem) (s : IdS), IdK w μ x n B T y s → mI μ (x + 1) 10 = fo → mI μ (x + 1) 11 = op + 1 → Con w D mX4_readSum 0 0 [vP (some (x + 58)), vI (op + 1)] μ (IdP w x n B T y fo (op + 1) (inn s) μ))) (hD : 2 ≤ D) {μ : Mem} {s : IdS} (h : IdK w μ x n B T y s) (hlt : s.1 < T) (hop : 0 ≤ op ∧ op ≤ 6) (e10 : mI μ (x + 1) 10 = fo) (e11 : mI μ (x + 1) 11 = op) (hc1 : ¬ (¬ isN n B (tP n B s.1) ∧ ltT n B (tP n B s.1) = -1 ∧ ¬ isSg n B (tP n B s.1) 40)) (hc2 : ¬ (isSg n B (tP n B s.1) 40 ∧ 6 ≤ op)) (h40 : ¬ isSg n B (tP n B s.1) 40) : G w (D + 2) mX4_readPart (IdP w x n B T y fo op (idPart n B op inn s) μ) 0 0 66 [some (vP (some (x + 58))), some (vI op), some (vI (ltT n B (tP n B s.1))), some (vI 0)] [] μ := by
  have o58 := h.o58
  have r0 := h.r0
  have r1 := h.2.1.1
  have o1 := h.1.1.o1
  have e8 := h.2.2.1.1
  have hi := h.2.2.1.2
  have oy := h.ido.1
  have e17 := h.2.2.2.1.1.2.2.2
  have hbb := h.2.2.2.2
  have hl6 := ltT_bd n B (tP n B s.1)
  refine g_aload_n (j := 0) rfl dX4_readPart_66 ?_
  refine g_getR dX4_readPart_67 flX4_15 rfl (by assumption) (kz := 1) rfl (by assumption) ?_
  refine g_getI dX4_readPart_70 flX4_84 rfl (by assumption) (kz := 17) rfl ?_
  refine g_bipush dX4_readPart_73 (by omega) ?_
  rw [e17]
  refine g_icmp_lt (tgt := 88) dX4_readPart_75 (by decide) (by omega) (by omega) (fun h75 => ?_) (fun h75 => ?_)
  · refine g_aload_n (j := 0) rfl dX4_readPart_88 ?_
    refine g_getR dX4_readPart_89 flX4_15 rfl (by assumption) (kz := 1) rfl (by assumption) ?_
    refine g_dup rfl dX4_readPart_92 ?_
    refine g_getI dX4_readPart_93 flX4_84 rfl (by assumption) (kz := 17) rfl ?_
    rw [e17]
    refine g_iconst dX4_readPart_96 ?_
    refine g_iadd dX4_readPart_97 ?_
    refine g_putI dX4_readPart_98 fpX4_84 rfl rfl rfl (by assumption) (kz := 17) rfl ?_
    obtain ⟨h1, hg1⟩ := h.id (s2 := (s.1, s.2.1 + 1, s.2.2)) (μ2 := sI μ y 17 ((s.2.1 : Int) + 1)) ⟨Fr.sI (by omega), by rw [mI_sI, if_neg (by omega)]⟩ rfl (IcS.p h.2.2.2.1 (by rw [mI_sI, if_pos ⟨rfl, rfl⟩]; rfl) (fun j hj => by rw [mI_sI, if_neg (by omega)]) (fun a j ha => by rw [mI_sI, if_neg (by omega)])) (by show s.2.1 + 1 ≤ 60 ∧ s.2.2.2.length ≤ 3 * (s.2.1 + 1); omega)
    have e101 : mI (sI μ y 17 ((s.2.1 : Int) + 1)) (x + 1) 10 = fo := by rw [mI_sI, if_neg (by omega)]; exact e10
    have e111 : mI (sI μ y 17 ((s.2.1 : Int) + 1)) (x + 1) 11 = op := by rw [mI_sI, if_neg (by omega)]; exact e11
    generalize sI μ y 17 ((s.2.1 : Int) + 1) = μ1 at *
    have o581 := h1.o58
    have r01 := h1.r0
    have r11 := h1.2.1.1
    have o11 := h1.1.1.o1
    have e81 : mI μ1 (x + 1) 8 = (s.1 : Int) := h1.2.2.1.1
    have hi1 : s.1 ≤ T := h1.2.2.1.2
    have c81 : IcS μ1 y (s.2.1 + 1) s.2.2.1 s.2.2.2 := h1.2.2.2.1
    have hix := ixO_le s.2.2.2
    have oy1 := h1.ido.1
    refine g_iload_n (j := 3) rfl dX4_readPart_101 ?_
    refine g_if_eq (tgt := 113) dX4_readPart_102 (by decide) (by omega) (fun h102 => ?_) (fun h102 => ?_)
    · refine g_iload_n (j := 2) rfl dX4_readPart_113 ?_
      refine g_iconst dX4_readPart_114 ?_
      refine g_icmp_eq (tgt := 129) dX4_readPart_115 (by decide) (by omega) (by omega) (fun h115 => ?_) (fun h115 => ?_)
      · refine g_aload_n (j := 0) rfl dX4_readPart_129 ?_
        refine g_getR dX4_readPart_130 flX4_15 rfl (by assumption) (kz := 1) rfl (by assumption) ?_
        refine g_aload_n (j := 0) rfl dX4_readPart_133 ?_
        refine g_getR dX4_readPart_134 flX4_9 rfl (by assumption) (kz := 0) rfl (by assumption) ?_
        refine g_callV dX4_readPart_137 mlX4_74 mvX10_amount (ci := 10) ⟨by decide, rfl⟩ (by assumption) (c_amount w (D + 1) μ1 (i := s.1) h1.1 e81 hi1) sv0 rfl (by omega) (Nat.le_of_ble_eq_true rfl) (Nat.le_refl _) (Nat.le_refl _) (fun v μ2 hR => ?_)
        obtain ⟨rfl, hm⟩ := hR
        replace hm := hm.symm
        subst hm
        refine g_callV dX4_readPart_140 mlX4_93 mvX3_addNumber (ci := 3) ⟨by decide, rfl⟩ (by assumption) (c_idNumber w D μ1 h1.ido c81 (by omega) (by omega)) sv1 rfl (by omega) (Nat.le_of_ble_eq_true rfl) (Nat.le_refl _) (Nat.le_refl _) (fun v μ3 hR => ?_)
        obtain ⟨rfl, hc, hf⟩ := hR
        obtain ⟨h3, hg3⟩ := h1.id (s2 := (s.1, s.2.1 + 1, s.2.2.1, s.2.2.2 ++ [(0, ka n B (tP n B s.1))])) hf rfl hc (by show s.2.1 + 1 ≤ 60 ∧ (s.2.2.2 ++ [_]).length ≤ 3 * (s.2.1 + 1); rw [List.length_append]; have := h.2.2.2.2; simp; omega)
        have e103 := (hf.1.I h1.1.1.o1.2.1 (by have := h1.yb; omega) 10).trans e101
        have e113 := (hf.1.I h1.1.1.o1.2.1 (by have := h1.yb; omega) 11).trans e111
        have o583 := h3.o58
        have r03 := h3.r0
        have r13 := h3.2.1.1
        have o13 := h3.1.1.o1
        have e83 := h3.2.2.1.1
        have hi3 := h3.2.2.1.2
        have o583 := h3.o58
        refine g_aload_n (j := 0) rfl dX4_readPart_143 ?_
        refine g_getR dX4_readPart_144 flX4_9 rfl (by assumption) (kz := 0) rfl (by assumption) ?_
        refine g_callV dX4_readPart_147 mlX4_51 mvX10_advance (ci := 10) ⟨by decide, rfl⟩ (by assumption) (c_advance w (D + 1) μ3 (i := s.1) h3.1 e83 hlt) sv0 rfl (by omega) (Nat.le_of_ble_eq_true rfl) (Nat.le_refl _) (Nat.le_refl _) (fun v μ4 hR => ?_)
        obtain ⟨rfl, e84, hr4⟩ := hR
        obtain ⟨h4, hg4⟩ := h3.adv e84 hlt hr4
        refine g_iconst dX4_readPart_150 ?_
        refine G.retZ dX4_readPart_151 rfl (Or.inr rfl) ?_
        have er : idPart n B op inn s = .inr (s.1 + 1, s.2.1 + 1, s.2.2.1, s.2.2.2 ++ [(0, ka n B (tP n B s.1))]) := by
          unfold idPart
          rw [pI_f hc1, pI_f hc2, pI_f (by omega), pI_f h40, pI_f (fun z => z h115)]
        rw [er]
        exact ⟨rfl, h4, ⟨(hr4.2 10 (by omega) (by omega)).trans e103, (hr4.2 11 (by omega) (by omega)).trans e113⟩, (hg1.tr hg3).tr hg4⟩
      · refine g_aload_n (j := 0) rfl dX4_readPart_118 ?_
        refine g_getR dX4_readPart_119 flX4_15 rfl (by assumption) (kz := 1) rfl (by assumption) ?_
        refine g_iload_n (j := 2) rfl dX4_readPart_122 ?_
        refine g_callV dX4_readPart_123 mlX4_90 mvX3_addLetter (ci := 3) ⟨by decide, rfl⟩ (by assumption) (c_idLetter w D μ1 h1.ido c81 (by omega) (by omega)) sv1 rfl (by omega) (Nat.le_of_ble_eq_true rfl) (Nat.le_refl _) (Nat.le_refl _) (fun v μ3 hR => ?_)
        obtain ⟨rfl, hc, hf⟩ := hR
        obtain ⟨h3, hg3⟩ := h1.id (s2 := (s.1, s.2.1 + 1, orB s.2.2.1 (shB (ltT n B (tP n B s.1))), s.2.2.2 ++ [(1, ltT n B (tP n B s.1))])) hf rfl hc (by show s.2.1 + 1 ≤ 60 ∧ (s.2.2.2 ++ [_]).length ≤ 3 * (s.2.1 + 1); rw [List.length_append]; have := h.2.2.2.2; simp; omega)
        have e103 := (hf.1.I h1.1.1.o1.2.1 (by have := h1.yb; omega) 10).trans e101
        have e113 := (hf.1.I h1.1.1.o1.2.1 (by have := h1.yb; omega) 11).trans e111
        have o583 := h3.o58
        have r03 := h3.r0
        have r13 := h3.2.1.1
        have o13 := h3.1.1.o1
        have e83 := h3.2.2.1.1
        have hi3 := h3.2.2.1.2
        refine g_goto (tgt := 143) (by decide) dX4_readPart_126 ?_
        have o583 := h3.o58
        refine g_aload_n (j := 0) rfl dX4_readPart_143 ?_
        refine g_getR dX4_readPart_144 flX4_9 rfl (by assumption) (kz := 0) rfl (by assumption) ?_
        refine g_callV dX4_readPart_147 mlX4_51 mvX10_advance (ci := 10) ⟨by decide, rfl⟩ (by assumption) (c_advance w (D + 1) μ3 (i := s.1) h3.1 e83 hlt) sv0 rfl (by omega) (Nat.le_of_ble_eq_true rfl) (Nat.le_refl _) (Nat.le_refl _) (fun v μ4 hR => ?_)
        obtain ⟨rfl, e84, hr4⟩ := hR
        obtain ⟨h4, hg4⟩ := h3.adv e84 hlt hr4
        refine g_iconst dX4_readPart_150 ?_
        refine G.retZ dX4_readPart_151 rfl (Or.inr rfl) ?_
        have er : idPart n B op inn s = .inr (s.1 + 1, s.2.1 + 1, orB s.2.2.1 (shB (ltT n B (tP n B s.1))), s.2.2.2 ++ [(1, ltT n B (tP n B s.1))]) := by
          unfold idPart
          rw [pI_f hc1, pI_f hc2, pI_f (by omega), pI_f h40, pI_t h115]
        rw [er]
        exact ⟨rfl, h4, ⟨(hr4.2 10 (by omega) (by omega)).trans e103, (hr4.2 11 (by omega) (by omega)).trans e113⟩, (hg1.tr hg3).tr hg4⟩
    · omega
  · refine g_aload_n (j := 0) rfl dX4_readPart_78 ?_
    refine g_getR dX4_readPart_79 flX4_9 rfl (by assumption) (kz := 0) rfl (by assumption) ?_
    refine g_bipush dX4_readPart_82 (by omega) ?_
    refine g_callV dX4_readPart_84 mlX4_38 mvX10_fail (ci := 10) ⟨by decide, rfl⟩ (by assumption) (c_fail w (D + 1) μ h.1 e8 hi (k := 12) e10 e11) sv1 rfl (by omega) (Nat.le_of_ble_eq_true rfl) (Nat.le_refl _) (Nat.le_refl _) (fun v μ1 hR => ?_)
    obtain ⟨rfl, hE⟩ := hR
    refine G.retZ dX4_readPart_87 rfl (Or.inl rfl) ?_
    have er : idPart n B op inn s = .inl (12, s.1, op) := by
      unfold idPart
      rw [pI_f hc1, pI_f hc2, pI_t (by omega)]
    rw [er]
    exact ⟨rfl, hE.w.i⟩
theorem l_part66_1 {w : WC} {x T y D : Nat} {n : Int} {B : Int → Int} {fo op : Int} {inn : IdR} (hsum : op < 6 → (∀ (μ : Mem) (s : IdS), IdK w μ x n B T y s → mI μ (x + 1) 10 = fo → mI μ (x + 1) 11 = op + 1 → Con w D mX4_readSum 0 0 [vP (some (x + 58)), vI (op + 1)] μ (IdP w x n B T y fo (op + 1) (inn s) μ))) (hD : 2 ≤ D) {μ : Mem} {s : IdS} (h : IdK w μ x n B T y s) (hlt : s.1 < T) (hop : 0 ≤ op ∧ op ≤ 6) (e10 : mI μ (x + 1) 10 = fo) (e11 : mI μ (x + 1) 11 = op) (hc1 : ¬ (¬ isN n B (tP n B s.1) ∧ ltT n B (tP n B s.1) = -1 ∧ ¬ isSg n B (tP n B s.1) 40)) (hc2 : ¬ (isSg n B (tP n B s.1) 40 ∧ 6 ≤ op)) (h40 : isSg n B (tP n B s.1) 40) : G w (D + 2) mX4_readPart (IdP w x n B T y fo op (idPart n B op inn s) μ) 0 0 66 [some (vP (some (x + 58))), some (vI op), some (vI (ltT n B (tP n B s.1))), some (vI 1)] [] μ := by
  have o58 := h.o58
  have r0 := h.r0
  have r1 := h.2.1.1
  have o1 := h.1.1.o1
  have e8 := h.2.2.1.1
  have hi := h.2.2.1.2
  have oy := h.ido.1
  have e17 := h.2.2.2.1.1.2.2.2
  have hbb := h.2.2.2.2
  have hl6 := ltT_bd n B (tP n B s.1)
  refine g_aload_n (j := 0) rfl dX4_readPart_66 ?_
  refine g_getR dX4_readPart_67 flX4_15 rfl (by assumption) (kz := 1) rfl (by assumption) ?_
  refine g_getI dX4_readPart_70 flX4_84 rfl (by assumption) (kz := 17) rfl ?_
  refine g_bipush dX4_readPart_73 (by omega) ?_
  rw [e17]
  refine g_icmp_lt (tgt := 88) dX4_readPart_75 (by decide) (by omega) (by omega) (fun h75 => ?_) (fun h75 => ?_)
  · refine g_aload_n (j := 0) rfl dX4_readPart_88 ?_
    refine g_getR dX4_readPart_89 flX4_15 rfl (by assumption) (kz := 1) rfl (by assumption) ?_
    refine g_dup rfl dX4_readPart_92 ?_
    refine g_getI dX4_readPart_93 flX4_84 rfl (by assumption) (kz := 17) rfl ?_
    rw [e17]
    refine g_iconst dX4_readPart_96 ?_
    refine g_iadd dX4_readPart_97 ?_
    refine g_putI dX4_readPart_98 fpX4_84 rfl rfl rfl (by assumption) (kz := 17) rfl ?_
    obtain ⟨h1, hg1⟩ := h.id (s2 := (s.1, s.2.1 + 1, s.2.2)) (μ2 := sI μ y 17 ((s.2.1 : Int) + 1)) ⟨Fr.sI (by omega), by rw [mI_sI, if_neg (by omega)]⟩ rfl (IcS.p h.2.2.2.1 (by rw [mI_sI, if_pos ⟨rfl, rfl⟩]; rfl) (fun j hj => by rw [mI_sI, if_neg (by omega)]) (fun a j ha => by rw [mI_sI, if_neg (by omega)])) (by show s.2.1 + 1 ≤ 60 ∧ s.2.2.2.length ≤ 3 * (s.2.1 + 1); omega)
    have e101 : mI (sI μ y 17 ((s.2.1 : Int) + 1)) (x + 1) 10 = fo := by rw [mI_sI, if_neg (by omega)]; exact e10
    have e111 : mI (sI μ y 17 ((s.2.1 : Int) + 1)) (x + 1) 11 = op := by rw [mI_sI, if_neg (by omega)]; exact e11
    generalize sI μ y 17 ((s.2.1 : Int) + 1) = μ1 at *
    have o581 := h1.o58
    have r01 := h1.r0
    have r11 := h1.2.1.1
    have o11 := h1.1.1.o1
    have e81 : mI μ1 (x + 1) 8 = (s.1 : Int) := h1.2.2.1.1
    have hi1 : s.1 ≤ T := h1.2.2.1.2
    have c81 : IcS μ1 y (s.2.1 + 1) s.2.2.1 s.2.2.2 := h1.2.2.2.1
    have hix := ixO_le s.2.2.2
    have oy1 := h1.ido.1
    refine g_iload_n (j := 3) rfl dX4_readPart_101 ?_
    refine g_if_eq (tgt := 113) dX4_readPart_102 (by decide) (by omega) (fun h102 => ?_) (fun h102 => ?_)
    · omega
    · refine g_aload_n (j := 0) rfl dX4_readPart_105 ?_
      refine g_iload_n (j := 1) rfl dX4_readPart_106 ?_
      refine g_iconst dX4_readPart_107 ?_
      refine g_iadd dX4_readPart_108 ?_
      refine g_callV dX4_readPart_109 mlX4_87 mvX4_readInner (ci := 4) ⟨by decide, rfl⟩ (by assumption) (c_readInner w 0 (D := D) (inn := inn) (hsum (Int.not_le.mp fun z => hc2 ⟨h40, z⟩)) hD h1 (h1.lt h40) hop e101) sv1 rfl (by omega) (Nat.le_of_ble_eq_true rfl) (Nat.le_refl _) (Nat.le_refl _) (fun v μ2 hR => ?_)
      have hdum := trivial
      have er : idPart n B op inn s = idB (inn (s.1 + 1, s.2.1 + 1, s.2.2)) fun s2 => pI (isSg n B (tP n B s2.1) 41) (.inr (s2.1 + 1, s2.2)) (.inl (1, s2.1, op + 1)) := by
        unfold idPart
        rw [pI_f hc1, pI_f hc2, pI_f (by omega), pI_t h40]
      rw [← er] at hR
      rcases hr : idPart n B op inn s with e | s3
      · rw [hr] at hR
        obtain ⟨rfl, hE⟩ := hR
        exact G.retZ dX4_readPart_112 rfl (Or.inl rfl) ⟨rfl, hg1.E hE⟩
      · rw [hr] at hR
        obtain ⟨rfl, h3, he, hg3⟩ := hR
        exact G.retZ dX4_readPart_112 rfl (Or.inr rfl) ⟨rfl, h3, he, hg1.tr hg3⟩
  · refine g_aload_n (j := 0) rfl dX4_readPart_78 ?_
    refine g_getR dX4_readPart_79 flX4_9 rfl (by assumption) (kz := 0) rfl (by assumption) ?_
    refine g_bipush dX4_readPart_82 (by omega) ?_
    refine g_callV dX4_readPart_84 mlX4_38 mvX10_fail (ci := 10) ⟨by decide, rfl⟩ (by assumption) (c_fail w (D + 1) μ h.1 e8 hi (k := 12) e10 e11) sv1 rfl (by omega) (Nat.le_of_ble_eq_true rfl) (Nat.le_refl _) (Nat.le_refl _) (fun v μ1 hR => ?_)
    obtain ⟨rfl, hE⟩ := hR
    refine G.retZ dX4_readPart_87 rfl (Or.inl rfl) ?_
    have er : idPart n B op inn s = .inl (12, s.1, op) := by
      unfold idPart
      rw [pI_f hc1, pI_f hc2, pI_t (by omega)]
    rw [er]
    exact ⟨rfl, hE.w.i⟩
theorem c_X4_readPart (w : WC) {x T y D : Nat} {n : Int} {B : Int → Int} {fo op : Int} {inn : IdR} (hsum : op < 6 → (∀ (μ : Mem) (s : IdS), IdK w μ x n B T y s → mI μ (x + 1) 10 = fo → mI μ (x + 1) 11 = op + 1 → Con w D mX4_readSum 0 0 [vP (some (x + 58)), vI (op + 1)] μ (IdP w x n B T y fo (op + 1) (inn s) μ))) (hD : 2 ≤ D) (hop : 0 ≤ op ∧ op ≤ 6) (μ : Mem) (s : IdS) (h : IdK w μ x n B T y s) (e10 : mI μ (x + 1) 10 = fo) (e11 : mI μ (x + 1) 11 = op) : Con w (D + 2) mX4_readPart 0 0 [vP (some (x + 58)), vI op] μ (IdP w x n B T y fo op (idPart n B op inn s) μ) := by
  have o58 := h.o58
  have r0 := h.r0
  have r1 := h.2.1.1
  have o1 := h.1.1.o1
  have e8 := h.2.2.1.1
  have hi := h.2.2.1.2
  have oy := h.ido.1
  have e17 := h.2.2.2.1.1.2.2.2
  have hbb := h.2.2.2.2
  have hl6 := ltT_bd n B (tP n B s.1)
  refine Con.of (by decide) (Nat.le_of_ble_eq_true rfl) rfl ?_
  rcases Classical.em (isSg n B (tP n B s.1) 40) with h40 | h40
  · refine g_aload_n (j := 0) rfl dX4_readPart_0 ?_
    refine g_getR dX4_readPart_1 flX4_9 rfl (by assumption) (kz := 0) rfl (by assumption) ?_
    refine g_callV dX4_readPart_4 mlX4_81 mvX10_letterThere (ci := 10) ⟨by decide, rfl⟩ (by assumption) (c_letterThere w (D + 1) μ h.1 e8 hi) sv0 rfl (by omega) (Nat.le_of_ble_eq_true rfl) (Nat.le_refl _) (Nat.le_refl _) (fun v μ2 hR => ?_)
    obtain ⟨rfl, hm⟩ := hR
    replace hm := hm.symm
    subst hm
    refine g_istore_n (j := 2) dX4_readPart_7 (by decide) rfl ls2 ?_
    refine g_aload_n (j := 0) rfl dX4_readPart_8 ?_
    refine g_getR dX4_readPart_9 flX4_9 rfl (by assumption) (kz := 0) rfl (by assumption) ?_
    refine g_bipush dX4_readPart_12 (by omega) ?_
    refine g_callV dX4_readPart_14 mlX4_34 mvX10_isSign (ci := 10) ⟨by decide, rfl⟩ (by assumption) (c_isSign w (D + 1) μ h.1 e8 hi (c := 40) (by omega)) sv1 rfl (by omega) (Nat.le_of_ble_eq_true rfl) (Nat.le_refl _) (Nat.le_refl _) (fun v μ2 hR => ?_)
    obtain ⟨rfl, hm⟩ := hR
    replace hm := hm.symm
    subst hm
    rw [show bI (isSg n B (tP n B s.1) 40) = 1 from bI_is1.mpr h40]
    refine g_istore_n (j := 3) dX4_readPart_17 (by decide) rfl ls3 ?_
    refine g_aload_n (j := 0) rfl dX4_readPart_18 ?_
    refine g_getR dX4_readPart_19 flX4_9 rfl (by assumption) (kz := 0) rfl (by assumption) ?_
    refine g_callV dX4_readPart_22 mlX4_71 mvX10_isN (ci := 10) ⟨by decide, rfl⟩ (by assumption) (c_isN w (D + 1) μ h.1 e8 hi) sv0 rfl (by omega) (Nat.le_of_ble_eq_true rfl) (Nat.le_refl _) (Nat.le_refl _) (fun v μ2 hR => ?_)
    obtain ⟨rfl, hm⟩ := hR
    replace hm := hm.symm
    subst hm
    refine g_ifb_ne (tgt := 46) dX4_readPart_25 (by decide)  (fun h25 => ?_) (fun h25 => ?_)
    · refine g_iload_n (j := 3) rfl dX4_readPart_46 ?_
      refine g_if_eq (tgt := 66) dX4_readPart_47 (by decide) (by omega) (fun h47 => ?_) (fun h47 => ?_)
      · first
        | (exfalso; omega)
        | exact l_part66_1 (D := D) hsum hD h (by first | exact h.lt h40 | exact (h.1.lt hi).1.mp h25.1 | exact (h.1.lt hi).1.mp (hl6.2.2 (by omega))) hop e10 e11 (fun z => by first | exact z.2.2 h40 | exact z.1 h25 | exact absurd z.2.1 (by omega)) (fun z => by first | exact absurd z.1 h40 | omega) h40
      · refine g_iload_n (j := 1) rfl dX4_readPart_50 ?_
        refine g_bipush dX4_readPart_51 (by omega) ?_
        refine g_icmp_lt (tgt := 66) dX4_readPart_53 (by decide) (by omega) (by omega) (fun h53 => ?_) (fun h53 => ?_)
        · first
          | (exfalso; omega)
          | exact l_part66_1 (D := D) hsum hD h (by first | exact h.lt h40 | exact (h.1.lt hi).1.mp h25.1 | exact (h.1.lt hi).1.mp (hl6.2.2 (by omega))) hop e10 e11 (fun z => by first | exact z.2.2 h40 | exact z.1 h25 | exact absurd z.2.1 (by omega)) (fun z => by first | exact absurd z.1 h40 | omega) h40
        · refine g_aload_n (j := 0) rfl dX4_readPart_56 ?_
          refine g_getR dX4_readPart_57 flX4_9 rfl (by assumption) (kz := 0) rfl (by assumption) ?_
          refine g_bipush dX4_readPart_60 (by omega) ?_
          refine g_callV dX4_readPart_62 mlX4_38 mvX10_fail (ci := 10) ⟨by decide, rfl⟩ (by assumption) (c_fail w (D + 1) μ h.1 e8 hi (k := 11) e10 e11) sv1 rfl (by omega) (Nat.le_of_ble_eq_true rfl) (Nat.le_refl _) (Nat.le_refl _) (fun v μ1 hR => ?_)
          obtain ⟨rfl, hE⟩ := hR
          first
          | (exfalso; omega)
          | (refine G.retZ dX4_readPart_65 rfl (Or.inl rfl) ?_
             have er : idPart n B op inn s = .inl (11, s.1, op) := by
               unfold idPart
               rw [pI_f (fun z => z.2.2 h40), pI_t ⟨h40, by omega⟩]
             rw [er]
             exact ⟨rfl, hE.w.i⟩)
    · refine g_iload_n (j := 2) rfl dX4_readPart_28 ?_
      refine g_iconst dX4_readPart_29 ?_
      refine g_icmp_ne (tgt := 46) dX4_readPart_30 (by decide) (by omega) (by omega) (fun h30 => ?_) (fun h30 => ?_)
      · refine g_iload_n (j := 3) rfl dX4_readPart_46 ?_
        refine g_if_eq (tgt := 66) dX4_readPart_47 (by decide) (by omega) (fun h47 => ?_) (fun h47 => ?_)
        · first
          | (exfalso; omega)
          | exact l_part66_1 (D := D) hsum hD h (by first | exact h.lt h40 | exact (h.1.lt hi).1.mp h25.1 | exact (h.1.lt hi).1.mp (hl6.2.2 (by omega))) hop e10 e11 (fun z => by first | exact z.2.2 h40 | exact z.1 h25 | exact absurd z.2.1 (by omega)) (fun z => by first | exact absurd z.1 h40 | omega) h40
        · refine g_iload_n (j := 1) rfl dX4_readPart_50 ?_
          refine g_bipush dX4_readPart_51 (by omega) ?_
          refine g_icmp_lt (tgt := 66) dX4_readPart_53 (by decide) (by omega) (by omega) (fun h53 => ?_) (fun h53 => ?_)
          · first
            | (exfalso; omega)
            | exact l_part66_1 (D := D) hsum hD h (by first | exact h.lt h40 | exact (h.1.lt hi).1.mp h25.1 | exact (h.1.lt hi).1.mp (hl6.2.2 (by omega))) hop e10 e11 (fun z => by first | exact z.2.2 h40 | exact z.1 h25 | exact absurd z.2.1 (by omega)) (fun z => by first | exact absurd z.1 h40 | omega) h40
          · refine g_aload_n (j := 0) rfl dX4_readPart_56 ?_
            refine g_getR dX4_readPart_57 flX4_9 rfl (by assumption) (kz := 0) rfl (by assumption) ?_
            refine g_bipush dX4_readPart_60 (by omega) ?_
            refine g_callV dX4_readPart_62 mlX4_38 mvX10_fail (ci := 10) ⟨by decide, rfl⟩ (by assumption) (c_fail w (D + 1) μ h.1 e8 hi (k := 11) e10 e11) sv1 rfl (by omega) (Nat.le_of_ble_eq_true rfl) (Nat.le_refl _) (Nat.le_refl _) (fun v μ1 hR => ?_)
            obtain ⟨rfl, hE⟩ := hR
            first
            | (exfalso; omega)
            | (refine G.retZ dX4_readPart_65 rfl (Or.inl rfl) ?_
               have er : idPart n B op inn s = .inl (11, s.1, op) := by
                 unfold idPart
                 rw [pI_f (fun z => z.2.2 h40), pI_t ⟨h40, by omega⟩]
               rw [er]
               exact ⟨rfl, hE.w.i⟩)
      · refine g_iload_n (j := 3) rfl dX4_readPart_33 ?_
        refine g_if_ne (tgt := 46) dX4_readPart_34 (by decide) (by omega) (fun h34 => ?_) (fun h34 => ?_)
        · refine g_iload_n (j := 3) rfl dX4_readPart_46 ?_
          refine g_if_eq (tgt := 66) dX4_readPart_47 (by decide) (by omega) (fun h47 => ?_) (fun h47 => ?_)
          · first
            | (exfalso; omega)
            | exact l_part66_1 (D := D) hsum hD h (by first | exact h.lt h40 | exact (h.1.lt hi).1.mp h25.1 | exact (h.1.lt hi).1.mp (hl6.2.2 (by omega))) hop e10 e11 (fun z => by first | exact z.2.2 h40 | exact z.1 h25 | exact absurd z.2.1 (by omega)) (fun z => by first | exact absurd z.1 h40 | omega) h40
          · refine g_iload_n (j := 1) rfl dX4_readPart_50 ?_
            refine g_bipush dX4_readPart_51 (by omega) ?_
            refine g_icmp_lt (tgt := 66) dX4_readPart_53 (by decide) (by omega) (by omega) (fun h53 => ?_) (fun h53 => ?_)
            · first
              | (exfalso; omega)
              | exact l_part66_1 (D := D) hsum hD h (by first | exact h.lt h40 | exact (h.1.lt hi).1.mp h25.1 | exact (h.1.lt hi).1.mp (hl6.2.2 (by omega))) hop e10 e11 (fun z => by first | exact z.2.2 h40 | exact z.1 h25 | exact absurd z.2.1 (by omega)) (fun z => by first | exact absurd z.1 h40 | omega) h40
            · refine g_aload_n (j := 0) rfl dX4_readPart_56 ?_
              refine g_getR dX4_readPart_57 flX4_9 rfl (by assumption) (kz := 0) rfl (by assumption) ?_
              refine g_bipush dX4_readPart_60 (by omega) ?_
              refine g_callV dX4_readPart_62 mlX4_38 mvX10_fail (ci := 10) ⟨by decide, rfl⟩ (by assumption) (c_fail w (D + 1) μ h.1 e8 hi (k := 11) e10 e11) sv1 rfl (by omega) (Nat.le_of_ble_eq_true rfl) (Nat.le_refl _) (Nat.le_refl _) (fun v μ1 hR => ?_)
              obtain ⟨rfl, hE⟩ := hR
              first
              | (exfalso; omega)
              | (refine G.retZ dX4_readPart_65 rfl (Or.inl rfl) ?_
                 have er : idPart n B op inn s = .inl (11, s.1, op) := by
                   unfold idPart
                   rw [pI_f (fun z => z.2.2 h40), pI_t ⟨h40, by omega⟩]
                 rw [er]
                 exact ⟨rfl, hE.w.i⟩)
        · refine g_aload_n (j := 0) rfl dX4_readPart_37 ?_
          refine g_getR dX4_readPart_38 flX4_9 rfl (by assumption) (kz := 0) rfl (by assumption) ?_
          refine g_iconst dX4_readPart_41 ?_
          refine g_callV dX4_readPart_42 mlX4_38 mvX10_fail (ci := 10) ⟨by decide, rfl⟩ (by assumption) (c_fail w (D + 1) μ h.1 e8 hi (k := 1) e10 e11) sv1 rfl (by omega) (Nat.le_of_ble_eq_true rfl) (Nat.le_refl _) (Nat.le_refl _) (fun v μ1 hR => ?_)
          obtain ⟨rfl, hE⟩ := hR
          first
          | (exfalso; omega)
          | (refine G.retZ dX4_readPart_45 rfl (Or.inl rfl) ?_
             have er : idPart n B op inn s = .inl (1, s.1, op) := by
               unfold idPart
               rw [pI_t ⟨h25, by omega, h40⟩]
             rw [er]
             exact ⟨rfl, hE.w.i⟩)
  · refine g_aload_n (j := 0) rfl dX4_readPart_0 ?_
    refine g_getR dX4_readPart_1 flX4_9 rfl (by assumption) (kz := 0) rfl (by assumption) ?_
    refine g_callV dX4_readPart_4 mlX4_81 mvX10_letterThere (ci := 10) ⟨by decide, rfl⟩ (by assumption) (c_letterThere w (D + 1) μ h.1 e8 hi) sv0 rfl (by omega) (Nat.le_of_ble_eq_true rfl) (Nat.le_refl _) (Nat.le_refl _) (fun v μ2 hR => ?_)
    obtain ⟨rfl, hm⟩ := hR
    replace hm := hm.symm
    subst hm
    refine g_istore_n (j := 2) dX4_readPart_7 (by decide) rfl ls2 ?_
    refine g_aload_n (j := 0) rfl dX4_readPart_8 ?_
    refine g_getR dX4_readPart_9 flX4_9 rfl (by assumption) (kz := 0) rfl (by assumption) ?_
    refine g_bipush dX4_readPart_12 (by omega) ?_
    refine g_callV dX4_readPart_14 mlX4_34 mvX10_isSign (ci := 10) ⟨by decide, rfl⟩ (by assumption) (c_isSign w (D + 1) μ h.1 e8 hi (c := 40) (by omega)) sv1 rfl (by omega) (Nat.le_of_ble_eq_true rfl) (Nat.le_refl _) (Nat.le_refl _) (fun v μ2 hR => ?_)
    obtain ⟨rfl, hm⟩ := hR
    replace hm := hm.symm
    subst hm
    rw [show bI (isSg n B (tP n B s.1) 40) = 0 from bI_is0.mpr h40]
    refine g_istore_n (j := 3) dX4_readPart_17 (by decide) rfl ls3 ?_
    refine g_aload_n (j := 0) rfl dX4_readPart_18 ?_
    refine g_getR dX4_readPart_19 flX4_9 rfl (by assumption) (kz := 0) rfl (by assumption) ?_
    refine g_callV dX4_readPart_22 mlX4_71 mvX10_isN (ci := 10) ⟨by decide, rfl⟩ (by assumption) (c_isN w (D + 1) μ h.1 e8 hi) sv0 rfl (by omega) (Nat.le_of_ble_eq_true rfl) (Nat.le_refl _) (Nat.le_refl _) (fun v μ2 hR => ?_)
    obtain ⟨rfl, hm⟩ := hR
    replace hm := hm.symm
    subst hm
    refine g_ifb_ne (tgt := 46) dX4_readPart_25 (by decide)  (fun h25 => ?_) (fun h25 => ?_)
    · refine g_iload_n (j := 3) rfl dX4_readPart_46 ?_
      refine g_if_eq (tgt := 66) dX4_readPart_47 (by decide) (by omega) (fun h47 => ?_) (fun h47 => ?_)
      · first
        | (exfalso; omega)
        | exact l_part66_0 (D := D) hsum hD h (by first | exact h.lt h40 | exact (h.1.lt hi).1.mp h25.1 | exact (h.1.lt hi).1.mp (hl6.2.2 (by omega))) hop e10 e11 (fun z => by first | exact z.2.2 h40 | exact z.1 h25 | exact absurd z.2.1 (by omega)) (fun z => by first | exact absurd z.1 h40 | omega) h40
      · refine g_iload_n (j := 1) rfl dX4_readPart_50 ?_
        refine g_bipush dX4_readPart_51 (by omega) ?_
        refine g_icmp_lt (tgt := 66) dX4_readPart_53 (by decide) (by omega) (by omega) (fun h53 => ?_) (fun h53 => ?_)
        · first
          | (exfalso; omega)
          | exact l_part66_0 (D := D) hsum hD h (by first | exact h.lt h40 | exact (h.1.lt hi).1.mp h25.1 | exact (h.1.lt hi).1.mp (hl6.2.2 (by omega))) hop e10 e11 (fun z => by first | exact z.2.2 h40 | exact z.1 h25 | exact absurd z.2.1 (by omega)) (fun z => by first | exact absurd z.1 h40 | omega) h40
        · refine g_aload_n (j := 0) rfl dX4_readPart_56 ?_
          refine g_getR dX4_readPart_57 flX4_9 rfl (by assumption) (kz := 0) rfl (by assumption) ?_
          refine g_bipush dX4_readPart_60 (by omega) ?_
          refine g_callV dX4_readPart_62 mlX4_38 mvX10_fail (ci := 10) ⟨by decide, rfl⟩ (by assumption) (c_fail w (D + 1) μ h.1 e8 hi (k := 11) e10 e11) sv1 rfl (by omega) (Nat.le_of_ble_eq_true rfl) (Nat.le_refl _) (Nat.le_refl _) (fun v μ1 hR => ?_)
          obtain ⟨rfl, hE⟩ := hR
          first
          | (exfalso; omega)
          | (refine G.retZ dX4_readPart_65 rfl (Or.inl rfl) ?_
             have er : idPart n B op inn s = .inl (11, s.1, op) := by
               unfold idPart
               rw [pI_f (fun z => z.2.2 h40), pI_t ⟨h40, by omega⟩]
             rw [er]
             exact ⟨rfl, hE.w.i⟩)
    · refine g_iload_n (j := 2) rfl dX4_readPart_28 ?_
      refine g_iconst dX4_readPart_29 ?_
      refine g_icmp_ne (tgt := 46) dX4_readPart_30 (by decide) (by omega) (by omega) (fun h30 => ?_) (fun h30 => ?_)
      · refine g_iload_n (j := 3) rfl dX4_readPart_46 ?_
        refine g_if_eq (tgt := 66) dX4_readPart_47 (by decide) (by omega) (fun h47 => ?_) (fun h47 => ?_)
        · first
          | (exfalso; omega)
          | exact l_part66_0 (D := D) hsum hD h (by first | exact h.lt h40 | exact (h.1.lt hi).1.mp h25.1 | exact (h.1.lt hi).1.mp (hl6.2.2 (by omega))) hop e10 e11 (fun z => by first | exact z.2.2 h40 | exact z.1 h25 | exact absurd z.2.1 (by omega)) (fun z => by first | exact absurd z.1 h40 | omega) h40
        · refine g_iload_n (j := 1) rfl dX4_readPart_50 ?_
          refine g_bipush dX4_readPart_51 (by omega) ?_
          refine g_icmp_lt (tgt := 66) dX4_readPart_53 (by decide) (by omega) (by omega) (fun h53 => ?_) (fun h53 => ?_)
          · first
            | (exfalso; omega)
            | exact l_part66_0 (D := D) hsum hD h (by first | exact h.lt h40 | exact (h.1.lt hi).1.mp h25.1 | exact (h.1.lt hi).1.mp (hl6.2.2 (by omega))) hop e10 e11 (fun z => by first | exact z.2.2 h40 | exact z.1 h25 | exact absurd z.2.1 (by omega)) (fun z => by first | exact absurd z.1 h40 | omega) h40
          · refine g_aload_n (j := 0) rfl dX4_readPart_56 ?_
            refine g_getR dX4_readPart_57 flX4_9 rfl (by assumption) (kz := 0) rfl (by assumption) ?_
            refine g_bipush dX4_readPart_60 (by omega) ?_
            refine g_callV dX4_readPart_62 mlX4_38 mvX10_fail (ci := 10) ⟨by decide, rfl⟩ (by assumption) (c_fail w (D + 1) μ h.1 e8 hi (k := 11) e10 e11) sv1 rfl (by omega) (Nat.le_of_ble_eq_true rfl) (Nat.le_refl _) (Nat.le_refl _) (fun v μ1 hR => ?_)
            obtain ⟨rfl, hE⟩ := hR
            first
            | (exfalso; omega)
            | (refine G.retZ dX4_readPart_65 rfl (Or.inl rfl) ?_
               have er : idPart n B op inn s = .inl (11, s.1, op) := by
                 unfold idPart
                 rw [pI_f (fun z => z.2.2 h40), pI_t ⟨h40, by omega⟩]
               rw [er]
               exact ⟨rfl, hE.w.i⟩)
      · refine g_iload_n (j := 3) rfl dX4_readPart_33 ?_
        refine g_if_ne (tgt := 46) dX4_readPart_34 (by decide) (by omega) (fun h34 => ?_) (fun h34 => ?_)
        · refine g_iload_n (j := 3) rfl dX4_readPart_46 ?_
          refine g_if_eq (tgt := 66) dX4_readPart_47 (by decide) (by omega) (fun h47 => ?_) (fun h47 => ?_)
          · first
            | (exfalso; omega)
            | exact l_part66_0 (D := D) hsum hD h (by first | exact h.lt h40 | exact (h.1.lt hi).1.mp h25.1 | exact (h.1.lt hi).1.mp (hl6.2.2 (by omega))) hop e10 e11 (fun z => by first | exact z.2.2 h40 | exact z.1 h25 | exact absurd z.2.1 (by omega)) (fun z => by first | exact absurd z.1 h40 | omega) h40
          · refine g_iload_n (j := 1) rfl dX4_readPart_50 ?_
            refine g_bipush dX4_readPart_51 (by omega) ?_
            refine g_icmp_lt (tgt := 66) dX4_readPart_53 (by decide) (by omega) (by omega) (fun h53 => ?_) (fun h53 => ?_)
            · first
              | (exfalso; omega)
              | exact l_part66_0 (D := D) hsum hD h (by first | exact h.lt h40 | exact (h.1.lt hi).1.mp h25.1 | exact (h.1.lt hi).1.mp (hl6.2.2 (by omega))) hop e10 e11 (fun z => by first | exact z.2.2 h40 | exact z.1 h25 | exact absurd z.2.1 (by omega)) (fun z => by first | exact absurd z.1 h40 | omega) h40
            · refine g_aload_n (j := 0) rfl dX4_readPart_56 ?_
              refine g_getR dX4_readPart_57 flX4_9 rfl (by assumption) (kz := 0) rfl (by assumption) ?_
              refine g_bipush dX4_readPart_60 (by omega) ?_
              refine g_callV dX4_readPart_62 mlX4_38 mvX10_fail (ci := 10) ⟨by decide, rfl⟩ (by assumption) (c_fail w (D + 1) μ h.1 e8 hi (k := 11) e10 e11) sv1 rfl (by omega) (Nat.le_of_ble_eq_true rfl) (Nat.le_refl _) (Nat.le_refl _) (fun v μ1 hR => ?_)
              obtain ⟨rfl, hE⟩ := hR
              first
              | (exfalso; omega)
              | (refine G.retZ dX4_readPart_65 rfl (Or.inl rfl) ?_
                 have er : idPart n B op inn s = .inl (11, s.1, op) := by
                   unfold idPart
                   rw [pI_f (fun z => z.2.2 h40), pI_t ⟨h40, by omega⟩]
                 rw [er]
                 exact ⟨rfl, hE.w.i⟩)
        · refine g_aload_n (j := 0) rfl dX4_readPart_37 ?_
          refine g_getR dX4_readPart_38 flX4_9 rfl (by assumption) (kz := 0) rfl (by assumption) ?_
          refine g_iconst dX4_readPart_41 ?_
          refine g_callV dX4_readPart_42 mlX4_38 mvX10_fail (ci := 10) ⟨by decide, rfl⟩ (by assumption) (c_fail w (D + 1) μ h.1 e8 hi (k := 1) e10 e11) sv1 rfl (by omega) (Nat.le_of_ble_eq_true rfl) (Nat.le_refl _) (Nat.le_refl _) (fun v μ1 hR => ?_)
          obtain ⟨rfl, hE⟩ := hR
          first
          | (exfalso; omega)
          | (refine G.retZ dX4_readPart_45 rfl (Or.inl rfl) ?_
             have er : idPart n B op inn s = .inl (1, s.1, op) := by
               unfold idPart
               rw [pI_t ⟨h25, by omega, h40⟩]
             rw [er]
             exact ⟨rfl, hE.w.i⟩)
end IK
