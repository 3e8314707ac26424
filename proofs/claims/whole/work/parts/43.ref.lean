/-! THE REFERENCE: FORMS AND COUNTING -/
def MA (w : WC) (μ : Mem) (m : Nat) (F : Int → List Tm) : Prop := MoS w μ m ∧ (∀ s, 0 ≤ s ∧ s ≤ 3 → MFI μ m s (F s)) ∧ ((-1 ≤ mI μ m 21 ∧ mI μ m 21 ≤ 3) ∧ (0 ≤ mI μ m 21 → LaidOk (mL μ (m + 4)) (F (mI μ m 21)))) ∧ ((-1 ≤ mI μ m 23 ∧ mI μ m 23 ≤ 3) ∧ (0 ≤ mI μ m 23 → ∀ n, -3000 ≤ n → n ≤ 3000 → mL μ (m + 5) (n + 3000) = uw (F (mI μ m 23)) n))
/-- what changes of the reference: its own ints J, the rows P -/
def FrM (m : Nat) (P : Nat → Prop) (J : Int → Prop) (μ μ2 : Mem) : Prop := Fr (fun a => a = m ∨ P a) (fun _ _ => False) μ μ2 ∧ (∀ j, ¬ J j → mI μ2 m j = mI μ m j) ∧ ∀ j, mL μ2 m j = mL μ m j
section FM
variable {w : WC} {d m : Nat} {P P2 : Nat → Prop} {J J2 : Int → Prop} {μ μ2 μ3 : Mem} {F : Int → List Tm}
theorem FrM.rf : FrM m P J μ μ := ⟨Fr.rf, fun _ _ => rfl, fun _ => rfl⟩
theorem FrM.tr (h : FrM m P J μ μ2) (h2 : FrM m P J μ2 μ3) : FrM m P J μ μ3 := ⟨h.1.tr h2.1, fun j hj => (h2.2.1 j hj).trans (h.2.1 j hj), fun j => (h2.2.2 j).trans (h.2.2 j)⟩
theorem FrM.mono (h : FrM m P J μ μ2) (hP : ∀ a, P a → P2 a) (hJ : ∀ j, J j → J2 j) : FrM m P2 J2 μ μ2 := ⟨h.1.mono (fun _ _ z => z.imp id (hP _)) (fun _ _ _ z => z), fun j hj => h.2.1 j fun z => hj (hJ j z), h.2.2⟩
theorem FrM.sI {j v : Int} (hj : J j) : FrM m P J μ (sI μ m j v) := ⟨Fr.sI (Or.inl rfl), fun i hi => by rw [mI_sI, if_neg (fun z => hi (by rw [z.2]; exact hj))], fun _ => rfl⟩
theorem FrM.wL {a : Nat} {g : Int → Int} (ha : P a) (hm : ¬ a = m) : FrM m P J μ (wL μ a g) := ⟨Fr.wL (Or.inr ha), fun _ _ => rfl, fun j => by rw [mL_wL, if_neg (fun z => hm z.symm)]⟩
theorem FrM.wI {a : Nat} {g : Int → Int} (ha : P a) (hm : ¬ a = m) : FrM m P J μ (wI μ a g) := ⟨Fr.wI (Or.inr ha), fun _ _ => by rw [mI_wI, if_neg (fun z => hm z.symm)], fun _ => rfl⟩
theorem FrM.sIr {a : Nat} {j v : Int} (ha : P a) (hm : ¬ a = m) : FrM m P J μ (_root_.Jvm.Pilot.CToldPowersLaw_law_r3284_2a4c2b.sI μ a j v) := by
  rw [sI_w]
  exact FrM.wI ha hm
theorem FrM.sLr {a : Nat} {j v : Int} (ha : P a) (hm : ¬ a = m) : FrM m P J μ (sL μ a j v) := by
  rw [sL_w]
  exact FrM.wL ha hm
theorem FrM.Mo (h : FrM m P J μ μ2) (hM : MoS w μ m) : MoS w μ2 m := by
  have e : ∀ j, mR μ2 m j = mR μ m j := fun j => h.1.R hM.o.2.1 (fun z => z)
  obtain ⟨o, r, a1, a2, a3, a4, a5, a6, a7, a8, a9, a10, a11, a12, a13, a14, a15, a16, a17, a18, a19, a20⟩ := hM
  exact ⟨h.1.O o, by simp only [e]; exact r, h.1.A a1, h.1.A a2, h.1.A a3, h.1.A a4, h.1.A a5, h.1.A a6, h.1.A a7, h.1.A a8, h.1.A a9, h.1.A a10, h.1.A a11, h.1.A a12, h.1.A a13, h.1.A a14, h.1.A a15, h.1.A a16, h.1.A a17, h.1.A a18, h.1.A a19, h.1.A a20⟩
/-- forms and layers are left -/
theorem FrM.MA (h : FrM m P J μ μ2) (hA : MA w μ m F) (hP : ¬ P (m + 1) ∧ ¬ P (m + 2) ∧ ¬ P (m + 4) ∧ ¬ P (m + 5)) (hJ : ¬ J 21 ∧ ¬ J 23) : MA w μ2 m F := by
  obtain ⟨hM, hF, ⟨l1, l2⟩, ⟨u1, u2⟩⟩ := hA
  have hM2 := h.Mo hM
  have e1 := h.1.I (x := m + 1) hM.a0.2.1 (fun z => z.elim (fun q => by omega) hP.1)
  have e2 := h.1.I (x := m + 2) hM.a1.2.1 (fun z => z.elim (fun q => by omega) hP.2.1)
  have e4 := h.1.L (x := m + 4) hM.a22.2.1 (fun z => z.elim (fun q => by omega) hP.2.2.1)
  have e5 := h.1.L (x := m + 5) hM.a24.2.1 (fun z => z.elim (fun q => by omega) hP.2.2.2)
  refine ⟨hM2, fun s hs => ?_, ?_, ?_⟩
  · obtain ⟨g1, g2, g3, g4⟩ := hF s hs
    exact ⟨by rw [e1]; exact g1, g2, g3, fun i u hu => by simp only [e2]; exact g4 i u hu⟩
  · rw [h.2.1 21 hJ.1, show mL μ2 (m + 4) = mL μ (m + 4) from funext e4]
    exact ⟨l1, l2⟩
  · rw [h.2.1 23 hJ.2]
    exact ⟨u1, fun z n z1 z2 => by rw [e5]; exact u2 z n z1 z2⟩
theorem MA.o (hA : MA w μ m F) : IsO w μ m 12 := hA.1.o
theorem MA.ok (hA : MA w μ m F) {s : Int} (hs : 0 ≤ s ∧ s ≤ 3) : ∀ u ∈ F s, TOk u := (hA.2.1 s hs).2.2.1
theorem MA.l5 (hA : MA w μ m F) {s : Int} (hs : 0 ≤ s ∧ s ≤ 3) : (F s).length ≤ 5 := (hA.2.1 s hs).2.1
/-- lays -/
theorem c_X12_lays (w : WC) (d : Nat) (μ : Mem) (hA : MA w μ m F) {s : Int} (hs : 0 ≤ s ∧ s ≤ 3) : Con w (d + 4) mX12_lays 0 0 [vP (some m), vI s] μ (fun v μ2 => v = none ∧ MA w μ2 m F ∧ LaidOk (mL μ2 (m + 4)) (F s) ∧ FrM m (fun a => a = m + 4) (fun j => j = 21) μ μ2) := by
  refine (c_lays w d μ hA.1 hs (hA.2.1 s hs) (by have := hA.2.2.1.1; omega) (fun z => by have := hA.2.2.1.2; rw [z] at this; exact this hs.1)).post fun v μ2 hR => ?_
  obtain ⟨hv, g, hg, rfl⟩ := hR
  have hf : FrM m (fun a => a = m + 4) (fun j => j = 21) μ (wL (sI μ m 21 s) (m + 4) g) := (FrM.sI (J := fun j => j = 21) rfl).tr (FrM.wL (m := m) (P := fun a => a = m + 4) (a := m + 4) rfl (by omega))
  have eg : mL (wL (sI μ m 21 s) (m + 4) g) (m + 4) = g := by
    funext j
    rw [mL_wL, if_pos rfl]
  refine ⟨hv, ⟨hf.Mo hA.1, fun t ht => ?_, ?_, ?_⟩, by rw [eg]; exact hg, hf⟩
  · obtain ⟨g1, g2, g3, g4⟩ := hA.2.1 t ht
    have e1 := hf.1.I (x := m + 1) hA.1.a0.2.1 (fun z => by omega)
    have e2 := hf.1.I (x := m + 2) hA.1.a1.2.1 (fun z => by omega)
    exact ⟨by rw [e1]; exact g1, g2, g3, fun i u hu => by simp only [e2]; exact g4 i u hu⟩
  · have e : mI (wL (sI μ m 21 s) (m + 4) g) m 21 = s := by rw [mI_wL, mI_sI, if_pos ⟨rfl, rfl⟩]
    rw [e, eg]
    exact ⟨by omega, fun _ => hg⟩
  · rw [hf.2.1 23 (by omega)]
    refine ⟨hA.2.2.2.1, fun z n z1 z2 => ?_⟩
    rw [hf.1.L (x := m + 5) hA.1.a24.2.1 (fun z => by omega)]
    exact hA.2.2.2.2 z n z1 z2
theorem c_X12_wy (w : WC) (d : Nat) (μ : Mem) (hM : MoS w μ m) {ts : List Tm} (hL : LaidOk (mL μ (m + 4)) ts) (hok : ∀ u ∈ ts, TOk u) (h5 : ts.length ≤ 5) {n : Int} (hn : -1000000 ≤ n ∧ n ≤ 1000000) : Con w (d + 2) mX12_waysOf 0 0 [vP (some m), vI n] μ (fun v μ2 => v = some (vJ (wy ts n)) ∧ μ2 = μ) := by
  refine (c_X12_waysOf w d μ hM hn).post fun v μ2 hR => ?_
  rw [hR.1, atL_wy hok h5 (hL 0 (by omega) (by omega)), show n + 15000 - 15000 = n by omega]
  exact ⟨rfl, hR.2⟩
theorem c_X12_isForm (w : WC) (d : Nat) (μ : Mem) (hA : MA w μ m F) {s : Int} (hs : i32 s) : Con w (d + 2) mX12_isForm 0 0 [vP (some m), vI s] μ (fun v μ2 => v = some (vI (bI (HasT F s))) ∧ μ2 = μ) := by
  have o0 := hA.1.o
  have r0 := hA.1.r0
  have a0 := hA.1.a0
  unfold HasT
  refine Con.of (by decide) (Nat.le_of_ble_eq_true rfl) rfl ?_
  refine g_iload_n (j := 1) rfl dX12_isForm_0 ?_
  refine g_callS dX12_isForm_1 mlX12_111 msX12_isSlot (c_X12_isSlot w d μ hs) sk1 rfl (by omega) (Nat.le_of_ble_eq_true rfl) (Nat.le_refl _) (Nat.le_refl _) (fun v μ2 hR => ?_)
  obtain ⟨rfl, hm⟩ := hR
  replace hm := hm.symm
  subst hm
  refine g_ifb_eq (tgt := 20) dX12_isForm_4 (by decide)  (fun h4 => ?_) (fun h4 => ?_)
  · refine g_iconst dX12_isForm_20 ?_
    first | exact G.retB dX12_isForm_21 rfl (eq_bI (Or.inl ⟨rfl, by omega⟩)) ⟨rfl, rfl⟩ | exact G.retB dX12_isForm_21 rfl (eq_bI (Or.inr ⟨rfl, by omega⟩)) ⟨rfl, rfl⟩
  · have hc := (hA.2.1 s h4).1
    have h5 := hA.l5 h4
    refine g_aload_n (j := 0) rfl dX12_isForm_7 ?_
    refine g_getR dX12_isForm_8 flX12_9 rfl (by assumption) (kz := 0) rfl (by assumption) ?_
    refine g_iload_n (j := 1) rfl dX12_isForm_11 ?_
    refine g_iald dX12_isForm_12 (by assumption) (by omega) (by omega) ?_
    refine g_if_le (tgt := 20) dX12_isForm_13 (by decide) (by omega) (fun h13 => ?_) (fun h13 => ?_)
    · refine g_iconst dX12_isForm_20 ?_
      first | exact G.retB dX12_isForm_21 rfl (eq_bI (Or.inl ⟨rfl, by omega⟩)) ⟨rfl, rfl⟩ | exact G.retB dX12_isForm_21 rfl (eq_bI (Or.inr ⟨rfl, by omega⟩)) ⟨rfl, rfl⟩
    · refine g_iconst dX12_isForm_16 ?_
      refine g_goto (tgt := 21) (by decide) dX12_isForm_17 ?_
      first | exact G.retB dX12_isForm_21 rfl (eq_bI (Or.inl ⟨rfl, by omega⟩)) ⟨rfl, rfl⟩ | exact G.retB dX12_isForm_21 rfl (eq_bI (Or.inr ⟨rfl, by omega⟩)) ⟨rfl, rfl⟩
theorem c_X12_isTerm (w : WC) (d : Nat) (μ : Mem) (hA : MA w μ m F) {s i : Int} (hs : i32 s) (hi : i32 i) : Con w (d + 2) mX12_isTerm 0 0 [vP (some m), vI s, vI i] μ (fun v μ2 => v = some (vI (bI (HasI F s i))) ∧ μ2 = μ) := by
  have o0 := hA.1.o
  have r0 := hA.1.r0
  have a0 := hA.1.a0
  unfold HasI
  refine Con.of (by decide) (Nat.le_of_ble_eq_true rfl) rfl ?_
  refine g_iload_n (j := 1) rfl dX12_isTerm_0 ?_
  refine g_callS dX12_isTerm_1 mlX12_111 msX12_isSlot (c_X12_isSlot w d μ hs) sk1 rfl (by omega) (Nat.le_of_ble_eq_true rfl) (Nat.le_refl _) (Nat.le_refl _) (fun v μ2 hR => ?_)
  obtain ⟨rfl, hm⟩ := hR
  replace hm := hm.symm
  subst hm
  refine g_ifb_eq (tgt := 29) dX12_isTerm_4 (by decide)  (fun h4 => ?_) (fun h4 => ?_)
  · refine g_iconst dX12_isTerm_29 ?_
    first | exact G.retB dX12_isTerm_30 rfl (eq_bI (Or.inl ⟨rfl, by omega⟩)) ⟨rfl, rfl⟩ | exact G.retB dX12_isTerm_30 rfl (eq_bI (Or.inr ⟨rfl, by omega⟩)) ⟨rfl, rfl⟩
  · have hc := (hA.2.1 s h4).1
    have h5 := hA.l5 h4
    refine g_iload_n (j := 2) rfl dX12_isTerm_7 ?_
    refine g_i2l (by omega) dX12_isTerm_8 ?_
    refine g_lconst0 dX12_isTerm_9 ?_
    refine g_aload_n (j := 0) rfl dX12_isTerm_10 ?_
    refine g_getR dX12_isTerm_11 flX12_9 rfl (by assumption) (kz := 0) rfl (by assumption) ?_
    refine g_iload_n (j := 1) rfl dX12_isTerm_14 ?_
    refine g_iald dX12_isTerm_15 (by assumption) (by omega) (by omega) ?_
    refine g_iconst dX12_isTerm_16 ?_
    refine g_isub dX12_isTerm_17 ?_
    refine g_i2l (by omega) dX12_isTerm_18 ?_
    refine g_callS dX12_isTerm_19 mlX12_105 msX12_isIn (c_X12_isIn w d _ (x := i) (a := 0) (b := mI μ (m + 1) s - 1) (by omega) (by omega) (by omega)) sk3 rfl (by omega) (Nat.le_of_ble_eq_true rfl) (Nat.le_refl _) (Nat.le_refl _) (fun v μ2 hR => ?_)
    obtain ⟨rfl, hm⟩ := hR
    replace hm := hm.symm
    subst hm
    refine g_ifb_eq (tgt := 29) dX12_isTerm_22 (by decide)  (fun h22 => ?_) (fun h22 => ?_)
    · refine g_iconst dX12_isTerm_29 ?_
      first | exact G.retB dX12_isTerm_30 rfl (eq_bI (Or.inl ⟨rfl, by omega⟩)) ⟨rfl, rfl⟩ | exact G.retB dX12_isTerm_30 rfl (eq_bI (Or.inr ⟨rfl, by omega⟩)) ⟨rfl, rfl⟩
    · refine g_iconst dX12_isTerm_25 ?_
      refine g_goto (tgt := 30) (by decide) dX12_isTerm_26 ?_
      first | exact G.retB dX12_isTerm_30 rfl (eq_bI (Or.inl ⟨rfl, by omega⟩)) ⟨rfl, rfl⟩ | exact G.retB dX12_isTerm_30 rfl (eq_bI (Or.inr ⟨rfl, by omega⟩)) ⟨rfl, rfl⟩
/-- rows and ints that counting changes -/
def Cm (m a : Nat) : Prop := (m + 4 ≤ a ∧ a ≤ m + 10) ∨ a = m + 18 ∨ a = m + 19
def Jm (j : Int) : Prop := j = 21 ∨ j = 23 ∨ j = 29
def Bm (w : WC) (μ : Mem) (m : Nat) (F : Int → List Tm) (a : AV) (v : Option AV) (μ2 : Mem) : Prop := v = some a ∧ MA w μ2 m F ∧ FrM m (Cm m) Jm μ μ2
theorem Bm.no {a : AV} (h : MA w μ m F) : Bm w μ m F a (some a) μ := ⟨rfl, h, FrM.rf⟩
theorem Bm.l {a : AV} (h : MA w μ2 m F) (hf : FrM m (fun a => a = m + 4) (fun j => j = 21) μ μ2) : Bm w μ m F a (some a) μ2 := ⟨rfl, h, hf.mono (fun a z => by unfold Cm; omega) (fun j z => Or.inl z)⟩
end FM
theorem c_X12_ways (w : WC) (d : Nat) (μ : Mem) {m : Nat} {F : Int → List Tm} (hA : MA w μ m F) {s : Int} (hs : i32 s) {n : Int} (hn : i32 n) : Con w (d + 5) mX12_ways 0 0 [vP (some m), vI s, vI n] μ (Bm w μ m F (vJ (aWays F s n))) := by
  have o0 := hA.o
  refine Con.of (by decide) (Nat.le_of_ble_eq_true rfl) rfl ?_
  refine g_aload_n (j := 0) rfl dX12_ways_0 ?_
  refine g_iload_n (j := 1) rfl dX12_ways_1 ?_
  refine g_callV dX12_ways_2 mlX12_274 mvX12_isForm (ci := 12) ⟨by decide, rfl⟩ (by assumption) (c_X12_isForm w d μ hA hs) sv1 rfl (by omega) (Nat.le_of_ble_eq_true rfl) (Nat.le_refl _) (Nat.le_refl _) (fun v μ2 hR => ?_)
  obtain ⟨rfl, hm⟩ := hR
  replace hm := hm.symm
  subst hm
  refine g_ifb_eq (tgt := 15) dX12_ways_5 (by decide)  (fun h5 => ?_) (fun h5 => ?_)
  · refine g_ldc2 dX12_ways_15 klX12_280 (z := -1) rfl ?_
    exact G.retJ dX12_ways_18 rfl (by rw [aWays, cI_f (by first | exact fun z => h5 z.1 | exact fun z => h12 (by omega))]; exact Bm.no hA)
  · refine g_iload_n (j := 2) rfl dX12_ways_8 ?_
    refine g_callS dX12_ways_9 mlX12_277 msX12_isN (c_X12_isN w d μ hn) sk1 rfl (by omega) (Nat.le_of_ble_eq_true rfl) (Nat.le_refl _) (Nat.le_refl _) (fun v μ2 hR => ?_)
    obtain ⟨rfl, hm⟩ := hR
    replace hm := hm.symm
    subst hm
    refine g_ifb_ne (tgt := 19) dX12_ways_12 (by decide)  (fun h12 => ?_) (fun h12 => ?_)
    · refine g_aload_n (j := 0) rfl dX12_ways_19 ?_
      refine g_iload_n (j := 1) rfl dX12_ways_20 ?_
      refine g_callV dX12_ways_21 mlX12_282 mvX12_lays (ci := 12) ⟨by decide, rfl⟩ (by assumption) (c_X12_lays w d μ hA h5.1) sv1 rfl (by omega) (Nat.le_of_ble_eq_true rfl) (Nat.le_refl _) (Nat.le_refl _) (fun v μ2 hR => ?_)
      obtain ⟨rfl, hA2, hL, hf⟩ := hR
      have o2 := hA2.o
      refine g_aload_n (j := 0) rfl dX12_ways_24 ?_
      refine g_iload_n (j := 2) rfl dX12_ways_25 ?_
      refine g_callV dX12_ways_26 mlX12_285 mvX12_waysOf (ci := 12) ⟨by decide, rfl⟩ (by assumption) (c_X12_wy w d μ2 hA2.1 hL (hA2.ok h5.1) (hA2.l5 h5.1) (n := n) (by omega)) sv1 rfl (by omega) (Nat.le_of_ble_eq_true rfl) (Nat.le_refl _) (Nat.le_refl _) (fun v μ4 hR => ?_)
      obtain ⟨rfl, hm⟩ := hR
      replace hm := hm.symm
      subst hm
      exact G.retJ dX12_ways_29 rfl (by rw [aWays, cI_t ⟨h5, h12⟩]; exact Bm.l hA2 hf)
    · refine g_ldc2 dX12_ways_15 klX12_280 (z := -1) rfl ?_
      exact G.retJ dX12_ways_18 rfl (by rw [aWays, cI_f (by first | exact fun z => h5 z.1 | exact fun z => h12 (by omega))]; exact Bm.no hA)
theorem l12_missed {w : WC} {d : Nat} {μ : Mem} {m : Nat} {ts : List Tm} (hM : MoS w μ m) (hL : LaidOk (mL μ (m + 4)) ts) (hok : ∀ u ∈ ts, TOk u) (h5 : ts.length ≤ 5) {s fr to i : Int} (hi : i32 i) (ht : to ≤ 3000) : ∀ (k : Nat) (n f : Int), n + k = to + 1 → -3000 ≤ n → 0 ≤ f → f + k ≤ 7000 →
    G w (d + 3) mX12_missed (fun v μ2 => v = some (vI (pick (fun n => decide (wy ts n = 0)) i (-100000) k n f)) ∧ μ2 = μ) 0 0 31 [some (vP (some m)), some (vI s), some (vI fr), some (vI to), some (vI i), some (vI f), some (vI n)] [] μ := by
  have o0 := hM.o
  intro k
  induction k with
  | zero =>
    intro n f hn h0 hf hf2
    refine g_iload (i := 6) rfl dX12_missed_31 ?_
    refine g_iload_n (j := 3) rfl dX12_missed_33 ?_
    refine g_icmp_gt (tgt := 70) dX12_missed_34 (by decide) (by omega) (by omega) (fun h34 => ?_) (fun h34 => ?_)
    · refine g_iload (i := 4) rfl dX12_missed_70 ?_
      refine g_iconst dX12_missed_72 ?_
      refine g_icmp_ne (tgt := 81) dX12_missed_73 (by decide) (by omega) (by omega) (fun h73 => ?_) (fun h73 => ?_)
      · refine g_ldcw dX12_missed_81 kcX12_321 (z := -100000) rfl ?_
        exact G.retI dX12_missed_84 rfl ⟨by rw [pick, if_neg h73], rfl⟩
      · refine g_iload (i := 5) rfl dX12_missed_76 ?_
        refine g_goto (tgt := 84) (by decide) dX12_missed_78 ?_
        exact G.retI dX12_missed_84 rfl ⟨by rw [pick, if_pos h73], rfl⟩
    · omega
  | succ k ih =>
    intro n f hn h0 hf hf2
    have hw := wy_64 hok h5 n
    refine g_iload (i := 6) rfl dX12_missed_31 ?_
    refine g_iload_n (j := 3) rfl dX12_missed_33 ?_
    refine g_icmp_gt (tgt := 70) dX12_missed_34 (by decide) (by omega) (by omega) (fun h34 => ?_) (fun h34 => ?_)
    · omega
    · refine g_aload_n (j := 0) rfl dX12_missed_37 ?_
      refine g_iload (i := 6) rfl dX12_missed_38 ?_
      refine g_callV dX12_missed_40 mlX12_285 mvX12_waysOf (ci := 12) ⟨by decide, rfl⟩ (by assumption) (c_X12_wy w d μ hM hL hok h5 (n := n) (by omega)) sv1 rfl (by omega) (Nat.le_of_ble_eq_true rfl) (Nat.le_refl _) (Nat.le_refl _) (fun v μ4 hR => ?_)
      obtain ⟨rfl, hm⟩ := hR
      replace hm := hm.symm
      subst hm
      refine g_lconst0 dX12_missed_43 ?_
      refine g_lif_le (tgt := 51) dX12_missed_44 dX12_missed_45 (by decide) (by omega) (by omega) (fun h44 => ?_) (fun h44 => ?_)
      · refine g_iload (i := 5) rfl dX12_missed_51 ?_
        refine g_iload (i := 4) rfl dX12_missed_53 ?_
        refine g_icmp_ne (tgt := 61) dX12_missed_55 (by decide) (by omega) (by omega) (fun h55 => ?_) (fun h55 => ?_)
        · refine g_iinc (i := 5) dX12_missed_61 rfl (by decide) rfl ls5 ?_
          refine g_iinc (i := 6) dX12_missed_64 rfl (by decide) rfl ls6 ?_
          refine g_goto (tgt := 31) (by decide) dX12_missed_67 ?_
          rw [pick, if_pos (by rw [decide_eq_true_iff]; omega), if_neg h55]
          exact ih (n + 1) (f + 1) (by omega) (by omega) (by omega) (by omega)
        · refine g_iload (i := 6) rfl dX12_missed_58 ?_
          exact G.retI dX12_missed_60 rfl ⟨by rw [pick, if_pos (by rw [decide_eq_true_iff]; omega), if_pos h55], rfl⟩
      · refine g_goto (tgt := 64) (by decide) dX12_missed_48 ?_
        refine g_iinc (i := 6) dX12_missed_64 rfl (by decide) rfl ls6 ?_
        refine g_goto (tgt := 31) (by decide) dX12_missed_67 ?_
        rw [pick, if_neg (by rw [decide_eq_true_iff]; omega)]
        exact ih (n + 1) f (by omega) (by omega) (by omega) (by omega)
theorem pick_lo (p : Int → Bool) (z : Int) {i : Int} (hi : i < -1) : ∀ (k : Nat) (n f : Int), 0 ≤ f → pick p i z k n f = z
  | 0, n, f, h => by rw [pick, if_neg (by omega)]
  | k + 1, n, f, h => by
    rw [pick]
    split
    · rw [if_neg (by omega)]
      exact pick_lo p z hi k (n + 1) (f + 1) (by omega)
    · exact pick_lo p z hi k (n + 1) f h
theorem c_X12_missed (w : WC) (d : Nat) (μ : Mem) {m : Nat} {F : Int → List Tm} (hA : MA w μ m F) {s : Int} (hs : i32 s) {fr : Int} (hfr : i32 fr) {to : Int} (hto : i32 to) {i : Int} (hi : i32 i) : Con w (d + 5) mX12_missed 0 0 [vP (some m), vI s, vI fr, vI to, vI i] μ (Bm w μ m F (vI (aMissed F s fr to i))) := by
  have o0 := hA.o
  refine Con.of (by decide) (Nat.le_of_ble_eq_true rfl) rfl ?_
  refine g_aload_n (j := 0) rfl dX12_missed_0 ?_
  refine g_iload_n (j := 1) rfl dX12_missed_1 ?_
  refine g_callV dX12_missed_2 mlX12_274 mvX12_isForm (ci := 12) ⟨by decide, rfl⟩ (by assumption) (c_X12_isForm w d μ hA hs) sv1 rfl (by omega) (Nat.le_of_ble_eq_true rfl) (Nat.le_refl _) (Nat.le_refl _) (fun v μ2 hR => ?_)
  obtain ⟨rfl, hm⟩ := hR
  replace hm := hm.symm
  subst hm
  refine g_ifb_eq (tgt := 16) dX12_missed_5 (by decide)  (fun h5 => ?_) (fun h5 => ?_)
  · refine g_ldcw dX12_missed_16 kcX12_321 (z := -100000) rfl ?_
    exact G.retI dX12_missed_19 rfl (by rw [aMissed, cI_f (by first | exact fun z => h5 z.1 | exact fun z => h13 z.2.1)]; exact Bm.no hA)
  · refine g_iload_n (j := 2) rfl dX12_missed_8 ?_
    refine g_iload_n (j := 3) rfl dX12_missed_9 ?_
    refine g_callS dX12_missed_10 mlX12_417 msX12_isSpan (c_X12_isSpan w d μ hfr hto) sk2 rfl (by omega) (Nat.le_of_ble_eq_true rfl) (Nat.le_refl _) (Nat.le_refl _) (fun v μ2 hR => ?_)
    obtain ⟨rfl, hm⟩ := hR
    replace hm := hm.symm
    subst hm
    refine g_ifb_ne (tgt := 20) dX12_missed_13 (by decide)  (fun h13 => ?_) (fun h13 => ?_)
    · refine g_aload_n (j := 0) rfl dX12_missed_20 ?_
      refine g_iload_n (j := 1) rfl dX12_missed_21 ?_
      refine g_callV dX12_missed_22 mlX12_282 mvX12_lays (ci := 12) ⟨by decide, rfl⟩ (by assumption) (c_X12_lays w d μ hA h5.1) sv1 rfl (by omega) (Nat.le_of_ble_eq_true rfl) (Nat.le_refl _) (Nat.le_refl _) (fun v μ2 hR => ?_)
      obtain ⟨rfl, hA2, hL, hf⟩ := hR
      have o2 := hA2.o
      refine g_iconst dX12_missed_25 ?_
      refine g_istore (i := 5) dX12_missed_26 (by decide) rfl ls5 ?_
      refine g_iload_n (j := 2) rfl dX12_missed_28 ?_
      refine g_istore (i := 6) dX12_missed_29 (by decide) rfl ls6 ?_
      refine G.post (fun v μ3 hq => ?_) (l12_missed (d := d + 2) hA2.1 hL (hA2.ok h5.1) (hA2.l5 h5.1) hi h13.2.1.2 (to - fr + 1).toNat fr 0 (by omega) (by omega) (by omega) (by omega))
      obtain ⟨rfl, rfl⟩ := hq
      by_cases h1 : -1 ≤ i
      · rw [aMissed, cI_t ⟨h5, h13, h1⟩]
        exact Bm.l hA2 hf
      · rw [aMissed, cI_f (fun z => h1 z.2.2), pick_lo _ _ (by omega) _ _ _ (by omega)]
        exact Bm.l hA2 hf
    · refine g_ldcw dX12_missed_16 kcX12_321 (z := -100000) rfl ?_
      exact G.retI dX12_missed_19 rfl (by rw [aMissed, cI_f (by first | exact fun z => h5 z.1 | exact fun z => h13 z.2.1)]; exact Bm.no hA)
theorem l12_full {w : WC} {d : Nat} {μ : Mem} {m : Nat} {ts : List Tm} (hM : MoS w μ m) (hL : LaidOk (mL μ (m + 4)) ts) (hok : ∀ u ∈ ts, TOk u) (h5 : ts.length ≤ 5) {s : Int} : ∀ (k : Nat), k ≤ 3000 →
    G w (d + 3) mX12_full (fun v μ2 => v = some (vI (fuF (wy ts) k k)) ∧ μ2 = μ) 0 0 33 [some (vP (some m)), some (vI s), some (vI k)] [] μ := by
  have o0 := hM.o
  intro k
  induction k with
  | zero =>
    intro h3
    refine g_iload_n (j := 2) rfl dX12_full_33 ?_
    refine g_if_le (tgt := 55) dX12_full_34 (by decide) (by omega) (fun h34 => ?_) (fun h34 => ?_)
    · refine g_iload_n (j := 2) rfl dX12_full_55 ?_
      exact G.retI dX12_full_56 rfl ⟨rfl, rfl⟩
    · omega
  | succ k ih =>
    intro h3
    have hw := wy_64 hok h5 k
    have e : ((k + 1 : Nat) : Int) - 1 = (k : Int) := by omega
    refine g_iload_n (j := 2) rfl dX12_full_33 ?_
    refine g_if_le (tgt := 55) dX12_full_34 (by decide) (by omega) (fun h34 => ?_) (fun h34 => ?_)
    · omega
    · refine g_aload_n (j := 0) rfl dX12_full_37 ?_
      refine g_iload_n (j := 2) rfl dX12_full_38 ?_
      refine g_iconst dX12_full_39 ?_
      refine g_isub dX12_full_40 ?_
      rw [e]
      refine g_callV dX12_full_41 mlX12_285 mvX12_waysOf (ci := 12) ⟨by decide, rfl⟩ (by assumption) (c_X12_wy w d μ hM hL hok h5 (n := (k : Int)) (by omega)) sv1 rfl (by omega) (Nat.le_of_ble_eq_true rfl) (Nat.le_refl _) (Nat.le_refl _) (fun v μ4 hR => ?_)
      obtain ⟨rfl, hm⟩ := hR
      replace hm := hm.symm
      subst hm
      refine g_lconst0 dX12_full_44 ?_
      refine g_lif_le (tgt := 55) dX12_full_45 dX12_full_46 (by decide) (by omega) (by omega) (fun h45 => ?_) (fun h45 => ?_)
      · refine g_iload_n (j := 2) rfl dX12_full_55 ?_
        exact G.retI dX12_full_56 rfl ⟨by rw [fuF, if_neg (by omega)], rfl⟩
      · refine g_iinc (i := 2) dX12_full_49 rfl (by decide) rfl ls2 ?_
        refine g_goto (tgt := 33) (by decide) dX12_full_52 ?_
        rw [fuF, if_pos (by omega), show ((k + 1 : Nat) : Int) + -1 = (k : Int) by omega]
        exact ih (by omega)
theorem c_X12_full (w : WC) (d : Nat) (μ : Mem) {m : Nat} {F : Int → List Tm} (hA : MA w μ m F) {s : Int} (hs : i32 s) : Con w (d + 5) mX12_full 0 0 [vP (some m), vI s] μ (Bm w μ m F (vI (aFull F s))) := by
  have o0 := hA.o
  refine Con.of (by decide) (Nat.le_of_ble_eq_true rfl) rfl ?_
  refine g_aload_n (j := 0) rfl dX12_full_0 ?_
  refine g_iload_n (j := 1) rfl dX12_full_1 ?_
  refine g_callV dX12_full_2 mlX12_274 mvX12_isForm (ci := 12) ⟨by decide, rfl⟩ (by assumption) (c_X12_isForm w d μ hA hs) sv1 rfl (by omega) (Nat.le_of_ble_eq_true rfl) (Nat.le_refl _) (Nat.le_refl _) (fun v μ2 hR => ?_)
  obtain ⟨rfl, hm⟩ := hR
  replace hm := hm.symm
  subst hm
  refine g_ifb_ne (tgt := 10) dX12_full_5 (by decide)  (fun h5 => ?_) (fun h5 => ?_)
  · refine g_aload_n (j := 0) rfl dX12_full_10 ?_
    refine g_iload_n (j := 1) rfl dX12_full_11 ?_
    refine g_callV dX12_full_12 mlX12_282 mvX12_lays (ci := 12) ⟨by decide, rfl⟩ (by assumption) (c_X12_lays w d μ hA h5.1) sv1 rfl (by omega) (Nat.le_of_ble_eq_true rfl) (Nat.le_refl _) (Nat.le_refl _) (fun v μ2 hR => ?_)
    obtain ⟨rfl, hA2, hL, hf⟩ := hR
    have o2 := hA2.o
    have hw := wy_64 (hA2.ok h5.1) (hA2.l5 h5.1) 3000
    refine g_aload_n (j := 0) rfl dX12_full_15 ?_
    refine g_sipush dX12_full_16 (by omega) ?_
    refine g_callV dX12_full_19 mlX12_285 mvX12_waysOf (ci := 12) ⟨by decide, rfl⟩ (by assumption) (c_X12_wy w (d + 1) μ2 hA2.1 hL (hA2.ok h5.1) (hA2.l5 h5.1) (n := 3000) (by omega)) sv1 rfl (by omega) (Nat.le_of_ble_eq_true rfl) (Nat.le_refl _) (Nat.le_refl _) (fun v μ4 hR => ?_)
    obtain ⟨rfl, hm⟩ := hR
    replace hm := hm.symm
    subst hm
    refine g_lconst0 dX12_full_22 ?_
    refine g_lif_ne (tgt := 29) dX12_full_23 dX12_full_24 (by decide) (by omega) (by omega) (fun h23 => ?_) (fun h23 => ?_)
    · refine g_sipush dX12_full_29 (by omega) ?_
      refine g_istore_n (j := 2) dX12_full_32 (by decide) rfl ls2 ?_
      refine G.post (fun v μ3 hq => ?_) (l12_full (d := d + 2) hA2.1 hL (hA2.ok h5.1) (hA2.l5 h5.1) 3000 (by omega))
      obtain ⟨rfl, rfl⟩ := hq
      rw [aFull, cI_t h5, show fuF (wy (F s)) 3001 (-1) = if 0 < wy (F s) ((3000 : Nat) : Int) then fuF (wy (F s)) 3000 ((3000 : Nat) : Int) else -1 from rfl, if_pos (by show 0 < wy (F s) 3000; omega)]
      exact Bm.l hA2 hf
    · refine g_iconst dX12_full_27 ?_
      exact G.retI dX12_full_28 rfl (by rw [aFull, cI_t h5, fuF, if_neg (by show ¬ 0 < wy (F s) 3000; omega)]; exact Bm.l hA2 hf)
  · refine g_iconst dX12_full_8 ?_
    exact G.retI dX12_full_9 rfl (by rw [aFull, cI_f h5]; exact Bm.no hA)
theorem l12_gap {w : WC} {d : Nat} {μ : Mem} {m : Nat} {ts : List Tm} (hM : MoS w μ m) (hL : LaidOk (mL μ (m + 4)) ts) (hok : ∀ u ∈ ts, TOk u) (h5 : ts.length ≤ 5) {s fr to i : Int} (hi : i32 i) (ht : to ≤ 3000) : ∀ (k : Nat) (n l b f : Int), n + k = to + 1 → -3000 ≤ n → 0 ≤ l → l + k ≤ 7000 → 0 ≤ b → b ≤ 7000 →
    G w (d + 3) mX12_gap (fun v μ2 => v = some (vI (if i = 0 then (gapF (wy ts) k n l b f).1 else (gapF (wy ts) k n l b f).2)) ∧ μ2 = μ) 0 0 50 [some (vP (some m)), some (vI s), some (vI fr), some (vI to), some (vI i), some (vI b), some (vI f), some (vI l), some (vI n)] [] μ := by
  have o0 := hM.o
  intro k
  induction k with
  | zero =>
    intro n l b f hn h0 hl hl2 hb hb2
    refine g_iload (i := 8) rfl dX12_gap_50 ?_
    refine g_iload_n (j := 3) rfl dX12_gap_52 ?_
    refine g_icmp_gt (tgt := 106) dX12_gap_53 (by decide) (by omega) (by omega) (fun h53 => ?_) (fun h53 => ?_)
    · refine g_iload (i := 4) rfl dX12_gap_106 ?_
      refine g_if_ne (tgt := 116) dX12_gap_108 (by decide) (by omega) (fun h108 => ?_) (fun h108 => ?_)
      · refine g_iload (i := 6) rfl dX12_gap_116 ?_
        exact G.retI dX12_gap_118 rfl ⟨by rw [if_neg h108, gapF], rfl⟩
      · refine g_iload (i := 5) rfl dX12_gap_111 ?_
        refine g_goto (tgt := 118) (by decide) dX12_gap_113 ?_
        exact G.retI dX12_gap_118 rfl ⟨by rw [if_pos h108, gapF], rfl⟩
    · omega
  | succ k ih =>
    intro n l b f hn h0 hl hl2 hb hb2
    have hw := wy_64 hok h5 n
    refine g_iload (i := 8) rfl dX12_gap_50 ?_
    refine g_iload_n (j := 3) rfl dX12_gap_52 ?_
    refine g_icmp_gt (tgt := 106) dX12_gap_53 (by decide) (by omega) (by omega) (fun h53 => ?_) (fun h53 => ?_)
    · omega
    · refine g_aload_n (j := 0) rfl dX12_gap_56 ?_
      refine g_iload (i := 8) rfl dX12_gap_57 ?_
      refine g_callV dX12_gap_59 mlX12_285 mvX12_waysOf (ci := 12) ⟨by decide, rfl⟩ (by assumption) (c_X12_wy w d μ hM hL hok h5 (n := n) (by omega)) sv1 rfl (by omega) (Nat.le_of_ble_eq_true rfl) (Nat.le_refl _) (Nat.le_refl _) (fun v μ4 hR => ?_)
      obtain ⟨rfl, hm⟩ := hR
      replace hm := hm.symm
      subst hm
      refine g_lconst0 dX12_gap_62 ?_
      refine g_lif_le (tgt := 71) dX12_gap_63 dX12_gap_64 (by decide) (by omega) (by omega) (fun h63 => ?_) (fun h63 => ?_)
      · refine g_iload (i := 7) rfl dX12_gap_71 ?_
        refine g_iconst dX12_gap_73 ?_
        refine g_iadd dX12_gap_74 ?_
        refine g_istore (i := 7) dX12_gap_75 (by decide) rfl ls7 ?_
        obtain ⟨e, he⟩ : ∃ e : Int, e = if wy ts n = 0 then l + 1 else 0 := ⟨_, rfl⟩
        have he0 : e = l + 1 := by rw [he, if_pos (by omega)]
        refine g_iload (i := 7) rfl dX12_gap_77 ?_
        refine g_iload (i := 5) rfl dX12_gap_79 ?_
        refine g_icmp_gt (tgt := 87) dX12_gap_81 (by decide) (by omega) (by omega) (fun h81 => ?_) (fun h81 => ?_)
        · refine g_iload (i := 7) rfl dX12_gap_87 ?_
          refine g_istore (i := 5) dX12_gap_89 (by decide) rfl ls5 ?_
          refine g_iload (i := 8) rfl dX12_gap_91 ?_
          refine g_iload (i := 7) rfl dX12_gap_93 ?_
          refine g_isub dX12_gap_95 ?_
          refine g_iconst dX12_gap_96 ?_
          refine g_iadd dX12_gap_97 ?_
          refine g_istore (i := 6) dX12_gap_98 (by decide) rfl ls6 ?_
          refine g_iinc (i := 8) dX12_gap_100 rfl (by decide) rfl ls8 ?_
          refine g_goto (tgt := 50) (by decide) dX12_gap_103 ?_
          rw [gapF, ← he]
          first
          | (rw [if_pos (show b < e by omega), he0]; exact ih _ _ _ _ (by omega) (by omega) (by omega) (by omega) (by omega) (by omega))
          | (rw [if_neg (show ¬ b < e by omega), he0]; exact ih _ _ _ _ (by omega) (by omega) (by omega) (by omega) (by omega) (by omega))
        · refine g_goto (tgt := 100) (by decide) dX12_gap_84 ?_
          refine g_iinc (i := 8) dX12_gap_100 rfl (by decide) rfl ls8 ?_
          refine g_goto (tgt := 50) (by decide) dX12_gap_103 ?_
          rw [gapF, ← he]
          first
          | (rw [if_pos (show b < e by omega), he0]; exact ih _ _ _ _ (by omega) (by omega) (by omega) (by omega) (by omega) (by omega))
          | (rw [if_neg (show ¬ b < e by omega), he0]; exact ih _ _ _ _ (by omega) (by omega) (by omega) (by omega) (by omega) (by omega))
      · refine g_iconst dX12_gap_67 ?_
        refine g_goto (tgt := 75) (by decide) dX12_gap_68 ?_
        refine g_istore (i := 7) dX12_gap_75 (by decide) rfl ls7 ?_
        obtain ⟨e, he⟩ : ∃ e : Int, e = if wy ts n = 0 then l + 1 else 0 := ⟨_, rfl⟩
        have he0 : e = 0 := by rw [he, if_neg (by omega)]
        refine g_iload (i := 7) rfl dX12_gap_77 ?_
        refine g_iload (i := 5) rfl dX12_gap_79 ?_
        refine g_icmp_gt (tgt := 87) dX12_gap_81 (by decide) (by omega) (by omega) (fun h81 => ?_) (fun h81 => ?_)
        · refine g_iload (i := 7) rfl dX12_gap_87 ?_
          refine g_istore (i := 5) dX12_gap_89 (by decide) rfl ls5 ?_
          refine g_iload (i := 8) rfl dX12_gap_91 ?_
          refine g_iload (i := 7) rfl dX12_gap_93 ?_
          refine g_isub dX12_gap_95 ?_
          refine g_iconst dX12_gap_96 ?_
          refine g_iadd dX12_gap_97 ?_
          refine g_istore (i := 6) dX12_gap_98 (by decide) rfl ls6 ?_
          refine g_iinc (i := 8) dX12_gap_100 rfl (by decide) rfl ls8 ?_
          refine g_goto (tgt := 50) (by decide) dX12_gap_103 ?_
          rw [gapF, ← he]
          first
          | (rw [if_pos (show b < e by omega), he0]; exact ih _ _ _ _ (by omega) (by omega) (by omega) (by omega) (by omega) (by omega))
          | (rw [if_neg (show ¬ b < e by omega), he0]; exact ih _ _ _ _ (by omega) (by omega) (by omega) (by omega) (by omega) (by omega))
        · refine g_goto (tgt := 100) (by decide) dX12_gap_84 ?_
          refine g_iinc (i := 8) dX12_gap_100 rfl (by decide) rfl ls8 ?_
          refine g_goto (tgt := 50) (by decide) dX12_gap_103 ?_
          rw [gapF, ← he]
          first
          | (rw [if_pos (show b < e by omega), he0]; exact ih _ _ _ _ (by omega) (by omega) (by omega) (by omega) (by omega) (by omega))
          | (rw [if_neg (show ¬ b < e by omega), he0]; exact ih _ _ _ _ (by omega) (by omega) (by omega) (by omega) (by omega) (by omega))
theorem c_X12_gap (w : WC) (d : Nat) (μ : Mem) {m : Nat} {F : Int → List Tm} (hA : MA w μ m F) {s : Int} (hs : i32 s) {fr : Int} (hfr : i32 fr) {to : Int} (hto : i32 to) {i : Int} (hi : i32 i) : Con w (d + 5) mX12_gap 0 0 [vP (some m), vI s, vI fr, vI to, vI i] μ (Bm w μ m F (vI (aGap F s fr to i))) := by
  have o0 := hA.o
  refine Con.of (by decide) (Nat.le_of_ble_eq_true rfl) rfl ?_
  refine g_aload_n (j := 0) rfl dX12_gap_0 ?_
  refine g_iload_n (j := 1) rfl dX12_gap_1 ?_
  refine g_callV dX12_gap_2 mlX12_274 mvX12_isForm (ci := 12) ⟨by decide, rfl⟩ (by assumption) (c_X12_isForm w d μ hA hs) sv1 rfl (by omega) (Nat.le_of_ble_eq_true rfl) (Nat.le_refl _) (Nat.le_refl _) (fun v μ2 hR => ?_)
  obtain ⟨rfl, hm⟩ := hR
  replace hm := hm.symm
  subst hm
  refine g_ifb_eq (tgt := 27) dX12_gap_5 (by decide)  (fun h5 => ?_) (fun h5 => ?_)
  · refine g_ldcw dX12_gap_27 kcX12_321 (z := -100000) rfl ?_
    have hN : ¬ (HasT F s ∧ ((-3000 ≤ fr ∧ fr ≤ 3000) ∧ (-3000 ≤ to ∧ to ≤ 3000) ∧ fr ≤ to) ∧ 0 ≤ i ∧ i ≤ 1) := by
      intro z
      first | exact h5 z.1 | exact h13 z.2 | exact h13 z.2.1 | exact h24 z.2.2 | exact h36 z.2.2.2 | omega
    exact G.retI dX12_gap_30 rfl (by rw [aGap, cI_f hN]; exact Bm.no hA)
  · refine g_iload_n (j := 2) rfl dX12_gap_8 ?_
    refine g_iload_n (j := 3) rfl dX12_gap_9 ?_
    refine g_callS dX12_gap_10 mlX12_417 msX12_isSpan (c_X12_isSpan w d μ hfr hto) sk2 rfl (by omega) (Nat.le_of_ble_eq_true rfl) (Nat.le_refl _) (Nat.le_refl _) (fun v μ2 hR => ?_)
    obtain ⟨rfl, hm⟩ := hR
    replace hm := hm.symm
    subst hm
    refine g_ifb_eq (tgt := 27) dX12_gap_13 (by decide)  (fun h13 => ?_) (fun h13 => ?_)
    · refine g_ldcw dX12_gap_27 kcX12_321 (z := -100000) rfl ?_
      have hN : ¬ (HasT F s ∧ ((-3000 ≤ fr ∧ fr ≤ 3000) ∧ (-3000 ≤ to ∧ to ≤ 3000) ∧ fr ≤ to) ∧ 0 ≤ i ∧ i ≤ 1) := by
        intro z
        first | exact h5 z.1 | exact h13 z.2 | exact h13 z.2.1 | exact h24 z.2.2 | exact h36 z.2.2.2 | omega
      exact G.retI dX12_gap_30 rfl (by rw [aGap, cI_f hN]; exact Bm.no hA)
    · refine g_iload (i := 4) rfl dX12_gap_16 ?_
      refine g_i2l (by omega) dX12_gap_18 ?_
      refine g_lconst0 dX12_gap_19 ?_
      refine g_lconst1 dX12_gap_20 ?_
      refine g_callS dX12_gap_21 mlX12_105 msX12_isIn (c_X12_isIn w d _ (x := i) (a := 0) (b := 1) (by omega) (by omega) (by omega)) sk3 rfl (by omega) (Nat.le_of_ble_eq_true rfl) (Nat.le_refl _) (Nat.le_refl _) (fun v μ2 hR => ?_)
      obtain ⟨rfl, hm⟩ := hR
      replace hm := hm.symm
      subst hm
      refine g_ifb_ne (tgt := 31) dX12_gap_24 (by decide)  (fun h24 => ?_) (fun h24 => ?_)
      · have hV : HasT F s ∧ ((-3000 ≤ fr ∧ fr ≤ 3000) ∧ (-3000 ≤ to ∧ to ≤ 3000) ∧ fr ≤ to) ∧ 0 ≤ i ∧ i ≤ 1 := ⟨h5, h13, by omega⟩
        refine g_aload_n (j := 0) rfl dX12_gap_31 ?_
        refine g_iload_n (j := 1) rfl dX12_gap_32 ?_
        refine g_callV dX12_gap_33 mlX12_282 mvX12_lays (ci := 12) ⟨by decide, rfl⟩ (by assumption) (c_X12_lays w d μ hA hV.1.1) sv1 rfl (by omega) (Nat.le_of_ble_eq_true rfl) (Nat.le_refl _) (Nat.le_refl _) (fun v μ2 hR => ?_)
        obtain ⟨rfl, hA2, hL, hf⟩ := hR
        have o2 := hA2.o
        refine g_iconst dX12_gap_36 ?_
        refine g_istore (i := 5) dX12_gap_37 (by decide) rfl ls5 ?_
        refine g_ldcw dX12_gap_39 kcX12_321 (z := -100000) rfl ?_
        refine g_istore (i := 6) dX12_gap_42 (by decide) rfl ls6 ?_
        refine g_iconst dX12_gap_44 ?_
        refine g_istore (i := 7) dX12_gap_45 (by decide) rfl ls7 ?_
        refine g_iload_n (j := 2) rfl dX12_gap_47 ?_
        refine g_istore (i := 8) dX12_gap_48 (by decide) rfl ls8 ?_
        refine G.post (fun v μ3 hq => ?_) (l12_gap (d := d + 2) hA2.1 hL (hA2.ok hV.1.1) (hA2.l5 hV.1.1) hi hV.2.1.2.1.2 (to - fr + 1).toNat fr 0 0 (-100000) (by omega) (by omega) (by omega) (by omega) (by omega) (by omega))
        obtain ⟨rfl, rfl⟩ := hq
        rw [aGap, cI_t hV]
        exact Bm.l hA2 hf
      · refine g_ldcw dX12_gap_27 kcX12_321 (z := -100000) rfl ?_
        have hN : ¬ (HasT F s ∧ ((-3000 ≤ fr ∧ fr ≤ 3000) ∧ (-3000 ≤ to ∧ to ≤ 3000) ∧ fr ≤ to) ∧ 0 ≤ i ∧ i ≤ 1) := by
          intro z
          first | exact h5 z.1 | exact h13 z.2 | exact h13 z.2.1 | exact h24 z.2.2 | exact h36 z.2.2.2 | omega
        exact G.retI dX12_gap_30 rfl (by rw [aGap, cI_f hN]; exact Bm.no hA)
theorem c_one01 (w : WC) (d : Nat) (μ : Mem) {z : Int} (hz : z = 0 ∨ z = 1) : Con w d mX12_one 0 0 [vI z] μ (fun v μ2 => v = some (vI z) ∧ μ2 = μ) := by
  rcases hz with rfl | rfl
  · have := c_X12_one w d μ False
    rw [bI_0 (fun z => z)] at this
    exact this
  · have := c_X12_one w d μ True
    rw [bI_1 trivial] at this
    exact this
theorem l12_ahead {w : WC} {d : Nat} {μ : Mem} {m : Nat} {ts : List Tm} (hM : MoS w μ m) (hL : LaidOk (mL μ (m + 4)) ts) (hok : ∀ u ∈ ts, TOk u) (h5 : ts.length ≤ 5) {s fr to i z : Int} (hz : -3000 ≤ z ∧ z ≤ 3000) (ht : to ≤ 3000) {R : Option AV → Mem → Prop} : ∀ (k : Nat) (n c : Int), n + k = to + 1 → -3000 ≤ n → 0 ≤ c → c + k ≤ 7000 → (∀ x7 : Option AV, G w (d + 3) mX12_rank R 0 0 127 [some (vP (some m)), some (vI s), some (vI fr), some (vI to), some (vI i), some (vI z), some (vI (ahF (wy ts) z k n c)), x7] [] μ) →
    G w (d + 3) mX12_rank R 0 0 63 [some (vP (some m)), some (vI s), some (vI fr), some (vI to), some (vI i), some (vI z), some (vI c), some (vI n)] [] μ := by
  have o0 := hM.o
  have hwz := wy_64 hok h5 z
  intro k
  induction k with
  | zero =>
    intro n c hn h0 hl hl2 kk
    refine g_iload (i := 7) rfl dX12_rank_63 ?_
    refine g_iload_n (j := 3) rfl dX12_rank_65 ?_
    refine g_icmp_gt (tgt := 127) dX12_rank_66 (by decide) (by omega) (by omega) (fun h66 => ?_) (fun h66 => ?_)
    · rw [ahF] at kk
      exact kk _
    · omega
  | succ k ih =>
    intro n c hn h0 hl hl2 kk
    have hw := wy_64 hok h5 n
    rw [ahF] at kk
    refine g_iload (i := 7) rfl dX12_rank_63 ?_
    refine g_iload_n (j := 3) rfl dX12_rank_65 ?_
    refine g_icmp_gt (tgt := 127) dX12_rank_66 (by decide) (by omega) (by omega) (fun h66 => ?_) (fun h66 => ?_)
    · omega
    · refine g_iload (i := 6) rfl dX12_rank_69 ?_
      refine g_aload_n (j := 0) rfl dX12_rank_71 ?_
      refine g_iload (i := 7) rfl dX12_rank_72 ?_
      refine g_callV dX12_rank_74 mlX12_285 mvX12_waysOf (ci := 12) ⟨by decide, rfl⟩ (by assumption) (c_X12_wy w d μ hM hL hok h5 (n := n) (by omega)) sv1 rfl (by omega) (Nat.le_of_ble_eq_true rfl) (Nat.le_refl _) (Nat.le_refl _) (fun v μ4 hR => ?_)
      obtain ⟨rfl, hm⟩ := hR
      replace hm := hm.symm
      subst hm
      refine g_aload_n (j := 0) rfl dX12_rank_77 ?_
      refine g_iload (i := 5) rfl dX12_rank_78 ?_
      refine g_callV dX12_rank_80 mlX12_285 mvX12_waysOf (ci := 12) ⟨by decide, rfl⟩ (by assumption) (c_X12_wy w d μ hM hL hok h5 (n := z) (by omega)) sv1 rfl (by omega) (Nat.le_of_ble_eq_true rfl) (Nat.le_refl _) (Nat.le_refl _) (fun v μ4 hR => ?_)
      obtain ⟨rfl, hm⟩ := hR
      replace hm := hm.symm
      subst hm
      refine g_lif_gt (tgt := 110) dX12_rank_83 dX12_rank_84 (by decide) (by omega) (by omega) (fun h83 => ?_) (fun h83 => ?_)
      · refine g_iconst dX12_rank_110 ?_
        refine g_goto (tgt := 115) (by decide) dX12_rank_111 ?_
        refine g_callS dX12_rank_115 mlX12_406 msX12_one (c_one01 w d _ (by omega)) sk1 rfl (by omega) (Nat.le_of_ble_eq_true rfl) (Nat.le_refl _) (Nat.le_refl _) (fun v μ2 hR => ?_)
        obtain ⟨rfl, hm⟩ := hR
        replace hm := hm.symm
        subst hm
        refine g_iadd dX12_rank_118 ?_
        refine g_istore (i := 6) dX12_rank_119 (by decide) rfl ls6 ?_
        refine g_iinc (i := 7) dX12_rank_121 rfl (by decide) rfl ls7 ?_
        refine g_goto (tgt := 63) (by decide) dX12_rank_124 ?_
        first
        | (rw [if_pos (show wy ts z < wy ts n ∨ (wy ts n = wy ts z ∧ n < z) by omega)] at kk; exact ih _ _ (by omega) (by omega) (by omega) (by omega) kk)
        | (rw [if_neg (show ¬ (wy ts z < wy ts n ∨ (wy ts n = wy ts z ∧ n < z)) by omega)] at kk; rw [Int.add_zero]; exact ih _ _ (by omega) (by omega) (by omega) (by omega) kk)
      · refine g_aload_n (j := 0) rfl dX12_rank_87 ?_
        refine g_iload (i := 7) rfl dX12_rank_88 ?_
        refine g_callV dX12_rank_90 mlX12_285 mvX12_waysOf (ci := 12) ⟨by decide, rfl⟩ (by assumption) (c_X12_wy w d μ hM hL hok h5 (n := n) (by omega)) sv1 rfl (by omega) (Nat.le_of_ble_eq_true rfl) (Nat.le_refl _) (Nat.le_refl _) (fun v μ4 hR => ?_)
        obtain ⟨rfl, hm⟩ := hR
        replace hm := hm.symm
        subst hm
        refine g_aload_n (j := 0) rfl dX12_rank_93 ?_
        refine g_iload (i := 5) rfl dX12_rank_94 ?_
        refine g_callV dX12_rank_96 mlX12_285 mvX12_waysOf (ci := 12) ⟨by decide, rfl⟩ (by assumption) (c_X12_wy w d μ hM hL hok h5 (n := z) (by omega)) sv1 rfl (by omega) (Nat.le_of_ble_eq_true rfl) (Nat.le_refl _) (Nat.le_refl _) (fun v μ4 hR => ?_)
        obtain ⟨rfl, hm⟩ := hR
        replace hm := hm.symm
        subst hm
        refine g_lif_ne (tgt := 114) dX12_rank_99 dX12_rank_100 (by decide) (by omega) (by omega) (fun h99 => ?_) (fun h99 => ?_)
        · refine g_iconst dX12_rank_114 ?_
          refine g_callS dX12_rank_115 mlX12_406 msX12_one (c_one01 w d _ (by omega)) sk1 rfl (by omega) (Nat.le_of_ble_eq_true rfl) (Nat.le_refl _) (Nat.le_refl _) (fun v μ2 hR => ?_)
          obtain ⟨rfl, hm⟩ := hR
          replace hm := hm.symm
          subst hm
          refine g_iadd dX12_rank_118 ?_
          refine g_istore (i := 6) dX12_rank_119 (by decide) rfl ls6 ?_
          refine g_iinc (i := 7) dX12_rank_121 rfl (by decide) rfl ls7 ?_
          refine g_goto (tgt := 63) (by decide) dX12_rank_124 ?_
          first
          | (rw [if_pos (show wy ts z < wy ts n ∨ (wy ts n = wy ts z ∧ n < z) by omega)] at kk; exact ih _ _ (by omega) (by omega) (by omega) (by omega) kk)
          | (rw [if_neg (show ¬ (wy ts z < wy ts n ∨ (wy ts n = wy ts z ∧ n < z)) by omega)] at kk; rw [Int.add_zero]; exact ih _ _ (by omega) (by omega) (by omega) (by omega) kk)
        · refine g_iload (i := 7) rfl dX12_rank_103 ?_
          refine g_iload (i := 5) rfl dX12_rank_105 ?_
          refine g_icmp_ge (tgt := 114) dX12_rank_107 (by decide) (by omega) (by omega) (fun h107 => ?_) (fun h107 => ?_)
          · refine g_iconst dX12_rank_114 ?_
            refine g_callS dX12_rank_115 mlX12_406 msX12_one (c_one01 w d _ (by omega)) sk1 rfl (by omega) (Nat.le_of_ble_eq_true rfl) (Nat.le_refl _) (Nat.le_refl _) (fun v μ2 hR => ?_)
            obtain ⟨rfl, hm⟩ := hR
            replace hm := hm.symm
            subst hm
            refine g_iadd dX12_rank_118 ?_
            refine g_istore (i := 6) dX12_rank_119 (by decide) rfl ls6 ?_
            refine g_iinc (i := 7) dX12_rank_121 rfl (by decide) rfl ls7 ?_
            refine g_goto (tgt := 63) (by decide) dX12_rank_124 ?_
            first
            | (rw [if_pos (show wy ts z < wy ts n ∨ (wy ts n = wy ts z ∧ n < z) by omega)] at kk; exact ih _ _ (by omega) (by omega) (by omega) (by omega) kk)
            | (rw [if_neg (show ¬ (wy ts z < wy ts n ∨ (wy ts n = wy ts z ∧ n < z)) by omega)] at kk; rw [Int.add_zero]; exact ih _ _ (by omega) (by omega) (by omega) (by omega) kk)
          · refine g_iconst dX12_rank_110 ?_
            refine g_goto (tgt := 115) (by decide) dX12_rank_111 ?_
            refine g_callS dX12_rank_115 mlX12_406 msX12_one (c_one01 w d _ (by omega)) sk1 rfl (by omega) (Nat.le_of_ble_eq_true rfl) (Nat.le_refl _) (Nat.le_refl _) (fun v μ2 hR => ?_)
            obtain ⟨rfl, hm⟩ := hR
            replace hm := hm.symm
            subst hm
            refine g_iadd dX12_rank_118 ?_
            refine g_istore (i := 6) dX12_rank_119 (by decide) rfl ls6 ?_
            refine g_iinc (i := 7) dX12_rank_121 rfl (by decide) rfl ls7 ?_
            refine g_goto (tgt := 63) (by decide) dX12_rank_124 ?_
            first
            | (rw [if_pos (show wy ts z < wy ts n ∨ (wy ts n = wy ts z ∧ n < z) by omega)] at kk; exact ih _ _ (by omega) (by omega) (by omega) (by omega) kk)
            | (rw [if_neg (show ¬ (wy ts z < wy ts n ∨ (wy ts n = wy ts z ∧ n < z)) by omega)] at kk; rw [Int.add_zero]; exact ih _ _ (by omega) (by omega) (by omega) (by omega) kk)
theorem l12_rank {w : WC} {d : Nat} {μ : Mem} {m : Nat} {ts : List Tm} (hM : MoS w μ m) (hL : LaidOk (mL μ (m + 4)) ts) (hok : ∀ u ∈ ts, TOk u) (h5 : ts.length ≤ 5) {s fr to i : Int} (hi : i32 i) (hfr : -3000 ≤ fr ∧ fr ≤ to) (ht : to ≤ 3000) : ∀ (k : Nat) (n : Int) (x6 x7 : Option AV), n + k = to + 1 → -3000 ≤ n →
    G w (d + 3) mX12_rank (fun v μ2 => v = some (vI (rkF (wy ts) fr (to - fr + 1).toNat i k n)) ∧ μ2 = μ) 0 0 51 [some (vP (some m)), some (vI s), some (vI fr), some (vI to), some (vI i), some (vI n), x6, x7] [] μ := by
  have o0 := hM.o
  intro k
  induction k with
  | zero =>
    intro n x6 x7 hn h0
    refine g_iload (i := 5) rfl dX12_rank_51 ?_
    refine g_iload_n (j := 3) rfl dX12_rank_53 ?_
    refine g_icmp_gt (tgt := 143) dX12_rank_54 (by decide) (by omega) (by omega) (fun h54 => ?_) (fun h54 => ?_)
    · refine g_ldcw dX12_rank_143 kcX12_321 (z := -100000) rfl ?_
      exact G.retI dX12_rank_146 rfl ⟨by rw [rkF], rfl⟩
    · omega
  | succ k ih =>
    intro n x6 x7 hn h0
    have hab := ahF_bd (wy ts) n (to - fr + 1).toNat fr 0
    refine g_iload (i := 5) rfl dX12_rank_51 ?_
    refine g_iload_n (j := 3) rfl dX12_rank_53 ?_
    refine g_icmp_gt (tgt := 143) dX12_rank_54 (by decide) (by omega) (by omega) (fun h54 => ?_) (fun h54 => ?_)
    · omega
    · refine g_iconst dX12_rank_57 ?_
      refine g_istore (i := 6) dX12_rank_58 (by decide) rfl ls6 ?_
      refine g_iload_n (j := 2) rfl dX12_rank_60 ?_
      refine g_istore (i := 7) dX12_rank_61 (by decide) rfl ls7 ?_
      refine l12_ahead hM hL hok h5 (by omega) ht (to - fr + 1).toNat fr 0 (by omega) (by omega) (by omega) (by omega) fun y7 => ?_
      refine g_iload (i := 6) rfl dX12_rank_127 ?_
      refine g_iload (i := 4) rfl dX12_rank_129 ?_
      refine g_icmp_ne (tgt := 137) dX12_rank_131 (by decide) (by omega) (by omega) (fun h131 => ?_) (fun h131 => ?_)
      · refine g_iinc (i := 5) dX12_rank_137 rfl (by decide) rfl ls5 ?_
        refine g_goto (tgt := 51) (by decide) dX12_rank_140 ?_
        rw [rkF, if_neg h131]
        exact ih (n + 1) _ _ (by omega) (by omega)
      · refine g_iload (i := 5) rfl dX12_rank_134 ?_
        exact G.retI dX12_rank_136 rfl ⟨by rw [rkF, if_pos h131], rfl⟩
theorem c_X12_rank (w : WC) (d : Nat) (μ : Mem) {m : Nat} {F : Int → List Tm} (hA : MA w μ m F) {s : Int} (hs : i32 s) {fr : Int} (hfr : i32 fr) {to : Int} (hto : i32 to) {i : Int} (hi : i32 i) : Con w (d + 5) mX12_rank 0 0 [vP (some m), vI s, vI fr, vI to, vI i] μ (Bm w μ m F (vI (aRank F s fr to i))) := by
  have o0 := hA.o
  refine Con.of (by decide) (Nat.le_of_ble_eq_true rfl) rfl ?_
  refine g_aload_n (j := 0) rfl dX12_rank_0 ?_
  refine g_iload_n (j := 1) rfl dX12_rank_1 ?_
  refine g_callV dX12_rank_2 mlX12_274 mvX12_isForm (ci := 12) ⟨by decide, rfl⟩ (by assumption) (c_X12_isForm w d μ hA hs) sv1 rfl (by omega) (Nat.le_of_ble_eq_true rfl) (Nat.le_refl _) (Nat.le_refl _) (fun v μ2 hR => ?_)
  obtain ⟨rfl, hm⟩ := hR
  replace hm := hm.symm
  subst hm
  refine g_ifb_eq (tgt := 39) dX12_rank_5 (by decide)  (fun h5 => ?_) (fun h5 => ?_)
  · refine g_ldcw dX12_rank_39 kcX12_321 (z := -100000) rfl ?_
    have hN : ¬ (HasT F s ∧ ((-3000 ≤ fr ∧ fr ≤ 3000) ∧ (-3000 ≤ to ∧ to ≤ 3000) ∧ fr ≤ to) ∧ to - fr < 200 ∧ 0 ≤ i ∧ i ≤ to - fr) := by
      intro z
      first | exact h5 z.1 | exact h13 z.2 | exact h13 z.2.1 | exact h24 z.2.2 | exact h36 z.2.2.2 | omega
    exact G.retI dX12_rank_42 rfl (by rw [aRank, cI_f hN]; exact Bm.no hA)
  · refine g_iload_n (j := 2) rfl dX12_rank_8 ?_
    refine g_iload_n (j := 3) rfl dX12_rank_9 ?_
    refine g_callS dX12_rank_10 mlX12_417 msX12_isSpan (c_X12_isSpan w d μ hfr hto) sk2 rfl (by omega) (Nat.le_of_ble_eq_true rfl) (Nat.le_refl _) (Nat.le_refl _) (fun v μ2 hR => ?_)
    obtain ⟨rfl, hm⟩ := hR
    replace hm := hm.symm
    subst hm
    refine g_ifb_eq (tgt := 39) dX12_rank_13 (by decide)  (fun h13 => ?_) (fun h13 => ?_)
    · refine g_ldcw dX12_rank_39 kcX12_321 (z := -100000) rfl ?_
      have hN : ¬ (HasT F s ∧ ((-3000 ≤ fr ∧ fr ≤ 3000) ∧ (-3000 ≤ to ∧ to ≤ 3000) ∧ fr ≤ to) ∧ to - fr < 200 ∧ 0 ≤ i ∧ i ≤ to - fr) := by
        intro z
        first | exact h5 z.1 | exact h13 z.2 | exact h13 z.2.1 | exact h24 z.2.2 | exact h36 z.2.2.2 | omega
      exact G.retI dX12_rank_42 rfl (by rw [aRank, cI_f hN]; exact Bm.no hA)
    · refine g_iload_n (j := 3) rfl dX12_rank_16 ?_
      refine g_iload_n (j := 2) rfl dX12_rank_17 ?_
      refine g_isub dX12_rank_18 ?_
      refine g_sipush dX12_rank_19 (by omega) ?_
      refine g_icmp_ge (tgt := 39) dX12_rank_22 (by decide) (by omega) (by omega) (fun h22 => ?_) (fun h22 => ?_)
      · refine g_ldcw dX12_rank_39 kcX12_321 (z := -100000) rfl ?_
        have hN : ¬ (HasT F s ∧ ((-3000 ≤ fr ∧ fr ≤ 3000) ∧ (-3000 ≤ to ∧ to ≤ 3000) ∧ fr ≤ to) ∧ to - fr < 200 ∧ 0 ≤ i ∧ i ≤ to - fr) := by
          intro z
          first | exact h5 z.1 | exact h13 z.2 | exact h13 z.2.1 | exact h24 z.2.2 | exact h36 z.2.2.2 | omega
        exact G.retI dX12_rank_42 rfl (by rw [aRank, cI_f hN]; exact Bm.no hA)
      · refine g_iload (i := 4) rfl dX12_rank_25 ?_
        refine g_i2l (by omega) dX12_rank_27 ?_
        refine g_lconst0 dX12_rank_28 ?_
        refine g_iload_n (j := 3) rfl dX12_rank_29 ?_
        refine g_iload_n (j := 2) rfl dX12_rank_30 ?_
        refine g_isub dX12_rank_31 ?_
        refine g_i2l (by omega) dX12_rank_32 ?_
        refine g_callS dX12_rank_33 mlX12_105 msX12_isIn (c_X12_isIn w d _ (x := i) (a := 0) (b := to - fr) (by omega) (by omega) (by omega)) sk3 rfl (by omega) (Nat.le_of_ble_eq_true rfl) (Nat.le_refl _) (Nat.le_refl _) (fun v μ2 hR => ?_)
        obtain ⟨rfl, hm⟩ := hR
        replace hm := hm.symm
        subst hm
        refine g_ifb_ne (tgt := 43) dX12_rank_36 (by decide)  (fun h36 => ?_) (fun h36 => ?_)
        · have hV : HasT F s ∧ ((-3000 ≤ fr ∧ fr ≤ 3000) ∧ (-3000 ≤ to ∧ to ≤ 3000) ∧ fr ≤ to) ∧ to - fr < 200 ∧ 0 ≤ i ∧ i ≤ to - fr := ⟨h5, h13, by omega⟩
          refine g_aload_n (j := 0) rfl dX12_rank_43 ?_
          refine g_iload_n (j := 1) rfl dX12_rank_44 ?_
          refine g_callV dX12_rank_45 mlX12_282 mvX12_lays (ci := 12) ⟨by decide, rfl⟩ (by assumption) (c_X12_lays w d μ hA hV.1.1) sv1 rfl (by omega) (Nat.le_of_ble_eq_true rfl) (Nat.le_refl _) (Nat.le_refl _) (fun v μ2 hR => ?_)
          obtain ⟨rfl, hA2, hL, hf⟩ := hR
          have o2 := hA2.o
          refine g_iload_n (j := 2) rfl dX12_rank_48 ?_
          refine g_istore (i := 5) dX12_rank_49 (by decide) rfl ls5 ?_
          refine G.post (fun v μ3 hq => ?_) (l12_rank (d := d + 2) hA2.1 hL (hA2.ok hV.1.1) (hA2.l5 hV.1.1) hi (by omega) hV.2.1.2.1.2 (to - fr + 1).toNat fr _ _ (by omega) (by omega))
          obtain ⟨rfl, rfl⟩ := hq
          rw [aRank, cI_t hV]
          exact Bm.l hA2 hf
        · refine g_ldcw dX12_rank_39 kcX12_321 (z := -100000) rfl ?_
          have hN : ¬ (HasT F s ∧ ((-3000 ≤ fr ∧ fr ≤ 3000) ∧ (-3000 ≤ to ∧ to ≤ 3000) ∧ fr ≤ to) ∧ to - fr < 200 ∧ 0 ≤ i ∧ i ≤ to - fr) := by
            intro z
            first | exact h5 z.1 | exact h13 z.2 | exact h13 z.2.1 | exact h24 z.2.2 | exact h36 z.2.2.2 | omega
          exact G.retI dX12_rank_42 rfl (by rw [aRank, cI_f hN]; exact Bm.no hA)
