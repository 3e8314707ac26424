/-! THE MODEL: like terms, sorted rounds -/
theorem MFI.gt {μ : Mem} {m : Nat} {s : Int} {ts : List Tm} (h : MFI μ m s ts) {t : Int} {a : Nat} (e : t = (a : Int)) {u : Tm} (hu : ts[a]? = some u) : TOk u ∧ mI μ (m + 2) (4 * (5 * s + t) + 0) = tF u ∧ mI μ (m + 2) (4 * (5 * s + t) + 1) = tK u ∧ mI μ (m + 2) (4 * (5 * s + t) + 2) = tL u ∧ mI μ (m + 2) (4 * (5 * s + t) + 3) = tH u := by
  subst e
  exact ⟨h.2.2.1 u (List.mem_of_getElem? hu), h.2.2.2 a u hu⟩
theorem l_areLike {w : WC} {d m : Nat} {μ : Mem} {s a b : Int} (hM : MoS w μ m) (hs : 0 ≤ s ∧ s ≤ 3) (ha : 0 ≤ a ∧ a ≤ 4) (hb4 : 0 ≤ b ∧ b ≤ 4) (hb : ∀ k, 0 ≤ k ∧ k ≤ 3 → i32 (mI μ (m + 2) (4 * (5 * s + a) + k)) ∧ i32 (mI μ (m + 2) (4 * (5 * s + b) + k))) : ∀ (r : Nat) (k : Int), k + (r : Int) = 4 → 0 ≤ k → (∀ j, 0 ≤ j → j < k → mI μ (m + 2) (4 * (5 * s + a) + j) = mI μ (m + 2) (4 * (5 * s + b) + j)) → G w (d + 1) mX12_areLike (fun v μ2 => v = some (vI (bI (∀ j, 0 ≤ j → j < 4 → mI μ (m + 2) (4 * (5 * s + a) + j) = mI μ (m + 2) (4 * (5 * s + b) + j)))) ∧ μ2 = μ) 0 0 3 [some (vP (some m)), some (vI s), some (vI a), some (vI b), some (vI k)] [] μ := by
  have o0 := hM.o
  intro r
  induction r with
  | zero =>
    intro k hr h0 hD
    refine g_iload (i := 4) rfl dX12_areLike_3 ?_
    refine g_iconst dX12_areLike_5 ?_
    refine g_icmp_ge (tgt := 36) dX12_areLike_6 (by decide) (by omega) (by omega) (fun h6 => ?_) (fun h6 => ?_)
    · refine g_iconst dX12_areLike_36 ?_
      exact G.retB dX12_areLike_37 rfl (eq_bI (Or.inl ⟨rfl, fun j z1 z2 => hD j z1 (by omega)⟩)) ⟨rfl, rfl⟩
    · omega
  | succ r ih =>
    intro k hr h0 hD
    have hk : 0 ≤ k ∧ k ≤ 3 := by omega
    refine g_iload (i := 4) rfl dX12_areLike_3 ?_
    refine g_iconst dX12_areLike_5 ?_
    refine g_icmp_ge (tgt := 36) dX12_areLike_6 (by decide) (by omega) (by omega) (fun h6 => ?_) (fun h6 => ?_)
    · omega
    · refine g_aload_n (j := 0) rfl dX12_areLike_9 ?_
      refine g_iload_n (j := 1) rfl dX12_areLike_10 ?_
      refine g_iload_n (j := 2) rfl dX12_areLike_11 ?_
      refine g_iload (i := 4) rfl dX12_areLike_12 ?_
      refine g_callV dX12_areLike_14 mlX12_93 mvX12_of (ci := 12) ⟨by decide, rfl⟩ (by assumption) (c_X12_of w d μ hM (s := s) (i := a) (k := k) (by omega) (by omega) (by omega)) sv3 rfl (by omega) (Nat.le_of_ble_eq_true rfl) (Nat.le_refl _) (Nat.le_refl _) (fun v μ2 hR => ?_)
      obtain ⟨rfl, hm⟩ := hR
      replace hm := hm.symm
      subst hm
      refine g_aload_n (j := 0) rfl dX12_areLike_17 ?_
      refine g_iload_n (j := 1) rfl dX12_areLike_18 ?_
      refine g_iload_n (j := 3) rfl dX12_areLike_19 ?_
      refine g_iload (i := 4) rfl dX12_areLike_20 ?_
      refine g_callV dX12_areLike_22 mlX12_93 mvX12_of (ci := 12) ⟨by decide, rfl⟩ (by assumption) (c_X12_of w d μ hM (s := s) (i := b) (k := k) (by omega) (by omega) (by omega)) sv3 rfl (by omega) (Nat.le_of_ble_eq_true rfl) (Nat.le_refl _) (Nat.le_refl _) (fun v μ2 hR => ?_)
      obtain ⟨rfl, hm⟩ := hR
      replace hm := hm.symm
      subst hm
      have hbd := hb k hk
      refine g_icmp_eq (tgt := 30) dX12_areLike_25 (by decide) (by omega) (by omega) (fun h25 => ?_) (fun h25 => ?_)
      · refine g_iinc (i := 4) dX12_areLike_30 rfl (by decide) rfl ls4 ?_
        refine g_goto (tgt := 3) (by decide) dX12_areLike_33 ?_
        refine ih (k + 1) (by omega) (by omega) (fun j z1 z2 => ?_)
        by_cases z : j = k
        · rw [z]
          exact h25
        · exact hD j z1 (by omega)
      · refine g_iconst dX12_areLike_28 ?_
        exact G.retB dX12_areLike_29 rfl (eq_bI (Or.inr ⟨rfl, fun z => h25 (z k (by omega) (by omega))⟩)) ⟨rfl, rfl⟩
theorem c_areLikeP (w : WC) (d : Nat) (μ : Mem) {m : Nat} {ts : List Tm} {s a b : Int} {i j : Nat} (hM : MoS w μ m) (hs : 0 ≤ s ∧ s ≤ 3) (hI : MFI μ m s ts) (ea : a = (i : Int)) (eb : b = (j : Int)) (hi : i < ts.length) (hj : j < ts.length) : Con w (d + 1) mX12_areLike 0 0 [vP (some m), vI s, vI a, vI b] μ (fun v μ2 => v = some (vI (bI ((lbs ts).getD i 9 = (lbs ts).getD j 9))) ∧ μ2 = μ) := by
  obtain ⟨u, hu⟩ : ∃ u, ts[i]? = some u := ⟨_, List.getElem?_eq_getElem hi⟩
  obtain ⟨v, hv⟩ : ∃ u, ts[j]? = some u := ⟨_, List.getElem?_eq_getElem hj⟩
  obtain ⟨⟨x1, x2, x3, x4, x5⟩, e0, e1, e2, e3⟩ := hI.gt ea hu
  obtain ⟨⟨y1, y2, y3, y4, y5⟩, f0, f1, f2, f3⟩ := hI.gt eb hv
  have h5 := hI.2.1
  have key : ((lbs ts).getD i 9 = (lbs ts).getD j 9) ↔ ∀ k, 0 ≤ k → k < 4 → mI μ (m + 2) (4 * (5 * s + a) + k) = mI μ (m + 2) (4 * (5 * s + b) + k) := by
    have l1 : (lbs ts).getD i 9 = fiT ts u := by
      unfold lbs
      rw [List.getD_eq_getElem?_getD, List.getElem?_map, hu]
      rfl
    have l2 : (lbs ts).getD j 9 = fiT ts v := by
      unfold lbs
      rw [List.getD_eq_getElem?_getD, List.getElem?_map, hv]
      rfl
    rw [l1, l2]
    constructor
    · intro h
      have g1 := fiT_get u0 ts u (List.mem_of_getElem? hu)
      have g2 := fiT_get u0 ts v (List.mem_of_getElem? hv)
      rw [h, g2] at g1
      subst g1
      intro k z1 z2
      have : k = 0 ∨ k = 1 ∨ k = 2 ∨ k = 3 := by omega
      rcases this with rfl | rfl | rfl | rfl
      · rw [e0, f0]
      · rw [e1, f1]
      · rw [e2, f2]
      · rw [e3, f3]
    · intro h
      have h0 := h 0 (by omega) (by omega)
      have h1 := h 1 (by omega) (by omega)
      have h2 := h 2 (by omega) (by omega)
      have h3 := h 3 (by omega) (by omega)
      rw [e0, f0] at h0
      rw [e1, f1] at h1
      rw [e2, f2] at h2
      rw [e3, f3] at h3
      have : u = v := Prod.ext h0 (Prod.ext h1 (Prod.ext h2 h3))
      rw [this]
  rw [bI_congr key]
  refine Con.of (by decide) (Nat.le_of_ble_eq_true rfl) rfl ?_
  refine g_iconst dX12_areLike_0 ?_
  refine g_istore (i := 4) dX12_areLike_1 (by decide) rfl ls4 ?_
  refine l_areLike (d := d) hM hs (by omega) (by omega) (fun k hk => ?_) 4 0 (by omega) (by omega) (fun j z1 z2 => absurd z1 (by omega))
  have : k = 0 ∨ k = 1 ∨ k = 2 ∨ k = 3 := by omega
  rcases this with rfl | rfl | rfl | rfl
  · rw [e0, f0]
    constructor <;> omega
  · rw [e1, f1]
    constructor <;> omega
  · rw [e2, f2]
    constructor <;> omega
  · rw [e3, f3]
    constructor <;> omega
theorem l_isKind {w : WC} {d m : Nat} {μ : Mem} {a : Int} (hM : MoS w μ m) (ha : 0 ≤ a ∧ a ≤ 100) (hb : ∀ k, 0 ≤ k → k < 5 → i32 (mI μ (m + 8) (5 * a + k)) ∧ i32 (mI μ (m + 7) k)) : ∀ (r : Nat) (k : Int), k + (r : Int) = 5 → 0 ≤ k → (∀ j, 0 ≤ j → j < k → mI μ (m + 8) (5 * a + j) = mI μ (m + 7) j) → G w d mX12_isKind (fun v μ2 => v = some (vI (bI (∀ j, 0 ≤ j → j < 5 → mI μ (m + 8) (5 * a + j) = mI μ (m + 7) j))) ∧ μ2 = μ) 0 0 2 [some (vP (some m)), some (vI a), some (vI k)] [] μ := by
  have o0 := hM.o
  have r26 := hM.r26
  have a26 := hM.a26
  have r27 := hM.r27
  have a27 := hM.a27
  intro r
  induction r with
  | zero =>
    intro k hr h0 hD
    refine g_iload_n (j := 2) rfl dX12_isKind_2 ?_
    refine g_iconst dX12_isKind_3 ?_
    refine g_icmp_ge (tgt := 34) dX12_isKind_4 (by decide) (by omega) (by omega) (fun h4 => ?_) (fun h4 => ?_)
    · refine g_iconst dX12_isKind_34 ?_
      exact G.retB dX12_isKind_35 rfl (eq_bI (Or.inl ⟨rfl, fun j z1 z2 => hD j z1 (by omega)⟩)) ⟨rfl, rfl⟩
    · omega
  | succ r ih =>
    intro k hr h0 hD
    refine g_iload_n (j := 2) rfl dX12_isKind_2 ?_
    refine g_iconst dX12_isKind_3 ?_
    refine g_icmp_ge (tgt := 34) dX12_isKind_4 (by decide) (by omega) (by omega) (fun h4 => ?_) (fun h4 => ?_)
    · omega
    · refine g_aload_n (j := 0) rfl dX12_isKind_7 ?_
      refine g_getR dX12_isKind_8 flX12_51 rfl (by assumption) (kz := 27) rfl (by assumption) ?_
      refine g_iconst dX12_isKind_11 ?_
      refine g_iload_n (j := 1) rfl dX12_isKind_12 ?_
      refine g_imul dX12_isKind_13 ?_
      refine g_iload_n (j := 2) rfl dX12_isKind_14 ?_
      refine g_iadd dX12_isKind_15 ?_
      refine g_iald dX12_isKind_16 (by assumption) (by omega) (by omega) ?_
      refine g_aload_n (j := 0) rfl dX12_isKind_17 ?_
      refine g_getR dX12_isKind_18 flX12_48 rfl (by assumption) (kz := 26) rfl (by assumption) ?_
      refine g_iload_n (j := 2) rfl dX12_isKind_21 ?_
      refine g_iald dX12_isKind_22 (by assumption) (by omega) (by omega) ?_
      have hbd := hb k (by omega) (by omega)
      refine g_icmp_eq (tgt := 28) dX12_isKind_23 (by decide) (by omega) (by omega) (fun h23 => ?_) (fun h23 => ?_)
      · refine g_iinc (i := 2) dX12_isKind_28 rfl (by decide) rfl ls2 ?_
        refine g_goto (tgt := 2) (by decide) dX12_isKind_31 ?_
        refine ih (k + 1) (by omega) (by omega) (fun j z1 z2 => ?_)
        by_cases z : j = k
        · rw [z]
          exact h23
        · exact hD j z1 (by omega)
      · refine g_iconst dX12_isKind_26 ?_
        exact G.retB dX12_isKind_27 rfl (eq_bI (Or.inr ⟨rfl, fun z => h23 (z k (by omega) (by omega))⟩)) ⟨rfl, rfl⟩
/-- small lengths, five of them -/
def SmL (L : List Nat) : Prop := L.length = 5 ∧ ∀ k, L.getD k 0 ≤ 6
def LnM (μ : Mem) (m : Nat) (L : List Nat) : Prop := SmL L ∧ ∀ k : Nat, k < 5 → mI μ (m + 7) (k : Int) = (L.getD k 0 : Int)
theorem SmL.set {L : List Nat} (h : SmL L) {k v : Nat} (hv : v ≤ 6) : SmL (L.set k v) := ⟨by rw [List.length_set]; exact h.1, fun j => by
  rw [List.getD_eq_getElem?_getD, List.getElem?_set]
  have := h.2 j
  rw [List.getD_eq_getElem?_getD] at this
  split
  · split
    · exact hv
    · exact Nat.zero_le _
  · exact this⟩
theorem set_gt {L : List Nat} {k v : Nat} (hk : k < L.length) : (L.set k v).getD k 0 = v := by
  rw [List.getD_eq_getElem?_getD, List.getElem?_set, if_pos rfl, if_pos hk]
  rfl
theorem set_ne {L : List Nat} {k v j : Nat} (hj : ¬ j = k) : (L.set k v).getD j 0 = L.getD j 0 := by
  rw [List.getD_eq_getElem?_getD, List.getElem?_set, if_neg (fun z => hj z.symm), ← List.getD_eq_getElem?_getD]
theorem LnM.set {w : WC} {μ : Mem} {m : Nat} {L : List Nat} (h : LnM μ m L) {k v : Nat} (hk : k < 5) (hv : v ≤ 6) : LnM (sI μ (m + 7) (k : Int) (v : Int)) m (L.set k v) := ⟨h.1.set hv, fun j hj => by
  rw [mI_sI]
  by_cases z : j = k
  · rw [if_pos ⟨rfl, by omega⟩, z, set_gt (by have := h.1.1; omega)]
  · rw [if_neg (by omega), set_ne z]
    exact h.2 j hj⟩
theorem L5_eq {a b : List Nat} (ha : a.length = 5) (hb : b.length = 5) (h : ∀ k : Nat, k < 5 → a.getD k 0 = b.getD k 0) : a = b := by
  refine List.ext_getElem? fun k => ?_
  rcases Nat.lt_or_ge k 5 with z | z
  · have := h k z
    rw [List.getD_eq_getElem?_getD, List.getD_eq_getElem?_getD, List.getElem?_eq_getElem (by omega), List.getElem?_eq_getElem (by omega)] at this
    rw [List.getElem?_eq_getElem (by omega), List.getElem?_eq_getElem (by omega)]
    exact congrArg some this
  · rw [List.getElem?_eq_none (by omega), List.getElem?_eq_none (by omega)]
theorem c_isKind (w : WC) (d : Nat) (μ : Mem) {m a : Nat} {L q : List Nat} (hM : MoS w μ m) (ha : a ≤ 100) (hL : LnM μ m L) (hq : SmL q) (hq2 : ∀ k : Nat, k < 5 → mI μ (m + 8) (5 * (a : Int) + (k : Int)) = (q.getD k 0 : Int)) : Con w d mX12_isKind 0 0 [vP (some m), vI (a : Int)] μ (fun v μ2 => v = some (vI (bI (q = L))) ∧ μ2 = μ) := by
  have key : q = L ↔ ∀ j : Int, 0 ≤ j → j < 5 → mI μ (m + 8) (5 * (a : Int) + j) = mI μ (m + 7) j := by
    constructor
    · intro h j z1 z2
      have e : j = ((j.toNat : Nat) : Int) := by omega
      rw [e, hq2 _ (by omega), hL.2 _ (by omega), h]
    · intro h
      refine L5_eq hq.1 hL.1.1 fun k hk => ?_
      have := h (k : Int) (by omega) (by omega)
      rw [hq2 k hk, hL.2 k hk] at this
      omega
  rw [bI_congr key]
  refine Con.of (by decide) (Nat.le_of_ble_eq_true rfl) rfl ?_
  refine g_iconst dX12_isKind_0 ?_
  refine g_istore_n (j := 2) dX12_isKind_1 (by decide) rfl ls2 ?_
  refine l_isKind hM (by omega) (fun k z1 z2 => ?_) 5 0 (by omega) (by omega) (fun j z1 z2 => absurd z1 (by omega))
  have e : k = ((k.toNat : Nat) : Int) := by omega
  rw [e, hq2 _ (by omega), hL.2 _ (by omega)]
  have a1 := hq.2 k.toNat
  have a2 := hL.1.2 k.toNat
  constructor <;> constructor <;> omega
