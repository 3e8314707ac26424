/-! FORM AS A LIST OF TERMS (factor, kind, low, high) -/
abbrev Tm : Type := Int × Int × Int × Int
def tF (u : Tm) : Int := u.1
def tK (u : Tm) : Int := u.2.1
def tL (u : Tm) : Int := u.2.2.1
def tH (u : Tm) : Int := u.2.2.2
def tV (u : Tm) (x : Int) : Int := pv (tK u) (tF u) x
/-- what every term keeps -/
def TOk (u : Tm) : Prop := (1 ≤ tF u ∧ tF u ≤ 99) ∧ (0 ≤ tK u ∧ tK u ≤ 4) ∧ (-3000 ≤ tL u ∧ tL u ≤ tH u ∧ tH u ≤ 3000) ∧ (-3000 ≤ tV u (tL u) ∧ tV u (tL u) ≤ 3000) ∧ (-3000 ≤ tV u (tH u) ∧ tV u (tH u) ≤ 3000)
/-- the i-th term's numbers stand in the Form at q -/
def TmAt (μ : Mem) (q : Nat) (i : Int) (u : Tm) : Prop := mI μ (q + 1) i = tF u ∧ mI μ (q + 2) i = tK u ∧ mI μ (q + 3) i = tL u ∧ mI μ (q + 4) i = tH u ∧ mI μ (q + 5) i = tLo (tK u) (tF u) (tL u) (tH u) ∧ mI μ (q + 6) i = tHi (tK u) (tF u) (tL u) (tH u)
def FI (μ : Mem) (q : Nat) (ts : List Tm) : Prop := mI μ q 0 = ts.length ∧ ts.length ≤ 5 ∧ (∀ u ∈ ts, TOk u) ∧ ∀ (i : Nat) (u : Tm), ts[i]? = some u → TmAt μ q (i : Int) u
/-- of the ints alone, and of P's cells alone, something changed -/
def ChI (P : Nat → Prop) (μ μ2 : Mem) : Prop := mL μ2 = mL μ ∧ mR μ2 = mR μ ∧ mS μ2 = mS μ ∧ mZ μ2 = mZ μ ∧ ∀ x, ¬ P x → ∀ j, mI μ2 x j = mI μ x j
theorem ChI.rf {P : Nat → Prop} {μ : Mem} : ChI P μ μ := ⟨rfl, rfl, rfl, rfl, fun _ _ _ => rfl⟩
theorem ChI.tr {P : Nat → Prop} {μ μ2 μ3 : Mem} (h : ChI P μ μ2) (h2 : ChI P μ2 μ3) : ChI P μ μ3 := ⟨h2.1.trans h.1, h2.2.1.trans h.2.1, h2.2.2.1.trans h.2.2.1, h2.2.2.2.1.trans h.2.2.2.1, fun x hx j => (h2.2.2.2.2 x hx j).trans (h.2.2.2.2 x hx j)⟩
theorem ChI.mono {P P2 : Nat → Prop} {μ μ2 : Mem} (h : ChI P μ μ2) (hP : ∀ x, P x → P2 x) : ChI P2 μ μ2 := ⟨h.1, h.2.1, h.2.2.1, h.2.2.2.1, fun x hx j => h.2.2.2.2 x (fun q => hx (hP x q)) j⟩
theorem ChI.s {P : Nat → Prop} {μ : Mem} {a : Nat} {k v : Int} (ha : P a) : ChI P μ (sI μ a k v) := ⟨rfl, rfl, rfl, rfl, fun x hx j => by rw [mI_sI, if_neg (fun (q : x = a ∧ j = k) => hx (by rw [q.1]; exact ha))]⟩
theorem ChI.O {P : Nat → Prop} {μ μ2 : Mem} (h : ChI P μ μ2) {w : WC} {x c : Nat} (ho : IsO w μ x c) : IsO w μ2 x c := ho.eq h.2.2.1 h.2.2.2.1
theorem ChI.A {P : Nat → Prop} {μ μ2 : Mem} (h : ChI P μ μ2) {w : WC} {x t n : Nat} (ho : IsA w μ x t n) : IsA w μ2 x t n := ho.eq h.2.2.1 h.2.2.2.1
theorem ChI.Fo {P : Nat → Prop} {μ μ2 : Mem} (h : ChI P μ μ2) {w : WC} {q : Nat} (hF : FoS w μ q) : FoS w μ2 q := by
  obtain ⟨o0, ⟨r1, r2, r3, r4, r5, r6⟩, a1, a2, a3, a4, a5, a6⟩ := hF
  exact ⟨h.O o0, by rw [h.2.1]; exact ⟨r1, r2, r3, r4, r5, r6⟩, h.A a1, h.A a2, h.A a3, h.A a4, h.A a5, h.A a6⟩
theorem ChI.FI {P : Nat → Prop} {μ μ2 : Mem} (h : ChI P μ μ2) {q : Nat} {ts : List Tm} (hq : ∀ x, q ≤ x → x < q + 7 → ¬ P x) (hF : FI μ q ts) : FI μ2 q ts := by
  have e : ∀ j : Nat, j < 7 → ∀ i, mI μ2 (q + j) i = mI μ (q + j) i := fun j hj i => h.2.2.2.2 (q + j) (hq _ (by omega) (by omega)) i
  obtain ⟨h1, h2, h3, h4⟩ := hF
  refine ⟨(e 0 (by omega) 0).trans h1, h2, h3, fun i u hu => ?_⟩
  obtain ⟨g1, g2, g3, g4, g5, g6⟩ := h4 i u hu
  exact ⟨(e 1 (by omega) _).trans g1, (e 2 (by omega) _).trans g2, (e 3 (by omega) _).trans g3, (e 4 (by omega) _).trans g4, (e 5 (by omega) _).trans g5, (e 6 (by omega) _).trans g6⟩
/-- the seven cells of a Form -/
def In7 (q : Nat) : Nat → Prop := fun x => q ≤ x ∧ x < q + 7
theorem addT_ch (μ : Mem) (q : Nat) (f k l h : Int) : ChI (In7 q) μ (addT μ q f k l h) := by
  unfold addT
  have p : ∀ j : Nat, j < 7 → In7 q (q + j) := fun j hj => ⟨by omega, by omega⟩
  exact (ChI.s (p 1 (by omega))).tr ((ChI.s (p 2 (by omega))).tr ((ChI.s (p 3 (by omega))).tr ((ChI.s (p 4 (by omega))).tr ((ChI.s (p 5 (by omega))).tr ((ChI.s (p 6 (by omega))).tr (ChI.s (p 0 (by omega))))))))
theorem addT_FI {μ : Mem} {q : Nat} {ts : List Tm} (hF : FI μ q ts) (u : Tm) (hu : TOk u) (hn : ts.length < 5) : FI (addT μ q (tF u) (tK u) (tL u) (tH u)) q (ts ++ [u]) := by
  obtain ⟨h1, h2, h3, h4⟩ := hF
  refine ⟨?_, by simp; omega, fun v hv => ?_, fun i v hv => ?_⟩
  · rw [addT, mI_sI, if_pos ⟨rfl, rfl⟩, h1]
    simp
  · rcases List.mem_append.mp hv with hv | hv
    · exact h3 v hv
    · rw [List.mem_singleton.mp hv]
      exact hu
  · by_cases hi : i < ts.length
    · rw [List.getElem?_append_left hi] at hv
      obtain ⟨g1, g2, g3, g4, g5, g6⟩ := h4 i v hv
      have hne : ¬ (i : Int) = mI μ q 0 := by omega
      unfold addT TmAt
      simp only [mI_sI]
      simp [hne, g1, g2, g3, g4, g5, g6]
    · rw [List.getElem?_append_right (by omega)] at hv
      have hz : i - ts.length < 1 := (List.getElem?_eq_some_iff.mp hv).1
      rw [show i - ts.length = 0 by omega] at hv
      simp at hv
      subst hv
      have he : (i : Int) = mI μ q 0 := by omega
      unfold addT TmAt
      simp only [mI_sI]
      simp [he]
theorem TOk.pv {u : Tm} (h : TOk u) : (i32 (tF u) ∧ i32 (tK u) ∧ (i32 (tL u) ∧ tL u ≤ 2147483646) ∧ i32 (tH u) ∧ tH u ≤ 2147483646) ∧ i32 (pv (tK u) (tF u) (tL u)) ∧ i32 (pv (tK u) (tF u) (tH u)) := by
  obtain ⟨h1, h2, h3, h4, h5⟩ := h
  unfold tV at h4 h5
  omega
theorem FI.at {μ : Mem} {q : Nat} {ts : List Tm} (hF : FI μ q ts) {t : Int} (h0 : 0 ≤ t) (h1 : t < ts.length) : ∃ u, ts[t.toNat]? = some u ∧ TOk u ∧ TmAt μ q t u := by
  have hl : t.toNat < ts.length := by omega
  have hg : ts[t.toNat]? = some ts[t.toNat] := List.getElem?_eq_getElem hl
  refine ⟨_, hg, hF.2.2.1 _ (List.getElem_mem hl), ?_⟩
  have := hF.2.2.2 _ _ hg
  rwa [Int.toNat_of_nonneg h0] at this
theorem c_addTermOf (w : WC) (d : Nat) (μ : Mem) {q p : Nat} (hF : FoS w μ q) (hP : FoS w μ p) {ts us : List Tm} (hq : FI μ q ts) (hp : FI μ p us) {t : Int} {u : Tm} (ht : 0 ≤ t ∧ t < us.length) (hu : us[t.toNat]? = some u) (hn : ts.length < 5) : Con w (d + 3) mX1_addTermOf 0 0 [vP (some q), vP (some p), vI t] μ (fun v μ2 => v = none ∧ μ2 = addT μ q (tF u) (tK u) (tL u) (tH u)) := by
  obtain ⟨u', hu', hk, g1, g2, g3, g4, -, -⟩ := hp.at ht.1 ht.2
  cases hu.symm.trans hu'
  have hl := hp.2.1
  have hc : 0 ≤ mI μ q 0 ∧ mI μ q 0 ≤ 4 := by rw [hq.1]; omega
  obtain ⟨⟨k1, k2, k3, k4⟩, k5, k6⟩ := hk.pv
  have hF0 := hF
  have hP0 := hP
  obtain ⟨o0, -, -⟩ := hF
  obtain ⟨p0, ⟨r1, r2, r3, r4, r5, r6⟩, a1, a2, a3, a4, a5, a6⟩ := hP
  refine Con.of (by decide) (Nat.le_of_ble_eq_true rfl) rfl ?_
  refine g_aload_n (j := 0) rfl dX1_addTermOf_0 ?_
  refine g_aload_n (j := 1) rfl dX1_addTermOf_1 ?_
  refine g_getR dX1_addTermOf_2 flX1_9 rfl (by assumption) (kz := 1) rfl (by assumption) ?_
  refine g_iload_n (j := 2) rfl dX1_addTermOf_5 ?_
  refine g_iald dX1_addTermOf_6 (by assumption) (by omega) (by omega) ?_
  refine g_aload_n (j := 1) rfl dX1_addTermOf_7 ?_
  refine g_getR dX1_addTermOf_8 flX1_15 rfl (by assumption) (kz := 2) rfl (by assumption) ?_
  refine g_iload_n (j := 2) rfl dX1_addTermOf_11 ?_
  refine g_iald dX1_addTermOf_12 (by assumption) (by omega) (by omega) ?_
  refine g_aload_n (j := 1) rfl dX1_addTermOf_13 ?_
  refine g_getR dX1_addTermOf_14 flX1_18 rfl (by assumption) (kz := 3) rfl (by assumption) ?_
  refine g_iload_n (j := 2) rfl dX1_addTermOf_17 ?_
  refine g_iald dX1_addTermOf_18 (by assumption) (by omega) (by omega) ?_
  refine g_aload_n (j := 1) rfl dX1_addTermOf_19 ?_
  refine g_getR dX1_addTermOf_20 flX1_21 rfl (by assumption) (kz := 4) rfl (by assumption) ?_
  refine g_iload_n (j := 2) rfl dX1_addTermOf_23 ?_
  refine g_iald dX1_addTermOf_24 (by assumption) (by omega) (by omega) ?_
  rw [g1, g2, g3, g4]
  refine g_callV dX1_addTermOf_25 mlX1_46 mvX1_addNew (ci := 1) ⟨by decide, rfl⟩ (by assumption) (c_addNew w d μ hF0 hc k1 k2 k3 k4 k5 k6) sv4 rfl (by omega) (Nat.le_of_ble_eq_true rfl) (Nat.le_refl _) (Nat.le_refl _) (fun v μ2 hR => ?_)
  obtain ⟨rfl, rfl⟩ := hR
  exact G.retV dX1_addTermOf_28 rfl ⟨rfl, rfl⟩
theorem l_addAll (w : WC) (d : Nat) {q p : Nat} (hpq : p + 7 ≤ q ∨ q + 7 ≤ p) {us : List Tm} (hu5 : us.length ≤ 5) : ∀ (n : Nat) (t : Int) (μ : Mem) (ts : List Tm), 0 ≤ t → t + n = us.length → FoS w μ q → FoS w μ p → FI μ q ts → FI μ p us → ts.length + n ≤ 5 →
    G w (d + 4) mX1_addAll (fun v μ2 => v = none ∧ FI μ2 q (ts ++ us.drop t.toNat) ∧ ChI (In7 q) μ μ2) 0 0 2 [some (vP (some q)), some (vP (some p)), some (vI t)] [] μ := by
  intro n
  induction n with
  | zero =>
    intro t μ ts h0 hn hF hP hq hp h5
    have hpc := hp.1
    have o0 := hP.1
    have hd : us.drop t.toNat = [] := List.drop_eq_nil_of_le (by omega)
    refine g_iload_n (j := 2) rfl dX1_addAll_2 ?_
    refine g_aload_n (j := 1) rfl dX1_addAll_3 ?_
    refine g_getI dX1_addAll_4 flX1_30 rfl (by assumption) (kz := 0) rfl ?_
    refine g_icmp_ge (tgt := 22) dX1_addAll_7 (by decide) (by omega) (by omega) (fun h7 => ?_) (fun h7 => ?_)
    · exact G.retV dX1_addAll_22 rfl ⟨rfl, by rw [hd, List.append_nil]; exact hq, ChI.rf⟩
    · omega
  | succ n ih =>
    intro t μ ts h0 hn hF hP hq hp h5
    have hpc := hp.1
    have o0 := hP.1
    have q0 := hF.1
    obtain ⟨u, hu, hk, -⟩ := hp.at h0 (by omega)
    have hl : t.toNat < us.length := by omega
    have hd : us.drop t.toNat = u :: us.drop (t + 1).toNat := by
      rw [show (t + 1).toNat = t.toNat + 1 by omega, List.drop_eq_getElem_cons hl]
      congr 1
      rw [List.getElem?_eq_getElem hl] at hu
      exact Option.some.inj hu
    have hch := addT_ch μ q (tF u) (tK u) (tL u) (tH u)
    refine g_iload_n (j := 2) rfl dX1_addAll_2 ?_
    refine g_aload_n (j := 1) rfl dX1_addAll_3 ?_
    refine g_getI dX1_addAll_4 flX1_30 rfl (by assumption) (kz := 0) rfl ?_
    refine g_icmp_ge (tgt := 22) dX1_addAll_7 (by decide) (by omega) (by omega) (fun h7 => ?_) (fun h7 => ?_)
    · omega
    · refine g_aload_n (j := 0) rfl dX1_addAll_10 ?_
      refine g_aload_n (j := 1) rfl dX1_addAll_11 ?_
      refine g_iload_n (j := 2) rfl dX1_addAll_12 ?_
      refine g_callV dX1_addAll_13 mlX1_50 mvX1_addTermOf (ci := 1) ⟨by decide, rfl⟩ (by assumption) (c_addTermOf w d μ hF hP hq hp (t := t) (u := u) ⟨h0, by omega⟩ hu (by omega)) sv2 rfl (by omega) (Nat.le_of_ble_eq_true rfl) (Nat.le_refl _) (Nat.le_refl _) (fun v μ2 hR => ?_)
      obtain ⟨rfl, hm⟩ := hR
      replace hm := hm.symm
      subst hm
      refine g_iinc (i := 2) dX1_addAll_16 rfl (by decide) rfl ls2 ?_
      refine g_goto (tgt := 2) (by decide) dX1_addAll_19 ?_
      refine G.post (fun v μ2 hv => ?_) (ih (t + 1) _ (ts ++ [u]) (by omega) (by omega) (hch.Fo hF) (hch.Fo hP) (addT_FI hq u hk (by omega)) (hch.FI (fun x a b c => by unfold In7 at c; omega) hp) (by simp; omega))
      refine ⟨hv.1, ?_, hch.tr hv.2.2⟩
      have := hv.2.1
      rwa [hd, ← List.append_cons, ] at *
theorem c_addAll (w : WC) (d : Nat) (μ : Mem) {q p : Nat} (hpq : p + 7 ≤ q ∨ q + 7 ≤ p) {ts us : List Tm} (hF : FoS w μ q) (hP : FoS w μ p) (hq : FI μ q ts) (hp : FI μ p us) (h5 : ts.length + us.length ≤ 5) : Con w (d + 4) mX1_addAll 0 0 [vP (some q), vP (some p)] μ (fun v μ2 => v = none ∧ FI μ2 q (ts ++ us) ∧ ChI (In7 q) μ μ2) := by
  refine Con.of (by decide) (Nat.le_of_ble_eq_true rfl) rfl ?_
  refine g_iconst dX1_addAll_0 ?_
  refine g_istore_n (j := 2) dX1_addAll_1 (by decide) rfl ls2 ?_
  exact l_addAll w d hpq hp.2.1 us.length 0 μ ts (by omega) (by omega) hF hP hq hp h5
