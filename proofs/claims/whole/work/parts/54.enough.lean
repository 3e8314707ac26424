/-! ENOUGH, NEAREST -/
theorem rsum_comm (f : Int → Int → Int) : ∀ (n1 n2 : Nat) (l1 l2 : Int), rsum (fun x => rsum (fun y => f x y) l2 n2) l1 n1 = rsum (fun y => rsum (fun x => f x y) l1 n1) l2 n2
  | 0, n2, l1, l2 => by
    simp only [rsum]
    exact (rsum_0 _ _ fun _ _ _ => rfl).symm
  | n1 + 1, n2, l1, l2 => by
    rw [rsum, rsum_comm f n1 n2 (l1 + 1) l2, ← rsum_add]
    exact rsum_congr _ _ fun _ _ _ => rfl
theorem rsum_pos {f : Int → Int} : ∀ (n : Nat) (l : Int), (∀ x, 0 ≤ f x) → (0 < rsum f l n ↔ ∃ x, (l ≤ x ∧ x < l + n) ∧ 0 < f x)
  | 0, l, h => by
    rw [rsum]
    exact ⟨fun z => by omega, fun ⟨x, a, _⟩ => by omega⟩
  | n + 1, l, h => by
    have ih := rsum_pos n (l + 1) h
    have h1 := h l
    have h2 := rsum_nn (f := f) n (l + 1) fun x _ _ => h x
    rw [rsum]
    constructor
    · intro z
      by_cases hl : 0 < f l
      · exact ⟨l, by omega, hl⟩
      · obtain ⟨x, a, b⟩ := ih.mp (by omega)
        exact ⟨x, by omega, b⟩
    · rintro ⟨x, a, b⟩
      by_cases hx : x = l
      · subst hx
        omega
      · have := ih.mpr ⟨x, by omega, b⟩
        omega
theorem wy_swap (u v : Tm) (us : List Tm) (n : Int) : wy (u :: v :: us) n = wy (v :: u :: us) n := by
  simp only [wy]
  rw [rsum_comm]
  refine rsum_congr _ _ fun y _ _ => rsum_congr _ _ fun z _ _ => ?_
  congr 1
  omega
theorem wy_cons {us vs : List Tm} (h : ∀ n, wy us n = wy vs n) (u : Tm) (n : Int) : wy (u :: us) n = wy (u :: vs) n := by
  simp only [wy]
  exact rsum_congr _ _ fun x _ _ => h _
theorem wy_end (u : Tm) : ∀ (us : List Tm) (n : Int), wy (us ++ [u]) n = wy (u :: us) n
  | [], n => rfl
  | v :: us, n => by
    rw [wy_swap u v us n]
    exact wy_cons (wy_end u us) v n
theorem wy_rev : ∀ (us : List Tm) (n : Int), wy us.reverse n = wy us n
  | [], n => rfl
  | u :: us, n => by
    rw [List.reverse_cons, wy_end]
    exact wy_cons (wy_rev us) u n
theorem wy_Pa (u : Tm) (hk : TOk u) (us : List Tm) : (fun n => 0 < wy (u :: us) n) = PaI (fun n => 0 < wy us n) u := by
  have hl := hk.2.2.1
  refine funext fun n => propext ?_
  simp only [wy]
  rw [rsum_pos _ _ fun x => wy_nn us _]
  unfold PaI
  exact ⟨fun ⟨x, a, b⟩ => ⟨x, by omega, b⟩, fun ⟨x, a, b⟩ => ⟨x, by omega, b⟩⟩
theorem wy_some : ∀ ts : List Tm, (∀ u ∈ ts, TOk u) → ∃ n, 0 < wy ts n
  | [], _ => ⟨0, by simp [wy]⟩
  | u :: us, h => by
    obtain ⟨n, hn⟩ := wy_some us fun v hv => h v (List.mem_cons_of_mem _ hv)
    have hk := h u List.mem_cons_self
    have hl := hk.2.2.1
    refine ⟨n + tV u (tL u), ?_⟩
    have := congrFun (wy_Pa u hk us) (n + tV u (tL u))
    simp only [this]
    exact ⟨tL u, by omega, by rwa [show n + tV u (tL u) - tV u (tL u) = n by omega]⟩
theorem wy_rng {ts : List Tm} (hok : ∀ u ∈ ts, TOk u) (h5 : ts.length ≤ 5) {n : Int} (h : 0 < wy ts n) : -15000 ≤ n ∧ n ≤ 15000 := by
  have hL : LayOk (fun k => wy ts (k - 15000)) 0 ts := fun s _ _ => by
    show wy ts (30001 * 0 + s - 15000) = _
    congr 1
    omega
  have h1 := atL_wy (s := n + 15000) hok h5 hL
  rw [show n + 15000 - 15000 = n by omega] at h1
  unfold atL at h1
  split at h1 <;> omega
/-- the fewest terms -/
def enF (n : Int) : List Tm → List Tm → Int → Int
  | _, [], _ => -1
  | acc, u :: us, t => if 0 < wy (u :: acc) n then t + 1 else enF n (u :: acc) us (t + 1)
/-- the nearest -/
def neF (p : Int → Bool) (n : Int) : Nat → Int → Int
  | 0, _ => -100000
  | k + 1, e => if p (n - e) = true then n - e else if p (n + e) = true then n + e else neF p n k (e + 1)
def SuOk (μ : Mem) (x : Nat) : Prop := ∃ a b, SuR μ x a b
section EN
variable {w : WC} {d x c N : Nat} {F : Int → List Tm} {μ0 : Mem}
theorem l_enough {s n : Int} (hs : 0 ≤ s ∧ s ≤ 3) (hn : -3000 ≤ n ∧ n ≤ 3000) : ∀ (r : Nat) (t : Int) (acc : List Tm) (μ : Mem) (bA bB : Nat) (lo len : Int), t + r = (F s).length → 0 ≤ t → CA w μ x F c N → FrS x μ0 μ → SuR μ x bA bB → SuI μ x bA (fun n => 0 < wy acc n) lo len → (len ≤ 1 + 6000 * t ∧ -3000 * t ≤ lo ∧ lo ≤ 3000 * t) →
    G w (d + 4) mX11_enough (fun v μ2 => v = some (vI (enF n acc ((F s).drop t.toNat) t)) ∧ FrS x μ0 μ2 ∧ SuOk μ2 x) 0 0 34 [some (vP (some x)), some (vI s), some (vI n), some (vP (some (fA x s))), some (vI t)] [] μ := by
  intro r
  induction r with
  | zero =>
    intro t acc μ bA bB lo len ht h0 h hf hR hI hb
    have ec := (h.fm hs).1
    have of := (h.tps.fs hs).1
    have h5 := h.l5 hs
    have hd : (F s).drop t.toNat = [] := List.drop_eq_nil_of_le (by omega)
    rw [hd]
    refine g_iload (i := 4) rfl dX11_enough_34 ?_
    refine g_aload_n (j := 3) rfl dX11_enough_36 ?_
    refine g_getI dX11_enough_37 flX11_125 rfl (by assumption) (kz := 0) rfl ?_
    refine g_icmp_ge (tgt := 75) dX11_enough_40 (by decide) (by omega) (by omega) (fun h40 => ?_) (fun h40 => ?_)
    · refine g_iconst dX11_enough_75 ?_
      exact G.retI dX11_enough_76 rfl ⟨by rw [enF], hf, bA, bB, hR⟩
    · omega
  | succ r ih =>
    intro t acc μ bA bB lo len ht h0 h hf hR hI hb
    have ec := (h.fm hs).1
    have of := (h.tps.fs hs).1
    have h5 := h.l5 hs
    have hq := fA_bd x hs
    obtain ⟨u, hu, hku, hat⟩ := (h.fm hs).at (t := t) h0 (by omega)
    have hd := drop_at h0 (by omega) hu
    have htl := tLo_bd hku
    have hth := tHi_bd hku
    have ht1 : (t + 1).toNat = t.toNat + 1 := by omega
    rw [hd, enF]
    have o0 := h.tps.o0
    have r9 := h.tps.r0_9
    have o65 := h.tps.o65
    refine g_iload (i := 4) rfl dX11_enough_34 ?_
    refine g_aload_n (j := 3) rfl dX11_enough_36 ?_
    refine g_getI dX11_enough_37 flX11_125 rfl (by assumption) (kz := 0) rfl ?_
    refine g_icmp_ge (tgt := 75) dX11_enough_40 (by decide) (by omega) (by omega) (fun h40 => ?_) (fun h40 => ?_)
    · omega
    · refine g_aload_n (j := 0) rfl dX11_enough_43 ?_
      refine g_getR dX11_enough_44 flX11_74 rfl (by assumption) (kz := 9) rfl (by assumption) ?_
      refine g_aload_n (j := 3) rfl dX11_enough_47 ?_
      refine g_iload (i := 4) rfl dX11_enough_48 ?_
      refine g_callV dX11_enough_50 mlX11_234 mvX8_addTerm (ci := 8) ⟨by decide, rfl⟩ (by assumption) (c_addTerm8 w d μ h.tps hR (h.tps.fs hs) (h.fm hs) (by omega) hI (t := t) h0 (by omega) hku hat (by omega)) sv2 rfl (by omega) (Nat.le_of_ble_eq_true rfl) (Nat.le_refl _) (Nat.le_refl _) (fun v μ2 hR => ?_)
      obtain ⟨rfl, hf2, a2, b2, hR2, hI2⟩ := hR
      rw [← wy_Pa u hku acc] at hI2
      have h2 := hf2.ca h
      have o0b := h2.tps.o0
      have r9b := h2.tps.r0_9
      have o65b := h2.tps.o65
      refine g_aload_n (j := 0) rfl dX11_enough_53 ?_
      refine g_getR dX11_enough_54 flX11_74 rfl (by assumption) (kz := 9) rfl (by assumption) ?_
      refine g_iload_n (j := 2) rfl dX11_enough_57 ?_
      refine g_callV dX11_enough_58 mlX11_237 mvX8_holds (ci := 8) ⟨by decide, rfl⟩ (by assumption) (c_holds w (d + 3) μ2 h2.tps hR2 hI2 (s := n) (by omega)) sv1 rfl (by omega) (Nat.le_of_ble_eq_true rfl) (Nat.le_refl _) (Nat.le_refl _) (fun v μ2 hR => ?_)
      obtain ⟨rfl, hm⟩ := hR
      replace hm := hm.symm
      subst hm
      refine g_ifb_eq (tgt := 69) dX11_enough_61 (by decide)  (fun h61 => ?_) (fun h61 => ?_)
      · refine g_iinc (i := 4) dX11_enough_69 rfl (by decide) rfl ls4 ?_
        refine g_goto (tgt := 34) (by decide) dX11_enough_72 ?_
        rw [if_neg h61]
        exact ih (t + 1) (u :: acc) μ2 a2 b2 _ _ (by omega) (by omega) h2 (hf.tr hf2) hR2 hI2 (by omega)
      · refine g_iload (i := 4) rfl dX11_enough_64 ?_
        refine g_iconst dX11_enough_66 ?_
        refine g_iadd dX11_enough_67 ?_
        exact G.retI dX11_enough_68 rfl ⟨by rw [if_pos h61], hf.tr hf2, a2, b2, hR2⟩
noncomputable def aEnough (F : Int → List Tm) (s n : Int) : Int := cI (HasT F s ∧ -3000 ≤ n ∧ n ≤ 3000) (enF n [] (F s) 0) (-1)
theorem c_X11_enough (w : WC) (d : Nat) (μ : Mem) {x c N : Nat} {F : Int → List Tm} (h : CA w μ x F c N) (hU : SuOk μ x) {s n : Int} (hs : i32 s) (hn : i32 n) : Con w (d + 4) mX11_enough 0 0 [vP (some x), vI s, vI n] μ (fun v μ2 => v = some (vI (aEnough F s n)) ∧ CA w μ2 x F c N ∧ FrS x μ μ2 ∧ SuOk μ2 x) := by
  have o0 := h.tps.o0
  have r1 := h.tps.r0_1
  have a7 := h.tps.a7
  have r9 := h.tps.r0_9
  have o65 := h.tps.o65
  obtain ⟨bA, bB, hR0⟩ := hU
  refine Con.of (by decide) (Nat.le_of_ble_eq_true rfl) rfl ?_
  refine g_aload_n (j := 0) rfl dX11_enough_0 ?_
  refine g_iload_n (j := 1) rfl dX11_enough_1 ?_
  refine g_callV dX11_enough_2 mlX11_128 mvX11_hasTerms (ci := 11) ⟨by decide, rfl⟩ (by assumption) (c_hasTerms w (d + 2) μ h hs) sv1 rfl (by omega) (Nat.le_of_ble_eq_true rfl) (Nat.le_refl _) (Nat.le_refl _) (fun v μ2 hR => ?_)
  obtain ⟨rfl, hm⟩ := hR
  replace hm := hm.symm
  subst hm
  refine g_ifb_eq (tgt := 15) dX11_enough_5 (by decide)  (fun h5 => ?_) (fun h5 => ?_)
  · refine g_iconst dX11_enough_15 ?_
    exact G.retI dX11_enough_16 rfl ⟨by rw [aEnough, cI_f (by first | exact fun z => h5 z.1 | exact fun z => h12 z.2)], h, Fr.rf, bA, bB, hR0⟩
  · refine g_iload_n (j := 2) rfl dX11_enough_8 ?_
    refine g_callS dX11_enough_9 mlX11_174 msX11_isNumber (c_X11_isNumber w (d + 3) μ hn) sk1 rfl (by omega) (Nat.le_of_ble_eq_true rfl) (Nat.le_refl _) (Nat.le_refl _) (fun v μ2 hR => ?_)
    obtain ⟨rfl, hm⟩ := hR
    replace hm := hm.symm
    subst hm
    refine g_ifb_ne (tgt := 17) dX11_enough_12 (by decide)  (fun h12 => ?_) (fun h12 => ?_)
    · have rf := h.tps.rf h5.1
      have hs3 := h5.1
      refine g_aload_n (j := 0) rfl dX11_enough_17 ?_
      refine g_getR dX11_enough_18 flX11_18 rfl (by assumption) (kz := 1) rfl (by assumption) ?_
      refine g_iload_n (j := 1) rfl dX11_enough_21 ?_
      refine g_aald dX11_enough_22 (by assumption) (by omega) (by omega) (by omega) (by assumption) ?_
      refine g_astore_n (j := 3) dX11_enough_23 (by decide) rfl ls3 ?_
      refine g_aload_n (j := 0) rfl dX11_enough_24 ?_
      refine g_getR dX11_enough_25 flX11_74 rfl (by assumption) (kz := 9) rfl (by assumption) ?_
      refine g_callV dX11_enough_28 mlX11_231 mvX8_begin (ci := 8) ⟨by decide, rfl⟩ (by assumption) (c_begin8 w (d + 3) μ h.tps hR0) sv0 rfl (by omega) (Nat.le_of_ble_eq_true rfl) (Nat.le_refl _) (Nat.le_refl _) (fun v μ1 hR => ?_)
      obtain ⟨rfl, hf1, hR1, hI1⟩ := hR
      refine g_iconst dX11_enough_31 ?_
      refine g_istore (i := 4) dX11_enough_32 (by decide) rfl ls4 ?_
      have hI1b : SuI μ1 x bA (fun n => 0 < wy [] n) 0 1 := by
        have e : (fun n => n = 0) = (fun n : Int => 0 < wy [] n) := funext fun n => propext (by unfold wy; split <;> omega)
        rw [← e]
        exact hI1
      have hV : HasT F s ∧ -3000 ≤ n ∧ n ≤ 3000 := ⟨h5, by omega⟩
      refine G.post (fun v μ3 hq => ?_) (l_enough (d := d) (μ0 := μ) h5.1 (by omega) (F s).length 0 [] μ1 bA bB 0 1 (by omega) (by omega) (hf1.ca h) hf1 hR1 hI1b (by omega))
      rw [aEnough, cI_t hV]
      exact ⟨hq.1, hq.2.1.ca h, hq.2⟩
    · refine g_iconst dX11_enough_15 ?_
      exact G.retI dX11_enough_16 rfl ⟨by rw [aEnough, cI_f (by first | exact fun z => h5 z.1 | exact fun z => h12 z.2)], h, Fr.rf, bA, bB, hR0⟩
theorem l_near2 {μ : Mem} {bA bB : Nat} {P : Int → Prop} {lo len s n : Int} {q : Nat} (hT : TPS w μ x) (hR : SuR μ x bA bB) (hI : SuI μ x bA P lo len) (hn : -3000 ≤ n ∧ n ≤ 3000) {p : Int → Bool} (hp : ∀ n, p n = true ↔ P n) : ∀ (k : Nat) (e : Int), e + k = 18001 → 0 ≤ e →
    G w (d + 1) mX11_nearest (fun v μ2 => v = some (vI (neF p n k e)) ∧ μ2 = μ) 0 0 68 [some (vP (some x)), some (vI s), some (vI n), some (vP (some q)), some (vI 18000), some (vI e)] [] μ := by
  have o0 := hT.o0
  have r9 := hT.r0_9
  have o65 := hT.o65
  intro k
  induction k with
  | zero =>
    intro e he h0
    refine g_iload (i := 5) rfl dX11_nearest_68 ?_
    refine g_iload (i := 4) rfl dX11_nearest_70 ?_
    refine g_icmp_gt (tgt := 119) dX11_nearest_72 (by decide) (by omega) (by omega) (fun h72 => ?_) (fun h72 => ?_)
    · refine g_ldc dX11_nearest_119 kcX11_161 (z := -100000) rfl ?_
      exact G.retI dX11_nearest_121 rfl ⟨by rw [neF], rfl⟩
    · omega
  | succ k ih =>
    intro e he h0
    rw [neF]
    refine g_iload (i := 5) rfl dX11_nearest_68 ?_
    refine g_iload (i := 4) rfl dX11_nearest_70 ?_
    refine g_icmp_gt (tgt := 119) dX11_nearest_72 (by decide) (by omega) (by omega) (fun h72 => ?_) (fun h72 => ?_)
    · omega
    · refine g_aload_n (j := 0) rfl dX11_nearest_75 ?_
      refine g_getR dX11_nearest_76 flX11_74 rfl (by assumption) (kz := 9) rfl (by assumption) ?_
      refine g_iload_n (j := 2) rfl dX11_nearest_79 ?_
      refine g_iload (i := 5) rfl dX11_nearest_80 ?_
      refine g_isub dX11_nearest_82 ?_
      refine g_callV dX11_nearest_83 mlX11_237 mvX8_holds (ci := 8) ⟨by decide, rfl⟩ (by assumption) (c_holds w d μ hT hR hI (s := n - e) (by omega)) sv1 rfl (by omega) (Nat.le_of_ble_eq_true rfl) (Nat.le_refl _) (Nat.le_refl _) (fun v μ2 hR => ?_)
      obtain ⟨rfl, hm⟩ := hR
      replace hm := hm.symm
      subst hm
      refine g_ifb_eq (tgt := 94) dX11_nearest_86 (by decide)  (fun h86 => ?_) (fun h86 => ?_)
      · refine g_aload_n (j := 0) rfl dX11_nearest_94 ?_
        refine g_getR dX11_nearest_95 flX11_74 rfl (by assumption) (kz := 9) rfl (by assumption) ?_
        refine g_iload_n (j := 2) rfl dX11_nearest_98 ?_
        refine g_iload (i := 5) rfl dX11_nearest_99 ?_
        refine g_iadd dX11_nearest_101 ?_
        refine g_callV dX11_nearest_102 mlX11_237 mvX8_holds (ci := 8) ⟨by decide, rfl⟩ (by assumption) (c_holds w d μ hT hR hI (s := n + e) (by omega)) sv1 rfl (by omega) (Nat.le_of_ble_eq_true rfl) (Nat.le_refl _) (Nat.le_refl _) (fun v μ2 hR => ?_)
        obtain ⟨rfl, hm⟩ := hR
        replace hm := hm.symm
        subst hm
        refine g_ifb_eq (tgt := 113) dX11_nearest_105 (by decide)  (fun h105 => ?_) (fun h105 => ?_)
        · refine g_iinc (i := 5) dX11_nearest_113 rfl (by decide) rfl ls5 ?_
          refine g_goto (tgt := 68) (by decide) dX11_nearest_116 ?_
          rw [if_neg (fun z => h86 ((hp _).mp z)), if_neg (fun z => h105 ((hp _).mp z))]
          exact ih (e + 1) (by omega) (by omega)
        · refine g_iload_n (j := 2) rfl dX11_nearest_108 ?_
          refine g_iload (i := 5) rfl dX11_nearest_109 ?_
          refine g_iadd dX11_nearest_111 ?_
          exact G.retI dX11_nearest_112 rfl ⟨by rw [if_neg (fun z => h86 ((hp _).mp z)), if_pos ((hp _).mpr h105)], rfl⟩
      · refine g_iload_n (j := 2) rfl dX11_nearest_89 ?_
        refine g_iload (i := 5) rfl dX11_nearest_90 ?_
        refine g_isub dX11_nearest_92 ?_
        exact G.retI dX11_nearest_93 rfl ⟨by rw [if_pos ((hp _).mpr h86)], rfl⟩
theorem l_near1 {s n : Int} (hs : 0 ≤ s ∧ s ≤ 3) {R : Option AV → Mem → Prop} (kk : ∀ (μ : Mem) (bA bB : Nat) (lo len : Int) (x4 : Option AV), FrS x μ0 μ → CA w μ x F c N → SuR μ x bA bB → SuI μ x bA (fun n => 0 < wy (F s).reverse n) lo len → G w (d + 4) mX11_nearest R 0 0 60 [some (vP (some x)), some (vI s), some (vI n), some (vP (some (fA x s))), x4, none] [] μ) : ∀ (r : Nat) (t : Int) (acc : List Tm) (μ : Mem) (bA bB : Nat) (lo len : Int), t + r = (F s).length → 0 ≤ t → CA w μ x F c N → FrS x μ0 μ → SuR μ x bA bB → SuI μ x bA (fun n => 0 < wy acc n) lo len → (len ≤ 1 + 6000 * t ∧ -3000 * t ≤ lo ∧ lo ≤ 3000 * t) → (F s).reverse = ((F s).drop t.toNat).reverse ++ acc →
    G w (d + 4) mX11_nearest R 0 0 35 [some (vP (some x)), some (vI s), some (vI n), some (vP (some (fA x s))), some (vI t), none] [] μ := by
  intro r
  induction r with
  | zero =>
    intro t acc μ bA bB lo len ht h0 h hf hR hI hb hacc
    have ec := (h.fm hs).1
    have of := (h.tps.fs hs).1
    have h5 := h.l5 hs
    have hd : (F s).drop t.toNat = [] := List.drop_eq_nil_of_le (by omega)
    rw [hd] at hacc
    simp only [List.reverse_nil, List.nil_append] at hacc
    refine g_iload (i := 4) rfl dX11_nearest_35 ?_
    refine g_aload_n (j := 3) rfl dX11_nearest_37 ?_
    refine g_getI dX11_nearest_38 flX11_125 rfl (by assumption) (kz := 0) rfl ?_
    refine g_icmp_ge (tgt := 60) dX11_nearest_41 (by decide) (by omega) (by omega) (fun h41 => ?_) (fun h41 => ?_)
    · exact kk μ bA bB lo len _ hf h hR (by rw [hacc]; exact hI)
    · omega
  | succ r ih =>
    intro t acc μ bA bB lo len ht h0 h hf hR hI hb hacc
    have ec := (h.fm hs).1
    have of := (h.tps.fs hs).1
    have h5 := h.l5 hs
    have hq := fA_bd x hs
    obtain ⟨u, hu, hku, hat⟩ := (h.fm hs).at (t := t) h0 (by omega)
    have hd := drop_at h0 (by omega) hu
    have htl := tLo_bd hku
    have hth := tHi_bd hku
    rw [hd, List.reverse_cons, List.append_assoc] at hacc
    have o0 := h.tps.o0
    have r9 := h.tps.r0_9
    have o65 := h.tps.o65
    refine g_iload (i := 4) rfl dX11_nearest_35 ?_
    refine g_aload_n (j := 3) rfl dX11_nearest_37 ?_
    refine g_getI dX11_nearest_38 flX11_125 rfl (by assumption) (kz := 0) rfl ?_
    refine g_icmp_ge (tgt := 60) dX11_nearest_41 (by decide) (by omega) (by omega) (fun h41 => ?_) (fun h41 => ?_)
    · omega
    · refine g_aload_n (j := 0) rfl dX11_nearest_44 ?_
      refine g_getR dX11_nearest_45 flX11_74 rfl (by assumption) (kz := 9) rfl (by assumption) ?_
      refine g_aload_n (j := 3) rfl dX11_nearest_48 ?_
      refine g_iload (i := 4) rfl dX11_nearest_49 ?_
      refine g_callV dX11_nearest_51 mlX11_234 mvX8_addTerm (ci := 8) ⟨by decide, rfl⟩ (by assumption) (c_addTerm8 w d μ h.tps hR (h.tps.fs hs) (h.fm hs) (by omega) hI (t := t) h0 (by omega) hku hat (by omega)) sv2 rfl (by omega) (Nat.le_of_ble_eq_true rfl) (Nat.le_refl _) (Nat.le_refl _) (fun v μ2 hR => ?_)
      obtain ⟨rfl, hf2, a2, b2, hR2, hI2⟩ := hR
      rw [← wy_Pa u hku acc] at hI2
      have h2 := hf2.ca h
      refine g_iinc (i := 4) dX11_nearest_54 rfl (by decide) rfl ls4 ?_
      refine g_goto (tgt := 35) (by decide) dX11_nearest_57 ?_
      exact ih (t + 1) (u :: acc) μ2 a2 b2 _ _ (by omega) (by omega) h2 (hf.tr hf2) hR2 hI2 (by omega) hacc
noncomputable def aNear (F : Int → List Tm) (s n : Int) : Int := cI (HasT F s ∧ -3000 ≤ n ∧ n ≤ 3000) (neF (fun n => decide (0 < wy (F s) n)) n 18001 0) (-100000)
theorem c_X11_nearest (w : WC) (d : Nat) (μ : Mem) {x c N : Nat} {F : Int → List Tm} (h : CA w μ x F c N) (hU : SuOk μ x) {s n : Int} (hs : i32 s) (hn : i32 n) : Con w (d + 4) mX11_nearest 0 0 [vP (some x), vI s, vI n] μ (fun v μ2 => v = some (vI (aNear F s n)) ∧ CA w μ2 x F c N ∧ FrS x μ μ2 ∧ SuOk μ2 x) := by
  have o0 := h.tps.o0
  have r1 := h.tps.r0_1
  have a7 := h.tps.a7
  have r9 := h.tps.r0_9
  have o65 := h.tps.o65
  obtain ⟨bA, bB, hR0⟩ := hU
  refine Con.of (by decide) (Nat.le_of_ble_eq_true rfl) rfl ?_
  refine g_aload_n (j := 0) rfl dX11_nearest_0 ?_
  refine g_iload_n (j := 1) rfl dX11_nearest_1 ?_
  refine g_callV dX11_nearest_2 mlX11_128 mvX11_hasTerms (ci := 11) ⟨by decide, rfl⟩ (by assumption) (c_hasTerms w (d + 2) μ h hs) sv1 rfl (by omega) (Nat.le_of_ble_eq_true rfl) (Nat.le_refl _) (Nat.le_refl _) (fun v μ2 hR => ?_)
  obtain ⟨rfl, hm⟩ := hR
  replace hm := hm.symm
  subst hm
  refine g_ifb_eq (tgt := 15) dX11_nearest_5 (by decide)  (fun h5 => ?_) (fun h5 => ?_)
  · refine g_ldc dX11_nearest_15 kcX11_161 (z := -100000) rfl ?_
    exact G.retI dX11_nearest_17 rfl ⟨by rw [aNear, cI_f (by first | exact fun z => h5 z.1 | exact fun z => h12 z.2)], h, Fr.rf, bA, bB, hR0⟩
  · refine g_iload_n (j := 2) rfl dX11_nearest_8 ?_
    refine g_callS dX11_nearest_9 mlX11_174 msX11_isNumber (c_X11_isNumber w (d + 3) μ hn) sk1 rfl (by omega) (Nat.le_of_ble_eq_true rfl) (Nat.le_refl _) (Nat.le_refl _) (fun v μ2 hR => ?_)
    obtain ⟨rfl, hm⟩ := hR
    replace hm := hm.symm
    subst hm
    refine g_ifb_ne (tgt := 18) dX11_nearest_12 (by decide)  (fun h12 => ?_) (fun h12 => ?_)
    · have rf := h.tps.rf h5.1
      have hs3 := h5.1
      refine g_aload_n (j := 0) rfl dX11_nearest_18 ?_
      refine g_getR dX11_nearest_19 flX11_18 rfl (by assumption) (kz := 1) rfl (by assumption) ?_
      refine g_iload_n (j := 1) rfl dX11_nearest_22 ?_
      refine g_aald dX11_nearest_23 (by assumption) (by omega) (by omega) (by omega) (by assumption) ?_
      refine g_astore_n (j := 3) dX11_nearest_24 (by decide) rfl ls3 ?_
      refine g_aload_n (j := 0) rfl dX11_nearest_25 ?_
      refine g_getR dX11_nearest_26 flX11_74 rfl (by assumption) (kz := 9) rfl (by assumption) ?_
      refine g_callV dX11_nearest_29 mlX11_231 mvX8_begin (ci := 8) ⟨by decide, rfl⟩ (by assumption) (c_begin8 w (d + 3) μ h.tps hR0) sv0 rfl (by omega) (Nat.le_of_ble_eq_true rfl) (Nat.le_refl _) (Nat.le_refl _) (fun v μ1 hR => ?_)
      obtain ⟨rfl, hf1, hR1, hI1⟩ := hR
      refine g_iconst dX11_nearest_32 ?_
      refine g_istore (i := 4) dX11_nearest_33 (by decide) rfl ls4 ?_
      have hI1b : SuI μ1 x bA (fun n => 0 < wy [] n) 0 1 := by
        have e : (fun n => n = 0) = (fun n : Int => 0 < wy [] n) := funext fun n => propext (by unfold wy; split <;> omega)
        rw [← e]
        exact hI1
      have hV : HasT F s ∧ -3000 ≤ n ∧ n ≤ 3000 := ⟨h5, by omega⟩
      refine l_near1 (d := d) (μ0 := μ) h5.1 (fun μ2 a2 b2 lo len x4 hf2 h2 hR2 hI2 => ?_) (F s).length 0 [] μ1 bA bB 0 1 (by omega) (by omega) (hf1.ca h) hf1 hR1 hI1b (by omega) (by simp)
      refine g_sipush dX11_nearest_60 (by omega) ?_
      refine g_istore (i := 4) dX11_nearest_63 (by decide) rfl ls4 ?_
      refine g_iconst dX11_nearest_65 ?_
      refine g_istore (i := 5) dX11_nearest_66 (by decide) rfl ls5 ?_
      refine G.post (fun v μ3 hq => ?_) (l_near2 (d := d + 3) h2.tps hR2 hI2 (by omega) (p := fun n => decide (0 < wy (F s) n)) (fun n => by rw [wy_rev]; simp) 18001 0 (by omega) (by omega))
      obtain ⟨rfl, rfl⟩ := hq
      rw [aNear, cI_t hV]
      exact ⟨rfl, h2, hf2, a2, b2, hR2⟩
    · refine g_ldc dX11_nearest_15 kcX11_161 (z := -100000) rfl ?_
      exact G.retI dX11_nearest_17 rfl ⟨by rw [aNear, cI_f (by first | exact fun z => h5 z.1 | exact fun z => h12 z.2)], h, Fr.rf, bA, bB, hR0⟩
end EN
section EM
variable {w : WC} {d m : Nat} {F : Int → List Tm} {R : Option AV → Mem → Prop}
theorem l12_near {μ : Mem} {ts : List Tm} (hM : MoS w μ m) (hL : LaidOk (mL μ (m + 4)) ts) (hok : ∀ u ∈ ts, TOk u) (h5 : ts.length ≤ 5) {s n : Int} (hn : -3000 ≤ n ∧ n ≤ 3000) : ∀ (k : Nat) (e : Int), e + k = 18001 → 0 ≤ e → (∃ a, (e ≤ a ∧ a ≤ 18000) ∧ (0 < wy ts (n - a) ∨ 0 < wy ts (n + a))) →
    G w (d + 2) mX12_nearest (fun v μ2 => v = some (vI (neF (fun n => decide (0 < wy ts n)) n k e)) ∧ μ2 = μ) 0 0 26 [some (vP (some m)), some (vI s), some (vI n), some (vI e)] [] μ := by
  have o0 := hM.o
  intro k
  induction k with
  | zero =>
    intro e he h0 ⟨a, ha, _⟩
    omega
  | succ k ih =>
    intro e he h0 hx
    have w1 := wy_64 hok h5 (n - e)
    have w2 := wy_64 hok h5 (n + e)
    rw [neF]
    refine g_aload_n (j := 0) rfl dX12_nearest_26 ?_
    refine g_iconst dX12_nearest_27 ?_
    refine g_iload_n (j := 2) rfl dX12_nearest_28 ?_
    refine g_iload_n (j := 3) rfl dX12_nearest_29 ?_
    refine g_isub dX12_nearest_30 ?_
    refine g_sipush dX12_nearest_31 (by omega) ?_
    refine g_iadd dX12_nearest_34 ?_
    refine g_i2l (by omega) dX12_nearest_35 ?_
    refine g_callV dX12_nearest_36 mlX12_262 mvX12_at (ci := 12) ⟨by decide, rfl⟩ (by assumption) (c_X12_atT w d μ hM hL hok h5 (t := 0) (s := n - e + 15000) (by omega) (by omega)) sv2 rfl (by omega) (Nat.le_of_ble_eq_true rfl) (Nat.le_refl _) (Nat.le_refl _) (fun v μ2 hR => ?_)
    obtain ⟨rfl, hm⟩ := hR
    replace hm := hm.symm
    subst hm
    rw [show ts.drop (0 : Int).toNat = ts from rfl, show n - e + 15000 - 15000 = n - e by omega]
    refine g_lconst0 dX12_nearest_39 ?_
    refine g_lif_ne (tgt := 68) dX12_nearest_40 dX12_nearest_41 (by decide) (by omega) (by omega) (fun h40 => ?_) (fun h40 => ?_)
    · refine g_aload_n (j := 0) rfl dX12_nearest_68 ?_
      refine g_iconst dX12_nearest_69 ?_
      refine g_iload_n (j := 2) rfl dX12_nearest_70 ?_
      refine g_iload_n (j := 3) rfl dX12_nearest_71 ?_
      refine g_isub dX12_nearest_72 ?_
      refine g_sipush dX12_nearest_73 (by omega) ?_
      refine g_iadd dX12_nearest_76 ?_
      refine g_i2l (by omega) dX12_nearest_77 ?_
      refine g_callV dX12_nearest_78 mlX12_262 mvX12_at (ci := 12) ⟨by decide, rfl⟩ (by assumption) (c_X12_atT w d μ hM hL hok h5 (t := 0) (s := n - e + 15000) (by omega) (by omega)) sv2 rfl (by omega) (Nat.le_of_ble_eq_true rfl) (Nat.le_refl _) (Nat.le_refl _) (fun v μ2 hR => ?_)
      obtain ⟨rfl, hm⟩ := hR
      replace hm := hm.symm
      subst hm
      rw [show ts.drop (0 : Int).toNat = ts from rfl, show n - e + 15000 - 15000 = n - e by omega]
      refine g_lconst0 dX12_nearest_81 ?_
      refine g_lif_le (tgt := 92) dX12_nearest_82 dX12_nearest_83 (by decide) (by omega) (by omega) (fun h82 => ?_) (fun h82 => ?_)
      · refine g_iload_n (j := 2) rfl dX12_nearest_92 ?_
        refine g_iload_n (j := 3) rfl dX12_nearest_93 ?_
        refine g_iadd dX12_nearest_94 ?_
        first
        | (exfalso; omega)
        | exact G.retI dX12_nearest_95 rfl ⟨by rw [if_pos (by simp only [decide_eq_true_eq]; omega)], rfl⟩
        | exact G.retI dX12_nearest_95 rfl ⟨by rw [if_neg (by simp only [decide_eq_true_eq]; omega), if_pos (by simp only [decide_eq_true_eq]; omega)], rfl⟩
      · refine g_iload_n (j := 2) rfl dX12_nearest_86 ?_
        refine g_iload_n (j := 3) rfl dX12_nearest_87 ?_
        refine g_isub dX12_nearest_88 ?_
        refine g_goto (tgt := 95) (by decide) dX12_nearest_89 ?_
        first
        | (exfalso; omega)
        | exact G.retI dX12_nearest_95 rfl ⟨by rw [if_pos (by simp only [decide_eq_true_eq]; omega)], rfl⟩
        | exact G.retI dX12_nearest_95 rfl ⟨by rw [if_neg (by simp only [decide_eq_true_eq]; omega), if_pos (by simp only [decide_eq_true_eq]; omega)], rfl⟩
    · refine g_aload_n (j := 0) rfl dX12_nearest_44 ?_
      refine g_iconst dX12_nearest_45 ?_
      refine g_iload_n (j := 2) rfl dX12_nearest_46 ?_
      refine g_iload_n (j := 3) rfl dX12_nearest_47 ?_
      refine g_iadd dX12_nearest_48 ?_
      refine g_sipush dX12_nearest_49 (by omega) ?_
      refine g_iadd dX12_nearest_52 ?_
      refine g_i2l (by omega) dX12_nearest_53 ?_
      refine g_callV dX12_nearest_54 mlX12_262 mvX12_at (ci := 12) ⟨by decide, rfl⟩ (by assumption) (c_X12_atT w d μ hM hL hok h5 (t := 0) (s := n + e + 15000) (by omega) (by omega)) sv2 rfl (by omega) (Nat.le_of_ble_eq_true rfl) (Nat.le_refl _) (Nat.le_refl _) (fun v μ2 hR => ?_)
      obtain ⟨rfl, hm⟩ := hR
      replace hm := hm.symm
      subst hm
      rw [show ts.drop (0 : Int).toNat = ts from rfl, show n + e + 15000 - 15000 = n + e by omega]
      refine g_lconst0 dX12_nearest_57 ?_
      refine g_lif_ne (tgt := 68) dX12_nearest_58 dX12_nearest_59 (by decide) (by omega) (by omega) (fun h58 => ?_) (fun h58 => ?_)
      · refine g_aload_n (j := 0) rfl dX12_nearest_68 ?_
        refine g_iconst dX12_nearest_69 ?_
        refine g_iload_n (j := 2) rfl dX12_nearest_70 ?_
        refine g_iload_n (j := 3) rfl dX12_nearest_71 ?_
        refine g_isub dX12_nearest_72 ?_
        refine g_sipush dX12_nearest_73 (by omega) ?_
        refine g_iadd dX12_nearest_76 ?_
        refine g_i2l (by omega) dX12_nearest_77 ?_
        refine g_callV dX12_nearest_78 mlX12_262 mvX12_at (ci := 12) ⟨by decide, rfl⟩ (by assumption) (c_X12_atT w d μ hM hL hok h5 (t := 0) (s := n - e + 15000) (by omega) (by omega)) sv2 rfl (by omega) (Nat.le_of_ble_eq_true rfl) (Nat.le_refl _) (Nat.le_refl _) (fun v μ2 hR => ?_)
        obtain ⟨rfl, hm⟩ := hR
        replace hm := hm.symm
        subst hm
        rw [show ts.drop (0 : Int).toNat = ts from rfl, show n - e + 15000 - 15000 = n - e by omega]
        refine g_lconst0 dX12_nearest_81 ?_
        refine g_lif_le (tgt := 92) dX12_nearest_82 dX12_nearest_83 (by decide) (by omega) (by omega) (fun h82 => ?_) (fun h82 => ?_)
        · refine g_iload_n (j := 2) rfl dX12_nearest_92 ?_
          refine g_iload_n (j := 3) rfl dX12_nearest_93 ?_
          refine g_iadd dX12_nearest_94 ?_
          first
          | (exfalso; omega)
          | exact G.retI dX12_nearest_95 rfl ⟨by rw [if_pos (by simp only [decide_eq_true_eq]; omega)], rfl⟩
          | exact G.retI dX12_nearest_95 rfl ⟨by rw [if_neg (by simp only [decide_eq_true_eq]; omega), if_pos (by simp only [decide_eq_true_eq]; omega)], rfl⟩
        · refine g_iload_n (j := 2) rfl dX12_nearest_86 ?_
          refine g_iload_n (j := 3) rfl dX12_nearest_87 ?_
          refine g_isub dX12_nearest_88 ?_
          refine g_goto (tgt := 95) (by decide) dX12_nearest_89 ?_
          first
          | (exfalso; omega)
          | exact G.retI dX12_nearest_95 rfl ⟨by rw [if_pos (by simp only [decide_eq_true_eq]; omega)], rfl⟩
          | exact G.retI dX12_nearest_95 rfl ⟨by rw [if_neg (by simp only [decide_eq_true_eq]; omega), if_pos (by simp only [decide_eq_true_eq]; omega)], rfl⟩
      · refine g_iinc (i := 3) dX12_nearest_62 rfl (by decide) rfl ls3 ?_
        refine g_goto (tgt := 26) (by decide) dX12_nearest_65 ?_
        rw [if_neg (by simp only [decide_eq_true_eq]; omega), if_neg (by simp only [decide_eq_true_eq]; omega)]
        obtain ⟨a, ha, hb⟩ := hx
        refine ih (e + 1) (by omega) (by omega) ⟨a, ?_, hb⟩
        have : ¬ a = e := fun z => by subst z; omega
        omega
theorem c_X12_nearest (w : WC) (d : Nat) (μ : Mem) {m : Nat} {F : Int → List Tm} (hA : MA w μ m F) {s n : Int} (hs : i32 s) (hn : i32 n) : Con w (d + 5) mX12_nearest 0 0 [vP (some m), vI s, vI n] μ (Bm w μ m F (vI (aNear F s n))) := by
  have o0 := hA.o
  refine Con.of (by decide) (Nat.le_of_ble_eq_true rfl) rfl ?_
  refine g_aload_n (j := 0) rfl dX12_nearest_0 ?_
  refine g_iload_n (j := 1) rfl dX12_nearest_1 ?_
  refine g_callV dX12_nearest_2 mlX12_274 mvX12_isForm (ci := 12) ⟨by decide, rfl⟩ (by assumption) (c_X12_isForm w (d + 2) μ hA hs) sv1 rfl (by omega) (Nat.le_of_ble_eq_true rfl) (Nat.le_refl _) (Nat.le_refl _) (fun v μ2 hR => ?_)
  obtain ⟨rfl, hm⟩ := hR
  replace hm := hm.symm
  subst hm
  refine g_ifb_eq (tgt := 15) dX12_nearest_5 (by decide)  (fun h5 => ?_) (fun h5 => ?_)
  · refine g_ldcw dX12_nearest_15 kcX12_321 (z := -100000) rfl ?_
    exact G.retI dX12_nearest_18 rfl (by rw [aNear, cI_f (by first | exact fun z => h5 z.1 | exact fun z => h12 z.2)]; exact Bm.no hA)
  · refine g_iload_n (j := 2) rfl dX12_nearest_8 ?_
    refine g_callS dX12_nearest_9 mlX12_277 msX12_isN (c_X12_isN w (d + 3) μ hn) sk1 rfl (by omega) (Nat.le_of_ble_eq_true rfl) (Nat.le_refl _) (Nat.le_refl _) (fun v μ2 hR => ?_)
    obtain ⟨rfl, hm⟩ := hR
    replace hm := hm.symm
    subst hm
    refine g_ifb_ne (tgt := 19) dX12_nearest_12 (by decide)  (fun h12 => ?_) (fun h12 => ?_)
    · refine g_aload_n (j := 0) rfl dX12_nearest_19 ?_
      refine g_iload_n (j := 1) rfl dX12_nearest_20 ?_
      refine g_callV dX12_nearest_21 mlX12_282 mvX12_lays (ci := 12) ⟨by decide, rfl⟩ (by assumption) (c_X12_lays w d μ hA h5.1) sv1 rfl (by omega) (Nat.le_of_ble_eq_true rfl) (Nat.le_refl _) (Nat.le_refl _) (fun v μ1 hR => ?_)
      obtain ⟨rfl, hA1, hL1, hf1⟩ := hR
      have o0b := hA1.o
      refine g_iconst dX12_nearest_24 ?_
      refine g_istore_n (j := 3) dX12_nearest_25 (by decide) rfl ls3 ?_
      have hV : HasT F s ∧ -3000 ≤ n ∧ n ≤ 3000 := ⟨h5, by omega⟩
      obtain ⟨e, he⟩ := wy_some (F s) (hA.ok h5.1)
      have hr := wy_rng (hA.ok h5.1) (hA.l5 h5.1) he
      refine G.post (fun v μ3 hq => ?_) (l12_near (d := d + 3) hA1.1 hL1 (hA.ok h5.1) (hA.l5 h5.1) (n := n) (by omega) 18001 0 (by omega) (by omega) ?_)
      · obtain ⟨rfl, rfl⟩ := hq
        rw [aNear, cI_t hV]
        exact Bm.l hA1 hf1
      · by_cases hen : e ≤ n
        · exact ⟨n - e, by omega, Or.inl (by rwa [show n - (n - e) = e by omega])⟩
        · exact ⟨e - n, by omega, Or.inr (by rwa [show n + (e - n) = e by omega])⟩
    · refine g_ldcw dX12_nearest_15 kcX12_321 (z := -100000) rfl ?_
      exact G.retI dX12_nearest_18 rfl (by rw [aNear, cI_f (by first | exact fun z => h5 z.1 | exact fun z => h12 z.2)]; exact Bm.no hA)
/-- what lays anew, with nothing laid -/
def FrL (m : Nat) (μ μ2 : Mem) : Prop := FrM m (fun a => a = m + 4) (fun j => j = 21) μ μ2 ∧ mI μ2 m 21 = -1
theorem FrL.MA {μ μ2 : Mem} (h : FrL m μ μ2) (hA : MA w μ m F) : MA w μ2 m F := by
  obtain ⟨hf, h21⟩ := h
  obtain ⟨hM, hF, -, u1, u2⟩ := hA
  have e1 : ∀ j, mI μ2 (m + 1) j = mI μ (m + 1) j := hf.1.I hM.a0.2.1 (by omega)
  have e2 : ∀ j, mI μ2 (m + 2) j = mI μ (m + 2) j := hf.1.I hM.a1.2.1 (by omega)
  have e23 : mI μ2 m 23 = mI μ m 23 := hf.2.1 23 (by omega)
  have e5 : ∀ j, mL μ2 (m + 5) j = mL μ (m + 5) j := hf.1.L hM.a24.2.1 (by omega)
  refine ⟨hf.Mo hM, fun s hs => (hF s hs).eq (e1 s) (fun j _ _ => e2 j), ⟨by omega, fun z => by omega⟩, by rw [e23]; exact u1, ?_⟩
  rw [e23, show mL μ2 (m + 5) = mL μ (m + 5) from funext e5]
  exact u2
theorem l12_enC {μ1 : Mem} (hA : MA w μ1 m F) {s n t : Int} (kk : ∀ (g : Int → Int) (x4 : Option AV), (∀ k, g k = if 30001 ≤ k ∧ k < 60002 then mL μ1 (m + 4) (k - 30001) else mL μ1 (m + 4) k) → G w (d + 4) mX12_enough R 0 0 74 [some (vP (some m)), some (vI s), some (vI n), some (vI t), x4] [] (wL μ1 (m + 4) g)) : ∀ (r : Nat) (k : Int) (g : Int → Int), k + r = 30001 → 0 ≤ k → (∀ j, g j = if 30001 ≤ j ∧ j < 30001 + k then mL μ1 (m + 4) (j - 30001) else mL μ1 (m + 4) j) →
    G w (d + 4) mX12_enough R 0 0 42 [some (vP (some m)), some (vI s), some (vI n), some (vI t), some (vI k)] [] (wL μ1 (m + 4) g) := by
  have o0 := hA.o
  have r22 := hA.1.r22
  have a22 := hA.1.a22
  intro r
  induction r with
  | zero =>
    intro k g hk h0 hg
    refine g_iload (i := 4) rfl dX12_enough_42 ?_
    refine g_sipush dX12_enough_44 (by omega) ?_
    refine g_icmp_ge (tgt := 74) dX12_enough_47 (by decide) (by omega) (by omega) (fun h47 => ?_) (fun h47 => ?_)
    · refine kk g _ fun j => ?_
      rw [hg j, show 30001 + k = 60002 by omega]
    · omega
  | succ r ih =>
    intro k g hk h0 hg
    have hgk : g k = mL μ1 (m + 4) k := by rw [hg, if_neg (by omega)]
    refine g_iload (i := 4) rfl dX12_enough_42 ?_
    refine g_sipush dX12_enough_44 (by omega) ?_
    refine g_icmp_ge (tgt := 74) dX12_enough_47 (by decide) (by omega) (by omega) (fun h47 => ?_) (fun h47 => ?_)
    · omega
    · refine g_aload_n (j := 0) rfl dX12_enough_50 ?_
      refine g_getR dX12_enough_51 flX12_35 rfl (by simp only [IsO_sI, IsO_sL, IsO_sR, IsO_wI, IsO_wL, IsA_sI, IsA_sL, IsA_sR, IsA_wI, IsA_wL, mR_sI, mR_sL, mR_wI, mR_wL]; assumption) (kz := 22) rfl (by simp only [IsO_sI, IsO_sL, IsO_sR, IsO_wI, IsO_wL, IsA_sI, IsA_sL, IsA_sR, IsA_wI, IsA_wL, mR_sI, mR_sL, mR_wI, mR_wL]; assumption) ?_
      refine g_sipush dX12_enough_54 (by omega) ?_
      refine g_iload (i := 4) rfl dX12_enough_57 ?_
      refine g_iadd dX12_enough_59 ?_
      refine g_aload_n (j := 0) rfl dX12_enough_60 ?_
      refine g_getR dX12_enough_61 flX12_35 rfl (by simp only [IsO_sI, IsO_sL, IsO_sR, IsO_wI, IsO_wL, IsA_sI, IsA_sL, IsA_sR, IsA_wI, IsA_wL, mR_sI, mR_sL, mR_wI, mR_wL]; assumption) (kz := 22) rfl (by simp only [IsO_sI, IsO_sL, IsO_sR, IsO_wI, IsO_wL, IsA_sI, IsA_sL, IsA_sR, IsA_wI, IsA_wL, mR_sI, mR_sL, mR_wI, mR_wL]; assumption) ?_
      refine g_iload (i := 4) rfl dX12_enough_64 ?_
      refine g_laldv dX12_enough_66 (by simp only [IsO_sI, IsO_sL, IsO_sR, IsO_wI, IsO_wL, IsA_sI, IsA_sL, IsA_sR, IsA_wI, IsA_wL, mR_sI, mR_sL, mR_wI, mR_wL]; assumption) (by omega) (by omega) (by simp [mI_sI, mI_sL, mI_sR, mI_wI, mI_wL, mL_sI, mL_sL, mL_sR, mL_wI, mL_wL, hgk]; rfl) ?_
      refine g_last dX12_enough_67 (by simp only [IsO_sI, IsO_sL, IsO_sR, IsO_wI, IsO_wL, IsA_sI, IsA_sL, IsA_sR, IsA_wI, IsA_wL, mR_sI, mR_sL, mR_wI, mR_wL]; assumption) (by omega) (by omega) ?_
      refine g_iinc (i := 4) dX12_enough_68 rfl (by decide) rfl ls4 ?_
      refine g_goto (tgt := 42) (by decide) dX12_enough_71 ?_
      rw [sL_wL]
      refine ih (k + 1) _ (by omega) (by omega) fun j => ?_
      show (if j = 30001 + k then _ else g j) = _
      by_cases hj : j = 30001 + k
      · rw [if_pos hj, if_pos (by omega)]
        congr 1
        omega
      · rw [if_neg hj, hg j]
        by_cases hy : 30001 ≤ j ∧ j < 30001 + k
        · rw [if_pos hy, if_pos (by omega)]
        · rw [if_neg hy, if_neg (by omega)]
theorem l12_enough {μ0 : Mem} (hA0 : MA w μ0 m F) {s n : Int} (hs : 0 ≤ s ∧ s ≤ 3) (hn : -3000 ≤ n ∧ n ≤ 3000) : ∀ (r : Nat) (t : Int) (acc : List Tm) (μ : Mem) (x4 : Option AV), t + r = (F s).length → 0 ≤ t → FrL m μ0 μ → LayOk (mL μ (m + 4)) 0 acc → acc.length = t.toNat → (∀ u ∈ acc, TOk u) →
    G w (d + 4) mX12_enough (fun v μ2 => v = some (vI (enF n acc ((F s).drop t.toNat) t)) ∧ FrL m μ0 μ2) 0 0 29 [some (vP (some m)), some (vI s), some (vI n), some (vI t), x4] [] μ := by
  intro r
  induction r with
  | zero =>
    intro t acc μ x4 ht h0 hf hL hac hok
    have hA := hf.MA hA0
    have o0 := hA.o
    have r0 := hA.1.r0
    have a0 := hA.1.a0
    have ec := (hA.2.1 s hs).1
    have h5 := hA.l5 hs
    have hd : (F s).drop t.toNat = [] := List.drop_eq_nil_of_le (by omega)
    rw [hd]
    refine g_iload_n (j := 3) rfl dX12_enough_29 ?_
    refine g_aload_n (j := 0) rfl dX12_enough_30 ?_
    refine g_getR dX12_enough_31 flX12_9 rfl (by assumption) (kz := 0) rfl (by assumption) ?_
    refine g_iload_n (j := 1) rfl dX12_enough_34 ?_
    refine g_iald dX12_enough_35 (by assumption) (by omega) (by omega) ?_
    refine g_icmp_ge (tgt := 128) dX12_enough_36 (by decide) (by omega) (by omega) (fun h36 => ?_) (fun h36 => ?_)
    · refine g_iconst dX12_enough_128 ?_
      exact G.retI dX12_enough_129 rfl ⟨by rw [enF], hf⟩
    · omega
  | succ r ih =>
    intro t acc μ x4 ht h0 hf hL hac hok
    have hA := hf.MA hA0
    have o0 := hA.o
    have r0 := hA.1.r0
    have a0 := hA.1.a0
    have ec := (hA.2.1 s hs).1
    have h5 := hA.l5 hs
    obtain ⟨u, hu, hku, -⟩ := (hA.2.1 s hs).at (t := t) h0 (by omega)
    have hd := drop_at h0 (by omega) hu
    rw [hd, enF]
    refine g_iload_n (j := 3) rfl dX12_enough_29 ?_
    refine g_aload_n (j := 0) rfl dX12_enough_30 ?_
    refine g_getR dX12_enough_31 flX12_9 rfl (by assumption) (kz := 0) rfl (by assumption) ?_
    refine g_iload_n (j := 1) rfl dX12_enough_34 ?_
    refine g_iald dX12_enough_35 (by assumption) (by omega) (by omega) ?_
    refine g_icmp_ge (tgt := 128) dX12_enough_36 (by decide) (by omega) (by omega) (fun h36 => ?_) (fun h36 => ?_)
    · omega
    · refine g_iconst dX12_enough_39 ?_
      refine g_istore (i := 4) dX12_enough_40 (by decide) rfl ls4 ?_
      have key := l12_enC (d := d) (R := fun v μ2 => v = some (vI (if 0 < wy (u :: acc) n then t + 1 else enF n (u :: acc) ((F s).drop (t + 1).toNat) (t + 1))) ∧ FrL m μ0 μ2) hA (s := s) (n := n) (t := t) (fun g x4 hg => ?_) 30001 0 (mL μ (m + 4)) (by omega) (by omega) (fun j => by rw [if_neg (by omega)])
      · rw [wL_eta] at key
        exact key
      have hf1 : FrL m μ0 (wL μ (m + 4) g) := ⟨hf.1.tr (FrM.wL rfl (by omega)), hf.2⟩
      have hL1 : LayOk (mL (wL μ (m + 4) g) (m + 4)) 1 acc := fun k z1 z2 => by
        rw [mL_wL, if_pos rfl, hg, if_pos (by omega), ← hL k z1 z2]
        congr 1
        omega
      generalize wL μ (m + 4) g = μ1 at *
      have hA1 := hf1.MA hA0
      obtain ⟨v2, hv2, -, e0, e1, e2, e3⟩ := (hA1.2.1 s hs).at (t := t) h0 (by omega)
      cases hu.symm.trans hv2
      have o0b := hA1.o
      have hok2 : ∀ v ∈ u :: acc, TOk v := fun v hv => (List.mem_cons.mp hv).elim (fun z => by rw [z]; exact hku) (hok v)
      refine g_aload_n (j := 0) rfl dX12_enough_74 ?_
      refine g_iconst dX12_enough_75 ?_
      refine g_iconst dX12_enough_76 ?_
      refine g_aload_n (j := 0) rfl dX12_enough_77 ?_
      refine g_iload_n (j := 1) rfl dX12_enough_78 ?_
      refine g_iload_n (j := 3) rfl dX12_enough_79 ?_
      refine g_iconst dX12_enough_80 ?_
      refine g_callV dX12_enough_81 mlX12_93 mvX12_of (ci := 12) ⟨by decide, rfl⟩ (by assumption) (c_X12_of w (d + 3) μ1 hA1.1 (s := s) (i := t) (k := 0) (by omega) (by omega) (by omega)) sv3 rfl (by omega) (Nat.le_of_ble_eq_true rfl) (Nat.le_refl _) (Nat.le_refl _) (fun v μ2 hR => ?_)
      obtain ⟨rfl, hm⟩ := hR
      replace hm := hm.symm
      subst hm
      rw [e0]
      refine g_aload_n (j := 0) rfl dX12_enough_84 ?_
      refine g_iload_n (j := 1) rfl dX12_enough_85 ?_
      refine g_iload_n (j := 3) rfl dX12_enough_86 ?_
      refine g_iconst dX12_enough_87 ?_
      refine g_callV dX12_enough_88 mlX12_93 mvX12_of (ci := 12) ⟨by decide, rfl⟩ (by assumption) (c_X12_of w (d + 3) μ1 hA1.1 (s := s) (i := t) (k := 1) (by omega) (by omega) (by omega)) sv3 rfl (by omega) (Nat.le_of_ble_eq_true rfl) (Nat.le_refl _) (Nat.le_refl _) (fun v μ2 hR => ?_)
      obtain ⟨rfl, hm⟩ := hR
      replace hm := hm.symm
      subst hm
      rw [e1]
      refine g_aload_n (j := 0) rfl dX12_enough_91 ?_
      refine g_iload_n (j := 1) rfl dX12_enough_92 ?_
      refine g_iload_n (j := 3) rfl dX12_enough_93 ?_
      refine g_iconst dX12_enough_94 ?_
      refine g_callV dX12_enough_95 mlX12_93 mvX12_of (ci := 12) ⟨by decide, rfl⟩ (by assumption) (c_X12_of w (d + 3) μ1 hA1.1 (s := s) (i := t) (k := 2) (by omega) (by omega) (by omega)) sv3 rfl (by omega) (Nat.le_of_ble_eq_true rfl) (Nat.le_refl _) (Nat.le_refl _) (fun v μ2 hR => ?_)
      obtain ⟨rfl, hm⟩ := hR
      replace hm := hm.symm
      subst hm
      rw [e2]
      refine g_aload_n (j := 0) rfl dX12_enough_98 ?_
      refine g_iload_n (j := 1) rfl dX12_enough_99 ?_
      refine g_iload_n (j := 3) rfl dX12_enough_100 ?_
      refine g_iconst dX12_enough_101 ?_
      refine g_callV dX12_enough_102 mlX12_93 mvX12_of (ci := 12) ⟨by decide, rfl⟩ (by assumption) (c_X12_of w (d + 3) μ1 hA1.1 (s := s) (i := t) (k := 3) (by omega) (by omega) (by omega)) sv3 rfl (by omega) (Nat.le_of_ble_eq_true rfl) (Nat.le_refl _) (Nat.le_refl _) (fun v μ2 hR => ?_)
      obtain ⟨rfl, hm⟩ := hR
      replace hm := hm.symm
      subst hm
      rw [e3]
      refine g_callV dX12_enough_105 mlX12_270 mvX12_laysLayer (ci := 12) ⟨by decide, rfl⟩ (by assumption) (c_laysLayer (d := d) hA1.1 hok2 (by omega) (l := 0) (j := 1) (by omega) (by omega) (by omega) hL1) sv6 rfl (by omega) (Nat.le_of_ble_eq_true rfl) (Nat.le_refl _) (Nat.le_refl _) (fun v μ2 hR => ?_)
      obtain ⟨rfl, g2, hg2, hm2⟩ := hR
      have hf2 : FrL m μ0 μ2 := by
        rw [hm2]
        exact ⟨hf1.1.tr (FrM.wL rfl (by omega)), hf1.2⟩
      have hA2 := hf2.MA hA0
      have o0c := hA2.o
      have hL2 : LayOk (mL μ2 (m + 4)) 0 (u :: acc) := fun k z1 z2 => by
        rw [hm2, mL_wL, if_pos rfl, hg2, if_pos (by omega)]
        congr 1
        omega
      have hl6 : (u :: acc).length ≤ 5 := by rw [List.length_cons]; omega
      have hwn := wy_64 hok2 hl6 n
      refine g_aload_n (j := 0) rfl dX12_enough_108 ?_
      refine g_iload_n (j := 2) rfl dX12_enough_109 ?_
      refine g_callV dX12_enough_110 mlX12_285 mvX12_waysOf (ci := 12) ⟨by decide, rfl⟩ (by assumption) ((c_X12_waysOf w (d + 1) μ2 hA2.1 (n := n) (by omega)).post (fun v μ3 hq => (⟨by rw [hq.1, atL_wy hok2 hl6 hL2, show n + 15000 - 15000 = n by omega], hq.2⟩ : v = some (vJ (wy (u :: acc) n)) ∧ μ3 = μ2))) sv1 rfl (by omega) (Nat.le_of_ble_eq_true rfl) (Nat.le_refl _) (Nat.le_refl _) (fun v μ2 hR => ?_)
      obtain ⟨rfl, hm⟩ := hR
      replace hm := hm.symm
      subst hm
      refine g_lconst0 dX12_enough_113 ?_
      refine g_lif_le (tgt := 122) dX12_enough_114 dX12_enough_115 (by decide) (by omega) (by omega) (fun h114 => ?_) (fun h114 => ?_)
      · refine g_iinc (i := 3) dX12_enough_122 rfl (by decide) rfl ls3 ?_
        refine g_goto (tgt := 29) (by decide) dX12_enough_125 ?_
        rw [if_neg (by omega)]
        exact ih (t + 1) (u :: acc) μ2 _ (by omega) (by omega) hf2 hL2 (by rw [List.length_cons]; omega) hok2
      · refine g_iload_n (j := 3) rfl dX12_enough_118 ?_
        refine g_iconst dX12_enough_119 ?_
        refine g_iadd dX12_enough_120 ?_
        exact G.retI dX12_enough_121 rfl ⟨by rw [if_pos (by omega)], hf2⟩
theorem c_X12_enough (w : WC) (d : Nat) (μ : Mem) {m : Nat} {F : Int → List Tm} (hA : MA w μ m F) {s n : Int} (hs : i32 s) (hn : i32 n) : Con w (d + 4) mX12_enough 0 0 [vP (some m), vI s, vI n] μ (Bm w μ m F (vI (aEnough F s n))) := by
  have o0 := hA.o
  refine Con.of (by decide) (Nat.le_of_ble_eq_true rfl) rfl ?_
  refine g_aload_n (j := 0) rfl dX12_enough_0 ?_
  refine g_iload_n (j := 1) rfl dX12_enough_1 ?_
  refine g_callV dX12_enough_2 mlX12_274 mvX12_isForm (ci := 12) ⟨by decide, rfl⟩ (by assumption) (c_X12_isForm w (d + 1) μ hA hs) sv1 rfl (by omega) (Nat.le_of_ble_eq_true rfl) (Nat.le_refl _) (Nat.le_refl _) (fun v μ2 hR => ?_)
  obtain ⟨rfl, hm⟩ := hR
  replace hm := hm.symm
  subst hm
  refine g_ifb_eq (tgt := 15) dX12_enough_5 (by decide)  (fun h5 => ?_) (fun h5 => ?_)
  · refine g_iconst dX12_enough_15 ?_
    exact G.retI dX12_enough_16 rfl (by rw [aEnough, cI_f (by first | exact fun z => h5 z.1 | exact fun z => h12 z.2)]; exact Bm.no hA)
  · refine g_iload_n (j := 2) rfl dX12_enough_8 ?_
    refine g_callS dX12_enough_9 mlX12_277 msX12_isN (c_X12_isN w (d + 2) μ hn) sk1 rfl (by omega) (Nat.le_of_ble_eq_true rfl) (Nat.le_refl _) (Nat.le_refl _) (fun v μ2 hR => ?_)
    obtain ⟨rfl, hm⟩ := hR
    replace hm := hm.symm
    subst hm
    refine g_ifb_ne (tgt := 17) dX12_enough_12 (by decide)  (fun h12 => ?_) (fun h12 => ?_)
    · refine g_aload_n (j := 0) rfl dX12_enough_17 ?_
      refine g_iconst dX12_enough_18 ?_
      refine g_putI dX12_enough_19 fpX12_31 rfl rfl rfl (by assumption) (kz := 21) rfl ?_
      have hf1 : FrL m μ (sI μ m 21 (-1)) := ⟨FrM.sI rfl, by rw [mI_sI, if_pos ⟨rfl, rfl⟩]⟩
      have hM1 := hf1.1.Mo hA.1
      refine g_aload_n (j := 0) rfl dX12_enough_22 ?_
      refine g_iconst dX12_enough_23 ?_
      refine g_callV dX12_enough_24 mlX12_267 mvX12_laysNought (ci := 12) ⟨by decide, rfl⟩ (by simp only [IsO_sI, IsO_sL, IsO_sR, IsO_wI, IsO_wL, IsA_sI, IsA_sL, IsA_sR, IsA_wI, IsA_wL, mR_sI, mR_sL, mR_wI, mR_wL]; assumption) (c_laysNought w (d + 3) (sI μ m 21 (-1)) hM1 (l := 0) (by omega)) sv1 rfl (by omega) (Nat.le_of_ble_eq_true rfl) (Nat.le_refl _) (Nat.le_refl _) (fun v μ2 hR => ?_)
      obtain ⟨rfl, hm2⟩ := hR
      have hf2 : FrL m μ μ2 := by
        rw [hm2]
        exact ⟨hf1.1.tr (FrM.wL rfl (by omega)), hf1.2⟩
      have hL2 : LayOk (mL μ2 (m + 4)) 0 [] := fun k z1 z2 => by
        rw [hm2, mL_wL, if_pos rfl]
        unfold nuF wy
        rw [if_pos (by omega)]
        split <;> split <;> omega
      refine g_iconst dX12_enough_27 ?_
      refine g_istore_n (j := 3) dX12_enough_28 (by decide) rfl ls3 ?_
      have hV : HasT F s ∧ -3000 ≤ n ∧ n ≤ 3000 := ⟨h5, by omega⟩
      refine G.post (fun v μ3 hq => ?_) (l12_enough (d := d) hA h5.1 (n := n) (by omega) (F s).length 0 [] μ2 _ (by omega) (by omega) hf2 hL2 rfl (fun u hu => by simp at hu))
      rw [aEnough, cI_t hV]
      exact ⟨hq.1, hq.2.MA hA, hq.2.1.mono (fun a z => by unfold Cm; omega) (fun j z => Or.inl z)⟩
    · refine g_iconst dX12_enough_15 ?_
      exact G.retI dX12_enough_16 rfl (by rw [aEnough, cI_f (by first | exact fun z => h5 z.1 | exact fun z => h12 z.2)]; exact Bm.no hA)
end EM
