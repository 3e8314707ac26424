/-! THE CLASS: ways, missed, full, gap, rank -/
theorem rm_le {V : Prop} {k bs M : Nat} (h1 : V → bs = k) (h2 : ¬ V → bs = 0) (h : V → k ≤ M) : bs ≤ M := by
  by_cases z : V
  · rw [h1 z]
    exact h z
  · rw [h2 z]
    exact Nat.zero_le M
theorem CA.pt {w : WC} {μ : Mem} {x c N : Nat} {F : Int → List Tm} {s : Int} (h : CA w μ x F c N) (hs : 0 ≤ s ∧ s ≤ 3) : cwB N (F s) + pot (nxN N (F s)) ≤ pot N := (pot_step h.2.2.1.2.1 (h.ok hs) (h.l5 hs)).1
noncomputable def aWays (F : Int → List Tm) (s n : Int) : Int := cI (HasT F s ∧ -3000 ≤ n ∧ n ≤ 3000) (wy (F s) n) (-1)
theorem c_X11_ways (w : WC) (d : Nat) (μ : Mem) {x c N : Nat} {F : Int → List Tm} (h : CA w μ x F c N) {s : Int} (hs : i32 s) {n : Int} (hn : i32 n) : ∃ bs, bs ≤ 12002 + pot N ∧ Con w (d + 5) mX11_ways 2 bs [vP (some x), vI s, vI n] μ (Am w μ x F N bs (vJ (aWays F s n))) := by
  obtain ⟨bs, hb1, hb2⟩ := room2 (HasT F s ∧ -3000 ≤ n ∧ n ≤ 3000) (6001 + cwB N (F s))
  refine ⟨bs, (rm_le hb1 hb2 fun z => by have := h.pt (show 0 ≤ s ∧ s ≤ 3 by first | exact z.1.1 | exact z.1); omega), ?_⟩
  have o0 := h.tps.o0
  refine Con.of (by decide) (Nat.le_of_ble_eq_true rfl) rfl ?_
  refine g_aload_n (j := 0) rfl dX11_ways_0 ?_
  refine g_iload_n (j := 1) rfl dX11_ways_1 ?_
  refine g_callV dX11_ways_2 mlX11_128 mvX11_hasTerms (ci := 11) ⟨by decide, rfl⟩ (by assumption) (c_hasTerms w d μ h hs) sv1 rfl (by omega) (Nat.le_of_ble_eq_true rfl) (Nat.le_refl _) (Nat.le_refl _) (fun v μ2 hR => ?_)
  obtain ⟨rfl, hm⟩ := hR
  replace hm := hm.symm
  subst hm
  refine g_ifb_eq (tgt := 15) dX11_ways_5 (by decide)  (fun h5 => ?_) (fun h5 => ?_)
  · refine g_ldc2 dX11_ways_15 klX11_177 (z := -1) rfl ?_
    rw [hb2 (by first | exact fun z => h5 z.1 | exact fun z => h12 (by omega))]
    exact G.retJ dX11_ways_18 rfl (by rw [aWays, cI_f (by first | exact fun z => h5 z.1 | exact fun z => h12 (by omega))]; exact Am.no h)
  · refine g_iload_n (j := 2) rfl dX11_ways_8 ?_
    refine g_callS dX11_ways_9 mlX11_174 msX11_isNumber (c_X11_isNumber w d μ (by assumption)) sk1 rfl (by omega) (Nat.le_of_ble_eq_true rfl) (Nat.le_refl _) (Nat.le_refl _) (fun v μ2 hR => ?_)
    obtain ⟨rfl, hm⟩ := hR
    replace hm := hm.symm
    subst hm
    refine g_ifb_ne (tgt := 19) dX11_ways_12 (by decide)  (fun h12 => ?_) (fun h12 => ?_)
    · have hV : HasT F s ∧ -3000 ≤ n ∧ n ≤ 3000 := ⟨h5, by omega⟩
      have hbs := hb1 hV
      subst hbs
      refine g_aload_n (j := 0) rfl dX11_ways_19 ?_
      refine g_iload_n (j := 1) rfl dX11_ways_20 ?_
      refine g_callV dX11_ways_21 mlX11_131 mvX11_wayCounts (ci := 11) ⟨by decide, rfl⟩ (by assumption) (c_wayCounts w d μ h h5.1) sv1 rfl (by omega) (Nat.le_of_ble_eq_true rfl) (bc1 := 0) (bs1 := 0) (by omega) (by omega) (fun v μ2 hR => ?_)
      obtain ⟨a, c2, rfl, h2, ha, hr, -, hf⟩ := hR
      refine g_iload_n (j := 2) rfl dX11_ways_24 ?_
      refine g_sipush dX11_ways_25 (by omega) ?_
      refine g_iadd dX11_ways_28 ?_
      refine g_lald dX11_ways_29 (by assumption) (by omega) (by omega) ?_
      rw [hr n (by omega) (by omega)]
      exact G.retJ dX11_ways_30 rfl (by rw [aWays, cI_t hV]; exact Am.wc h h5.1 h2 hf)
    · refine g_ldc2 dX11_ways_15 klX11_177 (z := -1) rfl ?_
      rw [hb2 (by first | exact fun z => h5 z.1 | exact fun z => h12 (by omega))]
      exact G.retJ dX11_ways_18 rfl (by rw [aWays, cI_f (by first | exact fun z => h5 z.1 | exact fun z => h12 (by omega))]; exact Am.no h)
section LP
variable {w : WC} {d : Nat} {μ : Mem} {a : Nat} {ts : List Tm} {bc bs : Nat} (ha : IsA w μ a 15 6001) (hr : RowW μ a ts) (hok : ∀ u ∈ ts, TOk u) (h5 : ts.length ≤ 5)
theorem l_missed (ha : IsA w μ a 15 6001) (hr : RowW μ a ts) (hok : ∀ u ∈ ts, TOk u) (h5 : ts.length ≤ 5) {s fr to i : Int} {p : Option Nat} (hi : i32 i) (ht : to ≤ 3000) : ∀ (k : Nat) (n f : Int), n + k = to + 1 → -3000 ≤ n → 0 ≤ f → f + k ≤ 7000 →
    G w d mX11_missed (fun v μ2 => v = some (vI (pick (fun n => decide (wy ts n = 0)) i (-100000) k n f)) ∧ μ2 = μ) bc bs 38 [some (vP p), some (vI s), some (vI fr), some (vI to), some (vI i), some (vP (some a)), some (vI f), some (vI n)] [] μ := by
  intro k
  induction k with
  | zero =>
    intro n f hn h0 hf hf2
    refine g_iload (i := 7) rfl dX11_missed_38 ?_
    refine g_iload_n (j := 3) rfl dX11_missed_40 ?_
    refine g_icmp_gt (tgt := 77) dX11_missed_41 (by decide) (by omega) (by omega) (fun h41 => ?_) (fun h41 => ?_)
    · refine g_iload (i := 4) rfl dX11_missed_77 ?_
      refine g_iconst dX11_missed_79 ?_
      refine g_icmp_ne (tgt := 88) dX11_missed_80 (by decide) (by omega) (by omega) (fun h80 => ?_) (fun h80 => ?_)
      · refine g_ldc dX11_missed_88 kcX11_161 (z := -100000) rfl ?_
        exact G.retI dX11_missed_90 rfl ⟨by rw [pick, if_neg h80], rfl⟩
      · refine g_iload (i := 6) rfl dX11_missed_83 ?_
        refine g_goto (tgt := 90) (by decide) dX11_missed_85 ?_
        exact G.retI dX11_missed_90 rfl ⟨by rw [pick, if_pos h80], rfl⟩
    · omega
  | succ k ih =>
    intro n f hn h0 hf hf2
    have hw := wy_64 hok h5 n
    have hrn := hr n h0 (by omega)
    refine g_iload (i := 7) rfl dX11_missed_38 ?_
    refine g_iload_n (j := 3) rfl dX11_missed_40 ?_
    refine g_icmp_gt (tgt := 77) dX11_missed_41 (by decide) (by omega) (by omega) (fun h41 => ?_) (fun h41 => ?_)
    · omega
    · refine g_aload (i := 5) rfl dX11_missed_44 ?_
      refine g_iload (i := 7) rfl dX11_missed_46 ?_
      refine g_sipush dX11_missed_48 (by omega) ?_
      refine g_iadd dX11_missed_51 ?_
      refine g_lald dX11_missed_52 (by assumption) (by omega) (by omega) ?_
      rw [hrn]
      refine g_lconst0 dX11_missed_53 ?_
      refine g_lif_ne (tgt := 71) dX11_missed_54 dX11_missed_55 (by decide) (by omega) (by omega) (fun h54 => ?_) (fun h54 => ?_)
      · refine g_iinc (i := 7) dX11_missed_71 rfl (by decide) rfl ls7 ?_
        refine g_goto (tgt := 38) (by decide) dX11_missed_74 ?_
        rw [pick, if_neg (by simpa using h54)]
        exact ih (n + 1) f (by omega) (by omega) (by omega) (by omega)
      · refine g_iload (i := 6) rfl dX11_missed_58 ?_
        refine g_iload (i := 4) rfl dX11_missed_60 ?_
        refine g_icmp_ne (tgt := 68) dX11_missed_62 (by decide) (by omega) (by omega) (fun h62 => ?_) (fun h62 => ?_)
        · refine g_iinc (i := 6) dX11_missed_68 rfl (by decide) rfl ls6 ?_
          refine g_iinc (i := 7) dX11_missed_71 rfl (by decide) rfl ls7 ?_
          refine g_goto (tgt := 38) (by decide) dX11_missed_74 ?_
          rw [pick, if_pos (by simpa using h54), if_neg h62]
          exact ih (n + 1) (f + 1) (by omega) (by omega) (by omega) (by omega)
        · refine g_iload (i := 7) rfl dX11_missed_65 ?_
          exact G.retI dX11_missed_67 rfl ⟨by rw [pick, if_pos (by simpa using h54), if_pos h62], rfl⟩
end LP
noncomputable def aMissed (F : Int → List Tm) (s fr to i : Int) : Int := cI (HasT F s ∧ ((-3000 ≤ fr ∧ fr ≤ 3000) ∧ (-3000 ≤ to ∧ to ≤ 3000) ∧ fr ≤ to) ∧ -1 ≤ i) (pick (fun n => decide (wy (F s) n = 0)) i (-100000) (to - fr + 1).toNat fr 0) (-100000)
theorem c_X11_missed (w : WC) (d : Nat) (μ : Mem) {x c N : Nat} {F : Int → List Tm} (h : CA w μ x F c N) {s : Int} (hs : i32 s) {fr : Int} (hfr : i32 fr) {to : Int} (hto : i32 to) {i : Int} (hi : i32 i) : ∃ bs, bs ≤ 12002 + pot N ∧ Con w (d + 5) mX11_missed 2 bs [vP (some x), vI s, vI fr, vI to, vI i] μ (Am w μ x F N bs (vI (aMissed F s fr to i))) := by
  obtain ⟨bs, hb1, hb2⟩ := room2 (HasT F s ∧ ((-3000 ≤ fr ∧ fr ≤ 3000) ∧ (-3000 ≤ to ∧ to ≤ 3000) ∧ fr ≤ to) ∧ -1 ≤ i) (6001 + cwB N (F s))
  refine ⟨bs, (rm_le hb1 hb2 fun z => by have := h.pt (show 0 ≤ s ∧ s ≤ 3 by first | exact z.1.1 | exact z.1); omega), ?_⟩
  have o0 := h.tps.o0
  refine Con.of (by decide) (Nat.le_of_ble_eq_true rfl) rfl ?_
  refine g_aload_n (j := 0) rfl dX11_missed_0 ?_
  refine g_iload_n (j := 1) rfl dX11_missed_1 ?_
  refine g_callV dX11_missed_2 mlX11_128 mvX11_hasTerms (ci := 11) ⟨by decide, rfl⟩ (by assumption) (c_hasTerms w d μ h hs) sv1 rfl (by omega) (Nat.le_of_ble_eq_true rfl) (Nat.le_refl _) (Nat.le_refl _) (fun v μ2 hR => ?_)
  obtain ⟨rfl, hm⟩ := hR
  replace hm := hm.symm
  subst hm
  refine g_ifb_eq (tgt := 22) dX11_missed_5 (by decide)  (fun h5 => ?_) (fun h5 => ?_)
  · refine g_ldc dX11_missed_22 kcX11_161 (z := -100000) rfl ?_
    have hN : ¬ (HasT F s ∧ ((-3000 ≤ fr ∧ fr ≤ 3000) ∧ (-3000 ≤ to ∧ to ≤ 3000) ∧ fr ≤ to) ∧ -1 ≤ i) := by
      intro z
      first | exact h5 z.1 | exact h13 z.2.1 | exact h16 z.2.1 | omega
    rw [hb2 hN]
    exact G.retI dX11_missed_24 rfl (by rw [aMissed, cI_f hN]; exact Am.no h)
  · refine g_iload_n (j := 2) rfl dX11_missed_8 ?_
    refine g_iload_n (j := 3) rfl dX11_missed_9 ?_
    refine g_callS dX11_missed_10 mlX11_194 msX11_isRange (c_X11_isRange w d μ (by assumption) (by assumption)) sk2 rfl (by omega) (Nat.le_of_ble_eq_true rfl) (Nat.le_refl _) (Nat.le_refl _) (fun v μ2 hR => ?_)
    obtain ⟨rfl, hm⟩ := hR
    replace hm := hm.symm
    subst hm
    refine g_ifb_eq (tgt := 22) dX11_missed_13 (by decide)  (fun h13 => ?_) (fun h13 => ?_)
    · refine g_ldc dX11_missed_22 kcX11_161 (z := -100000) rfl ?_
      have hN : ¬ (HasT F s ∧ ((-3000 ≤ fr ∧ fr ≤ 3000) ∧ (-3000 ≤ to ∧ to ≤ 3000) ∧ fr ≤ to) ∧ -1 ≤ i) := by
        intro z
        first | exact h5 z.1 | exact h13 z.2.1 | exact h16 z.2.1 | omega
      rw [hb2 hN]
      exact G.retI dX11_missed_24 rfl (by rw [aMissed, cI_f hN]; exact Am.no h)
    · refine g_iload (i := 4) rfl dX11_missed_16 ?_
      refine g_iconst dX11_missed_18 ?_
      refine g_icmp_ge (tgt := 25) dX11_missed_19 (by decide) (by omega) (by omega) (fun h19 => ?_) (fun h19 => ?_)
      · have hV : HasT F s ∧ ((-3000 ≤ fr ∧ fr ≤ 3000) ∧ (-3000 ≤ to ∧ to ≤ 3000) ∧ fr ≤ to) ∧ -1 ≤ i := ⟨h5, h13, by omega⟩
        have hbs := hb1 hV
        subst hbs
        refine g_aload_n (j := 0) rfl dX11_missed_25 ?_
        refine g_iload_n (j := 1) rfl dX11_missed_26 ?_
        refine g_callV dX11_missed_27 mlX11_131 mvX11_wayCounts (ci := 11) ⟨by decide, rfl⟩ (by assumption) (c_wayCounts w d μ h hV.1.1) sv1 rfl (by omega) (Nat.le_of_ble_eq_true rfl) (bc1 := 0) (bs1 := 0) (by omega) (by omega) (fun v μ2 hR => ?_)
        obtain ⟨a, c2, rfl, h2, ha, hr, -, hf⟩ := hR
        refine g_astore (i := 5) dX11_missed_30 (by decide) rfl ls5 ?_
        refine g_iconst dX11_missed_32 ?_
        refine g_istore (i := 6) dX11_missed_33 (by decide) rfl ls6 ?_
        refine g_iload_n (j := 2) rfl dX11_missed_35 ?_
        refine g_istore (i := 7) dX11_missed_36 (by decide) rfl ls7 ?_
        refine G.post (fun v μ3 hq => ?_) (l_missed ha hr (h2.ok hV.1.1) (h2.l5 hV.1.1) hi hV.2.1.2.1.2 (to - fr + 1).toNat fr 0 (by omega) (by omega) (by omega) (by omega))
        obtain ⟨rfl, rfl⟩ := hq
        rw [aMissed, cI_t hV]
        exact Am.wc h hV.1.1 h2 hf
      · refine g_ldc dX11_missed_22 kcX11_161 (z := -100000) rfl ?_
        have hN : ¬ (HasT F s ∧ ((-3000 ≤ fr ∧ fr ≤ 3000) ∧ (-3000 ≤ to ∧ to ≤ 3000) ∧ fr ≤ to) ∧ -1 ≤ i) := by
          intro z
          first | exact h5 z.1 | exact h13 z.2.1 | exact h16 z.2.1 | omega
        rw [hb2 hN]
        exact G.retI dX11_missed_24 rfl (by rw [aMissed, cI_f hN]; exact Am.no h)
theorem l_full {w : WC} {d : Nat} {μ : Mem} {a : Nat} {ts : List Tm} {bc bs : Nat} (ha : IsA w μ a 15 6001) (hr : RowW μ a ts) (hok : ∀ u ∈ ts, TOk u) (h5 : ts.length ≤ 5) {s : Int} {p : Option Nat} : ∀ (k : Nat) (n l : Int), n + 1 = k → n ≤ 3000 →
    G w d mX11_full (fun v μ2 => v = some (vI (fuF (wy ts) k l)) ∧ μ2 = μ) bc bs 23 [some (vP p), some (vI s), some (vP (some a)), some (vI l), some (vI n)] [] μ := by
  intro k
  induction k with
  | zero =>
    intro n l hn h3
    refine g_iload (i := 4) rfl dX11_full_23 ?_
    refine g_if_lt (tgt := 50) dX11_full_25 (by decide) (by omega) (fun h25 => ?_) (fun h25 => ?_)
    · refine g_iload_n (j := 3) rfl dX11_full_50 ?_
      exact G.retI dX11_full_51 rfl ⟨rfl, rfl⟩
    · omega
  | succ k ih =>
    intro n l hn h3
    have hw := wy_64 hok h5 n
    have hrn := hr n (by omega) h3
    have hnk : n = (k : Int) := by omega
    refine g_iload (i := 4) rfl dX11_full_23 ?_
    refine g_if_lt (tgt := 50) dX11_full_25 (by decide) (by omega) (fun h25 => ?_) (fun h25 => ?_)
    · omega
    · refine g_aload_n (j := 2) rfl dX11_full_28 ?_
      refine g_iload (i := 4) rfl dX11_full_29 ?_
      refine g_sipush dX11_full_31 (by omega) ?_
      refine g_iadd dX11_full_34 ?_
      refine g_lald dX11_full_35 (by assumption) (by omega) (by omega) ?_
      rw [hrn]
      refine g_lconst0 dX11_full_36 ?_
      refine g_lif_le (tgt := 50) dX11_full_37 dX11_full_38 (by decide) (by omega) (by omega) (fun h37 => ?_) (fun h37 => ?_)
      · refine g_iload_n (j := 3) rfl dX11_full_50 ?_
        exact G.retI dX11_full_51 rfl ⟨by rw [fuF, if_neg (by rw [← hnk]; omega)], rfl⟩
      · refine g_iload (i := 4) rfl dX11_full_41 ?_
        refine g_istore_n (j := 3) dX11_full_43 (by decide) rfl ls3 ?_
        refine g_iinc (i := 4) dX11_full_44 rfl (by decide) rfl ls4 ?_
        refine g_goto (tgt := 23) (by decide) dX11_full_47 ?_
        rw [fuF, if_pos (by rw [← hnk]; omega)]
        have := ih (n + -1) n (by omega) (by omega)
        rw [← hnk]
        exact this
noncomputable def aFull (F : Int → List Tm) (s : Int) : Int := cI (HasT F s) (fuF (wy (F s)) 3001 (-1)) (-1)
theorem c_X11_full (w : WC) (d : Nat) (μ : Mem) {x c N : Nat} {F : Int → List Tm} (h : CA w μ x F c N) {s : Int} (hs : i32 s) : ∃ bs, bs ≤ 12002 + pot N ∧ Con w (d + 5) mX11_full 2 bs [vP (some x), vI s] μ (Am w μ x F N bs (vI (aFull F s))) := by
  obtain ⟨bs, hb1, hb2⟩ := room2 (HasT F s) (6001 + cwB N (F s))
  refine ⟨bs, (rm_le hb1 hb2 fun z => by have := h.pt (show 0 ≤ s ∧ s ≤ 3 by first | exact z.1.1 | exact z.1); omega), ?_⟩
  have o0 := h.tps.o0
  refine Con.of (by decide) (Nat.le_of_ble_eq_true rfl) rfl ?_
  refine g_aload_n (j := 0) rfl dX11_full_0 ?_
  refine g_iload_n (j := 1) rfl dX11_full_1 ?_
  refine g_callV dX11_full_2 mlX11_128 mvX11_hasTerms (ci := 11) ⟨by decide, rfl⟩ (by assumption) (c_hasTerms w d μ h hs) sv1 rfl (by omega) (Nat.le_of_ble_eq_true rfl) (Nat.le_refl _) (Nat.le_refl _) (fun v μ2 hR => ?_)
  obtain ⟨rfl, hm⟩ := hR
  replace hm := hm.symm
  subst hm
  refine g_ifb_ne (tgt := 10) dX11_full_5 (by decide)  (fun h5 => ?_) (fun h5 => ?_)
  · have hbs := hb1 h5
    subst hbs
    refine g_aload_n (j := 0) rfl dX11_full_10 ?_
    refine g_iload_n (j := 1) rfl dX11_full_11 ?_
    refine g_callV dX11_full_12 mlX11_131 mvX11_wayCounts (ci := 11) ⟨by decide, rfl⟩ (by assumption) (c_wayCounts w d μ h h5.1) sv1 rfl (by omega) (Nat.le_of_ble_eq_true rfl) (bc1 := 0) (bs1 := 0) (by omega) (by omega) (fun v μ2 hR => ?_)
    obtain ⟨a, c2, rfl, h2, ha, hr, -, hf⟩ := hR
    refine g_astore_n (j := 2) dX11_full_15 (by decide) rfl ls2 ?_
    refine g_iconst dX11_full_16 ?_
    refine g_istore_n (j := 3) dX11_full_17 (by decide) rfl ls3 ?_
    refine g_sipush dX11_full_18 (by omega) ?_
    refine g_istore (i := 4) dX11_full_21 (by decide) rfl ls4 ?_
    refine G.post (fun v μ3 hq => ?_) (l_full ha hr (h2.ok h5.1) (h2.l5 h5.1) 3001 3000 (-1) (by omega) (by omega))
    obtain ⟨rfl, rfl⟩ := hq
    rw [aFull, cI_t h5]
    exact Am.wc h h5.1 h2 hf
  · refine g_iconst dX11_full_8 ?_
    rw [hb2 h5]
    exact G.retI dX11_full_9 rfl (by rw [aFull, cI_f h5]; exact Am.no h)
theorem l_gap {w : WC} {d : Nat} {μ : Mem} {a : Nat} {ts : List Tm} {bc bs : Nat} (ha : IsA w μ a 15 6001) (hr : RowW μ a ts) (hok : ∀ u ∈ ts, TOk u) (h5 : ts.length ≤ 5) {s fr to i : Int} {p : Option Nat} (hi : i32 i) (ht : to ≤ 3000) : ∀ (k : Nat) (n l b f : Int), n + k = to + 1 → -3000 ≤ n → 0 ≤ l → l + k ≤ 7000 → 0 ≤ b → b ≤ 7000 →
    G w d mX11_gap (fun v μ2 => v = some (vI (if i = 0 then (gapF (wy ts) k n l b f).1 else (gapF (wy ts) k n l b f).2)) ∧ μ2 = μ) bc bs 50 [some (vP p), some (vI s), some (vI fr), some (vI to), some (vI i), some (vP (some a)), some (vI b), some (vI f), some (vI l), some (vI n)] [] μ := by
  intro k
  induction k with
  | zero =>
    intro n l b f hn h0 hl hl2 hb hb2
    refine g_iload (i := 9) rfl dX11_gap_50 ?_
    refine g_iload_n (j := 3) rfl dX11_gap_52 ?_
    refine g_icmp_gt (tgt := 106) dX11_gap_53 (by decide) (by omega) (by omega) (fun h53 => ?_) (fun h53 => ?_)
    · refine g_iload (i := 4) rfl dX11_gap_106 ?_
      refine g_if_ne (tgt := 116) dX11_gap_108 (by decide) (by omega) (fun h108 => ?_) (fun h108 => ?_)
      · refine g_iload (i := 7) rfl dX11_gap_116 ?_
        exact G.retI dX11_gap_118 rfl ⟨by rw [if_neg h108, gapF], rfl⟩
      · refine g_iload (i := 6) rfl dX11_gap_111 ?_
        refine g_goto (tgt := 118) (by decide) dX11_gap_113 ?_
        exact G.retI dX11_gap_118 rfl ⟨by rw [if_pos h108, gapF], rfl⟩
    · omega
  | succ k ih =>
    intro n l b f hn h0 hl hl2 hb hb2
    have hw := wy_64 hok h5 n
    have hrn := hr n h0 (by omega)
    refine g_iload (i := 9) rfl dX11_gap_50 ?_
    refine g_iload_n (j := 3) rfl dX11_gap_52 ?_
    refine g_icmp_gt (tgt := 106) dX11_gap_53 (by decide) (by omega) (by omega) (fun h53 => ?_) (fun h53 => ?_)
    · omega
    · refine g_aload (i := 5) rfl dX11_gap_56 ?_
      refine g_iload (i := 9) rfl dX11_gap_58 ?_
      refine g_sipush dX11_gap_60 (by omega) ?_
      refine g_iadd dX11_gap_63 ?_
      refine g_lald dX11_gap_64 (by assumption) (by omega) (by omega) ?_
      rw [hrn]
      refine g_lconst0 dX11_gap_65 ?_
      refine g_lif_ne (tgt := 77) dX11_gap_66 dX11_gap_67 (by decide) (by omega) (by omega) (fun h66 => ?_) (fun h66 => ?_)
      · refine g_iconst dX11_gap_77 ?_
        refine g_istore (i := 8) dX11_gap_78 (by decide) rfl ls8 ?_
        obtain ⟨e, he⟩ : ∃ e : Int, e = if wy ts n = 0 then l + 1 else 0 := ⟨_, rfl⟩
        have he0 : e = 0 := by rw [he, if_neg h66]
        refine g_iload (i := 8) rfl dX11_gap_80 ?_
        refine g_iload (i := 6) rfl dX11_gap_82 ?_
        refine g_icmp_le (tgt := 100) dX11_gap_84 (by decide) (by omega) (by omega) (fun h84 => ?_) (fun h84 => ?_)
        · refine g_iinc (i := 9) dX11_gap_100 rfl (by decide) rfl ls9 ?_
          refine g_goto (tgt := 50) (by decide) dX11_gap_103 ?_
          rw [gapF, ← he]
          first
          | (rw [if_pos (show b < e by omega), he0]; exact ih _ _ _ _ (by omega) (by omega) (by omega) (by omega) (by omega) (by omega))
          | (rw [if_neg (show ¬ b < e by omega), he0]; exact ih _ _ _ _ (by omega) (by omega) (by omega) (by omega) (by omega) (by omega))
        · refine g_iload (i := 8) rfl dX11_gap_87 ?_
          refine g_istore (i := 6) dX11_gap_89 (by decide) rfl ls6 ?_
          refine g_iload (i := 9) rfl dX11_gap_91 ?_
          refine g_iload (i := 8) rfl dX11_gap_93 ?_
          refine g_isub dX11_gap_95 ?_
          refine g_iconst dX11_gap_96 ?_
          refine g_iadd dX11_gap_97 ?_
          refine g_istore (i := 7) dX11_gap_98 (by decide) rfl ls7 ?_
          refine g_iinc (i := 9) dX11_gap_100 rfl (by decide) rfl ls9 ?_
          refine g_goto (tgt := 50) (by decide) dX11_gap_103 ?_
          rw [gapF, ← he]
          first
          | (rw [if_pos (show b < e by omega), he0]; exact ih _ _ _ _ (by omega) (by omega) (by omega) (by omega) (by omega) (by omega))
          | (rw [if_neg (show ¬ b < e by omega), he0]; exact ih _ _ _ _ (by omega) (by omega) (by omega) (by omega) (by omega) (by omega))
      · refine g_iload (i := 8) rfl dX11_gap_70 ?_
        refine g_iconst dX11_gap_72 ?_
        refine g_iadd dX11_gap_73 ?_
        refine g_goto (tgt := 78) (by decide) dX11_gap_74 ?_
        refine g_istore (i := 8) dX11_gap_78 (by decide) rfl ls8 ?_
        obtain ⟨e, he⟩ : ∃ e : Int, e = if wy ts n = 0 then l + 1 else 0 := ⟨_, rfl⟩
        have he0 : e = l + 1 := by rw [he, if_pos h66]
        refine g_iload (i := 8) rfl dX11_gap_80 ?_
        refine g_iload (i := 6) rfl dX11_gap_82 ?_
        refine g_icmp_le (tgt := 100) dX11_gap_84 (by decide) (by omega) (by omega) (fun h84 => ?_) (fun h84 => ?_)
        · refine g_iinc (i := 9) dX11_gap_100 rfl (by decide) rfl ls9 ?_
          refine g_goto (tgt := 50) (by decide) dX11_gap_103 ?_
          rw [gapF, ← he]
          first
          | (rw [if_pos (show b < e by omega), he0]; exact ih _ _ _ _ (by omega) (by omega) (by omega) (by omega) (by omega) (by omega))
          | (rw [if_neg (show ¬ b < e by omega), he0]; exact ih _ _ _ _ (by omega) (by omega) (by omega) (by omega) (by omega) (by omega))
        · refine g_iload (i := 8) rfl dX11_gap_87 ?_
          refine g_istore (i := 6) dX11_gap_89 (by decide) rfl ls6 ?_
          refine g_iload (i := 9) rfl dX11_gap_91 ?_
          refine g_iload (i := 8) rfl dX11_gap_93 ?_
          refine g_isub dX11_gap_95 ?_
          refine g_iconst dX11_gap_96 ?_
          refine g_iadd dX11_gap_97 ?_
          refine g_istore (i := 7) dX11_gap_98 (by decide) rfl ls7 ?_
          refine g_iinc (i := 9) dX11_gap_100 rfl (by decide) rfl ls9 ?_
          refine g_goto (tgt := 50) (by decide) dX11_gap_103 ?_
          rw [gapF, ← he]
          first
          | (rw [if_pos (show b < e by omega), he0]; exact ih _ _ _ _ (by omega) (by omega) (by omega) (by omega) (by omega) (by omega))
          | (rw [if_neg (show ¬ b < e by omega), he0]; exact ih _ _ _ _ (by omega) (by omega) (by omega) (by omega) (by omega) (by omega))
noncomputable def aGap (F : Int → List Tm) (s fr to i : Int) : Int := cI (HasT F s ∧ ((-3000 ≤ fr ∧ fr ≤ 3000) ∧ (-3000 ≤ to ∧ to ≤ 3000) ∧ fr ≤ to) ∧ 0 ≤ i ∧ i ≤ 1) (if i = 0 then (gapF (wy (F s)) (to - fr + 1).toNat fr 0 0 (-100000)).1 else (gapF (wy (F s)) (to - fr + 1).toNat fr 0 0 (-100000)).2) (-100000)
theorem c_X11_gap (w : WC) (d : Nat) (μ : Mem) {x c N : Nat} {F : Int → List Tm} (h : CA w μ x F c N) {s : Int} (hs : i32 s) {fr : Int} (hfr : i32 fr) {to : Int} (hto : i32 to) {i : Int} (hi : i32 i) : ∃ bs, bs ≤ 12002 + pot N ∧ Con w (d + 5) mX11_gap 2 bs [vP (some x), vI s, vI fr, vI to, vI i] μ (Am w μ x F N bs (vI (aGap F s fr to i))) := by
  obtain ⟨bs, hb1, hb2⟩ := room2 (HasT F s ∧ ((-3000 ≤ fr ∧ fr ≤ 3000) ∧ (-3000 ≤ to ∧ to ≤ 3000) ∧ fr ≤ to) ∧ 0 ≤ i ∧ i ≤ 1) (6001 + cwB N (F s))
  refine ⟨bs, (rm_le hb1 hb2 fun z => by have := h.pt (show 0 ≤ s ∧ s ≤ 3 by first | exact z.1.1 | exact z.1); omega), ?_⟩
  have o0 := h.tps.o0
  refine Con.of (by decide) (Nat.le_of_ble_eq_true rfl) rfl ?_
  refine g_aload_n (j := 0) rfl dX11_gap_0 ?_
  refine g_iload_n (j := 1) rfl dX11_gap_1 ?_
  refine g_callV dX11_gap_2 mlX11_128 mvX11_hasTerms (ci := 11) ⟨by decide, rfl⟩ (by assumption) (c_hasTerms w d μ h hs) sv1 rfl (by omega) (Nat.le_of_ble_eq_true rfl) (Nat.le_refl _) (Nat.le_refl _) (fun v μ2 hR => ?_)
  obtain ⟨rfl, hm⟩ := hR
  replace hm := hm.symm
  subst hm
  refine g_ifb_eq (tgt := 27) dX11_gap_5 (by decide)  (fun h5 => ?_) (fun h5 => ?_)
  · refine g_ldc dX11_gap_27 kcX11_161 (z := -100000) rfl ?_
    have hN : ¬ (HasT F s ∧ ((-3000 ≤ fr ∧ fr ≤ 3000) ∧ (-3000 ≤ to ∧ to ≤ 3000) ∧ fr ≤ to) ∧ 0 ≤ i ∧ i ≤ 1) := by
      intro z
      first | exact h5 z.1 | exact h13 z.2.1 | exact h16 z.2.1 | omega
    rw [hb2 hN]
    exact G.retI dX11_gap_29 rfl (by rw [aGap, cI_f hN]; exact Am.no h)
  · refine g_iload_n (j := 2) rfl dX11_gap_8 ?_
    refine g_iload_n (j := 3) rfl dX11_gap_9 ?_
    refine g_callS dX11_gap_10 mlX11_194 msX11_isRange (c_X11_isRange w d μ (by assumption) (by assumption)) sk2 rfl (by omega) (Nat.le_of_ble_eq_true rfl) (Nat.le_refl _) (Nat.le_refl _) (fun v μ2 hR => ?_)
    obtain ⟨rfl, hm⟩ := hR
    replace hm := hm.symm
    subst hm
    refine g_ifb_eq (tgt := 27) dX11_gap_13 (by decide)  (fun h13 => ?_) (fun h13 => ?_)
    · refine g_ldc dX11_gap_27 kcX11_161 (z := -100000) rfl ?_
      have hN : ¬ (HasT F s ∧ ((-3000 ≤ fr ∧ fr ≤ 3000) ∧ (-3000 ≤ to ∧ to ≤ 3000) ∧ fr ≤ to) ∧ 0 ≤ i ∧ i ≤ 1) := by
        intro z
        first | exact h5 z.1 | exact h13 z.2.1 | exact h16 z.2.1 | omega
      rw [hb2 hN]
      exact G.retI dX11_gap_29 rfl (by rw [aGap, cI_f hN]; exact Am.no h)
    · refine g_iload (i := 4) rfl dX11_gap_16 ?_
      refine g_if_lt (tgt := 27) dX11_gap_18 (by decide) (by omega) (fun h18 => ?_) (fun h18 => ?_)
      · refine g_ldc dX11_gap_27 kcX11_161 (z := -100000) rfl ?_
        have hN : ¬ (HasT F s ∧ ((-3000 ≤ fr ∧ fr ≤ 3000) ∧ (-3000 ≤ to ∧ to ≤ 3000) ∧ fr ≤ to) ∧ 0 ≤ i ∧ i ≤ 1) := by
          intro z
          first | exact h5 z.1 | exact h13 z.2.1 | exact h16 z.2.1 | omega
        rw [hb2 hN]
        exact G.retI dX11_gap_29 rfl (by rw [aGap, cI_f hN]; exact Am.no h)
      · refine g_iload (i := 4) rfl dX11_gap_21 ?_
        refine g_iconst dX11_gap_23 ?_
        refine g_icmp_le (tgt := 30) dX11_gap_24 (by decide) (by omega) (by omega) (fun h24 => ?_) (fun h24 => ?_)
        · have hV : HasT F s ∧ ((-3000 ≤ fr ∧ fr ≤ 3000) ∧ (-3000 ≤ to ∧ to ≤ 3000) ∧ fr ≤ to) ∧ 0 ≤ i ∧ i ≤ 1 := ⟨h5, h13, by omega⟩
          have hbs := hb1 hV
          subst hbs
          refine g_aload_n (j := 0) rfl dX11_gap_30 ?_
          refine g_iload_n (j := 1) rfl dX11_gap_31 ?_
          refine g_callV dX11_gap_32 mlX11_131 mvX11_wayCounts (ci := 11) ⟨by decide, rfl⟩ (by assumption) (c_wayCounts w d μ h hV.1.1) sv1 rfl (by omega) (Nat.le_of_ble_eq_true rfl) (bc1 := 0) (bs1 := 0) (by omega) (by omega) (fun v μ2 hR => ?_)
          obtain ⟨a, c2, rfl, h2, ha, hr, -, hf⟩ := hR
          refine g_astore (i := 5) dX11_gap_35 (by decide) rfl ls5 ?_
          refine g_iconst dX11_gap_37 ?_
          refine g_istore (i := 6) dX11_gap_38 (by decide) rfl ls6 ?_
          refine g_ldc dX11_gap_40 kcX11_161 (z := -100000) rfl ?_
          refine g_istore (i := 7) dX11_gap_42 (by decide) rfl ls7 ?_
          refine g_iconst dX11_gap_44 ?_
          refine g_istore (i := 8) dX11_gap_45 (by decide) rfl ls8 ?_
          refine g_iload_n (j := 2) rfl dX11_gap_47 ?_
          refine g_istore (i := 9) dX11_gap_48 (by decide) rfl ls9 ?_
          refine G.post (fun v μ3 hq => ?_) (l_gap ha hr (h2.ok hV.1.1) (h2.l5 hV.1.1) hi hV.2.1.2.1.2 (to - fr + 1).toNat fr 0 0 (-100000) (by omega) (by omega) (by omega) (by omega) (by omega) (by omega))
          obtain ⟨rfl, rfl⟩ := hq
          rw [aGap, cI_t hV]
          exact Am.wc h hV.1.1 h2 hf
        · refine g_ldc dX11_gap_27 kcX11_161 (z := -100000) rfl ?_
          have hN : ¬ (HasT F s ∧ ((-3000 ≤ fr ∧ fr ≤ 3000) ∧ (-3000 ≤ to ∧ to ≤ 3000) ∧ fr ≤ to) ∧ 0 ≤ i ∧ i ≤ 1) := by
            intro z
            first | exact h5 z.1 | exact h13 z.2.1 | exact h16 z.2.1 | omega
          rw [hb2 hN]
          exact G.retI dX11_gap_29 rfl (by rw [aGap, cI_f hN]; exact Am.no h)
theorem l_ahead {w : WC} {d : Nat} {μ : Mem} {a : Nat} {ts : List Tm} {bc bs : Nat} (ha : IsA w μ a 15 6001) (hr : RowW μ a ts) (hok : ∀ u ∈ ts, TOk u) (h5 : ts.length ≤ 5) {fr to m : Int} (hm : -3000 ≤ m ∧ m ≤ 3000) (ht : to ≤ 3000) : ∀ (k : Nat) (n c : Int) (x8 : Option AV), n + k = to + 1 → -3000 ≤ n → 0 ≤ c → c + k ≤ 7000 →
    G w d mX11_countAhead (fun v μ2 => v = some (vI (ahF (wy ts) m k n c)) ∧ μ2 = μ) bc bs 15 [some (vP (some a)), some (vI fr), some (vI to), some (vI m), some (vJ (wy ts m)), none, some (vI c), some (vI n), x8, none] [] μ := by
  have hwm := wy_64 hok h5 m
  intro k
  induction k with
  | zero =>
    intro n c x8 hn h0 hl hl2
    refine g_iload (i := 7) rfl dX11_countAhead_15 ?_
    refine g_iload_n (j := 2) rfl dX11_countAhead_17 ?_
    refine g_icmp_gt (tgt := 62) dX11_countAhead_18 (by decide) (by omega) (by omega) (fun h18 => ?_) (fun h18 => ?_)
    · refine g_iload (i := 6) rfl dX11_countAhead_62 ?_
      exact G.retI dX11_countAhead_64 rfl ⟨by rw [ahF], rfl⟩
    · omega
  | succ k ih =>
    intro n c x8 hn h0 hl hl2
    have hw := wy_64 hok h5 n
    have hrn := hr n h0 (by omega)
    refine g_iload (i := 7) rfl dX11_countAhead_15 ?_
    refine g_iload_n (j := 2) rfl dX11_countAhead_17 ?_
    refine g_icmp_gt (tgt := 62) dX11_countAhead_18 (by decide) (by omega) (by omega) (fun h18 => ?_) (fun h18 => ?_)
    · omega
    · refine g_aload_n (j := 0) rfl dX11_countAhead_21 ?_
      refine g_iload (i := 7) rfl dX11_countAhead_22 ?_
      refine g_sipush dX11_countAhead_24 (by omega) ?_
      refine g_iadd dX11_countAhead_27 ?_
      refine g_lald dX11_countAhead_28 (by assumption) (by omega) (by omega) ?_
      rw [hrn]
      refine g_lstore (i := 8) dX11_countAhead_29 (by decide) rfl lj8 ?_
      refine g_lload (i := 8) rfl dX11_countAhead_31 ?_
      refine g_lload (i := 4) rfl dX11_countAhead_33 ?_
      refine g_lif_gt (tgt := 53) dX11_countAhead_35 dX11_countAhead_36 (by decide) (by omega) (by omega) (fun h35 => ?_) (fun h35 => ?_)
      · refine g_iinc (i := 6) dX11_countAhead_53 rfl (by decide) rfl ls6 ?_
        refine g_iinc (i := 7) dX11_countAhead_56 rfl (by decide) rfl ls7 ?_
        refine g_goto (tgt := 15) (by decide) dX11_countAhead_59 ?_
        rw [ahF]
        first
        | (rw [if_pos (by omega)]; exact ih _ _ _ (by omega) (by omega) (by omega) (by omega))
        | (rw [if_neg (by omega)]; exact ih _ _ _ (by omega) (by omega) (by omega) (by omega))
      · refine g_lload (i := 8) rfl dX11_countAhead_39 ?_
        refine g_lload (i := 4) rfl dX11_countAhead_41 ?_
        refine g_lif_ne (tgt := 56) dX11_countAhead_43 dX11_countAhead_44 (by decide) (by omega) (by omega) (fun h43 => ?_) (fun h43 => ?_)
        · refine g_iinc (i := 7) dX11_countAhead_56 rfl (by decide) rfl ls7 ?_
          refine g_goto (tgt := 15) (by decide) dX11_countAhead_59 ?_
          rw [ahF]
          first
          | (rw [if_pos (by omega)]; exact ih _ _ _ (by omega) (by omega) (by omega) (by omega))
          | (rw [if_neg (by omega)]; exact ih _ _ _ (by omega) (by omega) (by omega) (by omega))
        · refine g_iload (i := 7) rfl dX11_countAhead_47 ?_
          refine g_iload_n (j := 3) rfl dX11_countAhead_49 ?_
          refine g_icmp_ge (tgt := 56) dX11_countAhead_50 (by decide) (by omega) (by omega) (fun h50 => ?_) (fun h50 => ?_)
          · refine g_iinc (i := 7) dX11_countAhead_56 rfl (by decide) rfl ls7 ?_
            refine g_goto (tgt := 15) (by decide) dX11_countAhead_59 ?_
            rw [ahF]
            first
            | (rw [if_pos (by omega)]; exact ih _ _ _ (by omega) (by omega) (by omega) (by omega))
            | (rw [if_neg (by omega)]; exact ih _ _ _ (by omega) (by omega) (by omega) (by omega))
          · refine g_iinc (i := 6) dX11_countAhead_53 rfl (by decide) rfl ls6 ?_
            refine g_iinc (i := 7) dX11_countAhead_56 rfl (by decide) rfl ls7 ?_
            refine g_goto (tgt := 15) (by decide) dX11_countAhead_59 ?_
            rw [ahF]
            first
            | (rw [if_pos (by omega)]; exact ih _ _ _ (by omega) (by omega) (by omega) (by omega))
            | (rw [if_neg (by omega)]; exact ih _ _ _ (by omega) (by omega) (by omega) (by omega))
theorem c_X11_countAhead (w : WC) (d : Nat) (μ : Mem) {a : Nat} {ts : List Tm} (ha : IsA w μ a 15 6001) (hr : RowW μ a ts) (hok : ∀ u ∈ ts, TOk u) (h5 : ts.length ≤ 5) {fr to m : Int} (hm : -3000 ≤ m ∧ m ≤ 3000) (hf : -3000 ≤ fr ∧ fr ≤ to) (ht : to ≤ 3000) : Con w d mX11_countAhead 0 0 [vP (some a), vI fr, vI to, vI m] μ (fun v μ2 => v = some (vI (ahF (wy ts) m (to - fr + 1).toNat fr 0)) ∧ μ2 = μ) := by
  have hrm := hr m hm.1 hm.2
  refine Con.of (by decide) (Nat.le_of_ble_eq_true rfl) rfl ?_
  refine g_aload_n (j := 0) rfl dX11_countAhead_0 ?_
  refine g_iload_n (j := 3) rfl dX11_countAhead_1 ?_
  refine g_sipush dX11_countAhead_2 (by omega) ?_
  refine g_iadd dX11_countAhead_5 ?_
  refine g_lald dX11_countAhead_6 (by assumption) (by omega) (by omega) ?_
  rw [hrm]
  refine g_lstore (i := 4) dX11_countAhead_7 (by decide) rfl lj4 ?_
  refine g_iconst dX11_countAhead_9 ?_
  refine g_istore (i := 6) dX11_countAhead_10 (by decide) rfl ls6 ?_
  refine g_iload_n (j := 1) rfl dX11_countAhead_12 ?_
  refine g_istore (i := 7) dX11_countAhead_13 (by decide) rfl ls7 ?_
  exact l_ahead ha hr hok h5 hm ht (to - fr + 1).toNat fr 0 _ (by omega) (by omega) (by omega) (by omega)
theorem l_rank {w : WC} {d : Nat} {μ : Mem} {a : Nat} {ts : List Tm} {bc bs : Nat} (ha : IsA w μ a 15 6001) (hr : RowW μ a ts) (hok : ∀ u ∈ ts, TOk u) (h5 : ts.length ≤ 5) {s fr to i z : Int} {p : Option Nat} (hi : i32 i) (hfr : -3000 ≤ fr ∧ fr ≤ to) (ht : to ≤ 3000) : ∀ (k : Nat) (n : Int), n + k = to + 1 → -3000 ≤ n →
    G w (d + 1) mX11_rank (fun v μ2 => v = some (vI (rkF (wy ts) fr (to - fr + 1).toNat i k n)) ∧ μ2 = μ) bc bs 59 [some (vP p), some (vI s), some (vI fr), some (vI to), some (vI i), some (vI z), some (vP (some a)), some (vI n)] [] μ := by
  intro k
  induction k with
  | zero =>
    intro n hn h0
    refine g_iload (i := 7) rfl dX11_rank_59 ?_
    refine g_iload_n (j := 3) rfl dX11_rank_61 ?_
    refine g_icmp_gt (tgt := 88) dX11_rank_62 (by decide) (by omega) (by omega) (fun h62 => ?_) (fun h62 => ?_)
    · refine g_ldc dX11_rank_88 kcX11_161 (z := -100000) rfl ?_
      exact G.retI dX11_rank_90 rfl ⟨by rw [rkF], rfl⟩
    · omega
  | succ k ih =>
    intro n hn h0
    have hab := ahF_bd (wy ts) n (to - fr + 1).toNat fr 0
    refine g_iload (i := 7) rfl dX11_rank_59 ?_
    refine g_iload_n (j := 3) rfl dX11_rank_61 ?_
    refine g_icmp_gt (tgt := 88) dX11_rank_62 (by decide) (by omega) (by omega) (fun h62 => ?_) (fun h62 => ?_)
    · omega
    · refine g_aload (i := 6) rfl dX11_rank_65 ?_
      refine g_iload_n (j := 2) rfl dX11_rank_67 ?_
      refine g_iload_n (j := 3) rfl dX11_rank_68 ?_
      refine g_iload (i := 7) rfl dX11_rank_69 ?_
      refine g_callS dX11_rank_71 mlX11_214 msX11_countAhead (c_X11_countAhead w d μ ha hr hok h5 (m := n) (by omega) hfr ht) sk4 rfl (by omega) (Nat.le_of_ble_eq_true rfl) (bc1 := bc) (bs1 := bs) (Nat.le_refl _) (Nat.le_refl _) (fun v μ2 hR => ?_)
      obtain ⟨rfl, hm⟩ := hR
      replace hm := hm.symm
      subst hm
      refine g_iload (i := 4) rfl dX11_rank_74 ?_
      refine g_icmp_ne (tgt := 82) dX11_rank_76 (by decide) (by omega) (by omega) (fun h76 => ?_) (fun h76 => ?_)
      · refine g_iinc (i := 7) dX11_rank_82 rfl (by decide) rfl ls7 ?_
        refine g_goto (tgt := 59) (by decide) dX11_rank_85 ?_
        rw [rkF, if_neg h76]
        exact ih (n + 1) (by omega) (by omega)
      · refine g_iload (i := 7) rfl dX11_rank_79 ?_
        exact G.retI dX11_rank_81 rfl ⟨by rw [rkF, if_pos h76], rfl⟩
noncomputable def aRank (F : Int → List Tm) (s fr to i : Int) : Int := cI (HasT F s ∧ ((-3000 ≤ fr ∧ fr ≤ 3000) ∧ (-3000 ≤ to ∧ to ≤ 3000) ∧ fr ≤ to) ∧ to - fr < 200 ∧ 0 ≤ i ∧ i ≤ to - fr) (rkF (wy (F s)) fr (to - fr + 1).toNat i (to - fr + 1).toNat fr) (-100000)
theorem c_X11_rank (w : WC) (d : Nat) (μ : Mem) {x c N : Nat} {F : Int → List Tm} (h : CA w μ x F c N) {s : Int} (hs : i32 s) {fr : Int} (hfr : i32 fr) {to : Int} (hto : i32 to) {i : Int} (hi : i32 i) : ∃ bs, bs ≤ 12002 + pot N ∧ Con w (d + 5) mX11_rank 2 bs [vP (some x), vI s, vI fr, vI to, vI i] μ (Am w μ x F N bs (vI (aRank F s fr to i))) := by
  obtain ⟨bs, hb1, hb2⟩ := room2 (HasT F s ∧ ((-3000 ≤ fr ∧ fr ≤ 3000) ∧ (-3000 ≤ to ∧ to ≤ 3000) ∧ fr ≤ to) ∧ to - fr < 200 ∧ 0 ≤ i ∧ i ≤ to - fr) (6001 + cwB N (F s))
  refine ⟨bs, (rm_le hb1 hb2 fun z => by have := h.pt (show 0 ≤ s ∧ s ≤ 3 by first | exact z.1.1 | exact z.1); omega), ?_⟩
  have o0 := h.tps.o0
  refine Con.of (by decide) (Nat.le_of_ble_eq_true rfl) rfl ?_
  refine g_aload_n (j := 0) rfl dX11_rank_0 ?_
  refine g_iload_n (j := 1) rfl dX11_rank_1 ?_
  refine g_callV dX11_rank_2 mlX11_128 mvX11_hasTerms (ci := 11) ⟨by decide, rfl⟩ (by assumption) (c_hasTerms w d μ h hs) sv1 rfl (by omega) (Nat.le_of_ble_eq_true rfl) (Nat.le_refl _) (Nat.le_refl _) (fun v μ2 hR => ?_)
  obtain ⟨rfl, hm⟩ := hR
  replace hm := hm.symm
  subst hm
  refine g_ifb_eq (tgt := 16) dX11_rank_5 (by decide)  (fun h5 => ?_) (fun h5 => ?_)
  · refine g_ldc dX11_rank_16 kcX11_161 (z := -100000) rfl ?_
    have hN : ¬ (HasT F s ∧ ((-3000 ≤ fr ∧ fr ≤ 3000) ∧ (-3000 ≤ to ∧ to ≤ 3000) ∧ fr ≤ to) ∧ to - fr < 200 ∧ 0 ≤ i ∧ i ≤ to - fr) := by
      intro z
      first | exact h5 z.1 | exact h13 z.2.1 | exact h16 z.2.1 | omega
    rw [hb2 hN]
    exact G.retI dX11_rank_18 rfl (by rw [aRank, cI_f hN]; exact Am.no h)
  · refine g_iload_n (j := 2) rfl dX11_rank_8 ?_
    refine g_iload_n (j := 3) rfl dX11_rank_9 ?_
    refine g_callS dX11_rank_10 mlX11_194 msX11_isRange (c_X11_isRange w d μ (by assumption) (by assumption)) sk2 rfl (by omega) (Nat.le_of_ble_eq_true rfl) (Nat.le_refl _) (Nat.le_refl _) (fun v μ2 hR => ?_)
    obtain ⟨rfl, hm⟩ := hR
    replace hm := hm.symm
    subst hm
    refine g_ifb_ne (tgt := 19) dX11_rank_13 (by decide)  (fun h13 => ?_) (fun h13 => ?_)
    · refine g_iload_n (j := 3) rfl dX11_rank_19 ?_
      refine g_iload_n (j := 2) rfl dX11_rank_20 ?_
      refine g_isub dX11_rank_21 ?_
      refine g_iconst dX11_rank_22 ?_
      refine g_iadd dX11_rank_23 ?_
      refine g_istore (i := 5) dX11_rank_24 (by decide) rfl ls5 ?_
      refine g_iload (i := 5) rfl dX11_rank_26 ?_
      refine g_sipush dX11_rank_28 (by omega) ?_
      refine g_icmp_gt (tgt := 46) dX11_rank_31 (by decide) (by omega) (by omega) (fun h31 => ?_) (fun h31 => ?_)
      · refine g_ldc dX11_rank_46 kcX11_161 (z := -100000) rfl ?_
        have hN : ¬ (HasT F s ∧ ((-3000 ≤ fr ∧ fr ≤ 3000) ∧ (-3000 ≤ to ∧ to ≤ 3000) ∧ fr ≤ to) ∧ to - fr < 200 ∧ 0 ≤ i ∧ i ≤ to - fr) := by
          intro z
          first | exact h5 z.1 | exact h13 z.2.1 | exact h16 z.2.1 | omega
        rw [hb2 hN]
        exact G.retI dX11_rank_48 rfl (by rw [aRank, cI_f hN]; exact Am.no h)
      · refine g_iload (i := 4) rfl dX11_rank_34 ?_
        refine g_if_lt (tgt := 46) dX11_rank_36 (by decide) (by omega) (fun h36 => ?_) (fun h36 => ?_)
        · refine g_ldc dX11_rank_46 kcX11_161 (z := -100000) rfl ?_
          have hN : ¬ (HasT F s ∧ ((-3000 ≤ fr ∧ fr ≤ 3000) ∧ (-3000 ≤ to ∧ to ≤ 3000) ∧ fr ≤ to) ∧ to - fr < 200 ∧ 0 ≤ i ∧ i ≤ to - fr) := by
            intro z
            first | exact h5 z.1 | exact h13 z.2.1 | exact h16 z.2.1 | omega
          rw [hb2 hN]
          exact G.retI dX11_rank_48 rfl (by rw [aRank, cI_f hN]; exact Am.no h)
        · refine g_iload (i := 4) rfl dX11_rank_39 ?_
          refine g_iload (i := 5) rfl dX11_rank_41 ?_
          refine g_icmp_lt (tgt := 49) dX11_rank_43 (by decide) (by omega) (by omega) (fun h43 => ?_) (fun h43 => ?_)
          · have hV : HasT F s ∧ ((-3000 ≤ fr ∧ fr ≤ 3000) ∧ (-3000 ≤ to ∧ to ≤ 3000) ∧ fr ≤ to) ∧ to - fr < 200 ∧ 0 ≤ i ∧ i ≤ to - fr := ⟨h5, h13, by omega⟩
            have hbs := hb1 hV
            subst hbs
            refine g_aload_n (j := 0) rfl dX11_rank_49 ?_
            refine g_iload_n (j := 1) rfl dX11_rank_50 ?_
            refine g_callV dX11_rank_51 mlX11_131 mvX11_wayCounts (ci := 11) ⟨by decide, rfl⟩ (by assumption) (c_wayCounts w d μ h hV.1.1) sv1 rfl (by omega) (Nat.le_of_ble_eq_true rfl) (bc1 := 0) (bs1 := 0) (by omega) (by omega) (fun v μ2 hR => ?_)
            obtain ⟨a, c2, rfl, h2, ha, hr, -, hf⟩ := hR
            refine g_astore (i := 6) dX11_rank_54 (by decide) rfl ls6 ?_
            refine g_iload_n (j := 2) rfl dX11_rank_56 ?_
            refine g_istore (i := 7) dX11_rank_57 (by decide) rfl ls7 ?_
            refine G.post (fun v μ3 hq => ?_) (l_rank ha hr (h2.ok hV.1.1) (h2.l5 hV.1.1) hi (by omega) hV.2.1.2.1.2 (to - fr + 1).toNat fr (by omega) (by omega))
            obtain ⟨rfl, rfl⟩ := hq
            rw [aRank, cI_t hV]
            exact Am.wc h hV.1.1 h2 hf
          · refine g_ldc dX11_rank_46 kcX11_161 (z := -100000) rfl ?_
            have hN : ¬ (HasT F s ∧ ((-3000 ≤ fr ∧ fr ≤ 3000) ∧ (-3000 ≤ to ∧ to ≤ 3000) ∧ fr ≤ to) ∧ to - fr < 200 ∧ 0 ≤ i ∧ i ≤ to - fr) := by
              intro z
              first | exact h5 z.1 | exact h13 z.2.1 | exact h16 z.2.1 | omega
            rw [hb2 hN]
            exact G.retI dX11_rank_48 rfl (by rw [aRank, cI_f hN]; exact Am.no h)
    · refine g_ldc dX11_rank_16 kcX11_161 (z := -100000) rfl ?_
      have hN : ¬ (HasT F s ∧ ((-3000 ≤ fr ∧ fr ≤ 3000) ∧ (-3000 ≤ to ∧ to ≤ 3000) ∧ fr ≤ to) ∧ to - fr < 200 ∧ 0 ≤ i ∧ i ≤ to - fr) := by
        intro z
        first | exact h5 z.1 | exact h13 z.2.1 | exact h16 z.2.1 | omega
      rw [hb2 hN]
      exact G.retI dX11_rank_18 rfl (by rw [aRank, cI_f hN]; exact Am.no h)
