/-! THE CLASS: countUnlike -/
theorem FI.foi {μ : Mem} {q : Nat} {ts : List Tm} (h : FI μ q ts) : FoI μ q := by
  obtain ⟨h0, h5, hok, hat⟩ := h
  refine ⟨by omega, fun j t j1 j6 t0 t1 => ?_⟩
  obtain ⟨u, hu⟩ : ∃ u, ts[t.toNat]? = some u := ⟨_, List.getElem?_eq_getElem (by omega)⟩
  obtain ⟨a1, a2, a3, a4, a5, a6⟩ := hat t.toNat u hu
  rw [show ((t.toNat : Nat) : Int) = t by omega] at a1 a2 a3 a4 a5 a6
  have hk := hok u (List.mem_of_getElem? hu)
  have b5 := tLo_bd hk
  have b6 := tHi_bd hk
  obtain ⟨⟨c1, c2⟩, ⟨c3, c4⟩, ⟨c5, c6, c7⟩, -, -⟩ := hk
  have : j = 1 ∨ j = 2 ∨ j = 3 ∨ j = 4 ∨ j = 5 ∨ j = 6 := by omega
  rcases this with rfl | rfl | rfl | rfl | rfl | rfl
  · rw [a1]; constructor <;> omega
  · rw [a2]; constructor <;> omega
  · rw [a3]; constructor <;> omega
  · rw [a4]; constructor <;> omega
  · rw [a5]; constructor <;> omega
  · rw [a6]; constructor <;> omega
theorem uwF_lo : ∀ (us pre : List Tm) (Φ : Int → Int) (b : Int), (∀ u ∈ us, TOk u) → (∀ n, n < b → Φ n = 0) → ∀ n, n < b + lfR pre us → uwF pre us Φ n = 0
  | [], pre, Φ, b, _, h, n, hn => h n (by unfold lfR at hn; omega)
  | u :: us, pre, Φ, b, hok, h, n, hn => by
    have hu := hok u List.mem_cons_self
    show uwF (u :: pre) us (if u ∈ pre then Φ else hk (tV u) (tH u - tL u + 1).toNat (tL u) (us.count u + 1) Φ) n = 0
    have hn2 : n < b + ((if u ∈ pre then 0 else ((us.count u + 1 : Nat) : Int) * loT u) + lfR (u :: pre) us) := hn
    by_cases hp : u ∈ pre
    · rw [if_pos hp] at hn2 ⊢
      exact uwF_lo us (u :: pre) Φ b (fun v hv => hok v (List.mem_cons_of_mem _ hv)) h n (by omega)
    · rw [if_neg hp] at hn2 ⊢
      exact uwF_lo us (u :: pre) _ (b + ((us.count u + 1 : Nat) : Int) * loT u) (fun v hv => hok v (List.mem_cons_of_mem _ hv)) (fun k hk2 => hk_lo h _ _ _ (fun x z1 z2 => (hu.val z1 (by have := hu.2.2.1; omega)).1) k hk2) n (by omega)
theorem uw_lo {ts : List Tm} (hok : ∀ u ∈ ts, TOk u) {n : Int} (h : n < lfT ts) : uw ts n = 0 := uwF_lo ts [] dlt 0 hok (fun n z => if_neg (by omega)) n (by rw [lfR_X, lfX_0]; omega)
/-- under way: the first terms are counted -/
def CuK (ts pre : List Tm) (t : Nat) (Φ : Int → Int) (b R T : Int) (g : Int → Int) : Prop := (∀ u, u ∈ pre ↔ u ∈ ts.take t) ∧ (∀ n, uwF pre (ts.drop t) Φ n = uw ts n) ∧ b + lfR pre (ts.drop t) = lfT ts ∧ (∀ n, n < b → Φ n = 0) ∧ (∀ n, b + R < n → Φ n = 0) ∧ (0 ≤ R ∧ R ≤ 30000 * (t : Int)) ∧ ∀ p, 0 ≤ p → p ≤ T → g p = Φ (p + b)
theorem CuK.skip {ts pre : List Tm} {t : Nat} {Φ : Int → Int} {b R T : Int} {g : Int → Int} (h : CuK ts pre t Φ b R T g) {u : Tm} (hu : ts[t]? = some u) (hp : u ∈ pre) : CuK ts (u :: pre) (t + 1) Φ b R T g := by
  obtain ⟨h1, h2, h3, h4, h5, h6, h7⟩ := h
  rw [count_drop hu] at h2 h3
  refine ⟨fun v => ?_, fun n => ?_, ?_, h4, h5, ⟨h6.1, by omega⟩, h7⟩
  · rw [List.take_add_one, hu, List.mem_append, List.mem_cons, h1]
    exact ⟨fun z => z.elim (fun e => Or.inr (by rw [e]; exact List.mem_singleton.mpr rfl)) Or.inl, fun z => z.elim Or.inr (fun e => Or.inl (List.mem_singleton.mp e))⟩
  · have := h2 n
    rw [uwF, if_pos hp] at this
    exact this
  · unfold lfR at h3
    rw [if_pos hp] at h3
    omega
theorem CuK.more {ts pre : List Tm} {t k : Nat} {Φ : Int → Int} {b R T : Int} {g g2 : Int → Int} (h : CuK ts pre t Φ b R T g) (hl : ts.length ≤ 5) {u : Tm} (hu : ts[t]? = some u) (hk : TOk u) (hp : ¬ u ∈ pre) (hkk : (ts.drop (t + 1)).count u + 1 = k) (hg : ∀ p, 0 ≤ p → p ≤ T → g2 p = hkU u k Φ (p + b + (k : Int) * loT u)) : CuK ts (u :: pre) (t + 1) (hkU u k Φ) (b + (k : Int) * loT u) (R + (k : Int) * (hiT u - loT u)) T g2 := by
  obtain ⟨h1, h2, h3, h4, h5, h6, h7⟩ := h
  have ht := get_lt hu
  rw [count_drop hu] at h2 h3
  have hva := fun x z1 z2 => hk.val (x := x) z1 z2
  have hl3 : loT u ≤ hiT u := by have := hva (tL u) (Int.le_refl _) hk.2.2.1.2.1; unfold loT hiT; omega
  have b5 : -3000 ≤ loT u ∧ loT u ≤ 3000 := tLo_bd hk
  have b6 : -3000 ≤ hiT u ∧ hiT u ≤ 3000 := tHi_bd hk
  have hc := List.count_le_length (l := ts.drop (t + 1)) (a := u)
  rw [List.length_drop] at hc
  have e := Int.mul_sub (k : Int) (hiT u) (loT u)
  have hn0 := Int.mul_nonneg (Int.natCast_nonneg k) (show 0 ≤ hiT u - loT u by omega)
  have hn5 : (k : Int) * (hiT u - loT u) ≤ 5 * 6000 := Int.mul_le_mul (by omega) (by omega) (by omega) (by omega)
  refine ⟨fun v => ?_, fun n => ?_, ?_, fun n hn => ?_, fun n hn => ?_, ⟨by omega, by omega⟩, fun p p0 p1 => ?_⟩
  · rw [List.take_add_one, hu, List.mem_append, List.mem_cons, h1]
    exact ⟨fun z => z.elim (fun e => Or.inr (by rw [e]; exact List.mem_singleton.mpr rfl)) Or.inl, fun z => z.elim Or.inr (fun e => Or.inl (List.mem_singleton.mp e))⟩
  · have := h2 n
    rw [uwF, if_neg hp, hkk] at this
    exact this
  · unfold lfR at h3
    rw [if_neg hp, hkk] at h3
    omega
  · exact hk_lo h4 _ _ _ (fun x z1 z2 => (hva x z1 (by have := hk.2.2.1; omega)).1) n hn
  · exact hk_hi (b := b + R) h5 _ _ _ (a := hiT u) (fun x z1 z2 => (hva x z1 (by have := hk.2.2.1; omega)).2) n (by omega)
  · rw [hg p p0 p1]
    congr 1
    omega
theorem line_loT {u : Tm} (hu : TOk u) (h0 : tK u = 0) : loT u = tF u * tL u := by
  have h := hu.2.2.1
  unfold loT tLo pv
  rw [if_neg (by omega), h0, pw_0, pw_0]
  have := Int.mul_le_mul_of_nonneg_left h.2.1 (show 0 ≤ tF u by have := hu.1; omega)
  omega
theorem l_u40 {w : WC} {d : Nat} {μ : Mem} {s c N q : Nat} {ts : List Tm} {T : Int} (hS : SeS w μ s c N) (hF : FoS w μ q) (hI : FI μ q ts) (eT : mI μ s 3 = T) (hT : 0 ≤ T ∧ T ≤ 18000) (hN : ((ts.length : Int) + 1) * (T + 1) ≤ (N : Int)) : ∀ (r t : Nat) (pre : List Tm) (Φ : Int → Int) (b R : Int) (g : Int → Int) (x4 : Option AV), t + r = ts.length → CuK ts pre t Φ b R T g → G w (d + 4) mX7_countUnlike (fun v μ2 => v = none ∧ ∃ g2, μ2 = wL μ c g2 ∧ ∀ p, 0 ≤ p → p ≤ T → g2 p = uw ts (p + lfT ts)) 0 0 40 [some (vP (some s)), some (vP (some q)), some (vI (min T R)), some (vI (t : Int)), x4] [] (wL μ c g) := by
  intro r
  induction r with
  | zero =>
    intro t pre Φ b R g x4 hr hK
    obtain ⟨o0, r0, r1, a1, a2⟩ := id hS
    obtain ⟨p0, ⟨q1, q2, q3, q4, q5, q6⟩, b1, b2, b3, b4, b5, b6⟩ := id hF
    have hc0 := hI.1
    have h5 := hI.2.1
    refine g_iload_n (j := 3) rfl dX7_countUnlike_40 ?_
    refine g_aload_n (j := 1) rfl dX7_countUnlike_41 ?_
    refine g_getIv dX7_countUnlike_42 flX7_30 rfl (by simp only [IsO_sI, IsO_sL, IsO_sR, IsO_wI, IsO_wL, IsA_sI, IsA_sL, IsA_sR, IsA_wI, IsA_wL, mR_sI, mR_sL, mR_wI, mR_wL]; assumption) (kz := 0) rfl (by simp [mI_sI, mI_sL, mI_sR, mI_wI, mI_wL, mL_sI, mL_sL, mL_sR, mL_wI, mL_wL, hc0]; rfl) ?_
    refine g_icmp_ge (tgt := 119) dX7_countUnlike_45 (by decide) (by omega) (by omega) (fun h45 => ?_) (fun h45 => ?_)
    · have et : t = ts.length := by omega
      subst et
      obtain ⟨k1, k2, k3, -, -, -, k7⟩ := hK
      rw [List.drop_length] at k2 k3
      refine G.retV dX7_countUnlike_119 rfl ⟨rfl, g, rfl, fun p z0 z1 => ?_⟩
      rw [k7 p z0 z1, ← k2]
      unfold lfR at k3
      show Φ _ = Φ _
      congr 1
      omega
    · omega
  | succ r ih =>
    intro t pre Φ b R g x4 hr hK
    obtain ⟨o0, r0, r1, a1, a2⟩ := id hS
    obtain ⟨p0, ⟨q1, q2, q3, q4, q5, q6⟩, b1, b2, b3, b4, b5, b6⟩ := id hF
    have hc0 := hI.1
    have h5 := hI.2.1
    obtain ⟨u, hut⟩ : ∃ u, ts[t]? = some u := ⟨_, List.getElem?_eq_getElem (by omega)⟩
    have hu := hI.2.2.1 u (List.mem_of_getElem? hut)
    have hat := hI.2.2.2 t u hut
    obtain ⟨g1, g2, g3, g4, g5, g6⟩ := id hat
    have hR := hK.2.2.2.2.2.1
    obtain ⟨-, ⟨kk1, kk2⟩, -⟩ := id hu
    have b5' : -3000 ≤ loT u ∧ loT u ≤ 3000 := tLo_bd hu
    have b6' : -3000 ≤ hiT u ∧ hiT u ≤ 3000 := tHi_bd hu
    unfold loT at b5'
    unfold hiT at b6'
    have hIw : ∀ g, FoI (wL μ c g) q := fun g => FI.foi (ts := ts) hI.wL
    have hlk := fun g => lkF_lo (μ := wL μ c g) (q := q) (ts := ts) (t := t) (u := u) hI.wL hut ts.length 0 (Nat.zero_le _) (Nat.zero_add _)
    have hlen : ∀ g, (mI (wL μ c g) q 0).toNat = ts.length := fun g => by
      show (mI μ q 0).toNat = _
      omega
    by_cases hp : u ∈ pre
    · have hK2 := hK.skip hut hp
      have hlk0 : ∀ g, lkF (wL μ c g) q (t : Int) (mI (wL μ c g) q 0).toNat 0 0 = 0 := fun g => by
        rw [hlen]
        have := hlk g
        rw [List.drop_zero, if_pos ((hK.1 u).mp hp)] at this
        exact this
      refine g_iload_n (j := 3) rfl dX7_countUnlike_40 ?_
      refine g_aload_n (j := 1) rfl dX7_countUnlike_41 ?_
      refine g_getIv dX7_countUnlike_42 flX7_30 rfl (by simp only [IsO_sI, IsO_sL, IsO_sR, IsO_wI, IsO_wL, IsA_sI, IsA_sL, IsA_sR, IsA_wI, IsA_wL, mR_sI, mR_sL, mR_wI, mR_wL]; assumption) (kz := 0) rfl (by simp [mI_sI, mI_sL, mI_sR, mI_wI, mI_wL, mL_sI, mL_sL, mL_sR, mL_wI, mL_wL, hc0, eT, g2, g5, g6]; rfl) ?_
      refine g_icmp_ge (tgt := 119) dX7_countUnlike_45 (by decide) (by omega) (by omega) (fun h45 => ?_) (fun h45 => ?_)
      · omega
      · refine g_aload_n (j := 1) rfl dX7_countUnlike_48 ?_
        refine g_iload_n (j := 3) rfl dX7_countUnlike_49 ?_
        refine g_callV dX7_countUnlike_50 mlX7_47 mvX1_likeFrom (ci := 1) ⟨by decide, rfl⟩ (by simp only [IsO_sI, IsO_sL, IsO_sR, IsO_wI, IsO_wL, IsA_sI, IsA_sL, IsA_sR, IsA_wI, IsA_wL, mR_sI, mR_sL, mR_wI, mR_wL]; assumption) (c_likeFrom w (d + 1) _ (q := q) hF.wL (hIw g) (t := (t : Int)) (by simp only [mI_wL]; omega) (by simp only [mI_wL]; omega)) sv1 rfl (by omega) (Nat.le_of_ble_eq_true rfl) (Nat.le_refl _) (Nat.le_refl _) (fun v μ2 hR => ?_)
        obtain ⟨rfl, hm⟩ := hR
        replace hm := hm.symm
        subst hm
        rw [show lkF (wL μ c g) q (t : Int) (mI (wL μ c g) q 0).toNat 0 0 = 0 from hlk0 g]
        refine g_istore (i := 4) dX7_countUnlike_53 (by decide) rfl ls4 ?_
        refine g_iload (i := 4) rfl dX7_countUnlike_55 ?_
        refine g_if_le (tgt := 81) dX7_countUnlike_57 (by decide) (by omega) (fun h57 => ?_) (fun h57 => ?_)
        · refine g_iload (i := 4) rfl dX7_countUnlike_81 ?_
          refine g_if_le (tgt := 95) dX7_countUnlike_83 (by decide) (by omega) (fun h83 => ?_) (fun h83 => ?_)
          · refine g_aload_n (j := 0) rfl dX7_countUnlike_95 ?_
            refine g_getIv dX7_countUnlike_96 flX7_23 rfl (by simp only [IsO_sI, IsO_sL, IsO_sR, IsO_wI, IsO_wL, IsA_sI, IsA_sL, IsA_sR, IsA_wI, IsA_wL, mR_sI, mR_sL, mR_wI, mR_wL]; assumption) (kz := 3) rfl (by simp [mI_sI, mI_sL, mI_sR, mI_wI, mI_wL, mL_sI, mL_sL, mL_sR, mL_wI, mL_wL, hc0, eT, g2, g5, g6]; rfl) ?_
            refine g_iload_n (j := 2) rfl dX7_countUnlike_99 ?_
            refine g_iload (i := 4) rfl dX7_countUnlike_100 ?_
            refine g_aload_n (j := 1) rfl dX7_countUnlike_102 ?_
            refine g_iload_n (j := 3) rfl dX7_countUnlike_103 ?_
            refine g_callV dX7_countUnlike_104 mlX7_62 mvX1_spread (ci := 1) ⟨by decide, rfl⟩ (by simp only [IsO_sI, IsO_sL, IsO_sR, IsO_wI, IsO_wL, IsA_sI, IsA_sL, IsA_sR, IsA_wI, IsA_wL, mR_sI, mR_sL, mR_wI, mR_wL]; assumption) (c_spread w (d + 1) _ (q := q) hF.wL (t := (t : Int)) (by omega)) sv1 rfl (by omega) (Nat.le_of_ble_eq_true rfl) (Nat.le_refl _) (Nat.le_refl _) (fun v μ2 hR => ?_)
            obtain ⟨rfl, hm⟩ := hR
            replace hm := hm.symm
            subst hm
            simp only [mI_wL]
            rw [g5, g6]
            refine g_imul dX7_countUnlike_107 ?_
            refine g_iadd dX7_countUnlike_108 ?_
            refine g_callS dX7_countUnlike_109 mlX7_65 msJ9_min_7cf53 (c_min w (d + 1) _ (by omega) (by omega)) sk2 rfl (by omega) (Nat.le_of_ble_eq_true rfl) (Nat.le_refl _) (Nat.le_refl _) (fun v μ2 hR => ?_)
            obtain ⟨rfl, hm⟩ := hR
            replace hm := hm.symm
            subst hm
            refine g_istore_n (j := 2) dX7_countUnlike_112 (by decide) rfl ls2 ?_
            refine g_iinc (i := 3) dX7_countUnlike_113 rfl (by decide) rfl ls3 ?_
            refine g_goto (tgt := 40) (by decide) dX7_countUnlike_116 ?_
            rw [show (t : Int) + 1 = ((t + 1 : Nat) : Int) by omega]
            rw [show min T (min T R + 0 * (tHi (tK u) (tF u) (tL u) (tH u) - tLo (tK u) (tF u) (tL u) (tH u))) = min T (R) by (rw [Int.zero_mul]; omega)]
            exact ih (t + 1) (u :: pre) _ _ _ g _ (by omega) hK2
          · omega
        · omega
    · have hnp := hp
      obtain ⟨k, hkk⟩ : ∃ k, (ts.drop (t + 1)).count u + 1 = k := ⟨_, rfl⟩
      have hlk1 : ∀ g, lkF (wL μ c g) q (t : Int) (mI (wL μ c g) q 0).toNat 0 0 = (k : Int) := fun g => by
        rw [hlen]
        have := hlk g
        rw [List.drop_zero, if_neg (fun z => hp ((hK.1 u).mpr z)), count_drop hut, List.count_cons, if_pos (by simp)] at this
        rw [← hkk]
        exact this
      have hc := List.count_le_length (l := ts.drop (t + 1)) (a := u)
      rw [List.length_drop] at hc
      have hk5 : 1 ≤ k ∧ k ≤ ts.length := by omega
      have hkT : ((k : Int) + 1) * (T + 1) ≤ (N : Int) := by
        have := Int.mul_le_mul_of_nonneg_right (show (k : Int) + 1 ≤ (ts.length : Int) + 1 by omega) (show 0 ≤ T + 1 by omega)
        omega
      have hTN : T < (N : Int) := by
        have := Int.mul_le_mul_of_nonneg_right (show (1 : Int) ≤ (k : Int) + 1 by omega) (show 0 ≤ T + 1 by omega)
        omega
      have hAl : AlH w (wL μ c g) s c N q T (t : Int) u k := ⟨hS.wL, hF.wL, eT, hT, by omega, hu, hat, by omega, hkT⟩
      have hn0 := Int.mul_nonneg (Int.natCast_nonneg k) (show 0 ≤ hiT u - loT u by have := hu.val (Int.le_refl _) hu.2.2.1.2.1; unfold hiT loT; omega)
      have hn5 : (k : Int) * (hiT u - loT u) ≤ 5 * 6000 := Int.mul_le_mul (by omega) (by unfold hiT loT; omega) (by have := hu.val (Int.le_refl _) hu.2.2.1.2.1; unfold hiT loT; omega) (by omega)
      have hn6 : (k : Int) * (tHi (tK u) (tF u) (tL u) (tH u) - tLo (tK u) (tF u) (tL u) (tH u)) = (k : Int) * (hiT u - loT u) := rfl
      refine g_iload_n (j := 3) rfl dX7_countUnlike_40 ?_
      refine g_aload_n (j := 1) rfl dX7_countUnlike_41 ?_
      refine g_getIv dX7_countUnlike_42 flX7_30 rfl (by simp only [IsO_sI, IsO_sL, IsO_sR, IsO_wI, IsO_wL, IsA_sI, IsA_sL, IsA_sR, IsA_wI, IsA_wL, mR_sI, mR_sL, mR_wI, mR_wL]; assumption) (kz := 0) rfl (by simp [mI_sI, mI_sL, mI_sR, mI_wI, mI_wL, mL_sI, mL_sL, mL_sR, mL_wI, mL_wL, hc0, eT, g2, g5, g6]; rfl) ?_
      refine g_icmp_ge (tgt := 119) dX7_countUnlike_45 (by decide) (by omega) (by omega) (fun h45 => ?_) (fun h45 => ?_)
      · omega
      · refine g_aload_n (j := 1) rfl dX7_countUnlike_48 ?_
        refine g_iload_n (j := 3) rfl dX7_countUnlike_49 ?_
        refine g_callV dX7_countUnlike_50 mlX7_47 mvX1_likeFrom (ci := 1) ⟨by decide, rfl⟩ (by simp only [IsO_sI, IsO_sL, IsO_sR, IsO_wI, IsO_wL, IsA_sI, IsA_sL, IsA_sR, IsA_wI, IsA_wL, mR_sI, mR_sL, mR_wI, mR_wL]; assumption) (c_likeFrom w (d + 1) _ (q := q) hF.wL (hIw g) (t := (t : Int)) (by simp only [mI_wL]; omega) (by simp only [mI_wL]; omega)) sv1 rfl (by omega) (Nat.le_of_ble_eq_true rfl) (Nat.le_refl _) (Nat.le_refl _) (fun v μ2 hR => ?_)
        obtain ⟨rfl, hm⟩ := hR
        replace hm := hm.symm
        subst hm
        rw [show lkF (wL μ c g) q (t : Int) (mI (wL μ c g) q 0).toNat 0 0 = (k : Int) from hlk1 g]
        refine g_istore (i := 4) dX7_countUnlike_53 (by decide) rfl ls4 ?_
        refine g_iload (i := 4) rfl dX7_countUnlike_55 ?_
        refine g_if_le (tgt := 81) dX7_countUnlike_57 (by decide) (by omega) (fun h57 => ?_) (fun h57 => ?_)
        · omega
        · refine g_aload_n (j := 1) rfl dX7_countUnlike_60 ?_
          refine g_getR dX7_countUnlike_61 flX7_51 rfl (by simp only [IsO_sI, IsO_sL, IsO_sR, IsO_wI, IsO_wL, IsA_sI, IsA_sL, IsA_sR, IsA_wI, IsA_wL, mR_sI, mR_sL, mR_wI, mR_wL]; assumption) (kz := 2) rfl (by simp only [IsO_sI, IsO_sL, IsO_sR, IsO_wI, IsO_wL, IsA_sI, IsA_sL, IsA_sR, IsA_wI, IsA_wL, mR_sI, mR_sL, mR_wI, mR_wL]; assumption) ?_
          refine g_iload_n (j := 3) rfl dX7_countUnlike_64 ?_
          refine g_ialdv dX7_countUnlike_65 (by simp only [IsO_sI, IsO_sL, IsO_sR, IsO_wI, IsO_wL, IsA_sI, IsA_sL, IsA_sR, IsA_wI, IsA_wL, mR_sI, mR_sL, mR_wI, mR_wL]; assumption) (by omega) (by omega) (by simp [mI_sI, mI_sL, mI_sR, mI_wI, mI_wL, mL_sI, mL_sL, mL_sR, mL_wI, mL_wL, hc0, eT, g2, g5, g6]; rfl) ?_
          refine g_if_ne (tgt := 81) dX7_countUnlike_66 (by decide) (by omega) (fun h66 => ?_) (fun h66 => ?_)
          · refine g_iload (i := 4) rfl dX7_countUnlike_81 ?_
            refine g_if_le (tgt := 95) dX7_countUnlike_83 (by decide) (by omega) (fun h83 => ?_) (fun h83 => ?_)
            · omega
            · refine g_aload_n (j := 0) rfl dX7_countUnlike_86 ?_
              refine g_aload_n (j := 1) rfl dX7_countUnlike_87 ?_
              refine g_iload_n (j := 3) rfl dX7_countUnlike_88 ?_
              refine g_iload (i := 4) rfl dX7_countUnlike_89 ?_
              refine g_iload_n (j := 2) rfl dX7_countUnlike_91 ?_
              refine g_callV dX7_countUnlike_92 mlX7_58 mvX7_addLikePowers (ci := 7) ⟨by decide, rfl⟩ (by simp only [IsO_sI, IsO_sL, IsO_sR, IsO_wI, IsO_wL, IsA_sI, IsA_sL, IsA_sR, IsA_wI, IsA_wL, mR_sI, mR_sL, mR_wI, mR_wL]; assumption) (c_addLikePowers w (d + 1 - 2) (wL μ c g) (u := u) (kk := k) (T := T) (Φ := Φ) (b := b) (R := R) (N := N) (s := s) (q := q) (t := (t : Int)) hAl hK.2.2.2.1 hK.2.2.2.2.1 ⟨hK.2.2.2.2.2.1.1, by have := hK.2.2.2.2.2.1.2; omega⟩ rfl (fun p z0 z1 => by rw [mL_wL_self]; exact hK.2.2.2.2.2.2 p z0 z1)) sv4 rfl (by omega) (Nat.le_of_ble_eq_true rfl) (Nat.le_refl _) (Nat.le_refl _) (fun v μ2 hR => ?_)
              obtain ⟨rfl, gq, rfl, hg2⟩ := hR
              rw [wL_wL]
              have hK2 := hK.more h5 hut hu hnp hkk hg2
              refine g_aload_n (j := 0) rfl dX7_countUnlike_95 ?_
              refine g_getIv dX7_countUnlike_96 flX7_23 rfl (by simp only [IsO_sI, IsO_sL, IsO_sR, IsO_wI, IsO_wL, IsA_sI, IsA_sL, IsA_sR, IsA_wI, IsA_wL, mR_sI, mR_sL, mR_wI, mR_wL]; assumption) (kz := 3) rfl (by simp [mI_sI, mI_sL, mI_sR, mI_wI, mI_wL, mL_sI, mL_sL, mL_sR, mL_wI, mL_wL, hc0, eT, g2, g5, g6]; rfl) ?_
              refine g_iload_n (j := 2) rfl dX7_countUnlike_99 ?_
              refine g_iload (i := 4) rfl dX7_countUnlike_100 ?_
              refine g_aload_n (j := 1) rfl dX7_countUnlike_102 ?_
              refine g_iload_n (j := 3) rfl dX7_countUnlike_103 ?_
              refine g_callV dX7_countUnlike_104 mlX7_62 mvX1_spread (ci := 1) ⟨by decide, rfl⟩ (by simp only [IsO_sI, IsO_sL, IsO_sR, IsO_wI, IsO_wL, IsA_sI, IsA_sL, IsA_sR, IsA_wI, IsA_wL, mR_sI, mR_sL, mR_wI, mR_wL]; assumption) (c_spread w (d + 1) _ (q := q) hF.wL (t := (t : Int)) (by omega)) sv1 rfl (by omega) (Nat.le_of_ble_eq_true rfl) (Nat.le_refl _) (Nat.le_refl _) (fun v μ2 hR => ?_)
              obtain ⟨rfl, hm⟩ := hR
              replace hm := hm.symm
              subst hm
              simp only [mI_wL]
              rw [g5, g6]
              refine g_imul dX7_countUnlike_107 ?_
              refine g_iadd dX7_countUnlike_108 ?_
              refine g_callS dX7_countUnlike_109 mlX7_65 msJ9_min_7cf53 (c_min w (d + 1) _ (by omega) (by omega)) sk2 rfl (by omega) (Nat.le_of_ble_eq_true rfl) (Nat.le_refl _) (Nat.le_refl _) (fun v μ2 hR => ?_)
              obtain ⟨rfl, hm⟩ := hR
              replace hm := hm.symm
              subst hm
              refine g_istore_n (j := 2) dX7_countUnlike_112 (by decide) rfl ls2 ?_
              refine g_iinc (i := 3) dX7_countUnlike_113 rfl (by decide) rfl ls3 ?_
              refine g_goto (tgt := 40) (by decide) dX7_countUnlike_116 ?_
              rw [show (t : Int) + 1 = ((t + 1 : Nat) : Int) by omega]
              rw [show min T (min T R + (k : Int) * (tHi (tK u) (tF u) (tL u) (tH u) - tLo (tK u) (tF u) (tL u) (tH u))) = min T (R + (k : Int) * (hiT u - loT u)) by (show min T (min T R + (k : Int) * (hiT u - loT u)) = _; omega)]
              exact ih (t + 1) (u :: pre) _ _ _ _ _ (by omega) hK2
          · refine g_aload_n (j := 0) rfl dX7_countUnlike_69 ?_
            refine g_iconst dX7_countUnlike_70 ?_
            refine g_aload_n (j := 1) rfl dX7_countUnlike_71 ?_
            refine g_iload_n (j := 3) rfl dX7_countUnlike_72 ?_
            refine g_iload (i := 4) rfl dX7_countUnlike_73 ?_
            refine g_callV dX7_countUnlike_75 mlX7_54 mvX7_addLikeLines (ci := 7) ⟨by decide, rfl⟩ (by simp only [IsO_sI, IsO_sL, IsO_sR, IsO_wI, IsO_wL, IsA_sI, IsA_sL, IsA_sR, IsA_wI, IsA_wL, mR_sI, mR_sL, mR_wI, mR_wL]; assumption) (c_addLikeLines w (d + 1) _ (hS.wL (k := c) (g := g)) (q := q) hF.wL (u := u) (r := 0) (a := 0) (like := (k : Int)) (by omega) hu g1 g3 g4 (by omega) (by omega) (by simp only [mI_wL]; omega) (by simp only [mI_wL]; omega) (by simp only [mI_wL]; omega) (by omega)) sv4 rfl (by omega) (Nat.le_of_ble_eq_true rfl) (Nat.le_refl _) (Nat.le_refl _) (fun v μ2 hR => ?_)
            obtain ⟨rfl, hm⟩ := hR
            replace hm := hm.symm
            subst hm
            rw [mL_wL_self, wL_wL]
            simp only [mI_wL]
            rw [eT, Int.zero_add, Int.toNat_natCast]
            have h0k : tK u = 0 := by omega
            have hK2 := hK.more (g2 := lkL g 0 T (tF u) (tH u - tL u) k) h5 hut hu hnp hkk (fun p z0 z1 => by
              obtain ⟨-, -, -, m4, -, -, m7⟩ := hK
              have e := lkL_hk (len := (tH u - tL u).toNat) (L := tL u) (F := tF u) hu.1.1 m4 m7 k p z0 z1
              rw [show (((tH u - tL u).toNat : Nat) : Int) = tH u - tL u by have := hu.2.2.1; omega] at e
              rw [e, line_loT hu h0k, hkU, show (tH u - tL u + 1).toNat = (tH u - tL u).toNat + 1 by have := hu.2.2.1; omega]
              have ev : tV u = fun x => tF u * x := funext fun x => by unfold tV pv; rw [h0k, pw_0]
              rw [ev])
            refine g_goto (tgt := 95) (by decide) dX7_countUnlike_78 ?_
            refine g_aload_n (j := 0) rfl dX7_countUnlike_95 ?_
            refine g_getIv dX7_countUnlike_96 flX7_23 rfl (by simp only [IsO_sI, IsO_sL, IsO_sR, IsO_wI, IsO_wL, IsA_sI, IsA_sL, IsA_sR, IsA_wI, IsA_wL, mR_sI, mR_sL, mR_wI, mR_wL]; assumption) (kz := 3) rfl (by simp [mI_sI, mI_sL, mI_sR, mI_wI, mI_wL, mL_sI, mL_sL, mL_sR, mL_wI, mL_wL, hc0, eT, g2, g5, g6]; rfl) ?_
            refine g_iload_n (j := 2) rfl dX7_countUnlike_99 ?_
            refine g_iload (i := 4) rfl dX7_countUnlike_100 ?_
            refine g_aload_n (j := 1) rfl dX7_countUnlike_102 ?_
            refine g_iload_n (j := 3) rfl dX7_countUnlike_103 ?_
            refine g_callV dX7_countUnlike_104 mlX7_62 mvX1_spread (ci := 1) ⟨by decide, rfl⟩ (by simp only [IsO_sI, IsO_sL, IsO_sR, IsO_wI, IsO_wL, IsA_sI, IsA_sL, IsA_sR, IsA_wI, IsA_wL, mR_sI, mR_sL, mR_wI, mR_wL]; assumption) (c_spread w (d + 1) _ (q := q) hF.wL (t := (t : Int)) (by omega)) sv1 rfl (by omega) (Nat.le_of_ble_eq_true rfl) (Nat.le_refl _) (Nat.le_refl _) (fun v μ2 hR => ?_)
            obtain ⟨rfl, hm⟩ := hR
            replace hm := hm.symm
            subst hm
            simp only [mI_wL]
            rw [g5, g6]
            refine g_imul dX7_countUnlike_107 ?_
            refine g_iadd dX7_countUnlike_108 ?_
            refine g_callS dX7_countUnlike_109 mlX7_65 msJ9_min_7cf53 (c_min w (d + 1) _ (by omega) (by omega)) sk2 rfl (by omega) (Nat.le_of_ble_eq_true rfl) (Nat.le_refl _) (Nat.le_refl _) (fun v μ2 hR => ?_)
            obtain ⟨rfl, hm⟩ := hR
            replace hm := hm.symm
            subst hm
            refine g_istore_n (j := 2) dX7_countUnlike_112 (by decide) rfl ls2 ?_
            refine g_iinc (i := 3) dX7_countUnlike_113 rfl (by decide) rfl ls3 ?_
            refine g_goto (tgt := 40) (by decide) dX7_countUnlike_116 ?_
            rw [show (t : Int) + 1 = ((t + 1 : Nat) : Int) by omega]
            rw [show min T (min T R + (k : Int) * (tHi (tK u) (tF u) (tL u) (tH u) - tLo (tK u) (tF u) (tL u) (tH u))) = min T (R + (k : Int) * (hiT u - loT u)) by (show min T (min T R + (k : Int) * (hiT u - loT u)) = _; omega)]
            exact ih (t + 1) (u :: pre) _ _ _ _ _ (by omega) hK2
