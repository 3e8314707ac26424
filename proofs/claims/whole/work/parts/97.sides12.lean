/-! THE MODEL: numbers of the sides -/
def FlF2 (m : Nat) : Mem → Mem → Prop := FrZ m (fun _ => False) (fun j => j = 44)
/-- the flag: as it was where the number fits, else 1 -/
def FlP (m : Nat) (P : Prop) (μ μ2 : Mem) : Prop := (P → mI μ2 m 44 = mI μ m 44) ∧ (¬ P → mI μ2 m 44 = 1)
theorem c_times (w : WC) (d : Nat) (μ : Mem) {m : Nat} {a b : Int} (o0 : IsO w μ m 12) (ha : i64 a) (hb : i64 b) : Con w d mX12_times 0 0 [vP (some m), vJ a, vJ b] μ (fun v μ2 => v = some (vJ (wr (a * b))) ∧ FlP m (i64 (a * b)) μ μ2 ∧ FlF2 m μ μ2) := by
  refine Con.of (by decide) (Nat.le_of_ble_eq_true rfl) rfl ?_
  refine g_lload_n (j := 1) rfl dX12_times_0 ?_
  refine g_lload_n (j := 3) rfl dX12_times_1 ?_
  refine g_lmulW dX12_times_2 ?_
  have hw := wr_i64 (a * b)
  refine g_lstore (i := 5) dX12_times_3 (by decide) rfl lj5 ?_
  refine g_lload_n (j := 1) rfl dX12_times_5 ?_
  refine g_lconst0 dX12_times_6 ?_
  refine g_lif_eq (tgt := 41) dX12_times_7 dX12_times_8 (by decide) (by omega) (by omega) (fun h7 => ?_) (fun h7 => ?_)
  · refine g_lload (i := 5) rfl dX12_times_41 ?_
    exact G.retJ dX12_times_43 rfl ⟨rfl, ⟨fun _ => rfl, fun z => absurd (by rw [h7, Int.zero_mul]; decide) z⟩, FrZ.rf⟩
  · refine g_lload (i := 5) rfl dX12_times_11 ?_
    refine g_lload_n (j := 1) rfl dX12_times_13 ?_
    refine g_ldivW (by omega) (by omega) (by omega) dX12_times_14 ?_
    have hq := wr_i64 ((wr (a * b)).tdiv a)
    refine g_lload_n (j := 3) rfl dX12_times_15 ?_
    refine g_lif_ne (tgt := 36) dX12_times_16 dX12_times_17 (by decide) (by omega) (by omega) (fun h16 => ?_) (fun h16 => ?_)
    · refine g_aload_n (j := 0) rfl dX12_times_36 ?_
      refine g_iconst dX12_times_37 ?_
      refine g_putI dX12_times_38 fpX12_381 rfl (nar_bool (by omega)) rfl (by assumption) (kz := 44) rfl ?_
      refine g_lload (i := 5) rfl dX12_times_41 ?_
      exact G.retJ dX12_times_43 rfl ⟨rfl, ⟨fun z => absurd z ((times_fit ha hb h7).mp (Or.inl h16)), fun _ => by rw [mI_sI, if_pos ⟨rfl, rfl⟩]⟩, FrZ.sI rfl⟩
    · refine g_lload_n (j := 1) rfl dX12_times_20 ?_
      refine g_ldc2 dX12_times_21 klX12_280 (z := -1) rfl ?_
      refine g_lif_ne (tgt := 41) dX12_times_24 dX12_times_25 (by decide) (by omega) (by omega) (fun h24 => ?_) (fun h24 => ?_)
      · refine g_lload (i := 5) rfl dX12_times_41 ?_
        exact G.retJ dX12_times_43 rfl ⟨rfl, ⟨fun _ => rfl, fun z => absurd (Classical.byContradiction fun q => ((times_fit ha hb h7).mpr q).elim (fun y => y h16) (fun y => h24 y.1)) z⟩, FrZ.rf⟩
      · refine g_lload_n (j := 3) rfl dX12_times_28 ?_
        refine g_ldc2 dX12_times_29 klX12_379 (z := -9223372036854775808) rfl ?_
        refine g_lif_ne (tgt := 41) dX12_times_32 dX12_times_33 (by decide) (by omega) (by omega) (fun h32 => ?_) (fun h32 => ?_)
        · refine g_lload (i := 5) rfl dX12_times_41 ?_
          exact G.retJ dX12_times_43 rfl ⟨rfl, ⟨fun _ => rfl, fun z => absurd (Classical.byContradiction fun q => ((times_fit ha hb h7).mpr q).elim (fun y => y h16) (fun y => h32 y.2)) z⟩, FrZ.rf⟩
        · refine g_aload_n (j := 0) rfl dX12_times_36 ?_
          refine g_iconst dX12_times_37 ?_
          refine g_putI dX12_times_38 fpX12_381 rfl (nar_bool (by omega)) rfl (by assumption) (kz := 44) rfl ?_
          refine g_lload (i := 5) rfl dX12_times_41 ?_
          exact G.retJ dX12_times_43 rfl ⟨rfl, ⟨fun z => absurd z ((times_fit ha hb h7).mp (Or.inr ⟨h24, h32⟩)), fun _ => by rw [mI_sI, if_pos ⟨rfl, rfl⟩]⟩, FrZ.sI rfl⟩
theorem c_plus (w : WC) (d : Nat) (μ : Mem) {m : Nat} {a b : Int} (o0 : IsO w μ m 12) (ha : i64 a) (hb : i64 b) : Con w d mX12_plus 0 0 [vP (some m), vJ a, vJ b] μ (fun v μ2 => v = some (vJ (wr (a + b))) ∧ FlP m (i64 (a + b)) μ μ2 ∧ FlF2 m μ μ2) := by
  refine Con.of (by decide) (Nat.le_of_ble_eq_true rfl) rfl ?_
  refine g_lload_n (j := 1) rfl dX12_plus_0 ?_
  refine g_lload_n (j := 3) rfl dX12_plus_1 ?_
  refine g_laddW dX12_plus_2 ?_
  refine g_lstore (i := 5) dX12_plus_3 (by decide) rfl lj5 ?_
  refine g_lload_n (j := 1) rfl dX12_plus_5 ?_
  refine g_lload (i := 5) rfl dX12_plus_6 ?_
  refine g_lxor dX12_plus_8 ?_
  refine g_lload_n (j := 3) rfl dX12_plus_9 ?_
  refine g_lload (i := 5) rfl dX12_plus_10 ?_
  refine g_lxor dX12_plus_12 ?_
  refine g_land dX12_plus_13 ?_
  have hs1 := i64_of (lg (lg a ^^^ lg (wr (a + b))).toInt &&& lg (lg b ^^^ lg (wr (a + b))).toInt)
  refine g_lconst0 dX12_plus_14 ?_
  refine g_lif_ge (tgt := 24) dX12_plus_15 dX12_plus_16 (by decide) (by omega) (by omega) (fun h15 => ?_) (fun h15 => ?_)
  · refine g_lload (i := 5) rfl dX12_plus_24 ?_
    exact G.retJ dX12_plus_26 rfl ⟨rfl, ⟨fun _ => rfl, fun z => absurd (Classical.byContradiction fun q => by have := (plus_fit ha hb).mpr q; omega) z⟩, FrZ.rf⟩
  · refine g_aload_n (j := 0) rfl dX12_plus_19 ?_
    refine g_iconst dX12_plus_20 ?_
    refine g_putI dX12_plus_21 fpX12_381 rfl (nar_bool (by omega)) rfl (by assumption) (kz := 44) rfl ?_
    refine g_lload (i := 5) rfl dX12_plus_24 ?_
    exact G.retJ dX12_plus_26 rfl ⟨rfl, ⟨fun z => absurd z ((plus_fit ha hb).mp h15), fun _ => by rw [mI_sI, if_pos ⟨rfl, rfl⟩]⟩, FrZ.sI rfl⟩
theorem c_minus (w : WC) (d : Nat) (μ : Mem) {m : Nat} {a b : Int} (o0 : IsO w μ m 12) (ha : i64 a) (hb : i64 b) : Con w d mX12_minus 0 0 [vP (some m), vJ a, vJ b] μ (fun v μ2 => v = some (vJ (wr (a - b))) ∧ FlP m (i64 (a - b)) μ μ2 ∧ FlF2 m μ μ2) := by
  refine Con.of (by decide) (Nat.le_of_ble_eq_true rfl) rfl ?_
  refine g_lload_n (j := 1) rfl dX12_minus_0 ?_
  refine g_lload_n (j := 3) rfl dX12_minus_1 ?_
  refine g_lsubW dX12_minus_2 ?_
  refine g_lstore (i := 5) dX12_minus_3 (by decide) rfl lj5 ?_
  refine g_lload_n (j := 1) rfl dX12_minus_5 ?_
  refine g_lload_n (j := 3) rfl dX12_minus_6 ?_
  refine g_lxor dX12_minus_7 ?_
  refine g_lload_n (j := 1) rfl dX12_minus_8 ?_
  refine g_lload (i := 5) rfl dX12_minus_9 ?_
  refine g_lxor dX12_minus_11 ?_
  have hs1 := i64_of (lg (lg a ^^^ lg b).toInt &&& lg (lg a ^^^ lg (wr (a - b))).toInt)
  refine g_land dX12_minus_12 ?_
  refine g_lconst0 dX12_minus_13 ?_
  refine g_lif_ge (tgt := 23) dX12_minus_14 dX12_minus_15 (by decide) (by omega) (by omega) (fun h14 => ?_) (fun h14 => ?_)
  · refine g_lload (i := 5) rfl dX12_minus_23 ?_
    exact G.retJ dX12_minus_25 rfl ⟨rfl, ⟨fun _ => rfl, fun z => absurd (Classical.byContradiction fun q => by have := (minus_fit ha hb).mpr q; omega) z⟩, FrZ.rf⟩
  · refine g_aload_n (j := 0) rfl dX12_minus_18 ?_
    refine g_iconst dX12_minus_19 ?_
    refine g_putI dX12_minus_20 fpX12_381 rfl (nar_bool (by omega)) rfl (by assumption) (kz := 44) rfl ?_
    refine g_lload (i := 5) rfl dX12_minus_23 ?_
    exact G.retJ dX12_minus_25 rfl ⟨rfl, ⟨fun z => absurd z ((minus_fit ha hb).mp h14), fun _ => by rw [mI_sI, if_pos ⟨rfl, rfl⟩]⟩, FrZ.sI rfl⟩
theorem l_raised {w : WC} {d m : Nat} {a n : Int} (ha : i64 a) (hn : 0 ≤ n ∧ n ≤ 6) : ∀ (k : Nat) (i v : Int) (μ : Mem), 0 ≤ i → i + (k : Int) = n → i64 v → IsO w μ m 12 → G w (d + 1) mX12_raised (fun x μ2 => ∃ r, x = some (vJ r) ∧ i64 r ∧ (∀ z, pwS a k v = some z → r = z ∧ mI μ2 m 44 = mI μ m 44) ∧ (pwS a k v = none → mI μ2 m 44 = 1) ∧ FlF2 m μ μ2) 0 0 6 [some (vP (some m)), some (vJ a), none, some (vI n), some (vJ v), none, some (vI i)] [] μ := by
  intro k
  induction k with
  | zero =>
    intro i v μ hi0 hk hv o0
    refine g_iload (i := 6) rfl dX12_raised_6 ?_
    refine g_iload_n (j := 3) rfl dX12_raised_8 ?_
    refine g_icmp_ge (tgt := 27) dX12_raised_9 (by decide) (by omega) (by omega) (fun h9 => ?_) (fun h9 => ?_)
    · refine g_lload (i := 4) rfl dX12_raised_27 ?_
      exact G.retJ dX12_raised_29 rfl ⟨v, rfl, hv, (fun z hz => by cases hz; exact ⟨rfl, rfl⟩), (fun z => by cases z), FrZ.rf⟩
    · omega
  | succ k ih =>
    intro i v μ hi0 hk hv o0
    refine g_iload (i := 6) rfl dX12_raised_6 ?_
    refine g_iload_n (j := 3) rfl dX12_raised_8 ?_
    refine g_icmp_ge (tgt := 27) dX12_raised_9 (by decide) (by omega) (by omega) (fun h9 => ?_) (fun h9 => ?_)
    · omega
    · refine g_aload_n (j := 0) rfl dX12_raised_12 ?_
      refine g_lload (i := 4) rfl dX12_raised_13 ?_
      refine g_lload_n (j := 1) rfl dX12_raised_15 ?_
      refine g_callV dX12_raised_16 mlX12_384 mvX12_times (ci := 12) ⟨by decide, rfl⟩ (by assumption) (c_times w d μ o0 hv ha) sv2 rfl (by omega) (Nat.le_of_ble_eq_true rfl) (Nat.le_refl _) (Nat.le_refl _) (fun v μ2 hR => ?_)
      obtain ⟨rfl, hp, hf⟩ := hR
      refine g_lstore (i := 4) dX12_raised_19 (by decide) rfl lj4 ?_
      refine g_iinc (i := 6) dX12_raised_21 rfl (by decide) rfl ls6 ?_
      refine g_goto (tgt := 6) (by decide) dX12_raised_24 ?_
      refine G.post (fun x μ3 hq => ?_) (ih (i + 1) (wr (v * a)) μ2 (by omega) (by omega) (wr_i64 _) (hf.1.O o0))
      obtain ⟨r, e1, e2, e3, e4, e5⟩ := hq
      by_cases hi : i64 (v * a)
      · have hs : pwS a (k + 1) v = pwS a k (v * a) := by rw [pwS, if_pos hi]
        rw [wr_id hi] at e3 e4
        rw [hs]
        exact ⟨r, e1, e2, fun z hz => ⟨(e3 z hz).1, (e3 z hz).2.trans (hp.1 hi)⟩, e4, FrZ.tr hf e5⟩
      · have hs : pwS a (k + 1) v = none := by rw [pwS, if_neg hi]
        rw [hs]
        refine ⟨r, e1, e2, (fun z hz => by cases hz), (fun _ => ?_), FrZ.tr hf e5⟩
        rcases hc : pwS a k (wr (v * a)) with _ | z
        · exact e4 hc
        · exact (e3 z hc).2.trans (hp.2 hi)
theorem c_raised (w : WC) (d : Nat) (μ : Mem) {m : Nat} {a n : Int} (o0 : IsO w μ m 12) (ha : i64 a) (hn : 0 ≤ n ∧ n ≤ 6) : Con w (d + 1) mX12_raised 0 0 [vP (some m), vJ a, vI n] μ (fun x μ2 => ∃ r, x = some (vJ r) ∧ i64 r ∧ (∀ z, pwO (some a) n = some z → r = z ∧ mI μ2 m 44 = mI μ m 44) ∧ (pwO (some a) n = none → mI μ2 m 44 = 1) ∧ FlF2 m μ μ2) := by
  refine Con.of (by decide) (Nat.le_of_ble_eq_true rfl) rfl ?_
  refine g_lconst1 dX12_raised_0 ?_
  refine g_lstore (i := 4) dX12_raised_1 (by decide) rfl lj4 ?_
  refine g_iconst dX12_raised_3 ?_
  refine g_istore (i := 6) dX12_raised_4 (by decide) rfl ls6 ?_
  exact l_raised (d := d) ha hn n.toNat 0 1 μ (by omega) (by omega) (by decide) o0
