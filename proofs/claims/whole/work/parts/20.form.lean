/-! POWERS AND FORMS (class ToldPowers: powerValue, isBeyond, greatestX; ToldPowers$Form) -/
/-- what a kind makes of x -/
def pw (k x : Int) : Int := if k = 0 then x else if k = 1 then x * x else if k = 2 then x * x * x else if k = 3 then x * x * x * x else x * (x + 1) / 2
def pv (k f x : Int) : Int := f * pw k x
theorem tri_nn (x : Int) : 0 ≤ x * (x + 1) := by
  rcases (by omega : 0 ≤ x ∨ x + 1 ≤ 0) with h | h
  · exact Int.mul_nonneg h (by omega)
  · exact Int.mul_nonneg_of_nonpos_of_nonpos (by omega) h
theorem tri_le {x B : Int} (h1 : -B ≤ x) (h2 : x + 1 ≤ B) : x * (x + 1) ≤ B * B := by
  rcases (by omega : 0 ≤ x ∨ x + 1 ≤ 0) with h | h
  · exact Int.mul_le_mul (by omega) h2 (by omega) (by omega)
  · have : x * (x + 1) = (-x) * (-(x + 1)) := by rw [Int.neg_mul_neg]
    rw [this]
    exact Int.mul_le_mul (by omega) (by omega) (by omega) (by omega)
theorem pw_0 (x : Int) : pw 0 x = x := rfl
theorem pw_1 (x : Int) : pw 1 x = x * x := rfl
theorem pw_2 (x : Int) : pw 2 x = x * x * x := rfl
theorem pw_3 (x : Int) : pw 3 x = x * x * x * x := rfl
theorem pw_4 {k : Int} (h : k < 0 ∨ 3 < k) (x : Int) : pw k x = x * (x + 1) / 2 := by
  unfold pw
  rw [if_neg (by omega), if_neg (by omega), if_neg (by omega), if_neg (by omega)]
theorem c_powerValue (w : WC) (d : Nat) (μ : Mem) {k f x : Int} (hk : i32 k) (hf : i32 f) (hx : i32 x) (hx2 : x ≤ 2147483646) : Con w d mX11_powerValue 0 0 [vI k, vI f, vI x] μ (fun v μ2 => v = some (vJ (pv k f x)) ∧ μ2 = μ) := by
  refine Con.of (by decide) (Nat.le_of_ble_eq_true rfl) rfl ?_
  have hb1 := tri_nn x
  have hb2 := tri_le (x := x) (B := 2147483648) (by omega) (by omega)
  refine g_iload_n (j := 2) rfl dX11_powerValue_0 ?_
  refine g_i2l (by omega) dX11_powerValue_1 ?_
  refine g_lstore_n (j := 3) dX11_powerValue_2 (by decide) rfl lj3 ?_
  refine g_iload_n (j := 0) rfl dX11_powerValue_3 ?_
  refine g_tsw (ts := [36, 41, 48, 57]) (td := 68) dX11_powerValue_4 (by omega) rfl rfl (by decide) (fun h4 => ?_) ⟨fun h4 => ?_, fun h4 => ?_, fun h4 => ?_, fun h4 => ?_, trivial⟩
  · refine g_iload_n (j := 1) rfl dX11_powerValue_68 ?_
    refine g_i2l (by omega) dX11_powerValue_69 ?_
    refine g_lload_n (j := 3) rfl dX11_powerValue_70 ?_
    refine g_lload_n (j := 3) rfl dX11_powerValue_71 ?_
    refine g_lconst1 dX11_powerValue_72 ?_
    refine g_ladd dX11_powerValue_73 ?_
    refine g_lmul dX11_powerValue_74 ?_
    refine g_ldc2 dX11_powerValue_75 klX11_367 (z := 2) rfl ?_
    refine g_ldiv (by omega) (by omega) (by omega) dX11_powerValue_78 ?_
    refine g_lmul dX11_powerValue_79 ?_
    refine G.retJ dX11_powerValue_80 rfl ⟨?_, rfl⟩
    rw [pv, pw_4 (by omega), Int.tdiv_eq_ediv_of_nonneg hb1]
  · refine g_iload_n (j := 1) rfl dX11_powerValue_36 ?_
    refine g_i2l (by omega) dX11_powerValue_37 ?_
    refine g_lload_n (j := 3) rfl dX11_powerValue_38 ?_
    refine g_lmul dX11_powerValue_39 ?_
    exact G.retJ dX11_powerValue_40 rfl ⟨by rw [show k = 0 by omega]; rfl, rfl⟩
  · refine g_iload_n (j := 1) rfl dX11_powerValue_41 ?_
    refine g_i2l (by omega) dX11_powerValue_42 ?_
    refine g_lload_n (j := 3) rfl dX11_powerValue_43 ?_
    refine g_lload_n (j := 3) rfl dX11_powerValue_44 ?_
    refine g_lmul dX11_powerValue_45 ?_
    refine g_lmul dX11_powerValue_46 ?_
    exact G.retJ dX11_powerValue_47 rfl ⟨by rw [show k = 1 by omega]; rfl, rfl⟩
  · refine g_iload_n (j := 1) rfl dX11_powerValue_48 ?_
    refine g_i2l (by omega) dX11_powerValue_49 ?_
    refine g_lload_n (j := 3) rfl dX11_powerValue_50 ?_
    refine g_lload_n (j := 3) rfl dX11_powerValue_51 ?_
    refine g_lmul dX11_powerValue_52 ?_
    refine g_lload_n (j := 3) rfl dX11_powerValue_53 ?_
    refine g_lmul dX11_powerValue_54 ?_
    refine g_lmul dX11_powerValue_55 ?_
    exact G.retJ dX11_powerValue_56 rfl ⟨by rw [show k = 2 by omega]; rfl, rfl⟩
  · refine g_iload_n (j := 1) rfl dX11_powerValue_57 ?_
    refine g_i2l (by omega) dX11_powerValue_58 ?_
    refine g_lload_n (j := 3) rfl dX11_powerValue_59 ?_
    refine g_lload_n (j := 3) rfl dX11_powerValue_60 ?_
    refine g_lmul dX11_powerValue_61 ?_
    refine g_lload_n (j := 3) rfl dX11_powerValue_62 ?_
    refine g_lmul dX11_powerValue_63 ?_
    refine g_lload_n (j := 3) rfl dX11_powerValue_64 ?_
    refine g_lmul dX11_powerValue_65 ?_
    refine g_lmul dX11_powerValue_66 ?_
    exact G.retJ dX11_powerValue_67 rfl ⟨by rw [show k = 3 by omega]; rfl, rfl⟩
theorem c_isBeyond (w : WC) (d : Nat) (μ : Mem) {x : Int} (hx : i64 x) : Con w d mX11_isBeyond 0 0 [vJ x] μ (fun v μ2 => v = some (vI (bI (x < -3000 ∨ 3000 < x))) ∧ μ2 = μ) := by
  refine Con.of (by decide) (Nat.le_of_ble_eq_true rfl) rfl ?_
  refine g_lload_n (j := 0) rfl dX11_isBeyond_0 ?_
  refine g_ldc2 dX11_isBeyond_1 klX11_369 (z := -3000) rfl ?_
  refine g_lif_lt (tgt := 16) dX11_isBeyond_4 dX11_isBeyond_5 (by decide) (by omega) (by omega) (fun h4 => ?_) (fun h4 => ?_)
  · refine g_iconst dX11_isBeyond_16 ?_
    refine g_goto (tgt := 21) (by decide) dX11_isBeyond_17 ?_
    exact G.retZ dX11_isBeyond_21 rfl (by omega) ⟨by rw [bI_1 (by omega)], rfl⟩
  · refine g_lload_n (j := 0) rfl dX11_isBeyond_8 ?_
    refine g_ldc2 dX11_isBeyond_9 klX11_371 (z := 3000) rfl ?_
    refine g_lif_le (tgt := 20) dX11_isBeyond_12 dX11_isBeyond_13 (by decide) (by omega) (by omega) (fun h12 => ?_) (fun h12 => ?_)
    · refine g_iconst dX11_isBeyond_20 ?_
      exact G.retZ dX11_isBeyond_21 rfl (by omega) ⟨by rw [bI_0 (by omega)], rfl⟩
    · refine g_iconst dX11_isBeyond_16 ?_
      refine g_goto (tgt := 21) (by decide) dX11_isBeyond_17 ?_
      exact G.retZ dX11_isBeyond_21 rfl (by omega) ⟨by rw [bI_1 (by omega)], rfl⟩
/-- the cells of a Form at q, and its six rows behind it -/
def FoS (w : WC) (μ : Mem) (q : Nat) : Prop := IsO w μ q 1 ∧ (mR μ q 1 = some (q + 1) ∧ mR μ q 2 = some (q + 2) ∧ mR μ q 3 = some (q + 3) ∧ mR μ q 4 = some (q + 4) ∧ mR μ q 5 = some (q + 5) ∧ mR μ q 6 = some (q + 6)) ∧ IsA w μ (q + 1) 14 5 ∧ IsA w μ (q + 2) 14 5 ∧ IsA w μ (q + 3) 14 5 ∧ IsA w μ (q + 4) 14 5 ∧ IsA w μ (q + 5) 14 5 ∧ IsA w μ (q + 6) 14 5
theorem c_valueOf (w : WC) (d : Nat) (μ : Mem) {q : Nat} (hF : FoS w μ q) {t x k f : Int} (ht : 0 ≤ t ∧ t < 5) (ek : mI μ (q + 2) t = k) (ef : mI μ (q + 1) t = f) (hk : i32 k) (hf : i32 f) (hx : i32 x) (hx2 : x ≤ 2147483646) : Con w (d + 1) mX1_valueOf 0 0 [vP (some q), vI t, vI x] μ (fun v μ2 => v = some (vI (pv k f x)) ∧ μ2 = μ) := by
  subst ek
  subst ef
  obtain ⟨o0, ⟨r1, r2, r3, r4, r5, r6⟩, a1, a2, a3, a4, a5, a6⟩ := hF
  refine Con.of (by decide) (Nat.le_of_ble_eq_true rfl) rfl ?_
  refine g_aload_n (j := 0) rfl dX1_valueOf_0 ?_
  refine g_getR dX1_valueOf_1 flX1_15 rfl (by assumption) (kz := 2) rfl (by assumption) ?_
  refine g_iload_n (j := 1) rfl dX1_valueOf_4 ?_
  refine g_iald dX1_valueOf_5 (by assumption) (by omega) (by omega) ?_
  refine g_aload_n (j := 0) rfl dX1_valueOf_6 ?_
  refine g_getR dX1_valueOf_7 flX1_9 rfl (by assumption) (kz := 1) rfl (by assumption) ?_
  refine g_iload_n (j := 1) rfl dX1_valueOf_10 ?_
  refine g_iald dX1_valueOf_11 (by assumption) (by omega) (by omega) ?_
  refine g_iload_n (j := 2) rfl dX1_valueOf_12 ?_
  refine g_callS dX1_valueOf_13 mlX1_54 msX11_powerValue (c_powerValue w d μ hk hf hx hx2) sk3 rfl (by omega) (Nat.le_of_ble_eq_true rfl) (Nat.le_refl _) (Nat.le_refl _) (fun v μ2 hR => ?_)
  obtain ⟨rfl, hm⟩ := hR
  replace hm := hm.symm
  subst hm
  refine g_l2i dX1_valueOf_16 ?_
  exact G.retI dX1_valueOf_17 rfl ⟨rfl, rfl⟩
theorem c_spread (w : WC) (d : Nat) (μ : Mem) {q : Nat} (hF : FoS w μ q) {t : Int} (ht : 0 ≤ t ∧ t < 5) : Con w d mX1_spread 0 0 [vP (some q), vI t] μ (fun v μ2 => v = some (vI (mI μ (q + 6) t - mI μ (q + 5) t)) ∧ μ2 = μ) := by
  obtain ⟨o0, ⟨r1, r2, r3, r4, r5, r6⟩, a1, a2, a3, a4, a5, a6⟩ := hF
  refine Con.of (by decide) (Nat.le_of_ble_eq_true rfl) rfl ?_
  refine g_aload_n (j := 0) rfl dX1_spread_0 ?_
  refine g_getR dX1_spread_1 flX1_27 rfl (by assumption) (kz := 6) rfl (by assumption) ?_
  refine g_iload_n (j := 1) rfl dX1_spread_4 ?_
  refine g_iald dX1_spread_5 (by assumption) (by omega) (by omega) ?_
  refine g_aload_n (j := 0) rfl dX1_spread_6 ?_
  refine g_getR dX1_spread_7 flX1_24 rfl (by assumption) (kz := 5) rfl (by assumption) ?_
  refine g_iload_n (j := 1) rfl dX1_spread_10 ?_
  refine g_iald dX1_spread_11 (by assumption) (by omega) (by omega) ?_
  refine g_isub dX1_spread_12 ?_
  exact G.retI dX1_spread_13 rfl ⟨rfl, rfl⟩
/-- the greatest x of a term without a range -/
def gxF (k f : Int) : Nat → Int → Int
  | 0, x => x
  | n + 1, x => if x < 3000 ∧ pv k f (x + 1) ≤ 3000 then gxF k f n (x + 1) else x
def gx (k f : Int) : Int := gxF k f 3001 0
theorem l_greatestX (w : WC) (d : Nat) (μ : Mem) {k f : Int} (hk : i32 k) (hf : i32 f) (hpv : ∀ x : Int, 0 ≤ x → x ≤ 3001 → i64 (pv k f x)) : ∀ (n : Nat) (x : Int), 0 ≤ x → x ≤ 3000 → 3000 - x < n → G w (d + 1) mX11_greatestX (fun v μ2 => v = some (vI (gxF k f n x)) ∧ μ2 = μ) 0 0 2 [some (vI k), some (vI f), some (vI x)] [] μ := by
  intro n
  induction n with
  | zero => intro x h0 h1 h2; omega
  | succ n ih =>
    intro x h0 h1 h2
    have hp := hpv (x + 1) (by omega) (by omega)
    refine g_iload_n (j := 2) rfl dX11_greatestX_2 ?_
    refine g_sipush dX11_greatestX_3 (by omega) ?_
    refine g_icmp_ge (tgt := 30) dX11_greatestX_6 (by decide) (by omega) (by omega) (fun h6 => ?_) (fun h6 => ?_)
    · refine g_iload_n (j := 2) rfl dX11_greatestX_30 ?_
      exact G.retI dX11_greatestX_31 rfl ⟨by rw [gxF, if_neg (by omega)], rfl⟩
    · refine g_iload_n (j := 0) rfl dX11_greatestX_9 ?_
      refine g_iload_n (j := 1) rfl dX11_greatestX_10 ?_
      refine g_iload_n (j := 2) rfl dX11_greatestX_11 ?_
      refine g_iconst dX11_greatestX_12 ?_
      refine g_iadd dX11_greatestX_13 ?_
      refine g_callS dX11_greatestX_14 mlX11_373 msX11_powerValue (c_powerValue w d μ hk hf (x := x + 1) (by omega) (by omega)) sk3 rfl (by omega) (Nat.le_of_ble_eq_true rfl) (Nat.le_refl _) (Nat.le_refl _) (fun v μ2 hR => ?_)
      obtain ⟨rfl, hm⟩ := hR
      replace hm := hm.symm
      subst hm
      refine g_ldc2 dX11_greatestX_17 klX11_371 (z := 3000) rfl ?_
      refine g_lif_gt (tgt := 30) dX11_greatestX_20 dX11_greatestX_21 (by decide) (by omega) (by omega) (fun h20 => ?_) (fun h20 => ?_)
      · refine g_iload_n (j := 2) rfl dX11_greatestX_30 ?_
        exact G.retI dX11_greatestX_31 rfl ⟨by rw [gxF, if_neg (by omega)], rfl⟩
      · refine g_iinc (i := 2) dX11_greatestX_24 rfl (by decide) rfl ls2 ?_
        refine g_goto (tgt := 2) (by decide) dX11_greatestX_27 ?_
        rw [show gxF k f (n + 1) x = gxF k f n (x + 1) by rw [gxF, if_pos (by omega)]]
        exact ih (x + 1) (by omega) (by omega) (by omega)
theorem c_greatestX (w : WC) (d : Nat) (μ : Mem) {k f : Int} (hk : i32 k) (hf : i32 f) (hpv : ∀ x : Int, 0 ≤ x → x ≤ 3001 → i64 (pv k f x)) : Con w (d + 1) mX11_greatestX 0 0 [vI k, vI f] μ (fun v μ2 => v = some (vI (gx k f)) ∧ μ2 = μ) := by
  refine Con.of (by decide) (Nat.le_of_ble_eq_true rfl) rfl ?_
  refine g_iconst dX11_greatestX_0 ?_
  refine g_istore_n (j := 2) dX11_greatestX_1 (by decide) rfl ls2 ?_
  exact l_greatestX w d μ hk hf hpv 3001 0 (by omega) (by omega) (by omega)
/-- two terms are like -/
def lkM (μ : Mem) (q : Nat) (s t : Int) : Prop := mI μ (q + 1) s = mI μ (q + 1) t ∧ mI μ (q + 2) s = mI μ (q + 2) t ∧ mI μ (q + 3) s = mI μ (q + 3) t ∧ mI μ (q + 4) s = mI μ (q + 4) t
/-- every number of a Form's first rows is an int -/
def FoI (μ : Mem) (q : Nat) : Prop := mI μ q 0 ≤ 5 ∧ ∀ (j : Nat) (t : Int), 1 ≤ j → j ≤ 6 → 0 ≤ t → t < mI μ q 0 → i32 (mI μ (q + j) t)
theorem c_areLike (w : WC) (d : Nat) (μ : Mem) {q : Nat} (hF : FoS w μ q) (hI : FoI μ q) {s t : Int} (hs : 0 ≤ s ∧ s < mI μ q 0) (ht : 0 ≤ t ∧ t < mI μ q 0) : Con w d mX1_areLike 0 0 [vP (some q), vI s, vI t] μ (fun v μ2 => v = some (vI (bI (lkM μ q s t))) ∧ μ2 = μ) := by
  obtain ⟨o0, ⟨r1, r2, r3, r4, r5, r6⟩, a1, a2, a3, a4, a5, a6⟩ := hF
  obtain ⟨hI5, hI⟩ := hI
  have b1 := hI 1 s (by omega) (by omega) hs.1 hs.2
  have b2 := hI 2 s (by omega) (by omega) hs.1 hs.2
  have b3 := hI 3 s (by omega) (by omega) hs.1 hs.2
  have b4 := hI 4 s (by omega) (by omega) hs.1 hs.2
  have c1 := hI 1 t (by omega) (by omega) ht.1 ht.2
  have c2 := hI 2 t (by omega) (by omega) ht.1 ht.2
  have c3 := hI 3 t (by omega) (by omega) ht.1 ht.2
  have c4 := hI 4 t (by omega) (by omega) ht.1 ht.2
  refine Con.of (by decide) (Nat.le_of_ble_eq_true rfl) rfl ?_
  refine g_aload_n (j := 0) rfl dX1_areLike_0 ?_
  refine g_getR dX1_areLike_1 flX1_9 rfl (by assumption) (kz := 1) rfl (by assumption) ?_
  refine g_iload_n (j := 1) rfl dX1_areLike_4 ?_
  refine g_iald dX1_areLike_5 (by assumption) (by omega) (by omega) ?_
  refine g_aload_n (j := 0) rfl dX1_areLike_6 ?_
  refine g_getR dX1_areLike_7 flX1_9 rfl (by assumption) (kz := 1) rfl (by assumption) ?_
  refine g_iload_n (j := 2) rfl dX1_areLike_10 ?_
  refine g_iald dX1_areLike_11 (by assumption) (by omega) (by omega) ?_
  refine g_icmp_ne (tgt := 64) dX1_areLike_12 (by decide) (by omega) (by omega) (fun h12 => ?_) (fun h12 => ?_)
  · refine g_iconst dX1_areLike_64 ?_
    exact G.retZ dX1_areLike_65 rfl (by omega) ⟨by rw [bI_0 fun h => h12 h.1], rfl⟩
  · refine g_aload_n (j := 0) rfl dX1_areLike_15 ?_
    refine g_getR dX1_areLike_16 flX1_15 rfl (by assumption) (kz := 2) rfl (by assumption) ?_
    refine g_iload_n (j := 1) rfl dX1_areLike_19 ?_
    refine g_iald dX1_areLike_20 (by assumption) (by omega) (by omega) ?_
    refine g_aload_n (j := 0) rfl dX1_areLike_21 ?_
    refine g_getR dX1_areLike_22 flX1_15 rfl (by assumption) (kz := 2) rfl (by assumption) ?_
    refine g_iload_n (j := 2) rfl dX1_areLike_25 ?_
    refine g_iald dX1_areLike_26 (by assumption) (by omega) (by omega) ?_
    refine g_icmp_ne (tgt := 64) dX1_areLike_27 (by decide) (by omega) (by omega) (fun h27 => ?_) (fun h27 => ?_)
    · refine g_iconst dX1_areLike_64 ?_
      exact G.retZ dX1_areLike_65 rfl (by omega) ⟨by rw [bI_0 fun h => h27 h.2.1], rfl⟩
    · refine g_aload_n (j := 0) rfl dX1_areLike_30 ?_
      refine g_getR dX1_areLike_31 flX1_18 rfl (by assumption) (kz := 3) rfl (by assumption) ?_
      refine g_iload_n (j := 1) rfl dX1_areLike_34 ?_
      refine g_iald dX1_areLike_35 (by assumption) (by omega) (by omega) ?_
      refine g_aload_n (j := 0) rfl dX1_areLike_36 ?_
      refine g_getR dX1_areLike_37 flX1_18 rfl (by assumption) (kz := 3) rfl (by assumption) ?_
      refine g_iload_n (j := 2) rfl dX1_areLike_40 ?_
      refine g_iald dX1_areLike_41 (by assumption) (by omega) (by omega) ?_
      refine g_icmp_ne (tgt := 64) dX1_areLike_42 (by decide) (by omega) (by omega) (fun h42 => ?_) (fun h42 => ?_)
      · refine g_iconst dX1_areLike_64 ?_
        exact G.retZ dX1_areLike_65 rfl (by omega) ⟨by rw [bI_0 fun h => h42 h.2.2.1], rfl⟩
      · refine g_aload_n (j := 0) rfl dX1_areLike_45 ?_
        refine g_getR dX1_areLike_46 flX1_21 rfl (by assumption) (kz := 4) rfl (by assumption) ?_
        refine g_iload_n (j := 1) rfl dX1_areLike_49 ?_
        refine g_iald dX1_areLike_50 (by assumption) (by omega) (by omega) ?_
        refine g_aload_n (j := 0) rfl dX1_areLike_51 ?_
        refine g_getR dX1_areLike_52 flX1_21 rfl (by assumption) (kz := 4) rfl (by assumption) ?_
        refine g_iload_n (j := 2) rfl dX1_areLike_55 ?_
        refine g_iald dX1_areLike_56 (by assumption) (by omega) (by omega) ?_
        refine g_icmp_ne (tgt := 64) dX1_areLike_57 (by decide) (by omega) (by omega) (fun h57 => ?_) (fun h57 => ?_)
        · refine g_iconst dX1_areLike_64 ?_
          exact G.retZ dX1_areLike_65 rfl (by omega) ⟨by rw [bI_0 fun h => h57 h.2.2.2], rfl⟩
        · refine g_iconst dX1_areLike_60 ?_
          refine g_goto (tgt := 65) (by decide) dX1_areLike_61 ?_
          exact G.retZ dX1_areLike_65 rfl (by omega) ⟨by rw [bI_1 ⟨h12, h27, h42, h57⟩], rfl⟩
