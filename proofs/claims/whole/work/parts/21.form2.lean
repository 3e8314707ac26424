/-! FORM: likeFrom, addNew, addTermOf, addAll, Form() -/
/-- likeFrom from s on, c counted -/
noncomputable def lkF (μ : Mem) (q : Nat) (t : Int) : Nat → Int → Int → Int
  | 0, _, c => c
  | n + 1, s, c => if bI (lkM μ q s t) = 0 then lkF μ q t n (s + 1) c else if s < t then 0 else lkF μ q t n (s + 1) (c + 1)
theorem l_likeFrom (w : WC) (d : Nat) (μ : Mem) {q : Nat} (hF : FoS w μ q) (hI : FoI μ q) (hc : 0 ≤ mI μ q 0 ∧ mI μ q 0 ≤ 5) {t : Int} (ht : 0 ≤ t ∧ t < mI μ q 0) : ∀ (n : Nat) (s c : Int), 0 ≤ s → s + n = mI μ q 0 → 0 ≤ c → c ≤ s →
    G w (d + 1) mX1_likeFrom (fun v μ2 => v = some (vI (lkF μ q t n s c)) ∧ μ2 = μ) 0 0 4 [some (vP (some q)), some (vI t), some (vI c), some (vI s)] [] μ := by
  intro n
  have hF0 := hF
  obtain ⟨o0, ⟨r1, r2, r3, r4, r5, r6⟩, a1, a2, a3, a4, a5, a6⟩ := hF
  induction n with
  | zero =>
    intro s c hs hn hc0 hcs
    refine g_iload_n (j := 3) rfl dX1_likeFrom_4 ?_
    refine g_aload_n (j := 0) rfl dX1_likeFrom_5 ?_
    refine g_getI dX1_likeFrom_6 flX1_30 rfl (by assumption) (kz := 0) rfl ?_
    refine g_icmp_ge (tgt := 37) dX1_likeFrom_9 (by decide) (by omega) (by omega) (fun h9 => ?_) (fun h9 => ?_)
    · refine g_iload_n (j := 2) rfl dX1_likeFrom_37 ?_
      exact G.retI dX1_likeFrom_38 rfl ⟨rfl, rfl⟩
    · omega
  | succ n ih =>
    intro s c hs hn hc0 hcs
    have hb := bI_01 (lkM μ q s t)
    refine g_iload_n (j := 3) rfl dX1_likeFrom_4 ?_
    refine g_aload_n (j := 0) rfl dX1_likeFrom_5 ?_
    refine g_getI dX1_likeFrom_6 flX1_30 rfl (by assumption) (kz := 0) rfl ?_
    refine g_icmp_ge (tgt := 37) dX1_likeFrom_9 (by decide) (by omega) (by omega) (fun h9 => ?_) (fun h9 => ?_)
    · omega
    · refine g_aload_n (j := 0) rfl dX1_likeFrom_12 ?_
      refine g_iload_n (j := 3) rfl dX1_likeFrom_13 ?_
      refine g_iload_n (j := 1) rfl dX1_likeFrom_14 ?_
      refine g_callV dX1_likeFrom_15 mlX1_58 mvX1_areLike (ci := 1) ⟨by decide, rfl⟩ (by assumption) (c_areLike w d μ hF0 hI (s := s) (by omega) ht) sv2 rfl (by omega) (Nat.le_of_ble_eq_true rfl) (Nat.le_refl _) (Nat.le_refl _) (fun v μ2 hR => ?_)
      obtain ⟨rfl, hm⟩ := hR
      replace hm := hm.symm
      subst hm
      refine g_if_eq (tgt := 31) dX1_likeFrom_18 (by decide) (by omega) (fun h18 => ?_) (fun h18 => ?_)
      · refine g_iinc (i := 3) dX1_likeFrom_31 rfl (by decide) rfl ls3 ?_
        refine g_goto (tgt := 4) (by decide) dX1_likeFrom_34 ?_
        rw [lkF, if_pos h18]
        exact ih (s + 1) c (by omega) (by omega) (by omega) (by omega)
      · refine g_iload_n (j := 3) rfl dX1_likeFrom_21 ?_
        refine g_iload_n (j := 1) rfl dX1_likeFrom_22 ?_
        refine g_icmp_ge (tgt := 28) dX1_likeFrom_23 (by decide) (by omega) (by omega) (fun h23 => ?_) (fun h23 => ?_)
        · refine g_iinc (i := 2) dX1_likeFrom_28 rfl (by decide) rfl ls2 ?_
          refine g_iinc (i := 3) dX1_likeFrom_31 rfl (by decide) rfl ls3 ?_
          refine g_goto (tgt := 4) (by decide) dX1_likeFrom_34 ?_
          rw [lkF, if_neg h18, if_neg (by omega)]
          exact ih (s + 1) (c + 1) (by omega) (by omega) (by omega) (by omega)
        · refine g_iconst dX1_likeFrom_26 ?_
          exact G.retI dX1_likeFrom_27 rfl ⟨by rw [lkF, if_neg h18, if_pos (by omega)], rfl⟩
theorem c_likeFrom (w : WC) (d : Nat) (μ : Mem) {q : Nat} (hF : FoS w μ q) (hI : FoI μ q) (hc : 0 ≤ mI μ q 0 ∧ mI μ q 0 ≤ 5) {t : Int} (ht : 0 ≤ t ∧ t < mI μ q 0) : Con w (d + 1) mX1_likeFrom 0 0 [vP (some q), vI t] μ (fun v μ2 => v = some (vI (lkF μ q t (mI μ q 0).toNat 0 0)) ∧ μ2 = μ) := by
  refine Con.of (by decide) (Nat.le_of_ble_eq_true rfl) rfl ?_
  refine g_iconst dX1_likeFrom_0 ?_
  refine g_istore_n (j := 2) dX1_likeFrom_1 (by decide) rfl ls2 ?_
  refine g_iconst dX1_likeFrom_2 ?_
  refine g_istore_n (j := 3) dX1_likeFrom_3 (by decide) rfl ls3 ?_
  exact l_likeFrom w d μ hF hI hc ht _ 0 0 (by omega) (by omega) (by omega) (by omega)
/-- a Form's numbers with a new term: its place, its least and greatest value -/
def tLo (k f l h : Int) : Int := if (¬ k = 0 ∧ ¬ k = 2) ∧ l ≤ 0 ∧ 0 ≤ h then 0 else min (pv k f l) (pv k f h)
def tHi (k f l h : Int) : Int := max (pv k f l) (pv k f h)
def addT (μ : Mem) (q : Nat) (f k l h : Int) : Mem := sI (sI (sI (sI (sI (sI (sI μ (q + 1) (mI μ q 0) f) (q + 2) (mI μ q 0) k) (q + 3) (mI μ q 0) l) (q + 4) (mI μ q 0) h) (q + 5) (mI μ q 0) (tLo k f l h)) (q + 6) (mI μ q 0) (tHi k f l h)) q 0 (mI μ q 0 + 1)
theorem FoS.sI {w : WC} {μ : Mem} {q a : Nat} {k v : Int} (h : FoS w μ q) : FoS w (sI μ a k v) q := h
theorem sI_over (μ : Mem) {a b : Nat} (hab : a ≠ b) (k j u v z : Int) : sI (sI (sI μ a k u) b j v) a k z = sI (sI μ a k z) b j v :=
  Mem.ext (fun x i => by simp only [mI_sI]; by_cases h : x = a <;> by_cases h2 : x = b <;> simp_all) (fun _ _ => rfl) (fun _ _ => rfl) rfl rfl
theorem c_min (w : WC) (d : Nat) (μ : Mem) {a b : Int} (ha : i32 a) (hb : i32 b) : Con w d mJ9_min_7cf53 0 0 [vI a, vI b] μ (fun v μ2 => v = some (vI (min a b)) ∧ μ2 = μ) := by
  refine Con.ofF (by decide +kernel) (Nat.le_of_ble_eq_true rfl) rfl ?_
  refine g_iload_n (j := 0) rfl dJ9_min_7cf53_0 ?_
  refine g_iload_n (j := 1) rfl dJ9_min_7cf53_1 ?_
  refine g_icmp_gt (tgt := 9) dJ9_min_7cf53_2 (by decide) (by omega) (by omega) (fun h2 => ?_) (fun h2 => ?_)
  · refine g_iload_n (j := 1) rfl dJ9_min_7cf53_9 ?_
    exact G.retI dJ9_min_7cf53_10 rfl ⟨by rw [Int.min_eq_right (by omega)], rfl⟩
  · refine g_iload_n (j := 0) rfl dJ9_min_7cf53_5 ?_
    refine g_goto (tgt := 10) (by decide) dJ9_min_7cf53_6 ?_
    exact G.retI dJ9_min_7cf53_10 rfl ⟨by rw [Int.min_eq_left (by omega)], rfl⟩
theorem c_max (w : WC) (d : Nat) (μ : Mem) {a b : Int} (ha : i32 a) (hb : i32 b) : Con w d mJ9_max_7cf53 0 0 [vI a, vI b] μ (fun v μ2 => v = some (vI (max a b)) ∧ μ2 = μ) := by
  refine Con.ofF (by decide +kernel) (Nat.le_of_ble_eq_true rfl) rfl ?_
  refine g_iload_n (j := 0) rfl dJ9_max_7cf53_0 ?_
  refine g_iload_n (j := 1) rfl dJ9_max_7cf53_1 ?_
  refine g_icmp_lt (tgt := 9) dJ9_max_7cf53_2 (by decide) (by omega) (by omega) (fun h2 => ?_) (fun h2 => ?_)
  · refine g_iload_n (j := 1) rfl dJ9_max_7cf53_9 ?_
    exact G.retI dJ9_max_7cf53_10 rfl ⟨by rw [Int.max_eq_right (by omega)], rfl⟩
  · refine g_iload_n (j := 0) rfl dJ9_max_7cf53_5 ?_
    refine g_goto (tgt := 10) (by decide) dJ9_max_7cf53_6 ?_
    exact G.retI dJ9_max_7cf53_10 rfl ⟨by rw [Int.max_eq_left (by omega)], rfl⟩
theorem c_addNew (w : WC) (d : Nat) (μ : Mem) {q : Nat} (hF : FoS w μ q) (hc : 0 ≤ mI μ q 0 ∧ mI μ q 0 ≤ 4) {f k l h : Int} (hf : i32 f) (hk : i32 k) (hl : i32 l ∧ l ≤ 2147483646) (hh : i32 h ∧ h ≤ 2147483646) (hvl : i32 (pv k f l)) (hvh : i32 (pv k f h)) : Con w (d + 2) mX1_addNew 0 0 [vP (some q), vI f, vI k, vI l, vI h] μ (fun v μ2 => v = none ∧ μ2 = addT μ q f k l h) := by
  obtain ⟨hl, hl2⟩ := hl
  obtain ⟨hh, hh2⟩ := hh
  have hF0 := hF
  obtain ⟨o0, ⟨r1, r2, r3, r4, r5, r6⟩, a1, a2, a3, a4, a5, a6⟩ := hF
  refine Con.of (by decide) (Nat.le_of_ble_eq_true rfl) rfl ?_
  refine g_aload_n (j := 0) rfl dX1_addNew_0 ?_
  refine g_getI dX1_addNew_1 flX1_30 rfl (by assumption) (kz := 0) rfl ?_
  refine g_iconst dX1_addNew_4 ?_
  refine g_icmp_lt (tgt := 9) dX1_addNew_5 (by decide) (by omega) (by omega) (fun h5 => ?_) (fun h5 => ?_)
  · refine g_aload_n (j := 0) rfl dX1_addNew_9 ?_
    refine g_getI dX1_addNew_10 flX1_30 rfl (by assumption) (kz := 0) rfl ?_
    refine g_istore (i := 5) dX1_addNew_13 (by decide) rfl ls5 ?_
    refine g_aload_n (j := 0) rfl dX1_addNew_15 ?_
    refine g_getR dX1_addNew_16 flX1_9 rfl (by assumption) (kz := 1) rfl (by assumption) ?_
    refine g_iload (i := 5) rfl dX1_addNew_19 ?_
    refine g_iload_n (j := 1) rfl dX1_addNew_21 ?_
    refine g_iast dX1_addNew_22 (by assumption) (by omega) (by omega) ?_
    refine g_aload_n (j := 0) rfl dX1_addNew_23 ?_
    refine g_getR dX1_addNew_24 flX1_15 rfl (by simp only [IsO_sI, IsO_sL, IsO_sR, IsO_wI, IsO_wL, IsA_sI, IsA_sL, IsA_sR, IsA_wI, IsA_wL, mR_sI, mR_sL, mR_wI, mR_wL]; assumption) (kz := 2) rfl (by simp only [IsO_sI, IsO_sL, IsO_sR, IsO_wI, IsO_wL, IsA_sI, IsA_sL, IsA_sR, IsA_wI, IsA_wL, mR_sI, mR_sL, mR_wI, mR_wL]; assumption) ?_
    refine g_iload (i := 5) rfl dX1_addNew_27 ?_
    refine g_iload_n (j := 2) rfl dX1_addNew_29 ?_
    refine g_iast dX1_addNew_30 (by simp only [IsO_sI, IsO_sL, IsO_sR, IsO_wI, IsO_wL, IsA_sI, IsA_sL, IsA_sR, IsA_wI, IsA_wL, mR_sI, mR_sL, mR_wI, mR_wL]; assumption) (by omega) (by omega) ?_
    refine g_aload_n (j := 0) rfl dX1_addNew_31 ?_
    refine g_getR dX1_addNew_32 flX1_18 rfl (by simp only [IsO_sI, IsO_sL, IsO_sR, IsO_wI, IsO_wL, IsA_sI, IsA_sL, IsA_sR, IsA_wI, IsA_wL, mR_sI, mR_sL, mR_wI, mR_wL]; assumption) (kz := 3) rfl (by simp only [IsO_sI, IsO_sL, IsO_sR, IsO_wI, IsO_wL, IsA_sI, IsA_sL, IsA_sR, IsA_wI, IsA_wL, mR_sI, mR_sL, mR_wI, mR_wL]; assumption) ?_
    refine g_iload (i := 5) rfl dX1_addNew_35 ?_
    refine g_iload_n (j := 3) rfl dX1_addNew_37 ?_
    refine g_iast dX1_addNew_38 (by simp only [IsO_sI, IsO_sL, IsO_sR, IsO_wI, IsO_wL, IsA_sI, IsA_sL, IsA_sR, IsA_wI, IsA_wL, mR_sI, mR_sL, mR_wI, mR_wL]; assumption) (by omega) (by omega) ?_
    refine g_aload_n (j := 0) rfl dX1_addNew_39 ?_
    refine g_getR dX1_addNew_40 flX1_21 rfl (by simp only [IsO_sI, IsO_sL, IsO_sR, IsO_wI, IsO_wL, IsA_sI, IsA_sL, IsA_sR, IsA_wI, IsA_wL, mR_sI, mR_sL, mR_wI, mR_wL]; assumption) (kz := 4) rfl (by simp only [IsO_sI, IsO_sL, IsO_sR, IsO_wI, IsO_wL, IsA_sI, IsA_sL, IsA_sR, IsA_wI, IsA_wL, mR_sI, mR_sL, mR_wI, mR_wL]; assumption) ?_
    refine g_iload (i := 5) rfl dX1_addNew_43 ?_
    refine g_iload (i := 4) rfl dX1_addNew_45 ?_
    refine g_iast dX1_addNew_47 (by simp only [IsO_sI, IsO_sL, IsO_sR, IsO_wI, IsO_wL, IsA_sI, IsA_sL, IsA_sR, IsA_wI, IsA_wL, mR_sI, mR_sL, mR_wI, mR_wL]; assumption) (by omega) (by omega) ?_
    refine g_aload_n (j := 0) rfl dX1_addNew_48 ?_
    refine g_getR dX1_addNew_49 flX1_24 rfl (by simp only [IsO_sI, IsO_sL, IsO_sR, IsO_wI, IsO_wL, IsA_sI, IsA_sL, IsA_sR, IsA_wI, IsA_wL, mR_sI, mR_sL, mR_wI, mR_wL]; assumption) (kz := 5) rfl (by simp only [IsO_sI, IsO_sL, IsO_sR, IsO_wI, IsO_wL, IsA_sI, IsA_sL, IsA_sR, IsA_wI, IsA_wL, mR_sI, mR_sL, mR_wI, mR_wL]; assumption) ?_
    refine g_iload (i := 5) rfl dX1_addNew_52 ?_
    refine g_aload_n (j := 0) rfl dX1_addNew_54 ?_
    refine g_iload (i := 5) rfl dX1_addNew_55 ?_
    refine g_iload_n (j := 3) rfl dX1_addNew_57 ?_
    refine g_callV dX1_addNew_58 mlX1_34 mvX1_valueOf (ci := 1) ⟨by decide, rfl⟩ (by simp only [IsO_sI, IsO_sL, IsO_sR, IsO_wI, IsO_wL, IsA_sI, IsA_sL, IsA_sR, IsA_wI, IsA_wL, mR_sI, mR_sL, mR_wI, mR_wL]; assumption) (c_valueOf w d _ (q := q) hF0.sI.sI.sI.sI (t := mI μ q 0) (k := k) (f := f) (by omega) (by simp [mI_sI]) (by simp [mI_sI]) hk hf hl (by omega)) sv2 rfl (by omega) (Nat.le_of_ble_eq_true rfl) (Nat.le_refl _) (Nat.le_refl _) (fun v μ2 hR => ?_)
    obtain ⟨rfl, hm⟩ := hR
    replace hm := hm.symm
    subst hm
    refine g_aload_n (j := 0) rfl dX1_addNew_61 ?_
    refine g_iload (i := 5) rfl dX1_addNew_62 ?_
    refine g_iload (i := 4) rfl dX1_addNew_64 ?_
    refine g_callV dX1_addNew_66 mlX1_34 mvX1_valueOf (ci := 1) ⟨by decide, rfl⟩ (by simp only [IsO_sI, IsO_sL, IsO_sR, IsO_wI, IsO_wL, IsA_sI, IsA_sL, IsA_sR, IsA_wI, IsA_wL, mR_sI, mR_sL, mR_wI, mR_wL]; assumption) (c_valueOf w d _ (q := q) hF0.sI.sI.sI.sI (t := mI μ q 0) (k := k) (f := f) (by omega) (by simp [mI_sI]) (by simp [mI_sI]) hk hf hh (by omega)) sv2 rfl (by omega) (Nat.le_of_ble_eq_true rfl) (Nat.le_refl _) (Nat.le_refl _) (fun v μ2 hR => ?_)
    obtain ⟨rfl, hm⟩ := hR
    replace hm := hm.symm
    subst hm
    refine g_callS dX1_addNew_69 mlX1_38 msJ9_min_7cf53 (c_min w d _ hvl hvh) sk2 rfl (by omega) (Nat.le_of_ble_eq_true rfl) (Nat.le_refl _) (Nat.le_refl _) (fun v μ2 hR => ?_)
    obtain ⟨rfl, hm⟩ := hR
    replace hm := hm.symm
    subst hm
    refine g_iast dX1_addNew_72 (by simp only [IsO_sI, IsO_sL, IsO_sR, IsO_wI, IsO_wL, IsA_sI, IsA_sL, IsA_sR, IsA_wI, IsA_wL, mR_sI, mR_sL, mR_wI, mR_wL]; assumption) (by omega) (by omega) ?_
    refine g_aload_n (j := 0) rfl dX1_addNew_73 ?_
    refine g_getR dX1_addNew_74 flX1_27 rfl (by simp only [IsO_sI, IsO_sL, IsO_sR, IsO_wI, IsO_wL, IsA_sI, IsA_sL, IsA_sR, IsA_wI, IsA_wL, mR_sI, mR_sL, mR_wI, mR_wL]; assumption) (kz := 6) rfl (by simp only [IsO_sI, IsO_sL, IsO_sR, IsO_wI, IsO_wL, IsA_sI, IsA_sL, IsA_sR, IsA_wI, IsA_wL, mR_sI, mR_sL, mR_wI, mR_wL]; assumption) ?_
    refine g_iload (i := 5) rfl dX1_addNew_77 ?_
    refine g_aload_n (j := 0) rfl dX1_addNew_79 ?_
    refine g_iload (i := 5) rfl dX1_addNew_80 ?_
    refine g_iload_n (j := 3) rfl dX1_addNew_82 ?_
    refine g_callV dX1_addNew_83 mlX1_34 mvX1_valueOf (ci := 1) ⟨by decide, rfl⟩ (by simp only [IsO_sI, IsO_sL, IsO_sR, IsO_wI, IsO_wL, IsA_sI, IsA_sL, IsA_sR, IsA_wI, IsA_wL, mR_sI, mR_sL, mR_wI, mR_wL]; assumption) (c_valueOf w d _ (q := q) hF0.sI.sI.sI.sI.sI (t := mI μ q 0) (k := k) (f := f) (by omega) (by simp [mI_sI]) (by simp [mI_sI]) hk hf hl (by omega)) sv2 rfl (by omega) (Nat.le_of_ble_eq_true rfl) (Nat.le_refl _) (Nat.le_refl _) (fun v μ2 hR => ?_)
    obtain ⟨rfl, hm⟩ := hR
    replace hm := hm.symm
    subst hm
    refine g_aload_n (j := 0) rfl dX1_addNew_86 ?_
    refine g_iload (i := 5) rfl dX1_addNew_87 ?_
    refine g_iload (i := 4) rfl dX1_addNew_89 ?_
    refine g_callV dX1_addNew_91 mlX1_34 mvX1_valueOf (ci := 1) ⟨by decide, rfl⟩ (by simp only [IsO_sI, IsO_sL, IsO_sR, IsO_wI, IsO_wL, IsA_sI, IsA_sL, IsA_sR, IsA_wI, IsA_wL, mR_sI, mR_sL, mR_wI, mR_wL]; assumption) (c_valueOf w d _ (q := q) hF0.sI.sI.sI.sI.sI (t := mI μ q 0) (k := k) (f := f) (by omega) (by simp [mI_sI]) (by simp [mI_sI]) hk hf hh (by omega)) sv2 rfl (by omega) (Nat.le_of_ble_eq_true rfl) (Nat.le_refl _) (Nat.le_refl _) (fun v μ2 hR => ?_)
    obtain ⟨rfl, hm⟩ := hR
    replace hm := hm.symm
    subst hm
    refine g_callS dX1_addNew_94 mlX1_43 msJ9_max_7cf53 (c_max w d _ hvl hvh) sk2 rfl (by omega) (Nat.le_of_ble_eq_true rfl) (Nat.le_refl _) (Nat.le_refl _) (fun v μ2 hR => ?_)
    obtain ⟨rfl, hm⟩ := hR
    replace hm := hm.symm
    subst hm
    refine g_iast dX1_addNew_97 (by simp only [IsO_sI, IsO_sL, IsO_sR, IsO_wI, IsO_wL, IsA_sI, IsA_sL, IsA_sR, IsA_wI, IsA_wL, mR_sI, mR_sL, mR_wI, mR_wL]; assumption) (by omega) (by omega) ?_
    refine g_iload_n (j := 2) rfl dX1_addNew_98 ?_
    refine g_if_eq (tgt := 111) dX1_addNew_99 (by decide) (by omega) (fun h99 => ?_) (fun h99 => ?_)
    · refine g_iconst dX1_addNew_111 ?_
      refine g_istore (i := 6) dX1_addNew_112 (by decide) rfl ls6 ?_
      refine g_iload (i := 6) rfl dX1_addNew_114 ?_
      refine g_if_eq (tgt := 136) dX1_addNew_116 (by decide) (by omega) (fun h116 => ?_) (fun h116 => ?_)
      · refine g_aload_n (j := 0) rfl dX1_addNew_136 ?_
        refine g_dup rfl dX1_addNew_137 ?_
        refine g_getIv dX1_addNew_138 flX1_30 rfl (by simp only [IsO_sI, IsO_sL, IsO_sR, IsO_wI, IsO_wL, IsA_sI, IsA_sL, IsA_sR, IsA_wI, IsA_wL, mR_sI, mR_sL, mR_wI, mR_wL]; assumption) (kz := 0) rfl (by simp [mI_sI, mI_sL, mI_sR, mI_wI, mI_wL, mL_sI, mL_sL, mL_sR, mL_wI, mL_wL]; rfl) ?_
        refine g_iconst dX1_addNew_141 ?_
        refine g_iadd dX1_addNew_142 ?_
        refine g_putI dX1_addNew_143 fpX1_30 rfl rfl rfl (by simp only [IsO_sI, IsO_sL, IsO_sR, IsO_wI, IsO_wL, IsA_sI, IsA_sL, IsA_sR, IsA_wI, IsA_wL, mR_sI, mR_sL, mR_wI, mR_wL]; assumption) (kz := 0) rfl ?_
        exact G.retV dX1_addNew_146 rfl ⟨rfl, by
          rw [addT, tLo, if_neg (by omega), tHi]
          try simp [mI_sI]⟩
      · omega
    · refine g_iload_n (j := 2) rfl dX1_addNew_102 ?_
      refine g_iconst dX1_addNew_103 ?_
      refine g_icmp_eq (tgt := 111) dX1_addNew_104 (by decide) (by omega) (by omega) (fun h104 => ?_) (fun h104 => ?_)
      · refine g_iconst dX1_addNew_111 ?_
        refine g_istore (i := 6) dX1_addNew_112 (by decide) rfl ls6 ?_
        refine g_iload (i := 6) rfl dX1_addNew_114 ?_
        refine g_if_eq (tgt := 136) dX1_addNew_116 (by decide) (by omega) (fun h116 => ?_) (fun h116 => ?_)
        · refine g_aload_n (j := 0) rfl dX1_addNew_136 ?_
          refine g_dup rfl dX1_addNew_137 ?_
          refine g_getIv dX1_addNew_138 flX1_30 rfl (by simp only [IsO_sI, IsO_sL, IsO_sR, IsO_wI, IsO_wL, IsA_sI, IsA_sL, IsA_sR, IsA_wI, IsA_wL, mR_sI, mR_sL, mR_wI, mR_wL]; assumption) (kz := 0) rfl (by simp [mI_sI, mI_sL, mI_sR, mI_wI, mI_wL, mL_sI, mL_sL, mL_sR, mL_wI, mL_wL]; rfl) ?_
          refine g_iconst dX1_addNew_141 ?_
          refine g_iadd dX1_addNew_142 ?_
          refine g_putI dX1_addNew_143 fpX1_30 rfl rfl rfl (by simp only [IsO_sI, IsO_sL, IsO_sR, IsO_wI, IsO_wL, IsA_sI, IsA_sL, IsA_sR, IsA_wI, IsA_wL, mR_sI, mR_sL, mR_wI, mR_wL]; assumption) (kz := 0) rfl ?_
          exact G.retV dX1_addNew_146 rfl ⟨rfl, by
            rw [addT, tLo, if_neg (by omega), tHi]
            try simp [mI_sI]⟩
        · omega
      · refine g_iconst dX1_addNew_107 ?_
        refine g_goto (tgt := 112) (by decide) dX1_addNew_108 ?_
        refine g_istore (i := 6) dX1_addNew_112 (by decide) rfl ls6 ?_
        refine g_iload (i := 6) rfl dX1_addNew_114 ?_
        refine g_if_eq (tgt := 136) dX1_addNew_116 (by decide) (by omega) (fun h116 => ?_) (fun h116 => ?_)
        · omega
        · refine g_iload_n (j := 3) rfl dX1_addNew_119 ?_
          refine g_if_gt (tgt := 136) dX1_addNew_120 (by decide) (by omega) (fun h120 => ?_) (fun h120 => ?_)
          · refine g_aload_n (j := 0) rfl dX1_addNew_136 ?_
            refine g_dup rfl dX1_addNew_137 ?_
            refine g_getIv dX1_addNew_138 flX1_30 rfl (by simp only [IsO_sI, IsO_sL, IsO_sR, IsO_wI, IsO_wL, IsA_sI, IsA_sL, IsA_sR, IsA_wI, IsA_wL, mR_sI, mR_sL, mR_wI, mR_wL]; assumption) (kz := 0) rfl (by simp [mI_sI, mI_sL, mI_sR, mI_wI, mI_wL, mL_sI, mL_sL, mL_sR, mL_wI, mL_wL]; rfl) ?_
            refine g_iconst dX1_addNew_141 ?_
            refine g_iadd dX1_addNew_142 ?_
            refine g_putI dX1_addNew_143 fpX1_30 rfl rfl rfl (by simp only [IsO_sI, IsO_sL, IsO_sR, IsO_wI, IsO_wL, IsA_sI, IsA_sL, IsA_sR, IsA_wI, IsA_wL, mR_sI, mR_sL, mR_wI, mR_wL]; assumption) (kz := 0) rfl ?_
            exact G.retV dX1_addNew_146 rfl ⟨rfl, by
              rw [addT, tLo, if_neg (by omega), tHi]
              try simp [mI_sI]⟩
          · refine g_iload (i := 4) rfl dX1_addNew_123 ?_
            refine g_if_lt (tgt := 136) dX1_addNew_125 (by decide) (by omega) (fun h125 => ?_) (fun h125 => ?_)
            · refine g_aload_n (j := 0) rfl dX1_addNew_136 ?_
              refine g_dup rfl dX1_addNew_137 ?_
              refine g_getIv dX1_addNew_138 flX1_30 rfl (by simp only [IsO_sI, IsO_sL, IsO_sR, IsO_wI, IsO_wL, IsA_sI, IsA_sL, IsA_sR, IsA_wI, IsA_wL, mR_sI, mR_sL, mR_wI, mR_wL]; assumption) (kz := 0) rfl (by simp [mI_sI, mI_sL, mI_sR, mI_wI, mI_wL, mL_sI, mL_sL, mL_sR, mL_wI, mL_wL]; rfl) ?_
              refine g_iconst dX1_addNew_141 ?_
              refine g_iadd dX1_addNew_142 ?_
              refine g_putI dX1_addNew_143 fpX1_30 rfl rfl rfl (by simp only [IsO_sI, IsO_sL, IsO_sR, IsO_wI, IsO_wL, IsA_sI, IsA_sL, IsA_sR, IsA_wI, IsA_wL, mR_sI, mR_sL, mR_wI, mR_wL]; assumption) (kz := 0) rfl ?_
              exact G.retV dX1_addNew_146 rfl ⟨rfl, by
                rw [addT, tLo, if_neg (by omega), tHi]
                try simp [mI_sI]⟩
            · refine g_aload_n (j := 0) rfl dX1_addNew_128 ?_
              refine g_getR dX1_addNew_129 flX1_24 rfl (by simp only [IsO_sI, IsO_sL, IsO_sR, IsO_wI, IsO_wL, IsA_sI, IsA_sL, IsA_sR, IsA_wI, IsA_wL, mR_sI, mR_sL, mR_wI, mR_wL]; assumption) (kz := 5) rfl (by simp only [IsO_sI, IsO_sL, IsO_sR, IsO_wI, IsO_wL, IsA_sI, IsA_sL, IsA_sR, IsA_wI, IsA_wL, mR_sI, mR_sL, mR_wI, mR_wL]; assumption) ?_
              refine g_iload (i := 5) rfl dX1_addNew_132 ?_
              refine g_iconst dX1_addNew_134 ?_
              refine g_iast dX1_addNew_135 (by simp only [IsO_sI, IsO_sL, IsO_sR, IsO_wI, IsO_wL, IsA_sI, IsA_sL, IsA_sR, IsA_wI, IsA_wL, mR_sI, mR_sL, mR_wI, mR_wL]; assumption) (by omega) (by omega) ?_
              refine g_aload_n (j := 0) rfl dX1_addNew_136 ?_
              refine g_dup rfl dX1_addNew_137 ?_
              refine g_getIv dX1_addNew_138 flX1_30 rfl (by simp only [IsO_sI, IsO_sL, IsO_sR, IsO_wI, IsO_wL, IsA_sI, IsA_sL, IsA_sR, IsA_wI, IsA_wL, mR_sI, mR_sL, mR_wI, mR_wL]; assumption) (kz := 0) rfl (by simp [mI_sI, mI_sL, mI_sR, mI_wI, mI_wL, mL_sI, mL_sL, mL_sR, mL_wI, mL_wL]; rfl) ?_
              refine g_iconst dX1_addNew_141 ?_
              refine g_iadd dX1_addNew_142 ?_
              refine g_putI dX1_addNew_143 fpX1_30 rfl rfl rfl (by simp only [IsO_sI, IsO_sL, IsO_sR, IsO_wI, IsO_wL, IsA_sI, IsA_sL, IsA_sR, IsA_wI, IsA_wL, mR_sI, mR_sL, mR_wI, mR_wL]; assumption) (kz := 0) rfl ?_
              exact G.retV dX1_addNew_146 rfl ⟨rfl, by
                rw [addT, tLo, if_pos (by omega), tHi, sI_over _ (by omega)]
                try simp [mI_sI]⟩
  · omega
