/-! FORM: what the text tells; the class's reader -/
noncomputable def pI {α : Type} (P : Prop) (a b : α) : α := @ite α P (Classical.propDecidable P) a b
theorem pI_t {α : Type} {P : Prop} {a b : α} (h : P) : pI P a b = a := if_pos h
theorem pI_f {α : Type} {P : Prop} {a b : α} (h : ¬ P) : pI P a b = b := if_neg h
abbrev FlT : Type := Int × Nat
def PoR {α : Type} (r : FlT ⊕ (α × Nat)) (E : Int → Nat → Prop) (S : α → Nat → Prop) : Prop := match r with
  | .inl e => E e.1 e.2
  | .inr s => S s.1 s.2
noncomputable def rdBd (n : Int) (B : Int → Int) (f k ls : Int) (i : Nat) : FlT ⊕ (Int × Nat) := pI (isN n B (tP n B (jW n B i))) (pI (ls ≤ vW n B i ∧ -3000 ≤ pv k f (vW n B i) ∧ pv k f (vW n B i) ≤ 3000) (.inr (vW n B i, jW n B i)) (.inl (3, jW n B i))) (.inl (1, jW n B i))
noncomputable def rdRg2 (n : Int) (B : Int → Int) (f k lo : Int) (j : Nat) : FlT ⊕ (Tm × Nat) := match rdBd n B f k lo (j + 2) with
  | .inl e => .inl e
  | .inr s => .inr ((f, k, lo, s.1), s.2 + 1)
noncomputable def rdRg (n : Int) (B : Int → Int) (f k : Int) (i : Nat) : FlT ⊕ (Tm × Nat) := match rdBd n B f k (-3000) (i + 1) with
  | .inl e => .inl e
  | .inr s => pI (isWd n B (tP n B (s.2 + 1)) 6) (rdRg2 n B f k s.1 s.2) (.inl (1, s.2 + 1))
noncomputable def rdT2 (n : Int) (B : Int → Int) (f : Int) (i : Nat) : FlT ⊕ (Tm × Nat) := pI (kdT n B (tP n B i) = -1) (.inl (1, i)) (pI (isWd n B (tP n B (i + 1)) 5) (rdRg n B f (kdT n B (tP n B i)) (i + 1)) (.inr ((f, kdT n B (tP n B i), 0, gx (kdT n B (tP n B i)) f), i + 1)))
noncomputable def rdTm (n : Int) (B : Int → Int) (i : Nat) : FlT ⊕ (Tm × Nat) := pI (isN n B (tP n B i)) (pI (1 ≤ ka n B (tP n B i) ∧ ka n B (tP n B i) ≤ 99) (rdT2 n B (ka n B (tP n B i)) (i + 1)) (.inl (2, i))) (pI (¬ kdT n B (tP n B i) = -1) (rdT2 n B 1 i) (.inl (1, i)))
noncomputable def rdFm (n : Int) (B : Int → Int) : Nat → List Tm → Nat → (FlT × Nat) ⊕ List Tm
  | 0, _, i => pI (isN n B (tP n B i)) (pI (1 ≤ ka n B (tP n B i) ∧ ka n B (tP n B i) ≤ 99) (.inl ((4, i), 5)) (.inl ((2, i), 5))) (pI (¬ kdT n B (tP n B i) = -1) (.inl ((4, i), 5)) (.inl ((1, i), 5)))
  | k + 1, acc, i => match rdTm n B i with
    | .inl e => .inl (e, acc.length)
    | .inr s => pI (¬ tP n B s.2 < n) (.inr (acc ++ [s.1])) (pI (isSg n B (tP n B s.2) 43) (rdFm n B k (acc ++ [s.1]) (s.2 + 1)) (.inl ((1, s.2), acc.length)))
def DrF (x : Nat) : Mem → Mem → Prop := Fr (fun a => a = x + 1 ∨ (x + 49 ≤ a ∧ a ≤ x + 55)) (fun _ _ => False)
def DrS (x : Nat) (μ μ2 : Mem) : Prop := DrF x μ μ2 ∧ ∀ j, ¬ j = 8 → ¬ j = 9 → mI μ2 (x + 1) j = mI μ (x + 1) j
def DrE (x : Nat) (f : Int → Int) (μ μ2 : Mem) : Prop := DrF x μ μ2 ∧ (∀ j, ¬ j = 8 → ¬ j = 9 → ¬ (12 ≤ j ∧ j ≤ 15) → mI μ2 (x + 1) j = mI μ (x + 1) j) ∧ FaC μ2 x f
theorem DrS.tr {x : Nat} {μ μ2 μ3 : Mem} (h : DrS x μ μ2) (h2 : DrS x μ2 μ3) : DrS x μ μ3 := ⟨h.1.tr h2.1, fun j a b => (h2.2 j a b).trans (h.2 j a b)⟩
theorem RdS.D {x : Nat} {μ μ2 : Mem} (h : RdS x μ μ2) : DrS x μ μ2 := ⟨h.1.mono (fun _ _ z => Or.inl z) (fun _ _ _ z => z), h.2⟩
theorem RdE.D {x : Nat} {f : Int → Int} {μ μ2 : Mem} (h : RdE x f μ μ2) : DrE x f μ μ2 := ⟨h.1.mono (fun _ _ z => Or.inl z) (fun _ _ _ z => z), h.2⟩
theorem DrS.E {x : Nat} {f : Int → Int} {μ μ2 μ3 : Mem} (h : DrS x μ μ2) (h2 : DrE x f μ2 μ3) : DrE x f μ μ3 := ⟨h.1.tr h2.1, fun j a b c => (h2.2.1 j a b c).trans (h.2 j a b), h2.2.2⟩
theorem DrS.rf {x : Nat} {μ : Mem} : DrS x μ μ := ⟨Fr.rf, fun _ _ _ => rfl⟩
theorem DrS.tk {w : WC} {x T : Nat} {n : Int} {B : Int → Int} {μ μ2 : Mem} (h : DrS x μ μ2) (hK : TkC w μ x n B T) : TkC w μ2 x n B T := hK.fr h.1 (hK.1.fr h.1 fun _ _ _ z => z.elim) (fun a z1 z2 z => by omega) (h.2 5 (by omega) (by omega)) (h.2 7 (by omega) (by omega))
theorem DrS.of {x : Nat} {μ μ2 : Mem} (h : ChI (In7 (x + 49)) μ μ2) : DrS x μ μ2 := ⟨(Fr.ofI h).mono (fun a _ z => Or.inr (by unfold In7 at z; omega)) (fun _ _ _ z => z), fun j _ _ => h.2.2.2.2 (x + 1) (fun z => by unfold In7 at z; omega) j⟩
theorem RdS.FI {w : WC} {x : Nat} {μ μ2 : Mem} {ts : List Tm} (h : RdS x μ μ2) (hT : TPS w μ x) (hI : FI μ (x + 49) ts) : FI μ2 (x + 49) ts := h.1.FI hT.f49 (fun a z1 z2 z => by omega) hI

theorem pv_9 {k f x : Int} (hf : 1 ≤ f ∧ f ≤ 99) (hx : -10000 ≤ x ∧ x ≤ 10000) : -990000000000000000 ≤ pv k f x ∧ pv k f x ≤ 990000000000000000 := by
  by_cases h0 : 0 ≤ x
  · have := pv_6 (k := k) hf (x := x) (by omega)
    omega
  · have h1 := pv_6 (k := 0) hf (x := -x) (by omega)
    have h2 := pv_6 (k := 1) hf (x := -x) (by omega)
    have h3 := pv_6 (k := 2) hf (x := -x) (by omega)
    have h4 := pv_6 (k := 3) hf (x := -x) (by omega)
    have h5 := pv_6 (k := 4) hf (x := -x - 1) (by omega)
    unfold pv at *
    rw [pw_0] at h1
    rw [pw_1, sq_neg] at h2
    rw [pw_2, cu_neg] at h3
    rw [pw_3, fo_neg] at h4
    rw [pw_4 (by omega), tr_neg] at h5
    rw [Int.mul_neg] at h1 h3
    unfold pw
    split
    · omega
    · split
      · omega
      · split
        · omega
        · split <;> omega
theorem ka_N {n : Int} {B : Int → Int} {p : Int} (h : isN n B p) : 0 ≤ ka n B p ∧ ka n B p ≤ 9999 := by
  unfold ka
  rw [if_pos h.1, if_pos h.2.1]
  exact am_bd h.1 h.2.1
theorem vW_bd {n : Int} {B : Int → Int} {i : Nat} (h : isN n B (tP n B (jW n B i))) : -9999 ≤ vW n B i ∧ vW n B i ≤ 9999 := by
  have := ka_N h
  unfold vW
  by_cases hs : isSg n B (tP n B i) 45
  · rw [cI_t hs]; omega
  · rw [cI_f hs]; omega
theorem c_readBound (w : WC) (d : Nat) (μ : Mem) {x T i : Nat} {n : Int} {B : Int → Int} (hK : TkC w μ x n B T) (e8 : mI μ (x + 1) 8 = (i : Int)) (hi : i ≤ T) {fo fi : Int} (e10 : mI μ (x + 1) 10 = fo) (e11 : mI μ (x + 1) 11 = fi) {f k ls : Int} (hf : 1 ≤ f ∧ f ≤ 99) (hk : 0 ≤ k ∧ k ≤ 4) (hls : i32 ls) : Con w (d + 2) mX2_readBound 0 0 [vP (some (x + 48)), vI f, vI k, vI ls] μ (fun v μ2 => PoR (rdBd n B f k ls i) (fun c j => v = some (vI 0) ∧ RdE x (fa4 c (tP n B j) fo fi) μ μ2) (fun z j => v = some (vI 1) ∧ mI μ2 (x + 1) 8 = (j : Int) ∧ mI μ2 (x + 1) 9 = z ∧ j < T ∧ (-9999 ≤ z ∧ z ≤ 9999) ∧ (ls ≤ z ∧ -3000 ≤ pv k f z ∧ pv k f z ≤ 3000) ∧ RdS x μ μ2)) := by
  have o48 := hK.1.o48
  have r480 := hK.1.r48_0
  have r481 := hK.1.r48_1
  have o1 := hK.1.o1
  have o49 := hK.1.o49
  refine Con.of (by decide) (Nat.le_of_ble_eq_true rfl) rfl ?_
  refine g_aload_n (j := 0) rfl dX2_readBound_0 ?_
  refine g_getR dX2_readBound_1 flX2_9 rfl (by assumption) (kz := 0) rfl (by assumption) ?_
  refine g_callV dX2_readBound_4 mlX2_93 mvX10_readWhole (ci := 10) ⟨by decide, rfl⟩ (by assumption) (c_readWhole w d μ hK e8 hi e10 e11) sv0 rfl (by omega) (Nat.le_of_ble_eq_true rfl) (Nat.le_refl _) (Nat.le_refl _) (fun v μ1 hR => ?_)
  obtain ⟨hjT, hq⟩ := hR
  rcases hq with ⟨hN, rfl, e81, e91, hs1⟩ | ⟨hN, rfl, hE⟩
  · refine g_if_ne (tgt := 12) dX2_readBound_7 (by decide) (by omega) (fun h7 => ?_) (fun h7 => ?_)
    · have hb := vW_bd hN
      have hpv := pv_9 (k := k) hf (x := vW n B i) (by omega)
      have hK1 := hs1.tk hK
      have o481 := hK1.1.o48
      have r4801 := hK1.1.r48_0
      have r4811 := hK1.1.r48_1
      have o11 := hK1.1.o1
      have o491 := hK1.1.o49
      have e101 := (hs1.2 10 (by omega) (by omega)).trans e10
      have e111 := (hs1.2 11 (by omega) (by omega)).trans e11
      have hjl := hK1.lt hjT
      refine g_aload_n (j := 0) rfl dX2_readBound_12 ?_
      refine g_getR dX2_readBound_13 flX2_9 rfl (by assumption) (kz := 0) rfl (by assumption) ?_
      refine g_getI dX2_readBound_16 flX2_88 rfl (by assumption) (kz := 9) rfl ?_
      rw [e91]
      refine g_iload_n (j := 3) rfl dX2_readBound_19 ?_
      refine g_icmp_lt (tgt := 45) dX2_readBound_20 (by decide) (by omega) (by omega) (fun h20 => ?_) (fun h20 => ?_)
      · refine g_iconst dX2_readBound_45 ?_
        refine g_istore (i := 4) dX2_readBound_46 (by decide) rfl ls4 ?_
        refine g_iload (i := 4) rfl dX2_readBound_48 ?_
        refine g_if_ne (tgt := 64) dX2_readBound_50 (by decide) (by omega) (fun h50 => ?_) (fun h50 => ?_)
        · refine g_iconst dX2_readBound_64 ?_
          refine g_goto (tgt := 69) (by decide) dX2_readBound_65 ?_
          first
          | (exfalso; omega)
          | (refine G.retZ dX2_readBound_69 rfl (Or.inr rfl) ?_
             have hv : ls ≤ vW n B i ∧ -3000 ≤ pv k f (vW n B i) ∧ pv k f (vW n B i) ≤ 3000 := by omega
             rw [rdBd, pI_t hN, pI_t hv]
             exact ⟨rfl, e81, e91, hjl.1.mp hN.1, hb, hv, hs1⟩)
          | (refine G.retZ dX2_readBound_69 rfl (Or.inl rfl) ?_
             rw [rdBd, pI_t hN, pI_f (by omega)]
             exact ⟨rfl, hs1.E hE⟩)
        · refine g_aload_n (j := 0) rfl dX2_readBound_53 ?_
          refine g_getR dX2_readBound_54 flX2_9 rfl (by assumption) (kz := 0) rfl (by assumption) ?_
          refine g_iconst dX2_readBound_57 ?_
          refine g_callV dX2_readBound_58 mlX2_46 mvX10_fail (ci := 10) ⟨by decide, rfl⟩ (by assumption) (c_fail w (d + 1) μ1 hK1 e81 hjT (k := 3) e101 e111) sv1 rfl (by omega) (Nat.le_of_ble_eq_true rfl) (Nat.le_refl _) (Nat.le_refl _) (fun v μ2 hR => ?_)
          obtain ⟨rfl, hE⟩ := hR
          refine g_if_eq (tgt := 68) dX2_readBound_61 (by decide) (by omega) (fun h61 => ?_) (fun h61 => ?_)
          · refine g_iconst dX2_readBound_68 ?_
            first
            | (exfalso; omega)
            | (refine G.retZ dX2_readBound_69 rfl (Or.inr rfl) ?_
               have hv : ls ≤ vW n B i ∧ -3000 ≤ pv k f (vW n B i) ∧ pv k f (vW n B i) ≤ 3000 := by omega
               rw [rdBd, pI_t hN, pI_t hv]
               exact ⟨rfl, e81, e91, hjl.1.mp hN.1, hb, hv, hs1⟩)
            | (refine G.retZ dX2_readBound_69 rfl (Or.inl rfl) ?_
               rw [rdBd, pI_t hN, pI_f (by omega)]
               exact ⟨rfl, hs1.E hE⟩)
          · refine g_iconst dX2_readBound_64 ?_
            refine g_goto (tgt := 69) (by decide) dX2_readBound_65 ?_
            first
            | (exfalso; omega)
            | (refine G.retZ dX2_readBound_69 rfl (Or.inr rfl) ?_
               have hv : ls ≤ vW n B i ∧ -3000 ≤ pv k f (vW n B i) ∧ pv k f (vW n B i) ≤ 3000 := by omega
               rw [rdBd, pI_t hN, pI_t hv]
               exact ⟨rfl, e81, e91, hjl.1.mp hN.1, hb, hv, hs1⟩)
            | (refine G.retZ dX2_readBound_69 rfl (Or.inl rfl) ?_
               rw [rdBd, pI_t hN, pI_f (by omega)]
               exact ⟨rfl, hs1.E hE⟩)
      · refine g_iload_n (j := 2) rfl dX2_readBound_23 ?_
        refine g_iload_n (j := 1) rfl dX2_readBound_24 ?_
        refine g_aload_n (j := 0) rfl dX2_readBound_25 ?_
        refine g_getR dX2_readBound_26 flX2_9 rfl (by assumption) (kz := 0) rfl (by assumption) ?_
        refine g_getI dX2_readBound_29 flX2_88 rfl (by assumption) (kz := 9) rfl ?_
        rw [e91]
        refine g_callS dX2_readBound_32 mlX2_96 msX11_powerValue (c_powerValue w (d + 1) μ1 (k := k) (f := f) (x := vW n B i) (by omega) (by omega) (by omega) (by omega)) sk3 rfl (by omega) (Nat.le_of_ble_eq_true rfl) (Nat.le_refl _) (Nat.le_refl _) (fun v μ2 hR => ?_)
        obtain ⟨rfl, hm⟩ := hR
        replace hm := hm.symm
        subst hm
        refine g_callS dX2_readBound_35 mlX2_100 msX11_isBeyond (c_isBeyond w (d + 1) μ1 (x := pv k f (vW n B i)) (by omega)) sk1 rfl (by omega) (Nat.le_of_ble_eq_true rfl) (Nat.le_refl _) (Nat.le_refl _) (fun v μ2 hR => ?_)
        obtain ⟨rfl, hm⟩ := hR
        replace hm := hm.symm
        subst hm
        refine g_ifb_ne (tgt := 45) dX2_readBound_38 (by decide)  (fun h38 => ?_) (fun h38 => ?_)
        · refine g_iconst dX2_readBound_45 ?_
          refine g_istore (i := 4) dX2_readBound_46 (by decide) rfl ls4 ?_
          refine g_iload (i := 4) rfl dX2_readBound_48 ?_
          refine g_if_ne (tgt := 64) dX2_readBound_50 (by decide) (by omega) (fun h50 => ?_) (fun h50 => ?_)
          · refine g_iconst dX2_readBound_64 ?_
            refine g_goto (tgt := 69) (by decide) dX2_readBound_65 ?_
            first
            | (exfalso; omega)
            | (refine G.retZ dX2_readBound_69 rfl (Or.inr rfl) ?_
               have hv : ls ≤ vW n B i ∧ -3000 ≤ pv k f (vW n B i) ∧ pv k f (vW n B i) ≤ 3000 := by omega
               rw [rdBd, pI_t hN, pI_t hv]
               exact ⟨rfl, e81, e91, hjl.1.mp hN.1, hb, hv, hs1⟩)
            | (refine G.retZ dX2_readBound_69 rfl (Or.inl rfl) ?_
               rw [rdBd, pI_t hN, pI_f (by omega)]
               exact ⟨rfl, hs1.E hE⟩)
          · refine g_aload_n (j := 0) rfl dX2_readBound_53 ?_
            refine g_getR dX2_readBound_54 flX2_9 rfl (by assumption) (kz := 0) rfl (by assumption) ?_
            refine g_iconst dX2_readBound_57 ?_
            refine g_callV dX2_readBound_58 mlX2_46 mvX10_fail (ci := 10) ⟨by decide, rfl⟩ (by assumption) (c_fail w (d + 1) μ1 hK1 e81 hjT (k := 3) e101 e111) sv1 rfl (by omega) (Nat.le_of_ble_eq_true rfl) (Nat.le_refl _) (Nat.le_refl _) (fun v μ2 hR => ?_)
            obtain ⟨rfl, hE⟩ := hR
            refine g_if_eq (tgt := 68) dX2_readBound_61 (by decide) (by omega) (fun h61 => ?_) (fun h61 => ?_)
            · refine g_iconst dX2_readBound_68 ?_
              first
              | (exfalso; omega)
              | (refine G.retZ dX2_readBound_69 rfl (Or.inr rfl) ?_
                 have hv : ls ≤ vW n B i ∧ -3000 ≤ pv k f (vW n B i) ∧ pv k f (vW n B i) ≤ 3000 := by omega
                 rw [rdBd, pI_t hN, pI_t hv]
                 exact ⟨rfl, e81, e91, hjl.1.mp hN.1, hb, hv, hs1⟩)
              | (refine G.retZ dX2_readBound_69 rfl (Or.inl rfl) ?_
                 rw [rdBd, pI_t hN, pI_f (by omega)]
                 exact ⟨rfl, hs1.E hE⟩)
            · refine g_iconst dX2_readBound_64 ?_
              refine g_goto (tgt := 69) (by decide) dX2_readBound_65 ?_
              first
              | (exfalso; omega)
              | (refine G.retZ dX2_readBound_69 rfl (Or.inr rfl) ?_
                 have hv : ls ≤ vW n B i ∧ -3000 ≤ pv k f (vW n B i) ∧ pv k f (vW n B i) ≤ 3000 := by omega
                 rw [rdBd, pI_t hN, pI_t hv]
                 exact ⟨rfl, e81, e91, hjl.1.mp hN.1, hb, hv, hs1⟩)
              | (refine G.retZ dX2_readBound_69 rfl (Or.inl rfl) ?_
                 rw [rdBd, pI_t hN, pI_f (by omega)]
                 exact ⟨rfl, hs1.E hE⟩)
        · refine g_iconst dX2_readBound_41 ?_
          refine g_goto (tgt := 46) (by decide) dX2_readBound_42 ?_
          refine g_istore (i := 4) dX2_readBound_46 (by decide) rfl ls4 ?_
          refine g_iload (i := 4) rfl dX2_readBound_48 ?_
          refine g_if_ne (tgt := 64) dX2_readBound_50 (by decide) (by omega) (fun h50 => ?_) (fun h50 => ?_)
          · refine g_iconst dX2_readBound_64 ?_
            refine g_goto (tgt := 69) (by decide) dX2_readBound_65 ?_
            first
            | (exfalso; omega)
            | (refine G.retZ dX2_readBound_69 rfl (Or.inr rfl) ?_
               have hv : ls ≤ vW n B i ∧ -3000 ≤ pv k f (vW n B i) ∧ pv k f (vW n B i) ≤ 3000 := by omega
               rw [rdBd, pI_t hN, pI_t hv]
               exact ⟨rfl, e81, e91, hjl.1.mp hN.1, hb, hv, hs1⟩)
            | (refine G.retZ dX2_readBound_69 rfl (Or.inl rfl) ?_
               rw [rdBd, pI_t hN, pI_f (by omega)]
               exact ⟨rfl, hs1.E hE⟩)
          · refine g_aload_n (j := 0) rfl dX2_readBound_53 ?_
            refine g_getR dX2_readBound_54 flX2_9 rfl (by assumption) (kz := 0) rfl (by assumption) ?_
            refine g_iconst dX2_readBound_57 ?_
            refine g_callV dX2_readBound_58 mlX2_46 mvX10_fail (ci := 10) ⟨by decide, rfl⟩ (by assumption) (c_fail w (d + 1) μ1 hK1 e81 hjT (k := 3) e101 e111) sv1 rfl (by omega) (Nat.le_of_ble_eq_true rfl) (Nat.le_refl _) (Nat.le_refl _) (fun v μ2 hR => ?_)
            obtain ⟨rfl, hE⟩ := hR
            refine g_if_eq (tgt := 68) dX2_readBound_61 (by decide) (by omega) (fun h61 => ?_) (fun h61 => ?_)
            · refine g_iconst dX2_readBound_68 ?_
              first
              | (exfalso; omega)
              | (refine G.retZ dX2_readBound_69 rfl (Or.inr rfl) ?_
                 have hv : ls ≤ vW n B i ∧ -3000 ≤ pv k f (vW n B i) ∧ pv k f (vW n B i) ≤ 3000 := by omega
                 rw [rdBd, pI_t hN, pI_t hv]
                 exact ⟨rfl, e81, e91, hjl.1.mp hN.1, hb, hv, hs1⟩)
              | (refine G.retZ dX2_readBound_69 rfl (Or.inl rfl) ?_
                 rw [rdBd, pI_t hN, pI_f (by omega)]
                 exact ⟨rfl, hs1.E hE⟩)
            · refine g_iconst dX2_readBound_64 ?_
              refine g_goto (tgt := 69) (by decide) dX2_readBound_65 ?_
              first
              | (exfalso; omega)
              | (refine G.retZ dX2_readBound_69 rfl (Or.inr rfl) ?_
                 have hv : ls ≤ vW n B i ∧ -3000 ≤ pv k f (vW n B i) ∧ pv k f (vW n B i) ≤ 3000 := by omega
                 rw [rdBd, pI_t hN, pI_t hv]
                 exact ⟨rfl, e81, e91, hjl.1.mp hN.1, hb, hv, hs1⟩)
              | (refine G.retZ dX2_readBound_69 rfl (Or.inl rfl) ?_
                 rw [rdBd, pI_t hN, pI_f (by omega)]
                 exact ⟨rfl, hs1.E hE⟩)
    · omega
  · refine g_if_ne (tgt := 12) dX2_readBound_7 (by decide) (by omega) (fun h7 => ?_) (fun h7 => ?_)
    · omega
    · refine g_iconst dX2_readBound_10 ?_
      refine G.retZ dX2_readBound_11 rfl (Or.inl rfl) ?_
      rw [rdBd, pI_f hN]
      exact ⟨rfl, hE⟩
theorem c_readRange (w : WC) (d : Nat) (μ : Mem) {x T i : Nat} {n : Int} {B : Int → Int} (hK : TkC w μ x n B T) (e8 : mI μ (x + 1) 8 = (i : Int)) (hi : i < T) {fo fi : Int} (e10 : mI μ (x + 1) 10 = fo) (e11 : mI μ (x + 1) 11 = fi) {f k : Int} (hf : 1 ≤ f ∧ f ≤ 99) (hk : 0 ≤ k ∧ k ≤ 4) {acc : List Tm} (hI : FI μ (x + 49) acc) (hl : acc.length ≤ 4) : Con w (d + 5) mX2_readRange 0 0 [vP (some (x + 48)), vI f, vI k] μ (fun v μ2 => PoR (rdRg n B f k i) (fun c j => v = some (vI 0) ∧ DrE x (fa4 c (tP n B j) fo fi) μ μ2) (fun u j => v = some (vI 1) ∧ mI μ2 (x + 1) 8 = (j : Int) ∧ j ≤ T ∧ FI μ2 (x + 49) (acc ++ [u]) ∧ TOk u ∧ DrS x μ μ2)) := by
  have o48 := hK.1.o48
  have r480 := hK.1.r48_0
  have r481 := hK.1.r48_1
  have o1 := hK.1.o1
  have o49 := hK.1.o49
  refine Con.of (by decide) (Nat.le_of_ble_eq_true rfl) rfl ?_
  refine g_aload_n (j := 0) rfl dX2_readRange_0 ?_
  refine g_getR dX2_readRange_1 flX2_9 rfl (by assumption) (kz := 0) rfl (by assumption) ?_
  refine g_callV dX2_readRange_4 mlX2_50 mvX10_advance (ci := 10) ⟨by decide, rfl⟩ (by assumption) (c_advance w (d + 2) μ hK e8 hi) sv0 rfl (by omega) (Nat.le_of_ble_eq_true rfl) (Nat.le_refl _) (Nat.le_refl _) (fun v μ1 hR => ?_)
  obtain ⟨rfl, e81, hs1⟩ := hR
  have hK1 := hs1.tk hK
  have o481 := hK1.1.o48
  have r4801 := hK1.1.r48_0
  have r4811 := hK1.1.r48_1
  have o11 := hK1.1.o1
  have o491 := hK1.1.o49
  have e101 := (hs1.2 10 (by omega) (by omega)).trans e10
  have e111 := (hs1.2 11 (by omega) (by omega)).trans e11
  have hI1 := hs1.FI hK.1 hI
  refine g_aload_n (j := 0) rfl dX2_readRange_7 ?_
  refine g_iload_n (j := 1) rfl dX2_readRange_8 ?_
  refine g_iload_n (j := 2) rfl dX2_readRange_9 ?_
  refine g_sipush dX2_readRange_10 (by omega) ?_
  refine g_callV dX2_readRange_13 mlX2_84 mvX2_readBound (ci := 2) ⟨by decide, rfl⟩ (by assumption) (c_readBound w d μ1 hK1 e81 hi e101 e111 (f := f) (k := k) (ls := -3000) hf hk (by omega)) sv3 rfl (by omega) (Nat.le_of_ble_eq_true rfl) (Nat.le_refl _) (Nat.le_refl _) (fun v μ2 hR => ?_)
  rcases hr : rdBd n B f k (-3000) (i + 1) with e | s
  · rw [hr] at hR
    obtain ⟨rfl, hE⟩ := hR
    refine g_if_ne (tgt := 21) dX2_readRange_16 (by decide) (by omega) (fun h16 => ?_) (fun h16 => ?_)
    · omega
    · refine g_iconst dX2_readRange_19 ?_
      have er : rdRg n B f k i = .inl e := by
        unfold rdRg
        rw [hr]
      refine G.retZ dX2_readRange_20 rfl (Or.inl rfl) ?_
      rw [er]
      exact ⟨rfl, hs1.D.E hE.D⟩
  rw [hr] at hR
  obtain ⟨rfl, e82, e92, hjT2, hz2, hv2, hs2⟩ := hR
  have hK2 := hs2.tk hK1
  have o482 := hK2.1.o48
  have r4802 := hK2.1.r48_0
  have r4812 := hK2.1.r48_1
  have o12 := hK2.1.o1
  have o492 := hK2.1.o49
  have e102 := (hs2.2 10 (by omega) (by omega)).trans e101
  have e112 := (hs2.2 11 (by omega) (by omega)).trans e111
  have hI2 := hs2.FI hK1.1 hI1
  refine g_if_ne (tgt := 21) dX2_readRange_16 (by decide) (by omega) (fun h16 => ?_) (fun h16 => ?_)
  · refine g_aload_n (j := 0) rfl dX2_readRange_21 ?_
    refine g_getR dX2_readRange_22 flX2_9 rfl (by assumption) (kz := 0) rfl (by assumption) ?_
    refine g_getI dX2_readRange_25 flX2_88 rfl (by assumption) (kz := 9) rfl ?_
    rw [e92]
    refine g_istore_n (j := 3) dX2_readRange_28 (by decide) rfl ls3 ?_
    refine g_aload_n (j := 0) rfl dX2_readRange_29 ?_
    refine g_getR dX2_readRange_30 flX2_9 rfl (by assumption) (kz := 0) rfl (by assumption) ?_
    refine g_callV dX2_readRange_33 mlX2_50 mvX10_advance (ci := 10) ⟨by decide, rfl⟩ (by assumption) (c_advance w (d + 2) μ2 hK2 e82 hjT2) sv0 rfl (by omega) (Nat.le_of_ble_eq_true rfl) (Nat.le_refl _) (Nat.le_refl _) (fun v μ3 hR => ?_)
    obtain ⟨rfl, e83, hs3⟩ := hR
    have hK3 := hs3.tk hK2
    have o483 := hK3.1.o48
    have r4803 := hK3.1.r48_0
    have r4813 := hK3.1.r48_1
    have o13 := hK3.1.o1
    have o493 := hK3.1.o49
    have e103 := (hs3.2 10 (by omega) (by omega)).trans e102
    have e113 := (hs3.2 11 (by omega) (by omega)).trans e112
    have hI3 := hs3.FI hK2.1 hI2
    refine g_aload_n (j := 0) rfl dX2_readRange_36 ?_
    refine g_getR dX2_readRange_37 flX2_9 rfl (by assumption) (kz := 0) rfl (by assumption) ?_
    refine g_ldcT dX2_readRange_40 (n := 6) (tx := "to") (List.mem_of_getElem? (i := 6) rfl) ?_
    refine g_callV dX2_readRange_42 mlX2_68 mvX10_isWord (ci := 10) ⟨by decide, rfl⟩ (by assumption) (c_isWord w d μ3 hK3 e83 hjT2 (t := 6) (by omega)) sv1 rfl (by omega) (Nat.le_of_ble_eq_true rfl) (Nat.le_refl _) (Nat.le_refl _) (fun v μ2 hR => ?_)
    obtain ⟨rfl, hm⟩ := hR
    replace hm := hm.symm
    subst hm
    refine g_ifb_ne (tgt := 57) dX2_readRange_45 (by decide)  (fun h45 => ?_) (fun h45 => ?_)
    · refine g_aload_n (j := 0) rfl dX2_readRange_57 ?_
      refine g_getR dX2_readRange_58 flX2_9 rfl (by assumption) (kz := 0) rfl (by assumption) ?_
      refine g_callV dX2_readRange_61 mlX2_50 mvX10_advance (ci := 10) ⟨by decide, rfl⟩ (by assumption) (c_advance w (d + 2) μ3 hK3 e83 ((hK3.lt hjT2).1.mp h45.1)) sv0 rfl (by omega) (Nat.le_of_ble_eq_true rfl) (Nat.le_refl _) (Nat.le_refl _) (fun v μ4 hR => ?_)
      obtain ⟨rfl, e84, hs4⟩ := hR
      have hK4 := hs4.tk hK3
      have o484 := hK4.1.o48
      have r4804 := hK4.1.r48_0
      have r4814 := hK4.1.r48_1
      have o14 := hK4.1.o1
      have o494 := hK4.1.o49
      have e104 := (hs4.2 10 (by omega) (by omega)).trans e103
      have e114 := (hs4.2 11 (by omega) (by omega)).trans e113
      have hI4 := hs4.FI hK3.1 hI3
      refine g_aload_n (j := 0) rfl dX2_readRange_64 ?_
      refine g_iload_n (j := 1) rfl dX2_readRange_65 ?_
      refine g_iload_n (j := 2) rfl dX2_readRange_66 ?_
      refine g_iload_n (j := 3) rfl dX2_readRange_67 ?_
      refine g_callV dX2_readRange_68 mlX2_84 mvX2_readBound (ci := 2) ⟨by decide, rfl⟩ (by assumption) (c_readBound w d μ4 hK4 e84 (by have := (hK3.lt hjT2).1.mp h45.1; omega) e104 e114 (f := f) (k := k) (ls := s.1) hf hk (by omega)) sv3 rfl (by omega) (Nat.le_of_ble_eq_true rfl) (Nat.le_refl _) (Nat.le_refl _) (fun v μ5 hR => ?_)
      have hdummy := trivial
      rcases hr2 : rdBd n B f k s.1 (s.2 + 2) with e | s2
      · rw [show s.2 + 1 + 1 = s.2 + 2 from rfl, hr2] at hR
        obtain ⟨rfl, hE⟩ := hR
        refine g_if_ne (tgt := 76) dX2_readRange_71 (by decide) (by omega) (fun h71 => ?_) (fun h71 => ?_)
        · omega
        · refine g_iconst dX2_readRange_74 ?_
          have er : rdRg n B f k i = .inl e := by
            unfold rdRg
            rw [hr]
            refine (pI_t h45).trans ?_
            unfold rdRg2
            rw [hr2]
          refine G.retZ dX2_readRange_75 rfl (Or.inl rfl) ?_
          rw [er]
          exact ⟨rfl, (((hs1.tr hs2).tr hs3).tr hs4).D.E hE.D⟩
      rw [show s.2 + 1 + 1 = s.2 + 2 from rfl, hr2] at hR
      obtain ⟨rfl, e85, e95, hjT5, hz5, hv5, hs5⟩ := hR
      have hK5 := hs5.tk hK4
      have o485 := hK5.1.o48
      have r4805 := hK5.1.r48_0
      have r4815 := hK5.1.r48_1
      have o15 := hK5.1.o1
      have o495 := hK5.1.o49
      have e105 := (hs5.2 10 (by omega) (by omega)).trans e104
      have e115 := (hs5.2 11 (by omega) (by omega)).trans e114
      have hI5 := hs5.FI hK4.1 hI4
      have hhi : s2.1 ≤ 3000 := by
        by_cases hz : 0 ≤ s2.1
        · have := pv_ge (k := k) hf.1 hz
          omega
        · omega
      have hok : TOk ((f, k, s.1, s2.1) : Tm) := ⟨hf, hk, ⟨hv2.1, hv5.1, hhi⟩, hv2.2, hv5.2⟩
      refine g_if_ne (tgt := 76) dX2_readRange_71 (by decide) (by omega) (fun h71 => ?_) (fun h71 => ?_)
      · refine g_aload_n (j := 0) rfl dX2_readRange_76 ?_
        refine g_getR dX2_readRange_77 flX2_18 rfl (by assumption) (kz := 1) rfl (by assumption) ?_
        refine g_iload_n (j := 1) rfl dX2_readRange_80 ?_
        refine g_iload_n (j := 2) rfl dX2_readRange_81 ?_
        refine g_iload_n (j := 3) rfl dX2_readRange_82 ?_
        refine g_aload_n (j := 0) rfl dX2_readRange_83 ?_
        refine g_getR dX2_readRange_84 flX2_9 rfl (by assumption) (kz := 0) rfl (by assumption) ?_
        refine g_getI dX2_readRange_87 flX2_88 rfl (by assumption) (kz := 9) rfl ?_
        rw [e95]
        refine g_callV dX2_readRange_90 mlX2_80 mvX1_addNew (ci := 1) ⟨by decide, rfl⟩ (by assumption) (c_addNew w (d) μ5 hK5.1.f49 (by have := hI5.1; omega) (f := f) (k := k) (l := s.1) (h := s2.1) (by omega) (by omega) (by omega) (by omega) (by omega) (by omega)) sv4 rfl (by omega) (Nat.le_of_ble_eq_true rfl) (Nat.le_refl _) (Nat.le_refl _) (fun v μ6 hR => ?_)
        obtain ⟨rfl, hm6⟩ := hR
        have hc6 : ChI (In7 (x + 49)) μ5 μ6 := by rw [hm6]; exact addT_ch _ _ _ _ _ _
        have hI6 : FI μ6 (x + 49) (acc ++ [((f, k, s.1, s2.1) : Tm)]) := by rw [hm6]; exact addT_FI hI5 (f, k, s.1, s2.1) hok (by omega)
        have hs6 := DrS.of hc6
        have hK6 := hs6.tk hK5
        have o486 := hK6.1.o48
        have r4806 := hK6.1.r48_0
        have r4816 := hK6.1.r48_1
        have o16 := hK6.1.o1
        have o496 := hK6.1.o49
        have e106 := (hs6.2 10 (by omega) (by omega)).trans e105
        have e116 := (hs6.2 11 (by omega) (by omega)).trans e115
        refine g_aload_n (j := 0) rfl dX2_readRange_93 ?_
        refine g_getR dX2_readRange_94 flX2_9 rfl (by assumption) (kz := 0) rfl (by assumption) ?_
        refine g_callV dX2_readRange_97 mlX2_50 mvX10_advance (ci := 10) ⟨by decide, rfl⟩ (by assumption) (c_advance w (d + 2) μ6 hK6 (i := s2.2) ((hc6.2.2.2.2 (x + 1) (fun z => by unfold In7 at z; omega) 8).trans e85) hjT5) sv0 rfl (by omega) (Nat.le_of_ble_eq_true rfl) (Nat.le_refl _) (Nat.le_refl _) (fun v μ7 hR => ?_)
        obtain ⟨rfl, e87, hs7⟩ := hR
        have hI7 := hs7.FI hK6.1 hI6
        refine g_iconst dX2_readRange_100 ?_
        have er : rdRg n B f k i = .inr ((f, k, s.1, s2.1), s2.2 + 1) := by
          unfold rdRg
          rw [hr]
          refine (pI_t h45).trans ?_
          unfold rdRg2
          rw [hr2]
        refine G.retZ dX2_readRange_101 rfl (Or.inr rfl) ?_
        rw [er]
        exact ⟨rfl, e87, hjT5, hI7, hok, ((((hs1.tr hs2).tr hs3).tr hs4).tr hs5).D.tr (hs6.tr hs7.D)⟩
      · omega
    · refine g_aload_n (j := 0) rfl dX2_readRange_48 ?_
      refine g_getR dX2_readRange_49 flX2_9 rfl (by assumption) (kz := 0) rfl (by assumption) ?_
      refine g_iconst dX2_readRange_52 ?_
      refine g_callV dX2_readRange_53 mlX2_46 mvX10_fail (ci := 10) ⟨by decide, rfl⟩ (by assumption) (c_fail w (d + 2) μ3 hK3 e83 hjT2 (k := 1) e103 e113) sv1 rfl (by omega) (Nat.le_of_ble_eq_true rfl) (Nat.le_refl _) (Nat.le_refl _) (fun v μ4 hR => ?_)
      obtain ⟨rfl, hE⟩ := hR
      refine G.retZ dX2_readRange_56 rfl (Or.inl rfl) ?_
      have er : rdRg n B f k i = .inl (1, s.2 + 1) := by
        unfold rdRg
        rw [hr]
        exact pI_f h45
      rw [er]
      exact ⟨rfl, ((hs1.tr hs2).tr hs3).D.E hE.D⟩
  · omega
