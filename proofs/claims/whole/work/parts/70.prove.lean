/-! PROVE: what the text tells; the class's reader -/
abbrev FlF : Type := Int × Nat × Int
def begW (n : Int) (B : Int → Int) (i : Nat) : Prop := isN n B (tP n B i) ∨ isSg n B (tP n B i) 45
noncomputable def prX (n : Int) (B : Int → Int) (z : Int) : List Tm → Nat → Int → Nat → FlF ⊕ Nat
  | [], t, _, i => pI (begW n B i) (.inl (7, i, (t : Int))) (.inl (1, i, (t : Int)))
  | u :: us, t, s, i => pI (isN n B (tP n B (jW n B i))) (pI (tL u ≤ vW n B i ∧ vW n B i ≤ tH u)
      (pI (isSg n B (tP n B (jW n B i + 1)) 59) (pI (us = []) (pI (s + tV u (vW n B i) = z) (.inr (jW n B i + 2)) (.inl (8, jW n B i + 1, -1))) (.inl (7, jW n B i + 1, -1)))
        (pI (isSg n B (tP n B (jW n B i + 1)) 44) (prX n B z us (t + 1) (s + tV u (vW n B i)) (jW n B i + 2)) (.inl (1, jW n B i + 1, -1))))
      (.inl (6, jW n B i, (t : Int)))) (.inl (1, jW n B i, (t : Int)))
noncomputable def prN (n : Int) (B : Int → Int) (ts : List Tm) (z : Int) (i : Nat) : FlF ⊕ Nat := pI (0 < wy ts z) (.inl (8, i, -1)) (pI (isSg n B (tP n B (i + 1)) 59) (.inr (i + 2)) (.inl (1, i + 1, -1)))
noncomputable def prR (n : Int) (B : Int → Int) (ts : List Tm) (z : Int) (i : Nat) : FlF ⊕ Nat := pI (isSg n B (tP n B i) 61) (prX n B z ts 0 0 (i + 1)) (pI (isWd n B (tP n B i) 7) (prN n B ts z i) (.inl (1, i, -1)))
noncomputable def prL (n : Int) (B : Int → Int) (ts : List Tm) (told : List Int) (i : Nat) : FlF ⊕ Nat := pI (told.length = 60 ∧ isSg n B (tP n B i) 45) (.inl (9, i, -1)) (pI (isN n B (tP n B (jW n B i))) (pI (¬ (-3000 ≤ vW n B i ∧ vW n B i ≤ 3000) ∨ vW n B i ∈ told) (.inl (5, jW n B i, -1)) (pI (told.length = 60) (.inl (9, jW n B i, -1)) (prR n B ts (vW n B i) (jW n B i + 1)))) (.inl (1, jW n B i, -1)))
noncomputable def prAll (n : Int) (B : Int → Int) (ts : List Tm) : Nat → List Int → Nat → (FlF × Nat) ⊕ Nat
  | 0, told, _ => .inr told.length
  | k + 1, told, i => pI (¬ tP n B i < n) (.inr told.length) (match prL n B ts told i with
    | .inl e => .inl (e, told.length)
    | .inr j => prAll n B ts k (told ++ [vW n B i]) j)
def PoF2 (r : FlF ⊕ Nat) (E : FlF → Prop) (S : Nat → Prop) : Prop := match r with
  | .inl e => E e
  | .inr j => S j
/-- the reader's state -/
def PvK (w : WC) (μ : Mem) (x : Nat) (n : Int) (B : Int → Int) (T q a : Nat) (ts : List Tm) : Prop := TkC w μ x n B T ∧ (mR μ (x + 56) 2 = some q ∧ FoS w μ q ∧ FI μ q ts ∧ x + 9 ≤ q ∧ q + 7 ≤ x + 41) ∧ (mR μ (x + 56) 3 = some a ∧ IsA w μ a 15 6001 ∧ RowW μ a ts ∧ x + 120 ≤ a)
def PwS (x : Nat) (μ μ2 : Mem) : Prop := Fr (fun a => a = x + 1) (fun _ _ => False) μ μ2 ∧ ∀ j, ¬ (8 ≤ j ∧ j ≤ 11) → mI μ2 (x + 1) j = mI μ (x + 1) j
def PwE (x : Nat) (f : Int → Int) (μ μ2 : Mem) : Prop := Fr (fun a => a = x + 1) (fun _ _ => False) μ μ2 ∧ (∀ j, ¬ (8 ≤ j ∧ j ≤ 15) → mI μ2 (x + 1) j = mI μ (x + 1) j) ∧ FaC μ2 x f
theorem PwS.tr {x : Nat} {μ μ2 μ3 : Mem} (h : PwS x μ μ2) (h2 : PwS x μ2 μ3) : PwS x μ μ3 := ⟨h.1.tr h2.1, fun j z => (h2.2 j z).trans (h.2 j z)⟩
theorem PwS.rf {x : Nat} {μ : Mem} : PwS x μ μ := ⟨Fr.rf, fun _ _ => rfl⟩
theorem PwS.E {x : Nat} {f : Int → Int} {μ μ2 μ3 : Mem} (h : PwS x μ μ2) (h2 : PwE x f μ2 μ3) : PwE x f μ μ3 := ⟨h.1.tr h2.1, fun j z => (h2.2.1 j z).trans (h.2 j (fun y => z (by omega))), h2.2.2⟩
theorem RdS.w {x : Nat} {μ μ2 : Mem} (h : RdS x μ μ2) : PwS x μ μ2 := ⟨h.1, fun j z => h.2 j (fun y => z (by omega)) (fun y => z (by omega))⟩
theorem RdE.w {x : Nat} {f : Int → Int} {μ μ2 : Mem} (h : RdE x f μ μ2) : PwE x f μ μ2 := ⟨h.1, fun j z => h.2.1 j (fun y => z (by omega)) (fun y => z (by omega)) (fun y => z (by omega)), h.2.2⟩
theorem PwS.sI {x : Nat} {μ : Mem} {j v : Int} (hj : 8 ≤ j ∧ j ≤ 11) : PwS x μ (sI μ (x + 1) j v) := ⟨Fr.sI (P := fun a => a = x + 1) rfl, fun i hi => by rw [mI_sI, if_neg (by omega)]⟩
section PV
variable {w : WC} {x T q a : Nat} {n : Int} {B : Int → Int} {ts : List Tm} {μ μ2 : Mem}
theorem PvK.fr (h : PvK w μ x n B T q a ts) (hf : Fr (fun a => a = x + 1 ∨ a = x + 57) (fun _ _ => False) μ μ2) (h5 : mI μ2 (x + 1) 5 = mI μ (x + 1) 5) (h7 : mI μ2 (x + 1) 7 = mI μ (x + 1) 7) : PvK w μ2 x n B T q a ts := by
  obtain ⟨hK, ⟨r2, p1, p2, p3, p4⟩, ⟨r3, g1, g2, g3⟩⟩ := h
  have hT2 := hK.1.fr hf fun _ _ _ z => z.elim
  refine ⟨hK.fr hf hT2 (fun a z1 z2 z => by omega) h5 h7, ⟨(hf.R hK.1.o56.2.1 (fun z => z)).trans r2, ?_, hf.FI p1 (fun a z1 z2 z => by omega) p2, p3, p4⟩, ⟨(hf.R hK.1.o56.2.1 (fun z => z)).trans r3, hf.A g1, fun n z1 z2 => (hf.L g1.2.1 (fun z => by omega) _).trans (g2 n z1 z2), g3⟩⟩
  obtain ⟨f1, ⟨f2, f3, f4, f5, f6, f7⟩, f8, f9, f10, f11, f12, f13⟩ := p1
  exact ⟨hf.O f1, ⟨(hf.R f1.2.1 (fun z => z)).trans f2, (hf.R f1.2.1 (fun z => z)).trans f3, (hf.R f1.2.1 (fun z => z)).trans f4, (hf.R f1.2.1 (fun z => z)).trans f5, (hf.R f1.2.1 (fun z => z)).trans f6, (hf.R f1.2.1 (fun z => z)).trans f7⟩, hf.A f8, hf.A f9, hf.A f10, hf.A f11, hf.A f12, hf.A f13⟩
theorem PwS.K (h : PwS x μ μ2) (hK : PvK w μ x n B T q a ts) : PvK w μ2 x n B T q a ts := hK.fr (h.1.mono (fun _ _ z => Or.inl z) (fun _ _ _ z => z)) (h.2 5 (by omega)) (h.2 7 (by omega))

theorem c_readX (w : WC) (d : Nat) (μ : Mem) {x T q a i : Nat} {n : Int} {B : Int → Int} {ts : List Tm} (hK : PvK w μ x n B T q a ts) (e8 : mI μ (x + 1) 8 = (i : Int)) (hi : i ≤ T) {fo : Int} (e10 : mI μ (x + 1) 10 = fo) {t : Nat} {u : Tm} (hu : ts[t]? = some u) : Con w (d + 2) mX6_readX 0 0 [vP (some (x + 56)), vI (t : Int)] μ (fun v μ2 => (isN n B (tP n B (jW n B i)) ∧ (tL u ≤ vW n B i ∧ vW n B i ≤ tH u) ∧ v = some (vI 1) ∧ mI μ2 (x + 1) 8 = jW n B i ∧ mI μ2 (x + 1) 9 = vW n B i ∧ mI μ2 (x + 1) 10 = fo ∧ mI μ2 (x + 1) 11 = -1 ∧ jW n B i < T ∧ PwS x μ μ2) ∨ (isN n B (tP n B (jW n B i)) ∧ ¬ (tL u ≤ vW n B i ∧ vW n B i ≤ tH u) ∧ v = some (vI 0) ∧ PwE x (fa4 6 (tP n B (jW n B i)) fo t) μ μ2) ∨ (¬ isN n B (tP n B (jW n B i)) ∧ v = some (vI 0) ∧ PwE x (fa4 1 (tP n B (jW n B i)) fo t) μ μ2)) := by
  have o56 := hK.1.1.o56
  have r560 := hK.1.1.r56_0
  have r561 := hK.1.1.r56_1
  have r562 := hK.2.1.1
  have r563 := hK.2.2.1
  have o1 := hK.1.1.o1
  have a57 := hK.1.1.a57
  have g3 := hK.2.2.2.1
  obtain ⟨oq, ⟨rq1, rq2, rq3, rq4, -, -⟩, aq1, aq2, aq3, aq4, -, -⟩ := id hK.2.1.2.1
  have el := hK.2.1.2.2.1.1
  refine Con.of (by decide) (Nat.le_of_ble_eq_true rfl) rfl ?_
  refine g_aload_n (j := 0) rfl dX6_readX_0 ?_
  refine g_getR dX6_readX_1 flX6_9 rfl (by assumption) (kz := 0) rfl (by assumption) ?_
  refine g_iload_n (j := 1) rfl dX6_readX_4 ?_
  refine g_putI dX6_readX_5 fpX6_96 rfl rfl rfl (by assumption) (kz := 11) rfl ?_
  have hs1 : PwS x μ (sI μ (x + 1) 11 (t : Int)) := PwS.sI (by omega)
  have e81 : mI (sI μ (x + 1) 11 (t : Int)) (x + 1) 8 = (i : Int) := by rw [mI_sI, if_neg (by omega)]; exact e8
  have e101 : mI (sI μ (x + 1) 11 (t : Int)) (x + 1) 10 = fo := by rw [mI_sI, if_neg (by omega)]; exact e10
  have e111 : mI (sI μ (x + 1) 11 (t : Int)) (x + 1) 11 = (t : Int) := by rw [mI_sI, if_pos ⟨rfl, rfl⟩]
  generalize sI μ (x + 1) 11 (t : Int) = μ1 at *
  have hK1 := hs1.K hK
  have o561 := hK1.1.1.o56
  have r5601 := hK1.1.1.r56_0
  have r5611 := hK1.1.1.r56_1
  have r5621 := hK1.2.1.1
  have r5631 := hK1.2.2.1
  have o11 := hK1.1.1.o1
  have a571 := hK1.1.1.a57
  have g31 := hK1.2.2.2.1
  obtain ⟨oq1, ⟨rq11, rq21, rq31, rq41, -, -⟩, aq11, aq21, aq31, aq41, -, -⟩ := id hK1.2.1.2.1
  have el1 := hK1.2.1.2.2.1.1
  refine g_aload_n (j := 0) rfl dX6_readX_8 ?_
  refine g_getR dX6_readX_9 flX6_9 rfl (by assumption) (kz := 0) rfl (by assumption) ?_
  refine g_callV dX6_readX_12 mlX6_52 mvX10_readWhole (ci := 10) ⟨by decide, rfl⟩ (by assumption) (c_readWhole w d μ1 hK1.1 e81 hi e101 e111) sv0 rfl (by omega) (Nat.le_of_ble_eq_true rfl) (Nat.le_refl _) (Nat.le_refl _) (fun v μ2 hR => ?_)
  obtain ⟨hjT, hq⟩ := hR
  rcases hq with ⟨hN, rfl, e82, e92, hr2⟩ | ⟨hN, rfl, hE⟩
  · refine g_if_ne (tgt := 20) dX6_readX_15 (by decide) (by omega) (fun h15 => ?_) (fun h15 => ?_)
    · have hs2 := hr2.w
      have hK2 := hs2.K hK1
      have o562 := hK2.1.1.o56
      have r5602 := hK2.1.1.r56_0
      have r5612 := hK2.1.1.r56_1
      have r5622 := hK2.2.1.1
      have r5632 := hK2.2.2.1
      have o12 := hK2.1.1.o1
      have a572 := hK2.1.1.a57
      have g32 := hK2.2.2.2.1
      obtain ⟨oq2, ⟨rq12, rq22, rq32, rq42, -, -⟩, aq12, aq22, aq32, aq42, -, -⟩ := id hK2.2.1.2.1
      have el2 := hK2.2.1.2.2.1.1
      have e102 := (hr2.2 10 (by omega) (by omega)).trans e101
      have e112 := (hr2.2 11 (by omega) (by omega)).trans e111
      have hb := vW_bd hN
      obtain ⟨g1, g2, g4, g5, -, -⟩ := hK2.2.1.2.2.1.2.2.2 t u hu
      have htok := hK2.2.1.2.2.1.2.2.1 u (List.mem_of_getElem? hu)
      have htl := htok.2.2.1
      have ht5 : t < 5 := by
        have h5 := hK2.2.1.2.2.1.2.1
        rcases Nat.lt_or_ge t ts.length with z | z
        · omega
        · rw [List.getElem?_eq_none z] at hu
          cases hu
      have hjl := hK2.1.lt hjT
      refine g_aload_n (j := 0) rfl dX6_readX_20 ?_
      refine g_getR dX6_readX_21 flX6_9 rfl (by assumption) (kz := 0) rfl (by assumption) ?_
      refine g_getI dX6_readX_24 flX6_55 rfl (by assumption) (kz := 9) rfl ?_
      refine g_aload_n (j := 0) rfl dX6_readX_27 ?_
      refine g_getR dX6_readX_28 flX6_19 rfl (by assumption) (kz := 2) rfl (by assumption) ?_
      refine g_getR dX6_readX_31 flX6_102 rfl (by assumption) (kz := 3) rfl (by assumption) ?_
      refine g_iload_n (j := 1) rfl dX6_readX_34 ?_
      refine g_iald dX6_readX_35 (by assumption) (by omega) (by omega) ?_
      rw [e92, g4]
      refine g_icmp_lt (tgt := 58) dX6_readX_36 (by decide) (by omega) (by omega) (fun h36 => ?_) (fun h36 => ?_)
      · refine g_aload_n (j := 0) rfl dX6_readX_58 ?_
        refine g_getR dX6_readX_59 flX6_9 rfl (by assumption) (kz := 0) rfl (by assumption) ?_
        refine g_bipush dX6_readX_62 (by omega) ?_
        refine g_callV dX6_readX_64 mlX6_49 mvX10_fail (ci := 10) ⟨by decide, rfl⟩ (by assumption) (c_fail w (d + 1) μ2 hK2.1 e82 hjT (k := 6) e102 e112) sv1 rfl (by omega) (Nat.le_of_ble_eq_true rfl) (Nat.le_refl _) (Nat.le_refl _) (fun v μ3 hR => ?_)
        obtain ⟨rfl, hE⟩ := hR
        exact G.retZ dX6_readX_67 rfl (Or.inl rfl) (Or.inr (Or.inl ⟨hN, by omega, rfl, (hs1.tr hs2).E hE.w⟩))
      · refine g_aload_n (j := 0) rfl dX6_readX_39 ?_
        refine g_getR dX6_readX_40 flX6_9 rfl (by assumption) (kz := 0) rfl (by assumption) ?_
        refine g_getI dX6_readX_43 flX6_55 rfl (by assumption) (kz := 9) rfl ?_
        refine g_aload_n (j := 0) rfl dX6_readX_46 ?_
        refine g_getR dX6_readX_47 flX6_19 rfl (by assumption) (kz := 2) rfl (by assumption) ?_
        refine g_getR dX6_readX_50 flX6_105 rfl (by assumption) (kz := 4) rfl (by assumption) ?_
        refine g_iload_n (j := 1) rfl dX6_readX_53 ?_
        refine g_iald dX6_readX_54 (by assumption) (by omega) (by omega) ?_
        rw [e92, g5]
        refine g_icmp_le (tgt := 68) dX6_readX_55 (by decide) (by omega) (by omega) (fun h55 => ?_) (fun h55 => ?_)
        · refine g_aload_n (j := 0) rfl dX6_readX_68 ?_
          refine g_getR dX6_readX_69 flX6_9 rfl (by assumption) (kz := 0) rfl (by assumption) ?_
          refine g_iconst dX6_readX_72 ?_
          refine g_putI dX6_readX_73 fpX6_96 rfl rfl rfl (by assumption) (kz := 11) rfl ?_
          refine g_iconst dX6_readX_76 ?_
          exact G.retZ dX6_readX_77 rfl (Or.inr rfl) (Or.inl ⟨hN, by omega, rfl, by rw [mI_sI, if_neg (by omega)]; exact e82, by rw [mI_sI, if_neg (by omega)]; exact e92, by rw [mI_sI, if_neg (by omega)]; exact e102, by rw [mI_sI, if_pos ⟨rfl, rfl⟩], hjl.1.mp hN.1, (hs1.tr hs2).tr (PwS.sI (by omega))⟩)
        · refine g_aload_n (j := 0) rfl dX6_readX_58 ?_
          refine g_getR dX6_readX_59 flX6_9 rfl (by assumption) (kz := 0) rfl (by assumption) ?_
          refine g_bipush dX6_readX_62 (by omega) ?_
          refine g_callV dX6_readX_64 mlX6_49 mvX10_fail (ci := 10) ⟨by decide, rfl⟩ (by assumption) (c_fail w (d + 1) μ2 hK2.1 e82 hjT (k := 6) e102 e112) sv1 rfl (by omega) (Nat.le_of_ble_eq_true rfl) (Nat.le_refl _) (Nat.le_refl _) (fun v μ3 hR => ?_)
          obtain ⟨rfl, hE⟩ := hR
          exact G.retZ dX6_readX_67 rfl (Or.inl rfl) (Or.inr (Or.inl ⟨hN, by omega, rfl, (hs1.tr hs2).E hE.w⟩))
    · omega
  · refine g_if_ne (tgt := 20) dX6_readX_15 (by decide) (by omega) (fun h15 => ?_) (fun h15 => ?_)
    · omega
    · refine g_iconst dX6_readX_18 ?_
      exact G.retZ dX6_readX_19 rfl (Or.inl rfl) (Or.inr (Or.inr ⟨hN, rfl, hs1.E hE.w⟩))
theorem c_endWay (w : WC) (d : Nat) (μ : Mem) {x T q a i : Nat} {n : Int} {B : Int → Int} {ts : List Tm} (hK : PvK w μ x n B T q a ts) (e8 : mI μ (x + 1) 8 = (i : Int)) (hi : i ≤ T) {fo : Int} (e10 : mI μ (x + 1) 10 = fo) (hi2 : i < T) (e11 : mI μ (x + 1) 11 = -1) {t b : Int} (ht : i32 t) (hb : b = 0 ∨ b = 1) : Con w (d + 1) mX6_endWay 0 0 [vP (some (x + 56)), vI t, vI b] μ (fun v μ2 => (t < ts.length ∧ v = some (vI 0) ∧ PwE x (fa4 7 (tP n B i) fo (-1)) μ μ2) ∨ (¬ t < ts.length ∧ b = 0 ∧ v = some (vI 0) ∧ PwE x (fa4 8 (tP n B i) fo (-1)) μ μ2) ∨ (¬ t < ts.length ∧ b = 1 ∧ v = some (vI 1) ∧ mI μ2 (x + 1) 8 = ((i + 1 : Nat) : Int) ∧ RdS x μ μ2)) := by
  have o56 := hK.1.1.o56
  have r560 := hK.1.1.r56_0
  have r561 := hK.1.1.r56_1
  have r562 := hK.2.1.1
  have r563 := hK.2.2.1
  have o1 := hK.1.1.o1
  have a57 := hK.1.1.a57
  have g3 := hK.2.2.2.1
  obtain ⟨oq, ⟨rq1, rq2, rq3, rq4, -, -⟩, aq1, aq2, aq3, aq4, -, -⟩ := id hK.2.1.2.1
  have el := hK.2.1.2.2.1.1
  have h5 := hK.2.1.2.2.1.2.1
  refine Con.of (by decide) (Nat.le_of_ble_eq_true rfl) rfl ?_
  refine g_iload_n (j := 1) rfl dX6_endWay_0 ?_
  refine g_aload_n (j := 0) rfl dX6_endWay_1 ?_
  refine g_getR dX6_endWay_2 flX6_19 rfl (by assumption) (kz := 2) rfl (by assumption) ?_
  refine g_getI dX6_endWay_5 flX6_80 rfl (by assumption) (kz := 0) rfl ?_
  rw [el]
  refine g_icmp_ge (tgt := 21) dX6_endWay_8 (by decide) (by omega) (by omega) (fun h8 => ?_) (fun h8 => ?_)
  · refine g_iload_n (j := 2) rfl dX6_endWay_21 ?_
    refine g_if_ne (tgt := 35) dX6_endWay_22 (by decide) (by omega) (fun h22 => ?_) (fun h22 => ?_)
    · refine g_aload_n (j := 0) rfl dX6_endWay_35 ?_
      refine g_getR dX6_endWay_36 flX6_9 rfl (by assumption) (kz := 0) rfl (by assumption) ?_
      refine g_callV dX6_endWay_39 mlX6_65 mvX10_advance (ci := 10) ⟨by decide, rfl⟩ (by assumption) (c_advance w d μ hK.1 e8 hi2) sv0 rfl (by omega) (Nat.le_of_ble_eq_true rfl) (Nat.le_refl _) (Nat.le_refl _) (fun v μ1 hR => ?_)
      obtain ⟨rfl, e81, hs1⟩ := hR
      refine g_iconst dX6_endWay_42 ?_
      exact G.retZ dX6_endWay_43 rfl (Or.inr rfl) (Or.inr (Or.inr ⟨by omega, by omega, rfl, e81, hs1⟩))
    · refine g_aload_n (j := 0) rfl dX6_endWay_25 ?_
      refine g_getR dX6_endWay_26 flX6_9 rfl (by assumption) (kz := 0) rfl (by assumption) ?_
      refine g_bipush dX6_endWay_29 (by omega) ?_
      refine g_callV dX6_endWay_31 mlX6_49 mvX10_fail (ci := 10) ⟨by decide, rfl⟩ (by assumption) (c_fail w d μ hK.1 e8 hi (k := 8) e10 e11) sv1 rfl (by omega) (Nat.le_of_ble_eq_true rfl) (Nat.le_refl _) (Nat.le_refl _) (fun v μ1 hR => ?_)
      obtain ⟨rfl, hE⟩ := hR
      exact G.retZ dX6_endWay_34 rfl (Or.inl rfl) (Or.inr (Or.inl ⟨by omega, by omega, rfl, hE.w⟩))
  · refine g_aload_n (j := 0) rfl dX6_endWay_11 ?_
    refine g_getR dX6_endWay_12 flX6_9 rfl (by assumption) (kz := 0) rfl (by assumption) ?_
    refine g_bipush dX6_endWay_15 (by omega) ?_
    refine g_callV dX6_endWay_17 mlX6_49 mvX10_fail (ci := 10) ⟨by decide, rfl⟩ (by assumption) (c_fail w d μ hK.1 e8 hi (k := 7) e10 e11) sv1 rfl (by omega) (Nat.le_of_ble_eq_true rfl) (Nat.le_refl _) (Nat.le_refl _) (fun v μ1 hR => ?_)
    obtain ⟨rfl, hE⟩ := hR
    exact G.retZ dX6_endWay_20 rfl (Or.inl rfl) (Or.inl ⟨by omega, rfl, hE.w⟩)
theorem l_readWay {w : WC} {d x T q a : Nat} {n z fo : Int} {B : Int → Int} {ts : List Tm} {R : Option AV → Mem → Prop} : ∀ (us : List Tm) (t : Nat) (s : Int) (i : Nat) (μ : Mem), ts.drop t = us → PvK w μ x n B T q a ts → mI μ (x + 1) 8 = (i : Int) → i < T → mI μ (x + 1) 10 = fo → mI μ (x + 1) 11 = -1 → -3000 * (t : Int) ≤ s ∧ s ≤ 3000 * (t : Int) ∧ t ≤ ts.length ∧ -3000 ≤ z ∧ z ≤ 3000 → (∀ (e : FlF) (μ2 : Mem), prX n B z us t s (i + 1) = .inl e → PwE x (fa4 e.1 (tP n B e.2.1) fo e.2.2) μ μ2 → R (some (vI 0)) μ2) → (∀ (j : Nat) (μ2 : Mem), prX n B z us t s (i + 1) = .inr j → mI μ2 (x + 1) 8 = (j : Int) → j ≤ T → mI μ2 (x + 1) 11 = -1 → PwS x μ μ2 → R (some (vI 1)) μ2) → G w (d + 4) mX6_readWay R 0 0 4 [some (vP (some (x + 56))), some (vI z), some (vI s), some (vI (t : Int))] [] μ := by
  intro us
  induction us with
  | nil =>
    intro t s i μ hdr hK e8 hi e10 e11 hsb kE kS
    have htl : (ts.length : Int) = (t : Int) := by
      have := congrArg List.length hdr
      rw [List.length_drop] at this
      simp at this
      omega
    have h5 := hK.2.1.2.2.1.2.1
    have o56 := hK.1.1.o56
    have r560 := hK.1.1.r56_0
    have r561 := hK.1.1.r56_1
    have r562 := hK.2.1.1
    have r563 := hK.2.2.1
    have o1 := hK.1.1.o1
    have a57 := hK.1.1.a57
    have g3 := hK.2.2.2.1
    obtain ⟨oq, ⟨rq1, rq2, rq3, rq4, -, -⟩, aq1, aq2, aq3, aq4, -, -⟩ := id hK.2.1.2.1
    have el := hK.2.1.2.2.1.1
    refine g_iload_n (j := 3) rfl dX6_readWay_4 ?_
    refine g_aload_n (j := 0) rfl dX6_readWay_5 ?_
    refine g_getR dX6_readWay_6 flX6_19 rfl (by assumption) (kz := 2) rfl (by assumption) ?_
    refine g_getI dX6_readWay_9 flX6_80 rfl (by assumption) (kz := 0) rfl ?_
    rw [el]
    refine g_icmp_ge (tgt := 114) dX6_readWay_12 (by decide) (by omega) (by omega) (fun h12 => ?_) (fun h12 => ?_)
    · refine g_aload_n (j := 0) rfl dX6_readWay_114 ?_
      refine g_getR dX6_readWay_115 flX6_9 rfl (by assumption) (kz := 0) rfl (by assumption) ?_
      refine g_callV dX6_readWay_118 mlX6_65 mvX10_advance (ci := 10) ⟨by decide, rfl⟩ (by assumption) (c_advance w (d + 3) μ hK.1 e8 hi) sv0 rfl (by omega) (Nat.le_of_ble_eq_true rfl) (Nat.le_refl _) (Nat.le_refl _) (fun v μ1 hR => ?_)
      obtain ⟨rfl, e81, hr1⟩ := hR
      have hs1 := hr1.w
      have hK1 := hs1.K hK
      have o561 := hK1.1.1.o56
      have r5601 := hK1.1.1.r56_0
      have r5611 := hK1.1.1.r56_1
      have r5621 := hK1.2.1.1
      have r5631 := hK1.2.2.1
      have o11 := hK1.1.1.o1
      have a571 := hK1.1.1.a57
      have g31 := hK1.2.2.2.1
      obtain ⟨oq1, ⟨rq11, rq21, rq31, rq41, -, -⟩, aq11, aq21, aq31, aq41, -, -⟩ := id hK1.2.1.2.1
      have el1 := hK1.2.1.2.2.1.1
      have e101 := (hr1.2 10 (by omega) (by omega)).trans e10
      refine g_aload_n (j := 0) rfl dX6_readWay_121 ?_
      refine g_getR dX6_readWay_122 flX6_9 rfl (by assumption) (kz := 0) rfl (by assumption) ?_
      refine g_aload_n (j := 0) rfl dX6_readWay_125 ?_
      refine g_getR dX6_readWay_126 flX6_19 rfl (by assumption) (kz := 2) rfl (by assumption) ?_
      refine g_getI dX6_readWay_129 flX6_80 rfl (by assumption) (kz := 0) rfl ?_
      rw [el1]
      refine g_putI dX6_readWay_132 fpX6_96 rfl rfl rfl (by assumption) (kz := 11) rfl ?_
      have hs2 : PwS x μ1 (sI μ1 (x + 1) 11 (ts.length : Int)) := PwS.sI (by omega)
      have e82 : mI (sI μ1 (x + 1) 11 (ts.length : Int)) (x + 1) 8 = ((i + 1 : Nat) : Int) := by rw [mI_sI, if_neg (by omega)]; exact e81
      have e102 : mI (sI μ1 (x + 1) 11 (ts.length : Int)) (x + 1) 10 = fo := by rw [mI_sI, if_neg (by omega)]; exact e101
      have e112 : mI (sI μ1 (x + 1) 11 (ts.length : Int)) (x + 1) 11 = (t : Int) := by rw [mI_sI, if_pos ⟨rfl, rfl⟩, htl]
      generalize sI μ1 (x + 1) 11 (ts.length : Int) = μ2 at *
      have hK2 := hs2.K hK1
      have o562 := hK2.1.1.o56
      have r5602 := hK2.1.1.r56_0
      have r5612 := hK2.1.1.r56_1
      have r5622 := hK2.2.1.1
      have r5632 := hK2.2.2.1
      have o12 := hK2.1.1.o1
      have a572 := hK2.1.1.a57
      have g32 := hK2.2.2.2.1
      obtain ⟨oq2, ⟨rq12, rq22, rq32, rq42, -, -⟩, aq12, aq22, aq32, aq42, -, -⟩ := id hK2.2.1.2.1
      have el2 := hK2.2.1.2.2.1.1
      refine g_aload_n (j := 0) rfl dX6_readWay_135 ?_
      refine g_getR dX6_readWay_136 flX6_9 rfl (by assumption) (kz := 0) rfl (by assumption) ?_
      refine g_aload_n (j := 0) rfl dX6_readWay_139 ?_
      refine g_getR dX6_readWay_140 flX6_9 rfl (by assumption) (kz := 0) rfl (by assumption) ?_
      refine g_callV dX6_readWay_143 mlX6_99 mvX10_beginsWhole (ci := 10) ⟨by decide, rfl⟩ (by assumption) (c_beginsWhole w (d + 2) μ2 hK2.1 e82 (by omega)) sv0 rfl (by omega) (Nat.le_of_ble_eq_true rfl) (Nat.le_refl _) (Nat.le_refl _) (fun v μ2 hR => ?_)
      obtain ⟨rfl, hm⟩ := hR
      replace hm := hm.symm
      subst hm
      refine g_ifb_eq (tgt := 154) dX6_readWay_146 (by decide)  (fun h146 => ?_) (fun h146 => ?_)
      · refine g_iconst dX6_readWay_154 ?_
        refine g_callV dX6_readWay_155 mlX6_49 mvX10_fail (ci := 10) ⟨by decide, rfl⟩ (by assumption) (c_fail w (d + 3) μ2 hK2.1 e82 (by omega) e102 e112) sv1 rfl (by omega) (Nat.le_of_ble_eq_true rfl) (Nat.le_refl _) (Nat.le_refl _) (fun v μ3 hR => ?_)
        obtain ⟨rfl, hE⟩ := hR
        exact G.retZ dX6_readWay_158 rfl (Or.inl rfl) (kE (1, i + 1, (t : Int)) _ (by unfold prX; exact pI_f h146) ((hs1.tr hs2).E hE.w))
      · refine g_bipush dX6_readWay_149 (by omega) ?_
        refine g_goto (tgt := 155) (by decide) dX6_readWay_151 ?_
        refine g_callV dX6_readWay_155 mlX6_49 mvX10_fail (ci := 10) ⟨by decide, rfl⟩ (by assumption) (c_fail w (d + 3) μ2 hK2.1 e82 (by omega) e102 e112) sv1 rfl (by omega) (Nat.le_of_ble_eq_true rfl) (Nat.le_refl _) (Nat.le_refl _) (fun v μ3 hR => ?_)
        obtain ⟨rfl, hE⟩ := hR
        exact G.retZ dX6_readWay_158 rfl (Or.inl rfl) (kE (7, i + 1, (t : Int)) _ (by unfold prX; exact pI_t h146) ((hs1.tr hs2).E hE.w))
    · omega
  | cons u us ih =>
    intro t s i μ hdr hK e8 hi e10 e11 hsb kE kS
    have hlen : ts.length = t + 1 + us.length := by
      have := congrArg List.length hdr
      rw [List.length_drop] at this
      simp at this
      omega
    have h5 := hK.2.1.2.2.1.2.1
    have hu : ts[t]? = some u := by
      have := congrArg (fun l => l[0]?) hdr
      simpa using this
    have hdr2 : ts.drop (t + 1) = us := by
      have := congrArg (List.drop 1) hdr
      rw [List.drop_drop] at this
      simpa using this
    have hnil : ¬ ((t : Int) + 1 < ts.length) → us = [] := fun z => List.eq_nil_of_length_eq_zero (by omega)
    have htok := hK.2.1.2.2.1.2.2.1 u (List.mem_of_getElem? hu)
    have htl := htok.2.2.1
    have o56 := hK.1.1.o56
    have r560 := hK.1.1.r56_0
    have r561 := hK.1.1.r56_1
    have r562 := hK.2.1.1
    have r563 := hK.2.2.1
    have o1 := hK.1.1.o1
    have a57 := hK.1.1.a57
    have g3 := hK.2.2.2.1
    obtain ⟨oq, ⟨rq1, rq2, rq3, rq4, -, -⟩, aq1, aq2, aq3, aq4, -, -⟩ := id hK.2.1.2.1
    have el := hK.2.1.2.2.1.1
    refine g_iload_n (j := 3) rfl dX6_readWay_4 ?_
    refine g_aload_n (j := 0) rfl dX6_readWay_5 ?_
    refine g_getR dX6_readWay_6 flX6_19 rfl (by assumption) (kz := 2) rfl (by assumption) ?_
    refine g_getI dX6_readWay_9 flX6_80 rfl (by assumption) (kz := 0) rfl ?_
    rw [el]
    refine g_icmp_ge (tgt := 114) dX6_readWay_12 (by decide) (by omega) (by omega) (fun h12 => ?_) (fun h12 => ?_)
    · omega
    · refine g_aload_n (j := 0) rfl dX6_readWay_15 ?_
      refine g_getR dX6_readWay_16 flX6_9 rfl (by assumption) (kz := 0) rfl (by assumption) ?_
      refine g_callV dX6_readWay_19 mlX6_65 mvX10_advance (ci := 10) ⟨by decide, rfl⟩ (by assumption) (c_advance w (d + 3) μ hK.1 e8 hi) sv0 rfl (by omega) (Nat.le_of_ble_eq_true rfl) (Nat.le_refl _) (Nat.le_refl _) (fun v μ1 hR => ?_)
      obtain ⟨rfl, e81, hr1⟩ := hR
      have hs1 := hr1.w
      have hK1 := hs1.K hK
      have o561 := hK1.1.1.o56
      have r5601 := hK1.1.1.r56_0
      have r5611 := hK1.1.1.r56_1
      have r5621 := hK1.2.1.1
      have r5631 := hK1.2.2.1
      have o11 := hK1.1.1.o1
      have a571 := hK1.1.1.a57
      have g31 := hK1.2.2.2.1
      obtain ⟨oq1, ⟨rq11, rq21, rq31, rq41, -, -⟩, aq11, aq21, aq31, aq41, -, -⟩ := id hK1.2.1.2.1
      have el1 := hK1.2.1.2.2.1.1
      have e101 := (hr1.2 10 (by omega) (by omega)).trans e10
      refine g_aload_n (j := 0) rfl dX6_readWay_22 ?_
      refine g_iload_n (j := 3) rfl dX6_readWay_23 ?_
      refine g_callV dX6_readWay_24 mlX6_85 mvX6_readX (ci := 6) ⟨by decide, rfl⟩ (by assumption) (c_readX w (d + 1) μ1 hK1 e81 (by omega) e101 hu) sv1 rfl (by omega) (Nat.le_of_ble_eq_true rfl) (Nat.le_refl _) (Nat.le_refl _) (fun v μ2 hR => ?_)
      rcases hR with ⟨hN, hv, rfl, e82, e92, e102, e112, hjT, hs2⟩ | ⟨hN, hv, rfl, hE⟩ | ⟨hN, rfl, hE⟩
      · refine g_if_ne (tgt := 32) dX6_readWay_27 (by decide) (by omega) (fun h27 => ?_) (fun h27 => ?_)
        · have hK2 := hs2.K hK1
          have o562 := hK2.1.1.o56
          have r5602 := hK2.1.1.r56_0
          have r5612 := hK2.1.1.r56_1
          have r5622 := hK2.2.1.1
          have r5632 := hK2.2.2.1
          have o12 := hK2.1.1.o1
          have a572 := hK2.1.1.a57
          have g32 := hK2.2.2.2.1
          obtain ⟨oq2, ⟨rq12, rq22, rq32, rq42, -, -⟩, aq12, aq22, aq32, aq42, -, -⟩ := id hK2.2.1.2.1
          have el2 := hK2.2.1.2.2.1.1
          obtain ⟨g1, g2, -⟩ := hK2.2.1.2.2.1.2.2.2 t u hu
          have hval := htok.v3 (x := vW n B (i + 1)) hv.1 hv.2
          obtain ⟨⟨k1, k2, k3, k4⟩, -⟩ := htok.pv
          have hb := vW_bd hN
          refine g_iload_n (j := 2) rfl dX6_readWay_32 ?_
          refine g_aload_n (j := 0) rfl dX6_readWay_33 ?_
          refine g_getR dX6_readWay_34 flX6_19 rfl (by assumption) (kz := 2) rfl (by assumption) ?_
          refine g_iload_n (j := 3) rfl dX6_readWay_37 ?_
          refine g_aload_n (j := 0) rfl dX6_readWay_38 ?_
          refine g_getR dX6_readWay_39 flX6_9 rfl (by assumption) (kz := 0) rfl (by assumption) ?_
          refine g_getI dX6_readWay_42 flX6_55 rfl (by assumption) (kz := 9) rfl ?_
          rw [e92]
          refine g_callV dX6_readWay_45 mlX6_88 mvX1_valueOf (ci := 1) ⟨by decide, rfl⟩ (by assumption) (c_valueOf w (d + 2) μ2 hK2.2.1.2.1 (t := (t : Int)) (x := vW n B (i + 1)) (by omega) g2 g1 (by omega) (by omega) (by omega) (by omega)) sv2 rfl (by omega) (Nat.le_of_ble_eq_true rfl) (Nat.le_refl _) (Nat.le_refl _) (fun v μ2 hR => ?_)
          obtain ⟨rfl, hm⟩ := hR
          replace hm := hm.symm
          subst hm
          rw [show pv (tK u) (tF u) (vW n B (i + 1)) = tV u (vW n B (i + 1)) from rfl]
          refine g_iadd dX6_readWay_48 ?_
          refine g_istore_n (j := 2) dX6_readWay_49 (by decide) rfl ls2 ?_
          refine g_aload_n (j := 0) rfl dX6_readWay_50 ?_
          refine g_getR dX6_readWay_51 flX6_9 rfl (by assumption) (kz := 0) rfl (by assumption) ?_
          refine g_callV dX6_readWay_54 mlX6_65 mvX10_advance (ci := 10) ⟨by decide, rfl⟩ (by assumption) (c_advance w (d + 3) μ2 hK2.1 e82 hjT) sv0 rfl (by omega) (Nat.le_of_ble_eq_true rfl) (Nat.le_refl _) (Nat.le_refl _) (fun v μ3 hR => ?_)
          obtain ⟨rfl, e83, hr3⟩ := hR
          have hs3 := hr3.w
          have hK3 := hs3.K hK2
          have o563 := hK3.1.1.o56
          have r5603 := hK3.1.1.r56_0
          have r5613 := hK3.1.1.r56_1
          have r5623 := hK3.2.1.1
          have r5633 := hK3.2.2.1
          have o13 := hK3.1.1.o1
          have a573 := hK3.1.1.a57
          have g33 := hK3.2.2.2.1
          obtain ⟨oq3, ⟨rq13, rq23, rq33, rq43, -, -⟩, aq13, aq23, aq33, aq43, -, -⟩ := id hK3.2.1.2.1
          have el3 := hK3.2.1.2.2.1.1
          have e103 := (hr3.2 10 (by omega) (by omega)).trans e102
          have e113 := (hr3.2 11 (by omega) (by omega)).trans e112
          refine g_aload_n (j := 0) rfl dX6_readWay_57 ?_
          refine g_getR dX6_readWay_58 flX6_9 rfl (by assumption) (kz := 0) rfl (by assumption) ?_
          refine g_bipush dX6_readWay_61 (by omega) ?_
          refine g_callV dX6_readWay_63 mlX6_45 mvX10_isSign (ci := 10) ⟨by decide, rfl⟩ (by assumption) (c_isSign w (d + 3) μ3 hK3.1 e83 (by omega) (c := 59) (by omega)) sv1 rfl (by omega) (Nat.le_of_ble_eq_true rfl) (Nat.le_refl _) (Nat.le_refl _) (fun v μ2 hR => ?_)
          obtain ⟨rfl, hm⟩ := hR
          replace hm := hm.symm
          subst hm
          refine g_ifb_eq (tgt := 87) dX6_readWay_66 (by decide)  (fun h66 => ?_) (fun h66 => ?_)
          · refine g_aload_n (j := 0) rfl dX6_readWay_87 ?_
            refine g_getR dX6_readWay_88 flX6_9 rfl (by assumption) (kz := 0) rfl (by assumption) ?_
            refine g_bipush dX6_readWay_91 (by omega) ?_
            refine g_callV dX6_readWay_93 mlX6_45 mvX10_isSign (ci := 10) ⟨by decide, rfl⟩ (by assumption) (c_isSign w (d + 3) μ3 hK3.1 e83 (by omega) (c := 44) (by omega)) sv1 rfl (by omega) (Nat.le_of_ble_eq_true rfl) (Nat.le_refl _) (Nat.le_refl _) (fun v μ2 hR => ?_)
            obtain ⟨rfl, hm⟩ := hR
            replace hm := hm.symm
            subst hm
            refine g_ifb_ne (tgt := 108) dX6_readWay_96 (by decide)  (fun h96 => ?_) (fun h96 => ?_)
            · refine g_iinc (i := 3) dX6_readWay_108 rfl (by decide) rfl ls3 ?_
              refine g_goto (tgt := 4) (by decide) dX6_readWay_111 ?_
              refine ih (t + 1) (s + tV u (vW n B (i + 1))) (jW n B (i + 1) + 1) μ3 hdr2 hK3 e83 ((hK3.1.lt (by omega)).1.mp h96.1) e103 e113 (by omega) (fun e μ4 y1 y2 => kE e μ4 ?_ (((hs1.tr hs2).tr hs3).E y2)) (fun j μ4 y1 y2 y3 y4 y5 => kS j μ4 ?_ y2 y3 y4 (((hs1.tr hs2).tr hs3).tr y5))
              · unfold prX
                rw [pI_t hN, pI_t hv, pI_f h66, pI_t h96]
                exact y1
              · unfold prX
                rw [pI_t hN, pI_t hv, pI_f h66, pI_t h96]
                exact y1
            · refine g_aload_n (j := 0) rfl dX6_readWay_99 ?_
              refine g_getR dX6_readWay_100 flX6_9 rfl (by assumption) (kz := 0) rfl (by assumption) ?_
              refine g_iconst dX6_readWay_103 ?_
              refine g_callV dX6_readWay_104 mlX6_49 mvX10_fail (ci := 10) ⟨by decide, rfl⟩ (by assumption) (c_fail w (d + 3) μ3 hK3.1 e83 (by omega) (k := 1) e103 e113) sv1 rfl (by omega) (Nat.le_of_ble_eq_true rfl) (Nat.le_refl _) (Nat.le_refl _) (fun v μ4 hR => ?_)
              obtain ⟨rfl, hE⟩ := hR
              exact G.retZ dX6_readWay_107 rfl (Or.inl rfl) (kE (1, jW n B (i + 1) + 1, -1) _ (by unfold prX; rw [pI_t hN, pI_t hv, pI_f h66, pI_f h96]) (((hs1.tr hs2).tr hs3).E hE.w))
          · refine g_aload_n (j := 0) rfl dX6_readWay_69 ?_
            refine g_iload_n (j := 3) rfl dX6_readWay_70 ?_
            refine g_iconst dX6_readWay_71 ?_
            refine g_iadd dX6_readWay_72 ?_
            refine g_iload_n (j := 2) rfl dX6_readWay_73 ?_
            refine g_iload_n (j := 1) rfl dX6_readWay_74 ?_
            refine g_icmp_ne (tgt := 82) dX6_readWay_75 (by decide) (by omega) (by omega) (fun h75 => ?_) (fun h75 => ?_)
            · refine g_iconst dX6_readWay_82 ?_
              refine g_callV dX6_readWay_83 mlX6_92 mvX6_endWay (ci := 6) ⟨by decide, rfl⟩ (by assumption) (c_endWay w (d + 2) μ3 hK3 e83 (by omega) e103 ((hK3.1.lt (by omega)).1.mp h66.1) e113 (by omega) (by omega)) sv2 rfl (by omega) (Nat.le_of_ble_eq_true rfl) (Nat.le_refl _) (Nat.le_refl _) (fun v μ4 hR => ?_)
              rcases hR with ⟨hq, rfl, hE⟩ | ⟨hq, hb0, rfl, hE⟩ | ⟨hq, hb1, rfl, e84, hr4⟩
              · exact G.retZ dX6_readWay_86 rfl (Or.inl rfl) (kE (7, jW n B (i + 1) + 1, -1) _ (by unfold prX; rw [pI_t hN, pI_t hv, pI_t h66, pI_f (fun z => by rw [z] at hlen; simp at hlen; omega)]) (((hs1.tr hs2).tr hs3).E hE))
              · exact G.retZ dX6_readWay_86 rfl (Or.inl rfl) (kE (8, jW n B (i + 1) + 1, -1) _ (by unfold prX; rw [pI_t hN, pI_t hv, pI_t h66, pI_t (hnil (by omega)), pI_f h75]) (((hs1.tr hs2).tr hs3).E hE))
              · exfalso
                omega
            · refine g_iconst dX6_readWay_78 ?_
              refine g_goto (tgt := 83) (by decide) dX6_readWay_79 ?_
              refine g_callV dX6_readWay_83 mlX6_92 mvX6_endWay (ci := 6) ⟨by decide, rfl⟩ (by assumption) (c_endWay w (d + 2) μ3 hK3 e83 (by omega) e103 ((hK3.1.lt (by omega)).1.mp h66.1) e113 (by omega) (by omega)) sv2 rfl (by omega) (Nat.le_of_ble_eq_true rfl) (Nat.le_refl _) (Nat.le_refl _) (fun v μ4 hR => ?_)
              rcases hR with ⟨hq, rfl, hE⟩ | ⟨hq, hb0, rfl, hE⟩ | ⟨hq, hb1, rfl, e84, hr4⟩
              · exact G.retZ dX6_readWay_86 rfl (Or.inl rfl) (kE (7, jW n B (i + 1) + 1, -1) _ (by unfold prX; rw [pI_t hN, pI_t hv, pI_t h66, pI_f (fun z => by rw [z] at hlen; simp at hlen; omega)]) (((hs1.tr hs2).tr hs3).E hE))
              · exfalso
                omega
              · exact G.retZ dX6_readWay_86 rfl (Or.inr rfl) (kS (jW n B (i + 1) + 2) _ (by unfold prX; rw [pI_t hN, pI_t hv, pI_t h66, pI_t (hnil (by omega)), pI_t (by omega)]) e84 (by have := (hK3.1.lt (by omega)).1.mp h66.1; omega) ((hr4.2 11 (by omega) (by omega)).trans e113) (((hs1.tr hs2).tr hs3).tr hr4.w))
        · omega
      · refine g_if_ne (tgt := 32) dX6_readWay_27 (by decide) (by omega) (fun h27 => ?_) (fun h27 => ?_)
        · omega
        · refine g_iconst dX6_readWay_30 ?_
          exact G.retZ dX6_readWay_31 rfl (Or.inl rfl) (kE (6, jW n B (i + 1), (t : Int)) _ (by unfold prX; rw [pI_t hN, pI_f hv]) (hs1.E hE))
      · refine g_if_ne (tgt := 32) dX6_readWay_27 (by decide) (by omega) (fun h27 => ?_) (fun h27 => ?_)
        · omega
        · refine g_iconst dX6_readWay_30 ?_
          exact G.retZ dX6_readWay_31 rfl (Or.inl rfl) (kE (1, jW n B (i + 1), (t : Int)) _ (by unfold prX; rw [pI_f hN]) (hs1.E hE))
theorem c_readNot (w : WC) (d : Nat) (μ : Mem) {x T q a i : Nat} {n : Int} {B : Int → Int} {ts : List Tm} (hK : PvK w μ x n B T q a ts) (e8 : mI μ (x + 1) 8 = (i : Int)) (hi : i ≤ T) {fo : Int} (e10 : mI μ (x + 1) 10 = fo) (hi2 : i < T) (e11 : mI μ (x + 1) 11 = -1) {z : Int} (hz : -3000 ≤ z ∧ z ≤ 3000) : Con w (d + 2) mX6_readNot 0 0 [vP (some (x + 56)), vI z] μ (fun v μ2 => PoF2 (prN n B ts z i) (fun e => v = some (vI 0) ∧ PwE x (fa4 e.1 (tP n B e.2.1) fo e.2.2) μ μ2) (fun j => v = some (vI 1) ∧ mI μ2 (x + 1) 8 = (j : Int) ∧ j ≤ T ∧ mI μ2 (x + 1) 11 = -1 ∧ PwS x μ μ2)) := by
  have o56 := hK.1.1.o56
  have r560 := hK.1.1.r56_0
  have r561 := hK.1.1.r56_1
  have r562 := hK.2.1.1
  have r563 := hK.2.2.1
  have o1 := hK.1.1.o1
  have a57 := hK.1.1.a57
  have g3 := hK.2.2.2.1
  obtain ⟨oq, ⟨rq1, rq2, rq3, rq4, -, -⟩, aq1, aq2, aq3, aq4, -, -⟩ := id hK.2.1.2.1
  have el := hK.2.1.2.2.1.1
  have h64 := wy_64 hK.2.1.2.2.1.2.2.1 hK.2.1.2.2.1.2.1 z
  refine Con.of (by decide) (Nat.le_of_ble_eq_true rfl) rfl ?_
  refine g_aload_n (j := 0) rfl dX6_readNot_0 ?_
  refine g_getR dX6_readNot_1 flX6_23 rfl (by assumption) (kz := 3) rfl (by assumption) ?_
  refine g_iload_n (j := 1) rfl dX6_readNot_4 ?_
  refine g_sipush dX6_readNot_5 (by omega) ?_
  refine g_iadd dX6_readNot_8 ?_
  refine g_lald dX6_readNot_9 (by assumption) (by omega) (by omega) ?_
  rw [hK.2.2.2.2.1 z hz.1 hz.2]
  refine g_lconst0 dX6_readNot_10 ?_
  refine g_lif_le (tgt := 25) dX6_readNot_11 dX6_readNot_12 (by decide) (by omega) (by omega) (fun h11 => ?_) (fun h11 => ?_)
  · refine g_aload_n (j := 0) rfl dX6_readNot_25 ?_
    refine g_getR dX6_readNot_26 flX6_9 rfl (by assumption) (kz := 0) rfl (by assumption) ?_
    refine g_callV dX6_readNot_29 mlX6_65 mvX10_advance (ci := 10) ⟨by decide, rfl⟩ (by assumption) (c_advance w (d + 1) μ hK.1 e8 hi2) sv0 rfl (by omega) (Nat.le_of_ble_eq_true rfl) (Nat.le_refl _) (Nat.le_refl _) (fun v μ1 hR => ?_)
    obtain ⟨rfl, e81, hr1⟩ := hR
    have hs1 := hr1.w
    have hK1 := hs1.K hK
    have o561 := hK1.1.1.o56
    have r5601 := hK1.1.1.r56_0
    have r5611 := hK1.1.1.r56_1
    have r5621 := hK1.2.1.1
    have r5631 := hK1.2.2.1
    have o11 := hK1.1.1.o1
    have a571 := hK1.1.1.a57
    have g31 := hK1.2.2.2.1
    obtain ⟨oq1, ⟨rq11, rq21, rq31, rq41, -, -⟩, aq11, aq21, aq31, aq41, -, -⟩ := id hK1.2.1.2.1
    have el1 := hK1.2.1.2.2.1.1
    have e101 := (hr1.2 10 (by omega) (by omega)).trans e10
    have e111 := (hr1.2 11 (by omega) (by omega)).trans e11
    refine g_aload_n (j := 0) rfl dX6_readNot_32 ?_
    refine g_getR dX6_readNot_33 flX6_9 rfl (by assumption) (kz := 0) rfl (by assumption) ?_
    refine g_bipush dX6_readNot_36 (by omega) ?_
    refine g_callV dX6_readNot_38 mlX6_45 mvX10_isSign (ci := 10) ⟨by decide, rfl⟩ (by assumption) (c_isSign w (d + 1) μ1 hK1.1 e81 (by omega) (c := 59) (by omega)) sv1 rfl (by omega) (Nat.le_of_ble_eq_true rfl) (Nat.le_refl _) (Nat.le_refl _) (fun v μ2 hR => ?_)
    obtain ⟨rfl, hm⟩ := hR
    replace hm := hm.symm
    subst hm
    refine g_ifb_ne (tgt := 53) dX6_readNot_41 (by decide)  (fun h41 => ?_) (fun h41 => ?_)
    · refine g_aload_n (j := 0) rfl dX6_readNot_53 ?_
      refine g_getR dX6_readNot_54 flX6_9 rfl (by assumption) (kz := 0) rfl (by assumption) ?_
      refine g_callV dX6_readNot_57 mlX6_65 mvX10_advance (ci := 10) ⟨by decide, rfl⟩ (by assumption) (c_advance w (d + 1) μ1 hK1.1 e81 ((hK1.1.lt (by omega)).1.mp h41.1)) sv0 rfl (by omega) (Nat.le_of_ble_eq_true rfl) (Nat.le_refl _) (Nat.le_refl _) (fun v μ2 hR => ?_)
      obtain ⟨rfl, e82, hr2⟩ := hR
      refine g_iconst dX6_readNot_60 ?_
      refine G.retZ dX6_readNot_61 rfl (Or.inr rfl) ?_
      rw [prN, pI_f (by omega), pI_t h41]
      exact ⟨rfl, e82, (hK1.1.lt (by omega)).1.mp h41.1, (hr2.2 11 (by omega) (by omega)).trans e111, hs1.tr hr2.w⟩
    · refine g_aload_n (j := 0) rfl dX6_readNot_44 ?_
      refine g_getR dX6_readNot_45 flX6_9 rfl (by assumption) (kz := 0) rfl (by assumption) ?_
      refine g_iconst dX6_readNot_48 ?_
      refine g_callV dX6_readNot_49 mlX6_49 mvX10_fail (ci := 10) ⟨by decide, rfl⟩ (by assumption) (c_fail w (d + 1) μ1 hK1.1 e81 (by omega) (k := 1) e101 e111) sv1 rfl (by omega) (Nat.le_of_ble_eq_true rfl) (Nat.le_refl _) (Nat.le_refl _) (fun v μ2 hR => ?_)
      obtain ⟨rfl, hE⟩ := hR
      refine G.retZ dX6_readNot_52 rfl (Or.inl rfl) ?_
      rw [prN, pI_f (by omega), pI_f h41]
      exact ⟨rfl, hs1.E hE.w⟩
  · refine g_aload_n (j := 0) rfl dX6_readNot_15 ?_
    refine g_getR dX6_readNot_16 flX6_9 rfl (by assumption) (kz := 0) rfl (by assumption) ?_
    refine g_bipush dX6_readNot_19 (by omega) ?_
    refine g_callV dX6_readNot_21 mlX6_49 mvX10_fail (ci := 10) ⟨by decide, rfl⟩ (by assumption) (c_fail w (d + 1) μ hK.1 e8 hi (k := 8) e10 e11) sv1 rfl (by omega) (Nat.le_of_ble_eq_true rfl) (Nat.le_refl _) (Nat.le_refl _) (fun v μ1 hR => ?_)
    obtain ⟨rfl, hE⟩ := hR
    refine G.retZ dX6_readNot_24 rfl (Or.inl rfl) ?_
    rw [prN, pI_t (by omega)]
    exact ⟨rfl, hE.w⟩
/-- the lines told so far -/
def TdC (μ : Mem) (x : Nat) (told : List Int) : Prop := ∀ (k : Nat) (z : Int), told[k]? = some z → mI μ (x + 57) (k : Int) = z ∧ -3000 ≤ z ∧ z ≤ 3000
theorem l_isTold {w : WC} {d x : Nat} {μ : Mem} {told : List Int} {z c : Int} (o56 : IsO w μ (x + 56) 6) (r561 : mR μ (x + 56) 1 = some (x + 57)) (a57 : IsA w μ (x + 57) 14 60) (hc : c = (told.length : Int)) (hl : told.length ≤ 60) (hz : i32 z) (hT : TdC μ x told) : ∀ (m k : Nat), k + m = told.length → (z ∈ told ↔ z ∈ told.drop k) → G w d mX6_isTold (fun v μ2 => v = some (vI (bI (z ∈ told))) ∧ μ2 = μ) 0 0 2 [some (vP (some (x + 56))), some (vI z), some (vI c), some (vI (k : Int))] [] μ := by
  intro m
  induction m with
  | zero =>
    intro k hk hm
    have hn : ¬ z ∈ told := by
      rw [hm, List.drop_eq_nil_of_le (by omega)]
      exact List.not_mem_nil
    refine g_iload_n (j := 3) rfl dX6_isTold_2 ?_
    refine g_iload_n (j := 2) rfl dX6_isTold_3 ?_
    refine g_icmp_ge (tgt := 31) dX6_isTold_4 (by decide) (by omega) (by omega) (fun h4 => ?_) (fun h4 => ?_)
    · refine g_iconst dX6_isTold_31 ?_
      exact G.retB dX6_isTold_32 rfl (eq_bI (Or.inr ⟨rfl, hn⟩)) ⟨rfl, rfl⟩
    · omega
  | succ m ih =>
    intro k hk hm
    have hkl : k < told.length := by omega
    have hg : told[k]? = some told[k] := List.getElem?_eq_getElem hkl
    obtain ⟨e57, hy⟩ := hT k _ hg
    have hd : told.drop k = told[k] :: told.drop (k + 1) := List.drop_eq_getElem_cons hkl
    generalize told[k] = y at *
    refine g_iload_n (j := 3) rfl dX6_isTold_2 ?_
    refine g_iload_n (j := 2) rfl dX6_isTold_3 ?_
    refine g_icmp_ge (tgt := 31) dX6_isTold_4 (by decide) (by omega) (by omega) (fun h4 => ?_) (fun h4 => ?_)
    · omega
    · refine g_iload_n (j := 3) rfl dX6_isTold_7 ?_
      refine g_bipush dX6_isTold_8 (by omega) ?_
      refine g_icmp_ge (tgt := 31) dX6_isTold_10 (by decide) (by omega) (by omega) (fun h10 => ?_) (fun h10 => ?_)
      · omega
      · refine g_aload_n (j := 0) rfl dX6_isTold_13 ?_
        refine g_getR dX6_isTold_14 flX6_15 rfl (by assumption) (kz := 1) rfl (by assumption) ?_
        refine g_iload_n (j := 3) rfl dX6_isTold_17 ?_
        refine g_iald dX6_isTold_18 (by assumption) (by omega) (by omega) ?_
        rw [e57]
        refine g_iload_n (j := 1) rfl dX6_isTold_19 ?_
        refine g_icmp_ne (tgt := 25) dX6_isTold_20 (by decide) (by omega) (by omega) (fun h20 => ?_) (fun h20 => ?_)
        · refine g_iinc (i := 3) dX6_isTold_25 rfl (by decide) rfl ls3 ?_
          refine g_goto (tgt := 2) (by decide) dX6_isTold_28 ?_
          refine ih (k + 1) (by omega) ?_
          rw [hm, hd, List.mem_cons]
          constructor
          · intro q
            rcases q with q | q
            · exact absurd q.symm (by omega)
            · exact q
          · exact Or.inr
        · refine g_iconst dX6_isTold_23 ?_
          exact G.retB dX6_isTold_24 rfl (eq_bI (Or.inl ⟨rfl, by rw [hm, hd, List.mem_cons]; exact Or.inl (by omega)⟩)) ⟨rfl, rfl⟩
theorem c_isTold (w : WC) (d : Nat) {x : Nat} {μ : Mem} {told : List Int} {z c : Int} (o56 : IsO w μ (x + 56) 6) (r561 : mR μ (x + 56) 1 = some (x + 57)) (a57 : IsA w μ (x + 57) 14 60) (hz : i32 z) (hc : c = (told.length : Int)) (hl : told.length ≤ 60) (hT : TdC μ x told) : Con w d mX6_isTold 0 0 [vP (some (x + 56)), vI z, vI c] μ (fun v μ2 => v = some (vI (bI (z ∈ told))) ∧ μ2 = μ) := by
  refine Con.of (by decide) (Nat.le_of_ble_eq_true rfl) rfl ?_
  refine g_iconst dX6_isTold_0 ?_
  refine g_istore_n (j := 3) dX6_isTold_1 (by decide) rfl ls3 ?_
  exact l_isTold (d := d) o56 r561 a57 hc hl hz hT told.length 0 (by omega) (by rw [List.drop_zero])
theorem PwS.D {told : List Int} (h : PwS x μ μ2) (hT : TPS w μ x) (hD : TdC μ x told) : TdC μ2 x told := fun k z hz => by rw [h.1.I hT.a57.2.1 (by omega)]; exact hD k z hz
def PvS (x : Nat) (μ μ2 : Mem) : Prop := Fr (fun a => a = x + 1 ∨ a = x + 57) (fun _ _ => False) μ μ2 ∧ ∀ j, ¬ (8 ≤ j ∧ j ≤ 11) → mI μ2 (x + 1) j = mI μ (x + 1) j
def PvE (x : Nat) (f : Int → Int) (μ μ2 : Mem) : Prop := Fr (fun a => a = x + 1 ∨ a = x + 57) (fun _ _ => False) μ μ2 ∧ (∀ j, ¬ (8 ≤ j ∧ j ≤ 15) → mI μ2 (x + 1) j = mI μ (x + 1) j) ∧ FaC μ2 x f
theorem PvS.tr {μ3 : Mem} (h : PvS x μ μ2) (h2 : PvS x μ2 μ3) : PvS x μ μ3 := ⟨h.1.tr h2.1, fun j z => (h2.2 j z).trans (h.2 j z)⟩
theorem PvS.rf : PvS x μ μ := ⟨Fr.rf, fun _ _ => rfl⟩
theorem PvS.E {f : Int → Int} {μ3 : Mem} (h : PvS x μ μ2) (h2 : PvE x f μ2 μ3) : PvE x f μ μ3 := ⟨h.1.tr h2.1, fun j z => (h2.2.1 j z).trans (h.2 j (fun y => z (by omega))), h2.2.2⟩
theorem PwS.v (h : PwS x μ μ2) : PvS x μ μ2 := ⟨h.1.mono (fun _ _ z => Or.inl z) (fun _ _ _ z => z), h.2⟩
theorem PwE.v {f : Int → Int} (h : PwE x f μ μ2) : PvE x f μ μ2 := ⟨h.1.mono (fun _ _ z => Or.inl z) (fun _ _ _ z => z), h.2⟩
theorem PvS.K (h : PvS x μ μ2) (hK : PvK w μ x n B T q a ts) : PvK w μ2 x n B T q a ts := hK.fr h.1 (h.2 5 (by omega)) (h.2 7 (by omega))
theorem TdC.add {told : List Int} (hD : TdC μ x told) {z : Int} (hz : -3000 ≤ z ∧ z ≤ 3000) : TdC (sI μ (x + 57) (told.length : Int) z) x (told ++ [z]) := by
  intro k y hy
  rcases Nat.lt_or_ge k told.length with q | q
  · rw [List.getElem?_append_left q] at hy
    rw [mI_sI, if_neg (by omega)]
    exact hD k y hy
  · rw [List.getElem?_append_right q] at hy
    have hk : k = told.length := by
      rcases Nat.eq_zero_or_pos (k - told.length) with r | r
      · omega
      · rw [List.getElem?_eq_none (by simp; omega)] at hy
        cases hy
    subst hk
    simp at hy
    subst hy
    rw [mI_sI, if_pos ⟨rfl, rfl⟩]
    exact ⟨rfl, hz⟩
theorem c_readWay (w : WC) (d : Nat) (μ : Mem) {x T q a i : Nat} {n : Int} {B : Int → Int} {ts : List Tm} (hK : PvK w μ x n B T q a ts) (e8 : mI μ (x + 1) 8 = (i : Int)) (hi : i ≤ T) {fo : Int} (e10 : mI μ (x + 1) 10 = fo) (hi2 : i < T) (e11 : mI μ (x + 1) 11 = -1) {z : Int} (hz : -3000 ≤ z ∧ z ≤ 3000) : Con w (d + 4) mX6_readWay 0 0 [vP (some (x + 56)), vI z] μ (fun v μ2 => PoF2 (prX n B z ts 0 0 (i + 1)) (fun e => v = some (vI 0) ∧ PwE x (fa4 e.1 (tP n B e.2.1) fo e.2.2) μ μ2) (fun j => v = some (vI 1) ∧ mI μ2 (x + 1) 8 = (j : Int) ∧ j ≤ T ∧ mI μ2 (x + 1) 11 = -1 ∧ PwS x μ μ2)) := by
  refine Con.of (by decide) (Nat.le_of_ble_eq_true rfl) rfl ?_
  refine g_iconst dX6_readWay_0 ?_
  refine g_istore_n (j := 2) dX6_readWay_1 (by decide) rfl ls2 ?_
  refine g_iconst dX6_readWay_2 ?_
  refine g_istore_n (j := 3) dX6_readWay_3 (by decide) rfl ls3 ?_
  exact l_readWay (d := d) ts 0 0 i μ List.drop_zero hK e8 hi2 e10 e11 (by omega) (fun e μ2 y1 y2 => by rw [y1]; exact ⟨rfl, y2⟩) (fun j μ2 y1 y2 y3 y4 y5 => by rw [y1]; exact ⟨rfl, y2, y3, y4, y5⟩)
theorem l_line97 {w : WC} {d x T q a i : Nat} {n z fo line l2 : Int} {B : Int → Int} {ts : List Tm} {told : List Int} {R : Option AV → Mem → Prop} {μ : Mem} (hK : PvK w μ x n B T q a ts) (e8 : mI μ (x + 1) 8 = (i : Int)) (hi : i < T) (e10 : mI μ (x + 1) 10 = fo) (e11 : mI μ (x + 1) 11 = -1) (hz : -3000 ≤ z ∧ z ≤ 3000) (hline : line = (told.length : Int)) (hl60 : told.length < 60) (hD : TdC μ x told) (kE : ∀ (e : FlF) (μ2 : Mem), prR n B ts z (i + 1) = .inl e → PvE x (fa4 e.1 (tP n B e.2.1) fo e.2.2) μ μ2 → R (some (vI 0)) μ2) (kS : ∀ (j : Nat) (μ2 : Mem), prR n B ts z (i + 1) = .inr j → mI μ2 (x + 1) 8 = (j : Int) → j ≤ T → mI μ2 (x + 1) 11 = -1 → TdC μ2 x (told ++ [z]) → PvS x μ μ2 → R (some (vI 1)) μ2) : G w (d + 6) mX6_readLine R 0 0 97 [some (vP (some (x + 56))), some (vI line), some (vI l2), some (vI z)] [] μ := by
  have o56 := hK.1.1.o56
  have r560 := hK.1.1.r56_0
  have r561 := hK.1.1.r56_1
  have r562 := hK.2.1.1
  have r563 := hK.2.2.1
  have o1 := hK.1.1.o1
  have a57 := hK.1.1.a57
  have g3 := hK.2.2.2.1
  obtain ⟨oq, ⟨rq1, rq2, rq3, rq4, -, -⟩, aq1, aq2, aq3, aq4, -, -⟩ := id hK.2.1.2.1
  have el := hK.2.1.2.2.1.1
  refine g_aload_n (j := 0) rfl dX6_readLine_97 ?_
  refine g_getR dX6_readLine_98 flX6_15 rfl (by assumption) (kz := 1) rfl (by assumption) ?_
  refine g_iload_n (j := 1) rfl dX6_readLine_101 ?_
  refine g_iload_n (j := 3) rfl dX6_readLine_102 ?_
  refine g_iast dX6_readLine_103 (by assumption) (by omega) (by omega) ?_
  have hs1 : PvS x μ (sI μ (x + 57) line z) := ⟨Fr.sI (P := fun a => a = x + 1 ∨ a = x + 57) (Or.inr rfl), fun j _ => by rw [mI_sI, if_neg (by omega)]⟩
  have hD1 : TdC (sI μ (x + 57) line z) x (told ++ [z]) := by
    rw [hline]
    exact hD.add hz
  have e81 : mI (sI μ (x + 57) line z) (x + 1) 8 = (i : Int) := by rw [mI_sI, if_neg (by omega)]; exact e8
  have e101 : mI (sI μ (x + 57) line z) (x + 1) 10 = fo := by rw [mI_sI, if_neg (by omega)]; exact e10
  have e111 : mI (sI μ (x + 57) line z) (x + 1) 11 = -1 := by rw [mI_sI, if_neg (by omega)]; exact e11
  generalize sI μ (x + 57) line z = μ1 at *
  have hK1 := hs1.K hK
  have o561 := hK1.1.1.o56
  have r5601 := hK1.1.1.r56_0
  have r5611 := hK1.1.1.r56_1
  have r5621 := hK1.2.1.1
  have r5631 := hK1.2.2.1
  have o11 := hK1.1.1.o1
  have a571 := hK1.1.1.a57
  have g31 := hK1.2.2.2.1
  obtain ⟨oq1, ⟨rq11, rq21, rq31, rq41, -, -⟩, aq11, aq21, aq31, aq41, -, -⟩ := id hK1.2.1.2.1
  have el1 := hK1.2.1.2.2.1.1
  refine g_aload_n (j := 0) rfl dX6_readLine_104 ?_
  refine g_getR dX6_readLine_105 flX6_9 rfl (by assumption) (kz := 0) rfl (by assumption) ?_
  refine g_callV dX6_readLine_108 mlX6_65 mvX10_advance (ci := 10) ⟨by decide, rfl⟩ (by assumption) (c_advance w (d + 4) μ1 hK1.1 e81 hi) sv0 rfl (by omega) (Nat.le_of_ble_eq_true rfl) (Nat.le_refl _) (Nat.le_refl _) (fun v μ2 hR => ?_)
  obtain ⟨rfl, e82, hr2⟩ := hR
  have hs2 := hr2.w
  have hK2 := hs2.K hK1
  have o562 := hK2.1.1.o56
  have r5602 := hK2.1.1.r56_0
  have r5612 := hK2.1.1.r56_1
  have r5622 := hK2.2.1.1
  have r5632 := hK2.2.2.1
  have o12 := hK2.1.1.o1
  have a572 := hK2.1.1.a57
  have g32 := hK2.2.2.2.1
  obtain ⟨oq2, ⟨rq12, rq22, rq32, rq42, -, -⟩, aq12, aq22, aq32, aq42, -, -⟩ := id hK2.2.1.2.1
  have el2 := hK2.2.1.2.2.1.1
  have hD2 := hs2.D hK1.1.1 hD1
  have e102 := (hr2.2 10 (by omega) (by omega)).trans e101
  have e112 := (hr2.2 11 (by omega) (by omega)).trans e111
  have hs12 := hs1.tr hs2.v
  refine g_aload_n (j := 0) rfl dX6_readLine_111 ?_
  refine g_getR dX6_readLine_112 flX6_9 rfl (by assumption) (kz := 0) rfl (by assumption) ?_
  refine g_bipush dX6_readLine_115 (by omega) ?_
  refine g_callV dX6_readLine_117 mlX6_45 mvX10_isSign (ci := 10) ⟨by decide, rfl⟩ (by assumption) (c_isSign w (d + 4) μ2 hK2.1 e82 (by omega) (c := 61) (by omega)) sv1 rfl (by omega) (Nat.le_of_ble_eq_true rfl) (Nat.le_refl _) (Nat.le_refl _) (fun v μ2 hR => ?_)
  obtain ⟨rfl, hm⟩ := hR
  replace hm := hm.symm
  subst hm
  refine g_ifb_eq (tgt := 129) dX6_readLine_120 (by decide)  (fun h120 => ?_) (fun h120 => ?_)
  · refine g_aload_n (j := 0) rfl dX6_readLine_129 ?_
    refine g_getR dX6_readLine_130 flX6_9 rfl (by assumption) (kz := 0) rfl (by assumption) ?_
    refine g_ldcT dX6_readLine_133 (n := 7) (tx := "not") (List.mem_of_getElem? (i := 7) rfl) ?_
    refine g_callV dX6_readLine_135 mlX6_73 mvX10_isWord (ci := 10) ⟨by decide, rfl⟩ (by assumption) (c_isWord w d μ2 hK2.1 e82 (by omega) (t := 7) (by omega)) sv1 rfl (by omega) (Nat.le_of_ble_eq_true rfl) (Nat.le_refl _) (Nat.le_refl _) (fun v μ2 hR => ?_)
    obtain ⟨rfl, hm⟩ := hR
    replace hm := hm.symm
    subst hm
    refine g_ifb_eq (tgt := 149) dX6_readLine_138 (by decide)  (fun h138 => ?_) (fun h138 => ?_)
    · refine g_aload_n (j := 0) rfl dX6_readLine_149 ?_
      refine g_getR dX6_readLine_150 flX6_9 rfl (by assumption) (kz := 0) rfl (by assumption) ?_
      refine g_iconst dX6_readLine_153 ?_
      refine g_callV dX6_readLine_154 mlX6_49 mvX10_fail (ci := 10) ⟨by decide, rfl⟩ (by assumption) (c_fail w (d + 4) μ2 hK2.1 e82 (by omega) (k := 1) e102 e112) sv1 rfl (by omega) (Nat.le_of_ble_eq_true rfl) (Nat.le_refl _) (Nat.le_refl _) (fun v μ3 hR => ?_)
      obtain ⟨rfl, hE⟩ := hR
      have er : prR n B ts z (i + 1) = .inl (1, i + 1, -1) := by
        unfold prR
        rw [pI_f h120, pI_f h138]
      exact G.retZ dX6_readLine_157 rfl (Or.inl rfl) (kE _ _ er (hs12.E hE.w.v))
    · refine g_aload_n (j := 0) rfl dX6_readLine_141 ?_
      refine g_iload_n (j := 3) rfl dX6_readLine_142 ?_
      refine g_callV dX6_readLine_143 mlX6_77 mvX6_readNot (ci := 6) ⟨by decide, rfl⟩ (by assumption) (c_readNot w (d + 2) μ2 hK2 e82 (by omega) e102 ((hK2.1.lt (by omega)).1.mp h138.1) e112 hz) sv1 rfl (by omega) (Nat.le_of_ble_eq_true rfl) (Nat.le_refl _) (Nat.le_refl _) (fun v μ3 hR => ?_)
      have er : prR n B ts z (i + 1) = prN n B ts z (i + 1) := by
        unfold prR
        rw [pI_f h120, pI_t h138]
      rw [← er] at hR
      refine g_goto (tgt := 157) (by decide) dX6_readLine_146 ?_
      rcases hr : prR n B ts z (i + 1) with e | j
      · rw [hr] at hR
        obtain ⟨rfl, hE⟩ := hR
        exact G.retZ dX6_readLine_157 rfl (Or.inl rfl) (kE _ _ hr (hs12.E hE.v))
      · rw [hr] at hR
        obtain ⟨rfl, e83, hj, e113, hs3⟩ := hR
        exact G.retZ dX6_readLine_157 rfl (Or.inr rfl) (kS _ _ hr e83 hj e113 (hs3.D hK2.1.1 hD2) (hs12.tr hs3.v))
  · refine g_aload_n (j := 0) rfl dX6_readLine_123 ?_
    refine g_iload_n (j := 3) rfl dX6_readLine_124 ?_
    refine g_callV dX6_readLine_125 mlX6_68 mvX6_readWay (ci := 6) ⟨by decide, rfl⟩ (by assumption) (c_readWay w d μ2 hK2 e82 (by omega) e102 ((hK2.1.lt (by omega)).1.mp h120.1) e112 hz) sv1 rfl (by omega) (Nat.le_of_ble_eq_true rfl) (Nat.le_refl _) (Nat.le_refl _) (fun v μ3 hR => ?_)
    have er : prR n B ts z (i + 1) = prX n B z ts 0 0 (i + 1 + 1) := pI_t h120
    rw [← er] at hR
    rcases hr : prR n B ts z (i + 1) with e | j
    · rw [hr] at hR
      obtain ⟨rfl, hE⟩ := hR
      exact G.retZ dX6_readLine_128 rfl (Or.inl rfl) (kE _ _ hr (hs12.E hE.v))
    · rw [hr] at hR
      obtain ⟨rfl, e83, hj, e113, hs3⟩ := hR
      exact G.retZ dX6_readLine_128 rfl (Or.inr rfl) (kS _ _ hr e83 hj e113 (hs3.D hK2.1.1 hD2) (hs12.tr hs3.v))
noncomputable def prS (n : Int) (B : Int → Int) (ts : List Tm) (told : List Int) (i : Nat) : FlF ⊕ Nat := pI (isN n B (tP n B (jW n B i))) (pI (¬ (-3000 ≤ vW n B i ∧ vW n B i ≤ 3000) ∨ vW n B i ∈ told) (.inl (5, jW n B i, -1)) (pI (told.length = 60) (.inl (9, jW n B i, -1)) (prR n B ts (vW n B i) (jW n B i + 1)))) (.inl (1, jW n B i, -1))
theorem l_line38 {w : WC} {d x T q a i : Nat} {n fo line l2 : Int} {B : Int → Int} {ts : List Tm} {told : List Int} {R : Option AV → Mem → Prop} {μ : Mem} (hK : PvK w μ x n B T q a ts) (e8 : mI μ (x + 1) 8 = (i : Int)) (hi : i ≤ T) (e10 : mI μ (x + 1) 10 = fo) (e11 : mI μ (x + 1) 11 = -1) (hline : line = (told.length : Int)) (hl60 : told.length ≤ 60) (hl2 : l2 = 1 ∧ told.length = 60 ∨ l2 = 0 ∧ told.length < 60) (hD : TdC μ x told) (kE : ∀ (e : FlF) (μ2 : Mem), prS n B ts told i = .inl e → PvE x (fa4 e.1 (tP n B e.2.1) fo e.2.2) μ μ2 → R (some (vI 0)) μ2) (kS : ∀ (j : Nat) (μ2 : Mem), prS n B ts told i = .inr j → mI μ2 (x + 1) 8 = (j : Int) → j ≤ T → mI μ2 (x + 1) 11 = -1 → TdC μ2 x (told ++ [vW n B i]) → told.length < 60 → PvS x μ μ2 → R (some (vI 1)) μ2) : G w (d + 6) mX6_readLine R 0 0 38 [some (vP (some (x + 56))), some (vI line), some (vI l2), none] [] μ := by
  have o56 := hK.1.1.o56
  have r560 := hK.1.1.r56_0
  have r561 := hK.1.1.r56_1
  have r562 := hK.2.1.1
  have r563 := hK.2.2.1
  have o1 := hK.1.1.o1
  have a57 := hK.1.1.a57
  have g3 := hK.2.2.2.1
  obtain ⟨oq, ⟨rq1, rq2, rq3, rq4, -, -⟩, aq1, aq2, aq3, aq4, -, -⟩ := id hK.2.1.2.1
  have el := hK.2.1.2.2.1.1
  refine g_aload_n (j := 0) rfl dX6_readLine_38 ?_
  refine g_getR dX6_readLine_39 flX6_9 rfl (by assumption) (kz := 0) rfl (by assumption) ?_
  refine g_callV dX6_readLine_42 mlX6_52 mvX10_readWhole (ci := 10) ⟨by decide, rfl⟩ (by assumption) (c_readWhole w (d + 4) μ hK.1 e8 hi e10 e11) sv0 rfl (by omega) (Nat.le_of_ble_eq_true rfl) (Nat.le_refl _) (Nat.le_refl _) (fun v μ1 hR => ?_)
  obtain ⟨hjT, hq⟩ := hR
  rcases hq with ⟨hN, rfl, e81, e91, hr1⟩ | ⟨hN, rfl, hE⟩
  · refine g_if_ne (tgt := 50) dX6_readLine_45 (by decide) (by omega) (fun h45 => ?_) (fun h45 => ?_)
    · have hs1 := hr1.w
      have hK1 := hs1.K hK
      have o561 := hK1.1.1.o56
      have r5601 := hK1.1.1.r56_0
      have r5611 := hK1.1.1.r56_1
      have r5621 := hK1.2.1.1
      have r5631 := hK1.2.2.1
      have o11 := hK1.1.1.o1
      have a571 := hK1.1.1.a57
      have g31 := hK1.2.2.2.1
      obtain ⟨oq1, ⟨rq11, rq21, rq31, rq41, -, -⟩, aq11, aq21, aq31, aq41, -, -⟩ := id hK1.2.1.2.1
      have el1 := hK1.2.1.2.2.1.1
      have hD1 := hs1.D hK.1.1 hD
      have e101 := (hr1.2 10 (by omega) (by omega)).trans e10
      have e111 := (hr1.2 11 (by omega) (by omega)).trans e11
      have hb := vW_bd hN
      have hjl := (hK1.1.lt hjT).1.mp hN.1
      refine g_aload_n (j := 0) rfl dX6_readLine_50 ?_
      refine g_getR dX6_readLine_51 flX6_9 rfl (by assumption) (kz := 0) rfl (by assumption) ?_
      refine g_getI dX6_readLine_54 flX6_55 rfl (by assumption) (kz := 9) rfl ?_
      rw [e91]
      refine g_istore_n (j := 3) dX6_readLine_57 (by decide) rfl ls3 ?_
      refine g_iload_n (j := 3) rfl dX6_readLine_58 ?_
      refine g_callS dX6_readLine_59 mlX6_58 msX11_isNumber (c_X11_isNumber w (d + 5) μ1 (x := vW n B i) (by omega)) sk1 rfl (by omega) (Nat.le_of_ble_eq_true rfl) (Nat.le_refl _) (Nat.le_refl _) (fun v μ2 hR => ?_)
      obtain ⟨rfl, hm⟩ := hR
      replace hm := hm.symm
      subst hm
      refine g_ifb_eq (tgt := 74) dX6_readLine_62 (by decide)  (fun h62 => ?_) (fun h62 => ?_)
      · refine g_aload_n (j := 0) rfl dX6_readLine_74 ?_
        refine g_getR dX6_readLine_75 flX6_9 rfl (by assumption) (kz := 0) rfl (by assumption) ?_
        refine g_iconst dX6_readLine_78 ?_
        refine g_callV dX6_readLine_79 mlX6_49 mvX10_fail (ci := 10) ⟨by decide, rfl⟩ (by assumption) (c_fail w (d + 5) μ1 hK1.1 e81 hjT (k := 5) e101 e111) sv1 rfl (by omega) (Nat.le_of_ble_eq_true rfl) (Nat.le_refl _) (Nat.le_refl _) (fun v μ2 hR => ?_)
        obtain ⟨rfl, hE⟩ := hR
        have er : prS n B ts told i = .inl (5, jW n B i, -1) := by
          unfold prS
          rw [pI_t hN, pI_t (Or.inl h62)]
        exact G.retZ dX6_readLine_82 rfl (Or.inl rfl) (kE _ _ er (hs1.v.E hE.w.v))
      · refine g_aload_n (j := 0) rfl dX6_readLine_65 ?_
        refine g_iload_n (j := 3) rfl dX6_readLine_66 ?_
        refine g_iload_n (j := 1) rfl dX6_readLine_67 ?_
        refine g_callV dX6_readLine_68 mlX6_61 mvX6_isTold (ci := 6) ⟨by decide, rfl⟩ (by assumption) (c_isTold w (d + 5) (z := vW n B i) o561 r5611 a571 (by omega) hline hl60 hD1) sv2 rfl (by omega) (Nat.le_of_ble_eq_true rfl) (Nat.le_refl _) (Nat.le_refl _) (fun v μ2 hR => ?_)
        obtain ⟨rfl, hm⟩ := hR
        replace hm := hm.symm
        subst hm
        refine g_ifb_eq (tgt := 83) dX6_readLine_71 (by decide)  (fun h71 => ?_) (fun h71 => ?_)
        · refine g_iload_n (j := 2) rfl dX6_readLine_83 ?_
          refine g_if_eq (tgt := 97) dX6_readLine_84 (by decide) (by omega) (fun h84 => ?_) (fun h84 => ?_)
          · have hlt : told.length < 60 := by omega
            have er : prS n B ts told i = prR n B ts (vW n B i) (jW n B i + 1) := by
              unfold prS
              rw [pI_t hN, pI_f (fun z => z.elim (fun y => y h62) h71), pI_f (by omega)]
            exact l_line97 (d := d) hK1 e81 hjl e101 e111 h62 hline hlt hD1 (fun e μ2 y1 y2 => kE e μ2 (er.trans y1) (hs1.v.E y2)) (fun j μ2 y1 y2 y3 y4 y5 y6 => kS j μ2 (er.trans y1) y2 y3 y4 y5 hlt (hs1.v.tr y6))
          · refine g_aload_n (j := 0) rfl dX6_readLine_87 ?_
            refine g_getR dX6_readLine_88 flX6_9 rfl (by assumption) (kz := 0) rfl (by assumption) ?_
            refine g_bipush dX6_readLine_91 (by omega) ?_
            refine g_callV dX6_readLine_93 mlX6_49 mvX10_fail (ci := 10) ⟨by decide, rfl⟩ (by assumption) (c_fail w (d + 5) μ1 hK1.1 e81 hjT (k := 9) e101 e111) sv1 rfl (by omega) (Nat.le_of_ble_eq_true rfl) (Nat.le_refl _) (Nat.le_refl _) (fun v μ2 hR => ?_)
            obtain ⟨rfl, hE⟩ := hR
            have er : prS n B ts told i = .inl (9, jW n B i, -1) := by
              unfold prS
              rw [pI_t hN, pI_f (fun z => z.elim (fun y => y h62) h71), pI_t (by omega)]
            exact G.retZ dX6_readLine_96 rfl (Or.inl rfl) (kE _ _ er (hs1.v.E hE.w.v))
        · refine g_aload_n (j := 0) rfl dX6_readLine_74 ?_
          refine g_getR dX6_readLine_75 flX6_9 rfl (by assumption) (kz := 0) rfl (by assumption) ?_
          refine g_iconst dX6_readLine_78 ?_
          refine g_callV dX6_readLine_79 mlX6_49 mvX10_fail (ci := 10) ⟨by decide, rfl⟩ (by assumption) (c_fail w (d + 5) μ1 hK1.1 e81 hjT (k := 5) e101 e111) sv1 rfl (by omega) (Nat.le_of_ble_eq_true rfl) (Nat.le_refl _) (Nat.le_refl _) (fun v μ2 hR => ?_)
          obtain ⟨rfl, hE⟩ := hR
          have er : prS n B ts told i = .inl (5, jW n B i, -1) := by
            unfold prS
            rw [pI_t hN, pI_t (Or.inr h71)]
          exact G.retZ dX6_readLine_82 rfl (Or.inl rfl) (kE _ _ er (hs1.v.E hE.w.v))
    · omega
  · refine g_if_ne (tgt := 50) dX6_readLine_45 (by decide) (by omega) (fun h45 => ?_) (fun h45 => ?_)
    · omega
    · refine g_iconst dX6_readLine_48 ?_
      exact G.retZ dX6_readLine_49 rfl (Or.inl rfl) (kE (1, jW n B i, -1) _ (pI_f hN) hE.w.v)
theorem c_X6_readLine (w : WC) (d : Nat) (μ : Mem) {x T q a i : Nat} {n : Int} {B : Int → Int} {ts : List Tm} (hK : PvK w μ x n B T q a ts) (e8 : mI μ (x + 1) 8 = (i : Int)) (hi : i ≤ T) {fo : Int} (e10 : mI μ (x + 1) 10 = fo) (e11 : mI μ (x + 1) 11 = -1) {told : List Int} (hl60 : told.length ≤ 60) (hD : TdC μ x told) : Con w (d + 6) mX6_readLine 0 0 [vP (some (x + 56)), vI (told.length : Int)] μ (fun v μ2 => PoF2 (prL n B ts told i) (fun e => v = some (vI 0) ∧ PvE x (fa4 e.1 (tP n B e.2.1) fo e.2.2) μ μ2) (fun j => v = some (vI 1) ∧ mI μ2 (x + 1) 8 = (j : Int) ∧ j ≤ T ∧ mI μ2 (x + 1) 11 = -1 ∧ TdC μ2 x (told ++ [vW n B i]) ∧ told.length < 60 ∧ PvS x μ μ2)) := by
  have o56 := hK.1.1.o56
  have r560 := hK.1.1.r56_0
  have r561 := hK.1.1.r56_1
  have r562 := hK.2.1.1
  have r563 := hK.2.2.1
  have o1 := hK.1.1.o1
  have a57 := hK.1.1.a57
  have g3 := hK.2.2.2.1
  obtain ⟨oq, ⟨rq1, rq2, rq3, rq4, -, -⟩, aq1, aq2, aq3, aq4, -, -⟩ := id hK.2.1.2.1
  have el := hK.2.1.2.2.1.1
  refine Con.of (by decide) (Nat.le_of_ble_eq_true rfl) rfl ?_
  refine g_iload_n (j := 1) rfl dX6_readLine_0 ?_
  refine g_bipush dX6_readLine_1 (by omega) ?_
  refine g_icmp_lt (tgt := 10) dX6_readLine_3 (by decide) (by omega) (by omega) (fun h3 => ?_) (fun h3 => ?_)
  · refine g_iconst dX6_readLine_10 ?_
    refine g_istore_n (j := 2) dX6_readLine_11 (by decide) rfl ls2 ?_
    refine g_iload_n (j := 2) rfl dX6_readLine_12 ?_
    refine g_if_eq (tgt := 38) dX6_readLine_13 (by decide) (by omega) (fun h13 => ?_) (fun h13 => ?_)
    · have er : prL n B ts told i = prS n B ts told i := pI_f (fun z => by omega)
      exact l_line38 (d := d) hK e8 hi e10 e11 rfl hl60 (by omega) hD (fun e μ2 y1 y2 => by rw [er, y1]; exact ⟨rfl, y2⟩) (fun j μ2 y1 y2 y3 y4 y5 y6 y7 => by rw [er, y1]; exact ⟨rfl, y2, y3, y4, y5, y6, y7⟩)
    · omega
  · refine g_iconst dX6_readLine_6 ?_
    refine g_goto (tgt := 11) (by decide) dX6_readLine_7 ?_
    refine g_istore_n (j := 2) dX6_readLine_11 (by decide) rfl ls2 ?_
    refine g_iload_n (j := 2) rfl dX6_readLine_12 ?_
    refine g_if_eq (tgt := 38) dX6_readLine_13 (by decide) (by omega) (fun h13 => ?_) (fun h13 => ?_)
    · omega
    · refine g_aload_n (j := 0) rfl dX6_readLine_16 ?_
      refine g_getR dX6_readLine_17 flX6_9 rfl (by assumption) (kz := 0) rfl (by assumption) ?_
      refine g_bipush dX6_readLine_20 (by omega) ?_
      refine g_callV dX6_readLine_22 mlX6_45 mvX10_isSign (ci := 10) ⟨by decide, rfl⟩ (by assumption) (c_isSign w (d + 5) μ hK.1 e8 hi (c := 45) (by omega)) sv1 rfl (by omega) (Nat.le_of_ble_eq_true rfl) (Nat.le_refl _) (Nat.le_refl _) (fun v μ2 hR => ?_)
      obtain ⟨rfl, hm⟩ := hR
      replace hm := hm.symm
      subst hm
      refine g_ifb_eq (tgt := 38) dX6_readLine_25 (by decide)  (fun h25 => ?_) (fun h25 => ?_)
      · have er : prL n B ts told i = prS n B ts told i := pI_f (fun z => h25 z.2)
        exact l_line38 (d := d) hK e8 hi e10 e11 rfl hl60 (by omega) hD (fun e μ2 y1 y2 => by rw [er, y1]; exact ⟨rfl, y2⟩) (fun j μ2 y1 y2 y3 y4 y5 y6 y7 => by rw [er, y1]; exact ⟨rfl, y2, y3, y4, y5, y6, y7⟩)
      · refine g_aload_n (j := 0) rfl dX6_readLine_28 ?_
        refine g_getR dX6_readLine_29 flX6_9 rfl (by assumption) (kz := 0) rfl (by assumption) ?_
        refine g_bipush dX6_readLine_32 (by omega) ?_
        refine g_callV dX6_readLine_34 mlX6_49 mvX10_fail (ci := 10) ⟨by decide, rfl⟩ (by assumption) (c_fail w (d + 5) μ hK.1 e8 hi (k := 9) e10 e11) sv1 rfl (by omega) (Nat.le_of_ble_eq_true rfl) (Nat.le_refl _) (Nat.le_refl _) (fun v μ1 hR => ?_)
        obtain ⟨rfl, hE⟩ := hR
        have er : prL n B ts told i = .inl (9, i, -1) := pI_t ⟨by omega, h25⟩
        refine G.retZ dX6_readLine_37 rfl (Or.inl rfl) ?_
        rw [er]
        exact ⟨rfl, hE.w.v⟩
theorem PvS.Dm {w : WC} {x T q a : Nat} {n : Int} {B : Int → Int} {ts : List Tm} {μ : Mem} {v : Int} (hK : PvK w μ x n B T q a ts) : PvS x μ (sI μ (x + 1) 10 v) := (PwS.sI (by omega)).v
theorem prL_60 {n : Int} {B : Int → Int} {ts : List Tm} {told : List Int} {i : Nat} (h : told.length = 60) : ∃ e, prL n B ts told i = .inl e := by
  unfold prL pI
  split
  · exact ⟨_, rfl⟩
  · split
    · split
      · exact ⟨_, rfl⟩
      · first
        | exact ⟨_, rfl⟩
        | (rw [if_pos h]; exact ⟨_, rfl⟩)
    · exact ⟨_, rfl⟩
theorem l_X6_readAll {w : WC} {d x T q a : Nat} {n : Int} {B : Int → Int} {ts : List Tm} {R : Option AV → Mem → Prop} : ∀ (k : Nat) (told : List Int) (i : Nat) (μ : Mem), told.length + k = 61 → told.length ≤ 60 → PvK w μ x n B T q a ts → mI μ (x + 1) 8 = (i : Int) → i ≤ T → mI μ (x + 1) 11 = -1 → TdC μ x told → (∀ (e : FlF × Nat) (μ2 : Mem), prAll n B ts k told i = .inl e → PvE x (fa4 e.1.1 (tP n B e.1.2.1) (e.2 : Int) e.1.2.2) μ μ2 → R (some (vI (-1))) μ2) → (∀ (c : Nat) (μ2 : Mem), prAll n B ts k told i = .inr c → PvS x μ μ2 → R (some (vI (c : Int))) μ2) → G w (d + 7) mX6_readAll R 0 0 21 [some (vP (some (x + 56))), some (vP (some q)), some (vP (some a)), some (vI (told.length : Int))] [] μ := by
  intro k
  induction k with
  | zero =>
    intro told i μ hk hl
    omega
  | succ k ih =>
    intro told i μ hk hl60 hK e8 hi e11 hD kE kS
    have o56 := hK.1.1.o56
    have r560 := hK.1.1.r56_0
    have r561 := hK.1.1.r56_1
    have r562 := hK.2.1.1
    have r563 := hK.2.2.1
    have o1 := hK.1.1.o1
    have a57 := hK.1.1.a57
    have g3 := hK.2.2.2.1
    obtain ⟨oq, ⟨rq1, rq2, rq3, rq4, -, -⟩, aq1, aq2, aq3, aq4, -, -⟩ := id hK.2.1.2.1
    have el := hK.2.1.2.2.1.1
    refine g_iload_n (j := 3) rfl dX6_readAll_21 ?_
    refine g_bipush dX6_readAll_22 (by omega) ?_
    refine g_icmp_gt (tgt := 63) dX6_readAll_24 (by decide) (by omega) (by omega) (fun h24 => ?_) (fun h24 => ?_)
    · omega
    · refine g_aload_n (j := 0) rfl dX6_readAll_27 ?_
      refine g_getR dX6_readAll_28 flX6_9 rfl (by assumption) (kz := 0) rfl (by assumption) ?_
      refine g_iload_n (j := 3) rfl dX6_readAll_31 ?_
      refine g_putI dX6_readAll_32 fpX6_33 rfl rfl rfl (by assumption) (kz := 10) rfl ?_
      have hs1 : PwS x μ (sI μ (x + 1) 10 (told.length : Int)) := PwS.sI (by omega)
      have e81 : mI (sI μ (x + 1) 10 (told.length : Int)) (x + 1) 8 = (i : Int) := by rw [mI_sI, if_neg (by omega)]; exact e8
      have e101 : mI (sI μ (x + 1) 10 (told.length : Int)) (x + 1) 10 = (told.length : Int) := by rw [mI_sI, if_pos ⟨rfl, rfl⟩]
      have e111 : mI (sI μ (x + 1) 10 (told.length : Int)) (x + 1) 11 = -1 := by rw [mI_sI, if_neg (by omega)]; exact e11
      generalize sI μ (x + 1) 10 (told.length : Int) = μ1 at *
      have hK1 := hs1.K hK
      have o561 := hK1.1.1.o56
      have r5601 := hK1.1.1.r56_0
      have r5611 := hK1.1.1.r56_1
      have r5621 := hK1.2.1.1
      have r5631 := hK1.2.2.1
      have o11 := hK1.1.1.o1
      have a571 := hK1.1.1.a57
      have g31 := hK1.2.2.2.1
      obtain ⟨oq1, ⟨rq11, rq21, rq31, rq41, -, -⟩, aq11, aq21, aq31, aq41, -, -⟩ := id hK1.2.1.2.1
      have el1 := hK1.2.1.2.2.1.1
      have hD1 := hs1.D hK.1.1 hD
      refine g_aload_n (j := 0) rfl dX6_readAll_35 ?_
      refine g_getR dX6_readAll_36 flX6_9 rfl (by assumption) (kz := 0) rfl (by assumption) ?_
      refine g_callV dX6_readAll_39 mlX6_37 mvX10_isEnd (ci := 10) ⟨by decide, rfl⟩ (by assumption) (c_isEnd w (d + 6) μ1 hK1.1 e81 hi) sv0 rfl (by omega) (Nat.le_of_ble_eq_true rfl) (Nat.le_refl _) (Nat.le_refl _) (fun v μ2 hR => ?_)
      obtain ⟨rfl, hm⟩ := hR
      replace hm := hm.symm
      subst hm
      refine g_ifb_eq (tgt := 47) dX6_readAll_42 (by decide)  (fun h42 => ?_) (fun h42 => ?_)
      · refine g_aload_n (j := 0) rfl dX6_readAll_47 ?_
        refine g_iload_n (j := 3) rfl dX6_readAll_48 ?_
        refine g_callV dX6_readAll_49 mlX6_41 mvX6_readLine (ci := 6) ⟨by decide, rfl⟩ (by assumption) (c_X6_readLine w d μ1 hK1 e81 hi e101 e111 (by omega) hD1) sv1 rfl (by omega) (Nat.le_of_ble_eq_true rfl) (Nat.le_refl _) (Nat.le_refl _) (fun v μ2 hR => ?_)
        rcases hr : prL n B ts told i with e | j
        · rw [hr] at hR
          obtain ⟨rfl, hE⟩ := hR
          refine g_if_ne (tgt := 57) dX6_readAll_52 (by decide) (by omega) (fun h52 => ?_) (fun h52 => ?_)
          · omega
          · refine g_iconst dX6_readAll_55 ?_
            exact G.retI dX6_readAll_56 rfl (kE (e, told.length) _ (by unfold prAll; rw [pI_f h42, hr]) (hs1.v.E hE))
        · rw [hr] at hR
          obtain ⟨rfl, e82, hj, e112, hD2, hlt, hs2⟩ := hR
          refine g_if_ne (tgt := 57) dX6_readAll_52 (by decide) (by omega) (fun h52 => ?_) (fun h52 => ?_)
          · refine g_iinc (i := 3) dX6_readAll_57 rfl (by decide) rfl ls3 ?_
            refine g_goto (tgt := 21) (by decide) dX6_readAll_60 ?_
            rw [show (told.length : Int) + 1 = ((told ++ [vW n B i]).length : Int) by rw [List.length_append]; rfl]
            refine ih (told ++ [vW n B i]) j μ2 (by rw [List.length_append]; simp; omega) (by rw [List.length_append]; simp; omega) (hs2.K hK1) e82 hj e112 hD2 (fun e μ3 y1 y2 => kE e μ3 ?_ ((hs1.v.tr hs2).E y2)) (fun c μ3 y1 y2 => kS c μ3 ?_ ((hs1.v.tr hs2).tr y2))
            · unfold prAll
              rw [pI_f h42, hr]
              exact y1
            · unfold prAll
              rw [pI_f h42, hr]
              exact y1
          · omega
      · refine g_iload_n (j := 3) rfl dX6_readAll_45 ?_
        exact G.retI dX6_readAll_46 rfl (kS _ _ (by unfold prAll; rw [pI_t h42]) hs1.v)
end PV
