/-! THE MODEL: unlike, many -/
theorem smK_bd (p : List Nat) : ∀ K : KL, smK K ≤ bdK p K
  | [] => Nat.le_refl _
  | q :: K => by
    have ih := smK_bd p K
    have h := Nat.mul_le_mul (Nat.le_refl q.2) (Nat.pow_pos (by decide) : 0 < 6001 ^ (mnB p q.1 []).length)
    show q.2 + smK K ≤ q.2 * 6001 ^ (mnB p q.1 []).length + bdK p K
    omega
theorem tn_sm {ts : List Tm} (h1 : 1 ≤ ts.length) (h5 : ts.length ≤ 5) : smK (tnK (lbs ts)) < 9000000000000000000 := by
  have hc := chk_all h1 h5
  unfold chk at hc
  simp only [Bool.and_eq_true, decide_eq_true_eq, beq_iff_eq, List.isPerm_iff] at hc
  exact Nat.lt_of_le_of_lt (smK_bd (lbs ts) _) hc.1.1.2
theorem wsK_app {T : Nat → Tm} {p : List Nat} {f : Int → Int} {n : Int} {q : List Nat × Nat} : ∀ K : KL, wsK T p f n (K ++ [q]) = wsK T p f n K + (q.2 : Int) * evM T (mnB p q.1 []) f n
  | [] => by
    show (q.2 : Int) * evM T (mnB p q.1 []) f n + 0 = 0 + _
    omega
  | x :: K => by
    show _ + wsK T p f n (K ++ [q]) = _ + wsK T p f n K + _
    rw [wsK_app K]
    omega
theorem smK_app {q : List Nat × Nat} : ∀ K : KL, smK (K ++ [q]) = smK K + q.2
  | [] => by
    show q.2 + 0 = 0 + q.2
    omega
  | x :: K => by
    show x.2 + smK (K ++ [q]) = x.2 + smK K + q.2
    rw [smK_app K]
    omega
theorem lnK_ok : ∀ K : KL, lnK K = true → ∀ q ∈ K, q.1.sum ≤ 5
  | [], _, q, h => absurd h List.not_mem_nil
  | x :: K, hk, q, h => by
    unfold lnK at hk
    simp only [Bool.and_eq_true, decide_eq_true_eq] at hk
    rcases List.mem_cons.mp h with z | z
    · rw [z]
      exact hk.1.2
    · exact lnK_ok K hk.2 q z
def L5F (m : Nat) : Mem → Mem → Prop := FrZ m (fun a => a = m + 5) (fun _ => False)
theorem KS.l {w : WC} {m : Nat} {K : KL} {P : Nat → Prop} {J : Int → Prop} {μ μ2 : Mem} (h : KS μ m K) (hf : FrZ m P J μ μ2) (hM : MoS w μ m) (hP : ¬ P (m + 8) ∧ ¬ P (m + 9)) (hJ : ¬ J 29) : KS μ2 m K := by
  have e8 : ∀ j, mI μ2 (m + 8) j = mI μ (m + 8) j := hf.1.I hM.a27.2.1 (fun z => z.elim (by omega) hP.1)
  have e9 : ∀ j, mL μ2 (m + 9) j = mL μ (m + 9) j := hf.1.L hM.a28.2.1 (fun z => z.elim (by omega) hP.2)
  refine ⟨(hf.2 29 hJ).trans h.1, fun t q hq => ?_, fun j z1 z2 => (e9 j).trans (h.2.2 j z1 z2)⟩
  obtain ⟨s1, s2, s3⟩ := h.2.1 t q hq
  exact ⟨s1, fun k hk => (e8 _).trans (s2 k hk), (e9 _).trans s3⟩
theorem FrZ.mfi {w : WC} {m : Nat} {s : Int} {ts : List Tm} {P : Nat → Prop} {J : Int → Prop} {μ μ2 : Mem} (h : FrZ m P J μ μ2) (hM : MoS w μ m) (hP : ¬ P (m + 1) ∧ ¬ P (m + 2)) (hI : MFI μ m s ts) : MFI μ2 m s ts := by
  have e1 : ∀ j, mI μ2 (m + 1) j = mI μ (m + 1) j := h.1.I hM.a0.2.1 (fun z => z.elim (by omega) hP.1)
  have e2 : ∀ j, mI μ2 (m + 2) j = mI μ (m + 2) j := h.1.I hM.a1.2.1 (fun z => z.elim (by omega) hP.2)
  refine ⟨(e1 s).trans hI.1, hI.2.1, hI.2.2.1, fun i u hu => ?_⟩
  rw [e2, e2, e2, e2]
  exact hI.2.2.2 i u hu
theorem l_u21 {w : WC} {d m : Nat} {s : Int} {Q : Option AV → Mem → Prop} : ∀ (r : Nat) (k : Int) (μ : Mem), k + (r : Int) = 6001 → 0 ≤ k → MoS w μ m → (∀ j, 0 ≤ j → j < k → mL μ (m + 5) j = 0) → (∀ μ2, MoS w μ2 m → (∀ j, 0 ≤ j → j < 6001 → mL μ2 (m + 5) j = 0) → FrZ m (fun a => a = m + 5) (fun _ => False) μ μ2 → G w d mX12_laysUnlike Q 0 0 41 [some (vP (some m)), some (vI s), some (vI 6001), none, none, none] [] μ2) → G w d mX12_laysUnlike Q 0 0 21 [some (vP (some m)), some (vI s), some (vI k), none, none, none] [] μ := by
  intro r
  induction r with
  | zero =>
    intro k μ hr h0 hM hD kk
    refine g_iload_n (j := 2) rfl dX12_laysUnlike_21 ?_
    refine g_sipush dX12_laysUnlike_22 (by omega) ?_
    refine g_icmp_ge (tgt := 41) dX12_laysUnlike_25 (by decide) (by omega) (by omega) (fun h25 => ?_) (fun h25 => ?_)
    · have ek : k = 6001 := by omega
      subst ek
      exact kk μ hM hD FrZ.rf
    · omega
  | succ r ih =>
    intro k μ hr h0 hM hD kk
    have o0 := hM.o
    have r24 := hM.r24
    have a24 := hM.a24
    refine g_iload_n (j := 2) rfl dX12_laysUnlike_21 ?_
    refine g_sipush dX12_laysUnlike_22 (by omega) ?_
    refine g_icmp_ge (tgt := 41) dX12_laysUnlike_25 (by decide) (by omega) (by omega) (fun h25 => ?_) (fun h25 => ?_)
    · omega
    · refine g_aload_n (j := 0) rfl dX12_laysUnlike_28 ?_
      refine g_getR dX12_laysUnlike_29 flX12_42 rfl (by assumption) (kz := 24) rfl (by assumption) ?_
      refine g_iload_n (j := 2) rfl dX12_laysUnlike_32 ?_
      refine g_lconst0 dX12_laysUnlike_33 ?_
      refine g_last dX12_laysUnlike_34 (by assumption) (by omega) (by omega) ?_
      refine g_iinc (i := 2) dX12_laysUnlike_35 rfl (by decide) rfl ls2 ?_
      refine g_goto (tgt := 21) (by decide) dX12_laysUnlike_38 ?_
      have hf : FrZ m (fun a => a = m + 5) (fun _ => False) μ (sL μ (m + 5) k 0) := ⟨Fr.sL (Or.inr rfl), fun _ _ => rfl⟩
      refine ih (k + 1) _ (by omega) (by omega) (FrZ.Mo hf hM) (fun j z1 z2 => ?_) (fun μ2 g1 g2 g3 => kk μ2 g1 g2 (FrZ.tr hf g3))
      rw [mL_sL]
      by_cases z : j = k
      · rw [if_pos ⟨rfl, z⟩]
      · rw [if_neg (fun q => z q.2)]
        exact hD j z1 (by omega)
theorem l_u43 {w : WC} {d m : Nat} {s : Int} {Q : Option AV → Mem → Prop} : ∀ (r : Nat) (k : Int) (μ : Mem), k + (r : Int) = 8 → 0 ≤ k → MoS w μ m → (∀ j, 0 ≤ j → j < k → mL μ (m + 9) j = 0) → (∀ μ2, MoS w μ2 m → (∀ j, 0 ≤ j → j < 8 → mL μ2 (m + 9) j = 0) → FrZ m (fun a => a = m + 9) (fun _ => False) μ μ2 → G w d mX12_laysUnlike Q 0 0 62 [some (vP (some m)), some (vI s), some (vI 8), none, none, none] [] μ2) → G w d mX12_laysUnlike Q 0 0 43 [some (vP (some m)), some (vI s), some (vI k), none, none, none] [] μ := by
  intro r
  induction r with
  | zero =>
    intro k μ hr h0 hM hD kk
    refine g_iload_n (j := 2) rfl dX12_laysUnlike_43 ?_
    refine g_bipush dX12_laysUnlike_44 (by omega) ?_
    refine g_icmp_ge (tgt := 62) dX12_laysUnlike_46 (by decide) (by omega) (by omega) (fun h46 => ?_) (fun h46 => ?_)
    · have ek : k = 8 := by omega
      subst ek
      exact kk μ hM hD FrZ.rf
    · omega
  | succ r ih =>
    intro k μ hr h0 hM hD kk
    have o0 := hM.o
    have r28 := hM.r28
    have a28 := hM.a28
    refine g_iload_n (j := 2) rfl dX12_laysUnlike_43 ?_
    refine g_bipush dX12_laysUnlike_44 (by omega) ?_
    refine g_icmp_ge (tgt := 62) dX12_laysUnlike_46 (by decide) (by omega) (by omega) (fun h46 => ?_) (fun h46 => ?_)
    · omega
    · refine g_aload_n (j := 0) rfl dX12_laysUnlike_49 ?_
      refine g_getR dX12_laysUnlike_50 flX12_54 rfl (by assumption) (kz := 28) rfl (by assumption) ?_
      refine g_iload_n (j := 2) rfl dX12_laysUnlike_53 ?_
      refine g_lconst0 dX12_laysUnlike_54 ?_
      refine g_last dX12_laysUnlike_55 (by assumption) (by omega) (by omega) ?_
      refine g_iinc (i := 2) dX12_laysUnlike_56 rfl (by decide) rfl ls2 ?_
      refine g_goto (tgt := 43) (by decide) dX12_laysUnlike_59 ?_
      have hf : FrZ m (fun a => a = m + 9) (fun _ => False) μ (sL μ (m + 9) k 0) := ⟨Fr.sL (Or.inr rfl), fun _ _ => rfl⟩
      refine ih (k + 1) _ (by omega) (by omega) (FrZ.Mo hf hM) (fun j z1 z2 => ?_) (fun μ2 g1 g2 g3 => kk μ2 g1 g2 (FrZ.tr hf g3))
      rw [mL_sL]
      by_cases z : j = k
      · rw [if_pos ⟨rfl, z⟩]
      · rw [if_neg (fun q => z q.2)]
        exact hD j z1 (by omega)
theorem l_u110 {w : WC} {d m t : Nat} {s al a : Int} {A f : Int → Int} {Q : Option AV → Mem → Prop} (ht : t ≤ 7) : ∀ (r : Nat) (n : Int) (μ : Mem), n + (r : Int) = 3001 → -3000 ≤ n → MoS w μ m → LayF (mL μ (m + 4)) 0 f → mL μ (m + 9) (t : Int) = a → (∀ j, -3000 ≤ j → j ≤ 3000 → mL μ (m + 5) (j + 3000) = if j < n then A j + a * f j else A j) → (∀ μ2, (∀ j, -3000 ≤ j → j ≤ 3000 → mL μ2 (m + 5) (j + 3000) = A j + a * f j) → L5F m μ μ2 → G w (d + 3) mX12_laysUnlike Q 0 0 152 [some (vP (some m)), some (vI s), some (vJ al), none, some (vI (t : Int)), some (vI 3001)] [] μ2) → G w (d + 3) mX12_laysUnlike Q 0 0 110 [some (vP (some m)), some (vI s), some (vJ al), none, some (vI (t : Int)), some (vI n)] [] μ := by
  intro r
  induction r with
  | zero =>
    intro n μ hr h0 hM hL h9 hD kk
    refine g_iload (i := 5) rfl dX12_laysUnlike_110 ?_
    refine g_sipush dX12_laysUnlike_112 (by omega) ?_
    refine g_icmp_gt (tgt := 152) dX12_laysUnlike_115 (by decide) (by omega) (by omega) (fun h115 => ?_) (fun h115 => ?_)
    · have ek : n = 3001 := by omega
      subst ek
      exact kk μ (fun j z1 z2 => by rw [hD j z1 z2, if_pos (by omega)]) FrZ.rf
    · omega
  | succ r ih =>
    intro n μ hr h0 hM hL h9 hD kk
    have o0 := hM.o
    have r24 := hM.r24
    have a24 := hM.a24
    have r28 := hM.r28
    have a28 := hM.a28
    refine g_iload (i := 5) rfl dX12_laysUnlike_110 ?_
    refine g_sipush dX12_laysUnlike_112 (by omega) ?_
    refine g_icmp_gt (tgt := 152) dX12_laysUnlike_115 (by decide) (by omega) (by omega) (fun h115 => ?_) (fun h115 => ?_)
    · omega
    · refine g_aload_n (j := 0) rfl dX12_laysUnlike_118 ?_
      refine g_getR dX12_laysUnlike_119 flX12_42 rfl (by assumption) (kz := 24) rfl (by assumption) ?_
      refine g_iload (i := 5) rfl dX12_laysUnlike_122 ?_
      refine g_sipush dX12_laysUnlike_124 (by omega) ?_
      refine g_iadd dX12_laysUnlike_127 ?_
      refine g_dup2 rfl rfl dX12_laysUnlike_128 ?_
      refine g_lald dX12_laysUnlike_129 (by assumption) (by omega) (by omega) ?_
      rw [hD n (by omega) (by omega), if_neg (by omega)]
      refine g_aload_n (j := 0) rfl dX12_laysUnlike_130 ?_
      refine g_getR dX12_laysUnlike_131 flX12_54 rfl (by assumption) (kz := 28) rfl (by assumption) ?_
      refine g_iload (i := 4) rfl dX12_laysUnlike_134 ?_
      refine g_lald dX12_laysUnlike_136 (by assumption) (by omega) (by omega) ?_
      rw [h9]
      refine g_aload_n (j := 0) rfl dX12_laysUnlike_137 ?_
      refine g_iload (i := 5) rfl dX12_laysUnlike_138 ?_
      refine g_callV dX12_laysUnlike_140 mlX12_285 mvX12_waysOf (ci := 12) ⟨by decide, rfl⟩ (by assumption) (c_X12_waysOf w d μ hM (n := n) (by omega)) sv1 rfl (by omega) (Nat.le_of_ble_eq_true rfl) (Nat.le_refl _) (Nat.le_refl _) (fun v μ2 hR => ?_)
      obtain ⟨rfl, hm⟩ := hR
      replace hm := hm.symm
      subst hm
      rw [show atL (mL μ (m + 4)) 0 (n + 15000) = f n from by rw [atL, if_pos (by omega), hL _ (by omega) (by omega)]; congr 1; omega]
      refine g_lmul dX12_laysUnlike_143 ?_
      refine g_ladd dX12_laysUnlike_144 ?_
      refine g_last dX12_laysUnlike_145 (by assumption) (by omega) (by omega) ?_
      refine g_iinc (i := 5) dX12_laysUnlike_146 rfl (by decide) rfl ls5 ?_
      refine g_goto (tgt := 110) (by decide) dX12_laysUnlike_149 ?_
      have hf : L5F m μ (sL μ (m + 5) (n + 3000) (A n + a * f n)) := ⟨Fr.sL (Or.inr rfl), fun _ _ => rfl⟩
      refine ih (n + 1) _ (by omega) (by omega) (FrZ.Mo hf hM) (fun q z1 z2 => (hf.1.L hM.a22.2.1 (by omega) _).trans (hL q z1 z2)) ((hf.1.L hM.a28.2.1 (by omega) _).trans h9) (fun j z1 z2 => ?_) (fun μ2 g1 g2 => kk μ2 g1 (FrZ.tr hf g2))
      rw [mL_sL]
      by_cases z : j = n
      · rw [if_pos ⟨rfl, by omega⟩, if_pos (by omega), z]
      · rw [if_neg (by omega), hD j z1 z2]
        by_cases z3 : j < n
        · rw [if_pos z3, if_pos (by omega)]
        · rw [if_neg z3, if_neg (by omega)]
theorem l_u161 {w : WC} {d m : Nat} {s al : Int} {U : Int → Int} (hal : 1 ≤ al ∧ al < 9000000000000000000) (hB : ∀ j, i64 (al * U j)) : ∀ (r : Nat) (k : Int) (μ : Mem) (x5 : Option AV), k + (r : Int) = 6001 → 0 ≤ k → MoS w μ m → (∀ j, 0 ≤ j → j < 6001 → mL μ (m + 5) j = if j < k then U j else al * U j) → G w d mX12_laysUnlike (fun v μ2 => v = none ∧ (∀ j, 0 ≤ j → j < 6001 → mL μ2 (m + 5) j = U j) ∧ L5F m μ μ2) 0 0 161 [some (vP (some m)), some (vI s), some (vJ al), none, some (vI k), x5] [] μ := by
  intro r
  induction r with
  | zero =>
    intro k μ x5 hr h0 hM hD
    refine g_iload (i := 4) rfl dX12_laysUnlike_161 ?_
    refine g_sipush dX12_laysUnlike_163 (by omega) ?_
    refine g_icmp_ge (tgt := 186) dX12_laysUnlike_166 (by decide) (by omega) (by omega) (fun h166 => ?_) (fun h166 => ?_)
    · exact G.retV dX12_laysUnlike_186 rfl ⟨rfl, (fun j z1 z2 => by rw [hD j z1 z2, if_pos (by omega)]), FrZ.rf⟩
    · omega
  | succ r ih =>
    intro k μ x5 hr h0 hM hD
    have o0 := hM.o
    have r24 := hM.r24
    have a24 := hM.a24
    refine g_iload (i := 4) rfl dX12_laysUnlike_161 ?_
    refine g_sipush dX12_laysUnlike_163 (by omega) ?_
    refine g_icmp_ge (tgt := 186) dX12_laysUnlike_166 (by decide) (by omega) (by omega) (fun h166 => ?_) (fun h166 => ?_)
    · omega
    · refine g_aload_n (j := 0) rfl dX12_laysUnlike_169 ?_
      refine g_getR dX12_laysUnlike_170 flX12_42 rfl (by assumption) (kz := 24) rfl (by assumption) ?_
      refine g_iload (i := 4) rfl dX12_laysUnlike_173 ?_
      refine g_dup2 rfl rfl dX12_laysUnlike_175 ?_
      refine g_lald dX12_laysUnlike_176 (by assumption) (by omega) (by omega) ?_
      rw [hD k (by omega) (by omega), if_neg (by omega)]
      have hb := hB k
      refine g_lload_n (j := 2) rfl dX12_laysUnlike_177 ?_
      refine g_ldiv (by omega) (by omega) (by omega) dX12_laysUnlike_178 ?_
      rw [Int.mul_tdiv_cancel_left _ (show al ≠ 0 by omega)]
      refine g_last dX12_laysUnlike_179 (by assumption) (by omega) (by omega) ?_
      refine g_iinc (i := 4) dX12_laysUnlike_180 rfl (by decide) rfl ls4 ?_
      refine g_goto (tgt := 161) (by decide) dX12_laysUnlike_183 ?_
      have hf : L5F m μ (sL μ (m + 5) k (U k)) := ⟨Fr.sL (Or.inr rfl), fun _ _ => rfl⟩
      refine G.post (fun v μ2 hq => ⟨hq.1, hq.2.1, FrZ.tr hf hq.2.2⟩) (ih (k + 1) _ _ (by omega) (by omega) (FrZ.Mo hf hM) (fun j z1 z2 => ?_))
      rw [mL_sL]
      by_cases z : j = k
      · rw [if_pos ⟨rfl, z⟩, if_pos (by omega), z]
      · rw [if_neg (fun q => z q.2), hD j z1 z2]
        by_cases z3 : j < k
        · rw [if_pos z3, if_pos (by omega)]
        · rw [if_neg z3, if_neg (by omega)]
