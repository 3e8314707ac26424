/-! THE MODEL: tried, side -/
def LtF (m : Nat) : Mem → Mem → Prop := FrZ m (fun a => a = m + 15) (fun _ => False)
theorem l_goesOn {w : WC} {d m : Nat} {L b : Int} (hL : 0 ≤ L ∧ L < 64) (hb3 : 0 ≤ b ∧ b ≤ 3) : ∀ (l : Nat) (V : Int → Int) (μ : Mem), l ≤ 6 → MoS w μ m → mI μ m 39 = L → (∀ i, 0 ≤ i → i ≤ 5 → mI μ (m + 15) i = V i) → hbV b V → G w d mX12_goesOn (fun v μ2 => v = some (vI (nxG L b l V)) ∧ (∀ i, 0 ≤ i → i ≤ 5 → mI μ2 (m + 15) i = nxW L b l V i) ∧ LtF m μ μ2) 0 0 2 [some (vP (some m)), some (vI b), some (vI ((l : Int) - 1))] [] μ := by
  intro l
  induction l with
  | zero =>
    intro V μ hl hM e39 hV hb
    refine g_iload_n (j := 2) rfl dX12_goesOn_2 ?_
    refine g_if_lt (tgt := 56) dX12_goesOn_3 (by decide) (by omega) (fun h3 => ?_) (fun h3 => ?_)
    · refine g_iconst dX12_goesOn_56 ?_
      exact G.retZ dX12_goesOn_57 rfl (Or.inl rfl) ⟨rfl, hV, FrZ.rf⟩
    · omega
  | succ l ih =>
    intro V μ hl hM e39 hV hb
    have o0 := hM.o
    have r42 := hM.r42
    have a42 := hM.a42
    rw [show ((l + 1 : Nat) : Int) - 1 = (l : Int) by omega]
    refine g_iload_n (j := 2) rfl dX12_goesOn_2 ?_
    refine g_if_lt (tgt := 56) dX12_goesOn_3 (by decide) (by omega) (fun h3 => ?_) (fun h3 => ?_)
    · omega
    · refine g_aload_n (j := 0) rfl dX12_goesOn_6 ?_
      refine g_getI dX12_goesOn_7 flX12_373 rfl (by assumption) (kz := 39) rfl ?_
      rw [e39]
      refine g_iload_n (j := 2) rfl dX12_goesOn_10 ?_
      refine g_ishr dX12_goesOn_11 ?_
      refine g_iconst dX12_goesOn_12 ?_
      refine g_iand dX12_goesOn_13 ?_
      rw [show (iv (iv L >>> (iv (l : Int) &&& 31)).toInt &&& iv 1).toInt = usB L (l : Int) from rfl]
      have hu := usB_01 (l := (l : Int)) hL (by omega)
      refine g_if_ne (tgt := 20) dX12_goesOn_14 (by decide) (by omega) (fun h14 => ?_) (fun h14 => ?_)
      · refine g_aload_n (j := 0) rfl dX12_goesOn_20 ?_
        refine g_getR dX12_goesOn_21 flX12_72 rfl (by assumption) (kz := 42) rfl (by assumption) ?_
        refine g_iload_n (j := 2) rfl dX12_goesOn_24 ?_
        refine g_iald dX12_goesOn_25 (by assumption) (by omega) (by omega) ?_
        rw [hV (l : Int) (by omega) (by omega)]
        have hvb := hb (l : Int) (by omega) (by omega)
        refine g_iload_n (j := 1) rfl dX12_goesOn_26 ?_
        refine g_icmp_ge (tgt := 42) dX12_goesOn_27 (by decide) (by omega) (by omega) (fun h27 => ?_) (fun h27 => ?_)
        · refine g_aload_n (j := 0) rfl dX12_goesOn_42 ?_
          refine g_getR dX12_goesOn_43 flX12_72 rfl (by assumption) (kz := 42) rfl (by assumption) ?_
          refine g_iload_n (j := 2) rfl dX12_goesOn_46 ?_
          refine g_iload_n (j := 1) rfl dX12_goesOn_47 ?_
          refine g_ineg dX12_goesOn_48 ?_
          refine g_iast dX12_goesOn_49 (by assumption) (by omega) (by omega) ?_
          refine g_iinc (i := 2) dX12_goesOn_50 rfl (by decide) rfl ls2 ?_
          refine g_goto (tgt := 2) (by decide) dX12_goesOn_53 ?_
          have hup : usB L (l : Int) = 1 := by omega
          have hnb : ¬ V (l : Int) < b := by omega
          rw [show nxG L b (l + 1) V = nxG L b l (up V (l : Int) (-b)) from by rw [nxG, if_pos hup, if_neg hnb], show nxW L b (l + 1) V = nxW L b l (up V (l : Int) (-b)) from by rw [nxW, if_pos hup, if_neg hnb]]
          have hf : LtF m μ (sI μ (m + 15) (l : Int) (-b)) := ⟨Fr.sI (Or.inr rfl), fun j _ => by rw [mI_sI, if_neg (by omega)]⟩
          rw [show (l : Int) + -1 = (l : Int) - 1 by omega]
          refine G.post (fun v μ3 hq => ⟨hq.1, hq.2.1, FrZ.tr hf hq.2.2⟩) (ih (up V (l : Int) (-b)) _ (by omega) (FrZ.Mo hf hM) ((hf.2 39 (fun z => z)).trans e39) (fun i z1 z2 => ?_) (hbV_up hb (by omega)))
          rw [mI_sI]
          by_cases z : i = (l : Int)
          · rw [if_pos ⟨rfl, z⟩, z, up_e]
          · rw [if_neg (fun q => z q.2), up_n z]
            exact hV i z1 z2
        · refine g_aload_n (j := 0) rfl dX12_goesOn_30 ?_
          refine g_getR dX12_goesOn_31 flX12_72 rfl (by assumption) (kz := 42) rfl (by assumption) ?_
          refine g_iload_n (j := 2) rfl dX12_goesOn_34 ?_
          refine g_dup2 rfl rfl dX12_goesOn_35 ?_
          refine g_iald dX12_goesOn_36 (by assumption) (by omega) (by omega) ?_
          rw [hV (l : Int) (by omega) (by omega)]
          refine g_iconst dX12_goesOn_37 ?_
          refine g_iadd dX12_goesOn_38 ?_
          refine g_iast dX12_goesOn_39 (by assumption) (by omega) (by omega) ?_
          refine g_iconst dX12_goesOn_40 ?_
          have hup : usB L (l : Int) = 1 := by omega
          rw [show nxG L b (l + 1) V = 1 from by rw [nxG, if_pos hup, if_pos (by omega)], show nxW L b (l + 1) V = up V (l : Int) (V (l : Int) + 1) from by rw [nxW, if_pos hup, if_pos (by omega)]]
          have hf : LtF m μ (sI μ (m + 15) (l : Int) (V (l : Int) + 1)) := ⟨Fr.sI (Or.inr rfl), fun j _ => by rw [mI_sI, if_neg (by omega)]⟩
          refine G.retZ dX12_goesOn_41 rfl (Or.inr rfl) ⟨rfl, fun i z1 z2 => ?_, hf⟩
          rw [mI_sI]
          by_cases z : i = (l : Int)
          · rw [if_pos ⟨rfl, z⟩, z, up_e]
          · rw [if_neg (fun q => z q.2), up_n z]
            exact hV i z1 z2
      · refine g_goto (tgt := 50) (by decide) dX12_goesOn_17 ?_
        refine g_iinc (i := 2) dX12_goesOn_50 rfl (by decide) rfl ls2 ?_
        refine g_goto (tgt := 2) (by decide) dX12_goesOn_53 ?_
        have hun : ¬ usB L (l : Int) = 1 := by omega
        rw [show nxG L b (l + 1) V = nxG L b l V from by rw [nxG, if_neg hun], show nxW L b (l + 1) V = nxW L b l V from by rw [nxW, if_neg hun]]
        rw [show (l : Int) + -1 = (l : Int) - 1 by omega]
        exact ih V μ (by omega) hM e39 hV hb
theorem c_goesOn (w : WC) (d : Nat) (μ : Mem) {m : Nat} {L b : Int} {V : Int → Int} (hL : 0 ≤ L ∧ L < 64) (hb3 : 0 ≤ b ∧ b ≤ 3) (hM : MoS w μ m) (e39 : mI μ m 39 = L) (hV : ∀ i, 0 ≤ i → i ≤ 5 → mI μ (m + 15) i = V i) (hb : hbV b V) : Con w d mX12_goesOn 0 0 [vP (some m), vI b] μ (fun v μ2 => v = some (vI (nxG L b 6 V)) ∧ (∀ i, 0 ≤ i → i ≤ 5 → mI μ2 (m + 15) i = nxW L b 6 V i) ∧ LtF m μ μ2) := by
  refine Con.of (by decide) (Nat.le_of_ble_eq_true rfl) rfl ?_
  refine g_iconst dX12_goesOn_0 ?_
  refine g_istore_n (j := 2) dX12_goesOn_1 (by decide) rfl ls2 ?_
  exact l_goesOn (d := d) hL hb3 6 V μ (Nat.le_refl _) hM e39 hV hb
def TrZ (m : Nat) : Mem → Mem → Prop := FrZ m (fun a => m + 15 ≤ a ∧ a ≤ m + 17) (fun j => j = 44)
theorem StF.z {m : Nat} {μ μ2 : Mem} (h : StF m μ μ2) : TrZ m μ μ2 := FrZ.mono h (fun a z => by omega) (fun _ z => z)
theorem LtF.z {m : Nat} {μ μ2 : Mem} (h : LtF m μ μ2) : TrZ m μ μ2 := FrZ.mono h (fun a z => by omega) (fun _ z => z.elim)
theorem TrZ.mo {w : WC} {m : Nat} {μ μ2 : Mem} (h : TrZ m μ μ2) (hM : MoS w μ m) : MoS w μ2 m := FrZ.Mo h hM
theorem TrZ.id {w : WC} {m : Nat} {I : IdT} {μ μ2 : Mem} (h : TrZ m μ μ2) (hM : MoS w μ m) (hI : IdM μ m I) : IdM μ2 m I := hI.st h hM (by omega)
/-- the first broken row -/
def FiM (μ : Mem) (m : Nat) (I : IdT) (b : Int) (r : Nat) : Prop := ¬ cB I b r = 0 → ∀ j, 0 ≤ j → j ≤ 6 → mI μ (m + 17) j = fF I b r j
theorem l_tr151 {w : WC} {d m : Nat} {I : IdT} {b t : Int} {μ : Mem} {l4 l5 : Option AV} (h0 : 0 < I.1.2.2.length) (hb3 : 0 ≤ b ∧ b < 4) (ht : 0 ≤ t ∧ t ≤ 7) (hM : MoS w μ m) (hF : FiM μ m I b (rwT I b)) : G w d mX12_tried (fun v μ2 => v = some (vI (trA I b t)) ∧ TrZ m μ μ2) 0 0 151 [some (vP (some m)), some (vI b), some (vI t), some (vI (cB I b (rwT I b))), l4, l5] [] μ := by
  have o0 := hM.o
  have r45 := hM.r45
  have a45 := hM.a45
  have hcb := cB_bd I b (rwT I b)
  have hrt : ((rwT I b : Nat) : Int) ≤ 117649 := by
    have hle := TT_le (L := I.1.2.1) (b := b) (by omega) 6
    have h76 : (7 : Int) ^ 6 = 117649 := by decide
    unfold rwT
    omega
  have eT : trA I b t = pI (t = 0) (cB I b (rwT I b)) (pI (cB I b (rwT I b) = 0) (-100000) (fF I b (rwT I b) (t - 1))) := by rw [trA, pI_t ⟨h0, hb3, ht⟩]
  refine g_iload_n (j := 2) rfl dX12_tried_151 ?_
  refine g_if_ne (tgt := 159) dX12_tried_152 (by decide) (by omega) (fun h152 => ?_) (fun h152 => ?_)
  · refine g_iload_n (j := 3) rfl dX12_tried_159 ?_
    refine g_if_ne (tgt := 169) dX12_tried_160 (by decide) (by omega) (fun h160 => ?_) (fun h160 => ?_)
    · refine g_aload_n (j := 0) rfl dX12_tried_169 ?_
      refine g_getR dX12_tried_170 flX12_78 rfl (by assumption) (kz := 45) rfl (by assumption) ?_
      refine g_iload_n (j := 2) rfl dX12_tried_173 ?_
      refine g_iconst dX12_tried_174 ?_
      refine g_isub dX12_tried_175 ?_
      refine g_iald dX12_tried_176 (by assumption) (by omega) (by omega) ?_
      exact G.retI dX12_tried_177 rfl ⟨by rw [eT, pI_f h152, pI_f h160, hF h160 (t - 1) (by omega) (by omega)], FrZ.rf⟩
    · refine g_ldcw dX12_tried_163 kcX12_321 (z := -100000) rfl ?_
      refine g_goto (tgt := 177) (by decide) dX12_tried_166 ?_
      exact G.retI dX12_tried_177 rfl ⟨by rw [eT, pI_f h152, pI_t h160], FrZ.rf⟩
  · refine g_iload_n (j := 3) rfl dX12_tried_155 ?_
    refine g_goto (tgt := 177) (by decide) dX12_tried_156 ?_
    exact G.retI dX12_tried_177 rfl ⟨by rw [eT, pI_t h152], FrZ.rf⟩
theorem l_tr97 {w : WC} {d m : Nat} {V : Int → Int} {b t n mo : Int} {Q : Option AV → Mem → Prop} : ∀ (r : Nat) (k : Int) (μ : Mem), k + (r : Int) = 6 → 0 ≤ k → MoS w μ m → (∀ i, 0 ≤ i → i ≤ 5 → mI μ (m + 15) i = V i) → (∀ i, 0 ≤ i → i < k → mI μ (m + 17) i = V i) → (∀ μ2, MoS w μ2 m → FrZ m (fun a => a = m + 17) (fun _ => False) μ μ2 → (∀ i, 0 ≤ i → i ≤ 5 → mI μ2 (m + 17) i = V i) → G w d mX12_tried Q 0 0 124 [some (vP (some m)), some (vI b), some (vI t), some (vI n), some (vI mo), some (vI 6)] [] μ2) → G w d mX12_tried Q 0 0 97 [some (vP (some m)), some (vI b), some (vI t), some (vI n), some (vI mo), some (vI k)] [] μ := by
  intro r
  induction r with
  | zero =>
    intro k μ hr h0 hM hV hD kk
    refine g_iload (i := 5) rfl dX12_tried_97 ?_
    refine g_bipush dX12_tried_99 (by omega) ?_
    refine g_icmp_ge (tgt := 124) dX12_tried_101 (by decide) (by omega) (by omega) (fun h101 => ?_) (fun h101 => ?_)
    · have ek : k = 6 := by omega
      subst ek
      exact kk μ hM FrZ.rf (fun j z1 z2 => hD j z1 (by omega))
    · omega
  | succ r ih =>
    intro k μ hr h0 hM hV hD kk
    have o0 := hM.o
    have r42 := hM.r42
    have a42 := hM.a42
    have r45 := hM.r45
    have a45 := hM.a45
    refine g_iload (i := 5) rfl dX12_tried_97 ?_
    refine g_bipush dX12_tried_99 (by omega) ?_
    refine g_icmp_ge (tgt := 124) dX12_tried_101 (by decide) (by omega) (by omega) (fun h101 => ?_) (fun h101 => ?_)
    · omega
    · refine g_aload_n (j := 0) rfl dX12_tried_104 ?_
      refine g_getR dX12_tried_105 flX12_78 rfl (by assumption) (kz := 45) rfl (by assumption) ?_
      refine g_iload (i := 5) rfl dX12_tried_108 ?_
      refine g_aload_n (j := 0) rfl dX12_tried_110 ?_
      refine g_getR dX12_tried_111 flX12_72 rfl (by assumption) (kz := 42) rfl (by assumption) ?_
      refine g_iload (i := 5) rfl dX12_tried_114 ?_
      refine g_iald dX12_tried_116 (by assumption) (by omega) (by omega) ?_
      rw [hV k (by omega) (by omega)]
      refine g_iast dX12_tried_117 (by assumption) (by omega) (by omega) ?_
      refine g_iinc (i := 5) dX12_tried_118 rfl (by decide) rfl ls5 ?_
      refine g_goto (tgt := 97) (by decide) dX12_tried_121 ?_
      have hf : FrZ m (fun a => a = m + 17) (fun _ => False) μ (sI μ (m + 17) k (V k)) := ⟨Fr.sI (Or.inr rfl), fun j _ => by rw [mI_sI, if_neg (by omega)]⟩
      refine ih (k + 1) _ (by omega) (by omega) (FrZ.Mo hf hM) (fun i z1 z2 => ?_) (fun i z1 z2 => ?_) (fun μ2 g1 g2 g3 => kk μ2 g1 (FrZ.tr hf g2) g3)
      · rw [mI_sI, if_neg (by omega)]
        exact hV i z1 z2
      · rw [mI_sI]
        by_cases z : i = k
        · rw [if_pos ⟨rfl, z⟩, z]
        · rw [if_neg (by omega)]
          exact hD i z1 (by omega)
theorem l_tr37 {w : WC} {d m : Nat} {I : IdT} {b t : Int} {Q : Option AV → Mem → Prop} (hL : 0 ≤ I.1.2.1 ∧ I.1.2.1 < 64) : ∀ (r l : Nat) (μ : Mem), l + r = 6 → MoS w μ m → mI μ m 39 = I.1.2.1 → (∀ i, 0 ≤ i → i < (l : Int) → mI μ (m + 15) i = itV I.1.2.1 b 0 i) → (∀ μ2, MoS w μ2 m → LtF m μ μ2 → (∀ i, 0 ≤ i → i ≤ 5 → mI μ2 (m + 15) i = itV I.1.2.1 b 0 i) → G w d mX12_tried Q 0 0 73 [some (vP (some m)), some (vI b), some (vI t), some (vI 6), none, none] [] μ2) → G w d mX12_tried Q 0 0 37 [some (vP (some m)), some (vI b), some (vI t), some (vI (l : Int)), none, none] [] μ := by
  intro r
  induction r with
  | zero =>
    intro l μ hr hM e39 hV kk
    refine g_iload_n (j := 3) rfl dX12_tried_37 ?_
    refine g_bipush dX12_tried_38 (by omega) ?_
    refine g_icmp_ge (tgt := 73) dX12_tried_40 (by decide) (by omega) (by omega) (fun h40 => ?_) (fun h40 => ?_)
    · have el : l = 6 := by omega
      subst el
      exact kk μ hM FrZ.rf (fun i z1 z2 => hV i z1 (by omega))
    · omega
  | succ r ih =>
    intro l μ hr hM e39 hV kk
    have o0 := hM.o
    have r42 := hM.r42
    have a42 := hM.a42
    refine g_iload_n (j := 3) rfl dX12_tried_37 ?_
    refine g_bipush dX12_tried_38 (by omega) ?_
    refine g_icmp_ge (tgt := 73) dX12_tried_40 (by decide) (by omega) (by omega) (fun h40 => ?_) (fun h40 => ?_)
    · omega
    · refine g_aload_n (j := 0) rfl dX12_tried_43 ?_
      refine g_getR dX12_tried_44 flX12_72 rfl (by assumption) (kz := 42) rfl (by assumption) ?_
      refine g_iload_n (j := 3) rfl dX12_tried_47 ?_
      refine g_aload_n (j := 0) rfl dX12_tried_48 ?_
      refine g_getI dX12_tried_49 flX12_373 rfl (by assumption) (kz := 39) rfl ?_
      rw [e39]
      refine g_iload_n (j := 3) rfl dX12_tried_52 ?_
      refine g_ishr dX12_tried_53 ?_
      refine g_iconst dX12_tried_54 ?_
      refine g_iand dX12_tried_55 ?_
      rw [show (iv (iv I.1.2.1 >>> (iv (l : Int) &&& 31)).toInt &&& iv 1).toInt = usB I.1.2.1 (l : Int) from rfl]
      have hu := usB_01 (l := (l : Int)) hL (by omega)
      refine g_iconst dX12_tried_56 ?_
      refine g_icmp_ne (tgt := 65) dX12_tried_57 (by decide) (by omega) (by omega) (fun h57 => ?_) (fun h57 => ?_)
      · refine g_iconst dX12_tried_65 ?_
        refine g_iast dX12_tried_66 (by assumption) (by omega) (by omega) ?_
        refine g_iinc (i := 3) dX12_tried_67 rfl (by decide) rfl ls3 ?_
        refine g_goto (tgt := 37) (by decide) dX12_tried_70 ?_
        have hf : LtF m μ (sI μ (m + 15) (l : Int) 0) := ⟨Fr.sI (Or.inr rfl), fun j _ => by rw [mI_sI, if_neg (by omega)]⟩
        rw [show (l : Int) + 1 = ((l + 1 : Nat) : Int) by omega]
        refine ih (l + 1) _ (by omega) (FrZ.Mo hf hM) ((hf.2 39 (fun z => z)).trans e39) (fun i z1 z2 => ?_) (fun μ2 g1 g2 g3 => kk μ2 g1 (FrZ.tr hf g2) g3)
        rw [mI_sI]
        by_cases z : i = (l : Int)
        · rw [if_pos ⟨rfl, z⟩, z]
          exact (if_neg h57 : (if usB I.1.2.1 (l : Int) = 1 then -b else 0) = _).symm
        · rw [if_neg (fun q => z q.2)]
          exact hV i z1 (by omega)
      · refine g_iload_n (j := 1) rfl dX12_tried_60 ?_
        refine g_ineg dX12_tried_61 ?_
        refine g_goto (tgt := 66) (by decide) dX12_tried_62 ?_
        refine g_iast dX12_tried_66 (by assumption) (by omega) (by omega) ?_
        refine g_iinc (i := 3) dX12_tried_67 rfl (by decide) rfl ls3 ?_
        refine g_goto (tgt := 37) (by decide) dX12_tried_70 ?_
        have hf : LtF m μ (sI μ (m + 15) (l : Int) (-b)) := ⟨Fr.sI (Or.inr rfl), fun j _ => by rw [mI_sI, if_neg (by omega)]⟩
        rw [show (l : Int) + 1 = ((l + 1 : Nat) : Int) by omega]
        refine ih (l + 1) _ (by omega) (FrZ.Mo hf hM) ((hf.2 39 (fun z => z)).trans e39) (fun i z1 z2 => ?_) (fun μ2 g1 g2 g3 => kk μ2 g1 (FrZ.tr hf g2) g3)
        rw [mI_sI]
        by_cases z : i = (l : Int)
        · rw [if_pos ⟨rfl, z⟩, z]
          exact (if_pos h57 : (if usB I.1.2.1 (l : Int) = 1 then -b else 0) = _).symm
        · rw [if_neg (fun q => z q.2)]
          exact hV i z1 (by omega)
