/-! THE CLASS: the rows of a box -/
theorem c_isUsed (w : WC) (d : Nat) (μ : Mem) {y : Nat} {L l : Int} (o0 : IsO w μ y 3) (e16 : mI μ y 16 = L) (hL : 0 ≤ L ∧ L < 64) (hl : 0 ≤ l ∧ l ≤ 5) : Con w d mX3_isUsed 0 0 [vP (some y), vI l] μ (fun v μ2 => v = some (vI (bI (usB L l = 1))) ∧ μ2 = μ) := by
  have hu := usB_01 hL hl
  refine Con.of (by decide) (Nat.le_of_ble_eq_true rfl) rfl ?_
  refine g_aload_n (j := 0) rfl dX3_isUsed_0 ?_
  refine g_getI dX3_isUsed_1 flX3_63 rfl (by assumption) (kz := 16) rfl ?_
  rw [e16]
  refine g_iload_n (j := 1) rfl dX3_isUsed_4 ?_
  refine g_ishr dX3_isUsed_5 ?_
  refine g_iconst dX3_isUsed_6 ?_
  refine g_iand dX3_isUsed_7 ?_
  rw [show (iv (iv L >>> (iv l &&& 31)).toInt &&& iv 1).toInt = usB L l from rfl]
  refine g_iconst dX3_isUsed_8 ?_
  refine g_icmp_ne (tgt := 16) dX3_isUsed_9 (by decide) (by omega) (by omega) (fun h9 => ?_) (fun h9 => ?_)
  · refine g_iconst dX3_isUsed_16 ?_
    first
    | exact G.retB dX3_isUsed_17 rfl (eq_bI (Or.inl ⟨rfl, by omega⟩)) ⟨rfl, rfl⟩
    | exact G.retB dX3_isUsed_17 rfl (eq_bI (Or.inr ⟨rfl, by omega⟩)) ⟨rfl, rfl⟩
  · refine g_iconst dX3_isUsed_12 ?_
    refine g_goto (tgt := 17) (by decide) dX3_isUsed_13 ?_
    first
    | exact G.retB dX3_isUsed_17 rfl (eq_bI (Or.inl ⟨rfl, by omega⟩)) ⟨rfl, rfl⟩
    | exact G.retB dX3_isUsed_17 rfl (eq_bI (Or.inr ⟨rfl, by omega⟩)) ⟨rfl, rfl⟩
theorem l_stepRow {w : WC} {d y : Nat} {L b : Int} (hL : 0 ≤ L ∧ L < 64) (hb3 : 0 ≤ b ∧ b ≤ 3) : ∀ (l : Nat) (V : Int → Int) (c : Int) (μ : Mem), l ≤ 6 → IdO w μ y → mI μ y 16 = L → (∀ i, 0 ≤ i → i ≤ 5 → mI μ (y + 9) i = V i) → hbV b V → G w (d + 1) mX3_stepRow (fun v μ2 => v = some (vI (nxM L b l V c)) ∧ (∀ i, 0 ≤ i → i ≤ 5 → mI μ2 (y + 9) i = nxW L b l V i) ∧ Fr (fun a => a = y + 9) (fun _ _ => False) μ μ2) 0 0 4 [some (vP (some y)), some (vI b), some (vI c), some (vI ((l : Int) - 1))] [] μ := by
  intro l
  induction l with
  | zero =>
    intro V c μ hl hI e16 hV hb
    refine g_iload_n (j := 3) rfl dX3_stepRow_4 ?_
    refine g_if_lt (tgt := 58) dX3_stepRow_5 (by decide) (by omega) (fun h5 => ?_) (fun h5 => ?_)
    · refine g_iload_n (j := 2) rfl dX3_stepRow_58 ?_
      exact G.retI dX3_stepRow_59 rfl ⟨rfl, hV, Fr.rf⟩
    · omega
  | succ l ih =>
    intro V c μ hl hI e16 hV hb
    have o0 := hI.1
    have r8 := hI.r8
    have a8 := hI.a8
    rw [show ((l + 1 : Nat) : Int) - 1 = (l : Int) by omega]
    refine g_iload_n (j := 3) rfl dX3_stepRow_4 ?_
    refine g_if_lt (tgt := 58) dX3_stepRow_5 (by decide) (by omega) (fun h5 => ?_) (fun h5 => ?_)
    · omega
    · refine g_aload_n (j := 0) rfl dX3_stepRow_8 ?_
      refine g_iload_n (j := 3) rfl dX3_stepRow_9 ?_
      refine g_callV dX3_stepRow_10 mlX3_91 mvX3_isUsed (ci := 3) ⟨by decide, rfl⟩ (by assumption) (c_isUsed w d μ o0 e16 hL (l := (l : Int)) (by omega)) sv1 rfl (by omega) (Nat.le_of_ble_eq_true rfl) (Nat.le_refl _) (Nat.le_refl _) (fun v μ2 hR => ?_)
      obtain ⟨rfl, hm⟩ := hR
      replace hm := hm.symm
      subst hm
      refine g_ifb_eq (tgt := 52) dX3_stepRow_13 (by decide)  (fun h13 => ?_) (fun h13 => ?_)
      · refine g_iinc (i := 3) dX3_stepRow_52 rfl (by decide) rfl ls3 ?_
        refine g_goto (tgt := 4) (by decide) dX3_stepRow_55 ?_
        rw [show nxM L b (l + 1) V c = nxM L b l V c from by rw [nxM, if_neg h13], show nxW L b (l + 1) V = nxW L b l V from by rw [nxW, if_neg h13]]
        rw [show (l : Int) + -1 = (l : Int) - 1 by omega]
        exact ih V c μ (by omega) hI e16 hV hb
      · refine g_iload_n (j := 2) rfl dX3_stepRow_16 ?_
        refine g_iconst dX3_stepRow_17 ?_
        refine g_iload_n (j := 3) rfl dX3_stepRow_18 ?_
        refine g_ishl dX3_stepRow_19 ?_
        refine g_ior dX3_stepRow_20 ?_
        refine g_istore_n (j := 2) dX3_stepRow_21 (by decide) rfl ls2 ?_
        refine g_aload_n (j := 0) rfl dX3_stepRow_22 ?_
        refine g_getR dX3_stepRow_23 flX3_38 rfl (by assumption) (kz := 8) rfl (by assumption) ?_
        refine g_iload_n (j := 3) rfl dX3_stepRow_26 ?_
        refine g_iald dX3_stepRow_27 (by assumption) (by omega) (by omega) ?_
        rw [hV (l : Int) (by omega) (by omega)]
        have hvb := hb (l : Int) (by omega) (by omega)
        refine g_iload_n (j := 1) rfl dX3_stepRow_28 ?_
        refine g_icmp_ge (tgt := 44) dX3_stepRow_29 (by decide) (by omega) (by omega) (fun h29 => ?_) (fun h29 => ?_)
        · refine g_aload_n (j := 0) rfl dX3_stepRow_44 ?_
          refine g_getR dX3_stepRow_45 flX3_38 rfl (by assumption) (kz := 8) rfl (by assumption) ?_
          refine g_iload_n (j := 3) rfl dX3_stepRow_48 ?_
          refine g_iload_n (j := 1) rfl dX3_stepRow_49 ?_
          refine g_ineg dX3_stepRow_50 ?_
          refine g_iast dX3_stepRow_51 (by assumption) (by omega) (by omega) ?_
          refine g_iinc (i := 3) dX3_stepRow_52 rfl (by decide) rfl ls3 ?_
          refine g_goto (tgt := 4) (by decide) dX3_stepRow_55 ?_
          have hnb : ¬ V (l : Int) < b := by omega
          rw [show nxM L b (l + 1) V c = nxM L b l (up V (l : Int) (-b)) (orB c (shB (l : Int))) from by rw [nxM, if_pos h13, if_neg hnb], show nxW L b (l + 1) V = nxW L b l (up V (l : Int) (-b)) from by rw [nxW, if_pos h13, if_neg hnb]]
          have hf : Fr (fun a => a = y + 9) (fun _ _ => False) μ (sI μ (y + 9) (l : Int) (-b)) := Fr.sI rfl
          rw [show (l : Int) + -1 = (l : Int) - 1 by omega]
          refine G.post (fun v μ3 hq => ⟨hq.1, hq.2.1, hf.tr hq.2.2⟩) (ih (up V (l : Int) (-b)) (orB c (shB (l : Int))) _ (by omega) (hI.fr hf fun _ z => z) (by rw [mI_sI, if_neg (by omega)]; exact e16) (fun i z1 z2 => ?_) (hbV_up hb (by omega)))
          rw [mI_sI]
          by_cases z : i = (l : Int)
          · rw [if_pos ⟨rfl, z⟩, z, up_e]
          · rw [if_neg (fun q => z q.2), up_n z]
            exact hV i z1 z2
        · refine g_aload_n (j := 0) rfl dX3_stepRow_32 ?_
          refine g_getR dX3_stepRow_33 flX3_38 rfl (by assumption) (kz := 8) rfl (by assumption) ?_
          refine g_iload_n (j := 3) rfl dX3_stepRow_36 ?_
          refine g_dup2 rfl rfl dX3_stepRow_37 ?_
          refine g_iald dX3_stepRow_38 (by assumption) (by omega) (by omega) ?_
          rw [hV (l : Int) (by omega) (by omega)]
          refine g_iconst dX3_stepRow_39 ?_
          refine g_iadd dX3_stepRow_40 ?_
          refine g_iast dX3_stepRow_41 (by assumption) (by omega) (by omega) ?_
          refine g_iload_n (j := 2) rfl dX3_stepRow_42 ?_
          rw [show nxM L b (l + 1) V c = orB c (shB (l : Int)) from by rw [nxM, if_pos h13, if_pos (by omega)], show nxW L b (l + 1) V = up V (l : Int) (V (l : Int) + 1) from by rw [nxW, if_pos h13, if_pos (by omega)]]
          have hf : Fr (fun a => a = y + 9) (fun _ _ => False) μ (sI μ (y + 9) (l : Int) (V (l : Int) + 1)) := Fr.sI rfl
          refine G.retI dX3_stepRow_43 rfl ⟨rfl, fun i z1 z2 => ?_, hf⟩
          rw [mI_sI]
          by_cases z : i = (l : Int)
          · rw [if_pos ⟨rfl, z⟩, z, up_e]
          · rw [if_neg (fun q => z q.2), up_n z]
            exact hV i z1 z2
theorem c_stepRow (w : WC) (d : Nat) (μ : Mem) {y : Nat} {L b : Int} {V : Int → Int} (hL : 0 ≤ L ∧ L < 64) (hb3 : 0 ≤ b ∧ b ≤ 3) (hI : IdO w μ y) (e16 : mI μ y 16 = L) (hV : ∀ i, 0 ≤ i → i ≤ 5 → mI μ (y + 9) i = V i) (hb : hbV b V) : Con w (d + 1) mX3_stepRow 0 0 [vP (some y), vI b] μ (fun v μ2 => v = some (vI (nxM L b 6 V 0)) ∧ (∀ i, 0 ≤ i → i ≤ 5 → mI μ2 (y + 9) i = nxW L b 6 V i) ∧ Fr (fun a => a = y + 9) (fun _ _ => False) μ μ2) := by
  refine Con.of (by decide) (Nat.le_of_ble_eq_true rfl) rfl ?_
  refine g_iconst dX3_stepRow_0 ?_
  refine g_istore_n (j := 2) dX3_stepRow_1 (by decide) rfl ls2 ?_
  refine g_iconst dX3_stepRow_2 ?_
  refine g_istore_n (j := 3) dX3_stepRow_3 (by decide) rfl ls3 ?_
  exact l_stepRow (d := d) hL hb3 6 V 0 μ (Nat.le_refl _) hI e16 hV hb
def NtF (y : Nat) (b : Int) (μ μ2 : Mem) : Prop := Fr (fun a => y + 10 ≤ a ∧ a ≤ y + 12) (fun _ _ => False) μ μ2 ∧ (∀ j, ¬ j = b → mI μ2 (y + 10) j = mI μ (y + 10) j ∧ mI μ2 (y + 12) j = mI μ (y + 12) j) ∧ ∀ j, j < b * 6 ∨ b * 6 + 5 < j → mI μ2 (y + 11) j = mI μ (y + 11) j
theorem NtF.tr {y : Nat} {b : Int} {μ μ2 μ3 : Mem} (h : NtF y b μ μ2) (h2 : NtF y b μ2 μ3) : NtF y b μ μ3 := ⟨h.1.tr h2.1, fun j z => ⟨(h2.2.1 j z).1.trans (h.2.1 j z).1, (h2.2.1 j z).2.trans (h.2.1 j z).2⟩, fun j z => (h2.2.2 j z).trans (h.2.2 j z)⟩
theorem NtF.s10 {y : Nat} {b v : Int} {μ : Mem} : NtF y b μ (sI μ (y + 10) b v) := ⟨Fr.sI (by omega), fun j z => ⟨by rw [mI_sI, if_neg (fun q => z q.2)], by rw [mI_sI, if_neg (by omega)]⟩, fun j z => by rw [mI_sI, if_neg (by omega)]⟩
theorem NtF.s12 {y : Nat} {b v : Int} {μ : Mem} : NtF y b μ (sI μ (y + 12) b v) := ⟨Fr.sI (by omega), fun j z => ⟨by rw [mI_sI, if_neg (by omega)], by rw [mI_sI, if_neg (fun q => z q.2)]⟩, fun j z => by rw [mI_sI, if_neg (by omega)]⟩
theorem NtF.s11 {y : Nat} {b v l : Int} {μ : Mem} (hl : 0 ≤ l ∧ l ≤ 5) : NtF y b μ (sI μ (y + 11) (b * 6 + l) v) := ⟨Fr.sI (by omega), fun j z => ⟨by rw [mI_sI, if_neg (by omega)], by rw [mI_sI, if_neg (by omega)]⟩, fun j z => by rw [mI_sI, if_neg (by omega)]⟩
theorem l_note56 {w : WC} {d y : Nat} {b : Int} {μ : Mem} {l2 l3 : Option AV} (hI : IdO w μ y) (hb : 0 ≤ b ∧ b < 4) : G w d mX3_noteBroken (fun v μ2 => v = none ∧ mI μ2 (y + 10) b = mI μ (y + 10) b + 1 ∧ mI μ2 (y + 12) b = mI μ (y + 12) b ∧ (∀ l, 0 ≤ l → l ≤ 5 → mI μ2 (y + 11) (b * 6 + l) = mI μ (y + 11) (b * 6 + l)) ∧ NtF y b μ μ2) 0 0 56 [some (vP (some y)), some (vI b), l2, l3] [] μ := by
  have o0 := hI.1
  have r9 := hI.r9
  have a9 := hI.a9
  refine g_aload_n (j := 0) rfl dX3_noteBroken_56 ?_
  refine g_getR dX3_noteBroken_57 flX3_41 rfl (by assumption) (kz := 9) rfl (by assumption) ?_
  refine g_iload_n (j := 1) rfl dX3_noteBroken_60 ?_
  refine g_dup2 rfl rfl dX3_noteBroken_61 ?_
  refine g_iald dX3_noteBroken_62 (by assumption) (by omega) (by omega) ?_
  refine g_iconst dX3_noteBroken_63 ?_
  refine g_iadd dX3_noteBroken_64 ?_
  refine g_iast dX3_noteBroken_65 (by assumption) (by omega) (by omega) ?_
  refine G.retV dX3_noteBroken_66 rfl ⟨rfl, by rw [mI_sI, if_pos ⟨rfl, rfl⟩], by rw [mI_sI, if_neg (by omega)], fun l z1 z2 => ?_, NtF.s10⟩
  rw [mI_sI, if_neg (by omega)]
theorem l_note27 {w : WC} {d y : Nat} {b : Int} {V : Int → Int} {l2 : Int} (hb : 0 ≤ b ∧ b < 4) : ∀ (r : Nat) (k : Int) (μ : Mem), k + (r : Int) = 6 → 0 ≤ k → IdO w μ y → (∀ i, 0 ≤ i → i ≤ 5 → mI μ (y + 9) i = V i) → (∀ i, 0 ≤ i → i < k → mI μ (y + 11) (b * 6 + i) = V i) → G w d mX3_noteBroken (fun v μ2 => v = none ∧ mI μ2 (y + 10) b = mI μ (y + 10) b + 1 ∧ mI μ2 (y + 12) b = mI μ (y + 12) b ∧ (∀ l, 0 ≤ l → l ≤ 5 → mI μ2 (y + 11) (b * 6 + l) = V l) ∧ NtF y b μ μ2) 0 0 27 [some (vP (some y)), some (vI b), some (vI l2), some (vI k)] [] μ := by
  intro r
  induction r with
  | zero =>
    intro k μ hr h0 hI hV hD
    refine g_iload_n (j := 3) rfl dX3_noteBroken_27 ?_
    refine g_bipush dX3_noteBroken_28 (by omega) ?_
    refine g_icmp_ge (tgt := 56) dX3_noteBroken_30 (by decide) (by omega) (by omega) (fun h30 => ?_) (fun h30 => ?_)
    · refine G.post (fun v μ3 hq => ⟨hq.1, hq.2.1, hq.2.2.1, fun l z1 z2 => (hq.2.2.2.1 l z1 z2).trans (hD l z1 (by omega)), hq.2.2.2.2⟩) (l_note56 hI hb)
    · omega
  | succ r ih =>
    intro k μ hr h0 hI hV hD
    have o0 := hI.1
    have r8 := hI.r8
    have a8 := hI.a8
    have r10 := hI.r10
    have a10 := hI.a10
    refine g_iload_n (j := 3) rfl dX3_noteBroken_27 ?_
    refine g_bipush dX3_noteBroken_28 (by omega) ?_
    refine g_icmp_ge (tgt := 56) dX3_noteBroken_30 (by decide) (by omega) (by omega) (fun h30 => ?_) (fun h30 => ?_)
    · omega
    · refine g_aload_n (j := 0) rfl dX3_noteBroken_33 ?_
      refine g_getR dX3_noteBroken_34 flX3_44 rfl (by assumption) (kz := 10) rfl (by assumption) ?_
      refine g_iload_n (j := 1) rfl dX3_noteBroken_37 ?_
      refine g_bipush dX3_noteBroken_38 (by omega) ?_
      refine g_imul dX3_noteBroken_40 ?_
      refine g_iload_n (j := 3) rfl dX3_noteBroken_41 ?_
      refine g_iadd dX3_noteBroken_42 ?_
      refine g_aload_n (j := 0) rfl dX3_noteBroken_43 ?_
      refine g_getR dX3_noteBroken_44 flX3_38 rfl (by assumption) (kz := 8) rfl (by assumption) ?_
      refine g_iload_n (j := 3) rfl dX3_noteBroken_47 ?_
      refine g_iald dX3_noteBroken_48 (by assumption) (by omega) (by omega) ?_
      rw [hV k (by omega) (by omega)]
      refine g_iast dX3_noteBroken_49 (by assumption) (by omega) (by omega) ?_
      refine g_iinc (i := 3) dX3_noteBroken_50 rfl (by decide) rfl ls3 ?_
      refine g_goto (tgt := 27) (by decide) dX3_noteBroken_53 ?_
      have hf : NtF y b μ (sI μ (y + 11) (b * 6 + k) (V k)) := NtF.s11 (by omega)
      refine G.post (fun v μ3 hq => ⟨hq.1, hq.2.1.trans (by rw [mI_sI, if_neg (by omega)]), hq.2.2.1.trans (by rw [mI_sI, if_neg (by omega)]), hq.2.2.2.1, hf.tr hq.2.2.2.2⟩) (ih (k + 1) _ (by omega) (by omega) (hI.fr hf.1 fun _ z => z) (fun i z1 z2 => ?_) (fun i z1 z2 => ?_))
      · rw [mI_sI, if_neg (by omega)]
        exact hV i z1 z2
      · rw [mI_sI]
        by_cases z : i = k
        · rw [if_pos ⟨rfl, by omega⟩, z]
        · rw [if_neg (by omega)]
          exact hD i z1 (by omega)
theorem c_noteBroken (w : WC) (d : Nat) (μ : Mem) {y : Nat} {b vd : Int} {V : Int → Int} (hI : IdO w μ y) (hb : 0 ≤ b ∧ b < 4) (hvd : 0 ≤ vd ∧ vd ≤ 2) (h10 : i32 (mI μ (y + 10) b)) (hV : ∀ i, 0 ≤ i → i ≤ 5 → mI μ (y + 9) i = V i) : Con w d mX3_noteBroken 0 0 [vP (some y), vI b, vI vd] μ (fun v μ2 => v = none ∧ mI μ2 (y + 10) b = mI μ (y + 10) b + 1 ∧ (mI μ (y + 10) b = 0 → mI μ2 (y + 12) b = bI (vd = 2) ∧ ∀ l, 0 ≤ l → l ≤ 5 → mI μ2 (y + 11) (b * 6 + l) = V l) ∧ (¬ mI μ (y + 10) b = 0 → mI μ2 (y + 12) b = mI μ (y + 12) b ∧ ∀ l, 0 ≤ l → l ≤ 5 → mI μ2 (y + 11) (b * 6 + l) = mI μ (y + 11) (b * 6 + l)) ∧ NtF y b μ μ2) := by
  have o0 := hI.1
  have r9 := hI.r9
  have a9 := hI.a9
  have r11 := hI.r11
  have a11 := hI.a11
  refine Con.of (by decide) (Nat.le_of_ble_eq_true rfl) rfl ?_
  refine g_aload_n (j := 0) rfl dX3_noteBroken_0 ?_
  refine g_getR dX3_noteBroken_1 flX3_41 rfl (by assumption) (kz := 9) rfl (by assumption) ?_
  refine g_iload_n (j := 1) rfl dX3_noteBroken_4 ?_
  refine g_iald dX3_noteBroken_5 (by assumption) (by omega) (by omega) ?_
  refine g_if_ne (tgt := 56) dX3_noteBroken_6 (by decide) (by omega) (fun h6 => ?_) (fun h6 => ?_)
  · refine G.post (fun v μ3 hq => ⟨hq.1, hq.2.1, fun q => absurd q h6, fun _ => ⟨hq.2.2.1, hq.2.2.2.1⟩, hq.2.2.2.2⟩) (l_note56 hI hb)
  · refine g_aload_n (j := 0) rfl dX3_noteBroken_9 ?_
    refine g_getR dX3_noteBroken_10 flX3_47 rfl (by assumption) (kz := 11) rfl (by assumption) ?_
    refine g_iload_n (j := 1) rfl dX3_noteBroken_13 ?_
    refine g_iload_n (j := 2) rfl dX3_noteBroken_14 ?_
    refine g_iconst dX3_noteBroken_15 ?_
    refine g_icmp_ne (tgt := 23) dX3_noteBroken_16 (by decide) (by omega) (by omega) (fun h16 => ?_) (fun h16 => ?_)
    · refine g_iconst dX3_noteBroken_23 ?_
      refine g_zast dX3_noteBroken_24 (by assumption) (by omega) (by omega) (by omega) ?_
      refine g_iconst dX3_noteBroken_25 ?_
      refine g_istore_n (j := 3) dX3_noteBroken_26 (by decide) rfl ls3 ?_
      refine G.post (fun v μ3 hq => ⟨hq.1, hq.2.1.trans (by rw [mI_sI, if_neg (by omega)]), fun _ => ⟨hq.2.2.1.trans (by rw [mI_sI, if_pos ⟨rfl, rfl⟩]; exact (bI_0 h16).symm), hq.2.2.2.1⟩, fun q => absurd h6 q, NtF.s12.tr hq.2.2.2.2⟩) (l_note27 hb 6 0 (sI μ (y + 12) b 0) (by omega) (by omega) (hI.fr (Fr.sI (P := fun a => a = y + 12) (K := fun _ _ => False) rfl) fun _ z => z) (fun i z1 z2 => by rw [mI_sI, if_neg (by omega)]; exact hV i z1 z2) (fun i z1 z2 => by omega))
    · refine g_iconst dX3_noteBroken_19 ?_
      refine g_goto (tgt := 24) (by decide) dX3_noteBroken_20 ?_
      refine g_zast dX3_noteBroken_24 (by assumption) (by omega) (by omega) (by omega) ?_
      refine g_iconst dX3_noteBroken_25 ?_
      refine g_istore_n (j := 3) dX3_noteBroken_26 (by decide) rfl ls3 ?_
      refine G.post (fun v μ3 hq => ⟨hq.1, hq.2.1.trans (by rw [mI_sI, if_neg (by omega)]), fun _ => ⟨hq.2.2.1.trans (by rw [mI_sI, if_pos ⟨rfl, rfl⟩]; exact (bI_1 (by omega)).symm), hq.2.2.2.1⟩, fun q => absurd h6 q, NtF.s12.tr hq.2.2.2.2⟩) (l_note27 hb 6 0 (sI μ (y + 12) b 1) (by omega) (by omega) (hI.fr (Fr.sI (P := fun a => a = y + 12) (K := fun _ _ => False) rfl) fun _ z => z) (fun i z1 z2 => by rw [mI_sI, if_neg (by omega)]; exact hV i z1 z2) (fun i z1 z2 => by omega))
