/-! THE MODEL: identity -/
def P15 (m a : Nat) : Prop := a = m + 12 ∨ a = m + 13 ∨ a = m + 14
def Lo2 (m : Nat) (μ μ2 : Mem) : Prop := ∀ j, j < 2 → mI μ2 (m + 14) j = mI μ (m + 14) j
/-- all that the reading of an identity leaves -/
def IrF (m : Nat) (μ μ2 : Mem) : Prop := FrZ m (P15 m) JIe μ μ2 ∧ Lo9 m μ μ2 ∧ Lo2 m μ μ2
def IrE (w : WC) (m : Nat) (F : Int → List Tm) (f : Int → Int) (μ μ2 : Mem) : Prop := MA w μ2 m F ∧ BaM μ2 m f ∧ IrF m μ μ2
section IR
variable {w : WC} {m : Nat} {F : Int → List Tm} {n : Int} {B : Int → Int} {s : IdS} {μ μ2 μ3 : Mem}
theorem IrF.tr (h : IrF m μ μ2) (h2 : IrF m μ2 μ3) : IrF m μ μ3 := ⟨FrZ.tr h.1 h2.1, h.2.1.tr h2.2.1, fun j z => (h2.2.2 j z).trans (h.2.2 j z)⟩
theorem P13F {μ μ2 : Mem} {J : Int → Prop} (h : FrZ m (P13 m) J μ μ2) (hM : MoS w μ m) : ∀ j, mI μ2 (m + 14) j = mI μ (m + 14) j := h.1.I hM.a35.2.1 (by unfold P13; omega)
theorem ImG.r (h : ImG m μ μ2) (hM : MoS w μ m) : IrF m μ μ2 := ⟨FrZ.mono h.1 (fun a z => by unfold P13 at z; unfold P15; omega) (fun j z => by unfold JI at z; unfold JIe Jz; omega), h.2, fun j _ => P13F h.1 hM j⟩
theorem ImE.r {f : Int → Int} (h : ImE w m F f μ μ2) (hM : MoS w μ m) : IrE w m F f μ μ2 := ⟨h.1, h.2.1, FrZ.mono h.2.2.1 (fun a z => by unfold P13 at z; unfold P15; omega) (fun _ z => z), h.2.2.2, fun j _ => P13F h.2.2.1 hM j⟩
theorem IrF.E {f : Int → Int} (h : IrF m μ μ2) (h2 : IrE w m F f μ2 μ3) : IrE w m F f μ μ3 := ⟨h2.1, h2.2.1, h.tr h2.2.2⟩
/-- where a side ends is noted -/
theorem ImK.sd {v k : Int} (h : ImK w μ m F n B s) (hk : 2 ≤ k) : ImK w (sI μ (m + 14) k v) m F n B s ∧ IrF m μ (sI μ (m + 14) k v) := by
  have hf : FrZ m (P15 m) (fun _ => False) μ (sI μ (m + 14) k v) := ⟨Fr.sI (Or.inr (Or.inr (Or.inr rfl))), fun j _ => by rw [mI_sI, if_neg (by omega)]⟩
  obtain ⟨q1, q2, ⟨q3, q4, q5⟩, q6, q7⟩ := h
  refine ⟨⟨q1.fr hf ⟨fun z => z, fun z => z, fun k z1 z2 z => z⟩ (by unfold P15; omega) rfl, FrZ.MA hf q2 (by unfold P15; omega) ⟨fun z => z, fun z => z⟩, ⟨(hf.2 36 (fun z => z)).trans q3, (hf.2 38 (fun z => z)).trans q4, (hf.2 40 (fun z => z)).trans q5⟩, fun j o hj => ?_, q7⟩, FrZ.mono hf (fun _ z => z) (fun _ z => z.elim), ⟨fun j _ => by rw [mI_sI, if_neg (by omega)], fun j _ => by rw [mI_sI, if_neg (by omega)]⟩, fun j z => by rw [mI_sI, if_neg (by omega)]⟩
  rw [mI_sI, if_neg (by omega), mI_sI, if_neg (by omega)]
  exact q6 j o hj
end IR
def IrP (w : WC) (m : Nat) (F : Int → List Tm) (n : Int) (B : Int → Int) (μ : Mem) (r : (FlF × Int) ⊕ (IdS × Nat)) (v : Option AV) (μ2 : Mem) : Prop := match r with
  | .inl e => v = some (vI 0) ∧ IrE w m F (fa4 e.1.1 (tP n B e.1.2.1) e.2 e.1.2.2) μ μ2
  | .inr s => v = some (vI 1) ∧ ImK w μ2 m F n B s.1 ∧ (mI μ2 (m + 14) 2 = (s.2 : Int) ∧ mI μ2 (m + 14) 3 = (s.1.2.2.2.length : Int)) ∧ IrF m μ μ2 ∧ ∀ j, 8 ≤ j → j ≤ 11 → mI μ2 m j = mI μ m j
theorem c_X12_readIdentity (w : WC) (d : Nat) (μ : Mem) {m : Nat} {F : Int → List Tm} {n : Int} {B : Int → Int} (h : ImK w μ m F n B (0, 0, 0, [])) (e18 : mI μ m 18 = 0) (e19 : mI μ m 19 = 0) : Con w (d + 33) mX12_readIdentity 0 0 [vP (some m)] μ (IrP w m F n B μ (idAll n B)) := by
  have o0 := h.1.1.o
  unfold idAll
  refine Con.of (by decide) (Nat.le_of_ble_eq_true rfl) rfl ?_
  refine g_aload_n (j := 0) rfl dX12_readIdentity_0 ?_
  refine g_callV dX12_readIdentity_1 mlX12_358 mvX12_readSum (ci := 12) ⟨by decide, rfl⟩ (by assumption) ((c_X12_lev w (fo := 0) 6 (op := 0) (by omega) (by omega)) μ (0, 0, 0, []) h e18 e19) sv0 rfl (by omega) (Nat.le_of_ble_eq_true rfl) (Nat.le_refl _) (Nat.le_refl _) (fun v μ1 hR => ?_)
  rcases hr : idLev n B 6 (0, 0, 0, []) with e | s1
  · rw [hr] at hR
    obtain ⟨rfl, hE⟩ := hR
    dsimp only
    refine g_if_ne (tgt := 9) dX12_readIdentity_4 (by decide) (by omega) (fun h4 => ?_) (fun h4 => ?_)
    · omega
    · refine g_iconst dX12_readIdentity_7 ?_
      exact G.retZ dX12_readIdentity_8 rfl (Or.inl rfl) ⟨rfl, hE.r h.1.1⟩
  · rw [hr] at hR
    obtain ⟨rfl, h1, ⟨e181, e191⟩, hg1⟩ := hR
    dsimp only
    refine g_if_ne (tgt := 9) dX12_readIdentity_4 (by decide) (by omega) (fun h4 => ?_) (fun h4 => ?_)
    · have o01 := h1.1.1.o
      have r351 := h1.1.1.r35
      have a351 := h1.1.1.a35
      have e361 := h1.2.2.1.1
      have hr01 := hg1.r h.1.1
      refine g_aload_n (j := 0) rfl dX12_readIdentity_9 ?_
      refine g_getR dX12_readIdentity_10 flX12_69 rfl (by assumption) (kz := 35) rfl (by assumption) ?_
      refine g_iconst dX12_readIdentity_13 ?_
      refine g_aload_n (j := 0) rfl dX12_readIdentity_14 ?_
      refine g_getI dX12_readIdentity_15 flX12_338 rfl (by assumption) (kz := 36) rfl ?_
      rw [e361]
      refine g_iast dX12_readIdentity_18 (by assumption) (by omega) (by omega) ?_
      obtain ⟨h2, hg2⟩ := h1.sd (v := (s1.2.2.2.length : Int)) (k := 2) (by omega)
      have hr02 := hr01.tr hg2
      have e182 : mI (sI μ1 (m + 14) 2 (s1.2.2.2.length : Int)) m 18 = 0 := by rw [mI_sI, if_neg (by omega)]; exact e181
      have e192 : mI (sI μ1 (m + 14) 2 (s1.2.2.2.length : Int)) m 19 = 0 := by rw [mI_sI, if_neg (by omega)]; exact e191
      have es2 : mI (sI μ1 (m + 14) 2 (s1.2.2.2.length : Int)) (m + 14) 2 = (s1.2.2.2.length : Int) := by rw [mI_sI, if_pos ⟨rfl, rfl⟩]
      have eb2 : ∀ j, 8 ≤ j → j ≤ 11 → mI (sI μ1 (m + 14) 2 (s1.2.2.2.length : Int)) m j = mI μ m j := fun j z1 z2 => by rw [mI_sI, if_neg (by omega)]; exact hg1.1.2 j (by unfold JI; omega)
      generalize sI μ1 (m + 14) 2 (s1.2.2.2.length : Int) = μ2 at *
      have o02 := h2.1.1.o
      refine g_aload_n (j := 0) rfl dX12_readIdentity_19 ?_
      refine g_bipush dX12_readIdentity_20 (by omega) ?_
      refine g_callV dX12_readIdentity_22 mlX12_253 mvX12_takesSign (ci := 12) ⟨by decide, rfl⟩ (by assumption) (c_takesSign w (d + 29) μ2 h2.1 (c := 61) (by omega) e182 e192) sv1 rfl (by omega) (Nat.le_of_ble_eq_true rfl) (Nat.le_refl _) (Nat.le_refl _) (fun v μ3 hR => ?_)
      rcases hR with ⟨hs, rfl, hS3, hr3⟩ | ⟨hs, rfl, hE⟩
      · refine g_if_ne (tgt := 30) dX12_readIdentity_25 (by decide) (by omega) (fun h25 => ?_) (fun h25 => ?_)
        · obtain ⟨h3, hg3⟩ := h2.rd hS3 hr3.T
          have o03 := h3.1.1.o
          have e193 := FrZ.rd18 hr3 (j := 19) (by unfold Jn; omega) e192
          have es3 := (P13F hg3.1 h2.1.1 2).trans es2
          refine g_aload_n (j := 0) rfl dX12_readIdentity_30 ?_
          refine g_iconst dX12_readIdentity_31 ?_
          refine g_putI dX12_readIdentity_32 fpX12_159 rfl rfl rfl (by assumption) (kz := 18) rfl ?_
          obtain ⟨h4, hg4⟩ := h3.inn (j := 18) (v := 1) (Or.inl rfl)
          have e184 : mI (sI μ3 m 18 1) m 18 = 1 := by rw [mI_sI, if_pos ⟨rfl, rfl⟩]
          have e194 : mI (sI μ3 m 18 1) m 19 = 0 := by rw [mI_sI, if_neg (by omega)]; exact e193
          have es4 := (P13F hg4.1 h3.1.1 2).trans es3
          have hg24 := hg3.tr hg4
          have hr04 := hr02.tr (hg24.r h2.1.1)
          have eb4 : ∀ j, 8 ≤ j → j ≤ 11 → mI (sI μ3 m 18 1) m j = mI μ m j := fun j z1 z2 => (hg24.1.2 j (by unfold JI; omega)).trans (eb2 j z1 z2)
          generalize sI μ3 m 18 1 = μ4 at *
          have o04 := h4.1.1.o
          refine g_aload_n (j := 0) rfl dX12_readIdentity_35 ?_
          refine g_callV dX12_readIdentity_36 mlX12_358 mvX12_readSum (ci := 12) ⟨by decide, rfl⟩ (by assumption) ((c_X12_lev w (fo := 1) 6 (op := 0) (by omega) (by omega)) μ4 (s1.1 + 1, s1.2) h4 e184 e194) sv0 rfl (by omega) (Nat.le_of_ble_eq_true rfl) (Nat.le_refl _) (Nat.le_refl _) (fun v μ5 hR => ?_)
          rcases hr2 : idLev n B 6 (s1.1 + 1, s1.2) with e | s5
          · rw [hr2] at hR
            obtain ⟨rfl, hE⟩ := hR
            refine g_if_ne (tgt := 44) dX12_readIdentity_39 (by decide) (by omega) (fun h39 => ?_) (fun h39 => ?_)
            · omega
            · refine g_iconst dX12_readIdentity_42 ?_
              refine G.retZ dX12_readIdentity_43 rfl (Or.inl rfl) ?_
              rw [pI_t hs]
              exact ⟨rfl, hr04.E (hE.r h4.1.1)⟩
          · rw [hr2] at hR
            obtain ⟨rfl, h5, ⟨e185, e195⟩, hg5⟩ := hR
            refine g_if_ne (tgt := 44) dX12_readIdentity_39 (by decide) (by omega) (fun h39 => ?_) (fun h39 => ?_)
            · have o05 := h5.1.1.o
              have r355 := h5.1.1.r35
              have a355 := h5.1.1.a35
              have e365 := h5.2.2.1.1
              have es5 := (P13F hg5.1 h4.1.1 2).trans es4
              have hr05 := hr04.tr (hg5.r h4.1.1)
              refine g_aload_n (j := 0) rfl dX12_readIdentity_44 ?_
              refine g_getR dX12_readIdentity_45 flX12_69 rfl (by assumption) (kz := 35) rfl (by assumption) ?_
              refine g_iconst dX12_readIdentity_48 ?_
              refine g_aload_n (j := 0) rfl dX12_readIdentity_49 ?_
              refine g_getI dX12_readIdentity_50 flX12_338 rfl (by assumption) (kz := 36) rfl ?_
              rw [e365]
              refine g_iast dX12_readIdentity_53 (by assumption) (by omega) (by omega) ?_
              obtain ⟨h6, hg6⟩ := h5.sd (v := (s5.2.2.2.length : Int)) (k := 3) (by omega)
              have hr06 := hr05.tr hg6
              have e186 : mI (sI μ5 (m + 14) 3 (s5.2.2.2.length : Int)) m 18 = 1 := by rw [mI_sI, if_neg (by omega)]; exact e185
              have e196 : mI (sI μ5 (m + 14) 3 (s5.2.2.2.length : Int)) m 19 = 0 := by rw [mI_sI, if_neg (by omega)]; exact e195
              have et6 : mI (sI μ5 (m + 14) 3 (s5.2.2.2.length : Int)) (m + 14) 3 = (s5.2.2.2.length : Int) := by rw [mI_sI, if_pos ⟨rfl, rfl⟩]
              have es6 : mI (sI μ5 (m + 14) 3 (s5.2.2.2.length : Int)) (m + 14) 2 = (s1.2.2.2.length : Int) := by rw [mI_sI, if_neg (by omega)]; exact es5
              have eb6 : ∀ j, 8 ≤ j → j ≤ 11 → mI (sI μ5 (m + 14) 3 (s5.2.2.2.length : Int)) m j = mI μ m j := fun j z1 z2 => by rw [mI_sI, if_neg (by omega)]; exact (hg5.1.2 j (by unfold JI; omega)).trans (eb4 j z1 z2)
              generalize sI μ5 (m + 14) 3 (s5.2.2.2.length : Int) = μ6 at *
              have o06 := h6.1.1.o
              have f126 := h6.1.2.2.1.2.2.1
              have hm2 := mS2_c n B (tP n B s5.1)
              refine g_aload_n (j := 0) rfl dX12_readIdentity_54 ?_
              refine g_getI dX12_readIdentity_55 flX12_142 rfl (by assumption) (kz := 12) rfl ?_
              rw [f126]
              refine g_if_eq (tgt := 69) dX12_readIdentity_58 (by decide) (by omega) (fun h58 => ?_) (fun h58 => ?_)
              · refine g_iconst dX12_readIdentity_69 ?_
                refine g_goto (tgt := 74) (by decide) dX12_readIdentity_70 ?_
                refine G.retZ dX12_readIdentity_74 rfl (Or.inr rfl) ?_
                rw [pI_t hs]
                dsimp only
                rw [pI_t (hm2.2.1.mp (by omega))]
                exact ⟨rfl, h6, ⟨es6, et6⟩, hr06, eb6⟩
              · refine g_aload_n (j := 0) rfl dX12_readIdentity_61 ?_
                refine g_iconst dX12_readIdentity_62 ?_
                refine g_callV dX12_readIdentity_63 mlX12_187 mvX12_fails (ci := 12) ⟨by decide, rfl⟩ (by assumption) (c_fails w (d + 32) μ6 h6.1 (k := 1) e186 e196) sv1 rfl (by omega) (Nat.le_of_ble_eq_true rfl) (Nat.le_refl _) (Nat.le_refl _) (fun v μ7 hR => ?_)
                obtain ⟨rfl, hE⟩ := hR
                refine g_if_eq (tgt := 73) dX12_readIdentity_66 (by decide) (by omega) (fun h66 => ?_) (fun h66 => ?_)
                · refine g_iconst dX12_readIdentity_73 ?_
                  refine G.retZ dX12_readIdentity_74 rfl (Or.inl rfl) ?_
                  rw [pI_t hs]
                  dsimp only
                  rw [pI_f (fun z => by have := hm2.2.1.mpr z; omega)]
                  exact ⟨rfl, hr06.E ((h6.er hE).r h6.1.1)⟩
                · omega
            · omega
        · omega
      · refine g_if_ne (tgt := 30) dX12_readIdentity_25 (by decide) (by omega) (fun h25 => ?_) (fun h25 => ?_)
        · omega
        · refine g_iconst dX12_readIdentity_28 ?_
          refine G.retZ dX12_readIdentity_29 rfl (Or.inl rfl) ?_
          rw [pI_f hs]
          exact ⟨rfl, hr02.E (ImE.r (h2.er hE) h2.1.1)⟩
    · omega
theorem l_cp12 {w : WC} {d m : Nat} {ops : List Op} {L : Int} (hL : 0 ≤ L ∧ L < 64) (hl : ops.length ≤ 180) {l1 : Int} : ∀ (r k : Nat) (μ : Mem), k + r = ops.length → MoS w μ m → mI μ m 36 = (ops.length : Int) → mI μ m 39 = L → OpM μ m 900 ops → OpM μ m 0 (ops.take k) → G w (d + 1) mX12_identity (fun v μ2 => v = some (vI (bcL L)) ∧ OpM μ2 m 0 ops ∧ FrZ m (P13 m) (fun _ => False) μ μ2) 0 0 87 [some (vP (some m)), some (vI l1), some (vI (k : Int))] [] μ := by
  intro r
  induction r with
  | zero =>
    intro k μ hk hM e36 e39 hO hO0
    have o0 := hM.o
    have et : ops.take k = ops := by rw [show k = ops.length by omega]; exact List.take_length
    rw [et] at hO0
    refine g_iload_n (j := 2) rfl dX12_identity_87 ?_
    refine g_aload_n (j := 0) rfl dX12_identity_88 ?_
    refine g_getI dX12_identity_89 flX12_338 rfl (by assumption) (kz := 36) rfl ?_
    rw [e36]
    refine g_icmp_ge (tgt := 133) dX12_identity_92 (by decide) (by omega) (by omega) (fun h92 => ?_) (fun h92 => ?_)
    · refine g_aload_n (j := 0) rfl dX12_identity_133 ?_
      refine g_getI dX12_identity_134 flX12_373 rfl (by assumption) (kz := 39) rfl ?_
      rw [e39]
      refine g_callS dX12_identity_137 mlX12_376 msX12_bits (c_bits w d μ hL) sk1 rfl (by omega) (Nat.le_of_ble_eq_true rfl) (Nat.le_refl _) (Nat.le_refl _) (fun v μ2 hR => ?_)
      obtain ⟨rfl, hm⟩ := hR
      replace hm := hm.symm
      subst hm
      exact G.retI dX12_identity_140 rfl ⟨rfl, hO0, FrZ.rf⟩
    · omega
  | succ r ih =>
    intro k μ hk hM e36 e39 hO hO0
    have o0 := hM.o
    have r33 := hM.r33
    have r34 := hM.r34
    have a33 := hM.a33
    have a34 := hM.a34
    obtain ⟨o, ho⟩ : ∃ o, ops[k]? = some o := ⟨_, List.getElem?_eq_getElem (by omega)⟩
    have hv := hO k o ho
    refine g_iload_n (j := 2) rfl dX12_identity_87 ?_
    refine g_aload_n (j := 0) rfl dX12_identity_88 ?_
    refine g_getI dX12_identity_89 flX12_338 rfl (by assumption) (kz := 36) rfl ?_
    rw [e36]
    refine g_icmp_ge (tgt := 133) dX12_identity_92 (by decide) (by omega) (by omega) (fun h92 => ?_) (fun h92 => ?_)
    · omega
    · refine g_aload_n (j := 0) rfl dX12_identity_95 ?_
      refine g_getR dX12_identity_96 flX12_63 rfl (by assumption) (kz := 33) rfl (by assumption) ?_
      refine g_iload_n (j := 2) rfl dX12_identity_99 ?_
      refine g_aload_n (j := 0) rfl dX12_identity_100 ?_
      refine g_getR dX12_identity_101 flX12_63 rfl (by assumption) (kz := 33) rfl (by assumption) ?_
      refine g_sipush dX12_identity_104 (by omega) ?_
      refine g_iload_n (j := 2) rfl dX12_identity_107 ?_
      refine g_iadd dX12_identity_108 ?_
      refine g_iald dX12_identity_109 (by assumption) (by omega) (by omega) ?_
      refine g_iast dX12_identity_110 (by assumption) (by omega) (by omega) ?_
      refine g_aload_n (j := 0) rfl dX12_identity_111 ?_
      refine g_getR dX12_identity_112 flX12_66 rfl (by simp only [IsO_sI, IsO_sL, IsO_sR, IsO_wI, IsO_wL, IsA_sI, IsA_sL, IsA_sR, IsA_wI, IsA_wL, mR_sI, mR_sL, mR_wI, mR_wL]; assumption) (kz := 34) rfl (by simp only [IsO_sI, IsO_sL, IsO_sR, IsO_wI, IsO_wL, IsA_sI, IsA_sL, IsA_sR, IsA_wI, IsA_wL, mR_sI, mR_sL, mR_wI, mR_wL]; assumption) ?_
      refine g_iload_n (j := 2) rfl dX12_identity_115 ?_
      refine g_aload_n (j := 0) rfl dX12_identity_116 ?_
      refine g_getR dX12_identity_117 flX12_66 rfl (by simp only [IsO_sI, IsO_sL, IsO_sR, IsO_wI, IsO_wL, IsA_sI, IsA_sL, IsA_sR, IsA_wI, IsA_wL, mR_sI, mR_sL, mR_wI, mR_wL]; assumption) (kz := 34) rfl (by simp only [IsO_sI, IsO_sL, IsO_sR, IsO_wI, IsO_wL, IsA_sI, IsA_sL, IsA_sR, IsA_wI, IsA_wL, mR_sI, mR_sL, mR_wI, mR_wL]; assumption) ?_
      refine g_sipush dX12_identity_120 (by omega) ?_
      refine g_iload_n (j := 2) rfl dX12_identity_123 ?_
      refine g_iadd dX12_identity_124 ?_
      refine g_ialdv dX12_identity_125 (by simp only [IsO_sI, IsO_sL, IsO_sR, IsO_wI, IsO_wL, IsA_sI, IsA_sL, IsA_sR, IsA_wI, IsA_wL, mR_sI, mR_sL, mR_wI, mR_wL]; assumption) (by omega) (by omega) (by simp [mI_sI, mI_sL, mI_sR, mI_wI, mI_wL, mL_sI, mL_sL, mL_sR, mL_wI, mL_wL]; rfl) ?_
      refine g_iast dX12_identity_126 (by simp only [IsO_sI, IsO_sL, IsO_sR, IsO_wI, IsO_wL, IsA_sI, IsA_sL, IsA_sR, IsA_wI, IsA_wL, mR_sI, mR_sL, mR_wI, mR_wL]; assumption) (by omega) (by omega) ?_
      refine g_iinc (i := 2) dX12_identity_127 rfl (by decide) rfl ls2 ?_
      refine g_goto (tgt := 87) (by decide) dX12_identity_130 ?_
      generalize hμ : sI (sI μ (m + 12) (k : Int) (mI μ (m + 12) (900 + (k : Int)))) (m + 13) (k : Int) _ = μ2
      have hf : FrZ m (P13 m) (fun _ => False) μ μ2 := by
        rw [← hμ]
        exact ⟨(Fr.sI (Or.inr (Or.inl rfl))).tr (Fr.sI (Or.inr (Or.inr rfl))), fun j _ => by rw [mI_sI, if_neg (by omega), mI_sI, if_neg (by omega)]⟩
      have e12 : ∀ j, mI μ2 (m + 12) j = if j = (k : Int) then mI μ (m + 12) (900 + (k : Int)) else mI μ (m + 12) j := fun j => by
        rw [← hμ, mI_sI, if_neg (by omega), mI_sI]
        by_cases z : j = (k : Int)
        · rw [if_pos ⟨rfl, z⟩, if_pos z]
        · rw [if_neg (fun y => z y.2), if_neg z]
      have e13 : ∀ j, mI μ2 (m + 13) j = if j = (k : Int) then mI μ (m + 13) (900 + (k : Int)) else mI μ (m + 13) j := fun j => by
        rw [← hμ, mI_sI]
        by_cases z : j = (k : Int)
        · rw [if_pos ⟨rfl, z⟩, if_pos z]
        · rw [if_neg (fun y => z y.2), mI_sI, if_neg (by omega), if_neg z]
      refine G.post (fun v μ3 hq => ⟨hq.1, hq.2.1, hf.tr hq.2.2⟩) (ih (k + 1) μ2 (by omega) (hf.Mo hM) ((hf.2 36 (fun z => z)).trans e36) ((hf.2 39 (fun z => z)).trans e39) (fun j q hq => ?_) (fun j q hq => ?_))
      · rw [e12, e13, if_neg (by omega), if_neg (by omega)]
        exact hO j q hq
      · have hj : j < k + 1 := by
          rcases Nat.lt_or_ge j (k + 1) with z | z
          · exact z
          · rw [List.getElem?_eq_none (by rw [List.length_take]; omega)] at hq
            cases hq
        rw [List.getElem?_take, if_pos hj] at hq
        rw [e12, e13]
        by_cases z : j = k
        · subst z
          rw [ho] at hq
          cases hq
          rw [if_pos (by omega), if_pos (by omega)]
          exact hv
        · rw [if_neg (by omega), if_neg (by omega)]
          refine hO0 j q ?_
          rw [List.getElem?_take, if_pos (by omega)]
          exact hq
/-- what the model keeps of the latest identity -/
def IdM (μ : Mem) (m : Nat) (I : IdT) : Prop := (mI μ m 41 = bI (0 < I.1.2.2.length) ∧ mI μ m 37 = (I.1.1 : Int) ∧ mI μ m 39 = I.1.2.1) ∧ (mI μ (m + 14) 0 = (I.2 : Int) ∧ mI μ (m + 14) 1 = (I.1.2.2.length : Int)) ∧ OpM μ m 0 I.1.2.2
noncomputable def idN (n : Int) (B : Int → Int) (I : IdT) : IdT := match idAll n B with
  | .inl _ => I
  | .inr s => (s.1.2, s.2)
theorem WI_N {n : Int} {B : Int → Int} {I : IdT} (h : WI I) : WI (idN n B I) := by
  unfold idN
  rcases hr : idAll n B with e | s
  · exact h
  · exact (idAll_w hr).1
def Jid (j : Int) : Prop := Jz j ∨ (36 ≤ j ∧ j ≤ 41)
theorem IdM.fr {w : WC} {μ μ2 : Mem} {m : Nat} {I : IdT} (h : IdM μ m I) (hf : IrF m μ μ2) (hw : WI I) : IdM μ2 m I := by
  obtain ⟨⟨a, b, c⟩, ⟨e, f⟩, g⟩ := h
  have hj : ∀ j, j = 41 ∨ j = 37 ∨ j = 39 → mI μ2 m j = mI μ m j := fun j z => hf.1.2 j (by unfold JIe Jz; omega)
  refine ⟨⟨(hj _ (by omega)).trans a, (hj _ (by omega)).trans b, (hj _ (by omega)).trans c⟩, ⟨(hf.2.2 _ (by omega)).trans e, (hf.2.2 _ (by omega)).trans f⟩, fun j o ho => ?_⟩
  have hl : j < I.1.2.2.length := by
    rcases Nat.lt_or_ge j I.1.2.2.length with z | z
    · exact z
    · rw [List.getElem?_eq_none z] at ho
      cases ho
  have := hw.1.2
  rw [hf.2.1.2 _ (by omega), hf.2.1.1 _ (by omega)]
  exact g j o ho
theorem c_X12_identity (w : WC) (d : Nat) (μ : Mem) {m : Nat} {F : Int → List Tm} (hA : MA w μ m F) {n : Int} {B : Int → Int} (hB : TpM μ m n B) {I : IdT} (hI : IdM μ m I) (hw : WI I) : Con w (d + 34) mX12_identity 0 0 [vP (some m)] μ (fun v μ2 => v = some (vI (idA n B)) ∧ MA w μ2 m F ∧ TpM μ2 m 0 B ∧ FaM μ2 m (idU n B) ∧ IdM μ2 m (idN n B I) ∧ FrZ m (P15 m) Jid μ μ2) := by
  have o0 := hA.1.o
  have HB0 : ByOk 0 B := ⟨⟨by omega, by omega⟩, fun j z1 z2 => by omega⟩
  refine Con.of (by decide) (Nat.le_of_ble_eq_true rfl) rfl ?_
  refine g_aload_n (j := 0) rfl dX12_identity_0 ?_
  refine g_callV dX12_identity_1 mlX12_247 mvX12_begins (ci := 12) ⟨by decide, rfl⟩ (by assumption) (c_begins w (d + 30) μ hA.1 hB) sv0 rfl (by omega) (Nat.le_of_ble_eq_true rfl) (Nat.le_refl _) (Nat.le_refl _) (fun v μ1 hR => ?_)
  obtain ⟨rfl, hS1, e181, e191, hBa1, hf1⟩ := hR
  have hA1 : MA w μ1 m F := FrZ.MA hf1 hA ⟨fun z => z, fun z => z, fun z => z, fun z => z⟩ (by unfold Jb Jf Jn; omega)
  have o01 := hA1.1.o
  have hr01 : IrF m μ μ1 := ⟨FrZ.mono hf1 (fun _ z => z.elim) (fun j z => by unfold Jb Jf Jn at z; unfold JIe Jz; omega), ⟨fun j _ => (RmT.r9 hf1 hA.1).1 j, fun j _ => (RmT.r9 hf1 hA.1).2 j⟩, fun j _ => hf1.1.I hA.1.a35.2.1 (fun z => z.elim (by omega) (fun y => y)) j⟩
  clear hf1
  refine g_aload_n (j := 0) rfl dX12_identity_4 ?_
  refine g_iconst dX12_identity_5 ?_
  refine g_putI dX12_identity_6 fpX12_165 rfl rfl rfl (by assumption) (kz := 19) rfl ?_
  refine g_aload_n (j := 0) rfl dX12_identity_9 ?_
  refine g_iconst dX12_identity_10 ?_
  refine g_putI dX12_identity_11 fpX12_338 rfl rfl rfl (by simp only [IsO_sI, IsO_sL, IsO_sR, IsO_wI, IsO_wL, IsA_sI, IsA_sL, IsA_sR, IsA_wI, IsA_wL, mR_sI, mR_sL, mR_wI, mR_wL]; assumption) (kz := 36) rfl ?_
  refine g_aload_n (j := 0) rfl dX12_identity_14 ?_
  refine g_iconst dX12_identity_15 ?_
  refine g_putI dX12_identity_16 fpX12_355 rfl rfl rfl (by simp only [IsO_sI, IsO_sL, IsO_sR, IsO_wI, IsO_wL, IsA_sI, IsA_sL, IsA_sR, IsA_wI, IsA_wL, mR_sI, mR_sL, mR_wI, mR_wL]; assumption) (kz := 38) rfl ?_
  refine g_aload_n (j := 0) rfl dX12_identity_19 ?_
  refine g_iconst dX12_identity_20 ?_
  refine g_putI dX12_identity_21 fpX12_361 rfl rfl rfl (by simp only [IsO_sI, IsO_sL, IsO_sR, IsO_wI, IsO_wL, IsA_sI, IsA_sL, IsA_sR, IsA_wI, IsA_wL, mR_sI, mR_sL, mR_wI, mR_wL]; assumption) (kz := 40) rfl ?_
  have hf1 : FrZ m (fun _ => False) Jid μ1 (sI (sI (sI (sI μ1 m 19 0) m 36 0) m 38 0) m 40 0) := (((FrZ.sI (by unfold Jid Jz; omega)).tr (FrZ.sI (by unfold Jid Jz; omega))).tr (FrZ.sI (by unfold Jid Jz; omega))).tr (FrZ.sI (by unfold Jid Jz; omega))
  have hz1 : FrZ m (fun _ => False) (fun j => j = 19 ∨ j = 36 ∨ j = 38 ∨ j = 40) μ1 (sI (sI (sI (sI μ1 m 19 0) m 36 0) m 38 0) m 40 0) := (((FrZ.sI (by omega)).tr (FrZ.sI (by omega))).tr (FrZ.sI (by omega))).tr (FrZ.sI (by omega))
  have h2 : ImK w (sI (sI (sI (sI μ1 m 19 0) m 36 0) m 38 0) m 40 0) m F n B (0, 0, 0, []) := by
    refine ⟨hS1.fr hz1 ⟨by omega, by omega, fun k z1 z2 z => by omega⟩ (fun z => z) rfl, FrZ.MA hz1 hA1 ⟨fun z => z, fun z => z, fun z => z, fun z => z⟩ (by omega), ⟨?_, ?_, ?_⟩, fun j o hj => by simp at hj, by decide⟩
    · simp [mI_sI]
    · simp [mI_sI]
    · simp [mI_sI]
  have hr2 : IrF m μ1 (sI (sI (sI (sI μ1 m 19 0) m 36 0) m 38 0) m 40 0) := ⟨FrZ.mono hz1 (fun _ z => z.elim) (fun j z => by unfold JIe Jz; omega), ⟨fun j _ => (RmT.r9 hz1 hA1.1).1 j, fun j _ => (RmT.r9 hz1 hA1.1).2 j⟩, fun j _ => hz1.1.I hA1.1.a35.2.1 (fun z => z.elim (by omega) (fun y => y)) j⟩
  have e182 : mI (sI (sI (sI (sI μ1 m 19 0) m 36 0) m 38 0) m 40 0) m 18 = 0 := (hz1.2 18 (by omega)).trans e181
  have e192 : mI (sI (sI (sI (sI μ1 m 19 0) m 36 0) m 38 0) m 40 0) m 19 = 0 := by simp [mI_sI]
  have hBa2 : BaM (sI (sI (sI (sI μ1 m 19 0) m 36 0) m 38 0) m 40 0) m fa0 := by
    obtain ⟨b1, b2, b3, b4⟩ := hBa1
    exact ⟨(hz1.2 8 (by omega)).trans b1, (hz1.2 9 (by omega)).trans b2, (hz1.2 10 (by omega)).trans b3, (hz1.2 11 (by omega)).trans b4⟩
  generalize sI (sI (sI (sI μ1 m 19 0) m 36 0) m 38 0) m 40 0 = μ2 at *
  have hr02 := hr01.tr hr2
  have o02 := h2.1.1.o
  refine g_aload_n (j := 0) rfl dX12_identity_24 ?_
  refine g_callV dX12_identity_25 mlX12_364 mvX12_readIdentity (ci := 12) ⟨by decide, rfl⟩ (by assumption) (c_X12_readIdentity w d μ2 h2 e182 e192) sv0 rfl (by omega) (Nat.le_of_ble_eq_true rfl) (Nat.le_refl _) (Nat.le_refl _) (fun v μ3 hR => ?_)
  rcases hr : idAll n B with e | s
  · rw [hr] at hR
    obtain ⟨rfl, hA3, hBa3, hq3⟩ := hR
    have hr03 := hr02.tr hq3
    have o03 := hA3.1.o
    refine g_istore_n (j := 1) dX12_identity_28 (by decide) rfl ls1 ?_
    refine g_aload_n (j := 0) rfl dX12_identity_29 ?_
    refine g_callV dX12_identity_30 mlX12_256 mvX12_isRead (ci := 12) ⟨by decide, rfl⟩ (by assumption) (c_isRead w (d + 33) μ3 hA3.1 (f := fa4 e.1.1 (tP n B e.1.2.1) e.2 e.1.2.2) hBa3 (by show i32 e.1.1; have := idAll_e hr; omega)) sv0 rfl (by omega) (Nat.le_of_ble_eq_true rfl) (Nat.le_refl _) (Nat.le_refl _) (fun v μ4 hR => ?_)
    obtain ⟨rfl, e34, hF4, hf4⟩ := hR
    have hA4 : MA w μ4 m F := FrZ.MA hf4 hA3 ⟨fun z => z, fun z => z, fun z => z, fun z => z⟩ (by omega)
    have hB4 : TpM μ4 m 0 B := ⟨e34, HB0, fun j z1 z2 => by omega⟩
    have o04 := hA4.1.o
    have hr4 : IrF m μ3 μ4 := ⟨FrZ.mono hf4 (fun _ z => z.elim) (fun j z => by unfold JIe Jz; omega), ⟨fun j _ => (RmT.r9 hf4 hA3.1).1 j, fun j _ => (RmT.r9 hf4 hA3.1).2 j⟩, fun j _ => hf4.1.I hA3.1.a35.2.1 (fun z => z.elim (by omega) (fun y => y)) j⟩
    refine g_pop rfl dX12_identity_33 ?_
    refine g_iload_n (j := 1) rfl dX12_identity_34 ?_
    refine g_if_ne (tgt := 40) dX12_identity_35 (by decide) (by omega) (fun h35 => ?_) (fun h35 => ?_)
    · omega
    · refine g_iconst dX12_identity_38 ?_
      have hr04 := hr03.tr hr4
      exact G.retI dX12_identity_39 rfl ⟨by rw [idA, hr], hA4, hB4, by rw [idU, hr]; exact hF4, by rw [idN, hr]; exact hI.fr (w := w) hr04 hw, FrZ.mono hr04.1 (fun _ z => z) (fun j z => by unfold JIe Jz at z; unfold Jid Jz; omega)⟩
  · rw [hr] at hR
    obtain ⟨rfl, h3, ⟨es3, et3⟩, hq3, eb3⟩ := hR
    have hr03 := hr02.tr hq3
    have hA3 := h3.2.1
    have o03 := hA3.1.o
    have hBa3 : BaM μ3 m fa0 := by
      obtain ⟨b1, b2, b3, b4⟩ := hBa2
      exact ⟨(eb3 8 (by omega) (by omega)).trans b1, (eb3 9 (by omega) (by omega)).trans b2, (eb3 10 (by omega) (by omega)).trans b3, (eb3 11 (by omega) (by omega)).trans b4⟩
    have hw2 := idAll_w hr
    refine g_istore_n (j := 1) dX12_identity_28 (by decide) rfl ls1 ?_
    refine g_aload_n (j := 0) rfl dX12_identity_29 ?_
    refine g_callV dX12_identity_30 mlX12_256 mvX12_isRead (ci := 12) ⟨by decide, rfl⟩ (by assumption) (c_isRead w (d + 33) μ3 hA3.1 (f := fa0) hBa3 (by show i32 0; omega)) sv0 rfl (by omega) (Nat.le_of_ble_eq_true rfl) (Nat.le_refl _) (Nat.le_refl _) (fun v μ4 hR => ?_)
    obtain ⟨rfl, e34, hF4, hf4⟩ := hR
    have hA4 : MA w μ4 m F := FrZ.MA hf4 hA3 ⟨fun z => z, fun z => z, fun z => z, fun z => z⟩ (by omega)
    have hB4 : TpM μ4 m 0 B := ⟨e34, HB0, fun j z1 z2 => by omega⟩
    have o04 := hA4.1.o
    have hr4 : IrF m μ3 μ4 := ⟨FrZ.mono hf4 (fun _ z => z.elim) (fun j z => by unfold JIe Jz; omega), ⟨fun j _ => (RmT.r9 hf4 hA3.1).1 j, fun j _ => (RmT.r9 hf4 hA3.1).2 j⟩, fun j _ => hf4.1.I hA3.1.a35.2.1 (fun z => z.elim (by omega) (fun y => y)) j⟩
    refine g_pop rfl dX12_identity_33 ?_
    refine g_iload_n (j := 1) rfl dX12_identity_34 ?_
    refine g_if_ne (tgt := 40) dX12_identity_35 (by decide) (by omega) (fun h35 => ?_) (fun h35 => ?_)
    · have r354 := hA4.1.r35
      have a354 := hA4.1.a35
      have e384 := (hf4.2 38 (by omega)).trans h3.2.2.1.2.1
      have e404 := (hf4.2 40 (by omega)).trans h3.2.2.1.2.2
      have e364 := (hf4.2 36 (by omega)).trans h3.2.2.1.1
      have ex4 : ∀ j, mI μ4 (m + 14) j = mI μ3 (m + 14) j := hf4.1.I hA3.1.a35.2.1 (fun z => z.elim (by omega) (fun y => y))
      have es4 := (ex4 2).trans es3
      have et4 := (ex4 3).trans et3
      refine g_aload_n (j := 0) rfl dX12_identity_40 ?_
      refine g_iconst dX12_identity_41 ?_
      refine g_putI dX12_identity_42 fpX12_367 rfl (nar_bool (by omega)) rfl (by assumption) (kz := 41) rfl ?_
      refine g_aload_n (j := 0) rfl dX12_identity_45 ?_
      refine g_aload_n (j := 0) rfl dX12_identity_46 ?_
      refine g_getIv dX12_identity_47 flX12_355 rfl (by simp only [IsO_sI, IsO_sL, IsO_sR, IsO_wI, IsO_wL, IsA_sI, IsA_sL, IsA_sR, IsA_wI, IsA_wL, mR_sI, mR_sL, mR_wI, mR_wL]; assumption) (kz := 38) rfl (by simp [mI_sI, mI_sL, mI_sR, mI_wI, mI_wL, mL_sI, mL_sL, mL_sR, mL_wI, mL_wL, e384, e404, es4, et4]; rfl) ?_
      refine g_putI dX12_identity_50 fpX12_370 rfl rfl rfl (by simp only [IsO_sI, IsO_sL, IsO_sR, IsO_wI, IsO_wL, IsA_sI, IsA_sL, IsA_sR, IsA_wI, IsA_wL, mR_sI, mR_sL, mR_wI, mR_wL]; assumption) (kz := 37) rfl ?_
      refine g_aload_n (j := 0) rfl dX12_identity_53 ?_
      refine g_aload_n (j := 0) rfl dX12_identity_54 ?_
      refine g_getIv dX12_identity_55 flX12_361 rfl (by simp only [IsO_sI, IsO_sL, IsO_sR, IsO_wI, IsO_wL, IsA_sI, IsA_sL, IsA_sR, IsA_wI, IsA_wL, mR_sI, mR_sL, mR_wI, mR_wL]; assumption) (kz := 40) rfl (by simp [mI_sI, mI_sL, mI_sR, mI_wI, mI_wL, mL_sI, mL_sL, mL_sR, mL_wI, mL_wL, e384, e404, es4, et4]; rfl) ?_
      refine g_putI dX12_identity_58 fpX12_373 rfl rfl rfl (by simp only [IsO_sI, IsO_sL, IsO_sR, IsO_wI, IsO_wL, IsA_sI, IsA_sL, IsA_sR, IsA_wI, IsA_wL, mR_sI, mR_sL, mR_wI, mR_wL]; assumption) (kz := 39) rfl ?_
      refine g_aload_n (j := 0) rfl dX12_identity_61 ?_
      refine g_getR dX12_identity_62 flX12_69 rfl (by simp only [IsO_sI, IsO_sL, IsO_sR, IsO_wI, IsO_wL, IsA_sI, IsA_sL, IsA_sR, IsA_wI, IsA_wL, mR_sI, mR_sL, mR_wI, mR_wL]; assumption) (kz := 35) rfl (by simp only [IsO_sI, IsO_sL, IsO_sR, IsO_wI, IsO_wL, IsA_sI, IsA_sL, IsA_sR, IsA_wI, IsA_wL, mR_sI, mR_sL, mR_wI, mR_wL]; assumption) ?_
      refine g_iconst dX12_identity_65 ?_
      refine g_aload_n (j := 0) rfl dX12_identity_66 ?_
      refine g_getR dX12_identity_67 flX12_69 rfl (by simp only [IsO_sI, IsO_sL, IsO_sR, IsO_wI, IsO_wL, IsA_sI, IsA_sL, IsA_sR, IsA_wI, IsA_wL, mR_sI, mR_sL, mR_wI, mR_wL]; assumption) (kz := 35) rfl (by simp only [IsO_sI, IsO_sL, IsO_sR, IsO_wI, IsO_wL, IsA_sI, IsA_sL, IsA_sR, IsA_wI, IsA_wL, mR_sI, mR_sL, mR_wI, mR_wL]; assumption) ?_
      refine g_iconst dX12_identity_70 ?_
      refine g_ialdv dX12_identity_71 (by simp only [IsO_sI, IsO_sL, IsO_sR, IsO_wI, IsO_wL, IsA_sI, IsA_sL, IsA_sR, IsA_wI, IsA_wL, mR_sI, mR_sL, mR_wI, mR_wL]; assumption) (by omega) (by omega) (by simp [mI_sI, mI_sL, mI_sR, mI_wI, mI_wL, mL_sI, mL_sL, mL_sR, mL_wI, mL_wL, e384, e404, es4, et4]; rfl) ?_
      refine g_iast dX12_identity_72 (by simp only [IsO_sI, IsO_sL, IsO_sR, IsO_wI, IsO_wL, IsA_sI, IsA_sL, IsA_sR, IsA_wI, IsA_wL, mR_sI, mR_sL, mR_wI, mR_wL]; assumption) (by omega) (by omega) ?_
      refine g_aload_n (j := 0) rfl dX12_identity_73 ?_
      refine g_getR dX12_identity_74 flX12_69 rfl (by simp only [IsO_sI, IsO_sL, IsO_sR, IsO_wI, IsO_wL, IsA_sI, IsA_sL, IsA_sR, IsA_wI, IsA_wL, mR_sI, mR_sL, mR_wI, mR_wL]; assumption) (kz := 35) rfl (by simp only [IsO_sI, IsO_sL, IsO_sR, IsO_wI, IsO_wL, IsA_sI, IsA_sL, IsA_sR, IsA_wI, IsA_wL, mR_sI, mR_sL, mR_wI, mR_wL]; assumption) ?_
      refine g_iconst dX12_identity_77 ?_
      refine g_aload_n (j := 0) rfl dX12_identity_78 ?_
      refine g_getR dX12_identity_79 flX12_69 rfl (by simp only [IsO_sI, IsO_sL, IsO_sR, IsO_wI, IsO_wL, IsA_sI, IsA_sL, IsA_sR, IsA_wI, IsA_wL, mR_sI, mR_sL, mR_wI, mR_wL]; assumption) (kz := 35) rfl (by simp only [IsO_sI, IsO_sL, IsO_sR, IsO_wI, IsO_wL, IsA_sI, IsA_sL, IsA_sR, IsA_wI, IsA_wL, mR_sI, mR_sL, mR_wI, mR_wL]; assumption) ?_
      refine g_iconst dX12_identity_82 ?_
      refine g_ialdv dX12_identity_83 (by simp only [IsO_sI, IsO_sL, IsO_sR, IsO_wI, IsO_wL, IsA_sI, IsA_sL, IsA_sR, IsA_wI, IsA_wL, mR_sI, mR_sL, mR_wI, mR_wL]; assumption) (by omega) (by omega) (by simp [mI_sI, mI_sL, mI_sR, mI_wI, mI_wL, mL_sI, mL_sL, mL_sR, mL_wI, mL_wL, e384, e404, es4, et4]; rfl) ?_
      refine g_iast dX12_identity_84 (by simp only [IsO_sI, IsO_sL, IsO_sR, IsO_wI, IsO_wL, IsA_sI, IsA_sL, IsA_sR, IsA_wI, IsA_wL, mR_sI, mR_sL, mR_wI, mR_wL]; assumption) (by omega) (by omega) ?_
      have hf5 : FrZ m (P15 m) (fun j => j = 41 ∨ j = 37 ∨ j = 39) μ4 (sI (sI (sI (sI (sI μ4 m 41 1) m 37 (s.1.2.1 : Int)) m 39 s.1.2.2.1) (m + 14) 0 (s.2 : Int)) (m + 14) 1 (s.1.2.2.2.length : Int)) := by
        refine ⟨((((Fr.sI (Or.inl rfl)).tr (Fr.sI (Or.inl rfl))).tr (Fr.sI (Or.inl rfl))).tr (Fr.sI (Or.inr (Or.inr (Or.inr rfl))))).tr (Fr.sI (Or.inr (Or.inr (Or.inr rfl)))), fun j hj => ?_⟩
        rw [mI_sI, if_neg (by omega), mI_sI, if_neg (by omega), mI_sI, if_neg (by omega), mI_sI, if_neg (by omega), mI_sI, if_neg (by omega)]
      have k41 : mI (sI (sI (sI (sI (sI μ4 m 41 1) m 37 (s.1.2.1 : Int)) m 39 s.1.2.2.1) (m + 14) 0 (s.2 : Int)) (m + 14) 1 (s.1.2.2.2.length : Int)) m 41 = 1 := by simp [mI_sI]
      have k37 : mI (sI (sI (sI (sI (sI μ4 m 41 1) m 37 (s.1.2.1 : Int)) m 39 s.1.2.2.1) (m + 14) 0 (s.2 : Int)) (m + 14) 1 (s.1.2.2.2.length : Int)) m 37 = (s.1.2.1 : Int) := by simp [mI_sI]
      have k39 : mI (sI (sI (sI (sI (sI μ4 m 41 1) m 37 (s.1.2.1 : Int)) m 39 s.1.2.2.1) (m + 14) 0 (s.2 : Int)) (m + 14) 1 (s.1.2.2.2.length : Int)) m 39 = s.1.2.2.1 := by simp [mI_sI]
      have k0 : mI (sI (sI (sI (sI (sI μ4 m 41 1) m 37 (s.1.2.1 : Int)) m 39 s.1.2.2.1) (m + 14) 0 (s.2 : Int)) (m + 14) 1 (s.1.2.2.2.length : Int)) (m + 14) 0 = (s.2 : Int) := by simp [mI_sI]
      have k1 : mI (sI (sI (sI (sI (sI μ4 m 41 1) m 37 (s.1.2.1 : Int)) m 39 s.1.2.2.1) (m + 14) 0 (s.2 : Int)) (m + 14) 1 (s.1.2.2.2.length : Int)) (m + 14) 1 = (s.1.2.2.2.length : Int) := by simp [mI_sI]
      have k9 : ∀ a j, a = m + 12 ∨ a = m + 13 → mI (sI (sI (sI (sI (sI μ4 m 41 1) m 37 (s.1.2.1 : Int)) m 39 s.1.2.2.1) (m + 14) 0 (s.2 : Int)) (m + 14) 1 (s.1.2.2.2.length : Int)) a j = mI μ4 a j := fun a j z => by
        rw [mI_sI, if_neg (by omega), mI_sI, if_neg (by omega), mI_sI, if_neg (by omega), mI_sI, if_neg (by omega), mI_sI, if_neg (by omega)]
      generalize sI (sI (sI (sI (sI μ4 m 41 1) m 37 (s.1.2.1 : Int)) m 39 s.1.2.2.1) (m + 14) 0 (s.2 : Int)) (m + 14) 1 (s.1.2.2.2.length : Int) = μ5 at *
      have hA5 : MA w μ5 m F := FrZ.MA hf5 hA4 (by unfold P15; omega) (by omega)
      have hO5 : OpM μ5 m 900 s.1.2.2.2 := fun j o ho => by
        rw [k9 _ _ (Or.inr rfl), k9 _ _ (Or.inl rfl), (RmT.r9 hf4 hA3.1).2, (RmT.r9 hf4 hA3.1).1]
        exact h3.2.2.2.1 j o ho
      refine g_iconst dX12_identity_85 ?_
      refine g_istore_n (j := 2) dX12_identity_86 (by decide) rfl ls2 ?_
      refine G.post (fun v μ6 hq => ?_) (l_cp12 (ops := s.1.2.2.2) (L := s.1.2.2.1) (idAll_L hr) hw2.1.1.2 s.1.2.2.2.length 0 μ5 (Nat.zero_add _) hA5.1 ((hf5.2 36 (by omega)).trans e364) k39 hO5 (fun j o ho => by simp at ho))
      obtain ⟨rfl, hO6, hf6⟩ := hq
      have hj6 : ∀ j, mI μ6 m j = mI μ5 m j := fun j => hf6.2 j (fun z => z)
      refine ⟨by rw [idA, hr], FrZ.MA hf6 hA5 (by unfold P13; omega) ⟨fun z => z, fun z => z⟩, ⟨(hj6 3).trans ((hf5.2 3 (by omega)).trans e34), HB0, fun j z1 z2 => by omega⟩, ?_, ?_, ?_⟩
      · rw [idU, hr]
        obtain ⟨b1, b2, b3, b4⟩ := hF4
        exact ⟨(hj6 4).trans ((hf5.2 4 (by omega)).trans b1), (hj6 5).trans ((hf5.2 5 (by omega)).trans b2), (hj6 6).trans ((hf5.2 6 (by omega)).trans b3), (hj6 7).trans ((hf5.2 7 (by omega)).trans b4)⟩
      · rw [idN, hr]
        exact ⟨⟨(hj6 41).trans (k41.trans (bI_1 hw2.2).symm), (hj6 37).trans k37, (hj6 39).trans k39⟩, ⟨(P13F hf6 hA5.1 0).trans k0, (P13F hf6 hA5.1 1).trans k1⟩, hO6⟩
      · refine FrZ.tr (FrZ.mono (hr03.tr hr4).1 (fun _ z => z) (fun j z => by unfold JIe Jz at z; unfold Jid Jz; omega)) (FrZ.tr (FrZ.mono hf5 (fun _ z => z) (fun j z => by unfold Jid; omega)) (FrZ.mono hf6 (fun a z => by unfold P13 at z; unfold P15; omega) (fun _ z => z.elim)))
    · omega
