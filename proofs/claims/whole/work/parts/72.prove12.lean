/-! PROVE: the model -/
def P4 (m a : Nat) : Prop := a = m + 4 ∨ a = m + 11
def JP (j : Int) : Prop := Jz j ∨ j = 21 ∨ j = 32
def JS (j : Int) : Prop := (3 ≤ j ∧ j ≤ 20 ∧ ¬ (8 ≤ j ∧ j ≤ 11)) ∨ j = 21 ∨ j = 32
def PrZ (m : Nat) : Mem → Mem → Prop := FrZ m (P4 m) JS
theorem PrZ.P {m : Nat} {μ μ2 : Mem} (h : PrZ m μ μ2) : FrZ m (P4 m) JP μ μ2 := FrZ.mono h (fun _ z => z) (fun j z => by unfold JS at z; unfold JP Jz; omega)
theorem PrZ.Ba {m : Nat} {f : Int → Int} {μ μ2 : Mem} (h : PrZ m μ μ2) (hB : BaM μ m f) : BaM μ2 m f := ⟨(h.2 8 (by unfold JS; omega)).trans hB.1, (h.2 9 (by unfold JS; omega)).trans hB.2.1, (h.2 10 (by unfold JS; omega)).trans hB.2.2.1, (h.2 11 (by unfold JS; omega)).trans hB.2.2.2⟩
def TdM (μ : Mem) (m : Nat) (told : List Int) : Prop := ∀ (k : Nat) (z : Int), told[k]? = some z → mI μ (m + 11) (k : Int) = z ∧ -3000 ≤ z ∧ z ≤ 3000
def PsM (w : WC) (μ : Mem) (m : Nat) (F : Int → List Tm) (n : Int) (B : Int → Int) (i : Nat) (told : List Int) : Prop := StM w μ m n B i ∧ MA w μ m F ∧ mI μ m 32 = (told.length : Int) ∧ TdM μ m told
def PsE (w : WC) (m : Nat) (F : Int → List Tm) (f : Int → Int) (μ μ2 : Mem) : Prop := MA w μ2 m F ∧ BaM μ2 m f ∧ FrZ m (P4 m) JP μ μ2
section PM
variable {w : WC} {m i i2 : Nat} {F : Int → List Tm} {n : Int} {B : Int → Int} {told : List Int} {μ μ2 μ3 : Mem}
theorem PsE.tr {f : Int → Int} (hf : PrZ m μ μ2) (h : PsE w m F f μ2 μ3) : PsE w m F f μ μ3 := ⟨h.1, h.2.1, FrZ.tr hf.P h.2.2⟩
theorem PsM.rd (h : PsM w μ m F n B i told) (hS : StM w μ2 m n B i2) (hr : RmT m μ μ2) : PsM w μ2 m F n B i2 told ∧ PrZ m μ μ2 :=
  ⟨⟨hS, FrZ.MA hr h.2.1 ⟨fun z => z, fun z => z, fun z => z, fun z => z⟩ (by unfold Jn; omega), (hr.2 32 (by unfold Jn; omega)).trans h.2.2.1, fun k z hz => by rw [hr.1.I h.1.1.a31.2.1 (fun q => q.elim (by omega) (fun y => y))]; exact h.2.2.2 k z hz⟩, FrZ.mono hr (fun _ z => z.elim) (fun j z => by unfold Jn at z; unfold JS; omega)⟩
theorem PsM.er {f : Int → Int} (h : PsM w μ m F n B i told) (hE : RmE m f μ μ2) : PsE w m F f μ μ2 :=
  ⟨FrZ.MA hE.1 h.2.1 ⟨fun z => z, fun z => z, fun z => z, fun z => z⟩ (by unfold Jf Jn; omega), hE.2, FrZ.mono hE.1 (fun _ z => z.elim) (fun j z => Or.inl z.z)⟩
theorem PsM.inn (h : PsM w μ m F n B i told) {j v : Int} (hj : j = 18 ∨ j = 19) : PsM w (sI μ m j v) m F n B i told ∧ PrZ m μ (sI μ m j v) := by
  have hf : FrZ m (fun _ => False) (fun z => z = j) μ (sI μ m j v) := FrZ.sI rfl
  exact ⟨⟨h.1.fr hf ⟨fun z => by omega, fun z => by omega, fun k z1 z2 z => by omega⟩ (fun z => z) rfl, FrZ.MA hf h.2.1 ⟨fun z => z, fun z => z, fun z => z, fun z => z⟩ (by omega), (hf.2 32 (by omega)).trans h.2.2.1, fun k z hz => by rw [hf.1.I h.1.1.a31.2.1 (fun q => q.elim (by omega) (fun y => y))]; exact h.2.2.2 k z hz⟩, FrZ.mono hf (fun _ z => z.elim) (fun k z => by unfold JS; omega)⟩
theorem FrZ.rd18 {J : Int → Prop} {P : Nat → Prop} (h : FrZ m P J μ μ2) {j v : Int} (hj : ¬ J j) (e : mI μ m j = v) : mI μ2 m j = v := (h.2 j hj).trans e
theorem l_isOut {d : Nat} {z : Int} (hM : MoS w μ m) (h32 : mI μ m 32 = (told.length : Int)) (hl : told.length ≤ 60) (hz : i32 z) (hT : TdM μ m told) : ∀ (r k : Nat), k + r = told.length → (z ∈ told ↔ z ∈ told.drop k) → G w (d + 2) mX12_isOut (fun v μ2 => v = some (vI (bI (z ∈ told ∨ ¬ (-3000 ≤ z ∧ z ≤ 3000)))) ∧ μ2 = μ) 0 0 2 [some (vP (some m)), some (vI z), some (vI (k : Int))] [] μ := by
  have o0 := hM.o
  have r31 := hM.r31
  have a31 := hM.a31
  intro r
  induction r with
  | zero =>
    intro k hk hm
    have hn : ¬ z ∈ told := by
      rw [hm, List.drop_eq_nil_of_le (by omega)]
      exact List.not_mem_nil
    refine g_iload_n (j := 2) rfl dX12_isOut_2 ?_
    refine g_aload_n (j := 0) rfl dX12_isOut_3 ?_
    refine g_getI dX12_isOut_4 flX12_324 rfl (by assumption) (kz := 32) rfl ?_
    rw [h32]
    refine g_icmp_ge (tgt := 28) dX12_isOut_7 (by decide) (by omega) (by omega) (fun h7 => ?_) (fun h7 => ?_)
    · refine g_iload_n (j := 1) rfl dX12_isOut_28 ?_
      refine g_callS dX12_isOut_29 mlX12_277 msX12_isN (c_X12_isN w d μ hz) sk1 rfl (by omega) (Nat.le_of_ble_eq_true rfl) (Nat.le_refl _) (Nat.le_refl _) (fun v μ2 hR => ?_)
      obtain ⟨rfl, hm⟩ := hR
      replace hm := hm.symm
      subst hm
      refine g_ifb_ne (tgt := 39) dX12_isOut_32 (by decide)  (fun h32_ => ?_) (fun h32_ => ?_)
      · refine g_iconst dX12_isOut_39 ?_
        first
        | exact G.retB dX12_isOut_40 rfl (eq_bI (Or.inl ⟨rfl, Or.inr h32_⟩)) ⟨rfl, rfl⟩
        | exact G.retB dX12_isOut_40 rfl (eq_bI (Or.inr ⟨rfl, fun q => q.elim hn (fun y => y h32_)⟩)) ⟨rfl, rfl⟩
      · refine g_iconst dX12_isOut_35 ?_
        refine g_goto (tgt := 40) (by decide) dX12_isOut_36 ?_
        first
        | exact G.retB dX12_isOut_40 rfl (eq_bI (Or.inl ⟨rfl, Or.inr h32_⟩)) ⟨rfl, rfl⟩
        | exact G.retB dX12_isOut_40 rfl (eq_bI (Or.inr ⟨rfl, fun q => q.elim hn (fun y => y h32_)⟩)) ⟨rfl, rfl⟩
    · omega
  | succ r ih =>
    intro k hk hm
    have hkl : k < told.length := by omega
    have hg : told[k]? = some told[k] := List.getElem?_eq_getElem hkl
    obtain ⟨e57, hy⟩ := hT k _ hg
    have hd : told.drop k = told[k] :: told.drop (k + 1) := List.drop_eq_getElem_cons hkl
    generalize told[k] = y at *
    refine g_iload_n (j := 2) rfl dX12_isOut_2 ?_
    refine g_aload_n (j := 0) rfl dX12_isOut_3 ?_
    refine g_getI dX12_isOut_4 flX12_324 rfl (by assumption) (kz := 32) rfl ?_
    rw [h32]
    refine g_icmp_ge (tgt := 28) dX12_isOut_7 (by decide) (by omega) (by omega) (fun h7 => ?_) (fun h7 => ?_)
    · omega
    · refine g_aload_n (j := 0) rfl dX12_isOut_10 ?_
      refine g_getR dX12_isOut_11 flX12_60 rfl (by assumption) (kz := 31) rfl (by assumption) ?_
      refine g_iload_n (j := 2) rfl dX12_isOut_14 ?_
      refine g_iald dX12_isOut_15 (by assumption) (by omega) (by omega) ?_
      rw [e57]
      refine g_iload_n (j := 1) rfl dX12_isOut_16 ?_
      refine g_icmp_ne (tgt := 22) dX12_isOut_17 (by decide) (by omega) (by omega) (fun h17 => ?_) (fun h17 => ?_)
      · refine g_iinc (i := 2) dX12_isOut_22 rfl (by decide) rfl ls2 ?_
        refine g_goto (tgt := 2) (by decide) dX12_isOut_25 ?_
        refine ih (k + 1) (by omega) ?_
        rw [hm, hd, List.mem_cons]
        constructor
        · intro q
          rcases q with q | q
          · exact absurd q.symm (by omega)
          · exact q
        · exact Or.inr
      · refine g_iconst dX12_isOut_20 ?_
        exact G.retB dX12_isOut_21 rfl (eq_bI (Or.inl ⟨rfl, Or.inl (by rw [hm, hd, List.mem_cons]; exact Or.inl (by omega))⟩)) ⟨rfl, rfl⟩
theorem c_isOut (w : WC) (d : Nat) {m : Nat} {told : List Int} {μ : Mem} {z : Int} (hM : MoS w μ m) (h32 : mI μ m 32 = (told.length : Int)) (hl : told.length ≤ 60) (hz : i32 z) (hT : TdM μ m told) : Con w (d + 2) mX12_isOut 0 0 [vP (some m), vI z] μ (fun v μ2 => v = some (vI (bI (z ∈ told ∨ ¬ (-3000 ≤ z ∧ z ≤ 3000)))) ∧ μ2 = μ) := by
  refine Con.of (by decide) (Nat.le_of_ble_eq_true rfl) rfl ?_
  refine g_iconst dX12_isOut_0 ?_
  refine g_istore_n (j := 2) dX12_isOut_1 (by decide) rfl ls2 ?_
  exact l_isOut (d := d) hM h32 hl hz hT told.length 0 (by omega) (by rw [List.drop_zero])
noncomputable def prZ (n : Int) (B : Int → Int) (us : List Tm) (s z : Int) (k : Nat) : FlF ⊕ Nat := pI (isSg n B (tP n B k) 59) (pI (us = []) (pI (s = z) (.inr (k + 1)) (.inl (8, k, -1))) (.inl (7, k, -1))) (.inl (1, k, -1))
theorem MA.many {s : Int} (h : MA w μ m F) (hs : 0 ≤ s ∧ s ≤ 3) : mI μ (m + 1) s = (F s).length := (h.2.1 s hs).1
theorem l12_174 {d : Nat} {k t : Nat} {s z sm fo : Int} {us : List Tm} {R : Option AV → Mem → Prop} {l7 : Option AV} (h : PsM w μ m F n B k told) (hs : 0 ≤ s ∧ s ≤ 3) (e18 : mI μ m 18 = fo) (e19 : mI μ m 19 = -1) (hus : us = [] ↔ ¬ (t : Int) < (F s).length) (hsm : i64 sm) (hz : i32 z) (ht : t ≤ 5) (kE : ∀ (e : FlF) (μ2 : Mem), prZ n B us sm z k = .inl e → PsE w m F (fa4 e.1 (tP n B e.2.1) fo e.2.2) μ μ2 → R (some (vI 0)) μ2) (kN : (isSg n B (tP n B k) 59 ∧ prZ n B us sm z k = .inr (k + 1) ∨ ¬ isSg n B (tP n B k) 59 ∧ prZ n B us sm z k = .inl (1, k, -1)) → R (some (vI 1)) μ) : G w (d + 6) mX12_readWay R 0 0 174 [some (vP (some m)), some (vI s), some (vI z), some (vJ sm), none, some (vI (t : Int)), some (vI 0), l7] [] μ := by
  have o0 := h.1.1.o
  have r0 := h.1.1.r0
  have a0 := h.1.1.a0
  have hmy := h.2.1.many hs
  have h5 := h.2.1.l5 hs
  refine g_aload_n (j := 0) rfl dX12_readWay_174 ?_
  refine g_bipush dX12_readWay_175 (by omega) ?_
  refine g_callV dX12_readWay_177 mlX12_184 mvX12_isSign (ci := 12) ⟨by decide, rfl⟩ (by assumption) (c_isSign12 w (d + 5) μ h.1 (c := 59) (by omega)) sv1 rfl (by omega) (Nat.le_of_ble_eq_true rfl) (Nat.le_refl _) (Nat.le_refl _) (fun v μ2 hR => ?_)
  obtain ⟨rfl, hm⟩ := hR
  replace hm := hm.symm
  subst hm
  refine g_ifb_eq (tgt := 201) dX12_readWay_180 (by decide)  (fun h180 => ?_) (fun h180 => ?_)
  · refine g_aload_n (j := 0) rfl dX12_readWay_201 ?_
    refine g_bipush dX12_readWay_202 (by omega) ?_
    refine g_callV dX12_readWay_204 mlX12_184 mvX12_isSign (ci := 12) ⟨by decide, rfl⟩ (by assumption) (c_isSign12 w (d + 5) μ h.1 (c := 59) (by omega)) sv1 rfl (by omega) (Nat.le_of_ble_eq_true rfl) (Nat.le_refl _) (Nat.le_refl _) (fun v μ2 hR => ?_)
    obtain ⟨rfl, hm⟩ := hR
    replace hm := hm.symm
    subst hm
    refine g_ifb_eq (tgt := 226) dX12_readWay_207 (by decide)  (fun h207 => ?_) (fun h207 => ?_)
    · refine g_iconst dX12_readWay_226 ?_
      refine g_goto (tgt := 231) (by decide) dX12_readWay_227 ?_
      exact G.retZ dX12_readWay_231 rfl (Or.inr rfl) (kN (Or.inr ⟨h180, pI_f h180⟩))
    · exact absurd h207 h180
  · refine g_iload (i := 5) rfl dX12_readWay_183 ?_
    refine g_aload_n (j := 0) rfl dX12_readWay_185 ?_
    refine g_getR dX12_readWay_186 flX12_9 rfl (by assumption) (kz := 0) rfl (by assumption) ?_
    refine g_iload_n (j := 1) rfl dX12_readWay_189 ?_
    refine g_iald dX12_readWay_190 (by assumption) (by omega) (by omega) ?_
    rw [hmy]
    refine g_icmp_ge (tgt := 201) dX12_readWay_191 (by decide) (by omega) (by omega) (fun h191 => ?_) (fun h191 => ?_)
    · refine g_aload_n (j := 0) rfl dX12_readWay_201 ?_
      refine g_bipush dX12_readWay_202 (by omega) ?_
      refine g_callV dX12_readWay_204 mlX12_184 mvX12_isSign (ci := 12) ⟨by decide, rfl⟩ (by assumption) (c_isSign12 w (d + 5) μ h.1 (c := 59) (by omega)) sv1 rfl (by omega) (Nat.le_of_ble_eq_true rfl) (Nat.le_refl _) (Nat.le_refl _) (fun v μ2 hR => ?_)
      obtain ⟨rfl, hm⟩ := hR
      replace hm := hm.symm
      subst hm
      refine g_ifb_eq (tgt := 226) dX12_readWay_207 (by decide)  (fun h207 => ?_) (fun h207 => ?_)
      · exact absurd h180 h207
      · refine g_lload_n (j := 3) rfl dX12_readWay_210 ?_
        refine g_iload_n (j := 2) rfl dX12_readWay_211 ?_
        refine g_i2l (by omega) dX12_readWay_212 ?_
        refine g_lif_eq (tgt := 226) dX12_readWay_213 dX12_readWay_214 (by decide) (by omega) (by omega) (fun h213 => ?_) (fun h213 => ?_)
        · refine g_iconst dX12_readWay_226 ?_
          refine g_goto (tgt := 231) (by decide) dX12_readWay_227 ?_
          exact G.retZ dX12_readWay_231 rfl (Or.inr rfl) (kN (Or.inl ⟨h180, by unfold prZ; rw [pI_t h180, pI_t (hus.mpr (by omega)), pI_t (by omega)]⟩))
        · refine g_aload_n (j := 0) rfl dX12_readWay_217 ?_
          refine g_bipush dX12_readWay_218 (by omega) ?_
          refine g_callV dX12_readWay_220 mlX12_187 mvX12_fails (ci := 12) ⟨by decide, rfl⟩ (by assumption) (c_fails w (d + 5) μ h.1 (k := 8) e18 e19) sv1 rfl (by omega) (Nat.le_of_ble_eq_true rfl) (Nat.le_refl _) (Nat.le_refl _) (fun v μ2 hR => ?_)
          obtain ⟨rfl, hE⟩ := hR
          refine g_if_eq (tgt := 230) dX12_readWay_223 (by decide) (by omega) (fun h223 => ?_) (fun h223 => ?_)
          · refine g_iconst dX12_readWay_230 ?_
            exact G.retZ dX12_readWay_231 rfl (Or.inl rfl) (kE (8, k, -1) _ (by unfold prZ; rw [pI_t h180, pI_t (hus.mpr (by omega)), pI_f (by omega)]) (h.er hE))
          · omega
    · refine g_aload_n (j := 0) rfl dX12_readWay_194 ?_
      refine g_bipush dX12_readWay_195 (by omega) ?_
      refine g_callV dX12_readWay_197 mlX12_187 mvX12_fails (ci := 12) ⟨by decide, rfl⟩ (by assumption) (c_fails w (d + 5) μ h.1 (k := 7) e18 e19) sv1 rfl (by omega) (Nat.le_of_ble_eq_true rfl) (Nat.le_refl _) (Nat.le_refl _) (fun v μ2 hR => ?_)
      obtain ⟨rfl, hE⟩ := hR
      exact G.retZ dX12_readWay_200 rfl (Or.inl rfl) (kE (7, k, -1) _ (by unfold prZ; rw [pI_t h180, pI_f (fun z => hus.mp z (by omega))]) (h.er hE))
theorem prX_Z {z : Int} {u : Tm} {us : List Tm} {t : Nat} {s : Int} (hN : isN n B (tP n B (jW n B i))) (hv : tL u ≤ vW n B i ∧ vW n B i ≤ tH u) (hc : ¬ isSg n B (tP n B (jW n B i + 1)) 44) : prX n B z (u :: us) t s i = prZ n B us (s + tV u (vW n B i)) z (jW n B i + 1) := by
  unfold prX prZ
  rw [pI_t hN, pI_t hv, pI_f hc]
theorem sg_1 {k : Nat} {a b : Int} (h : isSg n B (tP n B k) a) (hab : a ≠ b) : ¬ isSg n B (tP n B k) b := fun z => hab (h.2.2.symm.trans z.2.2)
theorem l12_82 {d t : Nat} {s z sm fo : Int} {u : Tm} {us : List Tm} {R : Option AV → Mem → Prop} (h : PsM w μ m F n B i told) (hs : 0 ≤ s ∧ s ≤ 3) (e18 : mI μ m 18 = fo) (e19 : mI μ m 19 = (t : Int)) (hu : (F s)[t]? = some u) (hlen : (F s).length = t + 1 + us.length) (hsm : -100000 ≤ sm ∧ sm ≤ 100000) (hz : i32 z) (kE : (∀ (e : FlF) (μ2 : Mem), prX n B z (u :: us) t sm i = .inl e → PsE w m F (fa4 e.1 (tP n B e.2.1) fo e.2.2) μ μ2 → R (some (vI 0)) μ2)) (kN : (∀ (k : Nat) (μ2 : Mem), PsM w μ2 m F n B k told → mI μ2 m 18 = fo → mI μ2 m 19 = -1 → (isSg n B (tP n B k) 59 ∧ prX n B z (u :: us) t sm i = .inr (k + 1) ∨ ¬ isSg n B (tP n B k) 59 ∧ prX n B z (u :: us) t sm i = .inl (1, k, -1)) → PrZ m μ μ2 → R (some (vI 1)) μ2)) (kG : ∀ μ2, isN n B (tP n B (jW n B i)) → tL u ≤ vW n B i ∧ vW n B i ≤ tH u → isSg n B (tP n B (jW n B i + 1)) 44 → PsM w μ2 m F n B (jW n B i + 2) told → mI μ2 m 18 = fo → PrZ m μ μ2 → G w (d + 6) mX12_readWay R 0 0 19 [some (vP (some m)), some (vI s), some (vI z), some (vJ (sm + tV u (vW n B i))), none, some (vI ((t + 1 : Nat) : Int)), some (vI 1), some (vI 1)] [] μ2) : G w (d + 6) mX12_readWay R 0 0 82 [some (vP (some m)), some (vI s), some (vI z), some (vJ sm), none, some (vI (t : Int)), some (vI 1), some (vI 1)] [] μ := by
  have o0 := h.1.1.o
  have h5 := h.2.1.l5 hs
  refine g_aload_n (j := 0) rfl dX12_readWay_82 ?_
  refine g_callV dX12_readWay_83 mlX12_228 mvX12_comesToWhole (ci := 12) ⟨by decide, rfl⟩ (by assumption) (c_comes w (d + 2) μ h.1 e18 e19) sv0 rfl (by omega) (Nat.le_of_ble_eq_true rfl) (Nat.le_refl _) (Nat.le_refl _) (fun v μ1 hR => ?_)
  rcases hR with ⟨hN, rfl, hS1, e20, hr1⟩ | ⟨hN, rfl, hE⟩
  · refine g_if_ne (tgt := 91) dX12_readWay_86 (by decide) (by omega) (fun h86 => ?_) (fun h86 => ?_)
    · obtain ⟨hP1, hz1⟩ := h.rd hS1 hr1
      have e181 := FrZ.rd18 hr1 (j := 18) (by unfold Jn; omega) e18
      have e191 := FrZ.rd18 hr1 (j := 19) (by unfold Jn; omega) e19
      have o01 := hP1.1.1.o
      have hb := vW_bd hN
      obtain ⟨hm1, hm2, hm3, hm4⟩ := hP1.2.1.2.1 s hs
      obtain ⟨g1, g2, g3, g4⟩ := hm4 t u hu
      have htok := hm3 u (List.mem_of_getElem? hu)
      obtain ⟨⟨k1, k2, k3, k4⟩, -⟩ := htok.pv
      have htl := htok.2.2.1
      have ht5 : (t : Int) ≤ 4 := by omega
      refine g_aload_n (j := 0) rfl dX12_readWay_91 ?_
      refine g_callV dX12_readWay_92 mlX12_231 mvX12_whole (ci := 12) ⟨by decide, rfl⟩ (by assumption) (c_whole w (d + 5) μ1 hP1.1 hN e20) sv0 rfl (by omega) (Nat.le_of_ble_eq_true rfl) (Nat.le_refl _) (Nat.le_refl _) (fun v μ2 hR => ?_)
      obtain ⟨rfl, hm⟩ := hR
      replace hm := hm.symm
      subst hm
      refine g_i2l (by omega) dX12_readWay_95 ?_
      refine g_aload_n (j := 0) rfl dX12_readWay_96 ?_
      refine g_iload_n (j := 1) rfl dX12_readWay_97 ?_
      refine g_iload (i := 5) rfl dX12_readWay_98 ?_
      refine g_iconst dX12_readWay_100 ?_
      refine g_callV dX12_readWay_101 mlX12_93 mvX12_of (ci := 12) ⟨by decide, rfl⟩ (by assumption) (c_X12_of w (d + 5) μ1 hP1.1.1 (s := s) (i := (t : Int)) (k := 2) (by omega) (by omega) (by omega)) sv3 rfl (by omega) (Nat.le_of_ble_eq_true rfl) (Nat.le_refl _) (Nat.le_refl _) (fun v μ2 hR => ?_)
      obtain ⟨rfl, hm⟩ := hR
      replace hm := hm.symm
      subst hm
      rw [g3]
      refine g_i2l (by omega) dX12_readWay_104 ?_
      refine g_aload_n (j := 0) rfl dX12_readWay_105 ?_
      refine g_iload_n (j := 1) rfl dX12_readWay_106 ?_
      refine g_iload (i := 5) rfl dX12_readWay_107 ?_
      refine g_iconst dX12_readWay_109 ?_
      refine g_callV dX12_readWay_110 mlX12_93 mvX12_of (ci := 12) ⟨by decide, rfl⟩ (by assumption) (c_X12_of w (d + 5) μ1 hP1.1.1 (s := s) (i := (t : Int)) (k := 3) (by omega) (by omega) (by omega)) sv3 rfl (by omega) (Nat.le_of_ble_eq_true rfl) (Nat.le_refl _) (Nat.le_refl _) (fun v μ2 hR => ?_)
      obtain ⟨rfl, hm⟩ := hR
      replace hm := hm.symm
      subst hm
      rw [g4]
      refine g_i2l (by omega) dX12_readWay_113 ?_
      refine g_callS dX12_readWay_114 mlX12_105 msX12_isIn (c_X12_isIn w (d + 5) μ1 (x := vW n B i) (a := tL u) (b := tH u) (by omega) (by omega) (by omega)) sk3 rfl (by omega) (Nat.le_of_ble_eq_true rfl) (Nat.le_refl _) (Nat.le_refl _) (fun v μ2 hR => ?_)
      obtain ⟨rfl, hm⟩ := hR
      replace hm := hm.symm
      subst hm
      refine g_ifb_ne (tgt := 127) dX12_readWay_117 (by decide)  (fun h117 => ?_) (fun h117 => ?_)
      · have hval := htok.v3 h117.1 h117.2
        refine g_lload_n (j := 3) rfl dX12_readWay_127 ?_
        refine g_aload_n (j := 0) rfl dX12_readWay_128 ?_
        refine g_iload_n (j := 1) rfl dX12_readWay_129 ?_
        refine g_iload (i := 5) rfl dX12_readWay_130 ?_
        refine g_aload_n (j := 0) rfl dX12_readWay_132 ?_
        refine g_callV dX12_readWay_133 mlX12_231 mvX12_whole (ci := 12) ⟨by decide, rfl⟩ (by assumption) (c_whole w (d + 5) μ1 hP1.1 hN e20) sv0 rfl (by omega) (Nat.le_of_ble_eq_true rfl) (Nat.le_refl _) (Nat.le_refl _) (fun v μ2 hR => ?_)
        obtain ⟨rfl, hm⟩ := hR
        replace hm := hm.symm
        subst hm
        refine g_i2l (by omega) dX12_readWay_136 ?_
        refine g_callV dX12_readWay_137 mlX12_234 mvX12_valueOf (ci := 12) ⟨by decide, rfl⟩ (by assumption) (c_X12_valueOf w (d + 4) μ1 hP1.1.1 (s := s) (i := (t : Int)) (x := vW n B i) (by omega) (by omega) g1 g2 k1 k2 (by omega)) sv3 rfl (by omega) (Nat.le_of_ble_eq_true rfl) (Nat.le_refl _) (Nat.le_refl _) (fun v μ2 hR => ?_)
        obtain ⟨rfl, hm⟩ := hR
        replace hm := hm.symm
        subst hm
        rw [show pv (tK u) (tF u) (vW n B i) = tV u (vW n B i) from rfl]
        refine g_ladd dX12_readWay_140 ?_
        refine g_lstore_n (j := 3) dX12_readWay_141 (by decide) rfl lj3 ?_
        refine g_aload_n (j := 0) rfl dX12_readWay_142 ?_
        refine g_callV dX12_readWay_143 mlX12_190 mvX12_next (ci := 12) ⟨by decide, rfl⟩ (by assumption) (c_nextS w (d + 3) μ1 hP1.1) sv0 rfl (by omega) (Nat.le_of_ble_eq_true rfl) (Nat.le_refl _) (Nat.le_refl _) (fun v μ2 hR => ?_)
        obtain ⟨rfl, hS2, hr2⟩ := hR
        obtain ⟨hP2, hz2⟩ := hP1.rd hS2 hr2.T
        have e182 := FrZ.rd18 hr2 (j := 18) (by unfold Jn; omega) e181
        have o02 := hP2.1.1.o
        refine g_aload_n (j := 0) rfl dX12_readWay_146 ?_
        refine g_iconst dX12_readWay_147 ?_
        refine g_putI dX12_readWay_148 fpX12_165 rfl rfl rfl (by assumption) (kz := 19) rfl ?_
        obtain ⟨hP3, hz3⟩ := hP2.inn (v := -1) (j := 19) (Or.inr rfl)
        have e183 : mI (sI μ2 m 19 (-1)) m 18 = fo := by rw [mI_sI, if_neg (by omega)]; exact e182
        have e193 : mI (sI μ2 m 19 (-1)) m 19 = -1 := by rw [mI_sI, if_pos ⟨rfl, rfl⟩]
        have hz123 : PrZ m μ (sI μ2 m 19 (-1)) := FrZ.tr (FrZ.tr hz1 hz2) hz3
        generalize sI μ2 m 19 (-1) = μ3 at *
        have o03 := hP3.1.1.o
        refine g_iinc (i := 5) dX12_readWay_151 rfl (by decide) rfl ls5 ?_
        refine g_aload_n (j := 0) rfl dX12_readWay_154 ?_
        refine g_bipush dX12_readWay_155 (by omega) ?_
        refine g_callV dX12_readWay_157 mlX12_184 mvX12_isSign (ci := 12) ⟨by decide, rfl⟩ (by assumption) (c_isSign12 w (d + 5) μ3 hP3.1 (c := 44) (by omega)) sv1 rfl (by omega) (Nat.le_of_ble_eq_true rfl) (Nat.le_refl _) (Nat.le_refl _) (fun v μ2 hR => ?_)
        obtain ⟨rfl, hm⟩ := hR
        replace hm := hm.symm
        subst hm
        refine g_istore (i := 6) dX12_readWay_160 (by decide) rfl ls6 ?_
        have h01 := bI_01 (isSg n B (tP n B (jW n B i + 1)) 44)
        refine g_iload (i := 6) rfl dX12_readWay_162 ?_
        refine g_if_eq (tgt := 171) dX12_readWay_164 (by decide) (by omega) (fun h164 => ?_) (fun h164 => ?_)
        · refine g_goto (tgt := 19) (by decide) dX12_readWay_171 ?_
          have hc : ¬ isSg n B (tP n B (jW n B i + 1)) 44 := bI_is0.mp (by omega)
          rw [show bI (isSg n B (tP n B (jW n B i + 1)) 44) = 0 from bI_is0.mpr hc]
          refine g_iload (i := 6) rfl dX12_readWay_19 ?_
          refine g_if_eq (tgt := 174) dX12_readWay_21 (by decide) (by omega) (fun h21 => ?_) (fun h21 => ?_)
          · have er := prX_Z (z := z) (us := us) (t := t) (s := sm) hN h117 hc
            exact l12_174 (d := d) (t := t + 1) (us := us) hP3 hs e183 e193 ⟨fun q => by subst q; simp at hlen; omega, fun q => List.eq_nil_of_length_eq_zero (by omega)⟩ (by omega) hz (by omega) (fun e μ5 y1 y2 => kE e μ5 (er.trans y1) (PsE.tr hz123 y2)) (fun y => kN _ _ hP3 e183 e193 (by rw [er]; exact y) hz123)
          · omega
        · refine g_aload_n (j := 0) rfl dX12_readWay_167 ?_
          refine g_callV dX12_readWay_168 mlX12_190 mvX12_next (ci := 12) ⟨by decide, rfl⟩ (by assumption) (c_nextS w (d + 3) μ3 hP3.1) sv0 rfl (by omega) (Nat.le_of_ble_eq_true rfl) (Nat.le_refl _) (Nat.le_refl _) (fun v μ4 hR => ?_)
          obtain ⟨rfl, hS4, hr4⟩ := hR
          obtain ⟨hP4, hz4⟩ := hP3.rd hS4 hr4.T
          have e184 := FrZ.rd18 hr4 (j := 18) (by unfold Jn; omega) e183
          refine g_goto (tgt := 19) (by decide) dX12_readWay_171 ?_
          have hc : isSg n B (tP n B (jW n B i + 1)) 44 := bI_is1.mp (by omega)
          rw [show bI (isSg n B (tP n B (jW n B i + 1)) 44) = 1 from bI_is1.mpr hc]
          exact kG μ4 hN h117 hc hP4 e184 (FrZ.tr hz123 hz4)
      · refine g_aload_n (j := 0) rfl dX12_readWay_120 ?_
        refine g_bipush dX12_readWay_121 (by omega) ?_
        refine g_callV dX12_readWay_123 mlX12_187 mvX12_fails (ci := 12) ⟨by decide, rfl⟩ (by assumption) (c_fails w (d + 5) μ1 hP1.1 (k := 6) e181 e191) sv1 rfl (by omega) (Nat.le_of_ble_eq_true rfl) (Nat.le_refl _) (Nat.le_refl _) (fun v μ2 hR => ?_)
        obtain ⟨rfl, hE⟩ := hR
        exact G.retZ dX12_readWay_126 rfl (Or.inl rfl) (kE (6, jW n B i, (t : Int)) _ (by unfold prX; rw [pI_t hN, pI_f h117]) (PsE.tr hz1 (hP1.er hE)))
    · omega
  · refine g_if_ne (tgt := 91) dX12_readWay_86 (by decide) (by omega) (fun h86 => ?_) (fun h86 => ?_)
    · omega
    · refine g_iconst dX12_readWay_89 ?_
      exact G.retZ dX12_readWay_90 rfl (Or.inl rfl) (kE (1, jW n B i, (t : Int)) _ (by unfold prX; rw [pI_f hN]) (h.er hE))
theorem l12_19 {d : Nat} {s z fo : Int} {R : Option AV → Mem → Prop} (hs : 0 ≤ s ∧ s ≤ 3) (hz : -3000 ≤ z ∧ z ≤ 3000) : ∀ (us : List Tm) (t : Nat) (sm : Int) (i : Nat) (μ : Mem) {l7 : Option AV}, (F s).drop t = us → PsM w μ m F n B i told → mI μ m 18 = fo → (-3000 * (t : Int) ≤ sm ∧ sm ≤ 3000 * (t : Int) ∧ t ≤ (F s).length) → (∀ (e : FlF) (μ2 : Mem), prX n B z us t sm i = .inl e → PsE w m F (fa4 e.1 (tP n B e.2.1) fo e.2.2) μ μ2 → R (some (vI 0)) μ2) → (∀ (k : Nat) (μ2 : Mem), PsM w μ2 m F n B k told → mI μ2 m 18 = fo → mI μ2 m 19 = -1 → (isSg n B (tP n B k) 59 ∧ prX n B z us t sm i = .inr (k + 1) ∨ ¬ isSg n B (tP n B k) 59 ∧ prX n B z us t sm i = .inl (1, k, -1)) → PrZ m μ μ2 → R (some (vI 1)) μ2) → G w (d + 6) mX12_readWay R 0 0 19 [some (vP (some m)), some (vI s), some (vI z), some (vJ sm), none, some (vI (t : Int)), some (vI 1), l7] [] μ := by
  intro us
  induction us with
  | nil =>
    intro t sm i μ l7 hdr h e18 hb kE kN
    have htl : ((F s).length : Int) = (t : Int) := by
      have := congrArg List.length hdr
      rw [List.length_drop] at this
      simp at this
      omega
    have h5 := h.2.1.l5 hs
    have o0 := h.1.1.o
    refine g_iload (i := 6) rfl dX12_readWay_19 ?_
    refine g_if_eq (tgt := 174) dX12_readWay_21 (by decide) (by omega) (fun h21 => ?_) (fun h21 => ?_)
    · omega
    · refine g_aload_n (j := 0) rfl dX12_readWay_24 ?_
      refine g_iload (i := 5) rfl dX12_readWay_25 ?_
      refine g_putI dX12_readWay_27 fpX12_165 rfl rfl rfl (by assumption) (kz := 19) rfl ?_
      obtain ⟨hP1, hz1⟩ := h.inn (v := (t : Int)) (j := 19) (Or.inr rfl)
      have e181 : mI (sI μ m 19 (t : Int)) m 18 = fo := by rw [mI_sI, if_neg (by omega)]; exact e18
      have e191 : mI (sI μ m 19 (t : Int)) m 19 = (t : Int) := by rw [mI_sI, if_pos ⟨rfl, rfl⟩]
      generalize sI μ m 19 (t : Int) = μ1 at *
      have o01 := hP1.1.1.o
      have r01 := hP1.1.1.r0
      have a01 := hP1.1.1.a0
      have hmy := hP1.2.1.many hs
      refine g_aload_n (j := 0) rfl dX12_readWay_30 ?_
      refine g_callV dX12_readWay_31 mlX12_214 mvX12_isNumber (ci := 12) ⟨by decide, rfl⟩ (by assumption) (c_isNumber12 w (d + 5) μ1 hP1.1) sv0 rfl (by omega) (Nat.le_of_ble_eq_true rfl) (Nat.le_refl _) (Nat.le_refl _) (fun v μ2 hR => ?_)
      obtain ⟨rfl, hm⟩ := hR
      replace hm := hm.symm
      subst hm
      refine g_ifb_ne (tgt := 46) dX12_readWay_34 (by decide)  (fun h34 => ?_) (fun h34 => ?_)
      · refine g_iconst dX12_readWay_46 ?_
        refine g_goto (tgt := 51) (by decide) dX12_readWay_47 ?_
        refine g_istore (i := 7) dX12_readWay_51 (by decide) rfl ls7 ?_
        refine g_iload (i := 7) rfl dX12_readWay_53 ?_
        refine g_if_ne (tgt := 64) dX12_readWay_55 (by decide) (by omega) (fun h55 => ?_) (fun h55 => ?_)
        · refine g_iload (i := 5) rfl dX12_readWay_64 ?_
          refine g_aload_n (j := 0) rfl dX12_readWay_66 ?_
          refine g_getR dX12_readWay_67 flX12_9 rfl (by assumption) (kz := 0) rfl (by assumption) ?_
          refine g_iload_n (j := 1) rfl dX12_readWay_70 ?_
          refine g_iald dX12_readWay_71 (by assumption) (by omega) (by omega) ?_
          rw [hmy]
          refine g_icmp_ne (tgt := 82) dX12_readWay_72 (by decide) (by omega) (by omega) (fun h72 => ?_) (fun h72 => ?_)
          · omega
          · refine g_aload_n (j := 0) rfl dX12_readWay_75 ?_
            refine g_bipush dX12_readWay_76 (by omega) ?_
            refine g_callV dX12_readWay_78 mlX12_187 mvX12_fails (ci := 12) ⟨by decide, rfl⟩ (by assumption) (c_fails w (d + 5) μ1 hP1.1 (k := 7) e181 e191) sv1 rfl (by omega) (Nat.le_of_ble_eq_true rfl) (Nat.le_refl _) (Nat.le_refl _) (fun v μ2 hR => ?_)
            obtain ⟨rfl, hE⟩ := hR
            exact G.retZ dX12_readWay_81 rfl (Or.inl rfl) (kE (7, i, (t : Int)) _ (by unfold prX; exact pI_t (Or.inl h34)) (PsE.tr hz1 (hP1.er hE)))
        · omega
      · refine g_aload_n (j := 0) rfl dX12_readWay_37 ?_
        refine g_bipush dX12_readWay_38 (by omega) ?_
        refine g_callV dX12_readWay_40 mlX12_184 mvX12_isSign (ci := 12) ⟨by decide, rfl⟩ (by assumption) (c_isSign12 w (d + 5) μ1 hP1.1 (c := 45) (by omega)) sv1 rfl (by omega) (Nat.le_of_ble_eq_true rfl) (Nat.le_refl _) (Nat.le_refl _) (fun v μ2 hR => ?_)
        obtain ⟨rfl, hm⟩ := hR
        replace hm := hm.symm
        subst hm
        refine g_ifb_eq (tgt := 50) dX12_readWay_43 (by decide)  (fun h43 => ?_) (fun h43 => ?_)
        · refine g_iconst dX12_readWay_50 ?_
          refine g_istore (i := 7) dX12_readWay_51 (by decide) rfl ls7 ?_
          refine g_iload (i := 7) rfl dX12_readWay_53 ?_
          refine g_if_ne (tgt := 64) dX12_readWay_55 (by decide) (by omega) (fun h55 => ?_) (fun h55 => ?_)
          · omega
          · refine g_aload_n (j := 0) rfl dX12_readWay_58 ?_
            refine g_iconst dX12_readWay_59 ?_
            refine g_callV dX12_readWay_60 mlX12_187 mvX12_fails (ci := 12) ⟨by decide, rfl⟩ (by assumption) (c_fails w (d + 5) μ1 hP1.1 (k := 1) e181 e191) sv1 rfl (by omega) (Nat.le_of_ble_eq_true rfl) (Nat.le_refl _) (Nat.le_refl _) (fun v μ2 hR => ?_)
            obtain ⟨rfl, hE⟩ := hR
            exact G.retZ dX12_readWay_63 rfl (Or.inl rfl) (kE (1, i, (t : Int)) _ (by unfold prX; exact pI_f (fun q => q.elim h34 h43)) (PsE.tr hz1 (hP1.er hE)))
        · refine g_iconst dX12_readWay_46 ?_
          refine g_goto (tgt := 51) (by decide) dX12_readWay_47 ?_
          refine g_istore (i := 7) dX12_readWay_51 (by decide) rfl ls7 ?_
          refine g_iload (i := 7) rfl dX12_readWay_53 ?_
          refine g_if_ne (tgt := 64) dX12_readWay_55 (by decide) (by omega) (fun h55 => ?_) (fun h55 => ?_)
          · refine g_iload (i := 5) rfl dX12_readWay_64 ?_
            refine g_aload_n (j := 0) rfl dX12_readWay_66 ?_
            refine g_getR dX12_readWay_67 flX12_9 rfl (by assumption) (kz := 0) rfl (by assumption) ?_
            refine g_iload_n (j := 1) rfl dX12_readWay_70 ?_
            refine g_iald dX12_readWay_71 (by assumption) (by omega) (by omega) ?_
            rw [hmy]
            refine g_icmp_ne (tgt := 82) dX12_readWay_72 (by decide) (by omega) (by omega) (fun h72 => ?_) (fun h72 => ?_)
            · omega
            · refine g_aload_n (j := 0) rfl dX12_readWay_75 ?_
              refine g_bipush dX12_readWay_76 (by omega) ?_
              refine g_callV dX12_readWay_78 mlX12_187 mvX12_fails (ci := 12) ⟨by decide, rfl⟩ (by assumption) (c_fails w (d + 5) μ1 hP1.1 (k := 7) e181 e191) sv1 rfl (by omega) (Nat.le_of_ble_eq_true rfl) (Nat.le_refl _) (Nat.le_refl _) (fun v μ2 hR => ?_)
              obtain ⟨rfl, hE⟩ := hR
              exact G.retZ dX12_readWay_81 rfl (Or.inl rfl) (kE (7, i, (t : Int)) _ (by unfold prX; exact pI_t (Or.inr h43)) (PsE.tr hz1 (hP1.er hE)))
          · omega
  | cons u us ih =>
    intro t sm i μ l7 hdr h e18 hb kE kN
    have hlen : (F s).length = t + 1 + us.length := by
      have := congrArg List.length hdr
      rw [List.length_drop] at this
      simp at this
      omega
    have h5 := h.2.1.l5 hs
    have hu : (F s)[t]? = some u := by
      have := congrArg (fun l => l[0]?) hdr
      simpa using this
    have hdr2 : (F s).drop (t + 1) = us := by
      have := congrArg (List.drop 1) hdr
      rw [List.drop_drop] at this
      simpa using this
    have htok := h.2.1.ok hs u (List.mem_of_getElem? hu)
    have o0 := h.1.1.o
    refine g_iload (i := 6) rfl dX12_readWay_19 ?_
    refine g_if_eq (tgt := 174) dX12_readWay_21 (by decide) (by omega) (fun h21 => ?_) (fun h21 => ?_)
    · omega
    · refine g_aload_n (j := 0) rfl dX12_readWay_24 ?_
      refine g_iload (i := 5) rfl dX12_readWay_25 ?_
      refine g_putI dX12_readWay_27 fpX12_165 rfl rfl rfl (by assumption) (kz := 19) rfl ?_
      obtain ⟨hP1, hz1⟩ := h.inn (v := (t : Int)) (j := 19) (Or.inr rfl)
      have e181 : mI (sI μ m 19 (t : Int)) m 18 = fo := by rw [mI_sI, if_neg (by omega)]; exact e18
      have e191 : mI (sI μ m 19 (t : Int)) m 19 = (t : Int) := by rw [mI_sI, if_pos ⟨rfl, rfl⟩]
      generalize sI μ m 19 (t : Int) = μ1 at *
      have o01 := hP1.1.1.o
      have r01 := hP1.1.1.r0
      have a01 := hP1.1.1.a0
      have hmy := hP1.2.1.many hs
      refine g_aload_n (j := 0) rfl dX12_readWay_30 ?_
      refine g_callV dX12_readWay_31 mlX12_214 mvX12_isNumber (ci := 12) ⟨by decide, rfl⟩ (by assumption) (c_isNumber12 w (d + 5) μ1 hP1.1) sv0 rfl (by omega) (Nat.le_of_ble_eq_true rfl) (Nat.le_refl _) (Nat.le_refl _) (fun v μ2 hR => ?_)
      obtain ⟨rfl, hm⟩ := hR
      replace hm := hm.symm
      subst hm
      refine g_ifb_ne (tgt := 46) dX12_readWay_34 (by decide)  (fun h34 => ?_) (fun h34 => ?_)
      · refine g_iconst dX12_readWay_46 ?_
        refine g_goto (tgt := 51) (by decide) dX12_readWay_47 ?_
        refine g_istore (i := 7) dX12_readWay_51 (by decide) rfl ls7 ?_
        refine g_iload (i := 7) rfl dX12_readWay_53 ?_
        refine g_if_ne (tgt := 64) dX12_readWay_55 (by decide) (by omega) (fun h55 => ?_) (fun h55 => ?_)
        · refine g_iload (i := 5) rfl dX12_readWay_64 ?_
          refine g_aload_n (j := 0) rfl dX12_readWay_66 ?_
          refine g_getR dX12_readWay_67 flX12_9 rfl (by assumption) (kz := 0) rfl (by assumption) ?_
          refine g_iload_n (j := 1) rfl dX12_readWay_70 ?_
          refine g_iald dX12_readWay_71 (by assumption) (by omega) (by omega) ?_
          rw [hmy]
          refine g_icmp_ne (tgt := 82) dX12_readWay_72 (by decide) (by omega) (by omega) (fun h72 => ?_) (fun h72 => ?_)
          · refine l12_82 (d := d) hP1 hs e181 e191 hu hlen (by omega) (by omega) (fun e μ2 y1 y2 => kE e μ2 y1 (PsE.tr hz1 y2)) (fun k μ2 y1 y2 y3 y4 y5 => kN k μ2 y1 y2 y3 y4 (FrZ.tr hz1 y5)) (fun μ2 y1 y2 y3 y4 y5 y6 => ?_)
            have hval := htok.v3 y2.1 y2.2
            have er : prX n B z (u :: us) t sm i = prX n B z us (t + 1) (sm + tV u (vW n B i)) (jW n B i + 2) := by
              show pI _ _ _ = _
              rw [pI_t y1, pI_t y2, pI_f (sg_1 y3 (by decide)), pI_t y3]
            exact ih (t + 1) (sm + tV u (vW n B i)) (jW n B i + 2) μ2 hdr2 y4 y5 (by omega) (fun e μ3 x1 x2 => kE e μ3 (er.trans x1) (PsE.tr (FrZ.tr hz1 y6) x2)) (fun k μ3 x1 x2 x3 x4 x5 => kN k μ3 x1 x2 x3 (by rw [er]; exact x4) (FrZ.tr (FrZ.tr hz1 y6) x5))
          · omega
        · omega
      · refine g_aload_n (j := 0) rfl dX12_readWay_37 ?_
        refine g_bipush dX12_readWay_38 (by omega) ?_
        refine g_callV dX12_readWay_40 mlX12_184 mvX12_isSign (ci := 12) ⟨by decide, rfl⟩ (by assumption) (c_isSign12 w (d + 5) μ1 hP1.1 (c := 45) (by omega)) sv1 rfl (by omega) (Nat.le_of_ble_eq_true rfl) (Nat.le_refl _) (Nat.le_refl _) (fun v μ2 hR => ?_)
        obtain ⟨rfl, hm⟩ := hR
        replace hm := hm.symm
        subst hm
        refine g_ifb_eq (tgt := 50) dX12_readWay_43 (by decide)  (fun h43 => ?_) (fun h43 => ?_)
        · refine g_iconst dX12_readWay_50 ?_
          refine g_istore (i := 7) dX12_readWay_51 (by decide) rfl ls7 ?_
          refine g_iload (i := 7) rfl dX12_readWay_53 ?_
          refine g_if_ne (tgt := 64) dX12_readWay_55 (by decide) (by omega) (fun h55 => ?_) (fun h55 => ?_)
          · omega
          · refine g_aload_n (j := 0) rfl dX12_readWay_58 ?_
            refine g_iconst dX12_readWay_59 ?_
            refine g_callV dX12_readWay_60 mlX12_187 mvX12_fails (ci := 12) ⟨by decide, rfl⟩ (by assumption) (c_fails w (d + 5) μ1 hP1.1 (k := 1) e181 e191) sv1 rfl (by omega) (Nat.le_of_ble_eq_true rfl) (Nat.le_refl _) (Nat.le_refl _) (fun v μ2 hR => ?_)
            obtain ⟨rfl, hE⟩ := hR
            have ej : jW n B i = i := jW_0 h43
            exact G.retZ dX12_readWay_63 rfl (Or.inl rfl) (kE (1, i, (t : Int)) _ (by unfold prX; rw [ej, pI_f h34]) (PsE.tr hz1 (hP1.er hE)))
        · refine g_iconst dX12_readWay_46 ?_
          refine g_goto (tgt := 51) (by decide) dX12_readWay_47 ?_
          refine g_istore (i := 7) dX12_readWay_51 (by decide) rfl ls7 ?_
          refine g_iload (i := 7) rfl dX12_readWay_53 ?_
          refine g_if_ne (tgt := 64) dX12_readWay_55 (by decide) (by omega) (fun h55 => ?_) (fun h55 => ?_)
          · refine g_iload (i := 5) rfl dX12_readWay_64 ?_
            refine g_aload_n (j := 0) rfl dX12_readWay_66 ?_
            refine g_getR dX12_readWay_67 flX12_9 rfl (by assumption) (kz := 0) rfl (by assumption) ?_
            refine g_iload_n (j := 1) rfl dX12_readWay_70 ?_
            refine g_iald dX12_readWay_71 (by assumption) (by omega) (by omega) ?_
            rw [hmy]
            refine g_icmp_ne (tgt := 82) dX12_readWay_72 (by decide) (by omega) (by omega) (fun h72 => ?_) (fun h72 => ?_)
            · refine l12_82 (d := d) hP1 hs e181 e191 hu hlen (by omega) (by omega) (fun e μ2 y1 y2 => kE e μ2 y1 (PsE.tr hz1 y2)) (fun k μ2 y1 y2 y3 y4 y5 => kN k μ2 y1 y2 y3 y4 (FrZ.tr hz1 y5)) (fun μ2 y1 y2 y3 y4 y5 y6 => ?_)
              have hval := htok.v3 y2.1 y2.2
              have er : prX n B z (u :: us) t sm i = prX n B z us (t + 1) (sm + tV u (vW n B i)) (jW n B i + 2) := by
                show pI _ _ _ = _
                rw [pI_t y1, pI_t y2, pI_f (sg_1 y3 (by decide)), pI_t y3]
              exact ih (t + 1) (sm + tV u (vW n B i)) (jW n B i + 2) μ2 hdr2 y4 y5 (by omega) (fun e μ3 x1 x2 => kE e μ3 (er.trans x1) (PsE.tr (FrZ.tr hz1 y6) x2)) (fun k μ3 x1 x2 x3 x4 x5 => kN k μ3 x1 x2 x3 (by rw [er]; exact x4) (FrZ.tr (FrZ.tr hz1 y6) x5))
            · omega
          · omega
end PM
theorem c_X12_readWay (w : WC) (d : Nat) (μ : Mem) {m i : Nat} {F : Int → List Tm} {n : Int} {B : Int → Int} {told : List Int} {s z fo : Int} (h : PsM w μ m F n B i told) (hs : 0 ≤ s ∧ s ≤ 3) (hz : -3000 ≤ z ∧ z ≤ 3000) (e18 : mI μ m 18 = fo) (e19 : mI μ m 19 = -1) (hnw : ¬ isWd n B (tP n B i) 7) : Con w (d + 6) mX12_readWay 0 0 [vP (some m), vI s, vI z] μ (fun v μ2 => (v = some (vI 0) ∧ ∃ e, prR n B (F s) z i = .inl e ∧ PsE w m F (fa4 e.1 (tP n B e.2.1) fo e.2.2) μ μ2) ∨ (v = some (vI 1) ∧ ∃ k, PsM w μ2 m F n B k told ∧ mI μ2 m 18 = fo ∧ mI μ2 m 19 = -1 ∧ (isSg n B (tP n B k) 59 ∧ prR n B (F s) z i = .inr (k + 1) ∨ ¬ isSg n B (tP n B k) 59 ∧ prR n B (F s) z i = .inl (1, k, -1)) ∧ PrZ m μ μ2)) := by
  have o0 := h.1.1.o
  refine Con.of (by decide) (Nat.le_of_ble_eq_true rfl) rfl ?_
  refine g_aload_n (j := 0) rfl dX12_readWay_0 ?_
  refine g_bipush dX12_readWay_1 (by omega) ?_
  refine g_callV dX12_readWay_3 mlX12_253 mvX12_takesSign (ci := 12) ⟨by decide, rfl⟩ (by assumption) (c_takesSign w (d + 2) μ h.1 (c := 61) (by omega) e18 e19) sv1 rfl (by omega) (Nat.le_of_ble_eq_true rfl) (Nat.le_refl _) (Nat.le_refl _) (fun v μ1 hR => ?_)
  rcases hR with ⟨hg, rfl, hS1, hr1⟩ | ⟨hg, rfl, hE⟩
  · refine g_if_ne (tgt := 11) dX12_readWay_6 (by decide) (by omega) (fun h6 => ?_) (fun h6 => ?_)
    · refine g_lconst0 dX12_readWay_11 ?_
      refine g_lstore_n (j := 3) dX12_readWay_12 (by decide) rfl lj3 ?_
      refine g_iconst dX12_readWay_13 ?_
      refine g_istore (i := 5) dX12_readWay_14 (by decide) rfl ls5 ?_
      refine g_iconst dX12_readWay_16 ?_
      refine g_istore (i := 6) dX12_readWay_17 (by decide) rfl ls6 ?_
      obtain ⟨hP1, hz1⟩ := h.rd hS1 hr1.T
      have er : prR n B (F s) z i = prX n B z (F s) 0 0 (i + 1) := pI_t hg
      exact l12_19 (d := d) hs hz (F s) 0 0 (i + 1) μ1 List.drop_zero hP1 (FrZ.rd18 hr1 (by unfold Jn; omega) e18) (by omega) (fun e μ2 y1 y2 => Or.inl ⟨rfl, e, er.trans y1, PsE.tr hz1 y2⟩) (fun k μ2 y1 y2 y3 y4 y5 => Or.inr ⟨rfl, k, y1, y2, y3, by rw [er]; exact y4, FrZ.tr hz1 y5⟩)
    · omega
  · refine g_if_ne (tgt := 11) dX12_readWay_6 (by decide) (by omega) (fun h6 => ?_) (fun h6 => ?_)
    · omega
    · refine g_iconst dX12_readWay_9 ?_
      exact G.retZ dX12_readWay_10 rfl (Or.inl rfl) (Or.inl ⟨rfl, (1, i, -1), by unfold prR; rw [pI_f hg, pI_f hnw], h.er hE⟩)
section PQ
variable {w : WC} {m i i2 : Nat} {F : Int → List Tm} {n : Int} {B : Int → Int} {told : List Int} {μ μ2 μ3 : Mem}
theorem PsM.add (h : PsM w μ m F n B i told) {z : Int} (hz : -3000 ≤ z ∧ z ≤ 3000) : PsM w (sI (sI μ (m + 11) (told.length : Int) z) m 32 ((told.length : Int) + 1)) m F n B i (told ++ [z]) ∧ PrZ m μ (sI (sI μ (m + 11) (told.length : Int) z) m 32 ((told.length : Int) + 1)) := by
  have hf : FrZ m (fun a => a = m + 11) (fun j => j = 32) μ (sI (sI μ (m + 11) (told.length : Int) z) m 32 ((told.length : Int) + 1)) := by
    refine ⟨(Fr.sI (P := fun a => a = m ∨ a = m + 11) (Or.inr rfl)).tr (Fr.sI (P := fun a => a = m ∨ a = m + 11) (Or.inl rfl)), fun j hj => ?_⟩
    rw [mI_sI, if_neg (by omega), mI_sI, if_neg (by omega)]
  refine ⟨⟨h.1.fr hf ⟨by omega, by omega, fun k z1 z2 z => by omega⟩ (by omega) rfl, FrZ.MA hf h.2.1 ⟨by omega, by omega, by omega, by omega⟩ (by omega), ?_, fun k y hy => ?_⟩, FrZ.mono hf (fun _ z => Or.inr z) (fun k z => Or.inr (Or.inr z))⟩
  · rw [mI_sI, if_pos ⟨rfl, rfl⟩, List.length_append]
    rfl
  · rcases Nat.lt_or_ge k told.length with q | q
    · rw [List.getElem?_append_left q] at hy
      rw [mI_sI, if_neg (by omega), mI_sI, if_neg (by omega)]
      exact h.2.2.2 k y hy
    · rw [List.getElem?_append_right q] at hy
      have hk : k = told.length := by
        rcases Nat.eq_zero_or_pos (k - told.length) with r | r
        · omega
        · rw [List.getElem?_eq_none (by simp; omega)] at hy
          cases hy
      subst hk
      simp at hy
      subst hy
      rw [mI_sI, if_neg (by omega), mI_sI, if_pos ⟨rfl, rfl⟩]
      exact ⟨rfl, hz⟩
theorem l12_152 {d k : Nat} {s l2 z fo : Int} {R : Option AV → Mem → Prop} (h : PsM w μ m F n B k told) (e18 : mI μ m 18 = fo) (e19 : mI μ m 19 = -1) (hl : told.length < 60) (hz : -3000 ≤ z ∧ z ≤ 3000) (kE : ¬ isSg n B (tP n B k) 59 → ∀ μ2, PsE w m F (fa4 1 (tP n B k) fo (-1)) μ μ2 → R (some (vI 0)) μ2) (kS : isSg n B (tP n B k) 59 → ∀ μ2, PsM w μ2 m F n B (k + 1) (told ++ [z]) → mI μ2 m 18 = fo → mI μ2 m 19 = -1 → PrZ m μ μ2 → R (some (vI 1)) μ2) : G w (d + 7) mX12_readLine R 0 0 152 [some (vP (some m)), some (vI s), some (vI l2), some (vI z)] [] μ := by
  have o0 := h.1.1.o
  refine g_aload_n (j := 0) rfl dX12_readLine_152 ?_
  refine g_bipush dX12_readLine_153 (by omega) ?_
  refine g_callV dX12_readLine_155 mlX12_253 mvX12_takesSign (ci := 12) ⟨by decide, rfl⟩ (by assumption) (c_takesSign w (d + 2) μ h.1 (c := 59) (by omega) e18 e19) sv1 rfl (by omega) (Nat.le_of_ble_eq_true rfl) (Nat.le_refl _) (Nat.le_refl _) (fun v μ1 hR => ?_)
  rcases hR with ⟨hg, rfl, hS1, hr1⟩ | ⟨hg, rfl, hE⟩
  · refine g_if_ne (tgt := 163) dX12_readLine_158 (by decide) (by omega) (fun h158 => ?_) (fun h158 => ?_)
    · obtain ⟨hP1, hz1⟩ := h.rd hS1 hr1.T
      have e32 := hP1.2.2.1
      have o01 := hP1.1.1.o
      have r31 := hP1.1.1.r31
      have a31 := hP1.1.1.a31
      refine g_aload_n (j := 0) rfl dX12_readLine_163 ?_
      refine g_getR dX12_readLine_164 flX12_60 rfl (by assumption) (kz := 31) rfl (by assumption) ?_
      refine g_aload_n (j := 0) rfl dX12_readLine_167 ?_
      refine g_getI dX12_readLine_168 flX12_324 rfl (by assumption) (kz := 32) rfl ?_
      rw [e32]
      refine g_iload_n (j := 3) rfl dX12_readLine_171 ?_
      refine g_iast dX12_readLine_172 (by assumption) (by omega) (by omega) ?_
      refine g_aload_n (j := 0) rfl dX12_readLine_173 ?_
      refine g_dup rfl dX12_readLine_174 ?_
      refine g_getIv dX12_readLine_175 flX12_324 rfl (by simp only [IsO_sI, IsO_sL, IsO_sR, IsO_wI, IsO_wL, IsA_sI, IsA_sL, IsA_sR, IsA_wI, IsA_wL, mR_sI, mR_sL, mR_wI, mR_wL]; assumption) (kz := 32) rfl (by simp [mI_sI, mI_sL, mI_sR, mI_wI, mI_wL, mL_sI, mL_sL, mL_sR, mL_wI, mL_wL, e32]; rfl) ?_
      refine g_iconst dX12_readLine_178 ?_
      refine g_iadd dX12_readLine_179 ?_
      refine g_putI dX12_readLine_180 fpX12_324 rfl rfl rfl (by simp only [IsO_sI, IsO_sL, IsO_sR, IsO_wI, IsO_wL, IsA_sI, IsA_sL, IsA_sR, IsA_wI, IsA_wL, mR_sI, mR_sL, mR_wI, mR_wL]; assumption) (kz := 32) rfl ?_
      refine g_iconst dX12_readLine_183 ?_
      obtain ⟨hP2, hz2⟩ := hP1.add hz
      exact G.retZ dX12_readLine_184 rfl (Or.inr rfl) (kS hg _ hP2 (by rw [mI_sI, if_neg (by omega), mI_sI, if_neg (by omega)]; exact FrZ.rd18 hr1 (by unfold Jn; omega) e18) (by rw [mI_sI, if_neg (by omega), mI_sI, if_neg (by omega)]; exact FrZ.rd18 hr1 (by unfold Jn; omega) e19) (FrZ.tr hz1 hz2))
    · omega
  · refine g_if_ne (tgt := 163) dX12_readLine_158 (by decide) (by omega) (fun h158 => ?_) (fun h158 => ?_)
    · omega
    · refine g_iconst dX12_readLine_161 ?_
      exact G.retZ dX12_readLine_162 rfl (Or.inl rfl) (kE hg _ (h.er hE))
end PQ
theorem wd_sg {n : Int} {B : Int → Int} {p : Int} {t : Nat} {c : Int} (h : isWd n B p t) : ¬ isSg n B p c := fun z => by
  have a := h.2.1
  have b := z.2.1
  omega
theorem N_sg {n : Int} {B : Int → Int} {p : Int} {c : Int} (h : isN n B p) : ¬ isSg n B p c := fun z => by
  have a := h.2.1
  have b := z.2.1
  omega
theorem l12_70 {w : WC} {d m i : Nat} {F : Int → List Tm} {n s fo l2 : Int} {B : Int → Int} {told : List Int} {μ : Mem} (h : PsM w μ m F n B i told) (hs : 0 ≤ s ∧ s ≤ 3) (e18 : mI μ m 18 = fo) (e19 : mI μ m 19 = -1) (hl : told.length < 60) : G w (d + 7) mX12_readLine (fun v μ2 => (v = some (vI 0) ∧ ∃ e, prL n B (F s) told i = .inl e ∧ PsE w m F (fa4 e.1 (tP n B e.2.1) fo e.2.2) μ μ2) ∨ (v = some (vI 1) ∧ ∃ j, prL n B (F s) told i = .inr j ∧ told.length < 60 ∧ PsM w μ2 m F n B j (told ++ [vW n B i]) ∧ mI μ2 m 18 = fo ∧ mI μ2 m 19 = -1 ∧ PrZ m μ μ2)) 0 0 70 [some (vP (some m)), some (vI s), some (vI l2), none] [] μ := by
  have o0 := h.1.1.o
  have eL : prL n B (F s) told i = prS n B (F s) told i := pI_f (fun z => by omega)
  refine g_aload_n (j := 0) rfl dX12_readLine_70 ?_
  refine g_callV dX12_readLine_71 mlX12_228 mvX12_comesToWhole (ci := 12) ⟨by decide, rfl⟩ (by assumption) (c_comes w (d + 3) μ h.1 e18 e19) sv0 rfl (by omega) (Nat.le_of_ble_eq_true rfl) (Nat.le_refl _) (Nat.le_refl _) (fun v μ1 hR => ?_)
  rcases hR with ⟨hN, rfl, hS1, e20, hr1⟩ | ⟨hN, rfl, hE⟩
  · refine g_if_ne (tgt := 79) dX12_readLine_74 (by decide) (by omega) (fun h74 => ?_) (fun h74 => ?_)
    · obtain ⟨hP1, hz1⟩ := h.rd hS1 hr1
      have e181 := FrZ.rd18 hr1 (j := 18) (by unfold Jn; omega) e18
      have e191 := FrZ.rd18 hr1 (j := 19) (by unfold Jn; omega) e19
      have o01 := hP1.1.1.o
      have hb := vW_bd hN
      have e321 := hP1.2.2.1
      refine g_aload_n (j := 0) rfl dX12_readLine_79 ?_
      refine g_callV dX12_readLine_80 mlX12_231 mvX12_whole (ci := 12) ⟨by decide, rfl⟩ (by assumption) (c_whole w (d + 6) μ1 hP1.1 hN e20) sv0 rfl (by omega) (Nat.le_of_ble_eq_true rfl) (Nat.le_refl _) (Nat.le_refl _) (fun v μ2 hR => ?_)
      obtain ⟨rfl, hm⟩ := hR
      replace hm := hm.symm
      subst hm
      refine g_istore_n (j := 3) dX12_readLine_83 (by decide) rfl ls3 ?_
      refine g_aload_n (j := 0) rfl dX12_readLine_84 ?_
      refine g_iload_n (j := 3) rfl dX12_readLine_85 ?_
      refine g_callV dX12_readLine_86 mlX12_327 mvX12_isOut (ci := 12) ⟨by decide, rfl⟩ (by assumption) (c_isOut w (d + 4) (z := vW n B i) hP1.1.1 e321 (by omega) (by omega) hP1.2.2.2) sv1 rfl (by omega) (Nat.le_of_ble_eq_true rfl) (Nat.le_refl _) (Nat.le_refl _) (fun v μ2 hR => ?_)
      obtain ⟨rfl, hm⟩ := hR
      replace hm := hm.symm
      subst hm
      refine g_ifb_eq (tgt := 98) dX12_readLine_89 (by decide)  (fun h89 => ?_) (fun h89 => ?_)
      · have hb2 : -3000 ≤ vW n B i ∧ vW n B i ≤ 3000 := by
          rcases Classical.em (-3000 ≤ vW n B i ∧ vW n B i ≤ 3000) with q | q
          · exact q
          · exact absurd (Or.inr q) h89
        have er : prL n B (F s) told i = prR n B (F s) (vW n B i) (jW n B i + 1) := by
          rw [eL]
          unfold prS
          rw [pI_t hN, pI_f (fun z => h89 z.symm), pI_f (by omega)]
        refine g_aload_n (j := 0) rfl dX12_readLine_98 ?_
        refine g_callV dX12_readLine_99 mlX12_190 mvX12_next (ci := 12) ⟨by decide, rfl⟩ (by assumption) (c_nextS w (d + 4) μ1 hP1.1) sv0 rfl (by omega) (Nat.le_of_ble_eq_true rfl) (Nat.le_refl _) (Nat.le_refl _) (fun v μ2 hR => ?_)
        obtain ⟨rfl, hS2, hr2⟩ := hR
        obtain ⟨hP2, hz2⟩ := hP1.rd hS2 hr2.T
        have e182 := FrZ.rd18 hr2 (j := 18) (by unfold Jn; omega) e181
        have e192 := FrZ.rd18 hr2 (j := 19) (by unfold Jn; omega) e191
        have hz12 : PrZ m μ μ2 := FrZ.tr hz1 hz2
        have o02 := hP2.1.1.o
        refine g_aload_n (j := 0) rfl dX12_readLine_102 ?_
        refine g_ldcwT dX12_readLine_103 (n := 7) (tx := "not") (List.mem_of_getElem? (i := 18) rfl) ?_
        refine g_callV dX12_readLine_106 mlX12_198 mvX12_isWord (ci := 12) ⟨by decide, rfl⟩ (by assumption) (c_isWord12 w (d + 1) μ2 hP2.1 (t := 7) (by omega)) sv1 rfl (by omega) (Nat.le_of_ble_eq_true rfl) (Nat.le_refl _) (Nat.le_refl _) (fun v μ2 hR => ?_)
        obtain ⟨rfl, hm⟩ := hR
        replace hm := hm.symm
        subst hm
        refine g_ifb_eq (tgt := 141) dX12_readLine_109 (by decide)  (fun h109 => ?_) (fun h109 => ?_)
        · refine g_aload_n (j := 0) rfl dX12_readLine_141 ?_
          refine g_iload_n (j := 1) rfl dX12_readLine_142 ?_
          refine g_iload_n (j := 3) rfl dX12_readLine_143 ?_
          refine g_callV dX12_readLine_144 mlX12_332 mvX12_readWay (ci := 12) ⟨by decide, rfl⟩ (by assumption) (c_X12_readWay w d μ2 hP2 hs hb2 e182 e192 h109) sv2 rfl (by omega) (Nat.le_of_ble_eq_true rfl) (Nat.le_refl _) (Nat.le_refl _) (fun v μ5 hR => ?_)
          rcases hR with ⟨rfl, e, hr, hE⟩ | ⟨rfl, k, hPk, e18k, e19k, hrk, hzk⟩
          · refine g_if_ne (tgt := 152) dX12_readLine_147 (by decide) (by omega) (fun h147 => ?_) (fun h147 => ?_)
            · omega
            · refine g_iconst dX12_readLine_150 ?_
              exact G.retZ dX12_readLine_151 rfl (Or.inl rfl) (Or.inl ⟨rfl, e, er.trans hr, PsE.tr hz12 hE⟩)
          · refine g_if_ne (tgt := 152) dX12_readLine_147 (by decide) (by omega) (fun h147 => ?_) (fun h147 => ?_)
            · have hz15 : PrZ m μ μ5 := FrZ.tr hz12 hzk
              exact l12_152 (d := d) hPk e18k e19k hl hb2 (fun y μ6 x1 => Or.inl ⟨rfl, (1, k, -1), er.trans (hrk.elim (fun z => absurd z.1 y) (fun z => z.2)), PsE.tr hz15 x1⟩) (fun y μ6 x1 x2 x3 x4 => Or.inr ⟨rfl, k + 1, er.trans (hrk.elim (fun z => z.2) (fun z => absurd y z.1)), hl, x1, x2, x3, FrZ.tr hz15 x4⟩)
            · omega
        · refine g_aload_n (j := 0) rfl dX12_readLine_112 ?_
          refine g_iload_n (j := 1) rfl dX12_readLine_113 ?_
          refine g_callV dX12_readLine_114 mlX12_282 mvX12_lays (ci := 12) ⟨by decide, rfl⟩ (by assumption) (c_X12_lays w (d + 2) μ2 hP2.2.1 hs) sv1 rfl (by omega) (Nat.le_of_ble_eq_true rfl) (Nat.le_refl _) (Nat.le_refl _) (fun v μ3 hR => ?_)
          obtain ⟨rfl, hA3, hL3, hf3⟩ := hR
          have hP3 : PsM w μ3 m F n B (jW n B i + 1) told := ⟨hP2.1.fr hf3.Z ⟨by omega, by omega, fun k z1 z2 z => by omega⟩ (by omega) (hf3.2.2 15), hA3, (hf3.2.1 32 (by omega)).trans hP2.2.2.1, fun k z hz => by rw [hf3.1.I hP2.1.1.a31.2.1 (by omega)]; exact hP2.2.2.2 k z hz⟩
          have hz13 : PrZ m μ μ3 := FrZ.tr hz12 (FrZ.mono hf3.Z (fun _ z => Or.inl z) (fun _ z => Or.inr (Or.inl z)))
          have e183 := (hf3.2.1 18 (by omega)).trans e182
          have e193 := (hf3.2.1 19 (by omega)).trans e192
          have o03 := hP3.1.1.o
          have h64 := wy_64 (hA3.ok hs) (hA3.l5 hs) (vW n B i)
          refine g_aload_n (j := 0) rfl dX12_readLine_117 ?_
          refine g_iload_n (j := 3) rfl dX12_readLine_118 ?_
          refine g_callV dX12_readLine_119 mlX12_285 mvX12_waysOf (ci := 12) ⟨by decide, rfl⟩ (by assumption) (c_X12_wy w (d + 4) μ3 hA3.1 hL3 (hA3.ok hs) (hA3.l5 hs) (n := vW n B i) (by omega)) sv1 rfl (by omega) (Nat.le_of_ble_eq_true rfl) (Nat.le_refl _) (Nat.le_refl _) (fun v μ4 hR => ?_)
          obtain ⟨rfl, hm⟩ := hR
          replace hm := hm.symm
          subst hm
          refine g_lconst0 dX12_readLine_122 ?_
          refine g_lif_le (tgt := 134) dX12_readLine_123 dX12_readLine_124 (by decide) (by omega) (by omega) (fun h123 => ?_) (fun h123 => ?_)
          · refine g_aload_n (j := 0) rfl dX12_readLine_134 ?_
            refine g_callV dX12_readLine_135 mlX12_190 mvX12_next (ci := 12) ⟨by decide, rfl⟩ (by assumption) (c_nextS w (d + 4) μ3 hP3.1) sv0 rfl (by omega) (Nat.le_of_ble_eq_true rfl) (Nat.le_refl _) (Nat.le_refl _) (fun v μ4 hR => ?_)
            obtain ⟨rfl, hS4, hr4⟩ := hR
            obtain ⟨hP4, hz4⟩ := hP3.rd hS4 hr4.T
            have hz14 : PrZ m μ μ4 := FrZ.tr hz13 hz4
            have e184 := FrZ.rd18 hr4 (j := 18) (by unfold Jn; omega) e183
            have e194 := FrZ.rd18 hr4 (j := 19) (by unfold Jn; omega) e193
            have o04 := hP4.1.1.o
            refine g_goto (tgt := 152) (by decide) dX12_readLine_138 ?_
            have er2 : prL n B (F s) told i = pI (isSg n B (tP n B (jW n B i + 1 + 1)) 59) (.inr (jW n B i + 1 + 2)) (.inl (1, jW n B i + 1 + 1, -1)) := by
              rw [er]
              unfold prR prN
              rw [pI_f (wd_sg h109), pI_t h109, pI_f (by omega)]
            exact l12_152 (d := d) hP4 e184 e194 hl hb2 (fun y μ5 x1 => Or.inl ⟨rfl, _, er2.trans (pI_f y), PsE.tr hz14 x1⟩) (fun y μ5 x1 x2 x3 x4 => Or.inr ⟨rfl, _, er2.trans (pI_t y), hl, x1, x2, x3, FrZ.tr hz14 x4⟩)
          · refine g_aload_n (j := 0) rfl dX12_readLine_127 ?_
            refine g_bipush dX12_readLine_128 (by omega) ?_
            refine g_callV dX12_readLine_130 mlX12_187 mvX12_fails (ci := 12) ⟨by decide, rfl⟩ (by assumption) (c_fails w (d + 6) μ3 hP3.1 (k := 8) e183 e193) sv1 rfl (by omega) (Nat.le_of_ble_eq_true rfl) (Nat.le_refl _) (Nat.le_refl _) (fun v μ4 hR => ?_)
            obtain ⟨rfl, hE⟩ := hR
            exact G.retZ dX12_readLine_133 rfl (Or.inl rfl) (Or.inl ⟨rfl, (8, jW n B i + 1, -1), by rw [er]; unfold prR prN; rw [pI_f (wd_sg h109), pI_t h109, pI_t (by omega)], PsE.tr hz13 (hP3.er hE)⟩)
      · refine g_aload_n (j := 0) rfl dX12_readLine_92 ?_
        refine g_iconst dX12_readLine_93 ?_
        refine g_callV dX12_readLine_94 mlX12_187 mvX12_fails (ci := 12) ⟨by decide, rfl⟩ (by assumption) (c_fails w (d + 6) μ1 hP1.1 (k := 5) e181 e191) sv1 rfl (by omega) (Nat.le_of_ble_eq_true rfl) (Nat.le_refl _) (Nat.le_refl _) (fun v μ2 hR => ?_)
        obtain ⟨rfl, hE⟩ := hR
        exact G.retZ dX12_readLine_97 rfl (Or.inl rfl) (Or.inl ⟨rfl, (5, jW n B i, -1), by rw [eL]; unfold prS; rw [pI_t hN, pI_t h89.symm], PsE.tr hz1 (hP1.er hE)⟩)
    · omega
  · refine g_if_ne (tgt := 79) dX12_readLine_74 (by decide) (by omega) (fun h74 => ?_) (fun h74 => ?_)
    · omega
    · refine g_iconst dX12_readLine_77 ?_
      exact G.retZ dX12_readLine_78 rfl (Or.inl rfl) (Or.inl ⟨rfl, (1, jW n B i, -1), eL.trans (pI_f hN), h.er hE⟩)
theorem vW_0 {n : Int} {B : Int → Int} {i : Nat} (h : ¬ isSg n B (tP n B i) 45) : vW n B i = ka n B (tP n B i) := by
  unfold vW
  rw [cI_f h, jW_0 h]
theorem c_X12_readLine (w : WC) (d : Nat) (μ : Mem) {m i : Nat} {F : Int → List Tm} {n s fo : Int} {B : Int → Int} {told : List Int} (h : PsM w μ m F n B i told) (hs : 0 ≤ s ∧ s ≤ 3) (e18 : mI μ m 18 = fo) (e19 : mI μ m 19 = -1) (hl : told.length ≤ 60) : Con w (d + 7) mX12_readLine 0 0 [vP (some m), vI s] μ (fun v μ2 => (v = some (vI 0) ∧ ∃ e, prL n B (F s) told i = .inl e ∧ PsE w m F (fa4 e.1 (tP n B e.2.1) fo e.2.2) μ μ2) ∨ (v = some (vI 1) ∧ ∃ j, prL n B (F s) told i = .inr j ∧ told.length < 60 ∧ PsM w μ2 m F n B j (told ++ [vW n B i]) ∧ mI μ2 m 18 = fo ∧ mI μ2 m 19 = -1 ∧ PrZ m μ μ2)) := by
  have o0 := h.1.1.o
  have e32 := h.2.2.1
  obtain ⟨-, -, ⟨-, -, f12, -, f16, -⟩, -⟩ := id h.1
  refine Con.of (by decide) (Nat.le_of_ble_eq_true rfl) rfl ?_
  refine g_aload_n (j := 0) rfl dX12_readLine_0 ?_
  refine g_callV dX12_readLine_1 mlX12_214 mvX12_isNumber (ci := 12) ⟨by decide, rfl⟩ (by assumption) (c_isNumber12 w (d + 6) μ h.1) sv0 rfl (by omega) (Nat.le_of_ble_eq_true rfl) (Nat.le_refl _) (Nat.le_refl _) (fun v μ2 hR => ?_)
  obtain ⟨rfl, hm⟩ := hR
  replace hm := hm.symm
  subst hm
  refine g_ifb_ne (tgt := 16) dX12_readLine_4 (by decide)  (fun h4 => ?_) (fun h4 => ?_)
  · refine g_iconst dX12_readLine_16 ?_
    refine g_goto (tgt := 21) (by decide) dX12_readLine_17 ?_
    refine g_istore_n (j := 2) dX12_readLine_21 (by decide) rfl ls2 ?_
    refine g_iload_n (j := 2) rfl dX12_readLine_22 ?_
    refine g_if_ne (tgt := 32) dX12_readLine_23 (by decide) (by omega) (fun h23 => ?_) (fun h23 => ?_)
    · refine g_aload_n (j := 0) rfl dX12_readLine_32 ?_
      refine g_getI dX12_readLine_33 flX12_324 rfl (by assumption) (kz := 32) rfl ?_
      refine g_bipush dX12_readLine_36 (by omega) ?_
      rw [e32]
      refine g_icmp_ne (tgt := 70) dX12_readLine_38 (by decide) (by omega) (by omega) (fun h38 => ?_) (fun h38 => ?_)
      · exact l12_70 (d := d) h hs e18 e19 (by omega)
      · refine g_aload_n (j := 0) rfl dX12_readLine_41 ?_
        refine g_aload_n (j := 0) rfl dX12_readLine_42 ?_
        refine g_callV dX12_readLine_43 mlX12_214 mvX12_isNumber (ci := 12) ⟨by decide, rfl⟩ (by assumption) (c_isNumber12 w (d + 6) μ h.1) sv0 rfl (by omega) (Nat.le_of_ble_eq_true rfl) (Nat.le_refl _) (Nat.le_refl _) (fun v μ2 hR => ?_)
        obtain ⟨rfl, hm⟩ := hR
        replace hm := hm.symm
        subst hm
        refine g_ifb_eq (tgt := 64) dX12_readLine_46 (by decide)  (fun h46 => ?_) (fun h46 => ?_)
        · exact absurd h4 h46
        · refine g_aload_n (j := 0) rfl dX12_readLine_49 ?_
          refine g_aload_n (j := 0) rfl dX12_readLine_50 ?_
          have hkB := ka_N h46
          have hkN := mN2_ka h46
          refine g_getI dX12_readLine_51 flX12_136 rfl (by assumption) (kz := 16) rfl ?_
          rw [f16, hkN]
          refine g_callV dX12_readLine_54 mlX12_327 mvX12_isOut (ci := 12) ⟨by decide, rfl⟩ (by assumption) (c_isOut w (d + 4) (z := ka n B (tP n B i)) h.1.1 e32 (by omega) (by omega) h.2.2.2) sv1 rfl (by omega) (Nat.le_of_ble_eq_true rfl) (Nat.le_refl _) (Nat.le_refl _) (fun v μ2 hR => ?_)
          obtain ⟨rfl, hm⟩ := hR
          replace hm := hm.symm
          subst hm
          refine g_ifb_eq (tgt := 64) dX12_readLine_57 (by decide)  (fun h57 => ?_) (fun h57 => ?_)
          · refine g_bipush dX12_readLine_64 (by omega) ?_
            refine g_callV dX12_readLine_66 mlX12_187 mvX12_fails (ci := 12) ⟨by decide, rfl⟩ (by assumption) (c_fails w (d + 6) μ h.1 e18 e19) sv1 rfl (by omega) (Nat.le_of_ble_eq_true rfl) (Nat.le_refl _) (Nat.le_refl _) (fun v μ2 hR => ?_)
            obtain ⟨rfl, hE⟩ := hR
            have ns := N_sg (c := 45) h46
            exact G.retZ dX12_readLine_69 rfl (Or.inl rfl) (Or.inl ⟨rfl, (9, i, -1), by unfold prL; rw [pI_f (fun z => ns z.2), jW_0 ns, pI_t h4, pI_f (fun z => h57 (by rw [← vW_0 ns]; exact z.symm)), pI_t (by omega)], h.er hE⟩)
          · refine g_iconst dX12_readLine_60 ?_
            refine g_goto (tgt := 66) (by decide) dX12_readLine_61 ?_
            refine g_callV dX12_readLine_66 mlX12_187 mvX12_fails (ci := 12) ⟨by decide, rfl⟩ (by assumption) (c_fails w (d + 6) μ h.1 e18 e19) sv1 rfl (by omega) (Nat.le_of_ble_eq_true rfl) (Nat.le_refl _) (Nat.le_refl _) (fun v μ2 hR => ?_)
            obtain ⟨rfl, hE⟩ := hR
            have ns := N_sg (c := 45) h46
            exact G.retZ dX12_readLine_69 rfl (Or.inl rfl) (Or.inl ⟨rfl, (5, i, -1), by unfold prL; rw [pI_f (fun z => ns z.2), jW_0 ns, pI_t h4, pI_t (by rw [vW_0 ns]; exact h57.symm)], h.er hE⟩)
    · omega
  · refine g_aload_n (j := 0) rfl dX12_readLine_7 ?_
    refine g_bipush dX12_readLine_8 (by omega) ?_
    refine g_callV dX12_readLine_10 mlX12_184 mvX12_isSign (ci := 12) ⟨by decide, rfl⟩ (by assumption) (c_isSign12 w (d + 6) μ h.1 (c := 45) (by omega)) sv1 rfl (by omega) (Nat.le_of_ble_eq_true rfl) (Nat.le_refl _) (Nat.le_refl _) (fun v μ2 hR => ?_)
    obtain ⟨rfl, hm⟩ := hR
    replace hm := hm.symm
    subst hm
    refine g_ifb_eq (tgt := 20) dX12_readLine_13 (by decide)  (fun h13 => ?_) (fun h13 => ?_)
    · refine g_iconst dX12_readLine_20 ?_
      refine g_istore_n (j := 2) dX12_readLine_21 (by decide) rfl ls2 ?_
      refine g_iload_n (j := 2) rfl dX12_readLine_22 ?_
      refine g_if_ne (tgt := 32) dX12_readLine_23 (by decide) (by omega) (fun h23 => ?_) (fun h23 => ?_)
      · omega
      · refine g_aload_n (j := 0) rfl dX12_readLine_26 ?_
        refine g_iconst dX12_readLine_27 ?_
        refine g_callV dX12_readLine_28 mlX12_187 mvX12_fails (ci := 12) ⟨by decide, rfl⟩ (by assumption) (c_fails w (d + 6) μ h.1 (k := 1) e18 e19) sv1 rfl (by omega) (Nat.le_of_ble_eq_true rfl) (Nat.le_refl _) (Nat.le_refl _) (fun v μ2 hR => ?_)
        obtain ⟨rfl, hE⟩ := hR
        exact G.retZ dX12_readLine_31 rfl (Or.inl rfl) (Or.inl ⟨rfl, (1, i, -1), by unfold prL; rw [pI_f (fun z => h13 z.2), jW_0 h13, pI_f h4], h.er hE⟩)
    · refine g_iconst dX12_readLine_16 ?_
      refine g_goto (tgt := 21) (by decide) dX12_readLine_17 ?_
      refine g_istore_n (j := 2) dX12_readLine_21 (by decide) rfl ls2 ?_
      refine g_iload_n (j := 2) rfl dX12_readLine_22 ?_
      refine g_if_ne (tgt := 32) dX12_readLine_23 (by decide) (by omega) (fun h23 => ?_) (fun h23 => ?_)
      · refine g_aload_n (j := 0) rfl dX12_readLine_32 ?_
        refine g_getI dX12_readLine_33 flX12_324 rfl (by assumption) (kz := 32) rfl ?_
        refine g_bipush dX12_readLine_36 (by omega) ?_
        rw [e32]
        refine g_icmp_ne (tgt := 70) dX12_readLine_38 (by decide) (by omega) (by omega) (fun h38 => ?_) (fun h38 => ?_)
        · exact l12_70 (d := d) h hs e18 e19 (by omega)
        · refine g_aload_n (j := 0) rfl dX12_readLine_41 ?_
          refine g_aload_n (j := 0) rfl dX12_readLine_42 ?_
          refine g_callV dX12_readLine_43 mlX12_214 mvX12_isNumber (ci := 12) ⟨by decide, rfl⟩ (by assumption) (c_isNumber12 w (d + 6) μ h.1) sv0 rfl (by omega) (Nat.le_of_ble_eq_true rfl) (Nat.le_refl _) (Nat.le_refl _) (fun v μ2 hR => ?_)
          obtain ⟨rfl, hm⟩ := hR
          replace hm := hm.symm
          subst hm
          refine g_ifb_eq (tgt := 64) dX12_readLine_46 (by decide)  (fun h46 => ?_) (fun h46 => ?_)
          · refine g_bipush dX12_readLine_64 (by omega) ?_
            refine g_callV dX12_readLine_66 mlX12_187 mvX12_fails (ci := 12) ⟨by decide, rfl⟩ (by assumption) (c_fails w (d + 6) μ h.1 e18 e19) sv1 rfl (by omega) (Nat.le_of_ble_eq_true rfl) (Nat.le_refl _) (Nat.le_refl _) (fun v μ2 hR => ?_)
            obtain ⟨rfl, hE⟩ := hR
            exact G.retZ dX12_readLine_69 rfl (Or.inl rfl) (Or.inl ⟨rfl, (9, i, -1), by unfold prL; rw [pI_t ⟨by omega, h13⟩], h.er hE⟩)
          · exact absurd h46 h4
      · omega
theorem prAll_end {n : Int} {B : Int → Int} {ts : List Tm} {k : Nat} {told : List Int} {i : Nat} (h : ¬ tP n B i < n) : prAll n B ts k told i = .inr told.length := by
  cases k with
  | zero => rfl
  | succ k => exact pI_t h
theorem l12_prove {w : WC} {d m : Nat} {F : Int → List Tm} {n s l2 : Int} {B : Int → Int} {R : Option AV → Mem → Prop} (hs : 0 ≤ s ∧ s ≤ 3) : ∀ (k : Nat) (told : List Int) (i : Nat) (μ : Mem), told.length + k = 61 → tP n B i < n → PsM w μ m F n B i told → BaM μ m fa0 → (∀ (e : FlF × Nat) (μ2 : Mem), prAll n B (F s) k told i = .inl e → PsE w m F (fa4 e.1.1 (tP n B e.1.2.1) (e.2 : Int) e.1.2.2) μ μ2 → G w (d + 8) mX12_prove R 0 0 73 [some (vP (some m)), some (vI s), some (vI l2), some (vI 0)] [] μ2) → (∀ (μ2 : Mem) (c : Nat), prAll n B (F s) k told i = .inr c → MA w μ2 m F → BaM μ2 m fa0 → mI μ2 m 32 = (c : Int) → PrZ m μ μ2 → G w (d + 8) mX12_prove R 0 0 73 [some (vP (some m)), some (vI s), some (vI l2), some (vI 0)] [] μ2) → (told.length ≤ 60) → G w (d + 8) mX12_prove R 0 0 32 [some (vP (some m)), some (vI s), some (vI l2), some (vI 1)] [] μ := by
  intro k
  induction k with
  | zero =>
    intro told i μ hk _ _ _ _ _ hl
    omega
  | succ k ih =>
    intro told i μ hk hin h hBa kE kN hl60
    have o0 := h.1.1.o
    refine g_iload_n (j := 3) rfl dX12_prove_32 ?_
    refine g_if_eq (tgt := 73) dX12_prove_33 (by decide) (by omega) (fun h33 => ?_) (fun h33 => ?_)
    · omega
    · refine g_aload_n (j := 0) rfl dX12_prove_36 ?_
      refine g_aload_n (j := 0) rfl dX12_prove_37 ?_
      refine g_getI dX12_prove_38 flX12_324 rfl (by assumption) (kz := 32) rfl ?_
      rw [h.2.2.1]
      refine g_putI dX12_prove_41 fpX12_159 rfl rfl rfl (by assumption) (kz := 18) rfl ?_
      refine g_aload_n (j := 0) rfl dX12_prove_44 ?_
      refine g_iconst dX12_prove_45 ?_
      refine g_putI dX12_prove_46 fpX12_165 rfl rfl rfl (by simp only [IsO_sI, IsO_sL, IsO_sR, IsO_wI, IsO_wL, IsA_sI, IsA_sL, IsA_sR, IsA_wI, IsA_wL, mR_sI, mR_sL, mR_wI, mR_wL]; assumption) (kz := 19) rfl ?_
      obtain ⟨hP1, hz1⟩ := h.inn (v := (told.length : Int)) (j := 18) (Or.inl rfl)
      obtain ⟨hP2, hz2⟩ := hP1.inn (v := -1) (j := 19) (Or.inr rfl)
      have hz12 : PrZ m μ (sI (sI μ m 18 (told.length : Int)) m 19 (-1)) := FrZ.tr hz1 hz2
      have e182 : mI (sI (sI μ m 18 (told.length : Int)) m 19 (-1)) m 18 = (told.length : Int) := by rw [mI_sI, if_neg (by omega), mI_sI, if_pos ⟨rfl, rfl⟩]
      have e192 : mI (sI (sI μ m 18 (told.length : Int)) m 19 (-1)) m 19 = -1 := by rw [mI_sI, if_pos ⟨rfl, rfl⟩]
      clear hz1 hz2 hP1
      generalize sI (sI μ m 18 (told.length : Int)) m 19 (-1) = μ2 at *
      have o02 := hP2.1.1.o
      have hBa2 := hz12.Ba hBa
      refine g_aload_n (j := 0) rfl dX12_prove_49 ?_
      refine g_iload_n (j := 1) rfl dX12_prove_50 ?_
      refine g_callV dX12_prove_51 mlX12_335 mvX12_readLine (ci := 12) ⟨by decide, rfl⟩ (by assumption) (c_X12_readLine w d μ2 hP2 hs e182 e192 (by omega)) sv1 rfl (by omega) (Nat.le_of_ble_eq_true rfl) (Nat.le_refl _) (Nat.le_refl _) (fun v μ3 hR => ?_)
      rcases hR with ⟨rfl, e, hr, hE⟩ | ⟨rfl, j, hr, hlt, hP3, e183, e193, hz3⟩
      · refine g_if_eq (tgt := 68) dX12_prove_54 (by decide) (by omega) (fun h54 => ?_) (fun h54 => ?_)
        · refine g_iconst dX12_prove_68 ?_
          refine g_istore_n (j := 3) dX12_prove_69 (by decide) rfl ls3 ?_
          refine g_goto (tgt := 32) (by decide) dX12_prove_70 ?_
          refine g_iload_n (j := 3) rfl dX12_prove_32 ?_
          refine g_if_eq (tgt := 73) dX12_prove_33 (by decide) (by omega) (fun h33 => ?_) (fun h33 => ?_)
          · refine kE (e, told.length) μ3 ?_ (PsE.tr hz12 hE)
            unfold prAll
            rw [pI_f (by omega), hr]
          · omega
        · omega
      · refine g_if_eq (tgt := 68) dX12_prove_54 (by decide) (by omega) (fun h54 => ?_) (fun h54 => ?_)
        · omega
        · have o03 := hP3.1.1.o
          have hBa3 := hz3.Ba hBa2
          obtain ⟨-, -, ⟨-, -, f12, -, -, -⟩, -⟩ := id hP3.1
          have hm2 := mS2_c n B (tP n B j)
          have hz13 : PrZ m μ μ3 := FrZ.tr hz12 hz3
          have er : prAll n B (F s) (k + 1) told i = prAll n B (F s) k (told ++ [vW n B i]) j := by
            show pI _ _ _ = _
            rw [pI_f (by omega), hr]
          refine g_aload_n (j := 0) rfl dX12_prove_57 ?_
          refine g_getI dX12_prove_58 flX12_142 rfl (by assumption) (kz := 12) rfl ?_
          rw [f12]
          refine g_if_eq (tgt := 68) dX12_prove_61 (by decide) (by omega) (fun h61 => ?_) (fun h61 => ?_)
          · refine g_iconst dX12_prove_68 ?_
            refine g_istore_n (j := 3) dX12_prove_69 (by decide) rfl ls3 ?_
            refine g_goto (tgt := 32) (by decide) dX12_prove_70 ?_
            refine g_iload_n (j := 3) rfl dX12_prove_32 ?_
            refine g_if_eq (tgt := 73) dX12_prove_33 (by decide) (by omega) (fun h33 => ?_) (fun h33 => ?_)
            · refine kN μ3 (told.length + 1) (er.trans ?_) hP3.2.1 hBa3 ?_ hz13
              · rw [prAll_end (by omega), List.length_append]
                rfl
              · rw [hP3.2.2.1, List.length_append]
                rfl
            · omega
          · refine g_iconst dX12_prove_64 ?_
            refine g_goto (tgt := 69) (by decide) dX12_prove_65 ?_
            refine g_istore_n (j := 3) dX12_prove_69 (by decide) rfl ls3 ?_
            refine g_goto (tgt := 32) (by decide) dX12_prove_70 ?_
            exact ih (told ++ [vW n B i]) j μ3 (by rw [List.length_append]; simp; omega) (by omega) hP3 hBa3 (fun e μ4 y1 y2 => kE e μ4 (er.trans y1) (PsE.tr hz13 y2)) (fun μ4 c y1 y2 y3 y4 y5 => kN μ4 c (er.trans y1) y2 y3 y4 (FrZ.tr hz13 y5)) (by rw [List.length_append]; simp; omega)
