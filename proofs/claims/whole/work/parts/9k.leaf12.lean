/-! THE MODEL: all turnings -/
/-- the kinds met so far -/
def KS (μ : Mem) (m : Nat) (K : KL) : Prop := mI μ m 29 = (K.length : Int) ∧ (∀ (t : Nat) (q : List Nat × Nat), K[t]? = some q → SmL q.1 ∧ (∀ k : Nat, k < 5 → mI μ (m + 8) (5 * (t : Int) + (k : Int)) = (q.1.getD k 0 : Int)) ∧ mL μ (m + 9) (t : Int) = (q.2 : Int)) ∧ ∀ j : Int, (K.length : Int) ≤ j → j < 8 → mL μ (m + 9) j = 0
theorem addK_f {L : List Nat} {q : List Nat × Nat} {K2 : KL} (hq : q.1 = L) : ∀ K1 : KL, (∀ x ∈ K1, ¬ x.1 = L) → addK L (K1 ++ q :: K2) = (K1 ++ q :: K2).set K1.length (q.1, q.2 + 1)
  | [], _ => by
    show (if q.1 = L then (q.1, q.2 + 1) :: K2 else q :: addK L K2) = _
    rw [if_pos hq]
    rfl
  | x :: K1, h => by
    show (if x.1 = L then _ else x :: addK L (K1 ++ q :: K2)) = _
    rw [if_neg (h x List.mem_cons_self), addK_f hq K1 fun y hy => h y (List.mem_cons_of_mem _ hy)]
    rfl
theorem addK_n {L : List Nat} : ∀ K : KL, (∀ x ∈ K, ¬ x.1 = L) → addK L K = K ++ [(L, 1)]
  | [], _ => rfl
  | x :: K, h => by
    show (if x.1 = L then _ else x :: addK L K) = _
    rw [if_neg (h x List.mem_cons_self), addK_n K fun y hy => h y (List.mem_cons_of_mem _ hy)]
    rfl
theorem addK_len (L : List Nat) : ∀ K : KL, K.length ≤ (addK L K).length
  | [] => Nat.zero_le _
  | x :: K => by
    unfold addK
    split
    · exact Nat.le_refl _
    · have := addK_len L K
      rw [List.length_cons, List.length_cons]
      omega
theorem Ln0 {μ : Mem} {m : Nat} (h : ∀ j : Nat, j < 5 → mI μ (m + 7) (j : Int) = 0) : LnM μ m [0, 0, 0, 0, 0] := by
  have g : ∀ k : Nat, ([0, 0, 0, 0, 0] : List Nat).getD k 0 = 0 := fun k => by
    rcases k with _ | _ | _ | _ | _ | k <;> rfl
  refine ⟨⟨rfl, fun k => ?_⟩, fun k hk => ?_⟩
  · rw [g]
    exact Nat.zero_le _
  · rw [g, h k hk]
    rfl
/-- one row of begun is written -/
def P8F (m t : Nat) (μ μ2 : Mem) : Prop := TuF m μ μ2 ∧ (∀ a j, ¬ a = m + 8 → mI μ2 a j = mI μ a j) ∧ (∀ j, j < 5 * (t : Int) ∨ 5 * (t : Int) + 5 ≤ j → mI μ2 (m + 8) j = mI μ (m + 8) j) ∧ ∀ a j, mL μ2 a j = mL μ a j
theorem P8F.rf {m t : Nat} {μ : Mem} : P8F m t μ μ := ⟨FrZ.rf, fun _ _ _ => rfl, fun _ _ => rfl, fun _ _ => rfl⟩
theorem P8F.tr {m t : Nat} {μ μ2 μ3 : Mem} (h : P8F m t μ μ2) (h2 : P8F m t μ2 μ3) : P8F m t μ μ3 := ⟨FrZ.tr h.1 h2.1, fun a j z => (h2.2.1 a j z).trans (h.2.1 a j z), fun j z => (h2.2.2.1 j z).trans (h.2.2.1 j z), fun a j => (h2.2.2.2 a j).trans (h.2.2.2 a j)⟩
theorem P8F.s {m t : Nat} {k v : Int} {μ : Mem} (hk : 0 ≤ k ∧ k < 5) : P8F m t μ (sI μ (m + 8) (5 * (t : Int) + k) v) := ⟨TuF.s (by unfold P69; omega) (by omega), fun a j z => by rw [mI_sI, if_neg (fun q => z q.1)], fun j z => by rw [mI_sI, if_neg (by omega)], fun _ _ => rfl⟩
theorem l_cp208 {w : WC} {d m t : Nat} {s i2 u3 z4 : Int} {L : List Nat} {x7 : Option AV} {Q : Option AV → Mem → Prop} (ht : t ≤ 100) : ∀ (c k : Nat) (μ : Mem), k + c = 5 → MoS w μ m → LnM μ m L → (∀ j : Nat, j < k → mI μ (m + 8) (5 * (t : Int) + (j : Int)) = (L.getD j 0 : Int)) → (∀ μ2, MoS w μ2 m → LnM μ2 m L → (∀ j : Nat, j < 5 → mI μ2 (m + 8) (5 * (t : Int) + (j : Int)) = (L.getD j 0 : Int)) → P8F m t μ μ2 → G w d mX12_turns Q 0 0 239 [some (vP (some m)), some (vI s), some (vI i2), some (vI u3), some (vI z4), some (vI (t : Int)), some (vI 5), x7] [] μ2) → G w d mX12_turns Q 0 0 208 [some (vP (some m)), some (vI s), some (vI i2), some (vI u3), some (vI z4), some (vI (t : Int)), some (vI (k : Int)), x7] [] μ := by
  intro c
  induction c with
  | zero =>
    intro k μ hk hM hL hD kk
    refine g_iload (i := 6) rfl dX12_turns_208 ?_
    refine g_iconst dX12_turns_210 ?_
    refine g_icmp_ge (tgt := 239) dX12_turns_211 (by decide) (by omega) (by omega) (fun h211 => ?_) (fun h211 => ?_)
    · have ek : k = 5 := by omega
      subst ek
      exact kk μ hM hL (fun j hj => hD j hj) P8F.rf
    · omega
  | succ c ih =>
    intro k μ hk hM hL hD kk
    have o0 := hM.o
    have r26 := hM.r26
    have a26 := hM.a26
    have r27 := hM.r27
    have a27 := hM.a27
    refine g_iload (i := 6) rfl dX12_turns_208 ?_
    refine g_iconst dX12_turns_210 ?_
    refine g_icmp_ge (tgt := 239) dX12_turns_211 (by decide) (by omega) (by omega) (fun h211 => ?_) (fun h211 => ?_)
    · omega
    · refine g_aload_n (j := 0) rfl dX12_turns_214 ?_
      refine g_getR dX12_turns_215 flX12_51 rfl (by assumption) (kz := 27) rfl (by assumption) ?_
      refine g_iconst dX12_turns_218 ?_
      refine g_iload (i := 5) rfl dX12_turns_219 ?_
      refine g_imul dX12_turns_221 ?_
      refine g_iload (i := 6) rfl dX12_turns_222 ?_
      refine g_iadd dX12_turns_224 ?_
      refine g_aload_n (j := 0) rfl dX12_turns_225 ?_
      refine g_getR dX12_turns_226 flX12_48 rfl (by assumption) (kz := 26) rfl (by assumption) ?_
      refine g_iload (i := 6) rfl dX12_turns_229 ?_
      refine g_iald dX12_turns_231 (by assumption) (by omega) (by omega) ?_
      rw [hL.2 k (by omega)]
      refine g_iast dX12_turns_232 (by assumption) (by omega) (by omega) ?_
      refine g_iinc (i := 6) dX12_turns_233 rfl (by decide) rfl ls6 ?_
      refine g_goto (tgt := 208) (by decide) dX12_turns_236 ?_
      rw [show (k : Int) + 1 = ((k + 1 : Nat) : Int) by omega]
      have hf : P8F m t μ (sI μ (m + 8) (5 * (t : Int) + (k : Int)) (L.getD k 0 : Int)) := P8F.s (by omega)
      refine ih (k + 1) _ (by omega) (hf.1.mo hM) ⟨hL.1, fun j hj => (hf.2.1 _ _ (by omega)).trans (hL.2 j hj)⟩ (fun j hj => ?_) (fun μ2 g1 g2 g3 g4 => kk μ2 g1 g2 g3 (hf.tr g4))
      rw [mI_sI]
      by_cases z : j = k
      · rw [if_pos ⟨rfl, by omega⟩, z]
      · rw [if_neg (by omega)]
        exact hD j (by omega)
theorem l_205 {w : WC} {d m t : Nat} {s i2 u3 z4 : Int} {L : List Nat} {K K2 : KL} {x6 x7 : Option AV} {μ : Mem} (ht : t ≤ 7) (hk7 : K.length ≤ 7) (hM : MoS w μ m) (hL : LnM μ m L) (hK : KS μ m K) (hKK : (∃ q, K[t]? = some q ∧ q.1 = L ∧ K2 = K.set t (q.1, q.2 + 1)) ∨ (t = K.length ∧ K2 = K ++ [(L, 1)])) : G w d mX12_turns (fun v μ2 => v = none ∧ KS μ2 m K2 ∧ TuF m μ μ2 ∧ ∀ j, mI μ2 (m + 6) j = mI μ (m + 6) j) 0 0 205 [some (vP (some m)), some (vI s), some (vI i2), some (vI u3), some (vI z4), some (vI (t : Int)), x6, x7] [] μ := by
  refine g_iconst dX12_turns_205 ?_
  refine g_istore (i := 6) dX12_turns_206 (by decide) rfl ls6 ?_
  refine l_cp208 (by omega) 5 0 μ (by omega) hM hL (fun j hj => absurd hj (Nat.not_lt_zero j)) (fun μ1 hM1 hL1 hD1 hf1 => ?_)
  have o01 := hM1.o
  have r281 := hM1.r28
  have a281 := hM1.a28
  have e291 : mI μ1 m 29 = (K.length : Int) := (hf1.2.1 _ _ (by omega)).trans hK.1
  refine g_aload_n (j := 0) rfl dX12_turns_239 ?_
  refine g_getR dX12_turns_240 flX12_54 rfl (by assumption) (kz := 28) rfl (by assumption) ?_
  refine g_iload (i := 5) rfl dX12_turns_243 ?_
  refine g_dup2 rfl rfl dX12_turns_245 ?_
  refine g_lald dX12_turns_246 (by assumption) (by omega) (by omega) ?_
  refine g_lconst1 dX12_turns_247 ?_
  refine g_ladd dX12_turns_248 ?_
  refine g_last dX12_turns_249 (by assumption) (by omega) (by omega) ?_
  refine g_iload (i := 5) rfl dX12_turns_250 ?_
  refine g_aload_n (j := 0) rfl dX12_turns_252 ?_
  refine g_getIv dX12_turns_253 flX12_289 rfl (by simp only [IsO_sI, IsO_sL, IsO_sR, IsO_wI, IsO_wL, IsA_sI, IsA_sL, IsA_sR, IsA_wI, IsA_wL, mR_sI, mR_sL, mR_wI, mR_wL]; assumption) (kz := 29) rfl (by simp [mI_sI, mI_sL, mI_sR, mI_wI, mI_wL, mL_sI, mL_sL, mL_sR, mL_wI, mL_wL, e291]; rfl) ?_
  refine g_icmp_ne (tgt := 269) dX12_turns_256 (by decide) (by omega) (by omega) (fun h256 => ?_) (fun h256 => ?_)
  · rcases hKK with ⟨q, hq, hq1, rfl⟩ | ⟨ht2, -⟩
    · have hf9 : TuF m μ1 (sL μ1 (m + 9) (t : Int) (mL μ1 (m + 9) (t : Int) + 1)) := ⟨Fr.sL (Or.inr (by unfold P69; omega)), fun _ _ => rfl⟩
      refine G.retV dX12_turns_269 rfl ⟨rfl, ⟨?_, fun t2 q2 h2 => ?_, fun j z1 z2 => ?_⟩, FrZ.tr hf1.1 hf9, fun j => hf1.2.1 _ _ (by omega)⟩
      · rw [List.length_set]
        exact e291
      · rw [List.getElem?_set] at h2
        by_cases z : t = t2
        · subst z
          rw [if_pos rfl, if_pos (get_lt hq)] at h2
          cases h2
          obtain ⟨s1, s2, s3⟩ := hK.2.1 t q hq
          refine ⟨s1, fun k hk => ?_, ?_⟩
          · show mI μ1 _ _ = _
            rw [hD1 k hk, hq1]
          · rw [mL_sL, if_pos ⟨rfl, rfl⟩, hf1.2.2.2, s3]
            show (q.2 : Int) + 1 = ((q.2 + 1 : Nat) : Int)
            omega
        · rw [if_neg z] at h2
          obtain ⟨s1, s2, s3⟩ := hK.2.1 t2 q2 h2
          refine ⟨s1, fun k hk => ?_, ?_⟩
          · show mI μ1 _ _ = _
            rw [hf1.2.2.1 _ (by omega)]
            exact s2 k hk
          · rw [mL_sL, if_neg (by omega), hf1.2.2.2]
            exact s3
      · rw [List.length_set] at z1
        have := get_lt hq
        rw [mL_sL, if_neg (by omega), hf1.2.2.2]
        exact hK.2.2 j z1 z2
    · omega
  · refine g_aload_n (j := 0) rfl dX12_turns_259 ?_
    refine g_dup rfl dX12_turns_260 ?_
    refine g_getIv dX12_turns_261 flX12_289 rfl (by simp only [IsO_sI, IsO_sL, IsO_sR, IsO_wI, IsO_wL, IsA_sI, IsA_sL, IsA_sR, IsA_wI, IsA_wL, mR_sI, mR_sL, mR_wI, mR_wL]; assumption) (kz := 29) rfl (by simp [mI_sI, mI_sL, mI_sR, mI_wI, mI_wL, mL_sI, mL_sL, mL_sR, mL_wI, mL_wL, e291]; rfl) ?_
    refine g_iconst dX12_turns_264 ?_
    refine g_iadd dX12_turns_265 ?_
    refine g_putI dX12_turns_266 fpX12_289 rfl rfl rfl (by simp only [IsO_sI, IsO_sL, IsO_sR, IsO_wI, IsO_wL, IsA_sI, IsA_sL, IsA_sR, IsA_wI, IsA_wL, mR_sI, mR_sL, mR_wI, mR_wL]; assumption) (kz := 29) rfl ?_
    rcases hKK with ⟨q, hq, -, -⟩ | ⟨ht2, rfl⟩
    · have := get_lt hq
      omega
    · have hf9 : TuF m μ1 (sL μ1 (m + 9) (t : Int) (mL μ1 (m + 9) (t : Int) + 1)) := ⟨Fr.sL (Or.inr (by unfold P69; omega)), fun _ _ => rfl⟩
      have hf29 : TuF m (sL μ1 (m + 9) (t : Int) (mL μ1 (m + 9) (t : Int) + 1)) (sI (sL μ1 (m + 9) (t : Int) (mL μ1 (m + 9) (t : Int) + 1)) m 29 ((K.length : Int) + 1)) := FrZ.sI rfl
      refine G.retV dX12_turns_269 rfl ⟨rfl, ⟨?_, fun t2 q2 h2 => ?_, fun j z1 z2 => ?_⟩, FrZ.tr hf1.1 (FrZ.tr hf9 hf29), fun j => by rw [mI_sI, if_neg (by omega)]; exact hf1.2.1 _ _ (by omega)⟩
      · rw [mI_sI, if_pos ⟨rfl, rfl⟩, List.length_append]
        rfl
      · by_cases z : t2 < K.length
        · rw [List.getElem?_append_left z] at h2
          obtain ⟨s1, s2, s3⟩ := hK.2.1 t2 q2 h2
          refine ⟨s1, fun k hk => ?_, ?_⟩
          · rw [mI_sI, if_neg (by omega)]
            show mI μ1 _ _ = _
            rw [hf1.2.2.1 _ (by omega)]
            exact s2 k hk
          · rw [mL_sI, mL_sL, if_neg (by omega), hf1.2.2.2]
            exact s3
        · rw [List.getElem?_append_right (by omega)] at h2
          have e2 : t2 = t := by
            have := get_lt h2
            rw [List.length_singleton] at this
            omega
          subst e2
          rw [ht2, Nat.sub_self] at h2
          cases h2
          refine ⟨hL.1, fun k hk => ?_, ?_⟩
          · rw [mI_sI, if_neg (by omega)]
            exact hD1 k hk
          · rw [mL_sI, mL_sL, if_pos ⟨rfl, rfl⟩, hf1.2.2.2, hK.2.2 _ (by omega) (by omega)]
            rfl
      · rw [List.length_append, List.length_singleton] at z1
        rw [mL_sI, mL_sL, if_neg (by omega), hf1.2.2.2]
        exact hK.2.2 j (by omega) z2
theorem l_181 {w : WC} {d m : Nat} {s i2 u3 z4 : Int} {L : List Nat} {K : KL} {x6 x7 : Option AV} {μ : Mem} (h7 : (addK L K).length ≤ 7) (hM : MoS w μ m) (hL : LnM μ m L) (hK : KS μ m K) : ∀ (K2 K1 : KL), K = K1 ++ K2 → (∀ x ∈ K1, ¬ x.1 = L) → G w (d + 1) mX12_turns (fun v μ2 => v = none ∧ KS μ2 m (addK L K) ∧ TuF m μ μ2 ∧ ∀ j, mI μ2 (m + 6) j = mI μ (m + 6) j) 0 0 181 [some (vP (some m)), some (vI s), some (vI i2), some (vI u3), some (vI z4), some (vI (K1.length : Int)), x6, x7] [] μ := by
  have o0 := hM.o
  have hkl := addK_len L K
  intro K2
  induction K2 with
  | nil =>
    intro K1 he hK1
    have hl : K.length = K1.length := by rw [he, List.append_nil]
    refine g_iload (i := 5) rfl dX12_turns_181 ?_
    refine g_aload_n (j := 0) rfl dX12_turns_183 ?_
    refine g_getI dX12_turns_184 flX12_289 rfl (by assumption) (kz := 29) rfl ?_
    rw [hK.1]
    refine g_icmp_ge (tgt := 205) dX12_turns_187 (by decide) (by omega) (by omega) (fun h187 => ?_) (fun h187 => ?_)
    · refine l_205 (by omega) (by omega) hM hL hK (Or.inr ⟨?_, ?_⟩)
      · rw [he, List.append_nil]
      · exact addK_n K (by rw [he, List.append_nil]; exact hK1)
    · omega
  | cons q K2 ih =>
    intro K1 he hK1
    have hl : K.length = K1.length + (K2.length + 1) := by rw [he, List.length_append, List.length_cons]
    have hq : K[K1.length]? = some q := by
      rw [he, List.getElem?_append_right (Nat.le_refl _), Nat.sub_self]
      rfl
    obtain ⟨hs1, hs2, -⟩ := hK.2.1 _ q hq
    refine g_iload (i := 5) rfl dX12_turns_181 ?_
    refine g_aload_n (j := 0) rfl dX12_turns_183 ?_
    refine g_getI dX12_turns_184 flX12_289 rfl (by assumption) (kz := 29) rfl ?_
    rw [hK.1]
    refine g_icmp_ge (tgt := 205) dX12_turns_187 (by decide) (by omega) (by omega) (fun h187 => ?_) (fun h187 => ?_)
    · omega
    · refine g_aload_n (j := 0) rfl dX12_turns_190 ?_
      refine g_iload (i := 5) rfl dX12_turns_191 ?_
      refine g_callV dX12_turns_193 mlX12_307 mvX12_isKind (ci := 12) ⟨by decide, rfl⟩ (by assumption) (c_isKind w d μ (a := K1.length) (q := q.1) (L := L) hM (by omega) hL hs1 hs2) sv1 rfl (by omega) (Nat.le_of_ble_eq_true rfl) (Nat.le_refl _) (Nat.le_refl _) (fun v μ2 hR => ?_)
      obtain ⟨rfl, hm⟩ := hR
      replace hm := hm.symm
      subst hm
      refine g_ifb_ne (tgt := 205) dX12_turns_196 (by decide)  (fun h196 => ?_) (fun h196 => ?_)
      · refine l_205 (by omega) (by omega) hM hL hK (Or.inl ⟨q, hq, h196, ?_⟩)
        rw [he]
        exact addK_f h196 K1 hK1
      · refine g_iinc (i := 5) dX12_turns_199 rfl (by decide) rfl ls5 ?_
        refine g_goto (tgt := 181) (by decide) dX12_turns_202 ?_
        rw [show (K1.length : Int) + 1 = (((K1 ++ [q]).length : Nat) : Int) by rw [List.length_append]; rfl]
        exact ih (K1 ++ [q]) (by rw [he, List.append_assoc]; rfl) (fun x hx => (List.mem_append.mp hx).elim (hK1 x) (fun y => by rw [List.mem_singleton.mp y]; exact h196))
theorem l_z80 {w : WC} {d m : Nat} {s i2 u3 : Int} {x5 x6 x7 : Option AV} {Q : Option AV → Mem → Prop} : ∀ (c k : Nat) (μ : Mem), k + c = 5 → MoS w μ m → (∀ j : Nat, j < k → mI μ (m + 7) (j : Int) = 0) → (∀ μ2, LnM μ2 m [0, 0, 0, 0, 0] → P7F m μ μ2 → G w d mX12_turns Q 0 0 100 [some (vP (some m)), some (vI s), some (vI i2), some (vI u3), some (vI 5), x5, x6, x7] [] μ2) → G w d mX12_turns Q 0 0 80 [some (vP (some m)), some (vI s), some (vI i2), some (vI u3), some (vI (k : Int)), x5, x6, x7] [] μ := by
  intro c
  induction c with
  | zero =>
    intro k μ hk hM hD kk
    refine g_iload (i := 4) rfl dX12_turns_80 ?_
    refine g_iconst dX12_turns_82 ?_
    refine g_icmp_ge (tgt := 100) dX12_turns_83 (by decide) (by omega) (by omega) (fun h83 => ?_) (fun h83 => ?_)
    · have ek : k = 5 := by omega
      subst ek
      exact kk μ (Ln0 hD) P7F.rf
    · omega
  | succ c ih =>
    intro k μ hk hM hD kk
    have o0 := hM.o
    have r26 := hM.r26
    have a26 := hM.a26
    refine g_iload (i := 4) rfl dX12_turns_80 ?_
    refine g_iconst dX12_turns_82 ?_
    refine g_icmp_ge (tgt := 100) dX12_turns_83 (by decide) (by omega) (by omega) (fun h83 => ?_) (fun h83 => ?_)
    · omega
    · refine g_aload_n (j := 0) rfl dX12_turns_86 ?_
      refine g_getR dX12_turns_87 flX12_48 rfl (by assumption) (kz := 26) rfl (by assumption) ?_
      refine g_iload (i := 4) rfl dX12_turns_90 ?_
      refine g_iconst dX12_turns_92 ?_
      refine g_iast dX12_turns_93 (by assumption) (by omega) (by omega) ?_
      refine g_iinc (i := 4) dX12_turns_94 rfl (by decide) rfl ls4 ?_
      refine g_goto (tgt := 80) (by decide) dX12_turns_97 ?_
      rw [show (k : Int) + 1 = ((k + 1 : Nat) : Int) by omega]
      have hf : P7F m μ (sI μ (m + 7) (k : Int) 0) := P7F.s
      refine ih (k + 1) _ (by omega) (hf.1.mo hM) (fun j hj => ?_) (fun μ2 g1 g2 => kk μ2 g1 (hf.tr g2))
      rw [mI_sI]
      by_cases z : j = k
      · rw [if_pos ⟨rfl, by omega⟩]
      · rw [if_neg (by omega)]
        exact hD j (by omega)
