/-! THE MODEL: turns -/
theorem lbs_len (ts : List Tm) : (lbs ts).length = ts.length := List.length_map _
theorem l_leaf {w : WC} {d m : Nat} {ts : List Tm} {s i2 u3 : Int} {r : List Nat} {K : KL} {x4 x5 x6 x7 : Option AV} {μ : Mem} (hs : 0 ≤ s ∧ s ≤ 3) (hM : MoS w μ m) (hI : MFI μ m s ts) (hr : RnM μ m r) (hrl : r.length = ts.length) (hr2 : ∀ i, i < r.length → r.getD i 0 < r.length) (hK : KS μ m K) (h7 : (addK (knd r (lbs ts)) K).length ≤ 7) : G w (d + 3) mX12_turns (fun v μ2 => v = none ∧ KS μ2 m (addK (knd r (lbs ts)) K) ∧ TuF m μ μ2 ∧ ∀ j, mI μ2 (m + 6) j = mI μ (m + 6) j) 0 0 77 [some (vP (some m)), some (vI s), some (vI i2), some (vI u3), x4, x5, x6, x7] [] μ := by
  have h5 := hI.2.1
  refine g_iconst dX12_turns_77 ?_
  refine g_istore (i := 4) dX12_turns_78 (by decide) rfl ls4 ?_
  refine l_z80 5 0 μ (by omega) hM (fun j hj => absurd hj (Nat.not_lt_zero j)) (fun μ1 hL1 hf1 => ?_)
  have hM1 := hf1.1.mo hM
  have hI1 := hf1.1.mfi hM hI
  have hr1 : RnM μ1 m r := fun i hi => (hf1.2.1 _ _ (by omega)).trans (hr i hi)
  refine g_iconst dX12_turns_100 ?_
  refine g_istore (i := 4) dX12_turns_101 (by decide) rfl ls4 ?_
  refine g_iconst dX12_turns_103 ?_
  refine g_istore (i := 5) dX12_turns_104 (by decide) rfl ls5 ?_
  refine l_ln hs hrl (by omega) hr2 ts.length 0 [] 0 _ μ1 _ _ (Nat.zero_add _) hM1 hI1 hr1 MsK.nil hL1 (fun μ2 z2 x6 x7 hL2 hf2 => ?_)
  have hM2 := hf2.1.mo hM1
  have hI2 := hf2.1.mfi hM1 hI1
  have o02 := hM2.o
  refine g_aload_n (j := 0) rfl dX12_turns_173 ?_
  refine g_iload_n (j := 1) rfl dX12_turns_174 ?_
  refine g_callV dX12_turns_175 mlX12_304 mvX12_sorts (ci := 12) ⟨by decide, rfl⟩ (by assumption) (c_sorts w d μ2 hs hM2 hI2 hL2) sv1 rfl (by omega) (Nat.le_of_ble_eq_true rfl) (Nat.le_refl _) (Nat.le_refl _) (fun v μ3 hR => ?_)
  obtain ⟨rfl, hL3, hf3⟩ := hR
  have hM3 := hf3.1.mo hM2
  have hf13 := (hf1.tr hf2).tr hf3
  have hK3 : KS μ3 m K := ⟨by rw [hf13.2.1 _ _ (by omega)]; exact hK.1, fun t q hq => by
    obtain ⟨s1, s2, s3⟩ := hK.2.1 t q hq
    exact ⟨s1, fun k hk => (hf13.2.1 _ _ (by omega)).trans (s2 k hk), (hf13.2.2 _ _).trans s3⟩, fun j z1 z2 => (hf13.2.2 _ _).trans (hK.2.2 j z1 z2)⟩
  refine g_iconst dX12_turns_178 ?_
  refine g_istore (i := 5) dX12_turns_179 (by decide) rfl ls5 ?_
  have ekn : soA (lbs ts) ts.length 0 (lnA r ts.length 0 [] [0, 0, 0, 0, 0]) = knd r (lbs ts) := by
    unfold knd
    rw [lbs_len]
  rw [ekn] at hL3
  exact (G.post (fun v μ9 hq => ⟨hq.1, hq.2.1, FrZ.tr hf13.1 hq.2.2.1, fun j => (hq.2.2.2 j).trans (hf13.2.1 _ _ (by omega))⟩) (l_181 (d := d + 2) h7 hM3 hL3 hK3 K [] rfl (fun x hx => absurd hx List.not_mem_nil)))
theorem tn_len (p : List Nat) : ∀ (f : Nat) (r : List Nat) (K : KL), K.length ≤ (tn p f r K).length
  | 0, r, K => addK_len _ K
  | f + 1, r, K => by
    show K.length ≤ ((List.range' 0 p.length).foldl (fun K o => if o ∈ r ∨ ¬ p.getD r.length 9 = p.getD o 9 then K else tn p f (r ++ [o]) K) K).length
    generalize List.range' 0 p.length = l
    induction l generalizing K with
    | nil => exact Nat.le_refl _
    | cons o l ih =>
      rw [List.foldl_cons]
      refine Nat.le_trans ?_ (ih _)
      split
      · exact Nat.le_refl _
      · exact tn_len p f _ K
def tStep (p : List Nat) (f : Nat) (r : List Nat) : KL → Nat → KL := fun K o => if o ∈ r ∨ ¬ p.getD r.length 9 = p.getD o 9 then K else tn p f (r ++ [o]) K
theorem tStep_len (p : List Nat) (f : Nat) (r : List Nat) : ∀ (l : List Nat) (K : KL), K.length ≤ (l.foldl (tStep p f r) K).length
  | [], K => Nat.le_refl _
  | o :: l, K => by
    rw [List.foldl_cons]
    refine Nat.le_trans ?_ (tStep_len p f r l _)
    unfold tStep
    split
    · exact Nat.le_refl _
    · exact tn_len p f _ K
theorem tn_s (p : List Nat) (f : Nat) (r : List Nat) (K : KL) : tn p (f + 1) r K = (List.range' 0 p.length).foldl (tStep p f r) K := rfl
theorem l_tl {w : WC} {d m f : Nat} {ts : List Tm} {s z : Int} {r : List Nat} {x5 x6 x7 : Option AV} (hs : 0 ≤ s ∧ s ≤ 3) (hrl : r.length + (f + 1) = ts.length) (hr2 : ∀ i, i < r.length → r.getD i 0 < ts.length) (hz : MsK z r) (ihf : ∀ (r : List Nat) (K : KL) (μ : Mem) (z : Int), (r).length + f = ts.length → MoS w μ m → MFI μ m s ts → RnM μ m (r) → (∀ i, i < (r).length → (r).getD i 0 < ts.length) → MsK z (r) → KS μ m K → (tn (lbs ts) f (r) K).length ≤ 7 → Con w (d + f + 3) mX12_turns 0 0 [vP (some m), vI s, vI ((r).length : Int), vI z] μ (fun v μ2 => v = none ∧ KS μ2 m (tn (lbs ts) f (r) K) ∧ TuF m μ μ2 ∧ RnM μ2 m (r))) : ∀ (c o : Nat) (K : KL) (μ : Mem), o + c = ts.length → MoS w μ m → MFI μ m s ts → RnM μ m r → KS μ m K → ((List.range' o c).foldl (tStep (lbs ts) f r) K).length ≤ 7 → G w (d + (f + 1) + 3) mX12_turns (fun v μ2 => v = none ∧ KS μ2 m ((List.range' o c).foldl (tStep (lbs ts) f r) K) ∧ TuF m μ μ2 ∧ RnM μ2 m r) 0 0 13 [some (vP (some m)), some (vI s), some (vI (r.length : Int)), some (vI z), some (vI (o : Int)), x5, x6, x7] [] μ := by
  intro c
  induction c with
  | zero =>
    intro o K μ ho hM hI hr hK h7
    have o0 := hM.o
    have r0 := hM.r0
    have a0 := hM.a0
    have hn := hI.1
    have h5 := hI.2.1
    refine g_iload (i := 4) rfl dX12_turns_13 ?_
    refine g_aload_n (j := 0) rfl dX12_turns_15 ?_
    refine g_getR dX12_turns_16 flX12_9 rfl (by assumption) (kz := 0) rfl (by assumption) ?_
    refine g_iload_n (j := 1) rfl dX12_turns_19 ?_
    refine g_iald dX12_turns_20 (by assumption) (by omega) (by omega) ?_
    rw [hn]
    refine g_icmp_ge (tgt := 76) dX12_turns_21 (by decide) (by omega) (by omega) (fun h21 => ?_) (fun h21 => ?_)
    · exact G.retV dX12_turns_76 rfl ⟨rfl, hK, FrZ.rf, hr⟩
    · omega
  | succ c ih =>
    intro o K μ ho hM hI hr hK h7
    have o0 := hM.o
    have r0 := hM.r0
    have a0 := hM.a0
    have r25 := hM.r25
    have a25 := hM.a25
    have hn := hI.1
    have h5 := hI.2.1
    rw [show List.range' o (c + 1) = o :: List.range' (o + 1) c from rfl] at h7 ⊢
    refine g_iload (i := 4) rfl dX12_turns_13 ?_
    refine g_aload_n (j := 0) rfl dX12_turns_15 ?_
    refine g_getR dX12_turns_16 flX12_9 rfl (by assumption) (kz := 0) rfl (by assumption) ?_
    refine g_iload_n (j := 1) rfl dX12_turns_19 ?_
    refine g_iald dX12_turns_20 (by assumption) (by omega) (by omega) ?_
    rw [hn]
    refine g_icmp_ge (tgt := 76) dX12_turns_21 (by decide) (by omega) (by omega) (fun h21 => ?_) (fun h21 => ?_)
    · omega
    · refine g_iload_n (j := 3) rfl dX12_turns_24 ?_
      refine g_iload (i := 4) rfl dX12_turns_25 ?_
      refine g_ishr dX12_turns_27 ?_
      refine g_iconst dX12_turns_28 ?_
      refine g_iand dX12_turns_29 ?_
      rw [show (iv (iv z >>> (iv (o : Int) &&& 31)).toInt &&& iv 1).toInt = usB z (o : Int) from rfl]
      have hb01 := hz.b (o := o) (by omega)
      refine g_iconst dX12_turns_30 ?_
      refine g_icmp_eq (tgt := 70) dX12_turns_31 (by decide) (by omega) (by omega) (fun h31 => ?_) (fun h31 => ?_)
      · refine g_iinc (i := 4) dX12_turns_70 rfl (by decide) rfl ls4 ?_
        refine g_goto (tgt := 13) (by decide) dX12_turns_73 ?_
        rw [show (o : Int) + 1 = ((o + 1 : Nat) : Int) by omega]
        rw [show (o :: List.range' (o + 1) c).foldl (tStep (lbs ts) f r) K = (List.range' (o + 1) c).foldl (tStep (lbs ts) f r) K from by rw [List.foldl_cons, show tStep (lbs ts) f r K o = K from if_pos (Or.inl ((hz.2 o (by omega)).mp h31))]] at h7 ⊢
        exact ih (o + 1) K μ (by omega) hM hI hr hK h7
      · refine g_aload_n (j := 0) rfl dX12_turns_34 ?_
        refine g_iload_n (j := 1) rfl dX12_turns_35 ?_
        refine g_iload_n (j := 2) rfl dX12_turns_36 ?_
        refine g_iload (i := 4) rfl dX12_turns_37 ?_
        refine g_callV dX12_turns_39 mlX12_300 mvX12_areLike (ci := 12) ⟨by decide, rfl⟩ (by assumption) (c_areLikeP w (d + f + 2) μ (i := r.length) (j := o) hM hs hI rfl rfl (by omega) (by omega)) sv3 rfl (by omega) (Nat.le_of_ble_eq_true rfl) (Nat.le_refl _) (Nat.le_refl _) (fun v μ2 hR => ?_)
        obtain ⟨rfl, hm⟩ := hR
        replace hm := hm.symm
        subst hm
        refine g_ifb_ne (tgt := 48) dX12_turns_42 (by decide)  (fun h42 => ?_) (fun h42 => ?_)
        · refine g_aload_n (j := 0) rfl dX12_turns_48 ?_
          refine g_getR dX12_turns_49 flX12_45 rfl (by assumption) (kz := 25) rfl (by assumption) ?_
          refine g_iload_n (j := 2) rfl dX12_turns_52 ?_
          refine g_iload (i := 4) rfl dX12_turns_53 ?_
          refine g_iast dX12_turns_55 (by assumption) (by omega) (by omega) ?_
          have hf1 : TuF m μ (sI μ (m + 6) (r.length : Int) (o : Int)) := TuF.s (by unfold P69; omega) (by omega)
          have hin : ¬ o ∈ r := fun q => h31 ((hz.2 o (by omega)).mpr q)
          have hr1 : RnM (sI μ (m + 6) (r.length : Int) (o : Int)) m (r ++ [o]) := fun i hi => by
            rw [List.length_append, List.length_singleton] at hi
            rw [mI_sI, List.getD_eq_getElem?_getD]
            by_cases z : i = r.length
            · rw [if_pos ⟨rfl, by omega⟩, z, List.getElem?_append_right (Nat.le_refl _), Nat.sub_self]
              rfl
            · rw [if_neg (by omega), List.getElem?_append_left (by omega), ← List.getD_eq_getElem?_getD]
              exact hr i (by omega)
          have hK1 : KS (sI μ (m + 6) (r.length : Int) (o : Int)) m K := ⟨by rw [mI_sI, if_neg (by omega)]; exact hK.1, fun t q hq => by
            obtain ⟨s1, s2, s3⟩ := hK.2.1 t q hq
            exact ⟨s1, fun k hk => by rw [mI_sI, if_neg (by omega)]; exact s2 k hk, s3⟩, hK.2.2⟩
          have hM1 := hf1.mo hM
          have hI1 := hf1.mfi hM hI
          have o01 := hM1.o
          generalize sI μ (m + 6) (r.length : Int) (o : Int) = μ1 at *
          have estep : tStep (lbs ts) f r K o = tn (lbs ts) f (r ++ [o]) K := if_neg (fun q => q.elim hin (fun y => y h42))
          rw [show (o :: List.range' (o + 1) c).foldl (tStep (lbs ts) f r) K = (List.range' (o + 1) c).foldl (tStep (lbs ts) f r) (tn (lbs ts) f (r ++ [o]) K) from by rw [List.foldl_cons, estep]] at h7 ⊢
          have h71 := Nat.le_trans (tStep_len (lbs ts) f r (List.range' (o + 1) c) (tn (lbs ts) f (r ++ [o]) K)) h7
          refine g_aload_n (j := 0) rfl dX12_turns_56 ?_
          refine g_iload_n (j := 1) rfl dX12_turns_57 ?_
          refine g_iload_n (j := 2) rfl dX12_turns_58 ?_
          refine g_iconst dX12_turns_59 ?_
          refine g_iadd dX12_turns_60 ?_
          refine g_iload_n (j := 3) rfl dX12_turns_61 ?_
          refine g_iconst dX12_turns_62 ?_
          refine g_iload (i := 4) rfl dX12_turns_63 ?_
          refine g_ishl dX12_turns_65 ?_
          refine g_ior dX12_turns_66 ?_
          rw [show (iv z ||| iv (iv 1 <<< (iv (o : Int) &&& 31)).toInt).toInt = orB z (shB (o : Int)) from rfl, show (r.length : Int) + 1 = (((r ++ [o]).length : Nat) : Int) by rw [List.length_append]; rfl]
          have hr21 : ∀ i, i < (r ++ [o]).length → (r ++ [o]).getD i 0 < ts.length := fun i hi => by
            rw [List.length_append, List.length_singleton] at hi
            rw [List.getD_eq_getElem?_getD]
            by_cases z : i = r.length
            · rw [z, List.getElem?_append_right (Nat.le_refl _), Nat.sub_self]
              show o < _
              omega
            · rw [List.getElem?_append_left (by omega), ← List.getD_eq_getElem?_getD]
              exact hr2 i (by omega)
          refine g_callV dX12_turns_67 mlX12_292 mvX12_turns (ci := 12) ⟨by decide, rfl⟩ (by assumption) (ihf (r ++ [o]) K μ1 (orB z (shB (o : Int))) (by rw [List.length_append, List.length_singleton]; omega) hM1 hI1 hr1 hr21 (hz.or (by omega) (fun q => by rw [List.mem_append, List.mem_singleton]; exact Or.comm)) hK1 h71) sv3 rfl (by omega) (Nat.le_of_ble_eq_true rfl) (Nat.le_refl _) (Nat.le_refl _) (fun v μ2 hR => ?_)
          obtain ⟨rfl, hK2, hf2, hr2b⟩ := hR
          have hf12 : TuF m μ μ2 := FrZ.tr hf1 hf2
          have hr3 : RnM μ2 m r := fun i hi => by
            have := hr2b i (by rw [List.length_append]; omega)
            rw [List.getD_eq_getElem?_getD, List.getElem?_append_left hi, ← List.getD_eq_getElem?_getD] at this
            exact this
          refine g_iinc (i := 4) dX12_turns_70 rfl (by decide) rfl ls4 ?_
          refine g_goto (tgt := 13) (by decide) dX12_turns_73 ?_
          rw [show (o : Int) + 1 = ((o + 1 : Nat) : Int) by omega]
          exact G.post (fun v μ3 hq => ⟨hq.1, hq.2.1, FrZ.tr hf12 hq.2.2.1, hq.2.2.2⟩) (ih (o + 1) _ μ2 (by omega) (hf12.mo hM) (hf12.mfi hM hI) hr3 hK2 h7)
        · refine g_goto (tgt := 70) (by decide) dX12_turns_45 ?_
          refine g_iinc (i := 4) dX12_turns_70 rfl (by decide) rfl ls4 ?_
          refine g_goto (tgt := 13) (by decide) dX12_turns_73 ?_
          rw [show (o : Int) + 1 = ((o + 1 : Nat) : Int) by omega]
          rw [show (o :: List.range' (o + 1) c).foldl (tStep (lbs ts) f r) K = (List.range' (o + 1) c).foldl (tStep (lbs ts) f r) K from by rw [List.foldl_cons, show tStep (lbs ts) f r K o = K from if_pos (Or.inr h42)]] at h7 ⊢
          exact ih (o + 1) K μ (by omega) hM hI hr hK h7
theorem c_turns {w : WC} {d m : Nat} {ts : List Tm} {s : Int} (hs : 0 ≤ s ∧ s ≤ 3) : ∀ (f : Nat) (r : List Nat) (K : KL) (μ : Mem) (z : Int), (r).length + f = ts.length → MoS w μ m → MFI μ m s ts → RnM μ m (r) → (∀ i, i < (r).length → (r).getD i 0 < ts.length) → MsK z (r) → KS μ m K → (tn (lbs ts) f (r) K).length ≤ 7 → Con w (d + f + 3) mX12_turns 0 0 [vP (some m), vI s, vI ((r).length : Int), vI z] μ (fun v μ2 => v = none ∧ KS μ2 m (tn (lbs ts) f (r) K) ∧ TuF m μ μ2 ∧ RnM μ2 m (r)) := by
  intro f
  induction f with
  | zero =>
    intro r K μ z hrl hM hI hr hr2 hz hK hk7
    have o0 := hM.o
    have r0 := hM.r0
    have a0 := hM.a0
    have hn := hI.1
    have h5 := hI.2.1
    refine Con.of (by decide) (Nat.le_of_ble_eq_true rfl) rfl ?_
    refine g_iload_n (j := 2) rfl dX12_turns_0 ?_
    refine g_aload_n (j := 0) rfl dX12_turns_1 ?_
    refine g_getR dX12_turns_2 flX12_9 rfl (by assumption) (kz := 0) rfl (by assumption) ?_
    refine g_iload_n (j := 1) rfl dX12_turns_5 ?_
    refine g_iald dX12_turns_6 (by assumption) (by omega) (by omega) ?_
    rw [hn]
    refine g_icmp_ge (tgt := 77) dX12_turns_7 (by decide) (by omega) (by omega) (fun h7 => ?_) (fun h7 => ?_)
    · exact G.post (fun v μ2 hq => ⟨hq.1, hq.2.1, hq.2.2.1, fun i hi => (hq.2.2.2 _).trans (hr i hi)⟩) (l_leaf (d := d + 0) hs hM hI hr (by omega) (fun i hi => by have := hr2 i hi; omega) hK hk7)
    · omega
  | succ f ihf =>
    intro r K μ z hrl hM hI hr hr2 hz hK hk7
    have o0 := hM.o
    have r0 := hM.r0
    have a0 := hM.a0
    have hn := hI.1
    have h5 := hI.2.1
    refine Con.of (by decide) (Nat.le_of_ble_eq_true rfl) rfl ?_
    refine g_iload_n (j := 2) rfl dX12_turns_0 ?_
    refine g_aload_n (j := 0) rfl dX12_turns_1 ?_
    refine g_getR dX12_turns_2 flX12_9 rfl (by assumption) (kz := 0) rfl (by assumption) ?_
    refine g_iload_n (j := 1) rfl dX12_turns_5 ?_
    refine g_iald dX12_turns_6 (by assumption) (by omega) (by omega) ?_
    rw [hn]
    refine g_icmp_ge (tgt := 77) dX12_turns_7 (by decide) (by omega) (by omega) (fun h7 => ?_) (fun h7 => ?_)
    · omega
    · refine g_iconst dX12_turns_10 ?_
      refine g_istore (i := 4) dX12_turns_11 (by decide) rfl ls4 ?_
      rw [tn_s, lbs_len] at hk7 ⊢
      exact l_tl hs hrl hr2 hz ihf ts.length 0 K μ (Nat.zero_add _) hM hI hr hK hk7
