theorem l_st17 {w : WC} {d m n : Nat} {ops : List Op} {V : Int → Int} {s f0 : Int} {sd : Option Int} (hs : 0 ≤ s ∧ s ≤ 1) (hn : n ≤ 180) (hok : ∀ o ∈ ops, OkO o) : ∀ (q : List Op) (k : Nat) (st : List (Option Int)) (μ : Mem) {l4 : Option AV}, (∀ (j : Nat) (o : Op), q[j]? = some o → ops[k + j]? = some o) → k + q.length = n → Wf q st.length → (∀ a b, q = a ++ b → hg a st.length ≤ 90) → evS V q st = [sd] → MoS w μ m → mI μ (m + 14) s = (n : Int) → OpM μ m 0 ops → (∀ l, 0 ≤ l → l ≤ 5 → mI μ (m + 15) l = V l ∧ i32 (V l)) → PlS μ m f0 st → G w (d + 3) mX12_sideTells (fun v μ2 => (∃ r, v = some (vJ r) ∧ i64 r ∧ ((mI μ2 m 44 = 0 ∧ f0 = 0 ∧ sd = some r) ∨ (mI μ2 m 44 = 1 ∧ (f0 = 1 ∨ sd = none)))) ∧ StF m μ μ2) 0 0 17 [some (vP (some m)), some (vI s), some (vI (st.length : Int)), some (vI (k : Int)), l4] [] μ := by
  intro q
  induction q with
  | nil =>
    intro k st μ l4 hq hk hW h90 hE hM e14 hO hV hP
    have ek : k = n := by
      rw [List.length_nil] at hk
      omega
    subst ek
    exact l_st17e hs hn μ st hM e14 hP hE
  | cons o q ih =>
    intro k st μ l4 hq hk hW h90 hE hM e14 hO hV hP
    have ho : ops[k]? = some o := hq 0 o rfl
    have hoo := hok o (List.mem_of_getElem? ho)
    have h9 : st.length ≤ 90 := h90 [] (o :: q) rfl
    rw [List.length_cons] at hk
    have hl := stV_len (V := V) hW.1
    have key : ∀ (μ : Mem), MoS w μ m → mI μ (m + 14) s = (n : Int) → OpM μ m 0 ops → (∀ l, 0 ≤ l → l ≤ 5 → mI μ (m + 15) l = V l ∧ i32 (V l)) → PlS μ m f0 (stV V o st) → G w (d + 3) mX12_sideTells (fun v μ2 => (∃ r, v = some (vJ r) ∧ i64 r ∧ ((mI μ2 m 44 = 0 ∧ f0 = 0 ∧ sd = some r) ∨ (mI μ2 m 44 = 1 ∧ (f0 = 1 ∨ sd = none)))) ∧ StF m μ μ2) 0 0 17 [some (vP (some m)), some (vI s), some (vI (((stV V o st).length : Nat) : Int)), some (vI ((k + 1 : Nat) : Int)), some (vI (sgO o.1))] [] μ := fun μ1 g1 g2 g3 g4 g5 => ih (k + 1) (stV V o st) μ1 (fun j p hp => by rw [show k + 1 + j = k + (j + 1) by omega]; exact hq (j + 1) p hp) (by omega) (by rw [hl]; exact hW.2) (fun a b e => by rw [hl]; exact h90 (o :: a) b (by rw [e]; rfl)) hE g1 g2 g3 g4 g5
    have hnd := hW.1
    unfold nd at hnd
    have hcs : o.1 = 0 ∨ o.1 = 1 ∨ o.1 = 2 ∨ o.1 = 3 ∨ o.1 = 4 ∨ o.1 = 5 := by
      unfold OkO at hoo
      omega
    rcases hcs with h | h | h | h | h | h
    · rw [show stV V o st = some o.2 :: st from if_pos h] at key
      exact l_st_0 hs hn (by omega) ho hoo hM e14 hO hV hP h9 h key
    · rw [show stV V o st = some (V o.2) :: st by unfold stV; rw [if_neg (by omega), if_pos h]] at key
      exact l_st_1 hs hn (by omega) ho hoo hM e14 hO hV hP h9 h key
    · rw [if_neg (by omega), if_neg (by omega)] at hnd
      rcases st with _ | ⟨b, _ | ⟨a, st⟩⟩
      · exact absurd hnd (by decide)
      · exact absurd (show 2 ≤ 1 from hnd) (by decide)
      · rw [show stV V o (b :: a :: st) = cbO o.1 a b :: st by unfold stV; rw [if_neg (by omega), if_neg (by omega), if_neg (by omega)]; rfl] at key
        rw [List.length_cons, List.length_cons] at h9
        rw [show (((b :: a :: st).length : Nat) : Int) = (st.length : Int) + 2 by rw [List.length_cons, List.length_cons]; omega]
        exact l_st_2 hs hn (by omega) ho hoo hM e14 hO hV hP (by omega) h key
    · rw [if_neg (by omega), if_neg (by omega)] at hnd
      rcases st with _ | ⟨b, _ | ⟨a, st⟩⟩
      · exact absurd hnd (by decide)
      · exact absurd (show 2 ≤ 1 from hnd) (by decide)
      · rw [show stV V o (b :: a :: st) = cbO o.1 a b :: st by unfold stV; rw [if_neg (by omega), if_neg (by omega), if_neg (by omega)]; rfl] at key
        rw [List.length_cons, List.length_cons] at h9
        rw [show (((b :: a :: st).length : Nat) : Int) = (st.length : Int) + 2 by rw [List.length_cons, List.length_cons]; omega]
        exact l_st_3 hs hn (by omega) ho hoo hM e14 hO hV hP (by omega) h key
    · rw [if_neg (by omega), if_neg (by omega)] at hnd
      rcases st with _ | ⟨b, _ | ⟨a, st⟩⟩
      · exact absurd hnd (by decide)
      · exact absurd (show 2 ≤ 1 from hnd) (by decide)
      · rw [show stV V o (b :: a :: st) = cbO o.1 a b :: st by unfold stV; rw [if_neg (by omega), if_neg (by omega), if_neg (by omega)]; rfl] at key
        rw [List.length_cons, List.length_cons] at h9
        rw [show (((b :: a :: st).length : Nat) : Int) = (st.length : Int) + 2 by rw [List.length_cons, List.length_cons]; omega]
        exact l_st_4 hs hn (by omega) ho hoo hM e14 hO hV hP (by omega) h key
    · rw [if_neg (by omega), if_pos h] at hnd
      rcases st with _ | ⟨a, st⟩
      · exact absurd hnd (by decide)
      · rw [show stV V o (a :: st) = pwO a o.2 :: st by unfold stV; rw [if_neg (by omega), if_neg (by omega), if_pos h]; rfl] at key
        rw [List.length_cons] at h9
        rw [show (((a :: st).length : Nat) : Int) = (st.length : Int) + 1 by rw [List.length_cons]; omega]
        exact l_st_5 hs hn (by omega) ho hoo hM e14 hO hV hP (by omega) h key
theorem c_sideTells (w : WC) (d : Nat) (μ : Mem) {m : Nat} {I : IdT} {s : Int} {V : Int → Int} (hw : WI I) (h0 : 0 < I.1.2.2.length) (hs : 0 ≤ s ∧ s ≤ 1) (hM : MoS w μ m) (hI : IdM μ m I) (hV : ∀ l, 0 ≤ l → l ≤ 5 → mI μ (m + 15) l = V l ∧ i32 (V l)) (hf : mI μ m 44 = 0 ∨ mI μ m 44 = 1) : Con w (d + 3) mX12_sideTells 0 0 [vP (some m), vI s] μ (fun v μ2 => (∃ r, v = some (vJ r) ∧ i64 r ∧ ((mI μ2 m 44 = 0 ∧ mI μ m 44 = 0 ∧ soV I s V = some r) ∨ (mI μ2 m 44 = 1 ∧ (mI μ m 44 = 1 ∨ soV I s V = none)))) ∧ StF m μ μ2) := by
  obtain ⟨-, hk, ⟨k1, k2⟩, -, gA, gB⟩ := vl_A hw h0
  have hl := hw.1.2
  have o0 := hM.o
  have r35 := hM.r35
  have a35 := hM.a35
  have hP0 : PlS μ m (mI μ m 44) [] := ⟨fun i z1 z2 => absurd z2 (by show ¬ i < 0; omega), hf.imp (fun z => ⟨z, z, trivial⟩) (fun z => ⟨z, Or.inl z⟩)⟩
  refine Con.of (by decide) (Nat.le_of_ble_eq_true rfl) rfl ?_
  refine g_iconst dX12_sideTells_0 ?_
  refine g_istore_n (j := 2) dX12_sideTells_1 (by decide) rfl ls2 ?_
  refine g_iload_n (j := 1) rfl dX12_sideTells_2 ?_
  refine g_if_ne (tgt := 10) dX12_sideTells_3 (by decide) (by omega) (fun h3 => ?_) (fun h3 => ?_)
  · refine g_aload_n (j := 0) rfl dX12_sideTells_10 ?_
    refine g_getR dX12_sideTells_11 flX12_69 rfl (by assumption) (kz := 35) rfl (by assumption) ?_
    refine g_iconst dX12_sideTells_14 ?_
    refine g_iald dX12_sideTells_15 (by assumption) (by omega) (by omega) ?_
    rw [hI.2.1.1]
    refine g_istore_n (j := 3) dX12_sideTells_16 (by decide) rfl ls3 ?_
    have es : s = 1 := by omega
    subst es
    have e : soV I 1 V = sB I V := by rw [soV, pI_f (by omega)]
    rw [e]
    refine l_st17 (d := d) (by omega) hw.1.2 hk (I.1.2.2.drop I.2) I.2 [] μ (fun j p hp => ?_) (by rw [List.length_drop]; omega) (gB.1 0 (Nat.le_refl _)).1 (fun a b hab => ?_) (sdV_e gB []) hM hI.2.1.2 hI.2.2 hV hP0
    · rw [List.getElem?_drop] at hp
      exact hp
    · rw [hab] at gB
      refine hg_90 gB ?_
      rw [← hab, List.length_drop]
      omega
  · refine g_iconst dX12_sideTells_6 ?_
    refine g_goto (tgt := 16) (by decide) dX12_sideTells_7 ?_
    refine g_istore_n (j := 3) dX12_sideTells_16 (by decide) rfl ls3 ?_
    have es : s = 0 := by omega
    subst es
    have e : soV I 0 V = sA I V := by rw [soV, pI_t rfl]
    rw [e]
    refine l_st17 (d := d) (by omega) (by omega : I.2 ≤ 180) hk (I.1.2.2.take I.2) 0 [] μ (fun j p hp => ?_) (by rw [List.length_take]; omega) (gA.1 0 (Nat.le_refl _)).1 (fun a b hab => ?_) (sdV_e gA []) hM hI.2.1.1 hI.2.2 hV hP0
    · rw [Nat.zero_add]
      rw [List.getElem?_take] at hp
      split at hp
      · exact hp
      · cases hp
    · rw [hab] at gA
      refine hg_90 gA ?_
      rw [← hab, List.length_take]
      omega
theorem IdM.st {w : WC} {μ μ2 : Mem} {m : Nat} {I : IdT} {P : Nat → Prop} (h : IdM μ m I) (hf : FrZ m P (fun j => j = 44) μ μ2) (hM : MoS w μ m) (hP : ¬ P (m + 12) ∧ ¬ P (m + 13) ∧ ¬ P (m + 14)) : IdM μ2 m I := by
  obtain ⟨⟨a, b, c⟩, ⟨e, f⟩, g⟩ := h
  have e14 : ∀ j, mI μ2 (m + 14) j = mI μ (m + 14) j := hf.1.I hM.a35.2.1 (fun z => z.elim (by omega) hP.2.2)
  refine ⟨⟨(hf.2 41 (by omega)).trans a, (hf.2 37 (by omega)).trans b, (hf.2 39 (by omega)).trans c⟩, ⟨(e14 _).trans e, (e14 _).trans f⟩, fun j o ho => ?_⟩
  rw [hf.1.I hM.a34.2.1 (fun z => z.elim (by omega) hP.2.1), hf.1.I hM.a33.2.1 (fun z => z.elim (by omega) hP.1)]
  exact g j o ho
theorem c_isBroken (w : WC) (d : Nat) (μ : Mem) {m : Nat} {I : IdT} {V : Int → Int} (hw : WI I) (h0 : 0 < I.1.2.2.length) (hM : MoS w μ m) (hI : IdM μ m I) (hV : ∀ l, 0 ≤ l → l ≤ 5 → mI μ (m + 15) l = V l ∧ i32 (V l)) : Con w (d + 4) mX12_isBroken 0 0 [vP (some m)] μ (fun v μ2 => v = some (vI (bI (brV I V))) ∧ mI μ2 m 44 = bI (byV I V) ∧ StF m μ μ2) := by
  have o0 := hM.o
  refine Con.of (by decide) (Nat.le_of_ble_eq_true rfl) rfl ?_
  refine g_aload_n (j := 0) rfl dX12_isBroken_0 ?_
  refine g_iconst dX12_isBroken_1 ?_
  refine g_putI dX12_isBroken_2 fpX12_381 rfl (nar_bool (by omega)) rfl (by assumption) (kz := 44) rfl ?_
  have hf0 : StF m μ (sI μ m 44 0) := FrZ.sI rfl
  have e440 : mI (sI μ m 44 0) m 44 = 0 := by rw [mI_sI, if_pos ⟨rfl, rfl⟩]
  have hV0 : ∀ l, 0 ≤ l → l ≤ 5 → mI (sI μ m 44 0) (m + 15) l = V l ∧ i32 (V l) := fun l z1 z2 => ⟨(hf0.oth hM).2.2.2 l |>.trans (hV l z1 z2).1, (hV l z1 z2).2⟩
  have hM0 := hf0.mo hM
  have hI0 := hI.st hf0 hM (by omega)
  generalize sI μ m 44 0 = μ0 at *
  have o00 := hM0.o
  refine g_aload_n (j := 0) rfl dX12_isBroken_5 ?_
  refine g_iconst dX12_isBroken_6 ?_
  refine g_callV dX12_isBroken_7 mlX12_398 mvX12_sideTells (ci := 12) ⟨by decide, rfl⟩ (by assumption) (c_sideTells w d μ0 (s := 0) hw h0 (by omega) hM0 hI0 hV0 (Or.inl e440)) sv1 rfl (by omega) (Nat.le_of_ble_eq_true rfl) (Nat.le_refl _) (Nat.le_refl _) (fun v μ1 hR => ?_)
  obtain ⟨⟨r1, rfl, i1, hq1⟩, hf1⟩ := hR
  have hM1 := hf1.mo hM0
  have hI1 := hI0.st hf1 hM0 (by omega)
  have hV1 : ∀ l, 0 ≤ l → l ≤ 5 → mI μ1 (m + 15) l = V l ∧ i32 (V l) := fun l z1 z2 => ⟨(hf1.oth hM0).2.2.2 l |>.trans (hV0 l z1 z2).1, (hV l z1 z2).2⟩
  have o01 := hM1.o
  refine g_lstore_n (j := 1) dX12_isBroken_10 (by decide) rfl lj1 ?_
  refine g_aload_n (j := 0) rfl dX12_isBroken_11 ?_
  refine g_iconst dX12_isBroken_12 ?_
  refine g_callV dX12_isBroken_13 mlX12_398 mvX12_sideTells (ci := 12) ⟨by decide, rfl⟩ (by assumption) (c_sideTells w d μ1 (s := 1) hw h0 (by omega) hM1 hI1 hV1 (by omega)) sv1 rfl (by omega) (Nat.le_of_ble_eq_true rfl) (Nat.le_refl _) (Nat.le_refl _) (fun v μ2 hR => ?_)
  obtain ⟨⟨r2, rfl, i2, hq2⟩, hf2⟩ := hR
  refine g_lstore_n (j := 3) dX12_isBroken_16 (by decide) rfl lj3 ?_
  have o02 := (hf2.mo (hf1.mo hM0)).o
  have hf12 := (FrZ.tr hf0 hf1).tr hf2
  have s0 : soV I 0 V = sA I V := by rw [soV, pI_t rfl]
  have s1 : soV I 1 V = sB I V := by rw [soV, pI_f (by omega)]
  rw [s0] at hq1
  rw [s1] at hq2
  have hall : (mI μ2 m 44 = 0 ∧ sA I V = some r1 ∧ sB I V = some r2) ∨ (mI μ2 m 44 = 1 ∧ byV I V) := by
    rcases hq2 with ⟨a, b, c⟩ | ⟨a, b⟩
    · rcases hq1 with ⟨a1, b1, c1⟩ | ⟨a1, b1⟩
      · exact Or.inl ⟨a, c1, c⟩
      · omega
    · refine Or.inr ⟨a, ?_⟩
      rcases b with b | b
      · rcases hq1 with ⟨a1, b1, c1⟩ | ⟨a1, b1⟩
        · omega
        · exact Or.inl (b1.resolve_left (by omega))
      · exact Or.inr b
  have hby : (¬ mI μ2 m 44 = 0) ↔ byV I V := by
    rcases hall with ⟨a, b, c⟩ | ⟨a, b⟩
    · refine ⟨fun z => absurd a z, fun z => ?_⟩
      rcases z with z | z
      · rw [b] at z
        cases z
      · rw [c] at z
        cases z
    · exact ⟨fun _ => b, fun _ => by omega⟩
  have hv0 : mI μ2 m 44 = 0 → sA I V = some r1 ∧ sB I V = some r2 := fun z => by
    rcases hall with ⟨a, b, c⟩ | ⟨a, b⟩
    · exact ⟨b, c⟩
    · omega
  have hflag : mI μ2 m 44 = bI (byV I V) := by
    rcases hall with ⟨a, b, c⟩ | ⟨a, b⟩
    · rw [a, bI_0 (fun z => hby.mpr z a)]
    · rw [a, bI_1 b]
  have hb01 := bI_01 (byV I V)
  refine g_aload_n (j := 0) rfl dX12_isBroken_17 ?_
  refine g_getI dX12_isBroken_18 flX12_381 rfl (by assumption) (kz := 44) rfl ?_
  refine g_if_ne (tgt := 30) dX12_isBroken_21 (by decide) (by omega) (fun h21 => ?_) (fun h21 => ?_)
  · refine g_iconst dX12_isBroken_30 ?_
    refine g_goto (tgt := 35) (by decide) dX12_isBroken_31 ?_
    exact G.retB dX12_isBroken_35 rfl (eq_bI (Or.inl ⟨rfl, Or.inl (hby.mp h21)⟩)) ⟨rfl, hflag, hf12⟩
  · refine g_lload_n (j := 1) rfl dX12_isBroken_24 ?_
    refine g_lload_n (j := 3) rfl dX12_isBroken_25 ?_
    refine g_lif_eq (tgt := 34) dX12_isBroken_26 dX12_isBroken_27 (by decide) (by omega) (by omega) (fun h26 => ?_) (fun h26 => ?_)
    · refine g_iconst dX12_isBroken_34 ?_
      exact G.retB dX12_isBroken_35 rfl (eq_bI (Or.inr ⟨rfl, fun z => z.elim (fun y => hby.mpr y h21) (fun y => y (by rw [(hv0 h21).1, (hv0 h21).2, h26]))⟩)) ⟨rfl, hflag, hf12⟩
    · refine g_iconst dX12_isBroken_30 ?_
      refine g_goto (tgt := 35) (by decide) dX12_isBroken_31 ?_
      exact G.retB dX12_isBroken_35 rfl (eq_bI (Or.inl ⟨rfl, Or.inr (by rw [(hv0 h21).1, (hv0 h21).2]; intro y; cases y; exact h26 rfl)⟩)) ⟨rfl, hflag, hf12⟩
