/-! THE MODEL: a side's number -/
/-- the pile holds these numbers, the latest first -/
def PlA (f : Int → Int) : List (Option Int) → Prop
  | [] => True
  | v :: st => v = some (f (st.length : Int)) ∧ PlA f st
theorem PlA.eq {f g : Int → Int} : ∀ {st : List (Option Int)}, PlA f st → (∀ i : Int, 0 ≤ i → i < (st.length : Int) → g i = f i) → PlA g st
  | [], _, _ => trivial
  | v :: st, h, e => ⟨by rw [e (st.length : Int) (by omega) (by rw [List.length_cons]; omega)]; exact h.1, PlA.eq h.2 fun i z1 z2 => e i z1 (by rw [List.length_cons]; omega)⟩
/-- flag, pile: all fit, or a number met doesn't -/
def PlS (μ : Mem) (m : Nat) (f0 : Int) (st : List (Option Int)) : Prop := (∀ i : Int, 0 ≤ i → i < (st.length : Int) → i64 (mL μ (m + 16) i)) ∧ ((mI μ m 44 = 0 ∧ f0 = 0 ∧ PlA (mL μ (m + 16)) st) ∨ (mI μ m 44 = 1 ∧ (f0 = 1 ∨ none ∈ st)))
def StF (m : Nat) : Mem → Mem → Prop := FrZ m (fun a => a = m + 16) (fun j => j = 44)
theorem StF.mo {w : WC} {m : Nat} {μ μ2 : Mem} (h : StF m μ μ2) (hM : MoS w μ m) : MoS w μ2 m := FrZ.Mo h hM
theorem StF.oth {w : WC} {m : Nat} {μ μ2 : Mem} (h : StF m μ μ2) (hM : MoS w μ m) : (∀ j, mI μ2 (m + 12) j = mI μ (m + 12) j) ∧ (∀ j, mI μ2 (m + 13) j = mI μ (m + 13) j) ∧ (∀ j, mI μ2 (m + 14) j = mI μ (m + 14) j) ∧ ∀ j, mI μ2 (m + 15) j = mI μ (m + 15) j := ⟨h.1.I hM.a33.2.1 (by omega), h.1.I hM.a34.2.1 (by omega), h.1.I hM.a35.2.1 (by omega), h.1.I hM.a42.2.1 (by omega)⟩
section PL
variable {m : Nat} {f0 : Int} {μ μ2 : Mem} {st : List (Option Int)}
/-- a number is put on the pile -/
theorem PlS.push {z : Int} (h : PlS μ m f0 st) (hz : i64 z) (e : ∀ i, mL μ2 (m + 16) i = if i = (st.length : Int) then z else mL μ (m + 16) i) (e44 : mI μ2 m 44 = mI μ m 44) : PlS μ2 m f0 (some z :: st) := by
  refine ⟨fun i z1 z2 => ?_, ?_⟩
  · rw [e]
    split
    · exact hz
    · rw [List.length_cons] at z2
      exact h.1 i z1 (by omega)
  · rcases h.2 with ⟨a, b, c⟩ | ⟨a, b⟩
    · refine Or.inl ⟨e44.trans a, b, ?_, c.eq fun i z1 z2 => ?_⟩
      · rw [e, if_pos rfl]
      · rw [e, if_neg (by omega)]
    · exact Or.inr ⟨e44.trans a, b.imp id fun q => List.mem_cons_of_mem _ q⟩
/-- the latest number becomes another -/
theorem PlS.top {a c : Option Int} {r : Int} (h : PlS μ m f0 (a :: st)) (hr : i64 r) (e : ∀ i, mL μ2 (m + 16) i = if i = (st.length : Int) then r else mL μ (m + 16) i) (hn : a = none → c = none) (h1 : a = some (mL μ (m + 16) (st.length : Int)) → c = none → mI μ2 m 44 = 1) (h2 : mI μ m 44 = 1 → mI μ2 m 44 = 1) (h3 : ∀ z, a = some (mL μ (m + 16) (st.length : Int)) → c = some z → r = z ∧ mI μ2 m 44 = mI μ m 44) : PlS μ2 m f0 (c :: st) := by
  refine ⟨fun i z1 z2 => ?_, ?_⟩
  · rw [e]
    split
    · exact hr
    · rw [List.length_cons] at z2
      exact h.1 i z1 (by rw [List.length_cons]; omega)
  · rcases h.2 with ⟨a1, b, c1⟩ | ⟨a1, b⟩
    · rcases hc : c with _ | z
      · exact Or.inr ⟨h1 c1.1 hc, Or.inr List.mem_cons_self⟩
      · obtain ⟨k1, k2⟩ := h3 z c1.1 hc
        refine Or.inl ⟨k2.trans a1, b, ?_, c1.2.eq fun i z1 z2 => ?_⟩
        · rw [e, if_pos rfl, k1]
        · rw [e, if_neg (by omega)]
    · refine Or.inr ⟨h2 a1, b.imp id fun q => ?_⟩
      rcases List.mem_cons.mp q with y | y
      · rw [hn y.symm]
        exact List.mem_cons_self
      · exact List.mem_cons_of_mem _ y
/-- two numbers become one -/
theorem PlS.two {a b c : Option Int} {r : Int} (h : PlS μ m f0 (b :: a :: st)) (hr : i64 r) (e : ∀ i, mL μ2 (m + 16) i = if i = (st.length : Int) then r else mL μ (m + 16) i) (hn : a = none ∨ b = none → c = none) (h1 : a = some (mL μ (m + 16) (st.length : Int)) → b = some (mL μ (m + 16) ((st.length : Int) + 1)) → c = none → mI μ2 m 44 = 1) (h2 : mI μ m 44 = 1 → mI μ2 m 44 = 1) (h3 : ∀ z, a = some (mL μ (m + 16) (st.length : Int)) → b = some (mL μ (m + 16) ((st.length : Int) + 1)) → c = some z → r = z ∧ mI μ2 m 44 = mI μ m 44) : PlS μ2 m f0 (c :: st) := by
  refine ⟨fun i z1 z2 => ?_, ?_⟩
  · rw [e]
    split
    · exact hr
    · rw [List.length_cons] at z2
      exact h.1 i z1 (by rw [List.length_cons, List.length_cons]; omega)
  · rcases h.2 with ⟨a1, b1, c1, c2, c3⟩ | ⟨a1, b1⟩
    · rw [show (((a :: st).length : Nat) : Int) = (st.length : Int) + 1 by rw [List.length_cons]; omega] at c1
      rcases hc : c with _ | z
      · exact Or.inr ⟨h1 c2 c1 hc, Or.inr List.mem_cons_self⟩
      · obtain ⟨k1, k2⟩ := h3 z c2 c1 hc
        refine Or.inl ⟨k2.trans a1, b1, ?_, c3.eq fun i z1 z2 => ?_⟩
        · rw [e, if_pos rfl, k1]
        · rw [e, if_neg (by omega)]
    · refine Or.inr ⟨h2 a1, b1.imp id fun q => ?_⟩
      rcases List.mem_cons.mp q with y | y
      · rw [hn (Or.inr y.symm)]
        exact List.mem_cons_self
      · rcases List.mem_cons.mp y with y | y
        · rw [hn (Or.inl y.symm)]
          exact List.mem_cons_self
        · exact List.mem_cons_of_mem _ y
end PL
theorem PlS.fr {m : Nat} {f0 : Int} {μ μ2 : Mem} {st : List (Option Int)} (h : PlS μ m f0 st) (e : ∀ i, mL μ2 (m + 16) i = mL μ (m + 16) i) (e44 : mI μ2 m 44 = mI μ m 44) : PlS μ2 m f0 st := by
  have e2 : mL μ2 (m + 16) = mL μ (m + 16) := funext e
  unfold PlS at *
  rw [e2, e44]
  exact h
theorem l_st17e {w : WC} {d m n : Nat} {s f0 : Int} {sd : Option Int} (hs : 0 ≤ s ∧ s ≤ 1) (hn : n ≤ 180) (μ : Mem) (st : List (Option Int)) {l4 : Option AV} (hM : MoS w μ m) (e14 : mI μ (m + 14) s = (n : Int)) (hP : PlS μ m f0 st) (hE : st = [sd]) : G w (d + 3) mX12_sideTells (fun v μ2 => (∃ r, v = some (vJ r) ∧ i64 r ∧ ((mI μ2 m 44 = 0 ∧ f0 = 0 ∧ sd = some r) ∨ (mI μ2 m 44 = 1 ∧ (f0 = 1 ∨ sd = none)))) ∧ StF m μ μ2) 0 0 17 [some (vP (some m)), some (vI s), some (vI (st.length : Int)), some (vI (n : Int)), l4] [] μ := by
  have o0 := hM.o
  have r35 := hM.r35
  have a35 := hM.a35
  have r43 := hM.r43
  have a43 := hM.a43
  refine g_iload_n (j := 3) rfl dX12_sideTells_17 ?_
  refine g_aload_n (j := 0) rfl dX12_sideTells_18 ?_
  refine g_getR dX12_sideTells_19 flX12_69 rfl (by assumption) (kz := 35) rfl (by assumption) ?_
  refine g_iload_n (j := 1) rfl dX12_sideTells_22 ?_
  refine g_iald dX12_sideTells_23 (by assumption) (by omega) (by omega) ?_
  rw [e14]
  refine g_icmp_ge (tgt := 212) dX12_sideTells_24 (by decide) (by omega) (by omega) (fun h24 => ?_) (fun h24 => ?_)
  · refine g_aload_n (j := 0) rfl dX12_sideTells_212 ?_
    refine g_getR dX12_sideTells_213 flX12_75 rfl (by assumption) (kz := 43) rfl (by assumption) ?_
    refine g_iconst dX12_sideTells_216 ?_
    refine g_lald dX12_sideTells_217 (by assumption) (by omega) (by omega) ?_
    have hst : st = [sd] := hE
    rw [hst] at hP
    refine G.retJ dX12_sideTells_218 rfl ⟨⟨_, rfl, hP.1 0 (by omega) (by show (0 : Int) < 1; omega), ?_⟩, FrZ.rf⟩
    rcases hP.2 with ⟨a, b, c, -⟩ | ⟨a, b⟩
    · exact Or.inl ⟨a, b, c⟩
    · exact Or.inr ⟨a, b.imp id fun q => (List.mem_singleton.mp q).symm⟩
  · omega
theorem l_st_0 {w : WC} {d m n k : Nat} {ops : List Op} {o : Op} {V : Int → Int} {s f0 : Int} {sd : Option Int} (hs : 0 ≤ s ∧ s ≤ 1) (hn : n ≤ 180) (hkn : k < n) {st : List (Option Int)} {μ : Mem} {l4 : Option AV} (ho : ops[k]? = some o) (hok : OkO o) (hM : MoS w μ m) (e14 : mI μ (m + 14) s = (n : Int)) (hO : OpM μ m 0 ops) (hV : ∀ l, 0 ≤ l → l ≤ 5 → mI μ (m + 15) l = V l ∧ i32 (V l)) (hP : PlS μ m f0 (st)) (h90 : st.length ≤ 90) (ho1 : o.1 = 0) (ih : ∀ (μ : Mem), MoS w μ m → mI μ (m + 14) s = (n : Int) → OpM μ m 0 ops → (∀ l, 0 ≤ l → l ≤ 5 → mI μ (m + 15) l = V l ∧ i32 (V l)) → PlS μ m f0 (some o.2 :: st) → G w (d + 3) mX12_sideTells (fun v μ2 => (∃ r, v = some (vJ r) ∧ i64 r ∧ ((mI μ2 m 44 = 0 ∧ f0 = 0 ∧ sd = some r) ∨ (mI μ2 m 44 = 1 ∧ (f0 = 1 ∨ sd = none)))) ∧ StF m μ μ2) 0 0 17 [some (vP (some m)), some (vI s), some (vI (((some o.2 :: st).length : Nat) : Int)), some (vI ((k + 1 : Nat) : Int)), some (vI (sgO o.1))] [] μ) : G w (d + 3) mX12_sideTells (fun v μ2 => (∃ r, v = some (vJ r) ∧ i64 r ∧ ((mI μ2 m 44 = 0 ∧ f0 = 0 ∧ sd = some r) ∨ (mI μ2 m 44 = 1 ∧ (f0 = 1 ∨ sd = none)))) ∧ StF m μ μ2) 0 0 17 [some (vP (some m)), some (vI s), some (vI ((st.length : Int))), some (vI (k : Int)), l4] [] μ := by
  have o0 := hM.o
  have r33 := hM.r33
  have a33 := hM.a33
  have r34 := hM.r34
  have a34 := hM.a34
  have r35 := hM.r35
  have a35 := hM.a35
  have r42 := hM.r42
  have a42 := hM.a42
  have r43 := hM.r43
  have a43 := hM.a43
  have hk1 := get_lt ho
  have hcv := hO k o ho
  rw [Int.zero_add] at hcv
  unfold OkO at hok
  have hsg : sgO o.1 = 0 := by rw [ho1]; rfl
  rw [hsg] at hcv
  refine g_iload_n (j := 3) rfl dX12_sideTells_17 ?_
  refine g_aload_n (j := 0) rfl dX12_sideTells_18 ?_
  refine g_getR dX12_sideTells_19 flX12_69 rfl (by assumption) (kz := 35) rfl (by assumption) ?_
  refine g_iload_n (j := 1) rfl dX12_sideTells_22 ?_
  refine g_iald dX12_sideTells_23 (by assumption) (by omega) (by omega) ?_
  rw [e14]
  refine g_icmp_ge (tgt := 212) dX12_sideTells_24 (by decide) (by omega) (by omega) (fun h24 => ?_) (fun h24 => ?_)
  · omega
  · refine g_aload_n (j := 0) rfl dX12_sideTells_27 ?_
    refine g_getR dX12_sideTells_28 flX12_66 rfl (by assumption) (kz := 34) rfl (by assumption) ?_
    refine g_iload_n (j := 3) rfl dX12_sideTells_31 ?_
    refine g_iald dX12_sideTells_32 (by assumption) (by omega) (by omega) ?_
    rw [hcv.1]
    refine g_istore (i := 4) dX12_sideTells_33 (by decide) rfl ls4 ?_
    refine g_iload (i := 4) rfl dX12_sideTells_35 ?_
    refine g_if_eq (tgt := 46) dX12_sideTells_37 (by decide) (by omega) (fun h37 => ?_) (fun h37 => ?_)
    · refine g_aload_n (j := 0) rfl dX12_sideTells_46 ?_
      refine g_getR dX12_sideTells_47 flX12_75 rfl (by assumption) (kz := 43) rfl (by assumption) ?_
      refine g_iload_n (j := 2) rfl dX12_sideTells_50 ?_
      refine g_iload (i := 4) rfl dX12_sideTells_51 ?_
      refine g_if_ne (tgt := 66) dX12_sideTells_53 (by decide) (by omega) (fun h53 => ?_) (fun h53 => ?_)
      · omega
      · refine g_aload_n (j := 0) rfl dX12_sideTells_56 ?_
        refine g_getR dX12_sideTells_57 flX12_63 rfl (by assumption) (kz := 33) rfl (by assumption) ?_
        refine g_iload_n (j := 3) rfl dX12_sideTells_60 ?_
        refine g_iald dX12_sideTells_61 (by assumption) (by omega) (by omega) ?_
        rw [hcv.2]
        refine g_i2l (by omega) dX12_sideTells_62 ?_
        refine g_goto (tgt := 78) (by decide) dX12_sideTells_63 ?_
        refine g_last dX12_sideTells_78 (by assumption) (by omega) (by omega) ?_
        refine g_iinc (i := 2) dX12_sideTells_79 rfl (by decide) rfl ls2 ?_
        refine g_goto (tgt := 206) (by decide) dX12_sideTells_82 ?_
        refine g_iinc (i := 3) dX12_sideTells_206 rfl (by decide) rfl ls3 ?_
        refine g_goto (tgt := 17) (by decide) dX12_sideTells_209 ?_
        have hf : StF m μ (sL μ (m + 16) (st.length : Int) o.2) := ⟨Fr.sL (Or.inr rfl), fun _ _ => rfl⟩
        have hoth := StF.oth hf hM
        have hq5 : PlS (sL μ (m + 16) (st.length : Int) o.2) m f0 (some o.2 :: st) := by
          refine hP.push (i64_32 ⟨by omega, by omega⟩) (fun i => by
            rw [mL_sL]
            by_cases z : i = (st.length : Int)
            · rw [if_pos ⟨rfl, z⟩, if_pos z]
            · rw [if_neg (fun q => z q.2), if_neg z]) rfl
        generalize sL μ (m + 16) (st.length : Int) o.2 = μ8 at *
        rw [show (k : Int) + 1 = ((k + 1 : Nat) : Int) by omega]
        have hlen : (st.length : Int) + 1 = (((some o.2 :: st).length : Nat) : Int) := by
          rw [List.length_cons]
          omega
        rw [hlen]
        rw [hsg] at ih
        exact G.post (fun v μ9 hq => ⟨hq.1, FrZ.tr hf hq.2⟩) (ih _ (hf.mo hM) ((hoth.2.2.1 s).trans e14) (fun j q hq => by rw [hoth.1, hoth.2.1]; exact hO j q hq) (fun l z1 z2 => ⟨(hoth.2.2.2 l).trans (hV l z1 z2).1, (hV l z1 z2).2⟩) hq5)
    · omega
theorem l_st_1 {w : WC} {d m n k : Nat} {ops : List Op} {o : Op} {V : Int → Int} {s f0 : Int} {sd : Option Int} (hs : 0 ≤ s ∧ s ≤ 1) (hn : n ≤ 180) (hkn : k < n) {st : List (Option Int)} {μ : Mem} {l4 : Option AV} (ho : ops[k]? = some o) (hok : OkO o) (hM : MoS w μ m) (e14 : mI μ (m + 14) s = (n : Int)) (hO : OpM μ m 0 ops) (hV : ∀ l, 0 ≤ l → l ≤ 5 → mI μ (m + 15) l = V l ∧ i32 (V l)) (hP : PlS μ m f0 (st)) (h90 : st.length ≤ 90) (ho1 : o.1 = 1) (ih : ∀ (μ : Mem), MoS w μ m → mI μ (m + 14) s = (n : Int) → OpM μ m 0 ops → (∀ l, 0 ≤ l → l ≤ 5 → mI μ (m + 15) l = V l ∧ i32 (V l)) → PlS μ m f0 (some (V o.2) :: st) → G w (d + 3) mX12_sideTells (fun v μ2 => (∃ r, v = some (vJ r) ∧ i64 r ∧ ((mI μ2 m 44 = 0 ∧ f0 = 0 ∧ sd = some r) ∨ (mI μ2 m 44 = 1 ∧ (f0 = 1 ∨ sd = none)))) ∧ StF m μ μ2) 0 0 17 [some (vP (some m)), some (vI s), some (vI (((some (V o.2) :: st).length : Nat) : Int)), some (vI ((k + 1 : Nat) : Int)), some (vI (sgO o.1))] [] μ) : G w (d + 3) mX12_sideTells (fun v μ2 => (∃ r, v = some (vJ r) ∧ i64 r ∧ ((mI μ2 m 44 = 0 ∧ f0 = 0 ∧ sd = some r) ∨ (mI μ2 m 44 = 1 ∧ (f0 = 1 ∨ sd = none)))) ∧ StF m μ μ2) 0 0 17 [some (vP (some m)), some (vI s), some (vI ((st.length : Int))), some (vI (k : Int)), l4] [] μ := by
  have o0 := hM.o
  have r33 := hM.r33
  have a33 := hM.a33
  have r34 := hM.r34
  have a34 := hM.a34
  have r35 := hM.r35
  have a35 := hM.a35
  have r42 := hM.r42
  have a42 := hM.a42
  have r43 := hM.r43
  have a43 := hM.a43
  have hk1 := get_lt ho
  have hcv := hO k o ho
  rw [Int.zero_add] at hcv
  unfold OkO at hok
  have hsg : sgO o.1 = 1 := by rw [ho1]; rfl
  rw [hsg] at hcv
  refine g_iload_n (j := 3) rfl dX12_sideTells_17 ?_
  refine g_aload_n (j := 0) rfl dX12_sideTells_18 ?_
  refine g_getR dX12_sideTells_19 flX12_69 rfl (by assumption) (kz := 35) rfl (by assumption) ?_
  refine g_iload_n (j := 1) rfl dX12_sideTells_22 ?_
  refine g_iald dX12_sideTells_23 (by assumption) (by omega) (by omega) ?_
  rw [e14]
  refine g_icmp_ge (tgt := 212) dX12_sideTells_24 (by decide) (by omega) (by omega) (fun h24 => ?_) (fun h24 => ?_)
  · omega
  · refine g_aload_n (j := 0) rfl dX12_sideTells_27 ?_
    refine g_getR dX12_sideTells_28 flX12_66 rfl (by assumption) (kz := 34) rfl (by assumption) ?_
    refine g_iload_n (j := 3) rfl dX12_sideTells_31 ?_
    refine g_iald dX12_sideTells_32 (by assumption) (by omega) (by omega) ?_
    rw [hcv.1]
    refine g_istore (i := 4) dX12_sideTells_33 (by decide) rfl ls4 ?_
    refine g_iload (i := 4) rfl dX12_sideTells_35 ?_
    refine g_if_eq (tgt := 46) dX12_sideTells_37 (by decide) (by omega) (fun h37 => ?_) (fun h37 => ?_)
    · omega
    · refine g_iload (i := 4) rfl dX12_sideTells_40 ?_
      refine g_iconst dX12_sideTells_42 ?_
      refine g_icmp_ne (tgt := 85) dX12_sideTells_43 (by decide) (by omega) (by omega) (fun h43 => ?_) (fun h43 => ?_)
      · omega
      · refine g_aload_n (j := 0) rfl dX12_sideTells_46 ?_
        refine g_getR dX12_sideTells_47 flX12_75 rfl (by assumption) (kz := 43) rfl (by assumption) ?_
        refine g_iload_n (j := 2) rfl dX12_sideTells_50 ?_
        refine g_iload (i := 4) rfl dX12_sideTells_51 ?_
        refine g_if_ne (tgt := 66) dX12_sideTells_53 (by decide) (by omega) (fun h53 => ?_) (fun h53 => ?_)
        · have hv := hV o.2 (by omega) (by omega)
          refine g_aload_n (j := 0) rfl dX12_sideTells_66 ?_
          refine g_getR dX12_sideTells_67 flX12_72 rfl (by assumption) (kz := 42) rfl (by assumption) ?_
          refine g_aload_n (j := 0) rfl dX12_sideTells_70 ?_
          refine g_getR dX12_sideTells_71 flX12_63 rfl (by assumption) (kz := 33) rfl (by assumption) ?_
          refine g_iload_n (j := 3) rfl dX12_sideTells_74 ?_
          refine g_iald dX12_sideTells_75 (by assumption) (by omega) (by omega) ?_
          rw [hcv.2]
          refine g_iald dX12_sideTells_76 (by assumption) (by omega) (by omega) ?_
          rw [hv.1]
          refine g_i2l (by omega) dX12_sideTells_77 ?_
          refine g_last dX12_sideTells_78 (by assumption) (by omega) (by omega) ?_
          refine g_iinc (i := 2) dX12_sideTells_79 rfl (by decide) rfl ls2 ?_
          refine g_goto (tgt := 206) (by decide) dX12_sideTells_82 ?_
          refine g_iinc (i := 3) dX12_sideTells_206 rfl (by decide) rfl ls3 ?_
          refine g_goto (tgt := 17) (by decide) dX12_sideTells_209 ?_
          have hf : StF m μ (sL μ (m + 16) (st.length : Int) (V o.2)) := ⟨Fr.sL (Or.inr rfl), fun _ _ => rfl⟩
          have hoth := StF.oth hf hM
          have hq5 : PlS (sL μ (m + 16) (st.length : Int) (V o.2)) m f0 (some (V o.2) :: st) := by
            refine hP.push (i64_32 hv.2) (fun i => by
              rw [mL_sL]
              by_cases z : i = (st.length : Int)
              · rw [if_pos ⟨rfl, z⟩, if_pos z]
              · rw [if_neg (fun q => z q.2), if_neg z]) rfl
          generalize sL μ (m + 16) (st.length : Int) (V o.2) = μ8 at *
          rw [show (k : Int) + 1 = ((k + 1 : Nat) : Int) by omega]
          have hlen : (st.length : Int) + 1 = (((some (V o.2) :: st).length : Nat) : Int) := by
            rw [List.length_cons]
            omega
          rw [hlen]
          rw [hsg] at ih
          exact G.post (fun v μ9 hq => ⟨hq.1, FrZ.tr hf hq.2⟩) (ih _ (hf.mo hM) ((hoth.2.2.1 s).trans e14) (fun j q hq => by rw [hoth.1, hoth.2.1]; exact hO j q hq) (fun l z1 z2 => ⟨(hoth.2.2.2 l).trans (hV l z1 z2).1, (hV l z1 z2).2⟩) hq5)
        · omega
theorem l_st_5 {w : WC} {d m n k : Nat} {ops : List Op} {o : Op} {V : Int → Int} {s f0 : Int} {sd : Option Int} (hs : 0 ≤ s ∧ s ≤ 1) (hn : n ≤ 180) (hkn : k < n) {st : List (Option Int)} {a : Option Int} {μ : Mem} {l4 : Option AV} (ho : ops[k]? = some o) (hok : OkO o) (hM : MoS w μ m) (e14 : mI μ (m + 14) s = (n : Int)) (hO : OpM μ m 0 ops) (hV : ∀ l, 0 ≤ l → l ≤ 5 → mI μ (m + 15) l = V l ∧ i32 (V l)) (hP : PlS μ m f0 (a :: st)) (h90 : st.length ≤ 90) (ho1 : o.1 = 5) (ih : ∀ (μ : Mem), MoS w μ m → mI μ (m + 14) s = (n : Int) → OpM μ m 0 ops → (∀ l, 0 ≤ l → l ≤ 5 → mI μ (m + 15) l = V l ∧ i32 (V l)) → PlS μ m f0 (pwO a o.2 :: st) → G w (d + 3) mX12_sideTells (fun v μ2 => (∃ r, v = some (vJ r) ∧ i64 r ∧ ((mI μ2 m 44 = 0 ∧ f0 = 0 ∧ sd = some r) ∨ (mI μ2 m 44 = 1 ∧ (f0 = 1 ∨ sd = none)))) ∧ StF m μ μ2) 0 0 17 [some (vP (some m)), some (vI s), some (vI (((pwO a o.2 :: st).length : Nat) : Int)), some (vI ((k + 1 : Nat) : Int)), some (vI (sgO o.1))] [] μ) : G w (d + 3) mX12_sideTells (fun v μ2 => (∃ r, v = some (vJ r) ∧ i64 r ∧ ((mI μ2 m 44 = 0 ∧ f0 = 0 ∧ sd = some r) ∨ (mI μ2 m 44 = 1 ∧ (f0 = 1 ∨ sd = none)))) ∧ StF m μ μ2) 0 0 17 [some (vP (some m)), some (vI s), some (vI ((st.length : Int) + 1)), some (vI (k : Int)), l4] [] μ := by
  have o0 := hM.o
  have r33 := hM.r33
  have a33 := hM.a33
  have r34 := hM.r34
  have a34 := hM.a34
  have r35 := hM.r35
  have a35 := hM.a35
  have r42 := hM.r42
  have a42 := hM.a42
  have r43 := hM.r43
  have a43 := hM.a43
  have hk1 := get_lt ho
  have hcv := hO k o ho
  rw [Int.zero_add] at hcv
  unfold OkO at hok
  have hsg : sgO o.1 = 94 := by rw [ho1]; rfl
  rw [hsg] at hcv
  refine g_iload_n (j := 3) rfl dX12_sideTells_17 ?_
  refine g_aload_n (j := 0) rfl dX12_sideTells_18 ?_
  refine g_getR dX12_sideTells_19 flX12_69 rfl (by assumption) (kz := 35) rfl (by assumption) ?_
  refine g_iload_n (j := 1) rfl dX12_sideTells_22 ?_
  refine g_iald dX12_sideTells_23 (by assumption) (by omega) (by omega) ?_
  rw [e14]
  refine g_icmp_ge (tgt := 212) dX12_sideTells_24 (by decide) (by omega) (by omega) (fun h24 => ?_) (fun h24 => ?_)
  · omega
  · refine g_aload_n (j := 0) rfl dX12_sideTells_27 ?_
    refine g_getR dX12_sideTells_28 flX12_66 rfl (by assumption) (kz := 34) rfl (by assumption) ?_
    refine g_iload_n (j := 3) rfl dX12_sideTells_31 ?_
    refine g_iald dX12_sideTells_32 (by assumption) (by omega) (by omega) ?_
    rw [hcv.1]
    refine g_istore (i := 4) dX12_sideTells_33 (by decide) rfl ls4 ?_
    refine g_iload (i := 4) rfl dX12_sideTells_35 ?_
    refine g_if_eq (tgt := 46) dX12_sideTells_37 (by decide) (by omega) (fun h37 => ?_) (fun h37 => ?_)
    · omega
    · refine g_iload (i := 4) rfl dX12_sideTells_40 ?_
      refine g_iconst dX12_sideTells_42 ?_
      refine g_icmp_ne (tgt := 85) dX12_sideTells_43 (by decide) (by omega) (by omega) (fun h43 => ?_) (fun h43 => ?_)
      · refine g_iload (i := 4) rfl dX12_sideTells_85 ?_
        refine g_bipush dX12_sideTells_87 (by omega) ?_
        refine g_icmp_ne (tgt := 121) dX12_sideTells_89 (by decide) (by omega) (by omega) (fun h89 => ?_) (fun h89 => ?_)
        · omega
        · refine g_aload_n (j := 0) rfl dX12_sideTells_92 ?_
          refine g_getR dX12_sideTells_93 flX12_75 rfl (by assumption) (kz := 43) rfl (by assumption) ?_
          refine g_iload_n (j := 2) rfl dX12_sideTells_96 ?_
          refine g_iconst dX12_sideTells_97 ?_
          refine g_isub dX12_sideTells_98 ?_
          rw [show (st.length : Int) + 1 - 1 = (st.length : Int) by omega]
          refine g_aload_n (j := 0) rfl dX12_sideTells_99 ?_
          refine g_aload_n (j := 0) rfl dX12_sideTells_100 ?_
          refine g_getR dX12_sideTells_101 flX12_75 rfl (by assumption) (kz := 43) rfl (by assumption) ?_
          refine g_iload_n (j := 2) rfl dX12_sideTells_104 ?_
          refine g_iconst dX12_sideTells_105 ?_
          refine g_isub dX12_sideTells_106 ?_
          rw [show (st.length : Int) + 1 - 1 = (st.length : Int) by omega]
          refine g_lald dX12_sideTells_107 (by assumption) (by omega) (by omega) ?_
          refine g_aload_n (j := 0) rfl dX12_sideTells_108 ?_
          refine g_getR dX12_sideTells_109 flX12_63 rfl (by assumption) (kz := 33) rfl (by assumption) ?_
          refine g_iload_n (j := 3) rfl dX12_sideTells_112 ?_
          refine g_iald dX12_sideTells_113 (by assumption) (by omega) (by omega) ?_
          rw [hcv.2]
          have ia := hP.1 (st.length : Int) (by omega) (by rw [List.length_cons]; omega)
          have ho6 : 0 ≤ o.2 ∧ o.2 ≤ 6 := by omega
          refine g_callV dX12_sideTells_114 mlX12_388 mvX12_raised (ci := 12) ⟨by decide, rfl⟩ (by assumption) (c_raised w (d + 1) μ o0 ia ho6) sv2 rfl (by omega) (Nat.le_of_ble_eq_true rfl) (Nat.le_refl _) (Nat.le_refl _) (fun v μ2 hR => ?_)
          obtain ⟨r, rfl, ir, hz, hnn, hfl⟩ := hR
          have a432 := (FrZ.Mo hfl hM).a43
          refine g_last dX12_sideTells_117 (by assumption) (by omega) (by omega) ?_
          refine g_goto (tgt := 206) (by decide) dX12_sideTells_118 ?_
          refine g_iinc (i := 3) dX12_sideTells_206 rfl (by decide) rfl ls3 ?_
          refine g_goto (tgt := 17) (by decide) dX12_sideTells_209 ?_
          have hf : StF m μ (sL μ2 (m + 16) (st.length : Int) r) := (FrZ.mono hfl (fun _ z => z.elim) (fun _ z => z)).tr ⟨Fr.sL (Or.inr rfl), fun _ _ => rfl⟩
          have hoth := StF.oth hf hM
          have hq5 : PlS (sL μ2 (m + 16) (st.length : Int) r) m f0 (pwO a o.2 :: st) := by
            refine hP.top (c := pwO a o.2) ir (fun i => by
              rw [mL_sL]
              by_cases z : i = (st.length : Int)
              · rw [if_pos ⟨rfl, z⟩, if_pos z]
              · rw [if_neg (fun q => z q.2), if_neg z, hfl.1.L hM.a43.2.1 (fun q => q.elim (by omega) (fun y => y))]) (fun q => by rw [q]; rfl) (fun q1 q2 => by rw [q1] at q2; exact hnn q2) (fun q => by rcases hc : pwO (some (mL μ (m + 16) (st.length : Int))) o.2 with _ | z; exact hnn hc; exact (hz z hc).2.trans q) (fun z q1 q2 => by rw [q1] at q2; exact hz z q2)
          generalize sL μ2 (m + 16) (st.length : Int) r = μ8 at *
          rw [show (k : Int) + 1 = ((k + 1 : Nat) : Int) by omega]
          have hlen : (st.length : Int) + 1 = (((pwO a o.2 :: st).length : Nat) : Int) := by
            rw [List.length_cons]
            omega
          rw [hlen]
          rw [hsg] at ih
          exact G.post (fun v μ9 hq => ⟨hq.1, FrZ.tr hf hq.2⟩) (ih _ (hf.mo hM) ((hoth.2.2.1 s).trans e14) (fun j q hq => by rw [hoth.1, hoth.2.1]; exact hO j q hq) (fun l z1 z2 => ⟨(hoth.2.2.2 l).trans (hV l z1 z2).1, (hV l z1 z2).2⟩) hq5)
      · omega
theorem l_st_2 {w : WC} {d m n k : Nat} {ops : List Op} {o : Op} {V : Int → Int} {s f0 : Int} {sd : Option Int} (hs : 0 ≤ s ∧ s ≤ 1) (hn : n ≤ 180) (hkn : k < n) {st : List (Option Int)} {a b : Option Int} {μ : Mem} {l4 : Option AV} (ho : ops[k]? = some o) (hok : OkO o) (hM : MoS w μ m) (e14 : mI μ (m + 14) s = (n : Int)) (hO : OpM μ m 0 ops) (hV : ∀ l, 0 ≤ l → l ≤ 5 → mI μ (m + 15) l = V l ∧ i32 (V l)) (hP : PlS μ m f0 (b :: a :: st)) (h90 : st.length ≤ 90) (ho1 : o.1 = 2) (ih : ∀ (μ : Mem), MoS w μ m → mI μ (m + 14) s = (n : Int) → OpM μ m 0 ops → (∀ l, 0 ≤ l → l ≤ 5 → mI μ (m + 15) l = V l ∧ i32 (V l)) → PlS μ m f0 (cbO o.1 a b :: st) → G w (d + 3) mX12_sideTells (fun v μ2 => (∃ r, v = some (vJ r) ∧ i64 r ∧ ((mI μ2 m 44 = 0 ∧ f0 = 0 ∧ sd = some r) ∨ (mI μ2 m 44 = 1 ∧ (f0 = 1 ∨ sd = none)))) ∧ StF m μ μ2) 0 0 17 [some (vP (some m)), some (vI s), some (vI (((cbO o.1 a b :: st).length : Nat) : Int)), some (vI ((k + 1 : Nat) : Int)), some (vI (sgO o.1))] [] μ) : G w (d + 3) mX12_sideTells (fun v μ2 => (∃ r, v = some (vJ r) ∧ i64 r ∧ ((mI μ2 m 44 = 0 ∧ f0 = 0 ∧ sd = some r) ∨ (mI μ2 m 44 = 1 ∧ (f0 = 1 ∨ sd = none)))) ∧ StF m μ μ2) 0 0 17 [some (vP (some m)), some (vI s), some (vI ((st.length : Int) + 2)), some (vI (k : Int)), l4] [] μ := by
  have o0 := hM.o
  have r33 := hM.r33
  have a33 := hM.a33
  have r34 := hM.r34
  have a34 := hM.a34
  have r35 := hM.r35
  have a35 := hM.a35
  have r42 := hM.r42
  have a42 := hM.a42
  have r43 := hM.r43
  have a43 := hM.a43
  have hk1 := get_lt ho
  have hcv := hO k o ho
  rw [Int.zero_add] at hcv
  unfold OkO at hok
  have hsg : sgO o.1 = 43 := by rw [ho1]; rfl
  rw [hsg] at hcv
  refine g_iload_n (j := 3) rfl dX12_sideTells_17 ?_
  refine g_aload_n (j := 0) rfl dX12_sideTells_18 ?_
  refine g_getR dX12_sideTells_19 flX12_69 rfl (by assumption) (kz := 35) rfl (by assumption) ?_
  refine g_iload_n (j := 1) rfl dX12_sideTells_22 ?_
  refine g_iald dX12_sideTells_23 (by assumption) (by omega) (by omega) ?_
  rw [e14]
  refine g_icmp_ge (tgt := 212) dX12_sideTells_24 (by decide) (by omega) (by omega) (fun h24 => ?_) (fun h24 => ?_)
  · omega
  · refine g_aload_n (j := 0) rfl dX12_sideTells_27 ?_
    refine g_getR dX12_sideTells_28 flX12_66 rfl (by assumption) (kz := 34) rfl (by assumption) ?_
    refine g_iload_n (j := 3) rfl dX12_sideTells_31 ?_
    refine g_iald dX12_sideTells_32 (by assumption) (by omega) (by omega) ?_
    rw [hcv.1]
    refine g_istore (i := 4) dX12_sideTells_33 (by decide) rfl ls4 ?_
    refine g_iload (i := 4) rfl dX12_sideTells_35 ?_
    refine g_if_eq (tgt := 46) dX12_sideTells_37 (by decide) (by omega) (fun h37 => ?_) (fun h37 => ?_)
    · omega
    · refine g_iload (i := 4) rfl dX12_sideTells_40 ?_
      refine g_iconst dX12_sideTells_42 ?_
      refine g_icmp_ne (tgt := 85) dX12_sideTells_43 (by decide) (by omega) (by omega) (fun h43 => ?_) (fun h43 => ?_)
      · refine g_iload (i := 4) rfl dX12_sideTells_85 ?_
        refine g_bipush dX12_sideTells_87 (by omega) ?_
        refine g_icmp_ne (tgt := 121) dX12_sideTells_89 (by decide) (by omega) (by omega) (fun h89 => ?_) (fun h89 => ?_)
        · refine g_iinc (i := 2) dX12_sideTells_121 rfl (by decide) rfl ls2 ?_
          rw [show (st.length : Int) + 2 + -1 = (st.length : Int) + 1 by omega]
          have ia := hP.1 (st.length : Int) (by omega) (by rw [List.length_cons, List.length_cons]; omega)
          have ib := hP.1 ((st.length : Int) + 1) (by omega) (by rw [List.length_cons, List.length_cons]; omega)
          refine g_aload_n (j := 0) rfl dX12_sideTells_124 ?_
          refine g_getR dX12_sideTells_125 flX12_75 rfl (by assumption) (kz := 43) rfl (by assumption) ?_
          refine g_iload_n (j := 2) rfl dX12_sideTells_128 ?_
          refine g_iconst dX12_sideTells_129 ?_
          refine g_isub dX12_sideTells_130 ?_
          rw [show (st.length : Int) + 1 - 1 = (st.length : Int) by omega]
          refine g_iload (i := 4) rfl dX12_sideTells_131 ?_
          refine g_bipush dX12_sideTells_133 (by omega) ?_
          refine g_icmp_ne (tgt := 159) dX12_sideTells_135 (by decide) (by omega) (by omega) (fun h135 => ?_) (fun h135 => ?_)
          · omega
          · refine g_aload_n (j := 0) rfl dX12_sideTells_138 ?_
            refine g_aload_n (j := 0) rfl dX12_sideTells_139 ?_
            refine g_getR dX12_sideTells_140 flX12_75 rfl (by assumption) (kz := 43) rfl (by assumption) ?_
            refine g_iload_n (j := 2) rfl dX12_sideTells_143 ?_
            refine g_iconst dX12_sideTells_144 ?_
            refine g_isub dX12_sideTells_145 ?_
            rw [show (st.length : Int) + 1 - 1 = (st.length : Int) by omega]
            refine g_lald dX12_sideTells_146 (by assumption) (by omega) (by omega) ?_
            refine g_aload_n (j := 0) rfl dX12_sideTells_147 ?_
            refine g_getR dX12_sideTells_148 flX12_75 rfl (by assumption) (kz := 43) rfl (by assumption) ?_
            refine g_iload_n (j := 2) rfl dX12_sideTells_151 ?_
            refine g_lald dX12_sideTells_152 (by assumption) (by omega) (by omega) ?_
            refine g_callV dX12_sideTells_153 mlX12_392 mvX12_plus (ci := 12) ⟨by decide, rfl⟩ (by assumption) (c_plus w (d + 2) μ o0 ia ib) sv2 rfl (by omega) (Nat.le_of_ble_eq_true rfl) (Nat.le_refl _) (Nat.le_refl _) (fun v μ2 hR => ?_)
            obtain ⟨rfl, hfp, hfl⟩ := hR
            refine g_goto (tgt := 205) (by decide) dX12_sideTells_156 ?_
            have a432 := (FrZ.Mo hfl hM).a43
            refine g_last dX12_sideTells_205 (by assumption) (by omega) (by omega) ?_
            refine g_iinc (i := 3) dX12_sideTells_206 rfl (by decide) rfl ls3 ?_
            refine g_goto (tgt := 17) (by decide) dX12_sideTells_209 ?_
            have hce : cbI o.1 (mL μ (m + 16) (st.length : Int)) (mL μ (m + 16) ((st.length : Int) + 1)) = mL μ (m + 16) (st.length : Int) + mL μ (m + 16) ((st.length : Int) + 1) := by
              unfold cbI
              rw [ho1]
              rfl
            have hf : StF m μ (sL μ2 (m + 16) (st.length : Int) (wr (mL μ (m + 16) (st.length : Int) + mL μ (m + 16) ((st.length : Int) + 1)))) := (FrZ.mono hfl (fun _ z => z.elim) (fun _ z => z)).tr ⟨Fr.sL (Or.inr rfl), fun _ _ => rfl⟩
            have hoth := StF.oth hf hM
            have hq5 : PlS (sL μ2 (m + 16) (st.length : Int) (wr (mL μ (m + 16) (st.length : Int) + mL μ (m + 16) ((st.length : Int) + 1)))) m f0 (cbO o.1 a b :: st) := by
              refine hP.two (c := cbO o.1 a b) (wr_i64 _) (fun i => by
                rw [mL_sL]
                by_cases z : i = (st.length : Int)
                · rw [if_pos ⟨rfl, z⟩, if_pos z]
                · rw [if_neg (fun q => z q.2), if_neg z, hfl.1.L hM.a43.2.1 (fun q => q.elim (by omega) (fun y => y))]) (fun q => by rcases q with q | q <;> rw [q] <;> first | rfl | (cases a <;> rfl)) (fun q1 q2 q3 => ?_) (fun q => ?_) (fun z q1 q2 q3 => ?_)
              · rw [q1, q2] at q3
                refine hfp.2 fun y => ?_
                rw [← hce] at y
                have q4 : (if i64 (cbI o.1 (mL μ (m + 16) (st.length : Int)) (mL μ (m + 16) ((st.length : Int) + 1))) then some (cbI o.1 (mL μ (m + 16) (st.length : Int)) (mL μ (m + 16) ((st.length : Int) + 1))) else none) = none := q3
                rw [if_pos y] at q4
                cases q4
              · by_cases y : i64 (mL μ (m + 16) (st.length : Int) + mL μ (m + 16) ((st.length : Int) + 1))
                · exact (hfp.1 y).trans q
                · exact hfp.2 y
              · rw [q1, q2] at q3
                have q4 : (if i64 (cbI o.1 (mL μ (m + 16) (st.length : Int)) (mL μ (m + 16) ((st.length : Int) + 1))) then some (cbI o.1 (mL μ (m + 16) (st.length : Int)) (mL μ (m + 16) ((st.length : Int) + 1))) else none) = some z := q3
                by_cases y : i64 (cbI o.1 (mL μ (m + 16) (st.length : Int)) (mL μ (m + 16) ((st.length : Int) + 1)))
                · rw [if_pos y] at q4
                  rw [hce] at y q4
                  cases q4
                  exact ⟨wr_id y, hfp.1 y⟩
                · rw [if_neg y] at q4
                  cases q4
            generalize sL μ2 (m + 16) (st.length : Int) (wr (mL μ (m + 16) (st.length : Int) + mL μ (m + 16) ((st.length : Int) + 1))) = μ8 at *
            rw [show (k : Int) + 1 = ((k + 1 : Nat) : Int) by omega]
            have hlen : (st.length : Int) + 1 = (((cbO o.1 a b :: st).length : Nat) : Int) := by
              rw [List.length_cons]
              omega
            rw [hlen]
            rw [hsg] at ih
            exact G.post (fun v μ9 hq => ⟨hq.1, FrZ.tr hf hq.2⟩) (ih _ (hf.mo hM) ((hoth.2.2.1 s).trans e14) (fun j q hq => by rw [hoth.1, hoth.2.1]; exact hO j q hq) (fun l z1 z2 => ⟨(hoth.2.2.2 l).trans (hV l z1 z2).1, (hV l z1 z2).2⟩) hq5)
        · omega
      · omega
theorem l_st_3 {w : WC} {d m n k : Nat} {ops : List Op} {o : Op} {V : Int → Int} {s f0 : Int} {sd : Option Int} (hs : 0 ≤ s ∧ s ≤ 1) (hn : n ≤ 180) (hkn : k < n) {st : List (Option Int)} {a b : Option Int} {μ : Mem} {l4 : Option AV} (ho : ops[k]? = some o) (hok : OkO o) (hM : MoS w μ m) (e14 : mI μ (m + 14) s = (n : Int)) (hO : OpM μ m 0 ops) (hV : ∀ l, 0 ≤ l → l ≤ 5 → mI μ (m + 15) l = V l ∧ i32 (V l)) (hP : PlS μ m f0 (b :: a :: st)) (h90 : st.length ≤ 90) (ho1 : o.1 = 3) (ih : ∀ (μ : Mem), MoS w μ m → mI μ (m + 14) s = (n : Int) → OpM μ m 0 ops → (∀ l, 0 ≤ l → l ≤ 5 → mI μ (m + 15) l = V l ∧ i32 (V l)) → PlS μ m f0 (cbO o.1 a b :: st) → G w (d + 3) mX12_sideTells (fun v μ2 => (∃ r, v = some (vJ r) ∧ i64 r ∧ ((mI μ2 m 44 = 0 ∧ f0 = 0 ∧ sd = some r) ∨ (mI μ2 m 44 = 1 ∧ (f0 = 1 ∨ sd = none)))) ∧ StF m μ μ2) 0 0 17 [some (vP (some m)), some (vI s), some (vI (((cbO o.1 a b :: st).length : Nat) : Int)), some (vI ((k + 1 : Nat) : Int)), some (vI (sgO o.1))] [] μ) : G w (d + 3) mX12_sideTells (fun v μ2 => (∃ r, v = some (vJ r) ∧ i64 r ∧ ((mI μ2 m 44 = 0 ∧ f0 = 0 ∧ sd = some r) ∨ (mI μ2 m 44 = 1 ∧ (f0 = 1 ∨ sd = none)))) ∧ StF m μ μ2) 0 0 17 [some (vP (some m)), some (vI s), some (vI ((st.length : Int) + 2)), some (vI (k : Int)), l4] [] μ := by
  have o0 := hM.o
  have r33 := hM.r33
  have a33 := hM.a33
  have r34 := hM.r34
  have a34 := hM.a34
  have r35 := hM.r35
  have a35 := hM.a35
  have r42 := hM.r42
  have a42 := hM.a42
  have r43 := hM.r43
  have a43 := hM.a43
  have hk1 := get_lt ho
  have hcv := hO k o ho
  rw [Int.zero_add] at hcv
  unfold OkO at hok
  have hsg : sgO o.1 = 45 := by rw [ho1]; rfl
  rw [hsg] at hcv
  refine g_iload_n (j := 3) rfl dX12_sideTells_17 ?_
  refine g_aload_n (j := 0) rfl dX12_sideTells_18 ?_
  refine g_getR dX12_sideTells_19 flX12_69 rfl (by assumption) (kz := 35) rfl (by assumption) ?_
  refine g_iload_n (j := 1) rfl dX12_sideTells_22 ?_
  refine g_iald dX12_sideTells_23 (by assumption) (by omega) (by omega) ?_
  rw [e14]
  refine g_icmp_ge (tgt := 212) dX12_sideTells_24 (by decide) (by omega) (by omega) (fun h24 => ?_) (fun h24 => ?_)
  · omega
  · refine g_aload_n (j := 0) rfl dX12_sideTells_27 ?_
    refine g_getR dX12_sideTells_28 flX12_66 rfl (by assumption) (kz := 34) rfl (by assumption) ?_
    refine g_iload_n (j := 3) rfl dX12_sideTells_31 ?_
    refine g_iald dX12_sideTells_32 (by assumption) (by omega) (by omega) ?_
    rw [hcv.1]
    refine g_istore (i := 4) dX12_sideTells_33 (by decide) rfl ls4 ?_
    refine g_iload (i := 4) rfl dX12_sideTells_35 ?_
    refine g_if_eq (tgt := 46) dX12_sideTells_37 (by decide) (by omega) (fun h37 => ?_) (fun h37 => ?_)
    · omega
    · refine g_iload (i := 4) rfl dX12_sideTells_40 ?_
      refine g_iconst dX12_sideTells_42 ?_
      refine g_icmp_ne (tgt := 85) dX12_sideTells_43 (by decide) (by omega) (by omega) (fun h43 => ?_) (fun h43 => ?_)
      · refine g_iload (i := 4) rfl dX12_sideTells_85 ?_
        refine g_bipush dX12_sideTells_87 (by omega) ?_
        refine g_icmp_ne (tgt := 121) dX12_sideTells_89 (by decide) (by omega) (by omega) (fun h89 => ?_) (fun h89 => ?_)
        · refine g_iinc (i := 2) dX12_sideTells_121 rfl (by decide) rfl ls2 ?_
          rw [show (st.length : Int) + 2 + -1 = (st.length : Int) + 1 by omega]
          have ia := hP.1 (st.length : Int) (by omega) (by rw [List.length_cons, List.length_cons]; omega)
          have ib := hP.1 ((st.length : Int) + 1) (by omega) (by rw [List.length_cons, List.length_cons]; omega)
          refine g_aload_n (j := 0) rfl dX12_sideTells_124 ?_
          refine g_getR dX12_sideTells_125 flX12_75 rfl (by assumption) (kz := 43) rfl (by assumption) ?_
          refine g_iload_n (j := 2) rfl dX12_sideTells_128 ?_
          refine g_iconst dX12_sideTells_129 ?_
          refine g_isub dX12_sideTells_130 ?_
          rw [show (st.length : Int) + 1 - 1 = (st.length : Int) by omega]
          refine g_iload (i := 4) rfl dX12_sideTells_131 ?_
          refine g_bipush dX12_sideTells_133 (by omega) ?_
          refine g_icmp_ne (tgt := 159) dX12_sideTells_135 (by decide) (by omega) (by omega) (fun h135 => ?_) (fun h135 => ?_)
          · refine g_iload (i := 4) rfl dX12_sideTells_159 ?_
            refine g_bipush dX12_sideTells_161 (by omega) ?_
            refine g_icmp_ne (tgt := 187) dX12_sideTells_163 (by decide) (by omega) (by omega) (fun h163 => ?_) (fun h163 => ?_)
            · omega
            · refine g_aload_n (j := 0) rfl dX12_sideTells_166 ?_
              refine g_aload_n (j := 0) rfl dX12_sideTells_167 ?_
              refine g_getR dX12_sideTells_168 flX12_75 rfl (by assumption) (kz := 43) rfl (by assumption) ?_
              refine g_iload_n (j := 2) rfl dX12_sideTells_171 ?_
              refine g_iconst dX12_sideTells_172 ?_
              refine g_isub dX12_sideTells_173 ?_
              rw [show (st.length : Int) + 1 - 1 = (st.length : Int) by omega]
              refine g_lald dX12_sideTells_174 (by assumption) (by omega) (by omega) ?_
              refine g_aload_n (j := 0) rfl dX12_sideTells_175 ?_
              refine g_getR dX12_sideTells_176 flX12_75 rfl (by assumption) (kz := 43) rfl (by assumption) ?_
              refine g_iload_n (j := 2) rfl dX12_sideTells_179 ?_
              refine g_lald dX12_sideTells_180 (by assumption) (by omega) (by omega) ?_
              refine g_callV dX12_sideTells_181 mlX12_395 mvX12_minus (ci := 12) ⟨by decide, rfl⟩ (by assumption) (c_minus w (d + 2) μ o0 ia ib) sv2 rfl (by omega) (Nat.le_of_ble_eq_true rfl) (Nat.le_refl _) (Nat.le_refl _) (fun v μ2 hR => ?_)
              obtain ⟨rfl, hfp, hfl⟩ := hR
              refine g_goto (tgt := 205) (by decide) dX12_sideTells_184 ?_
              have a432 := (FrZ.Mo hfl hM).a43
              refine g_last dX12_sideTells_205 (by assumption) (by omega) (by omega) ?_
              refine g_iinc (i := 3) dX12_sideTells_206 rfl (by decide) rfl ls3 ?_
              refine g_goto (tgt := 17) (by decide) dX12_sideTells_209 ?_
              have hce : cbI o.1 (mL μ (m + 16) (st.length : Int)) (mL μ (m + 16) ((st.length : Int) + 1)) = mL μ (m + 16) (st.length : Int) - mL μ (m + 16) ((st.length : Int) + 1) := by
                unfold cbI
                rw [ho1]
                rfl
              have hf : StF m μ (sL μ2 (m + 16) (st.length : Int) (wr (mL μ (m + 16) (st.length : Int) - mL μ (m + 16) ((st.length : Int) + 1)))) := (FrZ.mono hfl (fun _ z => z.elim) (fun _ z => z)).tr ⟨Fr.sL (Or.inr rfl), fun _ _ => rfl⟩
              have hoth := StF.oth hf hM
              have hq5 : PlS (sL μ2 (m + 16) (st.length : Int) (wr (mL μ (m + 16) (st.length : Int) - mL μ (m + 16) ((st.length : Int) + 1)))) m f0 (cbO o.1 a b :: st) := by
                refine hP.two (c := cbO o.1 a b) (wr_i64 _) (fun i => by
                  rw [mL_sL]
                  by_cases z : i = (st.length : Int)
                  · rw [if_pos ⟨rfl, z⟩, if_pos z]
                  · rw [if_neg (fun q => z q.2), if_neg z, hfl.1.L hM.a43.2.1 (fun q => q.elim (by omega) (fun y => y))]) (fun q => by rcases q with q | q <;> rw [q] <;> first | rfl | (cases a <;> rfl)) (fun q1 q2 q3 => ?_) (fun q => ?_) (fun z q1 q2 q3 => ?_)
                · rw [q1, q2] at q3
                  refine hfp.2 fun y => ?_
                  rw [← hce] at y
                  have q4 : (if i64 (cbI o.1 (mL μ (m + 16) (st.length : Int)) (mL μ (m + 16) ((st.length : Int) + 1))) then some (cbI o.1 (mL μ (m + 16) (st.length : Int)) (mL μ (m + 16) ((st.length : Int) + 1))) else none) = none := q3
                  rw [if_pos y] at q4
                  cases q4
                · by_cases y : i64 (mL μ (m + 16) (st.length : Int) - mL μ (m + 16) ((st.length : Int) + 1))
                  · exact (hfp.1 y).trans q
                  · exact hfp.2 y
                · rw [q1, q2] at q3
                  have q4 : (if i64 (cbI o.1 (mL μ (m + 16) (st.length : Int)) (mL μ (m + 16) ((st.length : Int) + 1))) then some (cbI o.1 (mL μ (m + 16) (st.length : Int)) (mL μ (m + 16) ((st.length : Int) + 1))) else none) = some z := q3
                  by_cases y : i64 (cbI o.1 (mL μ (m + 16) (st.length : Int)) (mL μ (m + 16) ((st.length : Int) + 1)))
                  · rw [if_pos y] at q4
                    rw [hce] at y q4
                    cases q4
                    exact ⟨wr_id y, hfp.1 y⟩
                  · rw [if_neg y] at q4
                    cases q4
              generalize sL μ2 (m + 16) (st.length : Int) (wr (mL μ (m + 16) (st.length : Int) - mL μ (m + 16) ((st.length : Int) + 1))) = μ8 at *
              rw [show (k : Int) + 1 = ((k + 1 : Nat) : Int) by omega]
              have hlen : (st.length : Int) + 1 = (((cbO o.1 a b :: st).length : Nat) : Int) := by
                rw [List.length_cons]
                omega
              rw [hlen]
              rw [hsg] at ih
              exact G.post (fun v μ9 hq => ⟨hq.1, FrZ.tr hf hq.2⟩) (ih _ (hf.mo hM) ((hoth.2.2.1 s).trans e14) (fun j q hq => by rw [hoth.1, hoth.2.1]; exact hO j q hq) (fun l z1 z2 => ⟨(hoth.2.2.2 l).trans (hV l z1 z2).1, (hV l z1 z2).2⟩) hq5)
          · omega
        · omega
      · omega
theorem l_st_4 {w : WC} {d m n k : Nat} {ops : List Op} {o : Op} {V : Int → Int} {s f0 : Int} {sd : Option Int} (hs : 0 ≤ s ∧ s ≤ 1) (hn : n ≤ 180) (hkn : k < n) {st : List (Option Int)} {a b : Option Int} {μ : Mem} {l4 : Option AV} (ho : ops[k]? = some o) (hok : OkO o) (hM : MoS w μ m) (e14 : mI μ (m + 14) s = (n : Int)) (hO : OpM μ m 0 ops) (hV : ∀ l, 0 ≤ l → l ≤ 5 → mI μ (m + 15) l = V l ∧ i32 (V l)) (hP : PlS μ m f0 (b :: a :: st)) (h90 : st.length ≤ 90) (ho1 : o.1 = 4) (ih : ∀ (μ : Mem), MoS w μ m → mI μ (m + 14) s = (n : Int) → OpM μ m 0 ops → (∀ l, 0 ≤ l → l ≤ 5 → mI μ (m + 15) l = V l ∧ i32 (V l)) → PlS μ m f0 (cbO o.1 a b :: st) → G w (d + 3) mX12_sideTells (fun v μ2 => (∃ r, v = some (vJ r) ∧ i64 r ∧ ((mI μ2 m 44 = 0 ∧ f0 = 0 ∧ sd = some r) ∨ (mI μ2 m 44 = 1 ∧ (f0 = 1 ∨ sd = none)))) ∧ StF m μ μ2) 0 0 17 [some (vP (some m)), some (vI s), some (vI (((cbO o.1 a b :: st).length : Nat) : Int)), some (vI ((k + 1 : Nat) : Int)), some (vI (sgO o.1))] [] μ) : G w (d + 3) mX12_sideTells (fun v μ2 => (∃ r, v = some (vJ r) ∧ i64 r ∧ ((mI μ2 m 44 = 0 ∧ f0 = 0 ∧ sd = some r) ∨ (mI μ2 m 44 = 1 ∧ (f0 = 1 ∨ sd = none)))) ∧ StF m μ μ2) 0 0 17 [some (vP (some m)), some (vI s), some (vI ((st.length : Int) + 2)), some (vI (k : Int)), l4] [] μ := by
  have o0 := hM.o
  have r33 := hM.r33
  have a33 := hM.a33
  have r34 := hM.r34
  have a34 := hM.a34
  have r35 := hM.r35
  have a35 := hM.a35
  have r42 := hM.r42
  have a42 := hM.a42
  have r43 := hM.r43
  have a43 := hM.a43
  have hk1 := get_lt ho
  have hcv := hO k o ho
  rw [Int.zero_add] at hcv
  unfold OkO at hok
  have hsg : sgO o.1 = 42 := by rw [ho1]; rfl
  rw [hsg] at hcv
  refine g_iload_n (j := 3) rfl dX12_sideTells_17 ?_
  refine g_aload_n (j := 0) rfl dX12_sideTells_18 ?_
  refine g_getR dX12_sideTells_19 flX12_69 rfl (by assumption) (kz := 35) rfl (by assumption) ?_
  refine g_iload_n (j := 1) rfl dX12_sideTells_22 ?_
  refine g_iald dX12_sideTells_23 (by assumption) (by omega) (by omega) ?_
  rw [e14]
  refine g_icmp_ge (tgt := 212) dX12_sideTells_24 (by decide) (by omega) (by omega) (fun h24 => ?_) (fun h24 => ?_)
  · omega
  · refine g_aload_n (j := 0) rfl dX12_sideTells_27 ?_
    refine g_getR dX12_sideTells_28 flX12_66 rfl (by assumption) (kz := 34) rfl (by assumption) ?_
    refine g_iload_n (j := 3) rfl dX12_sideTells_31 ?_
    refine g_iald dX12_sideTells_32 (by assumption) (by omega) (by omega) ?_
    rw [hcv.1]
    refine g_istore (i := 4) dX12_sideTells_33 (by decide) rfl ls4 ?_
    refine g_iload (i := 4) rfl dX12_sideTells_35 ?_
    refine g_if_eq (tgt := 46) dX12_sideTells_37 (by decide) (by omega) (fun h37 => ?_) (fun h37 => ?_)
    · omega
    · refine g_iload (i := 4) rfl dX12_sideTells_40 ?_
      refine g_iconst dX12_sideTells_42 ?_
      refine g_icmp_ne (tgt := 85) dX12_sideTells_43 (by decide) (by omega) (by omega) (fun h43 => ?_) (fun h43 => ?_)
      · refine g_iload (i := 4) rfl dX12_sideTells_85 ?_
        refine g_bipush dX12_sideTells_87 (by omega) ?_
        refine g_icmp_ne (tgt := 121) dX12_sideTells_89 (by decide) (by omega) (by omega) (fun h89 => ?_) (fun h89 => ?_)
        · refine g_iinc (i := 2) dX12_sideTells_121 rfl (by decide) rfl ls2 ?_
          rw [show (st.length : Int) + 2 + -1 = (st.length : Int) + 1 by omega]
          have ia := hP.1 (st.length : Int) (by omega) (by rw [List.length_cons, List.length_cons]; omega)
          have ib := hP.1 ((st.length : Int) + 1) (by omega) (by rw [List.length_cons, List.length_cons]; omega)
          refine g_aload_n (j := 0) rfl dX12_sideTells_124 ?_
          refine g_getR dX12_sideTells_125 flX12_75 rfl (by assumption) (kz := 43) rfl (by assumption) ?_
          refine g_iload_n (j := 2) rfl dX12_sideTells_128 ?_
          refine g_iconst dX12_sideTells_129 ?_
          refine g_isub dX12_sideTells_130 ?_
          rw [show (st.length : Int) + 1 - 1 = (st.length : Int) by omega]
          refine g_iload (i := 4) rfl dX12_sideTells_131 ?_
          refine g_bipush dX12_sideTells_133 (by omega) ?_
          refine g_icmp_ne (tgt := 159) dX12_sideTells_135 (by decide) (by omega) (by omega) (fun h135 => ?_) (fun h135 => ?_)
          · refine g_iload (i := 4) rfl dX12_sideTells_159 ?_
            refine g_bipush dX12_sideTells_161 (by omega) ?_
            refine g_icmp_ne (tgt := 187) dX12_sideTells_163 (by decide) (by omega) (by omega) (fun h163 => ?_) (fun h163 => ?_)
            · refine g_aload_n (j := 0) rfl dX12_sideTells_187 ?_
              refine g_aload_n (j := 0) rfl dX12_sideTells_188 ?_
              refine g_getR dX12_sideTells_189 flX12_75 rfl (by assumption) (kz := 43) rfl (by assumption) ?_
              refine g_iload_n (j := 2) rfl dX12_sideTells_192 ?_
              refine g_iconst dX12_sideTells_193 ?_
              refine g_isub dX12_sideTells_194 ?_
              rw [show (st.length : Int) + 1 - 1 = (st.length : Int) by omega]
              refine g_lald dX12_sideTells_195 (by assumption) (by omega) (by omega) ?_
              refine g_aload_n (j := 0) rfl dX12_sideTells_196 ?_
              refine g_getR dX12_sideTells_197 flX12_75 rfl (by assumption) (kz := 43) rfl (by assumption) ?_
              refine g_iload_n (j := 2) rfl dX12_sideTells_200 ?_
              refine g_lald dX12_sideTells_201 (by assumption) (by omega) (by omega) ?_
              refine g_callV dX12_sideTells_202 mlX12_384 mvX12_times (ci := 12) ⟨by decide, rfl⟩ (by assumption) (c_times w (d + 2) μ o0 ia ib) sv2 rfl (by omega) (Nat.le_of_ble_eq_true rfl) (Nat.le_refl _) (Nat.le_refl _) (fun v μ2 hR => ?_)
              obtain ⟨rfl, hfp, hfl⟩ := hR
              have a432 := (FrZ.Mo hfl hM).a43
              refine g_last dX12_sideTells_205 (by assumption) (by omega) (by omega) ?_
              refine g_iinc (i := 3) dX12_sideTells_206 rfl (by decide) rfl ls3 ?_
              refine g_goto (tgt := 17) (by decide) dX12_sideTells_209 ?_
              have hce : cbI o.1 (mL μ (m + 16) (st.length : Int)) (mL μ (m + 16) ((st.length : Int) + 1)) = mL μ (m + 16) (st.length : Int) * mL μ (m + 16) ((st.length : Int) + 1) := by
                unfold cbI
                rw [ho1]
                rfl
              have hf : StF m μ (sL μ2 (m + 16) (st.length : Int) (wr (mL μ (m + 16) (st.length : Int) * mL μ (m + 16) ((st.length : Int) + 1)))) := (FrZ.mono hfl (fun _ z => z.elim) (fun _ z => z)).tr ⟨Fr.sL (Or.inr rfl), fun _ _ => rfl⟩
              have hoth := StF.oth hf hM
              have hq5 : PlS (sL μ2 (m + 16) (st.length : Int) (wr (mL μ (m + 16) (st.length : Int) * mL μ (m + 16) ((st.length : Int) + 1)))) m f0 (cbO o.1 a b :: st) := by
                refine hP.two (c := cbO o.1 a b) (wr_i64 _) (fun i => by
                  rw [mL_sL]
                  by_cases z : i = (st.length : Int)
                  · rw [if_pos ⟨rfl, z⟩, if_pos z]
                  · rw [if_neg (fun q => z q.2), if_neg z, hfl.1.L hM.a43.2.1 (fun q => q.elim (by omega) (fun y => y))]) (fun q => by rcases q with q | q <;> rw [q] <;> first | rfl | (cases a <;> rfl)) (fun q1 q2 q3 => ?_) (fun q => ?_) (fun z q1 q2 q3 => ?_)
                · rw [q1, q2] at q3
                  refine hfp.2 fun y => ?_
                  rw [← hce] at y
                  have q4 : (if i64 (cbI o.1 (mL μ (m + 16) (st.length : Int)) (mL μ (m + 16) ((st.length : Int) + 1))) then some (cbI o.1 (mL μ (m + 16) (st.length : Int)) (mL μ (m + 16) ((st.length : Int) + 1))) else none) = none := q3
                  rw [if_pos y] at q4
                  cases q4
                · by_cases y : i64 (mL μ (m + 16) (st.length : Int) * mL μ (m + 16) ((st.length : Int) + 1))
                  · exact (hfp.1 y).trans q
                  · exact hfp.2 y
                · rw [q1, q2] at q3
                  have q4 : (if i64 (cbI o.1 (mL μ (m + 16) (st.length : Int)) (mL μ (m + 16) ((st.length : Int) + 1))) then some (cbI o.1 (mL μ (m + 16) (st.length : Int)) (mL μ (m + 16) ((st.length : Int) + 1))) else none) = some z := q3
                  by_cases y : i64 (cbI o.1 (mL μ (m + 16) (st.length : Int)) (mL μ (m + 16) ((st.length : Int) + 1)))
                  · rw [if_pos y] at q4
                    rw [hce] at y q4
                    cases q4
                    exact ⟨wr_id y, hfp.1 y⟩
                  · rw [if_neg y] at q4
                    cases q4
              generalize sL μ2 (m + 16) (st.length : Int) (wr (mL μ (m + 16) (st.length : Int) * mL μ (m + 16) ((st.length : Int) + 1))) = μ8 at *
              rw [show (k : Int) + 1 = ((k + 1 : Nat) : Int) by omega]
              have hlen : (st.length : Int) + 1 = (((cbO o.1 a b :: st).length : Nat) : Int) := by
                rw [List.length_cons]
                omega
              rw [hlen]
              rw [hsg] at ih
              exact G.post (fun v μ9 hq => ⟨hq.1, FrZ.tr hf hq.2⟩) (ih _ (hf.mo hM) ((hoth.2.2.1 s).trans e14) (fun j q hq => by rw [hoth.1, hoth.2.1]; exact hO j q hq) (fun l z1 z2 => ⟨(hoth.2.2.2 l).trans (hV l z1 z2).1, (hV l z1 z2).2⟩) hq5)
            · omega
          · omega
        · omega
      · omega
