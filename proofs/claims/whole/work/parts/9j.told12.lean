/-! THE MODEL: a turning told -/
def MsK (z : Int) (l : List Nat) : Prop := (0 ≤ z ∧ z < 32) ∧ ∀ o : Nat, o < 5 → (usB z (o : Int) = 1 ↔ o ∈ l)
theorem usB_or (z : Fin 32) (a b : Fin 5) : usB (orB ((z.val : Nat) : Int) (shB ((a.val : Nat) : Int))) ((b.val : Nat) : Int) = (if b = a then 1 else usB ((z.val : Nat) : Int) ((b.val : Nat) : Int)) ∧ 0 ≤ orB ((z.val : Nat) : Int) (shB ((a.val : Nat) : Int)) ∧ orB ((z.val : Nat) : Int) (shB ((a.val : Nat) : Int)) < 32 := by
  revert z a b
  decide +kernel
def cU (z : Int) : Int := 5 - (usB z 0 + usB z 1 + usB z 2 + usB z 3 + usB z 4)
theorem cU_or (z : Fin 32) (a : Fin 5) : 0 ≤ cU ((z.val : Nat) : Int) ∧ (¬ usB ((z.val : Nat) : Int) ((a.val : Nat) : Int) = 1 → cU (orB ((z.val : Nat) : Int) (shB ((a.val : Nat) : Int))) = cU ((z.val : Nat) : Int) - 1) := by
  revert z a
  decide +kernel
theorem fin32 {z : Int} (h : 0 ≤ z ∧ z < 32) : ∃ k : Fin 32, z = ((k.val : Nat) : Int) := ⟨⟨z.toNat, by omega⟩, by show z = (z.toNat : Int); omega⟩
theorem MsK.or {z : Int} {l : List Nat} (h : MsK z l) {o : Nat} (ho : o < 5) {l2 : List Nat} (hl : ∀ q, q ∈ l2 ↔ q = o ∨ q ∈ l) : MsK (orB z (shB (o : Int))) l2 := by
  obtain ⟨k, rfl⟩ := fin32 h.1
  refine ⟨(usB_or k ⟨o, ho⟩ ⟨0, by decide⟩).2, fun q hq => ?_⟩
  have e := (usB_or k ⟨o, ho⟩ ⟨q, hq⟩).1
  dsimp only at e
  rw [e, hl]
  by_cases z : q = o
  · rw [if_pos (by rw [Fin.mk.injEq]; exact z)]
    exact ⟨fun _ => Or.inl z, fun _ => rfl⟩
  · rw [if_neg (by rw [Fin.mk.injEq]; exact z), h.2 q hq]
    exact ⟨Or.inr, fun y => y.resolve_left z⟩
theorem MsK.nil : MsK 0 [] := ⟨by omega, fun o ho => by
  have : usB 0 (o : Int) = 0 := by
    have k : ∀ a : Fin 5, usB 0 ((a.val : Nat) : Int) = 0 := by decide +kernel
    exact k ⟨o, ho⟩
  rw [this]
  exact ⟨fun q => by omega, fun q => absurd q List.not_mem_nil⟩⟩
theorem MsK.b {z : Int} {l : List Nat} (h : MsK z l) {o : Nat} (ho : o < 5) : usB z (o : Int) = 0 ∨ usB z (o : Int) = 1 := usB_01 ⟨h.1.1, by have := h.1.2; omega⟩ (by omega)
def RnM (μ : Mem) (m : Nat) (r : List Nat) : Prop := ∀ i : Nat, i < r.length → mI μ (m + 6) (i : Int) = (r.getD i 0 : Int)
theorem cwk_le (r : List Nat) : ∀ (f o : Nat) (seen : List Nat) (n : Nat), (cwk r f o seen n).1 ≤ n + f
  | 0, o, seen, n => Nat.le_refl _
  | f + 1, o, seen, n => by
    unfold cwk
    split
    · exact Nat.le_add_right _ _
    · have := cwk_le r f (r.getD o 0) (o :: seen) (n + 1)
      omega
theorem l_cw {w : WC} {d m : Nat} {s i2 u3 k : Int} {r : List Nat} {μ : Mem} {Q : Option AV → Mem → Prop} (hM : MoS w μ m) (hr : RnM μ m r) (h5 : r.length ≤ 5) (hr2 : ∀ i, i < r.length → r.getD i 0 < r.length) : ∀ (f o : Nat) (seen : List Nat) (z : Int) (n : Nat), o < r.length → MsK z seen → cU z < (f : Int) → (∀ z2 o2, MsK z2 (cwk r f o seen n).2 → G w d mX12_turns Q 0 0 158 [some (vP (some m)), some (vI s), some (vI i2), some (vI u3), some (vI z2), some (vI k), some (vI ((cwk r f o seen n).1 : Int)), some (vI o2)] [] μ) → G w d mX12_turns Q 0 0 124 [some (vP (some m)), some (vI s), some (vI i2), some (vI u3), some (vI z), some (vI k), some (vI (n : Int)), some (vI (o : Int))] [] μ := by
  have o0 := hM.o
  have r25 := hM.r25
  have a25 := hM.a25
  intro f
  induction f with
  | zero =>
    intro o seen z n ho hz hc kk
    obtain ⟨k32, hk32⟩ := fin32 hz.1
    have := (cU_or k32 ⟨0, by decide⟩).1
    rw [← hk32] at this
    omega
  | succ f ih =>
    intro o seen z n ho hz hc kk
    refine g_iload (i := 4) rfl dX12_turns_124 ?_
    refine g_iload (i := 7) rfl dX12_turns_126 ?_
    refine g_ishr dX12_turns_128 ?_
    refine g_iconst dX12_turns_129 ?_
    refine g_iand dX12_turns_130 ?_
    rw [show (iv (iv z >>> (iv (o : Int) &&& 31)).toInt &&& iv 1).toInt = usB z (o : Int) from rfl]
    have hb01 := hz.b (o := o) (by omega)
    refine g_if_ne (tgt := 158) dX12_turns_131 (by decide) (by omega) (fun h131 => ?_) (fun h131 => ?_)
    · have hin : o ∈ seen := (hz.2 o (by omega)).mp (by omega)
      rw [show cwk r (f + 1) o seen n = (n, seen) from if_pos hin] at kk
      exact kk z o hz
    · refine g_iload (i := 4) rfl dX12_turns_134 ?_
      refine g_iconst dX12_turns_136 ?_
      refine g_iload (i := 7) rfl dX12_turns_137 ?_
      refine g_ishl dX12_turns_139 ?_
      refine g_ior dX12_turns_140 ?_
      refine g_istore (i := 4) dX12_turns_141 (by decide) rfl ls4 ?_
      refine g_iinc (i := 6) dX12_turns_143 rfl (by decide) rfl ls6 ?_
      refine g_aload_n (j := 0) rfl dX12_turns_146 ?_
      refine g_getR dX12_turns_147 flX12_45 rfl (by assumption) (kz := 25) rfl (by assumption) ?_
      refine g_iload (i := 7) rfl dX12_turns_150 ?_
      refine g_iald dX12_turns_152 (by assumption) (by omega) (by omega) ?_
      rw [hr o (by omega)]
      refine g_istore (i := 7) dX12_turns_153 (by decide) rfl ls7 ?_
      refine g_goto (tgt := 124) (by decide) dX12_turns_155 ?_
      have hin : ¬ o ∈ seen := fun q => by have := (hz.2 o (by omega)).mpr q; omega
      rw [show cwk r (f + 1) o seen n = cwk r f (r.getD o 0) (o :: seen) (n + 1) from if_neg hin] at kk
      obtain ⟨k32, hk32⟩ := fin32 hz.1
      have hcu := (cU_or k32 ⟨o, by omega⟩).2 (by dsimp only; rw [← hk32]; omega)
      dsimp only at hcu
      rw [← hk32] at hcu
      rw [show (n : Int) + 1 = ((n + 1 : Nat) : Int) by omega]
      exact ih (r.getD o 0) (o :: seen) _ (n + 1) (hr2 o (by omega)) (hz.or (by omega) (fun q => List.mem_cons)) (by show cU (orB z (shB (o : Int))) < _; omega) kk
theorem l_ln {w : WC} {d m : Nat} {ts : List Tm} {s i2 u3 : Int} {r : List Nat} {Q : Option AV → Mem → Prop} (hs : 0 ≤ s ∧ s ≤ 3) (hrl : r.length = ts.length) (h5 : r.length ≤ 5) (hr2 : ∀ i, i < r.length → r.getD i 0 < r.length) : ∀ (c k : Nat) (seen : List Nat) (z : Int) (L : List Nat) (μ : Mem) (x6 x7 : Option AV), k + c = ts.length → MoS w μ m → MFI μ m s ts → RnM μ m r → MsK z seen → LnM μ m L → (∀ μ2 z2 x6 x7, LnM μ2 m (lnA r c k seen L) → P7F m μ μ2 → G w d mX12_turns Q 0 0 173 [some (vP (some m)), some (vI s), some (vI i2), some (vI u3), some (vI z2), some (vI (ts.length : Int)), x6, x7] [] μ2) → G w d mX12_turns Q 0 0 106 [some (vP (some m)), some (vI s), some (vI i2), some (vI u3), some (vI z), some (vI (k : Int)), x6, x7] [] μ := by
  intro c
  induction c with
  | zero =>
    intro k seen z L μ x6 x7 hk hM hI hr hz hL kk
    have ek : k = ts.length := by omega
    subst ek
    have o0 := hM.o
    have r0 := hM.r0
    have a0 := hM.a0
    have r26 := hM.r26
    have a26 := hM.a26
    have hn := hI.1
    refine g_iload (i := 5) rfl dX12_turns_106 ?_
    refine g_aload_n (j := 0) rfl dX12_turns_108 ?_
    refine g_getR dX12_turns_109 flX12_9 rfl (by assumption) (kz := 0) rfl (by assumption) ?_
    refine g_iload_n (j := 1) rfl dX12_turns_112 ?_
    refine g_iald dX12_turns_113 (by assumption) (by omega) (by omega) ?_
    rw [hn]
    refine g_icmp_ge (tgt := 173) dX12_turns_114 (by decide) (by omega) (by omega) (fun h114 => ?_) (fun h114 => ?_)
    · exact kk μ z x6 x7 hL P7F.rf
    · omega
  | succ c ih =>
    intro k seen z L μ x6 x7 hk hM hI hr hz hL kk
    have o0 := hM.o
    have r0 := hM.r0
    have a0 := hM.a0
    have r26 := hM.r26
    have a26 := hM.a26
    have hn := hI.1
    refine g_iload (i := 5) rfl dX12_turns_106 ?_
    refine g_aload_n (j := 0) rfl dX12_turns_108 ?_
    refine g_getR dX12_turns_109 flX12_9 rfl (by assumption) (kz := 0) rfl (by assumption) ?_
    refine g_iload_n (j := 1) rfl dX12_turns_112 ?_
    refine g_iald dX12_turns_113 (by assumption) (by omega) (by omega) ?_
    rw [hn]
    refine g_icmp_ge (tgt := 173) dX12_turns_114 (by decide) (by omega) (by omega) (fun h114 => ?_) (fun h114 => ?_)
    · omega
    · refine g_iconst dX12_turns_117 ?_
      refine g_istore (i := 6) dX12_turns_118 (by decide) rfl ls6 ?_
      refine g_iload (i := 5) rfl dX12_turns_120 ?_
      refine g_istore (i := 7) dX12_turns_122 (by decide) rfl ls7 ?_
      have hc : cU z < ((6 : Nat) : Int) := by
        obtain ⟨k32, hk32⟩ := fin32 hz.1
        have h0 := usB_01 (L := z) (l := 0) ⟨by omega, by omega⟩ (by omega)
        have h1 := usB_01 (L := z) (l := 1) ⟨by omega, by omega⟩ (by omega)
        have h2 := usB_01 (L := z) (l := 2) ⟨by omega, by omega⟩ (by omega)
        have h3 := usB_01 (L := z) (l := 3) ⟨by omega, by omega⟩ (by omega)
        have h4 := usB_01 (L := z) (l := 4) ⟨by omega, by omega⟩ (by omega)
        unfold cU
        omega
      refine l_cw (k := (k : Int)) hM hr h5 hr2 6 k seen z 0 (by omega) hz hc (fun z2 o2 hz2 => ?_)
      have hle := cwk_le r 6 k seen 0
      refine g_aload_n (j := 0) rfl dX12_turns_158 ?_
      refine g_getR dX12_turns_159 flX12_48 rfl (by assumption) (kz := 26) rfl (by assumption) ?_
      refine g_iload (i := 5) rfl dX12_turns_162 ?_
      refine g_iload (i := 6) rfl dX12_turns_164 ?_
      refine g_iast dX12_turns_166 (by assumption) (by omega) (by omega) ?_
      refine g_iinc (i := 5) dX12_turns_167 rfl (by decide) rfl ls5 ?_
      refine g_goto (tgt := 106) (by decide) dX12_turns_170 ?_
      rw [show (k : Int) + 1 = ((k + 1 : Nat) : Int) by omega]
      have hf : P7F m μ (sI μ (m + 7) (k : Int) ((cwk r 6 k seen 0).1 : Int)) := P7F.s
      exact ih (k + 1) _ _ _ _ _ _ (by omega) (hf.1.mo hM) (hf.1.mfi hM hI) (fun i hi => (hf.2.1 _ _ (by omega)).trans (hr i hi)) hz2 (hL.set (w := w) (k := k) (v := (cwk r 6 k seen 0).1) (by omega) (by omega)) (fun μ2 z3 x6 x7 g1 g2 => kk μ2 z3 x6 x7 g1 (hf.tr g2))
