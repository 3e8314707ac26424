/-! THE MODEL: reads an identity -/
def JI (j : Int) : Prop := (3 ≤ j ∧ j ≤ 20 ∧ ¬ (8 ≤ j ∧ j ≤ 11)) ∨ j = 36 ∨ j = 38 ∨ j = 40
def JIe (j : Int) : Prop := Jz j ∨ j = 36 ∨ j = 38 ∨ j = 40
def Lo9 (m : Nat) (μ μ2 : Mem) : Prop := (∀ j, j < 900 → mI μ2 (m + 12) j = mI μ (m + 12) j) ∧ ∀ j, j < 900 → mI μ2 (m + 13) j = mI μ (m + 13) j
def ImG (m : Nat) (μ μ2 : Mem) : Prop := FrZ m (P13 m) JI μ μ2 ∧ Lo9 m μ μ2
def ImK (w : WC) (μ : Mem) (m : Nat) (F : Int → List Tm) (n : Int) (B : Int → Int) (s : IdS) : Prop := StM w μ m n B s.1 ∧ MA w μ m F ∧ (mI μ m 36 = (s.2.2.2.length : Int) ∧ mI μ m 38 = (s.2.1 : Int) ∧ mI μ m 40 = s.2.2.1) ∧ OpM μ m 900 s.2.2.2 ∧ (s.2.1 ≤ 60 ∧ s.2.2.2.length ≤ 3 * s.2.1)
def ImE (w : WC) (m : Nat) (F : Int → List Tm) (f : Int → Int) (μ μ2 : Mem) : Prop := MA w μ2 m F ∧ BaM μ2 m f ∧ FrZ m (P13 m) JIe μ μ2 ∧ Lo9 m μ μ2
def ImP (w : WC) (m : Nat) (F : Int → List Tm) (n : Int) (B : Int → Int) (fo op : Int) (r : FlF ⊕ IdS) (μ : Mem) (v : Option AV) (μ2 : Mem) : Prop := match r with
  | .inl e => v = some (vI 0) ∧ ImE w m F (fa4 e.1 (tP n B e.2.1) fo e.2.2) μ μ2
  | .inr s2 => v = some (vI 1) ∧ ImK w μ2 m F n B s2 ∧ (mI μ2 m 18 = fo ∧ mI μ2 m 19 = op) ∧ ImG m μ μ2
section IM
variable {w : WC} {m : Nat} {F : Int → List Tm} {n : Int} {B : Int → Int} {s : IdS} {μ μ2 μ3 : Mem} {fo op : Int}
theorem Lo9.tr (h : Lo9 m μ μ2) (h2 : Lo9 m μ2 μ3) : Lo9 m μ μ3 := ⟨fun j z => (h2.1 j z).trans (h.1 j z), fun j z => (h2.2 j z).trans (h.2 j z)⟩
theorem ImG.tr (h : ImG m μ μ2) (h2 : ImG m μ2 μ3) : ImG m μ μ3 := ⟨FrZ.tr h.1 h2.1, h.2.tr h2.2⟩
theorem ImG.rf : ImG m μ μ := ⟨FrZ.rf, fun _ _ => rfl, fun _ _ => rfl⟩
theorem ImG.E {f : Int → Int} (h : ImG m μ μ2) (h2 : ImE w m F f μ2 μ3) : ImE w m F f μ μ3 := ⟨h2.1, h2.2.1, FrZ.tr (FrZ.mono h.1 (fun _ z => z) (fun j z => by unfold JI at z; unfold JIe Jz; omega)) h2.2.2.1, h.2.tr h2.2.2.2⟩
theorem ImP.tr {r : FlF ⊕ IdS} {v : Option AV} (hg : ImG m μ μ2) (h : ImP w m F n B fo op r μ2 v μ3) : ImP w m F n B fo op r μ v μ3 := by
  rcases r with e | s
  · exact ⟨h.1, hg.E h.2⟩
  · exact ⟨h.1, h.2.1, h.2.2.1, hg.tr h.2.2.2⟩
theorem RmT.r9 {J : Int → Prop} (h : FrZ m (fun _ => False) J μ μ2) (hM : MoS w μ m) : (∀ j, mI μ2 (m + 12) j = mI μ (m + 12) j) ∧ ∀ j, mI μ2 (m + 13) j = mI μ (m + 13) j := ⟨h.1.I hM.a33.2.1 (fun z => z.elim (by omega) (fun y => y)), h.1.I hM.a34.2.1 (fun z => z.elim (by omega) (fun y => y))⟩
theorem ImK.rd {i2 : Nat} (h : ImK w μ m F n B s) (hS : StM w μ2 m n B i2) (hr : RmT m μ μ2) : ImK w μ2 m F n B (i2, s.2) ∧ ImG m μ μ2 := by
  obtain ⟨q1, q2, ⟨q3, q4, q5⟩, q6, q7⟩ := h
  obtain ⟨r1, r2⟩ := RmT.r9 hr q1.1
  refine ⟨⟨hS, FrZ.MA hr q2 ⟨fun z => z, fun z => z, fun z => z, fun z => z⟩ (by unfold Jn; omega), ⟨(hr.2 36 (by unfold Jn; omega)).trans q3, (hr.2 38 (by unfold Jn; omega)).trans q4, (hr.2 40 (by unfold Jn; omega)).trans q5⟩, fun j o hj => ?_, q7⟩, ⟨FrZ.mono hr (fun _ z => z.elim) (fun j z => by unfold Jn at z; unfold JI; omega), fun j _ => r1 j, fun j _ => r2 j⟩⟩
  rw [r1, r2]
  exact q6 j o hj
theorem ImK.er {f : Int → Int} (h : ImK w μ m F n B s) (hE : RmE m f μ μ2) : ImE w m F f μ μ2 := by
  obtain ⟨r1, r2⟩ := RmT.r9 hE.1 h.1.1
  exact ⟨FrZ.MA hE.1 h.2.1 ⟨fun z => z, fun z => z, fun z => z, fun z => z⟩ (by unfold Jf Jn; omega), hE.2, FrZ.mono hE.1 (fun _ z => z.elim) (fun j z => Or.inl z.z), fun j _ => r1 j, fun j _ => r2 j⟩
theorem ImK.inn (h : ImK w μ m F n B s) {j v : Int} (hj : j = 18 ∨ j = 19) : ImK w (sI μ m j v) m F n B s ∧ ImG m μ (sI μ m j v) := by
  have hf : FrZ m (fun _ => False) (fun z => z = j) μ (sI μ m j v) := FrZ.sI rfl
  obtain ⟨q1, q2, ⟨q3, q4, q5⟩, q6, q7⟩ := h
  obtain ⟨r1, r2⟩ := RmT.r9 hf q1.1
  refine ⟨⟨q1.fr hf ⟨fun z => by omega, fun z => by omega, fun k z1 z2 z => by omega⟩ (fun z => z) rfl, FrZ.MA hf q2 ⟨fun z => z, fun z => z, fun z => z, fun z => z⟩ (by omega), ⟨(hf.2 36 (by omega)).trans q3, (hf.2 38 (by omega)).trans q4, (hf.2 40 (by omega)).trans q5⟩, fun k o hk => ?_, q7⟩, ⟨FrZ.mono hf (fun _ z => z.elim) (fun k z => by unfold JI; omega), fun j _ => r1 j, fun j _ => r2 j⟩⟩
  rw [r1, r2]
  exact q6 k o hk
/-- one step more -/
theorem ImK.put {o : Op} (h : ImK w μ m F n B s) (e36 : mI μ2 m 36 = ((s.2.2.2.length + 1 : Nat) : Int)) (hO : OpM μ2 m 900 (s.2.2.2 ++ [o])) (hf : FrZ m (P13 m) (fun j => j = 36) μ μ2) (hl : Lo9 m μ μ2) (hL : ∀ j, mL μ2 m j = mL μ m j) (hb : s.2.2.2.length + 1 ≤ 3 * s.2.1) : ImK w μ2 m F n B (s.1, s.2.1, s.2.2.1, s.2.2.2 ++ [o]) ∧ ImG m μ μ2 := by
  obtain ⟨q1, q2, ⟨q3, q4, q5⟩, q6, q7⟩ := h
  refine ⟨⟨q1.fr hf ⟨by omega, by omega, fun k z1 z2 z => by omega⟩ (by unfold P13; omega) (hL 15), FrZ.MA hf q2 ⟨by unfold P13; omega, by unfold P13; omega, by unfold P13; omega, by unfold P13; omega⟩ (by omega), ⟨?_, (hf.2 38 (by omega)).trans q4, (hf.2 40 (by omega)).trans q5⟩, hO, q7.1, ?_⟩, ⟨FrZ.mono hf (fun _ z => z) (fun k z => by unfold JI; omega), hl⟩⟩
  · rw [e36]
    show ((s.2.2.2.length + 1 : Nat) : Int) = ((s.2.2.2 ++ [o]).length : Int)
    rw [List.length_append]
    rfl
  · show (s.2.2.2 ++ [o]).length ≤ 3 * s.2.1
    rw [List.length_append]
    exact hb
end IM
