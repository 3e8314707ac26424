/-! THE CLASS: reads an identity -/
def IdK (w : WC) (μ : Mem) (x : Nat) (n : Int) (B : Int → Int) (T y : Nat) (s : IdS) : Prop := TkC w μ x n B T ∧ (mR μ (x + 58) 1 = some y ∧ (y = x + 71 ∨ y = x + 85)) ∧ (mI μ (x + 1) 8 = (s.1 : Int) ∧ s.1 ≤ T) ∧ IcS μ y s.2.1 s.2.2.1 s.2.2.2 ∧ (s.2.1 ≤ 60 ∧ s.2.2.2.length ≤ 3 * s.2.1)
def IdQ (x y : Nat) : Mem → Mem → Prop := Fr (fun a => a = x + 1 ∨ (y ≤ a ∧ a ≤ y + 8)) (fun _ _ => False)
def IdG (x y : Nat) (μ μ2 : Mem) : Prop := IdQ x y μ μ2 ∧ (∀ j, ¬ (8 ≤ j ∧ j ≤ 11) → mI μ2 (x + 1) j = mI μ (x + 1) j) ∧ mI μ2 y 15 = mI μ y 15
def IdE (x y : Nat) (f : Int → Int) (μ μ2 : Mem) : Prop := IdQ x y μ μ2 ∧ (∀ j, ¬ (8 ≤ j ∧ j ≤ 15) → mI μ2 (x + 1) j = mI μ (x + 1) j) ∧ FaC μ2 x f
def IdP (w : WC) (x : Nat) (n : Int) (B : Int → Int) (T y : Nat) (fo op : Int) (r : FlF ⊕ IdS) (μ : Mem) (v : Option AV) (μ2 : Mem) : Prop := match r with
  | .inl e => v = some (vI 0) ∧ IdE x y (fa4 e.1 (tP n B e.2.1) fo e.2.2) μ μ2
  | .inr s2 => v = some (vI 1) ∧ IdK w μ2 x n B T y s2 ∧ (mI μ2 (x + 1) 10 = fo ∧ mI μ2 (x + 1) 11 = op) ∧ IdG x y μ μ2
section IK
variable {w : WC} {x T y : Nat} {n : Int} {B : Int → Int} {s : IdS} {μ μ2 μ3 : Mem}
theorem IdG.tr (h : IdG x y μ μ2) (h2 : IdG x y μ2 μ3) : IdG x y μ μ3 := ⟨h.1.tr h2.1, fun j z => (h2.2.1 j z).trans (h.2.1 j z), h2.2.2.trans h.2.2⟩
theorem IdG.rf : IdG x y μ μ := ⟨Fr.rf, fun _ _ => rfl, rfl⟩
theorem IdG.E {f : Int → Int} (h : IdG x y μ μ2) (h2 : IdE x y f μ2 μ3) : IdE x y f μ μ3 := ⟨h.1.tr h2.1, fun j z => (h2.2.1 j z).trans (h.2.1 j (fun q => z (by omega))), h2.2.2⟩
theorem PwE.i {f : Int → Int} (h : PwE x f μ μ2) : IdE x y f μ μ2 := ⟨h.1.mono (fun _ _ z => Or.inl z) (fun _ _ _ z => z), h.2.1, h.2.2⟩
theorem IdK.yb (h : IdK w μ x n B T y s) : x + 71 ≤ y ∧ y + 13 ≤ x + 98 := by
  rcases h.2.1.2 with z | z <;> omega
theorem IdK.ido (h : IdK w μ x n B T y s) : IdO w μ y := h.1.1.ido h.2.1.2
theorem IdK.o58 (h : IdK w μ x n B T y s) : IsO w μ (x + 58) 4 := h.1.1.o58
theorem IdK.r0 (h : IdK w μ x n B T y s) : mR μ (x + 58) 0 = some (x + 1) := h.1.1.r58_0
/-- fields of the tape alone change -/
theorem IdK.tp (h : IdK w μ x n B T y s) {s2 : IdS} (hf : PwS x μ μ2) (e8 : mI μ2 (x + 1) 8 = (s2.1 : Int)) (hi : s2.1 ≤ T) (e2 : s2.2 = s.2) : IdK w μ2 x n B T y s2 ∧ IdG x y μ μ2 := by
  have hy := h.yb
  obtain ⟨hK, hr, -, ⟨hc, hO, hS⟩, hb⟩ := id h
  have hI := h.ido
  have hfr : Fr (fun a => a = x + 1) (fun _ _ => False) μ μ2 := hf.1
  have ey : ∀ j, mI μ2 y j = mI μ y j := hfr.I hI.1.2.1 (by omega)
  have ea1 : ∀ j, mI μ2 (y + 1) j = mI μ (y + 1) j := hfr.I hI.a0.2.1 (by omega)
  have ea2 : ∀ j, mI μ2 (y + 2) j = mI μ (y + 2) j := hfr.I hI.a1.2.1 (by omega)
  have ea3 : ∀ j, mI μ2 (y + 3) j = mI μ (y + 3) j := hfr.I hI.a2.2.1 (by omega)
  have ea4 : ∀ j, mI μ2 (y + 4) j = mI μ (y + 4) j := hfr.I hI.a3.2.1 (by omega)
  have ea5 : ∀ j, mI μ2 (y + 5) j = mI μ (y + 5) j := hfr.I hI.a4.2.1 (by omega)
  have ea8 : ∀ j, mI μ2 (y + 8) j = mI μ (y + 8) j := hfr.I hI.a7.2.1 (by omega)
  refine ⟨⟨hK.fr hfr (hK.1.fr hfr fun _ _ _ z => z.elim) (fun a z1 z2 z => by omega) (hf.2 5 (by omega)) (hf.2 7 (by omega)), ⟨(hfr.R h.o58.2.1 (fun z => z)).trans hr.1, hr.2⟩, ⟨e8, hi⟩, ?_, by rw [e2]; exact hb⟩, ⟨hfr.mono (fun _ _ z => Or.inl z) (fun _ _ _ z => z), hf.2, ey 15⟩⟩
  rw [e2]
  refine ⟨by rw [ey, ey, ey, ey]; exact hc, fun j q hq => ?_, fun k v hv => by rw [ea8]; exact hS k v hv⟩
  rw [ea1, ea2, ea3, ea4, ea5, ea5, ea5]
  exact hO j q hq
/-- the Identity alone changes -/
theorem IdK.id (h : IdK w μ x n B T y s) {s2 : IdS} (hf : IdF y μ μ2) (e1 : s2.1 = s.1) (hc : IcS μ2 y s2.2.1 s2.2.2.1 s2.2.2.2) (hb : s2.2.1 ≤ 60 ∧ s2.2.2.2.length ≤ 3 * s2.2.1) : IdK w μ2 x n B T y s2 ∧ IdG x y μ μ2 := by
  have hy := h.yb
  obtain ⟨hK, hr, h8, -, -⟩ := _root_.id h
  have e : ∀ j, mI μ2 (x + 1) j = mI μ (x + 1) j := hf.1.I hK.1.o1.2.1 (by omega)
  exact ⟨⟨hK.fr hf.1 (hK.1.fr hf.1 fun _ _ _ z => z.elim) (fun a z1 z2 z => by omega) (e 5) (e 7), ⟨(hf.1.R h.o58.2.1 (fun z => z)).trans hr.1, hr.2⟩, ⟨by rw [e, e1]; exact h8.1, by rw [e1]; exact h8.2⟩, hc, hb⟩, ⟨hf.1.mono (fun _ _ z => Or.inr z) (fun _ _ _ z => z), fun j _ => e j, hf.2⟩⟩
theorem IdK.adv (h : IdK w μ x n B T y s) (e8 : mI μ2 (x + 1) 8 = ((s.1 + 1 : Nat) : Int)) (hi : s.1 < T) (hr : RdS x μ μ2) : IdK w μ2 x n B T y (s.1 + 1, s.2) ∧ IdG x y μ μ2 := h.tp hr.w e8 hi rfl
theorem IdK.lt (h : IdK w μ x n B T y s) {c : Int} (hs : isSg n B (tP n B s.1) c) : s.1 < T := (h.1.lt h.2.2.1.2).1.mp hs.1
end IK
