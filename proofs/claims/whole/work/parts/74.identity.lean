/-! IDENTITY: what the text tells -/
/-- steps behind those whose numbers they take: (0, number), (1, letter), + 2, - 3, * 4, ^ (5, power) -/
abbrev Op : Type := Int × Int
/-- token, parts, letters, steps -/
abbrev IdS : Type := Nat × Nat × Int × List Op
abbrev IdR : Type := IdS → FlF ⊕ IdS
def idB (r : FlF ⊕ IdS) (f : IdS → FlF ⊕ IdS) : FlF ⊕ IdS := match r with
  | .inl e => .inl e
  | .inr s => f s
def shB (l : Int) : Int := (iv 1 <<< (iv l &&& 31)).toInt
def orB (a b : Int) : Int := (iv a ||| iv b).toInt
section ID
variable (n : Int) (B : Int → Int) (op : Int)
noncomputable def idPart (inn : IdR) : IdR := fun s => pI (¬ isN n B (tP n B s.1) ∧ ltT n B (tP n B s.1) = -1 ∧ ¬ isSg n B (tP n B s.1) 40) (.inl (1, s.1, op))
  (pI (isSg n B (tP n B s.1) 40 ∧ 6 ≤ op) (.inl (11, s.1, op)) (pI (60 ≤ s.2.1) (.inl (12, s.1, op))
    (pI (isSg n B (tP n B s.1) 40) (idB (inn (s.1 + 1, s.2.1 + 1, s.2.2.1, s.2.2.2)) fun s2 => pI (isSg n B (tP n B s2.1) 41) (.inr (s2.1 + 1, s2.2)) (.inl (1, s2.1, op + 1)))
      (pI (¬ ltT n B (tP n B s.1) = -1) (.inr (s.1 + 1, s.2.1 + 1, orB s.2.2.1 (shB (ltT n B (tP n B s.1))), s.2.2.2 ++ [(1, ltT n B (tP n B s.1))]))
        (.inr (s.1 + 1, s.2.1 + 1, s.2.2.1, s.2.2.2 ++ [(0, ka n B (tP n B s.1))]))))))
noncomputable def idPow (part : IdR) : IdR := fun s => idB (part s) fun s => pI (isSg n B (tP n B s.1) 94) (pI (isN n B (tP n B (s.1 + 1))) (pI (ka n B (tP n B (s.1 + 1)) ≤ 6) (.inr (s.1 + 2, s.2.1, s.2.2.1, s.2.2.2 ++ [(5, ka n B (tP n B (s.1 + 1)))])) (.inl (10, s.1 + 1, op))) (.inl (1, s.1 + 1, op))) (.inr s)
noncomputable def idMul (pow : IdR) : Nat → IdR
  | 0 => fun s => .inl (12, s.1, op)
  | k + 1 => fun s => pI (isSg n B (tP n B s.1) 42) (idB (pow (s.1 + 1, s.2)) fun s2 => idMul pow k (s2.1, s2.2.1, s2.2.2.1, s2.2.2.2 ++ [(4, 0)])) (.inr s)
noncomputable def idProd (pow : IdR) : IdR := fun s => idB (pow s) (idMul n B op pow 60)
noncomputable def idAdd (prod : IdR) : Nat → IdR
  | 0 => fun s => .inl (12, s.1, op)
  | k + 1 => fun s => pI (isSg n B (tP n B s.1) 43 ∨ isSg n B (tP n B s.1) 45) (idB (prod (s.1 + 1, s.2)) fun s2 => idAdd prod k (s2.1, s2.2.1, s2.2.2.1, s2.2.2.2 ++ [(cI (isSg n B (tP n B s.1) 43) 2 3, 0)])) (.inr s)
noncomputable def idSum (prod : IdR) : IdR := fun s => idB (prod s) (idAdd n B op prod 60)
end ID
noncomputable def idLev (n : Int) (B : Int → Int) : Nat → IdR
  | 0 => idSum n B 6 (idProd n B 6 (idPow n B 6 (idPart n B 6 fun s => .inl (11, s.1, 6))))
  | k + 1 => idSum n B (5 - (k : Int)) (idProd n B (5 - (k : Int)) (idPow n B (5 - (k : Int)) (idPart n B (5 - (k : Int)) (idLev n B k))))
/-- both sides; where the second begins -/
noncomputable def idAll (n : Int) (B : Int → Int) : (FlF × Int) ⊕ (IdS × Nat) := match idLev n B 6 (0, 0, 0, []) with
  | .inl e => .inl (e, 0)
  | .inr s => pI (isSg n B (tP n B s.1) 61) (match idLev n B 6 (s.1 + 1, s.2) with
    | .inl e => .inl (e, 1)
    | .inr s2 => pI (¬ tP n B s2.1 < n) (.inr (s2, s.2.2.2.length)) (.inl ((1, s2.1, 0), 1))) (.inl ((1, s.1, 0), 0))
/-- the steps whose numbers no other has taken yet, the latest first -/
def stN (o : Op) (j : Nat) (st : List Nat) : List Nat := if o.1 = 0 ∨ o.1 = 1 then j :: st else if o.1 = 5 then j :: st.drop 1 else j :: st.drop 2
def ixS : List Op → Nat → List Nat → List Nat
  | [], _, st => st
  | o :: os, j, st => ixS os (j + 1) (stN o j st)
theorem ixS_app : ∀ (a b : List Op) (j : Nat) (st : List Nat), ixS (a ++ b) j st = ixS b (j + a.length) (ixS a j st)
  | [], b, j, st => rfl
  | o :: a, b, j, st => by
    rw [List.cons_append, ixS, ixS_app a b (j + 1), ixS, List.length_cons]
    congr 1
    omega
def ixO (ops : List Op) : List Nat := ixS ops 0 []
theorem ixO_add (ops : List Op) (o : Op) : ixO (ops ++ [o]) = stN o ops.length (ixO ops) := by
  unfold ixO
  rw [ixS_app, Nat.zero_add]
  rfl
theorem ixS_lt : ∀ (ops : List Op) (j : Nat) (st : List Nat), (∀ q ∈ st, q < j) → ∀ q ∈ ixS ops j st, q < j + ops.length
  | [], j, st, h, q, hq => by
    have := h q hq
    simp
    exact this
  | o :: ops, j, st, h, q, hq => by
    have := ixS_lt ops (j + 1) (stN o j st) (fun r hr => by
      unfold stN at hr
      split at hr
      · rcases List.mem_cons.mp hr with y | y
        · omega
        · have := h r y
          omega
      · split at hr
        · rcases List.mem_cons.mp hr with y | y
          · omega
          · have := h r (List.mem_of_mem_drop y)
            omega
        · rcases List.mem_cons.mp hr with y | y
          · omega
          · have := h r (List.mem_of_mem_drop y)
            omega) q hq
    rw [List.length_cons]
    omega
theorem ixO_lt {ops : List Op} {q : Nat} (h : q ∈ ixO ops) : q < ops.length := by
  have := ixS_lt ops 0 [] (fun r hr => absurd hr List.not_mem_nil) q h
  omega
/-! THE CLASS: an Identity's steps -/
def IdO (w : WC) (μ : Mem) (y : Nat) : Prop := IsO w μ y 3 ∧ (mR μ y 0 = some (y + 1) ∧ mR μ y 1 = some (y + 2) ∧ mR μ y 2 = some (y + 3) ∧ mR μ y 3 = some (y + 4) ∧ mR μ y 4 = some (y + 5) ∧ mR μ y 5 = some (y + 6) ∧ mR μ y 6 = some (y + 7) ∧ mR μ y 7 = some (y + 8) ∧ mR μ y 8 = some (y + 9) ∧ mR μ y 9 = some (y + 10) ∧ mR μ y 10 = some (y + 11) ∧ mR μ y 11 = some (y + 12) ∧ mR μ y 12 = some (y + 13)) ∧ IsA w μ (y + 1) 14 200 ∧ IsA w μ (y + 2) 14 200 ∧ IsA w μ (y + 3) 14 200 ∧ IsA w μ (y + 4) 14 200 ∧ IsA w μ (y + 5) 14 200 ∧ IsA w μ (y + 6) 15 200 ∧ IsA w μ (y + 7) 16 200 ∧ IsA w μ (y + 8) 14 200 ∧ IsA w μ (y + 9) 14 6 ∧ IsA w μ (y + 10) 14 4 ∧ IsA w μ (y + 11) 14 24 ∧ IsA w μ (y + 12) 16 4 ∧ IsA w μ (y + 13) 16 4
section IO
variable {w : WC} {μ μ2 : Mem} {x y : Nat}
theorem IdO.r0 (h : IdO w μ y) : mR μ y 0 = some (y + 1) := h.2.1.1
theorem IdO.a0 (h : IdO w μ y) : IsA w μ (y + 1) 14 200 := h.2.2.1
theorem IdO.r1 (h : IdO w μ y) : mR μ y 1 = some (y + 2) := h.2.1.2.1
theorem IdO.a1 (h : IdO w μ y) : IsA w μ (y + 2) 14 200 := h.2.2.2.1
theorem IdO.r2 (h : IdO w μ y) : mR μ y 2 = some (y + 3) := h.2.1.2.2.1
theorem IdO.a2 (h : IdO w μ y) : IsA w μ (y + 3) 14 200 := h.2.2.2.2.1
theorem IdO.r3 (h : IdO w μ y) : mR μ y 3 = some (y + 4) := h.2.1.2.2.2.1
theorem IdO.a3 (h : IdO w μ y) : IsA w μ (y + 4) 14 200 := h.2.2.2.2.2.1
theorem IdO.r4 (h : IdO w μ y) : mR μ y 4 = some (y + 5) := h.2.1.2.2.2.2.1
theorem IdO.a4 (h : IdO w μ y) : IsA w μ (y + 5) 14 200 := h.2.2.2.2.2.2.1
theorem IdO.r5 (h : IdO w μ y) : mR μ y 5 = some (y + 6) := h.2.1.2.2.2.2.2.1
theorem IdO.a5 (h : IdO w μ y) : IsA w μ (y + 6) 15 200 := h.2.2.2.2.2.2.2.1
theorem IdO.r6 (h : IdO w μ y) : mR μ y 6 = some (y + 7) := h.2.1.2.2.2.2.2.2.1
theorem IdO.a6 (h : IdO w μ y) : IsA w μ (y + 7) 16 200 := h.2.2.2.2.2.2.2.2.1
theorem IdO.r7 (h : IdO w μ y) : mR μ y 7 = some (y + 8) := h.2.1.2.2.2.2.2.2.2.1
theorem IdO.a7 (h : IdO w μ y) : IsA w μ (y + 8) 14 200 := h.2.2.2.2.2.2.2.2.2.1
theorem IdO.r8 (h : IdO w μ y) : mR μ y 8 = some (y + 9) := h.2.1.2.2.2.2.2.2.2.2.1
theorem IdO.a8 (h : IdO w μ y) : IsA w μ (y + 9) 14 6 := h.2.2.2.2.2.2.2.2.2.2.1
theorem IdO.r9 (h : IdO w μ y) : mR μ y 9 = some (y + 10) := h.2.1.2.2.2.2.2.2.2.2.2.1
theorem IdO.a9 (h : IdO w μ y) : IsA w μ (y + 10) 14 4 := h.2.2.2.2.2.2.2.2.2.2.2.1
theorem IdO.r10 (h : IdO w μ y) : mR μ y 10 = some (y + 11) := h.2.1.2.2.2.2.2.2.2.2.2.2.1
theorem IdO.a10 (h : IdO w μ y) : IsA w μ (y + 11) 14 24 := h.2.2.2.2.2.2.2.2.2.2.2.2.1
theorem IdO.r11 (h : IdO w μ y) : mR μ y 11 = some (y + 12) := h.2.1.2.2.2.2.2.2.2.2.2.2.2.1
theorem IdO.a11 (h : IdO w μ y) : IsA w μ (y + 12) 16 4 := h.2.2.2.2.2.2.2.2.2.2.2.2.2.1
theorem IdO.r12 (h : IdO w μ y) : mR μ y 12 = some (y + 13) := h.2.1.2.2.2.2.2.2.2.2.2.2.2.2
theorem IdO.a12 (h : IdO w μ y) : IsA w μ (y + 13) 16 4 := h.2.2.2.2.2.2.2.2.2.2.2.2.2.2
theorem TPS.ido (h : TPS w μ x) (hy : y = x + 71 ∨ y = x + 85) : IdO w μ y := by
  rcases hy with rfl | rfl
  · exact ⟨h.o71, ⟨h.r71_0, h.r71_1, h.r71_2, h.r71_3, h.r71_4, h.r71_5, h.r71_6, h.r71_7, h.r71_8, h.r71_9, h.r71_10, h.r71_11, h.r71_12⟩, h.a72, h.a73, h.a74, h.a75, h.a76, h.a77, h.a78, h.a79, h.a80, h.a81, h.a82, h.a83, h.a84⟩
  · exact ⟨h.o85, ⟨h.r85_0, h.r85_1, h.r85_2, h.r85_3, h.r85_4, h.r85_5, h.r85_6, h.r85_7, h.r85_8, h.r85_9, h.r85_10, h.r85_11, h.r85_12⟩, h.a86, h.a87, h.a88, h.a89, h.a90, h.a91, h.a92, h.a93, h.a94, h.a95, h.a96, h.a97, h.a98⟩
theorem IdO.fr {P : Nat → Prop} {K : Nat → Int → Prop} (h : IdO w μ y) (hf : Fr P K μ μ2) (hK : ∀ j, ¬ K y j) : IdO w μ2 y := by
  have e : ∀ j, mR μ2 y j = mR μ y j := fun j => hf.R h.1.2.1 (hK j)
  refine ⟨hf.O h.1, ?_, hf.A h.a0, hf.A h.a1, hf.A h.a2, hf.A h.a3, hf.A h.a4, hf.A h.a5, hf.A h.a6, hf.A h.a7, hf.A h.a8, hf.A h.a9, hf.A h.a10, hf.A h.a11, hf.A h.a12⟩
  simp only [e]
  exact h.2.1
def usF (o : Op) (a b : Int) : Int := if o.1 = 0 then 64 else if o.1 = 1 then orB 64 (shB o.2) else if o.1 = 5 then a else orB a b
def OpC (μ : Mem) (y : Nat) (ops : List Op) : Prop := ∀ (j : Nat) (o : Op), ops[j]? = some o → (mI μ (y + 1) (j : Int) = o.1 ∧ mI μ (y + 2) (j : Int) = o.2 ∧ 0 ≤ o.1 ∧ o.1 ≤ 5) ∧ (o.1 = 5 → mI μ (y + 3) (j : Int) = ((ixO (ops.take j)).headD 0 : Nat)) ∧ (2 ≤ o.1 ∧ o.1 ≤ 4 → mI μ (y + 3) (j : Int) = (((ixO (ops.take j)).drop 1).headD 0 : Nat) ∧ mI μ (y + 4) (j : Int) = ((ixO (ops.take j)).headD 0 : Nat)) ∧ mI μ (y + 5) (j : Int) = usF o (mI μ (y + 5) (mI μ (y + 3) (j : Int))) (mI μ (y + 5) (mI μ (y + 4) (j : Int)))
/-- what an Identity keeps of the steps read so far -/
def IcS (μ : Mem) (y : Nat) (p : Nat) (L : Int) (ops : List Op) : Prop := (mI μ y 13 = (ops.length : Int) ∧ mI μ y 14 = ((ixO ops).length : Int) ∧ mI μ y 16 = L ∧ mI μ y 17 = (p : Int)) ∧ OpC μ y ops ∧ ∀ (k v : Nat), (ixO ops).reverse[k]? = some v → mI μ (y + 8) (k : Int) = (v : Int)
theorem rev_drop {α : Type} {l : List α} {c k : Nat} {v : α} (h : (l.drop c).reverse[k]? = some v) : l.reverse[k]? = some v := by
  have e : l.reverse = (l.drop c).reverse ++ (l.take c).reverse := by
    rw [← List.reverse_append, List.take_append_drop]
  have hk : k < (l.drop c).reverse.length := by
    rcases Nat.lt_or_ge k (l.drop c).reverse.length with z | z
    · exact z
    · rw [List.getElem?_eq_none z] at h
      cases h
  rw [e, List.getElem?_append_left hk]
  exact h

theorem OpC.lt {ops : List Op} {j k : Nat} (hj : j < ops.length) : (((ixO (ops.take j)).drop k).headD 0 : Nat) < ops.length := by
  rcases h : (ixO (ops.take j)).drop k with _ | ⟨a, l⟩
  · show 0 < _
    omega
  · have hm : a ∈ ixO (ops.take j) := List.mem_of_mem_drop (h ▸ List.mem_cons_self)
    have := ixO_lt hm
    rw [List.length_take] at this
    show a < _
    omega
theorem IcS.add {μ μ2 : Mem} {y p p2 : Nat} {L L2 : Int} {ops : List Op} (h : IcS μ y p L ops) {o : Op} (c : Nat) (hc : stN o ops.length (ixO ops) = ops.length :: (ixO ops).drop c) (e13 : mI μ2 y 13 = (ops.length : Int) + 1) (e14 : mI μ2 y 14 = (((ixO ops).drop c).length : Int) + 1) (e16 : mI μ2 y 16 = L2) (e17 : mI μ2 y 17 = (p2 : Int)) (eold : ∀ a, y + 1 ≤ a → a ≤ y + 5 → ∀ j : Int, ¬ j = (ops.length : Int) → mI μ2 a j = mI μ a j) (eop : ∀ k : Int, k < (((ixO ops).drop c).length : Int) → mI μ2 (y + 8) k = mI μ (y + 8) k) (enew : mI μ2 (y + 8) (((ixO ops).drop c).length : Int) = (ops.length : Int)) (ho : 0 ≤ o.1 ∧ o.1 ≤ 5) (n1 : mI μ2 (y + 1) (ops.length : Int) = o.1) (n2 : mI μ2 (y + 2) (ops.length : Int) = o.2) (n3 : o.1 = 5 → mI μ2 (y + 3) (ops.length : Int) = ((ixO ops).headD 0 : Nat) ∧ (ixO ops).headD 0 < ops.length) (n4 : 2 ≤ o.1 ∧ o.1 ≤ 4 → (mI μ2 (y + 3) (ops.length : Int) = (((ixO ops).drop 1).headD 0 : Nat) ∧ mI μ2 (y + 4) (ops.length : Int) = ((ixO ops).headD 0 : Nat)) ∧ (ixO ops).headD 0 < ops.length ∧ ((ixO ops).drop 1).headD 0 < ops.length) (n5 : mI μ2 (y + 5) (ops.length : Int) = usF o (mI μ (y + 5) (mI μ2 (y + 3) (ops.length : Int))) (mI μ (y + 5) (mI μ2 (y + 4) (ops.length : Int)))) : IcS μ2 y p2 L2 (ops ++ [o]) := by
  obtain ⟨-, hO, hS⟩ := h
  refine ⟨⟨by rw [e13, List.length_append]; rfl, by rw [e14, ixO_add, hc]; rfl, e16, e17⟩, fun j q hq => ?_, fun k v hv => ?_⟩
  · rcases Nat.lt_or_ge j ops.length with z | z
    · rw [List.getElem?_append_left z] at hq
      have et : (ops ++ [o]).take j = ops.take j := List.take_append_of_le_length (by omega)
      obtain ⟨⟨q1, q2, q3, q4⟩, q5, q6, q7⟩ := hO j q hq
      have en : ¬ ((j : Int) = (ops.length : Int)) := by omega
      have l0 := OpC.lt (k := 0) z
      have l1 := OpC.lt (k := 1) z
      rw [List.drop_zero] at l0
      rw [et, eold (y + 1) (by omega) (by omega) _ en, eold (y + 2) (by omega) (by omega) _ en, eold (y + 3) (by omega) (by omega) _ en, eold (y + 4) (by omega) (by omega) _ en, eold (y + 5) (by omega) (by omega) (j : Int) en]
      refine ⟨⟨q1, q2, q3, q4⟩, q5, q6, ?_⟩
      rw [q7]
      unfold usF
      by_cases h0 : q.1 = 0
      · rw [if_pos h0, if_pos h0]
      · rw [if_neg h0, if_neg h0]
        by_cases h1 : q.1 = 1
        · rw [if_pos h1, if_pos h1]
        · rw [if_neg h1, if_neg h1]
          by_cases h5 : q.1 = 5
          · rw [if_pos h5, if_pos h5, q5 h5, eold (y + 5) (by omega) (by omega) _ (by omega)]
          · rw [if_neg h5, if_neg h5, (q6 (by omega)).1, (q6 (by omega)).2, eold (y + 5) (by omega) (by omega) _ (by omega), eold (y + 5) (by omega) (by omega) _ (by omega)]
    · rw [List.getElem?_append_right z] at hq
      have hj : j = ops.length := by
        rcases Nat.eq_zero_or_pos (j - ops.length) with r | r
        · omega
        · rw [List.getElem?_eq_none (by simp; omega)] at hq
          cases hq
      subst hj
      simp at hq
      subst hq
      have et : (ops ++ [o]).take ops.length = ops := by simp
      rw [et]
      refine ⟨⟨n1, n2, ho.1, ho.2⟩, fun z => (n3 z).1, fun z => (n4 z).1, ?_⟩
      rw [n5]
      unfold usF
      by_cases h0 : o.1 = 0
      · rw [if_pos h0, if_pos h0]
      · rw [if_neg h0, if_neg h0]
        by_cases h1 : o.1 = 1
        · rw [if_pos h1, if_pos h1]
        · rw [if_neg h1, if_neg h1]
          by_cases h5 : o.1 = 5
          · rw [if_pos h5, if_pos h5, (n3 h5).1, eold (y + 5) (by omega) (by omega) _ (by have := (n3 h5).2; omega)]
          · obtain ⟨⟨m1, m2⟩, m3, m4⟩ := n4 (by omega)
            rw [if_neg h5, if_neg h5, m1, m2, eold (y + 5) (by omega) (by omega) _ (by omega), eold (y + 5) (by omega) (by omega) _ (by omega)]
  · rw [ixO_add, hc, List.reverse_cons] at hv
    rcases Nat.lt_or_ge k ((ixO ops).drop c).reverse.length with z | z
    · rw [List.getElem?_append_left z] at hv
      rw [eop _ (by rw [List.length_reverse] at z; omega)]
      exact hS k v (rev_drop hv)
    · rw [List.getElem?_append_right z] at hv
      have hk : k = ((ixO ops).drop c).reverse.length := by
        rcases Nat.eq_zero_or_pos (k - ((ixO ops).drop c).reverse.length) with r | r
        · omega
        · rw [List.getElem?_eq_none (by simp; rw [List.length_reverse] at r; simp at r; omega)] at hv
          cases hv
      subst hk
      simp at hv
      subst hv
      rw [List.length_reverse]
      exact enew
end IO
