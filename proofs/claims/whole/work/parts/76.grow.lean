/-! IDENTITY: steps and parts grow, one number more is open -/
theorem ixO_le (ops : List Op) : (ixO ops).length ≤ ops.length := by
  have key : ∀ (ops : List Op) (j : Nat) (st : List Nat), (ixS ops j st).length ≤ st.length + ops.length := by
    intro ops
    induction ops with
    | nil => intro j st; simp [ixS]
    | cons o ops ih =>
      intro j st
      have := ih (j + 1) (stN o j st)
      have h2 : (stN o j st).length ≤ st.length + 1 := by
        unfold stN
        split
        · simp
        · split <;> simp <;> omega
      rw [ixS, List.length_cons]
      omega
  have := key ops 0 []
  simpa [ixO] using this
def GrS (c : Nat) (s s2 : IdS) (st : List Nat) : Prop := s.2.1 + 1 ≤ s2.2.1 ∧ s2.2.1 ≤ 60 ∧ s2.2.2.2.length + c + 3 * s.2.1 ≤ s.2.2.2.length + 3 * s2.2.1 ∧ ∃ k, ixO s2.2.2.2 = k :: st
def Gr (c : Nat) (f : IdR) : Prop := ∀ s s2, f s = .inr s2 → GrS c s s2 (ixO s.2.2.2)
theorem idB_r {r : FlF ⊕ IdS} {f : IdS → FlF ⊕ IdS} {s2 : IdS} (h : idB r f = .inr s2) : ∃ s, r = .inr s ∧ f s = .inr s2 := by
  rcases r with e | s
  · cases h
  · exact ⟨s, rfl, h⟩
theorem pI_r {α : Type} {P : Prop} {a b c : α} (h : pI P a b = c) : (P ∧ a = c) ∨ (¬ P ∧ b = c) := by
  by_cases hP : P
  · exact Or.inl ⟨hP, by rw [pI_t hP] at h; exact h⟩
  · exact Or.inr ⟨hP, by rw [pI_f hP] at h; exact h⟩
section GR
variable {n : Int} {B : Int → Int} {op : Int}
theorem Gr_part {inn : IdR} (hi : Gr 1 inn) : Gr 2 (idPart n B op inn) := by
  intro s s2 h
  unfold idPart at h
  rcases pI_r h with ⟨-, h⟩ | ⟨-, h⟩
  · cases h
  · rcases pI_r h with ⟨-, h⟩ | ⟨-, h⟩
    · cases h
    · rcases pI_r h with ⟨-, h⟩ | ⟨hp, h⟩
      · cases h
      · rcases pI_r h with ⟨-, h⟩ | ⟨-, h⟩
        · obtain ⟨s3, h3, h⟩ := idB_r h
          obtain ⟨g1, g2, g3, g4⟩ := hi _ _ h3
          rcases pI_r h with ⟨-, h⟩ | ⟨-, h⟩
          · cases h
            dsimp only at g1 g2 g3 g4
            exact ⟨by show s.2.1 + 1 ≤ s3.2.1; omega, g2, by show s3.2.2.2.length + 2 + 3 * s.2.1 ≤ s.2.2.2.length + 3 * s3.2.1; omega, g4⟩
          · cases h
        · rcases pI_r h with ⟨-, h⟩ | ⟨-, h⟩
          · cases h
            refine ⟨Nat.le_refl _, by show s.2.1 + 1 ≤ 60; omega, ?_, s.2.2.2.length, ?_⟩
            · show (s.2.2.2 ++ [_]).length + 2 + 3 * s.2.1 ≤ s.2.2.2.length + 3 * (s.2.1 + 1)
              rw [List.length_append]
              simp
              omega
            · show ixO (s.2.2.2 ++ [_]) = _
              rw [ixO_add]
              unfold stN
              rw [if_pos (Or.inr rfl)]
          · cases h
            refine ⟨Nat.le_refl _, by show s.2.1 + 1 ≤ 60; omega, ?_, s.2.2.2.length, ?_⟩
            · show (s.2.2.2 ++ [_]).length + 2 + 3 * s.2.1 ≤ s.2.2.2.length + 3 * (s.2.1 + 1)
              rw [List.length_append]
              simp
              omega
            · show ixO (s.2.2.2 ++ [_]) = _
              rw [ixO_add]
              unfold stN
              rw [if_pos (Or.inl rfl)]
theorem Gr_pow {part : IdR} (hi : Gr 2 part) : Gr 1 (idPow n B op part) := by
  intro s s2 h
  unfold idPow at h
  obtain ⟨s3, h3, h⟩ := idB_r h
  obtain ⟨g1, g2, g3, k, g4⟩ := hi _ _ h3
  rcases pI_r h with ⟨-, h⟩ | ⟨-, h⟩
  · rcases pI_r h with ⟨-, h⟩ | ⟨-, h⟩
    · rcases pI_r h with ⟨-, h⟩ | ⟨-, h⟩
      · cases h
        refine ⟨g1, g2, ?_, s3.2.2.2.length, ?_⟩
        · show (s3.2.2.2 ++ [_]).length + 1 + 3 * s.2.1 ≤ s.2.2.2.length + 3 * s3.2.1
          rw [List.length_append]
          simp
          omega
        · show ixO (s3.2.2.2 ++ [_]) = _
          rw [ixO_add, g4]
          unfold stN
          rw [if_neg (by simp), if_pos rfl]
          rfl
      · cases h
    · cases h
  · cases h
    exact ⟨g1, g2, by omega, k, g4⟩
def GrL (s s2 : IdS) (st : List Nat) : Prop := s.2.1 ≤ s2.2.1 ∧ s2.2.1 ≤ 60 ∧ s2.2.2.2.length + 3 * s.2.1 ≤ s.2.2.2.length + 3 * s2.2.1 ∧ ∃ k, ixO s2.2.2.2 = k :: st
theorem Gr_add2 {s s3 : IdS} {st : List Nat} {a : Nat} {z : Int} (hz : 2 ≤ z ∧ z ≤ 4) (ha : ixO s.2.2.2 = a :: st) (h : GrS 1 (s.1 + 1, s.2) s3 (ixO s.2.2.2)) : s.2.1 + 1 ≤ s3.2.1 ∧ s3.2.1 ≤ 60 ∧ (s3.2.2.2 ++ [((z, 0) : Op)]).length + 3 * s.2.1 ≤ s.2.2.2.length + 3 * s3.2.1 ∧ ixO (s3.2.2.2 ++ [((z, 0) : Op)]) = s3.2.2.2.length :: st := by
  obtain ⟨g1, g2, g3, k, g4⟩ := h
  dsimp only at g1 g3
  refine ⟨g1, g2, by rw [List.length_append]; simp; omega, ?_⟩
  rw [ixO_add, g4, ha]
  unfold stN
  rw [if_neg (show ¬ (z = 0 ∨ z = 1) by omega), if_neg (show ¬ z = 5 by omega)]
  rfl
theorem Gr_mul {pow : IdR} (hi : Gr 1 pow) : ∀ (k : Nat) (s s2 : IdS) (st : List Nat) (a : Nat), idMul n B op pow k s = .inr s2 → ixO s.2.2.2 = a :: st → s.2.1 ≤ 60 → GrL s s2 st := by
  intro k
  induction k with
  | zero =>
    intro s s2 st a h
    cases h
  | succ k ih =>
    intro s s2 st a h ha hp
    unfold idMul at h
    rcases pI_r h with ⟨-, h⟩ | ⟨-, h⟩
    · obtain ⟨s3, h3, h⟩ := idB_r h
      obtain ⟨g1, g2, g3, g4⟩ := Gr_add2 (z := 4) (by omega) ha (hi _ _ h3)
      obtain ⟨q1, q2, q3, q4⟩ := ih _ _ st s3.2.2.2.length h g4 g2
      dsimp only at q1 q3
      exact ⟨by omega, q2, by omega, q4⟩
    · cases h
      exact ⟨Nat.le_refl _, hp, Nat.le_refl _, a, ha⟩
theorem Gr_prod {pow : IdR} (hi : Gr 1 pow) : Gr 1 (idProd n B op pow) := by
  intro s s2 h
  unfold idProd at h
  obtain ⟨s3, h3, h⟩ := idB_r h
  obtain ⟨g1, g2, g3, k, g4⟩ := hi _ _ h3
  obtain ⟨q1, q2, q3, q4⟩ := Gr_mul hi 60 s3 s2 _ k h g4 g2
  exact ⟨by omega, q2, by omega, q4⟩
theorem Gr_sumL {prod : IdR} (hi : Gr 1 prod) : ∀ (k : Nat) (s s2 : IdS) (st : List Nat) (a : Nat), idAdd n B op prod k s = .inr s2 → ixO s.2.2.2 = a :: st → s.2.1 ≤ 60 → GrL s s2 st := by
  intro k
  induction k with
  | zero =>
    intro s s2 st a h
    cases h
  | succ k ih =>
    intro s s2 st a h ha hp
    unfold idAdd at h
    rcases pI_r h with ⟨-, h⟩ | ⟨-, h⟩
    · obtain ⟨s3, h3, h⟩ := idB_r h
      have hz : 2 ≤ cI (isSg n B (tP n B s.1) 43) 2 3 ∧ cI (isSg n B (tP n B s.1) 43) 2 3 ≤ 4 := by
        by_cases z : isSg n B (tP n B s.1) 43
        · rw [cI_t z]; omega
        · rw [cI_f z]; omega
      obtain ⟨g1, g2, g3, g4⟩ := Gr_add2 hz ha (hi _ _ h3)
      obtain ⟨q1, q2, q3, q4⟩ := ih _ _ st s3.2.2.2.length h g4 g2
      dsimp only at q1 q3
      exact ⟨by omega, q2, by omega, q4⟩
    · cases h
      exact ⟨Nat.le_refl _, hp, Nat.le_refl _, a, ha⟩
theorem Gr_sum {prod : IdR} (hi : Gr 1 prod) : Gr 1 (idSum n B op prod) := by
  intro s s2 h
  unfold idSum at h
  obtain ⟨s3, h3, h⟩ := idB_r h
  obtain ⟨g1, g2, g3, k, g4⟩ := hi _ _ h3
  obtain ⟨q1, q2, q3, q4⟩ := Gr_sumL hi 60 s3 s2 _ k h g4 g2
  exact ⟨by omega, q2, by omega, q4⟩
end GR
theorem Gr_lev (n : Int) (B : Int → Int) : ∀ k, Gr 1 (idLev n B k)
  | 0 => Gr_sum (Gr_prod (Gr_pow (Gr_part fun s s2 h => by cases h)))
  | k + 1 => Gr_sum (Gr_prod (Gr_pow (Gr_part (Gr_lev n B k))))
