/-! the letters met are a mask of six bits -/
theorem orB_bd {L l : Int} (hL : 0 ≤ L ∧ L < 64) (hl : 0 ≤ l ∧ l < 6) : 0 ≤ orB L (shB l) ∧ orB L (shB l) < 64 := by
  obtain ⟨a, rfl⟩ : ∃ k : Fin 64, L = ((k.val : Nat) : Int) := ⟨⟨L.toNat, by omega⟩, by show L = (L.toNat : Int); omega⟩
  obtain ⟨b, rfl⟩ : ∃ k : Fin 6, l = ((k.val : Nat) : Int) := ⟨⟨l.toNat, by omega⟩, by show l = (l.toNat : Int); omega⟩
  clear hL hl
  revert a b
  decide +kernel
def Lt6 (f : IdR) : Prop := ∀ s s2, f s = .inr s2 → 0 ≤ s.2.2.1 ∧ s.2.2.1 < 64 → 0 ≤ s2.2.2.1 ∧ s2.2.2.1 < 64
section LB
variable {n : Int} {B : Int → Int} {op : Int}
theorem Lt6_part {inn : IdR} (hi : Lt6 inn) : Lt6 (idPart n B op inn) := by
  intro s s2 h hL
  unfold idPart at h
  rcases pI_r h with ⟨-, h⟩ | ⟨-, h⟩
  · cases h
  · rcases pI_r h with ⟨-, h⟩ | ⟨-, h⟩
    · cases h
    · rcases pI_r h with ⟨-, h⟩ | ⟨hp, h⟩
      · cases h
      · rcases pI_r h with ⟨-, h⟩ | ⟨-, h⟩
        · obtain ⟨s3, h3, h⟩ := idB_r h
          have g := hi _ _ h3 hL
          rcases pI_r h with ⟨-, h⟩ | ⟨-, h⟩
          · cases h
            exact g
          · cases h
        · rcases pI_r h with ⟨hz, h⟩ | ⟨-, h⟩
          · cases h
            have hb := ltT_bd n B (tP n B s.1)
            exact orB_bd hL ⟨by omega, by omega⟩
          · cases h
            exact hL
theorem Lt6_pow {part : IdR} (hi : Lt6 part) : Lt6 (idPow n B op part) := by
  intro s s2 h hL
  unfold idPow at h
  obtain ⟨s3, h3, h⟩ := idB_r h
  have g := hi _ _ h3 hL
  rcases pI_r h with ⟨-, h⟩ | ⟨-, h⟩
  · rcases pI_r h with ⟨-, h⟩ | ⟨-, h⟩
    · rcases pI_r h with ⟨-, h⟩ | ⟨-, h⟩
      · cases h
        exact g
      · cases h
    · cases h
  · cases h
    exact g
theorem Lt6_mul {pow : IdR} (hi : Lt6 pow) : ∀ k, Lt6 (idMul n B op pow k) := by
  intro k
  induction k with
  | zero =>
    intro s s2 h
    cases h
  | succ k ih =>
    intro s s2 h hL
    unfold idMul at h
    rcases pI_r h with ⟨-, h⟩ | ⟨-, h⟩
    · obtain ⟨s3, h3, h⟩ := idB_r h
      have g := hi _ _ h3 hL
      exact ih _ _ h g
    · cases h
      exact hL
theorem Lt6_prod {pow : IdR} (hi : Lt6 pow) : Lt6 (idProd n B op pow) := by
  intro s s2 h hL
  unfold idProd at h
  obtain ⟨s3, h3, h⟩ := idB_r h
  exact Lt6_mul hi 60 _ _ h (hi _ _ h3 hL)
theorem Lt6_add {prod : IdR} (hi : Lt6 prod) : ∀ k, Lt6 (idAdd n B op prod k) := by
  intro k
  induction k with
  | zero =>
    intro s s2 h
    cases h
  | succ k ih =>
    intro s s2 h hL
    unfold idAdd at h
    rcases pI_r h with ⟨-, h⟩ | ⟨-, h⟩
    · obtain ⟨s3, h3, h⟩ := idB_r h
      have g := hi _ _ h3 hL
      exact ih _ _ h g
    · cases h
      exact hL
theorem Lt6_sum {prod : IdR} (hi : Lt6 prod) : Lt6 (idSum n B op prod) := by
  intro s s2 h hL
  unfold idSum at h
  obtain ⟨s3, h3, h⟩ := idB_r h
  exact Lt6_add hi 60 _ _ h (hi _ _ h3 hL)
end LB
theorem Lt6_lev (n : Int) (B : Int → Int) : ∀ k, Lt6 (idLev n B k)
  | 0 => Lt6_sum (Lt6_prod (Lt6_pow (Lt6_part fun s s2 h => by cases h)))
  | k + 1 => Lt6_sum (Lt6_prod (Lt6_pow (Lt6_part (Lt6_lev n B k))))
theorem idAll_L {n : Int} {B : Int → Int} {s : IdS × Nat} (h : idAll n B = .inr s) : 0 ≤ s.1.2.2.1 ∧ s.1.2.2.1 < 64 := by
  unfold idAll at h
  rcases h1 : idLev n B 6 (0, 0, 0, []) with e | s1
  · rw [h1] at h
    cases h
  · rw [h1] at h
    dsimp only at h
    rcases pI_r h with ⟨-, h⟩ | ⟨-, h⟩
    · rcases h2 : idLev n B 6 (s1.1 + 1, s1.2) with e | s2
      · rw [h2] at h
        cases h
      · rw [h2] at h
        dsimp only at h
        rcases pI_r h with ⟨-, h⟩ | ⟨-, h⟩
        · cases h
          have g1 := Lt6_lev n B 6 _ _ h1 (show 0 ≤ (0 : Int) ∧ (0 : Int) < 64 by omega)
          exact Lt6_lev n B 6 _ _ h2 g1
        · cases h
    · cases h
