/-! IDENTITY: what is read is well formed -/
def nd (o : Op) : Nat := if o.1 = 0 ∨ o.1 = 1 then 0 else if o.1 = 5 then 1 else 2
def Wf : List Op → Nat → Prop
  | [], _ => True
  | o :: os, h => nd o ≤ h ∧ Wf os (h - nd o + 1)
def hg : List Op → Nat → Nat
  | [], h => h
  | o :: os, h => hg os (h - nd o + 1)
theorem Wf_app : ∀ (a b : List Op) (h : Nat), Wf (a ++ b) h ↔ Wf a h ∧ Wf b (hg a h)
  | [], b, h => ⟨fun z => ⟨trivial, z⟩, fun z => z.2⟩
  | o :: a, b, h => by
    show nd o ≤ h ∧ Wf (a ++ b) _ ↔ (nd o ≤ h ∧ Wf a _) ∧ Wf b (hg a _)
    rw [Wf_app a b]
    exact and_assoc.symm
theorem hg_app : ∀ (a b : List Op) (h : Nat), hg (a ++ b) h = hg b (hg a h)
  | [], b, h => rfl
  | o :: a, b, h => hg_app a b _
def OkO (o : Op) : Prop := (o.1 = 0 ∧ 0 ≤ o.2 ∧ o.2 ≤ 9999) ∨ (o.1 = 1 ∧ 0 ≤ o.2 ∧ o.2 ≤ 5) ∨ (2 ≤ o.1 ∧ o.1 ≤ 4 ∧ o.2 = 0) ∨ (o.1 = 5 ∧ 0 ≤ o.2 ∧ o.2 ≤ 6)
def Gq (c : Nat) (q : List Op) : Prop := (∀ h, c ≤ h → Wf q h ∧ hg q h = h + 1 - c) ∧ ∀ o ∈ q, OkO o
theorem Gq_nil : Gq 1 [] := ⟨fun h z => ⟨trivial, by show h = _; omega⟩, fun o z => absurd z List.not_mem_nil⟩
theorem Gq_app {c : Nat} {a b : List Op} (ha : Gq c a) (hb : Gq 1 b) : Gq c (a ++ b) := by
  refine ⟨fun h z => ?_, fun o ho => (List.mem_append.mp ho).elim (ha.2 o) (hb.2 o)⟩
  obtain ⟨a1, a2⟩ := ha.1 h z
  obtain ⟨b1, b2⟩ := hb.1 (hg a h) (by omega)
  rw [Wf_app, hg_app]
  exact ⟨⟨a1, b1⟩, by omega⟩
theorem Gq_one {o : Op} (ho : OkO o) (h0 : o.1 = 0 ∨ o.1 = 1) : Gq 0 [o] := by
  refine ⟨fun h z => ⟨⟨?_, trivial⟩, ?_⟩, fun q hq => ?_⟩
  · unfold nd
    rw [if_pos h0]
    omega
  · show h - nd o + 1 = _
    unfold nd
    rw [if_pos h0]
    omega
  · rw [List.mem_singleton.mp hq]
    exact ho
theorem Gq_pw {c : Nat} {q : List Op} {k : Int} (hq : Gq c q) (hc : c ≤ 1) (hk : 0 ≤ k ∧ k ≤ 6) : Gq c (q ++ [(5, k)]) := by
  refine ⟨fun h z => ?_, fun o ho => (List.mem_append.mp ho).elim (hq.2 o) fun y => ?_⟩
  · obtain ⟨a1, a2⟩ := hq.1 h z
    have hn : nd (5, k) = 1 := rfl
    rw [Wf_app, hg_app]
    refine ⟨⟨a1, ?_, trivial⟩, ?_⟩
    · rw [hn]
      omega
    · show hg q h - nd (5, k) + 1 = _
      rw [hn]
      omega
  · rw [List.mem_singleton.mp y]
    exact Or.inr (Or.inr (Or.inr ⟨rfl, hk⟩))
theorem Gq_jt {q : List Op} {z : Int} (hq : Gq 0 q) (hz : z = 2 ∨ z = 3 ∨ z = 4) : Gq 1 (q ++ [(z, 0)]) := by
  have hn : nd (z, 0) = 2 := by
    unfold nd
    dsimp only
    rw [if_neg (by omega), if_neg (by omega)]
  refine ⟨fun h y => ?_, fun o ho => (List.mem_append.mp ho).elim (hq.2 o) fun y => ?_⟩
  · obtain ⟨a1, a2⟩ := hq.1 h (by omega)
    rw [Wf_app, hg_app]
    refine ⟨⟨a1, ?_, trivial⟩, ?_⟩
    · rw [hn]
      omega
    · show hg q h - nd (z, 0) + 1 = _
      rw [hn]
      omega
  · rw [List.mem_singleton.mp y]
    exact Or.inr (Or.inr (Or.inl ⟨by show 2 ≤ z; omega, by show z ≤ 4; omega, rfl⟩))
def RdG (c : Nat) (f : IdR) : Prop := ∀ s, (∀ e, f s = .inl e → 1 ≤ e.1 ∧ e.1 ≤ 12) ∧ ∀ s2, f s = .inr s2 → ∃ q, s2.2.2.2 = s.2.2.2 ++ q ∧ Gq c q
theorem idB_e {r : FlF ⊕ IdS} {f : IdS → FlF ⊕ IdS} {e : FlF} (h : idB r f = .inl e) : r = .inl e ∨ ∃ s, r = .inr s ∧ f s = .inl e := by
  rcases r with e2 | s
  · exact Or.inl h
  · exact Or.inr ⟨s, rfl, h⟩
section RG
variable {n : Int} {B : Int → Int} {op : Int}
theorem RdG_part {inn : IdR} (hi : RdG 0 inn) : RdG 0 (idPart n B op inn) := by
  intro s
  refine ⟨fun e h => ?_, fun s2 h => ?_⟩
  · unfold idPart at h
    rcases pI_r h with ⟨-, h⟩ | ⟨-, h⟩
    · cases h
      exact ⟨by dsimp only; omega, by dsimp only; omega⟩
    · rcases pI_r h with ⟨-, h⟩ | ⟨-, h⟩
      · cases h
        exact ⟨by dsimp only; omega, by dsimp only; omega⟩
      · rcases pI_r h with ⟨-, h⟩ | ⟨-, h⟩
        · cases h
          exact ⟨by dsimp only; omega, by dsimp only; omega⟩
        · rcases pI_r h with ⟨-, h⟩ | ⟨-, h⟩
          · rcases idB_e h with h | ⟨s3, -, h⟩
            · exact (hi _).1 _ h
            · rcases pI_r h with ⟨-, h⟩ | ⟨-, h⟩
              · cases h
              · cases h
                exact ⟨by dsimp only; omega, by dsimp only; omega⟩
          · rcases pI_r h with ⟨-, h⟩ | ⟨-, h⟩ <;> cases h
  · unfold idPart at h
    rcases pI_r h with ⟨-, h⟩ | ⟨h1, h⟩
    · cases h
    · rcases pI_r h with ⟨-, h⟩ | ⟨-, h⟩
      · cases h
      · rcases pI_r h with ⟨-, h⟩ | ⟨-, h⟩
        · cases h
        · rcases pI_r h with ⟨-, h⟩ | ⟨h4, h⟩
          · obtain ⟨s3, h3, h⟩ := idB_r h
            obtain ⟨q, g1, g2⟩ := (hi _).2 _ h3
            rcases pI_r h with ⟨-, h⟩ | ⟨-, h⟩
            · cases h
              exact ⟨q, g1, g2⟩
            · cases h
          · rcases pI_r h with ⟨hz, h⟩ | ⟨hz, h⟩
            · cases h
              have hb := ltT_bd n B (tP n B s.1)
              exact ⟨_, rfl, Gq_one (Or.inr (Or.inl ⟨rfl, by show 0 ≤ ltT n B _; omega, by show ltT n B _ ≤ 5; omega⟩)) (Or.inr rfl)⟩
            · cases h
              have hk := ka_N (Classical.byContradiction fun y => h1 ⟨y, Classical.byContradiction hz, h4⟩)
              exact ⟨_, rfl, Gq_one (Or.inl ⟨rfl, hk⟩) (Or.inl rfl)⟩
theorem RdG_pow {part : IdR} (hi : RdG 0 part) : RdG 0 (idPow n B op part) := by
  intro s
  refine ⟨fun e h => ?_, fun s2 h => ?_⟩
  · unfold idPow at h
    rcases idB_e h with h | ⟨s3, -, h⟩
    · exact (hi _).1 _ h
    · rcases pI_r h with ⟨-, h⟩ | ⟨-, h⟩
      · rcases pI_r h with ⟨-, h⟩ | ⟨-, h⟩
        · rcases pI_r h with ⟨-, h⟩ | ⟨-, h⟩
          · cases h
          · cases h
            exact ⟨by dsimp only; omega, by dsimp only; omega⟩
        · cases h
          exact ⟨by dsimp only; omega, by dsimp only; omega⟩
      · cases h
  · unfold idPow at h
    obtain ⟨s3, h3, h⟩ := idB_r h
    obtain ⟨q, g1, g2⟩ := (hi _).2 _ h3
    rcases pI_r h with ⟨-, h⟩ | ⟨-, h⟩
    · rcases pI_r h with ⟨hN, h⟩ | ⟨-, h⟩
      · rcases pI_r h with ⟨h6, h⟩ | ⟨-, h⟩
        · cases h
          have hk := ka_N hN
          refine ⟨q ++ [(5, ka n B (tP n B (s3.1 + 1)))], ?_, Gq_pw g2 (by omega) ⟨hk.1, h6⟩⟩
          show s3.2.2.2 ++ _ = _
          rw [g1, List.append_assoc]
        · cases h
      · cases h
    · cases h
      exact ⟨q, g1, g2⟩
theorem RdG_mul {pow : IdR} (hi : RdG 0 pow) : ∀ k, RdG 1 (idMul n B op pow k) := by
  intro k
  induction k with
  | zero =>
    intro s
    refine ⟨fun e h => ?_, fun s2 h => ?_⟩
    · cases h
      exact ⟨by dsimp only; omega, by dsimp only; omega⟩
    · cases h
  | succ k ih =>
    intro s
    refine ⟨fun e h => ?_, fun s2 h => ?_⟩
    · unfold idMul at h
      rcases pI_r h with ⟨-, h⟩ | ⟨-, h⟩
      · rcases idB_e h with h | ⟨s3, -, h⟩
        · exact (hi _).1 _ h
        · exact (ih _).1 _ h
      · cases h
    · unfold idMul at h
      rcases pI_r h with ⟨-, h⟩ | ⟨-, h⟩
      · obtain ⟨s3, h3, h⟩ := idB_r h
        obtain ⟨q, g1, g2⟩ := (hi _).2 _ h3
        obtain ⟨q2, g3, g4⟩ := (ih _).2 _ h
        refine ⟨(q ++ [(4, 0)]) ++ q2, ?_, Gq_app (Gq_jt g2 (by omega)) g4⟩
        rw [g3]
        show (s3.2.2.2 ++ [(4, 0)]) ++ q2 = _
        rw [g1]
        simp only [List.append_assoc]
      · cases h
        exact ⟨[], (List.append_nil _).symm, Gq_nil⟩
theorem RdG_prod {pow : IdR} (hi : RdG 0 pow) : RdG 0 (idProd n B op pow) := by
  intro s
  refine ⟨fun e h => ?_, fun s2 h => ?_⟩
  · unfold idProd at h
    rcases idB_e h with h | ⟨s3, -, h⟩
    · exact (hi _).1 _ h
    · exact (RdG_mul hi 60 _).1 _ h
  · unfold idProd at h
    obtain ⟨s3, h3, h⟩ := idB_r h
    obtain ⟨q, g1, g2⟩ := (hi _).2 _ h3
    obtain ⟨q2, g3, g4⟩ := (RdG_mul hi 60 _).2 _ h
    exact ⟨q ++ q2, by rw [g3, g1, List.append_assoc], Gq_app g2 g4⟩
theorem RdG_add {prod : IdR} (hi : RdG 0 prod) : ∀ k, RdG 1 (idAdd n B op prod k) := by
  intro k
  induction k with
  | zero =>
    intro s
    refine ⟨fun e h => ?_, fun s2 h => ?_⟩
    · cases h
      exact ⟨by dsimp only; omega, by dsimp only; omega⟩
    · cases h
  | succ k ih =>
    intro s
    refine ⟨fun e h => ?_, fun s2 h => ?_⟩
    · unfold idAdd at h
      rcases pI_r h with ⟨-, h⟩ | ⟨-, h⟩
      · rcases idB_e h with h | ⟨s3, -, h⟩
        · exact (hi _).1 _ h
        · exact (ih _).1 _ h
      · cases h
    · unfold idAdd at h
      rcases pI_r h with ⟨-, h⟩ | ⟨-, h⟩
      · obtain ⟨s3, h3, h⟩ := idB_r h
        obtain ⟨q, g1, g2⟩ := (hi _).2 _ h3
        obtain ⟨q2, g3, g4⟩ := (ih _).2 _ h
        have hz : cI (isSg n B (tP n B s.1) 43) 2 3 = 2 ∨ cI (isSg n B (tP n B s.1) 43) 2 3 = 3 ∨ cI (isSg n B (tP n B s.1) 43) 2 3 = 4 := by
          by_cases y : isSg n B (tP n B s.1) 43
          · exact Or.inl (cI_t y)
          · exact Or.inr (Or.inl (cI_f y))
        refine ⟨(q ++ [(cI (isSg n B (tP n B s.1) 43) 2 3, 0)]) ++ q2, ?_, Gq_app (Gq_jt g2 hz) g4⟩
        rw [g3]
        show (s3.2.2.2 ++ [_]) ++ q2 = _
        rw [g1]
        simp only [List.append_assoc]
      · cases h
        exact ⟨[], (List.append_nil _).symm, Gq_nil⟩
theorem RdG_sum {prod : IdR} (hi : RdG 0 prod) : RdG 0 (idSum n B op prod) := by
  intro s
  refine ⟨fun e h => ?_, fun s2 h => ?_⟩
  · unfold idSum at h
    rcases idB_e h with h | ⟨s3, -, h⟩
    · exact (hi _).1 _ h
    · exact (RdG_add hi 60 _).1 _ h
  · unfold idSum at h
    obtain ⟨s3, h3, h⟩ := idB_r h
    obtain ⟨q, g1, g2⟩ := (hi _).2 _ h3
    obtain ⟨q2, g3, g4⟩ := (RdG_add hi 60 _).2 _ h
    exact ⟨q ++ q2, by rw [g3, g1, List.append_assoc], Gq_app g2 g4⟩
end RG
theorem RdG_stop : RdG 0 (fun s => .inl (11, s.1, 6)) := fun s => ⟨fun e h => by cases h; exact ⟨by dsimp only; omega, by dsimp only; omega⟩, fun s2 h => by cases h⟩
theorem RdG_lev (n : Int) (B : Int → Int) : ∀ k, RdG 0 (idLev n B k)
  | 0 => RdG_sum (RdG_prod (RdG_pow (RdG_part RdG_stop)))
  | k + 1 => RdG_sum (RdG_prod (RdG_pow (RdG_part (RdG_lev n B k))))
/-- parts, letters, steps; where the second side begins; no step: nothing was told -/
abbrev IdT : Type := (Nat × Int × List Op) × Nat
def idT0 : IdT := ((0, 0, []), 0)
def WI (I : IdT) : Prop := (I.1.1 ≤ 60 ∧ I.1.2.2.length ≤ 180) ∧ (0 ≤ I.1.2.1 ∧ I.1.2.1 < 64) ∧ ((I.1.2.2 = [] ∧ I.2 = 0) ∨ ∃ q1 q2, I.1.2.2 = q1 ++ q2 ∧ I.2 = q1.length ∧ Gq 0 q1 ∧ Gq 0 q2)
theorem WI_0 : WI idT0 := ⟨⟨by decide, by decide⟩, ⟨by decide, by decide⟩, Or.inl ⟨rfl, rfl⟩⟩
theorem idAll_e {n : Int} {B : Int → Int} {e : FlF × Int} (h : idAll n B = .inl e) : 1 ≤ e.1.1 ∧ e.1.1 ≤ 12 := by
  unfold idAll at h
  rcases h1 : idLev n B 6 (0, 0, 0, []) with e1 | s1
  · rw [h1] at h
    cases h
    exact (RdG_lev n B 6 _).1 _ h1
  · rw [h1] at h
    dsimp only at h
    rcases pI_r h with ⟨-, h⟩ | ⟨-, h⟩
    · rcases h2 : idLev n B 6 (s1.1 + 1, s1.2) with e2 | s2
      · rw [h2] at h
        cases h
        exact (RdG_lev n B 6 _).1 _ h2
      · rw [h2] at h
        dsimp only at h
        rcases pI_r h with ⟨-, h⟩ | ⟨-, h⟩
        · cases h
        · cases h
          exact ⟨by dsimp only; omega, by dsimp only; omega⟩
    · cases h
      exact ⟨by dsimp only; omega, by dsimp only; omega⟩
theorem Gq_ne {q : List Op} (h : Gq 0 q) : 0 < q.length := by
  rcases q with _ | ⟨o, q⟩
  · have := (h.1 0 (Nat.le_refl _)).2
    cases this
  · exact Nat.succ_pos _
theorem idAll_w {n : Int} {B : Int → Int} {s : IdS × Nat} (h : idAll n B = .inr s) : WI (s.1.2, s.2) ∧ 0 < s.1.2.2.2.length := by
  have hL := idAll_L h
  unfold idAll at h
  rcases h1 : idLev n B 6 (0, 0, 0, []) with e1 | s1
  · rw [h1] at h
    cases h
  · rw [h1] at h
    dsimp only at h
    rcases pI_r h with ⟨-, h⟩ | ⟨-, h⟩
    · rcases h2 : idLev n B 6 (s1.1 + 1, s1.2) with e2 | s2
      · rw [h2] at h
        cases h
      · rw [h2] at h
        dsimp only at h
        rcases pI_r h with ⟨-, h⟩ | ⟨-, h⟩
        · cases h
          obtain ⟨q1, a1, a2⟩ := (RdG_lev n B 6 _).2 _ h1
          obtain ⟨q2, b1, b2⟩ := (RdG_lev n B 6 _).2 _ h2
          obtain ⟨-, c2, c3, -⟩ := Gr_lev n B 6 _ _ h1
          obtain ⟨-, d2, d3, -⟩ := Gr_lev n B 6 _ _ h2
          dsimp only at a1 b1 c2 c3 d2 d3 hL ⊢
          rw [List.nil_append] at a1
          have g1 := Gq_ne a2
          have e0 : ([] : List Op).length = 0 := rfl
          refine ⟨⟨⟨by show s2.2.1 ≤ 60; omega, by show s2.2.2.2.length ≤ 180; omega⟩, hL, Or.inr ⟨q1, q2, by show s2.2.2.2 = _; rw [b1, a1], by show s1.2.2.2.length = _; rw [a1], a2, b2⟩⟩, ?_⟩
          rw [b1, a1, List.length_append]
          omega
        · cases h
    · cases h
