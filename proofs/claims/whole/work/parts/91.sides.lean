/-! IDENTITY: the sides' numbers -/
def pwS (a : Int) : Nat → Int → Option Int
  | 0, v => some v
  | k + 1, v => if i64 (v * a) then pwS a k (v * a) else none
def pwO (a : Option Int) (k : Int) : Option Int := match a with
  | none => none
  | some x => pwS x k.toNat 1
def cbI (z a b : Int) : Int := if z = 4 then a * b else if z = 2 then a + b else a - b
def cbO (z : Int) (a b : Option Int) : Option Int := match a, b with
  | some x, some y => if i64 (cbI z x y) then some (cbI z x y) else none
  | _, _ => none
def stV (V : Int → Int) (o : Op) (st : List (Option Int)) : List (Option Int) := if o.1 = 0 then some o.2 :: st else if o.1 = 1 then some (V o.2) :: st else if o.1 = 5 then pwO (st.headD none) o.2 :: st.drop 1 else cbO o.1 ((st.drop 1).headD none) (st.headD none) :: st.drop 2
def evS (V : Int → Int) : List Op → List (Option Int) → List (Option Int)
  | [], st => st
  | o :: os, st => evS V os (stV V o st)
theorem evS_app (V : Int → Int) : ∀ (a b : List Op) (st : List (Option Int)), evS V (a ++ b) st = evS V b (evS V a st)
  | [], b, st => rfl
  | o :: a, b, st => evS_app V a b _
theorem stV_len {V : Int → Int} {o : Op} {st : List (Option Int)} (h : nd o ≤ st.length) : (stV V o st).length = st.length - nd o + 1 := by
  unfold stV nd at *
  by_cases h0 : o.1 = 0
  · rw [if_pos h0, if_pos (Or.inl h0)]
    rfl
  · by_cases h1 : o.1 = 1
    · rw [if_neg h0, if_pos h1, if_pos (Or.inr h1)]
      rfl
    · have h01 : ¬ (o.1 = 0 ∨ o.1 = 1) := fun z => z.elim h0 h1
      rw [if_neg h01] at h
      rw [if_neg h0, if_neg h1, if_neg h01]
      by_cases h5 : o.1 = 5
      · rw [if_pos h5, if_pos h5, List.length_cons, List.length_drop]
      · rw [if_neg h5, if_neg h5, List.length_cons, List.length_drop]
theorem evS_len {V : Int → Int} : ∀ (q : List Op) (st : List (Option Int)), Wf q st.length → (evS V q st).length = hg q st.length
  | [], st, _ => rfl
  | o :: q, st, h => by
    have e := stV_len (V := V) h.1
    show (evS V q (stV V o st)).length = hg q (st.length - nd o + 1)
    rw [evS_len q _ (by rw [e]; exact h.2), e]
theorem stV_base {V : Int → Int} {o : Op} {st b : List (Option Int)} (h : nd o ≤ st.length) : stV V o (st ++ b) = stV V o st ++ b := by
  unfold stV nd at *
  by_cases h0 : o.1 = 0
  · rw [if_pos h0, if_pos h0]
    rfl
  · by_cases h1 : o.1 = 1
    · rw [if_neg h0, if_pos h1, if_neg h0, if_pos h1]
      rfl
    · rw [if_neg (by omega)] at h
      rw [if_neg h0, if_neg h1, if_neg h0, if_neg h1]
      by_cases h5 : o.1 = 5
      · rw [if_pos h5] at h
        rw [if_pos h5, if_pos h5]
        rcases st with _ | ⟨a, st⟩
        · exact absurd h (by decide)
        · rfl
      · rw [if_neg h5] at h
        rw [if_neg h5, if_neg h5]
        rcases st with _ | ⟨a, _ | ⟨c, st⟩⟩
        · exact absurd h (by decide)
        · exact absurd (show 2 ≤ 1 from h) (by decide)
        · rfl
theorem evS_base {V : Int → Int} {b : List (Option Int)} : ∀ (q : List Op) (st : List (Option Int)), Wf q st.length → evS V q (st ++ b) = evS V q st ++ b
  | [], st, _ => rfl
  | o :: q, st, h => by
    show evS V q (stV V o (st ++ b)) = evS V q (stV V o st) ++ b
    rw [stV_base h.1]
    exact evS_base q _ (by rw [stV_len h.1]; exact h.2)
/-- a side's number -/
def sdV (V : Int → Int) (q : List Op) : Option Int := (evS V q []).headD none
theorem sdV_e {V : Int → Int} {q : List Op} (h : Gq 0 q) (b : List (Option Int)) : evS V q b = sdV V q :: b := by
  have e := evS_base (V := V) (b := b) q [] (h.1 0 (Nat.le_refl _)).1
  have l := evS_len (V := V) q [] (h.1 0 (Nat.le_refl _)).1
  rw [show hg q ([] : List (Option Int)).length = 1 from (h.1 0 (Nat.le_refl _)).2] at l
  rw [List.nil_append] at e
  rw [e]
  unfold sdV
  revert l
  generalize evS V q [] = r
  intro l
  rcases r with _ | ⟨a, _ | ⟨c, t⟩⟩
  · exact absurd l (by simp)
  · rfl
  · exact absurd l (by simp)
theorem pwS_i : ∀ (k : Nat) (a v : Int), i64 v → ∀ z, pwS a k v = some z → i64 z
  | 0, a, v, h, z, e => by
    cases e
    exact h
  | k + 1, a, v, h, z, e => by
    unfold pwS at e
    split at e
    · next q => exact pwS_i k a _ q z e
    · cases e
theorem hdD {α : Type} {P : Option α → Prop} {st : List (Option α)} (h : ∀ q ∈ st, P q) (h0 : P none) : P (st.headD none) := by
  rcases st with _ | ⟨a, st⟩
  · exact h0
  · exact h a List.mem_cons_self
theorem stV_i {V : Int → Int} {o : Op} {st : List (Option Int)} (hV : ∀ l, 0 ≤ l → l ≤ 5 → i64 (V l)) (ho : OkO o) (h : ∀ q ∈ st, ∀ z, q = some z → i64 z) : ∀ q ∈ stV V o st, ∀ z, q = some z → i64 z := by
  intro q hq z hz
  unfold OkO at ho
  unfold stV at hq
  by_cases h0 : o.1 = 0
  · rw [if_pos h0] at hq
    rcases List.mem_cons.mp hq with y | y
    · rw [y] at hz
      cases hz
      omega
    · exact h q y z hz
  · rw [if_neg h0] at hq
    by_cases h1 : o.1 = 1
    · rw [if_pos h1] at hq
      rcases List.mem_cons.mp hq with y | y
      · rw [y] at hz
        cases hz
        exact hV _ (by omega) (by omega)
      · exact h q y z hz
    · rw [if_neg h1] at hq
      by_cases h5 : o.1 = 5
      · rw [if_pos h5] at hq
        rcases List.mem_cons.mp hq with y | y
        · rw [y] at hz
          unfold pwO at hz
          split at hz
          · cases hz
          · exact pwS_i _ _ _ (by decide) z hz
        · exact h q (List.mem_of_mem_drop y) z hz
      · rw [if_neg h5] at hq
        rcases List.mem_cons.mp hq with y | y
        · rw [y] at hz
          unfold cbO at hz
          split at hz
          · split at hz
            · next g =>
              cases hz
              exact g
            · cases hz
          · cases hz
        · exact h q (List.mem_of_mem_drop y) z hz
theorem evS_i {V : Int → Int} (hV : ∀ l, 0 ≤ l → l ≤ 5 → i64 (V l)) : ∀ (ops : List Op) (st : List (Option Int)), (∀ o ∈ ops, OkO o) → (∀ q ∈ st, ∀ z, q = some z → i64 z) → ∀ q ∈ evS V ops st, ∀ z, q = some z → i64 z
  | [], st, _, h => h
  | o :: ops, st, ho, h => evS_i hV ops _ (fun q hq => ho q (List.mem_cons_of_mem _ hq)) (stV_i hV (ho o List.mem_cons_self) h)
theorem evS_hi {V : Int → Int} (hV : ∀ l, 0 ≤ l → l ≤ 5 → i64 (V l)) {ops : List Op} (ho : ∀ o ∈ ops, OkO o) {z : Int} (h : (evS V ops []).headD none = some z) : i64 z := hdD (P := fun q => ∀ z, q = some z → i64 z) (evS_i hV ops [] ho fun q hq => absurd hq List.not_mem_nil) (fun z e => by cases e) z h
/-! by the places of the steps -/
def valI (V : Int → Int) (ops : List Op) (j : Nat) : Option Int := (evS V (ops.take (j + 1)) []).headD none
theorem tk1 {ops : List Op} {j : Nat} {o : Op} (h : ops[j]? = some o) : ops.take (j + 1) = ops.take j ++ [o] := by
  rw [List.take_add_one, h]
  rfl
theorem get_lt {α : Type} {ops : List α} {j : Nat} {o : α} (h : ops[j]? = some o) : j < ops.length := by
  rcases Nat.lt_or_ge j ops.length with z | z
  · exact z
  · rw [List.getElem?_eq_none z] at h
    cases h
theorem mp_hd {α : Type} {f : Nat → Option α} {l : List Nat} (h : 0 < l.length) : (l.map f).headD none = f (l.headD 0) := by
  rcases l with _ | ⟨a, l⟩
  · exact absurd h (by decide)
  · rfl
theorem ev_ix (V : Int → Int) (ops : List Op) : ∀ j, j ≤ ops.length → evS V (ops.take j) [] = (ixO (ops.take j)).map (valI V ops)
  | 0, _ => rfl
  | j + 1, h => by
    obtain ⟨o, ho⟩ : ∃ o, ops[j]? = some o := ⟨_, List.getElem?_eq_getElem (by omega)⟩
    have ih := ev_ix V ops j (by omega)
    have e : evS V (ops.take (j + 1)) [] = stV V o (evS V (ops.take j) []) := by
      rw [tk1 ho, evS_app]
      rfl
    have hj : (ops.take j).length = j := by
      rw [List.length_take]
      omega
    have hv : valI V ops j = (stV V o (evS V (ops.take j) [])).headD none := by
      unfold valI
      rw [e]
    rw [e, tk1 ho, ixO_add, hj]
    have e2 : ∀ x st, stV V o (evS V (ops.take j) []) = x :: st → stV V o (evS V (ops.take j) []) = valI V ops j :: st := fun x st q => by
      rw [hv, q]
      rfl
    rw [ih] at e2 ⊢
    unfold stN
    by_cases h0 : o.1 = 0
    · rw [if_pos (Or.inl h0), List.map_cons]
      exact e2 (some o.2) _ (by unfold stV; rw [if_pos h0])
    · by_cases h1 : o.1 = 1
      · rw [if_pos (Or.inr h1), List.map_cons]
        exact e2 (some (V o.2)) _ (by unfold stV; rw [if_neg h0, if_pos h1])
      · rw [if_neg (by omega)]
        by_cases h5 : o.1 = 5
        · rw [if_pos h5, List.map_cons, List.map_drop]
          exact e2 (pwO (((ixO (ops.take j)).map (valI V ops)).headD none) o.2) _ (by unfold stV; rw [if_neg h0, if_neg h1, if_pos h5])
        · rw [if_neg h5, List.map_cons, List.map_drop]
          exact e2 (cbO o.1 ((((ixO (ops.take j)).map (valI V ops)).drop 1).headD none) (((ixO (ops.take j)).map (valI V ops)).headD none)) _ (by unfold stV; rw [if_neg h0, if_neg h1, if_neg h5])
/-- the next step has the numbers that it takes -/
theorem ix_len {ops : List Op} : ∀ j, j ≤ ops.length → Wf ops 0 → (ixO (ops.take j)).length = hg (ops.take j) 0
  | 0, _, _ => rfl
  | j + 1, h, hw => by
    obtain ⟨o, ho⟩ : ∃ o, ops[j]? = some o := ⟨_, List.getElem?_eq_getElem (by omega)⟩
    have ih := ix_len j (by omega) hw
    have hw2 : Wf (ops.take j ++ ops.drop j) 0 := by
      rw [List.take_append_drop]
      exact hw
    have hd : ops.drop j = o :: ops.drop (j + 1) := List.drop_eq_getElem?_toList_append.trans (by rw [ho]; rfl)
    have hn : nd o ≤ hg (ops.take j) 0 := by
      have := ((Wf_app _ _ _).mp hw2).2
      rw [hd] at this
      exact this.1
    have hj : (ops.take j).length = j := by
      rw [List.length_take]
      omega
    rw [tk1 ho, hg_app, ixO_add, hj]
    show _ = hg (ops.take j) 0 - nd o + 1
    unfold stN
    unfold nd at *
    by_cases h0 : o.1 = 0 ∨ o.1 = 1
    · rw [if_pos h0, if_pos h0, List.length_cons, ih, Nat.sub_zero]
    · rw [if_neg h0] at hn
      rw [if_neg h0, if_neg h0]
      by_cases h5 : o.1 = 5
      · rw [if_pos h5, if_pos h5, List.length_cons, List.length_drop, ih]
      · rw [if_neg h5, if_neg h5, List.length_cons, List.length_drop, ih]
theorem nd_le {ops : List Op} {j : Nat} {o : Op} (ho : ops[j]? = some o) (hw : Wf ops 0) : nd o ≤ (ixO (ops.take j)).length := by
  have hj := get_lt ho
  rw [ix_len j (by omega) hw]
  have hw2 : Wf (ops.take j ++ ops.drop j) 0 := by
    rw [List.take_append_drop]
    exact hw
  have hd : ops.drop j = o :: ops.drop (j + 1) := List.drop_eq_getElem?_toList_append.trans (by rw [ho]; rfl)
  have := ((Wf_app _ _ _).mp hw2).2
  rw [hd] at this
  exact this.1
theorem val_step {V : Int → Int} {ops : List Op} {j : Nat} {o : Op} (ho : ops[j]? = some o) (hw : Wf ops 0) : valI V ops j = if o.1 = 0 then some o.2 else if o.1 = 1 then some (V o.2) else if o.1 = 5 then pwO (valI V ops ((ixO (ops.take j)).headD 0)) o.2 else cbO o.1 (valI V ops (((ixO (ops.take j)).drop 1).headD 0)) (valI V ops ((ixO (ops.take j)).headD 0)) := by
  have hj := get_lt ho
  have hn := nd_le ho hw
  have e : valI V ops j = (stV V o (evS V (ops.take j) [])).headD none := by
    unfold valI
    rw [tk1 ho, evS_app]
    rfl
  rw [e, ev_ix V ops j (by omega)]
  unfold stV
  unfold nd at hn
  by_cases h0 : o.1 = 0
  · rw [if_pos h0, if_pos h0]
    rfl
  · by_cases h1 : o.1 = 1
    · rw [if_neg h0, if_pos h1, if_neg h0, if_pos h1]
      rfl
    · rw [if_neg (by omega)] at hn
      rw [if_neg h0, if_neg h1, if_neg h0, if_neg h1]
      by_cases h5 : o.1 = 5
      · rw [if_pos h5] at hn
        rw [if_pos h5, if_pos h5, mp_hd (by omega)]
        rfl
      · rw [if_neg h5] at hn
        rw [if_neg h5, if_neg h5, mp_hd (by omega), ← List.map_drop, mp_hd (by rw [List.length_drop]; omega)]
        rfl
theorem hg_dn : ∀ (q : List Op) (h : Nat), h ≤ hg q h + q.length
  | [], h => Nat.le_refl _
  | o :: q, h => by
    have ih := hg_dn q (h - nd o + 1)
    have h2 : nd o ≤ 2 := by
      unfold nd
      split
      · decide
      · split <;> decide
    show h ≤ hg q (h - nd o + 1) + (q.length + 1)
    omega
theorem hg_up : ∀ (q : List Op) (h : Nat), hg q h ≤ h + q.length
  | [], h => Nat.le_refl _
  | o :: q, h => by
    have ih := hg_up q (h - nd o + 1)
    show hg q (h - nd o + 1) ≤ h + (q.length + 1)
    rcases Nat.eq_zero_or_pos (nd o) with z | z <;> omega
/-- never more than ninety numbers wait -/
theorem hg_90 {a b : List Op} (h : Gq 0 (a ++ b)) (hl : (a ++ b).length ≤ 180) : hg a 0 ≤ 90 := by
  have h1 := hg_up a 0
  have h2 := hg_dn b (hg a 0)
  have h3 := (h.1 0 (Nat.le_refl _)).2
  rw [hg_app] at h3
  rw [List.length_append] at hl
  omega
