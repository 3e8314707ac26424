/-! ROWS OF THE MEMORY MACHINE: new cells, contracts, calls -/
def tyF (t : FieldType) : Bool := match t with
  | .float => false
  | .double => false
  | _ => true
theorem df_of {t : FieldType} (h : tyF t = true) : defaultValue t = cv (if tyK t = 1 then vJ 0 else if tyK t = 2 then vP none else vI 0) := by
  cases t <;> first | rfl | (exact absurd h (by decide))
theorem mS_sN_self (μ : Mem) (t n : Nat) : mS (sN μ t n) (mZ μ) = (t, n) := by simp [mS, sN]
theorem mS_sN_ne {μ : Mem} {t n x : Nat} (h : x ≠ mZ μ) : mS (sN μ t n) x = mS μ x := by simp [mS, sN, h]
theorem mZ_sN (μ : Mem) (t n : Nat) : mZ (sN μ t n) = mZ μ + 1 := rfl
theorem fa_sN_self (μ : Mem) (t n : Nat) (ty : FieldType) (j : Int) : fa (sN μ t n) (mZ μ) ty j = if tyK ty = 1 then vJ 0 else if tyK ty = 2 then vP none else vI 0 := by
  simp [fa, sN, mI, mL, mR]
theorem fa_sN_ne {μ : Mem} {t n x : Nat} (h : x ≠ mZ μ) (ty : FieldType) (j : Int) : fa (sN μ t n) x ty j = fa μ x ty j := by
  simp [fa, sN, mI, mL, mR, h]
theorem Rep.new {w : WC} {μ : Mem} {H H1 : Heap} {t n : Nat} (h : Rep w μ H) (hz : H1.size = H.size + 1) (oq : ∀ q : Nat, q < H.size → H1[q]? = H[q]?) (hc : cOk w (sN μ t n) (mZ μ) H1) : Rep w (sN μ t n) H1 := by
  refine ⟨by rw [hz, mZ_sN, h.1], by rw [mZ_sN]; have := h.2.1; omega, fun x h1 h2 => ?_⟩
  rw [mZ_sN] at h2
  by_cases hx : x = mZ μ
  · subst hx
    exact hc
  · exact (h.2.2 x h1 (by omega)).kept (oq x (by rw [h.1]; omega)) (mS_sN_ne hx) fun ty j => fa_sN_ne hx ty j
theorem va_S.new {A : Nat → Prop} {H0 H H1 : Heap} {locs : List Loc} (h : va_S A H0 H locs) (hz : H1.size = H.size + 1) (oq : ∀ q : Nat, q < H.size → H1[q]? = H[q]?) : va_S A H0 H1 locs :=
  ⟨by have := h.1; omega, fun x h1 h2 => (oq x (Nat.lt_of_lt_of_le h1 h.1)).trans (h.2.1 x h1 h2), h.2.2⟩
theorem gAll : GoodIn lw_use lw_good := fun x h => by
  obtain ⟨h1, h2⟩ := List.mem_filter.mp h
  exact ⟨use_of h1 (by rw [h2]; rfl), good_of_word h2⟩
/-- a contract: from the memory μ, with these arguments, the method returns with R; at most bc cells of bs slots are new -/
def Con (w : WC) (d : Nat) (y : MD) (bc bs : Nat) (as : List AV) (μ : Mem) (R : Option AV → Mem → Prop) : Prop :=
  ∀ l : Launch, Met l (dN y) (Cond.code (dN y) (dB y) (dL y) (dR y) :: lw_good) { frames := d, cells := bc, slots := bs, locals := 64 * d }
    (va_Pc (as.map cv) (fun U => Rep w μ U.heap ∧ va_K (wD w) vwCl (tysW w) U ∧ TxOk w U))
    (fun _ s o t => (∃ (v : Option AV) (μ2 : Mem), o = .returned (v.map cv) ∧ R v μ2 ∧ Rep w μ2 t.heap) ∧ va_F (fun q => wB w ≤ q) s t) bc bs (fun q => wB w ≤ q)
def enL (as : List AV) : List (Option AV) := as.flatMap fun v => if isJ v then [some v, none] else [some v]
theorem lv_args_mem : ∀ (as : List AV) (i k : Nat) (v : AV), (enL as)[k]? = some (some v) → (i + k, cv v) ∈ lv_args i (as.map cv)
  | [], i, k, v, h => by simp [enL] at h
  | u :: t, i, k, v, h => by
    have hc := cv_cat u
    rw [show enL (u :: t) = (if isJ u then [some u, none] else [some u]) ++ enL t from rfl] at h
    show _ ∈ (i, cv u) :: lv_args (if (cv u).category = 2 then i + 2 else i + 1) (t.map cv)
    cases hj : isJ u
    · rw [hj] at h hc
      rw [if_neg (by rw [hc]; simp)]
      cases k with
      | zero =>
        simp at h
        subst h
        exact List.mem_cons_self
      | succ k =>
        have h2 : (enL t)[k]? = some (some v) := by simpa using h
        have := lv_args_mem t (i + 1) k v h2
        rw [show i + (k + 1) = i + 1 + k by omega]
        exact List.mem_cons_of_mem _ this
    · rw [hj] at h hc
      rw [if_pos (by rw [hc]; simp)]
      cases k with
      | zero =>
        simp at h
        subst h
        exact List.mem_cons_self
      | succ k =>
        cases k with
        | zero => simp at h
        | succ k =>
          have h2 : (enL t)[k]? = some (some v) := by simpa using h
          have := lv_args_mem t (i + 2) k v h2
          rw [show i + (k + 1 + 1) = i + 2 + k by omega]
          exact List.mem_cons_of_mem _ this
theorem lg_sl_len (as : List AV) : (lg_sl (as.map cv)).length = (enL as).length := by
  induction as with
  | nil => rfl
  | cons u t ih =>
    have hc := cv_cat u
    simp only [lg_sl, enL, List.map_cons, List.flatMap_cons, List.length_append] at ih ⊢
    rw [ih, hc]
    cases isJ u <;> simp
theorem lh_pad {ls : Array Slot} {nL n : Nat} {L : List (Option AV)} (h : lh ls nL L) : lh ls nL (L ++ List.replicate n none) := by
  refine ⟨h.1, h.2.1, fun k v hk => ?_⟩
  by_cases hl : k < L.length
  · rw [List.getElem?_append_left hl] at hk
    exact h.2.2 k v hk
  · rw [List.getElem?_append_right (by omega)] at hk
    have := List.eq_of_mem_replicate (List.mem_of_getElem? hk)
    cases this
/-- a contract out of the walk from the method's first instruction -/
theorem Con.of {w : WC} {d : Nat} {y : MD} {bc bs : Nat} {as : List AV} {μ : Mem} {R : Option AV → Mem → Prop} {L : List (Option AV)} (hp : plainName (dO y) = true) (hn : (enL as).length ≤ dL y) (hL : enL as ++ List.replicate (dL y - (enL as).length) none = L) (h : G w d y R bc bs 0 L [] μ) : Con w d y bc bs as μ R := by
  subst hL
  intro l
  refine Met.ofW (cc := dB y) (maxL := dL y) (ret := dR y) hp rfl ?_
  intro p e s m args below meth c s₁ B hml hv
  obtain ⟨rfl, hRep, hK, hT⟩ := hv
  have hts : ∀ x ∈ lw_use, x.before (as.map cv).toArray s = true := hT.uses fun x hx => atoms_spec (ws := Cond.code (dN y) (dB y) (dL y) (dR y) :: lw_good) B.pre x (List.mem_cons_of_mem _ hx)
  have hin : dI y = true → meth.name = "<init>" := fun q => (name_of_methodNamed B.named B.method).1.trans (eq_of_beq q)
  have hl := lv_entry (as.map cv) (n := dL y) (by rw [lg_sl_len]; exact hn)
  rw [lg_entry_eq]
  generalize (lg_sl (as.map cv) ++ List.replicate (dL y - (lg_sl (as.map cv)).length) Slot.unset).toArray = ls at hl ⊢
  have hlh : lh ls (dL y) (enL as) := lh.of hl fun k v hk => by have := lv_args_mem as 0 k v hk; rwa [Nat.zero_add] at this
  refine h p l e _ s m _ below meth c _ ⟨B.exec, B.bytes, B.returns, hml, findClass_of_methodNamed B.named, hts, B.notSynchronized, hK, hin, by rw [hRep.1]; exact hRep.2.1, Nat.le_refl d, Nat.le_refl (64 * d), hT⟩ ?_ s.heap [] ls 0 0 hRep va_S.rf (lh_pad hlh) (by show 0 + bc ≤ bc; omega) (by show 0 + bs ≤ bs; omega)
  intro v μ2 H locs lsr cells slots pc st hret hR hS hP hc hs
  refine W.widen (k := bc) (n := bs) hc hs ?_
  have hQ : ∀ t : State, t.heap = H → s.WarmedH t.vm → (∃ (v' : Option AV) (μ2 : Mem), Outcome.returned (v.map cv) = .returned (v'.map cv) ∧ R v' μ2 ∧ Rep w μ2 t.heap) ∧ va_F (fun q => wB w ≤ q) s t := fun t ht _ => ⟨⟨v, μ2, rfl, hP, by rw [ht]; exact hR⟩, hS.F ht⟩
  rcases hret with ⟨z, h1, rfl, rfl, t, h2, h3⟩ | ⟨z, h1, rfl, rfl, h2⟩ | ⟨r, h1, rfl, rfl, t, h2, h3⟩ | ⟨h1, rfl, rfl, h2⟩
  · exact W.zret B.exec B.bytes (B.returns.trans h2) h3 hQ hS.2.2 h1 (hlocks := B.notSynchronized)
  · exact W.lret B.exec B.bytes (B.returns.trans h2) hQ hS.2.2 h1 (hlocks := B.notSynchronized)
  · exact W.aret (v := va_rf r) B.exec B.bytes (B.returns.trans h2) h3 (by cases r with
      | none => exact Or.inl rfl
      | some a => exact Or.inr ⟨a, rfl⟩) hQ hS.2.2 h1 (hlocks := B.notSynchronized)
  · exact W.vret B.exec B.bytes (B.returns.trans h2) hQ hS.2.2 h1 (hlocks := B.notSynchronized)
