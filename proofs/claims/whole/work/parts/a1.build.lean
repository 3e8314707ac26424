/-! CONSTRUCTORS: what is built -/
theorem iv_i (x : Int32) : iv x.toInt = x := iv_of x
section XR
variable {w : WC} {d : Nat} {y : MD} {Pq : Option AV → Mem → Prop} {bc bs pc : Nat} {L : List (Option AV)} {st : List AV} {μ : Mem}
/-- the law's script -/
theorem g_xald {i : Int} (hd : decode (dB y) pc = .ok (.iaload, 1)) (h0 : 0 ≤ i) (h1 : i < ((wX w).2.1 : Int)) (h4 : (wX w).2.1 ≤ 4096) (kk : G w d y Pq bc bs (pc + 1) L (vI ((wX w).2.2 i.toNat).toInt :: st) μ) : G w d y Pq bc bs pc L (vI i :: vP (some (wX w).1) :: st) μ := by
  refine G.go (fun p l e R s m args below meth c Q hx hb hL H locs lsr cells slots hR hS hlh kw => ?_) kk
  obtain ⟨-, -, -, -, -, hT⟩ := hL.2.2.2.2.2.2.2.2.2.2.2.2
  have hi : i32 i := ⟨by omega, by omega⟩
  refine va_ti hx hb hT hS (iv_in h0 h1 (by omega)) (v := .int (iv ((wX w).2.2 i.toNat).toInt)) ?_ hd kw
  rw [iv_clamp hi, iv_of]
theorem g_xlen (hd : decode (dB y) pc = .ok (.arraylength, 1)) (kk : G w d y Pq bc bs (pc + 1) L (vI ((wX w).2.1 : Int) :: st) μ) : G w d y Pq bc bs pc L (vP (some (wX w).1) :: st) μ := by
  refine G.go (fun p l e R s m args below meth c Q hx hb hL H locs lsr cells slots hR hS hlh kw => ?_) kk
  obtain ⟨-, -, -, -, -, hT⟩ := hL.2.2.2.2.2.2.2.2.2.2.2.2
  exact va_tlen hx hb hT hS (v := iv ((wX w).2.1 : Int)) Int32.ofInt_eq_ofNat.symm hd kw
end XR
/-- the cells from x on: references, ints that aren't 0, kinds -/
def Bu (w : WC) (x z : Nat) (R : List ((Nat × Int) × Nat)) (I : List ((Nat × Int) × Int)) (S : List (Nat × Nat)) (μ : Mem) : Prop := (wB w ≤ x ∧ mZ μ = x + z ∧ S.length = z) ∧ ((∀ e ∈ R, e.1.1 < z) ∧ ∀ e ∈ I, e.1.1 < z) ∧ (∀ i, i < z → mS μ (x + i) = S.getD i (0, 0)) ∧ (∀ i j, i < z → mI μ (x + i) j = (I.lookup (i, j)).getD 0) ∧ (∀ i j, i < z → mL μ (x + i) j = 0) ∧ ∀ i j, i < z → mR μ (x + i) j = (R.lookup (i, j)).map (x + ·)
theorem lkp_none {β : Type} {z : Nat} {j : Int} : ∀ {l : List ((Nat × Int) × β)}, (∀ e ∈ l, e.1.1 < z) → l.lookup (z, j) = none
  | [], _ => rfl
  | ⟨k, b⟩ :: l, h => by
    have hk : k.1 < z := h (k, b) List.mem_cons_self
    rw [List.lookup_cons, show ((z, j) == k) = false from by
      apply beq_eq_false_iff_ne.mpr
      intro e
      rw [← e] at hk
      exact absurd hk (Nat.lt_irrefl z)]
    exact lkp_none fun e he => h e (List.mem_cons_of_mem _ he)
section BU
variable {w : WC} {x z i : Nat} {R : List ((Nat × Int) × Nat)} {I : List ((Nat × Int) × Int)} {S : List (Nat × Nat)} {μ : Mem}
theorem Bu.mz (h : Bu w x z R I S μ) : mZ μ = x + z := h.1.2.1
theorem Bu.new {t n : Nat} (h : Bu w x z R I S μ) : Bu w x (z + 1) R I (S ++ [(t, n)]) (sN μ t n) := by
  obtain ⟨⟨a1, a2, a3⟩, ⟨b1, b2⟩, c, d, e, f⟩ := h
  refine ⟨⟨a1, by rw [mZ_sN]; omega, by rw [List.length_append, a3]; rfl⟩, ⟨fun q hq => Nat.lt_succ_of_lt (b1 q hq), fun q hq => Nat.lt_succ_of_lt (b2 q hq)⟩, fun i hi => ?_, fun i j hi => ?_, fun i j hi => ?_, fun i j hi => ?_⟩
  · rcases Nat.lt_or_ge i z with y | y
    · rw [mS_sN_ne (by omega), c i y, List.getD_eq_getElem?_getD, List.getD_eq_getElem?_getD, List.getElem?_append_left (by omega)]
    · have ei : i = z := by omega
      rw [ei, ← a2, mS_sN_self, List.getD_eq_getElem?_getD, List.getElem?_append_right (by omega), a3, Nat.sub_self]
      rfl
  · rcases Nat.lt_or_ge i z with y | y
    · rw [mI_sN (by omega), d i j y]
    · have ei : i = z := by omega
      rw [ei, lkp_none b2, ← a2]
      simp [sN, mI]
  · rcases Nat.lt_or_ge i z with y | y
    · rw [mL_sN (by omega), e i j y]
    · have ei : i = z := by omega
      rw [ei, ← a2]
      simp [sN, mL]
  · rcases Nat.lt_or_ge i z with y | y
    · rw [mR_sN (by omega), f i j y]
    · have ei : i = z := by omega
      rw [ei, lkp_none b1, ← a2]
      simp [sN, mR]
theorem lkp_c {β : Type} {l : List ((Nat × Int) × β)} {k q : Nat × Int} {b : β} : ((k, b) :: l).lookup q = if q = k then some b else l.lookup q := by
  rw [List.lookup_cons]
  by_cases e : q = k
  · rw [if_pos e, e]
    simp
  · rw [if_neg e, show (q == k) = false from beq_eq_false_iff_ne.mpr e]
theorem Bu.putR {j : Int} {v : Nat} (h : Bu w x z R I S μ) (hi : i < z) : Bu w x z (((i, j), v) :: R) I S (sR μ (x + i) j (some (x + v))) := by
  obtain ⟨a, ⟨b1, b2⟩, c, d, e, f⟩ := h
  refine ⟨a, ⟨fun q hq => (List.mem_cons.mp hq).elim (fun y => by rw [y]; exact hi) (b1 q), b2⟩, c, d, e, fun k q hk => ?_⟩
  rw [mR_sR, lkp_c]
  by_cases y : k = i ∧ q = j
  · rw [if_pos ⟨by omega, y.2⟩, if_pos (by rw [y.1, y.2])]
    rfl
  · rw [if_neg (fun t => y ⟨by omega, t.2⟩), if_neg (fun t => y ⟨congrArg Prod.fst t, congrArg Prod.snd t⟩)]
    exact f k q hk
theorem Bu.putI {j v : Int} (h : Bu w x z R I S μ) (hi : i < z) : Bu w x z R (((i, j), v) :: I) S (sI μ (x + i) j v) := by
  obtain ⟨a, ⟨b1, b2⟩, c, d, e, f⟩ := h
  refine ⟨a, ⟨b1, fun q hq => (List.mem_cons.mp hq).elim (fun y => by rw [y]; exact hi) (b2 q)⟩, c, fun k q hk => ?_, e, f⟩
  rw [mI_sI, lkp_c]
  by_cases y : k = i ∧ q = j
  · rw [if_pos ⟨by omega, y.2⟩, if_pos (by rw [y.1, y.2])]
    rfl
  · rw [if_neg (fun t => y ⟨by omega, t.2⟩), if_neg (fun t => y ⟨congrArg Prod.fst t, congrArg Prod.snd t⟩)]
    exact d k q hk
theorem getD_of {c : Nat × Nat} (hi : S[i]? = some c) : S.getD i (0, 0) = c := by
  rw [List.getD_eq_getElem?_getD, hi]
  rfl
theorem Bu.lt {c : Nat × Nat} (h : Bu w x z R I S μ) (hi : S[i]? = some c) : i < z := by
  have := get_lt hi
  have := h.1.2.2
  omega
theorem Bu.o {c n : Nat} (h : Bu w x z R I S μ) (hi : S[i]? = some (c, n)) : IsO w μ (x + i) c := by
  have hl := h.lt hi
  refine ⟨by have := h.1.1; omega, by rw [h.mz]; omega, ?_⟩
  rw [h.2.2.1 i hl, getD_of hi]
theorem Bu.a {t n : Nat} (h : Bu w x z R I S μ) (hi : S[i]? = some (t, n)) (hn : n ≤ 2147483647) : IsA w μ (x + i) t n := by
  have hl := h.lt hi
  refine ⟨by have := h.1.1; omega, by rw [h.mz]; omega, ?_, hn⟩
  rw [h.2.2.1 i hl, getD_of hi]
theorem Bu.r {j : Int} {v : Nat} {c : Nat × Nat} (h : Bu w x z R I S μ) (hi : S[i]? = some c) (hr : R.lookup (i, j) = some v) : mR μ (x + i) j = some (x + v) := by
  rw [h.2.2.2.2.2 i j (h.lt hi), hr]
  rfl
theorem app_g {c : Nat × Nat} (hi : S[i]? = some c) (q : Nat × Nat) : (S ++ [q])[i]? = some c := by
  rw [List.getElem?_append_left (get_lt hi)]
  exact hi
theorem app_n {q : Nat × Nat} (hz : S.length = z) : (S ++ [q])[z]? = some q := by
  rw [List.getElem?_append_right (by omega), hz, Nat.sub_self]
  rfl
end BU
theorem ibX11 : Cond.instantiable RX11 14 ∈ lw_use := use_t (i := 21) (by decide +kernel) rfl
theorem ibX10 : Cond.instantiable RX10 16 ∈ lw_use := use_t (i := 29) (by decide +kernel) rfl
theorem ibX1 : Cond.instantiable RX1 7 ∈ lw_use := use_t (i := 101) (by decide +kernel) rfl
theorem ibX9 : Cond.instantiable RX9 4 ∈ lw_use := use_t (i := 151) (by decide +kernel) rfl
theorem ibX2 : Cond.instantiable RX2 2 ∈ lw_use := use_t (i := 174) (by decide +kernel) rfl
theorem ibX6 : Cond.instantiable RX6 4 ∈ lw_use := use_t (i := 190) (by decide +kernel) rfl
theorem ibX4 : Cond.instantiable RX4 2 ∈ lw_use := use_t (i := 209) (by decide +kernel) rfl
theorem ibX7 : Cond.instantiable RX7 4 ∈ lw_use := use_t (i := 222) (by decide +kernel) rfl
theorem ibX0 : Cond.instantiable RX0 3 ∈ lw_use := use_t (i := 242) (by decide +kernel) rfl
theorem ibX8 : Cond.instantiable RX8 4 ∈ lw_use := use_t (i := 258) (by decide +kernel) rfl
theorem ibX5 : Cond.instantiable RX5 2 ∈ lw_use := use_t (i := 277) (by decide +kernel) rfl
theorem ibX3 : Cond.instantiable RX3 19 ∈ lw_use := use_t (i := 292) (by decide +kernel) rfl
theorem ibX12 : Cond.instantiable RX12 50 ∈ lw_use := use_t (i := 1141) (by decide +kernel) rfl
theorem izX11 : Cond.initialized RX11 ∈ lw_use := use_t (i := 1) (by decide +kernel) rfl
theorem izX10 : Cond.initialized RX10 ∈ lw_use := use_t (i := 2) (by decide +kernel) rfl
theorem izX1 : Cond.initialized RX1 ∈ lw_use := use_t (i := 3) (by decide +kernel) rfl
theorem izX9 : Cond.initialized RX9 ∈ lw_use := use_t (i := 4) (by decide +kernel) rfl
theorem izX2 : Cond.initialized RX2 ∈ lw_use := use_t (i := 5) (by decide +kernel) rfl
theorem izX6 : Cond.initialized RX6 ∈ lw_use := use_t (i := 6) (by decide +kernel) rfl
theorem izX4 : Cond.initialized RX4 ∈ lw_use := use_t (i := 7) (by decide +kernel) rfl
theorem izX7 : Cond.initialized RX7 ∈ lw_use := use_t (i := 8) (by decide +kernel) rfl
theorem izX0 : Cond.initialized RX0 ∈ lw_use := use_t (i := 9) (by decide +kernel) rfl
theorem izX8 : Cond.initialized RX8 ∈ lw_use := use_t (i := 10) (by decide +kernel) rfl
theorem izX5 : Cond.initialized RX5 ∈ lw_use := use_t (i := 11) (by decide +kernel) rfl
theorem izX3 : Cond.initialized RX3 ∈ lw_use := use_t (i := 12) (by decide +kernel) rfl
theorem izX12 : Cond.initialized RX12 ∈ lw_use := use_t (i := 13) (by decide +kernel) rfl
