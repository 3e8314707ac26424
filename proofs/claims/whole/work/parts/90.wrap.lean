/-! LONGS THAT WRAP -/
def wr (z : Int) : Int := (lg z).toInt
theorem lg_wr (z : Int) : lg (wr z) = lg z := lg_of _
theorem wr_i64 (z : Int) : i64 (wr z) := i64_of _
theorem wr_id {z : Int} (h : i64 z) : wr z = z := lg_toInt h
theorem wr_c (z : Int) : wr z = z % 18446744073709551616 ∨ wr z = z % 18446744073709551616 - 18446744073709551616 := by
  unfold wr lg
  rw [Int64.toInt_ofInt]
  show Int.bmod z 18446744073709551616 = _ ∨ Int.bmod z 18446744073709551616 = _
  unfold Int.bmod
  dsimp only
  split
  · exact Or.inl rfl
  · exact Or.inr rfl
section GW
variable {w : WC} {d : Nat} {y : MD} {Pq : Option AV → Mem → Prop} {bc bs pc : Nat} {L : List (Option AV)} {st : List AV} {μ : Mem}
theorem g_lmulW {a b : Int} (hd : decode (dB y) pc = .ok (.lmul, 1)) (kk : G w d y Pq bc bs (pc + 1) L (vJ (wr (a * b)) :: st) μ) : G w d y Pq bc bs pc L (vJ b :: vJ a :: st) μ :=
  G.go (fun _ _ _ _ _ _ _ _ _ _ _ hx hb1 hL H locs lsr cells slots hR hS hlh k => lv_lmul hx hb1 hd (by rw [← lg_mul, ← lg_wr]; exact k)) kk
theorem g_laddW {a b : Int} (hd : decode (dB y) pc = .ok (.ladd, 1)) (kk : G w d y Pq bc bs (pc + 1) L (vJ (wr (a + b)) :: st) μ) : G w d y Pq bc bs pc L (vJ b :: vJ a :: st) μ :=
  G.go (fun _ _ _ _ _ _ _ _ _ _ _ hx hb1 hL H locs lsr cells slots hR hS hlh k => lv_ladd hx hb1 hd (by rw [← lg_add, ← lg_wr]; exact k)) kk
theorem g_lsubW {a b : Int} (hd : decode (dB y) pc = .ok (.lsub, 1)) (kk : G w d y Pq bc bs (pc + 1) L (vJ (wr (a - b)) :: st) μ) : G w d y Pq bc bs pc L (vJ b :: vJ a :: st) μ :=
  G.go (fun _ _ _ _ _ _ _ _ _ _ _ hx hb1 hL H locs lsr cells slots hR hS hlh k => lv_lsub hx hb1 hd (by rw [← lg_sub, ← lg_wr]; exact k)) kk
theorem g_ldivW {a b : Int} (ha : i64 a) (hb : i64 b) (hne : ¬ b = 0) (hd : decode (dB y) pc = .ok (.ldiv, 1)) (kk : G w d y Pq bc bs (pc + 1) L (vJ (wr (a.tdiv b)) :: st) μ) : G w d y Pq bc bs pc L (vJ b :: vJ a :: st) μ :=
  G.go (fun _ _ _ _ _ _ _ _ _ _ _ hx hb1 hL H locs lsr cells slots hR hS hlh k => lv_ldiv hx hb1 hd (lg_ne0 hb hne) (by rw [lg_div ha hb, ← lg_wr]; exact k)) kk
end GW
theorem tdiv_fit {a b : Int} (ha : i64 a) (hb : i64 b) (h0 : ¬ b = 0) : (wr (a * b)).tdiv b = a ↔ i64 (a * b) := by
  constructor
  · intro h
    have h1 := Int.mul_tdiv_add_tmod (wr (a * b)) b
    rw [h] at h1
    have h2 := wr_c (a * b)
    have h3 : b * a = a * b := Int.mul_comm b a
    have h4 : -9223372036854775808 < (wr (a * b)).tmod b ∧ (wr (a * b)).tmod b < 9223372036854775808 := by
      rcases Int.lt_or_gt_of_ne h0 with z | z
      · have e : (wr (a * b)).tmod b = (wr (a * b)).tmod (-b) := (Int.tmod_neg _ _).symm
        have l1 := Int.lt_tmod_of_pos (wr (a * b)) (show 0 < -b by omega)
        have l2 := Int.tmod_lt_of_pos (wr (a * b)) (show 0 < -b by omega)
        rw [e]
        omega
      · have l1 := Int.lt_tmod_of_pos (wr (a * b)) z
        have l2 := Int.tmod_lt_of_pos (wr (a * b)) z
        omega
    have h5 := wr_i64 (a * b)
    rw [h3] at h1
    generalize a * b = z at *
    have h6 : wr z = z := by omega
    rw [← h6]
    exact h5
  · intro h
    rw [wr_id h]
    exact Int.mul_tdiv_cancel a h0
theorem tdiv_i64 {v a : Int} (hv : i64 v) (h0 : ¬ a = 0) (h1 : ¬ a = -1) : i64 (v.tdiv a) := by
  by_cases h : a = 1
  · subst h
    rw [Int.tdiv_one]
    exact hv
  · have e := Int.natAbs_tdiv v a
    have e2 : v.natAbs / a.natAbs ≤ v.natAbs / 2 := Nat.div_le_div_left (by omega) (by omega)
    have e3 : (v.tdiv a).natAbs = v.natAbs / a.natAbs := e
    constructor <;> omega
theorem times_fit {a b : Int} (ha : i64 a) (hb : i64 b) (h0 : ¬ a = 0) : (¬ wr ((wr (a * b)).tdiv a) = b ∨ (a = -1 ∧ b = -9223372036854775808)) ↔ ¬ i64 (a * b) := by
  by_cases h1 : a = -1
  · subst h1
    have e : -1 * b = -b := by omega
    rw [e]
    by_cases h2 : b = -9223372036854775808
    · subst h2
      exact ⟨fun _ => by decide, fun _ => Or.inr ⟨rfl, rfl⟩⟩
    · have h3 : i64 (-b) := ⟨by omega, by omega⟩
      rw [wr_id h3]
      have e2 : (-b).tdiv (-1) = b := by
        rw [Int.tdiv_neg, Int.tdiv_one]
        omega
      rw [e2, wr_id hb]
      exact ⟨fun z => z.elim (fun y => absurd rfl y) (fun y => absurd y.2 h2), fun z => absurd h3 z⟩
  · rw [wr_id (tdiv_i64 (wr_i64 _) h0 h1), Int.mul_comm a b]
    have := tdiv_fit hb ha h0
    exact ⟨fun z y => z.elim (fun q => q (this.mpr y)) (fun q => h1 q.1), fun z => Or.inl fun y => z (this.mp y)⟩
theorem sg_neg (x : Int64) : x.toInt < 0 ↔ x.toBitVec.msb = true := by
  have h : x.toInt = x.toBitVec.toInt := rfl
  rw [h, BitVec.msb_eq_toInt]
  exact ⟨fun z => decide_eq_true z, fun z => of_decide_eq_true z⟩
theorem sg_lg {a : Int} (h : i64 a) : (lg a).toBitVec.msb = true ↔ a < 0 := by
  rw [← sg_neg, lg_toInt h]
theorem sg_xor {a b : Int} (ha : i64 a) (hb : i64 b) : (lg a ^^^ lg b).toInt < 0 ↔ ¬ (a < 0 ↔ b < 0) := by
  rw [sg_neg, Int64.toBitVec_xor, BitVec.msb_xor, ← sg_lg ha, ← sg_lg hb]
  cases (lg a).toBitVec.msb <;> cases (lg b).toBitVec.msb <;> decide
theorem sg_and {a b : Int} (ha : i64 a) (hb : i64 b) : (lg a &&& lg b).toInt < 0 ↔ a < 0 ∧ b < 0 := by
  rw [sg_neg, Int64.toBitVec_and, BitVec.msb_and, ← sg_lg ha, ← sg_lg hb]
  cases (lg a).toBitVec.msb <;> cases (lg b).toBitVec.msb <;> decide
theorem plus_fit {a b : Int} (ha : i64 a) (hb : i64 b) : (lg (lg a ^^^ lg (wr (a + b))).toInt &&& lg (lg b ^^^ lg (wr (a + b))).toInt).toInt < 0 ↔ ¬ i64 (a + b) := by
  rw [sg_and (i64_of _) (i64_of _), sg_xor ha (wr_i64 _), sg_xor hb (wr_i64 _)]
  have h := wr_c (a + b)
  have h2 := wr_i64 (a + b)
  unfold i64 at *
  omega
theorem minus_fit {a b : Int} (ha : i64 a) (hb : i64 b) : (lg (lg a ^^^ lg b).toInt &&& lg (lg a ^^^ lg (wr (a - b))).toInt).toInt < 0 ↔ ¬ i64 (a - b) := by
  rw [sg_and (i64_of _) (i64_of _), sg_xor ha hb, sg_xor ha (wr_i64 _)]
  have h := wr_c (a - b)
  have h2 := wr_i64 (a - b)
  unfold i64 at *
  omega
theorem small_fit {a b : Int} (ha : -2000000000 ≤ a ∧ a ≤ 2000000000) (hb : -2000000000 ≤ b ∧ b ≤ 2000000000) : i64 (a * b) := by
  have h : (a * b).natAbs = a.natAbs * b.natAbs := Int.natAbs_mul a b
  have h2 : a.natAbs * b.natAbs ≤ 2000000000 * 2000000000 := Nat.mul_le_mul (by omega) (by omega)
  unfold i64
  omega
