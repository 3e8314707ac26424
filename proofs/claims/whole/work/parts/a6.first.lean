/-! THE LAW: the first state -/
def R99 : List ((Nat × Int) × Nat) := [((0, 13), 85), ((85, 12), 98), ((85, 11), 97), ((85, 10), 96), ((85, 9), 95), ((85, 8), 94), ((85, 7), 93), ((85, 6), 92), ((85, 5), 91), ((85, 4), 90), ((85, 3), 89), ((85, 2), 88), ((85, 1), 87), ((85, 0), 86), ((0, 12), 71), ((71, 12), 84), ((71, 11), 83), ((71, 10), 82), ((71, 9), 81), ((71, 8), 80), ((71, 7), 79), ((71, 6), 78), ((71, 5), 77), ((71, 4), 76), ((71, 3), 75), ((71, 2), 74), ((71, 1), 73), ((71, 0), 72), ((0, 11), 70), ((0, 10), 68), ((68, 0), 69), ((0, 9), 65), ((65, 1), 67), ((65, 0), 66), ((0, 8), 62), ((62, 1), 64), ((62, 0), 63), ((0, 7), 59), ((59, 1), 61), ((59, 0), 60), ((0, 6), 58), ((58, 0), 1), ((0, 5), 56), ((56, 1), 57), ((56, 0), 1), ((0, 4), 48), ((48, 1), 49), ((49, 6), 55), ((49, 5), 54), ((49, 4), 53), ((49, 3), 52), ((49, 2), 51), ((49, 1), 50), ((48, 0), 1), ((0, 3), 41), ((41, 6), 47), ((41, 5), 46), ((41, 4), 45), ((41, 3), 44), ((41, 2), 43), ((41, 1), 42), ((8, 3), 40), ((7, 3), 33), ((33, 6), 39), ((33, 5), 38), ((33, 4), 37), ((33, 3), 36), ((33, 2), 35), ((33, 1), 34), ((8, 2), 32), ((7, 2), 25), ((25, 6), 31), ((25, 5), 30), ((25, 4), 29), ((25, 3), 28), ((25, 2), 27), ((25, 1), 26), ((8, 1), 24), ((7, 1), 17), ((17, 6), 23), ((17, 5), 22), ((17, 4), 21), ((17, 3), 20), ((17, 2), 19), ((17, 1), 18), ((8, 0), 16), ((7, 0), 9), ((9, 6), 15), ((9, 5), 14), ((9, 4), 13), ((9, 3), 12), ((9, 2), 11), ((9, 1), 10), ((0, 2), 8), ((0, 1), 7), ((0, 0), 1), ((1, 4), 6), ((1, 3), 5), ((1, 2), 4), ((1, 1), 3), ((1, 0), 2)]
def I99 : List ((Nat × Int) × Int) := [((62, 2), 1), ((59, 3), -1), ((59, 2), -1), ((1, 15), -1), ((1, 14), -1), ((1, 13), -1)]
def S99 : List (Nat × Nat) := [(11, 0), (10, 0), (13, 800), (14, 801), (14, 801), (14, 801), (14, 801), (17, 4), (18, 4), (1, 0), (14, 5), (14, 5), (14, 5), (14, 5), (14, 5), (14, 5), (9, 0), (1, 0), (14, 5), (14, 5), (14, 5), (14, 5), (14, 5), (14, 5), (9, 0), (1, 0), (14, 5), (14, 5), (14, 5), (14, 5), (14, 5), (14, 5), (9, 0), (1, 0), (14, 5), (14, 5), (14, 5), (14, 5), (14, 5), (14, 5), (9, 0), (1, 0), (14, 5), (14, 5), (14, 5), (14, 5), (14, 5), (14, 5), (2, 0), (1, 0), (14, 5), (14, 5), (14, 5), (14, 5), (14, 5), (14, 5), (6, 0), (14, 60), (4, 0), (7, 0), (14, 6), (15, 0), (0, 0), (15, 360), (14, 60), (8, 0), (15, 469), (15, 469), (5, 0), (13, 2400), (14, 5), (3, 0), (14, 200), (14, 200), (14, 200), (14, 200), (14, 200), (15, 200), (16, 200), (14, 200), (14, 6), (14, 4), (14, 24), (16, 4), (16, 4), (3, 0), (14, 200), (14, 200), (14, 200), (14, 200), (14, 200), (15, 200), (16, 200), (14, 200), (14, 6), (14, 4), (14, 24), (16, 4), (16, 4)]
def R120 : List ((Nat × Int) × Nat) := ((99, 48), 119) :: ((99, 47), 118) :: ((99, 46), 117) :: ((99, 45), 116) :: ((99, 43), 115) :: ((99, 42), 114) :: ((99, 35), 113) :: ((99, 34), 112) :: ((99, 33), 111) :: ((99, 31), 110) :: ((99, 30), 109) :: ((99, 28), 108) :: ((99, 27), 107) :: ((99, 26), 106) :: ((99, 25), 105) :: ((99, 24), 104) :: ((99, 22), 103) :: ((99, 2), 102) :: ((99, 1), 101) :: ((99, 0), 100) :: R99
def I120 : List ((Nat × Int) × Int) := ((99, 23), -1) :: ((99, 21), -1) :: ((99, 7), -1) :: ((99, 6), -1) :: ((99, 5), -1) :: I99
def S120 : List (Nat × Nat) := S99 ++ [(12, 0), (14, 5), (14, 100), (14, 800), (15, 180006), (15, 6001), (14, 5), (14, 5), (14, 600), (15, 120), (14, 5), (14, 60), (14, 1800), (14, 1800), (14, 4), (14, 6), (15, 130), (14, 7), (15, 360), (16, 6001), (14, 3000)]
theorem tb_R : ∀ r ∈ fixR, R120.lookup (r.1, r.2.1) = some r.2.2 ∧ r.1 < 120 := by decide +kernel
theorem tb_O : ∀ r ∈ fixO, (S120.getD r.1 (0, 0)).1 = r.2 ∧ r.1 < 120 := by decide +kernel
theorem tb_A : ∀ r ∈ fixA, S120.getD r.1 (0, 0) = r.2 ∧ r.1 < 120 ∧ r.2.2 ≤ 2147483647 := by decide +kernel
theorem tb_D : ∀ j, j < 8 → R120.lookup (16 + 8 * (j % 4), ((j / 4 : Nat) : Int)) = none ∧ 16 + 8 * (j % 4) < 120 := by decide +kernel
def st0 : LSt := (fun _ => [], (0, fun _ => 0), fa0, (0, fun _ => 0), idT0)
section S0
variable {w : WC} {μ : Mem} {x : Nat}
theorem B0.i (h : Bu w x 120 R120 I120 S120 μ) {i : Nat} {j v : Int} (hi : i < 120) (e : (I120.lookup (i, j)).getD 0 = v) : mI μ (x + i) j = v := (h.2.2.2.1 i j hi).trans e
theorem B0.rr (h : Bu w x 120 R120 I120 S120 μ) {i v : Nat} {j : Int} (hi : i < 120) (e : R120.lookup (i, j) = some v) : mR μ (x + i) j = some (x + v) := by
  rw [h.2.2.2.2.2 i j hi, e]
  rfl
theorem B0.rn (h : Bu w x 120 R120 I120 S120 μ) {i : Nat} {j : Int} (hi : i < 120) (e : R120.lookup (i, j) = none) : mR μ (x + i) j = none := by
  rw [h.2.2.2.2.2 i j hi, e]
  rfl
theorem B0.oo (h : Bu w x 120 R120 I120 S120 μ) {i c : Nat} (hi : i < 120) (e : (S120.getD i (0, 0)).1 = c) : IsO w μ (x + i) c := by
  refine ⟨by have := h.1.1; omega, by rw [h.mz]; omega, ?_⟩
  rw [h.2.2.1 i hi]
  exact e
theorem B0.aa (h : Bu w x 120 R120 I120 S120 μ) {i t n : Nat} (hi : i < 120) (e : S120.getD i (0, 0) = (t, n)) (hn : n ≤ 2147483647) : IsA w μ (x + i) t n := by
  refine ⟨by have := h.1.1; omega, by rw [h.mz]; omega, ?_, hn⟩
  rw [h.2.2.1 i hi]
  exact e
theorem B0.tps (h : Bu w x 120 R120 I120 S120 μ) : TPS w μ x := by
  refine ⟨fun r hr => ?_, fun r hr => ?_, fun r hr => ?_, h.1.1, by rw [h.mz]; omega⟩
  · exact B0.rr h (tb_R r hr).2 (tb_R r hr).1
  · exact B0.oo h (tb_O r hr).2 (tb_O r hr).1
  · exact B0.aa h (tb_A r hr).2.1 (tb_A r hr).1 (tb_A r hr).2.2
theorem FI_0 {q : Nat} (e : mI μ q 0 = 0) : FI μ q [] := ⟨e, by decide, (fun u hu => by cases hu), (fun i u hu => by cases hu)⟩
theorem MFI_0 {m : Nat} {s : Int} (e : mI μ (m + 1) s = 0) : MFI μ m s [] := ⟨e, by decide, (fun u hu => by cases hu), (fun i u hu => by cases hu)⟩
theorem CS_0 (h : Bu w x 120 R120 I120 S120 μ) : CS w μ x st0 0 := by
  have hT := B0.tps h
  have e59 : mI μ (x + 59) 2 = -1 := B0.i h (by omega) (by decide +kernel)
  have hse : SeS w μ (x + 59) (x + 61) 0 := ⟨B0.oo h (by omega) (by decide +kernel), B0.rr h (i := 59) (v := 60) (by omega) (by decide +kernel), B0.rr h (i := 59) (v := 61) (by omega) (by decide +kernel), B0.aa h (i := 60) (by omega) (by decide +kernel) (by omega), B0.aa h (i := 61) (by omega) (by decide +kernel) (by omega)⟩
  refine ⟨WI_0, x + 61, ⟨hT, fun s hs => ?_, ⟨hse, by omega, Or.inl rfl, by omega, fun z => by omega⟩, ⟨fun j hj a ha => ?_, fun j k a hj _ ha _ => ?_⟩, fun s hs => ?_⟩, ⟨B0.i h (by omega) (by decide +kernel), ⟨by decide, fun j z1 z2 => by simp only [st0] at z2; omega⟩, fun j z1 z2 => by simp only [st0] at z2; omega⟩, ⟨B0.i h (by omega) (by decide +kernel), B0.i h (by omega) (by decide +kernel), B0.i h (by omega) (by decide +kernel), B0.i h (by omega) (by decide +kernel)⟩, ⟨B0.i h (by omega) (by decide +kernel), by decide, fun j z1 z2 => by simp only [st0] at z2; omega⟩, ⟨x + 66, x + 67, B0.rr h (by omega) (by decide +kernel), B0.rr h (by omega) (by decide +kernel), Or.inl ⟨rfl, rfl⟩⟩, x + 71, x + 85, ⟨B0.rr h (i := 0) (by omega) (by decide +kernel), B0.rr h (i := 0) (by omega) (by decide +kernel), Or.inl ⟨rfl, rfl⟩⟩, ⟨⟨B0.i h (by omega) (by decide +kernel), B0.i h (by omega) (by decide +kernel), B0.i h (by omega) (by decide +kernel), B0.i h (by omega) (by decide +kernel)⟩, fun j q hq => ?_, fun k v hv => ?_⟩, B0.i h (by omega) (by decide +kernel), fun b z1 z2 => Or.inl ?_⟩
  · refine FI_0 ?_
    rcases slot4 hs with rfl | rfl | rfl | rfl
    · exact B0.i h (i := 9) (by omega) (by decide +kernel)
    · exact B0.i h (i := 17) (by omega) (by decide +kernel)
    · exact B0.i h (i := 25) (by omega) (by decide +kernel)
    · exact B0.i h (i := 33) (by omega) (by decide +kernel)
  · have : DR μ x j = none := by
      unfold DR
      rw [Nat.add_assoc]
      exact B0.rn h (tb_D j hj).2 (tb_D j hj).1
    rw [this] at ha
    cases ha
  · have : DR μ x j = none := by
      unfold DR
      rw [Nat.add_assoc]
      exact B0.rn h (tb_D j hj).2 (tb_D j hj).1
    rw [this] at ha
    cases ha
  · have e2 : mI μ (tA x s) 2 = 0 := by
      rcases slot4 hs with rfl | rfl | rfl | rfl
      · exact B0.i h (i := 16) (by omega) (by decide +kernel)
      · exact B0.i h (i := 24) (by omega) (by decide +kernel)
      · exact B0.i h (i := 32) (by omega) (by decide +kernel)
      · exact B0.i h (i := 40) (by omega) (by decide +kernel)
    have e3 : mI μ (tA x s) 3 = 0 := by
      rcases slot4 hs with rfl | rfl | rfl | rfl
      · exact B0.i h (i := 16) (by omega) (by decide +kernel)
      · exact B0.i h (i := 24) (by omega) (by decide +kernel)
      · exact B0.i h (i := 32) (by omega) (by decide +kernel)
      · exact B0.i h (i := 40) (by omega) (by decide +kernel)
    exact ⟨⟨Or.inl e2, fun z => by omega⟩, ⟨Or.inl e3, fun z => by omega⟩⟩
  · cases hq
  · cases hv
  · show mI μ (x + 84) b = 0
    exact B0.i h (i := 84) (by omega) (by
      have : b = 0 ∨ b = 1 ∨ b = 2 ∨ b = 3 := by omega
      rcases this with rfl | rfl | rfl | rfl <;> decide +kernel)
theorem Mst_0 (h : Bu w x 120 R120 I120 S120 μ) : Mst w μ (x + 99) st0 := by
  have e21 : mI μ (x + 99) 21 = -1 := B0.i h (by omega) (by decide +kernel)
  have e23 : mI μ (x + 99) 23 = -1 := B0.i h (by omega) (by decide +kernel)

  have hM : MoS w μ (x + 99) := ⟨B0.oo h (by omega) (by decide +kernel), ⟨B0.rr h (i := 99) (v := 100) (by omega) (by decide +kernel), B0.rr h (i := 99) (v := 101) (by omega) (by decide +kernel), B0.rr h (i := 99) (v := 102) (by omega) (by decide +kernel), B0.rr h (i := 99) (v := 103) (by omega) (by decide +kernel), B0.rr h (i := 99) (v := 104) (by omega) (by decide +kernel), B0.rr h (i := 99) (v := 105) (by omega) (by decide +kernel), B0.rr h (i := 99) (v := 106) (by omega) (by decide +kernel), B0.rr h (i := 99) (v := 107) (by omega) (by decide +kernel), B0.rr h (i := 99) (v := 108) (by omega) (by decide +kernel), B0.rr h (i := 99) (v := 109) (by omega) (by decide +kernel), B0.rr h (i := 99) (v := 110) (by omega) (by decide +kernel), B0.rr h (i := 99) (v := 111) (by omega) (by decide +kernel), B0.rr h (i := 99) (v := 112) (by omega) (by decide +kernel), B0.rr h (i := 99) (v := 113) (by omega) (by decide +kernel), B0.rr h (i := 99) (v := 114) (by omega) (by decide +kernel), B0.rr h (i := 99) (v := 115) (by omega) (by decide +kernel), B0.rr h (i := 99) (v := 116) (by omega) (by decide +kernel), B0.rr h (i := 99) (v := 117) (by omega) (by decide +kernel), B0.rr h (i := 99) (v := 118) (by omega) (by decide +kernel), B0.rr h (i := 99) (v := 119) (by omega) (by decide +kernel)⟩, B0.aa h (i := 100) (by omega) (by decide +kernel) (by omega), B0.aa h (i := 101) (by omega) (by decide +kernel) (by omega), B0.aa h (i := 102) (by omega) (by decide +kernel) (by omega), B0.aa h (i := 103) (by omega) (by decide +kernel) (by omega), B0.aa h (i := 104) (by omega) (by decide +kernel) (by omega), B0.aa h (i := 105) (by omega) (by decide +kernel) (by omega), B0.aa h (i := 106) (by omega) (by decide +kernel) (by omega), B0.aa h (i := 107) (by omega) (by decide +kernel) (by omega), B0.aa h (i := 108) (by omega) (by decide +kernel) (by omega), B0.aa h (i := 109) (by omega) (by decide +kernel) (by omega), B0.aa h (i := 110) (by omega) (by decide +kernel) (by omega), B0.aa h (i := 111) (by omega) (by decide +kernel) (by omega), B0.aa h (i := 112) (by omega) (by decide +kernel) (by omega), B0.aa h (i := 113) (by omega) (by decide +kernel) (by omega), B0.aa h (i := 114) (by omega) (by decide +kernel) (by omega), B0.aa h (i := 115) (by omega) (by decide +kernel) (by omega), B0.aa h (i := 116) (by omega) (by decide +kernel) (by omega), B0.aa h (i := 117) (by omega) (by decide +kernel) (by omega), B0.aa h (i := 118) (by omega) (by decide +kernel) (by omega), B0.aa h (i := 119) (by omega) (by decide +kernel) (by omega)⟩
  refine ⟨⟨hM, fun s hs => ?_, ⟨by omega, fun z => by omega⟩, ⟨by omega, fun z => by omega⟩⟩, ⟨B0.i h (i := 99) (by omega) (by decide +kernel), ⟨by decide, fun j z1 z2 => by simp only [st0] at z2; omega⟩, fun j z1 z2 => by simp only [st0] at z2; omega⟩, ⟨B0.i h (by omega) (by decide +kernel), B0.i h (by omega) (by decide +kernel), B0.i h (by omega) (by decide +kernel), B0.i h (by omega) (by decide +kernel)⟩, ⟨B0.i h (by omega) (by decide +kernel), by decide, fun j z1 z2 => by simp only [st0] at z2; omega⟩, ⟨⟨?_, B0.i h (by omega) (by decide +kernel), B0.i h (by omega) (by decide +kernel)⟩, ⟨B0.i h (i := 113) (by omega) (by decide +kernel), B0.i h (i := 113) (by omega) (by decide +kernel)⟩, fun j q hq => by cases hq⟩⟩
  · refine MFI_0 ?_
    rcases slot4 hs with rfl | rfl | rfl | rfl
    · exact B0.i h (i := 100) (by omega) (by decide +kernel)
    · exact B0.i h (i := 100) (by omega) (by decide +kernel)
    · exact B0.i h (i := 100) (by omega) (by decide +kernel)
    · exact B0.i h (i := 100) (by omega) (by decide +kernel)
  · rw [bI_0 (by decide)]
    exact B0.i h (by omega) (by decide +kernel)
end S0
