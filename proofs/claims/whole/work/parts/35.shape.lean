/-! FRAMES: what changes of ints and longs, what of references -/
/-- of the old cells only P's ints and longs, only K's references may be others; kinds stay -/
def Fr (P : Nat → Prop) (K : Nat → Int → Prop) (μ μ2 : Mem) : Prop := mZ μ ≤ mZ μ2 ∧ (∀ x, x < mZ μ → mS μ2 x = mS μ x) ∧ (∀ x, x < mZ μ → ¬ P x → (∀ j, mI μ2 x j = mI μ x j) ∧ ∀ j, mL μ2 x j = mL μ x j) ∧ ∀ x, x < mZ μ → ∀ j, ¬ K x j → mR μ2 x j = mR μ x j
section FR
variable {P P2 : Nat → Prop} {K K2 : Nat → Int → Prop} {μ μ2 μ3 : Mem} {w : WC}
theorem Fr.rf : Fr P K μ μ := ⟨Nat.le_refl _, fun _ _ => rfl, fun _ _ _ => ⟨fun _ => rfl, fun _ => rfl⟩, fun _ _ _ _ => rfl⟩
theorem Fr.tr (h : Fr P K μ μ2) (h2 : Fr P K μ2 μ3) : Fr P K μ μ3 :=
  ⟨Nat.le_trans h.1 h2.1, fun x hx => (h2.2.1 x (Nat.lt_of_lt_of_le hx h.1)).trans (h.2.1 x hx), fun x hx hP => ⟨fun j => ((h2.2.2.1 x (Nat.lt_of_lt_of_le hx h.1) hP).1 j).trans ((h.2.2.1 x hx hP).1 j), fun j => ((h2.2.2.1 x (Nat.lt_of_lt_of_le hx h.1) hP).2 j).trans ((h.2.2.1 x hx hP).2 j)⟩, fun x hx j hk => (h2.2.2.2 x (Nat.lt_of_lt_of_le hx h.1) j hk).trans (h.2.2.2 x hx j hk)⟩
theorem Fr.mono (h : Fr P K μ μ2) (hP : ∀ x, x < mZ μ → P x → P2 x) (hK : ∀ x, x < mZ μ → ∀ j, K x j → K2 x j) : Fr P2 K2 μ μ2 :=
  ⟨h.1, h.2.1, fun x hx q => h.2.2.1 x hx fun z => q (hP x hx z), fun x hx j q => h.2.2.2 x hx j fun z => q (hK x hx j z)⟩
theorem Fr.ofI (h : ChI P μ μ2) : Fr P K μ μ2 := ⟨Nat.le_of_eq h.2.2.2.1.symm, fun x _ => by rw [h.2.2.1], fun x _ hP => ⟨h.2.2.2.2 x hP, fun j => by rw [h.1]⟩, fun x _ j _ => by rw [h.2.1]⟩
theorem Fr.of (h : Ch P μ μ2) (hK : ∀ x, x < mZ μ → P x → ∀ j, K x j) : Fr P K μ μ2 := ⟨h.1, h.2.1, fun x hx hP => ⟨(h.2.2 x hx hP).1, (h.2.2 x hx hP).2.1⟩, fun x hx j hk => (h.2.2 x hx (fun z => hk (hK x hx z j))).2.2 j⟩
theorem Fr.sI {a : Nat} {k v : Int} (ha : P a) : Fr P K μ (sI μ a k v) := Fr.ofI (ChI.s ha)
theorem Fr.wI {a : Nat} {g : Int → Int} (ha : P a) : Fr P K μ (wI μ a g) := ⟨Nat.le_refl _, fun _ _ => rfl, fun x _ hP => ⟨fun j => by rw [mI_wI, if_neg (fun (q : x = a) => hP (q ▸ ha))], fun _ => rfl⟩, fun _ _ _ _ => rfl⟩
theorem Fr.wL {a : Nat} {g : Int → Int} (ha : P a) : Fr P K μ (wL μ a g) := ⟨Nat.le_refl _, fun _ _ => rfl, fun x _ hP => ⟨fun _ => rfl, fun j => by rw [mL_wL, if_neg (fun (q : x = a) => hP (q ▸ ha))]⟩, fun _ _ _ _ => rfl⟩
theorem Fr.sL {a : Nat} {k v : Int} (ha : P a) : Fr P K μ (sL μ a k v) := by rw [sL_w]; exact Fr.wL ha
theorem Fr.sR {a : Nat} {k : Int} {v : Option Nat} (ha : K a k) : Fr P K μ (sR μ a k v) := ⟨Nat.le_refl _, fun _ _ => rfl, fun _ _ _ => ⟨fun _ => rfl, fun _ => rfl⟩, fun x _ j hk => by rw [mR_sR, if_neg (fun (q : x = a ∧ j = k) => hk (by rw [q.1, q.2]; exact ha))]⟩
theorem Fr.sN {t n : Nat} : Fr P K μ (sN μ t n) := ⟨by rw [mZ_sN]; omega, fun x hx => mS_sN_ne (by omega), fun x hx _ => ⟨mI_sN hx, mL_sN hx⟩, fun x hx j _ => mR_sN hx j⟩
theorem Fr.O (h : Fr P K μ μ2) {x c : Nat} (ho : IsO w μ x c) : IsO w μ2 x c := ⟨ho.1, Nat.lt_of_lt_of_le ho.2.1 h.1, by rw [h.2.1 x ho.2.1]; exact ho.2.2⟩
theorem Fr.A (h : Fr P K μ μ2) {x t n : Nat} (ho : IsA w μ x t n) : IsA w μ2 x t n := ⟨ho.1, Nat.lt_of_lt_of_le ho.2.1 h.1, by rw [h.2.1 x ho.2.1]; exact ho.2.2.1, ho.2.2.2⟩
theorem Fr.I (h : Fr P K μ μ2) {x : Nat} (hx : x < mZ μ) (hp : ¬ P x) (j : Int) : mI μ2 x j = mI μ x j := (h.2.2.1 x hx hp).1 j
theorem Fr.L (h : Fr P K μ μ2) {x : Nat} (hx : x < mZ μ) (hp : ¬ P x) (j : Int) : mL μ2 x j = mL μ x j := (h.2.2.1 x hx hp).2 j
theorem Fr.R (h : Fr P K μ μ2) {x : Nat} (hx : x < mZ μ) {j : Int} (hk : ¬ K x j) : mR μ2 x j = mR μ x j := h.2.2.2 x hx j hk
theorem Fr.Fo (h : Fr P K μ μ2) {q : Nat} (hq : ∀ j, ¬ K q j) (hF : FoS w μ q) : FoS w μ2 q := by
  obtain ⟨o0, ⟨r1, r2, r3, r4, r5, r6⟩, a1, a2, a3, a4, a5, a6⟩ := hF
  have e := fun j => h.R o0.2.1 (hq j)
  exact ⟨h.O o0, by simp only [e]; exact ⟨r1, r2, r3, r4, r5, r6⟩, h.A a1, h.A a2, h.A a3, h.A a4, h.A a5, h.A a6⟩
theorem Fr.FI (h : Fr P K μ μ2) {q : Nat} {ts : List Tm} (hF : FoS w μ q) (hq : ∀ x, q ≤ x → x < q + 7 → ¬ P x) (hI : FI μ q ts) : FI μ2 q ts := by
  obtain ⟨o0, -, a1, a2, a3, a4, a5, a6⟩ := hF
  have e0 := h.I o0.2.1 (hq _ (by omega) (by omega))
  have e1 := h.I a1.2.1 (hq _ (by omega) (by omega))
  have e2 := h.I a2.2.1 (hq _ (by omega) (by omega))
  have e3 := h.I a3.2.1 (hq _ (by omega) (by omega))
  have e4 := h.I a4.2.1 (hq _ (by omega) (by omega))
  have e5 := h.I a5.2.1 (hq _ (by omega) (by omega))
  have e6 := h.I a6.2.1 (hq _ (by omega) (by omega))
  obtain ⟨h1, h2, h3, h4⟩ := hI
  refine ⟨(e0 0).trans h1, h2, h3, fun i u hu => ?_⟩
  obtain ⟨g1, g2, g3, g4, g5, g6⟩ := h4 i u hu
  exact ⟨(e1 _).trans g1, (e2 _).trans g2, (e3 _).trans g3, (e4 _).trans g4, (e5 _).trans g5, (e6 _).trans g6⟩
theorem Fr.Se (h : Fr P K μ μ2) {s c N : Nat} (hK : ∀ j, ¬ K s j) (hS : SeS w μ s c N) : SeS w μ2 s c N := by
  obtain ⟨o0, r0, r1, a1, a2⟩ := hS
  exact ⟨h.O o0, by rw [h.R o0.2.1 (hK _)]; exact r0, by rw [h.R o0.2.1 (hK _)]; exact r1, h.A a1, h.A a2⟩
theorem Fr.SeWd (h : Fr P K μ μ2) {s c N : Nat} {ts : List Tm} (hK : ∀ j, ¬ K s j) (h0 : ¬ P s) (h1 : ¬ P (s + 1)) (hc : ¬ P c) (hS : SeW w μ s c N ts) : SeW w μ2 s c N ts := by
  obtain ⟨g0, g1, g2, g3⟩ := hS
  have o0 := g0.1
  have a1 := g0.2.2.2.1
  have a2 := g0.2.2.2.2
  refine ⟨h.Se hK g0, by rw [h.I o0.2.1 h0]; exact g1, fun t z1 z2 => by rw [h.I a1.2.1 h1]; exact g2 t z1 z2, fun z => ⟨(g3 z).1, ?_⟩⟩
  rw [show mL μ2 c = mL μ c from funext (h.L a2.2.1 hc)]
  exact (g3 z).2
end FR

/-- the class's cells behind x: references that stay, objects, rows -/
def fixR : List (Nat × Int × Nat) := [(0, 0, 1), (0, 1, 7), (0, 2, 8), (0, 3, 41), (0, 4, 48), (0, 5, 56), (0, 6, 58), (0, 7, 59), (0, 8, 62), (0, 9, 65), (0, 10, 68), (0, 11, 70), (1, 0, 2), (1, 1, 3), (1, 2, 4), (1, 3, 5), (1, 4, 6), (7, 0, 9), (8, 0, 16), (7, 1, 17), (8, 1, 24), (7, 2, 25), (8, 2, 32), (7, 3, 33), (8, 3, 40), (9, 1, 10), (9, 2, 11), (9, 3, 12), (9, 4, 13), (9, 5, 14), (9, 6, 15), (17, 1, 18), (17, 2, 19), (17, 3, 20), (17, 4, 21), (17, 5, 22), (17, 6, 23), (25, 1, 26), (25, 2, 27), (25, 3, 28), (25, 4, 29), (25, 5, 30), (25, 6, 31), (33, 1, 34), (33, 2, 35), (33, 3, 36), (33, 4, 37), (33, 5, 38), (33, 6, 39), (41, 1, 42), (41, 2, 43), (41, 3, 44), (41, 4, 45), (41, 5, 46), (41, 6, 47), (48, 0, 1), (48, 1, 49), (49, 1, 50), (49, 2, 51), (49, 3, 52), (49, 4, 53), (49, 5, 54), (49, 6, 55), (56, 0, 1), (56, 1, 57), (58, 0, 1), (62, 0, 63), (62, 1, 64), (68, 0, 69), (71, 0, 72), (71, 1, 73), (71, 2, 74), (71, 3, 75), (71, 4, 76), (71, 5, 77), (71, 6, 78), (71, 7, 79), (71, 8, 80), (71, 9, 81), (71, 10, 82), (71, 11, 83), (71, 12, 84), (85, 0, 86), (85, 1, 87), (85, 2, 88), (85, 3, 89), (85, 4, 90), (85, 5, 91), (85, 6, 92), (85, 7, 93), (85, 8, 94), (85, 9, 95), (85, 10, 96), (85, 11, 97), (85, 12, 98)]
def fixO : List (Nat × Nat) := [(0, 11), (1, 10), (16, 9), (24, 9), (32, 9), (40, 9), (9, 1), (17, 1), (25, 1), (33, 1), (41, 1), (48, 2), (49, 1), (56, 6), (58, 4), (62, 0), (65, 8), (68, 5), (71, 3), (85, 3), (59, 7)]
def fixA : List (Nat × Nat × Nat) := [(2, 13, 800), (3, 14, 801), (4, 14, 801), (5, 14, 801), (6, 14, 801), (7, 17, 4), (8, 18, 4), (10, 14, 5), (11, 14, 5), (12, 14, 5), (13, 14, 5), (14, 14, 5), (15, 14, 5), (18, 14, 5), (19, 14, 5), (20, 14, 5), (21, 14, 5), (22, 14, 5), (23, 14, 5), (26, 14, 5), (27, 14, 5), (28, 14, 5), (29, 14, 5), (30, 14, 5), (31, 14, 5), (34, 14, 5), (35, 14, 5), (36, 14, 5), (37, 14, 5), (38, 14, 5), (39, 14, 5), (42, 14, 5), (43, 14, 5), (44, 14, 5), (45, 14, 5), (46, 14, 5), (47, 14, 5), (50, 14, 5), (51, 14, 5), (52, 14, 5), (53, 14, 5), (54, 14, 5), (55, 14, 5), (57, 14, 60), (63, 15, 360), (64, 14, 60), (66, 15, 469), (67, 15, 469), (69, 13, 2400), (70, 14, 5), (72, 14, 200), (73, 14, 200), (74, 14, 200), (75, 14, 200), (76, 14, 200), (77, 15, 200), (78, 16, 200), (79, 14, 200), (80, 14, 6), (81, 14, 4), (82, 14, 24), (83, 16, 4), (84, 16, 4), (86, 14, 200), (87, 14, 200), (88, 14, 200), (89, 14, 200), (90, 14, 200), (91, 15, 200), (92, 16, 200), (93, 14, 200), (94, 14, 6), (95, 14, 4), (96, 14, 24), (97, 16, 4), (98, 16, 4), (60, 14, 6)]
def TPS (w : WC) (μ : Mem) (x : Nat) : Prop := (∀ r ∈ fixR, mR μ (x + r.1) r.2.1 = some (x + r.2.2)) ∧ (∀ r ∈ fixO, IsO w μ (x + r.1) r.2) ∧ (∀ r ∈ fixA, IsA w μ (x + r.1) r.2.1 r.2.2) ∧ wB w ≤ x ∧ x + 120 ≤ mZ μ
/-- cells of forms and counting; references that may change -/
def Cc (x a : Nat) : Prop := (x + 7 ≤ a ∧ a < x + 68) ∨ a = x + 70 ∨ x + 120 ≤ a
def Kc (x a : Nat) (j : Int) : Prop := (x + 59 ≤ a ∧ a ≤ x + 61) ∨ (a = x + 16 ∨ a = x + 24 ∨ a = x + 32 ∨ a = x + 40) ∨ x + 120 ≤ a ∨ (a = x + 56 ∧ (j = 2 ∨ j = 3)) ∨ (a = x + 58 ∧ j = 1)
def Kx (x a : Nat) (j : Int) : Prop := Kc x a j ∨ (a = x ∧ (j = 12 ∨ j = 13)) ∨ (x + 65 ≤ a ∧ a ≤ x + 67)
theorem fixR_ok : ∀ r ∈ fixR, r.1 < 99 ∧ ¬ (59 ≤ r.1 ∧ r.1 ≤ 61) ∧ ¬ (65 ≤ r.1 ∧ r.1 ≤ 67) ∧ ¬ (r.1 = 16 ∨ r.1 = 24 ∨ r.1 = 32 ∨ r.1 = 40) ∧ ¬ (r.1 = 0 ∧ (r.2.1 = 12 ∨ r.2.1 = 13)) ∧ ¬ (r.1 = 56 ∧ (r.2.1 = 2 ∨ r.2.1 = 3)) ∧ ¬ (r.1 = 58 ∧ r.2.1 = 1) := by decide
theorem TPS.fr {P : Nat → Prop} {K : Nat → Int → Prop} {w : WC} {μ μ2 : Mem} {x : Nat} (h : TPS w μ x) (hf : Fr P K μ μ2) (hK : ∀ a j, a < x + 99 → K a j → Kx x a j) : TPS w μ2 x := by
  obtain ⟨h1, h2, h3, h4, h5⟩ := h
  refine ⟨fun r hr => ?_, fun r hr => hf.O (h2 r hr), fun r hr => hf.A (h3 r hr), h4, Nat.le_trans h5 hf.1⟩
  have := fixR_ok r hr
  rw [hf.R (by omega) (fun z => ?_)]
  · exact h1 r hr
  · have := hK _ _ (by omega) z
    unfold Kx Kc at this
    omega
theorem TPS.r0_0 {w : WC} {μ : Mem} {x : Nat} (h : TPS w μ x) : mR μ x 0 = some (x + 1) := h.1 _ (List.mem_of_getElem? (i := 0) rfl)
theorem TPS.r0_1 {w : WC} {μ : Mem} {x : Nat} (h : TPS w μ x) : mR μ x 1 = some (x + 7) := h.1 _ (List.mem_of_getElem? (i := 1) rfl)
theorem TPS.r0_2 {w : WC} {μ : Mem} {x : Nat} (h : TPS w μ x) : mR μ x 2 = some (x + 8) := h.1 _ (List.mem_of_getElem? (i := 2) rfl)
theorem TPS.r0_3 {w : WC} {μ : Mem} {x : Nat} (h : TPS w μ x) : mR μ x 3 = some (x + 41) := h.1 _ (List.mem_of_getElem? (i := 3) rfl)
theorem TPS.r0_4 {w : WC} {μ : Mem} {x : Nat} (h : TPS w μ x) : mR μ x 4 = some (x + 48) := h.1 _ (List.mem_of_getElem? (i := 4) rfl)
theorem TPS.r0_5 {w : WC} {μ : Mem} {x : Nat} (h : TPS w μ x) : mR μ x 5 = some (x + 56) := h.1 _ (List.mem_of_getElem? (i := 5) rfl)
theorem TPS.r0_6 {w : WC} {μ : Mem} {x : Nat} (h : TPS w μ x) : mR μ x 6 = some (x + 58) := h.1 _ (List.mem_of_getElem? (i := 6) rfl)
theorem TPS.r0_7 {w : WC} {μ : Mem} {x : Nat} (h : TPS w μ x) : mR μ x 7 = some (x + 59) := h.1 _ (List.mem_of_getElem? (i := 7) rfl)
theorem TPS.r0_8 {w : WC} {μ : Mem} {x : Nat} (h : TPS w μ x) : mR μ x 8 = some (x + 62) := h.1 _ (List.mem_of_getElem? (i := 8) rfl)
theorem TPS.r0_9 {w : WC} {μ : Mem} {x : Nat} (h : TPS w μ x) : mR μ x 9 = some (x + 65) := h.1 _ (List.mem_of_getElem? (i := 9) rfl)
theorem TPS.r0_10 {w : WC} {μ : Mem} {x : Nat} (h : TPS w μ x) : mR μ x 10 = some (x + 68) := h.1 _ (List.mem_of_getElem? (i := 10) rfl)
theorem TPS.r0_11 {w : WC} {μ : Mem} {x : Nat} (h : TPS w μ x) : mR μ x 11 = some (x + 70) := h.1 _ (List.mem_of_getElem? (i := 11) rfl)
theorem TPS.r1_0 {w : WC} {μ : Mem} {x : Nat} (h : TPS w μ x) : mR μ (x + 1) 0 = some (x + 2) := h.1 _ (List.mem_of_getElem? (i := 12) rfl)
theorem TPS.r1_1 {w : WC} {μ : Mem} {x : Nat} (h : TPS w μ x) : mR μ (x + 1) 1 = some (x + 3) := h.1 _ (List.mem_of_getElem? (i := 13) rfl)
theorem TPS.r1_2 {w : WC} {μ : Mem} {x : Nat} (h : TPS w μ x) : mR μ (x + 1) 2 = some (x + 4) := h.1 _ (List.mem_of_getElem? (i := 14) rfl)
theorem TPS.r1_3 {w : WC} {μ : Mem} {x : Nat} (h : TPS w μ x) : mR μ (x + 1) 3 = some (x + 5) := h.1 _ (List.mem_of_getElem? (i := 15) rfl)
theorem TPS.r1_4 {w : WC} {μ : Mem} {x : Nat} (h : TPS w μ x) : mR μ (x + 1) 4 = some (x + 6) := h.1 _ (List.mem_of_getElem? (i := 16) rfl)
theorem TPS.r7_0 {w : WC} {μ : Mem} {x : Nat} (h : TPS w μ x) : mR μ (x + 7) 0 = some (x + 9) := h.1 _ (List.mem_of_getElem? (i := 17) rfl)
theorem TPS.r8_0 {w : WC} {μ : Mem} {x : Nat} (h : TPS w μ x) : mR μ (x + 8) 0 = some (x + 16) := h.1 _ (List.mem_of_getElem? (i := 18) rfl)
theorem TPS.r7_1 {w : WC} {μ : Mem} {x : Nat} (h : TPS w μ x) : mR μ (x + 7) 1 = some (x + 17) := h.1 _ (List.mem_of_getElem? (i := 19) rfl)
theorem TPS.r8_1 {w : WC} {μ : Mem} {x : Nat} (h : TPS w μ x) : mR μ (x + 8) 1 = some (x + 24) := h.1 _ (List.mem_of_getElem? (i := 20) rfl)
theorem TPS.r7_2 {w : WC} {μ : Mem} {x : Nat} (h : TPS w μ x) : mR μ (x + 7) 2 = some (x + 25) := h.1 _ (List.mem_of_getElem? (i := 21) rfl)
theorem TPS.r8_2 {w : WC} {μ : Mem} {x : Nat} (h : TPS w μ x) : mR μ (x + 8) 2 = some (x + 32) := h.1 _ (List.mem_of_getElem? (i := 22) rfl)
theorem TPS.r7_3 {w : WC} {μ : Mem} {x : Nat} (h : TPS w μ x) : mR μ (x + 7) 3 = some (x + 33) := h.1 _ (List.mem_of_getElem? (i := 23) rfl)
theorem TPS.r8_3 {w : WC} {μ : Mem} {x : Nat} (h : TPS w μ x) : mR μ (x + 8) 3 = some (x + 40) := h.1 _ (List.mem_of_getElem? (i := 24) rfl)
theorem TPS.r9_1 {w : WC} {μ : Mem} {x : Nat} (h : TPS w μ x) : mR μ (x + 9) 1 = some (x + 10) := h.1 _ (List.mem_of_getElem? (i := 25) rfl)
theorem TPS.r9_2 {w : WC} {μ : Mem} {x : Nat} (h : TPS w μ x) : mR μ (x + 9) 2 = some (x + 11) := h.1 _ (List.mem_of_getElem? (i := 26) rfl)
theorem TPS.r9_3 {w : WC} {μ : Mem} {x : Nat} (h : TPS w μ x) : mR μ (x + 9) 3 = some (x + 12) := h.1 _ (List.mem_of_getElem? (i := 27) rfl)
theorem TPS.r9_4 {w : WC} {μ : Mem} {x : Nat} (h : TPS w μ x) : mR μ (x + 9) 4 = some (x + 13) := h.1 _ (List.mem_of_getElem? (i := 28) rfl)
theorem TPS.r9_5 {w : WC} {μ : Mem} {x : Nat} (h : TPS w μ x) : mR μ (x + 9) 5 = some (x + 14) := h.1 _ (List.mem_of_getElem? (i := 29) rfl)
theorem TPS.r9_6 {w : WC} {μ : Mem} {x : Nat} (h : TPS w μ x) : mR μ (x + 9) 6 = some (x + 15) := h.1 _ (List.mem_of_getElem? (i := 30) rfl)
theorem TPS.r17_1 {w : WC} {μ : Mem} {x : Nat} (h : TPS w μ x) : mR μ (x + 17) 1 = some (x + 18) := h.1 _ (List.mem_of_getElem? (i := 31) rfl)
theorem TPS.r17_2 {w : WC} {μ : Mem} {x : Nat} (h : TPS w μ x) : mR μ (x + 17) 2 = some (x + 19) := h.1 _ (List.mem_of_getElem? (i := 32) rfl)
theorem TPS.r17_3 {w : WC} {μ : Mem} {x : Nat} (h : TPS w μ x) : mR μ (x + 17) 3 = some (x + 20) := h.1 _ (List.mem_of_getElem? (i := 33) rfl)
theorem TPS.r17_4 {w : WC} {μ : Mem} {x : Nat} (h : TPS w μ x) : mR μ (x + 17) 4 = some (x + 21) := h.1 _ (List.mem_of_getElem? (i := 34) rfl)
theorem TPS.r17_5 {w : WC} {μ : Mem} {x : Nat} (h : TPS w μ x) : mR μ (x + 17) 5 = some (x + 22) := h.1 _ (List.mem_of_getElem? (i := 35) rfl)
theorem TPS.r17_6 {w : WC} {μ : Mem} {x : Nat} (h : TPS w μ x) : mR μ (x + 17) 6 = some (x + 23) := h.1 _ (List.mem_of_getElem? (i := 36) rfl)
theorem TPS.r25_1 {w : WC} {μ : Mem} {x : Nat} (h : TPS w μ x) : mR μ (x + 25) 1 = some (x + 26) := h.1 _ (List.mem_of_getElem? (i := 37) rfl)
theorem TPS.r25_2 {w : WC} {μ : Mem} {x : Nat} (h : TPS w μ x) : mR μ (x + 25) 2 = some (x + 27) := h.1 _ (List.mem_of_getElem? (i := 38) rfl)
theorem TPS.r25_3 {w : WC} {μ : Mem} {x : Nat} (h : TPS w μ x) : mR μ (x + 25) 3 = some (x + 28) := h.1 _ (List.mem_of_getElem? (i := 39) rfl)
theorem TPS.r25_4 {w : WC} {μ : Mem} {x : Nat} (h : TPS w μ x) : mR μ (x + 25) 4 = some (x + 29) := h.1 _ (List.mem_of_getElem? (i := 40) rfl)
theorem TPS.r25_5 {w : WC} {μ : Mem} {x : Nat} (h : TPS w μ x) : mR μ (x + 25) 5 = some (x + 30) := h.1 _ (List.mem_of_getElem? (i := 41) rfl)
theorem TPS.r25_6 {w : WC} {μ : Mem} {x : Nat} (h : TPS w μ x) : mR μ (x + 25) 6 = some (x + 31) := h.1 _ (List.mem_of_getElem? (i := 42) rfl)
theorem TPS.r33_1 {w : WC} {μ : Mem} {x : Nat} (h : TPS w μ x) : mR μ (x + 33) 1 = some (x + 34) := h.1 _ (List.mem_of_getElem? (i := 43) rfl)
theorem TPS.r33_2 {w : WC} {μ : Mem} {x : Nat} (h : TPS w μ x) : mR μ (x + 33) 2 = some (x + 35) := h.1 _ (List.mem_of_getElem? (i := 44) rfl)
theorem TPS.r33_3 {w : WC} {μ : Mem} {x : Nat} (h : TPS w μ x) : mR μ (x + 33) 3 = some (x + 36) := h.1 _ (List.mem_of_getElem? (i := 45) rfl)
theorem TPS.r33_4 {w : WC} {μ : Mem} {x : Nat} (h : TPS w μ x) : mR μ (x + 33) 4 = some (x + 37) := h.1 _ (List.mem_of_getElem? (i := 46) rfl)
theorem TPS.r33_5 {w : WC} {μ : Mem} {x : Nat} (h : TPS w μ x) : mR μ (x + 33) 5 = some (x + 38) := h.1 _ (List.mem_of_getElem? (i := 47) rfl)
theorem TPS.r33_6 {w : WC} {μ : Mem} {x : Nat} (h : TPS w μ x) : mR μ (x + 33) 6 = some (x + 39) := h.1 _ (List.mem_of_getElem? (i := 48) rfl)
theorem TPS.r41_1 {w : WC} {μ : Mem} {x : Nat} (h : TPS w μ x) : mR μ (x + 41) 1 = some (x + 42) := h.1 _ (List.mem_of_getElem? (i := 49) rfl)
theorem TPS.r41_2 {w : WC} {μ : Mem} {x : Nat} (h : TPS w μ x) : mR μ (x + 41) 2 = some (x + 43) := h.1 _ (List.mem_of_getElem? (i := 50) rfl)
theorem TPS.r41_3 {w : WC} {μ : Mem} {x : Nat} (h : TPS w μ x) : mR μ (x + 41) 3 = some (x + 44) := h.1 _ (List.mem_of_getElem? (i := 51) rfl)
theorem TPS.r41_4 {w : WC} {μ : Mem} {x : Nat} (h : TPS w μ x) : mR μ (x + 41) 4 = some (x + 45) := h.1 _ (List.mem_of_getElem? (i := 52) rfl)
theorem TPS.r41_5 {w : WC} {μ : Mem} {x : Nat} (h : TPS w μ x) : mR μ (x + 41) 5 = some (x + 46) := h.1 _ (List.mem_of_getElem? (i := 53) rfl)
theorem TPS.r41_6 {w : WC} {μ : Mem} {x : Nat} (h : TPS w μ x) : mR μ (x + 41) 6 = some (x + 47) := h.1 _ (List.mem_of_getElem? (i := 54) rfl)
theorem TPS.r48_0 {w : WC} {μ : Mem} {x : Nat} (h : TPS w μ x) : mR μ (x + 48) 0 = some (x + 1) := h.1 _ (List.mem_of_getElem? (i := 55) rfl)
theorem TPS.r48_1 {w : WC} {μ : Mem} {x : Nat} (h : TPS w μ x) : mR μ (x + 48) 1 = some (x + 49) := h.1 _ (List.mem_of_getElem? (i := 56) rfl)
theorem TPS.r49_1 {w : WC} {μ : Mem} {x : Nat} (h : TPS w μ x) : mR μ (x + 49) 1 = some (x + 50) := h.1 _ (List.mem_of_getElem? (i := 57) rfl)
theorem TPS.r49_2 {w : WC} {μ : Mem} {x : Nat} (h : TPS w μ x) : mR μ (x + 49) 2 = some (x + 51) := h.1 _ (List.mem_of_getElem? (i := 58) rfl)
theorem TPS.r49_3 {w : WC} {μ : Mem} {x : Nat} (h : TPS w μ x) : mR μ (x + 49) 3 = some (x + 52) := h.1 _ (List.mem_of_getElem? (i := 59) rfl)
theorem TPS.r49_4 {w : WC} {μ : Mem} {x : Nat} (h : TPS w μ x) : mR μ (x + 49) 4 = some (x + 53) := h.1 _ (List.mem_of_getElem? (i := 60) rfl)
theorem TPS.r49_5 {w : WC} {μ : Mem} {x : Nat} (h : TPS w μ x) : mR μ (x + 49) 5 = some (x + 54) := h.1 _ (List.mem_of_getElem? (i := 61) rfl)
theorem TPS.r49_6 {w : WC} {μ : Mem} {x : Nat} (h : TPS w μ x) : mR μ (x + 49) 6 = some (x + 55) := h.1 _ (List.mem_of_getElem? (i := 62) rfl)
theorem TPS.r56_0 {w : WC} {μ : Mem} {x : Nat} (h : TPS w μ x) : mR μ (x + 56) 0 = some (x + 1) := h.1 _ (List.mem_of_getElem? (i := 63) rfl)
theorem TPS.r56_1 {w : WC} {μ : Mem} {x : Nat} (h : TPS w μ x) : mR μ (x + 56) 1 = some (x + 57) := h.1 _ (List.mem_of_getElem? (i := 64) rfl)
theorem TPS.r58_0 {w : WC} {μ : Mem} {x : Nat} (h : TPS w μ x) : mR μ (x + 58) 0 = some (x + 1) := h.1 _ (List.mem_of_getElem? (i := 65) rfl)
theorem TPS.r62_0 {w : WC} {μ : Mem} {x : Nat} (h : TPS w μ x) : mR μ (x + 62) 0 = some (x + 63) := h.1 _ (List.mem_of_getElem? (i := 66) rfl)
theorem TPS.r62_1 {w : WC} {μ : Mem} {x : Nat} (h : TPS w μ x) : mR μ (x + 62) 1 = some (x + 64) := h.1 _ (List.mem_of_getElem? (i := 67) rfl)
theorem TPS.r68_0 {w : WC} {μ : Mem} {x : Nat} (h : TPS w μ x) : mR μ (x + 68) 0 = some (x + 69) := h.1 _ (List.mem_of_getElem? (i := 68) rfl)
theorem TPS.r71_0 {w : WC} {μ : Mem} {x : Nat} (h : TPS w μ x) : mR μ (x + 71) 0 = some (x + 72) := h.1 _ (List.mem_of_getElem? (i := 69) rfl)
theorem TPS.r71_1 {w : WC} {μ : Mem} {x : Nat} (h : TPS w μ x) : mR μ (x + 71) 1 = some (x + 73) := h.1 _ (List.mem_of_getElem? (i := 70) rfl)
theorem TPS.r71_2 {w : WC} {μ : Mem} {x : Nat} (h : TPS w μ x) : mR μ (x + 71) 2 = some (x + 74) := h.1 _ (List.mem_of_getElem? (i := 71) rfl)
theorem TPS.r71_3 {w : WC} {μ : Mem} {x : Nat} (h : TPS w μ x) : mR μ (x + 71) 3 = some (x + 75) := h.1 _ (List.mem_of_getElem? (i := 72) rfl)
theorem TPS.r71_4 {w : WC} {μ : Mem} {x : Nat} (h : TPS w μ x) : mR μ (x + 71) 4 = some (x + 76) := h.1 _ (List.mem_of_getElem? (i := 73) rfl)
theorem TPS.r71_5 {w : WC} {μ : Mem} {x : Nat} (h : TPS w μ x) : mR μ (x + 71) 5 = some (x + 77) := h.1 _ (List.mem_of_getElem? (i := 74) rfl)
theorem TPS.r71_6 {w : WC} {μ : Mem} {x : Nat} (h : TPS w μ x) : mR μ (x + 71) 6 = some (x + 78) := h.1 _ (List.mem_of_getElem? (i := 75) rfl)
theorem TPS.r71_7 {w : WC} {μ : Mem} {x : Nat} (h : TPS w μ x) : mR μ (x + 71) 7 = some (x + 79) := h.1 _ (List.mem_of_getElem? (i := 76) rfl)
theorem TPS.r71_8 {w : WC} {μ : Mem} {x : Nat} (h : TPS w μ x) : mR μ (x + 71) 8 = some (x + 80) := h.1 _ (List.mem_of_getElem? (i := 77) rfl)
theorem TPS.r71_9 {w : WC} {μ : Mem} {x : Nat} (h : TPS w μ x) : mR μ (x + 71) 9 = some (x + 81) := h.1 _ (List.mem_of_getElem? (i := 78) rfl)
theorem TPS.r71_10 {w : WC} {μ : Mem} {x : Nat} (h : TPS w μ x) : mR μ (x + 71) 10 = some (x + 82) := h.1 _ (List.mem_of_getElem? (i := 79) rfl)
theorem TPS.r71_11 {w : WC} {μ : Mem} {x : Nat} (h : TPS w μ x) : mR μ (x + 71) 11 = some (x + 83) := h.1 _ (List.mem_of_getElem? (i := 80) rfl)
theorem TPS.r71_12 {w : WC} {μ : Mem} {x : Nat} (h : TPS w μ x) : mR μ (x + 71) 12 = some (x + 84) := h.1 _ (List.mem_of_getElem? (i := 81) rfl)
theorem TPS.r85_0 {w : WC} {μ : Mem} {x : Nat} (h : TPS w μ x) : mR μ (x + 85) 0 = some (x + 86) := h.1 _ (List.mem_of_getElem? (i := 82) rfl)
theorem TPS.r85_1 {w : WC} {μ : Mem} {x : Nat} (h : TPS w μ x) : mR μ (x + 85) 1 = some (x + 87) := h.1 _ (List.mem_of_getElem? (i := 83) rfl)
theorem TPS.r85_2 {w : WC} {μ : Mem} {x : Nat} (h : TPS w μ x) : mR μ (x + 85) 2 = some (x + 88) := h.1 _ (List.mem_of_getElem? (i := 84) rfl)
theorem TPS.r85_3 {w : WC} {μ : Mem} {x : Nat} (h : TPS w μ x) : mR μ (x + 85) 3 = some (x + 89) := h.1 _ (List.mem_of_getElem? (i := 85) rfl)
theorem TPS.r85_4 {w : WC} {μ : Mem} {x : Nat} (h : TPS w μ x) : mR μ (x + 85) 4 = some (x + 90) := h.1 _ (List.mem_of_getElem? (i := 86) rfl)
theorem TPS.r85_5 {w : WC} {μ : Mem} {x : Nat} (h : TPS w μ x) : mR μ (x + 85) 5 = some (x + 91) := h.1 _ (List.mem_of_getElem? (i := 87) rfl)
theorem TPS.r85_6 {w : WC} {μ : Mem} {x : Nat} (h : TPS w μ x) : mR μ (x + 85) 6 = some (x + 92) := h.1 _ (List.mem_of_getElem? (i := 88) rfl)
theorem TPS.r85_7 {w : WC} {μ : Mem} {x : Nat} (h : TPS w μ x) : mR μ (x + 85) 7 = some (x + 93) := h.1 _ (List.mem_of_getElem? (i := 89) rfl)
theorem TPS.r85_8 {w : WC} {μ : Mem} {x : Nat} (h : TPS w μ x) : mR μ (x + 85) 8 = some (x + 94) := h.1 _ (List.mem_of_getElem? (i := 90) rfl)
theorem TPS.r85_9 {w : WC} {μ : Mem} {x : Nat} (h : TPS w μ x) : mR μ (x + 85) 9 = some (x + 95) := h.1 _ (List.mem_of_getElem? (i := 91) rfl)
theorem TPS.r85_10 {w : WC} {μ : Mem} {x : Nat} (h : TPS w μ x) : mR μ (x + 85) 10 = some (x + 96) := h.1 _ (List.mem_of_getElem? (i := 92) rfl)
theorem TPS.r85_11 {w : WC} {μ : Mem} {x : Nat} (h : TPS w μ x) : mR μ (x + 85) 11 = some (x + 97) := h.1 _ (List.mem_of_getElem? (i := 93) rfl)
theorem TPS.r85_12 {w : WC} {μ : Mem} {x : Nat} (h : TPS w μ x) : mR μ (x + 85) 12 = some (x + 98) := h.1 _ (List.mem_of_getElem? (i := 94) rfl)
theorem TPS.o0 {w : WC} {μ : Mem} {x : Nat} (h : TPS w μ x) : IsO w μ x 11 := h.2.1 _ (List.mem_of_getElem? (i := 0) rfl)
theorem TPS.o1 {w : WC} {μ : Mem} {x : Nat} (h : TPS w μ x) : IsO w μ (x + 1) 10 := h.2.1 _ (List.mem_of_getElem? (i := 1) rfl)
theorem TPS.o16 {w : WC} {μ : Mem} {x : Nat} (h : TPS w μ x) : IsO w μ (x + 16) 9 := h.2.1 _ (List.mem_of_getElem? (i := 2) rfl)
theorem TPS.o24 {w : WC} {μ : Mem} {x : Nat} (h : TPS w μ x) : IsO w μ (x + 24) 9 := h.2.1 _ (List.mem_of_getElem? (i := 3) rfl)
theorem TPS.o32 {w : WC} {μ : Mem} {x : Nat} (h : TPS w μ x) : IsO w μ (x + 32) 9 := h.2.1 _ (List.mem_of_getElem? (i := 4) rfl)
theorem TPS.o40 {w : WC} {μ : Mem} {x : Nat} (h : TPS w μ x) : IsO w μ (x + 40) 9 := h.2.1 _ (List.mem_of_getElem? (i := 5) rfl)
theorem TPS.o9 {w : WC} {μ : Mem} {x : Nat} (h : TPS w μ x) : IsO w μ (x + 9) 1 := h.2.1 _ (List.mem_of_getElem? (i := 6) rfl)
theorem TPS.o17 {w : WC} {μ : Mem} {x : Nat} (h : TPS w μ x) : IsO w μ (x + 17) 1 := h.2.1 _ (List.mem_of_getElem? (i := 7) rfl)
theorem TPS.o25 {w : WC} {μ : Mem} {x : Nat} (h : TPS w μ x) : IsO w μ (x + 25) 1 := h.2.1 _ (List.mem_of_getElem? (i := 8) rfl)
theorem TPS.o33 {w : WC} {μ : Mem} {x : Nat} (h : TPS w μ x) : IsO w μ (x + 33) 1 := h.2.1 _ (List.mem_of_getElem? (i := 9) rfl)
theorem TPS.o41 {w : WC} {μ : Mem} {x : Nat} (h : TPS w μ x) : IsO w μ (x + 41) 1 := h.2.1 _ (List.mem_of_getElem? (i := 10) rfl)
theorem TPS.o48 {w : WC} {μ : Mem} {x : Nat} (h : TPS w μ x) : IsO w μ (x + 48) 2 := h.2.1 _ (List.mem_of_getElem? (i := 11) rfl)
theorem TPS.o49 {w : WC} {μ : Mem} {x : Nat} (h : TPS w μ x) : IsO w μ (x + 49) 1 := h.2.1 _ (List.mem_of_getElem? (i := 12) rfl)
theorem TPS.o56 {w : WC} {μ : Mem} {x : Nat} (h : TPS w μ x) : IsO w μ (x + 56) 6 := h.2.1 _ (List.mem_of_getElem? (i := 13) rfl)
theorem TPS.o58 {w : WC} {μ : Mem} {x : Nat} (h : TPS w μ x) : IsO w μ (x + 58) 4 := h.2.1 _ (List.mem_of_getElem? (i := 14) rfl)
theorem TPS.o62 {w : WC} {μ : Mem} {x : Nat} (h : TPS w μ x) : IsO w μ (x + 62) 0 := h.2.1 _ (List.mem_of_getElem? (i := 15) rfl)
theorem TPS.o65 {w : WC} {μ : Mem} {x : Nat} (h : TPS w μ x) : IsO w μ (x + 65) 8 := h.2.1 _ (List.mem_of_getElem? (i := 16) rfl)
theorem TPS.o68 {w : WC} {μ : Mem} {x : Nat} (h : TPS w μ x) : IsO w μ (x + 68) 5 := h.2.1 _ (List.mem_of_getElem? (i := 17) rfl)
theorem TPS.o71 {w : WC} {μ : Mem} {x : Nat} (h : TPS w μ x) : IsO w μ (x + 71) 3 := h.2.1 _ (List.mem_of_getElem? (i := 18) rfl)
theorem TPS.o85 {w : WC} {μ : Mem} {x : Nat} (h : TPS w μ x) : IsO w μ (x + 85) 3 := h.2.1 _ (List.mem_of_getElem? (i := 19) rfl)
theorem TPS.o59 {w : WC} {μ : Mem} {x : Nat} (h : TPS w μ x) : IsO w μ (x + 59) 7 := h.2.1 _ (List.mem_of_getElem? (i := 20) rfl)
theorem TPS.a2 {w : WC} {μ : Mem} {x : Nat} (h : TPS w μ x) : IsA w μ (x + 2) 13 800 := h.2.2.1 _ (List.mem_of_getElem? (i := 0) rfl)
theorem TPS.a3 {w : WC} {μ : Mem} {x : Nat} (h : TPS w μ x) : IsA w μ (x + 3) 14 801 := h.2.2.1 _ (List.mem_of_getElem? (i := 1) rfl)
theorem TPS.a4 {w : WC} {μ : Mem} {x : Nat} (h : TPS w μ x) : IsA w μ (x + 4) 14 801 := h.2.2.1 _ (List.mem_of_getElem? (i := 2) rfl)
theorem TPS.a5 {w : WC} {μ : Mem} {x : Nat} (h : TPS w μ x) : IsA w μ (x + 5) 14 801 := h.2.2.1 _ (List.mem_of_getElem? (i := 3) rfl)
theorem TPS.a6 {w : WC} {μ : Mem} {x : Nat} (h : TPS w μ x) : IsA w μ (x + 6) 14 801 := h.2.2.1 _ (List.mem_of_getElem? (i := 4) rfl)
theorem TPS.a7 {w : WC} {μ : Mem} {x : Nat} (h : TPS w μ x) : IsA w μ (x + 7) 17 4 := h.2.2.1 _ (List.mem_of_getElem? (i := 5) rfl)
theorem TPS.a8 {w : WC} {μ : Mem} {x : Nat} (h : TPS w μ x) : IsA w μ (x + 8) 18 4 := h.2.2.1 _ (List.mem_of_getElem? (i := 6) rfl)
theorem TPS.a10 {w : WC} {μ : Mem} {x : Nat} (h : TPS w μ x) : IsA w μ (x + 10) 14 5 := h.2.2.1 _ (List.mem_of_getElem? (i := 7) rfl)
theorem TPS.a11 {w : WC} {μ : Mem} {x : Nat} (h : TPS w μ x) : IsA w μ (x + 11) 14 5 := h.2.2.1 _ (List.mem_of_getElem? (i := 8) rfl)
theorem TPS.a12 {w : WC} {μ : Mem} {x : Nat} (h : TPS w μ x) : IsA w μ (x + 12) 14 5 := h.2.2.1 _ (List.mem_of_getElem? (i := 9) rfl)
theorem TPS.a13 {w : WC} {μ : Mem} {x : Nat} (h : TPS w μ x) : IsA w μ (x + 13) 14 5 := h.2.2.1 _ (List.mem_of_getElem? (i := 10) rfl)
theorem TPS.a14 {w : WC} {μ : Mem} {x : Nat} (h : TPS w μ x) : IsA w μ (x + 14) 14 5 := h.2.2.1 _ (List.mem_of_getElem? (i := 11) rfl)
theorem TPS.a15 {w : WC} {μ : Mem} {x : Nat} (h : TPS w μ x) : IsA w μ (x + 15) 14 5 := h.2.2.1 _ (List.mem_of_getElem? (i := 12) rfl)
theorem TPS.a18 {w : WC} {μ : Mem} {x : Nat} (h : TPS w μ x) : IsA w μ (x + 18) 14 5 := h.2.2.1 _ (List.mem_of_getElem? (i := 13) rfl)
theorem TPS.a19 {w : WC} {μ : Mem} {x : Nat} (h : TPS w μ x) : IsA w μ (x + 19) 14 5 := h.2.2.1 _ (List.mem_of_getElem? (i := 14) rfl)
theorem TPS.a20 {w : WC} {μ : Mem} {x : Nat} (h : TPS w μ x) : IsA w μ (x + 20) 14 5 := h.2.2.1 _ (List.mem_of_getElem? (i := 15) rfl)
theorem TPS.a21 {w : WC} {μ : Mem} {x : Nat} (h : TPS w μ x) : IsA w μ (x + 21) 14 5 := h.2.2.1 _ (List.mem_of_getElem? (i := 16) rfl)
theorem TPS.a22 {w : WC} {μ : Mem} {x : Nat} (h : TPS w μ x) : IsA w μ (x + 22) 14 5 := h.2.2.1 _ (List.mem_of_getElem? (i := 17) rfl)
theorem TPS.a23 {w : WC} {μ : Mem} {x : Nat} (h : TPS w μ x) : IsA w μ (x + 23) 14 5 := h.2.2.1 _ (List.mem_of_getElem? (i := 18) rfl)
theorem TPS.a26 {w : WC} {μ : Mem} {x : Nat} (h : TPS w μ x) : IsA w μ (x + 26) 14 5 := h.2.2.1 _ (List.mem_of_getElem? (i := 19) rfl)
theorem TPS.a27 {w : WC} {μ : Mem} {x : Nat} (h : TPS w μ x) : IsA w μ (x + 27) 14 5 := h.2.2.1 _ (List.mem_of_getElem? (i := 20) rfl)
theorem TPS.a28 {w : WC} {μ : Mem} {x : Nat} (h : TPS w μ x) : IsA w μ (x + 28) 14 5 := h.2.2.1 _ (List.mem_of_getElem? (i := 21) rfl)
theorem TPS.a29 {w : WC} {μ : Mem} {x : Nat} (h : TPS w μ x) : IsA w μ (x + 29) 14 5 := h.2.2.1 _ (List.mem_of_getElem? (i := 22) rfl)
theorem TPS.a30 {w : WC} {μ : Mem} {x : Nat} (h : TPS w μ x) : IsA w μ (x + 30) 14 5 := h.2.2.1 _ (List.mem_of_getElem? (i := 23) rfl)
theorem TPS.a31 {w : WC} {μ : Mem} {x : Nat} (h : TPS w μ x) : IsA w μ (x + 31) 14 5 := h.2.2.1 _ (List.mem_of_getElem? (i := 24) rfl)
theorem TPS.a34 {w : WC} {μ : Mem} {x : Nat} (h : TPS w μ x) : IsA w μ (x + 34) 14 5 := h.2.2.1 _ (List.mem_of_getElem? (i := 25) rfl)
theorem TPS.a35 {w : WC} {μ : Mem} {x : Nat} (h : TPS w μ x) : IsA w μ (x + 35) 14 5 := h.2.2.1 _ (List.mem_of_getElem? (i := 26) rfl)
theorem TPS.a36 {w : WC} {μ : Mem} {x : Nat} (h : TPS w μ x) : IsA w μ (x + 36) 14 5 := h.2.2.1 _ (List.mem_of_getElem? (i := 27) rfl)
theorem TPS.a37 {w : WC} {μ : Mem} {x : Nat} (h : TPS w μ x) : IsA w μ (x + 37) 14 5 := h.2.2.1 _ (List.mem_of_getElem? (i := 28) rfl)
theorem TPS.a38 {w : WC} {μ : Mem} {x : Nat} (h : TPS w μ x) : IsA w μ (x + 38) 14 5 := h.2.2.1 _ (List.mem_of_getElem? (i := 29) rfl)
theorem TPS.a39 {w : WC} {μ : Mem} {x : Nat} (h : TPS w μ x) : IsA w μ (x + 39) 14 5 := h.2.2.1 _ (List.mem_of_getElem? (i := 30) rfl)
theorem TPS.a42 {w : WC} {μ : Mem} {x : Nat} (h : TPS w μ x) : IsA w μ (x + 42) 14 5 := h.2.2.1 _ (List.mem_of_getElem? (i := 31) rfl)
theorem TPS.a43 {w : WC} {μ : Mem} {x : Nat} (h : TPS w μ x) : IsA w μ (x + 43) 14 5 := h.2.2.1 _ (List.mem_of_getElem? (i := 32) rfl)
theorem TPS.a44 {w : WC} {μ : Mem} {x : Nat} (h : TPS w μ x) : IsA w μ (x + 44) 14 5 := h.2.2.1 _ (List.mem_of_getElem? (i := 33) rfl)
theorem TPS.a45 {w : WC} {μ : Mem} {x : Nat} (h : TPS w μ x) : IsA w μ (x + 45) 14 5 := h.2.2.1 _ (List.mem_of_getElem? (i := 34) rfl)
theorem TPS.a46 {w : WC} {μ : Mem} {x : Nat} (h : TPS w μ x) : IsA w μ (x + 46) 14 5 := h.2.2.1 _ (List.mem_of_getElem? (i := 35) rfl)
theorem TPS.a47 {w : WC} {μ : Mem} {x : Nat} (h : TPS w μ x) : IsA w μ (x + 47) 14 5 := h.2.2.1 _ (List.mem_of_getElem? (i := 36) rfl)
theorem TPS.a50 {w : WC} {μ : Mem} {x : Nat} (h : TPS w μ x) : IsA w μ (x + 50) 14 5 := h.2.2.1 _ (List.mem_of_getElem? (i := 37) rfl)
theorem TPS.a51 {w : WC} {μ : Mem} {x : Nat} (h : TPS w μ x) : IsA w μ (x + 51) 14 5 := h.2.2.1 _ (List.mem_of_getElem? (i := 38) rfl)
theorem TPS.a52 {w : WC} {μ : Mem} {x : Nat} (h : TPS w μ x) : IsA w μ (x + 52) 14 5 := h.2.2.1 _ (List.mem_of_getElem? (i := 39) rfl)
theorem TPS.a53 {w : WC} {μ : Mem} {x : Nat} (h : TPS w μ x) : IsA w μ (x + 53) 14 5 := h.2.2.1 _ (List.mem_of_getElem? (i := 40) rfl)
theorem TPS.a54 {w : WC} {μ : Mem} {x : Nat} (h : TPS w μ x) : IsA w μ (x + 54) 14 5 := h.2.2.1 _ (List.mem_of_getElem? (i := 41) rfl)
theorem TPS.a55 {w : WC} {μ : Mem} {x : Nat} (h : TPS w μ x) : IsA w μ (x + 55) 14 5 := h.2.2.1 _ (List.mem_of_getElem? (i := 42) rfl)
theorem TPS.a57 {w : WC} {μ : Mem} {x : Nat} (h : TPS w μ x) : IsA w μ (x + 57) 14 60 := h.2.2.1 _ (List.mem_of_getElem? (i := 43) rfl)
theorem TPS.a63 {w : WC} {μ : Mem} {x : Nat} (h : TPS w μ x) : IsA w μ (x + 63) 15 360 := h.2.2.1 _ (List.mem_of_getElem? (i := 44) rfl)
theorem TPS.a64 {w : WC} {μ : Mem} {x : Nat} (h : TPS w μ x) : IsA w μ (x + 64) 14 60 := h.2.2.1 _ (List.mem_of_getElem? (i := 45) rfl)
theorem TPS.a66 {w : WC} {μ : Mem} {x : Nat} (h : TPS w μ x) : IsA w μ (x + 66) 15 469 := h.2.2.1 _ (List.mem_of_getElem? (i := 46) rfl)
theorem TPS.a67 {w : WC} {μ : Mem} {x : Nat} (h : TPS w μ x) : IsA w μ (x + 67) 15 469 := h.2.2.1 _ (List.mem_of_getElem? (i := 47) rfl)
theorem TPS.a69 {w : WC} {μ : Mem} {x : Nat} (h : TPS w μ x) : IsA w μ (x + 69) 13 2400 := h.2.2.1 _ (List.mem_of_getElem? (i := 48) rfl)
theorem TPS.a70 {w : WC} {μ : Mem} {x : Nat} (h : TPS w μ x) : IsA w μ (x + 70) 14 5 := h.2.2.1 _ (List.mem_of_getElem? (i := 49) rfl)
theorem TPS.a72 {w : WC} {μ : Mem} {x : Nat} (h : TPS w μ x) : IsA w μ (x + 72) 14 200 := h.2.2.1 _ (List.mem_of_getElem? (i := 50) rfl)
theorem TPS.a73 {w : WC} {μ : Mem} {x : Nat} (h : TPS w μ x) : IsA w μ (x + 73) 14 200 := h.2.2.1 _ (List.mem_of_getElem? (i := 51) rfl)
theorem TPS.a74 {w : WC} {μ : Mem} {x : Nat} (h : TPS w μ x) : IsA w μ (x + 74) 14 200 := h.2.2.1 _ (List.mem_of_getElem? (i := 52) rfl)
theorem TPS.a75 {w : WC} {μ : Mem} {x : Nat} (h : TPS w μ x) : IsA w μ (x + 75) 14 200 := h.2.2.1 _ (List.mem_of_getElem? (i := 53) rfl)
theorem TPS.a76 {w : WC} {μ : Mem} {x : Nat} (h : TPS w μ x) : IsA w μ (x + 76) 14 200 := h.2.2.1 _ (List.mem_of_getElem? (i := 54) rfl)
theorem TPS.a77 {w : WC} {μ : Mem} {x : Nat} (h : TPS w μ x) : IsA w μ (x + 77) 15 200 := h.2.2.1 _ (List.mem_of_getElem? (i := 55) rfl)
theorem TPS.a78 {w : WC} {μ : Mem} {x : Nat} (h : TPS w μ x) : IsA w μ (x + 78) 16 200 := h.2.2.1 _ (List.mem_of_getElem? (i := 56) rfl)
theorem TPS.a79 {w : WC} {μ : Mem} {x : Nat} (h : TPS w μ x) : IsA w μ (x + 79) 14 200 := h.2.2.1 _ (List.mem_of_getElem? (i := 57) rfl)
theorem TPS.a80 {w : WC} {μ : Mem} {x : Nat} (h : TPS w μ x) : IsA w μ (x + 80) 14 6 := h.2.2.1 _ (List.mem_of_getElem? (i := 58) rfl)
theorem TPS.a81 {w : WC} {μ : Mem} {x : Nat} (h : TPS w μ x) : IsA w μ (x + 81) 14 4 := h.2.2.1 _ (List.mem_of_getElem? (i := 59) rfl)
theorem TPS.a82 {w : WC} {μ : Mem} {x : Nat} (h : TPS w μ x) : IsA w μ (x + 82) 14 24 := h.2.2.1 _ (List.mem_of_getElem? (i := 60) rfl)
theorem TPS.a83 {w : WC} {μ : Mem} {x : Nat} (h : TPS w μ x) : IsA w μ (x + 83) 16 4 := h.2.2.1 _ (List.mem_of_getElem? (i := 61) rfl)
theorem TPS.a84 {w : WC} {μ : Mem} {x : Nat} (h : TPS w μ x) : IsA w μ (x + 84) 16 4 := h.2.2.1 _ (List.mem_of_getElem? (i := 62) rfl)
theorem TPS.a86 {w : WC} {μ : Mem} {x : Nat} (h : TPS w μ x) : IsA w μ (x + 86) 14 200 := h.2.2.1 _ (List.mem_of_getElem? (i := 63) rfl)
theorem TPS.a87 {w : WC} {μ : Mem} {x : Nat} (h : TPS w μ x) : IsA w μ (x + 87) 14 200 := h.2.2.1 _ (List.mem_of_getElem? (i := 64) rfl)
theorem TPS.a88 {w : WC} {μ : Mem} {x : Nat} (h : TPS w μ x) : IsA w μ (x + 88) 14 200 := h.2.2.1 _ (List.mem_of_getElem? (i := 65) rfl)
theorem TPS.a89 {w : WC} {μ : Mem} {x : Nat} (h : TPS w μ x) : IsA w μ (x + 89) 14 200 := h.2.2.1 _ (List.mem_of_getElem? (i := 66) rfl)
theorem TPS.a90 {w : WC} {μ : Mem} {x : Nat} (h : TPS w μ x) : IsA w μ (x + 90) 14 200 := h.2.2.1 _ (List.mem_of_getElem? (i := 67) rfl)
theorem TPS.a91 {w : WC} {μ : Mem} {x : Nat} (h : TPS w μ x) : IsA w μ (x + 91) 15 200 := h.2.2.1 _ (List.mem_of_getElem? (i := 68) rfl)
theorem TPS.a92 {w : WC} {μ : Mem} {x : Nat} (h : TPS w μ x) : IsA w μ (x + 92) 16 200 := h.2.2.1 _ (List.mem_of_getElem? (i := 69) rfl)
theorem TPS.a93 {w : WC} {μ : Mem} {x : Nat} (h : TPS w μ x) : IsA w μ (x + 93) 14 200 := h.2.2.1 _ (List.mem_of_getElem? (i := 70) rfl)
theorem TPS.a94 {w : WC} {μ : Mem} {x : Nat} (h : TPS w μ x) : IsA w μ (x + 94) 14 6 := h.2.2.1 _ (List.mem_of_getElem? (i := 71) rfl)
theorem TPS.a95 {w : WC} {μ : Mem} {x : Nat} (h : TPS w μ x) : IsA w μ (x + 95) 14 4 := h.2.2.1 _ (List.mem_of_getElem? (i := 72) rfl)
theorem TPS.a96 {w : WC} {μ : Mem} {x : Nat} (h : TPS w μ x) : IsA w μ (x + 96) 14 24 := h.2.2.1 _ (List.mem_of_getElem? (i := 73) rfl)
theorem TPS.a97 {w : WC} {μ : Mem} {x : Nat} (h : TPS w μ x) : IsA w μ (x + 97) 16 4 := h.2.2.1 _ (List.mem_of_getElem? (i := 74) rfl)
theorem TPS.a98 {w : WC} {μ : Mem} {x : Nat} (h : TPS w μ x) : IsA w μ (x + 98) 16 4 := h.2.2.1 _ (List.mem_of_getElem? (i := 75) rfl)
theorem TPS.a60 {w : WC} {μ : Mem} {x : Nat} (h : TPS w μ x) : IsA w μ (x + 60) 14 6 := h.2.2.1 _ (List.mem_of_getElem? (i := 76) rfl)
theorem TPS.f9 {w : WC} {μ : Mem} {x : Nat} (h : TPS w μ x) : FoS w μ (x + 9) := ⟨h.o9, ⟨h.r9_1, h.r9_2, h.r9_3, h.r9_4, h.r9_5, h.r9_6⟩, h.a10, h.a11, h.a12, h.a13, h.a14, h.a15⟩
theorem TPS.f17 {w : WC} {μ : Mem} {x : Nat} (h : TPS w μ x) : FoS w μ (x + 17) := ⟨h.o17, ⟨h.r17_1, h.r17_2, h.r17_3, h.r17_4, h.r17_5, h.r17_6⟩, h.a18, h.a19, h.a20, h.a21, h.a22, h.a23⟩
theorem TPS.f25 {w : WC} {μ : Mem} {x : Nat} (h : TPS w μ x) : FoS w μ (x + 25) := ⟨h.o25, ⟨h.r25_1, h.r25_2, h.r25_3, h.r25_4, h.r25_5, h.r25_6⟩, h.a26, h.a27, h.a28, h.a29, h.a30, h.a31⟩
theorem TPS.f33 {w : WC} {μ : Mem} {x : Nat} (h : TPS w μ x) : FoS w μ (x + 33) := ⟨h.o33, ⟨h.r33_1, h.r33_2, h.r33_3, h.r33_4, h.r33_5, h.r33_6⟩, h.a34, h.a35, h.a36, h.a37, h.a38, h.a39⟩
theorem TPS.f41 {w : WC} {μ : Mem} {x : Nat} (h : TPS w μ x) : FoS w μ (x + 41) := ⟨h.o41, ⟨h.r41_1, h.r41_2, h.r41_3, h.r41_4, h.r41_5, h.r41_6⟩, h.a42, h.a43, h.a44, h.a45, h.a46, h.a47⟩
theorem TPS.f49 {w : WC} {μ : Mem} {x : Nat} (h : TPS w μ x) : FoS w μ (x + 49) := ⟨h.o49, ⟨h.r49_1, h.r49_2, h.r49_3, h.r49_4, h.r49_5, h.r49_6⟩, h.a50, h.a51, h.a52, h.a53, h.a54, h.a55⟩
/-- the Form, the Tally of a slot -/
def fA (x : Nat) (s : Int) : Nat := x + 9 + 8 * s.toNat
def tA (x : Nat) (s : Int) : Nat := x + 16 + 8 * s.toNat
theorem slot4 {s : Int} (hs : 0 ≤ s ∧ s ≤ 3) : s = 0 ∨ s = 1 ∨ s = 2 ∨ s = 3 := by omega
theorem TPS.rf {w : WC} {μ : Mem} {x : Nat} (h : TPS w μ x) {s : Int} (hs : 0 ≤ s ∧ s ≤ 3) : mR μ (x + 7) s = some (fA x s) := by
  rcases slot4 hs with rfl | rfl | rfl | rfl
  · exact h.r7_0
  · exact h.r7_1
  · exact h.r7_2
  · exact h.r7_3
theorem TPS.rt {w : WC} {μ : Mem} {x : Nat} (h : TPS w μ x) {s : Int} (hs : 0 ≤ s ∧ s ≤ 3) : mR μ (x + 8) s = some (tA x s) := by
  rcases slot4 hs with rfl | rfl | rfl | rfl
  · exact h.r8_0
  · exact h.r8_1
  · exact h.r8_2
  · exact h.r8_3
theorem TPS.fs {w : WC} {μ : Mem} {x : Nat} (h : TPS w μ x) {s : Int} (hs : 0 ≤ s ∧ s ≤ 3) : FoS w μ (fA x s) := by
  rcases slot4 hs with rfl | rfl | rfl | rfl
  · exact h.f9
  · exact h.f17
  · exact h.f25
  · exact h.f33
theorem TPS.ot {w : WC} {μ : Mem} {x : Nat} (h : TPS w μ x) {s : Int} (hs : 0 ≤ s ∧ s ≤ 3) : IsO w μ (tA x s) 9 := by
  rcases slot4 hs with rfl | rfl | rfl | rfl
  · exact h.o16
  · exact h.o24
  · exact h.o32
  · exact h.o40
theorem fA_bd (x : Nat) {s : Int} (hs : 0 ≤ s ∧ s ≤ 3) : x + 9 ≤ fA x s ∧ fA x s + 7 = tA x s ∧ tA x s ≤ x + 40 := by
  unfold fA tA
  omega
theorem fA_ne (x : Nat) {s t : Int} (hs : 0 ≤ s ∧ s ≤ 3) (ht : 0 ≤ t ∧ t ≤ 3) (h : ¬ s = t) : fA x s + 8 ≤ fA x t ∨ fA x t + 8 ≤ fA x s := by
  unfold fA
  omega
