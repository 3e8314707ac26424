theorem Met.post {l : Launch} {y : MethodName} {ws : List Cond} {rm : Room} {Pc : Array Value → State → Prop} {Qc Qd : Array Value → State → Outcome → State → Prop} {mc ms : Nat} {free : Addr → Prop} (h : Met l y ws rm Pc Qc mc ms free) (hq : ∀ a s o t, Qc a s o t → Qd a s o t) : Met l y ws rm Pc Qd mc ms free := by
  intro p e h1 h2 h3 s m args below h4 h5 h6 h7
  obtain ⟨n, o, a1, a2, a3, a4, a5⟩ := h p e h1 h2 h3 s m args below h4 h5 h6 h7
  exact ⟨n, o, a1, a2, a3, hq _ _ _ _ a4, a5⟩
theorem Con.post {w : WC} {d : Nat} {y : MD} {bc bs : Nat} {as : List AV} {μ : Mem} {R R2 : Option AV → Mem → Prop} (h : Con w d y bc bs as μ R) (hR : ∀ v μ2, R v μ2 → R2 v μ2) : Con w d y bc bs as μ R2 := fun l => (h l).post fun a s o t q => ⟨by
  obtain ⟨⟨v, μ2, h1, h2, h3⟩, -⟩ := q
  exact ⟨v, μ2, h1, hR v μ2 h2, h3⟩, q.2⟩
/-! WHAT A MEMORY KEEPS, WITH NEW CELLS -/
/-- of the old cells only P's may hold something else; kinds stay -/
def Ch (P : Nat → Prop) (μ μ2 : Mem) : Prop := mZ μ ≤ mZ μ2 ∧ (∀ x, x < mZ μ → mS μ2 x = mS μ x) ∧ ∀ x, x < mZ μ → ¬ P x → (∀ j, mI μ2 x j = mI μ x j) ∧ (∀ j, mL μ2 x j = mL μ x j) ∧ ∀ j, mR μ2 x j = mR μ x j
theorem Ch.rf {P : Nat → Prop} {μ : Mem} : Ch P μ μ := ⟨Nat.le_refl _, fun _ _ => rfl, fun _ _ _ => ⟨fun _ => rfl, fun _ => rfl, fun _ => rfl⟩⟩
theorem Ch.tr {P : Nat → Prop} {μ μ2 μ3 : Mem} (h : Ch P μ μ2) (h2 : Ch P μ2 μ3) : Ch P μ μ3 := ⟨Nat.le_trans h.1 h2.1, fun x hx => (h2.2.1 x (Nat.lt_of_lt_of_le hx h.1)).trans (h.2.1 x hx), fun x hx hP => by
  obtain ⟨a1, a2, a3⟩ := h.2.2 x hx hP
  obtain ⟨b1, b2, b3⟩ := h2.2.2 x (Nat.lt_of_lt_of_le hx h.1) hP
  exact ⟨fun j => (b1 j).trans (a1 j), fun j => (b2 j).trans (a2 j), fun j => (b3 j).trans (a3 j)⟩⟩
theorem Ch.tr2 {P P2 : Nat → Prop} {μ μ2 μ3 : Mem} (h : Ch P μ μ2) (h2 : Ch P2 μ2 μ3) (hP : ∀ x, x < mZ μ → P2 x → P x) : Ch P μ μ3 := ⟨Nat.le_trans h.1 h2.1, fun x hx => (h2.2.1 x (Nat.lt_of_lt_of_le hx h.1)).trans (h.2.1 x hx), fun x hx hq => by
  obtain ⟨a1, a2, a3⟩ := h.2.2 x hx hq
  obtain ⟨b1, b2, b3⟩ := h2.2.2 x (Nat.lt_of_lt_of_le hx h.1) (fun z => hq (hP x hx z))
  exact ⟨fun j => (b1 j).trans (a1 j), fun j => (b2 j).trans (a2 j), fun j => (b3 j).trans (a3 j)⟩⟩
theorem Ch.mono {P P2 : Nat → Prop} {μ μ2 : Mem} (h : Ch P μ μ2) (hP : ∀ x, x < mZ μ → P x → P2 x) : Ch P2 μ μ2 := ⟨h.1, h.2.1, fun x hx q => h.2.2 x hx fun z => q (hP x hx z)⟩
theorem Ch.I {P : Nat → Prop} {μ μ2 : Mem} (h : ChI P μ μ2) : Ch P μ μ2 := ⟨Nat.le_of_eq h.2.2.2.1.symm, fun x _ => by rw [h.2.2.1], fun x _ hP => ⟨h.2.2.2.2 x hP, fun j => by rw [h.1], fun j => by rw [h.2.1]⟩⟩
theorem Ch.O {P : Nat → Prop} {μ μ2 : Mem} (h : Ch P μ μ2) {w : WC} {x c : Nat} (ho : IsO w μ x c) : IsO w μ2 x c := ⟨ho.1, Nat.lt_of_lt_of_le ho.2.1 h.1, by rw [h.2.1 x ho.2.1]; exact ho.2.2⟩
theorem Ch.A {P : Nat → Prop} {μ μ2 : Mem} (h : Ch P μ μ2) {w : WC} {x t n : Nat} (ho : IsA w μ x t n) : IsA w μ2 x t n := ⟨ho.1, Nat.lt_of_lt_of_le ho.2.1 h.1, by rw [h.2.1 x ho.2.1]; exact ho.2.2.1, ho.2.2.2⟩
theorem Ch.Fo {P : Nat → Prop} {μ μ2 : Mem} (h : Ch P μ μ2) {w : WC} {q : Nat} (hq : ¬ P q) (hF : FoS w μ q) : FoS w μ2 q := by
  obtain ⟨o0, ⟨r1, r2, r3, r4, r5, r6⟩, a1, a2, a3, a4, a5, a6⟩ := hF
  have e := (h.2.2 q o0.2.1 hq).2.2
  exact ⟨h.O o0, by simp only [e]; exact ⟨r1, r2, r3, r4, r5, r6⟩, h.A a1, h.A a2, h.A a3, h.A a4, h.A a5, h.A a6⟩
theorem Ch.FI {P : Nat → Prop} {μ μ2 : Mem} (h : Ch P μ μ2) {w : WC} {q : Nat} {ts : List Tm} (hF : FoS w μ q) (hq : ∀ x, q ≤ x → x < q + 7 → ¬ P x) (hI : FI μ q ts) : FI μ2 q ts := by
  obtain ⟨o0, -, a1, a2, a3, a4, a5, a6⟩ := hF
  have e0 := (h.2.2 q o0.2.1 (hq _ (by omega) (by omega))).1
  have e1 := (h.2.2 (q + 1) a1.2.1 (hq _ (by omega) (by omega))).1
  have e2 := (h.2.2 (q + 2) a2.2.1 (hq _ (by omega) (by omega))).1
  have e3 := (h.2.2 (q + 3) a3.2.1 (hq _ (by omega) (by omega))).1
  have e4 := (h.2.2 (q + 4) a4.2.1 (hq _ (by omega) (by omega))).1
  have e5 := (h.2.2 (q + 5) a5.2.1 (hq _ (by omega) (by omega))).1
  have e6 := (h.2.2 (q + 6) a6.2.1 (hq _ (by omega) (by omega))).1
  obtain ⟨h1, h2, h3, h4⟩ := hI
  refine ⟨(e0 0).trans h1, h2, h3, fun i u hu => ?_⟩
  obtain ⟨g1, g2, g3, g4, g5, g6⟩ := h4 i u hu
  exact ⟨(e1 _).trans g1, (e2 _).trans g2, (e3 _).trans g3, (e4 _).trans g4, (e5 _).trans g5, (e6 _).trans g6⟩
theorem Ch.sI {P : Nat → Prop} {μ : Mem} {a : Nat} {k v : Int} (ha : P a) : Ch P μ (sI μ a k v) := Ch.I (ChI.s ha)
theorem Ch.wI' {P : Nat → Prop} {μ : Mem} {a : Nat} {g : Int → Int} (ha : P a) : Ch P μ (wI μ a g) := ⟨Nat.le_refl _, fun _ _ => rfl, fun x _ hP => ⟨fun j => by rw [mI_wI, if_neg (fun (q : x = a) => hP (q ▸ ha))], fun _ => rfl, fun _ => rfl⟩⟩
theorem Ch.wL' {P : Nat → Prop} {μ : Mem} {a : Nat} {g : Int → Int} (ha : P a) : Ch P μ (wL μ a g) := ⟨Nat.le_refl _, fun _ _ => rfl, fun x _ hP => ⟨fun _ => rfl, fun j => by rw [mL_wL, if_neg (fun (q : x = a) => hP (q ▸ ha))], fun _ => rfl⟩⟩
theorem Ch.sR' {P : Nat → Prop} {μ : Mem} {a : Nat} {k : Int} {v : Option Nat} (ha : P a) : Ch P μ (sR μ a k v) := ⟨Nat.le_refl _, fun _ _ => rfl, fun x _ hP => ⟨fun _ => rfl, fun _ => rfl, fun j => by rw [mR_sR, if_neg (fun (q : x = a ∧ j = k) => hP (q.1 ▸ ha))]⟩⟩
theorem mI_sN {μ : Mem} {t n x : Nat} (h : x < mZ μ) (j : Int) : mI (sN μ t n) x j = mI μ x j := by
  show (if x = mZ μ then 0 else μ.1 x j) = _
  rw [if_neg (by omega)]
  rfl
theorem mL_sN {μ : Mem} {t n x : Nat} (h : x < mZ μ) (j : Int) : mL (sN μ t n) x j = mL μ x j := by
  show (if x = mZ μ then 0 else μ.2.1 x j) = _
  rw [if_neg (by omega)]
  rfl
theorem mR_sN {μ : Mem} {t n x : Nat} (h : x < mZ μ) (j : Int) : mR (sN μ t n) x j = mR μ x j := by
  show (if x = mZ μ then none else μ.2.2.1 x j) = _
  rw [if_neg (by omega)]
  rfl
theorem Ch.sN' {P : Nat → Prop} {μ : Mem} {t n : Nat} : Ch P μ (sN μ t n) := ⟨by rw [mZ_sN]; omega, fun x hx => mS_sN_ne (by omega), fun x hx _ => ⟨mI_sN hx, mL_sN hx, mR_sN hx⟩⟩
theorem IsA_new {w : WC} {μ : Mem} {t n : Nat} (hB : wB w ≤ mZ μ) (hn : n ≤ 2147483647) : IsA w (sN μ t n) (mZ μ) t n := ⟨hB, by rw [mZ_sN]; omega, mS_sN_self μ t n, hn⟩
/-! SERIES: countWays, whole -/
/-- the row of coefficients behind: the old one, or a longer one -/
def Row2 (μ μ2 : Mem) (c N : Nat) (e : Int) (c2 N2 : Nat) : Prop := (c2 = c ∧ N2 = N ∧ mZ μ2 = mZ μ) ∨ ((N : Int) < e ∧ c2 = mZ μ ∧ N2 = mkN N e ∧ mZ μ2 = mZ μ + 1)
theorem c_makeRows2 (w : WC) (d : Nat) (μ : Mem) {s c N : Nat} (hS : SeS w μ s c N) {r e T : Int} (eT : mI μ s 3 = T) (hT : i32 T) (he : r * (T + 1) = e) (hB : 0 ≤ T → 0 ≤ e ∧ e ≤ 200000) (hN : N ≤ 200000) : Con w (d + 1) mX7_makeRows 1 (if 0 ≤ T ∧ N < e then mkN N e else 0) [vP (some s), vI r] μ (fun v μ2 => ∃ (b : Int) (c2 N2 : Nat), v = some (vI b) ∧ ((b = 0 ∧ T < 0 ∧ N2 = N) ∨ (b = 1 ∧ 0 ≤ T ∧ e ≤ N2)) ∧ SeS w μ2 s c2 N2 ∧ Row2 μ μ2 c N e c2 N2 ∧ Ch (fun x => x = s) μ μ2 ∧ (∀ x, x < mZ μ → ∀ j, mI μ2 x j = mI μ x j)) := by
  subst eT
  refine (c_makeRows w d μ hS hT he hB hN).post fun v μ2 hR => ?_
  have hS0 := hS
  obtain ⟨o0, r0, r1, a1, a2⟩ := hS
  rcases hR with ⟨h1, rfl, rfl⟩ | ⟨h1, h2, rfl, rfl⟩ | ⟨h1, h2, rfl, rfl⟩
  · exact ⟨0, c, N, rfl, Or.inl ⟨rfl, h1, rfl⟩, hS0, Or.inl ⟨rfl, rfl, rfl⟩, Ch.rf, fun _ _ _ => rfl⟩
  · exact ⟨1, c, N, rfl, Or.inr ⟨rfl, h1, h2⟩, hS0, Or.inl ⟨rfl, rfl, rfl⟩, Ch.rf, fun _ _ _ => rfl⟩
  · have hb := hB h1
    have hk : ((mkN N e : Nat) : Int) = max e (min (2 * N) 108006) := by rw [mkN, Int.toNat_of_nonneg (by omega)]
    have hc : Ch (fun x => x = s) μ (sR (sN μ 15 (mkN N e)) s 1 (some (mZ μ))) := Ch.sN'.tr (Ch.sR' rfl)
    refine ⟨1, mZ μ, mkN N e, rfl, Or.inr ⟨rfl, h1, by omega⟩, ⟨hc.O o0, ?_, ?_, hc.A a1, ?_⟩, Or.inr ⟨h2, rfl, rfl, rfl⟩, hc, fun x hx j => ?_⟩
    · rw [mR_sR, if_neg (by omega), mR_sN o0.2.1]
      exact r0
    · rw [mR_sR, if_pos ⟨rfl, rfl⟩]
    · exact IsA_new (by have := o0.1; have := o0.2.1; omega) (by omega)
    · rw [mI_sR, mI_sN hx]
