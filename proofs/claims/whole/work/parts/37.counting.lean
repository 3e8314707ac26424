/-! THE CLASS: FORMS AND COUNTING, THE INVARIANT -/
/-- the rows of Tallies: ways of slot j, unlike ways of slot j - 4 -/
def DR (μ : Mem) (x j : Nat) : Option Nat := mR μ (x + 16 + 8 * (j % 4)) ((j / 4 : Nat) : Int)
theorem DR_w (μ : Mem) (x : Nat) {s : Int} (hs : 0 ≤ s ∧ s ≤ 3) : mR μ (tA x s) 0 = DR μ x s.toNat := by
  rcases slot4 hs with rfl | rfl | rfl | rfl <;> rfl
theorem DR_u (μ : Mem) (x : Nat) {s : Int} (hs : 0 ≤ s ∧ s ≤ 3) : mR μ (tA x s) 1 = DR μ x (4 + s.toNat) := by
  rcases slot4 hs with rfl | rfl | rfl | rfl <;> rfl
/-- how long the row of coefficients is behind a count -/
def nxN (N : Nat) (ts : List Tm) : Nat := if 0 ≤ 3000 - lfT ts ∧ (N : Int) < cwE ts then mkN N (cwE ts) else N
def FmOk (μ : Mem) (x : Nat) (F : Int → List Tm) : Prop := ∀ s, 0 ≤ s ∧ s ≤ 3 → FI μ (fA x s) (F s)
def SrOk (w : WC) (μ : Mem) (x : Nat) (F : Int → List Tm) (c N : Nat) : Prop := SeS w μ (x + 59) c N ∧ N ≤ 108006 ∧ (c = x + 61 ∨ x + 120 ≤ c) ∧ (-1 ≤ mI μ (x + 59) 2 ∧ mI μ (x + 59) 2 ≤ 3) ∧ (0 ≤ mI μ (x + 59) 2 → SeW w μ (x + 59) c N (F (mI μ (x + 59) 2)))
def DyOk (w : WC) (μ : Mem) (x c : Nat) : Prop := (∀ j, j < 8 → ∀ a, DR μ x j = some a → IsA w μ a 15 6001 ∧ x + 120 ≤ a ∧ ¬ a = c) ∧ ∀ j k a, j < 8 → k < 8 → DR μ x j = some a → DR μ x k = some a → j = k
def KnOk (μ : Mem) (x : Nat) (F : Int → List Tm) (N : Nat) : Prop := ∀ s, 0 ≤ s ∧ s ≤ 3 → ((mI μ (tA x s) 2 = 0 ∨ mI μ (tA x s) 2 = 1) ∧ (mI μ (tA x s) 2 = 1 → (0 ≤ 3000 - lfT (F s) → cwE (F s) ≤ N) ∧ ∃ a, mR μ (tA x s) 0 = some a ∧ RowW μ a (F s))) ∧ ((mI μ (tA x s) 3 = 0 ∨ mI μ (tA x s) 3 = 1) ∧ (mI μ (tA x s) 3 = 1 → (0 ≤ 3000 - lfT (F s) → cwE (F s) ≤ N) ∧ ∃ a, mR μ (tA x s) 1 = some a ∧ RowU μ a (F s)))
def CA (w : WC) (μ : Mem) (x : Nat) (F : Int → List Tm) (c N : Nat) : Prop := TPS w μ x ∧ FmOk μ x F ∧ SrOk w μ x F c N ∧ DyOk w μ x c ∧ KnOk μ x F N
/-- cells of the Series; and of Tallies -/
def Sc (x a : Nat) : Prop := (x + 59 ≤ a ∧ a ≤ x + 61) ∨ x + 120 ≤ a
def Tc (x a : Nat) : Prop := Sc x a ∨ a = x + 16 ∨ a = x + 24 ∨ a = x + 32 ∨ a = x + 40
def Ks (x a : Nat) (_ : Int) : Prop := Sc x a
theorem Ks_Kc {x a : Nat} {j : Int} (h : Ks x a j) : Kc x a j := by
  unfold Ks Sc at h
  unfold Kc
  omega
theorem Tc_t (x : Nat) {s : Int} (hs : 0 ≤ s ∧ s ≤ 3) : Tc x (tA x s) ∧ ∀ j, Kc x (tA x s) j := by
  unfold Tc Kc tA
  exact ⟨by omega, fun j => by omega⟩
section CAT
variable {w : WC} {μ μ2 : Mem} {x c N : Nat} {F : Int → List Tm} {P : Nat → Prop} {K : Nat → Int → Prop}
theorem CA.tps (h : CA w μ x F c N) : TPS w μ x := h.1
theorem CA.fm (h : CA w μ x F c N) {s : Int} (hs : 0 ≤ s ∧ s ≤ 3) : FI μ (fA x s) (F s) := h.2.1 s hs
theorem CA.ok (h : CA w μ x F c N) {s : Int} (hs : 0 ≤ s ∧ s ≤ 3) : ∀ u ∈ F s, TOk u := (h.2.1 s hs).2.2.1
theorem CA.l5 (h : CA w μ x F c N) {s : Int} (hs : 0 ≤ s ∧ s ≤ 3) : (F s).length ≤ 5 := (h.2.1 s hs).2.1
theorem CA.se (h : CA w μ x F c N) {s : Int} (hs : 0 ≤ s) (ho : mI μ (x + 59) 2 = s) : SeW w μ (x + 59) c N (F s) := by
  have := h.2.2.1.2.2.2.2
  rw [ho] at this
  exact this hs
theorem dr_lt (h : TPS w μ x) (j : Nat) : x + 16 + 8 * (j % 4) < mZ μ := by
  have := h.2.2.2.2
  omega
/-- nothing of forms and counting is touched -/
theorem CA.fr (h : CA w μ x F c N) (hf : Fr P K μ μ2) (hP : ∀ a, P a → (x + 41 ≤ a ∧ a ≤ x + 58) ∨ (x + 62 ≤ a ∧ a < x + 120) ∨ a < x + 7) (hK : ∀ a j, K a j → Kx x a j ∧ (x + 62 ≤ a ∧ a < x + 120 ∨ x + 41 ≤ a ∧ a ≤ x + 58 ∨ a < x + 7)) : CA w μ2 x F c N := by
  obtain ⟨hT, hF, ⟨s1, s2, s3, s4, s5⟩, ⟨d1, d2⟩, hKn⟩ := h
  have hz := hT.2.2.2.2
  have kT : ∀ a j, a < x + 99 → K a j → Kx x a j := fun a j _ z => (hK a j z).1
  have hc : ¬ P c := fun z => by have := hP _ z; omega
  have h0 : ¬ P (x + 59) := fun z => by have := hP _ z; omega
  have h1 : ¬ P (x + 59 + 1) := fun z => by have := hP _ z; omega
  have hk : ∀ j, ¬ K (x + 59) j := fun j z => by have := (hK _ _ z).2; omega
  have hD : ∀ j, DR μ2 x j = DR μ x j := fun j => hf.R (dr_lt hT j) fun z => by have := (hK _ _ z).2; omega
  have hB : ∀ a, x + 120 ≤ a → ¬ P a := fun a z q => by have := hP a q; omega
  have ho : mI μ2 (x + 59) 2 = mI μ (x + 59) 2 := hf.I (by omega) h0 2
  refine ⟨hT.fr hf kT, fun s hs => ?_, ⟨hf.Se hk s1, s2, s3, by rw [ho]; exact s4, ?_⟩, ⟨fun j hj a ha => ?_, fun j k a hj hk ha hb => ?_⟩, fun s hs => ?_⟩
  · have := fA_bd x hs
    exact hf.FI (hT.fs hs) (fun a z1 z2 z => by have := hP a z; omega) (hF s hs)
  · rw [ho]
    exact fun z => hf.SeWd hk h0 h1 hc (s5 z)
  · rw [hD] at ha
    exact ⟨hf.A (d1 j hj a ha).1, (d1 j hj a ha).2⟩
  · rw [hD] at ha hb
    exact d2 j k a hj hk ha hb
  · have hb := fA_bd x hs
    have ht : ¬ P (tA x s) := fun z => by have := hP _ z; omega
    have e2 := hf.I (x := tA x s) (by omega) ht
    have er0 : mR μ2 (tA x s) 0 = mR μ (tA x s) 0 := by rw [DR_w _ _ hs, DR_w _ _ hs, hD]
    have er1 : mR μ2 (tA x s) 1 = mR μ (tA x s) 1 := by rw [DR_u _ _ hs, DR_u _ _ hs, hD]
    obtain ⟨⟨k1, k2⟩, k3, k4⟩ := hKn s hs
    refine ⟨⟨by rw [e2]; exact k1, ?_⟩, by rw [e2]; exact k3, ?_⟩
    · rw [e2, er0]
      intro z
      obtain ⟨q1, a, q2, q3⟩ := k2 z
      have qa := d1 s.toNat (by omega) a (by rw [← DR_w _ _ hs]; exact q2)
      exact ⟨q1, a, q2, fun n z1 z2 => by rw [hf.L qa.1.2.1 (hB a qa.2.1)]; exact q3 n z1 z2⟩
    · rw [e2, er1]
      intro z
      obtain ⟨q1, a, q2, q3⟩ := k4 z
      have qa := d1 (4 + s.toNat) (by omega) a (by rw [← DR_u _ _ hs]; exact q2)
      exact ⟨q1, a, q2, fun n z1 z2 => by rw [hf.L qa.1.2.1 (hB a qa.2.1)]; exact q3 n z1 z2⟩
theorem cwE_neg {ts : List Tm} (h : 3000 - lfT ts < 0) : cwE ts ≤ 0 := by
  unfold cwE
  exact Int.mul_nonpos_of_nonneg_of_nonpos (by omega) (by omega)
theorem nxN_ge (N : Nat) (ts : List Tm) : N ≤ nxN N ts := by
  unfold nxN
  split
  · next h =>
    unfold mkN
    omega
  · exact Nat.le_refl _
theorem nxN_of {N : Nat} {ts : List Tm} (h : 0 ≤ 3000 - lfT ts → cwE ts ≤ N) : nxN N ts = N := by
  unfold nxN
  rw [if_neg (fun z => by have := h z.1; omega)]
theorem cwB_of {N : Nat} {ts : List Tm} (h : 0 ≤ 3000 - lfT ts → cwE ts ≤ N) : cwB N ts = 0 := by
  unfold cwB
  rw [if_neg (fun z => by have := h z.1; omega)]
theorem CA.cw (h : CA w μ x F c N) {s : Int} (hs : 0 ≤ s ∧ s ≤ 3) (hR : CwR w μ (x + 59) c N (fA x s) (F s) s μ2) : ∃ c2, CA w μ2 x F c2 (nxN N (F s)) ∧ mI μ2 (x + 59) 2 = s ∧ Fr (Sc x) (Ks x) μ μ2 := by
  have hok := h.ok hs
  have h5 := h.l5 hs
  obtain ⟨hT, hF, ⟨s1, s2, s3, s4, s5⟩, ⟨d1, d2⟩, hKn⟩ := h
  have hz := hT.2.2.2.2
  obtain ⟨c2, N2, hW, ho, hrow, hN2, hch⟩ := hR
  have hfr1 : Fr (fun a => a = x + 59 ∨ a = x + 59 + 1 ∨ a = c) (fun a _ => a = x + 59 ∨ a = x + 59 + 1 ∨ a = c) μ μ2 := Fr.of hch (fun _ _ z _ => z)
  have hfr : Fr (Sc x) (Ks x) μ μ2 := hfr1.mono (fun a _ z => by unfold Sc; omega) (fun a _ j z => by unfold Ks Sc; omega)
  have hE := cwE_bd hok h5
  have hNe : N2 = nxN N (F s) := by
    unfold nxN
    by_cases hT0 : 0 ≤ 3000 - lfT (F s)
    · have hg : cwE (F s) ≤ N2 := (hW.2.2.2 hT0).1
      by_cases hlt : (N : Int) < cwE (F s)
      · rw [if_pos ⟨hT0, hlt⟩]
        rcases hrow with ⟨-, z, -⟩ | ⟨-, -, z, -⟩
        · omega
        · exact z
      · rw [if_neg (fun z => hlt z.2)]
        rcases hrow with ⟨-, z, -⟩ | ⟨z, -⟩
        · exact z
        · omega
    · rw [if_neg (fun z => hT0 z.1)]
      have := cwE_neg (ts := F s) (by omega)
      rcases hrow with ⟨-, z, -⟩ | ⟨z, -⟩
      · exact z
      · omega
  have hN6 : N2 ≤ 108006 := by
    rcases hrow with ⟨-, z, -⟩ | ⟨z0, -, z, -⟩
    · omega
    · by_cases hT0 : 0 ≤ 3000 - lfT (F s)
      · have := hE hT0
        rw [z]
        unfold mkN
        omega
      · have := cwE_neg (ts := F s) (by omega)
        omega
  have hge := nxN_ge N (F s)
  have hD : ∀ j, DR μ2 x j = DR μ x j := fun j => hfr1.R (dr_lt hT j) fun z => by omega
  rw [← hNe] at hge ⊢
  refine ⟨c2, ⟨hT.fr hfr (fun a j _ z => Or.inl (Ks_Kc z)), fun t ht => ?_, ⟨hW.1, hN6, ?_, by omega, fun _ => by rw [ho]; exact hW⟩, ⟨fun j hj a ha => ?_, fun j k a hj hk ha hb => ?_⟩, fun t ht => ?_⟩, ho, hfr⟩
  · have := fA_bd x ht
    exact hfr.FI (hT.fs ht) (fun a z1 z2 z => by unfold Sc at z; omega) (hF t ht)
  · rcases hrow with ⟨z, -, -⟩ | ⟨-, z, -, -⟩ <;> omega
  · rw [hD] at ha
    obtain ⟨q1, q2, q3⟩ := d1 j hj a ha
    refine ⟨hfr.A q1, q2, fun z => ?_⟩
    have := q1.2.1
    rcases hrow with ⟨z1, -, -⟩ | ⟨-, z1, -, -⟩ <;> omega
  · rw [hD] at ha hb
    exact d2 j k a hj hk ha hb
  · have hb := fA_bd x ht
    have e2 := hfr.I (x := tA x t) (by omega) (fun z => by unfold Sc at z; omega)
    have er0 : mR μ2 (tA x t) 0 = mR μ (tA x t) 0 := by rw [DR_w _ _ ht, DR_w _ _ ht, hD]
    have er1 : mR μ2 (tA x t) 1 = mR μ (tA x t) 1 := by rw [DR_u _ _ ht, DR_u _ _ ht, hD]
    obtain ⟨⟨k1, k2⟩, k3, k4⟩ := hKn t ht
    refine ⟨⟨by rw [e2]; exact k1, ?_⟩, by rw [e2]; exact k3, ?_⟩
    · rw [e2, er0]
      intro z
      obtain ⟨q1, a, q2, q3⟩ := k2 z
      have qa := d1 t.toNat (by omega) a (by rw [← DR_w _ _ ht]; exact q2)
      exact ⟨fun q => by have := q1 q; omega, a, q2, fun n z1 z2 => by rw [hfr1.L qa.1.2.1 (by omega)]; exact q3 n z1 z2⟩
    · rw [e2, er1]
      intro z
      obtain ⟨q1, a, q2, q3⟩ := k4 z
      have qa := d1 (4 + t.toNat) (by omega) a (by rw [← DR_u _ _ ht]; exact q2)
      exact ⟨fun q => by have := q1 q; omega, a, q2, fun n z1 z2 => by rw [hfr1.L qa.1.2.1 (by omega)]; exact q3 n z1 z2⟩
end CAT
/-- countWays in the invariant -/
theorem c_series (w : WC) (d : Nat) (μ : Mem) {x c N : Nat} {F : Int → List Tm} (h : CA w μ x F c N) {s : Int} (hs : 0 ≤ s ∧ s ≤ 3) : Con w (d + 3) mX7_countWays 1 (cwB N (F s)) [vP (some (x + 59)), vI s, vP (some (fA x s))] μ (fun v μ2 => v = none ∧ ∃ c2, CA w μ2 x F c2 (nxN N (F s)) ∧ mI μ2 (x + 59) 2 = s ∧ Fr (Sc x) (Ks x) μ μ2) := by
  have hb := fA_bd x hs
  have hc := h.2.2.1.2.2.1
  have h4 := h.2.2.1.2.2.2.1
  by_cases hne : mI μ (x + 59) 2 = s
  · have o59 := h.tps.o59
    have hW := h.se hs.1 hne
    have hN := fun z => (hW.2.2.2 z).1
    refine Con.of (by decide) (Nat.le_of_ble_eq_true rfl) rfl ?_
    refine g_aload_n (j := 0) rfl dX7_countWays_0 ?_
    refine g_getI dX7_countWays_1 flX7_19 rfl (by assumption) (kz := 2) rfl ?_
    refine g_iload_n (j := 1) rfl dX7_countWays_4 ?_
    refine g_icmp_ne (tgt := 9) dX7_countWays_5 (by decide) (by omega) (by omega) (fun h5 => ?_) (fun h5 => ?_)
    · exact absurd hne h5
    · exact G.retV dX7_countWays_8 rfl ⟨rfl, c, by rw [nxN_of hN]; exact h, hne, Fr.rf⟩
  · refine (c_countWays w d μ h.2.2.1.1 (h.tps.fs hs) (h.fm hs) (by omega) (fun a z1 z2 => by omega) (by omega) (by have := h.2.2.1.2.1; omega) (by omega) hne (by omega)).post fun v μ2 hR => ?_
    exact ⟨hR.1, h.cw hs hR.2⟩
section CAT2
variable {w : WC} {μ μ2 : Mem} {x c N : Nat} {F : Int → List Tm}
/-- a Tally's row kept -/
theorem CA.keep (h : CA w μ x F c N) {s : Int} (hs : 0 ≤ s ∧ s ≤ 3) (hN : 0 ≤ 3000 - lfT (F s) → cwE (F s) ≤ N) {a : Nat} {k : Int} (hk : k = 0 ∨ k = 1) {g : Int → Int} (hg : (k = 0 ∧ ∀ n, -3000 ≤ n → n ≤ 3000 → g (n + 3000) = wy (F s) n) ∨ (k = 1 ∧ ∀ n, -3000 ≤ n → n ≤ 3000 → g (n + 3000) = uw (F s) n)) (hR : KeepR μ (tA x s) a k g μ2) : CA w μ2 x F c N ∧ Fr (Tc x) (Kc x) μ μ2 ∧ mR μ2 (tA x s) k = some a ∧ mI μ2 (tA x s) (k + 2) = 1 ∧ IsA w μ2 a 15 6001 ∧ x + 120 ≤ a ∧ Fr (fun b => b = tA x s ∨ b = a) (fun b j => b = tA x s ∧ j = k) μ μ2 := by
  obtain ⟨hT, hF, ⟨s1, s2, s3, s4, s5⟩, ⟨d1, d2⟩, hKn⟩ := h
  have hz := hT.2.2.2.2
  have hbt := fA_bd x hs
  obtain ⟨j0, hj0, hj8, hjk⟩ : ∃ j0, (∀ m : Mem, mR m (tA x s) k = DR m x j0) ∧ j0 < 8 ∧ ((k = 0 ∧ j0 = s.toNat) ∨ (k = 1 ∧ j0 = 4 + s.toNat)) := by
    rcases hk with rfl | rfl
    · exact ⟨s.toNat, fun m => DR_w m x hs, by omega, Or.inl ⟨rfl, rfl⟩⟩
    · exact ⟨4 + s.toNat, fun m => DR_u m x hs, by omega, Or.inr ⟨rfl, rfl⟩⟩
  have hac : a < mZ μ → mR μ (tA x s) k = some a → x + 120 ≤ a ∧ ¬ a = c := fun _ z => (d1 j0 hj8 a ((hj0 μ).symm.trans z)).2
  have ha : x + 120 ≤ a ∧ ¬ a = c := by
    rcases hR with ⟨z, -⟩ | ⟨-, z, -⟩
    · exact (d1 j0 hj8 a ((hj0 μ).symm.trans z)).2
    · have := s1.2.2.2.2.2.1
      omega
  -- what is read behind
  have hfr : Fr (fun b => b = tA x s ∨ b = a) (fun b j => b = tA x s ∧ j = k) μ μ2 := by
    rcases hR with ⟨-, z⟩ | ⟨-, -, z⟩
    · rw [z]
      exact (Fr.wL (Or.inr rfl)).tr (Fr.sI (Or.inl rfl))
    · rw [z]
      exact ((Fr.sN.tr (Fr.sR ⟨rfl, rfl⟩)).tr (Fr.wL (Or.inr rfl))).tr (Fr.sI (Or.inl rfl))
  have hrk : mR μ2 (tA x s) k = some a := by
    rcases hR with ⟨z0, z⟩ | ⟨-, z0, z⟩
    · rw [z, mR_sI, mR_wL]
      exact z0
    · rw [z, mR_sI, mR_wL, mR_sR, if_pos ⟨rfl, rfl⟩]
  have hia : IsA w μ2 a 15 6001 := by
    rcases hR with ⟨z0, z⟩ | ⟨-, z0, z⟩
    · exact hfr.A (d1 j0 hj8 a ((hj0 μ).symm.trans z0)).1
    · rw [z, IsA_sI, IsA_wL, IsA_sR, z0]
      exact IsA_new (by have := hT.2.2.2.1; omega) (by omega)
  have hti : ∀ j, mI μ2 (tA x s) j = if j = k + 2 then 1 else mI μ (tA x s) j := fun j => by
    rcases hR with ⟨z0, z⟩ | ⟨-, z0, z⟩
    · rw [z, mI_sI, mI_wL]
      by_cases q : j = k + 2
      · rw [if_pos ⟨rfl, q⟩, if_pos q]
      · rw [if_neg (fun y => q y.2), if_neg q]
    · rw [z, mI_sI, mI_wL, mI_sR, mI_sN (by omega)]
      by_cases q : j = k + 2
      · rw [if_pos ⟨rfl, q⟩, if_pos q]
      · rw [if_neg (fun y => q y.2), if_neg q]
  have hla : ∀ j, mL μ2 a j = g j := fun j => by
    rcases hR with ⟨z0, z⟩ | ⟨-, z0, z⟩
    · rw [z, mL_sI, mL_wL, if_pos rfl]
    · rw [z, mL_sI, mL_wL, if_pos rfl]
  have hfr2 : Fr (Tc x) (Kc x) μ μ2 := hfr.mono (fun b _ z => by
    rcases z with z | z
    · rw [z]; exact (Tc_t x hs).1
    · unfold Tc Sc; omega) (fun b _ j z => by rw [z.1]; exact (Tc_t x hs).2 j)
  have hcm := s1.2.2.2.2.2.1
  have ho : mI μ2 (x + 59) 2 = mI μ (x + 59) 2 := hfr.I (by omega) (by omega) 2
  have hK59 : ∀ j, ¬ (x + 59 = tA x s ∧ j = k) := fun j z => by omega
  have hDo : ∀ j, j < 8 → ¬ j = j0 → DR μ2 x j = DR μ x j := fun j hj hne => hfr.R (dr_lt hT j) fun z => by
    unfold tA at z
    omega
  have hDs : DR μ2 x j0 = some a := (hj0 μ2).symm.trans hrk
  -- no other row is a
  have hot : ∀ j, j < 8 → ¬ j = j0 → ¬ DR μ x j = some a := fun j hj hne z => by
    rcases hR with ⟨z0, -⟩ | ⟨-, z0, -⟩
    · exact hne (d2 j j0 a hj hj8 z ((hj0 μ).symm.trans z0))
    · have := (d1 j hj a z).1.2.1
      omega
  have hrowL : ∀ j, j < 8 → ¬ j = j0 → ∀ b, DR μ x j = some b → ∀ n, mL μ2 b n = mL μ b n := fun j hj hne b hb n => by
    have q := d1 j hj b hb
    refine hfr.L q.1.2.1 (fun z => ?_) n
    rcases z with z | z
    · omega
    · exact hot j hj hne (by rw [← z]; exact hb)
  refine ⟨⟨hT.fr hfr2 (fun a j _ z => Or.inl z), fun t ht => ?_, ⟨hfr.Se hK59 s1, s2, s3, by rw [ho]; exact s4, ?_⟩, ⟨fun j hj b hb => ?_, fun i j b hi hj hb hc => ?_⟩, fun t ht => ?_⟩, hfr2, hrk, by rw [hti, if_pos rfl], hia, ha.1, hfr⟩
  · have := fA_bd x ht
    refine hfr.FI (hT.fs ht) (fun b z1 z2 z => ?_) (hF t ht)
    rcases z with z | z
    · unfold fA at z1 z2
      unfold tA at z
      omega
    · omega
  · rw [ho]
    exact fun z => hfr.SeWd hK59 (by omega) (by omega) (by omega) (s5 z)
  · by_cases hj' : j = j0
    · rw [hj', hDs] at hb
      cases hb
      exact ⟨hia, ha⟩
    · rw [hDo j hj hj'] at hb
      exact ⟨hfr.A (d1 j hj b hb).1, (d1 j hj b hb).2⟩
  · by_cases hi' : i = j0
    · by_cases hj' : j = j0
      · rw [hi', hj']
      · rw [hi', hDs] at hb
        rw [hDo j hj hj'] at hc
        cases hb
        exact absurd hc (hot j hj hj')
    · rw [hDo i hi hi'] at hb
      by_cases hj' : j = j0
      · rw [hj', hDs] at hc
        cases hc
        exact absurd hb (hot i hi hi')
      · rw [hDo j hj hj'] at hc
        exact d2 i j b hi hj hb hc
  · obtain ⟨⟨k1, k2⟩, k3, k4⟩ := hKn t ht
    have hbt2 := fA_bd x ht
    have hjt : t.toNat < 8 ∧ 4 + t.toNat < 8 := by omega
    by_cases hts : t = s
    · subst hts
      simp only [hti]
      rcases hjk with ⟨hk0, hj⟩ | ⟨hk1, hj⟩
      · have hgw : ∀ n, -3000 ≤ n → n ≤ 3000 → g (n + 3000) = wy (F t) n := by
          rcases hg with ⟨-, z⟩ | ⟨z, -⟩
          · exact z
          · omega
        subst hk0
        refine ⟨⟨Or.inr (if_pos rfl), fun _ => ⟨hN, a, hrk, fun n z1 z2 => by rw [hla]; exact hgw n z1 z2⟩⟩, ?_, ?_⟩
        · rw [if_neg (by omega)]
          exact k3
        · rw [if_neg (by omega), DR_u _ _ ht, hDo _ hjt.2 (by omega)]
          intro z
          obtain ⟨q1, b, q2, q3⟩ := k4 z
          rw [DR_u _ _ ht] at q2
          exact ⟨q1, b, q2, fun n z1 z2 => by rw [hrowL _ hjt.2 (by omega) b q2]; exact q3 n z1 z2⟩
      · have hgu : ∀ n, -3000 ≤ n → n ≤ 3000 → g (n + 3000) = uw (F t) n := by
          rcases hg with ⟨z, -⟩ | ⟨-, z⟩
          · omega
          · exact z
        subst hk1
        refine ⟨⟨?_, ?_⟩, Or.inr (if_pos rfl), fun _ => ⟨hN, a, hrk, fun n z1 z2 => by rw [hla]; exact hgu n z1 z2⟩⟩
        · rw [if_neg (by omega)]
          exact k1
        · rw [if_neg (by omega), DR_w _ _ ht, hDo _ hjt.1 (by omega)]
          intro z
          obtain ⟨q1, b, q2, q3⟩ := k2 z
          rw [DR_w _ _ ht] at q2
          exact ⟨q1, b, q2, fun n z1 z2 => by rw [hrowL _ hjt.1 (by omega) b q2]; exact q3 n z1 z2⟩
    · have e2 := hfr.I (x := tA x t) (by omega) (fun z => by
        rcases z with z | z
        · unfold tA at z; omega
        · omega)
      simp only [e2, DR_w _ _ ht, DR_u _ _ ht, hDo _ hjt.1 (by omega), hDo _ hjt.2 (by omega)]
      simp only [DR_w _ _ ht, DR_u _ _ ht] at k2 k4
      refine ⟨⟨k1, fun z => ?_⟩, k3, fun z => ?_⟩
      · obtain ⟨q1, b, q2, q3⟩ := k2 z
        exact ⟨q1, b, q2, fun n z1 z2 => by rw [hrowL _ hjt.1 (by omega) b q2]; exact q3 n z1 z2⟩
      · obtain ⟨q1, b, q2, q3⟩ := k4 z
        exact ⟨q1, b, q2, fun n z1 z2 => by rw [hrowL _ hjt.2 (by omega) b q2]; exact q3 n z1 z2⟩
end CAT2
