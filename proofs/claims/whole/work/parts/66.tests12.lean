/-! THE MODEL: tests of tokens, faults -/
/-- token i is looked at, no fault yet -/
def StM (w : WC) (μ : Mem) (m : Nat) (n : Int) (B : Int → Int) (i : Nat) : Prop := MoS w μ m ∧ TpM μ m n B ∧ NxM μ m n B (tP n B i) ∧ mI μ m 8 = 0
def BaM (μ : Mem) (m : Nat) (f : Int → Int) : Prop := mI μ m 8 = f 0 ∧ mI μ m 9 = f 1 ∧ mI μ m 10 = f 2 ∧ mI μ m 11 = f 3
def Jf (j : Int) : Prop := (Jn j ∨ j = 20) ∨ (8 ≤ j ∧ j ≤ 11)
def RmT (m : Nat) : Mem → Mem → Prop := FrZ m (fun _ => False) (fun j => Jn j ∨ j = 20)
theorem RmS.T {m : Nat} {μ μ2 : Mem} (h : RmS m μ μ2) : RmT m μ μ2 := FrZ.mono h (fun _ z => z) (fun _ z => Or.inl z)
def RmE (m : Nat) (f : Int → Int) (μ μ2 : Mem) : Prop := FrZ m (fun _ => False) Jf μ μ2 ∧ BaM μ2 m f
theorem RmT.E {m : Nat} {f : Int → Int} {μ μ2 μ3 : Mem} (h : RmT m μ μ2) (h2 : RmE m f μ2 μ3) : RmE m f μ μ3 := ⟨(FrZ.mono h (fun _ z => z) (fun _ z => Or.inl z)).tr h2.1, h2.2⟩
theorem StM.fr {w : WC} {m i : Nat} {n : Int} {B : Int → Int} {P : Nat → Prop} {J : Int → Prop} {μ μ2 : Mem} (h : StM w μ m n B i) (hf : FrZ m P J μ μ2) (hJ : ¬ J 3 ∧ ¬ J 8 ∧ ∀ j, 12 ≤ j → j ≤ 17 → ¬ J j) (hP : ¬ P (m + 3)) (hL : mL μ2 m 15 = mL μ m 15) : StM w μ2 m n B i := by
  obtain ⟨hM, hB, ⟨q1, q2, q3, q4, q5, q6⟩, q7⟩ := h
  exact ⟨hf.Mo hM, hB.fr hf hM hJ.1 hP, ⟨(hf.2 13 (hJ.2.2 13 (by omega) (by omega))).trans q1, (hf.2 14 (hJ.2.2 14 (by omega) (by omega))).trans q2, (hf.2 12 (hJ.2.2 12 (by omega) (by omega))).trans q3, hL.trans q4, (hf.2 16 (hJ.2.2 16 (by omega) (by omega))).trans q5, (hf.2 17 (hJ.2.2 17 (by omega) (by omega))).trans q6⟩, (hf.2 8 hJ.2.1).trans q7⟩
theorem mS2_c (n : Int) (B : Int → Int) (p : Int) : (0 ≤ mS2 n B p ∧ mS2 n B p ≤ 3) ∧ (mS2 n B p = 0 ↔ ¬ p < n) ∧ (mS2 n B p = 1 ↔ p < n ∧ srt (B p) = 2) ∧ (mS2 n B p = 2 ↔ p < n ∧ srt (B p) = 1) ∧ (mS2 n B p = 3 ↔ p < n ∧ srt (B p) = 3) := by
  have hs := srt_c (B p)
  unfold mS2
  by_cases hp : p < n
  · rw [if_pos hp]
    by_cases h1 : srt (B p) = 1
    · rw [if_pos h1]; refine ⟨?_, ?_, ?_, ?_, ?_⟩ <;> omega
    · rw [if_neg h1]
      by_cases h2 : srt (B p) = 2
      · rw [if_pos h2]; refine ⟨?_, ?_, ?_, ?_, ?_⟩ <;> omega
      · rw [if_neg h2]; refine ⟨?_, ?_, ?_, ?_, ?_⟩ <;> omega
  · rw [if_neg hp]; refine ⟨?_, ?_, ?_, ?_, ?_⟩ <;> omega
theorem fit_bool {z : Int} (h : z = 0 ∨ z = 1) : fits .boolean (.int (iv z)) = true := by rcases h with rfl | rfl <;> rfl
def pkT : Nat → Nat → Int
  | _, 0 => 0
  | t, k + 1 => pkT t k * 32 + (txZ t (k : Nat) - 96)
theorem pkT_bd : ∀ t, t < 8 → ∀ k, k < (tXL t).length → 97 ≤ txZ t (k : Nat) ∧ txZ t (k : Nat) ≤ 122 := by decide +kernel
theorem pkT_ub {t : Nat} (ht : t < 8) : ∀ k : Nat, k ≤ (tXL t).length → 0 ≤ pkT t k ∧ pkT t k + 1 ≤ 32 ^ k
  | 0, _ => by simp [pkT]
  | k + 1, h => by
    have hb := pkT_bd t ht k (by omega)
    have ih := pkT_ub ht k (by omega)
    rw [pkT, Int.pow_succ]
    omega
theorem pk_inj {B : Int → Int} {p : Int} {t : Nat} (ht : t < 8) : ∀ k : Nat, k ≤ (tXL t).length → (∀ j : Int, 0 ≤ j → j < k → 97 ≤ B (p + j) ∧ B (p + j) ≤ 122) → (wdB B k p 0 = pkT t k ↔ ∀ j : Int, 0 ≤ j → j < k → B (p + j) = txZ t j)
  | 0, _, _ => by
    simp only [wdB, pkT, true_iff]
    intro j z1 z2
    omega
  | k + 1, h, hB => by
    have hb := pkT_bd t ht k (by omega)
    have hc := hB (k : Int) (by omega) (by omega)
    have ih := pk_inj ht k (by omega) fun j z1 z2 => hB j z1 (by omega)
    rw [wdB_last, pkT]
    constructor
    · intro q j z1 z2
      by_cases hj : j = (k : Int)
      · rw [hj]
        omega
      · exact ih.mp (by omega) j z1 (by omega)
    · intro q
      have h1 := ih.mpr fun j z1 z2 => q j z1 (by omega)
      have h2 := q (k : Int) (by omega) (by omega)
      rw [h1, h2]
section TM
variable {w : WC} {d m : Nat} {n : Int} {B : Int → Int}
theorem l_packed {μ : Mem} {t : Nat} (ht : t < 8) : ∀ (r k : Nat), k + r = (tXL t).length →
    G w (d + 4) mX12_packed (fun v μ2 => v = some (vJ (pkT t (tXL t).length)) ∧ μ2 = μ) 0 0 4 [some (vP (some (wK w t))), some (vJ (pkT t k)), none, some (vI (k : Int))] [] μ := by
  have hn : t < 11 := by omega
  have h6 := tXL_small t hn
  have hN := tXL_len t hn
  intro r
  induction r with
  | zero =>
    intro k hk
    have hkk : k = (tXL t).length := by omega
    refine g_iload_n (j := 3) rfl dX12_packed_4 ?_
    refine g_aload_n (j := 0) rfl dX12_packed_5 ?_
    refine g_callT dX12_packed_6 mlX12_171 mvJ0_length_8abf5 rfl hn (c_J0_length w (d + 2) μ hn) sv0 rfl (by omega) (Nat.le_of_ble_eq_true rfl) (Nat.le_refl _) (Nat.le_refl _) (fun v μ2 hR => ?_)
    obtain ⟨rfl, hm⟩ := hR
    replace hm := hm.symm
    subst hm
    refine g_icmp_ge (tgt := 32) dX12_packed_9 (by decide) (by omega) (by omega) (fun h9 => ?_) (fun h9 => ?_)
    · refine g_lload_n (j := 1) rfl dX12_packed_32 ?_
      exact G.retJ dX12_packed_33 rfl ⟨by rw [hkk], rfl⟩
    · omega
  | succ r ih =>
    intro k hk
    have hb := pkT_bd t ht k (by omega)
    have hu := pkT_ub ht k (by omega)
    have hub : pkT t k < 100000000000 := by
      rcases (by omega : k = 0 ∨ k = 1 ∨ k = 2 ∨ k = 3 ∨ k = 4 ∨ k = 5) with rfl | rfl | rfl | rfl | rfl | rfl <;> omega
    refine g_iload_n (j := 3) rfl dX12_packed_4 ?_
    refine g_aload_n (j := 0) rfl dX12_packed_5 ?_
    refine g_callT dX12_packed_6 mlX12_171 mvJ0_length_8abf5 rfl hn (c_J0_length w (d + 2) μ hn) sv0 rfl (by omega) (Nat.le_of_ble_eq_true rfl) (Nat.le_refl _) (Nat.le_refl _) (fun v μ2 hR => ?_)
    obtain ⟨rfl, hm⟩ := hR
    replace hm := hm.symm
    subst hm
    refine g_icmp_ge (tgt := 32) dX12_packed_9 (by decide) (by omega) (by omega) (fun h9 => ?_) (fun h9 => ?_)
    · omega
    · refine g_lload_n (j := 1) rfl dX12_packed_12 ?_
      refine g_iconst dX12_packed_13 ?_
      refine g_lshl dX12_packed_14 ?_
      rw [shl5 (by omega)]
      refine g_aload_n (j := 0) rfl dX12_packed_15 ?_
      refine g_iload_n (j := 3) rfl dX12_packed_16 ?_
      refine g_callT dX12_packed_17 mlX12_176 mvJ0_charAt_5068e rfl hn (c_J0_charAt w d μ hn (i := (k : Int)) (by omega) (by omega)) sv1 rfl (by omega) (Nat.le_of_ble_eq_true rfl) (Nat.le_refl _) (Nat.le_refl _) (fun v μ2 hR => ?_)
      obtain ⟨rfl, hm⟩ := hR
      replace hm := hm.symm
      subst hm
      refine g_bipush dX12_packed_20 (by omega) ?_
      refine g_isub dX12_packed_22 ?_
      refine g_i2l (by omega) dX12_packed_23 ?_
      refine g_lor dX12_packed_24 ?_
      rw [or5 (by omega) (by omega)]
      refine g_lstore_n (j := 1) dX12_packed_25 (by decide) rfl lj1 ?_
      refine g_iinc (i := 3) dX12_packed_26 rfl (by decide) rfl ls3 ?_
      refine g_goto (tgt := 4) (by decide) dX12_packed_29 ?_
      exact ih (k + 1) (by omega)
theorem c_packed (w : WC) (d : Nat) (μ : Mem) {t : Nat} (ht : t < 8) : Con w (d + 4) mX12_packed 0 0 [vP (some (wK w t))] μ (fun v μ2 => v = some (vJ (pkT t (tXL t).length)) ∧ μ2 = μ) := by
  refine Con.of (by decide) (Nat.le_of_ble_eq_true rfl) rfl ?_
  refine g_lconst0 dX12_packed_0 ?_
  refine g_lstore_n (j := 1) dX12_packed_1 (by decide) rfl lj1 ?_
  refine g_iconst dX12_packed_2 ?_
  refine g_istore_n (j := 3) dX12_packed_3 (by decide) rfl ls3 ?_
  exact l_packed ht (tXL t).length 0 (by omega)
theorem c_isWord12 (w : WC) (d : Nat) (μ : Mem) {m i : Nat} {n : Int} {B : Int → Int} (hS : StM w μ m n B i) {t : Nat} (ht : t < 8) : Con w (d + 5) mX12_isWord 0 0 [vP (some m), vP (some (wK w t))] μ (fun v μ2 => v = some (vI (bI (isWd n B (tP n B i) t))) ∧ μ2 = μ) := by
  obtain ⟨hM, hB, ⟨f13, f14, f12, f15, f16, f17⟩, f8⟩ := id hS
  have o0 := hM.o
  have hO := hB.2.1.1
  have hp := tP_bd (n := n) (B := B) (by omega) i
  have he := en_bd (n := n) (B := B) (p := tP n B i) (by omega)
  have hm2 := mS2_c n B (tP n B i)
  have hn : t < 11 := by omega
  have h6 := tXL_small t hn
  have hN := tXL_len t hn
  have hu := pkT_ub ht (tXL t).length (Nat.le_refl _)
  have hub : pkT t (tXL t).length < 100000000000 := by
    rcases (by omega : (tXL t).length = 0 ∨ (tXL t).length = 1 ∨ (tXL t).length = 2 ∨ (tXL t).length = 3 ∨ (tXL t).length = 4 ∨ (tXL t).length = 5 ∨ (tXL t).length = 6) with z | z | z | z | z | z | z <;> rw [z] at hu ⊢ <;> omega
  have hwb : tP n B i < n → srt (B (tP n B i)) = 2 → en n B (tP n B i) - tP n B i = txN t → (0 ≤ wdF n B (tP n B i) ∧ wdF n B (tP n B i) ≤ 100000000000) ∧ (wdF n B (tP n B i) = pkT t (tXL t).length ↔ isWd n B (tP n B i) t) := fun z1 z2 z3 => by
    have hlt : ∀ j : Int, 0 ≤ j → j < ((tXL t).length : Int) → 97 ≤ B (tP n B i + j) ∧ B (tP n B i + j) ≤ 122 := fun j y1 y2 => lt_of_srt ((he.2.2.2 z1 _ (by omega) (by omega)).trans z2)
    have hl2 : ∀ j : Int, tP n B i ≤ j → j < tP n B i + ((tXL t).length : Int) → 97 ≤ B j ∧ B j ≤ 122 := fun j y1 y2 => by
      have := hlt (j - tP n B i) (by omega) (by omega)
      rwa [show tP n B i + (j - tP n B i) = j by omega] at this
    have ek : wdF n B (tP n B i) = wdB B (tXL t).length (tP n B i) 0 := by
      unfold wdF
      rw [show (min (en n B (tP n B i) - tP n B i) 7).toNat = (tXL t).length by omega]
    have h1 := wdB_bd (B := B) (tXL t).length (tP n B i) 0 hl2 (by omega)
    have h2 := wd_ub (B := B) (tXL t).length (tP n B i) 0 hl2 (by omega)
    rw [ek]
    refine ⟨⟨h1, ?_⟩, ?_⟩
    · rcases (by omega : (tXL t).length = 0 ∨ (tXL t).length = 1 ∨ (tXL t).length = 2 ∨ (tXL t).length = 3 ∨ (tXL t).length = 4 ∨ (tXL t).length = 5 ∨ (tXL t).length = 6) with z | z | z | z | z | z | z <;> rw [z] at h2 ⊢ <;> omega
    · rw [pk_inj ht _ (Nat.le_refl _) hlt]
      exact ⟨fun y => ⟨z1, z2, z3, fun j y1 y2 => y j y1 (by omega)⟩, fun y j y1 y2 => y.2.2.2 j y1 (by omega)⟩
  refine Con.of (by decide) (Nat.le_of_ble_eq_true rfl) rfl ?_
  refine g_aload_n (j := 0) rfl dX12_isWord_0 ?_
  refine g_getI dX12_isWord_1 flX12_142 rfl (by assumption) (kz := 12) rfl ?_
  rw [f12]
  refine g_iconst dX12_isWord_4 ?_
  refine g_icmp_ne (tgt := 40) dX12_isWord_5 (by decide) (by omega) (by omega) (fun h5 => ?_) (fun h5 => ?_)
  · refine g_iconst dX12_isWord_40 ?_
    first
    | exact G.retB dX12_isWord_41 rfl (eq_bI (Or.inl ⟨rfl, hq.2.mp (by omega)⟩)) ⟨rfl, rfl⟩
    | exact G.retB dX12_isWord_41 rfl (eq_bI (Or.inr ⟨rfl, fun y => by have := hq.2.mpr y; omega⟩)) ⟨rfl, rfl⟩
    | exact G.retB dX12_isWord_41 rfl (eq_bI (Or.inr ⟨rfl, fun y => by have := hm2.2.2.1.mpr ⟨y.1, y.2.1⟩; have := y.2.2.1; omega⟩)) ⟨rfl, rfl⟩
  · refine g_aload_n (j := 0) rfl dX12_isWord_8 ?_
    refine g_getI dX12_isWord_9 flX12_122 rfl (by assumption) (kz := 14) rfl ?_
    rw [f14]
    refine g_aload_n (j := 0) rfl dX12_isWord_12 ?_
    refine g_getI dX12_isWord_13 flX12_129 rfl (by assumption) (kz := 13) rfl ?_
    rw [f13]
    refine g_isub dX12_isWord_16 ?_
    refine g_aload_n (j := 1) rfl dX12_isWord_17 ?_
    refine g_callT dX12_isWord_18 mlX12_171 mvJ0_length_8abf5 rfl hn (c_J0_length w (d + 3) μ hn) sv0 rfl (by omega) (Nat.le_of_ble_eq_true rfl) (Nat.le_refl _) (Nat.le_refl _) (fun v μ2 hR => ?_)
    obtain ⟨rfl, hm⟩ := hR
    replace hm := hm.symm
    subst hm
    refine g_icmp_ne (tgt := 40) dX12_isWord_21 (by decide) (by omega) (by omega) (fun h21 => ?_) (fun h21 => ?_)
    · refine g_iconst dX12_isWord_40 ?_
      first
      | exact G.retB dX12_isWord_41 rfl (eq_bI (Or.inl ⟨rfl, hq.2.mp (by omega)⟩)) ⟨rfl, rfl⟩
      | exact G.retB dX12_isWord_41 rfl (eq_bI (Or.inr ⟨rfl, fun y => by have := hq.2.mpr y; omega⟩)) ⟨rfl, rfl⟩
      | exact G.retB dX12_isWord_41 rfl (eq_bI (Or.inr ⟨rfl, fun y => by have := hm2.2.2.1.mpr ⟨y.1, y.2.1⟩; have := y.2.2.1; omega⟩)) ⟨rfl, rfl⟩
    · refine g_aload_n (j := 0) rfl dX12_isWord_24 ?_
      refine g_getJ dX12_isWord_25 flX12_132 rfl (by assumption) (kz := 15) rfl ?_
      have hpw := hm2.2.2.1.mp (by omega)
      rw [f15, show mW2 n B (tP n B i) = wdF n B (tP n B i) from if_pos hpw]
      have hq := hwb hpw.1 hpw.2 (by omega)
      refine g_aload_n (j := 1) rfl dX12_isWord_28 ?_
      refine g_callS dX12_isWord_29 mlX12_180 msX12_packed (c_packed w d μ ht) sk1 rfl (by omega) (Nat.le_of_ble_eq_true rfl) (Nat.le_refl _) (Nat.le_refl _) (fun v μ2 hR => ?_)
      obtain ⟨rfl, hm⟩ := hR
      replace hm := hm.symm
      subst hm
      refine g_lif_ne (tgt := 40) dX12_isWord_32 dX12_isWord_33 (by decide) (by omega) (by omega) (fun h32 => ?_) (fun h32 => ?_)
      · refine g_iconst dX12_isWord_40 ?_
        first
        | exact G.retB dX12_isWord_41 rfl (eq_bI (Or.inl ⟨rfl, hq.2.mp (by omega)⟩)) ⟨rfl, rfl⟩
        | exact G.retB dX12_isWord_41 rfl (eq_bI (Or.inr ⟨rfl, fun y => by have := hq.2.mpr y; omega⟩)) ⟨rfl, rfl⟩
        | exact G.retB dX12_isWord_41 rfl (eq_bI (Or.inr ⟨rfl, fun y => by have := hm2.2.2.1.mpr ⟨y.1, y.2.1⟩; have := y.2.2.1; omega⟩)) ⟨rfl, rfl⟩
      · refine g_iconst dX12_isWord_36 ?_
        refine g_goto (tgt := 41) (by decide) dX12_isWord_37 ?_
        first
        | exact G.retB dX12_isWord_41 rfl (eq_bI (Or.inl ⟨rfl, hq.2.mp (by omega)⟩)) ⟨rfl, rfl⟩
        | exact G.retB dX12_isWord_41 rfl (eq_bI (Or.inr ⟨rfl, fun y => by have := hq.2.mpr y; omega⟩)) ⟨rfl, rfl⟩
        | exact G.retB dX12_isWord_41 rfl (eq_bI (Or.inr ⟨rfl, fun y => by have := hm2.2.2.1.mpr ⟨y.1, y.2.1⟩; have := y.2.2.1; omega⟩)) ⟨rfl, rfl⟩
theorem c_isSign12 (w : WC) (d : Nat) (μ : Mem) {m i : Nat} {n : Int} {B : Int → Int} (hS : StM w μ m n B i) {c : Int} (hc : 0 ≤ c ∧ c ≤ 127) : Con w d mX12_isSign 0 0 [vP (some m), vI c] μ (fun v μ2 => v = some (vI (bI (isSg n B (tP n B i) c))) ∧ μ2 = μ) := by
  obtain ⟨hM, hB, ⟨f13, f14, f12, f15, f16, f17⟩, f8⟩ := id hS
  have o0 := hM.o
  have hO := hB.2.1.1
  have hp := tP_bd (n := n) (B := B) (by omega) i
  have he := en_bd (n := n) (B := B) (p := tP n B i) (by omega)
  have hm2 := mS2_c n B (tP n B i)
  have hg : 0 ≤ mG2 n B (tP n B i) ∧ mG2 n B (tP n B i) ≤ 255 := by
    unfold mG2
    split
    · next h => have := hB.2.1.2 (tP n B i) hp.1 h.1; omega
    · omega
  refine Con.of (by decide) (Nat.le_of_ble_eq_true rfl) rfl ?_
  refine g_aload_n (j := 0) rfl dX12_isSign_0 ?_
  refine g_getI dX12_isSign_1 flX12_142 rfl (by assumption) (kz := 12) rfl ?_
  rw [f12]
  refine g_iconst dX12_isSign_4 ?_
  refine g_icmp_ne (tgt := 20) dX12_isSign_5 (by decide) (by omega) (by omega) (fun h5 => ?_) (fun h5 => ?_)
  · refine g_iconst dX12_isSign_20 ?_
    first
    | (have h3 := hm2.2.2.2.2.mp (by omega)
       have hg2 : mG2 n B (tP n B i) = B (tP n B i) := if_pos h3
       exact G.retB dX12_isSign_21 rfl (eq_bI (Or.inl ⟨rfl, h3.1, h3.2, by omega⟩)) ⟨rfl, rfl⟩)
    | exact G.retB dX12_isSign_21 rfl (eq_bI (Or.inr ⟨rfl, fun y => by
        have h3 := hm2.2.2.2.2.mpr ⟨y.1, y.2.1⟩
        have hg2 : mG2 n B (tP n B i) = B (tP n B i) := if_pos ⟨y.1, y.2.1⟩
        have := y.2.2
        omega⟩)) ⟨rfl, rfl⟩
  · refine g_aload_n (j := 0) rfl dX12_isSign_8 ?_
    refine g_getI dX12_isSign_9 flX12_139 rfl (by assumption) (kz := 17) rfl ?_
    rw [f17]
    refine g_iload_n (j := 1) rfl dX12_isSign_12 ?_
    refine g_icmp_ne (tgt := 20) dX12_isSign_13 (by decide) (by omega) (by omega) (fun h13 => ?_) (fun h13 => ?_)
    · refine g_iconst dX12_isSign_20 ?_
      first
      | (have h3 := hm2.2.2.2.2.mp (by omega)
         have hg2 : mG2 n B (tP n B i) = B (tP n B i) := if_pos h3
         exact G.retB dX12_isSign_21 rfl (eq_bI (Or.inl ⟨rfl, h3.1, h3.2, by omega⟩)) ⟨rfl, rfl⟩)
      | exact G.retB dX12_isSign_21 rfl (eq_bI (Or.inr ⟨rfl, fun y => by
          have h3 := hm2.2.2.2.2.mpr ⟨y.1, y.2.1⟩
          have hg2 : mG2 n B (tP n B i) = B (tP n B i) := if_pos ⟨y.1, y.2.1⟩
          have := y.2.2
          omega⟩)) ⟨rfl, rfl⟩
    · refine g_iconst dX12_isSign_16 ?_
      refine g_goto (tgt := 21) (by decide) dX12_isSign_17 ?_
      first
      | (have h3 := hm2.2.2.2.2.mp (by omega)
         have hg2 : mG2 n B (tP n B i) = B (tP n B i) := if_pos h3
         exact G.retB dX12_isSign_21 rfl (eq_bI (Or.inl ⟨rfl, h3.1, h3.2, by omega⟩)) ⟨rfl, rfl⟩)
      | exact G.retB dX12_isSign_21 rfl (eq_bI (Or.inr ⟨rfl, fun y => by
          have h3 := hm2.2.2.2.2.mpr ⟨y.1, y.2.1⟩
          have hg2 : mG2 n B (tP n B i) = B (tP n B i) := if_pos ⟨y.1, y.2.1⟩
          have := y.2.2
          omega⟩)) ⟨rfl, rfl⟩
theorem c_isNumber12 (w : WC) (d : Nat) (μ : Mem) {m i : Nat} {n : Int} {B : Int → Int} (hS : StM w μ m n B i) : Con w d mX12_isNumber 0 0 [vP (some m)] μ (fun v μ2 => v = some (vI (bI (isN n B (tP n B i)))) ∧ μ2 = μ) := by
  obtain ⟨hM, hB, ⟨f13, f14, f12, f15, f16, f17⟩, f8⟩ := id hS
  have o0 := hM.o
  have hO := hB.2.1.1
  have hp := tP_bd (n := n) (B := B) (by omega) i
  have he := en_bd (n := n) (B := B) (p := tP n B i) (by omega)
  have hm2 := mS2_c n B (tP n B i)
  refine Con.of (by decide) (Nat.le_of_ble_eq_true rfl) rfl ?_
  refine g_aload_n (j := 0) rfl dX12_isNumber_0 ?_
  refine g_getI dX12_isNumber_1 flX12_142 rfl (by assumption) (kz := 12) rfl ?_
  rw [f12]
  refine g_iconst dX12_isNumber_4 ?_
  refine g_icmp_ne (tgt := 25) dX12_isNumber_5 (by decide) (by omega) (by omega) (fun h5 => ?_) (fun h5 => ?_)
  · refine g_iconst dX12_isNumber_25 ?_
    first
    | (have h3 := hm2.2.2.2.1.mp (by omega)
       exact G.retB dX12_isNumber_26 rfl (eq_bI (Or.inl ⟨rfl, h3.1, h3.2, by omega⟩)) ⟨rfl, rfl⟩)
    | exact G.retB dX12_isNumber_26 rfl (eq_bI (Or.inr ⟨rfl, fun y => by
        have h3 := hm2.2.2.2.1.mpr ⟨y.1, y.2.1⟩
        have := y.2.2
        omega⟩)) ⟨rfl, rfl⟩
  · refine g_aload_n (j := 0) rfl dX12_isNumber_8 ?_
    refine g_getI dX12_isNumber_9 flX12_122 rfl (by assumption) (kz := 14) rfl ?_
    rw [f14]
    refine g_aload_n (j := 0) rfl dX12_isNumber_12 ?_
    refine g_getI dX12_isNumber_13 flX12_129 rfl (by assumption) (kz := 13) rfl ?_
    rw [f13]
    refine g_isub dX12_isNumber_16 ?_
    refine g_iconst dX12_isNumber_17 ?_
    refine g_icmp_gt (tgt := 25) dX12_isNumber_18 (by decide) (by omega) (by omega) (fun h18 => ?_) (fun h18 => ?_)
    · refine g_iconst dX12_isNumber_25 ?_
      first
      | (have h3 := hm2.2.2.2.1.mp (by omega)
         exact G.retB dX12_isNumber_26 rfl (eq_bI (Or.inl ⟨rfl, h3.1, h3.2, by omega⟩)) ⟨rfl, rfl⟩)
      | exact G.retB dX12_isNumber_26 rfl (eq_bI (Or.inr ⟨rfl, fun y => by
          have h3 := hm2.2.2.2.1.mpr ⟨y.1, y.2.1⟩
          have := y.2.2
          omega⟩)) ⟨rfl, rfl⟩
    · refine g_iconst dX12_isNumber_21 ?_
      refine g_goto (tgt := 26) (by decide) dX12_isNumber_22 ?_
      first
      | (have h3 := hm2.2.2.2.1.mp (by omega)
         exact G.retB dX12_isNumber_26 rfl (eq_bI (Or.inl ⟨rfl, h3.1, h3.2, by omega⟩)) ⟨rfl, rfl⟩)
      | exact G.retB dX12_isNumber_26 rfl (eq_bI (Or.inr ⟨rfl, fun y => by
          have h3 := hm2.2.2.2.1.mpr ⟨y.1, y.2.1⟩
          have := y.2.2
          omega⟩)) ⟨rfl, rfl⟩
theorem c_kindHere (w : WC) (d : Nat) (μ : Mem) {m i : Nat} {n : Int} {B : Int → Int} (hS : StM w μ m n B i) : Con w (d + 6) mX12_kindHere 0 0 [vP (some m)] μ (fun v μ2 => v = some (vI (kdT n B (tP n B i))) ∧ μ2 = μ) := by
  have o0 := hS.1.o
  unfold kdT
  refine Con.of (by decide) (Nat.le_of_ble_eq_true rfl) rfl ?_
  refine g_aload_n (j := 0) rfl dX12_kindHere_0 ?_
  refine g_ldcT dX12_kindHere_1 (n := 0) (tx := "line") (List.mem_of_getElem? (i := 11) rfl) ?_
  refine g_callV dX12_kindHere_3 mlX12_198 mvX12_isWord (ci := 12) ⟨by decide, rfl⟩ (by assumption) (c_isWord12 w d μ hS (t := 0) (by omega)) sv1 rfl (by omega) (Nat.le_of_ble_eq_true rfl) (Nat.le_refl _) (Nat.le_refl _) (fun v μ2 hR => ?_)
  obtain ⟨rfl, hm⟩ := hR
  replace hm := hm.symm
  subst hm
  refine g_ifb_eq (tgt := 13) dX12_kindHere_6 (by decide)  (fun h6 => ?_) (fun h6 => ?_)
  · refine g_aload_n (j := 0) rfl dX12_kindHere_13 ?_
    refine g_ldcT dX12_kindHere_14 (n := 1) (tx := "square") (List.mem_of_getElem? (i := 12) rfl) ?_
    refine g_callV dX12_kindHere_16 mlX12_198 mvX12_isWord (ci := 12) ⟨by decide, rfl⟩ (by assumption) (c_isWord12 w d μ hS (t := 1) (by omega)) sv1 rfl (by omega) (Nat.le_of_ble_eq_true rfl) (Nat.le_refl _) (Nat.le_refl _) (fun v μ2 hR => ?_)
    obtain ⟨rfl, hm⟩ := hR
    replace hm := hm.symm
    subst hm
    refine g_ifb_eq (tgt := 26) dX12_kindHere_19 (by decide)  (fun h19 => ?_) (fun h19 => ?_)
    · refine g_aload_n (j := 0) rfl dX12_kindHere_26 ?_
      refine g_ldcT dX12_kindHere_27 (n := 2) (tx := "cube") (List.mem_of_getElem? (i := 13) rfl) ?_
      refine g_callV dX12_kindHere_29 mlX12_198 mvX12_isWord (ci := 12) ⟨by decide, rfl⟩ (by assumption) (c_isWord12 w d μ hS (t := 2) (by omega)) sv1 rfl (by omega) (Nat.le_of_ble_eq_true rfl) (Nat.le_refl _) (Nat.le_refl _) (fun v μ2 hR => ?_)
      obtain ⟨rfl, hm⟩ := hR
      replace hm := hm.symm
      subst hm
      refine g_ifb_eq (tgt := 39) dX12_kindHere_32 (by decide)  (fun h32 => ?_) (fun h32 => ?_)
      · refine g_aload_n (j := 0) rfl dX12_kindHere_39 ?_
        refine g_ldcT dX12_kindHere_40 (n := 3) (tx := "fourth") (List.mem_of_getElem? (i := 14) rfl) ?_
        refine g_callV dX12_kindHere_42 mlX12_198 mvX12_isWord (ci := 12) ⟨by decide, rfl⟩ (by assumption) (c_isWord12 w d μ hS (t := 3) (by omega)) sv1 rfl (by omega) (Nat.le_of_ble_eq_true rfl) (Nat.le_refl _) (Nat.le_refl _) (fun v μ2 hR => ?_)
        obtain ⟨rfl, hm⟩ := hR
        replace hm := hm.symm
        subst hm
        refine g_ifb_eq (tgt := 52) dX12_kindHere_45 (by decide)  (fun h45 => ?_) (fun h45 => ?_)
        · refine g_aload_n (j := 0) rfl dX12_kindHere_52 ?_
          refine g_ldcT dX12_kindHere_53 (n := 4) (tx := "three") (List.mem_of_getElem? (i := 15) rfl) ?_
          refine g_callV dX12_kindHere_55 mlX12_198 mvX12_isWord (ci := 12) ⟨by decide, rfl⟩ (by assumption) (c_isWord12 w d μ hS (t := 4) (by omega)) sv1 rfl (by omega) (Nat.le_of_ble_eq_true rfl) (Nat.le_refl _) (Nat.le_refl _) (fun v μ2 hR => ?_)
          obtain ⟨rfl, hm⟩ := hR
          replace hm := hm.symm
          subst hm
          refine g_ifb_eq (tgt := 65) dX12_kindHere_58 (by decide)  (fun h58 => ?_) (fun h58 => ?_)
          · refine g_iconst dX12_kindHere_65 ?_
            first
            | exact G.retI dX12_kindHere_66 rfl ⟨by rw [cI_t h6], rfl⟩
            | exact G.retI dX12_kindHere_66 rfl ⟨by rw [cI_f h6, cI_t h19], rfl⟩
            | exact G.retI dX12_kindHere_66 rfl ⟨by rw [cI_f h6, cI_f h19, cI_t h32], rfl⟩
            | exact G.retI dX12_kindHere_66 rfl ⟨by rw [cI_f h6, cI_f h19, cI_f h32, cI_t h45], rfl⟩
            | exact G.retI dX12_kindHere_66 rfl ⟨by rw [cI_f h6, cI_f h19, cI_f h32, cI_f h45, cI_t h58], rfl⟩
            | exact G.retI dX12_kindHere_66 rfl ⟨by rw [cI_f h6, cI_f h19, cI_f h32, cI_f h45, cI_f h58], rfl⟩
          · refine g_iconst dX12_kindHere_61 ?_
            refine g_goto (tgt := 66) (by decide) dX12_kindHere_62 ?_
            first
            | exact G.retI dX12_kindHere_66 rfl ⟨by rw [cI_t h6], rfl⟩
            | exact G.retI dX12_kindHere_66 rfl ⟨by rw [cI_f h6, cI_t h19], rfl⟩
            | exact G.retI dX12_kindHere_66 rfl ⟨by rw [cI_f h6, cI_f h19, cI_t h32], rfl⟩
            | exact G.retI dX12_kindHere_66 rfl ⟨by rw [cI_f h6, cI_f h19, cI_f h32, cI_t h45], rfl⟩
            | exact G.retI dX12_kindHere_66 rfl ⟨by rw [cI_f h6, cI_f h19, cI_f h32, cI_f h45, cI_t h58], rfl⟩
            | exact G.retI dX12_kindHere_66 rfl ⟨by rw [cI_f h6, cI_f h19, cI_f h32, cI_f h45, cI_f h58], rfl⟩
        · refine g_iconst dX12_kindHere_48 ?_
          refine g_goto (tgt := 66) (by decide) dX12_kindHere_49 ?_
          first
          | exact G.retI dX12_kindHere_66 rfl ⟨by rw [cI_t h6], rfl⟩
          | exact G.retI dX12_kindHere_66 rfl ⟨by rw [cI_f h6, cI_t h19], rfl⟩
          | exact G.retI dX12_kindHere_66 rfl ⟨by rw [cI_f h6, cI_f h19, cI_t h32], rfl⟩
          | exact G.retI dX12_kindHere_66 rfl ⟨by rw [cI_f h6, cI_f h19, cI_f h32, cI_t h45], rfl⟩
          | exact G.retI dX12_kindHere_66 rfl ⟨by rw [cI_f h6, cI_f h19, cI_f h32, cI_f h45, cI_t h58], rfl⟩
          | exact G.retI dX12_kindHere_66 rfl ⟨by rw [cI_f h6, cI_f h19, cI_f h32, cI_f h45, cI_f h58], rfl⟩
      · refine g_iconst dX12_kindHere_35 ?_
        refine g_goto (tgt := 66) (by decide) dX12_kindHere_36 ?_
        first
        | exact G.retI dX12_kindHere_66 rfl ⟨by rw [cI_t h6], rfl⟩
        | exact G.retI dX12_kindHere_66 rfl ⟨by rw [cI_f h6, cI_t h19], rfl⟩
        | exact G.retI dX12_kindHere_66 rfl ⟨by rw [cI_f h6, cI_f h19, cI_t h32], rfl⟩
        | exact G.retI dX12_kindHere_66 rfl ⟨by rw [cI_f h6, cI_f h19, cI_f h32, cI_t h45], rfl⟩
        | exact G.retI dX12_kindHere_66 rfl ⟨by rw [cI_f h6, cI_f h19, cI_f h32, cI_f h45, cI_t h58], rfl⟩
        | exact G.retI dX12_kindHere_66 rfl ⟨by rw [cI_f h6, cI_f h19, cI_f h32, cI_f h45, cI_f h58], rfl⟩
    · refine g_iconst dX12_kindHere_22 ?_
      refine g_goto (tgt := 66) (by decide) dX12_kindHere_23 ?_
      first
      | exact G.retI dX12_kindHere_66 rfl ⟨by rw [cI_t h6], rfl⟩
      | exact G.retI dX12_kindHere_66 rfl ⟨by rw [cI_f h6, cI_t h19], rfl⟩
      | exact G.retI dX12_kindHere_66 rfl ⟨by rw [cI_f h6, cI_f h19, cI_t h32], rfl⟩
      | exact G.retI dX12_kindHere_66 rfl ⟨by rw [cI_f h6, cI_f h19, cI_f h32, cI_t h45], rfl⟩
      | exact G.retI dX12_kindHere_66 rfl ⟨by rw [cI_f h6, cI_f h19, cI_f h32, cI_f h45, cI_t h58], rfl⟩
      | exact G.retI dX12_kindHere_66 rfl ⟨by rw [cI_f h6, cI_f h19, cI_f h32, cI_f h45, cI_f h58], rfl⟩
  · refine g_iconst dX12_kindHere_9 ?_
    refine g_goto (tgt := 66) (by decide) dX12_kindHere_10 ?_
    first
    | exact G.retI dX12_kindHere_66 rfl ⟨by rw [cI_t h6], rfl⟩
    | exact G.retI dX12_kindHere_66 rfl ⟨by rw [cI_f h6, cI_t h19], rfl⟩
    | exact G.retI dX12_kindHere_66 rfl ⟨by rw [cI_f h6, cI_f h19, cI_t h32], rfl⟩
    | exact G.retI dX12_kindHere_66 rfl ⟨by rw [cI_f h6, cI_f h19, cI_f h32, cI_t h45], rfl⟩
    | exact G.retI dX12_kindHere_66 rfl ⟨by rw [cI_f h6, cI_f h19, cI_f h32, cI_f h45, cI_t h58], rfl⟩
    | exact G.retI dX12_kindHere_66 rfl ⟨by rw [cI_f h6, cI_f h19, cI_f h32, cI_f h45, cI_f h58], rfl⟩
theorem c_fails (w : WC) (d : Nat) (μ : Mem) {m i : Nat} {n : Int} {B : Int → Int} (hS : StM w μ m n B i) {k fo fi : Int} (e18 : mI μ m 18 = fo) (e19 : mI μ m 19 = fi) : Con w d mX12_fails 0 0 [vP (some m), vI k] μ (fun v μ2 => v = some (vI 0) ∧ RmE m (fa4 k (tP n B i) fo fi) μ μ2) := by
  obtain ⟨hM, hB, ⟨f13, f14, f12, f15, f16, f17⟩, f8⟩ := id hS
  have o0 := hM.o
  have hO := hB.2.1.1
  have hp := tP_bd (n := n) (B := B) (by omega) i
  have he := en_bd (n := n) (B := B) (p := tP n B i) (by omega)
  have hm2 := mS2_c n B (tP n B i)
  refine Con.of (by decide) (Nat.le_of_ble_eq_true rfl) rfl ?_
  refine g_aload_n (j := 0) rfl dX12_fails_0 ?_
  refine g_getI dX12_fails_1 flX12_153 rfl (by assumption) (kz := 8) rfl ?_
  refine g_if_eq (tgt := 9) dX12_fails_4 (by decide) (by omega) (fun h4 => ?_) (fun h4 => ?_)
  · refine g_aload_n (j := 0) rfl dX12_fails_9 ?_
    refine g_iload_n (j := 1) rfl dX12_fails_10 ?_
    refine g_putI dX12_fails_11 fpX12_153 rfl rfl rfl (by assumption) (kz := 8) rfl ?_
    refine g_aload_n (j := 0) rfl dX12_fails_14 ?_
    refine g_aload_n (j := 0) rfl dX12_fails_15 ?_
    refine g_getIv dX12_fails_16 flX12_129 rfl (by simp only [IsO_sI, IsO_sL, IsO_sR, IsO_wI, IsO_wL, IsA_sI, IsA_sL, IsA_sR, IsA_wI, IsA_wL, mR_sI, mR_sL, mR_wI, mR_wL]; assumption) (kz := 13) rfl (by simp [mI_sI, mI_sL, mI_sR, mI_wI, mI_wL, mL_sI, mL_sL, mL_sR, mL_wI, mL_wL, f13, e18, e19]; rfl) ?_
    refine g_putI dX12_fails_19 fpX12_156 rfl rfl rfl (by simp only [IsO_sI, IsO_sL, IsO_sR, IsO_wI, IsO_wL, IsA_sI, IsA_sL, IsA_sR, IsA_wI, IsA_wL, mR_sI, mR_sL, mR_wI, mR_wL]; assumption) (kz := 9) rfl ?_
    refine g_aload_n (j := 0) rfl dX12_fails_22 ?_
    refine g_aload_n (j := 0) rfl dX12_fails_23 ?_
    refine g_getIv dX12_fails_24 flX12_159 rfl (by simp only [IsO_sI, IsO_sL, IsO_sR, IsO_wI, IsO_wL, IsA_sI, IsA_sL, IsA_sR, IsA_wI, IsA_wL, mR_sI, mR_sL, mR_wI, mR_wL]; assumption) (kz := 18) rfl (by simp [mI_sI, mI_sL, mI_sR, mI_wI, mI_wL, mL_sI, mL_sL, mL_sR, mL_wI, mL_wL, f13, e18, e19]; rfl) ?_
    refine g_putI dX12_fails_27 fpX12_162 rfl rfl rfl (by simp only [IsO_sI, IsO_sL, IsO_sR, IsO_wI, IsO_wL, IsA_sI, IsA_sL, IsA_sR, IsA_wI, IsA_wL, mR_sI, mR_sL, mR_wI, mR_wL]; assumption) (kz := 10) rfl ?_
    refine g_aload_n (j := 0) rfl dX12_fails_30 ?_
    refine g_aload_n (j := 0) rfl dX12_fails_31 ?_
    refine g_getIv dX12_fails_32 flX12_165 rfl (by simp only [IsO_sI, IsO_sL, IsO_sR, IsO_wI, IsO_wL, IsA_sI, IsA_sL, IsA_sR, IsA_wI, IsA_wL, mR_sI, mR_sL, mR_wI, mR_wL]; assumption) (kz := 19) rfl (by simp [mI_sI, mI_sL, mI_sR, mI_wI, mI_wL, mL_sI, mL_sL, mL_sR, mL_wI, mL_wL, f13, e18, e19]; rfl) ?_
    refine g_putI dX12_fails_35 fpX12_168 rfl rfl rfl (by simp only [IsO_sI, IsO_sL, IsO_sR, IsO_wI, IsO_wL, IsA_sI, IsA_sL, IsA_sR, IsA_wI, IsA_wL, mR_sI, mR_sL, mR_wI, mR_wL]; assumption) (kz := 11) rfl ?_
    refine g_iconst dX12_fails_38 ?_
    refine G.retZ dX12_fails_39 rfl (Or.inl rfl) ⟨rfl, ((FrZ.sI (Or.inr (by omega))).tr (FrZ.sI (Or.inr (by omega)))).tr ((FrZ.sI (Or.inr (by omega))).tr (FrZ.sI (Or.inr (by omega)))), ?_⟩
    unfold BaM fa4
    simp [mI_sI]
  · omega
theorem c_nextS (w : WC) (d : Nat) (μ : Mem) {m i : Nat} {n : Int} {B : Int → Int} (hS : StM w μ m n B i) : Con w (d + 2) mX12_next 0 0 [vP (some m)] μ (fun v μ2 => v = none ∧ StM w μ2 m n B (i + 1) ∧ RmS m μ μ2) := by
  obtain ⟨hM, hB, ⟨f13, f14, f12, f15, f16, f17⟩, f8⟩ := id hS
  have o0 := hM.o
  have hO := hB.2.1.1
  have hp := tP_bd (n := n) (B := B) (by omega) i
  have he := en_bd (n := n) (B := B) (p := tP n B i) (by omega)
  have hm2 := mS2_c n B (tP n B i)
  refine (c_next w d μ hM hB f14 (by omega)).post fun v μ2 hq => ?_
  obtain ⟨q1, q2, q3⟩ := hq
  exact ⟨q1, ⟨FrZ.Mo q3 hM, TpM.fr hB q3 hM (by unfold Jn; omega) (fun z => z), q2, (q3.2 8 (by unfold Jn; omega)).trans f8⟩, q3⟩
theorem c_takesSign (w : WC) (d : Nat) (μ : Mem) {m i : Nat} {n : Int} {B : Int → Int} (hS : StM w μ m n B i) {c fo fi : Int} (hc : 0 ≤ c ∧ c ≤ 127) (e18 : mI μ m 18 = fo) (e19 : mI μ m 19 = fi) : Con w (d + 3) mX12_takesSign 0 0 [vP (some m), vI c] μ (fun v μ2 => (isSg n B (tP n B i) c ∧ v = some (vI 1) ∧ StM w μ2 m n B (i + 1) ∧ RmS m μ μ2) ∨ (¬ isSg n B (tP n B i) c ∧ v = some (vI 0) ∧ RmE m (fa4 1 (tP n B i) fo fi) μ μ2)) := by
  have o0 := hS.1.o
  refine Con.of (by decide) (Nat.le_of_ble_eq_true rfl) rfl ?_
  refine g_aload_n (j := 0) rfl dX12_takesSign_0 ?_
  refine g_iload_n (j := 1) rfl dX12_takesSign_1 ?_
  refine g_callV dX12_takesSign_2 mlX12_184 mvX12_isSign (ci := 12) ⟨by decide, rfl⟩ (by assumption) (c_isSign12 w (d + 2) μ hS hc) sv1 rfl (by omega) (Nat.le_of_ble_eq_true rfl) (Nat.le_refl _) (Nat.le_refl _) (fun v μ2 hR => ?_)
  obtain ⟨rfl, hm⟩ := hR
  replace hm := hm.symm
  subst hm
  refine g_ifb_ne (tgt := 14) dX12_takesSign_5 (by decide)  (fun h5 => ?_) (fun h5 => ?_)
  · refine g_aload_n (j := 0) rfl dX12_takesSign_14 ?_
    refine g_callV dX12_takesSign_15 mlX12_190 mvX12_next (ci := 12) ⟨by decide, rfl⟩ (by assumption) (c_nextS w d μ hS) sv0 rfl (by omega) (Nat.le_of_ble_eq_true rfl) (Nat.le_refl _) (Nat.le_refl _) (fun v μ2 hR => ?_)
    obtain ⟨rfl, hS2, hs2⟩ := hR
    refine g_iconst dX12_takesSign_18 ?_
    exact G.retZ dX12_takesSign_19 rfl (Or.inr rfl) (Or.inl ⟨h5, rfl, hS2, hs2⟩)
  · refine g_aload_n (j := 0) rfl dX12_takesSign_8 ?_
    refine g_iconst dX12_takesSign_9 ?_
    refine g_callV dX12_takesSign_10 mlX12_187 mvX12_fails (ci := 12) ⟨by decide, rfl⟩ (by assumption) (c_fails w (d + 2) μ hS (k := 1) e18 e19) sv1 rfl (by omega) (Nat.le_of_ble_eq_true rfl) (Nat.le_refl _) (Nat.le_refl _) (fun v μ2 hR => ?_)
    obtain ⟨rfl, hE⟩ := hR
    exact G.retZ dX12_takesSign_13 rfl (Or.inl rfl) (Or.inr ⟨h5, rfl, hE⟩)
theorem mN2_ka {n : Int} {B : Int → Int} {p : Int} (h : isN n B p) : mN2 n B p = ka n B p := by
  unfold mN2 ka
  rw [if_pos ⟨h.1, h.2.1⟩, if_pos h.1, if_pos h.2.1]
/-- behind comesToWhole: less, and the N that is looked at -/
theorem c_whole (w : WC) (d : Nat) (μ : Mem) {m i : Nat} {n : Int} {B : Int → Int} (hS : StM w μ m n B (jW n B i)) (hN : isN n B (tP n B (jW n B i))) (e20 : mI μ m 20 = bI (isSg n B (tP n B i) 45)) : Con w d mX12_whole 0 0 [vP (some m)] μ (fun v μ2 => v = some (vI (vW n B i)) ∧ μ2 = μ) := by
  obtain ⟨hM, hB, ⟨f13, f14, f12, f15, f16, f17⟩, f8⟩ := id hS
  have o0 := hM.o
  rw [mN2_ka hN] at f16
  have h01 := bI_01 (isSg n B (tP n B i) 45)
  unfold vW
  refine Con.of (by decide) (Nat.le_of_ble_eq_true rfl) rfl ?_
  refine g_aload_n (j := 0) rfl dX12_whole_0 ?_
  refine g_getI dX12_whole_1 flX12_210 rfl (by assumption) (kz := 20) rfl ?_
  rw [e20]
  refine g_if_eq (tgt := 15) dX12_whole_4 (by decide) (by omega) (fun h4 => ?_) (fun h4 => ?_)
  · refine g_aload_n (j := 0) rfl dX12_whole_15 ?_
    refine g_getI dX12_whole_16 flX12_136 rfl (by assumption) (kz := 16) rfl ?_
    try rw [f16]
    first
    | exact G.retI dX12_whole_19 rfl ⟨by rw [cI_t (bI_is1.mp (by omega))], rfl⟩
    | exact G.retI dX12_whole_19 rfl ⟨by rw [cI_f (bI_is0.mp (by omega))], rfl⟩
  · refine g_aload_n (j := 0) rfl dX12_whole_7 ?_
    refine g_getI dX12_whole_8 flX12_136 rfl (by assumption) (kz := 16) rfl ?_
    rw [f16]
    refine g_ineg dX12_whole_11 ?_
    refine g_goto (tgt := 19) (by decide) dX12_whole_12 ?_
    try rw [f16]
    first
    | exact G.retI dX12_whole_19 rfl ⟨by rw [cI_t (bI_is1.mp (by omega))], rfl⟩
    | exact G.retI dX12_whole_19 rfl ⟨by rw [cI_f (bI_is0.mp (by omega))], rfl⟩
theorem c_comes (w : WC) (d : Nat) (μ : Mem) {m i : Nat} {n : Int} {B : Int → Int} (hS : StM w μ m n B i) {fo fi : Int} (e18 : mI μ m 18 = fo) (e19 : mI μ m 19 = fi) : Con w (d + 3) mX12_comesToWhole 0 0 [vP (some m)] μ (fun v μ2 => (isN n B (tP n B (jW n B i)) ∧ v = some (vI 1) ∧ StM w μ2 m n B (jW n B i) ∧ mI μ2 m 20 = bI (isSg n B (tP n B i) 45) ∧ RmT m μ μ2) ∨ (¬ isN n B (tP n B (jW n B i)) ∧ v = some (vI 0) ∧ RmE m (fa4 1 (tP n B (jW n B i)) fo fi) μ μ2)) := by
  have o0 := hS.1.o
  have h01 := bI_01 (isSg n B (tP n B i) 45)
  have hf1 : RmT m μ (sI μ m 20 (bI (isSg n B (tP n B i) 45))) := FrZ.sI (Or.inr rfl)
  have hS1 : StM w (sI μ m 20 (bI (isSg n B (tP n B i) 45))) m n B i := hS.fr (FrZ.sI (P := fun _ => False) (J := fun j => j = 20) rfl) ⟨by omega, by omega, fun j _ _ => by omega⟩ (fun z => z) rfl
  have g18 : mI (sI μ m 20 (bI (isSg n B (tP n B i) 45))) m 18 = fo := by rw [mI_sI, if_neg (by omega)]; exact e18
  have g19 : mI (sI μ m 20 (bI (isSg n B (tP n B i) 45))) m 19 = fi := by rw [mI_sI, if_neg (by omega)]; exact e19
  have g20 : mI (sI μ m 20 (bI (isSg n B (tP n B i) 45))) m 20 = bI (isSg n B (tP n B i) 45) := by rw [mI_sI, if_pos ⟨rfl, rfl⟩]
  refine Con.of (by decide) (Nat.le_of_ble_eq_true rfl) rfl ?_
  refine g_aload_n (j := 0) rfl dX12_comesToWhole_0 ?_
  refine g_aload_n (j := 0) rfl dX12_comesToWhole_1 ?_
  refine g_bipush dX12_comesToWhole_2 (by omega) ?_
  refine g_callV dX12_comesToWhole_4 mlX12_184 mvX12_isSign (ci := 12) ⟨by decide, rfl⟩ (by assumption) (c_isSign12 w (d + 2) μ hS (c := 45) (by omega)) sv1 rfl (by omega) (Nat.le_of_ble_eq_true rfl) (Nat.le_refl _) (Nat.le_refl _) (fun v μ2 hR => ?_)
  obtain ⟨rfl, hm⟩ := hR
  replace hm := hm.symm
  subst hm
  refine g_putI dX12_comesToWhole_7 fpX12_210 rfl (nar_bool (by omega)) (fit_bool (by omega)) (by assumption) (kz := 20) rfl ?_
  generalize sI μ m 20 (bI (isSg n B (tP n B i) 45)) = μ1 at *
  have o01 := hS1.1.o
  refine g_aload_n (j := 0) rfl dX12_comesToWhole_10 ?_
  refine g_getI dX12_comesToWhole_11 flX12_210 rfl (by assumption) (kz := 20) rfl ?_
  rw [g20]
  refine g_if_eq (tgt := 21) dX12_comesToWhole_14 (by decide) (by omega) (fun h14 => ?_) (fun h14 => ?_)
  · have hsn := bI_is0.mp h14
    have hj := jW_0 hsn
    have hS2 := hS1
    have hs2 : RmT m μ μ1 := hf1
    have g182 := g18
    have g192 := g19
    have g202 := g20
    refine g_aload_n (j := 0) rfl dX12_comesToWhole_21 ?_
    refine g_callV dX12_comesToWhole_22 mlX12_214 mvX12_isNumber (ci := 12) ⟨by decide, rfl⟩ (by assumption) (c_isNumber12 w (d + 2) _ hS2) sv0 rfl (by omega) (Nat.le_of_ble_eq_true rfl) (Nat.le_refl _) (Nat.le_refl _) (fun v μ2 hR => ?_)
    obtain ⟨rfl, hm⟩ := hR
    replace hm := hm.symm
    subst hm
    refine g_ifb_ne (tgt := 36) dX12_comesToWhole_25 (by decide)  (fun h25 => ?_) (fun h25 => ?_)
    · refine g_iconst dX12_comesToWhole_36 ?_
      refine g_goto (tgt := 41) (by decide) dX12_comesToWhole_37 ?_
      first
      | (exfalso; omega)
      | (rw [← hj] at h25 hS2
         exact G.retZ dX12_comesToWhole_41 rfl (Or.inr rfl) (Or.inl ⟨h25, rfl, hS2, g202, hs2⟩))
      | (rw [← hj] at h25 hE
         exact G.retZ dX12_comesToWhole_41 rfl (Or.inl rfl) (Or.inr ⟨h25, rfl, hs2.E hE⟩))
    · refine g_aload_n (j := 0) rfl dX12_comesToWhole_28 ?_
      refine g_iconst dX12_comesToWhole_29 ?_
      refine g_callV dX12_comesToWhole_30 mlX12_187 mvX12_fails (ci := 12) ⟨by decide, rfl⟩ (by assumption) (c_fails w (d + 2) _ hS2 (k := 1) g182 g192) sv1 rfl (by omega) (Nat.le_of_ble_eq_true rfl) (Nat.le_refl _) (Nat.le_refl _) (fun v μ3 hR => ?_)
      obtain ⟨rfl, hE⟩ := hR
      refine g_if_eq (tgt := 40) dX12_comesToWhole_33 (by decide) (by omega) (fun h33 => ?_) (fun h33 => ?_)
      · refine g_iconst dX12_comesToWhole_40 ?_
        first
        | (exfalso; omega)
        | (rw [← hj] at h25 hS2
           exact G.retZ dX12_comesToWhole_41 rfl (Or.inr rfl) (Or.inl ⟨h25, rfl, hS2, g202, hs2⟩))
        | (rw [← hj] at h25 hE
           exact G.retZ dX12_comesToWhole_41 rfl (Or.inl rfl) (Or.inr ⟨h25, rfl, hs2.E hE⟩))
      · refine g_iconst dX12_comesToWhole_36 ?_
        refine g_goto (tgt := 41) (by decide) dX12_comesToWhole_37 ?_
        first
        | (exfalso; omega)
        | (rw [← hj] at h25 hS2
           exact G.retZ dX12_comesToWhole_41 rfl (Or.inr rfl) (Or.inl ⟨h25, rfl, hS2, g202, hs2⟩))
        | (rw [← hj] at h25 hE
           exact G.retZ dX12_comesToWhole_41 rfl (Or.inl rfl) (Or.inr ⟨h25, rfl, hs2.E hE⟩))
  · refine g_aload_n (j := 0) rfl dX12_comesToWhole_17 ?_
    refine g_callV dX12_comesToWhole_18 mlX12_190 mvX12_next (ci := 12) ⟨by decide, rfl⟩ (by assumption) (c_nextS w d μ1 hS1) sv0 rfl (by omega) (Nat.le_of_ble_eq_true rfl) (Nat.le_refl _) (Nat.le_refl _) (fun v μ2 hR => ?_)
    obtain ⟨rfl, hS2, hs2b⟩ := hR
    have hs2 : RmT m μ _ := FrZ.tr hf1 hs2b.T
    have hsn := bI_is1.mp (show bI (isSg n B (tP n B i) 45) = 1 by omega)
    have hj := jW_1 hsn
    have g182 := (hs2b.2 18 (by unfold Jn; omega)).trans g18
    have g192 := (hs2b.2 19 (by unfold Jn; omega)).trans g19
    have g202 := (hs2b.2 20 (by unfold Jn; omega)).trans g20
    have o02 := hS2.1.o
    refine g_aload_n (j := 0) rfl dX12_comesToWhole_21 ?_
    refine g_callV dX12_comesToWhole_22 mlX12_214 mvX12_isNumber (ci := 12) ⟨by decide, rfl⟩ (by assumption) (c_isNumber12 w (d + 2) _ hS2) sv0 rfl (by omega) (Nat.le_of_ble_eq_true rfl) (Nat.le_refl _) (Nat.le_refl _) (fun v μ2 hR => ?_)
    obtain ⟨rfl, hm⟩ := hR
    replace hm := hm.symm
    subst hm
    refine g_ifb_ne (tgt := 36) dX12_comesToWhole_25 (by decide)  (fun h25 => ?_) (fun h25 => ?_)
    · refine g_iconst dX12_comesToWhole_36 ?_
      refine g_goto (tgt := 41) (by decide) dX12_comesToWhole_37 ?_
      first
      | (exfalso; omega)
      | (rw [← hj] at h25 hS2
         exact G.retZ dX12_comesToWhole_41 rfl (Or.inr rfl) (Or.inl ⟨h25, rfl, hS2, g202, hs2⟩))
      | (rw [← hj] at h25 hE
         exact G.retZ dX12_comesToWhole_41 rfl (Or.inl rfl) (Or.inr ⟨h25, rfl, hs2.E hE⟩))
    · refine g_aload_n (j := 0) rfl dX12_comesToWhole_28 ?_
      refine g_iconst dX12_comesToWhole_29 ?_
      refine g_callV dX12_comesToWhole_30 mlX12_187 mvX12_fails (ci := 12) ⟨by decide, rfl⟩ (by assumption) (c_fails w (d + 2) _ hS2 (k := 1) g182 g192) sv1 rfl (by omega) (Nat.le_of_ble_eq_true rfl) (Nat.le_refl _) (Nat.le_refl _) (fun v μ3 hR => ?_)
      obtain ⟨rfl, hE⟩ := hR
      refine g_if_eq (tgt := 40) dX12_comesToWhole_33 (by decide) (by omega) (fun h33 => ?_) (fun h33 => ?_)
      · refine g_iconst dX12_comesToWhole_40 ?_
        first
        | (exfalso; omega)
        | (rw [← hj] at h25 hS2
           exact G.retZ dX12_comesToWhole_41 rfl (Or.inr rfl) (Or.inl ⟨h25, rfl, hS2, g202, hs2⟩))
        | (rw [← hj] at h25 hE
           exact G.retZ dX12_comesToWhole_41 rfl (Or.inl rfl) (Or.inr ⟨h25, rfl, hs2.E hE⟩))
      · refine g_iconst dX12_comesToWhole_36 ?_
        refine g_goto (tgt := 41) (by decide) dX12_comesToWhole_37 ?_
        first
        | (exfalso; omega)
        | (rw [← hj] at h25 hS2
           exact G.retZ dX12_comesToWhole_41 rfl (Or.inr rfl) (Or.inl ⟨h25, rfl, hS2, g202, hs2⟩))
        | (rw [← hj] at h25 hE
           exact G.retZ dX12_comesToWhole_41 rfl (Or.inl rfl) (Or.inr ⟨h25, rfl, hs2.E hE⟩))
end TM
