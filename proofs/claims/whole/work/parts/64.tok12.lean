/-! THE MODEL: tokens -/
def FrZ (m : Nat) (P : Nat → Prop) (J : Int → Prop) (μ μ2 : Mem) : Prop := Fr (fun a => a = m ∨ P a) (fun _ _ => False) μ μ2 ∧ ∀ j, ¬ J j → mI μ2 m j = mI μ m j
theorem FrZ.rf {m : Nat} {P : Nat → Prop} {J : Int → Prop} {μ : Mem} : FrZ m P J μ μ := ⟨Fr.rf, fun _ _ => rfl⟩
theorem FrZ.tr {m : Nat} {P : Nat → Prop} {J : Int → Prop} {μ μ2 μ3 : Mem} (h : FrZ m P J μ μ2) (h2 : FrZ m P J μ2 μ3) : FrZ m P J μ μ3 := ⟨h.1.tr h2.1, fun j hj => (h2.2 j hj).trans (h.2 j hj)⟩
theorem FrZ.mono {m : Nat} {P P2 : Nat → Prop} {J J2 : Int → Prop} {μ μ2 : Mem} (h : FrZ m P J μ μ2) (hP : ∀ a, P a → P2 a) (hJ : ∀ j, J j → J2 j) : FrZ m P2 J2 μ μ2 := ⟨h.1.mono (fun _ _ z => z.imp id (hP _)) (fun _ _ _ z => z), fun j hj => h.2 j fun z => hj (hJ j z)⟩
theorem FrZ.sI {m : Nat} {P : Nat → Prop} {J : Int → Prop} {μ : Mem} {j v : Int} (hj : J j) : FrZ m P J μ (_root_.Jvm.Pilot.CToldPowersLaw_law_r3284_2a4c2b.sI μ m j v) := ⟨Fr.sI (Or.inl rfl), fun i hi => by rw [mI_sI, if_neg (fun z => hi (by rw [z.2]; exact hj))]⟩
theorem FrZ.sL {m : Nat} {P : Nat → Prop} {J : Int → Prop} {μ : Mem} {j v : Int} : FrZ m P J μ (_root_.Jvm.Pilot.CToldPowersLaw_law_r3284_2a4c2b.sL μ m j v) := ⟨Fr.sL (Or.inl rfl), fun i hi => rfl⟩
theorem FrM.Z {m : Nat} {P : Nat → Prop} {J : Int → Prop} {μ μ2 : Mem} (h : FrM m P J μ μ2) : FrZ m P J μ μ2 := ⟨h.1, h.2.1⟩
theorem FrZ.Mo {w : WC} {m : Nat} {P : Nat → Prop} {J : Int → Prop} {μ μ2 : Mem} (h : FrZ m P J μ μ2) (hM : MoS w μ m) : MoS w μ2 m := FrM.Mo (μ := μ) (μ2 := wL μ2 m (mL μ m)) (P := P) (J := J) ⟨h.1.tr (Fr.wL (Or.inl rfl)), h.2, fun j => by rw [mL_wL, if_pos rfl]⟩ hM
theorem FrZ.MA {w : WC} {m : Nat} {P : Nat → Prop} {J : Int → Prop} {F : Int → List Tm} {μ μ2 : Mem} (h : FrZ m P J μ μ2) (hA : MA w μ m F) (hP : ¬ P (m + 1) ∧ ¬ P (m + 2) ∧ ¬ P (m + 4) ∧ ¬ P (m + 5)) (hJ : ¬ J 21 ∧ ¬ J 23) : MA w μ2 m F := by
  have h2 := FrM.MA (μ := μ) (μ2 := wL μ2 m (mL μ m)) (P := P) (J := J) ⟨h.1.tr (Fr.wL (Or.inl rfl)), h.2, fun j => by rw [mL_wL, if_pos rfl]⟩ hA hP hJ
  obtain ⟨q1, q2, q3, q4⟩ := h2
  refine ⟨h.Mo hA.1, q2, ⟨q3.1, fun z => ?_⟩, q4.1, fun z => ?_⟩
  · have := q3.2 z
    rwa [show mL (wL μ2 m (mL μ m)) (m + 4) = mL μ2 (m + 4) from funext fun j => by rw [mL_wL, if_neg (by omega)]] at this
  · have := q4.2 z
    simp only [show mL (wL μ2 m (mL μ m)) (m + 5) = mL μ2 (m + 5) from funext fun j => by rw [mL_wL, if_neg (by omega)]] at this
    exact this
theorem TpM.fr {w : WC} {m : Nat} {P : Nat → Prop} {J : Int → Prop} {μ μ2 : Mem} {n : Int} {B : Int → Int} (h : TpM μ m n B) (hf : FrZ m P J μ μ2) (hM : MoS w μ m) (hJ : ¬ J 3) (hP : ¬ P (m + 3)) : TpM μ2 m n B := ⟨(hf.2 3 hJ).trans h.1, h.2.1, fun j z1 z2 => (hf.1.I hM.a2.2.1 (fun z => z.elim (by omega) hP) j).trans (h.2.2 j z1 z2)⟩
def wdB (B : Int → Int) : Nat → Int → Int → Int
  | 0, _, a => a
  | k + 1, p, a => wdB B k (p + 1) (a * 32 + (B p - 96))
def wdF (n : Int) (B : Int → Int) (p : Int) : Int := wdB B (min (en n B p - p) 7).toNat p 0
def mS2 (n : Int) (B : Int → Int) (p : Int) : Int := if p < n then (if srt (B p) = 1 then 2 else if srt (B p) = 2 then 1 else 3) else 0
def mW2 (n : Int) (B : Int → Int) (p : Int) : Int := if p < n ∧ srt (B p) = 2 then wdF n B p else 0
def mN2 (n : Int) (B : Int → Int) (p : Int) : Int := if p < n ∧ srt (B p) = 1 then am n B p else 0
def mG2 (n : Int) (B : Int → Int) (p : Int) : Int := if p < n ∧ srt (B p) = 3 then B p else 0
/-- the token at p is looked at -/
def NxM (μ : Mem) (m : Nat) (n : Int) (B : Int → Int) (p : Int) : Prop := mI μ m 13 = p ∧ mI μ m 14 = en n B p ∧ mI μ m 12 = mS2 n B p ∧ mL μ m 15 = mW2 n B p ∧ mI μ m 16 = mN2 n B p ∧ mI μ m 17 = mG2 n B p
def Jn (j : Int) : Prop := 12 ≤ j ∧ j ≤ 17
def RmS (m : Nat) : Mem → Mem → Prop := FrZ m (fun _ => False) Jn
theorem lgN {z : Int} (h : 0 ≤ z ∧ z < 9223372036854775808) : (lg z).toBitVec.toNat = z.toNat := by
  show (BitVec.ofInt 64 z).toNat = _
  rw [BitVec.toNat_ofInt]
  omega
theorem lgI {x : Int64} {k : Nat} (h : x.toBitVec.toNat = k) (hk : k < 9223372036854775808) : x.toInt = k := by
  have h2 : x.toInt = x.toBitVec.toInt := rfl
  rw [h2, BitVec.toInt_eq_toNat_cond, h]
  split <;> omega
theorem shl5 {a : Int} (h : 0 ≤ a ∧ a < 100000000000) : (lg a <<< ((iv 5).toInt64 &&& 63)).toInt = a * 32 := by
  have h1 : (lg a <<< ((iv 5).toInt64 &&& 63)).toBitVec.toNat = (a * 32).toNat := by
    rw [Int64.toBitVec_shiftLeft, BitVec.shiftLeft_eq', show (((iv 5).toInt64 &&& 63).toBitVec.smod 64).toNat = 5 from by decide, BitVec.toNat_shiftLeft, lgN (by omega), Nat.shiftLeft_eq]
    omega
  rw [lgI h1 (by omega)]
  omega
theorem or5 {a c : Int} (h : 0 ≤ a ∧ a < 100000000000) (hc : 0 ≤ c ∧ c < 32) : (lg (a * 32) ||| lg c).toInt = a * 32 + c := by
  have h1 : (lg (a * 32) ||| lg c).toBitVec.toNat = (a * 32 + c).toNat := by
    rw [Int64.toBitVec_or, BitVec.toNat_or, lgN (by omega), lgN (by omega)]
    have := Nat.two_pow_add_eq_or_of_lt (i := 5) (b := c.toNat) (by omega) a.toNat
    rw [show (a * 32).toNat = 2 ^ 5 * a.toNat by omega, ← this]
    omega
  rw [lgI h1 (by omega)]
  omega
theorem wdB_bd {B : Int → Int} : ∀ (k : Nat) (p a : Int), (∀ j, p ≤ j → j < p + k → 97 ≤ B j ∧ B j ≤ 122) → 0 ≤ a → a ≤ wdB B k p a
  | 0, p, a, _, h => by unfold wdB; omega
  | k + 1, p, a, h, h0 => by
    have hp := h p (by omega) (by omega)
    unfold wdB
    have := wdB_bd k (p + 1) (a * 32 + (B p - 96)) (fun j z1 z2 => h j (by omega) (by omega)) (by omega)
    omega
theorem c_see (w : WC) (d : Nat) (μ : Mem) {m : Nat} {n : Int} {B : Int → Int} (hM : MoS w μ m) (hB : TpM μ m n B) {k : Int} (hk : 0 ≤ k ∧ k ≤ 2147483647) : Con w d mX12_see 0 0 [vP (some m), vI k] μ (fun v μ2 => v = some (vI (if k < n then B k else -1)) ∧ μ2 = μ) := by
  have o0 := hM.o
  have r2 := hM.r2
  have a2 := hM.a2
  have e3 := hB.1
  have hO := hB.2.1.1
  refine Con.of (by decide) (Nat.le_of_ble_eq_true rfl) rfl ?_
  refine g_iload_n (j := 1) rfl dX12_see_0 ?_
  refine g_aload_n (j := 0) rfl dX12_see_1 ?_
  refine g_getI dX12_see_2 flX12_115 rfl (by assumption) (kz := 3) rfl ?_
  refine g_icmp_ge (tgt := 17) dX12_see_5 (by decide) (by omega) (by omega) (fun h5 => ?_) (fun h5 => ?_)
  · refine g_iconst dX12_see_17 ?_
    first
    | exact G.retI dX12_see_18 rfl ⟨by rw [if_pos (by omega), hB.2.2 k (by omega) (by omega)], rfl⟩
    | exact G.retI dX12_see_18 rfl ⟨by rw [if_neg (by omega)], rfl⟩
  · refine g_aload_n (j := 0) rfl dX12_see_8 ?_
    refine g_getR dX12_see_9 flX12_18 rfl (by assumption) (kz := 2) rfl (by assumption) ?_
    refine g_iload_n (j := 1) rfl dX12_see_12 ?_
    refine g_iald dX12_see_13 (by assumption) (by omega) (by omega) ?_
    refine g_goto (tgt := 18) (by decide) dX12_see_14 ?_
    first
    | exact G.retI dX12_see_18 rfl ⟨by rw [if_pos (by omega), hB.2.2 k (by omega) (by omega)], rfl⟩
    | exact G.retI dX12_see_18 rfl ⟨by rw [if_neg (by omega)], rfl⟩
theorem sL_sI_c (μ : Mem) (a : Nat) (j k u v : Int) : sI (sL μ a k v) a j u = sL (sI μ a j u) a k v := rfl
theorem sL_sL (μ : Mem) (a : Nat) (k u v : Int) : sL (sL μ a k u) a k v = sL μ a k v := Mem.ext (fun _ _ => rfl) (fun y j => by rw [mL_sL, mL_sL, mL_sL]; split <;> rfl) (fun _ _ => rfl) rfl rfl
theorem lt_of_srt {b : Int} (h : srt b = 2) : 97 ≤ b ∧ b ≤ 122 := by
  unfold srt at h
  split at h
  · omega
  · split at h <;> omega
theorem nt_of_srt {b : Int} (h : srt b = 1) : 48 ≤ b ∧ b ≤ 57 := by
  unfold srt at h
  split at h
  · omega
  · split at h <;> omega
theorem wd_ub {B : Int → Int} : ∀ (k : Nat) (p a : Int), (∀ j, p ≤ j → j < p + k → 97 ≤ B j ∧ B j ≤ 122) → 0 ≤ a → wdB B k p a + 1 ≤ (a + 1) * 32 ^ k
  | 0, p, a, _, h => by unfold wdB; omega
  | k + 1, p, a, h, h0 => by
    have hp := h p (by omega) (by omega)
    unfold wdB
    refine Int.le_trans (wd_ub k (p + 1) (a * 32 + (B p - 96)) (fun j z1 z2 => h j (by omega) (by omega)) (by omega)) ?_
    rw [Int.pow_succ, Int.mul_comm (32 ^ k) 32, ← Int.mul_assoc]
    exact Int.mul_le_mul_of_nonneg_right (by omega) (Int.pow_nonneg (by omega))
theorem wdB_last {B : Int → Int} : ∀ (k : Nat) (p a : Int), wdB B (k + 1) p a = wdB B k p a * 32 + (B (p + k) - 96)
  | 0, p, a => by simp [wdB]
  | k + 1, p, a => by
    rw [wdB, wdB_last k (p + 1), wdB]
    rw [show p + 1 + (k : Int) = p + ((k + 1 : Nat) : Int) by omega]
theorem amB_last {B : Int → Int} : ∀ (k : Nat) (p a : Int), amB B (k + 1) p a = 10 * amB B k p a + B (p + k) - 48
  | 0, p, a => by simp [amB]
  | k + 1, p, a => by
    rw [amB, amB_last k (p + 1), amB]
    rw [show p + 1 + (k : Int) = p + ((k + 1 : Nat) : Int) by omega]
section NX
variable {w : WC} {d m : Nat} {n : Int} {B : Int → Int} {R : Option AV → Mem → Prop}
theorem s14 {μ : Mem} (hM : MoS w μ m) (hB : TpM μ m n B) (e : Int) : MoS w (sI μ m 14 e) m ∧ TpM (sI μ m 14 e) m n B := ⟨hM.of_sI, TpM.fr hB (FrZ.sI (P := fun _ => False) (J := Jn) (by unfold Jn; omega)) hM (by unfold Jn; omega) (fun z => z)⟩
theorem l12_skip {μ : Mem} (hM : MoS w μ m) (hB : TpM μ m n B) {q : Int} (kk : G w (d + 2) mX12_next R 0 0 39 [some (vP (some m)), none] [] (sI μ m 14 q)) : ∀ (k : Nat) (p : Int), (n - p).toNat = k → 0 ≤ p → p ≤ n → sk n B p = q →
    G w (d + 2) mX12_next R 0 0 0 [some (vP (some m)), none] [] (sI μ m 14 p) := by
  have hO := hB.2.1.1
  intro k
  induction k with
  | zero =>
    intro p hk h0 h1 hq
    obtain ⟨hM1, hB1⟩ := s14 hM hB p
    have o0 := hM1.o
    have e14 : mI (sI μ m 14 p) m 14 = p := by rw [mI_sI, if_pos ⟨rfl, rfl⟩]
    have hs := sk_stop (n := n) (B := B) (p := p) (by omega)
    rw [hs] at hq
    subst hq
    refine g_aload_n (j := 0) rfl dX12_next_0 ?_
    refine g_aload_n (j := 0) rfl dX12_next_1 ?_
    refine g_getI dX12_next_2 flX12_122 rfl (by assumption) (kz := 14) rfl ?_
    rw [e14]
    refine g_callV dX12_next_5 mlX12_125 mvX12_see (ci := 12) ⟨by decide, rfl⟩ (by assumption) (c_see w (d + 1) _ hM1 hB1 (k := p) (by omega)) sv1 rfl (by omega) (Nat.le_of_ble_eq_true rfl) (Nat.le_refl _) (Nat.le_refl _) (fun v μ2 hR => ?_)
    obtain ⟨rfl, hm⟩ := hR
    replace hm := hm.symm
    subst hm
    rw [if_neg (by omega)]
    refine g_bipush dX12_next_8 (by omega) ?_
    refine g_icmp_eq (tgt := 26) dX12_next_10 (by decide) (by omega) (by omega) (fun h10 => ?_) (fun h10 => ?_)
    · omega
    · refine g_aload_n (j := 0) rfl dX12_next_13 ?_
      refine g_aload_n (j := 0) rfl dX12_next_14 ?_
      refine g_getI dX12_next_15 flX12_122 rfl (by assumption) (kz := 14) rfl ?_
      rw [e14]
      refine g_callV dX12_next_18 mlX12_125 mvX12_see (ci := 12) ⟨by decide, rfl⟩ (by assumption) (c_see w (d + 1) _ hM1 hB1 (k := p) (by omega)) sv1 rfl (by omega) (Nat.le_of_ble_eq_true rfl) (Nat.le_refl _) (Nat.le_refl _) (fun v μ2 hR => ?_)
      obtain ⟨rfl, hm⟩ := hR
      replace hm := hm.symm
      subst hm
      rw [if_neg (by omega)]
      refine g_bipush dX12_next_21 (by omega) ?_
      refine g_icmp_ne (tgt := 39) dX12_next_23 (by decide) (by omega) (by omega) (fun h23 => ?_) (fun h23 => ?_)
      · first
        | (exfalso; omega)
        | exact kk
      · omega
  | succ k ih =>
    intro p hk h0 h1 hq
    obtain ⟨hM1, hB1⟩ := s14 hM hB p
    have o0 := hM1.o
    have e14 : mI (sI μ m 14 p) m 14 = p := by rw [mI_sI, if_pos ⟨rfl, rfl⟩]
    have hb := hB.2.1.2 p h0 (by omega)
    refine g_aload_n (j := 0) rfl dX12_next_0 ?_
    refine g_aload_n (j := 0) rfl dX12_next_1 ?_
    refine g_getI dX12_next_2 flX12_122 rfl (by assumption) (kz := 14) rfl ?_
    rw [e14]
    refine g_callV dX12_next_5 mlX12_125 mvX12_see (ci := 12) ⟨by decide, rfl⟩ (by assumption) (c_see w (d + 1) _ hM1 hB1 (k := p) (by omega)) sv1 rfl (by omega) (Nat.le_of_ble_eq_true rfl) (Nat.le_refl _) (Nat.le_refl _) (fun v μ2 hR => ?_)
    obtain ⟨rfl, hm⟩ := hR
    replace hm := hm.symm
    subst hm
    rw [if_pos (by omega)]
    refine g_bipush dX12_next_8 (by omega) ?_
    refine g_icmp_eq (tgt := 26) dX12_next_10 (by decide) (by omega) (by omega) (fun h10 => ?_) (fun h10 => ?_)
    · refine g_aload_n (j := 0) rfl dX12_next_26 ?_
      refine g_dup rfl dX12_next_27 ?_
      refine g_getI dX12_next_28 flX12_122 rfl (by assumption) (kz := 14) rfl ?_
      refine g_iconst dX12_next_31 ?_
      refine g_iadd dX12_next_32 ?_
      refine g_putI dX12_next_33 fpX12_122 rfl rfl rfl (by assumption) (kz := 14) rfl ?_
      refine g_goto (tgt := 0) (by decide) dX12_next_36 ?_
      rw [e14, sI_sI]
      refine ih (p + 1) (by omega) (by omega) (by omega) ?_
      rw [← hq, ← sk_step (by omega)]
    · refine g_aload_n (j := 0) rfl dX12_next_13 ?_
      refine g_aload_n (j := 0) rfl dX12_next_14 ?_
      refine g_getI dX12_next_15 flX12_122 rfl (by assumption) (kz := 14) rfl ?_
      rw [e14]
      refine g_callV dX12_next_18 mlX12_125 mvX12_see (ci := 12) ⟨by decide, rfl⟩ (by assumption) (c_see w (d + 1) _ hM1 hB1 (k := p) (by omega)) sv1 rfl (by omega) (Nat.le_of_ble_eq_true rfl) (Nat.le_refl _) (Nat.le_refl _) (fun v μ2 hR => ?_)
      obtain ⟨rfl, hm⟩ := hR
      replace hm := hm.symm
      subst hm
      rw [if_pos (by omega)]
      refine g_bipush dX12_next_21 (by omega) ?_
      refine g_icmp_ne (tgt := 39) dX12_next_23 (by decide) (by omega) (by omega) (fun h23 => ?_) (fun h23 => ?_)
      · rw [← sk_stop (n := n) (B := B) (p := p) (by omega), hq]
        exact kk
      · refine g_aload_n (j := 0) rfl dX12_next_26 ?_
        refine g_dup rfl dX12_next_27 ?_
        refine g_getI dX12_next_28 flX12_122 rfl (by assumption) (kz := 14) rfl ?_
        refine g_iconst dX12_next_31 ?_
        refine g_iadd dX12_next_32 ?_
        refine g_putI dX12_next_33 fpX12_122 rfl rfl rfl (by assumption) (kz := 14) rfl ?_
        refine g_goto (tgt := 0) (by decide) dX12_next_36 ?_
        rw [e14, sI_sI]
        refine ih (p + 1) (by omega) (by omega) (by omega) ?_
        rw [← hq, ← sk_step (by omega)]
theorem l12_word {μ : Mem} (hM : MoS w μ m) (hB : TpM μ m n B) {p : Int} (h13 : mI μ m 13 = p) (hp : 0 ≤ p ∧ p < n) (hs : srt (B p) = 2) {c : Int} (kk : R none (sL (sI μ m 14 (en n B p)) m 15 (wdF n B p))) : ∀ (k : Nat) (e a : Int), (n - e).toNat = k → p ≤ e → e ≤ n → (∀ j, p ≤ j → j < e → srt (B j) = 2) → (e < n ∧ srt (B e) = 2 → p ≤ e) → rn n B 2 e = en n B p → a = wdB B (min (e - p) 7).toNat p 0 → 0 ≤ a →
    G w (d + 2) mX12_next R 0 0 103 [some (vP (some m)), some (vI c)] [] (sL (sI μ m 14 e) m 15 a) := by
  have hO := hB.2.1.1
  intro k
  induction k with
  | zero =>
    intro e a hk h0 h1 hj hj2 hr ha ha0
    have hf : FrZ m (fun _ => False) Jn μ (sL (sI μ m 14 e) m 15 a) := (FrZ.sI (by unfold Jn; omega)).tr FrZ.sL
    have hM1 := hf.Mo hM
    have hB1 := TpM.fr hB hf hM (by unfold Jn; omega) (fun z => z)
    have o0 := hM1.o
    have e14 : mI (sL (sI μ m 14 e) m 15 a) m 14 = e := by rw [mI_sL, mI_sI, if_pos ⟨rfl, rfl⟩]
    have hen : e = en n B p := by rw [← hr, rn_stop (by omega)]
    refine g_aload_n (j := 0) rfl dX12_next_103 ?_
    refine g_aload_n (j := 0) rfl dX12_next_104 ?_
    refine g_getI dX12_next_105 flX12_122 rfl (by assumption) (kz := 14) rfl ?_
    rw [e14]
    refine g_callV dX12_next_108 mlX12_125 mvX12_see (ci := 12) ⟨by decide, rfl⟩ (by assumption) (c_see w (d + 1) _ hM1 hB1 (k := e) (by omega)) sv1 rfl (by omega) (Nat.le_of_ble_eq_true rfl) (Nat.le_refl _) (Nat.le_refl _) (fun v μ2 hR => ?_)
    obtain ⟨rfl, hm⟩ := hR
    replace hm := hm.symm
    subst hm
    rw [if_neg (by omega)]
    refine g_i2l (by omega) dX12_next_111 ?_
    refine g_ldc2 dX12_next_112 klX12_145 (z := 97) rfl ?_
    refine g_ldc2 dX12_next_115 klX12_147 (z := 122) rfl ?_
    refine g_callS dX12_next_118 mlX12_105 msX12_isIn (c_X12_isIn w (d + 1) _ (x := -1) (a := 97) (b := 122) (by omega) (by omega) (by omega)) sk3 rfl (by omega) (Nat.le_of_ble_eq_true rfl) (Nat.le_refl _) (Nat.le_refl _) (fun v μ2 hR => ?_)
    obtain ⟨rfl, hm⟩ := hR
    replace hm := hm.symm
    subst hm
    refine g_ifb_eq (tgt := 283) dX12_next_121 (by decide)  (fun h121 => ?_) (fun h121 => ?_)
    · refine G.retV dX12_next_283 rfl ?_
      rw [ha, hen]
      exact kk
    · omega
  | succ k ih =>
    intro e a hk h0 h1 hj hj2 hr ha ha0
    have hf : FrZ m (fun _ => False) Jn μ (sL (sI μ m 14 e) m 15 a) := (FrZ.sI (by unfold Jn; omega)).tr FrZ.sL
    have hM1 := hf.Mo hM
    have hB1 := TpM.fr hB hf hM (by unfold Jn; omega) (fun z => z)
    have o0 := hM1.o
    have e14 : mI (sL (sI μ m 14 e) m 15 a) m 14 = e := by rw [mI_sL, mI_sI, if_pos ⟨rfl, rfl⟩]
    have e13 : mI (sL (sI μ m 14 e) m 15 a) m 13 = p := by rw [mI_sL, mI_sI, if_neg (by omega)]; exact h13
    have e15 : mL (sL (sI μ m 14 e) m 15 a) m 15 = a := by rw [mL_sL, if_pos ⟨rfl, rfl⟩]
    have hb := hB.2.1.2 e (by omega) (by omega)
    have hsrt : srt (B e) = 2 ↔ 97 ≤ B e ∧ B e ≤ 122 := by
      unfold srt
      split
      · omega
      · split <;> omega
    refine g_aload_n (j := 0) rfl dX12_next_103 ?_
    refine g_aload_n (j := 0) rfl dX12_next_104 ?_
    refine g_getI dX12_next_105 flX12_122 rfl (by assumption) (kz := 14) rfl ?_
    rw [e14]
    refine g_callV dX12_next_108 mlX12_125 mvX12_see (ci := 12) ⟨by decide, rfl⟩ (by assumption) (c_see w (d + 1) _ hM1 hB1 (k := e) (by omega)) sv1 rfl (by omega) (Nat.le_of_ble_eq_true rfl) (Nat.le_refl _) (Nat.le_refl _) (fun v μ2 hR => ?_)
    obtain ⟨rfl, hm⟩ := hR
    replace hm := hm.symm
    subst hm
    rw [if_pos (by omega)]
    refine g_i2l (by omega) dX12_next_111 ?_
    refine g_ldc2 dX12_next_112 klX12_145 (z := 97) rfl ?_
    refine g_ldc2 dX12_next_115 klX12_147 (z := 122) rfl ?_
    refine g_callS dX12_next_118 mlX12_105 msX12_isIn (c_X12_isIn w (d + 1) _ (x := B e) (a := 97) (b := 122) (by omega) (by omega) (by omega)) sk3 rfl (by omega) (Nat.le_of_ble_eq_true rfl) (Nat.le_refl _) (Nat.le_refl _) (fun v μ2 hR => ?_)
    obtain ⟨rfl, hm⟩ := hR
    replace hm := hm.symm
    subst hm
    refine g_ifb_eq (tgt := 283) dX12_next_121 (by decide)  (fun h121 => ?_) (fun h121 => ?_)
    · refine G.retV dX12_next_283 rfl ?_
      have hen : e = en n B p := by rw [← hr, rn_stop (by omega)]
      rw [ha, hen]
      exact kk
    · have hs2 := hsrt.mpr (by omega)
      have hr2 : rn n B 2 (e + 1) = en n B p := by rw [← rn_step ⟨by omega, hs2⟩]; exact hr
      have hj3 : ∀ j, p ≤ j → j < e + 1 → srt (B j) = 2 := fun j z1 z2 => by
        by_cases hje : j = e
        · rw [hje]
          exact hs2
        · exact hj j z1 (by omega)
      refine g_aload_n (j := 0) rfl dX12_next_124 ?_
      refine g_getI dX12_next_125 flX12_122 rfl (by assumption) (kz := 14) rfl ?_
      rw [e14]
      refine g_aload_n (j := 0) rfl dX12_next_128 ?_
      refine g_getI dX12_next_129 flX12_129 rfl (by assumption) (kz := 13) rfl ?_
      rw [e13]
      refine g_isub dX12_next_132 ?_
      refine g_bipush dX12_next_133 (by omega) ?_
      refine g_icmp_ge (tgt := 161) dX12_next_135 (by decide) (by omega) (by omega) (fun h135 => ?_) (fun h135 => ?_)
      · refine g_aload_n (j := 0) rfl dX12_next_161 ?_
        refine g_dup rfl dX12_next_162 ?_
        refine g_getI dX12_next_163 flX12_122 rfl (by assumption) (kz := 14) rfl ?_
        refine g_iconst dX12_next_166 ?_
        refine g_iadd dX12_next_167 ?_
        refine g_putI dX12_next_168 fpX12_122 rfl rfl rfl (by assumption) (kz := 14) rfl ?_
        refine g_goto (tgt := 103) (by decide) dX12_next_171 ?_
        rw [e14, show sI (sL (sI μ m 14 e) m 15 a) m 14 (e + 1) = sL (sI μ m 14 (e + 1)) m 15 a from by rw [sL_sI_c, sI_sI]]
        refine ih (e + 1) a (by omega) (by omega) (by omega) hj3 (fun _ => by omega) hr2 ?_ ha0
        rw [ha, show (min (e + 1 - p) 7).toNat = (min (e - p) 7).toNat by omega]
      · have hab : 0 ≤ a ∧ a < 100000000000 := ⟨ha0, by
          rw [ha]
          have := wd_ub (B := B) (min (e - p) 7).toNat p 0 (fun j z1 z2 => lt_of_srt (hj j z1 (by omega))) (by omega)
          rcases (by omega : (min (e - p) 7).toNat = 0 ∨ (min (e - p) 7).toNat = 1 ∨ (min (e - p) 7).toNat = 2 ∨ (min (e - p) 7).toNat = 3 ∨ (min (e - p) 7).toNat = 4 ∨ (min (e - p) 7).toNat = 5 ∨ (min (e - p) 7).toNat = 6) with z | z | z | z | z | z | z <;> rw [z] at this ⊢ <;> omega⟩
        refine g_aload_n (j := 0) rfl dX12_next_138 ?_
        refine g_aload_n (j := 0) rfl dX12_next_139 ?_
        refine g_getJ dX12_next_140 flX12_132 rfl (by assumption) (kz := 15) rfl ?_
        rw [e15]
        refine g_iconst dX12_next_143 ?_
        refine g_lshl dX12_next_144 ?_
        rw [shl5 hab]
        refine g_aload_n (j := 0) rfl dX12_next_145 ?_
        refine g_aload_n (j := 0) rfl dX12_next_146 ?_
        refine g_getI dX12_next_147 flX12_122 rfl (by assumption) (kz := 14) rfl ?_
        rw [e14]
        refine g_callV dX12_next_150 mlX12_125 mvX12_see (ci := 12) ⟨by decide, rfl⟩ (by assumption) (c_see w (d + 1) _ hM1 hB1 (k := e) (by omega)) sv1 rfl (by omega) (Nat.le_of_ble_eq_true rfl) (Nat.le_refl _) (Nat.le_refl _) (fun v μ2 hR => ?_)
        obtain ⟨rfl, hm⟩ := hR
        replace hm := hm.symm
        subst hm
        rw [if_pos (by omega)]
        refine g_bipush dX12_next_153 (by omega) ?_
        refine g_isub dX12_next_155 ?_
        refine g_i2l (by omega) dX12_next_156 ?_
        refine g_lor dX12_next_157 ?_
        rw [or5 hab (by omega)]
        refine g_putJ dX12_next_158 fpX12_132 rfl rfl rfl (by assumption) (kz := 15) rfl ?_
        refine g_aload_n (j := 0) rfl dX12_next_161 ?_
        refine g_dup rfl dX12_next_162 ?_
        refine g_getIv dX12_next_163 flX12_122 rfl (by simp only [IsO_sI, IsO_sL, IsO_sR, IsO_wI, IsO_wL, IsA_sI, IsA_sL, IsA_sR, IsA_wI, IsA_wL, mR_sI, mR_sL, mR_wI, mR_wL]; assumption) (kz := 14) rfl (by simp [mI_sI, mI_sL, mI_sR, mI_wI, mI_wL, mL_sI, mL_sL, mL_sR, mL_wI, mL_wL, e14]; rfl) ?_
        refine g_iconst dX12_next_166 ?_
        refine g_iadd dX12_next_167 ?_
        refine g_putI dX12_next_168 fpX12_122 rfl rfl rfl (by simp only [IsO_sI, IsO_sL, IsO_sR, IsO_wI, IsO_wL, IsA_sI, IsA_sL, IsA_sR, IsA_wI, IsA_wL, mR_sI, mR_sL, mR_wI, mR_wL]; assumption) (kz := 14) rfl ?_
        refine g_goto (tgt := 103) (by decide) dX12_next_171 ?_
        rw [show sI (sL (sL (sI μ m 14 e) m 15 a) m 15 (a * 32 + (B e - 96))) m 14 (e + 1) = sL (sI μ m 14 (e + 1)) m 15 (a * 32 + (B e - 96)) from by rw [sL_sL, sL_sI_c, sI_sI]]
        refine ih (e + 1) _ (by omega) (by omega) (by omega) hj3 (fun _ => by omega) hr2 ?_ (by omega)
        rw [ha, show (min (e + 1 - p) 7).toNat = (min (e - p) 7).toNat + 1 by omega, wdB_last, show p + (((min (e - p) 7).toNat : Nat) : Int) = e by omega]
end NX
