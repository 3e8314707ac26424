/-! TOKENS -/
def srt (b : Int) : Int := if 48 ≤ b ∧ b ≤ 57 then 1 else if 97 ≤ b ∧ b ≤ 122 then 2 else 3
def skB (n : Int) (B : Int → Int) : Nat → Int → Int
  | 0, p => p
  | k + 1, p => if p < n ∧ (B p = 32 ∨ B p = 10) then skB n B k (p + 1) else p
def sk (n : Int) (B : Int → Int) (p : Int) : Int := skB n B (n - p).toNat p
def rnB (n : Int) (B : Int → Int) (s : Int) : Nat → Int → Int
  | 0, p => p
  | k + 1, p => if p < n ∧ srt (B p) = s then rnB n B s k (p + 1) else p
def rn (n : Int) (B : Int → Int) (s p : Int) : Int := rnB n B s (n - p).toNat p
/-- where the token at p ends -/
def en (n : Int) (B : Int → Int) (p : Int) : Int := if p < n then (if srt (B p) = 3 then p + 1 else rn n B (srt (B p)) (p + 1)) else p
/-- where the tokens begin -/
def tP (n : Int) (B : Int → Int) : Nat → Int
  | 0 => sk n B 0
  | i + 1 => sk n B (en n B (tP n B i))
def amB (B : Int → Int) : Nat → Int → Int → Int
  | 0, _, a => a
  | k + 1, p, a => amB B k (p + 1) (10 * a + B p - 48)
/-- the number of an N: its first four digits -/
def am (n : Int) (B : Int → Int) (p : Int) : Int := amB B (min (en n B p - p) 4).toNat p 0
def ks (n : Int) (B : Int → Int) (p : Int) : Int := if p < n then (if srt (B p) = 1 then (if 4 < en n B p - p then 4 else 1) else srt (B p)) else 0
def ka (n : Int) (B : Int → Int) (p : Int) : Int := if p < n then (if srt (B p) = 1 then am n B p else B p) else 0
section TK
variable {n : Int} {B : Int → Int}
theorem srt_c (b : Int) : srt b = 1 ∨ srt b = 2 ∨ srt b = 3 := by
  unfold srt
  split
  · omega
  · split <;> omega
theorem sk_step {p : Int} (h : p < n ∧ (B p = 32 ∨ B p = 10)) : sk n B p = sk n B (p + 1) := by
  unfold sk
  rw [show (n - p).toNat = (n - (p + 1)).toNat + 1 by omega, skB, if_pos h]
theorem sk_stop {p : Int} (h : ¬ (p < n ∧ (B p = 32 ∨ B p = 10))) : sk n B p = p := by
  unfold sk
  cases (n - p).toNat with
  | zero => rfl
  | succ k => rw [skB, if_neg h]
theorem skB_bd : ∀ (k : Nat) (p : Int), p + k ≤ n → p ≤ skB n B k p ∧ skB n B k p ≤ p + k
  | 0, p, _ => by unfold skB; omega
  | k + 1, p, h => by
    unfold skB
    split
    · have := skB_bd k (p + 1) (by omega)
      omega
    · omega
theorem sk_bd {p : Int} (h : p ≤ n) : p ≤ sk n B p ∧ sk n B p ≤ n := by
  have := skB_bd (n := n) (B := B) (n - p).toNat p (by omega)
  unfold sk
  omega
theorem rn_step {s p : Int} (h : p < n ∧ srt (B p) = s) : rn n B s p = rn n B s (p + 1) := by
  unfold rn
  rw [show (n - p).toNat = (n - (p + 1)).toNat + 1 by omega, rnB, if_pos h]
theorem rn_stop {s p : Int} (h : ¬ (p < n ∧ srt (B p) = s)) : rn n B s p = p := by
  unfold rn
  cases (n - p).toNat with
  | zero => rfl
  | succ k => rw [rnB, if_neg h]
theorem rnB_bd {s : Int} : ∀ (k : Nat) (p : Int), p + k ≤ n → p ≤ rnB n B s k p ∧ rnB n B s k p ≤ p + k ∧ ∀ j, p ≤ j → j < rnB n B s k p → srt (B j) = s
  | 0, p, _ => by
    unfold rnB
    exact ⟨by omega, by omega, fun j _ _ => by omega⟩
  | k + 1, p, h => by
    unfold rnB
    split
    · next h2 =>
      obtain ⟨q1, q2, q3⟩ := rnB_bd (s := s) k (p + 1) (by omega)
      refine ⟨by omega, by omega, fun j z1 z2 => ?_⟩
      by_cases hj : j = p
      · rw [hj]
        exact h2.2
      · exact q3 j (by omega) z2
    · exact ⟨by omega, by omega, fun j _ _ => by omega⟩
theorem rn_bd {s p : Int} (h : p ≤ n) : p ≤ rn n B s p ∧ rn n B s p ≤ n ∧ ∀ j, p ≤ j → j < rn n B s p → srt (B j) = s := by
  have := rnB_bd (n := n) (B := B) (s := s) (n - p).toNat p (by omega)
  unfold rn
  exact ⟨this.1, by omega, this.2.2⟩
theorem en_bd {p : Int} (h : p ≤ n) : p ≤ en n B p ∧ en n B p ≤ n ∧ (p < n → p < en n B p) ∧ (p < n → ∀ j, p ≤ j → j < en n B p → srt (B j) = srt (B p)) := by
  unfold en
  by_cases h1 : p < n
  · rw [if_pos h1]
    by_cases h2 : srt (B p) = 3
    · rw [if_pos h2]
      exact ⟨by omega, by omega, fun _ => by omega, fun _ j _ _ => by rw [show j = p by omega]⟩
    · rw [if_neg h2]
      obtain ⟨q1, q2, q3⟩ := rn_bd (n := n) (B := B) (s := srt (B p)) (p := p + 1) (by omega)
      refine ⟨by omega, by omega, fun _ => by omega, fun _ j z1 z2 => ?_⟩
      by_cases hj : j = p
      · rw [hj]
      · exact q3 j (by omega) z2
  · rw [if_neg h1]
    exact ⟨by omega, by omega, fun z => absurd z h1, fun z => absurd z h1⟩
theorem tP_bd (hn : 0 ≤ n) : ∀ i : Nat, 0 ≤ tP n B i ∧ tP n B i ≤ n ∧ (tP n B i = n ∨ (i : Int) ≤ tP n B i)
  | 0 => by
    have := sk_bd (n := n) (B := B) (p := 0) hn
    unfold tP
    omega
  | i + 1 => by
    obtain ⟨h1, h2, h3⟩ := tP_bd hn i
    have he := en_bd (n := n) (B := B) h2
    have hs := sk_bd (n := n) (B := B) (p := en n B (tP n B i)) he.2.1
    unfold tP
    by_cases hl : tP n B i < n
    · have := he.2.2.1 hl
      omega
    · omega
theorem amB_bd : ∀ (k : Nat) (p a : Int), (∀ j, p ≤ j → j < p + k → 48 ≤ B j ∧ B j ≤ 57) → 0 ≤ a → 0 ≤ amB B k p a ∧ amB B k p a + 1 ≤ (a + 1) * 10 ^ k
  | 0, p, a, _, h => by unfold amB; omega
  | k + 1, p, a, h, h0 => by
    have hp := h p (by omega) (by omega)
    unfold amB
    have ih := amB_bd k (p + 1) (10 * a + B p - 48) (fun j z1 z2 => h j (by omega) (by omega)) (by omega)
    refine ⟨ih.1, Int.le_trans ih.2 ?_⟩
    rw [Int.pow_succ, Int.mul_comm (10 ^ k) 10, ← Int.mul_assoc]
    exact Int.mul_le_mul_of_nonneg_right (by omega) (Int.pow_nonneg (by omega))
theorem amB_ge : ∀ (k : Nat) (p a : Int), (∀ j, p ≤ j → j < p + k → 48 ≤ B j ∧ B j ≤ 57) → 0 ≤ a → a ≤ amB B k p a
  | 0, p, a, _, h => by unfold amB; omega
  | k + 1, p, a, h, h0 => by
    have hp := h p (by omega) (by omega)
    unfold amB
    have ih := amB_ge k (p + 1) (10 * a + B p - 48) (fun j z1 z2 => h j (by omega) (by omega)) (by omega)
    omega
theorem am_bd {p : Int} (h : p < n) (hs : srt (B p) = 1) : 0 ≤ am n B p ∧ am n B p ≤ 9999 := by
  have he := en_bd (n := n) (B := B) (p := p) (by omega)
  have hb := amB_bd (B := B) (min (en n B p - p) 4).toNat p 0 (fun j z1 z2 => by
    have := he.2.2.2 h j z1 (by omega)
    rw [hs] at this
    unfold srt at this
    split at this
    · assumption
    · split at this <;> omega) (by omega)
  unfold am
  refine ⟨hb.1, ?_⟩
  have hk : (min (en n B p - p) 4).toNat ≤ 4 := by omega
  rcases (by omega : (min (en n B p - p) 4).toNat = 0 ∨ (min (en n B p - p) 4).toNat = 1 ∨ (min (en n B p - p) 4).toNat = 2 ∨ (min (en n B p - p) 4).toNat = 3 ∨ (min (en n B p - p) 4).toNat = 4) with z | z | z | z | z <;> rw [z] at hb ⊢ <;> omega
/-- what a token is -/
def isN (n : Int) (B : Int → Int) (p : Int) : Prop := p < n ∧ srt (B p) = 1 ∧ en n B p - p ≤ 4
def isSg (n : Int) (B : Int → Int) (p c : Int) : Prop := p < n ∧ srt (B p) = 3 ∧ B p = c
def isWd (n : Int) (B : Int → Int) (p : Int) (t : Nat) : Prop := p < n ∧ srt (B p) = 2 ∧ en n B p - p = txN t ∧ ∀ k, 0 ≤ k → k < txN t → B (p + k) = txZ t k
noncomputable def kdT (n : Int) (B : Int → Int) (p : Int) : Int := cI (isWd n B p 0) 0 (cI (isWd n B p 1) 1 (cI (isWd n B p 2) 2 (cI (isWd n B p 3) 3 (cI (isWd n B p 4) 4 (-1)))))
noncomputable def ltT (n : Int) (B : Int → Int) (p : Int) : Int := cI (p < n ∧ srt (B p) = 2 ∧ en n B p - p = 1 ∧ 97 ≤ B p ∧ B p ≤ 102) (B p - 97) (-1)
theorem srt_sb {b : Int} (h : 0 ≤ b ∧ b ≤ 255) : srt (sb b) = srt b := by
  unfold srt sb
  by_cases h1 : b < 128
  · rw [if_pos h1]
  · rw [if_neg h1, if_neg (by omega), if_neg (by omega), if_neg (by omega), if_neg (by omega)]
theorem sb_eq {b z : Int} (h : 0 ≤ b ∧ b ≤ 255) (hz : 0 ≤ z ∧ z ≤ 127) : sb b = z ↔ b = z := by
  unfold sb
  split <;> omega
theorem an255 {b : Int} (h : 0 ≤ b ∧ b ≤ 255) : (iv (sb b) &&& iv 255).toInt = b := by
  have h1 := pk_and (iv (sb b)) (m := iv 255) 8 (by decide)
  rw [h1, nI_toInt (by have := Nat.mod_lt (iv (sb b)).toBitVec.toNat (show 0 < 2 ^ 8 by decide); omega)]
  have h2 := bv_mod (iv (sb b))
  have hb := sb_bd (b := b) (by omega)
  rw [iv_toInt (by omega)] at h2
  have h3 : sb b % 256 = b := by
    unfold sb
    split <;> omega
  omega
end TK
theorem c_isBlank (w : WC) (d : Nat) (μ : Mem) {b : Int} (hb : i32 b) : Con w d mX10_isBlank 0 0 [vI b] μ (fun v μ2 => v = some (vI (bI (b = 32 ∨ b = 10))) ∧ μ2 = μ) := by
  refine Con.of (by decide) (Nat.le_of_ble_eq_true rfl) rfl ?_
  refine g_iload_n (j := 0) rfl dX10_isBlank_0 ?_
  refine g_bipush dX10_isBlank_1 (by omega) ?_
  refine g_icmp_eq (tgt := 12) dX10_isBlank_3 (by decide) (by omega) (by omega) (fun h3 => ?_) (fun h3 => ?_)
  · refine g_iconst dX10_isBlank_12 ?_
    refine g_goto (tgt := 17) (by decide) dX10_isBlank_13 ?_
    first | exact G.retB dX10_isBlank_17 rfl (eq_bI (Or.inl ⟨rfl, by omega⟩)) ⟨rfl, rfl⟩ | exact G.retB dX10_isBlank_17 rfl (eq_bI (Or.inr ⟨rfl, by omega⟩)) ⟨rfl, rfl⟩
  · refine g_iload_n (j := 0) rfl dX10_isBlank_6 ?_
    refine g_bipush dX10_isBlank_7 (by omega) ?_
    refine g_icmp_ne (tgt := 16) dX10_isBlank_9 (by decide) (by omega) (by omega) (fun h9 => ?_) (fun h9 => ?_)
    · refine g_iconst dX10_isBlank_16 ?_
      first | exact G.retB dX10_isBlank_17 rfl (eq_bI (Or.inl ⟨rfl, by omega⟩)) ⟨rfl, rfl⟩ | exact G.retB dX10_isBlank_17 rfl (eq_bI (Or.inr ⟨rfl, by omega⟩)) ⟨rfl, rfl⟩
    · refine g_iconst dX10_isBlank_12 ?_
      refine g_goto (tgt := 17) (by decide) dX10_isBlank_13 ?_
      first | exact G.retB dX10_isBlank_17 rfl (eq_bI (Or.inl ⟨rfl, by omega⟩)) ⟨rfl, rfl⟩ | exact G.retB dX10_isBlank_17 rfl (eq_bI (Or.inr ⟨rfl, by omega⟩)) ⟨rfl, rfl⟩
theorem c_sortOf (w : WC) (d : Nat) (μ : Mem) {b : Int} (hb : i32 b) : Con w d mX10_sortOf 0 0 [vI b] μ (fun v μ2 => v = some (vI (srt b)) ∧ μ2 = μ) := by
  refine Con.of (by decide) (Nat.le_of_ble_eq_true rfl) rfl ?_
  refine g_iload_n (j := 0) rfl dX10_sortOf_0 ?_
  refine g_bipush dX10_sortOf_1 (by omega) ?_
  refine g_icmp_lt (tgt := 14) dX10_sortOf_3 (by decide) (by omega) (by omega) (fun h3 => ?_) (fun h3 => ?_)
  · refine g_iload_n (j := 0) rfl dX10_sortOf_14 ?_
    refine g_bipush dX10_sortOf_15 (by omega) ?_
    refine g_icmp_lt (tgt := 30) dX10_sortOf_17 (by decide) (by omega) (by omega) (fun h17 => ?_) (fun h17 => ?_)
    · refine g_iconst dX10_sortOf_30 ?_
      first
      | (exfalso; omega)
      | exact G.retI dX10_sortOf_31 rfl ⟨by rw [srt, if_pos (by omega)], rfl⟩
      | exact G.retI dX10_sortOf_31 rfl ⟨by rw [srt, if_neg (by omega), if_pos (by omega)], rfl⟩
      | exact G.retI dX10_sortOf_31 rfl ⟨by rw [srt, if_neg (by omega), if_neg (by omega)], rfl⟩
    · refine g_iload_n (j := 0) rfl dX10_sortOf_20 ?_
      refine g_bipush dX10_sortOf_21 (by omega) ?_
      refine g_icmp_gt (tgt := 30) dX10_sortOf_23 (by decide) (by omega) (by omega) (fun h23 => ?_) (fun h23 => ?_)
      · refine g_iconst dX10_sortOf_30 ?_
        first
        | (exfalso; omega)
        | exact G.retI dX10_sortOf_31 rfl ⟨by rw [srt, if_pos (by omega)], rfl⟩
        | exact G.retI dX10_sortOf_31 rfl ⟨by rw [srt, if_neg (by omega), if_pos (by omega)], rfl⟩
        | exact G.retI dX10_sortOf_31 rfl ⟨by rw [srt, if_neg (by omega), if_neg (by omega)], rfl⟩
      · refine g_iconst dX10_sortOf_26 ?_
        refine g_goto (tgt := 31) (by decide) dX10_sortOf_27 ?_
        first
        | (exfalso; omega)
        | exact G.retI dX10_sortOf_31 rfl ⟨by rw [srt, if_pos (by omega)], rfl⟩
        | exact G.retI dX10_sortOf_31 rfl ⟨by rw [srt, if_neg (by omega), if_pos (by omega)], rfl⟩
        | exact G.retI dX10_sortOf_31 rfl ⟨by rw [srt, if_neg (by omega), if_neg (by omega)], rfl⟩
  · refine g_iload_n (j := 0) rfl dX10_sortOf_6 ?_
    refine g_bipush dX10_sortOf_7 (by omega) ?_
    refine g_icmp_gt (tgt := 14) dX10_sortOf_9 (by decide) (by omega) (by omega) (fun h9 => ?_) (fun h9 => ?_)
    · refine g_iload_n (j := 0) rfl dX10_sortOf_14 ?_
      refine g_bipush dX10_sortOf_15 (by omega) ?_
      refine g_icmp_lt (tgt := 30) dX10_sortOf_17 (by decide) (by omega) (by omega) (fun h17 => ?_) (fun h17 => ?_)
      · refine g_iconst dX10_sortOf_30 ?_
        first
        | (exfalso; omega)
        | exact G.retI dX10_sortOf_31 rfl ⟨by rw [srt, if_pos (by omega)], rfl⟩
        | exact G.retI dX10_sortOf_31 rfl ⟨by rw [srt, if_neg (by omega), if_pos (by omega)], rfl⟩
        | exact G.retI dX10_sortOf_31 rfl ⟨by rw [srt, if_neg (by omega), if_neg (by omega)], rfl⟩
      · refine g_iload_n (j := 0) rfl dX10_sortOf_20 ?_
        refine g_bipush dX10_sortOf_21 (by omega) ?_
        refine g_icmp_gt (tgt := 30) dX10_sortOf_23 (by decide) (by omega) (by omega) (fun h23 => ?_) (fun h23 => ?_)
        · refine g_iconst dX10_sortOf_30 ?_
          first
          | (exfalso; omega)
          | exact G.retI dX10_sortOf_31 rfl ⟨by rw [srt, if_pos (by omega)], rfl⟩
          | exact G.retI dX10_sortOf_31 rfl ⟨by rw [srt, if_neg (by omega), if_pos (by omega)], rfl⟩
          | exact G.retI dX10_sortOf_31 rfl ⟨by rw [srt, if_neg (by omega), if_neg (by omega)], rfl⟩
        · refine g_iconst dX10_sortOf_26 ?_
          refine g_goto (tgt := 31) (by decide) dX10_sortOf_27 ?_
          first
          | (exfalso; omega)
          | exact G.retI dX10_sortOf_31 rfl ⟨by rw [srt, if_pos (by omega)], rfl⟩
          | exact G.retI dX10_sortOf_31 rfl ⟨by rw [srt, if_neg (by omega), if_pos (by omega)], rfl⟩
          | exact G.retI dX10_sortOf_31 rfl ⟨by rw [srt, if_neg (by omega), if_neg (by omega)], rfl⟩
    · refine g_iconst dX10_sortOf_12 ?_
      first
      | (exfalso; omega)
      | exact G.retI dX10_sortOf_13 rfl ⟨by rw [srt, if_pos (by omega)], rfl⟩
      | exact G.retI dX10_sortOf_13 rfl ⟨by rw [srt, if_neg (by omega), if_pos (by omega)], rfl⟩
      | exact G.retI dX10_sortOf_13 rfl ⟨by rw [srt, if_neg (by omega), if_neg (by omega)], rfl⟩
section TC
variable {w : WC} {d x : Nat} {n : Int} {B : Int → Int}
/-- the bytes of the tape; fields and tokens may be others -/
theorem TpC.fr {μ μ2 : Mem} (h : TpC μ x n B) (hT : TPS w μ x) (h5 : mI μ2 (x + 1) 5 = mI μ (x + 1) 5) (h2 : ∀ j, mI μ2 (x + 2) j = mI μ (x + 2) j) : TpC μ2 x n B := ⟨h5.trans h.1, h.2.1, fun j z1 z2 => (h2 j).trans (h.2.2 j z1 z2)⟩
theorem sI_sI (μ : Mem) (a : Nat) (k u v : Int) : sI (sI μ a k u) a k v = sI μ a k v := Mem.ext (fun y j => by rw [mI_sI, mI_sI, mI_sI]; split <;> rfl) (fun _ _ => rfl) (fun _ _ => rfl) rfl rfl
theorem l_skip : ∀ (k : Nat) (p : Int) (μ : Mem), (n - p).toNat = k → 0 ≤ p → p ≤ n → TPS w μ x → TpC μ x n B → mI μ (x + 1) 6 = p →
    G w (d + 1) mX10_skipBlanks (fun v μ2 => v = none ∧ μ2 = sI μ (x + 1) 6 (sk n B p)) 0 0 0 [some (vP (some (x + 1)))] [] μ := by
  intro k
  induction k with
  | zero =>
    intro p μ hk h0 h1 hT hB e6
    have o1 := hT.o1
    have e5 := hB.1
    have hO := hB.2.1.1
    have hs := sk_stop (n := n) (B := B) (p := p) (by omega)
    refine g_aload_n (j := 0) rfl dX10_skipBlanks_0 ?_
    refine g_getI dX10_skipBlanks_1 flX10_53 rfl (by assumption) (kz := 6) rfl ?_
    refine g_aload_n (j := 0) rfl dX10_skipBlanks_4 ?_
    refine g_getI dX10_skipBlanks_5 flX10_38 rfl (by assumption) (kz := 5) rfl ?_
    refine g_icmp_ge (tgt := 39) dX10_skipBlanks_8 (by decide) (by omega) (by omega) (fun h8 => ?_) (fun h8 => ?_)
    · refine G.retV dX10_skipBlanks_39 rfl ⟨rfl, ?_⟩
      rw [hs, ← e6, sI_w]
      exact (wI_eta' fun j => by split <;> simp_all).symm
    · omega
  | succ k ih =>
    intro p μ hk h0 h1 hT hB e6
    have o1 := hT.o1
    have r1 := hT.r1_0
    have a2 := hT.a2
    have e5 := hB.1
    have hO := hB.2.1.1
    have hb := hB.2.1.2 p h0 (by omega)
    have hbb := sb_bd (b := B p) (by omega)
    have eb := hB.2.2 p h0 (by omega)
    have s32 := sb_eq (b := B p) (z := 32) hb (by omega)
    have s10 := sb_eq (b := B p) (z := 10) hb (by omega)
    refine g_aload_n (j := 0) rfl dX10_skipBlanks_0 ?_
    refine g_getI dX10_skipBlanks_1 flX10_53 rfl (by assumption) (kz := 6) rfl ?_
    refine g_aload_n (j := 0) rfl dX10_skipBlanks_4 ?_
    refine g_getI dX10_skipBlanks_5 flX10_38 rfl (by assumption) (kz := 5) rfl ?_
    refine g_icmp_ge (tgt := 39) dX10_skipBlanks_8 (by decide) (by omega) (by omega) (fun h8 => ?_) (fun h8 => ?_)
    · omega
    · refine g_aload_n (j := 0) rfl dX10_skipBlanks_11 ?_
      refine g_getR dX10_skipBlanks_12 flX10_9 rfl (by assumption) (kz := 0) rfl (by assumption) ?_
      refine g_aload_n (j := 0) rfl dX10_skipBlanks_15 ?_
      refine g_getI dX10_skipBlanks_16 flX10_53 rfl (by assumption) (kz := 6) rfl ?_
      refine g_bald dX10_skipBlanks_19 (by assumption) (by omega) (by omega) ?_
      rw [e6, eb]
      refine g_callS dX10_skipBlanks_20 mlX10_65 msX10_isBlank (c_isBlank w d μ (b := sb (B p)) (by omega)) sk1 rfl (by omega) (Nat.le_of_ble_eq_true rfl) (Nat.le_refl _) (Nat.le_refl _) (fun v μ2 hR => ?_)
      obtain ⟨rfl, hm⟩ := hR
      replace hm := hm.symm
      subst hm
      refine g_ifb_eq (tgt := 39) dX10_skipBlanks_23 (by decide)  (fun h23 => ?_) (fun h23 => ?_)
      · refine G.retV dX10_skipBlanks_39 rfl ⟨rfl, ?_⟩
        rw [sk_stop (by omega), ← e6, sI_w]
        exact (wI_eta' fun j => by split <;> simp_all).symm
      · refine g_aload_n (j := 0) rfl dX10_skipBlanks_26 ?_
        refine g_dup rfl dX10_skipBlanks_27 ?_
        refine g_getI dX10_skipBlanks_28 flX10_53 rfl (by assumption) (kz := 6) rfl ?_
        refine g_iconst dX10_skipBlanks_31 ?_
        refine g_iadd dX10_skipBlanks_32 ?_
        refine g_putI dX10_skipBlanks_33 fpX10_53 rfl rfl rfl (by assumption) (kz := 6) rfl ?_
        refine g_goto (tgt := 0) (by decide) dX10_skipBlanks_36 ?_
        have hf : FrT x μ μ := FrT.rf
        have hT2 : TPS w (sI μ (x + 1) 6 (p + 1)) x := hT.fr (Fr.sI (P := fun a => a = x + 1) (K := fun _ _ => False) rfl) fun _ _ _ z => z.elim
        have hB2 : TpC (sI μ (x + 1) 6 (p + 1)) x n B := hB.fr hT (by rw [mI_sI, if_neg (by omega)]) (fun j => by rw [mI_sI, if_neg (by omega)])
        rw [e6]
        refine G.post (fun v μ2 hq => ?_) (ih (p + 1) _ (by omega) (by omega) (by omega) hT2 hB2 (by rw [mI_sI, if_pos ⟨rfl, rfl⟩]))
        rw [sk_step (by omega)]
        exact ⟨hq.1, hq.2.trans (sI_sI _ _ _ _ _)⟩
theorem c_skip (w : WC) (d : Nat) (μ : Mem) {x : Nat} {n p : Int} {B : Int → Int} (h0 : 0 ≤ p ∧ p ≤ n) (hT : TPS w μ x) (hB : TpC μ x n B) (e6 : mI μ (x + 1) 6 = p) : Con w (d + 1) mX10_skipBlanks 0 0 [vP (some (x + 1))] μ (fun v μ2 => v = none ∧ μ2 = sI μ (x + 1) 6 (sk n B p)) := by
  refine Con.of (by decide) (Nat.le_of_ble_eq_true rfl) rfl ?_
  exact l_skip (d := d) (n - p).toNat p μ rfl h0.1 h0.2 hT hB e6
theorem l_amount {μ : Mem} (hT : TPS w μ x) (hB : TpC μ x n B) {p e tk : Int} (h0 : 0 ≤ p) (he : p < e ∧ e ≤ n) (e6 : mI μ (x + 1) 6 = e) (e7 : mI μ (x + 1) 7 = tk) (htk : 0 ≤ tk ∧ tk ≤ 800) (hd : ∀ j, p ≤ j → j < e → 48 ≤ B j ∧ B j ≤ 57) : ∀ (k : Nat) (i a : Int), (min e (p + 4) - i).toNat = k → (p ≤ i ∧ i ≤ min e (p + 4)) → 0 ≤ a → a ≤ 99999 → amB B k i a ≤ 9999 →
    G w d mX10_takeAmount (fun v μ2 => v = none ∧ μ2 = if 4 < e - p then sI (sI μ (x + 6) tk (amB B k i a)) (x + 3) tk 4 else sI μ (x + 6) tk (amB B k i a)) 0 0 4 [some (vP (some (x + 1))), some (vI p), some (vI a), some (vI i)] [] μ := by
  have o1 := hT.o1
  have r10 := hT.r1_0
  have r11 := hT.r1_1
  have r14 := hT.r1_4
  have a2 := hT.a2
  have a3 := hT.a3
  have a6 := hT.a6
  have hO := hB.2.1.1
  intro k
  induction k with
  | zero =>
    intro i a hk hi h2 h3 h4
    rw [amB]
    refine g_iload_n (j := 3) rfl dX10_takeAmount_4 ?_
    refine g_aload_n (j := 0) rfl dX10_takeAmount_5 ?_
    refine g_getI dX10_takeAmount_6 flX10_53 rfl (by assumption) (kz := 6) rfl ?_
    refine g_icmp_ge (tgt := 40) dX10_takeAmount_9 (by decide) (by omega) (by omega) (fun h9 => ?_) (fun h9 => ?_)
    · refine g_aload_n (j := 0) rfl dX10_takeAmount_40 ?_
      refine g_getR dX10_takeAmount_41 flX10_25 rfl (by assumption) (kz := 4) rfl (by assumption) ?_
      refine g_aload_n (j := 0) rfl dX10_takeAmount_44 ?_
      refine g_getI dX10_takeAmount_45 flX10_56 rfl (by assumption) (kz := 7) rfl ?_
      rw [e7]
      refine g_iload_n (j := 2) rfl dX10_takeAmount_48 ?_
      refine g_iast dX10_takeAmount_49 (by assumption) (by omega) (by omega) ?_
      refine g_aload_n (j := 0) rfl dX10_takeAmount_50 ?_
      refine g_getIv dX10_takeAmount_51 flX10_53 rfl (by simp only [IsO_sI, IsO_sL, IsO_sR, IsO_wI, IsO_wL, IsA_sI, IsA_sL, IsA_sR, IsA_wI, IsA_wL, mR_sI, mR_sL, mR_wI, mR_wL]; assumption) (kz := 6) rfl (by simp [mI_sI, mI_sL, mI_sR, mI_wI, mI_wL, mL_sI, mL_sL, mL_sR, mL_wI, mL_wL, e6, e7]; rfl) ?_
      refine g_iload_n (j := 1) rfl dX10_takeAmount_54 ?_
      refine g_isub dX10_takeAmount_55 ?_
      refine g_iconst dX10_takeAmount_56 ?_
      refine g_icmp_le (tgt := 70) dX10_takeAmount_57 (by decide) (by omega) (by omega) (fun h57 => ?_) (fun h57 => ?_)
      · first
        | (exfalso; omega)
        | exact G.retV dX10_takeAmount_70 rfl ⟨rfl, by rw [if_pos (by omega)]⟩
        | exact G.retV dX10_takeAmount_70 rfl ⟨rfl, by rw [if_neg (by omega)]⟩
      · refine g_aload_n (j := 0) rfl dX10_takeAmount_60 ?_
        refine g_getR dX10_takeAmount_61 flX10_15 rfl (by simp only [IsO_sI, IsO_sL, IsO_sR, IsO_wI, IsO_wL, IsA_sI, IsA_sL, IsA_sR, IsA_wI, IsA_wL, mR_sI, mR_sL, mR_wI, mR_wL]; assumption) (kz := 1) rfl (by simp only [IsO_sI, IsO_sL, IsO_sR, IsO_wI, IsO_wL, IsA_sI, IsA_sL, IsA_sR, IsA_wI, IsA_wL, mR_sI, mR_sL, mR_wI, mR_wL]; assumption) ?_
        refine g_aload_n (j := 0) rfl dX10_takeAmount_64 ?_
        refine g_getIv dX10_takeAmount_65 flX10_56 rfl (by simp only [IsO_sI, IsO_sL, IsO_sR, IsO_wI, IsO_wL, IsA_sI, IsA_sL, IsA_sR, IsA_wI, IsA_wL, mR_sI, mR_sL, mR_wI, mR_wL]; assumption) (kz := 7) rfl (by simp [mI_sI, mI_sL, mI_sR, mI_wI, mI_wL, mL_sI, mL_sL, mL_sR, mL_wI, mL_wL, e6, e7]; rfl) ?_
        refine g_iconst dX10_takeAmount_68 ?_
        refine g_iast dX10_takeAmount_69 (by simp only [IsO_sI, IsO_sL, IsO_sR, IsO_wI, IsO_wL, IsA_sI, IsA_sL, IsA_sR, IsA_wI, IsA_wL, mR_sI, mR_sL, mR_wI, mR_wL]; assumption) (by omega) (by omega) ?_
        first
        | (exfalso; omega)
        | exact G.retV dX10_takeAmount_70 rfl ⟨rfl, by rw [if_pos (by omega)]⟩
        | exact G.retV dX10_takeAmount_70 rfl ⟨rfl, by rw [if_neg (by omega)]⟩
    · refine g_iload_n (j := 3) rfl dX10_takeAmount_12 ?_
      refine g_iload_n (j := 1) rfl dX10_takeAmount_13 ?_
      refine g_iconst dX10_takeAmount_14 ?_
      refine g_iadd dX10_takeAmount_15 ?_
      refine g_icmp_ge (tgt := 40) dX10_takeAmount_16 (by decide) (by omega) (by omega) (fun h16 => ?_) (fun h16 => ?_)
      · refine g_aload_n (j := 0) rfl dX10_takeAmount_40 ?_
        refine g_getR dX10_takeAmount_41 flX10_25 rfl (by assumption) (kz := 4) rfl (by assumption) ?_
        refine g_aload_n (j := 0) rfl dX10_takeAmount_44 ?_
        refine g_getI dX10_takeAmount_45 flX10_56 rfl (by assumption) (kz := 7) rfl ?_
        rw [e7]
        refine g_iload_n (j := 2) rfl dX10_takeAmount_48 ?_
        refine g_iast dX10_takeAmount_49 (by assumption) (by omega) (by omega) ?_
        refine g_aload_n (j := 0) rfl dX10_takeAmount_50 ?_
        refine g_getIv dX10_takeAmount_51 flX10_53 rfl (by simp only [IsO_sI, IsO_sL, IsO_sR, IsO_wI, IsO_wL, IsA_sI, IsA_sL, IsA_sR, IsA_wI, IsA_wL, mR_sI, mR_sL, mR_wI, mR_wL]; assumption) (kz := 6) rfl (by simp [mI_sI, mI_sL, mI_sR, mI_wI, mI_wL, mL_sI, mL_sL, mL_sR, mL_wI, mL_wL, e6, e7]; rfl) ?_
        refine g_iload_n (j := 1) rfl dX10_takeAmount_54 ?_
        refine g_isub dX10_takeAmount_55 ?_
        refine g_iconst dX10_takeAmount_56 ?_
        refine g_icmp_le (tgt := 70) dX10_takeAmount_57 (by decide) (by omega) (by omega) (fun h57 => ?_) (fun h57 => ?_)
        · first
          | (exfalso; omega)
          | exact G.retV dX10_takeAmount_70 rfl ⟨rfl, by rw [if_pos (by omega)]⟩
          | exact G.retV dX10_takeAmount_70 rfl ⟨rfl, by rw [if_neg (by omega)]⟩
        · refine g_aload_n (j := 0) rfl dX10_takeAmount_60 ?_
          refine g_getR dX10_takeAmount_61 flX10_15 rfl (by simp only [IsO_sI, IsO_sL, IsO_sR, IsO_wI, IsO_wL, IsA_sI, IsA_sL, IsA_sR, IsA_wI, IsA_wL, mR_sI, mR_sL, mR_wI, mR_wL]; assumption) (kz := 1) rfl (by simp only [IsO_sI, IsO_sL, IsO_sR, IsO_wI, IsO_wL, IsA_sI, IsA_sL, IsA_sR, IsA_wI, IsA_wL, mR_sI, mR_sL, mR_wI, mR_wL]; assumption) ?_
          refine g_aload_n (j := 0) rfl dX10_takeAmount_64 ?_
          refine g_getIv dX10_takeAmount_65 flX10_56 rfl (by simp only [IsO_sI, IsO_sL, IsO_sR, IsO_wI, IsO_wL, IsA_sI, IsA_sL, IsA_sR, IsA_wI, IsA_wL, mR_sI, mR_sL, mR_wI, mR_wL]; assumption) (kz := 7) rfl (by simp [mI_sI, mI_sL, mI_sR, mI_wI, mI_wL, mL_sI, mL_sL, mL_sR, mL_wI, mL_wL, e6, e7]; rfl) ?_
          refine g_iconst dX10_takeAmount_68 ?_
          refine g_iast dX10_takeAmount_69 (by simp only [IsO_sI, IsO_sL, IsO_sR, IsO_wI, IsO_wL, IsA_sI, IsA_sL, IsA_sR, IsA_wI, IsA_wL, mR_sI, mR_sL, mR_wI, mR_wL]; assumption) (by omega) (by omega) ?_
          first
          | (exfalso; omega)
          | exact G.retV dX10_takeAmount_70 rfl ⟨rfl, by rw [if_pos (by omega)]⟩
          | exact G.retV dX10_takeAmount_70 rfl ⟨rfl, by rw [if_neg (by omega)]⟩
      · omega
  | succ k ih =>
    intro i a hk hi h2 h3 h4
    have hb := hd i hi.1 (by omega)
    have eb := hB.2.2 i (by omega) (by omega)
    have es : sb (B i) = B i := by
      unfold sb
      rw [if_pos (by omega)]
    rw [amB] at h4
    have hk1 : (min e (p + 4) - (i + 1)).toNat = k := by omega
    have hab : 0 ≤ 10 * a + B i - 48 := by omega
    have hmon := (amB_bd (B := B) k (i + 1) (10 * a + B i - 48) (fun j z1 z2 => hd j (by omega) (by omega)) hab)
    refine g_iload_n (j := 3) rfl dX10_takeAmount_4 ?_
    refine g_aload_n (j := 0) rfl dX10_takeAmount_5 ?_
    refine g_getI dX10_takeAmount_6 flX10_53 rfl (by assumption) (kz := 6) rfl ?_
    refine g_icmp_ge (tgt := 40) dX10_takeAmount_9 (by decide) (by omega) (by omega) (fun h9 => ?_) (fun h9 => ?_)
    · omega
    · refine g_iload_n (j := 3) rfl dX10_takeAmount_12 ?_
      refine g_iload_n (j := 1) rfl dX10_takeAmount_13 ?_
      refine g_iconst dX10_takeAmount_14 ?_
      refine g_iadd dX10_takeAmount_15 ?_
      refine g_icmp_ge (tgt := 40) dX10_takeAmount_16 (by decide) (by omega) (by omega) (fun h16 => ?_) (fun h16 => ?_)
      · omega
      · refine g_bipush dX10_takeAmount_19 (by omega) ?_
        refine g_iload_n (j := 2) rfl dX10_takeAmount_21 ?_
        refine g_imul dX10_takeAmount_22 ?_
        refine g_aload_n (j := 0) rfl dX10_takeAmount_23 ?_
        refine g_getR dX10_takeAmount_24 flX10_9 rfl (by assumption) (kz := 0) rfl (by assumption) ?_
        refine g_iload_n (j := 3) rfl dX10_takeAmount_27 ?_
        refine g_bald dX10_takeAmount_28 (by assumption) (by omega) (by omega) ?_
        rw [eb, es]
        refine g_iadd dX10_takeAmount_29 ?_
        refine g_bipush dX10_takeAmount_30 (by omega) ?_
        refine g_isub dX10_takeAmount_32 ?_
        refine g_istore_n (j := 2) dX10_takeAmount_33 (by decide) rfl ls2 ?_
        refine g_iinc (i := 3) dX10_takeAmount_34 rfl (by decide) rfl ls3 ?_
        refine g_goto (tgt := 4) (by decide) dX10_takeAmount_37 ?_
        rw [amB]
        refine ih (i + 1) (10 * a + B i - 48) hk1 (by omega) hab ?_ h4
        rcases Nat.eq_zero_or_pos k with z | z
        · subst z
          rw [amB] at h4
          omega
        · have := amB_ge (B := B) k (i + 1) (10 * a + B i - 48) (fun j z1 z2 => hd j (by omega) (by omega)) hab
          omega
theorem c_takeAmount (w : WC) (d : Nat) (μ : Mem) {x : Nat} {n p tk : Int} {B : Int → Int} (hT : TPS w μ x) (hB : TpC μ x n B) (h0 : 0 ≤ p ∧ p < n) (hs : srt (B p) = 1) (e6 : mI μ (x + 1) 6 = en n B p) (e7 : mI μ (x + 1) 7 = tk) (htk : 0 ≤ tk ∧ tk ≤ 800) : Con w d mX10_takeAmount 0 0 [vP (some (x + 1)), vI p] μ (fun v μ2 => v = none ∧ μ2 = if 4 < en n B p - p then sI (sI μ (x + 6) tk (am n B p)) (x + 3) tk 4 else sI μ (x + 6) tk (am n B p)) := by
  have he := en_bd (n := n) (B := B) (p := p) (by omega)
  have hd : ∀ j, p ≤ j → j < en n B p → 48 ≤ B j ∧ B j ≤ 57 := fun j z1 z2 => by
    have := he.2.2.2 h0.2 j z1 z2
    rw [hs] at this
    unfold srt at this
    split at this
    · assumption
    · split at this <;> omega
  have ha := am_bd h0.2 hs
  have hlt := he.2.2.1 h0.2
  refine Con.of (by decide) (Nat.le_of_ble_eq_true rfl) rfl ?_
  refine g_iconst dX10_takeAmount_0 ?_
  refine g_istore_n (j := 2) dX10_takeAmount_1 (by decide) rfl ls2 ?_
  refine g_iload_n (j := 1) rfl dX10_takeAmount_2 ?_
  refine g_istore_n (j := 3) dX10_takeAmount_3 (by decide) rfl ls3 ?_
  have key := l_amount (d := d) hT hB h0.1 (e := en n B p) (by omega) e6 e7 htk hd (min (en n B p - p) 4).toNat p 0 (by omega) (by omega) (by omega) (by omega) ha.2
  exact key
end TC
