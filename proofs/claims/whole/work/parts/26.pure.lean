/-! PURE: values of terms between their bounds; sums over ranges -/
theorem sq_le {x y : Int} (h0 : 0 ≤ x) (h : x ≤ y) : x * x ≤ y * y := Int.mul_le_mul h h h0 (by omega)
theorem sq_neg (x : Int) : (-x) * (-x) = x * x := Int.neg_mul_neg x x
theorem cu_neg (x : Int) : (-x) * (-x) * (-x) = -(x * x * x) := by rw [sq_neg, Int.mul_neg]
theorem fo_neg (x : Int) : (-x) * (-x) * (-x) * (-x) = x * x * x * x := by rw [cu_neg, Int.neg_mul_neg]
theorem sq_nn (x : Int) : 0 ≤ x * x := by
  rcases (by omega : 0 ≤ x ∨ x ≤ 0) with h | h
  · exact Int.mul_nonneg h h
  · exact Int.mul_nonneg_of_nonpos_of_nonpos h h
theorem cu_le0 {x y : Int} (h0 : 0 ≤ x) (h : x ≤ y) : x * x * x ≤ y * y * y := Int.mul_le_mul (sq_le h0 h) h h0 (sq_nn y)
theorem cu_nn {x : Int} (h : 0 ≤ x) : 0 ≤ x * x * x := Int.mul_nonneg (sq_nn x) h
theorem cu_le {x y : Int} (h : x ≤ y) : x * x * x ≤ y * y * y := by
  rcases (by omega : 0 ≤ x ∨ x ≤ 0) with h0 | h0
  · exact cu_le0 h0 h
  · have h1 := cu_nn (show 0 ≤ -x by omega)
    rw [cu_neg] at h1
    rcases (by omega : 0 ≤ y ∨ y ≤ 0) with h2 | h2
    · have := cu_nn h2
      omega
    · have := cu_le0 (show 0 ≤ -y by omega) (show -y ≤ -x by omega)
      rw [cu_neg, cu_neg] at this
      omega
theorem fo_eq (x : Int) : x * x * x * x = (x * x) * (x * x) := by rw [Int.mul_assoc (x * x) x x]
theorem fo_le {x y : Int} (h0 : 0 ≤ x) (h : x ≤ y) : x * x * x * x ≤ y * y * y * y := by
  rw [fo_eq, fo_eq]
  exact sq_le (sq_nn x) (sq_le h0 h)
theorem fo_nn (x : Int) : 0 ≤ x * x * x * x := by
  rw [fo_eq]
  exact sq_nn (x * x)
theorem tr_le {x y : Int} (h0 : 0 ≤ x) (h : x ≤ y) : x * (x + 1) / 2 ≤ y * (y + 1) / 2 := by
  have := Int.mul_le_mul h (show x + 1 ≤ y + 1 by omega) (by omega) (by omega)
  omega
theorem tr_neg (x : Int) : (-x - 1) * (-x - 1 + 1) = x * (x + 1) := by
  rw [show -x - 1 + 1 = -x by omega, show -x - 1 = -(x + 1) by omega, Int.neg_mul_neg, Int.mul_comm]
theorem tr_nn (x : Int) : 0 ≤ x * (x + 1) / 2 := by
  have := tri_nn x
  omega
/-- kinds that don't turn -/
theorem pw_mono {k x y : Int} (hk : k = 0 ∨ k = 2) (h : x ≤ y) : pw k x ≤ pw k y := by
  rcases hk with rfl | rfl
  · exact h
  · exact cu_le h
/-- kinds that turn at nought -/
theorem pw_up {k x y : Int} (hk : ¬ k = 0 ∧ ¬ k = 2) (h0 : 0 ≤ x) (h : x ≤ y) : pw k x ≤ pw k y := by
  by_cases h1 : k = 1
  · subst h1; exact sq_le h0 h
  · by_cases h3 : k = 3
    · subst h3; exact fo_le h0 h
    · unfold pw
      rw [if_neg hk.1, if_neg h1, if_neg hk.2, if_neg h3, if_neg hk.1, if_neg h1, if_neg hk.2, if_neg h3]
      exact tr_le h0 h
theorem pw_dn {k x y : Int} (hk : ¬ k = 0 ∧ ¬ k = 2) (h0 : y ≤ 0) (h : x ≤ y) : pw k y ≤ pw k x := by
  by_cases h1 : k = 1
  · subst h1
    have := sq_le (show 0 ≤ -y by omega) (show -y ≤ -x by omega)
    rw [sq_neg, sq_neg] at this
    exact this
  · by_cases h3 : k = 3
    · subst h3
      have := fo_le (show 0 ≤ -y by omega) (show -y ≤ -x by omega)
      rw [fo_neg, fo_neg] at this
      exact this
    · unfold pw
      rw [if_neg hk.1, if_neg h1, if_neg hk.2, if_neg h3, if_neg hk.1, if_neg h1, if_neg hk.2, if_neg h3]
      by_cases hy : y = 0
      · subst hy
        exact tr_nn x
      · have := tr_le (show 0 ≤ -y - 1 by omega) (show -y - 1 ≤ -x - 1 by omega)
        rw [tr_neg, tr_neg] at this
        exact this
theorem pw_nn {k : Int} (hk : ¬ k = 0 ∧ ¬ k = 2) (x : Int) : 0 ≤ pw k x := by
  by_cases h1 : k = 1
  · subst h1; exact sq_nn x
  · by_cases h3 : k = 3
    · subst h3; exact fo_nn x
    · unfold pw
      rw [if_neg hk.1, if_neg h1, if_neg hk.2, if_neg h3]
      exact tr_nn x
theorem pw_0z (k : Int) : pw k 0 = 0 := by
  unfold pw
  split
  · rfl
  · split
    · rfl
    · split
      · rfl
      · split <;> rfl
theorem pv_le {k f x y : Int} (hf : 0 ≤ f) (h : pw k x ≤ pw k y) : pv k f x ≤ pv k f y := Int.mul_le_mul_of_nonneg_left h hf
/-- a term's values lie between its least and its greatest -/
theorem pv_bd {k f l h x : Int} (hf : 0 ≤ f) (h1 : l ≤ x) (h2 : x ≤ h) : tLo k f l h ≤ pv k f x ∧ pv k f x ≤ tHi k f l h := by
  by_cases hk : ¬ k = 0 ∧ ¬ k = 2
  · constructor
    · unfold tLo
      by_cases ht : l ≤ 0 ∧ 0 ≤ h
      · rw [if_pos ⟨hk, ht⟩]
        exact Int.mul_nonneg hf (pw_nn hk x)
      · rw [if_neg (fun q => ht q.2)]
        rcases (by omega : 0 < l ∨ h < 0) with hl | hh
        · have := pv_le hf (pw_up hk (by omega) h1)
          omega
        · have := pv_le hf (pw_dn hk (by omega) h2)
          omega
    · unfold tHi
      rcases (by omega : 0 ≤ x ∨ x ≤ 0) with hx | hx
      · have := pv_le hf (pw_up hk hx h2)
        omega
      · have := pv_le hf (pw_dn hk hx h1)
        omega
  · have hk2 : k = 0 ∨ k = 2 := by omega
    have g1 := pv_le hf (pw_mono hk2 h1)
    have g2 := pv_le hf (pw_mono hk2 h2)
    constructor
    · unfold tLo
      rw [if_neg (fun q => hk q.1)]
      omega
    · unfold tHi
      omega
theorem TOk.val {u : Tm} (hu : TOk u) {x : Int} (h1 : tL u ≤ x) (h2 : x ≤ tH u) : tLo (tK u) (tF u) (tL u) (tH u) ≤ tV u x ∧ tV u x ≤ tHi (tK u) (tF u) (tL u) (tH u) := pv_bd (by have := hu.1; omega) h1 h2
theorem tHi_bd {u : Tm} (h : TOk u) : -3000 ≤ tHi (tK u) (tF u) (tL u) (tH u) ∧ tHi (tK u) (tF u) (tL u) (tH u) ≤ 3000 := by
  obtain ⟨-, -, -, h4, h5⟩ := h
  unfold tV at h4 h5
  unfold tHi
  omega
theorem TOk.v3 {u : Tm} (hu : TOk u) {x : Int} (h1 : tL u ≤ x) (h2 : x ≤ tH u) : -3000 ≤ tV u x ∧ tV u x ≤ 3000 := by
  have := hu.val h1 h2
  have := tLo_bd hu
  have := tHi_bd hu
  omega
/-- a sum over x from l on, n of them -/
def rsum (f : Int → Int) : Int → Nat → Int
  | _, 0 => 0
  | l, n + 1 => f l + rsum f (l + 1) n
theorem rsum_last (f : Int → Int) : ∀ (n : Nat) (l : Int), rsum f l (n + 1) = rsum f l n + f (l + n)
  | 0, l => by simp [rsum]
  | n + 1, l => by
    have := rsum_last f n (l + 1)
    rw [rsum, this, rsum, show l + 1 + (n : Int) = l + ((n + 1 : Nat) : Int) by omega]
    omega
theorem rsum_congr {f g : Int → Int} : ∀ (n : Nat) (l : Int), (∀ x, l ≤ x → x < l + n → f x = g x) → rsum f l n = rsum g l n
  | 0, _, _ => rfl
  | n + 1, l, h => by
    rw [rsum, rsum, h l (by omega) (by omega), rsum_congr n (l + 1) fun x h1 h2 => h x (by omega) (by omega)]
theorem rsum_0 {f : Int → Int} : ∀ (n : Nat) (l : Int), (∀ x, l ≤ x → x < l + n → f x = 0) → rsum f l n = 0
  | 0, _, _ => rfl
  | n + 1, l, h => by
    rw [rsum, h l (by omega) (by omega), rsum_0 n (l + 1) fun x h1 h2 => h x (by omega) (by omega)]
    rfl
theorem rsum_nn {f : Int → Int} : ∀ (n : Nat) (l : Int), (∀ x, l ≤ x → x < l + n → 0 ≤ f x) → 0 ≤ rsum f l n
  | 0, _, _ => by simp [rsum]
  | n + 1, l, h => by
    have h1 := h l (by omega) (by omega)
    have h2 := rsum_nn n (l + 1) fun x g1 g2 => h x (by omega) (by omega)
    rw [rsum]
    omega
/-- ways of n -/
def wy : List Tm → Int → Int
  | [], n => if n = 0 then 1 else 0
  | u :: us, n => rsum (fun x => wy us (n - tV u x)) (tL u) (tH u - tL u + 1).toNat
def hfT : List Tm → Int
  | [] => 0
  | u :: us => hfT us + tHi (tK u) (tF u) (tL u) (tH u)
theorem wy_nn : ∀ (ts : List Tm) (n : Int), 0 ≤ wy ts n
  | [], n => by unfold wy; split <;> omega
  | u :: us, n => rsum_nn _ _ fun x _ _ => wy_nn us _
theorem wy_lo : ∀ (ts : List Tm) (n : Int), (∀ u ∈ ts, TOk u) → n < lfT ts → wy ts n = 0
  | [], n, _, h => by
    unfold wy
    rw [lfT] at h
    rw [if_neg (by omega)]
  | u :: us, n, hu, h => by
    unfold wy
    refine rsum_0 _ _ fun x h1 h2 => wy_lo us _ (fun v hv => hu v (List.mem_cons_of_mem _ hv)) ?_
    have hk := hu u List.mem_cons_self
    have := hk.2.2.1
    have := (hk.val h1 (by omega)).1
    rw [lfT] at h
    omega
theorem wy_hi : ∀ (ts : List Tm) (n : Int), (∀ u ∈ ts, TOk u) → hfT ts < n → wy ts n = 0
  | [], n, _, h => by
    unfold wy
    rw [hfT] at h
    rw [if_neg (by omega)]
  | u :: us, n, hu, h => by
    unfold wy
    refine rsum_0 _ _ fun x h1 h2 => wy_hi us _ (fun v hv => hu v (List.mem_cons_of_mem _ hv)) ?_
    have hk := hu u List.mem_cons_self
    have := hk.2.2.1
    have := (hk.val h1 (by omega)).2
    rw [hfT] at h
    omega
