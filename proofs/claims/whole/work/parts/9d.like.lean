/-! LIKE TERMS, PURE -/
section HK
variable {v : Int → Int} {f g : Int → Int}
theorem hk_0 (m : Nat) (l : Int) : hk v m l 0 f = f := by
  cases m <;> rw [hk]
theorem hk_n (l : Int) (k : Nat) (n : Int) : hk v 0 l (k + 1) f n = 0 := by
  rw [hk]
theorem hk_s (m : Nat) (l : Int) (k : Nat) (n : Int) : hk v (m + 1) l (k + 1) f n = hk v (m + 1) l k f (n - v l) + hk v m (l + 1) (k + 1) f n := by
  rw [hk]
theorem hk_last : ∀ (m : Nat) (l : Int) (k : Nat) (n : Int), hk v (m + 1) l (k + 1) f n = hk v (m + 1) l k f (n - v (l + m)) + hk v m l (k + 1) f n
  | 0, l, k, n => by
    rw [hk_s, hk_n, hk_n, show l + ((0 : Nat) : Int) = l by omega]
  | m + 1, l, 0, n => by
    have ih := hk_last m (l + 1) 0 n
    rw [hk_0] at ih
    rw [hk_s (m + 1) l 0 n, hk_s m l 0 n, ih, hk_0, hk_0, show l + 1 + (m : Int) = l + ((m + 1 : Nat) : Int) by omega]
    omega
  | m + 1, l, k + 1, n => by
    have ih1 := hk_last m (l + 1) (k + 1) n
    have ih2 := hk_last (m + 1) l k (n - v l)
    rw [hk_s (m + 1) l (k + 1) n, hk_s m l (k + 1) n, ih1, ih2, hk_s (m + 1) l k (n - v (l + ((m + 1 : Nat) : Int))), show l + 1 + (m : Int) = l + ((m + 1 : Nat) : Int) by omega, show n - v l - v (l + ((m + 1 : Nat) : Int)) = n - v (l + ((m + 1 : Nat) : Int)) - v l by omega]
    omega
theorem hk_sh {F : Int} : ∀ (m : Nat) (l : Int) (k : Nat) (n : Int), hk (fun x => F * x) m (l + 1) k f n = hk (fun x => F * x) m l k f (n - F * (k : Int))
  | m, l, 0, n => by
    rw [hk_0, hk_0, show F * ((0 : Nat) : Int) = 0 from Int.mul_zero F, Int.sub_zero]
  | 0, l, k + 1, n => by
    rw [hk_n, hk_n]
  | m + 1, l, k + 1, n => by
    have e1 : F * ((k + 1 : Nat) : Int) = F * (k : Int) + F := by
      rw [show ((k + 1 : Nat) : Int) = (k : Int) + 1 by omega, Int.mul_add, Int.mul_one]
    have e2 : F * (l + 1) = F * l + F := by rw [Int.mul_add, Int.mul_one]
    rw [hk_s, hk_s, hk_sh (m + 1) l k, hk_sh m (l + 1) (k + 1)]
    rw [e1, e2, show n - (F * l + F) - F * (k : Int) = n - (F * (k : Int) + F) - F * l by omega]
/-- rising x of a line -/
theorem hk_G {F : Int} (m : Nat) (l : Int) (k : Nat) (n : Int) : hk (fun x => F * x) (m + 1) l (k + 1) f n = hk (fun x => F * x) (m + 1) l (k + 1) f (n - F * ((k : Int) + 1)) + hk (fun x => F * x) (m + 1) l k f (n - F * l) - hk (fun x => F * x) (m + 1) l k f (n - F * l - F * ((m : Int) + ((k : Int) + 1))) := by
  have h1 := hk_s (v := fun x => F * x) (f := f) m l k n
  have h2 := hk_sh (f := f) (F := F) m l (k + 1) n
  have h3 := hk_last (v := fun x => F * x) (f := f) m l k (n - F * ((k : Int) + 1))
  rw [show ((k + 1 : Nat) : Int) = (k : Int) + 1 by omega] at h2
  have e1 : F * ((m : Int) + ((k : Int) + 1)) = F * (m : Int) + F * ((k : Int) + 1) := Int.mul_add _ _ _
  have e2 : F * (l + (m : Int)) = F * l + F * (m : Int) := Int.mul_add _ _ _
  rw [e2, show n - F * ((k : Int) + 1) - (F * l + F * (m : Int)) = n - F * l - (F * (m : Int) + F * ((k : Int) + 1)) by omega] at h3
  rw [e1]
  omega
theorem hk_congr {v2 : Int → Int} : ∀ (m : Nat) (l : Int) (k : Nat), (∀ x, l ≤ x → x < l + m → v x = v2 x) → hk v m l k f = hk v2 m l k f
  | m, l, 0, _ => by rw [hk_0, hk_0]
  | 0, l, k + 1, _ => by funext n; rw [hk_n, hk_n]
  | m + 1, l, k + 1, h => by
    funext n
    rw [hk_s, hk_s, hk_congr (m + 1) l k h, hk_congr m (l + 1) (k + 1) (fun x z1 z2 => h x (by omega) (by omega)), h l (Int.le_refl _) (by omega)]
/-- nothing below, nothing above -/
theorem hk_lo {b a : Int} (hf : ∀ n, n < b → f n = 0) : ∀ (m : Nat) (l : Int) (k : Nat), (∀ x, l ≤ x → x < l + m → a ≤ v x) → ∀ n, n < b + (k : Int) * a → hk v m l k f n = 0
  | m, l, 0, _, n, hn => by
    rw [hk_0]
    exact hf n (by omega)
  | 0, l, k + 1, _, n, _ => hk_n l k n
  | m + 1, l, k + 1, h, n, hn => by
    have e : ((k + 1 : Nat) : Int) * a = (k : Int) * a + a := by
      rw [show ((k + 1 : Nat) : Int) = (k : Int) + 1 by omega, Int.add_mul, Int.one_mul]
    have h0 := h l (Int.le_refl _) (by omega)
    rw [hk_s, hk_lo hf (m + 1) l k h (n - v l) (by omega), hk_lo hf m (l + 1) (k + 1) (fun x z1 z2 => h x (by omega) (by omega)) n hn]
    rfl
theorem hk_hi {b a : Int} (hf : ∀ n, b < n → f n = 0) : ∀ (m : Nat) (l : Int) (k : Nat), (∀ x, l ≤ x → x < l + m → v x ≤ a) → ∀ n, b + (k : Int) * a < n → hk v m l k f n = 0
  | m, l, 0, _, n, hn => by
    rw [hk_0]
    exact hf n (by omega)
  | 0, l, k + 1, _, n, _ => hk_n l k n
  | m + 1, l, k + 1, h, n, hn => by
    have e : ((k + 1 : Nat) : Int) * a = (k : Int) * a + a := by
      rw [show ((k + 1 : Nat) : Int) = (k : Int) + 1 by omega, Int.add_mul, Int.one_mul]
    have h0 := h l (Int.le_refl _) (by omega)
    rw [hk_s, hk_hi hf (m + 1) l k h (n - v l) (by omega), hk_hi hf m (l + 1) (k + 1) (fun x z1 z2 => h x (by omega) (by omega)) n hn]
    rfl
/-! sums of powers -/
def PW (v : Int → Int) (m : Nat) (l : Int) (c : Int) (f : Int → Int) : Int → Int := fun n => rsum (fun x => f (n - c * v x)) l m
def nS (g : Nat → Int) : Nat → Int
  | 0 => 0
  | k + 1 => nS g k + g (k + 1)
theorem nS_1 (g : Nat → Int) : ∀ k, nS g (k + 1) = g 1 + nS (fun i => g (i + 1)) k
  | 0 => by simp [nS]
  | k + 1 => by
    rw [nS, nS_1 g k, nS]
    omega
theorem nS_congr {g h : Nat → Int} : ∀ k, (∀ i, 1 ≤ i → i ≤ k → g i = h i) → nS g k = nS h k
  | 0, _ => rfl
  | k + 1, e => by
    rw [nS, nS, nS_congr k (fun i z1 z2 => e i z1 (by omega)), e (k + 1) (by omega) (by omega)]
theorem nS_add (g h : Nat → Int) : ∀ k, nS (fun i => g i + h i) k = nS g k + nS h k
  | 0 => rfl
  | k + 1 => by
    rw [nS, nS, nS, nS_add g h k]
    omega
theorem rsum_add9 (a b : Int → Int) : ∀ (m : Nat) (l : Int), rsum (fun x => a x + b x) l m = rsum a l m + rsum b l m
  | 0, _ => rfl
  | m + 1, l => by
    rw [rsum, rsum, rsum, rsum_add9 a b m]
    omega
theorem rsum_mul9 (c : Int) (a : Int → Int) : ∀ (m : Nat) (l : Int), rsum (fun x => c * a x) l m = c * rsum a l m
  | 0, _ => (Int.mul_zero c).symm
  | m + 1, l => by
    rw [rsum, rsum, rsum_mul9 c a m, Int.mul_add]
theorem rsum_comm9 (a : Int → Int → Int) : ∀ (m m2 : Nat) (l l2 : Int), rsum (fun x => rsum (fun y => a x y) l2 m2) l m = rsum (fun y => rsum (fun x => a x y) l m) l2 m2
  | 0, m2, l, l2 => (rsum_0 m2 l2 fun _ _ _ => rfl).symm
  | m + 1, m2, l, l2 => by
    rw [rsum, rsum_comm9 a m m2 (l + 1) l2, ← rsum_add9]
    rfl
theorem PW_s (m : Nat) (l c n : Int) : PW v (m + 1) l c f n = f (n - c * v l) + PW v m (l + 1) c f n := rfl
theorem PW_add (m : Nat) (l c n : Int) : PW v m l c (fun n => f n + g n) n = PW v m l c f n + PW v m l c g n := rsum_add9 _ _ m l
theorem PW_mul (a : Int) (m : Nat) (l c n : Int) : PW v m l c (fun n => a * f n) n = a * PW v m l c f n := rsum_mul9 a _ m l
theorem PW_sh (s : Int) (m : Nat) (l c n : Int) : PW v m l c (fun n => f (n - s)) n = PW v m l c f (n - s) := by
  unfold PW
  refine rsum_congr m l fun x _ _ => ?_
  show f (n - c * v x - s) = f (n - s - c * v x)
  rw [show n - c * v x - s = n - s - c * v x by omega]
theorem PW_comm {v2 : Int → Int} (m m2 : Nat) (l l2 c c2 n : Int) : PW v m l c (PW v2 m2 l2 c2 f) n = PW v2 m2 l2 c2 (PW v m l c f) n := by
  unfold PW
  rw [rsum_comm9]
  refine rsum_congr _ _ fun y _ _ => rsum_congr _ _ fun x _ _ => ?_
  rw [show n - c * v x - c2 * v2 y = n - c2 * v2 y - c * v x by omega]
theorem newton : ∀ (m : Nat) (l : Int) (k : Nat) (n : Int), (k : Int) * hk v m l k f n = nS (fun i => PW v m l (i : Int) (hk v m l (k - i) f) n) k
  | 0, l, k, n => by
    have e : nS (fun i => PW v 0 l (i : Int) (hk v 0 l (k - i) f) n) k = nS (fun _ => 0) k := nS_congr k fun i _ _ => rfl
    have e0 : ∀ k, nS (fun _ => 0) k = 0 := fun k => by
      induction k with
      | zero => rfl
      | succ k ih => rw [nS, ih]; rfl
    rw [e, e0]
    cases k with
    | zero => exact Int.zero_mul _
    | succ k => rw [hk_n, Int.mul_zero]
  | m + 1, l, k, n => by
    induction k generalizing n with
    | zero => exact Int.zero_mul _
    | succ k ih =>
      have hm := newton m (l + 1) (k + 1) n
      have e1 : nS (fun i => PW v (m + 1) l (i : Int) (hk v (m + 1) l (k + 1 - i) f) n) (k + 1) = nS (fun i => hk v (m + 1) l (k + 1 - i) f (n - (i : Int) * v l)) (k + 1) + nS (fun i => PW v m (l + 1) (i : Int) (hk v (m + 1) l (k + 1 - i) f) n) (k + 1) := by
        rw [← nS_add]
        exact nS_congr _ fun i _ _ => PW_s m l (i : Int) n
      have e2 : nS (fun i => hk v (m + 1) l (k + 1 - i) f (n - (i : Int) * v l)) (k + 1) = hk v (m + 1) l k f (n - v l) + nS (fun i => hk v (m + 1) l (k - i) f (n - v l - (i : Int) * v l)) k := by
        rw [nS_1]
        congr 1
        · rw [show ((1 : Nat) : Int) * v l = v l from Int.one_mul _]
          rfl
        · refine nS_congr k fun i _ _ => ?_
          rw [show k + 1 - (i + 1) = k - i by omega, show ((i + 1 : Nat) : Int) * v l = (i : Int) * v l + v l by rw [show ((i + 1 : Nat) : Int) = (i : Int) + 1 by omega, Int.add_mul, Int.one_mul], show n - ((i : Int) * v l + v l) = n - v l - (i : Int) * v l by omega]
      have e3 : nS (fun i => PW v m (l + 1) (i : Int) (hk v (m + 1) l (k + 1 - i) f) n) (k + 1) = nS (fun i => PW v m (l + 1) (i : Int) (hk v (m + 1) l (k - i) f) (n - v l)) k + nS (fun i => PW v m (l + 1) (i : Int) (hk v m (l + 1) (k + 1 - i) f) n) (k + 1) := by
        have a1 : nS (fun i => PW v m (l + 1) (i : Int) (hk v (m + 1) l (k + 1 - i) f) n) k = nS (fun i => PW v m (l + 1) (i : Int) (hk v (m + 1) l (k - i) f) (n - v l) + PW v m (l + 1) (i : Int) (hk v m (l + 1) (k + 1 - i) f) n) k := by
          refine nS_congr k fun i z1 z2 => ?_
          rw [← PW_sh, ← PW_add]
          congr 1
          funext q
          rw [show k + 1 - i = (k - i) + 1 by omega]
          exact hk_s m l (k - i) q
        rw [nS_add] at a1
        show nS _ k + _ = _ + (nS _ k + _)
        dsimp only
        rw [a1, show k + 1 - (k + 1) = 0 by omega, hk_0, hk_0]
        omega
      have e4 := ih (n - v l)
      have e5 : nS (fun i => PW v (m + 1) l (i : Int) (hk v (m + 1) l (k - i) f) (n - v l)) k = nS (fun i => hk v (m + 1) l (k - i) f (n - v l - (i : Int) * v l)) k + nS (fun i => PW v m (l + 1) (i : Int) (hk v (m + 1) l (k - i) f) (n - v l)) k := by
        rw [← nS_add]
        exact nS_congr _ fun i _ _ => PW_s m l (i : Int) (n - v l)
      rw [e1, e2, e3, ← hm, hk_s, Int.mul_add]
      have e6 : ((k + 1 : Nat) : Int) * hk v (m + 1) l k f (n - v l) = (k : Int) * hk v (m + 1) l k f (n - v l) + hk v (m + 1) l k f (n - v l) := by
        rw [show ((k + 1 : Nat) : Int) = (k : Int) + 1 by omega, Int.add_mul, Int.one_mul]
      omega
end HK
