/-! PURE: what calls answer of ways -/
/-- a choice -/
noncomputable def cI (P : Prop) (a b : Int) : Int := @ite Int P (Classical.propDecidable P) a b
theorem cI_t {P : Prop} {a b : Int} (h : P) : cI P a b = a := if_pos h
theorem cI_f {P : Prop} {a b : Int} (h : ¬ P) : cI P a b = b := if_neg h
/-- the i-th n with p, from f on; how many, if i is -1; else z -/
def pick (p : Int → Bool) (i z : Int) : Nat → Int → Int → Int
  | 0, _, f => if i = -1 then f else z
  | k + 1, n, f => if p n = true then (if f = i then n else pick p i z k (n + 1) (f + 1)) else pick p i z k (n + 1) f
/-- down as long as g is above 0 -/
def fuF (g : Int → Int) : Nat → Int → Int
  | 0, l => l
  | k + 1, l => if 0 < g (k : Int) then fuF g k k else l
/-- the longest run of noughts, its first -/
def gapF (g : Int → Int) : Nat → Int → Int → Int → Int → Int × Int
  | 0, _, _, b, f => (b, f)
  | k + 1, n, l, b, f => if b < (if g n = 0 then l + 1 else 0) then gapF g k (n + 1) (if g n = 0 then l + 1 else 0) (if g n = 0 then l + 1 else 0) (n - (if g n = 0 then l + 1 else 0) + 1) else gapF g k (n + 1) (if g n = 0 then l + 1 else 0) b f
/-- how many stand ahead of n -/
def ahF (g : Int → Int) (n : Int) : Nat → Int → Int → Int
  | 0, _, c => c
  | k + 1, o, c => ahF g n k (o + 1) (if g n < g o ∨ (g o = g n ∧ o < n) then c + 1 else c)
def rkF (g : Int → Int) (fr : Int) (m : Nat) (i : Int) : Nat → Int → Int
  | 0, _ => -100000
  | k + 1, n => if ahF g n m fr 0 = i then n else rkF g fr m i k (n + 1)
theorem ahF_bd (g : Int → Int) (n : Int) : ∀ (k : Nat) (o c : Int), c ≤ ahF g n k o c ∧ ahF g n k o c ≤ c + k
  | 0, o, c => ⟨Int.le_refl _, by simp [ahF]⟩
  | k + 1, o, c => by
    rw [ahF]
    split
    · have := ahF_bd g n k (o + 1) (c + 1)
      omega
    · have := ahF_bd g n k (o + 1) c
      omega
/-- is the row r (from term t on) a way of n -/
def isWy : List Tm → Int → (Int → Int) → Int → Prop
  | [], _, _, n => n = 0
  | u :: us, t, r, n => (tL u ≤ r t ∧ r t ≤ tH u) ∧ isWy us (t + 1) r (n - tV u (r t))
/-- ways ahead of the row r -/
def ahW : List Tm → Int → (Int → Int) → Int → Int
  | [], _, _, _ => 0
  | u :: us, t, r, n => rsum (fun x => wy us (n - tV u x)) (tL u) (r t - tL u).toNat + ahW us (t + 1) r (n - tV u (r t))
/-- the k-th way of n: its x of the term i -/
def xW (v : Int → Int) (us : List Tm) (n : Int) : Nat → Int → Int → Int × Int
  | 0, x, k => (x, k)
  | m + 1, x, k => if k < wy us (n - v x) then (x, k) else xW v us n m (x + 1) (k - wy us (n - v x))
/-- ways are few enough for a long -/
theorem rsum_ub {f : Int → Int} {B : Int} : ∀ (n : Nat) (l : Int), (∀ x, l ≤ x → x < l + n → f x ≤ B) → rsum f l n ≤ n * B
  | 0, _, _ => by simp [rsum]
  | n + 1, l, h => by
    have h1 := h l (by omega) (by omega)
    have h2 := rsum_ub n (l + 1) fun x g1 g2 => h x (by omega) (by omega)
    rw [rsum, Int.natCast_add, Int.add_mul]
    omega
theorem wy_ub : ∀ (ts : List Tm) (n : Int), (∀ u ∈ ts, TOk u) → wy ts n ≤ 6001 ^ ts.length
  | [], n, _ => by
    unfold wy
    split <;> simp
  | u :: us, n, h => by
    have hk := (h u List.mem_cons_self).2.2.1
    have h1 : wy (u :: us) n ≤ ((tH u - tL u + 1).toNat : Int) * 6001 ^ us.length := by
      unfold wy
      exact rsum_ub _ _ fun x _ _ => wy_ub us _ fun v hv => h v (List.mem_cons_of_mem _ hv)
    have h2 : ((tH u - tL u + 1).toNat : Int) * 6001 ^ us.length ≤ 6001 * 6001 ^ us.length := Int.mul_le_mul_of_nonneg_right (by omega) (Int.pow_nonneg (by omega))
    rw [List.length_cons, Int.pow_succ, Int.mul_comm (6001 ^ us.length)]
    omega
theorem wy_64 {ts : List Tm} (h : ∀ u ∈ ts, TOk u) (h5 : ts.length ≤ 5) (n : Int) : 0 ≤ wy ts n ∧ wy ts n ≤ 9000000000000000000 := by
  refine ⟨wy_nn ts n, Int.le_trans (wy_ub ts n h) ?_⟩
  rcases (by omega : ts.length = 0 ∨ ts.length = 1 ∨ ts.length = 2 ∨ ts.length = 3 ∨ ts.length = 4 ∨ ts.length = 5) with z | z | z | z | z | z <;> rw [z] <;> decide
/-- what may yet be made of coefficients -/
def pot (N : Nat) : Nat := if N < 108006 then 324018 - 2 * N else 0
theorem pot_step {N : Nat} {ts : List Tm} (hN : N ≤ 108006) (hok : ∀ u ∈ ts, TOk u) (h5 : ts.length ≤ 5) : cwB N ts + pot (nxN N ts) ≤ pot N ∧ nxN N ts ≤ 108006 := by
  unfold cwB nxN
  by_cases h : 0 ≤ 3000 - lfT ts ∧ (N : Int) < cwE ts
  · rw [if_pos h, if_pos h]
    have hE := cwE_bd hok h5 h.1
    unfold pot mkN
    constructor
    · split <;> split <;> omega
    · omega
  · rw [if_neg h, if_neg h]
    omega
/-- answers of a method that counts ways and leaves the forms -/
def Am (w : WC) (μ : Mem) (x : Nat) (F : Int → List Tm) (N bs : Nat) (a : AV) (v : Option AV) (μ2 : Mem) : Prop := v = some a ∧ ∃ c2 N2, CA w μ2 x F c2 N2 ∧ Fr (Cc x) (Kc x) μ μ2 ∧ bs + pot N2 ≤ 12002 + pot N
theorem Tc_Cc {x a : Nat} (h : Tc x a) : Cc x a := by
  unfold Tc Sc at h
  unfold Cc
  omega
theorem Am.wc {w : WC} {μ μ2 : Mem} {x N c c2 : Nat} {F : Int → List Tm} {s : Int} {a : AV} (h0 : CA w μ x F c N) (hs : 0 ≤ s ∧ s ≤ 3) (h : CA w μ2 x F c2 (nxN N (F s))) (hf : Fr (Tc x) (Kc x) μ μ2) : Am w μ x F N (6001 + cwB N (F s)) a (some a) μ2 := by
  have := (pot_step (ts := F s) h0.2.2.1.2.1 (h0.ok hs) (h0.l5 hs)).1
  exact ⟨rfl, c2, _, h, hf.mono (fun _ _ z => Tc_Cc z) (fun _ _ _ z => z), by omega⟩
theorem Am.no {w : WC} {μ : Mem} {x N c : Nat} {F : Int → List Tm} {a : AV} (h : CA w μ x F c N) : Am w μ x F N 0 a (some a) μ := ⟨rfl, c, N, h, Fr.rf, by omega⟩
/-- room: what is made if the arguments are good -/
theorem room2 (V : Prop) (k : Nat) : ∃ bs : Nat, (V → bs = k) ∧ (¬ V → bs = 0) := by
  by_cases h : V
  · exact ⟨k, fun _ => rfl, fun z => absurd h z⟩
  · exact ⟨0, fun z => absurd z h, fun _ => rfl⟩
