/-! THE CLASS: rows of like terms -/
theorem lkL_hk {g Φ : Int → Int} {T b F L : Int} {len : Nat} (hF : 1 ≤ F) (hΦ : ∀ n, n < b → Φ n = 0) (hg : ∀ p, 0 ≤ p → p ≤ T → g p = Φ (p + b)) : ∀ (j : Nat) (p : Int), 0 ≤ p → p ≤ T → lkL g 0 T F (len : Int) j p = hk (fun x => F * x) (len + 1) L j Φ (p + b + (j : Int) * (F * L))
  | 0, p, h0, h1 => by
    rw [hk_0, show p + b + ((0 : Nat) : Int) * (F * L) = p + b by rw [show ((0 : Nat) : Int) * (F * L) = 0 from Int.zero_mul _, Int.add_zero]]
    exact hg p h0 h1
  | j + 1, p, h0, h1 => by
    have ih := fun p => lkL_hk (len := len) (L := L) hF hΦ hg j p
    have ev : ∀ x : Int, L ≤ x → x < L + ((len + 1 : Nat) : Int) → F * L ≤ (fun x => F * x) x := fun x z _ => Int.mul_le_mul_of_nonneg_left z (by omega)
    have hlo := fun k n => hk_lo (v := fun x => F * x) hΦ (len + 1) L k ev n
    have ej : ((j + 1 : Nat) : Int) * (F * L) = (j : Int) * (F * L) + F * L := by rw [show ((j + 1 : Nat) : Int) = (j : Int) + 1 by omega, Int.add_mul, Int.one_mul]
    have hst : 1 ≤ F * ((j : Int) + 1) := by
      have := Int.mul_le_mul hF (show 1 ≤ (j : Int) + 1 by omega) (by omega) (by omega)
      omega
    have hG := fun n => hk_G (f := Φ) (F := F) len L j n
    have hcut : 0 ≤ F * ((len : Int) + ((j : Int) + 1)) := Int.mul_nonneg (by omega) (by omega)
    have hdn : ∀ p, 0 ≤ p → p ≤ T → dnF (lkL g 0 T F (len : Int) j) 0 T (F * ((len : Int) + ((j : Int) + 1))) p = hk (fun x => F * x) (len + 1) L j Φ (p + b + (j : Int) * (F * L)) - hk (fun x => F * x) (len + 1) L j Φ (p + b + (j : Int) * (F * L) - F * ((len : Int) + ((j : Int) + 1))) := fun p z0 z1 => by
      unfold dnF
      by_cases hc : 0 + F * ((len : Int) + ((j : Int) + 1)) ≤ p ∧ p ≤ T
      · rw [if_pos hc, ih p z0 z1, ih _ (by omega) (by omega)]
        congr 2
        omega
      · rw [if_neg hc, ih p z0 z1, hlo j (p + b + (j : Int) * (F * L) - F * ((len : Int) + ((j : Int) + 1))) (by omega), Int.sub_zero]
    have key : ∀ (N : Nat) (p : Int), p ≤ (N : Int) → 0 ≤ p → p ≤ T → lkL g 0 T F (len : Int) (j + 1) p = hk (fun x => F * x) (len + 1) L (j + 1) Φ (p + b + ((j + 1 : Nat) : Int) * (F * L)) := by
      intro N
      induction N with
      | zero =>
        intro p z z0 z1
        show upF _ 0 T (F * ((j : Int) + 1)) p = _
        rw [upF_low (by omega) hst, hdn p z0 z1, hG, hlo (j + 1) (p + b + ((j + 1 : Nat) : Int) * (F * L) - F * ((j : Int) + 1)) (by omega), ej, Int.zero_add]
        congr 2 <;> omega
      | succ N ihN =>
        intro p z z0 z1
        show upF _ 0 T (F * ((j : Int) + 1)) p = _
        by_cases hc : 0 + F * ((j : Int) + 1) ≤ p
        · rw [upF_step hst hc z1, hdn p z0 z1, hG]
          have h2 := ihN (p - F * ((j : Int) + 1)) (by omega) (by omega) (by omega)
          have h3 : upF (dnF (lkL g 0 T F (len : Int) j) 0 T (F * ((len : Int) + ((j : Int) + 1)))) 0 T (F * ((j : Int) + 1)) (p - F * ((j : Int) + 1)) = lkL g 0 T F (len : Int) (j + 1) (p - F * ((j : Int) + 1)) := rfl
          rw [h3, h2, ej]
          rw [show p - F * ((j : Int) + 1) + b + ((j : Int) * (F * L) + F * L) = p + b + ((j : Int) * (F * L) + F * L) - F * ((j : Int) + 1) by omega, show p + b + ((j : Int) * (F * L) + F * L) - F * L = p + b + (j : Int) * (F * L) by omega]
          omega
        · rw [upF_low (by omega) hst, hdn p z0 z1, hG, hlo (j + 1) (p + b + ((j + 1 : Nat) : Int) * (F * L) - F * ((j : Int) + 1)) (by omega), ej, Int.zero_add]
          congr 2 <;> omega
    exact key p.toNat p (by omega) h0 h1
/-- row j of the cells holds what j of the x taken so far make -/
def RwP (g Φ : Int → Int) (T b lo : Int) (v : Int → Int) (L : Int) (m j : Nat) : Prop := ∀ p, 0 ≤ p → p ≤ T → g ((j : Int) * (T + 1) + p) = hk v m L j Φ (p + b + (j : Int) * lo)
theorem row_apart {i j : Nat} {T p q : Int} (hT : 0 ≤ T) (hij : ¬ i = j) (hp : 0 ≤ p ∧ p ≤ T) (hq : 0 ≤ q ∧ q ≤ T) : ¬ (i : Int) * (T + 1) + p = (j : Int) * (T + 1) + q := by
  rcases Nat.lt_or_gt_of_ne hij with z | z
  · have := row_ge (T := T) (t := (i : Int)) (j := (j : Int)) hT (by omega)
    omega
  · have := row_ge (T := T) (t := (j : Int)) (j := (i : Int)) hT (by omega)
    omega
theorem RwP.sh {g Φ : Int → Int} {T b lo re sh : Int} {v : Int → Int} {L : Int} {m j : Nat} (hT : 0 ≤ T) (hΦ : ∀ n, n < b → Φ n = 0) (hv : ∀ x, L ≤ x → x < L + ((m + 1 : Nat) : Int) → lo ≤ v x) (hsh : sh = v (L + m) - lo) (h1 : RwP g Φ T b lo v L m (j + 1)) (h2 : RwP g Φ T b lo v L (m + 1) j) (hz : ∀ p, re < p → 0 ≤ p → p ≤ T → g ((j : Int) * (T + 1) + p) = 0) : RwP (shF g (((j + 1 : Nat) : Int) * (T + 1)) ((j : Int) * (T + 1)) sh (min T (sh + re))) Φ T b lo v L (m + 1) (j + 1) := by
  intro p p0 p1
  have hs0 := hv (L + m) (by omega) (by omega)
  have ej : ((j + 1 : Nat) : Int) * lo = (j : Int) * lo + lo := by rw [show ((j + 1 : Nat) : Int) = (j : Int) + 1 by omega, Int.add_mul, Int.one_mul]
  rw [hk_last, ej]
  have e1 := h1 p p0 p1
  rw [ej] at e1
  rw [show p + b + ((j : Int) * lo + lo) - v (L + (m : Int)) = p - sh + b + (j : Int) * lo by omega]
  unfold shF
  by_cases hc : ((j + 1 : Nat) : Int) * (T + 1) + sh ≤ ((j + 1 : Nat) : Int) * (T + 1) + p ∧ ((j + 1 : Nat) : Int) * (T + 1) + p ≤ ((j + 1 : Nat) : Int) * (T + 1) + min T (sh + re)
  · rw [if_pos hc, e1, show ((j + 1 : Nat) : Int) * (T + 1) + p - ((j + 1 : Nat) : Int) * (T + 1) - sh + (j : Int) * (T + 1) = (j : Int) * (T + 1) + (p - sh) by omega, h2 (p - sh) (by omega) (by omega)]
    omega
  · rw [if_neg hc, e1]
    have hz2 : hk v (m + 1) L j Φ (p - sh + b + (j : Int) * lo) = 0 := by
      by_cases hps : p < sh
      · exact hk_lo hΦ (m + 1) L j hv _ (by omega)
      · rw [← h2 (p - sh) (by omega) (by omega)]
        exact hz (p - sh) (by omega) (by omega) (by omega)
    omega
theorem RwP.ne {g Φ : Int → Int} {T b lo e sh : Int} {v : Int → Int} {L : Int} {m i j : Nat} (hT : 0 ≤ T) (h : RwP g Φ T b lo v L m i) (hij : ¬ i = j) (hs : 0 ≤ sh) (he : e ≤ T) (bb : Int) : RwP (shF g ((j : Int) * (T + 1)) bb sh e) Φ T b lo v L m i := by
  intro p p0 p1
  rw [← h p p0 p1]
  unfold shF
  rw [if_neg]
  intro z
  rcases Nat.lt_or_gt_of_ne hij with y | y
  · have := row_ge (T := T) (t := (i : Int)) (j := (j : Int)) hT (by omega)
    omega
  · have := row_ge (T := T) (t := (j : Int)) (j := (i : Int)) hT (by omega)
    omega
theorem RwP.far {g Φ : Int → Int} {T b lo hi R re : Int} {v : Int → Int} {L : Int} {m j : Nat} (h : RwP g Φ T b lo v L m j) (hΦ : ∀ n, b + R < n → Φ n = 0) (hv : ∀ x, L ≤ x → x < L + (m : Int) → v x ≤ hi) (hre : re = min T R + (j : Int) * (hi - lo)) (hlh : lo ≤ hi) : ∀ p, re < p → 0 ≤ p → p ≤ T → g ((j : Int) * (T + 1) + p) = 0 := by
  intro p z0 z1 z2
  rw [h p z1 z2]
  have e := Int.mul_sub (j : Int) hi lo
  have hn := Int.mul_nonneg (Int.natCast_nonneg j) (show 0 ≤ hi - lo by omega)
  exact hk_hi hΦ m L j hv _ (by omega)
/-! which terms are like -/
theorem count_drop {ts : List Tm} {t : Nat} {u : Tm} (h : ts[t]? = some u) : ts.drop t = u :: ts.drop (t + 1) := List.drop_eq_getElem?_toList_append.trans (by rw [h]; rfl)
theorem FI.lk {μ : Mem} {q : Nat} {ts : List Tm} (hI : FI μ q ts) {s t : Nat} {u v : Tm} (hs : ts[s]? = some v) (ht : ts[t]? = some u) : lkM μ q (s : Int) (t : Int) ↔ v = u := by
  obtain ⟨a1, a2, a3, a4, -⟩ := hI.2.2.2 s v hs
  obtain ⟨b1, b2, b3, b4, -⟩ := hI.2.2.2 t u ht
  unfold lkM
  rw [a1, a2, a3, a4, b1, b2, b3, b4]
  exact ⟨fun h => Prod.ext h.1 (Prod.ext h.2.1 (Prod.ext h.2.2.1 h.2.2.2)), fun h => by rw [h]; exact ⟨rfl, rfl, rfl, rfl⟩⟩
theorem lkF_up {μ : Mem} {q : Nat} {ts : List Tm} (hI : FI μ q ts) {t : Nat} {u : Tm} (ht : ts[t]? = some u) : ∀ (n s : Nat) (c : Int), t ≤ s → s + n = ts.length → lkF μ q (t : Int) n (s : Int) c = c + ((ts.drop s).count u : Int)
  | 0, s, c, h, hl => by
    rw [lkF, List.drop_of_length_le (by omega)]
    show c = c + ((0 : Nat) : Int)
    omega
  | n + 1, s, c, h, hl => by
    obtain ⟨v, hv⟩ : ∃ v, ts[s]? = some v := ⟨_, List.getElem?_eq_getElem (by omega)⟩
    have hk := hI.lk hv ht
    rw [lkF, count_drop hv, show (s : Int) + 1 = ((s + 1 : Nat) : Int) by omega, List.count_cons]
    by_cases e : v = u
    · rw [bI_1 (hk.mpr e), if_neg (by decide), if_neg (by omega), lkF_up hI ht n (s + 1) (c + 1) (by omega) (by omega), if_pos (by rw [e]; simp)]
      omega
    · rw [bI_0 (fun z => e (hk.mp z)), if_pos rfl, lkF_up hI ht n (s + 1) c (by omega) (by omega), if_neg (by simpa using e)]
      omega
theorem lkF_lo {μ : Mem} {q : Nat} {ts : List Tm} (hI : FI μ q ts) {t : Nat} {u : Tm} (ht : ts[t]? = some u) : ∀ (n s : Nat), s ≤ t → s + n = ts.length → lkF μ q (t : Int) n (s : Int) 0 = if u ∈ (ts.take t).drop s then 0 else ((ts.drop t).count u : Int)
  | 0, s, h, hl => by
    have := get_lt ht
    omega
  | n + 1, s, h, hl => by
    rcases Nat.lt_or_ge s t with z | z
    · obtain ⟨v, hv⟩ : ∃ v, ts[s]? = some v := ⟨_, List.getElem?_eq_getElem (by have := get_lt ht; omega)⟩
      have hk := hI.lk hv ht
      have hv2 : (ts.take t)[s]? = some v := by
        rw [List.getElem?_take, if_pos z]
        exact hv
      have hd : (ts.take t).drop s = v :: (ts.take t).drop (s + 1) := List.drop_eq_getElem?_toList_append.trans (by rw [hv2]; rfl)
      rw [lkF, hd, show (s : Int) + 1 = ((s + 1 : Nat) : Int) by omega]
      by_cases e : v = u
      · rw [bI_1 (hk.mpr e), if_neg (by decide), if_pos (by omega), if_pos (by rw [e]; exact List.mem_cons_self)]
      · rw [bI_0 (fun z => e (hk.mp z)), if_pos rfl, lkF_lo hI ht n (s + 1) (by omega) (by omega)]
        by_cases y : u ∈ (ts.take t).drop (s + 1)
        · rw [if_pos y, if_pos (List.mem_cons_of_mem _ y)]
        · rw [if_neg y, if_neg (fun q => (List.mem_cons.mp q).elim (fun r => e r.symm) y)]
    · have es : s = t := by omega
      subst es
      rw [lkF_up hI ht (n + 1) s 0 (Nat.le_refl _) hl, List.drop_take, Nat.sub_self, List.take_zero, if_neg List.not_mem_nil, Int.zero_add]
/-! the least sum -/
def loT (u : Tm) : Int := tLo (tK u) (tF u) (tL u) (tH u)
def hiT (u : Tm) : Int := tHi (tK u) (tF u) (tL u) (tH u)
def lfR : List Tm → List Tm → Int
  | _, [] => 0
  | pre, u :: us => (if u ∈ pre then 0 else ((us.count u + 1 : Nat) : Int) * loT u) + lfR (u :: pre) us
def lfX : List Tm → List Tm → Int
  | _, [] => 0
  | pre, u :: us => (if u ∈ pre then 0 else loT u) + lfX pre us
theorem lfX_c {pre : List Tm} {u : Tm} (hu : ¬ u ∈ pre) : ∀ us : List Tm, lfX pre us = (us.count u : Int) * loT u + lfX (u :: pre) us
  | [] => by
    show (0 : Int) = ((0 : Nat) : Int) * loT u + 0
    rw [show ((0 : Nat) : Int) * loT u = 0 from Int.zero_mul _]
    rfl
  | v :: us => by
    have ih := lfX_c hu us
    show (if v ∈ pre then 0 else loT v) + lfX pre us = _ + ((if v ∈ u :: pre then 0 else loT v) + lfX (u :: pre) us)
    rw [ih, List.count_cons]
    by_cases e : v = u
    · rw [e, if_neg hu, if_pos List.mem_cons_self, if_pos (by simp), show ((us.count u + 1 : Nat) : Int) = (us.count u : Int) + 1 by omega, Int.add_mul, Int.one_mul]
      omega
    · rw [if_neg (show ¬ (v == u) = true by simpa using e)]
      by_cases y : v ∈ pre
      · rw [if_pos y, if_pos (List.mem_cons_of_mem _ y), Nat.add_zero]
        omega
      · rw [if_neg y, if_neg (fun q => (List.mem_cons.mp q).elim e y), Nat.add_zero]
        omega
theorem lfR_X : ∀ (us pre : List Tm), lfR pre us = lfX pre us
  | [], pre => rfl
  | u :: us, pre => by
    show (if u ∈ pre then 0 else ((us.count u + 1 : Nat) : Int) * loT u) + lfR (u :: pre) us = (if u ∈ pre then 0 else loT u) + lfX pre us
    rw [lfR_X us (u :: pre)]
    by_cases y : u ∈ pre
    · rw [if_pos y, if_pos y]
      congr 1
      have : ∀ vs : List Tm, lfX (u :: pre) vs = lfX pre vs := by
        intro vs
        induction vs with
        | nil => rfl
        | cons v vs ih =>
          show (if v ∈ u :: pre then 0 else loT v) + lfX (u :: pre) vs = (if v ∈ pre then 0 else loT v) + lfX pre vs
          rw [ih]
          by_cases q : v ∈ pre
          · rw [if_pos q, if_pos (List.mem_cons_of_mem _ q)]
          · rw [if_neg q, if_neg (fun r => (List.mem_cons.mp r).elim (fun e => q (by rw [e]; exact y)) q)]
      exact this us
    · rw [if_neg y, if_neg y, lfX_c y us, show ((us.count u + 1 : Nat) : Int) = (us.count u : Int) + 1 by omega, Int.add_mul, Int.one_mul]
      omega
theorem lfX_0 : ∀ us : List Tm, lfX [] us = lfT us
  | [] => rfl
  | u :: us => by
    show (if u ∈ ([] : List Tm) then 0 else loT u) + lfX [] us = lfT us + _
    rw [if_neg List.not_mem_nil, lfX_0 us]
    exact Int.add_comm _ _
