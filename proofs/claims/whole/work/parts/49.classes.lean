/-! CLASSES OF REMAINDERS -/
theorem xor_neg {a b : Int} (ha : i32 a) (hb : i32 b) : (iv a ^^^ iv b).toInt < 0 ↔ (a < 0 ∧ 0 ≤ b) ∨ (0 ≤ a ∧ b < 0) := by
  have h : (iv a ^^^ iv b).toBitVec.msb = (((iv a).toBitVec.msb) ^^ ((iv b).toBitVec.msb)) := by
    rw [Int32.toBitVec_xor, BitVec.msb_xor]
  rw [BitVec.msb_eq_toInt, BitVec.msb_eq_toInt, BitVec.msb_eq_toInt] at h
  have h1 : (iv a).toBitVec.toInt = a := iv_toInt ha
  have h2 : (iv b).toBitVec.toInt = b := iv_toInt hb
  rw [h1, h2] at h
  have h3 : (iv a ^^^ iv b).toInt = (iv a ^^^ iv b).toBitVec.toInt := rfl
  rw [h3]
  by_cases q1 : a < 0 <;> by_cases q2 : b < 0 <;> simp [q1, q2] at h ⊢ <;> omega
theorem xor_negL {a b : Int} (ha : i64 a) (hb : i64 b) : (lg a ^^^ lg b).toInt < 0 ↔ (a < 0 ∧ 0 ≤ b) ∨ (0 ≤ a ∧ b < 0) := by
  have h : (lg a ^^^ lg b).toBitVec.msb = (((lg a).toBitVec.msb) ^^ ((lg b).toBitVec.msb)) := by
    rw [Int64.toBitVec_xor, BitVec.msb_xor]
  rw [BitVec.msb_eq_toInt, BitVec.msb_eq_toInt, BitVec.msb_eq_toInt] at h
  have h1 : (lg a).toBitVec.toInt = a := lg_toInt ha
  have h2 : (lg b).toBitVec.toInt = b := lg_toInt hb
  rw [h1, h2] at h
  have h3 : (lg a ^^^ lg b).toInt = (lg a ^^^ lg b).toBitVec.toInt := rfl
  rw [h3]
  by_cases q1 : a < 0 <;> by_cases q2 : b < 0 <;> simp [q1, q2] at h ⊢ <;> omega
theorem tm_em {a b : Int} (hb : 0 < b) : (0 ≤ a % b ∧ a % b < b) ∧ (-b < a.tmod b ∧ a.tmod b < b) ∧ ((a.tmod b = a % b ∧ (0 ≤ a ∨ a % b = 0)) ∨ (a.tmod b = a % b - b ∧ a < 0)) := by
  have h1 := Int.emod_nonneg a (show b ≠ 0 by omega)
  have h2 := Int.emod_lt_of_pos a hb
  rw [Int.tmod_eq_emod]
  by_cases h : 0 ≤ a ∨ b ∣ a
  · rw [if_pos h]
    rcases h with h | h
    · omega
    · have := Int.emod_eq_zero_of_dvd h
      omega
  · rw [if_neg h]
    have h3 : ¬ a % b = 0 := fun z => h (Or.inr (Int.dvd_of_emod_eq_zero z))
    omega
theorem c_floorMod (w : WC) (d : Nat) (μ : Mem) {a b : Int} (ha : i32 a) (hb : 0 < b ∧ b ≤ 2147483647) : Con w d mJ9_floorMod_7cf53 0 0 [vI a, vI b] μ (fun v μ2 => v = some (vI (a % b)) ∧ μ2 = μ) := by
  have h1 := tm_em (a := a) hb.1
  have h2 := xor_neg ha (b := b) (by omega)
  have h3 := i32_of (iv a ^^^ iv b)
  refine Con.ofF (by decide +kernel) (Nat.le_of_ble_eq_true rfl) rfl ?_
  refine g_iload_n (j := 0) rfl dJ9_floorMod_7cf53_0 ?_
  refine g_iload_n (j := 1) rfl dJ9_floorMod_7cf53_1 ?_
  refine g_irem (by omega) (by omega) (by omega) dJ9_floorMod_7cf53_2 ?_
  refine g_istore_n (j := 2) dJ9_floorMod_7cf53_3 (by decide) rfl ls2 ?_
  refine g_iload_n (j := 0) rfl dJ9_floorMod_7cf53_4 ?_
  refine g_iload_n (j := 1) rfl dJ9_floorMod_7cf53_5 ?_
  refine g_ixor dJ9_floorMod_7cf53_6 ?_
  refine g_if_ge (tgt := 18) dJ9_floorMod_7cf53_7 (by decide) (by omega) (fun h7 => ?_) (fun h7 => ?_)
  · refine g_iload_n (j := 2) rfl dJ9_floorMod_7cf53_18 ?_
    first
    | (exfalso; omega)
    | exact G.retI dJ9_floorMod_7cf53_19 rfl ⟨by congr 2; omega, rfl⟩
  · refine g_iload_n (j := 2) rfl dJ9_floorMod_7cf53_10 ?_
    refine g_if_eq (tgt := 18) dJ9_floorMod_7cf53_11 (by decide) (by omega) (fun h11 => ?_) (fun h11 => ?_)
    · refine g_iload_n (j := 2) rfl dJ9_floorMod_7cf53_18 ?_
      first
      | (exfalso; omega)
      | exact G.retI dJ9_floorMod_7cf53_19 rfl ⟨by congr 2; omega, rfl⟩
    · refine g_iload_n (j := 2) rfl dJ9_floorMod_7cf53_14 ?_
      refine g_iload_n (j := 1) rfl dJ9_floorMod_7cf53_15 ?_
      refine g_iadd dJ9_floorMod_7cf53_16 ?_
      first
      | (exfalso; omega)
      | exact G.retI dJ9_floorMod_7cf53_17 rfl ⟨by congr 2; omega, rfl⟩
theorem c_floorModL (w : WC) (d : Nat) (μ : Mem) {a b : Int} (ha : i64 a) (hb : 0 < b ∧ b ≤ 2147483647) : Con w d mJ9_floorMod_f86c9 0 0 [vJ a, vJ b] μ (fun v μ2 => v = some (vJ (a % b)) ∧ μ2 = μ) := by
  have h1 := tm_em (a := a) hb.1
  have h2 := xor_negL ha (b := b) (by omega)
  have h3 := i64_of (lg a ^^^ lg b)
  refine Con.ofF (by decide +kernel) (Nat.le_of_ble_eq_true rfl) rfl ?_
  refine g_lload_n (j := 0) rfl dJ9_floorMod_f86c9_0 ?_
  refine g_lload_n (j := 2) rfl dJ9_floorMod_f86c9_1 ?_
  refine g_lrem (by omega) (by omega) (by omega) dJ9_floorMod_f86c9_2 ?_
  refine g_lstore (i := 4) dJ9_floorMod_f86c9_3 (by decide) rfl lj4 ?_
  refine g_lload_n (j := 0) rfl dJ9_floorMod_f86c9_5 ?_
  refine g_lload_n (j := 2) rfl dJ9_floorMod_f86c9_6 ?_
  refine g_lxor dJ9_floorMod_f86c9_7 ?_
  refine g_lconst0 dJ9_floorMod_f86c9_8 ?_
  refine g_lif_ge (tgt := 25) dJ9_floorMod_f86c9_9 dJ9_floorMod_f86c9_10 (by decide) (by omega) (by omega) (fun h9 => ?_) (fun h9 => ?_)
  · refine g_lload (i := 4) rfl dJ9_floorMod_f86c9_25 ?_
    first
    | (exfalso; omega)
    | exact G.retJ dJ9_floorMod_f86c9_27 rfl ⟨by congr 2; omega, rfl⟩
  · refine g_lload (i := 4) rfl dJ9_floorMod_f86c9_13 ?_
    refine g_lconst0 dJ9_floorMod_f86c9_15 ?_
    refine g_lif_eq (tgt := 25) dJ9_floorMod_f86c9_16 dJ9_floorMod_f86c9_17 (by decide) (by omega) (by omega) (fun h16 => ?_) (fun h16 => ?_)
    · refine g_lload (i := 4) rfl dJ9_floorMod_f86c9_25 ?_
      first
      | (exfalso; omega)
      | exact G.retJ dJ9_floorMod_f86c9_27 rfl ⟨by congr 2; omega, rfl⟩
    · refine g_lload (i := 4) rfl dJ9_floorMod_f86c9_20 ?_
      refine g_lload_n (j := 2) rfl dJ9_floorMod_f86c9_22 ?_
      refine g_ladd dJ9_floorMod_f86c9_23 ?_
      first
      | (exfalso; omega)
      | exact G.retJ dJ9_floorMod_f86c9_24 rfl ⟨by congr 2; omega, rfl⟩
theorem md_sub (a b m : Int) : (a - b % m) % m = (a - b) % m := by rw [Int.sub_emod, Int.emod_emod, ← Int.sub_emod]
theorem md_small {s v m : Int} (hs : 0 ≤ s ∧ s < m) (hv : 0 ≤ v ∧ v < m) : (s - v) % m = if v ≤ s then s - v else s - v + m := by
  split
  · exact Int.emod_eq_of_lt (by omega) (by omega)
  · rw [← Int.add_emod_right]
    exact Int.emod_eq_of_lt (by omega) (by omega)
theorem rsum_add (f g : Int → Int) : ∀ (n : Nat) (l : Int), rsum (fun x => f x + g x) l n = rsum f l n + rsum g l n
  | 0, _ => by simp [rsum]
  | n + 1, l => by
    have := rsum_add f g n (l + 1)
    simp only [rsum]
    omega
theorem rsum_delta {p : Int} {c : Int → Int} : ∀ (n : Nat) (l : Int), l ≤ p → p < l + n → rsum (fun v => (if p = v then 1 else 0) * c v) l n = c p
  | 0, l, h1, h2 => by omega
  | n + 1, l, h1, h2 => by
    rw [rsum]
    by_cases h : p = l
    · subst h
      rw [if_pos rfl, Int.one_mul, rsum_0 n (p + 1) fun x z1 z2 => by rw [if_neg (by omega), Int.zero_mul]]
      omega
    · rw [if_neg h, Int.zero_mul, Int.zero_add]
      exact rsum_delta n (l + 1) (by omega) (by omega)
/-- rows of x by whose values class r is met -/
def xsN (u : Tm) (m : Int) : Int := if tK u = 4 then 2 * m else m
def clW (m : Int) : List Tm → Int → Int
  | [], r => if r = 0 then 1 else 0
  | u :: us, r => rsum (fun x => clW m us ((r - tV u x) % m)) 0 (xsN u m).toNat
theorem clW_nn (m : Int) : ∀ (ts : List Tm) (r : Int), 0 ≤ clW m ts r
  | [], r => by unfold clW; split <;> omega
  | u :: us, r => by unfold clW; exact rsum_nn _ _ fun x _ _ => clW_nn m us _
theorem clW_ub {m : Int} (hm : 1 ≤ m ∧ m ≤ 60) : ∀ (ts : List Tm) (r : Int), clW m ts r ≤ 120 ^ ts.length
  | [], r => by
    unfold clW
    split <;> simp
  | u :: us, r => by
    have hx : xsN u m ≤ 120 := by unfold xsN; split <;> omega
    have hx0 : 0 ≤ xsN u m := by unfold xsN; split <;> omega
    have h1 : clW m (u :: us) r ≤ ((xsN u m).toNat : Int) * 120 ^ us.length := by
      unfold clW
      exact rsum_ub _ _ fun x _ _ => clW_ub hm us _
    have h2 : ((xsN u m).toNat : Int) * 120 ^ us.length ≤ 120 * 120 ^ us.length := Int.mul_le_mul_of_nonneg_right (by omega) (Int.pow_nonneg (by omega))
    rw [List.length_cons, Int.pow_succ, Int.mul_comm (120 ^ us.length)]
    omega
theorem clW_64 {m : Int} (hm : 1 ≤ m ∧ m ≤ 60) {ts : List Tm} (h5 : ts.length ≤ 5) (r : Int) : 0 ≤ clW m ts r ∧ clW m ts r ≤ 100000000000 := by
  refine ⟨clW_nn m ts r, Int.le_trans (clW_ub hm ts r) ?_⟩
  rcases (by omega : ts.length = 0 ∨ ts.length = 1 ∨ ts.length = 2 ∨ ts.length = 3 ∨ ts.length = 4 ∨ ts.length = 5) with z | z | z | z | z | z <;> rw [z] <;> decide
/-- how many of the first k have the class v -/
def hitF (g : Int → Int) : Nat → Int → Int
  | 0, _ => 0
  | k + 1, v => hitF g k v + if g k = v then 1 else 0
theorem hitF_bd (g : Int → Int) : ∀ (k : Nat) (v : Int), 0 ≤ hitF g k v ∧ hitF g k v ≤ k
  | 0, _ => by simp [hitF]
  | k + 1, v => by
    have := hitF_bd g k v
    rw [hitF]
    split <;> omega
theorem hitF_sum {g : Int → Int} {m : Int} (hg : ∀ x, 0 ≤ g x ∧ g x < m) (f : Int → Int) (s : Int) : ∀ k : Nat, rsum (fun v => hitF g k v * f ((s - v) % m)) 0 m.toNat = rsum (fun x => f ((s - g x) % m)) 0 k
  | 0 => by
    rw [rsum]
    exact rsum_0 _ _ fun x _ _ => by rw [hitF, Int.zero_mul]
  | k + 1 => by
    rw [rsum_last, ← hitF_sum hg f s k]
    have h1 := rsum_delta (p := g k) (c := fun v => f ((s - v) % m)) m.toNat 0 (hg k).1 (by have := (hg k).2; omega)
    rw [show (0 : Int) + (k : Int) = k by omega, ← h1, ← rsum_add]
    exact rsum_congr _ _ fun x _ _ => by rw [hitF, Int.add_mul]
/-- cells of the classes -/
def FrC (x : Nat) (μ μ2 : Mem) : Prop := Fr (fun a => x + 62 ≤ a ∧ a ≤ x + 64) (fun _ _ => False) μ μ2
theorem FrC.tps {w : WC} {x : Nat} {μ μ2 : Mem} (h : FrC x μ μ2) (hT : TPS w μ x) : TPS w μ2 x := hT.fr h fun _ _ _ z => z.elim
theorem FrC.ca {w : WC} {x c N : Nat} {F : Int → List Tm} {μ μ2 : Mem} (h : FrC x μ μ2) (hC : CA w μ x F c N) : CA w μ2 x F c N := hC.fr h (fun a z => by omega) (fun _ _ z => z.elim)
theorem FrC.am {w : WC} {x c N : Nat} {F : Int → List Tm} {μ μ2 : Mem} {a : AV} (h : FrC x μ μ2) (hC : CA w μ x F c N) : Am w μ x F N 0 a (some a) μ2 := ⟨rfl, c, N, h.ca hC, h.mono (fun a _ z => by unfold Cc; omega) (fun _ _ _ z => z.elim), by omega⟩
section CL
variable {w : WC} {x q : Nat} {ts : List Tm} {mm : Int}
theorem c_rowsFrom (w : WC) (d : Nat) (μ : Mem) {x : Nat} (hT : TPS w μ x) {t r : Int} (ht : 0 ≤ t ∧ t ≤ 5) (hr : 0 ≤ r ∧ r < 60) : Con w d mX0_rowsFrom 0 0 [vP (some (x + 62)), vI t, vI r] μ (fun v μ2 => v = some (vJ (mL μ (x + 63) (60 * t + r))) ∧ μ2 = μ) := by
  have o62 := hT.o62
  have r62 := hT.r62_0
  have a63 := hT.a63
  have e : t * 60 + r = 60 * t + r := by omega
  refine Con.of (by decide) (Nat.le_of_ble_eq_true rfl) rfl ?_
  refine g_iload_n (j := 1) rfl dX0_rowsFrom_0 ?_
  refine g_bipush dX0_rowsFrom_1 (by omega) ?_
  refine g_imul dX0_rowsFrom_3 ?_
  refine g_iload_n (j := 2) rfl dX0_rowsFrom_4 ?_
  refine g_iadd dX0_rowsFrom_5 ?_
  refine g_istore_n (j := 3) dX0_rowsFrom_6 (by decide) rfl ls3 ?_
  refine g_iload_n (j := 3) rfl dX0_rowsFrom_7 ?_
  refine g_if_lt (tgt := 29) dX0_rowsFrom_8 (by decide) (by omega) (fun h8 => ?_) (fun h8 => ?_)
  · refine g_lconst0 dX0_rowsFrom_29 ?_
    first | (exfalso; omega) | (rw [e]; exact G.retJ dX0_rowsFrom_30 rfl ⟨rfl, rfl⟩)
  · refine g_iload_n (j := 3) rfl dX0_rowsFrom_11 ?_
    refine g_aload_n (j := 0) rfl dX0_rowsFrom_12 ?_
    refine g_getR dX0_rowsFrom_13 flX0_9 rfl (by assumption) (kz := 0) rfl (by assumption) ?_
    refine g_alen dX0_rowsFrom_16 (by assumption) (by omega) ?_
    refine g_icmp_ge (tgt := 29) dX0_rowsFrom_17 (by decide) (by omega) (by omega) (fun h17 => ?_) (fun h17 => ?_)
    · refine g_lconst0 dX0_rowsFrom_29 ?_
      first | (exfalso; omega) | (rw [e]; exact G.retJ dX0_rowsFrom_30 rfl ⟨rfl, rfl⟩)
    · refine g_aload_n (j := 0) rfl dX0_rowsFrom_20 ?_
      refine g_getR dX0_rowsFrom_21 flX0_9 rfl (by assumption) (kz := 0) rfl (by assumption) ?_
      refine g_iload_n (j := 3) rfl dX0_rowsFrom_24 ?_
      refine g_lald dX0_rowsFrom_25 (by assumption) (by omega) (by omega) ?_
      refine g_goto (tgt := 30) (by decide) dX0_rowsFrom_26 ?_
      first | (exfalso; omega) | (rw [e]; exact G.retJ dX0_rowsFrom_30 rfl ⟨rfl, rfl⟩)
theorem c_rowLength (w : WC) (d : Nat) (μ : Mem) {x q : Nat} {ts : List Tm} (hT : TPS w μ x) (hF : FoS w μ q) (hI : FI μ q ts) {t : Int} {u : Tm} (h0 : 0 ≤ t) (h1 : t < ts.length) (hk : TOk u) (hat : TmAt μ q t u) : Con w d mX0_rowLength 0 0 [vP (some (x + 62)), vP (some q), vI t] μ (fun v μ2 => v = some (vI (xsN u (mI μ (x + 62) 2))) ∧ μ2 = μ) := by
  have o62 := hT.o62
  have h5 := hI.2.1
  have hk2 := hk.2.1
  have g2 := hat.2.1
  obtain ⟨p0, ⟨pr1, pr2, pr3, pr4, pr5, pr6⟩, pa1, pa2, pa3, pa4, pa5, pa6⟩ := id hF
  refine Con.of (by decide) (Nat.le_of_ble_eq_true rfl) rfl ?_
  refine g_aload_n (j := 1) rfl dX0_rowLength_0 ?_
  refine g_getR dX0_rowLength_1 flX0_63 rfl (by assumption) (kz := 2) rfl (by assumption) ?_
  refine g_iload_n (j := 2) rfl dX0_rowLength_4 ?_
  refine g_iald dX0_rowLength_5 (by assumption) (by omega) (by omega) ?_
  rw [g2]
  refine g_iconst dX0_rowLength_6 ?_
  refine g_icmp_ne (tgt := 19) dX0_rowLength_7 (by decide) (by omega) (by omega) (fun h7 => ?_) (fun h7 => ?_)
  · refine g_aload_n (j := 0) rfl dX0_rowLength_19 ?_
    refine g_getI dX0_rowLength_20 flX0_19 rfl (by assumption) (kz := 2) rfl ?_
    first
    | exact G.retI dX0_rowLength_23 rfl ⟨by rw [xsN, if_pos (by omega)], rfl⟩
    | exact G.retI dX0_rowLength_23 rfl ⟨by rw [xsN, if_neg (by omega)], rfl⟩
  · refine g_iconst dX0_rowLength_10 ?_
    refine g_aload_n (j := 0) rfl dX0_rowLength_11 ?_
    refine g_getI dX0_rowLength_12 flX0_19 rfl (by assumption) (kz := 2) rfl ?_
    refine g_imul dX0_rowLength_15 ?_
    refine g_goto (tgt := 23) (by decide) dX0_rowLength_16 ?_
    first
    | exact G.retI dX0_rowLength_23 rfl ⟨by rw [xsN, if_pos (by omega)], rfl⟩
    | exact G.retI dX0_rowLength_23 rfl ⟨by rw [xsN, if_neg (by omega)], rfl⟩
theorem pv_64 {k f x : Int} (hf : 1 ≤ f ∧ f ≤ 99) (hx : 0 ≤ x ∧ x ≤ 120) : 0 ≤ pv k f x ∧ pv k f x ≤ 99 * 207360000 := by
  have hp : 0 ≤ pw k x ∧ pw k x ≤ 207360000 := by
    have a1 := Int.mul_le_mul hx.2 hx.2 hx.1 (by omega)
    have a0 := sq_nn x
    have b1 := Int.mul_le_mul a1 hx.2 hx.1 (by omega)
    have b0 := cu_nn hx.1
    have c1 := Int.mul_le_mul b1 hx.2 hx.1 (by omega)
    have c0 := fo_nn x
    have d0 := tr_nn x
    have d1 := tr_le hx.1 hx.2
    unfold pw
    split
    · omega
    · split
      · omega
      · split
        · omega
        · split <;> omega
  unfold pv
  constructor
  · exact Int.mul_nonneg (by omega) hp.1
  · exact Int.mul_le_mul hf.2 hp.2 hp.1 (by omega)
theorem c_remainder (w : WC) (d : Nat) (μ : Mem) {x q : Nat} {ts : List Tm} (hT : TPS w μ x) (hF : FoS w μ q) (hI : FI μ q ts) {mm : Int} (em : mI μ (x + 62) 2 = mm) (hm : 1 ≤ mm ∧ mm ≤ 60) {t y : Int} {u : Tm} (h0 : 0 ≤ t) (h1 : t < ts.length) (hk : TOk u) (hat : TmAt μ q t u) (hy : 0 ≤ y ∧ y < 120) : Con w (d + 1) mX0_remainder 0 0 [vP (some (x + 62)), vP (some q), vI t, vI y] μ (fun v μ2 => v = some (vI (tV u y % mm)) ∧ μ2 = μ) := by
  have o62 := hT.o62
  have h5 := hI.2.1
  have g1 := hat.1
  have g2 := hat.2.1
  have hk1 := hk.1
  have hk2 := hk.2.1
  have hp := pv_64 (k := tK u) hk1 (x := y) (by omega)
  obtain ⟨p0, ⟨pr1, pr2, pr3, pr4, pr5, pr6⟩, pa1, pa2, pa3, pa4, pa5, pa6⟩ := id hF
  refine Con.of (by decide) (Nat.le_of_ble_eq_true rfl) rfl ?_
  refine g_aload_n (j := 1) rfl dX0_remainder_0 ?_
  refine g_getR dX0_remainder_1 flX0_63 rfl (by assumption) (kz := 2) rfl (by assumption) ?_
  refine g_iload_n (j := 2) rfl dX0_remainder_4 ?_
  refine g_iald dX0_remainder_5 (by assumption) (by omega) (by omega) ?_
  refine g_aload_n (j := 1) rfl dX0_remainder_6 ?_
  refine g_getR dX0_remainder_7 flX0_66 rfl (by assumption) (kz := 1) rfl (by assumption) ?_
  refine g_iload_n (j := 2) rfl dX0_remainder_10 ?_
  refine g_iald dX0_remainder_11 (by assumption) (by omega) (by omega) ?_
  refine g_iload_n (j := 3) rfl dX0_remainder_12 ?_
  refine g_callS dX0_remainder_13 mlX0_69 msX11_powerValue (c_powerValue w d μ (k := mI μ (q + 2) t) (f := mI μ (q + 1) t) (x := y) (by omega) (by omega) (by omega) (by omega)) sk3 rfl (by omega) (Nat.le_of_ble_eq_true rfl) (Nat.le_refl _) (Nat.le_refl _) (fun v μ2 hR => ?_)
  obtain ⟨rfl, hm⟩ := hR
  replace hm := hm.symm
  subst hm
  rw [g1, g2]
  
  refine g_aload_n (j := 0) rfl dX0_remainder_16 ?_
  refine g_getI dX0_remainder_17 flX0_19 rfl (by assumption) (kz := 2) rfl ?_
  rw [em]
  refine g_i2l (by omega) dX0_remainder_20 ?_
  refine g_callS dX0_remainder_21 mlX0_73 msJ9_floorMod_f86c9 (c_floorModL w d μ (a := pv (tK u) (tF u) y) (b := mm) (by omega) (by omega)) sk2 rfl (by omega) (Nat.le_of_ble_eq_true rfl) (Nat.le_refl _) (Nat.le_refl _) (fun v μ2 hR => ?_)
  obtain ⟨rfl, hm⟩ := hR
  replace hm := hm.symm
  subst hm
  refine g_l2i dX0_remainder_24 ?_
  exact G.retI dX0_remainder_25 rfl ⟨rfl, rfl⟩
def rmF (u : Tm) (m : Int) : Int → Int := fun y => tV u y % m
theorem rmF_bd {u : Tm} {m : Int} (hm : 1 ≤ m) (y : Int) : 0 ≤ rmF u m y ∧ rmF u m y < m := ⟨Int.emod_nonneg _ (by omega), Int.emod_lt_of_pos _ (by omega)⟩
theorem l_hits0 {d : Nat} {R : Option AV → Mem → Prop} {μ : Mem} (hT : TPS w μ x) (em : mI μ (x + 62) 2 = mm) (hm : 1 ≤ mm ∧ mm ≤ 60) {t : Int} (kk : ∀ (g : Int → Int) (x3 : Option AV), (∀ v, 0 ≤ v → v < mm → g v = 0) → G w d mX0_takeHits R 0 0 23 [some (vP (some (x + 62))), some (vP (some q)), some (vI t), x3] [] (wI μ (x + 64) g)) : ∀ (n : Nat) (v : Int) (g : Int → Int), v + n = mm → 0 ≤ v → (∀ j, 0 ≤ j → j < v → g j = 0) →
    G w d mX0_takeHits R 0 0 2 [some (vP (some (x + 62))), some (vP (some q)), some (vI t), some (vI v)] [] (wI μ (x + 64) g) := by
  have o62 := hT.o62
  have r62 := hT.r62_1
  have a64 := hT.a64
  have em' : ∀ g, mI (wI μ (x + 64) g) (x + 62) 2 = mm := fun g => by rw [mI_wI, if_neg (by omega)]; exact em
  intro n
  induction n with
  | zero =>
    intro v g hv h0 hg
    refine g_iload_n (j := 3) rfl dX0_takeHits_2 ?_
    refine g_aload_n (j := 0) rfl dX0_takeHits_3 ?_
    refine g_getIv dX0_takeHits_4 flX0_19 rfl (by simp only [IsO_sI, IsO_sL, IsO_sR, IsO_wI, IsO_wL, IsA_sI, IsA_sL, IsA_sR, IsA_wI, IsA_wL, mR_sI, mR_sL, mR_wI, mR_wL]; assumption) (kz := 2) rfl (by simp [mI_sI, mI_sL, mI_sR, mI_wI, mI_wL, mL_sI, mL_sL, mL_sR, mL_wI, mL_wL, em, em']; rfl) ?_
    refine g_icmp_ge (tgt := 23) dX0_takeHits_7 (by decide) (by omega) (by omega) (fun h7 => ?_) (fun h7 => ?_)
    · exact kk g _ fun j z1 z2 => hg j z1 (by omega)
    · omega
  | succ n ih =>
    intro v g hv h0 hg
    refine g_iload_n (j := 3) rfl dX0_takeHits_2 ?_
    refine g_aload_n (j := 0) rfl dX0_takeHits_3 ?_
    refine g_getIv dX0_takeHits_4 flX0_19 rfl (by simp only [IsO_sI, IsO_sL, IsO_sR, IsO_wI, IsO_wL, IsA_sI, IsA_sL, IsA_sR, IsA_wI, IsA_wL, mR_sI, mR_sL, mR_wI, mR_wL]; assumption) (kz := 2) rfl (by simp [mI_sI, mI_sL, mI_sR, mI_wI, mI_wL, mL_sI, mL_sL, mL_sR, mL_wI, mL_wL, em, em']; rfl) ?_
    refine g_icmp_ge (tgt := 23) dX0_takeHits_7 (by decide) (by omega) (by omega) (fun h7 => ?_) (fun h7 => ?_)
    · omega
    · refine g_aload_n (j := 0) rfl dX0_takeHits_10 ?_
      refine g_getR dX0_takeHits_11 flX0_15 rfl (by simp only [IsO_sI, IsO_sL, IsO_sR, IsO_wI, IsO_wL, IsA_sI, IsA_sL, IsA_sR, IsA_wI, IsA_wL, mR_sI, mR_sL, mR_wI, mR_wL]; assumption) (kz := 1) rfl (by simp only [IsO_sI, IsO_sL, IsO_sR, IsO_wI, IsO_wL, IsA_sI, IsA_sL, IsA_sR, IsA_wI, IsA_wL, mR_sI, mR_sL, mR_wI, mR_wL]; assumption) ?_
      refine g_iload_n (j := 3) rfl dX0_takeHits_14 ?_
      refine g_iconst dX0_takeHits_15 ?_
      refine g_iast dX0_takeHits_16 (by simp only [IsO_sI, IsO_sL, IsO_sR, IsO_wI, IsO_wL, IsA_sI, IsA_sL, IsA_sR, IsA_wI, IsA_wL, mR_sI, mR_sL, mR_wI, mR_wL]; assumption) (by omega) (by omega) ?_
      refine g_iinc (i := 3) dX0_takeHits_17 rfl (by decide) rfl ls3 ?_
      refine g_goto (tgt := 2) (by decide) dX0_takeHits_20 ?_
      rw [sI_wI]
      refine ih (v + 1) _ (by omega) (by omega) fun j z1 z2 => ?_
      show (if j = v then 0 else g j) = 0
      split
      · rfl
      · exact hg j z1 (by omega)
theorem l_hits {d : Nat} {R : Option AV → Mem → Prop} {μ : Mem} (hT : TPS w μ x) (hF : FoS w μ q) (hI : FI μ q ts) (hq : q + 7 ≤ x + 62) (em : mI μ (x + 62) 2 = mm) (hm : 1 ≤ mm ∧ mm ≤ 60) {t : Int} {u : Tm} (h0 : 0 ≤ t) (h1 : t < ts.length) (hk : TOk u) (hat : TmAt μ q t u) (kk : ∀ g : Int → Int, (∀ v, 0 ≤ v → v < mm → g v = hitF (rmF u mm) (xsN u mm).toNat v) → R none (wI μ (x + 64) g)) : ∀ (n : Nat) (k : Nat) (g : Int → Int), (k : Int) + n = xsN u mm → (∀ v, 0 ≤ v → v < mm → g v = hitF (rmF u mm) k v) →
    G w (d + 2) mX0_takeHits R 0 0 25 [some (vP (some (x + 62))), some (vP (some q)), some (vI t), some (vI k)] [] (wI μ (x + 64) g) := by
  have hxs : 0 ≤ xsN u mm ∧ xsN u mm ≤ 120 := by unfold xsN; split <;> omega
  have hfr : ∀ g, FrC x μ (wI μ (x + 64) g) := fun g => Fr.wI (by omega)
  have em' : ∀ g, mI (wI μ (x + 64) g) (x + 62) 2 = mm := fun g => by rw [mI_wI, if_neg (by omega)]; exact em
  have hat' : ∀ g, TmAt (wI μ (x + 64) g) q t u := fun g => by
    unfold TmAt
    simp only [mI_wI, show ¬ q + 1 = x + 64 by omega, show ¬ q + 2 = x + 64 by omega, show ¬ q + 3 = x + 64 by omega, show ¬ q + 4 = x + 64 by omega, show ¬ q + 5 = x + 64 by omega, show ¬ q + 6 = x + 64 by omega, if_false]
    exact hat
  have o62 := hT.o62
  have r62 := hT.r62_1
  have a64 := hT.a64
  intro n
  induction n with
  | zero =>
    intro k g hv hg
    have hT' := (hfr g).tps hT
    have hF' := (hfr g).Fo (fun _ z => z) hF
    have hI' := (hfr g).FI hF (fun a z1 z2 z => by omega) hI
    refine g_iload_n (j := 3) rfl dX0_takeHits_25 ?_
    refine g_aload_n (j := 0) rfl dX0_takeHits_26 ?_
    refine g_aload_n (j := 1) rfl dX0_takeHits_27 ?_
    refine g_iload_n (j := 2) rfl dX0_takeHits_28 ?_
    refine g_callV dX0_takeHits_29 mlX0_55 mvX0_rowLength (ci := 0) ⟨by decide, rfl⟩ (by simp only [IsO_sI, IsO_sL, IsO_sR, IsO_wI, IsO_wL, IsA_sI, IsA_sL, IsA_sR, IsA_wI, IsA_wL, mR_sI, mR_sL, mR_wI, mR_wL]; assumption) (c_rowLength w (d + 1) _ hT' hF' hI' (t := t) h0 h1 hk (hat' g)) sv2 rfl (by omega) (Nat.le_of_ble_eq_true rfl) (Nat.le_refl _) (Nat.le_refl _) (fun v μ2 hR => ?_)
    obtain ⟨rfl, hm⟩ := hR
    replace hm := hm.symm
    subst hm
    rw [em' g]
    refine g_icmp_ge (tgt := 57) dX0_takeHits_32 (by decide) (by omega) (by omega) (fun h32 => ?_) (fun h32 => ?_)
    · refine G.retV dX0_takeHits_57 rfl (kk g fun v z1 z2 => ?_)
      rw [hg v z1 z2, show (xsN u mm).toNat = k by omega]
    · omega
  | succ n ih =>
    intro k g hv hg
    have hT' := (hfr g).tps hT
    have hF' := (hfr g).Fo (fun _ z => z) hF
    have hI' := (hfr g).FI hF (fun a z1 z2 z => by omega) hI
    have hrm := rmF_bd (u := u) (m := mm) hm.1 (k : Int)
    have hbd := hitF_bd (rmF u mm) k (rmF u mm (k : Int))
    have hgk := hg _ hrm.1 hrm.2
    refine g_iload_n (j := 3) rfl dX0_takeHits_25 ?_
    refine g_aload_n (j := 0) rfl dX0_takeHits_26 ?_
    refine g_aload_n (j := 1) rfl dX0_takeHits_27 ?_
    refine g_iload_n (j := 2) rfl dX0_takeHits_28 ?_
    refine g_callV dX0_takeHits_29 mlX0_55 mvX0_rowLength (ci := 0) ⟨by decide, rfl⟩ (by simp only [IsO_sI, IsO_sL, IsO_sR, IsO_wI, IsO_wL, IsA_sI, IsA_sL, IsA_sR, IsA_wI, IsA_wL, mR_sI, mR_sL, mR_wI, mR_wL]; assumption) (c_rowLength w (d + 1) _ hT' hF' hI' (t := t) h0 h1 hk (hat' g)) sv2 rfl (by omega) (Nat.le_of_ble_eq_true rfl) (Nat.le_refl _) (Nat.le_refl _) (fun v μ2 hR => ?_)
    obtain ⟨rfl, hm⟩ := hR
    replace hm := hm.symm
    subst hm
    rw [em' g]
    refine g_icmp_ge (tgt := 57) dX0_takeHits_32 (by decide) (by omega) (by omega) (fun h32 => ?_) (fun h32 => ?_)
    · omega
    · refine g_aload_n (j := 0) rfl dX0_takeHits_35 ?_
      refine g_getR dX0_takeHits_36 flX0_15 rfl (by simp only [IsO_sI, IsO_sL, IsO_sR, IsO_wI, IsO_wL, IsA_sI, IsA_sL, IsA_sR, IsA_wI, IsA_wL, mR_sI, mR_sL, mR_wI, mR_wL]; assumption) (kz := 1) rfl (by simp only [IsO_sI, IsO_sL, IsO_sR, IsO_wI, IsO_wL, IsA_sI, IsA_sL, IsA_sR, IsA_wI, IsA_wL, mR_sI, mR_sL, mR_wI, mR_wL]; assumption) ?_
      refine g_aload_n (j := 0) rfl dX0_takeHits_39 ?_
      refine g_aload_n (j := 1) rfl dX0_takeHits_40 ?_
      refine g_iload_n (j := 2) rfl dX0_takeHits_41 ?_
      refine g_iload_n (j := 3) rfl dX0_takeHits_42 ?_
      refine g_callV dX0_takeHits_43 mlX0_49 mvX0_remainder (ci := 0) ⟨by decide, rfl⟩ (by simp only [IsO_sI, IsO_sL, IsO_sR, IsO_wI, IsO_wL, IsA_sI, IsA_sL, IsA_sR, IsA_wI, IsA_wL, mR_sI, mR_sL, mR_wI, mR_wL]; assumption) (c_remainder w d _ hT' hF' hI' (em' g) hm (t := t) (y := (k : Int)) h0 h1 hk (hat' g) (by omega)) sv3 rfl (by omega) (Nat.le_of_ble_eq_true rfl) (Nat.le_refl _) (Nat.le_refl _) (fun v μ2 hR => ?_)
      obtain ⟨rfl, hm⟩ := hR
      replace hm := hm.symm
      subst hm
      rw [show tV u (k : Int) % mm = rmF u mm (k : Int) from rfl]
      refine g_dup2 rfl rfl dX0_takeHits_46 ?_
      refine g_ialdv dX0_takeHits_47 (by simp only [IsO_sI, IsO_sL, IsO_sR, IsO_wI, IsO_wL, IsA_sI, IsA_sL, IsA_sR, IsA_wI, IsA_wL, mR_sI, mR_sL, mR_wI, mR_wL]; assumption) (by omega) (by omega) (by simp [mI_sI, mI_sL, mI_sR, mI_wI, mI_wL, mL_sI, mL_sL, mL_sR, mL_wI, mL_wL]; rfl) ?_
      refine g_iconst dX0_takeHits_48 ?_
      refine g_iadd dX0_takeHits_49 ?_
      refine g_iast dX0_takeHits_50 (by simp only [IsO_sI, IsO_sL, IsO_sR, IsO_wI, IsO_wL, IsA_sI, IsA_sL, IsA_sR, IsA_wI, IsA_wL, mR_sI, mR_sL, mR_wI, mR_wL]; assumption) (by omega) (by omega) ?_
      refine g_iinc (i := 3) dX0_takeHits_51 rfl (by decide) rfl ls3 ?_
      refine g_goto (tgt := 25) (by decide) dX0_takeHits_54 ?_
      rw [sI_wI, hgk]
      refine ih (k + 1) _ (by omega) fun v z1 z2 => ?_
      show (if v = rmF u mm (k : Int) then _ else g v) = _
      rw [hitF]
      by_cases hz : v = rmF u mm (k : Int)
      · subst hz
        rw [if_pos rfl, if_pos rfl]
      · rw [if_neg hz, if_neg (fun z => hz z.symm), hg v z1 z2]
        omega
theorem c_takeHits (w : WC) (d : Nat) (μ : Mem) {x q : Nat} {ts : List Tm} {mm : Int} (hT : TPS w μ x) (hF : FoS w μ q) (hI : FI μ q ts) (hq : q + 7 ≤ x + 62) (em : mI μ (x + 62) 2 = mm) (hm : 1 ≤ mm ∧ mm ≤ 60) {t : Int} {u : Tm} (h0 : 0 ≤ t) (h1 : t < ts.length) (hk : TOk u) (hat : TmAt μ q t u) : Con w (d + 2) mX0_takeHits 0 0 [vP (some (x + 62)), vP (some q), vI t] μ (fun v μ2 => v = none ∧ ∃ g : Int → Int, (∀ v, 0 ≤ v → v < mm → g v = hitF (rmF u mm) (xsN u mm).toNat v) ∧ μ2 = wI μ (x + 64) g) := by
  have hxs : 0 ≤ xsN u mm ∧ xsN u mm ≤ 120 := by unfold xsN; split <;> omega
  refine Con.of (by decide) (Nat.le_of_ble_eq_true rfl) rfl ?_
  refine g_iconst dX0_takeHits_0 ?_
  refine g_istore_n (j := 3) dX0_takeHits_1 (by decide) rfl ls3 ?_
  have := l_hits0 (d := d + 2) (q := q) (R := fun v μ2 => v = none ∧ ∃ g : Int → Int, (∀ v, 0 ≤ v → v < mm → g v = hitF (rmF u mm) (xsN u mm).toNat v) ∧ μ2 = wI μ (x + 64) g) hT em hm (t := t) (fun g x3 hg => ?_) mm.toNat 0 (mI μ (x + 64)) (by omega) (by omega) (fun j z1 z2 => by omega)
  · rwa [wI_eta] at this
  refine g_iconst dX0_takeHits_23 ?_
  refine g_istore_n (j := 3) dX0_takeHits_24 (by decide) rfl ls3 ?_
  exact l_hits (d := d) hT hF hI hq em hm h0 h1 hk hat (fun g2 hg2 => ⟨rfl, g2, hg2, rfl⟩) (xsN u mm).toNat 0 g (by omega) (fun v z1 z2 => by rw [hg v z1 z2, hitF])
def mdS (m z : Int) : Int := if 0 ≤ z then z else z + m
def adF (L : Int → Int) (t v h m : Int) (b : Int) : Int → Int := fun k => if 60 * t ≤ k ∧ k < 60 * t + m ∧ mdS m (k - 60 * t - v) < b then L k + h * L (60 * t + 60 + mdS m (k - 60 * t - v)) else L k
theorem l_addHits {d : Nat} {μ : Mem} (hT : TPS w μ x) (em : mI μ (x + 62) 2 = mm) (hm : 1 ≤ mm ∧ mm ≤ 60) {t v h : Int} (ht : 0 ≤ t ∧ t ≤ 4) (hv : 0 ≤ v ∧ v < mm) (hh : mI μ (x + 64) v = h) (hb : 0 ≤ h ∧ h ≤ 120) : ∀ (n : Nat) (r : Int) (g : Int → Int) (x6 : Option AV), r + n = mm → 0 ≤ r → (∀ k, g k = adF (mL μ (x + 63)) t v h mm r k) →
    G w d mX0_addHits (fun y μ2 => y = none ∧ μ2 = wL μ (x + 63) (adF (mL μ (x + 63)) t v h mm mm)) 0 0 14 [some (vP (some (x + 62))), some (vI t), some (vI v), some (vI (t * 60)), some (vI (t * 60 + 60)), some (vI r), x6] [] (wL μ (x + 63) g) := by
  have o62 := hT.o62
  have r62 := hT.r62_0
  have r62b := hT.r62_1
  have a63 := hT.a63
  have a64 := hT.a64
  intro n
  induction n with
  | zero =>
    intro r g x6 hr h0 hg
    have hrm : r = mm := by omega
    subst hrm
    refine g_iload (i := 5) rfl dX0_addHits_14 ?_
    refine g_aload_n (j := 0) rfl dX0_addHits_16 ?_
    refine g_getIv dX0_addHits_17 flX0_19 rfl (by simp only [IsO_sI, IsO_sL, IsO_sR, IsO_wI, IsO_wL, IsA_sI, IsA_sL, IsA_sR, IsA_wI, IsA_wL, mR_sI, mR_sL, mR_wI, mR_wL]; assumption) (kz := 2) rfl (by simp [mI_sI, mI_sL, mI_sR, mI_wI, mI_wL, mL_sI, mL_sL, mL_sR, mL_wI, mL_wL, em]; rfl) ?_
    refine g_icmp_ge (tgt := 88) dX0_addHits_20 (by decide) (by omega) (by omega) (fun h20 => ?_) (fun h20 => ?_)
    · exact G.retV dX0_addHits_88 rfl ⟨rfl, wL_congr hg⟩
    · omega
  | succ n ih =>
    intro r g x6 hr h0 hg
    refine g_iload (i := 5) rfl dX0_addHits_14 ?_
    refine g_aload_n (j := 0) rfl dX0_addHits_16 ?_
    refine g_getIv dX0_addHits_17 flX0_19 rfl (by simp only [IsO_sI, IsO_sL, IsO_sR, IsO_wI, IsO_wL, IsA_sI, IsA_sL, IsA_sR, IsA_wI, IsA_wL, mR_sI, mR_sL, mR_wI, mR_wL]; assumption) (kz := 2) rfl (by simp [mI_sI, mI_sL, mI_sR, mI_wI, mI_wL, mL_sI, mL_sL, mL_sR, mL_wI, mL_wL, em, hh]; rfl) ?_
    refine g_icmp_ge (tgt := 88) dX0_addHits_20 (by decide) (by omega) (by omega) (fun h20 => ?_) (fun h20 => ?_)
    · omega
    · refine g_iload (i := 5) rfl dX0_addHits_23 ?_
      refine g_iload_n (j := 2) rfl dX0_addHits_25 ?_
      refine g_iadd dX0_addHits_26 ?_
      refine g_aload_n (j := 0) rfl dX0_addHits_27 ?_
      refine g_getIv dX0_addHits_28 flX0_19 rfl (by simp only [IsO_sI, IsO_sL, IsO_sR, IsO_wI, IsO_wL, IsA_sI, IsA_sL, IsA_sR, IsA_wI, IsA_wL, mR_sI, mR_sL, mR_wI, mR_wL]; assumption) (kz := 2) rfl (by simp [mI_sI, mI_sL, mI_sR, mI_wI, mI_wL, mL_sI, mL_sL, mL_sR, mL_wI, mL_wL, em, hh]; rfl) ?_
      refine g_icmp_ge (tgt := 41) dX0_addHits_31 (by decide) (by omega) (by omega) (fun h31 => ?_) (fun h31 => ?_)
      · refine g_iload (i := 5) rfl dX0_addHits_41 ?_
        refine g_iload_n (j := 2) rfl dX0_addHits_43 ?_
        refine g_iadd dX0_addHits_44 ?_
        refine g_aload_n (j := 0) rfl dX0_addHits_45 ?_
        refine g_getIv dX0_addHits_46 flX0_19 rfl (by simp only [IsO_sI, IsO_sL, IsO_sR, IsO_wI, IsO_wL, IsA_sI, IsA_sL, IsA_sR, IsA_wI, IsA_wL, mR_sI, mR_sL, mR_wI, mR_wL]; assumption) (kz := 2) rfl (by simp [mI_sI, mI_sL, mI_sR, mI_wI, mI_wL, mL_sI, mL_sL, mL_sR, mL_wI, mL_wL, em, hh]; rfl) ?_
        refine g_isub dX0_addHits_49 ?_
        refine g_istore (i := 6) dX0_addHits_50 (by decide) rfl ls6 ?_
        refine g_aload_n (j := 0) rfl dX0_addHits_52 ?_
        refine g_getR dX0_addHits_53 flX0_9 rfl (by simp only [IsO_sI, IsO_sL, IsO_sR, IsO_wI, IsO_wL, IsA_sI, IsA_sL, IsA_sR, IsA_wI, IsA_wL, mR_sI, mR_sL, mR_wI, mR_wL]; assumption) (kz := 0) rfl (by simp only [IsO_sI, IsO_sL, IsO_sR, IsO_wI, IsO_wL, IsA_sI, IsA_sL, IsA_sR, IsA_wI, IsA_wL, mR_sI, mR_sL, mR_wI, mR_wL]; assumption) ?_
        refine g_iload_n (j := 3) rfl dX0_addHits_56 ?_
        refine g_iload (i := 6) rfl dX0_addHits_57 ?_
        refine g_iadd dX0_addHits_59 ?_
        refine g_dup2 rfl rfl dX0_addHits_60 ?_
        refine g_laldv dX0_addHits_61 (by simp only [IsO_sI, IsO_sL, IsO_sR, IsO_wI, IsO_wL, IsA_sI, IsA_sL, IsA_sR, IsA_wI, IsA_wL, mR_sI, mR_sL, mR_wI, mR_wL]; assumption) (by omega) (by omega) (by simp [mI_sI, mI_sL, mI_sR, mI_wI, mI_wL, mL_sI, mL_sL, mL_sR, mL_wI, mL_wL, em, hh]; rfl) ?_
        refine g_aload_n (j := 0) rfl dX0_addHits_62 ?_
        refine g_getR dX0_addHits_63 flX0_15 rfl (by simp only [IsO_sI, IsO_sL, IsO_sR, IsO_wI, IsO_wL, IsA_sI, IsA_sL, IsA_sR, IsA_wI, IsA_wL, mR_sI, mR_sL, mR_wI, mR_wL]; assumption) (kz := 1) rfl (by simp only [IsO_sI, IsO_sL, IsO_sR, IsO_wI, IsO_wL, IsA_sI, IsA_sL, IsA_sR, IsA_wI, IsA_wL, mR_sI, mR_sL, mR_wI, mR_wL]; assumption) ?_
        refine g_iload_n (j := 2) rfl dX0_addHits_66 ?_
        refine g_ialdv dX0_addHits_67 (by simp only [IsO_sI, IsO_sL, IsO_sR, IsO_wI, IsO_wL, IsA_sI, IsA_sL, IsA_sR, IsA_wI, IsA_wL, mR_sI, mR_sL, mR_wI, mR_wL]; assumption) (by omega) (by omega) (by simp [mI_sI, mI_sL, mI_sR, mI_wI, mI_wL, mL_sI, mL_sL, mL_sR, mL_wI, mL_wL, em, hh]; rfl) ?_
        refine g_i2l (by omega) dX0_addHits_68 ?_
        refine g_aload_n (j := 0) rfl dX0_addHits_69 ?_
        refine g_getR dX0_addHits_70 flX0_9 rfl (by simp only [IsO_sI, IsO_sL, IsO_sR, IsO_wI, IsO_wL, IsA_sI, IsA_sL, IsA_sR, IsA_wI, IsA_wL, mR_sI, mR_sL, mR_wI, mR_wL]; assumption) (kz := 0) rfl (by simp only [IsO_sI, IsO_sL, IsO_sR, IsO_wI, IsO_wL, IsA_sI, IsA_sL, IsA_sR, IsA_wI, IsA_wL, mR_sI, mR_sL, mR_wI, mR_wL]; assumption) ?_
        refine g_iload (i := 4) rfl dX0_addHits_73 ?_
        refine g_iload (i := 5) rfl dX0_addHits_75 ?_
        refine g_iadd dX0_addHits_77 ?_
        refine g_laldv dX0_addHits_78 (by simp only [IsO_sI, IsO_sL, IsO_sR, IsO_wI, IsO_wL, IsA_sI, IsA_sL, IsA_sR, IsA_wI, IsA_wL, mR_sI, mR_sL, mR_wI, mR_wL]; assumption) (by omega) (by omega) (by simp [mI_sI, mI_sL, mI_sR, mI_wI, mI_wL, mL_sI, mL_sL, mL_sR, mL_wI, mL_wL, em, hh]; rfl) ?_
        refine g_lmul dX0_addHits_79 ?_
        refine g_ladd dX0_addHits_80 ?_
        refine g_last dX0_addHits_81 (by simp only [IsO_sI, IsO_sL, IsO_sR, IsO_wI, IsO_wL, IsA_sI, IsA_sL, IsA_sR, IsA_wI, IsA_wL, mR_sI, mR_sL, mR_wI, mR_wL]; assumption) (by omega) (by omega) ?_
        refine g_iinc (i := 5) dX0_addHits_82 rfl (by decide) rfl ls5 ?_
        refine g_goto (tgt := 14) (by decide) dX0_addHits_85 ?_
        rw [sL_wL]
        refine ih (r + 1) _ _ (by omega) (by omega) fun k => ?_
        show (if k = _ then _ else g k) = _
        have hgr : g (t * 60 + 60 + r) = mL μ (x + 63) (60 * t + 60 + r) := by
          rw [hg]
          unfold adF
          rw [if_neg (by omega)]
          congr 1
          omega
        rw [hgr]
        split
        · next hk =>
          have e1 : mdS mm (k - 60 * t - v) = r := by
            unfold mdS
            split <;> omega
          rw [← hk, hg]
          unfold adF
          rw [e1, if_neg (by omega), if_pos (by omega)]
        · next hk =>
          rw [hg]
          unfold adF
          by_cases hz : 60 * t ≤ k ∧ k < 60 * t + mm ∧ mdS mm (k - 60 * t - v) < r
          · rw [if_pos hz, if_pos (by omega)]
          · rw [if_neg hz, if_neg (fun z => ?_)]
            have : mdS mm (k - 60 * t - v) = r := by omega
            unfold mdS at this
            split at this <;> omega
      · refine g_iload (i := 5) rfl dX0_addHits_34 ?_
        refine g_iload_n (j := 2) rfl dX0_addHits_36 ?_
        refine g_iadd dX0_addHits_37 ?_
        refine g_goto (tgt := 50) (by decide) dX0_addHits_38 ?_
        refine g_istore (i := 6) dX0_addHits_50 (by decide) rfl ls6 ?_
        refine g_aload_n (j := 0) rfl dX0_addHits_52 ?_
        refine g_getR dX0_addHits_53 flX0_9 rfl (by simp only [IsO_sI, IsO_sL, IsO_sR, IsO_wI, IsO_wL, IsA_sI, IsA_sL, IsA_sR, IsA_wI, IsA_wL, mR_sI, mR_sL, mR_wI, mR_wL]; assumption) (kz := 0) rfl (by simp only [IsO_sI, IsO_sL, IsO_sR, IsO_wI, IsO_wL, IsA_sI, IsA_sL, IsA_sR, IsA_wI, IsA_wL, mR_sI, mR_sL, mR_wI, mR_wL]; assumption) ?_
        refine g_iload_n (j := 3) rfl dX0_addHits_56 ?_
        refine g_iload (i := 6) rfl dX0_addHits_57 ?_
        refine g_iadd dX0_addHits_59 ?_
        refine g_dup2 rfl rfl dX0_addHits_60 ?_
        refine g_laldv dX0_addHits_61 (by simp only [IsO_sI, IsO_sL, IsO_sR, IsO_wI, IsO_wL, IsA_sI, IsA_sL, IsA_sR, IsA_wI, IsA_wL, mR_sI, mR_sL, mR_wI, mR_wL]; assumption) (by omega) (by omega) (by simp [mI_sI, mI_sL, mI_sR, mI_wI, mI_wL, mL_sI, mL_sL, mL_sR, mL_wI, mL_wL, em, hh]; rfl) ?_
        refine g_aload_n (j := 0) rfl dX0_addHits_62 ?_
        refine g_getR dX0_addHits_63 flX0_15 rfl (by simp only [IsO_sI, IsO_sL, IsO_sR, IsO_wI, IsO_wL, IsA_sI, IsA_sL, IsA_sR, IsA_wI, IsA_wL, mR_sI, mR_sL, mR_wI, mR_wL]; assumption) (kz := 1) rfl (by simp only [IsO_sI, IsO_sL, IsO_sR, IsO_wI, IsO_wL, IsA_sI, IsA_sL, IsA_sR, IsA_wI, IsA_wL, mR_sI, mR_sL, mR_wI, mR_wL]; assumption) ?_
        refine g_iload_n (j := 2) rfl dX0_addHits_66 ?_
        refine g_ialdv dX0_addHits_67 (by simp only [IsO_sI, IsO_sL, IsO_sR, IsO_wI, IsO_wL, IsA_sI, IsA_sL, IsA_sR, IsA_wI, IsA_wL, mR_sI, mR_sL, mR_wI, mR_wL]; assumption) (by omega) (by omega) (by simp [mI_sI, mI_sL, mI_sR, mI_wI, mI_wL, mL_sI, mL_sL, mL_sR, mL_wI, mL_wL, em, hh]; rfl) ?_
        refine g_i2l (by omega) dX0_addHits_68 ?_
        refine g_aload_n (j := 0) rfl dX0_addHits_69 ?_
        refine g_getR dX0_addHits_70 flX0_9 rfl (by simp only [IsO_sI, IsO_sL, IsO_sR, IsO_wI, IsO_wL, IsA_sI, IsA_sL, IsA_sR, IsA_wI, IsA_wL, mR_sI, mR_sL, mR_wI, mR_wL]; assumption) (kz := 0) rfl (by simp only [IsO_sI, IsO_sL, IsO_sR, IsO_wI, IsO_wL, IsA_sI, IsA_sL, IsA_sR, IsA_wI, IsA_wL, mR_sI, mR_sL, mR_wI, mR_wL]; assumption) ?_
        refine g_iload (i := 4) rfl dX0_addHits_73 ?_
        refine g_iload (i := 5) rfl dX0_addHits_75 ?_
        refine g_iadd dX0_addHits_77 ?_
        refine g_laldv dX0_addHits_78 (by simp only [IsO_sI, IsO_sL, IsO_sR, IsO_wI, IsO_wL, IsA_sI, IsA_sL, IsA_sR, IsA_wI, IsA_wL, mR_sI, mR_sL, mR_wI, mR_wL]; assumption) (by omega) (by omega) (by simp [mI_sI, mI_sL, mI_sR, mI_wI, mI_wL, mL_sI, mL_sL, mL_sR, mL_wI, mL_wL, em, hh]; rfl) ?_
        refine g_lmul dX0_addHits_79 ?_
        refine g_ladd dX0_addHits_80 ?_
        refine g_last dX0_addHits_81 (by simp only [IsO_sI, IsO_sL, IsO_sR, IsO_wI, IsO_wL, IsA_sI, IsA_sL, IsA_sR, IsA_wI, IsA_wL, mR_sI, mR_sL, mR_wI, mR_wL]; assumption) (by omega) (by omega) ?_
        refine g_iinc (i := 5) dX0_addHits_82 rfl (by decide) rfl ls5 ?_
        refine g_goto (tgt := 14) (by decide) dX0_addHits_85 ?_
        rw [sL_wL]
        refine ih (r + 1) _ _ (by omega) (by omega) fun k => ?_
        show (if k = _ then _ else g k) = _
        have hgr : g (t * 60 + 60 + r) = mL μ (x + 63) (60 * t + 60 + r) := by
          rw [hg]
          unfold adF
          rw [if_neg (by omega)]
          congr 1
          omega
        rw [hgr]
        split
        · next hk =>
          have e1 : mdS mm (k - 60 * t - v) = r := by
            unfold mdS
            split <;> omega
          rw [← hk, hg]
          unfold adF
          rw [e1, if_neg (by omega), if_pos (by omega)]
        · next hk =>
          rw [hg]
          unfold adF
          by_cases hz : 60 * t ≤ k ∧ k < 60 * t + mm ∧ mdS mm (k - 60 * t - v) < r
          · rw [if_pos hz, if_pos (by omega)]
          · rw [if_neg hz, if_neg (fun z => ?_)]
            have : mdS mm (k - 60 * t - v) = r := by omega
            unfold mdS at this
            split at this <;> omega
theorem c_addHits (w : WC) (d : Nat) (μ : Mem) {x : Nat} {mm : Int} (hT : TPS w μ x) (em : mI μ (x + 62) 2 = mm) (hm : 1 ≤ mm ∧ mm ≤ 60) {t v h : Int} (ht : 0 ≤ t ∧ t ≤ 4) (hv : 0 ≤ v ∧ v < mm) (hh : mI μ (x + 64) v = h) (hb : 0 ≤ h ∧ h ≤ 120) : Con w d mX0_addHits 0 0 [vP (some (x + 62)), vI t, vI v] μ (fun y μ2 => y = none ∧ μ2 = wL μ (x + 63) (adF (mL μ (x + 63)) t v h mm mm)) := by
  refine Con.of (by decide) (Nat.le_of_ble_eq_true rfl) rfl ?_
  refine g_iload_n (j := 1) rfl dX0_addHits_0 ?_
  refine g_bipush dX0_addHits_1 (by omega) ?_
  refine g_imul dX0_addHits_3 ?_
  refine g_istore_n (j := 3) dX0_addHits_4 (by decide) rfl ls3 ?_
  refine g_iload_n (j := 3) rfl dX0_addHits_5 ?_
  refine g_bipush dX0_addHits_6 (by omega) ?_
  refine g_iadd dX0_addHits_8 ?_
  refine g_istore (i := 4) dX0_addHits_9 (by decide) rfl ls4 ?_
  refine g_iconst dX0_addHits_11 ?_
  refine g_istore (i := 5) dX0_addHits_12 (by decide) rfl ls5 ?_
  have := l_addHits (d := d) hT em hm ht hv hh hb mm.toNat 0 (mL μ (x + 63)) none (by omega) (by omega) (fun k => by
    unfold adF
    rw [if_neg (fun z => ?_)]
    have := z.2.2
    unfold mdS at this
    split at this <;> omega)
  rwa [wL_eta] at this
end CL
