/-! WHAT IS SHOWN -/
def laF (L : List Int) : Int → Int := fun j => L.getD j.toNat 0
def PlC (μ : Mem) (x : Nat) (L : List Int) : Prop := mI μ (x + 68) 1 = L.length ∧ L.length ≤ 2400 ∧ ∀ (i : Nat) (v : Int), L[i]? = some v → mI μ (x + 69) i = v
def PlM (μ : Mem) (m : Nat) (L : List Int) : Prop := mI μ m 49 = L.length ∧ L.length ≤ 2400 ∧ ∀ (i : Nat) (v : Int), L[i]? = some v → mI μ (m + 20) i = v
def FrP (x : Nat) : Mem → Mem → Prop := Fr (fun a => a = x + 68 ∨ a = x + 69) (fun _ _ => False)
def FrQ (m : Nat) : Mem → Mem → Prop := FrM m (fun a => a = m + 20) (fun j => j = 49)
theorem FrP.tps {w : WC} {x : Nat} {μ μ2 : Mem} (h : FrP x μ μ2) (hT : TPS w μ x) : TPS w μ2 x := hT.fr h fun _ _ _ z => z.elim
theorem FrP.ca {w : WC} {x c N : Nat} {F : Int → List Tm} {μ μ2 : Mem} (h : FrP x μ μ2) (hC : CA w μ x F c N) : CA w μ2 x F c N := hC.fr h (fun a z => by omega) (fun _ _ z => z.elim)
theorem FrQ.MA {w : WC} {m : Nat} {F : Int → List Tm} {μ μ2 : Mem} (h : FrQ m μ μ2) (hA : MA w μ m F) : MA w μ2 m F := FrM.MA h hA (by omega) (by omega)
theorem FrP.Fi {w : WC} {x q : Nat} {ts : List Tm} {μ μ2 : Mem} (h : FrP x μ μ2) (hq : q + 7 ≤ x + 68) (hF : FoS w μ q) (hI : FI μ q ts) : FoS w μ2 q ∧ FI μ2 q ts := ⟨h.Fo (fun j z => z) hF, h.FI hF (fun a z1 z2 z => by omega) hI⟩
/-- the texts' letters -/
def tXL (n : Nat) : List Int := (txB.getD n []).map Int32.toInt
theorem tXL_len : ∀ n, n < 11 → ((tXL n).length : Int) = txN n := by decide
theorem tXL_small : ∀ n, n < 11 → (tXL n).length ≤ 6 := by decide
theorem tXL_at : ∀ n, n < 11 → ∀ k, k < (tXL n).length → (tXL n)[k]? = some (txZ n (k : Nat)) ∧ 0 ≤ txZ n (k : Nat) ∧ txZ n (k : Nat) ≤ 127 := by decide +kernel
/-- a number's digits -/
def dgL (n : Int) : List Int := if n < 10 then [48 + n] else if n < 100 then [48 + n / 10, 48 + n % 10] else if n < 1000 then [48 + n / 100, 48 + n / 10 % 10, 48 + n % 10] else [48 + n / 1000, 48 + n / 100 % 10, 48 + n / 10 % 10, 48 + n % 10]
def nmL (v : Int) : List Int := (if v < 0 then [45] else []) ++ dgL (if v < 0 then -v else v)
theorem nmL_len (v : Int) : (nmL v).length ≤ 5 := by
  unfold nmL dgL
  rw [List.length_append]
  split <;> split <;> (try split) <;> (try split) <;> simp
/-- from unit 10^k on, b: begun -/
def dgB (n : Int) : Nat → Bool → List Int
  | 0, _ => [48 + n % 10]
  | k + 1, b => if (b || decide (0 < n / 10 ^ (k + 1) % 10)) = true then (48 + n / 10 ^ (k + 1) % 10) :: dgB n k true else dgB n k false
theorem dgB_eq {n : Int} (h : 0 ≤ n ∧ n < 10000) : dgB n 3 false = dgL n := by
  have e3 : n / 10 ^ 3 % 10 = n / 1000 := by
    show n / 1000 % 10 = n / 1000
    omega
  have e2 : n / 10 ^ 2 % 10 = n / 100 % 10 := rfl
  have e1 : n / 10 ^ 1 % 10 = n / 10 % 10 := rfl
  unfold dgL
  simp only [dgB, Nat.zero_add, Nat.reduceAdd, Bool.false_or, Bool.true_or, decide_eq_true_eq, if_true]
  rw [e3, e2, e1]
  by_cases h1 : n < 10
  · rw [if_neg (by omega), if_neg (by omega), if_neg (by omega), if_pos h1]
    congr 2
    omega
  · by_cases h2 : n < 100
    · rw [if_neg (by omega), if_neg (by omega), if_pos (by omega), if_neg h1, if_pos h2]
      congr 2
      omega
    · by_cases h3 : n < 1000
      · rw [if_neg (by omega), if_pos (by omega), if_neg h1, if_neg h2, if_pos h3]
        congr 2
        omega
      · rw [if_pos (by omega), if_neg h1, if_neg h2, if_neg h3]
/-- from unit 10^k on, all -/
def dgM (n : Int) : Nat → List Int
  | 0 => [48 + n % 10]
  | k + 1 => (48 + n / 10 ^ (k + 1) % 10) :: dgM n k
theorem dgM_eq {n : Int} {j : Nat} (h : 0 ≤ n ∧ n < 10000) (hj : n / 10 ^ j ≤ 9) (hm : j = 0 ∨ 1 ≤ n / 10 ^ j) (h3 : j ≤ 3) : dgM n j = dgL n := by
  have e3 : n / 10 ^ 3 % 10 = n / 1000 := by
    show n / 1000 % 10 = n / 1000
    omega
  have e2 : n / 10 ^ 2 % 10 = n / 100 % 10 := rfl
  have e1 : n / 10 ^ 1 % 10 = n / 10 % 10 := rfl
  unfold dgL
  rcases (by omega : j = 0 ∨ j = 1 ∨ j = 2 ∨ j = 3) with rfl | rfl | rfl | rfl
  · have : n / 10 ^ 0 = n := by simp
    rw [this] at hj
    rw [if_pos (by omega)]
    unfold dgM
    congr 2
    omega
  · have : n / 10 ^ 1 = n / 10 := rfl
    rw [this] at hj hm
    rw [if_neg (by omega), if_pos (by omega)]
    simp only [dgM, Nat.zero_add]
    rw [e1]
    congr 2
    omega
  · have : n / 10 ^ 2 = n / 100 := rfl
    rw [this] at hj hm
    rw [if_neg (by omega), if_neg (by omega), if_pos (by omega)]
    simp only [dgM, Nat.zero_add, Nat.reduceAdd]
    rw [e1, e2]
    congr 2
    omega
  · have : n / 10 ^ 3 = n / 1000 := rfl
    rw [this] at hj hm
    rw [if_neg (by omega), if_neg (by omega), if_neg (by omega)]
    simp only [dgM, Nat.zero_add, Nat.reduceAdd]
    rw [e1, e2, e3]
theorem app_at {L : List Int} {c v : Int} {i : Nat} (h : (L ++ [c])[i]? = some v) : L[i]? = some v ∧ i < L.length ∨ i = L.length ∧ v = c := by
  rcases Nat.lt_or_ge i L.length with z | z
  · rw [List.getElem?_append_left z] at h
    exact Or.inl ⟨h, z⟩
  · rw [List.getElem?_append_right z] at h
    rcases Nat.eq_zero_or_pos (i - L.length) with y | y
    · rw [y] at h
      simp at h
      exact Or.inr ⟨by omega, h.symm⟩
    · rw [List.getElem?_eq_none (by simp; omega)] at h
      cases h
theorem lt_of_at {L : List Int} {i : Nat} {v : Int} (h : L[i]? = some v) : i < L.length := by
  rcases Nat.lt_or_ge i L.length with z | z
  · exact z
  · rw [List.getElem?_eq_none z] at h
    cases h
theorem c_putSign (w : WC) (d : Nat) (μ : Mem) {x : Nat} {L : List Int} {c : Int} (hT : TPS w μ x) (hP : PlC μ x L) (hc : 0 ≤ c ∧ c ≤ 127) (hl : L.length < 2400) : Con w d mX5_putSign 0 0 [vP (some (x + 68)), vI c] μ (fun v μ2 => v = none ∧ PlC μ2 x (L ++ [c]) ∧ FrP x μ μ2) := by
  obtain ⟨e1, e2, hp⟩ := hP
  have o68 := hT.o68
  have r68 := hT.r68_0
  have a69 := hT.a69
  have e8 : (iv c).toInt8.toInt32.toInt = c := by
    rw [by_8, iv_toInt (by omega)]
    unfold sb
    rw [if_pos (by omega)]
    omega
  refine Con.of (by decide) (Nat.le_of_ble_eq_true rfl) rfl ?_
  refine g_aload_n (j := 0) rfl dX5_putSign_0 ?_
  refine g_getI dX5_putSign_1 flX5_15 rfl (by assumption) (kz := 1) rfl ?_
  refine g_sipush dX5_putSign_4 (by omega) ?_
  refine g_icmp_ge (tgt := 31) dX5_putSign_7 (by decide) (by omega) (by omega) (fun h7 => ?_) (fun h7 => ?_)
  · omega
  · refine g_aload_n (j := 0) rfl dX5_putSign_10 ?_
    refine g_getR dX5_putSign_11 flX5_9 rfl (by assumption) (kz := 0) rfl (by assumption) ?_
    refine g_aload_n (j := 0) rfl dX5_putSign_14 ?_
    refine g_getI dX5_putSign_15 flX5_15 rfl (by assumption) (kz := 1) rfl ?_
    refine g_iload_n (j := 1) rfl dX5_putSign_18 ?_
    refine g_i2b dX5_putSign_19 ?_
    rw [e8, e1]
    refine g_bast dX5_putSign_20 (by assumption) (by omega) (by omega) (by omega) ?_
    refine g_aload_n (j := 0) rfl dX5_putSign_21 ?_
    refine g_dup rfl dX5_putSign_22 ?_
    refine g_getIv dX5_putSign_23 flX5_15 rfl (by simp only [IsO_sI, IsO_sL, IsO_sR, IsO_wI, IsO_wL, IsA_sI, IsA_sL, IsA_sR, IsA_wI, IsA_wL, mR_sI, mR_sL, mR_wI, mR_wL]; assumption) (kz := 1) rfl (by simp [mI_sI, mI_sL, mI_sR, mI_wI, mI_wL, mL_sI, mL_sL, mL_sR, mL_wI, mL_wL, e1]; rfl) ?_
    refine g_iconst dX5_putSign_26 ?_
    refine g_iadd dX5_putSign_27 ?_
    refine g_putI dX5_putSign_28 fpX5_15 rfl rfl rfl (by simp only [IsO_sI, IsO_sL, IsO_sR, IsO_wI, IsO_wL, IsA_sI, IsA_sL, IsA_sR, IsA_wI, IsA_wL, mR_sI, mR_sL, mR_wI, mR_wL]; assumption) (kz := 1) rfl ?_
    refine G.retV dX5_putSign_31 rfl ⟨rfl, ⟨by rw [mI_sI, if_pos ⟨rfl, rfl⟩, List.length_append]; rfl, by rw [List.length_append]; simp; omega, fun i v hv => ?_⟩, (Fr.sI (Or.inr rfl)).tr (Fr.sI (Or.inl rfl))⟩
    rw [mI_sI, if_neg (by omega), mI_sI]
    rcases app_at hv with ⟨z, y⟩ | ⟨z, y⟩
    · rw [if_neg (by omega)]
      exact hp i v z
    · rw [if_pos ⟨rfl, by omega⟩, y]
theorem c_says (w : WC) (d : Nat) (μ : Mem) {m : Nat} {L : List Int} {c : Int} (hM : MoS w μ m) (hP : PlM μ m L) (hl : L.length < 2400) : Con w d mX12_says 0 0 [vP (some m), vI c] μ (fun v μ2 => v = none ∧ PlM μ2 m (L ++ [c]) ∧ FrQ m μ μ2) := by
  obtain ⟨e1, e2, hp⟩ := hP
  have o0 := hM.o
  have r48 := hM.r48
  have a48 := hM.a48
  refine Con.of (by decide) (Nat.le_of_ble_eq_true rfl) rfl ?_
  refine g_aload_n (j := 0) rfl dX12_says_0 ?_
  refine g_getR dX12_says_1 flX12_88 rfl (by assumption) (kz := 48) rfl (by assumption) ?_
  refine g_aload_n (j := 0) rfl dX12_says_4 ?_
  refine g_getI dX12_says_5 flX12_442 rfl (by assumption) (kz := 49) rfl ?_
  refine g_iload_n (j := 1) rfl dX12_says_8 ?_
  rw [e1]
  refine g_iast dX12_says_9 (by assumption) (by omega) (by omega) ?_
  refine g_aload_n (j := 0) rfl dX12_says_10 ?_
  refine g_dup rfl dX12_says_11 ?_
  refine g_getIv dX12_says_12 flX12_442 rfl (by simp only [IsO_sI, IsO_sL, IsO_sR, IsO_wI, IsO_wL, IsA_sI, IsA_sL, IsA_sR, IsA_wI, IsA_wL, mR_sI, mR_sL, mR_wI, mR_wL]; assumption) (kz := 49) rfl (by simp [mI_sI, mI_sL, mI_sR, mI_wI, mI_wL, mL_sI, mL_sL, mL_sR, mL_wI, mL_wL, e1]; rfl) ?_
  refine g_iconst dX12_says_15 ?_
  refine g_iadd dX12_says_16 ?_
  refine g_putI dX12_says_17 fpX12_442 rfl rfl rfl (by simp only [IsO_sI, IsO_sL, IsO_sR, IsO_wI, IsO_wL, IsA_sI, IsA_sL, IsA_sR, IsA_wI, IsA_wL, mR_sI, mR_sL, mR_wI, mR_wL]; assumption) (kz := 49) rfl ?_
  refine G.retV dX12_says_20 rfl ⟨rfl, ⟨by rw [mI_sI, if_pos ⟨rfl, rfl⟩, List.length_append]; rfl, by rw [List.length_append]; simp; omega, fun i v hv => ?_⟩, FrM.tr (FrM.sIr (P := fun a => a = m + 20) (J := fun j => j = 49) rfl (by omega)) (FrM.sI (P := fun a => a = m + 20) (J := fun j => j = 49) rfl)⟩
  rw [mI_sI, if_neg (by omega), mI_sI]
  rcases app_at hv with ⟨z, y⟩ | ⟨z, y⟩
  · rw [if_neg (by omega)]
    exact hp i v z
  · rw [if_pos ⟨rfl, by omega⟩, y]
theorem tk_next {n k : Nat} (hn : n < 11) (hk : k < (tXL n).length) : (tXL n).take (k + 1) = (tXL n).take k ++ [txZ n (k : Nat)] := by
  rw [List.take_succ, (tXL_at n hn k hk).1]
  rfl
section PT
variable {w : WC} {d x m : Nat}
theorem l_putText {n : Nat} (hn : n < 11) {μ0 : Mem} (hT0 : TPS w μ0 x) {L : List Int} (hl : L.length + 6 ≤ 2400) : ∀ (r k : Nat) (μ : Mem), k + r = (tXL n).length → PlC μ x (L ++ (tXL n).take k) → FrP x μ0 μ →
    G w (d + 4) mX5_putText (fun v μ2 => v = none ∧ PlC μ2 x (L ++ tXL n) ∧ FrP x μ0 μ2) 0 0 2 [some (vP (some (x + 68))), some (vP (some (wK w n))), some (vI (k : Int))] [] μ := by
  have h6 := tXL_small n hn
  have hN := tXL_len n hn
  intro r
  induction r with
  | zero =>
    intro k μ hk hP hf
    refine g_iload_n (j := 2) rfl dX5_putText_2 ?_
    refine g_aload_n (j := 1) rfl dX5_putText_3 ?_
    refine g_callT dX5_putText_4 mlX5_19 mvJ0_length_8abf5 rfl hn (c_J0_length w (d + 2) μ hn) sv0 rfl (by omega) (Nat.le_of_ble_eq_true rfl) (Nat.le_refl _) (Nat.le_refl _) (fun v μ2 hR => ?_)
    obtain ⟨rfl, hm⟩ := hR
    replace hm := hm.symm
    subst hm
    refine g_icmp_ge (tgt := 25) dX5_putText_7 (by decide) (by omega) (by omega) (fun h7 => ?_) (fun h7 => ?_)
    · rw [List.take_of_length_le (by omega)] at hP
      exact G.retV dX5_putText_25 rfl ⟨rfl, hP, hf⟩
    · omega
  | succ r ih =>
    intro k μ hk hP hf
    have hT := hf.tps hT0
    have o68 := hT.o68
    obtain ⟨q1, q2, q3⟩ := tXL_at n hn k (by omega)
    refine g_iload_n (j := 2) rfl dX5_putText_2 ?_
    refine g_aload_n (j := 1) rfl dX5_putText_3 ?_
    refine g_callT dX5_putText_4 mlX5_19 mvJ0_length_8abf5 rfl hn (c_J0_length w (d + 2) μ hn) sv0 rfl (by omega) (Nat.le_of_ble_eq_true rfl) (Nat.le_refl _) (Nat.le_refl _) (fun v μ2 hR => ?_)
    obtain ⟨rfl, hm⟩ := hR
    replace hm := hm.symm
    subst hm
    refine g_icmp_ge (tgt := 25) dX5_putText_7 (by decide) (by omega) (by omega) (fun h7 => ?_) (fun h7 => ?_)
    · omega
    · refine g_aload_n (j := 0) rfl dX5_putText_10 ?_
      refine g_aload_n (j := 1) rfl dX5_putText_11 ?_
      refine g_iload_n (j := 2) rfl dX5_putText_12 ?_
      refine g_callT dX5_putText_13 mlX5_25 mvJ0_charAt_5068e rfl hn (c_J0_charAt w d μ hn (i := (k : Int)) (by omega) (by omega)) sv1 rfl (by omega) (Nat.le_of_ble_eq_true rfl) (Nat.le_refl _) (Nat.le_refl _) (fun v μ2 hR => ?_)
      obtain ⟨rfl, hm⟩ := hR
      replace hm := hm.symm
      subst hm
      refine g_callV dX5_putText_16 mlX5_29 mvX5_putSign (ci := 5) ⟨by decide, rfl⟩ (by assumption) (c_putSign w (d + 3) μ hT hP (c := txZ n (k : Nat)) ⟨q2, q3⟩ (by rw [List.length_append, List.length_take]; omega)) sv1 rfl (by omega) (Nat.le_of_ble_eq_true rfl) (Nat.le_refl _) (Nat.le_refl _) (fun v μ2 hR => ?_)
      obtain ⟨rfl, hP2, hf2⟩ := hR
      refine g_iinc (i := 2) dX5_putText_19 rfl (by decide) rfl ls2 ?_
      refine g_goto (tgt := 2) (by decide) dX5_putText_22 ?_
      refine ih (k + 1) μ2 (by omega) ?_ (hf.tr hf2)
      rw [tk_next hn (by omega), ← List.append_assoc]
      exact hP2
theorem c_putText (w : WC) (d : Nat) (μ : Mem) {x n : Nat} {L : List Int} (hn : n < 11) (hT : TPS w μ x) (hP : PlC μ x L) (hl : L.length + 6 ≤ 2400) : Con w (d + 4) mX5_putText 0 0 [vP (some (x + 68)), vP (some (wK w n))] μ (fun v μ2 => v = none ∧ PlC μ2 x (L ++ tXL n) ∧ FrP x μ μ2) := by
  refine Con.of (by decide) (Nat.le_of_ble_eq_true rfl) rfl ?_
  refine g_iconst dX5_putText_0 ?_
  refine g_istore_n (j := 2) dX5_putText_1 (by decide) rfl ls2 ?_
  exact l_putText hn hT hl (tXL n).length 0 μ (by omega) (by simpa using hP) Fr.rf
theorem l_saysWord {n : Nat} (hn : n < 11) {μ0 : Mem} (hM0 : MoS w μ0 m) {L : List Int} (hl : L.length + 6 ≤ 2400) : ∀ (r k : Nat) (μ : Mem), k + r = (tXL n).length → PlM μ m (L ++ (tXL n).take k) → FrQ m μ0 μ →
    G w (d + 4) mX12_saysWord (fun v μ2 => v = none ∧ PlM μ2 m (L ++ tXL n) ∧ FrQ m μ0 μ2) 0 0 2 [some (vP (some m)), some (vP (some (wK w n))), some (vI (k : Int))] [] μ := by
  have h6 := tXL_small n hn
  have hN := tXL_len n hn
  intro r
  induction r with
  | zero =>
    intro k μ hk hP hf
    refine g_iload_n (j := 2) rfl dX12_saysWord_2 ?_
    refine g_aload_n (j := 1) rfl dX12_saysWord_3 ?_
    refine g_callT dX12_saysWord_4 mlX12_171 mvJ0_length_8abf5 rfl hn (c_J0_length w (d + 2) μ hn) sv0 rfl (by omega) (Nat.le_of_ble_eq_true rfl) (Nat.le_refl _) (Nat.le_refl _) (fun v μ2 hR => ?_)
    obtain ⟨rfl, hm⟩ := hR
    replace hm := hm.symm
    subst hm
    refine g_icmp_ge (tgt := 25) dX12_saysWord_7 (by decide) (by omega) (by omega) (fun h7 => ?_) (fun h7 => ?_)
    · rw [List.take_of_length_le (by omega)] at hP
      exact G.retV dX12_saysWord_25 rfl ⟨rfl, hP, hf⟩
    · omega
  | succ r ih =>
    intro k μ hk hP hf
    have hM := FrM.Mo hf hM0
    have o0 := hM.o
    obtain ⟨q1, q2, q3⟩ := tXL_at n hn k (by omega)
    refine g_iload_n (j := 2) rfl dX12_saysWord_2 ?_
    refine g_aload_n (j := 1) rfl dX12_saysWord_3 ?_
    refine g_callT dX12_saysWord_4 mlX12_171 mvJ0_length_8abf5 rfl hn (c_J0_length w (d + 2) μ hn) sv0 rfl (by omega) (Nat.le_of_ble_eq_true rfl) (Nat.le_refl _) (Nat.le_refl _) (fun v μ2 hR => ?_)
    obtain ⟨rfl, hm⟩ := hR
    replace hm := hm.symm
    subst hm
    refine g_icmp_ge (tgt := 25) dX12_saysWord_7 (by decide) (by omega) (by omega) (fun h7 => ?_) (fun h7 => ?_)
    · omega
    · refine g_aload_n (j := 0) rfl dX12_saysWord_10 ?_
      refine g_aload_n (j := 1) rfl dX12_saysWord_11 ?_
      refine g_iload_n (j := 2) rfl dX12_saysWord_12 ?_
      refine g_callT dX12_saysWord_13 mlX12_176 mvJ0_charAt_5068e rfl hn (c_J0_charAt w d μ hn (i := (k : Int)) (by omega) (by omega)) sv1 rfl (by omega) (Nat.le_of_ble_eq_true rfl) (Nat.le_refl _) (Nat.le_refl _) (fun v μ2 hR => ?_)
      obtain ⟨rfl, hm⟩ := hR
      replace hm := hm.symm
      subst hm
      refine g_callV dX12_saysWord_16 mlX12_445 mvX12_says (ci := 12) ⟨by decide, rfl⟩ (by assumption) (c_says w (d + 3) μ hM hP (c := txZ n (k : Nat)) (by rw [List.length_append, List.length_take]; omega)) sv1 rfl (by omega) (Nat.le_of_ble_eq_true rfl) (Nat.le_refl _) (Nat.le_refl _) (fun v μ2 hR => ?_)
      obtain ⟨rfl, hP2, hf2⟩ := hR
      refine g_iinc (i := 2) dX12_saysWord_19 rfl (by decide) rfl ls2 ?_
      refine g_goto (tgt := 2) (by decide) dX12_saysWord_22 ?_
      refine ih (k + 1) μ2 (by omega) ?_ (FrM.tr hf hf2)
      rw [tk_next hn (by omega), ← List.append_assoc]
      exact hP2
theorem c_saysWord (w : WC) (d : Nat) (μ : Mem) {m n : Nat} {L : List Int} (hn : n < 11) (hM : MoS w μ m) (hP : PlM μ m L) (hl : L.length + 6 ≤ 2400) : Con w (d + 4) mX12_saysWord 0 0 [vP (some m), vP (some (wK w n))] μ (fun v μ2 => v = none ∧ PlM μ2 m (L ++ tXL n) ∧ FrQ m μ μ2) := by
  refine Con.of (by decide) (Nat.le_of_ble_eq_true rfl) rfl ?_
  refine g_iconst dX12_saysWord_0 ?_
  refine g_istore_n (j := 2) dX12_saysWord_1 (by decide) rfl ls2 ?_
  exact l_saysWord hn hM hl (tXL n).length 0 μ (by omega) (by simpa using hP) FrM.rf
theorem c_abs (w : WC) (d : Nat) (μ : Mem) {a : Int} (ha : -1000000 ≤ a ∧ a ≤ 1000000) : Con w d mJ9_abs_0f7a4 0 0 [vI a] μ (fun v μ2 => v = some (vI (if a < 0 then -a else a)) ∧ μ2 = μ) := by
  refine Con.ofF (by decide +kernel) (Nat.le_of_ble_eq_true rfl) rfl ?_
  refine g_iload_n (j := 0) rfl dJ9_abs_0f7a4_0 ?_
  refine g_if_ge (tgt := 9) dJ9_abs_0f7a4_1 (by decide) (by omega) (fun h1 => ?_) (fun h1 => ?_)
  · refine g_iload_n (j := 0) rfl dJ9_abs_0f7a4_9 ?_
    first
    | exact G.retI dJ9_abs_0f7a4_10 rfl ⟨by rw [if_pos (by omega)], rfl⟩
    | exact G.retI dJ9_abs_0f7a4_10 rfl ⟨by rw [if_neg (by omega)], rfl⟩
  · refine g_iload_n (j := 0) rfl dJ9_abs_0f7a4_4 ?_
    refine g_ineg dJ9_abs_0f7a4_5 ?_
    refine g_goto (tgt := 10) (by decide) dJ9_abs_0f7a4_6 ?_
    first
    | exact G.retI dJ9_abs_0f7a4_10 rfl ⟨by rw [if_pos (by omega)], rfl⟩
    | exact G.retI dJ9_abs_0f7a4_10 rfl ⟨by rw [if_neg (by omega)], rfl⟩
theorem dc {q : Int} (h : 0 ≤ q ∧ q ≤ 9) : ((iv (48 + q)).toUInt32 % 65536).toInt32.toInt = 48 + q := by
  have h9 : ∀ q : Nat, q < 10 → ((iv (48 + (q : Int))).toUInt32 % 65536).toInt32.toInt = 48 + (q : Int) := by decide +kernel
  have := h9 q.toNat (by omega)
  rwa [show ((q.toNat : Nat) : Int) = q by omega] at this
theorem p10 {k : Nat} (h : k ≤ 3) : ((10 : Int) ^ k = 1 ∧ k = 0) ∨ ((10 : Int) ^ k = 10 ∧ k = 1) ∨ ((10 : Int) ^ k = 100 ∧ k = 2) ∨ ((10 : Int) ^ k = 1000 ∧ k = 3) := by
  rcases (by omega : k = 0 ∨ k = 1 ∨ k = 2 ∨ k = 3) with rfl | rfl | rfl | rfl <;> simp
theorem d10 {n p : Int} (h : 0 ≤ n) (hp : 0 < p) : (n.tdiv p).tmod 10 = n / p % 10 ∧ (0 ≤ n / p % 10 ∧ n / p % 10 ≤ 9) ∧ 0 ≤ n / p ∧ n.tdiv p = n / p := by
  have h1 : 0 ≤ n / p := Int.ediv_nonneg h (by omega)
  rw [Int.tdiv_eq_ediv_of_nonneg h, Int.tmod_eq_emod_of_nonneg h1]
  omega
theorem q10 {k : Nat} : ((10 : Int) ^ (k + 1)).tdiv 10 = 10 ^ k := by
  rw [Int.pow_succ, Int.mul_tdiv_cancel _ (by omega)]
/-- behind the first unit: 10^k, or 0 at the end -/
def un (k : Nat) : Int := match k with
  | 0 => 0
  | k + 1 => 10 ^ k
theorem un_next {k : Nat} : (un (k + 1)).tdiv 10 = un k := by
  cases k with
  | zero => rfl
  | succ k => exact q10
def dgU (n : Int) : Nat → Bool → List Int
  | 0, _ => []
  | k + 1, b => dgB n k b
theorem dgU_t {n : Int} {k : Nat} {b : Bool} (h : b = true ∨ 0 < n / 10 ^ k % 10 ∨ k = 0) : dgB n k b = (48 + n / 10 ^ k % 10) :: dgU n k true := by
  cases k with
  | zero => simp [dgB, dgU]
  | succ k =>
    rw [dgB, if_pos (by
      rcases h with h | h | h
      · simp [h]
      · simp [h]
      · omega)]
    rfl
theorem dgU_f {n : Int} {k : Nat} {b : Bool} (h : b = false) (h2 : ¬ 0 < n / 10 ^ k % 10) (hk : ¬ k = 0) : dgB n k b = dgU n k false := by
  cases k with
  | zero => omega
  | succ k =>
    rw [dgB, if_neg (by simp [h]; omega)]
    rfl
theorem l_putInt {n : Int} (hn : 0 ≤ n ∧ n < 10000) {v0 : Int} {μ0 : Mem} (hT0 : TPS w μ0 x) : ∀ (k : Nat) (b : Bool) (bz : Int) (μ : Mem) (L : List Int) (x5 : Option AV), k ≤ 4 → PlC μ x L → FrP x μ0 μ → L.length + k ≤ 2400 → (bz = 1 ∧ b = true ∨ bz = 0 ∧ b = false) →
    G w (d + 1) mX5_putInt (fun v μ2 => v = none ∧ PlC μ2 x (L ++ dgU n k b) ∧ FrP x μ0 μ2) 0 0 22 [some (vP (some (x + 68))), some (vI v0), some (vI n), some (vI bz), some (vI (un k)), x5] [] μ := by
  intro k
  induction k with
  | zero =>
    intro b bz μ L x5 hk hP hf hl hb
    have hu : un 0 = 0 := rfl
    refine g_iload (i := 4) rfl dX5_putInt_22 ?_
    refine g_if_le (tgt := 81) dX5_putInt_24 (by decide) (by omega) (fun h24 => ?_) (fun h24 => ?_)
    · exact G.retV dX5_putInt_81 rfl ⟨rfl, by simpa [dgU] using hP, hf⟩
    · omega
  | succ k ih =>
    intro b bz μ L x5 hk hP hf hl hb
    have hT := hf.tps hT0
    have o68 := hT.o68
    have hp := p10 (k := k) (by omega)
    have hu : un (k + 1) = 10 ^ k := rfl
    obtain ⟨e1, e2, e3, e4⟩ := d10 (n := n) (p := 10 ^ k) hn.1 (by omega)
    have e5 : n / 10 ^ k ≤ n := Int.ediv_le_self _ hn.1
    have hun : ((10 : Int) ^ k).tdiv 10 = un k := un_next (k := k)
    show G w (d + 1) mX5_putInt (fun v μ2 => v = none ∧ PlC μ2 x (L ++ dgB n k b) ∧ FrP x μ0 μ2) 0 0 22 _ [] μ
    refine g_iload (i := 4) rfl dX5_putInt_22 ?_
    refine g_if_le (tgt := 81) dX5_putInt_24 (by decide) (by omega) (fun h24 => ?_) (fun h24 => ?_)
    · omega
    · refine g_iload_n (j := 2) rfl dX5_putInt_27 ?_
      refine g_iload (i := 4) rfl dX5_putInt_28 ?_
      refine g_idiv (by omega) (by omega) (by omega) dX5_putInt_30 ?_
      rw [hu, e4]
      refine g_bipush dX5_putInt_31 (by omega) ?_
      refine g_irem (by omega) (by omega) (by omega) dX5_putInt_33 ?_
      rw [Int.tmod_eq_emod_of_nonneg e3]
      refine g_istore (i := 5) dX5_putInt_34 (by decide) rfl ls5 ?_
      refine g_iload_n (j := 3) rfl dX5_putInt_36 ?_
      refine g_if_ne (tgt := 51) dX5_putInt_37 (by decide) (by omega) (fun h37 => ?_) (fun h37 => ?_)
      · refine g_iconst dX5_putInt_51 ?_
        refine g_goto (tgt := 56) (by decide) dX5_putInt_52 ?_
        refine g_istore_n (j := 3) dX5_putInt_56 (by decide) rfl ls3 ?_
        refine g_iload_n (j := 3) rfl dX5_putInt_57 ?_
        refine g_if_eq (tgt := 71) dX5_putInt_58 (by decide) (by omega) (fun h58 => ?_) (fun h58 => ?_)
        · refine g_iload (i := 4) rfl dX5_putInt_71 ?_
          refine g_bipush dX5_putInt_73 (by omega) ?_
          refine g_idiv (by omega) (by omega) (by omega) dX5_putInt_75 ?_
          rw [hun]
          refine g_istore (i := 4) dX5_putInt_76 (by decide) rfl ls4 ?_
          refine g_goto (tgt := 22) (by decide) dX5_putInt_78 ?_
          first
          | (exfalso; omega)
          | (rw [dgU_t (by first | exact Or.inl (by rcases hb with z | z; exact z.2; omega) | exact Or.inr (by omega))]
             refine G.post (fun v μ3 hq => ?_) (ih true 1 μ2 (L ++ [48 + n / 10 ^ k % 10]) _ (by omega) hP2 (hf.tr hf2) (by simp; omega) (Or.inl ⟨rfl, rfl⟩))
             rw [List.append_assoc] at hq
             exact hq)
          | (rw [dgU_f (by rcases hb with z | z; omega; exact z.2) (by omega) (by omega)]
             exact ih false 0 μ L _ (by omega) hP hf (by omega) (Or.inr ⟨rfl, rfl⟩))
        · refine g_aload_n (j := 0) rfl dX5_putInt_61 ?_
          refine g_bipush dX5_putInt_62 (by omega) ?_
          refine g_iload (i := 5) rfl dX5_putInt_64 ?_
          refine g_iadd dX5_putInt_66 ?_
          refine g_i2c dX5_putInt_67 ?_
          rw [dc e2]
          refine g_callV dX5_putInt_68 mlX5_29 mvX5_putSign (ci := 5) ⟨by decide, rfl⟩ (by assumption) (c_putSign w d μ hT hP (c := 48 + n / 10 ^ k % 10) (by omega) (by omega)) sv1 rfl (by omega) (Nat.le_of_ble_eq_true rfl) (Nat.le_refl _) (Nat.le_refl _) (fun v μ2 hR => ?_)
          obtain ⟨rfl, hP2, hf2⟩ := hR
          refine g_iload (i := 4) rfl dX5_putInt_71 ?_
          refine g_bipush dX5_putInt_73 (by omega) ?_
          refine g_idiv (by omega) (by omega) (by omega) dX5_putInt_75 ?_
          rw [hun]
          refine g_istore (i := 4) dX5_putInt_76 (by decide) rfl ls4 ?_
          refine g_goto (tgt := 22) (by decide) dX5_putInt_78 ?_
          first
          | (exfalso; omega)
          | (rw [dgU_t (by first | exact Or.inl (by rcases hb with z | z; exact z.2; omega) | exact Or.inr (by omega))]
             refine G.post (fun v μ3 hq => ?_) (ih true 1 μ2 (L ++ [48 + n / 10 ^ k % 10]) _ (by omega) hP2 (hf.tr hf2) (by simp; omega) (Or.inl ⟨rfl, rfl⟩))
             rw [List.append_assoc] at hq
             exact hq)
          | (rw [dgU_f (by rcases hb with z | z; omega; exact z.2) (by omega) (by omega)]
             exact ih false 0 μ L _ (by omega) hP hf (by omega) (Or.inr ⟨rfl, rfl⟩))
      · refine g_iload (i := 5) rfl dX5_putInt_40 ?_
        refine g_if_gt (tgt := 51) dX5_putInt_42 (by decide) (by omega) (fun h42 => ?_) (fun h42 => ?_)
        · refine g_iconst dX5_putInt_51 ?_
          refine g_goto (tgt := 56) (by decide) dX5_putInt_52 ?_
          refine g_istore_n (j := 3) dX5_putInt_56 (by decide) rfl ls3 ?_
          refine g_iload_n (j := 3) rfl dX5_putInt_57 ?_
          refine g_if_eq (tgt := 71) dX5_putInt_58 (by decide) (by omega) (fun h58 => ?_) (fun h58 => ?_)
          · refine g_iload (i := 4) rfl dX5_putInt_71 ?_
            refine g_bipush dX5_putInt_73 (by omega) ?_
            refine g_idiv (by omega) (by omega) (by omega) dX5_putInt_75 ?_
            rw [hun]
            refine g_istore (i := 4) dX5_putInt_76 (by decide) rfl ls4 ?_
            refine g_goto (tgt := 22) (by decide) dX5_putInt_78 ?_
            first
            | (exfalso; omega)
            | (rw [dgU_t (by first | exact Or.inl (by rcases hb with z | z; exact z.2; omega) | exact Or.inr (by omega))]
               refine G.post (fun v μ3 hq => ?_) (ih true 1 μ2 (L ++ [48 + n / 10 ^ k % 10]) _ (by omega) hP2 (hf.tr hf2) (by simp; omega) (Or.inl ⟨rfl, rfl⟩))
               rw [List.append_assoc] at hq
               exact hq)
            | (rw [dgU_f (by rcases hb with z | z; omega; exact z.2) (by omega) (by omega)]
               exact ih false 0 μ L _ (by omega) hP hf (by omega) (Or.inr ⟨rfl, rfl⟩))
          · refine g_aload_n (j := 0) rfl dX5_putInt_61 ?_
            refine g_bipush dX5_putInt_62 (by omega) ?_
            refine g_iload (i := 5) rfl dX5_putInt_64 ?_
            refine g_iadd dX5_putInt_66 ?_
            refine g_i2c dX5_putInt_67 ?_
            rw [dc e2]
            refine g_callV dX5_putInt_68 mlX5_29 mvX5_putSign (ci := 5) ⟨by decide, rfl⟩ (by assumption) (c_putSign w d μ hT hP (c := 48 + n / 10 ^ k % 10) (by omega) (by omega)) sv1 rfl (by omega) (Nat.le_of_ble_eq_true rfl) (Nat.le_refl _) (Nat.le_refl _) (fun v μ2 hR => ?_)
            obtain ⟨rfl, hP2, hf2⟩ := hR
            refine g_iload (i := 4) rfl dX5_putInt_71 ?_
            refine g_bipush dX5_putInt_73 (by omega) ?_
            refine g_idiv (by omega) (by omega) (by omega) dX5_putInt_75 ?_
            rw [hun]
            refine g_istore (i := 4) dX5_putInt_76 (by decide) rfl ls4 ?_
            refine g_goto (tgt := 22) (by decide) dX5_putInt_78 ?_
            first
            | (exfalso; omega)
            | (rw [dgU_t (by first | exact Or.inl (by rcases hb with z | z; exact z.2; omega) | exact Or.inr (by omega))]
               refine G.post (fun v μ3 hq => ?_) (ih true 1 μ2 (L ++ [48 + n / 10 ^ k % 10]) _ (by omega) hP2 (hf.tr hf2) (by simp; omega) (Or.inl ⟨rfl, rfl⟩))
               rw [List.append_assoc] at hq
               exact hq)
            | (rw [dgU_f (by rcases hb with z | z; omega; exact z.2) (by omega) (by omega)]
               exact ih false 0 μ L _ (by omega) hP hf (by omega) (Or.inr ⟨rfl, rfl⟩))
        · refine g_iload (i := 4) rfl dX5_putInt_45 ?_
          refine g_iconst dX5_putInt_47 ?_
          refine g_icmp_ne (tgt := 55) dX5_putInt_48 (by decide) (by omega) (by omega) (fun h48 => ?_) (fun h48 => ?_)
          · refine g_iconst dX5_putInt_55 ?_
            refine g_istore_n (j := 3) dX5_putInt_56 (by decide) rfl ls3 ?_
            refine g_iload_n (j := 3) rfl dX5_putInt_57 ?_
            refine g_if_eq (tgt := 71) dX5_putInt_58 (by decide) (by omega) (fun h58 => ?_) (fun h58 => ?_)
            · refine g_iload (i := 4) rfl dX5_putInt_71 ?_
              refine g_bipush dX5_putInt_73 (by omega) ?_
              refine g_idiv (by omega) (by omega) (by omega) dX5_putInt_75 ?_
              rw [hun]
              refine g_istore (i := 4) dX5_putInt_76 (by decide) rfl ls4 ?_
              refine g_goto (tgt := 22) (by decide) dX5_putInt_78 ?_
              first
              | (exfalso; omega)
              | (rw [dgU_t (by first | exact Or.inl (by rcases hb with z | z; exact z.2; omega) | exact Or.inr (by omega))]
                 refine G.post (fun v μ3 hq => ?_) (ih true 1 μ2 (L ++ [48 + n / 10 ^ k % 10]) _ (by omega) hP2 (hf.tr hf2) (by simp; omega) (Or.inl ⟨rfl, rfl⟩))
                 rw [List.append_assoc] at hq
                 exact hq)
              | (rw [dgU_f (by rcases hb with z | z; omega; exact z.2) (by omega) (by omega)]
                 exact ih false 0 μ L _ (by omega) hP hf (by omega) (Or.inr ⟨rfl, rfl⟩))
            · refine g_aload_n (j := 0) rfl dX5_putInt_61 ?_
              refine g_bipush dX5_putInt_62 (by omega) ?_
              refine g_iload (i := 5) rfl dX5_putInt_64 ?_
              refine g_iadd dX5_putInt_66 ?_
              refine g_i2c dX5_putInt_67 ?_
              rw [dc e2]
              refine g_callV dX5_putInt_68 mlX5_29 mvX5_putSign (ci := 5) ⟨by decide, rfl⟩ (by assumption) (c_putSign w d μ hT hP (c := 48 + n / 10 ^ k % 10) (by omega) (by omega)) sv1 rfl (by omega) (Nat.le_of_ble_eq_true rfl) (Nat.le_refl _) (Nat.le_refl _) (fun v μ2 hR => ?_)
              obtain ⟨rfl, hP2, hf2⟩ := hR
              refine g_iload (i := 4) rfl dX5_putInt_71 ?_
              refine g_bipush dX5_putInt_73 (by omega) ?_
              refine g_idiv (by omega) (by omega) (by omega) dX5_putInt_75 ?_
              rw [hun]
              refine g_istore (i := 4) dX5_putInt_76 (by decide) rfl ls4 ?_
              refine g_goto (tgt := 22) (by decide) dX5_putInt_78 ?_
              first
              | (exfalso; omega)
              | (rw [dgU_t (by first | exact Or.inl (by rcases hb with z | z; exact z.2; omega) | exact Or.inr (by omega))]
                 refine G.post (fun v μ3 hq => ?_) (ih true 1 μ2 (L ++ [48 + n / 10 ^ k % 10]) _ (by omega) hP2 (hf.tr hf2) (by simp; omega) (Or.inl ⟨rfl, rfl⟩))
                 rw [List.append_assoc] at hq
                 exact hq)
              | (rw [dgU_f (by rcases hb with z | z; omega; exact z.2) (by omega) (by omega)]
                 exact ih false 0 μ L _ (by omega) hP hf (by omega) (Or.inr ⟨rfl, rfl⟩))
          · refine g_iconst dX5_putInt_51 ?_
            refine g_goto (tgt := 56) (by decide) dX5_putInt_52 ?_
            refine g_istore_n (j := 3) dX5_putInt_56 (by decide) rfl ls3 ?_
            refine g_iload_n (j := 3) rfl dX5_putInt_57 ?_
            refine g_if_eq (tgt := 71) dX5_putInt_58 (by decide) (by omega) (fun h58 => ?_) (fun h58 => ?_)
            · refine g_iload (i := 4) rfl dX5_putInt_71 ?_
              refine g_bipush dX5_putInt_73 (by omega) ?_
              refine g_idiv (by omega) (by omega) (by omega) dX5_putInt_75 ?_
              rw [hun]
              refine g_istore (i := 4) dX5_putInt_76 (by decide) rfl ls4 ?_
              refine g_goto (tgt := 22) (by decide) dX5_putInt_78 ?_
              first
              | (exfalso; omega)
              | (rw [dgU_t (by first | exact Or.inl (by rcases hb with z | z; exact z.2; omega) | exact Or.inr (by omega))]
                 refine G.post (fun v μ3 hq => ?_) (ih true 1 μ2 (L ++ [48 + n / 10 ^ k % 10]) _ (by omega) hP2 (hf.tr hf2) (by simp; omega) (Or.inl ⟨rfl, rfl⟩))
                 rw [List.append_assoc] at hq
                 exact hq)
              | (rw [dgU_f (by rcases hb with z | z; omega; exact z.2) (by omega) (by omega)]
                 exact ih false 0 μ L _ (by omega) hP hf (by omega) (Or.inr ⟨rfl, rfl⟩))
            · refine g_aload_n (j := 0) rfl dX5_putInt_61 ?_
              refine g_bipush dX5_putInt_62 (by omega) ?_
              refine g_iload (i := 5) rfl dX5_putInt_64 ?_
              refine g_iadd dX5_putInt_66 ?_
              refine g_i2c dX5_putInt_67 ?_
              rw [dc e2]
              refine g_callV dX5_putInt_68 mlX5_29 mvX5_putSign (ci := 5) ⟨by decide, rfl⟩ (by assumption) (c_putSign w d μ hT hP (c := 48 + n / 10 ^ k % 10) (by omega) (by omega)) sv1 rfl (by omega) (Nat.le_of_ble_eq_true rfl) (Nat.le_refl _) (Nat.le_refl _) (fun v μ2 hR => ?_)
              obtain ⟨rfl, hP2, hf2⟩ := hR
              refine g_iload (i := 4) rfl dX5_putInt_71 ?_
              refine g_bipush dX5_putInt_73 (by omega) ?_
              refine g_idiv (by omega) (by omega) (by omega) dX5_putInt_75 ?_
              rw [hun]
              refine g_istore (i := 4) dX5_putInt_76 (by decide) rfl ls4 ?_
              refine g_goto (tgt := 22) (by decide) dX5_putInt_78 ?_
              first
              | (exfalso; omega)
              | (rw [dgU_t (by first | exact Or.inl (by rcases hb with z | z; exact z.2; omega) | exact Or.inr (by omega))]
                 refine G.post (fun v μ3 hq => ?_) (ih true 1 μ2 (L ++ [48 + n / 10 ^ k % 10]) _ (by omega) hP2 (hf.tr hf2) (by simp; omega) (Or.inl ⟨rfl, rfl⟩))
                 rw [List.append_assoc] at hq
                 exact hq)
              | (rw [dgU_f (by rcases hb with z | z; omega; exact z.2) (by omega) (by omega)]
                 exact ih false 0 μ L _ (by omega) hP hf (by omega) (Or.inr ⟨rfl, rfl⟩))
theorem c_putInt (w : WC) (d : Nat) (μ : Mem) {x : Nat} {L : List Int} {n : Int} (hT : TPS w μ x) (hP : PlC μ x L) (hn : -9999 ≤ n ∧ n ≤ 9999) (hl : L.length + 5 ≤ 2400) : Con w (d + 1) mX5_putInt 0 0 [vP (some (x + 68)), vI n] μ (fun v μ2 => v = none ∧ PlC μ2 x (L ++ nmL n) ∧ FrP x μ μ2) := by
  have o68 := hT.o68
  refine Con.of (by decide) (Nat.le_of_ble_eq_true rfl) rfl ?_
  refine g_iload_n (j := 1) rfl dX5_putInt_0 ?_
  refine g_if_ge (tgt := 10) dX5_putInt_1 (by decide) (by omega) (fun h1 => ?_) (fun h1 => ?_)
  · refine g_iload_n (j := 1) rfl dX5_putInt_10 ?_
    refine g_callS dX5_putInt_11 mlX5_33 msJ9_abs_0f7a4 (c_abs w d _ (a := n) (by omega)) sk1 rfl (by omega) (Nat.le_of_ble_eq_true rfl) (Nat.le_refl _) (Nat.le_refl _) (fun v μ2 hR => ?_)
    obtain ⟨rfl, hm⟩ := hR
    replace hm := hm.symm
    subst hm
    refine g_istore_n (j := 2) dX5_putInt_14 (by decide) rfl ls2 ?_
    refine g_iconst dX5_putInt_15 ?_
    refine g_istore_n (j := 3) dX5_putInt_16 (by decide) rfl ls3 ?_
    refine g_sipush dX5_putInt_17 (by omega) ?_
    refine g_istore (i := 4) dX5_putInt_20 (by decide) rfl ls4 ?_
    rw [if_neg (by omega)]
    refine G.post (fun v μ3 hq => ?_) (l_putInt (d := d) (n := n) (by omega) hT 4 false 0 μ L _ (by omega) hP Fr.rf (by omega) (Or.inr ⟨rfl, rfl⟩))
    rw [nmL, if_neg (by omega), if_neg (by omega), ← dgB_eq (by omega)]
    exact hq
  · refine g_aload_n (j := 0) rfl dX5_putInt_4 ?_
    refine g_bipush dX5_putInt_5 (by omega) ?_
    refine g_callV dX5_putInt_7 mlX5_29 mvX5_putSign (ci := 5) ⟨by decide, rfl⟩ (by assumption) (c_putSign w d μ hT hP (c := 45) (by omega) (by omega)) sv1 rfl (by omega) (Nat.le_of_ble_eq_true rfl) (Nat.le_refl _) (Nat.le_refl _) (fun v μ1 hR => ?_)
    obtain ⟨rfl, hP1, hf1⟩ := hR
    have hT1 := hf1.tps hT
    refine g_iload_n (j := 1) rfl dX5_putInt_10 ?_
    refine g_callS dX5_putInt_11 mlX5_33 msJ9_abs_0f7a4 (c_abs w d _ (a := n) (by omega)) sk1 rfl (by omega) (Nat.le_of_ble_eq_true rfl) (Nat.le_refl _) (Nat.le_refl _) (fun v μ2 hR => ?_)
    obtain ⟨rfl, hm⟩ := hR
    replace hm := hm.symm
    subst hm
    refine g_istore_n (j := 2) dX5_putInt_14 (by decide) rfl ls2 ?_
    refine g_iconst dX5_putInt_15 ?_
    refine g_istore_n (j := 3) dX5_putInt_16 (by decide) rfl ls3 ?_
    refine g_sipush dX5_putInt_17 (by omega) ?_
    refine g_istore (i := 4) dX5_putInt_20 (by decide) rfl ls4 ?_
    rw [if_pos (by omega)]
    refine G.post (fun v μ3 hq => ?_) (l_putInt (d := d) (n := -n) (by omega) hT1 4 false 0 μ1 (L ++ [45]) _ (by omega) hP1 Fr.rf (by simp; omega) (Or.inr ⟨rfl, rfl⟩))
    rw [nmL, if_pos (by omega), if_pos (by omega), ← dgB_eq (by omega), ← List.append_assoc]
    exact ⟨hq.1, hq.2.1, hf1.tr hq.2.2⟩
theorem l_saysBy {n v0 : Int} (hn : 0 ≤ n ∧ n < 10000) {μ : Mem} {R : Option AV → Mem → Prop} (kk : ∀ j : Nat, j ≤ 3 → n / 10 ^ j ≤ 9 → (j = 0 ∨ 1 ≤ n / 10 ^ j) → G w (d + 1) mX12_saysNumber R 0 0 39 [some (vP (some m)), some (vI v0), some (vI n), some (vI (10 ^ j))] [] μ) : ∀ (r j : Nat), j + r = 3 → (j = 0 ∨ 1 ≤ n / 10 ^ j) →
    G w (d + 1) mX12_saysNumber R 0 0 23 [some (vP (some m)), some (vI v0), some (vI n), some (vI (10 ^ j))] [] μ := by
  intro r
  induction r with
  | zero =>
    intro j hj hm
    have h3 : j = 3 := by omega
    subst h3
    obtain ⟨e1, e2, e3, e4⟩ := d10 (n := n) (p := 10 ^ 3) hn.1 (by decide)
    have hp : (10 : Int) ^ 3 = 1000 := rfl
    have e5 : n / 10 ^ 3 ≤ 9 := by rw [hp]; omega
    refine g_iload_n (j := 2) rfl dX12_saysNumber_23 ?_
    refine g_iload_n (j := 3) rfl dX12_saysNumber_24 ?_
    refine g_idiv (by omega) (by omega) (by omega) dX12_saysNumber_25 ?_
    rw [e4]
    refine g_bipush dX12_saysNumber_26 (by omega) ?_
    refine g_icmp_le (tgt := 39) dX12_saysNumber_28 (by decide) (by omega) (by omega) (fun h28 => ?_) (fun h28 => ?_)
    · exact kk 3 (by omega) e5 hm
    · omega
  | succ r ih =>
    intro j hj hm
    have hp := p10 (k := j) (by omega)
    obtain ⟨e1, e2, e3, e4⟩ := d10 (n := n) (p := 10 ^ j) hn.1 (by omega)
    have e5 : n / 10 ^ j ≤ n := Int.ediv_le_self _ hn.1
    refine g_iload_n (j := 2) rfl dX12_saysNumber_23 ?_
    refine g_iload_n (j := 3) rfl dX12_saysNumber_24 ?_
    refine g_idiv (by omega) (by omega) (by omega) dX12_saysNumber_25 ?_
    rw [e4]
    refine g_bipush dX12_saysNumber_26 (by omega) ?_
    refine g_icmp_le (tgt := 39) dX12_saysNumber_28 (by decide) (by omega) (by omega) (fun h28 => ?_) (fun h28 => ?_)
    · exact kk j (by omega) (by omega) hm
    · refine g_iload_n (j := 3) rfl dX12_saysNumber_31 ?_
      refine g_bipush dX12_saysNumber_32 (by omega) ?_
      refine g_imul dX12_saysNumber_34 ?_
      refine g_istore_n (j := 3) dX12_saysNumber_35 (by decide) rfl ls3 ?_
      refine g_goto (tgt := 23) (by decide) dX12_saysNumber_36 ?_
      rw [← Int.pow_succ]
      refine ih (j + 1) (by omega) (Or.inr ?_)
      rw [Int.pow_succ, ← Int.ediv_ediv_of_nonneg (by omega)]
      omega
theorem l_saysDg {n v0 : Int} (hn : 0 ≤ n ∧ n < 10000) {μ0 : Mem} (hM0 : MoS w μ0 m) : ∀ (k : Nat) (μ : Mem) (L : List Int), k ≤ 4 → PlM μ m L → FrQ m μ0 μ → L.length + k ≤ 2400 →
    G w (d + 1) mX12_saysNumber (fun v μ2 => v = none ∧ PlM μ2 m (L ++ (match k with | 0 => [] | k + 1 => dgM n k)) ∧ FrQ m μ0 μ2) 0 0 39 [some (vP (some m)), some (vI v0), some (vI n), some (vI (un k))] [] μ := by
  intro k
  induction k with
  | zero =>
    intro μ L hk hP hf hl
    have hu : un 0 = 0 := rfl
    refine g_iload_n (j := 3) rfl dX12_saysNumber_39 ?_
    refine g_if_le (tgt := 64) dX12_saysNumber_40 (by decide) (by omega) (fun h40 => ?_) (fun h40 => ?_)
    · exact G.retV dX12_saysNumber_64 rfl ⟨rfl, by simpa using hP, hf⟩
    · omega
  | succ k ih =>
    intro μ L hk hP hf hl
    have hM := FrM.Mo hf hM0
    have o0 := hM.o
    have hp := p10 (k := k) (by omega)
    have hu : un (k + 1) = 10 ^ k := rfl
    obtain ⟨e1, e2, e3, e4⟩ := d10 (n := n) (p := 10 ^ k) hn.1 (by omega)
    have e5 : n / 10 ^ k ≤ n := Int.ediv_le_self _ hn.1
    have hun : ((10 : Int) ^ k).tdiv 10 = un k := un_next (k := k)
    refine g_iload_n (j := 3) rfl dX12_saysNumber_39 ?_
    refine g_if_le (tgt := 64) dX12_saysNumber_40 (by decide) (by omega) (fun h40 => ?_) (fun h40 => ?_)
    · omega
    · refine g_aload_n (j := 0) rfl dX12_saysNumber_43 ?_
      refine g_bipush dX12_saysNumber_44 (by omega) ?_
      refine g_iload_n (j := 2) rfl dX12_saysNumber_46 ?_
      refine g_iload_n (j := 3) rfl dX12_saysNumber_47 ?_
      refine g_idiv (by omega) (by omega) (by omega) dX12_saysNumber_48 ?_
      rw [hu, e4]
      refine g_bipush dX12_saysNumber_49 (by omega) ?_
      refine g_irem (by omega) (by omega) (by omega) dX12_saysNumber_51 ?_
      rw [Int.tmod_eq_emod_of_nonneg e3]
      refine g_iadd dX12_saysNumber_52 ?_
      refine g_callV dX12_saysNumber_53 mlX12_445 mvX12_says (ci := 12) ⟨by decide, rfl⟩ (by assumption) (c_says w d μ hM hP (c := 48 + n / 10 ^ k % 10) (by omega)) sv1 rfl (by omega) (Nat.le_of_ble_eq_true rfl) (Nat.le_refl _) (Nat.le_refl _) (fun v μ2 hR => ?_)
      obtain ⟨rfl, hP2, hf2⟩ := hR
      refine g_iload_n (j := 3) rfl dX12_saysNumber_56 ?_
      refine g_bipush dX12_saysNumber_57 (by omega) ?_
      refine g_idiv (by omega) (by omega) (by omega) dX12_saysNumber_59 ?_
      rw [hun]
      refine g_istore_n (j := 3) dX12_saysNumber_60 (by decide) rfl ls3 ?_
      refine g_goto (tgt := 39) (by decide) dX12_saysNumber_61 ?_
      refine G.post (fun v μ3 hq => ?_) (ih μ2 (L ++ [48 + n / 10 ^ k % 10]) (by omega) hP2 (FrM.tr hf hf2) (by simp; omega))
      rw [List.append_assoc] at hq
      cases k with
      | zero => exact ⟨hq.1, by have := hq.2.1; simpa [dgM] using this, hq.2.2⟩
      | succ k => exact hq
theorem c_saysNumber (w : WC) (d : Nat) (μ : Mem) {m : Nat} {L : List Int} {n : Int} (hM : MoS w μ m) (hP : PlM μ m L) (hn : -9999 ≤ n ∧ n ≤ 9999) (hl : L.length + 5 ≤ 2400) : Con w (d + 1) mX12_saysNumber 0 0 [vP (some m), vI n] μ (fun v μ2 => v = none ∧ PlM μ2 m (L ++ nmL n) ∧ FrQ m μ μ2) := by
  have o0 := hM.o
  refine Con.of (by decide) (Nat.le_of_ble_eq_true rfl) rfl ?_
  refine g_iload_n (j := 1) rfl dX12_saysNumber_0 ?_
  refine g_if_ge (tgt := 10) dX12_saysNumber_1 (by decide) (by omega) (fun h1 => ?_) (fun h1 => ?_)
  · refine g_iload_n (j := 1) rfl dX12_saysNumber_10 ?_
    refine g_if_ge (tgt := 19) dX12_saysNumber_11 (by decide) (by omega) (fun h11 => ?_) (fun h11 => ?_)
    · refine g_iload_n (j := 1) rfl dX12_saysNumber_19 ?_
      refine g_istore_n (j := 2) dX12_saysNumber_20 (by decide) rfl ls2 ?_
      refine g_iconst dX12_saysNumber_21 ?_
      refine g_istore_n (j := 3) dX12_saysNumber_22 (by decide) rfl ls3 ?_
      refine l_saysBy (d := d) (n := n) (by omega) (fun j q1 q2 q3 => ?_) 3 0 (by omega) (Or.inl rfl)
      refine G.post (fun v μ3 hq => ?_) (l_saysDg (d := d) (n := n) (v0 := n) (by omega) hM (j + 1) μ L (by omega) hP FrM.rf (by omega))
      rw [nmL, if_neg (by omega), if_neg (by omega), ← dgM_eq (by omega) q2 q3 q1]
      exact hq
    · refine g_iload_n (j := 1) rfl dX12_saysNumber_14 ?_
      refine g_ineg dX12_saysNumber_15 ?_
      refine g_goto (tgt := 20) (by decide) dX12_saysNumber_16 ?_
      refine g_istore_n (j := 2) dX12_saysNumber_20 (by decide) rfl ls2 ?_
      refine g_iconst dX12_saysNumber_21 ?_
      refine g_istore_n (j := 3) dX12_saysNumber_22 (by decide) rfl ls3 ?_
      exfalso; omega
  · refine g_aload_n (j := 0) rfl dX12_saysNumber_4 ?_
    refine g_bipush dX12_saysNumber_5 (by omega) ?_
    refine g_callV dX12_saysNumber_7 mlX12_445 mvX12_says (ci := 12) ⟨by decide, rfl⟩ (by assumption) (c_says w d μ hM hP (c := 45) (by omega)) sv1 rfl (by omega) (Nat.le_of_ble_eq_true rfl) (Nat.le_refl _) (Nat.le_refl _) (fun v μ1 hR => ?_)
    obtain ⟨rfl, hP1, hf1⟩ := hR
    have hM1 := FrM.Mo hf1 hM
    have o01 := hM1.o
    refine g_iload_n (j := 1) rfl dX12_saysNumber_10 ?_
    refine g_if_ge (tgt := 19) dX12_saysNumber_11 (by decide) (by omega) (fun h11 => ?_) (fun h11 => ?_)
    · refine g_iload_n (j := 1) rfl dX12_saysNumber_19 ?_
      refine g_istore_n (j := 2) dX12_saysNumber_20 (by decide) rfl ls2 ?_
      refine g_iconst dX12_saysNumber_21 ?_
      refine g_istore_n (j := 3) dX12_saysNumber_22 (by decide) rfl ls3 ?_
      exfalso; omega
    · refine g_iload_n (j := 1) rfl dX12_saysNumber_14 ?_
      refine g_ineg dX12_saysNumber_15 ?_
      refine g_goto (tgt := 20) (by decide) dX12_saysNumber_16 ?_
      refine g_istore_n (j := 2) dX12_saysNumber_20 (by decide) rfl ls2 ?_
      refine g_iconst dX12_saysNumber_21 ?_
      refine g_istore_n (j := 3) dX12_saysNumber_22 (by decide) rfl ls3 ?_
      refine l_saysBy (d := d) (n := -n) (by omega) (fun j q1 q2 q3 => ?_) 3 0 (by omega) (Or.inl rfl)
      refine G.post (fun v μ3 hq => ?_) (l_saysDg (d := d) (n := -n) (v0 := n) (by omega) hM1 (j + 1) μ1 (L ++ [45]) (by omega) hP1 FrM.rf (by simp; omega))
      rw [nmL, if_pos (by omega), if_pos (by omega), ← dgM_eq (by omega) q2 q3 q1, ← List.append_assoc]
      exact ⟨hq.1, hq.2.1, FrM.tr hf1 hq.2.2⟩
end PT
