/-! IDENTITY: which numbers a change of letters leaves -/
theorem or_and0 {x y c : Int32} (h : (x ||| y) &&& c = 0) : x &&& c = 0 ∧ y &&& c = 0 := by
  have hb : (x.toBitVec ||| y.toBitVec) &&& c.toBitVec = 0#32 := by
    have := congrArg Int32.toBitVec h
    simpa using this
  have key : ∀ z : Int32, (∀ i, (z.toBitVec &&& c.toBitVec).getLsbD i = true → ((x.toBitVec ||| y.toBitVec) &&& c.toBitVec).getLsbD i = true) → z &&& c = 0 := fun z hz => by
    rw [← Int32.toBitVec_inj, Int32.toBitVec_and]
    refine BitVec.eq_of_getLsbD_eq fun i hi => ?_
    cases hc : (z.toBitVec &&& c.toBitVec).getLsbD i with
    | false => exact BitVec.getLsbD_zero.symm
    | true =>
      have := hz i hc
      rw [hb] at this
      rw [BitVec.getLsbD_zero] at this
      cases this
  constructor
  · refine key x fun i hi => ?_
    rw [BitVec.getLsbD_and, BitVec.getLsbD_or] at *
    revert hi
    cases x.toBitVec.getLsbD i <;> cases c.toBitVec.getLsbD i <;> simp
  · refine key y fun i hi => ?_
    rw [BitVec.getLsbD_and, BitVec.getLsbD_or] at *
    revert hi
    cases y.toBitVec.getLsbD i <;> cases c.toBitVec.getLsbD i <;> simp
theorem iv_orB (a b : Int) : iv (orB a b) = iv a ||| iv b := iv_of _
def UsO (U : Int → Int) (ops : List Op) : Prop := ∀ (j : Nat) (o : Op), ops[j]? = some o → U (j : Int) = if o.1 = 0 then 64 else if o.1 = 1 then orB 64 (shB o.2) else if o.1 = 5 then U (((ixO (ops.take j)).headD 0 : Nat) : Int) else orB (U ((((ixO (ops.take j)).drop 1).headD 0 : Nat) : Int)) (U (((ixO (ops.take j)).headD 0 : Nat) : Int))
theorem ix_lt {ops : List Op} {j k : Nat} (h : k < (ixO (ops.take j)).length) : ((ixO (ops.take j)).drop k).headD 0 < j := by
  rcases hc : (ixO (ops.take j)).drop k with _ | ⟨a, l⟩
  · have := congrArg List.length hc
    rw [List.length_drop] at this
    have e : ([] : List Nat).length = 0 := rfl
    omega
  · have hm : a ∈ ixO (ops.take j) := List.mem_of_mem_drop (hc ▸ List.mem_cons_self)
    have := ixO_lt hm
    rw [List.length_take] at this
    show a < j
    omega
/-- a property of steps that goes from the taken to the taker -/
theorem stp_ind {ops : List Op} (hw : Wf ops 0) {P : Nat → Prop} (h : ∀ (j : Nat) (o : Op), ops[j]? = some o → (o.1 = 5 → (ixO (ops.take j)).headD 0 < j ∧ P ((ixO (ops.take j)).headD 0)) → (¬ o.1 = 0 → ¬ o.1 = 1 → ¬ o.1 = 5 → ((ixO (ops.take j)).headD 0 < j ∧ P ((ixO (ops.take j)).headD 0)) ∧ ((ixO (ops.take j)).drop 1).headD 0 < j ∧ P (((ixO (ops.take j)).drop 1).headD 0)) → P j) : ∀ j, j < ops.length → P j := by
  intro j
  induction j using Nat.strongRecOn with
  | _ j ih =>
    intro hj
    obtain ⟨o, ho⟩ : ∃ o, ops[j]? = some o := ⟨_, List.getElem?_eq_getElem hj⟩
    have hn := nd_le ho hw
    unfold nd at hn
    refine h j o ho (fun h5 => ?_) (fun h0 h1 h5 => ?_)
    · rw [if_neg (by omega), if_pos h5] at hn
      have := ix_lt (k := 0) (show 0 < _ from hn)
      rw [List.drop_zero] at this
      exact ⟨this, ih _ this (by omega)⟩
    · rw [if_neg (fun z => z.elim h0 h1), if_neg h5] at hn
      have t0 := ix_lt (k := 0) (show 0 < (ixO (ops.take j)).length by omega)
      have t1 := ix_lt (k := 1) (show 1 < (ixO (ops.take j)).length by omega)
      rw [List.drop_zero] at t0
      exact ⟨⟨t0, ih _ t0 (by omega)⟩, t1, ih _ t1 (by omega)⟩
theorem us_all {U : Int → Int} {ops : List Op} (hw : Wf ops 0) (hU : UsO U ops) : ∀ j, j < ops.length → ¬ iv (U (j : Int)) &&& iv 127 = 0 := by
  refine stp_ind hw fun j o ho h5 h2 h => ?_
  rw [hU j o ho] at h
  by_cases h0 : o.1 = 0
  · rw [if_pos h0] at h
    exact absurd h (by decide)
  · rw [if_neg h0] at h
    by_cases h1 : o.1 = 1
    · rw [if_pos h1, iv_orB] at h
      exact absurd (or_and0 h).1 (by decide)
    · rw [if_neg h1] at h
      by_cases h5' : o.1 = 5
      · rw [if_pos h5'] at h
        exact (h5 h5').2 h
      · rw [if_neg h5', iv_orB] at h
        exact (h2 h0 h1 h5').1.2 (or_and0 h).2
/-- letters alike where the mask has no bit -/
def AgV (C : Int) (V V2 : Int → Int) : Prop := ∀ l, 0 ≤ l → l ≤ 5 → iv (shB l) &&& iv C = 0 → V2 l = V l
theorem us_same {U : Int → Int} {ops : List Op} (hw : Wf ops 0) (hU : UsO U ops) (hO : ∀ o ∈ ops, OkO o) {C : Int} {V V2 : Int → Int} (hV : AgV C V V2) : ∀ j, j < ops.length → iv (U (j : Int)) &&& iv C = 0 → valI V2 ops j = valI V ops j := by
  refine stp_ind hw fun j o ho h5 h2 h => ?_
  rw [hU j o ho] at h
  rw [val_step ho hw, val_step ho hw]
  by_cases h0 : o.1 = 0
  · rw [if_pos h0, if_pos h0]
  · rw [if_neg h0] at h
    rw [if_neg h0, if_neg h0]
    by_cases h1 : o.1 = 1
    · rw [if_pos h1, iv_orB] at h
      rw [if_pos h1, if_pos h1]
      have hk := hO o (List.mem_of_getElem? ho)
      unfold OkO at hk
      rw [hV o.2 (by omega) (by omega) (or_and0 h).2]
    · rw [if_neg h1] at h
      rw [if_neg h1, if_neg h1]
      by_cases h5' : o.1 = 5
      · rw [if_pos h5'] at h
        rw [if_pos h5', if_pos h5', (h5 h5').2 h]
      · rw [if_neg h5', iv_orB] at h
        rw [if_neg h5', if_neg h5', (h2 h0 h1 h5').1.2 (or_and0 h).2, (h2 h0 h1 h5').2.2 (or_and0 h).1]
/-! the rows of a box, one behind the other -/
def usB (L l : Int) : Int := (iv (iv L >>> (iv l &&& 31)).toInt &&& iv 1).toInt
theorem usB_01 {L l : Int} (hL : 0 ≤ L ∧ L < 64) (hl : 0 ≤ l ∧ l ≤ 5) : usB L l = 0 ∨ usB L l = 1 := by
  obtain ⟨a, rfl⟩ : ∃ k : Fin 64, L = ((k.val : Nat) : Int) := ⟨⟨L.toNat, by omega⟩, by show L = (L.toNat : Int); omega⟩
  obtain ⟨b, rfl⟩ : ∃ k : Fin 6, l = ((k.val : Nat) : Int) := ⟨⟨l.toNat, by omega⟩, by show l = (l.toNat : Int); omega⟩
  clear hL hl
  revert a b
  decide +kernel
def up (V : Int → Int) (l v : Int) : Int → Int := fun j => if j = l then v else V j
theorem up_e (V : Int → Int) (l v : Int) : up V l v l = v := if_pos rfl
theorem up_n {V : Int → Int} {l v j : Int} (h : ¬ j = l) : up V l v j = V j := if_neg h
section RW
variable (L b : Int)
def nxW : Nat → (Int → Int) → Int → Int
  | 0, V => V
  | l + 1, V => if usB L l = 1 then (if V l < b then up V l (V l + 1) else nxW l (up V l (-b))) else nxW l V
def nxG : Nat → (Int → Int) → Int
  | 0, _ => 0
  | l + 1, V => if usB L l = 1 then (if V l < b then 1 else nxG l (up V l (-b))) else nxG l V
def nxM : Nat → (Int → Int) → Int → Int
  | 0, _, c => c
  | l + 1, V, c => if usB L l = 1 then (if V l < b then orB c (shB l) else nxM l (up V l (-b)) (orB c (shB l))) else nxM l V c
def TT : Nat → Int
  | 0 => 1
  | k + 1 => (if usB L (5 - (k : Int)) = 1 then 2 * b + 1 else 1) * TT k
def hiR (V : Int → Int) : Nat → Int
  | 0 => 0
  | k + 1 => (if usB L (5 - (k : Int)) = 1 then (V (5 - (k : Int)) + b) * TT L b k else 0) + hiR V k
def PT : Nat → Int
  | 0 => 1
  | l + 1 => PT l * (if usB L l = 1 then 2 * b + 1 else 1)
def itV : Nat → Int → Int
  | 0 => fun l => if usB L l = 1 then -b else 0
  | r + 1 => nxW L b 6 (itV r)
end RW
def hbV (b : Int) (V : Int → Int) : Prop := ∀ l, 0 ≤ l → l ≤ 5 → -b ≤ V l ∧ V l ≤ b
section RX
variable {L b : Int}
theorem shB_ne : ∀ l : Int, 0 ≤ l → l ≤ 5 → ¬ iv (shB l) &&& iv (shB l) = 0 := by
  intro l h0 h5
  obtain ⟨k, rfl⟩ : ∃ k : Fin 6, l = ((k.val : Nat) : Int) := ⟨⟨l.toNat, by omega⟩, by show l = (l.toNat : Int); omega⟩
  clear h0 h5
  revert k
  decide +kernel
theorem and_orB {x c : Int32} {a : Int} (h : x &&& iv (orB a c.toInt) = 0) : x &&& iv a = 0 ∧ x &&& c = 0 := by
  rw [iv_orB, iv_of, Int32.and_comm] at h
  have := or_and0 h
  rw [Int32.and_comm, Int32.and_comm c] at this
  exact this
theorem msk_or {l a c : Int} (h : iv (shB l) &&& iv (orB a c) = 0) : iv (shB l) &&& iv a = 0 ∧ iv (shB l) &&& iv c = 0 := by
  rw [iv_orB, Int32.and_comm] at h
  have := or_and0 h
  rw [Int32.and_comm (iv a), Int32.and_comm (iv c)] at this
  exact this
theorem nx_mask : ∀ (l : Nat), l ≤ 6 → ∀ (V : Int → Int) (c : Int) (i : Int), 0 ≤ i → i ≤ 5 → iv (shB i) &&& iv (nxM L b l V c) = 0 → iv (shB i) &&& iv c = 0 ∧ nxW L b l V i = V i
  | 0, _, V, c, i, _, _, h => ⟨h, rfl⟩
  | l + 1, hl, V, c, i, h0, h5, h => by
    unfold nxM at h
    unfold nxW
    by_cases hu : usB L l = 1
    · rw [if_pos hu] at h
      rw [if_pos hu]
      by_cases hv : V l < b
      · rw [if_pos hv] at h
        rw [if_pos hv]
        obtain ⟨h1, h2⟩ := msk_or h
        have hne : ¬ i = (l : Int) := fun z => shB_ne l (by omega) (by omega) (by rw [z] at h2; exact h2)
        exact ⟨h1, up_n hne⟩
      · rw [if_neg hv] at h
        rw [if_neg hv]
        obtain ⟨h1, h2⟩ := nx_mask l (by omega) _ _ i h0 h5 h
        obtain ⟨h3, h4⟩ := msk_or h1
        have hne : ¬ i = (l : Int) := fun z => shB_ne l (by omega) (by omega) (by rw [z] at h4; exact h4)
        exact ⟨h3, h2.trans (up_n hne)⟩
    · rw [if_neg hu] at h
      rw [if_neg hu]
      exact nx_mask l (by omega) V c i h0 h5 h
theorem TT_s (k : Nat) : TT L b (k + 1) = (if usB L (5 - (k : Int)) = 1 then 2 * b + 1 else 1) * TT L b k := rfl
theorem hiR_s (V : Int → Int) (k : Nat) : hiR L b V (k + 1) = (if usB L (5 - (k : Int)) = 1 then (V (5 - (k : Int)) + b) * TT L b k else 0) + hiR L b V k := rfl
theorem TT_pos (hb : 0 ≤ b) : ∀ k, 1 ≤ TT L b k
  | 0 => Int.le_refl _
  | k + 1 => by
    have ih := TT_pos hb k
    unfold TT
    split
    · have := Int.mul_le_mul_of_nonneg_right (show 1 ≤ 2 * b + 1 by omega) (show 0 ≤ TT L b k by omega)
      omega
    · omega
theorem TT_le (hb : 0 ≤ b ∧ b ≤ 3) : ∀ k, TT L b k ≤ 7 ^ k
  | 0 => Int.le_refl _
  | k + 1 => by
    have ih := TT_le hb k
    have h1 := TT_pos (L := L) hb.1 k
    have e : (7 : Int) ^ (k + 1) = 7 ^ k * 7 := Int.pow_succ 7 k
    unfold TT
    split
    · have := Int.mul_le_mul_of_nonneg_right (show 2 * b + 1 ≤ 7 by omega) (show 0 ≤ TT L b k by omega)
      omega
    · omega
theorem PT_TT : ∀ (l k : Nat), l + k = 6 → PT L b l * TT L b k = TT L b 6
  | 0, k, h => by
    have : k = 6 := by omega
    subst this
    exact Int.one_mul _
  | l + 1, k, h => by
    have ih := PT_TT l (k + 1) (by omega)
    unfold TT at ih
    unfold PT
    rw [show (5 : Int) - (k : Int) = (l : Int) by omega] at ih
    rw [Int.mul_assoc]
    exact ih
theorem hi_bd {V : Int → Int} (hb : 0 ≤ b) (hV : hbV b V) : ∀ k, k ≤ 6 → 0 ≤ hiR L b V k ∧ hiR L b V k ≤ TT L b k - 1
  | 0, _ => ⟨Int.le_refl _, Int.le_refl _⟩
  | k + 1, h => by
    have ih := hi_bd hb hV k (by omega)
    have h1 := TT_pos (L := L) hb k
    have h2 := hV (5 - (k : Int)) (by omega) (by omega)
    rw [hiR_s, TT_s]
    split
    · have a1 := Int.mul_nonneg (show 0 ≤ V (5 - (k : Int)) + b by omega) (show 0 ≤ TT L b k by omega)
      have a2 := Int.mul_le_mul_of_nonneg_right (show V (5 - (k : Int)) + b ≤ 2 * b by omega) (show 0 ≤ TT L b k by omega)
      have a3 : (2 * b + 1) * TT L b k = 2 * b * TT L b k + TT L b k := by rw [Int.add_mul, Int.one_mul]
      omega
    · omega
theorem hi_hi {V : Int → Int} {l v : Int} : ∀ k : Nat, l ≤ 5 - (k : Int) → hiR L b (up V l v) k = hiR L b V k
  | 0, _ => rfl
  | k + 1, h => by
    unfold hiR
    rw [hi_hi k (by omega), up_n (by omega)]
theorem hi_one {V : Int → Int} {v : Int} {k : Nat} (hu : usB L (5 - (k : Int)) = 1) : ∀ m : Nat, k < m → hiR L b (up V (5 - (k : Int)) v) m = hiR L b V m + (v - V (5 - (k : Int))) * TT L b k
  | 0, h => absurd h (Nat.not_lt_zero _)
  | m + 1, h => by
    unfold hiR
    by_cases e : m = k
    · subst e
      rw [hi_hi m (by omega), if_pos hu, if_pos hu, up_e, show v + b = (V (5 - (m : Int)) + b) + (v - V (5 - (m : Int))) by omega, Int.add_mul]
      omega
    · rw [hi_one hu m (by omega), up_n (by omega)]
      omega
theorem hbV_up {V : Int → Int} {l v : Int} (h : hbV b V) (hv : -b ≤ v ∧ v ≤ b) : hbV b (up V l v) := fun i z1 z2 => by
  unfold up
  split
  · exact hv
  · exact h i z1 z2
theorem nx_rank (hb : 0 ≤ b) : ∀ (l k : Nat) (V : Int → Int), l + k = 6 → hbV b V → hiR L b V k = 0 → hbV b (nxW L b l V) ∧ ((nxG L b l V = 1 ∧ hiR L b (nxW L b l V) 6 = hiR L b V 6 + TT L b k) ∨ (nxG L b l V = 0 ∧ hiR L b V 6 = TT L b 6 - TT L b k))
  | 0, k, V, hk, hV, h0 => by
    have : k = 6 := by omega
    subst this
    exact ⟨hV, Or.inr ⟨rfl, by omega⟩⟩
  | l + 1, k, V, hk, hV, h0 => by
    have hl : (5 : Int) - (k : Int) = (l : Int) := by omega
    have hVl := hV l (by omega) (by omega)
    by_cases hu : usB L l = 1
    · have hu2 : usB L (5 - (k : Int)) = 1 := by rw [hl]; exact hu
      by_cases hv : V l < b
      · have e1 : nxW L b (l + 1) V = up V l (V l + 1) := by
          rw [nxW, if_pos hu, if_pos hv]
        have e2 : nxG L b (l + 1) V = 1 := by
          rw [nxG, if_pos hu, if_pos hv]
        rw [e1, e2]
        refine ⟨hbV_up hV (by omega), Or.inl ⟨rfl, ?_⟩⟩
        rw [← hl, hi_one hu2 6 (by omega), show V (5 - (k : Int)) + 1 - V (5 - (k : Int)) = 1 by omega, Int.one_mul]
      · have e1 : nxW L b (l + 1) V = nxW L b l (up V l (-b)) := by
          rw [nxW, if_pos hu, if_neg hv]
        have e2 : nxG L b (l + 1) V = nxG L b l (up V l (-b)) := by
          rw [nxG, if_pos hu, if_neg hv]
        have e3 : hiR L b (up V l (-b)) (k + 1) = 0 := by
          unfold hiR
          rw [if_pos hu2, hi_hi k (by omega), hl, up_e, show -b + b = 0 by omega, Int.zero_mul, h0]
          rfl
        obtain ⟨g1, g2⟩ := nx_rank hb l (k + 1) (up V l (-b)) (by omega) (hbV_up hV (by omega)) e3
        have e4 : hiR L b (up V l (-b)) 6 = hiR L b V 6 + (-b - V l) * TT L b k := by
          have := hi_one (L := L) (b := b) (V := V) (v := -b) hu2 6 (by omega)
          rw [hl] at this
          exact this
        have e5 : TT L b (k + 1) = (2 * b + 1) * TT L b k := by
          rw [TT_s, if_pos hu2]
        have e6 : (-b - V l) * TT L b k + (2 * b + 1) * TT L b k = TT L b k := by
          rw [← Int.add_mul, show -b - V l + (2 * b + 1) = 1 by omega, Int.one_mul]
        rw [e1, e2]
        refine ⟨g1, ?_⟩
        rcases g2 with ⟨z1, z2⟩ | ⟨z1, z2⟩
        · exact Or.inl ⟨z1, by omega⟩
        · exact Or.inr ⟨z1, by omega⟩
    · have hu2 : ¬ usB L (5 - (k : Int)) = 1 := by rw [hl]; exact hu
      have e1 : nxW L b (l + 1) V = nxW L b l V := by
        rw [nxW, if_neg hu]
      have e2 : nxG L b (l + 1) V = nxG L b l V := by
        rw [nxG, if_neg hu]
      have e3 : hiR L b V (k + 1) = 0 := by
        unfold hiR
        rw [if_neg hu2, h0]
        rfl
      have e5 : TT L b (k + 1) = TT L b k := by
        show (if usB L (5 - (k : Int)) = 1 then 2 * b + 1 else 1) * TT L b k = _
        rw [if_neg hu2, Int.one_mul]
      have g := nx_rank hb l (k + 1) V (by omega) hV e3
      rw [e5] at g
      rw [e1, e2]
      exact g
theorem it_rank (hb : 0 ≤ b) : ∀ r : Nat, (r : Int) < TT L b 6 → hbV b (itV L b r) ∧ hiR L b (itV L b r) 6 = (r : Int)
  | 0, _ => by
    have h0 : ∀ k, hiR L b (itV L b 0) k = 0 := by
      intro k
      induction k with
      | zero => rfl
      | succ k ih =>
        unfold hiR
        rw [ih]
        by_cases hu : usB L (5 - (k : Int)) = 1
        · have : itV L b 0 (5 - (k : Int)) = -b := if_pos hu
          rw [if_pos hu, this, show -b + b = 0 by omega, Int.zero_mul]
          rfl
        · rw [if_neg hu]
          rfl
    refine ⟨fun l z1 z2 => ?_, h0 6⟩
    show -b ≤ (if usB L l = 1 then -b else 0) ∧ (if usB L l = 1 then -b else 0) ≤ b
    split <;> omega
  | r + 1, h => by
    obtain ⟨h1, h2⟩ := it_rank hb r (by omega)
    obtain ⟨g1, g2⟩ := nx_rank (L := L) hb 6 0 (itV L b r) rfl h1 rfl
    have e : TT L b 0 = 1 := rfl
    refine ⟨g1, ?_⟩
    rcases g2 with ⟨z1, z2⟩ | ⟨z1, z2⟩
    · show hiR L b (nxW L b 6 (itV L b r)) 6 = _
      omega
    · omega
theorem it_more (hb : 0 ≤ b) {r : Nat} (h : (r : Int) < TT L b 6) : hbV b (itV L b r) ∧ hbV b (itV L b (r + 1)) ∧ ((nxG L b 6 (itV L b r) = 1 ∧ ((r + 1 : Nat) : Int) < TT L b 6) ∨ (nxG L b 6 (itV L b r) = 0 ∧ ((r + 1 : Nat) : Int) = TT L b 6)) := by
  obtain ⟨h1, h2⟩ := it_rank hb r h
  obtain ⟨g1, g2⟩ := nx_rank (L := L) hb 6 0 (itV L b r) rfl h1 rfl
  have e : TT L b 0 = 1 := rfl
  have g3 := (hi_bd (L := L) hb g1 6 (Nat.le_refl _)).2
  refine ⟨h1, g1, ?_⟩
  rcases g2 with ⟨z1, z2⟩ | ⟨z1, z2⟩
  · exact Or.inl ⟨z1, by omega⟩
  · exact Or.inr ⟨z1, by omega⟩
end RX
/-! what the rows tell -/
def sA (I : IdT) (V : Int → Int) : Option Int := sdV V (I.1.2.2.take I.2)
def sB (I : IdT) (V : Int → Int) : Option Int := sdV V (I.1.2.2.drop I.2)
def byV (I : IdT) (V : Int → Int) : Prop := sA I V = none ∨ sB I V = none
def brV (I : IdT) (V : Int → Int) : Prop := byV I V ∨ ¬ sA I V = sB I V
noncomputable def cB (I : IdT) (b : Int) : Nat → Int
  | 0 => 0
  | r + 1 => cB I b r + bI (brV I (itV I.1.2.1 b r))
noncomputable def fF (I : IdT) (b : Int) : Nat → Int → Int
  | 0 => fun _ => 0
  | r + 1 => pI (cB I b r = 0 ∧ brV I (itV I.1.2.1 b r)) (fun j => if j = 6 then bI (byV I (itV I.1.2.1 b r)) else itV I.1.2.1 b r j) (fF I b r)
theorem cB_bd (I : IdT) (b : Int) : ∀ r, 0 ≤ cB I b r ∧ cB I b r ≤ (r : Int)
  | 0 => ⟨Int.le_refl _, Int.le_refl _⟩
  | r + 1 => by
    have ih := cB_bd I b r
    have h := bI_01 (brV I (itV I.1.2.1 b r))
    unfold cB
    omega
