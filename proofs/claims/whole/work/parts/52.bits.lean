/-! SETS OF SUMS: bits -/
def bt (v : Int) (b : Nat) : Bool := (lg v).toBitVec.getLsbD b
theorem bt_ge (v : Int) {b : Nat} (h : 64 ≤ b) : bt v b = false := BitVec.getLsbD_of_ge _ _ h
theorem bt_or (a b : Int) (i : Nat) : bt (lg a ||| lg b).toInt i = (bt a i || bt b i) := by
  unfold bt
  rw [lg_of, Int64.toBitVec_or, BitVec.getLsbD_or]
theorem sh_key : ∀ r : Nat, r < 64 → (((iv (r : Int)).toInt64 &&& 63).toBitVec.smod 64).toNat = r := by decide +kernel
theorem us_key : ∀ r : Nat, r < 64 → (((iv (r : Int)).toInt64.toUInt64 &&& Int64.toUInt64 63).toBitVec % 64).toNat = r := by decide +kernel
theorem bt_shl (a : Int) {r : Int} (hr : 0 ≤ r ∧ r < 64) (i : Nat) : bt (lg a <<< ((iv r).toInt64 &&& 63)).toInt i = (decide (i < 64) && !decide (i < r.toNat) && bt a (i - r.toNat)) := by
  have hk := sh_key r.toNat (by omega)
  rw [show ((r.toNat : Nat) : Int) = r by omega] at hk
  unfold bt
  rw [lg_of, Int64.toBitVec_shiftLeft, BitVec.shiftLeft_eq']
  have e : (((iv r).toInt64 &&& 63).toBitVec.smod 64).toNat = r.toNat := hk
  rw [e, BitVec.getLsbD_shiftLeft]
theorem bt_ushr (a : Int) {r : Int} (hr : 0 ≤ r ∧ r < 64) (i : Nat) : bt ((lg a).toUInt64 >>> ((iv r).toInt64.toUInt64 &&& Int64.toUInt64 63)).toInt64.toInt i = bt a (r.toNat + i) := by
  have hk := us_key r.toNat (by omega)
  rw [show ((r.toNat : Nat) : Int) = r by omega] at hk
  unfold bt
  rw [lg_of]
  show ((lg a).toBitVec >>> (((iv r).toInt64.toUInt64 &&& Int64.toUInt64 63).toBitVec % 64)).getLsbD i = _
  rw [BitVec.ushiftRight_eq', hk, BitVec.getLsbD_ushiftRight]
theorem bt_0 (i : Nat) : bt 0 i = false := by
  unfold bt
  show (0#64).getLsbD i = false
  simp
theorem bt_1 (i : Nat) : bt 1 i = decide (i = 0) := by
  unfold bt
  show (1#64).getLsbD i = decide (i = 0)
  simp [BitVec.getLsbD_one]
theorem and1 (v : Int) : (lg v &&& lg 1).toInt = if bt v 0 = true then 1 else 0 := by
  have h : (lg v &&& lg 1).toBitVec = (lg v).toBitVec &&& 1#64 := rfl
  rw [BitVec.and_one_eq_setWidth_ofBool_getLsbD] at h
  have h2 : (lg v &&& lg 1).toInt = (lg v &&& lg 1).toBitVec.toInt := rfl
  rw [h2, h]
  show (BitVec.setWidth 64 (BitVec.ofBool (bt v 0))).toInt = _
  cases bt v 0 <;> rfl
theorem sh6 {a : Int} (ha : i32 a) : (iv a >>> (iv 6 &&& 31)).toInt = a / 64 := by
  rw [pk_shr (iv a) _ 6 (by decide), iv_toInt ha, Int.shiftRight_eq_div_pow]
  rfl
theorem an63 {a : Int} (ha : i32 a) : (iv a &&& iv 63).toInt = a % 64 := by
  have h1 := pk_and (iv a) (m := iv 63) 6 (by decide)
  rw [h1, nI_toInt (by have := Nat.mod_lt (iv a).toBitVec.toNat (show 0 < 2 ^ 6 by decide); omega)]
  have h : (iv a).toInt = (iv a).toBitVec.toInt := rfl
  rw [BitVec.toInt_eq_toNat_cond, iv_toInt ha] at h
  split at h <;> omega
/-- place p of a row of bits -/
def BitS (L : Int → Int) (p : Int) : Bool := bt (L (p / 64)) (p % 64).toNat
def mvF (B : Int → Int) (ws rs k : Int) : Int := if 0 < rs ∧ ws < k then (lg (lg (B (k - ws)) <<< ((iv rs).toInt64 &&& 63)).toInt ||| lg ((lg (B (k - ws - 1))).toUInt64 >>> ((iv (64 - rs)).toInt64.toUInt64 &&& Int64.toUInt64 63)).toInt64.toInt).toInt else (lg (B (k - ws)) <<< ((iv rs).toInt64 &&& 63)).toInt
def nwF (A B : Int → Int) (ws rs last b : Int) : Int → Int := fun k => if b < k ∧ k ≤ last then (lg (A k) ||| lg (mvF B ws rs k)).toInt else A k
theorem nwF_bit {A B : Int → Int} {sh last p : Int} (hs : 0 ≤ sh) (hp : 0 ≤ p) : BitS (nwF A B (sh / 64) (sh % 64) last (sh / 64 - 1)) p = (BitS A p || (decide (sh ≤ p ∧ p / 64 ≤ last) && BitS B (p - sh))) := by
  unfold BitS nwF
  by_cases h1 : sh / 64 - 1 < p / 64 ∧ p / 64 ≤ last
  · rw [if_pos h1, bt_or]
    congr 1
    unfold mvF
    have hb : (p % 64).toNat < 64 := by omega
    by_cases h2 : sh % 64 ≤ p % 64
    · have e1 : (p - sh) / 64 = p / 64 - sh / 64 := by omega
      have e2 : ((p - sh) % 64).toNat = (p % 64).toNat - (sh % 64).toNat := by omega
      rw [e1, e2]
      split
      · rw [bt_or, bt_shl _ (by omega), bt_ushr _ (by omega), bt_ge _ (b := (64 - sh % 64).toNat + (p % 64).toNat) (by omega)]
        simp only [hb, show ¬ (p % 64).toNat < (sh % 64).toNat by omega, show sh ≤ p ∧ p / 64 ≤ last by omega, decide_true, decide_false, Bool.not_false, Bool.true_and, Bool.or_false, and_self]
      · rw [bt_shl _ (by omega)]
        simp only [hb, show ¬ (p % 64).toNat < (sh % 64).toNat by omega, show sh ≤ p ∧ p / 64 ≤ last by omega, decide_true, decide_false, Bool.not_false, Bool.true_and, and_self]
    · by_cases h3 : sh / 64 < p / 64
      · have e1 : (p - sh) / 64 = p / 64 - sh / 64 - 1 := by omega
        have e2 : ((p - sh) % 64).toNat = (64 - sh % 64).toNat + (p % 64).toNat := by omega
        rw [if_pos (by omega), e1, e2, bt_or, bt_shl _ (by omega), bt_ushr _ (by omega)]
        simp only [show (p % 64).toNat < (sh % 64).toNat by omega, show sh ≤ p ∧ p / 64 ≤ last by omega, decide_true, Bool.not_true, Bool.and_false, Bool.false_and, Bool.false_or, Bool.true_and, and_self]
      · rw [if_neg (by omega), bt_shl _ (by omega)]
        simp only [show (p % 64).toNat < (sh % 64).toNat by omega, show ¬ (sh ≤ p ∧ p / 64 ≤ last) by omega, decide_true, decide_false, Bool.not_true, Bool.and_false, Bool.false_and]
  · rw [if_neg h1]
    simp only [show ¬ (sh ≤ p ∧ p / 64 ≤ last) by omega, decide_false, Bool.false_and, Bool.or_false]
def FrS (x : Nat) (μ μ2 : Mem) : Prop := Fr (fun a => x + 65 ≤ a ∧ a ≤ x + 67) (fun a j => a = x + 65 ∧ (j = 0 ∨ j = 1)) μ μ2
theorem FrS.tps {w : WC} {x : Nat} {μ μ2 : Mem} (h : FrS x μ μ2) (hT : TPS w μ x) : TPS w μ2 x := hT.fr h fun a j _ z => Or.inr (Or.inr (by omega))
theorem FrS.ca {w : WC} {x c N : Nat} {F : Int → List Tm} {μ μ2 : Mem} (h : FrS x μ μ2) (hC : CA w μ x F c N) : CA w μ2 x F c N := hC.fr h (fun a z => by omega) (fun a j z => ⟨Or.inr (Or.inr (by omega)), by omega⟩)
theorem FrS.Fi {w : WC} {x q : Nat} {ts : List Tm} {μ μ2 : Mem} (h : FrS x μ μ2) (hq : q + 7 ≤ x + 65) (hF : FoS w μ q) (hI : FI μ q ts) : FoS w μ2 q ∧ FI μ2 q ts := ⟨h.Fo (fun j z => by omega) hF, h.FI hF (fun a z1 z2 z => by omega) hI⟩
/-- the rows of bits, the one and the spare -/
def SuR (μ : Mem) (x bA bB : Nat) : Prop := mR μ (x + 65) 0 = some bA ∧ mR μ (x + 65) 1 = some bB ∧ ((bA = x + 66 ∧ bB = x + 67) ∨ (bA = x + 67 ∧ bB = x + 66))
theorem SuR.a {w : WC} {μ : Mem} {x bA bB : Nat} (h : SuR μ x bA bB) (hT : TPS w μ x) : IsA w μ bA 15 469 ∧ IsA w μ bB 15 469 := by
  rcases h.2.2 with ⟨rfl, rfl⟩ | ⟨rfl, rfl⟩
  · exact ⟨hT.a66, hT.a67⟩
  · exact ⟨hT.a67, hT.a66⟩
/-- the set P -/
def SuI (μ : Mem) (x bA : Nat) (P : Int → Prop) (lo len : Int) : Prop := mI μ (x + 65) 2 = lo ∧ mI μ (x + 65) 3 = len ∧ (1 ≤ len ∧ len ≤ 30001) ∧ (-15000 ≤ lo ∧ lo ≤ 15000) ∧ (∀ p, 0 ≤ p → p < 30016 → (BitS (mL μ bA) p = true ↔ P (p + lo))) ∧ ∀ n, P n → lo ≤ n ∧ n < lo + len
section SU
variable {w : WC} {d x : Nat} {R : Option AV → Mem → Prop}
theorem l_or {μ : Mem} (hT : TPS w μ x) {a b : Nat} (ha : IsA w μ a 15 469) (hb : IsA w μ b 15 469) {sh ws rs last : Int} (h1 : 0 ≤ ws ∧ ws ≤ 500) (h2 : 0 ≤ rs ∧ rs < 64) (h3 : 0 ≤ last ∧ last ≤ 468) : ∀ (n : Nat) (k : Int) (g : Int → Int) (x8 : Option AV), (k - ws + 1).toNat = n → k ≤ last → -1 ≤ k → (n = 0 → k = ws - 1 ∨ (last < ws ∧ k = last)) → (∀ j, g j = nwF (mL μ a) (mL μ b) ws rs last k j) →
    G w (d + 1) mX8_orShifted (fun v μ2 => v = none ∧ μ2 = wL μ a (nwF (mL μ a) (mL μ b) ws rs last (ws - 1))) 0 0 33 [some (vP (some (x + 65))), some (vP (some a)), some (vP (some b)), some (vI sh), some (vI ws), some (vI rs), some (vI last), some (vI k), x8, none] [] (wL μ a g) := by
  intro n
  induction n with
  | zero =>
    intro k g x8 hn hk hk1 hz hg
    refine g_iload (i := 7) rfl dX8_orShifted_33 ?_
    refine g_iload (i := 4) rfl dX8_orShifted_35 ?_
    refine g_icmp_lt (tgt := 99) dX8_orShifted_37 (by decide) (by omega) (by omega) (fun h37 => ?_) (fun h37 => ?_)
    · refine G.retV dX8_orShifted_99 rfl ⟨rfl, wL_congr fun j => ?_⟩
      rw [hg]
      rcases hz rfl with z | z
      · rw [z]
      · unfold nwF
        rw [if_neg (by omega), if_neg (by omega)]
    · omega
  | succ n ih =>
    intro k g x8 hn hk hk1 hz hg
    have ha' : IsA w (wL μ a g) a 15 469 := ha
    have hb' : IsA w (wL μ a g) b 15 469 := hb
    have hgk : g k = mL μ a k := by
      rw [hg]
      unfold nwF
      rw [if_neg (by omega)]
    have hrd : ∀ j, j ≤ k → mL (wL μ a g) b j = mL μ b j := fun j hj => by
      rw [mL_wL]
      split
      · next e =>
        subst e
        rw [hg]
        unfold nwF
        rw [if_neg (by omega)]
      · rfl
    have hrA : mL (wL μ a g) a k = mL μ a k := by rw [mL_wL, if_pos rfl, hgk]
    refine g_iload (i := 7) rfl dX8_orShifted_33 ?_
    refine g_iload (i := 4) rfl dX8_orShifted_35 ?_
    refine g_icmp_lt (tgt := 99) dX8_orShifted_37 (by decide) (by omega) (by omega) (fun h37 => ?_) (fun h37 => ?_)
    · omega
    · refine g_aload_n (j := 2) rfl dX8_orShifted_40 ?_
      refine g_iload (i := 7) rfl dX8_orShifted_41 ?_
      refine g_iload (i := 4) rfl dX8_orShifted_43 ?_
      refine g_isub dX8_orShifted_45 ?_
      refine g_lald dX8_orShifted_46 (by assumption) (by omega) (by omega) ?_
      rw [hrd _ (by omega)]
      refine g_iload (i := 5) rfl dX8_orShifted_47 ?_
      refine g_lshl dX8_orShifted_49 ?_
      refine g_lstore (i := 8) dX8_orShifted_50 (by decide) rfl lj8 ?_
      refine g_iload (i := 5) rfl dX8_orShifted_52 ?_
      refine g_if_le (tgt := 84) dX8_orShifted_54 (by decide) (by omega) (fun h54 => ?_) (fun h54 => ?_)
      · refine g_aload_n (j := 1) rfl dX8_orShifted_84 ?_
        refine g_iload (i := 7) rfl dX8_orShifted_85 ?_
        refine g_dup2 rfl rfl dX8_orShifted_87 ?_
        refine g_lald dX8_orShifted_88 (by assumption) (by omega) (by omega) ?_
        rw [hrA]
        refine g_lload (i := 8) rfl dX8_orShifted_89 ?_
        refine g_lor dX8_orShifted_91 ?_
        refine g_last dX8_orShifted_92 (by assumption) (by omega) (by omega) ?_
        refine g_iinc (i := 7) dX8_orShifted_93 rfl (by decide) rfl ls7 ?_
        refine g_goto (tgt := 33) (by decide) dX8_orShifted_96 ?_
        rw [sL_wL]
        refine ih (k + -1) _ _ (by omega) (by omega) (by omega) (fun z => by omega) fun j => ?_
        show (if j = k then _ else g j) = _
        unfold nwF
        by_cases hj : j = k
        · rw [if_pos hj, if_pos (by omega), hj]
          unfold mvF
          first | rw [if_pos (by omega)] | rw [if_neg (by omega)]
        · rw [if_neg hj, hg]
          unfold nwF
          by_cases hy : k < j ∧ j ≤ last
          · rw [if_pos hy, if_pos (by omega)]
          · rw [if_neg hy, if_neg (by omega)]
      · refine g_iload (i := 7) rfl dX8_orShifted_57 ?_
        refine g_iload (i := 4) rfl dX8_orShifted_59 ?_
        refine g_icmp_le (tgt := 84) dX8_orShifted_61 (by decide) (by omega) (by omega) (fun h61 => ?_) (fun h61 => ?_)
        · refine g_aload_n (j := 1) rfl dX8_orShifted_84 ?_
          refine g_iload (i := 7) rfl dX8_orShifted_85 ?_
          refine g_dup2 rfl rfl dX8_orShifted_87 ?_
          refine g_lald dX8_orShifted_88 (by assumption) (by omega) (by omega) ?_
          rw [hrA]
          refine g_lload (i := 8) rfl dX8_orShifted_89 ?_
          refine g_lor dX8_orShifted_91 ?_
          refine g_last dX8_orShifted_92 (by assumption) (by omega) (by omega) ?_
          refine g_iinc (i := 7) dX8_orShifted_93 rfl (by decide) rfl ls7 ?_
          refine g_goto (tgt := 33) (by decide) dX8_orShifted_96 ?_
          rw [sL_wL]
          refine ih (k + -1) _ _ (by omega) (by omega) (by omega) (fun z => by omega) fun j => ?_
          show (if j = k then _ else g j) = _
          unfold nwF
          by_cases hj : j = k
          · rw [if_pos hj, if_pos (by omega), hj]
            unfold mvF
            first | rw [if_pos (by omega)] | rw [if_neg (by omega)]
          · rw [if_neg hj, hg]
            unfold nwF
            by_cases hy : k < j ∧ j ≤ last
            · rw [if_pos hy, if_pos (by omega)]
            · rw [if_neg hy, if_neg (by omega)]
        · refine g_lload (i := 8) rfl dX8_orShifted_64 ?_
          refine g_aload_n (j := 2) rfl dX8_orShifted_66 ?_
          refine g_iload (i := 7) rfl dX8_orShifted_67 ?_
          refine g_iload (i := 4) rfl dX8_orShifted_69 ?_
          refine g_isub dX8_orShifted_71 ?_
          refine g_iconst dX8_orShifted_72 ?_
          refine g_isub dX8_orShifted_73 ?_
          refine g_lald dX8_orShifted_74 (by assumption) (by omega) (by omega) ?_
          rw [hrd _ (by omega)]
          refine g_bipush dX8_orShifted_75 (by omega) ?_
          refine g_iload (i := 5) rfl dX8_orShifted_77 ?_
          refine g_isub dX8_orShifted_79 ?_
          refine g_lushr dX8_orShifted_80 ?_
          refine g_lor dX8_orShifted_81 ?_
          refine g_lstore (i := 8) dX8_orShifted_82 (by decide) rfl lj8 ?_
          refine g_aload_n (j := 1) rfl dX8_orShifted_84 ?_
          refine g_iload (i := 7) rfl dX8_orShifted_85 ?_
          refine g_dup2 rfl rfl dX8_orShifted_87 ?_
          refine g_lald dX8_orShifted_88 (by assumption) (by omega) (by omega) ?_
          rw [hrA]
          refine g_lload (i := 8) rfl dX8_orShifted_89 ?_
          refine g_lor dX8_orShifted_91 ?_
          refine g_last dX8_orShifted_92 (by assumption) (by omega) (by omega) ?_
          refine g_iinc (i := 7) dX8_orShifted_93 rfl (by decide) rfl ls7 ?_
          refine g_goto (tgt := 33) (by decide) dX8_orShifted_96 ?_
          rw [sL_wL]
          refine ih (k + -1) _ _ (by omega) (by omega) (by omega) (fun z => by omega) fun j => ?_
          show (if j = k then _ else g j) = _
          unfold nwF
          by_cases hj : j = k
          · rw [if_pos hj, if_pos (by omega), hj]
            unfold mvF
            first | rw [if_pos (by omega)] | rw [if_neg (by omega)]
          · rw [if_neg hj, hg]
            unfold nwF
            by_cases hy : k < j ∧ j ≤ last
            · rw [if_pos hy, if_pos (by omega)]
            · rw [if_neg hy, if_neg (by omega)]
theorem c_orShifted (w : WC) (d : Nat) (μ : Mem) {x : Nat} (hT : TPS w μ x) {a b : Nat} (ha : IsA w μ a 15 469) (hb : IsA w μ b 15 469) {sh len : Int} (hs : 0 ≤ sh ∧ sh ≤ 30016) (el : mI μ (x + 65) 3 = len) (hl : 1 ≤ len ∧ len ≤ 30016) : Con w (d + 1) mX8_orShifted 0 0 [vP (some (x + 65)), vP (some a), vP (some b), vI sh] μ (fun v μ2 => v = none ∧ ∃ g, μ2 = wL μ a g ∧ ∀ p, 0 ≤ p → BitS g p = (BitS (mL μ a) p || (decide (sh ≤ p ∧ p / 64 ≤ (len - 1) / 64) && BitS (mL μ b) (p - sh)))) := by
  have o65 := hT.o65
  refine Con.of (by decide) (Nat.le_of_ble_eq_true rfl) rfl ?_
  refine g_iload_n (j := 3) rfl dX8_orShifted_0 ?_
  refine g_bipush dX8_orShifted_1 (by omega) ?_
  refine g_ishr dX8_orShifted_3 ?_
  rw [sh6 (by omega)]
  refine g_istore (i := 4) dX8_orShifted_4 (by decide) rfl ls4 ?_
  refine g_iload_n (j := 3) rfl dX8_orShifted_6 ?_
  refine g_bipush dX8_orShifted_7 (by omega) ?_
  refine g_iand dX8_orShifted_9 ?_
  rw [an63 (by omega)]
  refine g_istore (i := 5) dX8_orShifted_10 (by decide) rfl ls5 ?_
  refine g_sipush dX8_orShifted_12 (by omega) ?_
  refine g_aload_n (j := 0) rfl dX8_orShifted_15 ?_
  refine g_getI dX8_orShifted_16 flX8_22 rfl (by assumption) (kz := 3) rfl ?_
  refine g_iconst dX8_orShifted_19 ?_
  refine g_isub dX8_orShifted_20 ?_
  refine g_bipush dX8_orShifted_21 (by omega) ?_
  refine g_ishr dX8_orShifted_23 ?_
  rw [el, sh6 (by omega)]
  refine g_callS dX8_orShifted_24 mlX8_31 msJ9_min_7cf53 (c_min w d μ (a := 468) (b := (len - 1) / 64) (by omega) (by omega)) sk2 rfl (by omega) (Nat.le_of_ble_eq_true rfl) (Nat.le_refl _) (Nat.le_refl _) (fun v μ2 hR => ?_)
  obtain ⟨rfl, hm⟩ := hR
  replace hm := hm.symm
  subst hm
  rw [show min 468 ((len - 1) / 64) = (len - 1) / 64 by omega]
  refine g_istore (i := 6) dX8_orShifted_27 (by decide) rfl ls6 ?_
  refine g_iload (i := 6) rfl dX8_orShifted_29 ?_
  refine g_istore (i := 7) dX8_orShifted_31 (by decide) rfl ls7 ?_
  have key := (l_or (d := d) (x := x) hT ha hb (sh := sh) (ws := sh / 64) (rs := sh % 64) (last := (len - 1) / 64) (by omega) (by omega) (by omega) _ ((len - 1) / 64) (mL μ a) none rfl (by omega) (by omega) (fun z => by omega) (fun j => by unfold nwF; rw [if_neg (by omega)]))
  rw [wL_eta] at key
  exact G.post (fun v μ2 hq => ⟨hq.1, _, hq.2, fun p hp => nwF_bit hs.1 hp⟩) key
theorem c_holds (w : WC) (d : Nat) (μ : Mem) {x bA bB : Nat} (hT : TPS w μ x) (hR : SuR μ x bA bB) {P : Int → Prop} {lo len s : Int} (hI : SuI μ x bA P lo len) (hs : -100000 ≤ s ∧ s ≤ 100000) : Con w d mX8_holds 0 0 [vP (some (x + 65)), vI s] μ (fun v μ2 => v = some (vI (bI (P s))) ∧ μ2 = μ) := by
  have o65 := hT.o65
  have aA := (hR.a hT).1
  obtain ⟨r0, -⟩ := hR
  obtain ⟨e2, e3, hl, hlo, hb, hP⟩ := hI
  refine Con.of (by decide) (Nat.le_of_ble_eq_true rfl) rfl ?_
  refine g_iload_n (j := 1) rfl dX8_holds_0 ?_
  refine g_aload_n (j := 0) rfl dX8_holds_1 ?_
  refine g_getI dX8_holds_2 flX8_18 rfl (by assumption) (kz := 2) rfl ?_
  refine g_isub dX8_holds_5 ?_
  rw [e2]
  refine g_istore_n (j := 2) dX8_holds_6 (by decide) rfl ls2 ?_
  refine g_iload_n (j := 2) rfl dX8_holds_7 ?_
  refine g_if_lt (tgt := 44) dX8_holds_8 (by decide) (by omega) (fun h8 => ?_) (fun h8 => ?_)
  · refine g_iconst dX8_holds_44 ?_
    first
    | exact G.retB dX8_holds_45 rfl (eq_bI (Or.inl ⟨rfl, bI_is1.mp (by omega)⟩)) ⟨rfl, rfl⟩
    | exact G.retB dX8_holds_45 rfl (eq_bI (Or.inr ⟨rfl, bI_is0.mp (by omega)⟩)) ⟨rfl, rfl⟩
    | exact G.retB dX8_holds_45 rfl (eq_bI (Or.inr ⟨rfl, fun z => by have := hP s z; omega⟩)) ⟨rfl, rfl⟩
  · refine g_iload_n (j := 2) rfl dX8_holds_11 ?_
    refine g_aload_n (j := 0) rfl dX8_holds_12 ?_
    refine g_getI dX8_holds_13 flX8_22 rfl (by assumption) (kz := 3) rfl ?_
    refine g_icmp_ge (tgt := 44) dX8_holds_16 (by decide) (by omega) (by omega) (fun h16 => ?_) (fun h16 => ?_)
    · refine g_iconst dX8_holds_44 ?_
      first
      | exact G.retB dX8_holds_45 rfl (eq_bI (Or.inl ⟨rfl, bI_is1.mp (by omega)⟩)) ⟨rfl, rfl⟩
      | exact G.retB dX8_holds_45 rfl (eq_bI (Or.inr ⟨rfl, bI_is0.mp (by omega)⟩)) ⟨rfl, rfl⟩
      | exact G.retB dX8_holds_45 rfl (eq_bI (Or.inr ⟨rfl, fun z => by have := hP s z; omega⟩)) ⟨rfl, rfl⟩
    · refine g_aload_n (j := 0) rfl dX8_holds_19 ?_
      refine g_getR dX8_holds_20 flX8_11 rfl (by assumption) (kz := 0) rfl (by assumption) ?_
      refine g_iload_n (j := 2) rfl dX8_holds_23 ?_
      refine g_bipush dX8_holds_24 (by omega) ?_
      refine g_ishr dX8_holds_26 ?_
      rw [sh6 (by omega)]
      refine g_lald dX8_holds_27 (by assumption) (by omega) (by omega) ?_
      refine g_iload_n (j := 2) rfl dX8_holds_28 ?_
      refine g_bipush dX8_holds_29 (by omega) ?_
      refine g_iand dX8_holds_31 ?_
      rw [an63 (by omega)]
      refine g_lushr dX8_holds_32 ?_
      refine g_lconst1 dX8_holds_33 ?_
      refine g_land dX8_holds_34 ?_
      refine g_lconst1 dX8_holds_35 ?_
      have hb1 := hb (s - lo) (by omega) (by omega)
      have ha1 := and1 (((lg (mL μ bA ((s - lo) / 64))).toUInt64 >>> ((iv ((s - lo) % 64)).toInt64.toUInt64 &&& Int64.toUInt64 63)).toInt64.toInt)
      rw [bt_ushr _ (by omega), Nat.add_zero] at ha1
      unfold BitS at hb1
      rw [show s - lo + lo = s by omega] at hb1
      rw [ha1]
      have h01 : (if bt (mL μ bA ((s - lo) / 64)) ((s - lo) % 64).toNat = true then (1 : Int) else 0) = bI (P s) := by
        by_cases hp : P s
        · rw [if_pos (hb1.mpr hp), bI_1 hp]
        · rw [if_neg (fun z => hp (hb1.mp z)), bI_0 hp]
      rw [h01]
      have h02 := bI_01 (P s)
      refine g_lif_ne (tgt := 44) dX8_holds_36 dX8_holds_37 (by decide) (by omega) (by omega) (fun h36 => ?_) (fun h36 => ?_)
      · refine g_iconst dX8_holds_44 ?_
        first
        | exact G.retB dX8_holds_45 rfl (eq_bI (Or.inl ⟨rfl, bI_is1.mp (by omega)⟩)) ⟨rfl, rfl⟩
        | exact G.retB dX8_holds_45 rfl (eq_bI (Or.inr ⟨rfl, bI_is0.mp (by omega)⟩)) ⟨rfl, rfl⟩
        | exact G.retB dX8_holds_45 rfl (eq_bI (Or.inr ⟨rfl, fun z => by have := hP s z; omega⟩)) ⟨rfl, rfl⟩
      · refine g_iconst dX8_holds_40 ?_
        refine g_goto (tgt := 45) (by decide) dX8_holds_41 ?_
        first
        | exact G.retB dX8_holds_45 rfl (eq_bI (Or.inl ⟨rfl, bI_is1.mp (by omega)⟩)) ⟨rfl, rfl⟩
        | exact G.retB dX8_holds_45 rfl (eq_bI (Or.inr ⟨rfl, bI_is0.mp (by omega)⟩)) ⟨rfl, rfl⟩
        | exact G.retB dX8_holds_45 rfl (eq_bI (Or.inr ⟨rfl, fun z => by have := hP s z; omega⟩)) ⟨rfl, rfl⟩
theorem l_zero8 {μ : Mem} (hT : TPS w μ x) {bA bB : Nat} (hR : SuR μ x bA bB) (kk : ∀ (g : Int → Int) (x1 : Option AV), (∀ k, 0 ≤ k → k < 469 → g k = 0) → G w d mX8_begin R 0 0 22 [some (vP (some (x + 65))), x1] [] (wL μ bA g)) : ∀ (n : Nat) (k : Int) (g : Int → Int), k + n = 469 → 0 ≤ k → (∀ j, 0 ≤ j → j < k → g j = 0) →
    G w d mX8_begin R 0 0 2 [some (vP (some (x + 65))), some (vI k)] [] (wL μ bA g) := by
  have o65 := hT.o65
  have aA := (hR.a hT).1
  obtain ⟨r0, -⟩ := hR
  intro n
  induction n with
  | zero =>
    intro k g hk h0 hg
    refine g_iload_n (j := 1) rfl dX8_begin_2 ?_
    refine g_sipush dX8_begin_3 (by omega) ?_
    refine g_icmp_ge (tgt := 22) dX8_begin_6 (by decide) (by omega) (by omega) (fun h6 => ?_) (fun h6 => ?_)
    · exact kk g _ fun j z1 z2 => hg j z1 (by omega)
    · omega
  | succ n ih =>
    intro k g hk h0 hg
    refine g_iload_n (j := 1) rfl dX8_begin_2 ?_
    refine g_sipush dX8_begin_3 (by omega) ?_
    refine g_icmp_ge (tgt := 22) dX8_begin_6 (by decide) (by omega) (by omega) (fun h6 => ?_) (fun h6 => ?_)
    · omega
    · refine g_aload_n (j := 0) rfl dX8_begin_9 ?_
      refine g_getR dX8_begin_10 flX8_11 rfl (by simp only [IsO_sI, IsO_sL, IsO_sR, IsO_wI, IsO_wL, IsA_sI, IsA_sL, IsA_sR, IsA_wI, IsA_wL, mR_sI, mR_sL, mR_wI, mR_wL]; assumption) (kz := 0) rfl (by simp only [IsO_sI, IsO_sL, IsO_sR, IsO_wI, IsO_wL, IsA_sI, IsA_sL, IsA_sR, IsA_wI, IsA_wL, mR_sI, mR_sL, mR_wI, mR_wL]; assumption) ?_
      refine g_iload_n (j := 1) rfl dX8_begin_13 ?_
      refine g_lconst0 dX8_begin_14 ?_
      refine g_last dX8_begin_15 (by simp only [IsO_sI, IsO_sL, IsO_sR, IsO_wI, IsO_wL, IsA_sI, IsA_sL, IsA_sR, IsA_wI, IsA_wL, mR_sI, mR_sL, mR_wI, mR_wL]; assumption) (by omega) (by omega) ?_
      refine g_iinc (i := 1) dX8_begin_16 rfl (by decide) rfl ls1 ?_
      refine g_goto (tgt := 2) (by decide) dX8_begin_19 ?_
      rw [sL_wL]
      refine ih (k + 1) _ (by omega) (by omega) fun j z1 z2 => ?_
      show (if j = k then 0 else g j) = 0
      split
      · rfl
      · exact hg j z1 (by omega)
theorem c_begin8 (w : WC) (d : Nat) (μ : Mem) {x bA bB : Nat} (hT : TPS w μ x) (hR : SuR μ x bA bB) : Con w d mX8_begin 0 0 [vP (some (x + 65))] μ (fun v μ2 => v = none ∧ FrS x μ μ2 ∧ SuR μ2 x bA bB ∧ SuI μ2 x bA (fun n => n = 0) 0 1) := by
  have o65 := hT.o65
  have aA := (hR.a hT).1
  have hR0 := hR
  obtain ⟨r0, -, hab⟩ := hR
  have hA : x + 65 ≤ bA ∧ bA ≤ x + 67 ∧ ¬ bA = x + 65 := by omega
  refine Con.of (by decide) (Nat.le_of_ble_eq_true rfl) rfl ?_
  refine g_iconst dX8_begin_0 ?_
  refine g_istore_n (j := 1) dX8_begin_1 (by decide) rfl ls1 ?_
  have key := l_zero8 (d := d) (R := fun v μ2 => v = none ∧ FrS x μ μ2 ∧ SuR μ2 x bA bB ∧ SuI μ2 x bA (fun n => n = 0) 0 1) hT hR0 (fun g x1 hg => ?_) 469 0 (mL μ bA) (by omega) (by omega) (fun j z1 z2 => by omega)
  · rw [wL_eta] at key
    exact key
  refine g_aload_n (j := 0) rfl dX8_begin_22 ?_
  refine g_getR dX8_begin_23 flX8_11 rfl (by simp only [IsO_sI, IsO_sL, IsO_sR, IsO_wI, IsO_wL, IsA_sI, IsA_sL, IsA_sR, IsA_wI, IsA_wL, mR_sI, mR_sL, mR_wI, mR_wL]; assumption) (kz := 0) rfl (by simp only [IsO_sI, IsO_sL, IsO_sR, IsO_wI, IsO_wL, IsA_sI, IsA_sL, IsA_sR, IsA_wI, IsA_wL, mR_sI, mR_sL, mR_wI, mR_wL]; assumption) ?_
  refine g_iconst dX8_begin_26 ?_
  refine g_lconst1 dX8_begin_27 ?_
  refine g_last dX8_begin_28 (by simp only [IsO_sI, IsO_sL, IsO_sR, IsO_wI, IsO_wL, IsA_sI, IsA_sL, IsA_sR, IsA_wI, IsA_wL, mR_sI, mR_sL, mR_wI, mR_wL]; assumption) (by omega) (by omega) ?_
  refine g_aload_n (j := 0) rfl dX8_begin_29 ?_
  refine g_iconst dX8_begin_30 ?_
  refine g_putI dX8_begin_31 fpX8_18 rfl rfl rfl (by simp only [IsO_sI, IsO_sL, IsO_sR, IsO_wI, IsO_wL, IsA_sI, IsA_sL, IsA_sR, IsA_wI, IsA_wL, mR_sI, mR_sL, mR_wI, mR_wL]; assumption) (kz := 2) rfl ?_
  refine g_aload_n (j := 0) rfl dX8_begin_34 ?_
  refine g_iconst dX8_begin_35 ?_
  refine g_putI dX8_begin_36 fpX8_22 rfl rfl rfl (by simp only [IsO_sI, IsO_sL, IsO_sR, IsO_wI, IsO_wL, IsA_sI, IsA_sL, IsA_sR, IsA_wI, IsA_wL, mR_sI, mR_sL, mR_wI, mR_wL]; assumption) (kz := 3) rfl ?_
  refine G.retV dX8_begin_39 rfl ⟨rfl, ?_, ?_, ?_⟩
  · exact ((Fr.wL (by omega)).tr (Fr.sL (by omega))).tr ((Fr.sI (by omega)).tr (Fr.sI (by omega)))
  · exact hR0
  · refine ⟨by rw [mI_sI, if_neg (by omega), mI_sI, if_pos ⟨rfl, rfl⟩], by rw [mI_sI, if_pos ⟨rfl, rfl⟩], by omega, by omega, fun p z1 z2 => ?_, fun n z => by omega⟩
    unfold BitS
    rw [mL_sI, mL_sI, mL_sL, mL_wL, if_pos rfl]
    by_cases hp : p / 64 = 0
    · rw [if_pos ⟨rfl, hp⟩, bt_1]
      simp only [decide_eq_true_eq]
      omega
    · rw [if_neg (by omega), hg _ (by omega) (by omega), bt_0]
      constructor
      · intro z
        cases z
      · intro z
        omega
end SU
