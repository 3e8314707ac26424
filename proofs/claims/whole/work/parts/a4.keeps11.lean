/-! THE LAW: what the class keeps -/
abbrev LSt : Type := (Int → List Tm) × (Int × (Int → Int)) × (Int → Int) × (Int × (Int → Int)) × IdT
noncomputable def cS (P : Prop) (a b : LSt) : LSt := @ite LSt P (Classical.propDecidable P) a b
theorem cS_t {P : Prop} {a b : LSt} (h : P) : cS P a b = a := by
  unfold cS
  exact if_pos h
theorem cS_f {P : Prop} {a b : LSt} (h : ¬ P) : cS P a b = b := by
  unfold cS
  exact if_neg h
def pgL (L : List Int) : Int × (Int → Int) := ((L.length : Int), fun j => L.getD j.toNat 0)
noncomputable def sFeed (S : LSt) (a b c d e : Int) : LSt := cS (S.2.1.1 ≤ 780) (S.1, (S.2.1.1 + 20, fdB a b c d e S.2.1.1 S.2.1.2), S.2.2) S
noncomputable def sEnd (S : LSt) (k : Int) : LSt := cS (0 ≤ k ∧ k ≤ S.2.1.1) (S.1, (k, S.2.1.2), S.2.2) S
noncomputable def sForm (S : LSt) (s : Int) : LSt := (foM S.2.1.1 S.2.1.2 S.1 s, (0, S.2.1.2), foU S.2.1.1 S.2.1.2 s, S.2.2.2)
noncomputable def sProve (S : LSt) (s : Int) : LSt := (S.1, (0, S.2.1.2), pvU S.2.1.1 S.2.1.2 S.1 s, S.2.2.2)
noncomputable def sIdent (S : LSt) : LSt := (S.1, (0, S.2.1.2), idU S.2.1.1 S.2.1.2, S.2.2.2.1, idN S.2.1.1 S.2.1.2 S.2.2.2.2)
def JnP (F : Int → List Tm) (s s2 s3 : Int) : Prop := (0 ≤ s ∧ s ≤ 3) ∧ (0 ≤ s2 ∧ s2 ≤ 3) ∧ (0 ≤ s3 ∧ s3 ≤ 3) ∧ 1 ≤ (F s).length + (F s2).length ∧ (F s).length + (F s2).length ≤ 5
noncomputable def sJoin (S : LSt) (s s2 s3 : Int) : LSt := cS (JnP S.1 s s2 s3) (fmF S.1 s3 (S.1 s ++ S.1 s2), S.2) S
noncomputable def sDrop (S : LSt) (s i : Int) : LSt := cS (HasI S.1 s i) (fmF S.1 s ((S.1 s).eraseIdx i.toNat), S.2) S
noncomputable def sLead (S : LSt) (s i : Int) : LSt := cS (HasI S.1 s i) (fmF S.1 s (tAt (S.1 s) i :: (S.1 s).eraseIdx i.toNat), S.2) S
noncomputable def sSpell (S : LSt) (s : Int) : LSt := cS (HasT S.1 s) (S.1, S.2.1, S.2.2.1, pgL (spL (S.1 s) 0), S.2.2.2.2) S
def WrP (F : Int → List Tm) (s fr to : Int) : Prop := HasT F s ∧ ((-3000 ≤ fr ∧ fr ≤ 3000) ∧ (-3000 ≤ to ∧ to ≤ 3000) ∧ fr ≤ to) ∧ to - fr < 60
noncomputable def sWrite (S : LSt) (s fr to : Int) : LSt := cS (WrP S.1 s fr to) (S.1, S.2.1, S.2.2.1, pgL (wrL (S.1 s) (to - fr + 1).toNat fr), S.2.2.2.2) S
def Fa (x : Nat) : Mem → Mem → Prop := Fr (fun a => a < x + 99 ∨ x + 120 ≤ a) (fun a _ => a < x + 99 ∨ x + 120 ≤ a)
def Fb (m : Nat) : Mem → Mem → Prop := Fr (fun a => m ≤ a ∧ a ≤ m + 20) (fun _ _ => False)
section KP
variable {w : WC} {P : Nat → Prop} {K : Nat → Int → Prop} {μ μ2 : Mem} {x : Nat}
theorem kTp {n : Int} {B : Int → Int} (hT : TPS w μ x) (hf : Fr P K μ μ2) (h1 : ¬ P (x + 1)) (h2 : ¬ P (x + 2)) (h : TpC μ x n B) : TpC μ2 x n B :=
  h.fr hT (hf.I (by have := hT.2.2.2.2; omega) h1 5) fun j => hf.I (by have := hT.2.2.2.2; omega) h2 j
theorem kFa {f : Int → Int} (hT : TPS w μ x) (hf : Fr P K μ μ2) (h1 : ¬ P (x + 1)) (h : FaC μ x f) : FaC μ2 x f := by
  have e := hf.I (x := x + 1) (by have := hT.2.2.2.2; omega) h1
  exact ⟨(e 12).trans h.1, (e 13).trans h.2.1, (e 14).trans h.2.2.1, (e 15).trans h.2.2.2⟩
theorem kPg {n : Int} {B : Int → Int} (hT : TPS w μ x) (hf : Fr P K μ μ2) (h1 : ¬ P (x + 68)) (h2 : ¬ P (x + 69)) (h : PgC μ x n B) : PgC μ2 x n B := by
  have e := hf.I (x := x + 68) (by have := hT.2.2.2.2; omega) h1
  have e2 := hf.I (x := x + 69) (by have := hT.2.2.2.2; omega) h2
  exact ⟨(e 1).trans h.1, h.2.1, fun j z1 z2 => (e2 j).trans (h.2.2 j z1 z2)⟩
theorem kSu (hT : TPS w μ x) (hf : Fr P K μ μ2) (h1 : ¬ K (x + 65) 0 ∧ ¬ K (x + 65) 1) (h : SuOk μ x) : SuOk μ2 x := by
  obtain ⟨a, b, q1, q2, q3⟩ := h
  have hz : x + 65 < mZ μ := by have := hT.2.2.2.2; omega
  exact ⟨a, b, (hf.R hz h1.1).trans q1, (hf.R hz h1.2).trans q2, q3⟩
theorem kId {I : IdT} (hT : TPS w μ x) (hf : Fr P K μ μ2) (h1 : ∀ a, x + 71 ≤ a → a ≤ x + 98 → ¬ P a) (h2 : ¬ K x 12 ∧ ¬ K x 13) (h : IdC μ x I) : IdC μ2 x I := by
  obtain ⟨yl, ys, ⟨q1, q2, q3⟩, i1, i2, i3⟩ := h
  have hz := hT.2.2.2.2
  have hy : yl = x + 71 ∨ yl = x + 85 := q3.imp (fun z => z.1) (fun z => z.1)
  have e : ∀ a j, yl ≤ a → a ≤ yl + 13 → mI μ2 a j = mI μ a j := fun a j z1 z2 => hf.I (by omega) (h1 a (by omega) (by omega)) j
  refine ⟨yl, ys, ⟨(hf.R (by omega) h2.1).trans q1, (hf.R (by omega) h2.2).trans q2, q3⟩, i1.eq (fun j _ => e yl j (by omega) (by omega)) (fun a j z1 z2 => e a j (by omega) (by omega)), (e yl 15 (by omega) (by omega)).trans i2, fun b z1 z2 => ?_⟩
  have := i3 b z1 z2
  unfold BrS at this ⊢
  rw [e (yl + 13) b (by omega) (by omega), e (yl + 10) b (by omega) (by omega), e (yl + 12) b (by omega) (by omega)]
  simp only [fun j => e (yl + 11) j (by omega) (by omega)]
  exact this
end KP
def CS (w : WC) (μ : Mem) (x : Nat) (S : LSt) (N : Nat) : Prop := WI S.2.2.2.2 ∧ ∃ c, CA w μ x S.1 c N ∧ TpC μ x S.2.1.1 S.2.1.2 ∧ FaC μ x S.2.2.1 ∧ PgC μ x S.2.2.2.1.1 S.2.2.2.1.2 ∧ SuOk μ x ∧ IdC μ x S.2.2.2.2
def CP (w : WC) (x : Nat) (S : LSt) (N bs : Nat) (a : AV) (μ : Mem) (v : Option AV) (μ2 : Mem) : Prop := v = some a ∧ ∃ N2, CS w μ2 x S N2 ∧ Fa x μ μ2 ∧ bs + pot N2 ≤ 12002 + pot N
section CSS
variable {w : WC} {d : Nat} {μ μ2 : Mem} {x N : Nat} {S : LSt}
theorem CS.o (h : CS w μ x S N) : IsO w μ x 11 := by
  obtain ⟨-, c, hA, -⟩ := h
  exact hA.tps.o0
theorem CS.fb (h : CS w μ x S N) (hf : Fb (x + 99) μ μ2) : CS w μ2 x S N := by
  obtain ⟨hw, c, hA, hT, hF, hP, hU, hI⟩ := h
  exact ⟨hw, c, hA.fr hf (fun a z => by omega) (fun _ _ z => z.elim), kTp hA.tps hf (by omega) (by omega) hT, kFa hA.tps hf (by omega) hF, kPg hA.tps hf (by omega) (by omega) hP, kSu hA.tps hf ⟨fun z => z, fun z => z⟩ hU, kId hA.tps hf (by omega) ⟨fun z => z, fun z => z⟩ hI⟩
theorem CP.no {a : AV} {v : Option AV} (h : CS w μ x S N) (q : v = some a ∧ μ2 = μ) : CP w x S N 0 a μ v μ2 := by
  obtain ⟨q1, rfl⟩ := q
  exact ⟨q1, N, h, Fr.rf, by omega⟩
theorem Fr_Fa {P : Nat → Prop} {K : Nat → Int → Prop} (hf : Fr P K μ μ2) (hP : ∀ a, P a → a < x + 99 ∨ x + 120 ≤ a) (hK : ∀ a j, K a j → a < x + 99 ∨ x + 120 ≤ a) : Fa x μ μ2 := hf.mono (fun a _ z => hP a z) (fun a _ j z => hK a j z)
theorem CS.am {bs : Nat} {a : AV} {v : Option AV} (h : CS w μ x S N) (q : Am w μ x S.1 N bs a v μ2) : CP w x S N bs a μ v μ2 := by
  obtain ⟨hw, c, hA, hT, hF, hP, hU, hI⟩ := h
  obtain ⟨q1, c2, N2, q2, q3, q4⟩ := q
  refine ⟨q1, N2, ⟨hw, c2, q2, kTp hA.tps q3 (by unfold Cc; omega) (by unfold Cc; omega) hT, kFa hA.tps q3 (by unfold Cc; omega) hF, kPg hA.tps q3 (by unfold Cc; omega) (by unfold Cc; omega) hP, kSu hA.tps q3 (by unfold Kc; omega) hU, kId hA.tps q3 (fun a z1 z2 z => by unfold Cc at z; omega) (by unfold Kc; omega) hI⟩, Fr_Fa q3 (fun a z => by unfold Cc at z; omega) (fun a j z => by unfold Kc at z; omega), q4⟩

theorem k_X11_ways (h : CS w μ x S N) {s n : Int} (hs : i32 s) (hn : i32 n) : ∃ bs, bs ≤ 12002 + pot N ∧ Con w (d + 5) mX11_ways 2 bs [vP (some x), vI s, vI n] μ (CP w x (S) N bs (vJ (aWays S.1 s n)) μ) := by
  have h' := h
  obtain ⟨hw, c, hA, hT, hF, hP, hU, hI⟩ := h'
  obtain ⟨bs, hb, hc⟩ := c_X11_ways w d μ hA hs hn
  exact ⟨bs, hb, hc.post fun v μ2 q => h.am q⟩
theorem k_X11_unlike (h : CS w μ x S N) {s n : Int} (hs : i32 s) (hn : i32 n) : ∃ bs, bs ≤ 12002 + pot N ∧ Con w (d + 7) mX11_unlike 2 bs [vP (some x), vI s, vI n] μ (CP w x (S) N bs (vJ (aUnl S.1 s n)) μ) := by
  have h' := h
  obtain ⟨hw, c, hA, hT, hF, hP, hU, hI⟩ := h'
  obtain ⟨bs, hb, hc⟩ := c_X11_unlike w d μ hA hs hn
  exact ⟨bs, hb, hc.post fun v μ2 q => h.am q⟩
theorem k_X11_way (h : CS w μ x S N) {s n k i : Int} (hs : i32 s) (hn : i32 n) (hk : i64 k) (hi : i32 i) : ∃ bs, bs ≤ 12002 + pot N ∧ Con w (d + 5) mX11_way 3 bs [vP (some x), vI s, vI n, vJ k, vI i] μ (CP w x S N bs (vI (aWay S.1 s n k i)) μ) := by
  have h' := h
  obtain ⟨hw, c, hA, hT, hF, hP, hU, hI⟩ := h'
  obtain ⟨bs, hb, hc⟩ := c_X11_way w d μ hA hs hn hk hi
  exact ⟨bs, hb, hc.post fun v μ2 q => h.am q⟩
theorem k_X11_number (h : CS w μ x S N) {s n a0 a1 a2 a3 a4 : Int} (hs : i32 s) (hn : i32 n) (ha0 : i32 a0) (ha1 : i32 a1) (ha2 : i32 a2) (ha3 : i32 a3) (ha4 : i32 a4) : ∃ bs, bs ≤ 12002 + pot N ∧ Con w (d + 5) mX11_number 3 bs [vP (some x), vI s, vI n, vI a0, vI a1, vI a2, vI a3, vI a4] μ (CP w x (S) N bs (vJ (aNumber S.1 s n a0 a1 a2 a3 a4)) μ) := by
  have h' := h
  obtain ⟨hw, c, hA, hT, hF, hP, hU, hI⟩ := h'
  obtain ⟨bs, hb, hc⟩ := c_X11_number w d μ hA hs hn ha0 ha1 ha2 ha3 ha4
  exact ⟨bs, hb, hc.post fun v μ2 q => h.am q⟩
theorem k_X11_missed (h : CS w μ x S N) {s fr to i : Int} (hs : i32 s) (hfr : i32 fr) (hto : i32 to) (hi : i32 i) : ∃ bs, bs ≤ 12002 + pot N ∧ Con w (d + 5) mX11_missed 2 bs [vP (some x), vI s, vI fr, vI to, vI i] μ (CP w x (S) N bs (vI (aMissed S.1 s fr to i)) μ) := by
  have h' := h
  obtain ⟨hw, c, hA, hT, hF, hP, hU, hI⟩ := h'
  obtain ⟨bs, hb, hc⟩ := c_X11_missed w d μ hA hs hfr hto hi
  exact ⟨bs, hb, hc.post fun v μ2 q => h.am q⟩
theorem k_X11_explained (h : CS w μ x S N) {s fr to m : Int} (hs : i32 s) (hfr : i32 fr) (hto : i32 to) (hm : i32 m) : ∃ bs, bs ≤ 12002 + pot N ∧ Con w (d + 5) mX11_explained 2 bs [vP (some x), vI s, vI fr, vI to, vI m] μ (CP w x (S) N bs (vI (aExpl S.1 s fr to m)) μ) := by
  have h' := h
  obtain ⟨hw, c, hA, hT, hF, hP, hU, hI⟩ := h'
  obtain ⟨bs, hb, hc⟩ := c_X11_explained w d μ hA hs hfr hto hm
  exact ⟨bs, hb, hc.post fun v μ2 q => h.am q⟩
theorem k_X11_full (h : CS w μ x S N) {s : Int} (hs : i32 s) : ∃ bs, bs ≤ 12002 + pot N ∧ Con w (d + 5) mX11_full 2 bs [vP (some x), vI s] μ (CP w x (S) N bs (vI (aFull S.1 s)) μ) := by
  have h' := h
  obtain ⟨hw, c, hA, hT, hF, hP, hU, hI⟩ := h'
  obtain ⟨bs, hb, hc⟩ := c_X11_full w d μ hA hs
  exact ⟨bs, hb, hc.post fun v μ2 q => h.am q⟩
theorem k_X11_common (h : CS w μ x S N) {s s2 fr to i : Int} (hs : i32 s) (hs2 : i32 s2) (hfr : i32 fr) (hto : i32 to) (hi : i32 i) : ∃ bs, bs ≤ 12002 + pot N ∧ Con w (d + 5) mX11_common 4 bs [vP (some x), vI s, vI s2, vI fr, vI to, vI i] μ (CP w x (S) N bs (vI (aCommon S.1 s s2 fr to i)) μ) := by
  have h' := h
  obtain ⟨hw, c, hA, hT, hF, hP, hU, hI⟩ := h'
  obtain ⟨bs, hb, hc⟩ := c_X11_common w d μ hA hs hs2 hfr hto hi
  exact ⟨bs, hb, hc.post fun v μ2 q => h.am q⟩
theorem k_X11_gap (h : CS w μ x S N) {s fr to i : Int} (hs : i32 s) (hfr : i32 fr) (hto : i32 to) (hi : i32 i) : ∃ bs, bs ≤ 12002 + pot N ∧ Con w (d + 5) mX11_gap 2 bs [vP (some x), vI s, vI fr, vI to, vI i] μ (CP w x (S) N bs (vI (aGap S.1 s fr to i)) μ) := by
  have h' := h
  obtain ⟨hw, c, hA, hT, hF, hP, hU, hI⟩ := h'
  obtain ⟨bs, hb, hc⟩ := c_X11_gap w d μ hA hs hfr hto hi
  exact ⟨bs, hb, hc.post fun v μ2 q => h.am q⟩
theorem k_X11_rank (h : CS w μ x S N) {s fr to i : Int} (hs : i32 s) (hfr : i32 fr) (hto : i32 to) (hi : i32 i) : ∃ bs, bs ≤ 12002 + pot N ∧ Con w (d + 5) mX11_rank 2 bs [vP (some x), vI s, vI fr, vI to, vI i] μ (CP w x (S) N bs (vI (aRank S.1 s fr to i)) μ) := by
  have h' := h
  obtain ⟨hw, c, hA, hT, hF, hP, hU, hI⟩ := h'
  obtain ⟨bs, hb, hc⟩ := c_X11_rank w d μ hA hs hfr hto hi
  exact ⟨bs, hb, hc.post fun v μ2 q => h.am q⟩
theorem k_X11_met (h : CS w μ x S N) {s m r : Int} (hs : i32 s) (hm : i32 m) (hr : i32 r) : ∃ bs, bs ≤ 12002 + pot N ∧ Con w (d + 4) mX11_met 0 bs [vP (some x), vI s, vI m, vI r] μ (CP w x (S) N bs (vJ (aMet S.1 s m r)) μ) := by
  have h' := h
  obtain ⟨hw, c, hA, hT, hF, hP, hU, hI⟩ := h'
  exact ⟨0, Nat.zero_le _, (c_X11_met w d μ hA hs hm hr).post fun v μ2 q => h.am q⟩
theorem k_X11_meets (h : CS w μ x S N) {s m r i : Int} (hs : i32 s) (hm : i32 m) (hr : i32 r) (hi : i32 i) : ∃ bs, bs ≤ 12002 + pot N ∧ Con w (d + 4) mX11_meets 0 bs [vP (some x), vI s, vI m, vI r, vI i] μ (CP w x (S) N bs (vI (aMeets S.1 s m r i)) μ) := by
  have h' := h
  obtain ⟨hw, c, hA, hT, hF, hP, hU, hI⟩ := h'
  exact ⟨0, Nat.zero_le _, (c_X11_meets w d μ hA hs hm hr hi).post fun v μ2 q => h.am q⟩
theorem k_X11_never (h : CS w μ x S N) {s m i : Int} (hs : i32 s) (hm : i32 m) (hi : i32 i) : ∃ bs, bs ≤ 12002 + pot N ∧ Con w (d + 4) mX11_never 0 bs [vP (some x), vI s, vI m, vI i] μ (CP w x (S) N bs (vI (aNever S.1 s m i)) μ) := by
  have h' := h
  obtain ⟨hw, c, hA, hT, hF, hP, hU, hI⟩ := h'
  exact ⟨0, Nat.zero_le _, (c_X11_never w d μ hA hs hm hi).post fun v μ2 q => h.am q⟩
theorem k_X11_bars (h : CS w μ x S N) {s : Int} (hs : i32 s) : ∃ bs, bs ≤ 12002 + pot N ∧ Con w (d + 4) mX11_bars 0 bs [vP (some x), vI s] μ (CP w x (S) N bs (vI (aBars S.1 s)) μ) := by
  have h' := h
  obtain ⟨hw, c, hA, hT, hF, hP, hU, hI⟩ := h'
  exact ⟨0, Nat.zero_le _, (c_X11_bars w d μ hA hs).post fun v μ2 q => h.am q⟩
theorem k_X11_many (h : CS w μ x S N) {s n k ex : Int} (hs : i32 s) (hn : i32 n) (hk : i32 k) (hex : ex = 0 ∨ ex = 1) : ∃ bs, bs ≤ 12002 + pot N ∧ Con w (d + 7) mX11_many 2 bs [vP (some x), vI s, vI n, vI k, vI ex] μ (CP w x S N bs (vI (aMany S.1 s n k ex)) μ) := by
  have h' := h
  obtain ⟨hw, c, hA, hT, hF, hP, hU, hI⟩ := h'
  obtain ⟨bs, hb, hc⟩ := c_X11_many w d μ hA hs hn hk hex
  exact ⟨bs, hb, hc.post fun v μ2 q => h.am q⟩
theorem k_X11_fault (h : CS w μ x S N) {k : Int} (hk : i32 k) : ∃ bs, bs ≤ 12002 + pot N ∧ Con w (d + 0) mX11_fault 0 bs [vP (some x), vI k] μ (CP w x (S) N bs (vI (aFault S.2.2.1 k)) μ) := by
  have h' := h
  obtain ⟨hw, c, hA, hT, hF, hP, hU, hI⟩ := h'
  exact ⟨0, Nat.zero_le _, (c_X11_fault w (d + 0) μ hA.tps hF hk).post fun v μ2 q => CP.no h q⟩
theorem k_X11_term (h : CS w μ x S N) {s i k : Int} (hs : i32 s) (hi : i32 i) (hk : i32 k) : ∃ bs, bs ≤ 12002 + pot N ∧ Con w (d + 2) mX11_term 0 bs [vP (some x), vI s, vI i, vI k] μ (CP w x (S) N bs (vI (aTerm S.1 s i k)) μ) := by
  have h' := h
  obtain ⟨hw, c, hA, hT, hF, hP, hU, hI⟩ := h'
  exact ⟨0, Nat.zero_le _, (c_X11_term w d μ hA hs hi hk).post fun v μ2 q => CP.no h q⟩
theorem k_X11_greed (h : CS w μ x S N) {s n i : Int} (hs : i32 s) (hn : i32 n) (hi : i32 i) : ∃ bs, bs ≤ 12002 + pot N ∧ Con w (d + 3) mX11_greed 0 bs [vP (some x), vI s, vI n, vI i] μ (CP w x (S) N bs (vI (aGreed S.1 s n i)) μ) := by
  have h' := h
  obtain ⟨hw, c, hA, hT, hF, hP, hU, hI⟩ := h'
  exact ⟨0, Nat.zero_le _, (c_X11_greed w d μ hA hs hn hi).post fun v μ2 q => CP.no h q⟩
theorem k_X11_out (h : CS w μ x S N) {i : Int} (hi : i32 i) : ∃ bs, bs ≤ 12002 + pot N ∧ Con w (d + 0) mX11_out 0 bs [vP (some x), vI i] μ (CP w x (S) N bs (vI (aOut S.2.2.2.1.1 S.2.2.2.1.2 i)) μ) := by
  have h' := h
  obtain ⟨hw, c, hA, hT, hF, hP, hU, hI⟩ := h'
  exact ⟨0, Nat.zero_le _, (c_X11_out w (d + 0) μ hA.tps hP hi).post fun v μ2 q => CP.no h q⟩
theorem k_X11_look (h : CS w μ x S N) {k : Int} (hk : i32 k) : ∃ bs, bs ≤ 12002 + pot N ∧ Con w (d + 1) mX11_look 0 bs [vP (some x), vI k] μ (CP w x (S) N bs (vI (aLook S.1 S.2.1.1 S.2.2.2.2.1.2.1 S.2.2.2.2.1.1 k)) μ) := by
  have h' := h
  obtain ⟨hw, c, hA, hT, hF, hP, hU, hI⟩ := h'
  obtain ⟨yl, ys, ⟨q1, q2, q3⟩, ⟨⟨-, -, i1, i2⟩, -⟩, -⟩ := hI
  exact ⟨0, Nat.zero_le _, (c_X11_look w d μ hA hT q1 (hA.tps.ido (q3.imp (fun z => z.1) (fun z => z.1))).1 i1 i2 hk).post fun v μ2 q => CP.no h q⟩
theorem k_X11_feed (h : CS w μ x S N) {a b e f g : Int} (ha : i32 a) (hb : i32 b) (he : i32 e) (hf : i32 f) (hg : i32 g) : ∃ bs, bs ≤ 12002 + pot N ∧ Con w (d + 1) mX11_feed 0 bs [vP (some x), vI a, vI b, vI e, vI f, vI g] μ (CP w x (sFeed S a b e f g) N bs (vI (cI (S.2.1.1 ≤ 780) (S.2.1.1 + 20) (-1))) μ) := by
  have h' := h
  obtain ⟨hw, c, hA, hT, hF, hP, hU, hI⟩ := h'
  refine ⟨0, Nat.zero_le _, (c_X11_feed w d μ hA.tps hT ha hb he hf hg).post fun v μ2 q => ?_⟩
  rcases q with ⟨p, q1, q2, q3, q4, q5⟩ | ⟨p, q1, rfl⟩
  · rw [cI_t p]
    unfold sFeed
    rw [cS_t p]
    exact ⟨q1, N, ⟨hw, c, hA.fr q4 (fun a z => by omega) (fun _ _ z => z.elim), q3, ⟨(q5 12 (by omega)).trans hF.1, (q5 13 (by omega)).trans hF.2.1, (q5 14 (by omega)).trans hF.2.2.1, (q5 15 (by omega)).trans hF.2.2.2⟩, kPg hA.tps q4 (by omega) (by omega) hP, kSu hA.tps q4 ⟨fun z => z, fun z => z⟩ hU, kId hA.tps q4 (fun a z1 z2 z => by omega) ⟨fun z => z, fun z => z⟩ hI⟩, Fr_Fa q4 (fun a z => by omega) (fun _ _ z => z.elim), by omega⟩
  · have p : ¬ S.2.1.1 ≤ 780 := by omega
    rw [cI_f p]
    unfold sFeed
    rw [cS_f p]
    exact CP.no h ⟨q1, rfl⟩
theorem k_X11_end (h : CS w μ x S N) {k : Int} (hk : i32 k) : ∃ bs, bs ≤ 12002 + pot N ∧ Con w (d + 0) mX11_end 0 bs [vP (some x), vI k] μ (CP w x (sEnd S k) N bs (vI (bI (0 ≤ k ∧ k ≤ S.2.1.1))) μ) := by
  have h' := h
  obtain ⟨hw, c, hA, hT, hF, hP, hU, hI⟩ := h'
  refine ⟨0, Nat.zero_le _, (c_X11_end w (d + 0) μ hA.tps hT hk).post fun v μ2 q => ?_⟩
  unfold sEnd
  rcases q with ⟨q1, ⟨p1, p2, rfl⟩ | ⟨p, rfl⟩⟩
  · rw [cS_t ⟨p1, p2⟩]
    have q4 : Fr (fun a => a = x + 1) (fun _ _ => False) μ (sI μ (x + 1) 5 k) := Fr.sI rfl
    refine ⟨q1, N, ⟨hw, c, hA.fr q4 (fun a z => by omega) (fun _ _ z => z.elim), hT.cut ⟨p1, p2⟩, ?_, kPg hA.tps q4 (by omega) (by omega) hP, kSu hA.tps q4 ⟨fun z => z, fun z => z⟩ hU, kId hA.tps q4 (fun a z1 z2 z => by omega) ⟨fun z => z, fun z => z⟩ hI⟩, Fr_Fa q4 (fun a z => by omega) (fun _ _ z => z.elim), by omega⟩
    have e : ∀ j, ¬ j = 5 → mI (sI μ (x + 1) 5 k) (x + 1) j = mI μ (x + 1) j := fun j z => by rw [mI_sI, if_neg (fun y => z y.2)]
    exact ⟨(e 12 (by omega)).trans hF.1, (e 13 (by omega)).trans hF.2.1, (e 14 (by omega)).trans hF.2.2.1, (e 15 (by omega)).trans hF.2.2.2⟩
  · rw [cS_f p]
    exact CP.no h ⟨q1, rfl⟩
theorem k_X11_form (h : CS w μ x S N) {s : Int} (hs : i32 s) : ∃ bs, bs ≤ 12002 + pot N ∧ Con w (d + 9) mX11_form 0 bs [vP (some x), vI s] μ (CP w x (sForm S s) N bs (vI (foA S.2.1.1 S.2.1.2 s)) μ) := by
  have h' := h
  obtain ⟨hw, c, hA, hT, hF, hP, hU, hI⟩ := h'
  refine ⟨0, Nat.zero_le _, (c_X11_form w d μ hA hT hs).post fun v μ2 q => ?_⟩
  obtain ⟨q1, q2, q3, q5, q4⟩ := q
  exact ⟨q1, N, ⟨hw, c, q2, q3, q5, kPg hA.tps q4 (by omega) (by omega) hP, kSu hA.tps q4 ⟨fun z => z, fun z => z⟩ hU, kId hA.tps q4 (fun a z1 z2 z => by omega) ⟨fun z => z, fun z => z⟩ hI⟩, Fr_Fa q4 (fun a z => by omega) (fun _ _ z => z.elim), by omega⟩
theorem k_X11_prove (h : CS w μ x S N) {s : Int} (hs : i32 s) : ∃ bs, bs ≤ 12002 + pot N ∧ Con w (d + 9) mX11_prove 2 bs [vP (some x), vI s] μ (CP w x (sProve S s) N bs (vI (pvA S.2.1.1 S.2.1.2 S.1 s)) μ) := by
  have h' := h
  obtain ⟨hw, c, hA, hT, hF, hP, hU, hI⟩ := h'
  obtain ⟨bs, hb, hc⟩ := c_X11_prove w d μ hA hT hs
  refine ⟨bs, hb, hc.post fun v μ2 q => ?_⟩
  obtain ⟨q1, ⟨c2, N2, q2, q6⟩, q3, q5, q4⟩ := q
  exact ⟨q1, N2, ⟨hw, c2, q2, q3, q5, kPg hA.tps q4 (by unfold Cp Tc Sc; omega) (by unfold Cp Tc Sc; omega) hP, kSu hA.tps q4 (by unfold Kc; omega) hU, kId hA.tps q4 (fun a z1 z2 z => by unfold Cp Tc Sc at z; omega) (by unfold Kc; omega) hI⟩, Fr_Fa q4 (fun a z => by unfold Cp Tc Sc at z; omega) (fun a j z => by unfold Kc at z; omega), q6⟩
theorem k_X11_identity (h : CS w μ x S N) : ∃ bs, bs ≤ 12002 + pot N ∧ Con w (d + 39) mX11_identity 0 bs [vP (some x)] μ (CP w x (sIdent S) N bs (vI (idA S.2.1.1 S.2.1.2)) μ) := by
  have h' := h
  obtain ⟨hw, c, hA, hT, hF, hP, hU, hI⟩ := h'
  obtain ⟨yl, ys, hl, i1, i2, i3⟩ := id hI
  refine ⟨0, Nat.zero_le _, (c_X11_identity w d μ hA hT hl).post fun v μ2 q => ?_⟩
  obtain ⟨q1, q2, q3, q5, q6, q4⟩ := q
  obtain ⟨l1, l2, l3⟩ := id hl
  refine ⟨q1, N, ⟨WI_N hw, c, q2, q3, q5, kPg hA.tps q4 (by omega) (by omega) hP, kSu hA.tps q4 ⟨by omega, by omega⟩ hU, ?_⟩, Fr_Fa q4 (fun a z => by omega) (fun a j z => by omega), by omega⟩
  show IdC μ2 x (idN S.2.1.1 S.2.1.2 S.2.2.2.2)
  unfold idN
  rcases hr : idAll S.2.1.1 S.2.1.2 with e | s
  · rw [hr] at q6
    have hz := hA.tps.2.2.2.2
    have e : ∀ a j, yl ≤ a → a ≤ yl + 13 → mI μ2 a j = mI μ a j := fun a j z1 z2 => q4.I (by omega) (by omega) j
    refine ⟨yl, ys, q6, i1.eq (fun j _ => e yl j (by omega) (by omega)) (fun a j z1 z2 => e a j (by omega) (by omega)), (e yl 15 (by omega) (by omega)).trans i2, fun b z1 z2 => ?_⟩
    have := i3 b z1 z2
    unfold BrS at this ⊢
    rw [e (yl + 13) b (by omega) (by omega), e (yl + 10) b (by omega) (by omega), e (yl + 12) b (by omega) (by omega)]
    simp only [fun j => e (yl + 11) j (by omega) (by omega)]
    exact this
  · rw [hr] at q6
    obtain ⟨p1, p2, p3, p4⟩ := q6
    exact ⟨ys, yl, p1, p2, p3, fun b z1 z2 => Or.inl (p4 b z1 z2)⟩
theorem k_X11_nearest (h : CS w μ x S N) {s n : Int} (hs : i32 s) (hn : i32 n) : ∃ bs, bs ≤ 12002 + pot N ∧ Con w (d + 4) mX11_nearest 0 bs [vP (some x), vI s, vI n] μ (CP w x (S) N bs (vI (aNear S.1 s n)) μ) := by
  have h' := h
  obtain ⟨hw, c, hA, hT, hF, hP, hU, hI⟩ := h'
  refine ⟨0, Nat.zero_le _, (c_X11_nearest w d μ hA hU hs hn).post fun v μ2 q => ?_⟩
  obtain ⟨q1, q2, q4, q5⟩ := q
  exact ⟨q1, N, ⟨hw, c, q2, kTp hA.tps q4 (by omega) (by omega) hT, kFa hA.tps q4 (by omega) hF, kPg hA.tps q4 (by omega) (by omega) hP, q5, kId hA.tps q4 (fun a z1 z2 z => by omega) (by omega) hI⟩, Fr_Fa q4 (fun a z => by omega) (fun a j z => by omega), by omega⟩
theorem k_X11_enough (h : CS w μ x S N) {s n : Int} (hs : i32 s) (hn : i32 n) : ∃ bs, bs ≤ 12002 + pot N ∧ Con w (d + 4) mX11_enough 0 bs [vP (some x), vI s, vI n] μ (CP w x (S) N bs (vI (aEnough S.1 s n)) μ) := by
  have h' := h
  obtain ⟨hw, c, hA, hT, hF, hP, hU, hI⟩ := h'
  refine ⟨0, Nat.zero_le _, (c_X11_enough w d μ hA hU hs hn).post fun v μ2 q => ?_⟩
  obtain ⟨q1, q2, q4, q5⟩ := q
  exact ⟨q1, N, ⟨hw, c, q2, kTp hA.tps q4 (by omega) (by omega) hT, kFa hA.tps q4 (by omega) hF, kPg hA.tps q4 (by omega) (by omega) hP, q5, kId hA.tps q4 (fun a z1 z2 z => by omega) (by omega) hI⟩, Fr_Fa q4 (fun a z => by omega) (fun a j z => by omega), by omega⟩
theorem CS.ch {F2 : Int → List Tm} {c : Nat} {s : Int} (hs : 0 ≤ s ∧ s ≤ 3) (h : CS w μ x S N) (hA2 : CA w μ2 x F2 c N) (hc : ChI (Pj x s) μ μ2) : CS w μ2 x (F2, S.2) N ∧ Fa x μ μ2 := by
  obtain ⟨hw, c, hA, hT, hF, hP, hU, hI⟩ := h
  have q4 : Fr (Pj x s) (fun _ _ => False) μ μ2 := Fr.ofI hc
  have hb : ∀ a, Pj x s a → (x + 9 ≤ a ∧ a ≤ x + 59) := fun a z => by
    have := fA_bd x hs
    unfold Pj Pr at z
    omega
  exact ⟨⟨hw, _, hA2, kTp hA.tps q4 (fun z => by have := hb _ z; omega) (fun z => by have := hb _ z; omega) hT, kFa hA.tps q4 (fun z => by have := hb _ z; omega) hF, kPg hA.tps q4 (fun z => by have := hb _ z; omega) (fun z => by have := hb _ z; omega) hP, kSu hA.tps q4 ⟨fun z => z, fun z => z⟩ hU, kId hA.tps q4 (fun a z1 z2 z => by have := hb _ z; omega) ⟨fun z => z, fun z => z⟩ hI⟩, Fr_Fa q4 (fun a z => by have := hb _ z; omega) (fun _ _ z => z.elim)⟩
theorem k_X11_join (h : CS w μ x S N) {s s2 s3 : Int} (hs : i32 s) (hs2 : i32 s2) (hs3 : i32 s3) : ∃ bs, bs ≤ 12002 + pot N ∧ Con w (d + 6) mX11_join 0 bs [vP (some x), vI s, vI s2, vI s3] μ (CP w x (sJoin S s s2 s3) N bs (vI (bI (JnP S.1 s s2 s3))) μ) := by
  have h' := h
  obtain ⟨hw, c, hA, hT, hF, hP, hU, hI⟩ := h'
  refine ⟨0, Nat.zero_le _, (c_X11_join w d μ hA hs hs2 hs3).post fun v μ2 q => ?_⟩
  obtain ⟨P, hPq, q1, q2⟩ := q
  have hPe : P = JnP S.1 s s2 s3 := propext hPq
  subst hPe
  unfold sJoin
  rcases q2 with ⟨p, q2, q3⟩ | ⟨p, rfl⟩
  · rw [cS_t p]
    have := h.ch p.2.2.1 q2 q3
    exact ⟨q1, N, this.1, this.2, by omega⟩
  · rw [cS_f p]
    exact CP.no h ⟨q1, rfl⟩
theorem k_X11_drop (h : CS w μ x S N) {s i : Int} (hs : i32 s) (hi : i32 i) : ∃ bs, bs ≤ 12002 + pot N ∧ Con w (d + 6) mX11_drop 0 bs [vP (some x), vI s, vI i] μ (CP w x (sDrop S s i) N bs (vI (bI (HasI S.1 s i))) μ) := by
  have h' := h
  obtain ⟨hw, c, hA, hT, hF, hP, hU, hI⟩ := h'
  refine ⟨0, Nat.zero_le _, (c_X11_drop w d μ hA hs hi).post fun v μ2 q => ?_⟩
  obtain ⟨q1, q2⟩ := q
  unfold sDrop
  rcases q2 with ⟨p, q2, q3⟩ | ⟨p, rfl⟩
  · rw [cS_t p]
    have := h.ch p.1 q2 q3
    exact ⟨q1, N, this.1, this.2, by omega⟩
  · rw [cS_f p]
    exact CP.no h ⟨q1, rfl⟩
theorem k_X11_lead (h : CS w μ x S N) {s i : Int} (hs : i32 s) (hi : i32 i) : ∃ bs, bs ≤ 12002 + pot N ∧ Con w (d + 6) mX11_lead 0 bs [vP (some x), vI s, vI i] μ (CP w x (sLead S s i) N bs (vI (bI (HasI S.1 s i))) μ) := by
  have h' := h
  obtain ⟨hw, c, hA, hT, hF, hP, hU, hI⟩ := h'
  refine ⟨0, Nat.zero_le _, (c_X11_lead w d μ hA hs hi).post fun v μ2 q => ?_⟩
  obtain ⟨q1, q2⟩ := q
  unfold sLead
  rcases q2 with ⟨p, q2, q3⟩ | ⟨p, rfl⟩
  · rw [cS_t p]
    have := h.ch p.1 q2 q3
    exact ⟨q1, N, this.1, this.2, by omega⟩
  · rw [cS_f p]
    exact CP.no h ⟨q1, rfl⟩
theorem k_X11_tried (h : CS w μ x S N) {b t : Int} (hb : i32 b) (ht : i32 t) : ∃ bs, bs ≤ 12002 + pot N ∧ Con w (d + 6) mX11_tried 0 bs [vP (some x), vI b, vI t] μ (CP w x (S) N bs (vI (trA S.2.2.2.2 b t)) μ) := by
  have h' := h
  obtain ⟨hw, c, hA, hT, hF, hP, hU, hI⟩ := h'
  refine ⟨0, Nat.zero_le _, (c_X11_tried w d μ hA hI hw hb ht).post fun v μ2 q => ?_⟩
  obtain ⟨q1, q2, q5, q4⟩ := q
  exact ⟨q1, N, ⟨hw, c, q2, kTp hA.tps q4 (by omega) (by omega) hT, kFa hA.tps q4 (by omega) hF, kPg hA.tps q4 (by omega) (by omega) hP, kSu hA.tps q4 ⟨fun z => z, fun z => z⟩ hU, q5⟩, Fr_Fa q4 (fun a z => by omega) (fun _ _ z => z.elim), by omega⟩
theorem k_X11_side (h : CS w μ x S N) {s a b e f g k : Int} (hs : i32 s) (ha : i32 a) (hb : i32 b) (he : i32 e) (hf : i32 f) (hg : i32 g) (hk : i32 k) : ∃ bs, bs ≤ 12002 + pot N ∧ Con w (d + 6) mX11_side 0 bs [vP (some x), vI s, vI a, vI b, vI e, vI f, vI g, vI k] μ (CP w x (S) N bs (vJ (sdA S.2.2.2.2 s a b e f g k)) μ) := by
  have h' := h
  obtain ⟨hw, c, hA, hT, hF, hP, hU, hI⟩ := h'
  refine ⟨0, Nat.zero_le _, (c_X11_side w d μ hA hI hw hs ha hb he hf hg hk).post fun v μ2 q => ?_⟩
  obtain ⟨q1, q2, q5, q4⟩ := q
  exact ⟨q1, N, ⟨hw, c, q2, kTp hA.tps q4 (by omega) (by omega) hT, kFa hA.tps q4 (by omega) hF, kPg hA.tps q4 (by omega) (by omega) hP, kSu hA.tps q4 ⟨fun z => z, fun z => z⟩ hU, q5⟩, Fr_Fa q4 (fun a z => by omega) (fun _ _ z => z.elim), by omega⟩
theorem PlC.pg {L : List Int} (h : PlC μ x L) : PgC μ x (pgL L).1 (pgL L).2 := by
  obtain ⟨e1, e2, e3⟩ := h
  refine ⟨e1, ⟨by show (0 : Int) ≤ (L.length : Int); omega, by show (L.length : Int) ≤ 2400; omega⟩, fun j z1 z2 => ?_⟩
  have z3 : j < (L.length : Int) := z2
  have z4 : j.toNat < L.length := by omega
  have := e3 j.toNat L[j.toNat] (List.getElem?_eq_getElem z4)
  rw [show ((j.toNat : Nat) : Int) = j by omega] at this
  rw [this]
  show L[j.toNat] = L.getD j.toNat 0
  rw [List.getD_eq_getElem?_getD, List.getElem?_eq_getElem z4]
  rfl
theorem k_X11_spell (h : CS w μ x S N) {s : Int} (hs : i32 s) : ∃ bs, bs ≤ 12002 + pot N ∧ Con w (d + 6) mX11_spell 0 bs [vP (some x), vI s] μ (CP w x (sSpell S s) N bs (vI (cI (HasT S.1 s) ((spL (S.1 s) 0).length : Int) (-1))) μ) := by
  have h' := h
  obtain ⟨hw, c, hA, hT, hF, hP, hU, hI⟩ := h'
  refine ⟨0, Nat.zero_le _, (c_X11_spell w d μ hA hs).post fun v μ2 q => ?_⟩
  unfold sSpell
  rcases q with ⟨p, q1, q2, q3, q4⟩ | ⟨p, q1, rfl⟩
  · rw [cS_t p, cI_t p]
    exact ⟨q1, N, ⟨hw, c, q2, kTp hA.tps q4 (by omega) (by omega) hT, kFa hA.tps q4 (by omega) hF, q3.pg, kSu hA.tps q4 ⟨fun z => z, fun z => z⟩ hU, kId hA.tps q4 (fun a z1 z2 z => by omega) ⟨fun z => z, fun z => z⟩ hI⟩, Fr_Fa q4 (fun a z => by omega) (fun _ _ z => z.elim), by omega⟩
  · rw [cS_f p, cI_f p]
    exact CP.no h ⟨q1, rfl⟩
theorem k_X11_write (h : CS w μ x S N) {s fr to : Int} (hs : i32 s) (hfr : i32 fr) (hto : i32 to) : ∃ bs, bs ≤ 12002 + pot N ∧ Con w (d + 6) mX11_write 200 bs [vP (some x), vI s, vI fr, vI to] μ (CP w x (sWrite S s fr to) N bs (vI (cI (WrP S.1 s fr to) ((wrL (S.1 s) (to - fr + 1).toNat fr).length : Int) (-1))) μ) := by
  have h' := h
  obtain ⟨hw, c, hA, hT, hF, hP, hU, hI⟩ := h'
  obtain ⟨bs, hb, hc⟩ := c_X11_write w d μ hA hs hfr hto
  refine ⟨bs, hb, hc.post fun v μ2 q => ?_⟩
  obtain ⟨⟨c2, N2, q2, q6⟩, q4, q7⟩ := q
  unfold sWrite
  rcases q7 with ⟨p, q1, q3⟩ | ⟨p, q1, rfl⟩
  · have p2 : WrP S.1 s fr to := p
    rw [cS_t p2, cI_t p2]
    exact ⟨q1, N2, ⟨hw, c2, q2, kTp hA.tps q4 (by unfold Cw Cc; omega) (by unfold Cw Cc; omega) hT, kFa hA.tps q4 (by unfold Cw Cc; omega) hF, q3.pg, kSu hA.tps q4 (by unfold Kc; omega) hU, kId hA.tps q4 (fun a z1 z2 z => by unfold Cw Cc at z; omega) (by unfold Kc; omega) hI⟩, Fr_Fa q4 (fun a z => by unfold Cw Cc at z; omega) (fun a j z => by unfold Kc at z; omega), q6⟩
  · have p2 : ¬ WrP S.1 s fr to := p
    rw [cS_f p2, cI_f p2]
    exact ⟨q1, N2, ⟨hw, c2, q2, hT, hF, hP, hU, hI⟩, Fr.rf, q6⟩
end CSS
