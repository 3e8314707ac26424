/-! THE LAW: what the model keeps -/
def Mst (w : WC) (μ : Mem) (m : Nat) (S : LSt) : Prop := MA w μ m S.1 ∧ TpM μ m S.2.1.1 S.2.1.2 ∧ FaM μ m S.2.2.1 ∧ PgM μ m S.2.2.2.1.1 S.2.2.2.1.2 ∧ IdM μ m S.2.2.2.2
def Mpt (w : WC) (m : Nat) (S : LSt) (a : AV) (μ : Mem) (v : Option AV) (μ2 : Mem) : Prop := v = some a ∧ Mst w μ2 m S ∧ Fb m μ μ2
section MSS
variable {w : WC} {d : Nat} {μ μ2 : Mem} {m : Nat} {S : LSt} {P : Nat → Prop} {J : Int → Prop}
theorem MA.fa {F : Int → List Tm} (hA : MA w μ m F) (hI : ∀ a j, m ≤ a → a ≤ m + 20 → mI μ2 a j = mI μ a j) (hL : ∀ a j, m ≤ a → a ≤ m + 20 → mL μ2 a j = mL μ a j) (hM2 : MoS w μ2 m) : MA w μ2 m F := by
  obtain ⟨hM, hF, l, u⟩ := hA
  have e4 : mL μ2 (m + 4) = mL μ (m + 4) := funext fun j => hL _ j (by omega) (by omega)
  have e5 : mL μ2 (m + 5) = mL μ (m + 5) := funext fun j => hL _ j (by omega) (by omega)
  have e0 : mI μ2 m = mI μ m := funext fun j => hI _ j (by omega) (by omega)
  have e1 : mI μ2 (m + 1) = mI μ (m + 1) := funext fun j => hI _ j (by omega) (by omega)
  have e2 : mI μ2 (m + 2) = mI μ (m + 2) := funext fun j => hI _ j (by omega) (by omega)
  unfold MA MFI
  rw [e0, e1, e2, e4, e5]
  exact ⟨hM2, hF, l, u⟩
theorem Mst.fa {x : Nat} (h : Mst w μ (x + 99) S) (hf : Fa x μ μ2) : Mst w μ2 (x + 99) S := by
  obtain ⟨hA, hT, hF, hP, hI⟩ := h
  have hM := hA.1
  have hz : x + 99 + 20 < mZ μ := hM.a48.2.1
  have eI : ∀ a j, x + 99 ≤ a → a ≤ x + 99 + 20 → mI μ2 a j = mI μ a j := fun a j z1 z2 => hf.I (by omega) (by omega) j
  have eL : ∀ a j, x + 99 ≤ a → a ≤ x + 99 + 20 → mL μ2 a j = mL μ a j := fun a j z1 z2 => hf.L (by omega) (by omega) j
  have e : ∀ j, mR μ2 (x + 99) j = mR μ (x + 99) j := fun j => hf.R (by omega) (by omega)
  have hM2 : MoS w μ2 (x + 99) := by
    obtain ⟨o, r, a1, a2, a3, a4, a5, a6, a7, a8, a9, a10, a11, a12, a13, a14, a15, a16, a17, a18, a19, a20⟩ := hM
    exact ⟨hf.O o, by simp only [e]; exact r, hf.A a1, hf.A a2, hf.A a3, hf.A a4, hf.A a5, hf.A a6, hf.A a7, hf.A a8, hf.A a9, hf.A a10, hf.A a11, hf.A a12, hf.A a13, hf.A a14, hf.A a15, hf.A a16, hf.A a17, hf.A a18, hf.A a19, hf.A a20⟩
  have e0 : ∀ j, mI μ2 (x + 99) j = mI μ (x + 99) j := fun j => eI _ j (by omega) (by omega)
  refine ⟨hA.fa eI eL hM2, ⟨(e0 _).trans hT.1, hT.2.1, fun j z1 z2 => (eI _ j (by omega) (by omega)).trans (hT.2.2 j z1 z2)⟩, ⟨(e0 _).trans hF.1, (e0 _).trans hF.2.1, (e0 _).trans hF.2.2.1, (e0 _).trans hF.2.2.2⟩, ⟨(e0 _).trans hP.1, hP.2.1, fun j z1 z2 => (eI _ j (by omega) (by omega)).trans (hP.2.2 j z1 z2)⟩, ?_⟩
  obtain ⟨⟨a, b, c⟩, ⟨f, g⟩, k⟩ := hI
  exact ⟨⟨(e0 _).trans a, (e0 _).trans b, (e0 _).trans c⟩, ⟨(eI _ _ (by omega) (by omega)).trans f, (eI _ _ (by omega) (by omega)).trans g⟩, fun j q hq => ⟨(eI _ _ (by omega) (by omega)).trans (k j q hq).1, (eI _ _ (by omega) (by omega)).trans (k j q hq).2⟩⟩
theorem kFm {f : Int → Int} (hf : FrZ m P J μ μ2) (hJ : ¬ J 4 ∧ ¬ J 5 ∧ ¬ J 6 ∧ ¬ J 7) (h : FaM μ m f) : FaM μ2 m f := ⟨(hf.2 4 hJ.1).trans h.1, (hf.2 5 hJ.2.1).trans h.2.1, (hf.2 6 hJ.2.2.1).trans h.2.2.1, (hf.2 7 hJ.2.2.2).trans h.2.2.2⟩
theorem kPm {n : Int} {B : Int → Int} (hM : MoS w μ m) (hf : FrZ m P J μ μ2) (hJ : ¬ J 49) (hP : ¬ P (m + 20)) (h : PgM μ m n B) : PgM μ2 m n B := ⟨(hf.2 49 hJ).trans h.1, h.2.1, fun j z1 z2 => (hf.1.I hM.a48.2.1 (fun z => z.elim (by omega) hP) j).trans (h.2.2 j z1 z2)⟩
theorem kIm {I : IdT} (hM : MoS w μ m) (hf : FrZ m P J μ μ2) (hJ : ¬ J 37 ∧ ¬ J 39 ∧ ¬ J 41) (hP : ¬ P (m + 12) ∧ ¬ P (m + 13) ∧ ¬ P (m + 14)) (h : IdM μ m I) : IdM μ2 m I := by
  obtain ⟨⟨a, b, c⟩, ⟨e, f⟩, g⟩ := h
  have e14 : ∀ j, mI μ2 (m + 14) j = mI μ (m + 14) j := hf.1.I hM.a35.2.1 (fun z => z.elim (by omega) hP.2.2)
  refine ⟨⟨(hf.2 41 hJ.2.2).trans a, (hf.2 37 hJ.1).trans b, (hf.2 39 hJ.2.1).trans c⟩, ⟨(e14 _).trans e, (e14 _).trans f⟩, fun j q hq => ?_⟩
  rw [hf.1.I hM.a34.2.1 (fun z => z.elim (by omega) hP.2.1), hf.1.I hM.a33.2.1 (fun z => z.elim (by omega) hP.1)]
  exact g j q hq
theorem Z_Fb (hf : FrZ m P J μ μ2) (hP : ∀ a, P a → m ≤ a ∧ a ≤ m + 20) : Fb m μ μ2 := hf.1.mono (fun a _ z => z.elim (fun q => by omega) (hP a)) (fun _ _ _ z => z)
theorem Mpt.no {a : AV} {v : Option AV} (h : Mst w μ m S) (q : v = some a ∧ μ2 = μ) : Mpt w m S a μ v μ2 := by
  obtain ⟨q1, rfl⟩ := q
  exact ⟨q1, h, Fr.rf⟩
/-- forms and pages alone may have changed -/
theorem Mst.z {F2 : Int → List Tm} (h : Mst w μ m S) (hA2 : MA w μ2 m F2) (hf : FrZ m P J μ μ2) (hJ : ¬ J 3 ∧ (¬ J 4 ∧ ¬ J 5 ∧ ¬ J 6 ∧ ¬ J 7) ∧ ¬ J 49 ∧ ¬ J 37 ∧ ¬ J 39 ∧ ¬ J 41) (hP : ¬ P (m + 3) ∧ ¬ P (m + 20) ∧ ¬ P (m + 12) ∧ ¬ P (m + 13) ∧ ¬ P (m + 14)) (hB : ∀ a, P a → m ≤ a ∧ a ≤ m + 20) : Mst w μ2 m (F2, S.2) ∧ Fb m μ μ2 := by
  obtain ⟨hA, hT, hF, hPg, hI⟩ := h
  exact ⟨⟨hA2, hT.fr hf hA.1 hJ.1 hP.1, kFm hf hJ.2.1 hF, kPm hA.1 hf hJ.2.2.1 hP.2.1 hPg, kIm hA.1 hf hJ.2.2.2 hP.2.2 hI⟩, Z_Fb hf hB⟩
theorem Mst.bm {a : AV} {v : Option AV} (h : Mst w μ m S) (q : Bm w μ m S.1 a v μ2) : Mpt w m S a μ v μ2 := by
  have := h.z q.2.1 q.2.2.Z (by unfold Jm; omega) (by unfold Cm; omega) (fun a z => by unfold Cm at z; omega)
  exact ⟨q.1, this.1, this.2⟩

theorem k_X12_ways (h : Mst w μ m S) {s n : Int} (hs : i32 s) (hn : i32 n) : Con w (d + 5) mX12_ways 0 0 [vP (some m), vI s, vI n] μ (Mpt w m (S) (vJ (aWays S.1 s n)) μ) := by
  have h' := h
  obtain ⟨hA, hT, hF, hP, hI⟩ := h'
  exact (c_X12_ways w d μ hA hs hn).post fun v μ2 q => h.bm q
theorem k_X12_way (h : Mst w μ m S) {s n k i : Int} (hs : i32 s) (hn : i32 n) (hk : i64 k) (hi : i32 i) : Con w (d + 6) mX12_way 0 0 [vP (some m), vI s, vI n, vJ k, vI i] μ (Mpt w m S (vI (aWay S.1 s n k i)) μ) := by
  obtain ⟨hA, hT, hF, hP, hI⟩ := id h
  exact (c_X12_way w d μ hA hs hn hk hi).post fun v μ2 q => h.bm q
theorem k_X12_number (h : Mst w μ m S) {s n a0 a1 a2 a3 a4 : Int} (hs : i32 s) (hn : i32 n) (ha0 : i32 a0) (ha1 : i32 a1) (ha2 : i32 a2) (ha3 : i32 a3) (ha4 : i32 a4) : Con w (d + 5) mX12_number 0 0 [vP (some m), vI s, vI n, vI a0, vI a1, vI a2, vI a3, vI a4] μ (Mpt w m (S) (vJ (aNumber S.1 s n a0 a1 a2 a3 a4)) μ) := by
  have h' := h
  obtain ⟨hA, hT, hF, hP, hI⟩ := h'
  exact (c_X12_number w d μ hA hs hn ha0 ha1 ha2 ha3 ha4).post fun v μ2 q => h.bm q
theorem k_X12_missed (h : Mst w μ m S) {s fr to i : Int} (hs : i32 s) (hfr : i32 fr) (hto : i32 to) (hi : i32 i) : Con w (d + 5) mX12_missed 0 0 [vP (some m), vI s, vI fr, vI to, vI i] μ (Mpt w m (S) (vI (aMissed S.1 s fr to i)) μ) := by
  have h' := h
  obtain ⟨hA, hT, hF, hP, hI⟩ := h'
  exact (c_X12_missed w d μ hA hs hfr hto hi).post fun v μ2 q => h.bm q
theorem k_X12_explained (h : Mst w μ m S) {s fr to r : Int} (hs : i32 s) (hfr : i32 fr) (hto : i32 to) (hr : i32 r) : Con w (d + 5) mX12_explained 0 0 [vP (some m), vI s, vI fr, vI to, vI r] μ (Mpt w m (S) (vI (aExpl S.1 s fr to r)) μ) := by
  have h' := h
  obtain ⟨hA, hT, hF, hP, hI⟩ := h'
  exact (c_X12_explained w d μ hA hs hfr hto hr).post fun v μ2 q => h.bm q
theorem k_X12_full (h : Mst w μ m S) {s : Int} (hs : i32 s) : Con w (d + 5) mX12_full 0 0 [vP (some m), vI s] μ (Mpt w m (S) (vI (aFull S.1 s)) μ) := by
  have h' := h
  obtain ⟨hA, hT, hF, hP, hI⟩ := h'
  exact (c_X12_full w d μ hA hs).post fun v μ2 q => h.bm q
theorem k_X12_common (h : Mst w μ m S) {s s2 fr to i : Int} (hs : i32 s) (hs2 : i32 s2) (hfr : i32 fr) (hto : i32 to) (hi : i32 i) : Con w (d + 5) mX12_common 0 0 [vP (some m), vI s, vI s2, vI fr, vI to, vI i] μ (Mpt w m (S) (vI (aCommon S.1 s s2 fr to i)) μ) := by
  have h' := h
  obtain ⟨hA, hT, hF, hP, hI⟩ := h'
  exact (c_X12_common w d μ hA hs hs2 hfr hto hi).post fun v μ2 q => h.bm q
theorem k_X12_gap (h : Mst w μ m S) {s fr to i : Int} (hs : i32 s) (hfr : i32 fr) (hto : i32 to) (hi : i32 i) : Con w (d + 5) mX12_gap 0 0 [vP (some m), vI s, vI fr, vI to, vI i] μ (Mpt w m (S) (vI (aGap S.1 s fr to i)) μ) := by
  have h' := h
  obtain ⟨hA, hT, hF, hP, hI⟩ := h'
  exact (c_X12_gap w d μ hA hs hfr hto hi).post fun v μ2 q => h.bm q
theorem k_X12_rank (h : Mst w μ m S) {s fr to i : Int} (hs : i32 s) (hfr : i32 fr) (hto : i32 to) (hi : i32 i) : Con w (d + 5) mX12_rank 0 0 [vP (some m), vI s, vI fr, vI to, vI i] μ (Mpt w m (S) (vI (aRank S.1 s fr to i)) μ) := by
  have h' := h
  obtain ⟨hA, hT, hF, hP, hI⟩ := h'
  exact (c_X12_rank w d μ hA hs hfr hto hi).post fun v μ2 q => h.bm q
theorem k_X12_met (h : Mst w μ m S) {s q r : Int} (hs : i32 s) (hq : i32 q) (hr : i32 r) : Con w (d + 4) mX12_met 0 0 [vP (some m), vI s, vI q, vI r] μ (Mpt w m (S) (vJ (aMet S.1 s q r)) μ) := by
  have h' := h
  obtain ⟨hA, hT, hF, hP, hI⟩ := h'
  exact (c_X12_met w d μ hA hs hq hr).post fun v μ2 q => h.bm q
theorem k_X12_meets (h : Mst w μ m S) {s q r i : Int} (hs : i32 s) (hq : i32 q) (hr : i32 r) (hi : i32 i) : Con w (d + 4) mX12_meets 0 0 [vP (some m), vI s, vI q, vI r, vI i] μ (Mpt w m (S) (vI (aMeets S.1 s q r i)) μ) := by
  have h' := h
  obtain ⟨hA, hT, hF, hP, hI⟩ := h'
  exact (c_X12_meets w d μ hA hs hq hr hi).post fun v μ2 q => h.bm q
theorem k_X12_bars (h : Mst w μ m S) {s : Int} (hs : i32 s) : Con w (d + 5) mX12_bars 0 0 [vP (some m), vI s] μ (Mpt w m (S) (vI (aBars S.1 s)) μ) := by
  have h' := h
  obtain ⟨hA, hT, hF, hP, hI⟩ := h'
  exact (c_X12_bars w d μ hA hs).post fun v μ2 q => h.bm q
theorem k_X12_nearest (h : Mst w μ m S) {s n : Int} (hs : i32 s) (hn : i32 n) : Con w (d + 5) mX12_nearest 0 0 [vP (some m), vI s, vI n] μ (Mpt w m (S) (vI (aNear S.1 s n)) μ) := by
  have h' := h
  obtain ⟨hA, hT, hF, hP, hI⟩ := h'
  exact (c_X12_nearest w d μ hA hs hn).post fun v μ2 q => h.bm q
theorem k_X12_enough (h : Mst w μ m S) {s n : Int} (hs : i32 s) (hn : i32 n) : Con w (d + 4) mX12_enough 0 0 [vP (some m), vI s, vI n] μ (Mpt w m (S) (vI (aEnough S.1 s n)) μ) := by
  have h' := h
  obtain ⟨hA, hT, hF, hP, hI⟩ := h'
  exact (c_X12_enough w d μ hA hs hn).post fun v μ2 q => h.bm q
theorem k_X12_never (h : Mst w μ m S) {s q i : Int} (hs : i32 s) (hq : i32 q) (hi : i32 i) : Con w (d + 4) mX12_never 0 0 [vP (some m), vI s, vI q, vI i] μ (Mpt w m (S) (vI (aNever S.1 s q i)) μ) := by
  have h' := h
  obtain ⟨hA, hT, hF, hP, hI⟩ := h'
  refine (c_X12_never w d μ hA hs hq hi).post fun v μ2 q => ?_
  have := h.z (q.2.MA hA) (FrM.Z q.2) (by refine ⟨?_, ⟨?_, ?_, ?_, ?_⟩, ?_, ?_, ?_, ?_⟩ <;> exact fun z => z) (by omega) (fun a z => by omega)
  exact ⟨q.1, this.1, this.2⟩
theorem k_X12_unlike (h : Mst w μ m S) {s n : Int} (hs : i32 s) (hn : i32 n) : Con w (d + 11) mX12_unlike 0 0 [vP (some m), vI s, vI n] μ (Mpt w m (S) (vJ (aUnl S.1 s n)) μ) := by
  have h' := h
  obtain ⟨hA, hT, hF, hP, hI⟩ := h'
  refine (c_X12_unlike w d μ hA hs hn).post fun v μ2 q => ?_
  have := h.z q.2.1 q.2.2 (by unfold Ju; omega) (by unfold P49; omega) (fun a z => by unfold P49 at z; omega)
  exact ⟨q.1, this.1, this.2⟩
theorem k_X12_many (h : Mst w μ m S) {s n k ex : Int} (hs : i32 s) (hn : i32 n) (hk : i32 k) (hex : ex = 0 ∨ ex = 1) : Con w (d + 11) mX12_many 0 0 [vP (some m), vI s, vI n, vI k, vI ex] μ (Mpt w m (S) (vI (aMany S.1 s n k ex)) μ) := by
  have h' := h
  obtain ⟨hA, hT, hF, hP, hI⟩ := h'
  refine (c_X12_many w d μ hA hs hn hk hex).post fun v μ2 q => ?_
  have := h.z q.2.1 q.2.2 (by unfold Ju; omega) (by unfold P49; omega) (fun a z => by unfold P49 at z; omega)
  exact ⟨q.1, this.1, this.2⟩
theorem k_X12_fault (h : Mst w μ m S) {k : Int} (hk : i32 k) : Con w (d + 0) mX12_fault 0 0 [vP (some m), vI k] μ (Mpt w m (S) (vI (aFault S.2.2.1 k)) μ) := by
  have h' := h
  obtain ⟨hA, hT, hF, hP, hI⟩ := h'
  exact (c_X12_fault w (d + 0) μ hA.1 hF hk).post fun v μ2 q => Mpt.no h q
theorem k_X12_term (h : Mst w μ m S) {s i k : Int} (hs : i32 s) (hi : i32 i) (hk : i32 k) : Con w (d + 3) mX12_term 0 0 [vP (some m), vI s, vI i, vI k] μ (Mpt w m (S) (vI (aTerm S.1 s i k)) μ) := by
  have h' := h
  obtain ⟨hA, hT, hF, hP, hI⟩ := h'
  exact (c_X12_term w d μ hA hs hi hk).post fun v μ2 q => Mpt.no h q
theorem k_X12_greed (h : Mst w μ m S) {s n i : Int} (hs : i32 s) (hn : i32 n) (hi : i32 i) : Con w (d + 3) mX12_greed 0 0 [vP (some m), vI s, vI n, vI i] μ (Mpt w m (S) (vI (aGreed S.1 s n i)) μ) := by
  have h' := h
  obtain ⟨hA, hT, hF, hP, hI⟩ := h'
  exact (c_X12_greed w d μ hA hs hn hi).post fun v μ2 q => Mpt.no h q
theorem k_X12_out (h : Mst w μ m S) {i : Int} (hi : i32 i) : Con w (d + 1) mX12_out 0 0 [vP (some m), vI i] μ (Mpt w m (S) (vI (aOut S.2.2.2.1.1 S.2.2.2.1.2 i)) μ) := by
  have h' := h
  obtain ⟨hA, hT, hF, hP, hI⟩ := h'
  exact (c_X12_out w d μ hA.1 hP hi).post fun v μ2 q => Mpt.no h q
theorem k_X12_look (h : Mst w μ m S) {k : Int} (hk : i32 k) : Con w (d + 1) mX12_look 0 0 [vP (some m), vI k] μ (Mpt w m (S) (vI (aLook S.1 S.2.1.1 S.2.2.2.2.1.2.1 S.2.2.2.2.1.1 k)) μ) := by
  have h' := h
  obtain ⟨hA, hT, hF, hP, hI⟩ := h'
  exact (c_X12_look w d μ hA hT hI.1.2.2 hI.1.2.1 hk).post fun v μ2 q => Mpt.no h q
theorem k_X12_feed (h : Mst w μ m S) {a b e f g : Int} (ha : i32 a) (hb : i32 b) (he : i32 e) (hf : i32 f) (hg : i32 g) : Con w (d + 1) mX12_feed 0 0 [vP (some m), vI a, vI b, vI e, vI f, vI g] μ (Mpt w m (sFeed S a b e f g) (vI (cI (S.2.1.1 ≤ 780) (S.2.1.1 + 20) (-1))) μ) := by
  have h' := h
  obtain ⟨hA, hT, hF, hP, hI⟩ := h'
  refine (c_X12_feed w d μ hA.1 hT ha hb he hf hg).post fun v μ2 q => ?_
  unfold sFeed
  rcases q with ⟨p, q1, q3, q4⟩ | ⟨p, q1, rfl⟩
  · rw [cI_t p, cS_t p]
    exact ⟨q1, ⟨q4.MA hA (by omega) (by omega), q3, kFm q4.Z (by omega) hF, kPm hA.1 q4.Z (by omega) (by omega) hP, kIm hA.1 q4.Z (by omega) (by omega) hI⟩, Z_Fb q4.Z (fun a z => by omega)⟩
  · have p : ¬ S.2.1.1 ≤ 780 := by omega
    rw [cI_f p, cS_f p]
    exact Mpt.no h ⟨q1, rfl⟩
theorem k_X12_end (h : Mst w μ m S) {k : Int} (hk : i32 k) : Con w (d + 1) mX12_end 0 0 [vP (some m), vI k] μ (Mpt w m (sEnd S k) (vI (bI (0 ≤ k ∧ k ≤ S.2.1.1))) μ) := by
  have h' := h
  obtain ⟨hA, hT, hF, hP, hI⟩ := h'
  refine (c_X12_end w d μ hA.1 hT hk).post fun v μ2 q => ?_
  unfold sEnd
  rcases q with ⟨q1, ⟨p1, p2, rfl⟩ | ⟨p, rfl⟩⟩
  · rw [cS_t ⟨p1, p2⟩]
    have q4 : FrM m (fun _ => False) (fun j => j = 3) μ (sI μ m 3 k) := FrM.sI rfl
    exact ⟨q1, ⟨q4.MA hA ⟨fun z => z, fun z => z, fun z => z, fun z => z⟩ (by omega), hT.cut ⟨p1, p2⟩, kFm q4.Z (by omega) hF, kPm hA.1 q4.Z (by omega) (fun z => z) hP, kIm hA.1 q4.Z (by omega) ⟨fun z => z, fun z => z, fun z => z⟩ hI⟩, Z_Fb q4.Z (fun a z => z.elim)⟩
  · rw [cS_f p]
    exact Mpt.no h ⟨q1, rfl⟩
theorem k_X12_form (h : Mst w μ m S) {s : Int} (hs : i32 s) : Con w (d + 9) mX12_form 0 0 [vP (some m), vI s] μ (Mpt w m (sForm S s) (vI (foA S.2.1.1 S.2.1.2 s)) μ) := by
  have h' := h
  obtain ⟨hA, hT, hF, hP, hI⟩ := h'
  refine (c_X12_form w d μ hA hT hs).post fun v μ2 q => ?_
  obtain ⟨q1, q2, q3, q5, q4⟩ := q
  exact ⟨q1, ⟨q2, q3, q5, kPm hA.1 q4 (by unfold Jw Jz; omega) (by unfold P12; omega) hP, kIm hA.1 q4 (by unfold Jw Jz; omega) (by unfold P12; omega) hI⟩, Z_Fb q4 (fun a z => by unfold P12 at z; omega)⟩
theorem k_X12_prove (h : Mst w μ m S) {s : Int} (hs : i32 s) : Con w (d + 8) mX12_prove 0 0 [vP (some m), vI s] μ (Mpt w m (sProve S s) (vI (pvA S.2.1.1 S.2.1.2 S.1 s)) μ) := by
  have h' := h
  obtain ⟨hA, hT, hF, hP, hI⟩ := h'
  refine (c_X12_prove w d μ hA hT hs).post fun v μ2 q => ?_
  obtain ⟨q1, q2, q3, q5, q4⟩ := q
  exact ⟨q1, ⟨q2, q3, q5, kPm hA.1 q4 (by unfold JP Jz; omega) (by unfold P4; omega) hP, kIm hA.1 q4 (by unfold JP Jz; omega) (by unfold P4; omega) hI⟩, Z_Fb q4 (fun a z => by unfold P4 at z; omega)⟩
theorem k_X12_identity (h : Mst w μ m S) (hw : WI S.2.2.2.2) : Con w (d + 34) mX12_identity 0 0 [vP (some m)] μ (Mpt w m (sIdent S) (vI (idA S.2.1.1 S.2.1.2)) μ) := by
  have h' := h
  obtain ⟨hA, hT, hF, hP, hI⟩ := h'
  refine (c_X12_identity w d μ hA hT hI hw).post fun v μ2 q => ?_
  obtain ⟨q1, q2, q3, q5, q6, q4⟩ := q
  exact ⟨q1, ⟨q2, q3, q5, kPm hA.1 q4 (by unfold Jid Jz; omega) (by unfold P15; omega) hP, q6⟩, Z_Fb q4 (fun a z => by unfold P15 at z; omega)⟩
theorem k_X12_join (h : Mst w μ m S) {s s2 s3 : Int} (hs : i32 s) (hs2 : i32 s2) (hs3 : i32 s3) : Con w (d + 2) mX12_join 0 0 [vP (some m), vI s, vI s2, vI s3] μ (Mpt w m (sJoin S s s2 s3) (vI (bI (JnP S.1 s s2 s3))) μ) := by
  have h' := h
  obtain ⟨hA, hT, hF, hP, hI⟩ := h'
  refine (c_X12_join w d μ hA hs hs2 hs3).post fun v μ2 q => ?_
  obtain ⟨P, hPq, q1, q2⟩ := q
  have hPe : P = JnP S.1 s s2 s3 := propext hPq
  subst hPe
  unfold sJoin
  rcases q2 with ⟨p, q2, q3⟩ | ⟨p, rfl⟩
  · rw [cS_t p]
    have := h.z q2 (FrM.Z q3) (by omega) (by omega) (fun a z => by omega)
    exact ⟨q1, this.1, this.2⟩
  · rw [cS_f p]
    exact Mpt.no h ⟨q1, rfl⟩
theorem k_X12_drop (h : Mst w μ m S) {s i : Int} (hs : i32 s) (hi : i32 i) : Con w (d + 3) mX12_drop 0 0 [vP (some m), vI s, vI i] μ (Mpt w m (sDrop S s i) (vI (bI (HasI S.1 s i))) μ) := by
  have h' := h
  obtain ⟨hA, hT, hF, hP, hI⟩ := h'
  refine (c_X12_drop w d μ hA hs hi).post fun v μ2 q => ?_
  obtain ⟨q1, q2⟩ := q
  unfold sDrop
  rcases q2 with ⟨p, q2, q3⟩ | ⟨p, rfl⟩
  · rw [cS_t p]
    have := h.z q2 (FrM.Z q3) (by omega) (by omega) (fun a z => by omega)
    exact ⟨q1, this.1, this.2⟩
  · rw [cS_f p]
    exact Mpt.no h ⟨q1, rfl⟩
theorem k_X12_lead (h : Mst w μ m S) {s i : Int} (hs : i32 s) (hi : i32 i) : Con w (d + 3) mX12_lead 0 0 [vP (some m), vI s, vI i] μ (Mpt w m (sLead S s i) (vI (bI (HasI S.1 s i))) μ) := by
  have h' := h
  obtain ⟨hA, hT, hF, hP, hI⟩ := h'
  refine (c_X12_lead w d μ hA hs hi).post fun v μ2 q => ?_
  obtain ⟨q1, q2⟩ := q
  unfold sLead
  rcases q2 with ⟨p, q2, q3⟩ | ⟨p, rfl⟩
  · rw [cS_t p]
    have := h.z q2 (FrM.Z q3) (by omega) (by omega) (fun a z => by omega)
    exact ⟨q1, this.1, this.2⟩
  · rw [cS_f p]
    exact Mpt.no h ⟨q1, rfl⟩
theorem k_X12_tried (h : Mst w μ m S) (hw : WI S.2.2.2.2) {b t : Int} (hb : i32 b) (ht : i32 t) : Con w (d + 5) mX12_tried 0 0 [vP (some m), vI b, vI t] μ (Mpt w m (S) (vI (trA S.2.2.2.2 b t)) μ) := by
  have h' := h
  obtain ⟨hA, hT, hF, hP, hI⟩ := h'
  refine (c_X12_tried w d μ hA hI hw hb ht).post fun v μ2 q => ?_
  obtain ⟨q1, q2, q5, q4⟩ := q
  exact ⟨q1, ⟨q2, hT.fr q4 hA.1 (by omega) (by omega), kFm q4 (by omega) hF, kPm hA.1 q4 (by omega) (by omega) hP, q5⟩, Z_Fb q4 (fun a z => by omega)⟩
theorem k_X12_side (h : Mst w μ m S) (hw : WI S.2.2.2.2) {s a b e f g k : Int} (hs : i32 s) (ha : i32 a) (hb : i32 b) (he : i32 e) (hf : i32 f) (hg : i32 g) (hk : i32 k) : Con w (d + 5) mX12_side 0 0 [vP (some m), vI s, vI a, vI b, vI e, vI f, vI g, vI k] μ (Mpt w m (S) (vJ (sdA S.2.2.2.2 s a b e f g k)) μ) := by
  have h' := h
  obtain ⟨hA, hT, hF, hP, hI⟩ := h'
  refine (c_X12_side w d μ hA hI hw hs ha hb he hf hg hk).post fun v μ2 q => ?_
  obtain ⟨q1, q2, q5, q4⟩ := q
  exact ⟨q1, ⟨q2, hT.fr q4 hA.1 (by omega) (by omega), kFm q4 (by omega) hF, kPm hA.1 q4 (by omega) (by omega) hP, q5⟩, Z_Fb q4 (fun a z => by omega)⟩
theorem PlM.pg {L : List Int} (h : PlM μ m L) : PgM μ m (pgL L).1 (pgL L).2 := by
  obtain ⟨e1, e2, e3⟩ := h
  refine ⟨e1, ⟨by show (0 : Int) ≤ (L.length : Int); omega, by show (L.length : Int) ≤ 2400; omega⟩, fun j z1 z2 => ?_⟩
  have z3 : j < (L.length : Int) := z2
  have z4 : j.toNat < L.length := by omega
  have := e3 j.toNat L[j.toNat] (List.getElem?_eq_getElem z4)
  rw [show ((j.toNat : Nat) : Int) = j by omega] at this
  rw [this]
  show L[j.toNat] = L.getD j.toNat 0
  rw [List.getD_eq_getElem?_getD, List.getElem?_eq_getElem z4]
  rfl
theorem k_X12_spell (h : Mst w μ m S) {s : Int} (hs : i32 s) : Con w (d + 6) mX12_spell 0 0 [vP (some m), vI s] μ (Mpt w m (sSpell S s) (vI (cI (HasT S.1 s) ((spL (S.1 s) 0).length : Int) (-1))) μ) := by
  have h' := h
  obtain ⟨hA, hT, hF, hP, hI⟩ := h'
  refine (c_X12_spell w d μ hA hs).post fun v μ2 q => ?_
  unfold sSpell
  rcases q with ⟨p, q1, q2, q3, q4⟩ | ⟨p, q1, rfl⟩
  · rw [cS_t p, cI_t p]
    exact ⟨q1, ⟨q2, hT.fr (FrM.Z q4) hA.1 (by omega) (by omega), kFm (FrM.Z q4) (by omega) hF, q3.pg, kIm hA.1 (FrM.Z q4) (by omega) (by omega) hI⟩, Z_Fb (FrM.Z q4) (fun a z => by omega)⟩
  · rw [cS_f p, cI_f p]
    exact Mpt.no h ⟨q1, rfl⟩
theorem k_X12_write (h : Mst w μ m S) {s fr to : Int} (hs : i32 s) (hfr : i32 fr) (hto : i32 to) : Con w (d + 6) mX12_write 0 0 [vP (some m), vI s, vI fr, vI to] μ (Mpt w m (sWrite S s fr to) (vI (cI (WrP S.1 s fr to) ((wrL (S.1 s) (to - fr + 1).toNat fr).length : Int) (-1))) μ) := by
  have h' := h
  obtain ⟨hA, hT, hF, hP, hI⟩ := h'
  refine (c_X12_write w d μ hA hs hfr hto).post fun v μ2 q => ?_
  obtain ⟨q2, q4, q7⟩ := q
  unfold sWrite
  rcases q7 with ⟨p, q1, q3⟩ | ⟨p, q1, rfl⟩
  · have p2 : WrP S.1 s fr to := p
    rw [cS_t p2, cI_t p2]
    exact ⟨q1, ⟨q2, hT.fr (FrM.Z q4) hA.1 (by unfold Jm; omega) (by unfold Cm; omega), kFm (FrM.Z q4) (by unfold Jm; omega) hF, q3.pg, kIm hA.1 (FrM.Z q4) (by unfold Jm; omega) (by unfold Cm; omega) hI⟩, Z_Fb (FrM.Z q4) (fun a z => by unfold Cm at z; omega)⟩
  · have p2 : ¬ WrP S.1 s fr to := p
    rw [cS_f p2, cI_f p2]
    exact Mpt.no h ⟨q1, rfl⟩
end MSS
