/-! THE MODEL: reads a part -/
section IN
variable {w : WC} {m : Nat} {F : Int → List Tm} {n : Int} {B : Int → Int} {s : IdS} {μ μ2 : Mem}
/-- one part more -/
theorem ImK.pt (h : ImK w μ m F n B s) (hb : s.2.1 + 1 ≤ 60) : ImK w (sI μ m 38 ((s.2.1 : Int) + 1)) m F n B (s.1, s.2.1 + 1, s.2.2) ∧ ImG m μ (sI μ m 38 ((s.2.1 : Int) + 1)) := by
  have hf : FrZ m (fun _ => False) (fun z => z = 38) μ (sI μ m 38 ((s.2.1 : Int) + 1)) := FrZ.sI rfl
  obtain ⟨q1, q2, ⟨q3, q4, q5⟩, q6, q7⟩ := h
  obtain ⟨r1, r2⟩ := RmT.r9 hf q1.1
  refine ⟨⟨q1.fr hf ⟨by omega, by omega, fun k z1 z2 z => by omega⟩ (fun z => z) rfl, FrZ.MA hf q2 ⟨fun z => z, fun z => z, fun z => z, fun z => z⟩ (by omega), ⟨(hf.2 36 (by omega)).trans q3, ?_, (hf.2 40 (by omega)).trans q5⟩, fun k o hk => ?_, ?_⟩, ⟨FrZ.mono hf (fun _ z => z.elim) (fun k z => by unfold JI; omega), fun j _ => r1 j, fun j _ => r2 j⟩⟩
  · rw [mI_sI, if_pos ⟨rfl, rfl⟩]
    show ((s.2.1 : Nat) : Int) + 1 = ((s.2.1 + 1 : Nat) : Int)
    omega
  · rw [r1, r2]
    exact q6 k o hk
  · show s.2.1 + 1 ≤ 60 ∧ s.2.2.2.length ≤ 3 * (s.2.1 + 1)
    omega
/-- another mask of letters -/
theorem ImK.ms {L : Int} (h : ImK w μ m F n B s) : ImK w (sI μ m 40 L) m F n B (s.1, s.2.1, L, s.2.2.2) ∧ ImG m μ (sI μ m 40 L) := by
  have hf : FrZ m (fun _ => False) (fun z => z = 40) μ (sI μ m 40 L) := FrZ.sI rfl
  obtain ⟨q1, q2, ⟨q3, q4, q5⟩, q6, q7⟩ := h
  obtain ⟨r1, r2⟩ := RmT.r9 hf q1.1
  refine ⟨⟨q1.fr hf ⟨by omega, by omega, fun k z1 z2 z => by omega⟩ (fun z => z) rfl, FrZ.MA hf q2 ⟨fun z => z, fun z => z, fun z => z, fun z => z⟩ (by omega), ⟨(hf.2 36 (by omega)).trans q3, (hf.2 38 (by omega)).trans q4, ?_⟩, fun k o hk => ?_, q7⟩, ⟨FrZ.mono hf (fun _ z => z.elim) (fun k z => by unfold JI; omega), fun j _ => r1 j, fun j _ => r2 j⟩⟩
  · rw [mI_sI, if_pos ⟨rfl, rfl⟩]
  · rw [r1, r2]
    exact q6 k o hk
/-- a letter by its packed word -/
theorem lt12 (n : Int) (B : Int → Int) (p : Int) : (mS2 n B p = 1 → en n B p - p = 1 → mW2 n B p ≤ 6 → ¬ ltT n B p = -1 ∧ mW2 n B p = ltT n B p + 1) ∧ (¬ (mS2 n B p = 1 ∧ en n B p - p = 1 ∧ mW2 n B p ≤ 6) → ltT n B p = -1) ∧ (¬ ltT n B p = -1 → mW2 n B p = ltT n B p + 1 ∧ ¬ isN n B p ∧ ∀ c, ¬ isSg n B p c) ∧ (mS2 n B p = 1 → en n B p - p = 1 → 1 ≤ mW2 n B p ∧ mW2 n B p ≤ 26) := by
  have hm2 := mS2_c n B p
  have hw : p < n → srt (B p) = 2 → en n B p - p = 1 → mW2 n B p = B p - 96 ∧ 97 ≤ B p ∧ B p ≤ 122 := fun z1 z2 z3 => by
    have e1 : mW2 n B p = wdF n B p := if_pos ⟨z1, z2⟩
    have e2 : (min (en n B p - p) 7).toNat = 1 := by omega
    have hr := lt_of_srt z2
    refine ⟨?_, hr⟩
    rw [e1, wdF, e2]
    show (0 : Int) * 32 + (B p - 96) = _
    omega
  have hlt : (p < n ∧ srt (B p) = 2 ∧ en n B p - p = 1 ∧ 97 ≤ B p ∧ B p ≤ 102 ∧ ltT n B p = B p - 97) ∨ (¬ (p < n ∧ srt (B p) = 2 ∧ en n B p - p = 1 ∧ 97 ≤ B p ∧ B p ≤ 102) ∧ ltT n B p = -1) := by
    unfold ltT
    by_cases z : p < n ∧ srt (B p) = 2 ∧ en n B p - p = 1 ∧ 97 ≤ B p ∧ B p ≤ 102
    · rw [cI_t z]
      exact Or.inl ⟨z.1, z.2.1, z.2.2.1, z.2.2.2.1, z.2.2.2.2, rfl⟩
    · rw [cI_f z]
      exact Or.inr ⟨z, rfl⟩
  refine ⟨fun z1 z2 z3 => ?_, fun z => ?_, fun z => ?_, fun z1 z2 => ?_⟩
  · obtain ⟨y1, y2⟩ := hm2.2.2.1.mp z1
    obtain ⟨y3, y4⟩ := hw y1 y2 z2
    rcases hlt with y | ⟨y, -⟩
    · omega
    · exact absurd ⟨y1, y2, z2, by omega, by omega⟩ y
  · rcases hlt with y | ⟨-, y⟩
    · obtain ⟨y3, y4⟩ := hw y.1 y.2.1 y.2.2.1
      exact absurd ⟨hm2.2.2.1.mpr ⟨y.1, y.2.1⟩, y.2.2.1, by omega⟩ z
    · exact y
  · rcases hlt with y | ⟨-, y⟩
    · obtain ⟨y3, y4⟩ := hw y.1 y.2.1 y.2.2.1
      exact ⟨by omega, fun q => by have := q.2.1; omega, fun c q => by have := q.2.1; omega⟩
    · exact absurd y z
  · obtain ⟨y1, y2⟩ := hm2.2.2.1.mp z1
    obtain ⟨y3, y4⟩ := hw y1 y2 z2
    omega
end IN
theorem l_in12 {w : WC} {m D : Nat} {F : Int → List Tm} {n : Int} {B : Int → Int} {fo op : Int} {inn : IdR} (hsum : op < 6 → (∀ (μ : Mem) (s : IdS), ImK w μ m F n B s → mI μ m 18 = fo → mI μ m 19 = op + 1 → Con w D mX12_readSum 0 0 [vP (some m)] μ (ImP w m F n B fo (op + 1) (inn s) μ))) (hD : 4 ≤ D) (hop : 0 ≤ op ∧ op ≤ 6) {μ : Mem} {s : IdS} (h : ImK w μ m F n B s) (e18 : mI μ m 18 = fo) (e19 : mI μ m 19 = op) (hc2 : ¬ (isSg n B (tP n B s.1) 40 ∧ 6 ≤ op)) (h40 : isSg n B (tP n B s.1) 40) {l1 : Option AV} : G w (D + 1) mX12_readPart (ImP w m F n B fo op (idB (inn (s.1 + 1, s.2)) fun s2 => pI (isSg n B (tP n B s2.1) 41) (.inr (s2.1 + 1, s2.2)) (.inl (1, s2.1, op + 1))) μ) 0 0 124 [some (vP (some m)), l1] [] μ := by
  have o0 := h.1.1.o
  have hbb := h.2.2.2.2
  have e38 := h.2.2.1.2.1
  have f12 := h.1.2.2.1.2.2.1
  have f15 := h.1.2.2.1.2.2.2.1
  have f16 := h.1.2.2.1.2.2.2.2.1
  have hl6 := ltT_bd n B (tP n B s.1)
  refine g_aload_n (j := 0) rfl dX12_readPart_124 ?_
  refine g_dup rfl dX12_readPart_125 ?_
  refine g_getI dX12_readPart_126 flX12_165 rfl (by assumption) (kz := 19) rfl ?_
  rw [e19]
  refine g_iconst dX12_readPart_129 ?_
  refine g_iadd dX12_readPart_130 ?_
  refine g_putI dX12_readPart_131 fpX12_165 rfl rfl rfl (by assumption) (kz := 19) rfl ?_
  obtain ⟨h1, hg1⟩ := h.inn (j := 19) (v := op + 1) (Or.inr rfl)
  have e181 : mI (sI μ m 19 (op + 1)) m 18 = fo := by rw [mI_sI, if_neg (by omega)]; exact e18
  have e191 : mI (sI μ m 19 (op + 1)) m 19 = op + 1 := by rw [mI_sI, if_pos ⟨rfl, rfl⟩]
  generalize sI μ m 19 (op + 1) = μ1 at *
  have o01 := h1.1.1.o
  refine g_aload_n (j := 0) rfl dX12_readPart_134 ?_
  refine g_callV dX12_readPart_135 mlX12_190 mvX12_next (ci := 12) ⟨by decide, rfl⟩ (by assumption) (c_nextS w (D - 2) μ1 h1.1) sv0 rfl (by omega) (Nat.le_of_ble_eq_true rfl) (Nat.le_refl _) (Nat.le_refl _) (fun v μ2 hR => ?_)
  obtain ⟨rfl, hS2, hr2⟩ := hR
  obtain ⟨h2, hg2⟩ := h1.rd hS2 hr2.T
  have e182 := FrZ.rd18 hr2 (j := 18) (by unfold Jn; omega) e181
  have e192 := FrZ.rd18 hr2 (j := 19) (by unfold Jn; omega) e191
  have hg12 := hg1.tr hg2
  have o02 := h2.1.1.o
  refine g_aload_n (j := 0) rfl dX12_readPart_138 ?_
  refine g_callV dX12_readPart_139 mlX12_358 mvX12_readSum (ci := 12) ⟨by decide, rfl⟩ (by assumption) (hsum (Int.not_le.mp fun z => hc2 ⟨h40, z⟩) μ2 (s.1 + 1, s.2) h2 e182 e192) sv0 rfl (by omega) (Nat.le_of_ble_eq_true rfl) (Nat.le_refl _) (Nat.le_refl _) (fun v μ3 hR => ?_)
  rcases hr : inn (s.1 + 1, s.2) with e | s3
  · rw [hr] at hR
    obtain ⟨rfl, hE⟩ := hR
    refine g_if_eq (tgt := 154) dX12_readPart_142 (by decide) (by omega) (fun h142 => ?_) (fun h142 => ?_)
    · refine g_iconst dX12_readPart_154 ?_
      refine G.retZ dX12_readPart_155 rfl (Or.inl rfl) ?_
      exact ⟨rfl, hg12.E hE⟩
    · omega
  · rw [hr] at hR
    obtain ⟨rfl, h3, ⟨e183, e193⟩, hg3⟩ := hR
    refine g_if_eq (tgt := 154) dX12_readPart_142 (by decide) (by omega) (fun h142 => ?_) (fun h142 => ?_)
    · omega
    · have o03 := h3.1.1.o
      refine g_aload_n (j := 0) rfl dX12_readPart_145 ?_
      refine g_bipush dX12_readPart_146 (by omega) ?_
      refine g_callV dX12_readPart_148 mlX12_253 mvX12_takesSign (ci := 12) ⟨by decide, rfl⟩ (by assumption) (c_takesSign w (D - 3) (c := 41) μ3 h3.1 (by omega) e183 e193) sv1 rfl (by omega) (Nat.le_of_ble_eq_true rfl) (Nat.le_refl _) (Nat.le_refl _) (fun v μ4 hR => ?_)
      rcases hR with ⟨hs4, rfl, hS4, hr4⟩ | ⟨hs4, rfl, hE⟩
      · refine g_if_ne (tgt := 156) dX12_readPart_151 (by decide) (by omega) (fun h151 => ?_) (fun h151 => ?_)
        · obtain ⟨h4, hg4⟩ := h3.rd hS4 hr4.T
          have e184 := FrZ.rd18 hr4 (j := 18) (by unfold Jn; omega) e183
          have e194 := FrZ.rd18 hr4 (j := 19) (by unfold Jn; omega) e193
          have o04 := h4.1.1.o
          refine g_aload_n (j := 0) rfl dX12_readPart_156 ?_
          refine g_dup rfl dX12_readPart_157 ?_
          refine g_getI dX12_readPart_158 flX12_165 rfl (by assumption) (kz := 19) rfl ?_
          rw [e194]
          refine g_iconst dX12_readPart_161 ?_
          refine g_isub dX12_readPart_162 ?_
          refine g_putI dX12_readPart_163 fpX12_165 rfl rfl rfl (by assumption) (kz := 19) rfl ?_
          obtain ⟨h5, hg5⟩ := h4.inn (j := 19) (v := op + 1 - 1) (Or.inr rfl)
          have e185 : mI (sI μ4 m 19 (op + 1 - 1)) m 18 = fo := by rw [mI_sI, if_neg (by omega)]; exact e184
          have e195 : mI (sI μ4 m 19 (op + 1 - 1)) m 19 = op := by rw [mI_sI, if_pos ⟨rfl, rfl⟩]; omega
          refine g_iconst dX12_readPart_166 ?_
          refine G.retZ dX12_readPart_167 rfl (Or.inr rfl) ?_
          unfold idB
          dsimp only
          rw [pI_t hs4]
          exact ⟨rfl, h5, ⟨e185, e195⟩, ((hg12.tr hg3).tr hg4).tr hg5⟩
        · omega
      · refine g_if_ne (tgt := 156) dX12_readPart_151 (by decide) (by omega) (fun h151 => ?_) (fun h151 => ?_)
        · omega
        · refine g_iconst dX12_readPart_154 ?_
          refine G.retZ dX12_readPart_155 rfl (Or.inl rfl) ?_
          unfold idB
          dsimp only
          rw [pI_f hs4]
          exact ⟨rfl, (hg12.tr hg3).E (h3.er hE)⟩
theorem l_p89_0 {w : WC} {m D : Nat} {F : Int → List Tm} {n : Int} {B : Int → Int} {fo op : Int} {inn : IdR} (hsum : op < 6 → (∀ (μ : Mem) (s : IdS), ImK w μ m F n B s → mI μ m 18 = fo → mI μ m 19 = op + 1 → Con w D mX12_readSum 0 0 [vP (some m)] μ (ImP w m F n B fo (op + 1) (inn s) μ))) (hD : 4 ≤ D) (hop : 0 ≤ op ∧ op ≤ 6) {μ : Mem} {s : IdS} (h : ImK w μ m F n B s) (e18 : mI μ m 18 = fo) (e19 : mI μ m 19 = op) (hc1 : ¬ (¬ isN n B (tP n B s.1) ∧ ltT n B (tP n B s.1) = -1 ∧ ¬ isSg n B (tP n B s.1) 40)) (hc2 : ¬ (isSg n B (tP n B s.1) 40 ∧ 6 ≤ op)) (hl : ltT n B (tP n B s.1) = -1) : G w (D + 1) mX12_readPart (ImP w m F n B fo op (idPart n B op inn s) μ) 0 0 89 [some (vP (some m)), some (vI 0)] [] μ := by
  have o0 := h.1.1.o
  have hbb := h.2.2.2.2
  have e38 := h.2.2.1.2.1
  have f12 := h.1.2.2.1.2.2.1
  have f15 := h.1.2.2.1.2.2.2.1
  have f16 := h.1.2.2.1.2.2.2.2.1
  have hl6 := ltT_bd n B (tP n B s.1)
  refine g_aload_n (j := 0) rfl dX12_readPart_89 ?_
  refine g_getI dX12_readPart_90 flX12_355 rfl (by assumption) (kz := 38) rfl ?_
  rw [e38]
  refine g_bipush dX12_readPart_93 (by omega) ?_
  refine g_icmp_ne (tgt := 105) dX12_readPart_95 (by decide) (by omega) (by omega) (fun h95 => ?_) (fun h95 => ?_)
  · refine g_aload_n (j := 0) rfl dX12_readPart_105 ?_
    refine g_dup rfl dX12_readPart_106 ?_
    refine g_getI dX12_readPart_107 flX12_355 rfl (by assumption) (kz := 38) rfl ?_
    rw [e38]
    refine g_iconst dX12_readPart_110 ?_
    refine g_iadd dX12_readPart_111 ?_
    refine g_putI dX12_readPart_112 fpX12_355 rfl rfl rfl (by assumption) (kz := 38) rfl ?_
    obtain ⟨h1, hg1⟩ := h.pt (by omega)
    have e181 : mI (sI μ m 38 ((s.2.1 : Int) + 1)) m 18 = fo := by rw [mI_sI, if_neg (by omega)]; exact e18
    have e191 : mI (sI μ m 38 ((s.2.1 : Int) + 1)) m 19 = op := by rw [mI_sI, if_neg (by omega)]; exact e19
    generalize sI μ m 38 ((s.2.1 : Int) + 1) = μ1 at *
    have o01 := h1.1.1.o
    have f161 : mI μ1 m 16 = mN2 n B (tP n B s.1) := h1.1.2.2.1.2.2.2.2.1
    have f151 : mL μ1 m 15 = mW2 n B (tP n B s.1) := h1.1.2.2.1.2.2.2.1
    have e381 : mI μ1 m 38 = ((s.2.1 + 1 : Nat) : Int) := h1.2.2.1.2.1
    refine g_aload_n (j := 0) rfl dX12_readPart_115 ?_
    refine g_bipush dX12_readPart_116 (by omega) ?_
    refine g_callV dX12_readPart_118 mlX12_184 mvX12_isSign (ci := 12) ⟨by decide, rfl⟩ (by assumption) (c_isSign12 w D μ1 h1.1 (c := 40) (by omega)) sv1 rfl (by omega) (Nat.le_of_ble_eq_true rfl) (Nat.le_refl _) (Nat.le_refl _) (fun v μ2 hR => ?_)
    obtain ⟨rfl, hm⟩ := hR
    replace hm := hm.symm
    subst hm
    refine g_ifb_eq (tgt := 168) dX12_readPart_121 (by decide)  (fun h121 => ?_) (fun h121 => ?_)
    · refine g_aload_n (j := 0) rfl dX12_readPart_168 ?_
      refine g_iload_n (j := 1) rfl dX12_readPart_169 ?_
      refine g_if_eq (tgt := 177) dX12_readPart_170 (by decide) (by omega) (fun h170 => ?_) (fun h170 => ?_)
      · refine g_iconst dX12_readPart_177 ?_
        refine g_iload_n (j := 1) rfl dX12_readPart_178 ?_
        refine g_if_eq (tgt := 192) dX12_readPart_179 (by decide) (by omega) (fun h179 => ?_) (fun h179 => ?_)
        · refine g_aload_n (j := 0) rfl dX12_readPart_192 ?_
          refine g_getI dX12_readPart_193 flX12_136 rfl (by assumption) (kz := 16) rfl ?_
          have hN : isN n B (tP n B s.1) := Classical.byContradiction fun z => hc1 ⟨z, hl, h121⟩
          have hkN := mN2_ka hN
          rw [f161, hkN]
          refine g_callV dX12_readPart_196 mlX12_344 mvX12_puts (ci := 12) ⟨by decide, rfl⟩ (by assumption) (c_puts w D μ1 h1.1.1 (ops := s.2.2.2) h1.2.2.1.1 (by omega) h1.2.2.2.1 (o := (0, ka n B (tP n B s.1))) rfl rfl) sv2 rfl (by omega) (Nat.le_of_ble_eq_true rfl) (Nat.le_refl _) (Nat.le_refl _) (fun v μ3 hR => ?_)
          obtain ⟨rfl, p1, p2, p3, p4, p5, p6⟩ := hR
          obtain ⟨h3, hg3⟩ := h1.put p1 p2 p3 ⟨p4, p5⟩ p6 (by show s.2.2.2.length + 1 ≤ 3 * (s.2.1 + 1); omega)
          have e183 := (p3.2 18 (by omega)).trans e181
          have e193 := (p3.2 19 (by omega)).trans e191
          have o03 := h3.1.1.o
          have e403 : mI μ3 m 40 = s.2.2.1 := h3.2.2.1.2.2
          have f153 : mL μ3 m 15 = mW2 n B (tP n B s.1) := h3.1.2.2.1.2.2.2.1
          refine g_iload_n (j := 1) rfl dX12_readPart_199 ?_
          refine g_if_eq (tgt := 221) dX12_readPart_200 (by decide) (by omega) (fun h200 => ?_) (fun h200 => ?_)
          · refine g_aload_n (j := 0) rfl dX12_readPart_221 ?_
            refine g_callV dX12_readPart_222 mlX12_190 mvX12_next (ci := 12) ⟨by decide, rfl⟩ (by assumption) (c_nextS w (D - 2) μ3 h3.1) sv0 rfl (by omega) (Nat.le_of_ble_eq_true rfl) (Nat.le_refl _) (Nat.le_refl _) (fun v μ5 hR => ?_)
            obtain ⟨rfl, hS5, hr5⟩ := hR
            obtain ⟨h5, hg5⟩ := h3.rd hS5 hr5.T
            have e185 := FrZ.rd18 hr5 (j := 18) (by unfold Jn; omega) e183
            have e195 := FrZ.rd18 hr5 (j := 19) (by unfold Jn; omega) e193
            refine g_iconst dX12_readPart_225 ?_
            have er : idPart n B op inn s = .inr (s.1 + 1, s.2.1 + 1, s.2.2.1, s.2.2.2 ++ [(0, ka n B (tP n B s.1))]) := by
              unfold idPart
              rw [pI_f hc1, pI_f hc2, pI_f (by omega), pI_f h121, pI_f (fun z => z hl)]
            rw [er]
            exact G.retZ dX12_readPart_226 rfl (Or.inr rfl) ⟨rfl, h5, ⟨e185, e195⟩, (hg1.tr hg3).tr hg5⟩
          · omega
        · omega
      · omega
    · refine G.post (fun v μ6 hq => ?_) (l_in12 hsum hD hop h1 e181 e191 hc2 h121)
      have er : idPart n B op inn s = idB (inn (s.1 + 1, s.2.1 + 1, s.2.2)) fun s2 => pI (isSg n B (tP n B s2.1) 41) (.inr (s2.1 + 1, s2.2)) (.inl (1, s2.1, op + 1)) := by
        unfold idPart
        rw [pI_f hc1, pI_f hc2, pI_f (by omega), pI_t h121]
      rw [er]
      exact ImP.tr hg1 hq
  · refine g_aload_n (j := 0) rfl dX12_readPart_98 ?_
    refine g_bipush dX12_readPart_99 (by omega) ?_
    refine g_callV dX12_readPart_101 mlX12_187 mvX12_fails (ci := 12) ⟨by decide, rfl⟩ (by assumption) (c_fails w D μ h.1 (k := 12) e18 e19) sv1 rfl (by omega) (Nat.le_of_ble_eq_true rfl) (Nat.le_refl _) (Nat.le_refl _) (fun v μ1 hR => ?_)
    obtain ⟨rfl, hE⟩ := hR
    have er : idPart n B op inn s = .inl (12, s.1, op) := by
      unfold idPart
      rw [pI_f hc1, pI_f hc2, pI_t (by omega)]
    rw [er]
    exact G.retZ dX12_readPart_104 rfl (Or.inl rfl) ⟨rfl, h.er hE⟩
theorem l_p64_0 {w : WC} {m D : Nat} {F : Int → List Tm} {n : Int} {B : Int → Int} {fo op : Int} {inn : IdR} (hsum : op < 6 → (∀ (μ : Mem) (s : IdS), ImK w μ m F n B s → mI μ m 18 = fo → mI μ m 19 = op + 1 → Con w D mX12_readSum 0 0 [vP (some m)] μ (ImP w m F n B fo (op + 1) (inn s) μ))) (hD : 4 ≤ D) (hop : 0 ≤ op ∧ op ≤ 6) {μ : Mem} {s : IdS} (h : ImK w μ m F n B s) (e18 : mI μ m 18 = fo) (e19 : mI μ m 19 = op) (hc1 : ¬ (¬ isN n B (tP n B s.1) ∧ ltT n B (tP n B s.1) = -1 ∧ ¬ isSg n B (tP n B s.1) 40)) (hl : ltT n B (tP n B s.1) = -1) : G w (D + 1) mX12_readPart (ImP w m F n B fo op (idPart n B op inn s) μ) 0 0 64 [some (vP (some m)), some (vI 0)] [] μ := by
  have o0 := h.1.1.o
  have hbb := h.2.2.2.2
  have e38 := h.2.2.1.2.1
  have f12 := h.1.2.2.1.2.2.1
  have f15 := h.1.2.2.1.2.2.2.1
  have f16 := h.1.2.2.1.2.2.2.2.1
  have hl6 := ltT_bd n B (tP n B s.1)
  refine g_aload_n (j := 0) rfl dX12_readPart_64 ?_
  refine g_bipush dX12_readPart_65 (by omega) ?_
  refine g_callV dX12_readPart_67 mlX12_184 mvX12_isSign (ci := 12) ⟨by decide, rfl⟩ (by assumption) (c_isSign12 w D μ h.1 (c := 40) (by omega)) sv1 rfl (by omega) (Nat.le_of_ble_eq_true rfl) (Nat.le_refl _) (Nat.le_refl _) (fun v μ2 hR => ?_)
  obtain ⟨rfl, hm⟩ := hR
  replace hm := hm.symm
  subst hm
  refine g_ifb_eq (tgt := 89) dX12_readPart_70 (by decide)  (fun h70 => ?_) (fun h70 => ?_)
  · exact l_p89_0 hsum hD hop h e18 e19 hc1 (fun z => h70 z.1) hl
  · refine g_aload_n (j := 0) rfl dX12_readPart_73 ?_
    refine g_getI dX12_readPart_74 flX12_165 rfl (by assumption) (kz := 19) rfl ?_
    rw [e19]
    refine g_bipush dX12_readPart_77 (by omega) ?_
    refine g_icmp_ne (tgt := 89) dX12_readPart_79 (by decide) (by omega) (by omega) (fun h79 => ?_) (fun h79 => ?_)
    · exact l_p89_0 hsum hD hop h e18 e19 hc1 (fun z => by omega) hl
    · refine g_aload_n (j := 0) rfl dX12_readPart_82 ?_
      refine g_bipush dX12_readPart_83 (by omega) ?_
      refine g_callV dX12_readPart_85 mlX12_187 mvX12_fails (ci := 12) ⟨by decide, rfl⟩ (by assumption) (c_fails w D μ h.1 (k := 11) e18 e19) sv1 rfl (by omega) (Nat.le_of_ble_eq_true rfl) (Nat.le_refl _) (Nat.le_refl _) (fun v μ1 hR => ?_)
      obtain ⟨rfl, hE⟩ := hR
      have er : idPart n B op inn s = .inl (11, s.1, op) := by
        unfold idPart
        rw [pI_f hc1, pI_t ⟨h70, by omega⟩]
      rw [er]
      exact G.retZ dX12_readPart_88 rfl (Or.inl rfl) ⟨rfl, h.er hE⟩
theorem l_p38_0 {w : WC} {m D : Nat} {F : Int → List Tm} {n : Int} {B : Int → Int} {fo op : Int} {inn : IdR} (hsum : op < 6 → (∀ (μ : Mem) (s : IdS), ImK w μ m F n B s → mI μ m 18 = fo → mI μ m 19 = op + 1 → Con w D mX12_readSum 0 0 [vP (some m)] μ (ImP w m F n B fo (op + 1) (inn s) μ))) (hD : 4 ≤ D) (hop : 0 ≤ op ∧ op ≤ 6) {μ : Mem} {s : IdS} (h : ImK w μ m F n B s) (e18 : mI μ m 18 = fo) (e19 : mI μ m 19 = op) (hl : ltT n B (tP n B s.1) = -1) : G w (D + 1) mX12_readPart (ImP w m F n B fo op (idPart n B op inn s) μ) 0 0 38 [some (vP (some m)), some (vI 0)] [] μ := by
  have o0 := h.1.1.o
  have hbb := h.2.2.2.2
  have e38 := h.2.2.1.2.1
  have f12 := h.1.2.2.1.2.2.1
  have f15 := h.1.2.2.1.2.2.2.1
  have f16 := h.1.2.2.1.2.2.2.2.1
  have hl6 := ltT_bd n B (tP n B s.1)
  refine g_aload_n (j := 0) rfl dX12_readPart_38 ?_
  refine g_callV dX12_readPart_39 mlX12_214 mvX12_isNumber (ci := 12) ⟨by decide, rfl⟩ (by assumption) (c_isNumber12 w D μ h.1) sv0 rfl (by omega) (Nat.le_of_ble_eq_true rfl) (Nat.le_refl _) (Nat.le_refl _) (fun v μ2 hR => ?_)
  obtain ⟨rfl, hm⟩ := hR
  replace hm := hm.symm
  subst hm
  refine g_ifb_ne (tgt := 64) dX12_readPart_42 (by decide)  (fun h42 => ?_) (fun h42 => ?_)
  · exact l_p64_0 hsum hD hop h e18 e19 (fun z => z.1 h42) hl
  · refine g_iload_n (j := 1) rfl dX12_readPart_45 ?_
    refine g_if_ne (tgt := 64) dX12_readPart_46 (by decide) (by omega) (fun h46 => ?_) (fun h46 => ?_)
    · omega
    · refine g_aload_n (j := 0) rfl dX12_readPart_49 ?_
      refine g_bipush dX12_readPart_50 (by omega) ?_
      refine g_callV dX12_readPart_52 mlX12_184 mvX12_isSign (ci := 12) ⟨by decide, rfl⟩ (by assumption) (c_isSign12 w D μ h.1 (c := 40) (by omega)) sv1 rfl (by omega) (Nat.le_of_ble_eq_true rfl) (Nat.le_refl _) (Nat.le_refl _) (fun v μ2 hR => ?_)
      obtain ⟨rfl, hm⟩ := hR
      replace hm := hm.symm
      subst hm
      refine g_ifb_ne (tgt := 64) dX12_readPart_55 (by decide)  (fun h55 => ?_) (fun h55 => ?_)
      · exact l_p64_0 hsum hD hop h e18 e19 (fun z => z.2.2 h55) hl
      · refine g_aload_n (j := 0) rfl dX12_readPart_58 ?_
        refine g_iconst dX12_readPart_59 ?_
        refine g_callV dX12_readPart_60 mlX12_187 mvX12_fails (ci := 12) ⟨by decide, rfl⟩ (by assumption) (c_fails w D μ h.1 (k := 1) e18 e19) sv1 rfl (by omega) (Nat.le_of_ble_eq_true rfl) (Nat.le_refl _) (Nat.le_refl _) (fun v μ1 hR => ?_)
        obtain ⟨rfl, hE⟩ := hR
        have er : idPart n B op inn s = .inl (1, s.1, op) := by
          unfold idPart
          rw [pI_t ⟨h42, hl, h55⟩]
        rw [er]
        exact G.retZ dX12_readPart_63 rfl (Or.inl rfl) ⟨rfl, h.er hE⟩
theorem l_p89_1 {w : WC} {m D : Nat} {F : Int → List Tm} {n : Int} {B : Int → Int} {fo op : Int} {inn : IdR} (hsum : op < 6 → (∀ (μ : Mem) (s : IdS), ImK w μ m F n B s → mI μ m 18 = fo → mI μ m 19 = op + 1 → Con w D mX12_readSum 0 0 [vP (some m)] μ (ImP w m F n B fo (op + 1) (inn s) μ))) (hD : 4 ≤ D) (hop : 0 ≤ op ∧ op ≤ 6) {μ : Mem} {s : IdS} (h : ImK w μ m F n B s) (e18 : mI μ m 18 = fo) (e19 : mI μ m 19 = op) (hc1 : ¬ (¬ isN n B (tP n B s.1) ∧ ltT n B (tP n B s.1) = -1 ∧ ¬ isSg n B (tP n B s.1) 40)) (hc2 : ¬ (isSg n B (tP n B s.1) 40 ∧ 6 ≤ op)) (hl : ¬ ltT n B (tP n B s.1) = -1) : G w (D + 1) mX12_readPart (ImP w m F n B fo op (idPart n B op inn s) μ) 0 0 89 [some (vP (some m)), some (vI 1)] [] μ := by
  have o0 := h.1.1.o
  have hbb := h.2.2.2.2
  have e38 := h.2.2.1.2.1
  have f12 := h.1.2.2.1.2.2.1
  have f15 := h.1.2.2.1.2.2.2.1
  have f16 := h.1.2.2.1.2.2.2.2.1
  have hl6 := ltT_bd n B (tP n B s.1)
  refine g_aload_n (j := 0) rfl dX12_readPart_89 ?_
  refine g_getI dX12_readPart_90 flX12_355 rfl (by assumption) (kz := 38) rfl ?_
  rw [e38]
  refine g_bipush dX12_readPart_93 (by omega) ?_
  refine g_icmp_ne (tgt := 105) dX12_readPart_95 (by decide) (by omega) (by omega) (fun h95 => ?_) (fun h95 => ?_)
  · refine g_aload_n (j := 0) rfl dX12_readPart_105 ?_
    refine g_dup rfl dX12_readPart_106 ?_
    refine g_getI dX12_readPart_107 flX12_355 rfl (by assumption) (kz := 38) rfl ?_
    rw [e38]
    refine g_iconst dX12_readPart_110 ?_
    refine g_iadd dX12_readPart_111 ?_
    refine g_putI dX12_readPart_112 fpX12_355 rfl rfl rfl (by assumption) (kz := 38) rfl ?_
    obtain ⟨h1, hg1⟩ := h.pt (by omega)
    have e181 : mI (sI μ m 38 ((s.2.1 : Int) + 1)) m 18 = fo := by rw [mI_sI, if_neg (by omega)]; exact e18
    have e191 : mI (sI μ m 38 ((s.2.1 : Int) + 1)) m 19 = op := by rw [mI_sI, if_neg (by omega)]; exact e19
    generalize sI μ m 38 ((s.2.1 : Int) + 1) = μ1 at *
    have o01 := h1.1.1.o
    have f161 : mI μ1 m 16 = mN2 n B (tP n B s.1) := h1.1.2.2.1.2.2.2.2.1
    have f151 : mL μ1 m 15 = mW2 n B (tP n B s.1) := h1.1.2.2.1.2.2.2.1
    have e381 : mI μ1 m 38 = ((s.2.1 + 1 : Nat) : Int) := h1.2.2.1.2.1
    refine g_aload_n (j := 0) rfl dX12_readPart_115 ?_
    refine g_bipush dX12_readPart_116 (by omega) ?_
    refine g_callV dX12_readPart_118 mlX12_184 mvX12_isSign (ci := 12) ⟨by decide, rfl⟩ (by assumption) (c_isSign12 w D μ1 h1.1 (c := 40) (by omega)) sv1 rfl (by omega) (Nat.le_of_ble_eq_true rfl) (Nat.le_refl _) (Nat.le_refl _) (fun v μ2 hR => ?_)
    obtain ⟨rfl, hm⟩ := hR
    replace hm := hm.symm
    subst hm
    refine g_ifb_eq (tgt := 168) dX12_readPart_121 (by decide)  (fun h121 => ?_) (fun h121 => ?_)
    · refine g_aload_n (j := 0) rfl dX12_readPart_168 ?_
      refine g_iload_n (j := 1) rfl dX12_readPart_169 ?_
      refine g_if_eq (tgt := 177) dX12_readPart_170 (by decide) (by omega) (fun h170 => ?_) (fun h170 => ?_)
      · omega
      · refine g_iconst dX12_readPart_173 ?_
        refine g_goto (tgt := 178) (by decide) dX12_readPart_174 ?_
        refine g_iload_n (j := 1) rfl dX12_readPart_178 ?_
        refine g_if_eq (tgt := 192) dX12_readPart_179 (by decide) (by omega) (fun h179 => ?_) (fun h179 => ?_)
        · omega
        · refine g_aload_n (j := 0) rfl dX12_readPart_182 ?_
          refine g_getJ dX12_readPart_183 flX12_132 rfl (by assumption) (kz := 15) rfl ?_
          refine g_l2i dX12_readPart_186 ?_
          refine g_iconst dX12_readPart_187 ?_
          refine g_isub dX12_readPart_188 ?_
          have hW := (lt12 n B (tP n B s.1)).2.2.1 hl
          have eW : mL μ1 m 15 - 1 = ltT n B (tP n B s.1) := by omega
          rw [eW]
          refine g_goto (tgt := 196) (by decide) dX12_readPart_189 ?_
          refine g_callV dX12_readPart_196 mlX12_344 mvX12_puts (ci := 12) ⟨by decide, rfl⟩ (by assumption) (c_puts w D μ1 h1.1.1 (ops := s.2.2.2) h1.2.2.1.1 (by omega) h1.2.2.2.1 (o := (1, ltT n B (tP n B s.1))) rfl rfl) sv2 rfl (by omega) (Nat.le_of_ble_eq_true rfl) (Nat.le_refl _) (Nat.le_refl _) (fun v μ3 hR => ?_)
          obtain ⟨rfl, p1, p2, p3, p4, p5, p6⟩ := hR
          obtain ⟨h3, hg3⟩ := h1.put p1 p2 p3 ⟨p4, p5⟩ p6 (by show s.2.2.2.length + 1 ≤ 3 * (s.2.1 + 1); omega)
          have e183 := (p3.2 18 (by omega)).trans e181
          have e193 := (p3.2 19 (by omega)).trans e191
          have o03 := h3.1.1.o
          have e403 : mI μ3 m 40 = s.2.2.1 := h3.2.2.1.2.2
          have f153 : mL μ3 m 15 = mW2 n B (tP n B s.1) := h3.1.2.2.1.2.2.2.1
          refine g_iload_n (j := 1) rfl dX12_readPart_199 ?_
          refine g_if_eq (tgt := 221) dX12_readPart_200 (by decide) (by omega) (fun h200 => ?_) (fun h200 => ?_)
          · omega
          · refine g_aload_n (j := 0) rfl dX12_readPart_203 ?_
            refine g_dup rfl dX12_readPart_204 ?_
            refine g_getI dX12_readPart_205 flX12_361 rfl (by assumption) (kz := 40) rfl ?_
            refine g_iconst dX12_readPart_208 ?_
            refine g_aload_n (j := 0) rfl dX12_readPart_209 ?_
            refine g_getJ dX12_readPart_210 flX12_132 rfl (by assumption) (kz := 15) rfl ?_
            refine g_l2i dX12_readPart_213 ?_
            refine g_iconst dX12_readPart_214 ?_
            refine g_isub dX12_readPart_215 ?_
            rw [show mL μ3 m 15 - 1 = ltT n B (tP n B s.1) from by omega]
            rw [e403]
            refine g_ishl dX12_readPart_216 ?_
            refine g_ior dX12_readPart_217 ?_
            refine g_putI dX12_readPart_218 fpX12_361 rfl rfl rfl (by assumption) (kz := 40) rfl ?_
            show G w (D + 1) _ _ _ _ _ _ _ (sI μ3 m 40 (orB s.2.2.1 (shB (ltT n B (tP n B s.1)))))
            obtain ⟨h4, hg4⟩ := h3.ms (L := orB s.2.2.1 (shB (ltT n B (tP n B s.1))))
            have e184 : mI (sI μ3 m 40 (orB s.2.2.1 (shB (ltT n B (tP n B s.1))))) m 18 = fo := by rw [mI_sI, if_neg (by omega)]; exact e183
            have e194 : mI (sI μ3 m 40 (orB s.2.2.1 (shB (ltT n B (tP n B s.1))))) m 19 = op := by rw [mI_sI, if_neg (by omega)]; exact e193
            have o04 := h4.1.1.o
            generalize sI μ3 m 40 (orB s.2.2.1 (shB (ltT n B (tP n B s.1)))) = μ4 at *
            refine g_aload_n (j := 0) rfl dX12_readPart_221 ?_
            refine g_callV dX12_readPart_222 mlX12_190 mvX12_next (ci := 12) ⟨by decide, rfl⟩ (by assumption) (c_nextS w (D - 2) μ4 h4.1) sv0 rfl (by omega) (Nat.le_of_ble_eq_true rfl) (Nat.le_refl _) (Nat.le_refl _) (fun v μ5 hR => ?_)
            obtain ⟨rfl, hS5, hr5⟩ := hR
            obtain ⟨h5, hg5⟩ := h4.rd hS5 hr5.T
            have e185 := FrZ.rd18 hr5 (j := 18) (by unfold Jn; omega) e184
            have e195 := FrZ.rd18 hr5 (j := 19) (by unfold Jn; omega) e194
            refine g_iconst dX12_readPart_225 ?_
            have er : idPart n B op inn s = .inr (s.1 + 1, s.2.1 + 1, orB s.2.2.1 (shB (ltT n B (tP n B s.1))), s.2.2.2 ++ [(1, ltT n B (tP n B s.1))]) := by
              unfold idPart
              rw [pI_f hc1, pI_f hc2, pI_f (by omega), pI_f h121, pI_t hl]
            rw [er]
            exact G.retZ dX12_readPart_226 rfl (Or.inr rfl) ⟨rfl, h5, ⟨e185, e195⟩, ((hg1.tr hg3).tr hg4).tr hg5⟩
    · refine G.post (fun v μ6 hq => ?_) (l_in12 hsum hD hop h1 e181 e191 hc2 h121)
      have er : idPart n B op inn s = idB (inn (s.1 + 1, s.2.1 + 1, s.2.2)) fun s2 => pI (isSg n B (tP n B s2.1) 41) (.inr (s2.1 + 1, s2.2)) (.inl (1, s2.1, op + 1)) := by
        unfold idPart
        rw [pI_f hc1, pI_f hc2, pI_f (by omega), pI_t h121]
      rw [er]
      exact ImP.tr hg1 hq
  · refine g_aload_n (j := 0) rfl dX12_readPart_98 ?_
    refine g_bipush dX12_readPart_99 (by omega) ?_
    refine g_callV dX12_readPart_101 mlX12_187 mvX12_fails (ci := 12) ⟨by decide, rfl⟩ (by assumption) (c_fails w D μ h.1 (k := 12) e18 e19) sv1 rfl (by omega) (Nat.le_of_ble_eq_true rfl) (Nat.le_refl _) (Nat.le_refl _) (fun v μ1 hR => ?_)
    obtain ⟨rfl, hE⟩ := hR
    have er : idPart n B op inn s = .inl (12, s.1, op) := by
      unfold idPart
      rw [pI_f hc1, pI_f hc2, pI_t (by omega)]
    rw [er]
    exact G.retZ dX12_readPart_104 rfl (Or.inl rfl) ⟨rfl, h.er hE⟩
theorem l_p64_1 {w : WC} {m D : Nat} {F : Int → List Tm} {n : Int} {B : Int → Int} {fo op : Int} {inn : IdR} (hsum : op < 6 → (∀ (μ : Mem) (s : IdS), ImK w μ m F n B s → mI μ m 18 = fo → mI μ m 19 = op + 1 → Con w D mX12_readSum 0 0 [vP (some m)] μ (ImP w m F n B fo (op + 1) (inn s) μ))) (hD : 4 ≤ D) (hop : 0 ≤ op ∧ op ≤ 6) {μ : Mem} {s : IdS} (h : ImK w μ m F n B s) (e18 : mI μ m 18 = fo) (e19 : mI μ m 19 = op) (hc1 : ¬ (¬ isN n B (tP n B s.1) ∧ ltT n B (tP n B s.1) = -1 ∧ ¬ isSg n B (tP n B s.1) 40)) (hl : ¬ ltT n B (tP n B s.1) = -1) : G w (D + 1) mX12_readPart (ImP w m F n B fo op (idPart n B op inn s) μ) 0 0 64 [some (vP (some m)), some (vI 1)] [] μ := by
  have o0 := h.1.1.o
  have hbb := h.2.2.2.2
  have e38 := h.2.2.1.2.1
  have f12 := h.1.2.2.1.2.2.1
  have f15 := h.1.2.2.1.2.2.2.1
  have f16 := h.1.2.2.1.2.2.2.2.1
  have hl6 := ltT_bd n B (tP n B s.1)
  refine g_aload_n (j := 0) rfl dX12_readPart_64 ?_
  refine g_bipush dX12_readPart_65 (by omega) ?_
  refine g_callV dX12_readPart_67 mlX12_184 mvX12_isSign (ci := 12) ⟨by decide, rfl⟩ (by assumption) (c_isSign12 w D μ h.1 (c := 40) (by omega)) sv1 rfl (by omega) (Nat.le_of_ble_eq_true rfl) (Nat.le_refl _) (Nat.le_refl _) (fun v μ2 hR => ?_)
  obtain ⟨rfl, hm⟩ := hR
  replace hm := hm.symm
  subst hm
  refine g_ifb_eq (tgt := 89) dX12_readPart_70 (by decide)  (fun h70 => ?_) (fun h70 => ?_)
  · exact l_p89_1 hsum hD hop h e18 e19 hc1 (fun z => h70 z.1) hl
  · refine g_aload_n (j := 0) rfl dX12_readPart_73 ?_
    refine g_getI dX12_readPart_74 flX12_165 rfl (by assumption) (kz := 19) rfl ?_
    rw [e19]
    refine g_bipush dX12_readPart_77 (by omega) ?_
    refine g_icmp_ne (tgt := 89) dX12_readPart_79 (by decide) (by omega) (by omega) (fun h79 => ?_) (fun h79 => ?_)
    · exact l_p89_1 hsum hD hop h e18 e19 hc1 (fun z => by omega) hl
    · refine g_aload_n (j := 0) rfl dX12_readPart_82 ?_
      refine g_bipush dX12_readPart_83 (by omega) ?_
      refine g_callV dX12_readPart_85 mlX12_187 mvX12_fails (ci := 12) ⟨by decide, rfl⟩ (by assumption) (c_fails w D μ h.1 (k := 11) e18 e19) sv1 rfl (by omega) (Nat.le_of_ble_eq_true rfl) (Nat.le_refl _) (Nat.le_refl _) (fun v μ1 hR => ?_)
      obtain ⟨rfl, hE⟩ := hR
      have er : idPart n B op inn s = .inl (11, s.1, op) := by
        unfold idPart
        rw [pI_f hc1, pI_t ⟨h70, by omega⟩]
      rw [er]
      exact G.retZ dX12_readPart_88 rfl (Or.inl rfl) ⟨rfl, h.er hE⟩
theorem l_p38_1 {w : WC} {m D : Nat} {F : Int → List Tm} {n : Int} {B : Int → Int} {fo op : Int} {inn : IdR} (hsum : op < 6 → (∀ (μ : Mem) (s : IdS), ImK w μ m F n B s → mI μ m 18 = fo → mI μ m 19 = op + 1 → Con w D mX12_readSum 0 0 [vP (some m)] μ (ImP w m F n B fo (op + 1) (inn s) μ))) (hD : 4 ≤ D) (hop : 0 ≤ op ∧ op ≤ 6) {μ : Mem} {s : IdS} (h : ImK w μ m F n B s) (e18 : mI μ m 18 = fo) (e19 : mI μ m 19 = op) (hl : ¬ ltT n B (tP n B s.1) = -1) : G w (D + 1) mX12_readPart (ImP w m F n B fo op (idPart n B op inn s) μ) 0 0 38 [some (vP (some m)), some (vI 1)] [] μ := by
  have o0 := h.1.1.o
  have hbb := h.2.2.2.2
  have e38 := h.2.2.1.2.1
  have f12 := h.1.2.2.1.2.2.1
  have f15 := h.1.2.2.1.2.2.2.1
  have f16 := h.1.2.2.1.2.2.2.2.1
  have hl6 := ltT_bd n B (tP n B s.1)
  refine g_aload_n (j := 0) rfl dX12_readPart_38 ?_
  refine g_callV dX12_readPart_39 mlX12_214 mvX12_isNumber (ci := 12) ⟨by decide, rfl⟩ (by assumption) (c_isNumber12 w D μ h.1) sv0 rfl (by omega) (Nat.le_of_ble_eq_true rfl) (Nat.le_refl _) (Nat.le_refl _) (fun v μ2 hR => ?_)
  obtain ⟨rfl, hm⟩ := hR
  replace hm := hm.symm
  subst hm
  refine g_ifb_ne (tgt := 64) dX12_readPart_42 (by decide)  (fun h42 => ?_) (fun h42 => ?_)
  · exact l_p64_1 hsum hD hop h e18 e19 (fun z => z.1 h42) hl
  · refine g_iload_n (j := 1) rfl dX12_readPart_45 ?_
    refine g_if_ne (tgt := 64) dX12_readPart_46 (by decide) (by omega) (fun h46 => ?_) (fun h46 => ?_)
    · exact l_p64_1 hsum hD hop h e18 e19 (fun z => hl z.2.1) hl
    · omega
theorem c_X12_readPart (w : WC) {m D : Nat} {F : Int → List Tm} {n : Int} {B : Int → Int} {fo op : Int} {inn : IdR} (hsum : op < 6 → (∀ (μ : Mem) (s : IdS), ImK w μ m F n B s → mI μ m 18 = fo → mI μ m 19 = op + 1 → Con w D mX12_readSum 0 0 [vP (some m)] μ (ImP w m F n B fo (op + 1) (inn s) μ))) (hD : 4 ≤ D) (hop : 0 ≤ op ∧ op ≤ 6) (μ : Mem) (s : IdS) (h : ImK w μ m F n B s) (e18 : mI μ m 18 = fo) (e19 : mI μ m 19 = op) : Con w (D + 1) mX12_readPart 0 0 [vP (some m)] μ (ImP w m F n B fo op (idPart n B op inn s) μ) := by
  have o0 := h.1.1.o
  have hbb := h.2.2.2.2
  have e38 := h.2.2.1.2.1
  have f12 := h.1.2.2.1.2.2.1
  have f15 := h.1.2.2.1.2.2.2.1
  have f16 := h.1.2.2.1.2.2.2.2.1
  have hl6 := ltT_bd n B (tP n B s.1)
  have f13 := h.1.2.2.1.1
  have f14 := h.1.2.2.1.2.1
  have hO := h.1.2.1.2.1.1
  have hp := tP_bd (n := n) (B := B) (by omega) s.1
  have he := en_bd (n := n) (B := B) (p := tP n B s.1) (by omega)
  have hW := lt12 n B (tP n B s.1)
  have hm2 := mS2_c n B (tP n B s.1)
  refine Con.of (by decide) (Nat.le_of_ble_eq_true rfl) rfl ?_
  refine g_aload_n (j := 0) rfl dX12_readPart_0 ?_
  refine g_getI dX12_readPart_1 flX12_142 rfl (by assumption) (kz := 12) rfl ?_
  rw [f12]
  refine g_iconst dX12_readPart_4 ?_
  refine g_icmp_ne (tgt := 36) dX12_readPart_5 (by decide) (by omega) (by omega) (fun h5 => ?_) (fun h5 => ?_)
  · refine g_iconst dX12_readPart_36 ?_
    refine g_istore_n (j := 1) dX12_readPart_37 (by decide) rfl ls1 ?_
    exact l_p38_0 hsum hD hop h e18 e19 (hW.2.1 (fun z => h5 z.1))
  · refine g_aload_n (j := 0) rfl dX12_readPart_8 ?_
    refine g_getI dX12_readPart_9 flX12_122 rfl (by assumption) (kz := 14) rfl ?_
    rw [f14]
    refine g_aload_n (j := 0) rfl dX12_readPart_12 ?_
    refine g_getI dX12_readPart_13 flX12_129 rfl (by assumption) (kz := 13) rfl ?_
    rw [f13]
    refine g_isub dX12_readPart_16 ?_
    refine g_iconst dX12_readPart_17 ?_
    refine g_icmp_ne (tgt := 36) dX12_readPart_18 (by decide) (by omega) (by omega) (fun h18 => ?_) (fun h18 => ?_)
    · refine g_iconst dX12_readPart_36 ?_
      refine g_istore_n (j := 1) dX12_readPart_37 (by decide) rfl ls1 ?_
      exact l_p38_0 hsum hD hop h e18 e19 (hW.2.1 (fun z => h18 z.2.1))
    · refine g_aload_n (j := 0) rfl dX12_readPart_21 ?_
      refine g_getJ dX12_readPart_22 flX12_132 rfl (by assumption) (kz := 15) rfl ?_
      rw [f15]
      have hwb := hW.2.2.2 (by omega) (by omega)
      refine g_ldc2 dX12_readPart_25 klX12_353 (z := 6) rfl ?_
      refine g_lif_gt (tgt := 36) dX12_readPart_28 dX12_readPart_29 (by decide) (by omega) (by omega) (fun h28 => ?_) (fun h28 => ?_)
      · refine g_iconst dX12_readPart_36 ?_
        refine g_istore_n (j := 1) dX12_readPart_37 (by decide) rfl ls1 ?_
        exact l_p38_0 hsum hD hop h e18 e19 (hW.2.1 (fun z => by omega))
      · refine g_iconst dX12_readPart_32 ?_
        refine g_goto (tgt := 37) (by decide) dX12_readPart_33 ?_
        refine g_istore_n (j := 1) dX12_readPart_37 (by decide) rfl ls1 ?_
        exact l_p38_1 hsum hD hop h e18 e19 (hW.1 (by omega) (by omega) (by omega)).1
theorem c_X12_lev (w : WC) {m : Nat} {F : Int → List Tm} {n : Int} {B : Int → Int} {fo : Int} : ∀ (k : Nat) {op : Int}, op = 6 - (k : Int) → k ≤ 6 → (∀ (μ : Mem) (s : IdS), ImK w μ m F n B s → mI μ m 18 = fo → mI μ m 19 = op → Con w (4 * k + 8) mX12_readSum 0 0 [vP (some m)] μ (ImP w m F n B fo (op) (idLev n B k s) μ)) := by
  intro k
  induction k with
  | zero =>
    intro op hop _
    have e : op = 6 := by omega
    subst e
    exact c_X12_readSum w (c_X12_readProduct w (c_X12_readPower w (c_X12_readPart w (D := 4) (inn := fun s => .inl (11, s.1, 6)) (fun z => absurd z (by omega)) (by omega) (by omega)) (Gr_part fun s s2 h => by cases h) (by omega)) (Gr_pow (Gr_part fun s s2 h => by cases h)) (by omega)) (Gr_prod (Gr_pow (Gr_part fun s s2 h => by cases h))) (by omega)
  | succ k ih =>
    intro op hop hk
    have e : op = 5 - (k : Int) := by omega
    subst e
    have e2 : 4 * (k + 1) + 8 = 4 * k + 8 + 1 + 1 + 1 + 1 := by omega
    rw [e2]
    exact c_X12_readSum w (c_X12_readProduct w (c_X12_readPower w (c_X12_readPart w (D := 4 * k + 8) (fun _ => ih (by omega) (by omega)) (by omega) (by omega)) (Gr_part (Gr_lev n B k)) (by omega)) (Gr_pow (Gr_part (Gr_lev n B k))) (by omega)) (Gr_prod (Gr_pow (Gr_part (Gr_lev n B k)))) (by omega)
