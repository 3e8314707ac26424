/-! SERIES: addLikeLines -/
/-- what is lost: from place a to b, each less the one cut places ahead -/
def dnF (g : Int → Int) (a b cut : Int) : Int → Int := fun k => if a + cut ≤ k ∧ k ≤ b then g k - g (k - cut) else g k
/-- what is gained: each and all that stand step, 2 step .. places ahead of it, from a on -/
def upN (g : Int → Int) (a step : Int) : Nat → Int → Int
  | 0, k => g k
  | n + 1, k => if a + step ≤ k then g k + upN g a step n (k - step) else g k
theorem upN_more {g : Int → Int} {a step : Int} (hs : 1 ≤ step) : ∀ (n m : Nat) (k : Int), k - a ≤ n → k - a ≤ m → upN g a step n k = upN g a step m k := by
  intro n
  induction n with
  | zero =>
    intro m k hn hm
    cases m with
    | zero => rfl
    | succ m => rw [upN, upN, if_neg (by omega)]
  | succ n ih =>
    intro m k hn hm
    cases m with
    | zero => rw [upN, upN, if_neg (by omega)]
    | succ m =>
      rw [upN, upN]
      by_cases h : a + step ≤ k
      · rw [if_pos h, if_pos h, ih m (k - step) (by omega) (by omega)]
      · rw [if_neg h, if_neg h]
def upF (g : Int → Int) (a b step : Int) : Int → Int := fun k => if a ≤ k ∧ k ≤ b then upN g a step (k - a).toNat k else g k
theorem upF_step {g : Int → Int} {a b step k : Int} (hs : 1 ≤ step) (h1 : a + step ≤ k) (h2 : k ≤ b) : upF g a b step k = g k + upF g a b step (k - step) := by
  unfold upF
  rw [if_pos ⟨by omega, h2⟩, if_pos ⟨by omega, by omega⟩]
  obtain ⟨n, hn⟩ : ∃ n : Nat, (k - a).toNat = n + 1 := ⟨(k - a).toNat - 1, by omega⟩
  rw [hn, upN, if_pos h1, upN_more hs n (k - step - a).toNat (k - step) (by omega) (by omega)]
theorem upF_low {g : Int → Int} {a b step k : Int} (h1 : k < a + step ∨ b < k) (hs : 1 ≤ step) : upF g a b step k = g k := by
  unfold upF
  by_cases h : a ≤ k ∧ k ≤ b
  · rw [if_pos h]
    cases (k - a).toNat with
    | zero => rfl
    | succ n => rw [upN, if_neg (by omega)]
  · rw [if_neg h]
/-- the whole of it, for like 1, 2 .. -/
def lkL (g : Int → Int) (a b f len : Int) : Nat → Int → Int
  | 0 => g
  | n + 1 => upF (dnF (lkL g a b f len n) a b (f * (len + ((n : Int) + 1)))) a b (f * ((n : Int) + 1))
section LL
variable {w : WC} {d : Nat} {μ : Mem} {s c N : Nat} {Pq : Option AV → Mem → Prop}
theorem l_lines_dn (hS : SeS w μ s c N) {v1 v3 v4 v7 v8 a b cut : Int} {p2 : Nat} {x11 : Option AV} (h0 : 0 ≤ a) (hab : a ≤ b + 1) (hN : b < N) (hc : 1 ≤ cut) (hB : b ≤ 1000000000 ∧ cut ≤ 1000000000 ∧ a ≤ 1000000000) (g0 : Int → Int)
    (kk : ∀ u : Int, G w d mX7_addLikeLines Pq 0 0 98 [some (vP (some s)), some (vI v1), some (vP (some p2)), some (vI v3), some (vI v4), some (vI a), some (vI b), some (vI v7), some (vI v8), some (vI cut), some (vI u), x11] [] (wL μ c (dnF g0 a b cut))) : ∀ (n : Nat) (u : Int) (g : Int → Int), u ≤ b → (u - (a + cut) + 1 = n ∨ (n = 0 ∧ u < a + cut)) → -1000000000 ≤ u → (∀ k, g k = if a + cut ≤ k ∧ u < k ∧ k ≤ b then g0 k - g0 (k - cut) else g0 k) →
    G w d mX7_addLikeLines Pq 0 0 62 [some (vP (some s)), some (vI v1), some (vP (some p2)), some (vI v3), some (vI v4), some (vI a), some (vI b), some (vI v7), some (vI v8), some (vI cut), some (vI u), x11] [] (wL μ c g) := by
  intro n
  obtain ⟨o0, r0, r1, a1, a2⟩ := hS
  induction n with
  | zero =>
    intro u g hu hn hm hg
    refine g_iload (i := 10) rfl dX7_addLikeLines_62 ?_
    refine g_iload (i := 5) rfl dX7_addLikeLines_64 ?_
    refine g_iload (i := 9) rfl dX7_addLikeLines_66 ?_
    refine g_iadd dX7_addLikeLines_68 ?_
    refine g_icmp_lt (tgt := 98) dX7_addLikeLines_69 (by decide) (by omega) (by omega) (fun h69 => ?_) (fun h69 => ?_)
    · rw [show g = dnF g0 a b cut from funext fun k => by
        rw [hg]
        unfold dnF
        congr 1
        exact propext ⟨fun q => ⟨q.1, q.2.2⟩, fun q => ⟨q.1, by omega, q.2⟩⟩]
      exact kk u
    · omega
  | succ n ih =>
    intro u g hu hn hm hg
    have hg1 : g u = g0 u := by rw [hg, if_neg (by omega)]
    have hg2 : g (u - cut) = g0 (u - cut) := by rw [hg, if_neg (by omega)]
    refine g_iload (i := 10) rfl dX7_addLikeLines_62 ?_
    refine g_iload (i := 5) rfl dX7_addLikeLines_64 ?_
    refine g_iload (i := 9) rfl dX7_addLikeLines_66 ?_
    refine g_iadd dX7_addLikeLines_68 ?_
    refine g_icmp_lt (tgt := 98) dX7_addLikeLines_69 (by decide) (by omega) (by omega) (fun h69 => ?_) (fun h69 => ?_)
    · omega
    · refine g_aload_n (j := 0) rfl dX7_addLikeLines_72 ?_
      refine g_getR dX7_addLikeLines_73 flX7_15 rfl (by simp only [IsO_sI, IsO_sL, IsO_sR, IsO_wI, IsO_wL, IsA_sI, IsA_sL, IsA_sR, IsA_wI, IsA_wL, mR_sI, mR_sL, mR_wI, mR_wL]; assumption) (kz := 1) rfl (by simp only [IsO_sI, IsO_sL, IsO_sR, IsO_wI, IsO_wL, IsA_sI, IsA_sL, IsA_sR, IsA_wI, IsA_wL, mR_sI, mR_sL, mR_wI, mR_wL]; assumption) ?_
      refine g_iload (i := 10) rfl dX7_addLikeLines_76 ?_
      refine g_dup2 rfl rfl dX7_addLikeLines_78 ?_
      refine g_laldv dX7_addLikeLines_79 (by simp only [IsO_sI, IsO_sL, IsO_sR, IsO_wI, IsO_wL, IsA_sI, IsA_sL, IsA_sR, IsA_wI, IsA_wL, mR_sI, mR_sL, mR_wI, mR_wL]; assumption) (by omega) (by omega) (by simp [mI_sI, mI_sL, mI_sR, mI_wI, mI_wL, mL_sI, mL_sL, mL_sR, mL_wI, mL_wL]; rfl) ?_
      refine g_aload_n (j := 0) rfl dX7_addLikeLines_80 ?_
      refine g_getR dX7_addLikeLines_81 flX7_15 rfl (by simp only [IsO_sI, IsO_sL, IsO_sR, IsO_wI, IsO_wL, IsA_sI, IsA_sL, IsA_sR, IsA_wI, IsA_wL, mR_sI, mR_sL, mR_wI, mR_wL]; assumption) (kz := 1) rfl (by simp only [IsO_sI, IsO_sL, IsO_sR, IsO_wI, IsO_wL, IsA_sI, IsA_sL, IsA_sR, IsA_wI, IsA_wL, mR_sI, mR_sL, mR_wI, mR_wL]; assumption) ?_
      refine g_iload (i := 10) rfl dX7_addLikeLines_84 ?_
      refine g_iload (i := 9) rfl dX7_addLikeLines_86 ?_
      refine g_isub dX7_addLikeLines_88 ?_
      refine g_laldv dX7_addLikeLines_89 (by simp only [IsO_sI, IsO_sL, IsO_sR, IsO_wI, IsO_wL, IsA_sI, IsA_sL, IsA_sR, IsA_wI, IsA_wL, mR_sI, mR_sL, mR_wI, mR_wL]; assumption) (by omega) (by omega) (by simp [mI_sI, mI_sL, mI_sR, mI_wI, mI_wL, mL_sI, mL_sL, mL_sR, mL_wI, mL_wL]; rfl) ?_
      refine g_lsub dX7_addLikeLines_90 ?_
      refine g_last dX7_addLikeLines_91 (by simp only [IsO_sI, IsO_sL, IsO_sR, IsO_wI, IsO_wL, IsA_sI, IsA_sL, IsA_sR, IsA_wI, IsA_wL, mR_sI, mR_sL, mR_wI, mR_wL]; assumption) (by omega) (by omega) ?_
      refine g_iinc (i := 10) dX7_addLikeLines_92 rfl (by decide) rfl ls10 ?_
      refine g_goto (tgt := 62) (by decide) dX7_addLikeLines_95 ?_
      rw [sL_wL]
      refine ih (u + -1) _ (by omega) (by omega) (by omega) fun k => ?_
      by_cases hk : k = u
      · rw [if_pos hk, if_pos (by omega), hg1, hg2, hk]
      · rw [if_neg hk, hg]
        congr 1
        exact propext ⟨fun q => ⟨q.1, by omega, q.2.2⟩, fun q => ⟨q.1, by omega, q.2.2⟩⟩
theorem l_lines_up (hS : SeS w μ s c N) {v1 v3 v4 v7 v8 v9 a b step : Int} {p2 : Nat} (h0 : 0 ≤ a) (hab : a ≤ b + 1) (hN : b < N) (hc : 1 ≤ step) (hB : b ≤ 1000000000 ∧ step ≤ 1000000000 ∧ a ≤ 1000000000) (g0 : Int → Int)
    (kk : ∀ u : Int, G w d mX7_addLikeLines Pq 0 0 149 [some (vP (some s)), some (vI v1), some (vP (some p2)), some (vI v3), some (vI v4), some (vI a), some (vI b), some (vI v7), some (vI v8), some (vI v9), some (vI step), some (vI u)] [] (wL μ c (upF g0 a b step))) : ∀ (n : Nat) (u : Int) (g : Int → Int), a + step ≤ u → (b + 1 - u = n ∨ (n = 0 ∧ b < u)) → u ≤ 2000000000 → (∀ k, g k = if k < u then upF g0 a b step k else g0 k) →
    G w d mX7_addLikeLines Pq 0 0 116 [some (vP (some s)), some (vI v1), some (vP (some p2)), some (vI v3), some (vI v4), some (vI a), some (vI b), some (vI v7), some (vI v8), some (vI v9), some (vI step), some (vI u)] [] (wL μ c g) := by
  intro n
  obtain ⟨o0, r0, r1, a1, a2⟩ := hS
  induction n with
  | zero =>
    intro u g hu hn hm hg
    refine g_iload (i := 11) rfl dX7_addLikeLines_116 ?_
    refine g_iload (i := 6) rfl dX7_addLikeLines_118 ?_
    refine g_icmp_gt (tgt := 149) dX7_addLikeLines_120 (by decide) (by omega) (by omega) (fun h120 => ?_) (fun h120 => ?_)
    · rw [show g = upF g0 a b step from funext fun k => by
        rw [hg]
        by_cases hk : k < u
        · rw [if_pos hk]
        · rw [if_neg hk, upF_low (by omega) hc]]
      exact kk u
    · omega
  | succ n ih =>
    intro u g hu hn hm hg
    have hg1 : g u = g0 u := by rw [hg, if_neg (by omega)]
    have hg2 : g (u - step) = upF g0 a b step (u - step) := by rw [hg, if_pos (by omega)]
    refine g_iload (i := 11) rfl dX7_addLikeLines_116 ?_
    refine g_iload (i := 6) rfl dX7_addLikeLines_118 ?_
    refine g_icmp_gt (tgt := 149) dX7_addLikeLines_120 (by decide) (by omega) (by omega) (fun h120 => ?_) (fun h120 => ?_)
    · omega
    · refine g_aload_n (j := 0) rfl dX7_addLikeLines_123 ?_
      refine g_getR dX7_addLikeLines_124 flX7_15 rfl (by simp only [IsO_sI, IsO_sL, IsO_sR, IsO_wI, IsO_wL, IsA_sI, IsA_sL, IsA_sR, IsA_wI, IsA_wL, mR_sI, mR_sL, mR_wI, mR_wL]; assumption) (kz := 1) rfl (by simp only [IsO_sI, IsO_sL, IsO_sR, IsO_wI, IsO_wL, IsA_sI, IsA_sL, IsA_sR, IsA_wI, IsA_wL, mR_sI, mR_sL, mR_wI, mR_wL]; assumption) ?_
      refine g_iload (i := 11) rfl dX7_addLikeLines_127 ?_
      refine g_dup2 rfl rfl dX7_addLikeLines_129 ?_
      refine g_laldv dX7_addLikeLines_130 (by simp only [IsO_sI, IsO_sL, IsO_sR, IsO_wI, IsO_wL, IsA_sI, IsA_sL, IsA_sR, IsA_wI, IsA_wL, mR_sI, mR_sL, mR_wI, mR_wL]; assumption) (by omega) (by omega) (by simp [mI_sI, mI_sL, mI_sR, mI_wI, mI_wL, mL_sI, mL_sL, mL_sR, mL_wI, mL_wL]; rfl) ?_
      refine g_aload_n (j := 0) rfl dX7_addLikeLines_131 ?_
      refine g_getR dX7_addLikeLines_132 flX7_15 rfl (by simp only [IsO_sI, IsO_sL, IsO_sR, IsO_wI, IsO_wL, IsA_sI, IsA_sL, IsA_sR, IsA_wI, IsA_wL, mR_sI, mR_sL, mR_wI, mR_wL]; assumption) (kz := 1) rfl (by simp only [IsO_sI, IsO_sL, IsO_sR, IsO_wI, IsO_wL, IsA_sI, IsA_sL, IsA_sR, IsA_wI, IsA_wL, mR_sI, mR_sL, mR_wI, mR_wL]; assumption) ?_
      refine g_iload (i := 11) rfl dX7_addLikeLines_135 ?_
      refine g_iload (i := 10) rfl dX7_addLikeLines_137 ?_
      refine g_isub dX7_addLikeLines_139 ?_
      refine g_laldv dX7_addLikeLines_140 (by simp only [IsO_sI, IsO_sL, IsO_sR, IsO_wI, IsO_wL, IsA_sI, IsA_sL, IsA_sR, IsA_wI, IsA_wL, mR_sI, mR_sL, mR_wI, mR_wL]; assumption) (by omega) (by omega) (by simp [mI_sI, mI_sL, mI_sR, mI_wI, mI_wL, mL_sI, mL_sL, mL_sR, mL_wI, mL_wL]; rfl) ?_
      refine g_ladd dX7_addLikeLines_141 ?_
      refine g_last dX7_addLikeLines_142 (by simp only [IsO_sI, IsO_sL, IsO_sR, IsO_wI, IsO_wL, IsA_sI, IsA_sL, IsA_sR, IsA_wI, IsA_wL, mR_sI, mR_sL, mR_wI, mR_wL]; assumption) (by omega) (by omega) ?_
      refine g_iinc (i := 11) dX7_addLikeLines_143 rfl (by decide) rfl ls11 ?_
      refine g_goto (tgt := 116) (by decide) dX7_addLikeLines_146 ?_
      rw [sL_wL]
      refine ih (u + 1) _ (by omega) (by omega) (by omega) fun k => ?_
      by_cases hk : k = u
      · rw [if_pos hk, if_pos (by omega), hg1, hg2, hk, ← upF_step hc hu (by omega)]
      · rw [if_neg hk, hg]
        congr 1
        exact propext ⟨fun q => by omega, fun q => by omega⟩
theorem l_lines (hS : SeS w μ s c N) {q : Nat} (hF : FoS w μ q) {u : Tm} {v1 t like a b : Int} (ht : 0 ≤ t ∧ t < 5) (hu : TOk u) (g1 : mI μ (q + 1) t = tF u) (g3 : mI μ (q + 3) t = tL u) (g4 : mI μ (q + 4) t = tH u) (h0 : 0 ≤ a) (hab : a ≤ b + 1) (hN : b < N) (hB : b ≤ 100000000) (hlk : like ≤ 5) (g0 : Int → Int)
    (kk : Pq none (wL μ c (lkL g0 a b (tF u) (tH u - tL u) like.toNat))) (hl0 : 0 ≤ like) : ∀ (n : Nat) (j : Int) (x9 x10 x11 : Option AV), 1 ≤ j → like + 1 - j = n → j ≤ 100 →
    G w d mX7_addLikeLines Pq 0 0 37 [some (vP (some s)), some (vI v1), some (vP (some q)), some (vI t), some (vI like), some (vI a), some (vI b), some (vI (tH u - tL u)), some (vI j), x9, x10, x11] [] (wL μ c (lkL g0 a b (tF u) (tH u - tL u) (j - 1).toNat)) := by
  have hS0 := hS
  obtain ⟨⟨f1, f2⟩, -, ⟨l1, l2, l3⟩, -, -⟩ := hu
  obtain ⟨o0, r0, r1, a1, a2⟩ := hS
  obtain ⟨p0, ⟨q1, q2, q3, q4, q5, q6⟩, b1, b2, b3, b4, b5, b6⟩ := hF
  intro n
  induction n with
  | zero =>
    intro j x9 x10 x11 hj hn hm
    refine g_iload (i := 8) rfl dX7_addLikeLines_37 ?_
    refine g_iload (i := 4) rfl dX7_addLikeLines_39 ?_
    refine g_icmp_gt (tgt := 155) dX7_addLikeLines_41 (by decide) (by omega) (by omega) (fun h41 => ?_) (fun h41 => ?_)
    · rw [show (j - 1).toNat = like.toNat by omega]
      exact G.retV dX7_addLikeLines_155 rfl kk
    · omega
  | succ n ih =>
    intro j x9 x10 x11 hj hn hm
    have hm1 : 1 ≤ tF u * (tH u - tL u + j) := by
      have := Int.mul_le_mul f1 (show 1 ≤ tH u - tL u + j by omega) (by omega) (by omega)
      omega
    have hm2 : tF u * (tH u - tL u + j) ≤ 99 * 6100 := Int.mul_le_mul f2 (by omega) (by omega) (by omega)
    have hm3 : 1 ≤ tF u * j := by
      have := Int.mul_le_mul f1 hj (by omega) (by omega)
      omega
    have hm4 : tF u * j ≤ 99 * 100 := Int.mul_le_mul f2 (by omega) (by omega) (by omega)
    refine g_iload (i := 8) rfl dX7_addLikeLines_37 ?_
    refine g_iload (i := 4) rfl dX7_addLikeLines_39 ?_
    refine g_icmp_gt (tgt := 155) dX7_addLikeLines_41 (by decide) (by omega) (by omega) (fun h41 => ?_) (fun h41 => ?_)
    · omega
    · refine g_aload_n (j := 2) rfl dX7_addLikeLines_44 ?_
      refine g_getR dX7_addLikeLines_45 flX7_95 rfl (by simp only [IsO_sI, IsO_sL, IsO_sR, IsO_wI, IsO_wL, IsA_sI, IsA_sL, IsA_sR, IsA_wI, IsA_wL, mR_sI, mR_sL, mR_wI, mR_wL]; assumption) (kz := 1) rfl (by simp only [IsO_sI, IsO_sL, IsO_sR, IsO_wI, IsO_wL, IsA_sI, IsA_sL, IsA_sR, IsA_wI, IsA_wL, mR_sI, mR_sL, mR_wI, mR_wL]; assumption) ?_
      refine g_iload_n (j := 3) rfl dX7_addLikeLines_48 ?_
      refine g_ialdv dX7_addLikeLines_49 (by simp only [IsO_sI, IsO_sL, IsO_sR, IsO_wI, IsO_wL, IsA_sI, IsA_sL, IsA_sR, IsA_wI, IsA_wL, mR_sI, mR_sL, mR_wI, mR_wL]; assumption) (by omega) (by omega) (by simp [mI_sI, mI_sL, mI_sR, mI_wI, mI_wL, mL_sI, mL_sL, mL_sR, mL_wI, mL_wL, g1, g3, g4]; rfl) ?_
      refine g_iload (i := 7) rfl dX7_addLikeLines_50 ?_
      refine g_iload (i := 8) rfl dX7_addLikeLines_52 ?_
      refine g_iadd dX7_addLikeLines_54 ?_
      refine g_imul dX7_addLikeLines_55 ?_
      refine g_istore (i := 9) dX7_addLikeLines_56 (by decide) rfl ls9 ?_
      refine g_iload (i := 6) rfl dX7_addLikeLines_58 ?_
      refine g_istore (i := 10) dX7_addLikeLines_60 (by decide) rfl ls10 ?_
      refine l_lines_dn hS0 h0 hab hN hm1 (by omega) (lkL g0 a b (tF u) (tH u - tL u) (j - 1).toNat) (fun z => ?_) (b - (a + tF u * (tH u - tL u + j)) + 1).toNat b _ (by omega) (by omega) (by omega) (fun k => by rw [if_neg (by omega)])
      refine g_aload_n (j := 2) rfl dX7_addLikeLines_98 ?_
      refine g_getR dX7_addLikeLines_99 flX7_95 rfl (by simp only [IsO_sI, IsO_sL, IsO_sR, IsO_wI, IsO_wL, IsA_sI, IsA_sL, IsA_sR, IsA_wI, IsA_wL, mR_sI, mR_sL, mR_wI, mR_wL]; assumption) (kz := 1) rfl (by simp only [IsO_sI, IsO_sL, IsO_sR, IsO_wI, IsO_wL, IsA_sI, IsA_sL, IsA_sR, IsA_wI, IsA_wL, mR_sI, mR_sL, mR_wI, mR_wL]; assumption) ?_
      refine g_iload_n (j := 3) rfl dX7_addLikeLines_102 ?_
      refine g_ialdv dX7_addLikeLines_103 (by simp only [IsO_sI, IsO_sL, IsO_sR, IsO_wI, IsO_wL, IsA_sI, IsA_sL, IsA_sR, IsA_wI, IsA_wL, mR_sI, mR_sL, mR_wI, mR_wL]; assumption) (by omega) (by omega) (by simp [mI_sI, mI_sL, mI_sR, mI_wI, mI_wL, mL_sI, mL_sL, mL_sR, mL_wI, mL_wL, g1, g3, g4]; rfl) ?_
      refine g_iload (i := 8) rfl dX7_addLikeLines_104 ?_
      refine g_imul dX7_addLikeLines_106 ?_
      refine g_istore (i := 10) dX7_addLikeLines_107 (by decide) rfl ls10 ?_
      refine g_iload (i := 5) rfl dX7_addLikeLines_109 ?_
      refine g_iload (i := 10) rfl dX7_addLikeLines_111 ?_
      refine g_iadd dX7_addLikeLines_113 ?_
      refine g_istore (i := 11) dX7_addLikeLines_114 (by decide) rfl ls11 ?_
      refine l_lines_up hS0 h0 hab hN hm3 (by omega) (dnF (lkL g0 a b (tF u) (tH u - tL u) (j - 1).toNat) a b (tF u * (tH u - tL u + j))) (fun z => ?_) (b + 1 - (a + tF u * j)).toNat (a + tF u * j) _ (by omega) (by omega) (by omega) (fun k => by
        by_cases hk : k < a + tF u * j
        · rw [if_pos hk, upF_low (by omega) hm3]
        · rw [if_neg hk])
      refine g_iinc (i := 8) dX7_addLikeLines_149 rfl (by decide) rfl ls8 ?_
      refine g_goto (tgt := 37) (by decide) dX7_addLikeLines_152 ?_
      have e : upF (dnF (lkL g0 a b (tF u) (tH u - tL u) (j - 1).toNat) a b (tF u * (tH u - tL u + j))) a b (tF u * j) = lkL g0 a b (tF u) (tH u - tL u) (j + 1 - 1).toNat := by
        rw [show (j + 1 - 1).toNat = (j - 1).toNat + 1 by omega, lkL, show (((j - 1).toNat : Int) + 1) = j by omega]
      rw [e]
      exact ih (j + 1) _ _ _ (by omega) (by omega) (by omega)
end LL
