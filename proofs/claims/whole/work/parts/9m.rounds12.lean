/-! THE MODEL: layers of a kind -/
def cuT (c : Nat) (u : Tm) : Tm := ((c : Int) * tF u, tK u, tL u, tH u)
theorem cuT_v (c : Nat) (u : Tm) (x : Int) : tV (cuT c u) x = (c : Int) * tV u x := Int.mul_assoc _ _ _
theorem wyP_cu (c : Nat) (u : Tm) (f : Int → Int) : wyP (cuT c u) f = opP u c f := funext fun n => rsum_congr _ _ fun x _ _ => by rw [cuT_v]
def smM : Mo → Nat
  | [] => 0
  | q :: mo => q.2 + smM mo
theorem evM_su {T : Nat → Tm} : ∀ (mo : Mo), (∀ q ∈ mo, TOk (T q.1)) → ∀ n : Int, n < -3000 * (smM mo : Int) ∨ 3000 * (smM mo : Int) < n → evM T mo dlt n = 0
  | [], _, n, h => by
    show dlt n = 0
    unfold dlt
    unfold smM at h
    rw [if_neg (by omega)]
  | q :: mo, hT, n, h => by
    have hq := hT q List.mem_cons_self
    show rsum _ _ _ = 0
    refine rsum_0 _ _ fun x z1 z2 => ?_
    have hv := hq.v3 (x := x) z1 (by have := hq.2.2.1; omega)
    have b1 : -3000 * (q.2 : Int) ≤ (q.2 : Int) * tV (T q.1) x ∧ (q.2 : Int) * tV (T q.1) x ≤ 3000 * (q.2 : Int) := by
      have h1 := Int.mul_le_mul_of_nonneg_left hv.1 (Int.natCast_nonneg q.2)
      have h2 := Int.mul_le_mul_of_nonneg_left hv.2 (Int.natCast_nonneg q.2)
      omega
    unfold smM at h
    exact evM_su mo (fun r hr => hT r (List.mem_cons_of_mem _ hr)) _ (by omega)
theorem mnB_app (b c : Nat) : ∀ (p L : List Nat) (a : Mo), p.length = L.length → mnB (p ++ [b]) (L ++ [c]) a = if c = 0 then mnB p L a else (b, c) :: mnB p L a
  | [], [], a, _ => rfl
  | [], _ :: _, a, h => by cases h
  | _ :: _, [], a, h => by cases h
  | x :: p, y :: L, a, h => mnB_app b c p L _ (Nat.succ.inj h)
theorem mnB_take : ∀ (p L : List Nat) (a : Mo), mnB p (L.take p.length) a = mnB p L a
  | [], L, a => by cases L <;> rfl
  | x :: p, [], a => rfl
  | x :: p, y :: L, a => mnB_take p L _
theorem smM_mn : ∀ (p L : List Nat) (a : Mo), smM (mnB p L a) ≤ L.sum + smM a
  | [], L, a => by cases L <;> exact Nat.le_add_left _ _
  | x :: p, [], a => Nat.le_add_left _ _
  | x :: p, y :: L, a => by
    have h := smM_mn p L (if y = 0 then a else (x, y) :: a)
    rw [List.sum_cons]
    show smM (mnB p L (if y = 0 then a else (x, y) :: a)) ≤ _
    by_cases e : y = 0
    · rw [if_pos e] at h ⊢
      omega
    · rw [if_neg e] at h ⊢
      have e2 : smM ((x, y) :: a) = y + smM a := rfl
      omega
theorem mnB_mem : ∀ (p L : List Nat) (a : Mo) (q : Nat × Nat), q ∈ mnB p L a → q.1 ∈ p ∨ q ∈ a
  | [], L, a, q, h => by cases L <;> exact Or.inr h
  | x :: p, [], a, q, h => Or.inr h
  | x :: p, y :: L, a, q, h => by
    rcases mnB_mem p L _ q h with z | z
    · exact Or.inl (List.mem_cons_of_mem _ z)
    · by_cases e : y = 0
      · rw [if_pos e] at z
        exact Or.inr z
      · rw [if_neg e] at z
        rcases List.mem_cons.mp z with z | z
        · rw [z]
          exact Or.inl List.mem_cons_self
        · exact Or.inr z
theorem lbs_ok {ts : List Tm} (hok : ∀ u ∈ ts, TOk u) {b : Nat} (h : b ∈ lbs ts) : TOk (TT2 ts b) := by
  obtain ⟨u, hu, e⟩ := List.mem_map.mp h
  unfold TT2
  rw [← e, fiT_get u0 ts u hu]
  exact hok u hu
theorem lbs_at {ts : List Tm} {i : Nat} {u : Tm} (h : ts[i]? = some u) : (lbs ts)[i]? = some (fiT ts u) ∧ TT2 ts (fiT ts u) = u := by
  refine ⟨?_, fiT_get u0 ts u (List.mem_of_getElem? h)⟩
  unfold lbs
  rw [List.getElem?_map, h]
  rfl
theorem tk1' {l : List Nat} {j o : Nat} (h : l[j]? = some o) : l.take (j + 1) = l.take j ++ [o] := by
  rw [List.take_add_one, h]
  rfl
theorem sum_take : ∀ (l : List Nat) (k : Nat), (l.take k).sum ≤ l.sum
  | [], k => by simp
  | x :: l, 0 => Nat.zero_le _
  | x :: l, k + 1 => by
    rw [List.take_succ_cons, List.sum_cons, List.sum_cons]
    have := sum_take l k
    omega
theorem mem_sum : ∀ (l : List Nat) (x : Nat), x ∈ l → x ≤ l.sum
  | [], x, h => absurd h List.not_mem_nil
  | y :: l, x, h => by
    rw [List.sum_cons]
    rcases List.mem_cons.mp h with z | z
    · omega
    · have := mem_sum l x z
      omega
theorem cu_ok {u : Tm} (hu : TOk u) {c : Nat} (h1 : 1 ≤ c) (h5 : c ≤ 5) {f : Int → Int} (hf : SuF f) (hg : SuF (opP u c f)) : XOk (cuT c u) f := by
  obtain ⟨⟨a, b⟩, hk, hl, -⟩ := id hu
  refine ⟨?_, hk, hl, fun x z1 z2 => ?_, hf, by rw [wyP_cu]; exact hg⟩
  · show 1 ≤ (c : Int) * tF u ∧ (c : Int) * tF u ≤ 495
    have : c = 1 ∨ c = 2 ∨ c = 3 ∨ c = 4 ∨ c = 5 := by omega
    rcases this with rfl | rfl | rfl | rfl | rfl <;> omega
  · have hv := hu.v3 (x := x) z1 z2
    rw [cuT_v]
    have : c = 1 ∨ c = 2 ∨ c = 3 ∨ c = 4 ∨ c = 5 := by omega
    rcases this with rfl | rfl | rfl | rfl | rfl <;> omega
theorem l_cpl {w : WC} {d m i c : Nat} {s t : Int} {μ : Mem} {Q : Option AV → Mem → Prop} (hM : MoS w μ m) : ∀ (r : Nat) (k : Int) (g : Int → Int), k + (r : Int) = 30001 → 0 ≤ k → (∀ j, 0 ≤ j → j < k → g (30001 + j) = g j) → (∀ g2, (∀ j, 0 ≤ j → j < 30001 → g2 (30001 + j) = g j) → (∀ j, j < 30001 → g2 j = g j) → G w d mX12_laysRounds Q 0 0 72 [some (vP (some m)), some (vI s), some (vI t), some (vI (i : Int)), some (vI (c : Int)), some (vI 30001)] [] (wL μ (m + 4) g2)) → G w d mX12_laysRounds Q 0 0 40 [some (vP (some m)), some (vI s), some (vI t), some (vI (i : Int)), some (vI (c : Int)), some (vI k)] [] (wL μ (m + 4) g) := by
  have o0 := hM.o
  have r22 := hM.r22
  have a22 := hM.a22
  intro r
  induction r with
  | zero =>
    intro k g hr h0 hD kk
    refine g_iload (i := 5) rfl dX12_laysRounds_40 ?_
    refine g_sipush dX12_laysRounds_42 (by omega) ?_
    refine g_icmp_ge (tgt := 72) dX12_laysRounds_45 (by decide) (by omega) (by omega) (fun h45 => ?_) (fun h45 => ?_)
    · have ek : k = 30001 := by omega
      subst ek
      exact kk g hD (fun j _ => rfl)
    · omega
  | succ r ih =>
    intro k g hr h0 hD kk
    refine g_iload (i := 5) rfl dX12_laysRounds_40 ?_
    refine g_sipush dX12_laysRounds_42 (by omega) ?_
    refine g_icmp_ge (tgt := 72) dX12_laysRounds_45 (by decide) (by omega) (by omega) (fun h45 => ?_) (fun h45 => ?_)
    · omega
    · refine g_aload_n (j := 0) rfl dX12_laysRounds_48 ?_
      refine g_getR dX12_laysRounds_49 flX12_35 rfl (by simp only [IsO_sI, IsO_sL, IsO_sR, IsO_wI, IsO_wL, IsA_sI, IsA_sL, IsA_sR, IsA_wI, IsA_wL, mR_sI, mR_sL, mR_wI, mR_wL]; assumption) (kz := 22) rfl (by simp only [IsO_sI, IsO_sL, IsO_sR, IsO_wI, IsO_wL, IsA_sI, IsA_sL, IsA_sR, IsA_wI, IsA_wL, mR_sI, mR_sL, mR_wI, mR_wL]; assumption) ?_
      refine g_sipush dX12_laysRounds_52 (by omega) ?_
      refine g_iload (i := 5) rfl dX12_laysRounds_55 ?_
      refine g_iadd dX12_laysRounds_57 ?_
      refine g_aload_n (j := 0) rfl dX12_laysRounds_58 ?_
      refine g_getR dX12_laysRounds_59 flX12_35 rfl (by simp only [IsO_sI, IsO_sL, IsO_sR, IsO_wI, IsO_wL, IsA_sI, IsA_sL, IsA_sR, IsA_wI, IsA_wL, mR_sI, mR_sL, mR_wI, mR_wL]; assumption) (kz := 22) rfl (by simp only [IsO_sI, IsO_sL, IsO_sR, IsO_wI, IsO_wL, IsA_sI, IsA_sL, IsA_sR, IsA_wI, IsA_wL, mR_sI, mR_sL, mR_wI, mR_wL]; assumption) ?_
      refine g_iload (i := 5) rfl dX12_laysRounds_62 ?_
      refine g_laldv dX12_laysRounds_64 (by simp only [IsO_sI, IsO_sL, IsO_sR, IsO_wI, IsO_wL, IsA_sI, IsA_sL, IsA_sR, IsA_wI, IsA_wL, mR_sI, mR_sL, mR_wI, mR_wL]; assumption) (by omega) (by omega) (by simp [mI_sI, mI_sL, mI_sR, mI_wI, mI_wL, mL_sI, mL_sL, mL_sR, mL_wI, mL_wL]; rfl) ?_
      refine g_last dX12_laysRounds_65 (by simp only [IsO_sI, IsO_sL, IsO_sR, IsO_wI, IsO_wL, IsA_sI, IsA_sL, IsA_sR, IsA_wI, IsA_wL, mR_sI, mR_sL, mR_wI, mR_wL]; assumption) (by omega) (by omega) ?_
      refine g_iinc (i := 5) dX12_laysRounds_66 rfl (by decide) rfl ls5 ?_
      refine g_goto (tgt := 40) (by decide) dX12_laysRounds_69 ?_
      rw [sL_wL]
      refine ih (k + 1) _ (by omega) (by omega) (fun j z1 z2 => ?_) (fun g2 g3 g4 => kk g2 (fun j z1 z2 => (g3 j z1 z2).trans ?_) (fun j z => (g4 j z).trans ?_))
      · try dsimp only
        by_cases z : j = k
        · subst z
          rw [if_pos rfl, if_neg (by omega)]
        · rw [if_neg (by omega), if_neg (by omega)]
          exact hD j z1 (by omega)
      · try dsimp only
        rw [if_neg (by omega)]
      · try dsimp only
        rw [if_neg (by omega)]
theorem l_lr7 {w : WC} {d m t : Nat} {ts : List Tm} {s : Int} {L : List Nat} {μ : Mem} (hs : 0 ≤ s ∧ s ≤ 3) (ht : t ≤ 7) (hM : MoS w μ m) (hI : MFI μ m s ts) (hL : SmL L) (hsum : L.sum ≤ 5) (hB : ∀ k : Nat, k < 5 → mI μ (m + 8) (5 * (t : Int) + (k : Int)) = (L.getD k 0 : Int)) : ∀ (c i : Nat) (g : Int → Int) (x4 x5 : Option AV), i + c = ts.length → LayF g 0 (evM (TT2 ts) (mnB ((lbs ts).take i) (L.take i) []) dlt) → G w (d + 4) mX12_laysRounds (fun v μ2 => v = none ∧ ∃ g2, μ2 = wL μ (m + 4) g2 ∧ LayF g2 0 (evM (TT2 ts) (mnB (lbs ts) L []) dlt)) 0 0 7 [some (vP (some m)), some (vI s), some (vI (t : Int)), some (vI (i : Int)), x4, x5] [] (wL μ (m + 4) g) := by
  have hsup : ∀ i, SuF (evM (TT2 ts) (mnB ((lbs ts).take i) (L.take i) []) dlt) := fun i n hn => by
    refine evM_su _ (fun q hq => ?_) n ?_
    · rcases mnB_mem _ _ _ _ hq with z | z
      · exact lbs_ok hI.2.2.1 (List.mem_of_mem_take z)
      · exact absurd z List.not_mem_nil
    · have h1 := smM_mn ((lbs ts).take i) (L.take i) []
      have h2 := sum_take L i
      have h3 : smM [] = 0 := rfl
      omega
  intro c
  induction c with
  | zero =>
    intro i g x4 x5 hi hg
    have o0 := hM.o
    have r0 := hM.r0
    have a0 := hM.a0
    have r27 := hM.r27
    have a27 := hM.a27
    have hn := hI.1
    have h5 := hI.2.1
    refine g_iload_n (j := 3) rfl dX12_laysRounds_7 ?_
    refine g_aload_n (j := 0) rfl dX12_laysRounds_8 ?_
    refine g_getR dX12_laysRounds_9 flX12_9 rfl (by simp only [IsO_sI, IsO_sL, IsO_sR, IsO_wI, IsO_wL, IsA_sI, IsA_sL, IsA_sR, IsA_wI, IsA_wL, mR_sI, mR_sL, mR_wI, mR_wL]; assumption) (kz := 0) rfl (by simp only [IsO_sI, IsO_sL, IsO_sR, IsO_wI, IsO_wL, IsA_sI, IsA_sL, IsA_sR, IsA_wI, IsA_wL, mR_sI, mR_sL, mR_wI, mR_wL]; assumption) ?_
    refine g_iload_n (j := 1) rfl dX12_laysRounds_12 ?_
    refine g_ialdv dX12_laysRounds_13 (by simp only [IsO_sI, IsO_sL, IsO_sR, IsO_wI, IsO_wL, IsA_sI, IsA_sL, IsA_sR, IsA_wI, IsA_wL, mR_sI, mR_sL, mR_wI, mR_wL]; assumption) (by omega) (by omega) (by simp [mI_sI, mI_sL, mI_sR, mI_wI, mI_wL, mL_sI, mL_sL, mL_sR, mL_wI, mL_wL]; rfl) ?_
    rw [hn]
    refine g_icmp_ge (tgt := 115) dX12_laysRounds_14 (by decide) (by omega) (by omega) (fun h14 => ?_) (fun h14 => ?_)
    · have ei : i = ts.length := by omega
      subst ei
      have e1 : (lbs ts).take ts.length = lbs ts := by rw [← lbs_len ts]; exact List.take_length
      have e2 : mnB (lbs ts) (L.take ts.length) [] = mnB (lbs ts) L [] := by
        rw [← lbs_len ts]
        exact mnB_take _ _ _
      rw [e1, e2] at hg
      exact G.retV dX12_laysRounds_115 rfl ⟨rfl, g, rfl, hg⟩
    · omega
  | succ c ih =>
    intro i g x4 x5 hi hg
    have o0 := hM.o
    have r0 := hM.r0
    have a0 := hM.a0
    have r27 := hM.r27
    have a27 := hM.a27
    have hn := hI.1
    have h5 := hI.2.1
    obtain ⟨u, hu1⟩ : ∃ u, ts[i]? = some u := ⟨_, List.getElem?_eq_getElem (by omega)⟩
    obtain ⟨hu, e0, e1, e2, e3⟩ := hI.gt (t := (i : Int)) rfl hu1
    have hlb := lbs_at hu1
    have hsu := hsup i
    have hsu1 := hsup (i + 1)
    have hLi : L[i]? = some (L.getD i 0) := by
      have hl5 := hL.1
      rw [List.getD_eq_getElem?_getD, List.getElem?_eq_getElem (by omega)]
      rfl
    have hc5 : L.getD i 0 ≤ 5 := Nat.le_trans (mem_sum L _ (List.mem_of_getElem? hLi)) hsum
    have emo : mnB ((lbs ts).take (i + 1)) (L.take (i + 1)) [] = if L.getD i 0 = 0 then mnB ((lbs ts).take i) (L.take i) [] else (fiT ts u, L.getD i 0) :: mnB ((lbs ts).take i) (L.take i) [] := by
      rw [tk1' hlb.1, tk1' hLi]
      refine mnB_app _ _ _ _ _ ?_
      rw [List.length_take, List.length_take, lbs_len, hL.1]
      omega
    refine g_iload_n (j := 3) rfl dX12_laysRounds_7 ?_
    refine g_aload_n (j := 0) rfl dX12_laysRounds_8 ?_
    refine g_getR dX12_laysRounds_9 flX12_9 rfl (by simp only [IsO_sI, IsO_sL, IsO_sR, IsO_wI, IsO_wL, IsA_sI, IsA_sL, IsA_sR, IsA_wI, IsA_wL, mR_sI, mR_sL, mR_wI, mR_wL]; assumption) (kz := 0) rfl (by simp only [IsO_sI, IsO_sL, IsO_sR, IsO_wI, IsO_wL, IsA_sI, IsA_sL, IsA_sR, IsA_wI, IsA_wL, mR_sI, mR_sL, mR_wI, mR_wL]; assumption) ?_
    refine g_iload_n (j := 1) rfl dX12_laysRounds_12 ?_
    refine g_ialdv dX12_laysRounds_13 (by simp only [IsO_sI, IsO_sL, IsO_sR, IsO_wI, IsO_wL, IsA_sI, IsA_sL, IsA_sR, IsA_wI, IsA_wL, mR_sI, mR_sL, mR_wI, mR_wL]; assumption) (by omega) (by omega) (by simp [mI_sI, mI_sL, mI_sR, mI_wI, mI_wL, mL_sI, mL_sL, mL_sR, mL_wI, mL_wL]; rfl) ?_
    rw [hn]
    refine g_icmp_ge (tgt := 115) dX12_laysRounds_14 (by decide) (by omega) (by omega) (fun h14 => ?_) (fun h14 => ?_)
    · omega
    · refine g_aload_n (j := 0) rfl dX12_laysRounds_17 ?_
      refine g_getR dX12_laysRounds_18 flX12_51 rfl (by simp only [IsO_sI, IsO_sL, IsO_sR, IsO_wI, IsO_wL, IsA_sI, IsA_sL, IsA_sR, IsA_wI, IsA_wL, mR_sI, mR_sL, mR_wI, mR_wL]; assumption) (kz := 27) rfl (by simp only [IsO_sI, IsO_sL, IsO_sR, IsO_wI, IsO_wL, IsA_sI, IsA_sL, IsA_sR, IsA_wI, IsA_wL, mR_sI, mR_sL, mR_wI, mR_wL]; assumption) ?_
      refine g_iconst dX12_laysRounds_21 ?_
      refine g_iload_n (j := 2) rfl dX12_laysRounds_22 ?_
      refine g_imul dX12_laysRounds_23 ?_
      refine g_iload_n (j := 3) rfl dX12_laysRounds_24 ?_
      refine g_iadd dX12_laysRounds_25 ?_
      refine g_ialdv dX12_laysRounds_26 (by simp only [IsO_sI, IsO_sL, IsO_sR, IsO_wI, IsO_wL, IsA_sI, IsA_sL, IsA_sR, IsA_wI, IsA_wL, mR_sI, mR_sL, mR_wI, mR_wL]; assumption) (by omega) (by omega) (by simp [mI_sI, mI_sL, mI_sR, mI_wI, mI_wL, mL_sI, mL_sL, mL_sR, mL_wI, mL_wL]; rfl) ?_
      rw [hB i (by omega)]
      refine g_istore (i := 4) dX12_laysRounds_27 (by decide) rfl ls4 ?_
      refine g_iload (i := 4) rfl dX12_laysRounds_29 ?_
      refine g_if_ne (tgt := 37) dX12_laysRounds_31 (by decide) (by omega) (fun h31 => ?_) (fun h31 => ?_)
      · refine g_iconst dX12_laysRounds_37 ?_
        refine g_istore (i := 5) dX12_laysRounds_38 (by decide) rfl ls5 ?_
        have hc0 : ¬ L.getD i 0 = 0 := by omega
        refine l_cpl (i := i) (c := L.getD i 0) hM 30001 0 g (by omega) (by omega) (fun j z1 z2 => absurd z1 (by omega)) (fun g2 k1 k2 => ?_)
        have hL1 : LayF g2 1 (evM (TT2 ts) (mnB ((lbs ts).take i) (L.take i) []) dlt) := fun q z1 z2 => by
          rw [show (30001 : Int) * 1 + q = 30001 + q by omega, k1 q z1 (by omega), ← hg q z1 z2, show (30001 : Int) * 0 + q = q by omega]
        have hX := cu_ok hu (c := L.getD i 0) (by omega) (by omega) hsu (by
          have e : opP u (L.getD i 0) (evM (TT2 ts) (mnB ((lbs ts).take i) (L.take i) []) dlt) = evM (TT2 ts) (mnB ((lbs ts).take (i + 1)) (L.take (i + 1)) []) dlt := by
            rw [emo, if_neg hc0]
            show _ = opP (TT2 ts (fiT ts u)) _ _
            rw [hlb.2]
          rw [e]
          exact hsu1)
        refine g_aload_n (j := 0) rfl dX12_laysRounds_72 ?_
        refine g_iconst dX12_laysRounds_73 ?_
        refine g_iconst dX12_laysRounds_74 ?_
        refine g_iload (i := 4) rfl dX12_laysRounds_75 ?_
        refine g_aload_n (j := 0) rfl dX12_laysRounds_77 ?_
        refine g_iload_n (j := 1) rfl dX12_laysRounds_78 ?_
        refine g_iload_n (j := 3) rfl dX12_laysRounds_79 ?_
        refine g_iconst dX12_laysRounds_80 ?_
        refine g_callV dX12_laysRounds_81 mlX12_93 mvX12_of (ci := 12) ⟨by decide, rfl⟩ (by simp only [IsO_sI, IsO_sL, IsO_sR, IsO_wI, IsO_wL, IsA_sI, IsA_sL, IsA_sR, IsA_wI, IsA_wL, mR_sI, mR_sL, mR_wI, mR_wL]; assumption) (c_X12_of w (d + 3) (wL μ (m + 4) g2) (hM.of_wL (a := m + 4) (g := g2)) (s := s) (i := (i : Int)) (k := 0) (by omega) (by omega) (by omega)) sv3 rfl (by omega) (Nat.le_of_ble_eq_true rfl) (Nat.le_refl _) (Nat.le_refl _) (fun v μ2 hR => ?_)
        obtain ⟨rfl, hm⟩ := hR
        replace hm := hm.symm
        subst hm
        rw [show mI (wL μ (m + 4) g2) (m + 2) (4 * (5 * s + (i : Int)) + 0) = tF u from e0]
        refine g_imul dX12_laysRounds_84 ?_
        refine g_aload_n (j := 0) rfl dX12_laysRounds_85 ?_
        refine g_iload_n (j := 1) rfl dX12_laysRounds_86 ?_
        refine g_iload_n (j := 3) rfl dX12_laysRounds_87 ?_
        refine g_iconst dX12_laysRounds_88 ?_
        refine g_callV dX12_laysRounds_89 mlX12_93 mvX12_of (ci := 12) ⟨by decide, rfl⟩ (by simp only [IsO_sI, IsO_sL, IsO_sR, IsO_wI, IsO_wL, IsA_sI, IsA_sL, IsA_sR, IsA_wI, IsA_wL, mR_sI, mR_sL, mR_wI, mR_wL]; assumption) (c_X12_of w (d + 3) (wL μ (m + 4) g2) (hM.of_wL (a := m + 4) (g := g2)) (s := s) (i := (i : Int)) (k := 1) (by omega) (by omega) (by omega)) sv3 rfl (by omega) (Nat.le_of_ble_eq_true rfl) (Nat.le_refl _) (Nat.le_refl _) (fun v μ2 hR => ?_)
        obtain ⟨rfl, hm⟩ := hR
        replace hm := hm.symm
        subst hm
        rw [show mI (wL μ (m + 4) g2) (m + 2) (4 * (5 * s + (i : Int)) + 1) = tK u from e1]
        refine g_aload_n (j := 0) rfl dX12_laysRounds_92 ?_
        refine g_iload_n (j := 1) rfl dX12_laysRounds_93 ?_
        refine g_iload_n (j := 3) rfl dX12_laysRounds_94 ?_
        refine g_iconst dX12_laysRounds_95 ?_
        refine g_callV dX12_laysRounds_96 mlX12_93 mvX12_of (ci := 12) ⟨by decide, rfl⟩ (by simp only [IsO_sI, IsO_sL, IsO_sR, IsO_wI, IsO_wL, IsA_sI, IsA_sL, IsA_sR, IsA_wI, IsA_wL, mR_sI, mR_sL, mR_wI, mR_wL]; assumption) (c_X12_of w (d + 3) (wL μ (m + 4) g2) (hM.of_wL (a := m + 4) (g := g2)) (s := s) (i := (i : Int)) (k := 2) (by omega) (by omega) (by omega)) sv3 rfl (by omega) (Nat.le_of_ble_eq_true rfl) (Nat.le_refl _) (Nat.le_refl _) (fun v μ2 hR => ?_)
        obtain ⟨rfl, hm⟩ := hR
        replace hm := hm.symm
        subst hm
        rw [show mI (wL μ (m + 4) g2) (m + 2) (4 * (5 * s + (i : Int)) + 2) = tL u from e2]
        refine g_aload_n (j := 0) rfl dX12_laysRounds_99 ?_
        refine g_iload_n (j := 1) rfl dX12_laysRounds_100 ?_
        refine g_iload_n (j := 3) rfl dX12_laysRounds_101 ?_
        refine g_iconst dX12_laysRounds_102 ?_
        refine g_callV dX12_laysRounds_103 mlX12_93 mvX12_of (ci := 12) ⟨by decide, rfl⟩ (by simp only [IsO_sI, IsO_sL, IsO_sR, IsO_wI, IsO_wL, IsA_sI, IsA_sL, IsA_sR, IsA_wI, IsA_wL, mR_sI, mR_sL, mR_wI, mR_wL]; assumption) (c_X12_of w (d + 3) (wL μ (m + 4) g2) (hM.of_wL (a := m + 4) (g := g2)) (s := s) (i := (i : Int)) (k := 3) (by omega) (by omega) (by omega)) sv3 rfl (by omega) (Nat.le_of_ble_eq_true rfl) (Nat.le_refl _) (Nat.le_refl _) (fun v μ2 hR => ?_)
        obtain ⟨rfl, hm⟩ := hR
        replace hm := hm.symm
        subst hm
        rw [show mI (wL μ (m + 4) g2) (m + 2) (4 * (5 * s + (i : Int)) + 3) = tH u from e3]
        refine g_callV dX12_laysRounds_106 mlX12_270 mvX12_laysLayer (ci := 12) ⟨by decide, rfl⟩ (by simp only [IsO_sI, IsO_sL, IsO_sR, IsO_wI, IsO_wL, IsA_sI, IsA_sL, IsA_sR, IsA_wI, IsA_wL, mR_sI, mR_sL, mR_wI, mR_wL]; assumption) (c_laysLayerF (d := d) (hM.of_wL (a := m + 4) (g := g2)) (l := 0) (j := 1) (u := cuT (L.getD i 0) u) hX (by omega) (by omega) (by omega) (by rw [mL_wL_self]; exact hL1)) sv6 rfl (by omega) (Nat.le_of_ble_eq_true rfl) (Nat.le_refl _) (Nat.le_refl _) (fun v μ2 hR => ?_)
        obtain ⟨rfl, g3, hg3, rfl⟩ := hR
        refine g_iinc (i := 3) dX12_laysRounds_109 rfl (by decide) rfl ls3 ?_
        refine g_goto (tgt := 7) (by decide) dX12_laysRounds_112 ?_
        rw [wL_wL]
        rw [show (i : Int) + 1 = ((i + 1 : Nat) : Int) by omega]
        refine ih (i + 1) g3 _ _ (by omega) ?_
        rw [emo, if_neg hc0]
        intro q z1 z2
        rw [hg3, if_pos (by omega), wyP_cu]
        show _ = opP (TT2 ts (fiT ts u)) _ _ _
        rw [hlb.2]
        congr 1
        omega
      · refine g_goto (tgt := 109) (by decide) dX12_laysRounds_34 ?_
        refine g_iinc (i := 3) dX12_laysRounds_109 rfl (by decide) rfl ls3 ?_
        refine g_goto (tgt := 7) (by decide) dX12_laysRounds_112 ?_
        have hc0 : L.getD i 0 = 0 := by omega
        rw [show (i : Int) + 1 = ((i + 1 : Nat) : Int) by omega]
        refine ih (i + 1) g _ _ (by omega) ?_
        rw [emo, if_pos hc0]
        exact hg
theorem c_laysRounds (w : WC) (d : Nat) (μ : Mem) {m t : Nat} {ts : List Tm} {s : Int} {L : List Nat} (hs : 0 ≤ s ∧ s ≤ 3) (ht : t ≤ 7) (hM : MoS w μ m) (hI : MFI μ m s ts) (hL : SmL L) (hsum : L.sum ≤ 5) (hB : ∀ k : Nat, k < 5 → mI μ (m + 8) (5 * (t : Int) + (k : Int)) = (L.getD k 0 : Int)) : Con w (d + 4) mX12_laysRounds 0 0 [vP (some m), vI s, vI (t : Int)] μ (fun v μ2 => v = none ∧ ∃ g2, μ2 = wL μ (m + 4) g2 ∧ LayF g2 0 (evM (TT2 ts) (mnB (lbs ts) L []) dlt)) := by
  have o0 := hM.o
  refine Con.of (by decide) (Nat.le_of_ble_eq_true rfl) rfl ?_
  refine g_aload_n (j := 0) rfl dX12_laysRounds_0 ?_
  refine g_iconst dX12_laysRounds_1 ?_
  refine g_callV dX12_laysRounds_2 mlX12_267 mvX12_laysNought (ci := 12) ⟨by decide, rfl⟩ (by assumption) (c_laysNought w (d + 3) μ hM (l := 0) (by omega)) sv1 rfl (by omega) (Nat.le_of_ble_eq_true rfl) (Nat.le_refl _) (Nat.le_refl _) (fun v μ2 hR => ?_)
  obtain ⟨rfl, rfl⟩ := hR
  refine g_iconst dX12_laysRounds_5 ?_
  refine g_istore_n (j := 3) dX12_laysRounds_6 (by decide) rfl ls3 ?_
  refine l_lr7 (d := d) hs ht hM hI hL hsum hB ts.length 0 _ _ _ (Nat.zero_add _) (fun q z1 z2 => ?_)
  show nuF _ 0 _ = dlt _
  unfold nuF dlt
  rw [if_pos (by omega)]
  by_cases z : q = 15000
  · rw [if_pos (by omega), if_pos (by omega)]
  · rw [if_neg (by omega), if_neg (by omega)]
