/-! GREED -/
def gdX (v : Int → Int) (left : Int) : Nat → Int → Int → Int
  | 0, _, b => b
  | k + 1, x, b => gdX v left k (x + 1) (if (left < v b ∧ v x < v b) ∨ (v b ≤ left ∧ v b < v x ∧ v x ≤ left) then x else b)
def gdU (u : Tm) (left : Int) : Int := gdX (tV u) left (tH u - tL u).toNat (tL u + 1) (tL u)
theorem gdX_bd (v : Int → Int) (left : Int) {l h : Int} : ∀ (k : Nat) (x b : Int), l ≤ x → x + k ≤ h + 1 → l ≤ b ∧ b ≤ h → l ≤ gdX v left k x b ∧ gdX v left k x b ≤ h
  | 0, _, _, _, _, hb => hb
  | k + 1, x, b, h1, h2, hb => by
    rw [gdX]
    refine gdX_bd v left k (x + 1) _ (by omega) (by omega) ?_
    split <;> omega
theorem gdU_bd {u : Tm} (h : TOk u) (left : Int) : tL u ≤ gdU u left ∧ gdU u left ≤ tH u := by
  have := h.2.2.1
  exact gdX_bd (tV u) left _ _ _ (by omega) (by omega) (by omega)
def gdF (i : Int) : List Tm → Int → Int → Int
  | [], _, left => left
  | u :: us, t, left => if t = i then gdU u left else gdF i us (t + 1) (left - tV u (gdU u left))
theorem l_greedyX {w : WC} {d : Nat} {μ : Mem} {q : Nat} {ts : List Tm} (hF : FoS w μ q) (hI : FI μ q ts) {t left : Int} (h0 : 0 ≤ t) (h1 : t < ts.length) {u : Tm} (hu : ts[t.toNat]? = some u) (hk : TOk u) (hat : TmAt μ q t u) (hl : i32 left) : ∀ (k : Nat) (x b : Int) (x6 x7 : Option AV), tL u ≤ x → x + k = tH u + 1 → tL u ≤ b ∧ b ≤ tH u →
    G w (d + 2) mX11_greedyX (fun v μ2 => v = some (vI (gdX (tV u) left k x b)) ∧ μ2 = μ) 0 0 25 [some (vP (some q)), some (vI t), some (vI left), some (vI b), some (vI (tV u b)), some (vI x), x6, x7] [] μ := by
  have h5 := hI.2.1
  obtain ⟨g1, g2, g3, g4, -, -⟩ := hat
  obtain ⟨⟨k1, k2, k3, k4⟩, -⟩ := hk.pv
  have hl3 := hk.2.2.1
  obtain ⟨p0, ⟨pr1, pr2, pr3, pr4, pr5, pr6⟩, pa1, pa2, pa3, pa4, pa5, pa6⟩ := id hF
  intro k
  induction k with
  | zero =>
    intro x b x6 x7 hx he hb
    refine g_iload (i := 5) rfl dX11_greedyX_25 ?_
    refine g_aload_n (j := 0) rfl dX11_greedyX_27 ?_
    refine g_getR dX11_greedyX_28 flX11_171 rfl (by assumption) (kz := 4) rfl (by assumption) ?_
    refine g_iload_n (j := 1) rfl dX11_greedyX_31 ?_
    refine g_iald dX11_greedyX_32 (by assumption) (by omega) (by omega) ?_
    refine g_icmp_gt (tgt := 104) dX11_greedyX_33 (by decide) (by omega) (by omega) (fun h33 => ?_) (fun h33 => ?_)
    · refine g_iload_n (j := 3) rfl dX11_greedyX_104 ?_
      exact G.retI dX11_greedyX_105 rfl ⟨by rw [gdX], rfl⟩
    · omega
  | succ k ih =>
    intro x b x6 x7 hx he hb
    have hv3 := hk.v3 (x := x) hx (by omega)
    have hb3 := hk.v3 (x := b) hb.1 hb.2
    rw [gdX]
    refine g_iload (i := 5) rfl dX11_greedyX_25 ?_
    refine g_aload_n (j := 0) rfl dX11_greedyX_27 ?_
    refine g_getR dX11_greedyX_28 flX11_171 rfl (by assumption) (kz := 4) rfl (by assumption) ?_
    refine g_iload_n (j := 1) rfl dX11_greedyX_31 ?_
    refine g_iald dX11_greedyX_32 (by assumption) (by omega) (by omega) ?_
    refine g_icmp_gt (tgt := 104) dX11_greedyX_33 (by decide) (by omega) (by omega) (fun h33 => ?_) (fun h33 => ?_)
    · omega
    · refine g_aload_n (j := 0) rfl dX11_greedyX_36 ?_
      refine g_iload_n (j := 1) rfl dX11_greedyX_37 ?_
      refine g_iload (i := 5) rfl dX11_greedyX_38 ?_
      refine g_callV dX11_greedyX_40 mlX11_228 mvX1_valueOf (ci := 1) ⟨by decide, rfl⟩ (by assumption) (c_valueOf w d μ hF (t := t) (x := x) (by omega) g2 g1 k2 k1 (by omega) (by omega)) sv2 rfl (by omega) (Nat.le_of_ble_eq_true rfl) (Nat.le_refl _) (Nat.le_refl _) (fun v μ2 hR => ?_)
      obtain ⟨rfl, hm⟩ := hR
      replace hm := hm.symm
      subst hm
      rw [show pv (tK u) (tF u) x = tV u x from rfl]
      refine g_istore (i := 6) dX11_greedyX_43 (by decide) rfl ls6 ?_
      refine g_iload (i := 4) rfl dX11_greedyX_45 ?_
      refine g_iload_n (j := 2) rfl dX11_greedyX_47 ?_
      refine g_icmp_le (tgt := 66) dX11_greedyX_48 (by decide) (by omega) (by omega) (fun h48 => ?_) (fun h48 => ?_)
      · refine g_iload (i := 6) rfl dX11_greedyX_66 ?_
        refine g_iload (i := 4) rfl dX11_greedyX_68 ?_
        refine g_icmp_le (tgt := 83) dX11_greedyX_70 (by decide) (by omega) (by omega) (fun h70 => ?_) (fun h70 => ?_)
        · refine g_iconst dX11_greedyX_83 ?_
          refine g_istore (i := 7) dX11_greedyX_84 (by decide) rfl ls7 ?_
          refine g_iload (i := 7) rfl dX11_greedyX_86 ?_
          refine g_if_eq (tgt := 98) dX11_greedyX_88 (by decide) (by omega) (fun h88 => ?_) (fun h88 => ?_)
          · refine g_iinc (i := 5) dX11_greedyX_98 rfl (by decide) rfl ls5 ?_
            refine g_goto (tgt := 25) (by decide) dX11_greedyX_101 ?_
            first
            | (exfalso; omega)
            | (rw [if_pos (by omega)]; exact ih (x + 1) x _ _ (by omega) (by omega) (by omega))
            | (rw [if_neg (by omega)]; exact ih (x + 1) b _ _ (by omega) (by omega) hb)
          · refine g_iload (i := 5) rfl dX11_greedyX_91 ?_
            refine g_istore_n (j := 3) dX11_greedyX_93 (by decide) rfl ls3 ?_
            refine g_iload (i := 6) rfl dX11_greedyX_94 ?_
            refine g_istore (i := 4) dX11_greedyX_96 (by decide) rfl ls4 ?_
            refine g_iinc (i := 5) dX11_greedyX_98 rfl (by decide) rfl ls5 ?_
            refine g_goto (tgt := 25) (by decide) dX11_greedyX_101 ?_
            first
            | (exfalso; omega)
            | (rw [if_pos (by omega)]; exact ih (x + 1) x _ _ (by omega) (by omega) (by omega))
            | (rw [if_neg (by omega)]; exact ih (x + 1) b _ _ (by omega) (by omega) hb)
        · refine g_iload (i := 6) rfl dX11_greedyX_73 ?_
          refine g_iload_n (j := 2) rfl dX11_greedyX_75 ?_
          refine g_icmp_gt (tgt := 83) dX11_greedyX_76 (by decide) (by omega) (by omega) (fun h76 => ?_) (fun h76 => ?_)
          · refine g_iconst dX11_greedyX_83 ?_
            refine g_istore (i := 7) dX11_greedyX_84 (by decide) rfl ls7 ?_
            refine g_iload (i := 7) rfl dX11_greedyX_86 ?_
            refine g_if_eq (tgt := 98) dX11_greedyX_88 (by decide) (by omega) (fun h88 => ?_) (fun h88 => ?_)
            · refine g_iinc (i := 5) dX11_greedyX_98 rfl (by decide) rfl ls5 ?_
              refine g_goto (tgt := 25) (by decide) dX11_greedyX_101 ?_
              first
              | (exfalso; omega)
              | (rw [if_pos (by omega)]; exact ih (x + 1) x _ _ (by omega) (by omega) (by omega))
              | (rw [if_neg (by omega)]; exact ih (x + 1) b _ _ (by omega) (by omega) hb)
            · refine g_iload (i := 5) rfl dX11_greedyX_91 ?_
              refine g_istore_n (j := 3) dX11_greedyX_93 (by decide) rfl ls3 ?_
              refine g_iload (i := 6) rfl dX11_greedyX_94 ?_
              refine g_istore (i := 4) dX11_greedyX_96 (by decide) rfl ls4 ?_
              refine g_iinc (i := 5) dX11_greedyX_98 rfl (by decide) rfl ls5 ?_
              refine g_goto (tgt := 25) (by decide) dX11_greedyX_101 ?_
              first
              | (exfalso; omega)
              | (rw [if_pos (by omega)]; exact ih (x + 1) x _ _ (by omega) (by omega) (by omega))
              | (rw [if_neg (by omega)]; exact ih (x + 1) b _ _ (by omega) (by omega) hb)
          · refine g_iconst dX11_greedyX_79 ?_
            refine g_goto (tgt := 84) (by decide) dX11_greedyX_80 ?_
            refine g_istore (i := 7) dX11_greedyX_84 (by decide) rfl ls7 ?_
            refine g_iload (i := 7) rfl dX11_greedyX_86 ?_
            refine g_if_eq (tgt := 98) dX11_greedyX_88 (by decide) (by omega) (fun h88 => ?_) (fun h88 => ?_)
            · refine g_iinc (i := 5) dX11_greedyX_98 rfl (by decide) rfl ls5 ?_
              refine g_goto (tgt := 25) (by decide) dX11_greedyX_101 ?_
              first
              | (exfalso; omega)
              | (rw [if_pos (by omega)]; exact ih (x + 1) x _ _ (by omega) (by omega) (by omega))
              | (rw [if_neg (by omega)]; exact ih (x + 1) b _ _ (by omega) (by omega) hb)
            · refine g_iload (i := 5) rfl dX11_greedyX_91 ?_
              refine g_istore_n (j := 3) dX11_greedyX_93 (by decide) rfl ls3 ?_
              refine g_iload (i := 6) rfl dX11_greedyX_94 ?_
              refine g_istore (i := 4) dX11_greedyX_96 (by decide) rfl ls4 ?_
              refine g_iinc (i := 5) dX11_greedyX_98 rfl (by decide) rfl ls5 ?_
              refine g_goto (tgt := 25) (by decide) dX11_greedyX_101 ?_
              first
              | (exfalso; omega)
              | (rw [if_pos (by omega)]; exact ih (x + 1) x _ _ (by omega) (by omega) (by omega))
              | (rw [if_neg (by omega)]; exact ih (x + 1) b _ _ (by omega) (by omega) hb)
      · refine g_iload (i := 6) rfl dX11_greedyX_51 ?_
        refine g_iload (i := 4) rfl dX11_greedyX_53 ?_
        refine g_icmp_ge (tgt := 62) dX11_greedyX_55 (by decide) (by omega) (by omega) (fun h55 => ?_) (fun h55 => ?_)
        · refine g_iconst dX11_greedyX_62 ?_
          refine g_goto (tgt := 84) (by decide) dX11_greedyX_63 ?_
          refine g_istore (i := 7) dX11_greedyX_84 (by decide) rfl ls7 ?_
          refine g_iload (i := 7) rfl dX11_greedyX_86 ?_
          refine g_if_eq (tgt := 98) dX11_greedyX_88 (by decide) (by omega) (fun h88 => ?_) (fun h88 => ?_)
          · refine g_iinc (i := 5) dX11_greedyX_98 rfl (by decide) rfl ls5 ?_
            refine g_goto (tgt := 25) (by decide) dX11_greedyX_101 ?_
            first
            | (exfalso; omega)
            | (rw [if_pos (by omega)]; exact ih (x + 1) x _ _ (by omega) (by omega) (by omega))
            | (rw [if_neg (by omega)]; exact ih (x + 1) b _ _ (by omega) (by omega) hb)
          · refine g_iload (i := 5) rfl dX11_greedyX_91 ?_
            refine g_istore_n (j := 3) dX11_greedyX_93 (by decide) rfl ls3 ?_
            refine g_iload (i := 6) rfl dX11_greedyX_94 ?_
            refine g_istore (i := 4) dX11_greedyX_96 (by decide) rfl ls4 ?_
            refine g_iinc (i := 5) dX11_greedyX_98 rfl (by decide) rfl ls5 ?_
            refine g_goto (tgt := 25) (by decide) dX11_greedyX_101 ?_
            first
            | (exfalso; omega)
            | (rw [if_pos (by omega)]; exact ih (x + 1) x _ _ (by omega) (by omega) (by omega))
            | (rw [if_neg (by omega)]; exact ih (x + 1) b _ _ (by omega) (by omega) hb)
        · refine g_iconst dX11_greedyX_58 ?_
          refine g_goto (tgt := 84) (by decide) dX11_greedyX_59 ?_
          refine g_istore (i := 7) dX11_greedyX_84 (by decide) rfl ls7 ?_
          refine g_iload (i := 7) rfl dX11_greedyX_86 ?_
          refine g_if_eq (tgt := 98) dX11_greedyX_88 (by decide) (by omega) (fun h88 => ?_) (fun h88 => ?_)
          · refine g_iinc (i := 5) dX11_greedyX_98 rfl (by decide) rfl ls5 ?_
            refine g_goto (tgt := 25) (by decide) dX11_greedyX_101 ?_
            first
            | (exfalso; omega)
            | (rw [if_pos (by omega)]; exact ih (x + 1) x _ _ (by omega) (by omega) (by omega))
            | (rw [if_neg (by omega)]; exact ih (x + 1) b _ _ (by omega) (by omega) hb)
          · refine g_iload (i := 5) rfl dX11_greedyX_91 ?_
            refine g_istore_n (j := 3) dX11_greedyX_93 (by decide) rfl ls3 ?_
            refine g_iload (i := 6) rfl dX11_greedyX_94 ?_
            refine g_istore (i := 4) dX11_greedyX_96 (by decide) rfl ls4 ?_
            refine g_iinc (i := 5) dX11_greedyX_98 rfl (by decide) rfl ls5 ?_
            refine g_goto (tgt := 25) (by decide) dX11_greedyX_101 ?_
            first
            | (exfalso; omega)
            | (rw [if_pos (by omega)]; exact ih (x + 1) x _ _ (by omega) (by omega) (by omega))
            | (rw [if_neg (by omega)]; exact ih (x + 1) b _ _ (by omega) (by omega) hb)
theorem c_greedyX (w : WC) (d : Nat) (μ : Mem) {q : Nat} {ts : List Tm} (hF : FoS w μ q) (hI : FI μ q ts) {t left : Int} (h0 : 0 ≤ t) (h1 : t < ts.length) {u : Tm} (hu : ts[t.toNat]? = some u) (hk : TOk u) (hat : TmAt μ q t u) (hl : i32 left) : Con w (d + 2) mX11_greedyX 0 0 [vP (some q), vI t, vI left] μ (fun v μ2 => v = some (vI (gdU u left)) ∧ μ2 = μ) := by
  have h5 := hI.2.1
  have hat0 := hat
  obtain ⟨g1, g2, g3, g4, -, -⟩ := hat
  obtain ⟨⟨k1, k2, k3, k4⟩, -⟩ := hk.pv
  have hl3 := hk.2.2.1
  obtain ⟨p0, ⟨pr1, pr2, pr3, pr4, pr5, pr6⟩, pa1, pa2, pa3, pa4, pa5, pa6⟩ := id hF
  refine Con.of (by decide) (Nat.le_of_ble_eq_true rfl) rfl ?_
  refine g_aload_n (j := 0) rfl dX11_greedyX_0 ?_
  refine g_getR dX11_greedyX_1 flX11_168 rfl (by assumption) (kz := 3) rfl (by assumption) ?_
  refine g_iload_n (j := 1) rfl dX11_greedyX_4 ?_
  refine g_iald dX11_greedyX_5 (by assumption) (by omega) (by omega) ?_
  rw [g3]
  refine g_istore_n (j := 3) dX11_greedyX_6 (by decide) rfl ls3 ?_
  refine g_aload_n (j := 0) rfl dX11_greedyX_7 ?_
  refine g_iload_n (j := 1) rfl dX11_greedyX_8 ?_
  refine g_iload_n (j := 3) rfl dX11_greedyX_9 ?_
  refine g_callV dX11_greedyX_10 mlX11_228 mvX1_valueOf (ci := 1) ⟨by decide, rfl⟩ (by assumption) (c_valueOf w d μ hF (t := t) (x := tL u) (by omega) g2 g1 k2 k1 (by omega) (by omega)) sv2 rfl (by omega) (Nat.le_of_ble_eq_true rfl) (Nat.le_refl _) (Nat.le_refl _) (fun v μ2 hR => ?_)
  obtain ⟨rfl, hm⟩ := hR
  replace hm := hm.symm
  subst hm
  rw [show pv (tK u) (tF u) (tL u) = tV u (tL u) from rfl]
  refine g_istore (i := 4) dX11_greedyX_13 (by decide) rfl ls4 ?_
  refine g_aload_n (j := 0) rfl dX11_greedyX_15 ?_
  refine g_getR dX11_greedyX_16 flX11_168 rfl (by assumption) (kz := 3) rfl (by assumption) ?_
  refine g_iload_n (j := 1) rfl dX11_greedyX_19 ?_
  refine g_iald dX11_greedyX_20 (by assumption) (by omega) (by omega) ?_
  rw [g3]
  refine g_iconst dX11_greedyX_21 ?_
  refine g_iadd dX11_greedyX_22 ?_
  refine g_istore (i := 5) dX11_greedyX_23 (by decide) rfl ls5 ?_
  exact l_greedyX hF hI h0 h1 hu hk hat0 hl (tH u - tL u).toNat (tL u + 1) (tL u) _ _ (by omega) (by omega) (by omega)
theorem l_greed {w : WC} {d : Nat} {μ : Mem} {x q : Nat} {ts : List Tm} (hF : FoS w μ q) (hI : FI μ q ts) {s n i : Int} (hi : i32 i) : ∀ (r : Nat) (t left : Int) (x7 : Option AV), t + r = ts.length → 0 ≤ t → -3000 - 3000 * t ≤ left ∧ left ≤ 3000 + 3000 * t →
    G w (d + 3) mX11_greed (fun v μ2 => v = some (vI (gdF i (ts.drop t.toNat) t left)) ∧ μ2 = μ) 0 0 50 [some (vP (some x)), some (vI s), some (vI n), some (vI i), some (vP (some q)), some (vI left), some (vI t), x7] [] μ := by
  have h5 := hI.2.1
  have ec := hI.1
  obtain ⟨p0, ⟨pr1, pr2, pr3, pr4, pr5, pr6⟩, pa1, pa2, pa3, pa4, pa5, pa6⟩ := id hF
  intro r
  induction r with
  | zero =>
    intro t left x7 hr h0 hl
    have hd : ts.drop t.toNat = [] := List.drop_eq_nil_of_le (by omega)
    rw [hd]
    refine g_iload (i := 6) rfl dX11_greed_50 ?_
    refine g_aload (i := 4) rfl dX11_greed_52 ?_
    refine g_getI dX11_greed_54 flX11_125 rfl (by assumption) (kz := 0) rfl ?_
    refine g_icmp_ge (tgt := 100) dX11_greed_57 (by decide) (by omega) (by omega) (fun h57 => ?_) (fun h57 => ?_)
    · refine g_iload (i := 5) rfl dX11_greed_100 ?_
      exact G.retI dX11_greed_102 rfl ⟨by rw [gdF], rfl⟩
    · omega
  | succ r ih =>
    intro t left x7 hr h0 hl
    obtain ⟨u, hu, hku, hat⟩ := hI.at (t := t) h0 (by omega)
    have hat0 := hat
    obtain ⟨g1, g2, g3, g4, -, -⟩ := hat
    obtain ⟨⟨k1, k2, k3, k4⟩, -⟩ := hku.pv
    have hd := drop_at h0 (by omega) hu
    have hb := gdU_bd hku left
    have hv3 := hku.v3 hb.1 hb.2
    have hl3 := hku.2.2.1
    have ht1 : (t + 1).toNat = t.toNat + 1 := by omega
    rw [hd, gdF]
    refine g_iload (i := 6) rfl dX11_greed_50 ?_
    refine g_aload (i := 4) rfl dX11_greed_52 ?_
    refine g_getI dX11_greed_54 flX11_125 rfl (by assumption) (kz := 0) rfl ?_
    refine g_icmp_ge (tgt := 100) dX11_greed_57 (by decide) (by omega) (by omega) (fun h57 => ?_) (fun h57 => ?_)
    · omega
    · refine g_aload (i := 4) rfl dX11_greed_60 ?_
      refine g_iload (i := 6) rfl dX11_greed_62 ?_
      refine g_iload (i := 5) rfl dX11_greed_64 ?_
      refine g_callS dX11_greed_66 mlX11_225 msX11_greedyX (c_greedyX w d μ hF hI (t := t) (left := left) h0 (by omega) hu hku hat0 (by omega)) sk3 rfl (by omega) (Nat.le_of_ble_eq_true rfl) (Nat.le_refl _) (Nat.le_refl _) (fun v μ2 hR => ?_)
      obtain ⟨rfl, hm⟩ := hR
      replace hm := hm.symm
      subst hm
      refine g_istore (i := 7) dX11_greed_69 (by decide) rfl ls7 ?_
      refine g_iload (i := 6) rfl dX11_greed_71 ?_
      refine g_iload_n (j := 3) rfl dX11_greed_73 ?_
      refine g_icmp_ne (tgt := 80) dX11_greed_74 (by decide) (by omega) (by omega) (fun h74 => ?_) (fun h74 => ?_)
      · refine g_iload (i := 5) rfl dX11_greed_80 ?_
        refine g_aload (i := 4) rfl dX11_greed_82 ?_
        refine g_iload (i := 6) rfl dX11_greed_84 ?_
        refine g_iload (i := 7) rfl dX11_greed_86 ?_
        refine g_callV dX11_greed_88 mlX11_228 mvX1_valueOf (ci := 1) ⟨by decide, rfl⟩ (by assumption) (c_valueOf w (d + 1) μ hF (t := t) (x := gdU u left) (by omega) g2 g1 k2 k1 (by omega) (by omega)) sv2 rfl (by omega) (Nat.le_of_ble_eq_true rfl) (Nat.le_refl _) (Nat.le_refl _) (fun v μ2 hR => ?_)
        obtain ⟨rfl, hm⟩ := hR
        replace hm := hm.symm
        subst hm
        rw [show pv (tK u) (tF u) (gdU u left) = tV u (gdU u left) from rfl]
        refine g_isub dX11_greed_91 ?_
        refine g_istore (i := 5) dX11_greed_92 (by decide) rfl ls5 ?_
        refine g_iinc (i := 6) dX11_greed_94 rfl (by decide) rfl ls6 ?_
        refine g_goto (tgt := 50) (by decide) dX11_greed_97 ?_
        rw [if_neg (by omega)]
        exact ih (t + 1) _ _ (by omega) (by omega) (by omega)
      · refine g_iload (i := 7) rfl dX11_greed_77 ?_
        exact G.retI dX11_greed_79 rfl ⟨by rw [if_pos (by omega)], rfl⟩
noncomputable def aGreed (F : Int → List Tm) (s n i : Int) : Int := cI (HasT F s ∧ (-3000 ≤ n ∧ n ≤ 3000) ∧ -1 ≤ i ∧ i < (F s).length) (gdF i (F s) 0 n) (-100000)
theorem c_X11_greed (w : WC) (d : Nat) (μ : Mem) {x c N : Nat} {F : Int → List Tm} (h : CA w μ x F c N) {s n i : Int} (hs : i32 s) (hn : i32 n) (hi : i32 i) : Con w (d + 3) mX11_greed 0 0 [vP (some x), vI s, vI n, vI i] μ (fun v μ2 => v = some (vI (aGreed F s n i)) ∧ μ2 = μ) := by
  have o0 := h.tps.o0
  have r1 := h.tps.r0_1
  have a7 := h.tps.a7
  refine Con.of (by decide) (Nat.le_of_ble_eq_true rfl) rfl ?_
  refine g_aload_n (j := 0) rfl dX11_greed_0 ?_
  refine g_iload_n (j := 1) rfl dX11_greed_1 ?_
  refine g_callV dX11_greed_2 mlX11_128 mvX11_hasTerms (ci := 11) ⟨by decide, rfl⟩ (by assumption) (c_hasTerms w (d + 1) μ h hs) sv1 rfl (by omega) (Nat.le_of_ble_eq_true rfl) (Nat.le_refl _) (Nat.le_refl _) (fun v μ2 hR => ?_)
  obtain ⟨rfl, hm⟩ := hR
  replace hm := hm.symm
  subst hm
  refine g_ifb_eq (tgt := 33) dX11_greed_5 (by decide)  (fun h5 => ?_) (fun h5 => ?_)
  · refine g_ldc dX11_greed_33 kcX11_161 (z := -100000) rfl ?_
    exact G.retI dX11_greed_35 rfl ⟨by rw [aGreed, cI_f (by first | exact fun z => h5 z.1 | exact fun z => h12 z.2.1 | omega)], rfl⟩
  · refine g_iload_n (j := 2) rfl dX11_greed_8 ?_
    refine g_callS dX11_greed_9 mlX11_174 msX11_isNumber (c_X11_isNumber w (d + 2) μ hn) sk1 rfl (by omega) (Nat.le_of_ble_eq_true rfl) (Nat.le_refl _) (Nat.le_refl _) (fun v μ2 hR => ?_)
    obtain ⟨rfl, hm⟩ := hR
    replace hm := hm.symm
    subst hm
    refine g_ifb_eq (tgt := 33) dX11_greed_12 (by decide)  (fun h12 => ?_) (fun h12 => ?_)
    · refine g_ldc dX11_greed_33 kcX11_161 (z := -100000) rfl ?_
      exact G.retI dX11_greed_35 rfl ⟨by rw [aGreed, cI_f (by first | exact fun z => h5 z.1 | exact fun z => h12 z.2.1 | omega)], rfl⟩
    · have hs5 := h5.1
      have rf := h.tps.rf hs5
      have of := (h.tps.fs hs5).1
      have ec := (h.fm hs5).1
      have hl5 := h.l5 hs5
      refine g_iload_n (j := 3) rfl dX11_greed_15 ?_
      refine g_iconst dX11_greed_16 ?_
      refine g_icmp_lt (tgt := 33) dX11_greed_17 (by decide) (by omega) (by omega) (fun h17 => ?_) (fun h17 => ?_)
      · refine g_ldc dX11_greed_33 kcX11_161 (z := -100000) rfl ?_
        exact G.retI dX11_greed_35 rfl ⟨by rw [aGreed, cI_f (by first | exact fun z => h5 z.1 | exact fun z => h12 z.2.1 | omega)], rfl⟩
      · refine g_iload_n (j := 3) rfl dX11_greed_20 ?_
        refine g_aload_n (j := 0) rfl dX11_greed_21 ?_
        refine g_getR dX11_greed_22 flX11_18 rfl (by assumption) (kz := 1) rfl (by assumption) ?_
        refine g_iload_n (j := 1) rfl dX11_greed_25 ?_
        refine g_aald dX11_greed_26 (by assumption) (by omega) (by omega) (by omega) (by assumption) ?_
        refine g_getI dX11_greed_27 flX11_125 rfl (by assumption) (kz := 0) rfl ?_
        refine g_icmp_lt (tgt := 36) dX11_greed_30 (by decide) (by omega) (by omega) (fun h30 => ?_) (fun h30 => ?_)
        · refine g_aload_n (j := 0) rfl dX11_greed_36 ?_
          refine g_getR dX11_greed_37 flX11_18 rfl (by assumption) (kz := 1) rfl (by assumption) ?_
          refine g_iload_n (j := 1) rfl dX11_greed_40 ?_
          refine g_aald dX11_greed_41 (by assumption) (by omega) (by omega) (by omega) (by assumption) ?_
          refine g_astore (i := 4) dX11_greed_42 (by decide) rfl ls4 ?_
          refine g_iload_n (j := 2) rfl dX11_greed_44 ?_
          refine g_istore (i := 5) dX11_greed_45 (by decide) rfl ls5 ?_
          refine g_iconst dX11_greed_47 ?_
          refine g_istore (i := 6) dX11_greed_48 (by decide) rfl ls6 ?_
          rw [aGreed, cI_t ⟨h5, h12, by omega⟩]
          exact l_greed (h.tps.fs hs5) (h.fm hs5) hi (F s).length 0 n _ (by omega) (by omega) (by omega)
        · refine g_ldc dX11_greed_33 kcX11_161 (z := -100000) rfl ?_
          exact G.retI dX11_greed_35 rfl ⟨by rw [aGreed, cI_f (by first | exact fun z => h5 z.1 | exact fun z => h12 z.2.1 | omega)], rfl⟩
theorem l12_greedX {w : WC} {d : Nat} {R : Option AV → Mem → Prop} {μ : Mem} {m : Nat} {s : Int} (hM : MoS w μ m) (hs : 0 ≤ s ∧ s ≤ 3) {t left n i : Int} (h0 : 0 ≤ t ∧ t ≤ 4) {u : Tm} (hk : TOk u) (e0 : mI μ (m + 2) (4 * (5 * s + t) + 0) = tF u) (e1 : mI μ (m + 2) (4 * (5 * s + t) + 1) = tK u) (e3 : mI μ (m + 2) (4 * (5 * s + t) + 3) = tH u) (hl : -1000000 ≤ left ∧ left ≤ 1000000) : ∀ (k : Nat) (x b : Int) (x9 x11 : Option AV), tL u ≤ x → x + k = tH u + 1 → tL u ≤ b ∧ b ≤ tH u →
    (∀ x8 x9 x11 : Option AV, G w (d + 3) mX12_greed R 0 0 157 [some (vP (some m)), some (vI s), some (vI n), some (vI i), some (vJ left), none, some (vI t), some (vI (gdX (tV u) left k x b)), x8, x9, none, x11, none] [] μ) →
    G w (d + 3) mX12_greed R 0 0 67 [some (vP (some m)), some (vI s), some (vI n), some (vI i), some (vJ left), none, some (vI t), some (vI b), some (vI x), x9, none, x11, none] [] μ := by
  have o0 := hM.o
  obtain ⟨⟨k1, k2, k3, k4⟩, -⟩ := hk.pv
  have hl3 := hk.2.2.1
  intro k
  induction k with
  | zero =>
    intro x b x9 x11 hx he hb kk
    rw [gdX] at kk
    refine g_iload (i := 8) rfl dX12_greed_67 ?_
    refine g_aload_n (j := 0) rfl dX12_greed_69 ?_
    refine g_iload_n (j := 1) rfl dX12_greed_70 ?_
    refine g_iload (i := 6) rfl dX12_greed_71 ?_
    refine g_iconst dX12_greed_73 ?_
    refine g_callV dX12_greed_74 mlX12_93 mvX12_of (ci := 12) ⟨by decide, rfl⟩ (by assumption) (c_X12_of w (d + 2) μ hM (s := s) (i := t) (k := 3) (by omega) (by omega) (by omega)) sv3 rfl (by omega) (Nat.le_of_ble_eq_true rfl) (Nat.le_refl _) (Nat.le_refl _) (fun v μ2 hR => ?_)
    obtain ⟨rfl, hm⟩ := hR
    replace hm := hm.symm
    subst hm
    rw [e3]
    refine g_icmp_gt (tgt := 157) dX12_greed_77 (by decide) (by omega) (by omega) (fun h77 => ?_) (fun h77 => ?_)
    · exact kk _ _ _
    · omega
  | succ k ih =>
    intro x b x9 x11 hx he hb kk
    have hv3 := hk.v3 (x := x) hx (by omega)
    have hb3 := hk.v3 (x := b) hb.1 hb.2
    rw [gdX] at kk
    refine g_iload (i := 8) rfl dX12_greed_67 ?_
    refine g_aload_n (j := 0) rfl dX12_greed_69 ?_
    refine g_iload_n (j := 1) rfl dX12_greed_70 ?_
    refine g_iload (i := 6) rfl dX12_greed_71 ?_
    refine g_iconst dX12_greed_73 ?_
    refine g_callV dX12_greed_74 mlX12_93 mvX12_of (ci := 12) ⟨by decide, rfl⟩ (by assumption) (c_X12_of w (d + 2) μ hM (s := s) (i := t) (k := 3) (by omega) (by omega) (by omega)) sv3 rfl (by omega) (Nat.le_of_ble_eq_true rfl) (Nat.le_refl _) (Nat.le_refl _) (fun v μ2 hR => ?_)
    obtain ⟨rfl, hm⟩ := hR
    replace hm := hm.symm
    subst hm
    rw [e3]
    refine g_icmp_gt (tgt := 157) dX12_greed_77 (by decide) (by omega) (by omega) (fun h77 => ?_) (fun h77 => ?_)
    · omega
    · refine g_aload_n (j := 0) rfl dX12_greed_80 ?_
      refine g_iload_n (j := 1) rfl dX12_greed_81 ?_
      refine g_iload (i := 6) rfl dX12_greed_82 ?_
      refine g_iload (i := 8) rfl dX12_greed_84 ?_
      refine g_i2l (by omega) dX12_greed_86 ?_
      refine g_callV dX12_greed_87 mlX12_234 mvX12_valueOf (ci := 12) ⟨by decide, rfl⟩ (by assumption) (c_X12_valueOf w (d + 1) μ hM (s := s) (i := t) (x := x) (by omega) (by omega) e0 e1 k1 k2 (by omega)) sv3 rfl (by omega) (Nat.le_of_ble_eq_true rfl) (Nat.le_refl _) (Nat.le_refl _) (fun v μ2 hR => ?_)
      obtain ⟨rfl, hm⟩ := hR
      replace hm := hm.symm
      subst hm
      rw [show pv (tK u) (tF u) x = tV u x from rfl]
      refine g_lstore (i := 9) dX12_greed_90 (by decide) rfl lj9 ?_
      refine g_aload_n (j := 0) rfl dX12_greed_92 ?_
      refine g_iload_n (j := 1) rfl dX12_greed_93 ?_
      refine g_iload (i := 6) rfl dX12_greed_94 ?_
      refine g_iload (i := 7) rfl dX12_greed_96 ?_
      refine g_i2l (by omega) dX12_greed_98 ?_
      refine g_callV dX12_greed_99 mlX12_234 mvX12_valueOf (ci := 12) ⟨by decide, rfl⟩ (by assumption) (c_X12_valueOf w (d + 1) μ hM (s := s) (i := t) (x := b) (by omega) (by omega) e0 e1 k1 k2 (by omega)) sv3 rfl (by omega) (Nat.le_of_ble_eq_true rfl) (Nat.le_refl _) (Nat.le_refl _) (fun v μ2 hR => ?_)
      obtain ⟨rfl, hm⟩ := hR
      replace hm := hm.symm
      subst hm
      rw [show pv (tK u) (tF u) b = tV u b from rfl]
      refine g_lstore (i := 11) dX12_greed_102 (by decide) rfl lj11 ?_
      refine g_lload (i := 9) rfl dX12_greed_104 ?_
      refine g_lload (i := 4) rfl dX12_greed_106 ?_
      refine g_lif_gt (tgt := 131) dX12_greed_108 dX12_greed_109 (by decide) (by omega) (by omega) (fun h108 => ?_) (fun h108 => ?_)
      · refine g_lload (i := 11) rfl dX12_greed_131 ?_
        refine g_lload (i := 4) rfl dX12_greed_133 ?_
        refine g_lif_le (tgt := 151) dX12_greed_135 dX12_greed_136 (by decide) (by omega) (by omega) (fun h135 => ?_) (fun h135 => ?_)
        · refine g_iinc (i := 8) dX12_greed_151 rfl (by decide) rfl ls8 ?_
          refine g_goto (tgt := 67) (by decide) dX12_greed_154 ?_
          first
          | (exfalso; omega)
          | (rw [if_pos (by omega)] at kk; exact ih (x + 1) x _ _ (by omega) (by omega) (by omega) kk)
          | (rw [if_neg (by omega)] at kk; exact ih (x + 1) b _ _ (by omega) (by omega) hb kk)
        · refine g_lload (i := 9) rfl dX12_greed_139 ?_
          refine g_lload (i := 11) rfl dX12_greed_141 ?_
          refine g_lif_ge (tgt := 151) dX12_greed_143 dX12_greed_144 (by decide) (by omega) (by omega) (fun h143 => ?_) (fun h143 => ?_)
          · refine g_iinc (i := 8) dX12_greed_151 rfl (by decide) rfl ls8 ?_
            refine g_goto (tgt := 67) (by decide) dX12_greed_154 ?_
            first
            | (exfalso; omega)
            | (rw [if_pos (by omega)] at kk; exact ih (x + 1) x _ _ (by omega) (by omega) (by omega) kk)
            | (rw [if_neg (by omega)] at kk; exact ih (x + 1) b _ _ (by omega) (by omega) hb kk)
          · refine g_iload (i := 8) rfl dX12_greed_147 ?_
            refine g_istore (i := 7) dX12_greed_149 (by decide) rfl ls7 ?_
            refine g_iinc (i := 8) dX12_greed_151 rfl (by decide) rfl ls8 ?_
            refine g_goto (tgt := 67) (by decide) dX12_greed_154 ?_
            first
            | (exfalso; omega)
            | (rw [if_pos (by omega)] at kk; exact ih (x + 1) x _ _ (by omega) (by omega) (by omega) kk)
            | (rw [if_neg (by omega)] at kk; exact ih (x + 1) b _ _ (by omega) (by omega) hb kk)
      · refine g_lload (i := 11) rfl dX12_greed_112 ?_
        refine g_lload (i := 4) rfl dX12_greed_114 ?_
        refine g_lif_gt (tgt := 147) dX12_greed_116 dX12_greed_117 (by decide) (by omega) (by omega) (fun h116 => ?_) (fun h116 => ?_)
        · refine g_iload (i := 8) rfl dX12_greed_147 ?_
          refine g_istore (i := 7) dX12_greed_149 (by decide) rfl ls7 ?_
          refine g_iinc (i := 8) dX12_greed_151 rfl (by decide) rfl ls8 ?_
          refine g_goto (tgt := 67) (by decide) dX12_greed_154 ?_
          first
          | (exfalso; omega)
          | (rw [if_pos (by omega)] at kk; exact ih (x + 1) x _ _ (by omega) (by omega) (by omega) kk)
          | (rw [if_neg (by omega)] at kk; exact ih (x + 1) b _ _ (by omega) (by omega) hb kk)
        · refine g_lload (i := 9) rfl dX12_greed_120 ?_
          refine g_lload (i := 11) rfl dX12_greed_122 ?_
          refine g_lif_le (tgt := 151) dX12_greed_124 dX12_greed_125 (by decide) (by omega) (by omega) (fun h124 => ?_) (fun h124 => ?_)
          · refine g_iinc (i := 8) dX12_greed_151 rfl (by decide) rfl ls8 ?_
            refine g_goto (tgt := 67) (by decide) dX12_greed_154 ?_
            first
            | (exfalso; omega)
            | (rw [if_pos (by omega)] at kk; exact ih (x + 1) x _ _ (by omega) (by omega) (by omega) kk)
            | (rw [if_neg (by omega)] at kk; exact ih (x + 1) b _ _ (by omega) (by omega) hb kk)
          · refine g_goto (tgt := 147) (by decide) dX12_greed_128 ?_
            refine g_iload (i := 8) rfl dX12_greed_147 ?_
            refine g_istore (i := 7) dX12_greed_149 (by decide) rfl ls7 ?_
            refine g_iinc (i := 8) dX12_greed_151 rfl (by decide) rfl ls8 ?_
            refine g_goto (tgt := 67) (by decide) dX12_greed_154 ?_
            first
            | (exfalso; omega)
            | (rw [if_pos (by omega)] at kk; exact ih (x + 1) x _ _ (by omega) (by omega) (by omega) kk)
            | (rw [if_neg (by omega)] at kk; exact ih (x + 1) b _ _ (by omega) (by omega) hb kk)
theorem l12_greed {w : WC} {d : Nat} {μ : Mem} {m : Nat} {F : Int → List Tm} (hA : MA w μ m F) {s n i : Int} (hs : 0 ≤ s ∧ s ≤ 3) (hi : i32 i) : ∀ (r : Nat) (t left : Int) (x7 x8 x9 x11 : Option AV), t + r = (F s).length → 0 ≤ t → -3000 - 3000 * t ≤ left ∧ left ≤ 3000 + 3000 * t →
    G w (d + 3) mX12_greed (fun v μ2 => v = some (vI (gdF i ((F s).drop t.toNat) t left)) ∧ μ2 = μ) 0 0 40 [some (vP (some m)), some (vI s), some (vI n), some (vI i), some (vJ left), none, some (vI t), x7, x8, x9, none, x11, none] [] μ := by
  have h5 := hA.l5 hs
  have ec := (hA.2.1 s hs).1
  have hM := hA.1
  have o0 := hM.o
  have r0 := hM.r0
  have a0 := hM.a0
  intro r
  induction r with
  | zero =>
    intro t left x7 x8 x9 x11 hr h0 hl
    have hd : (F s).drop t.toNat = [] := List.drop_eq_nil_of_le (by omega)
    rw [hd]
    refine g_iload (i := 6) rfl dX12_greed_40 ?_
    refine g_aload_n (j := 0) rfl dX12_greed_42 ?_
    refine g_getR dX12_greed_43 flX12_9 rfl (by assumption) (kz := 0) rfl (by assumption) ?_
    refine g_iload_n (j := 1) rfl dX12_greed_46 ?_
    refine g_iald dX12_greed_47 (by assumption) (by omega) (by omega) ?_
    refine g_icmp_ge (tgt := 187) dX12_greed_48 (by decide) (by omega) (by omega) (fun h48 => ?_) (fun h48 => ?_)
    · refine g_lload (i := 4) rfl dX12_greed_187 ?_
      refine g_l2i dX12_greed_189 ?_
      exact G.retI dX12_greed_190 rfl ⟨by rw [gdF], rfl⟩
    · omega
  | succ r ih =>
    intro t left x7 x8 x9 x11 hr h0 hl
    obtain ⟨u, hu, hku, e0, e1, e2, e3⟩ := (hA.2.1 s hs).at (t := t) h0 (by omega)
    obtain ⟨⟨k1, k2, k3, k4⟩, -⟩ := hku.pv
    have hd := drop_at h0 (by omega) hu
    have hb := gdU_bd hku left
    have hv3 := hku.v3 hb.1 hb.2
    have hl3 := hku.2.2.1
    have ht1 : (t + 1).toNat = t.toNat + 1 := by omega
    rw [hd, gdF]
    refine g_iload (i := 6) rfl dX12_greed_40 ?_
    refine g_aload_n (j := 0) rfl dX12_greed_42 ?_
    refine g_getR dX12_greed_43 flX12_9 rfl (by assumption) (kz := 0) rfl (by assumption) ?_
    refine g_iload_n (j := 1) rfl dX12_greed_46 ?_
    refine g_iald dX12_greed_47 (by assumption) (by omega) (by omega) ?_
    refine g_icmp_ge (tgt := 187) dX12_greed_48 (by decide) (by omega) (by omega) (fun h48 => ?_) (fun h48 => ?_)
    · omega
    · refine g_aload_n (j := 0) rfl dX12_greed_51 ?_
      refine g_iload_n (j := 1) rfl dX12_greed_52 ?_
      refine g_iload (i := 6) rfl dX12_greed_53 ?_
      refine g_iconst dX12_greed_55 ?_
      refine g_callV dX12_greed_56 mlX12_93 mvX12_of (ci := 12) ⟨by decide, rfl⟩ (by assumption) (c_X12_of w (d + 2) μ hM (s := s) (i := t) (k := 2) (by omega) (by omega) (by omega)) sv3 rfl (by omega) (Nat.le_of_ble_eq_true rfl) (Nat.le_refl _) (Nat.le_refl _) (fun v μ2 hR => ?_)
      obtain ⟨rfl, hm⟩ := hR
      replace hm := hm.symm
      subst hm
      rw [e2]
      refine g_istore (i := 7) dX12_greed_59 (by decide) rfl ls7 ?_
      refine g_iload (i := 7) rfl dX12_greed_61 ?_
      refine g_iconst dX12_greed_63 ?_
      refine g_iadd dX12_greed_64 ?_
      refine g_istore (i := 8) dX12_greed_65 (by decide) rfl ls8 ?_
      refine l12_greedX hM hs (by omega) hku e0 e1 e3 (by omega) (tH u - tL u).toNat (tL u + 1) (tL u) _ _ (by omega) (by omega) (by omega) fun y8 y9 y11 => ?_
      rw [show gdX (tV u) left (tH u - tL u).toNat (tL u + 1) (tL u) = gdU u left from rfl]
      refine g_iload (i := 6) rfl dX12_greed_157 ?_
      refine g_iload_n (j := 3) rfl dX12_greed_159 ?_
      refine g_icmp_ne (tgt := 166) dX12_greed_160 (by decide) (by omega) (by omega) (fun h160 => ?_) (fun h160 => ?_)
      · refine g_lload (i := 4) rfl dX12_greed_166 ?_
        refine g_aload_n (j := 0) rfl dX12_greed_168 ?_
        refine g_iload_n (j := 1) rfl dX12_greed_169 ?_
        refine g_iload (i := 6) rfl dX12_greed_170 ?_
        refine g_iload (i := 7) rfl dX12_greed_172 ?_
        refine g_i2l (by omega) dX12_greed_174 ?_
        refine g_callV dX12_greed_175 mlX12_234 mvX12_valueOf (ci := 12) ⟨by decide, rfl⟩ (by assumption) (c_X12_valueOf w (d + 1) μ hM (s := s) (i := t) (x := gdU u left) (by omega) (by omega) e0 e1 k1 k2 (by omega)) sv3 rfl (by omega) (Nat.le_of_ble_eq_true rfl) (Nat.le_refl _) (Nat.le_refl _) (fun v μ2 hR => ?_)
        obtain ⟨rfl, hm⟩ := hR
        replace hm := hm.symm
        subst hm
        rw [show pv (tK u) (tF u) (gdU u left) = tV u (gdU u left) from rfl]
        refine g_lsub dX12_greed_178 ?_
        refine g_lstore (i := 4) dX12_greed_179 (by decide) rfl lj4 ?_
        refine g_iinc (i := 6) dX12_greed_181 rfl (by decide) rfl ls6 ?_
        refine g_goto (tgt := 40) (by decide) dX12_greed_184 ?_
        rw [if_neg (by omega)]
        exact ih (t + 1) _ _ _ _ _ (by omega) (by omega) (by omega)
      · refine g_iload (i := 7) rfl dX12_greed_163 ?_
        exact G.retI dX12_greed_165 rfl ⟨by rw [if_pos (by omega)], rfl⟩
theorem c_X12_greed (w : WC) (d : Nat) (μ : Mem) {m : Nat} {F : Int → List Tm} (hA : MA w μ m F) {s n i : Int} (hs : i32 s) (hn : i32 n) (hi : i32 i) : Con w (d + 3) mX12_greed 0 0 [vP (some m), vI s, vI n, vI i] μ (fun v μ2 => v = some (vI (aGreed F s n i)) ∧ μ2 = μ) := by
  have o0 := hA.o
  refine Con.of (by decide) (Nat.le_of_ble_eq_true rfl) rfl ?_
  refine g_aload_n (j := 0) rfl dX12_greed_0 ?_
  refine g_iload_n (j := 1) rfl dX12_greed_1 ?_
  refine g_callV dX12_greed_2 mlX12_274 mvX12_isForm (ci := 12) ⟨by decide, rfl⟩ (by assumption) (c_X12_isForm w d μ hA hs) sv1 rfl (by omega) (Nat.le_of_ble_eq_true rfl) (Nat.le_refl _) (Nat.le_refl _) (fun v μ2 hR => ?_)
  obtain ⟨rfl, hm⟩ := hR
  replace hm := hm.symm
  subst hm
  refine g_ifb_eq (tgt := 29) dX12_greed_5 (by decide)  (fun h5 => ?_) (fun h5 => ?_)
  · refine g_ldcw dX12_greed_29 kcX12_321 (z := -100000) rfl ?_
    exact G.retI dX12_greed_32 rfl ⟨by rw [aGreed, cI_f (by first | exact fun z => h5 z.1 | exact fun z => h12 z.2.1 | exact fun z => h26 ⟨h5.1, by omega⟩)], rfl⟩
  · refine g_iload_n (j := 2) rfl dX12_greed_8 ?_
    refine g_callS dX12_greed_9 mlX12_277 msX12_isN (c_X12_isN w (d + 1) μ hn) sk1 rfl (by omega) (Nat.le_of_ble_eq_true rfl) (Nat.le_refl _) (Nat.le_refl _) (fun v μ2 hR => ?_)
    obtain ⟨rfl, hm⟩ := hR
    replace hm := hm.symm
    subst hm
    refine g_ifb_eq (tgt := 29) dX12_greed_12 (by decide)  (fun h12 => ?_) (fun h12 => ?_)
    · refine g_ldcw dX12_greed_29 kcX12_321 (z := -100000) rfl ?_
      exact G.retI dX12_greed_32 rfl ⟨by rw [aGreed, cI_f (by first | exact fun z => h5 z.1 | exact fun z => h12 z.2.1 | exact fun z => h26 ⟨h5.1, by omega⟩)], rfl⟩
    · refine g_iload_n (j := 3) rfl dX12_greed_15 ?_
      refine g_iconst dX12_greed_16 ?_
      refine g_icmp_eq (tgt := 33) dX12_greed_17 (by decide) (by omega) (by omega) (fun h17 => ?_) (fun h17 => ?_)
      · refine g_iload_n (j := 2) rfl dX12_greed_33 ?_
        refine g_i2l (by omega) dX12_greed_34 ?_
        refine g_lstore (i := 4) dX12_greed_35 (by decide) rfl lj4 ?_
        refine g_iconst dX12_greed_37 ?_
        refine g_istore (i := 6) dX12_greed_38 (by decide) rfl ls6 ?_
        rw [aGreed, cI_t ⟨h5, h12, by first | (have := h26.2; omega) | (have := h5.2; omega)⟩]
        exact l12_greed hA h5.1 hi (F s).length 0 n _ _ _ _ (by omega) (by omega) (by omega)
      · refine g_aload_n (j := 0) rfl dX12_greed_20 ?_
        refine g_iload_n (j := 1) rfl dX12_greed_21 ?_
        refine g_iload_n (j := 3) rfl dX12_greed_22 ?_
        refine g_callV dX12_greed_23 mlX12_313 mvX12_isTerm (ci := 12) ⟨by decide, rfl⟩ (by assumption) (c_X12_isTerm w d μ hA hs hi) sv2 rfl (by omega) (Nat.le_of_ble_eq_true rfl) (Nat.le_refl _) (Nat.le_refl _) (fun v μ2 hR => ?_)
        obtain ⟨rfl, hm⟩ := hR
        replace hm := hm.symm
        subst hm
        refine g_ifb_ne (tgt := 33) dX12_greed_26 (by decide)  (fun h26 => ?_) (fun h26 => ?_)
        · refine g_iload_n (j := 2) rfl dX12_greed_33 ?_
          refine g_i2l (by omega) dX12_greed_34 ?_
          refine g_lstore (i := 4) dX12_greed_35 (by decide) rfl lj4 ?_
          refine g_iconst dX12_greed_37 ?_
          refine g_istore (i := 6) dX12_greed_38 (by decide) rfl ls6 ?_
          rw [aGreed, cI_t ⟨h5, h12, by first | (have := h26.2; omega) | (have := h5.2; omega)⟩]
          exact l12_greed hA h5.1 hi (F s).length 0 n _ _ _ _ (by omega) (by omega) (by omega)
        · refine g_ldcw dX12_greed_29 kcX12_321 (z := -100000) rfl ?_
          exact G.retI dX12_greed_32 rfl ⟨by rw [aGreed, cI_f (by first | exact fun z => h5 z.1 | exact fun z => h12 z.2.1 | exact fun z => h26 ⟨h5.1, by omega⟩)], rfl⟩
