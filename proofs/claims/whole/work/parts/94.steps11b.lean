/-! THE CLASS: all steps -/
theorem vl_A {I : IdT} (hw : WI I) (h0 : 0 < I.1.2.2.length) : Wf I.1.2.2 0 ∧ (∀ o ∈ I.1.2.2, OkO o) ∧ (1 ≤ I.2 ∧ I.2 < I.1.2.2.length) ∧ (∀ V, valI V I.1.2.2 (I.2 - 1) = sA I V ∧ valI V I.1.2.2 (I.1.2.2.length - 1) = sB I V) ∧ Gq 0 (I.1.2.2.take I.2) ∧ Gq 0 (I.1.2.2.drop I.2) := by
  obtain ⟨-, -, h⟩ := hw
  rcases h with ⟨h, -⟩ | ⟨q1, q2, e1, e2, g1, g2⟩
  · rw [h] at h0
    exact absurd h0 (by decide)
  · have n1 := Gq_ne g1
    have n2 := Gq_ne g2
    have et : I.1.2.2.take I.2 = q1 := by rw [e1, e2, List.take_left']; rfl
    have ed : I.1.2.2.drop I.2 = q2 := by rw [e1, e2, List.drop_left']; rfl
    have hl : I.1.2.2.length = q1.length + q2.length := by rw [e1, List.length_append]
    refine ⟨?_, fun o ho => ?_, ⟨by omega, by omega⟩, fun V => ⟨?_, ?_⟩, by rw [et]; exact g1, by rw [ed]; exact g2⟩
    · rw [e1, Wf_app]
      exact ⟨(g1.1 0 (Nat.le_refl _)).1, (g2.1 _ (Nat.zero_le _)).1⟩
    · rw [e1] at ho
      exact (List.mem_append.mp ho).elim (g1.2 o) (g2.2 o)
    · unfold valI sA sdV
      rw [show I.2 - 1 + 1 = I.2 by omega]
    · unfold valI sB
      rw [show I.1.2.2.length - 1 + 1 = I.1.2.2.length by omega, List.take_length, ed, e1, evS_app, sdV_e g2]
      rfl
theorem TsA.r {y : Nat} {i : Int} {μ μ2 μ3 : Mem} (h : RsF y μ μ2) (h2 : TsA y i μ2 μ3) : TsA y i μ μ3 := ⟨h.t.tr h2.1, fun j z => ⟨(h2.2 j z).1.trans (h.2.1 _ _), (h2.2 j z).2.trans (h.2.2 _ _ (by omega))⟩⟩
theorem c_takeStep (w : WC) (d : Nat) (μ : Mem) {y i : Nat} {ops : List Op} {o : Op} {V : Int → Int} (hI : IdO w μ y) (hO : OpC μ y ops) (ho : ops[i]? = some o) (hl : ops.length ≤ 180) (hw : Wf ops 0) (hk : ∀ o ∈ ops, OkO o) (hV : ∀ l, 0 ≤ l → l ≤ 5 → mI μ (y + 9) l = V l ∧ i32 (V l)) (hN : ∀ j : Nat, j < i → NvO μ y (j : Int) (valI V ops j)) : Con w (d + 3) mX3_takeStep 0 0 [vP (some y), vI (i : Int)] μ (fun v μ2 => v = none ∧ NvO μ2 y (i : Int) (valI V ops i) ∧ TsA y (i : Int) μ μ2) := by
  have r0 := hI.r0
  have a0 := hI.a0
  have r1 := hI.r1
  have a1 := hI.a1
  have r2 := hI.r2
  have a2 := hI.a2
  have r3 := hI.r3
  have a3 := hI.a3
  have r5 := hI.r5
  have a5 := hI.a5
  have r6 := hI.r6
  have a6 := hI.a6
  have r8 := hI.r8
  have a8 := hI.a8
  have o0 := hI.1
  have hi := get_lt ho
  obtain ⟨⟨eo1, eo2, eo3, eo4⟩, q5, q6, -⟩ := hO i o ho
  have hvs := val_step (V := V) ho hw
  have hok := hk o (List.mem_of_getElem? ho)
  unfold OkO at hok
  have hi64 : ∀ j z, valI V ops j = some z → i64 z := fun j z hz => evS_hi (fun l z1 z2 => i64_32 (hV l z1 z2).2) (fun q hq => hk q (List.mem_of_mem_take hq)) hz
  refine Con.of (by decide) (Nat.le_of_ble_eq_true rfl) rfl ?_
  refine g_aload_n (j := 0) rfl dX3_takeStep_0 ?_
  refine g_getR dX3_takeStep_1 flX3_11 rfl (by assumption) (kz := 0) rfl (by assumption) ?_
  refine g_iload_n (j := 1) rfl dX3_takeStep_4 ?_
  refine g_iald dX3_takeStep_5 (by assumption) (by omega) (by omega) ?_
  rw [eo1]
  refine g_istore_n (j := 2) dX3_takeStep_6 (by decide) rfl ls2 ?_
  refine g_iconst dX3_takeStep_7 ?_
  refine g_istore_n (j := 3) dX3_takeStep_8 (by decide) rfl ls3 ?_
  refine g_iload_n (j := 2) rfl dX3_takeStep_9 ?_
  refine g_if_ne (tgt := 27) dX3_takeStep_10 (by decide) (by omega) (fun h10 => ?_) (fun h10 => ?_)
  · refine g_iload_n (j := 2) rfl dX3_takeStep_27 ?_
    refine g_iconst dX3_takeStep_28 ?_
    refine g_icmp_ne (tgt := 51) dX3_takeStep_29 (by decide) (by omega) (by omega) (fun h29 => ?_) (fun h29 => ?_)
    · refine g_iload_n (j := 2) rfl dX3_takeStep_51 ?_
      refine g_iconst dX3_takeStep_52 ?_
      refine g_icmp_ne (tgt := 103) dX3_takeStep_53 (by decide) (by omega) (by omega) (fun h53 => ?_) (fun h53 => ?_)
      · have hn2 : 2 ≤ (ixO (ops.take i)).length := by
          have := nd_le ho hw
          unfold nd at this
          rw [if_neg (by omega), if_neg (by omega)] at this
          exact this
        have hll := ix_lt (k := 0) (show 0 < (ixO (ops.take i)).length by omega)
        have hlr := ix_lt (k := 1) (show 1 < (ixO (ops.take i)).length by omega)
        rw [List.drop_zero] at hll
        obtain ⟨el, er⟩ := q6 (by omega)
        generalize (ixO (ops.take i)).headD 0 = r at *
        generalize ((ixO (ops.take i)).drop 1).headD 0 = l at *
        obtain ⟨n7, n6⟩ := hN l hlr
        obtain ⟨m7, m6⟩ := hN r hll
        have hb7 := bI_01 (valI V ops l = none)
        have hc7 := bI_01 (valI V ops r = none)
        have ho4 : 2 ≤ o.1 ∧ o.1 ≤ 4 := by omega
        refine g_aload_n (j := 0) rfl dX3_takeStep_103 ?_
        refine g_getR dX3_takeStep_104 flX3_31 rfl (by assumption) (kz := 6) rfl (by assumption) ?_
        refine g_aload_n (j := 0) rfl dX3_takeStep_107 ?_
        refine g_getR dX3_takeStep_108 flX3_18 rfl (by assumption) (kz := 2) rfl (by assumption) ?_
        refine g_iload_n (j := 1) rfl dX3_takeStep_111 ?_
        refine g_iald dX3_takeStep_112 (by assumption) (by omega) (by omega) ?_
        rw [el]
        refine g_zald dX3_takeStep_113 (by assumption) (by omega) (by omega) ?_
        rw [n7]
        refine g_if_ne (tgt := 165) dX3_takeStep_114 (by decide) (by omega) (fun h114 => ?_) (fun h114 => ?_)
        · refine g_iconst dX3_takeStep_165 ?_
          refine g_istore_n (j := 3) dX3_takeStep_166 (by decide) rfl ls3 ?_
          refine G.post (fun v μ3 hq => ⟨hq.1, hq.2.1, TsA.r RsF.rf hq.2.2⟩) (l_ts167_0 ((RsF.rf).o hI) (by omega) (vo := valI V ops i) (by rw [hvs, if_neg (by omega), if_neg (by omega), if_neg (by omega), show valI V ops l = none from bI_is1.mp (by omega)]; rfl))
        · refine g_aload_n (j := 0) rfl dX3_takeStep_117 ?_
          refine g_getR dX3_takeStep_118 flX3_31 rfl (by assumption) (kz := 6) rfl (by assumption) ?_
          refine g_aload_n (j := 0) rfl dX3_takeStep_121 ?_
          refine g_getR dX3_takeStep_122 flX3_21 rfl (by assumption) (kz := 3) rfl (by assumption) ?_
          refine g_iload_n (j := 1) rfl dX3_takeStep_125 ?_
          refine g_iald dX3_takeStep_126 (by assumption) (by omega) (by omega) ?_
          rw [er]
          refine g_zald dX3_takeStep_127 (by assumption) (by omega) (by omega) ?_
          rw [m7]
          refine g_if_ne (tgt := 165) dX3_takeStep_128 (by decide) (by omega) (fun h128 => ?_) (fun h128 => ?_)
          · refine g_iconst dX3_takeStep_165 ?_
            refine g_istore_n (j := 3) dX3_takeStep_166 (by decide) rfl ls3 ?_
            refine G.post (fun v μ3 hq => ⟨hq.1, hq.2.1, TsA.r RsF.rf hq.2.2⟩) (l_ts167_0 ((RsF.rf).o hI) (by omega) (vo := valI V ops i) (by rw [hvs, if_neg (by omega), if_neg (by omega), if_neg (by omega), show valI V ops r = none from bI_is1.mp (by omega)]; cases valI V ops l <;> rfl))
          · obtain ⟨z, hz⟩ : ∃ z, valI V ops l = some z := Option.ne_none_iff_exists'.mp (bI_is0.mp h114)
            obtain ⟨z2, hz2⟩ : ∃ z, valI V ops r = some z := Option.ne_none_iff_exists'.mp (bI_is0.mp h128)
            have ez := n6 z hz
            have iz := hi64 l z hz
            have ez2 := m6 z2 hz2
            have iz2 := hi64 r z2 hz2
            refine g_aload_n (j := 0) rfl dX3_takeStep_131 ?_
            refine g_iload_n (j := 2) rfl dX3_takeStep_132 ?_
            refine g_aload_n (j := 0) rfl dX3_takeStep_133 ?_
            refine g_getR dX3_takeStep_134 flX3_27 rfl (by assumption) (kz := 5) rfl (by assumption) ?_
            refine g_aload_n (j := 0) rfl dX3_takeStep_137 ?_
            refine g_getR dX3_takeStep_138 flX3_18 rfl (by assumption) (kz := 2) rfl (by assumption) ?_
            refine g_iload_n (j := 1) rfl dX3_takeStep_141 ?_
            refine g_iald dX3_takeStep_142 (by assumption) (by omega) (by omega) ?_
            rw [el]
            refine g_lald dX3_takeStep_143 (by assumption) (by omega) (by omega) ?_
            rw [ez]
            refine g_aload_n (j := 0) rfl dX3_takeStep_144 ?_
            refine g_getR dX3_takeStep_145 flX3_27 rfl (by assumption) (kz := 5) rfl (by assumption) ?_
            refine g_aload_n (j := 0) rfl dX3_takeStep_148 ?_
            refine g_getR dX3_takeStep_149 flX3_21 rfl (by assumption) (kz := 3) rfl (by assumption) ?_
            refine g_iload_n (j := 1) rfl dX3_takeStep_152 ?_
            refine g_iald dX3_takeStep_153 (by assumption) (by omega) (by omega) ?_
            rw [er]
            refine g_lald dX3_takeStep_154 (by assumption) (by omega) (by omega) ?_
            rw [ez2]
            refine g_callV dX3_takeStep_155 mlX3_112 mvX3_combine (ci := 3) ⟨by decide, rfl⟩ (by assumption) (c_combine w d μ o0 ho4 iz iz2) sv3 rfl (by omega) (Nat.le_of_ble_eq_true rfl) (Nat.le_refl _) (Nat.le_refl _) (fun v μ2 hR => ?_)
            obtain ⟨rfl, hw2, hrs⟩ := hR
            refine g_ifb_eq (tgt := 165) dX3_takeStep_158 (by decide)  (fun h158 => ?_) (fun h158 => ?_)
            · refine g_iconst dX3_takeStep_165 ?_
              refine g_istore_n (j := 3) dX3_takeStep_166 (by decide) rfl ls3 ?_
              refine G.post (fun v μ3 hq => ⟨hq.1, hq.2.1, TsA.r hrs hq.2.2⟩) (l_ts167_0 ((hrs).o hI) (by omega) (vo := valI V ops i) (by rw [hvs, if_neg (by omega), if_neg (by omega), if_neg (by omega), hz, hz2]; exact if_neg h158))
            · refine g_iconst dX3_takeStep_161 ?_
              refine g_goto (tgt := 166) (by decide) dX3_takeStep_162 ?_
              refine g_istore_n (j := 3) dX3_takeStep_166 (by decide) rfl ls3 ?_
              refine G.post (fun v μ3 hq => ⟨hq.1, hq.2.1, TsA.r hrs hq.2.2⟩) (l_ts167_1 ((hrs).o hI) (by omega) (vo := valI V ops i) (z := cbI o.1 z z2) (by rw [hvs, if_neg (by omega), if_neg (by omega), if_neg (by omega), hz, hz2]; exact if_pos h158) (hw2.trans (wr_id h158)))
      · have hn5 : 0 < (ixO (ops.take i)).length := by
          have := nd_le ho hw
          unfold nd at this
          rw [if_neg (by omega), if_pos (by omega)] at this
          exact this
        have hll := ix_lt (k := 0) hn5
        rw [List.drop_zero] at hll
        have el := q5 (by omega)
        generalize (ixO (ops.take i)).headD 0 = l at *
        obtain ⟨n7, n6⟩ := hN l hll
        have hb7 := bI_01 (valI V ops l = none)
        refine g_aload_n (j := 0) rfl dX3_takeStep_56 ?_
        refine g_getR dX3_takeStep_57 flX3_31 rfl (by assumption) (kz := 6) rfl (by assumption) ?_
        refine g_aload_n (j := 0) rfl dX3_takeStep_60 ?_
        refine g_getR dX3_takeStep_61 flX3_18 rfl (by assumption) (kz := 2) rfl (by assumption) ?_
        refine g_iload_n (j := 1) rfl dX3_takeStep_64 ?_
        refine g_iald dX3_takeStep_65 (by assumption) (by omega) (by omega) ?_
        rw [el]
        refine g_zald dX3_takeStep_66 (by assumption) (by omega) (by omega) ?_
        rw [n7]
        refine g_if_ne (tgt := 98) dX3_takeStep_67 (by decide) (by omega) (fun h67 => ?_) (fun h67 => ?_)
        · refine g_iconst dX3_takeStep_98 ?_
          refine g_istore_n (j := 3) dX3_takeStep_99 (by decide) rfl ls3 ?_
          refine g_goto (tgt := 167) (by decide) dX3_takeStep_100 ?_
          refine G.post (fun v μ3 hq => ⟨hq.1, hq.2.1, TsA.r RsF.rf hq.2.2⟩) (l_ts167_0 ((RsF.rf).o hI) (by omega) (vo := valI V ops i) (by rw [hvs, if_neg (by omega), if_neg (by omega), if_pos (by omega), show valI V ops l = none from bI_is1.mp (by omega)]; rfl))
        · obtain ⟨z, hz⟩ : ∃ z, valI V ops l = some z := Option.ne_none_iff_exists'.mp (bI_is0.mp h67)
          have ez := n6 z hz
          have iz := hi64 l z hz
          have ho6 : 0 ≤ o.2 ∧ o.2 ≤ 6 := by omega
          refine g_aload_n (j := 0) rfl dX3_takeStep_70 ?_
          refine g_aload_n (j := 0) rfl dX3_takeStep_71 ?_
          refine g_getR dX3_takeStep_72 flX3_27 rfl (by assumption) (kz := 5) rfl (by assumption) ?_
          refine g_aload_n (j := 0) rfl dX3_takeStep_75 ?_
          refine g_getR dX3_takeStep_76 flX3_18 rfl (by assumption) (kz := 2) rfl (by assumption) ?_
          refine g_iload_n (j := 1) rfl dX3_takeStep_79 ?_
          refine g_iald dX3_takeStep_80 (by assumption) (by omega) (by omega) ?_
          rw [el]
          refine g_lald dX3_takeStep_81 (by assumption) (by omega) (by omega) ?_
          rw [ez]
          refine g_aload_n (j := 0) rfl dX3_takeStep_82 ?_
          refine g_getR dX3_takeStep_83 flX3_15 rfl (by assumption) (kz := 1) rfl (by assumption) ?_
          refine g_iload_n (j := 1) rfl dX3_takeStep_86 ?_
          refine g_iald dX3_takeStep_87 (by assumption) (by omega) (by omega) ?_
          rw [eo2]
          refine g_callV dX3_takeStep_88 mlX3_108 mvX3_raise (ci := 3) ⟨by decide, rfl⟩ (by assumption) (c_raise w d μ o0 iz ho6) sv2 rfl (by omega) (Nat.le_of_ble_eq_true rfl) (Nat.le_refl _) (Nat.le_refl _) (fun v μ2 hR => ?_)
          obtain ⟨rfl, hw2, hrs⟩ := hR
          refine g_ifb_eq (tgt := 98) dX3_takeStep_91 (by decide)  (fun h91 => ?_) (fun h91 => ?_)
          · refine g_iconst dX3_takeStep_98 ?_
            refine g_istore_n (j := 3) dX3_takeStep_99 (by decide) rfl ls3 ?_
            refine g_goto (tgt := 167) (by decide) dX3_takeStep_100 ?_
            refine G.post (fun v μ3 hq => ⟨hq.1, hq.2.1, TsA.r hrs hq.2.2⟩) (l_ts167_0 ((hrs).o hI) (by omega) (vo := valI V ops i) (by rw [hvs, if_neg (by omega), if_neg (by omega), if_pos (by omega), hz]; exact Classical.not_not.mp h91))
          · refine g_iconst dX3_takeStep_94 ?_
            refine g_goto (tgt := 99) (by decide) dX3_takeStep_95 ?_
            refine g_istore_n (j := 3) dX3_takeStep_99 (by decide) rfl ls3 ?_
            refine g_goto (tgt := 167) (by decide) dX3_takeStep_100 ?_
            obtain ⟨z3, hz3⟩ : ∃ z3, pwO (some z) o.2 = some z3 := Option.ne_none_iff_exists'.mp h91
            refine G.post (fun v μ3 hq => ⟨hq.1, hq.2.1, TsA.r hrs hq.2.2⟩) (l_ts167_1 ((hrs).o hI) (by omega) (vo := valI V ops i) (z := z3) (by rw [hvs, if_neg (by omega), if_neg (by omega), if_pos (by omega), hz]; exact hz3) (hw2 z3 hz3))
    · have hk2 : 0 ≤ o.2 ∧ o.2 ≤ 5 := by omega
      have hv2 := hV o.2 hk2.1 hk2.2
      have eo : valI V ops i = some (V o.2) := by rw [hvs, if_neg (by omega), if_pos (by omega)]
      refine g_aload_n (j := 0) rfl dX3_takeStep_32 ?_
      refine g_aload_n (j := 0) rfl dX3_takeStep_33 ?_
      refine g_getR dX3_takeStep_34 flX3_38 rfl (by assumption) (kz := 8) rfl (by assumption) ?_
      refine g_aload_n (j := 0) rfl dX3_takeStep_37 ?_
      refine g_getR dX3_takeStep_38 flX3_15 rfl (by assumption) (kz := 1) rfl (by assumption) ?_
      refine g_iload_n (j := 1) rfl dX3_takeStep_41 ?_
      refine g_iald dX3_takeStep_42 (by assumption) (by omega) (by omega) ?_
      rw [eo2]
      refine g_iald dX3_takeStep_43 (by assumption) (by omega) (by omega) ?_
      rw [hv2.1]
      refine g_i2l (by omega) dX3_takeStep_44 ?_
      refine g_putJ dX3_takeStep_45 fpX3_87 rfl rfl rfl (by assumption) (kz := 18) rfl ?_
      refine g_goto (tgt := 167) (by decide) dX3_takeStep_48 ?_
      refine G.post (fun v μ3 hq => ⟨hq.1, hq.2.1, TsA.r RsF.s hq.2.2⟩) (l_ts167_1 ((RsF.s).o hI) (by omega) (vo := valI V ops i) (z := V o.2) eo (by rw [mL_sL, if_pos ⟨rfl, rfl⟩]))
  · have eo : valI V ops i = some o.2 := by rw [hvs, if_pos (by omega)]
    refine g_aload_n (j := 0) rfl dX3_takeStep_13 ?_
    refine g_aload_n (j := 0) rfl dX3_takeStep_14 ?_
    refine g_getR dX3_takeStep_15 flX3_15 rfl (by assumption) (kz := 1) rfl (by assumption) ?_
    refine g_iload_n (j := 1) rfl dX3_takeStep_18 ?_
    refine g_iald dX3_takeStep_19 (by assumption) (by omega) (by omega) ?_
    rw [eo2]
    refine g_i2l (by omega) dX3_takeStep_20 ?_
    refine g_putJ dX3_takeStep_21 fpX3_87 rfl rfl rfl (by assumption) (kz := 18) rfl ?_
    refine g_goto (tgt := 167) (by decide) dX3_takeStep_24 ?_
    refine G.post (fun v μ3 hq => ⟨hq.1, hq.2.1, TsA.r RsF.s hq.2.2⟩) (l_ts167_1 ((RsF.s).o hI) (by omega) (vo := valI V ops i) (z := o.2) eo (by rw [mL_sL, if_pos ⟨rfl, rfl⟩]))
theorem TsA.nv {y : Nat} {i j : Int} {v : Option Int} {μ μ2 : Mem} (h : TsA y i μ μ2) (hn : NvO μ y j v) (hj : ¬ j = i) : NvO μ2 y j v := by
  obtain ⟨a, b⟩ := h.2 j hj
  exact ⟨a.trans hn.1, fun z hz => b.trans (hn.2 z hz)⟩
theorem OpC.eq {μ μ2 : Mem} {y : Nat} {ops : List Op} (h : OpC μ y ops) (ea : ∀ a j, y + 1 ≤ a → a ≤ y + 5 → mI μ2 a j = mI μ a j) : OpC μ2 y ops := by
  intro j q hq
  rw [ea (y + 1) _ (by omega) (by omega), ea (y + 2) _ (by omega) (by omega), ea (y + 3) _ (by omega) (by omega), ea (y + 4) _ (by omega) (by omega), ea (y + 5) _ (by omega) (by omega), ea (y + 5) _ (by omega) (by omega), ea (y + 5) _ (by omega) (by omega)]
  exact h j q hq
theorem l_retake {w : WC} {d y : Nat} {ops : List Op} {V : Int → Int} {C : Int} (hl : ops.length ≤ 180) (hw : Wf ops 0) (hk : ∀ o ∈ ops, OkO o) : ∀ (r i : Nat) (μ : Mem), i + r = ops.length → IdO w μ y → OpC μ y ops → mI μ y 13 = (ops.length : Int) → (∀ l, 0 ≤ l → l ≤ 5 → mI μ (y + 9) l = V l ∧ i32 (V l)) → (∀ j : Nat, j < ops.length → (¬ iv (mI μ (y + 5) (j : Int)) &&& iv C = 0) ∨ NvO μ y (j : Int) (valI V ops j)) → (∀ j : Nat, j < i → NvO μ y (j : Int) (valI V ops j)) → G w (d + 4) mX3_retake (fun v μ2 => v = none ∧ (∀ j : Nat, j < ops.length → NvO μ2 y (j : Int) (valI V ops j)) ∧ TsF y μ μ2) 0 0 2 [some (vP (some y)), some (vI C), some (vI (i : Int))] [] μ := by
  intro r
  induction r with
  | zero =>
    intro i μ hr hI hO e13 hV hS hD
    have o0 := hI.1
    refine g_iload_n (j := 2) rfl dX3_retake_2 ?_
    refine g_aload_n (j := 0) rfl dX3_retake_3 ?_
    refine g_getI dX3_retake_4 flX3_53 rfl (by assumption) (kz := 13) rfl ?_
    rw [e13]
    refine g_icmp_ge (tgt := 32) dX3_retake_7 (by decide) (by omega) (by omega) (fun h7 => ?_) (fun h7 => ?_)
    · exact G.retV dX3_retake_32 rfl ⟨rfl, fun j hj => hD j (by omega), TsF.rf⟩
    · omega
  | succ r ih =>
    intro i μ hr hI hO e13 hV hS hD
    have o0 := hI.1
    have r4 := hI.r4
    have a4 := hI.a4
    have hi : i < ops.length := by omega
    obtain ⟨o, ho⟩ : ∃ o, ops[i]? = some o := ⟨_, List.getElem?_eq_getElem hi⟩
    refine g_iload_n (j := 2) rfl dX3_retake_2 ?_
    refine g_aload_n (j := 0) rfl dX3_retake_3 ?_
    refine g_getI dX3_retake_4 flX3_53 rfl (by assumption) (kz := 13) rfl ?_
    rw [e13]
    refine g_icmp_ge (tgt := 32) dX3_retake_7 (by decide) (by omega) (by omega) (fun h7 => ?_) (fun h7 => ?_)
    · omega
    · refine g_aload_n (j := 0) rfl dX3_retake_10 ?_
      refine g_getR dX3_retake_11 flX3_24 rfl (by assumption) (kz := 4) rfl (by assumption) ?_
      refine g_iload_n (j := 2) rfl dX3_retake_14 ?_
      refine g_iald dX3_retake_15 (by assumption) (by omega) (by omega) ?_
      refine g_iload_n (j := 1) rfl dX3_retake_16 ?_
      refine g_iand dX3_retake_17 ?_
      have hu32 := i32_of (iv (mI μ (y + 5) (i : Int)) &&& iv C)
      refine g_if_eq (tgt := 26) dX3_retake_18 (by decide) (by omega) (fun h18 => ?_) (fun h18 => ?_)
      · refine g_iinc (i := 2) dX3_retake_26 rfl (by decide) rfl ls2 ?_
        refine g_goto (tgt := 2) (by decide) dX3_retake_29 ?_
        have hz : iv (mI μ (y + 5) (i : Int)) &&& iv C = 0 := Int32.toInt_inj.mp h18
        refine ih (i + 1) μ (by omega) hI hO e13 hV hS fun j hj => ?_
        by_cases z : j = i
        · subst z
          exact (hS j hi).resolve_left (fun q => q hz)
        · exact hD j (by omega)
      · refine g_aload_n (j := 0) rfl dX3_retake_21 ?_
        refine g_iload_n (j := 2) rfl dX3_retake_22 ?_
        refine g_callV dX3_retake_23 mlX3_105 mvX3_takeStep (ci := 3) ⟨by decide, rfl⟩ (by assumption) (c_takeStep w d μ hI hO ho hl hw hk hV hD) sv1 rfl (by omega) (Nat.le_of_ble_eq_true rfl) (Nat.le_refl _) (Nat.le_refl _) (fun v μ2 hR => ?_)
        obtain ⟨rfl, hNi, hT⟩ := hR
        have e7 : ∀ a j, ¬ a = y + 7 → mI μ2 a j = mI μ a j := hT.1.2
        refine g_iinc (i := 2) dX3_retake_26 rfl (by decide) rfl ls2 ?_
        refine g_goto (tgt := 2) (by decide) dX3_retake_29 ?_
        refine G.post (fun v μ3 hq => ⟨hq.1, hq.2.1, hT.1.tr hq.2.2⟩) (ih (i + 1) μ2 (by omega) (hT.1.o hI) (hO.eq fun a j z1 z2 => e7 a j (by omega)) ((e7 _ _ (by omega)).trans e13) (fun l z1 z2 => ⟨(e7 _ _ (by omega)).trans (hV l z1 z2).1, (hV l z1 z2).2⟩) (fun j hj => ?_) (fun j hj => ?_))
        · by_cases z : j = i
          · subst z
            exact Or.inr hNi
          · exact (hS j hj).imp (fun q => by rw [e7 _ _ (by omega)]; exact q) (fun q => hT.nv q (by omega))
        · by_cases z : j = i
          · subst z
            exact hNi
          · exact hT.nv (hD j (by omega)) (by omega)
theorem c_retake (w : WC) (d : Nat) (μ : Mem) {y : Nat} {ops : List Op} {V : Int → Int} {C : Int} (hl : ops.length ≤ 180) (hw : Wf ops 0) (hk : ∀ o ∈ ops, OkO o) (hI : IdO w μ y) (hO : OpC μ y ops) (e13 : mI μ y 13 = (ops.length : Int)) (hV : ∀ l, 0 ≤ l → l ≤ 5 → mI μ (y + 9) l = V l ∧ i32 (V l)) (hS : ∀ j : Nat, j < ops.length → (¬ iv (mI μ (y + 5) (j : Int)) &&& iv C = 0) ∨ NvO μ y (j : Int) (valI V ops j)) : Con w (d + 4) mX3_retake 0 0 [vP (some y), vI C] μ (fun v μ2 => v = none ∧ (∀ j : Nat, j < ops.length → NvO μ2 y (j : Int) (valI V ops j)) ∧ TsF y μ μ2) := by
  refine Con.of (by decide) (Nat.le_of_ble_eq_true rfl) rfl ?_
  refine g_iconst dX3_retake_0 ?_
  refine g_istore_n (j := 2) dX3_retake_1 (by decide) rfl ls2 ?_
  exact l_retake (d := d) hl hw hk ops.length 0 μ (Nat.zero_add _) hI hO e13 hV hS fun j hj => absurd hj (Nat.not_lt_zero _)
theorem OpC.us {μ : Mem} {y : Nat} {ops : List Op} (h : OpC μ y ops) : UsO (fun j => mI μ (y + 5) j) ops := by
  intro j o ho
  obtain ⟨⟨-, -, q3, q4⟩, q5, q6, q7⟩ := h j o ho
  show mI μ (y + 5) (j : Int) = _
  rw [q7]
  unfold usF
  by_cases h0 : o.1 = 0
  · rw [if_pos h0, if_pos h0]
  · rw [if_neg h0, if_neg h0]
    by_cases h1 : o.1 = 1
    · rw [if_pos h1, if_pos h1]
    · rw [if_neg h1, if_neg h1]
      by_cases h5 : o.1 = 5
      · rw [if_pos h5, if_pos h5, q5 h5]
      · rw [if_neg h5, if_neg h5, (q6 (by omega)).1, (q6 (by omega)).2]
noncomputable def vdV (I : IdT) (V : Int → Int) : Int := pI (byV I V) 2 (pI (sA I V = sB I V) 0 1)
theorem c_judgeRow (w : WC) (d : Nat) (μ : Mem) {y : Nat} {I : IdT} {V : Int → Int} (hw : WI I) (h0 : 0 < I.1.2.2.length) (hI : IdO w μ y) (e13 : mI μ y 13 = (I.1.2.2.length : Int)) (e15 : mI μ y 15 = (I.2 : Int)) (hi64 : ∀ l, 0 ≤ l → l ≤ 5 → i64 (V l)) (hN : ∀ j : Nat, j < I.1.2.2.length → NvO μ y (j : Int) (valI V I.1.2.2 j)) : Con w d mX3_judgeRow 0 0 [vP (some y)] μ (fun v μ2 => v = some (vI (vdV I V)) ∧ μ2 = μ) := by
  have o0 := hI.1
  have r5 := hI.r5
  have a5 := hI.a5
  have r6 := hI.r6
  have a6 := hI.a6
  obtain ⟨-, hk, ⟨k1, k2⟩, hv, -, -⟩ := vl_A hw h0
  have hl := hw.1.2
  obtain ⟨n7, n6⟩ := hN (I.2 - 1) (by omega)
  obtain ⟨m7, m6⟩ := hN (I.1.2.2.length - 1) (by omega)
  rw [(hv V).1] at n7 n6
  rw [(hv V).2] at m7 m6
  rw [show ((I.2 - 1 : Nat) : Int) = (I.2 : Int) - 1 by omega] at n7 n6
  rw [show ((I.1.2.2.length - 1 : Nat) : Int) = (I.1.2.2.length : Int) - 1 by omega] at m7 m6
  have hb7 := bI_01 (sA I V = none)
  have hc7 := bI_01 (sB I V = none)
  have jA : ∀ z, sA I V = some z → i64 z := fun z hz => evS_hi hi64 (fun q hq => hk q (List.mem_of_mem_take hq)) hz
  have jB : ∀ z, sB I V = some z → i64 z := fun z hz => evS_hi hi64 (fun q hq => hk q (List.mem_of_mem_drop hq)) hz
  refine Con.of (by decide) (Nat.le_of_ble_eq_true rfl) rfl ?_
  refine g_aload_n (j := 0) rfl dX3_judgeRow_0 ?_
  refine g_getI dX3_judgeRow_1 flX3_60 rfl (by assumption) (kz := 15) rfl ?_
  rw [e15]
  refine g_iconst dX3_judgeRow_4 ?_
  refine g_isub dX3_judgeRow_5 ?_
  refine g_istore_n (j := 1) dX3_judgeRow_6 (by decide) rfl ls1 ?_
  refine g_aload_n (j := 0) rfl dX3_judgeRow_7 ?_
  refine g_getI dX3_judgeRow_8 flX3_53 rfl (by assumption) (kz := 13) rfl ?_
  rw [e13]
  refine g_iconst dX3_judgeRow_11 ?_
  refine g_isub dX3_judgeRow_12 ?_
  refine g_istore_n (j := 2) dX3_judgeRow_13 (by decide) rfl ls2 ?_
  refine g_iload_n (j := 1) rfl dX3_judgeRow_14 ?_
  refine g_if_lt (tgt := 36) dX3_judgeRow_15 (by decide) (by omega) (fun h15 => ?_) (fun h15 => ?_)
  · omega
  · refine g_aload_n (j := 0) rfl dX3_judgeRow_18 ?_
    refine g_getR dX3_judgeRow_19 flX3_31 rfl (by assumption) (kz := 6) rfl (by assumption) ?_
    refine g_iload_n (j := 1) rfl dX3_judgeRow_22 ?_
    refine g_zald dX3_judgeRow_23 (by assumption) (by omega) (by omega) ?_
    rw [n7]
    refine g_if_ne (tgt := 36) dX3_judgeRow_24 (by decide) (by omega) (fun h24 => ?_) (fun h24 => ?_)
    · refine g_iconst dX3_judgeRow_36 ?_
      exact G.retI dX3_judgeRow_37 rfl ⟨by rw [vdV, pI_t (show byV I V from Or.inl (bI_is1.mp (by omega)))], rfl⟩
    · refine g_aload_n (j := 0) rfl dX3_judgeRow_27 ?_
      refine g_getR dX3_judgeRow_28 flX3_31 rfl (by assumption) (kz := 6) rfl (by assumption) ?_
      refine g_iload_n (j := 2) rfl dX3_judgeRow_31 ?_
      refine g_zald dX3_judgeRow_32 (by assumption) (by omega) (by omega) ?_
      rw [m7]
      refine g_if_eq (tgt := 38) dX3_judgeRow_33 (by decide) (by omega) (fun h33 => ?_) (fun h33 => ?_)
      · obtain ⟨z, hz⟩ : ∃ z, sA I V = some z := Option.ne_none_iff_exists'.mp (bI_is0.mp h24)
        obtain ⟨z2, hz2⟩ : ∃ z, sB I V = some z := Option.ne_none_iff_exists'.mp (bI_is0.mp h33)
        have ez := n6 z hz
        have ez2 := m6 z2 hz2
        have iz := jA z hz
        have iz2 := jB z2 hz2
        have hby : ¬ byV I V := fun q => q.elim (fun y => by rw [hz] at y; cases y) (fun y => by rw [hz2] at y; cases y)
        refine g_aload_n (j := 0) rfl dX3_judgeRow_38 ?_
        refine g_getR dX3_judgeRow_39 flX3_27 rfl (by assumption) (kz := 5) rfl (by assumption) ?_
        refine g_iload_n (j := 1) rfl dX3_judgeRow_42 ?_
        refine g_lald dX3_judgeRow_43 (by assumption) (by omega) (by omega) ?_
        rw [ez]
        refine g_aload_n (j := 0) rfl dX3_judgeRow_44 ?_
        refine g_getR dX3_judgeRow_45 flX3_27 rfl (by assumption) (kz := 5) rfl (by assumption) ?_
        refine g_iload_n (j := 2) rfl dX3_judgeRow_48 ?_
        refine g_lald dX3_judgeRow_49 (by assumption) (by omega) (by omega) ?_
        rw [ez2]
        refine g_lif_ne (tgt := 58) dX3_judgeRow_50 dX3_judgeRow_51 (by decide) (by omega) (by omega) (fun h50 => ?_) (fun h50 => ?_)
        · refine g_iconst dX3_judgeRow_58 ?_
          exact G.retI dX3_judgeRow_59 rfl ⟨by rw [vdV, pI_f hby, pI_f (by rw [hz, hz2]; intro q; cases q; exact h50 rfl)], rfl⟩
        · refine g_iconst dX3_judgeRow_54 ?_
          refine g_goto (tgt := 59) (by decide) dX3_judgeRow_55 ?_
          exact G.retI dX3_judgeRow_59 rfl ⟨by rw [vdV, pI_f hby, pI_t (by rw [hz, hz2, h50])], rfl⟩
      · refine g_iconst dX3_judgeRow_36 ?_
        exact G.retI dX3_judgeRow_37 rfl ⟨by rw [vdV, pI_t (show byV I V from Or.inr (bI_is1.mp (by omega)))], rfl⟩
