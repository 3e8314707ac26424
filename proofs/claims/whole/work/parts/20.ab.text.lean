/-! TEXTS: ldc, fields and letters of texts; String.length, String.charAt -/
theorem Live.tx {w : WC} {d : Nat} {y : MD} {p : Program} {R : Room} {s : State} {m : MethodId} {args : Array Value} {meth : Method} {c : Code} (h : Live w d y p R s m args meth c) : TxOk w s := h.2.2.2.2.2.2.2.2.2.2.2.2
section GT
variable {w : WC} {d : Nat} {y : MD} {Pq : Option AV → Mem → Prop} {bc bs pc : Nat} {L L2 : List (Option AV)} {st : List AV} {μ : Mem}
theorem g_ldcT {i n : Nat} {tx : String} (hd : decode (dB y) pc = .ok (.ldc i, 2)) (hr : (dO y, i, tx, n) ∈ txR) (kk : G w d y Pq bc bs (pc + 2) L (vP (some (wK w n)) :: st) μ) : G w d y Pq bc bs pc L st μ :=
  G.go (fun _ _ _ _ _ _ _ _ _ _ _ hx hb hL H locs lsr cells slots hR hS hlh k => va_ldcS hx hb hL.2.2.2.2.1 ((Live.tx hL).2.2.1 _ hr) hd k) kk
theorem ldcwT {p : Program} {l : Launch} {e : Env} {R : Room} {s : State} {m : MethodId} {args : Array Value} {below : List Frame} {meth : Method} {c : Code} {T : State} {locs : List Loc} {cells slots : Nat}
    (X : Stand p l e R s m args below meth c T locs cells slots) (hexec : p.tables.exec = Jvm.exec) {own text : String} {index : Nat} {a : Addr} (hown : s.vm.findClass own = some m.cls)
    (hconst : (Cond.stringRef own index text).before args s = true) (hev : (Term.string own index).eval args s none [] s = some (.ref a)) {g : JFrame} (hg : g.method = m) (hdg : decode c.code g.pc = .ok (.ldc_w index, 3)) :
    ∀ target, Steps p.tables e below (T.setTop { g with pc := g.pc + 3, stack := .ref a :: g.stack }) target → Steps p.tables e below (T.setTop g) target := by
  obtain ⟨k, cf, i, a', hk, hcf, hcp, -, hr, hev'⟩ := Cond.stringRef_spec hown hconst
  cases hev.symm.trans hev'
  obtain ⟨k', hk', he⟩ := X.warmed.alike.2.2 _ _ hk
  have hr' : k'.resolved[index]? = some (some (.string a)) := by
    rcases X.warmed.entry hk hk' index with h | ⟨h, -⟩
    · rw [h]; exact hr
    · rw [hr] at h; cases h
  intro target hrest
  subst hg
  jvm_step X.here [hexec, hdg, ldc_w.wp_string (e := e) (s := T) (f := g) X.here.top hk' (by rw [he]; exact hcf) hcp hr']
  exact hrest
theorem g_ldcwT {i n : Nat} {tx : String} (hd : decode (dB y) pc = .ok (.ldc_w i, 3)) (hr : (dO y, i, tx, n) ∈ txR) (kk : G w d y Pq bc bs (pc + 3) L (vP (some (wK w n)) :: st) μ) : G w d y Pq bc bs pc L st μ :=
  G.go (fun p l e R s m args below meth c Q hx hb hL H locs lsr cells slots hR hS hlh k => by
    intro T hT X
    obtain ⟨t, a1, b1⟩ := k T hT X
    have hZ := (Live.tx hL).2.2.1 _ hr
    exact ⟨t, ldcwT X hx hL.2.2.2.2.1 (text := tx) (a := wK w n) hZ.1 hZ.2 (g := F0 m pc lsr (st.map cv)) rfl (by rw [hb]; exact hd) t a1, b1⟩) kk
theorem g_getZ {idx : Nat} (hd : decode (dB y) pc = .ok (.getstatic idx, 3)) (hl : Cond.fieldLink (dO y) idx "java/lang/String" "COMPACT_STRINGS" "Z" ∈ lw_use) (kk : G w d y Pq bc bs (pc + 3) L (vI 1 :: st) μ) : G w d y Pq bc bs pc L st μ :=
  G.go (fun _ _ _ _ _ _ _ _ _ _ _ hx hb hL H locs lsr cells slots hR hS hlh k => va_gets hx hb (Live.tx hL).2.2.2.1 hS hL.2.2.2.2.1 (hL.2.2.2.2.2.1 _ hl) (fun x h => h) hd k) kk
theorem g_getQ {idx : Nat} (hd : decode (dB y) pc = .ok (.getstatic idx, 3)) (hl : Cond.fieldLink (dO y) idx "jdk/internal/util/Preconditions" "SIOOBE_FORMATTER" "Ljava/util/function/BiFunction;" ∈ lw_use) (kk : ∀ r : Option Nat, G w d y Pq bc bs (pc + 3) L (vP r :: st) μ) : G w d y Pq bc bs pc L st μ := by
  intro p l e R s m args below meth c Q hL hE H locs lsr cells slots hR hS hlh h1 h2
  rcases (Live.tx hL).2.2.2.2.1 with hz | ⟨t, hz⟩
  · exact va_gets hL.1 hL.2.1 hz hS hL.2.2.2.2.1 (hL.2.2.2.2.2.1 _ hl) (fun x h => h) hd (kk none p l e R s m args below meth c Q hL hE H locs lsr cells slots hR hS hlh h1 h2)
  · exact va_gets hL.1 hL.2.1 hz hS hL.2.2.2.2.1 (hL.2.2.2.2.2.1 _ hl) (fun x h => h) hd (kk (some t) p l e R s m args below meth c Q hL hE H locs lsr cells slots hR hS hlh h1 h2)
theorem g_txF {idx n : Nat} (hd : decode (dB y) pc = .ok (.getfield idx, 3)) (hl : Cond.fieldLink (dO y) idx "java/lang/String" "value" "[B" ∈ lw_use) (hn : n < 11) (kk : G w d y Pq bc bs (pc + 3) L (vP (some (wV w n)) :: st) μ) : G w d y Pq bc bs pc L (vP (some (wK w n)) :: st) μ :=
  G.go (fun _ _ _ _ _ _ _ _ _ _ _ hx hb hL H locs lsr cells slots hR hS hlh k => vk_getf hx hb ((Live.tx hL).2.1.1 n hn).2.2.1 hS hL.2.2.2.2.1 (hL.2.2.2.2.2.1 _ hl) (fun x h => h) hd k) kk
theorem g_txC {idx n : Nat} (hd : decode (dB y) pc = .ok (.getfield idx, 3)) (hl : Cond.fieldLink (dO y) idx "java/lang/String" "coder" "B" ∈ lw_use) (hn : n < 11) (kk : G w d y Pq bc bs (pc + 3) L (vI 0 :: st) μ) : G w d y Pq bc bs pc L (vP (some (wK w n)) :: st) μ :=
  G.go (fun _ _ _ _ _ _ _ _ _ _ _ hx hb hL H locs lsr cells slots hR hS hlh k => vk_getf hx hb ((Live.tx hL).2.1.1 n hn).2.1 hS hL.2.2.2.2.1 (hL.2.2.2.2.2.1 _ hl) (fun x h => h) hd k) kk
/-- a text's length, its letters -/
def txN (n : Nat) : Int := ((txL.getD n 0 : Nat) : Int)
def txZ (n : Nat) (i : Int) : Int := ((txB.getD n []).getD i.toNat 0).toInt
theorem tx_iv : ∀ n, n < 11 → Int32.ofNat (txL.getD n 0) = iv (txN n) := by decide
theorem tx_sh : ∀ n, n < 11 → (iv (txN n) >>> (iv 0 &&& 31)).toInt = txN n := by decide
theorem g_txL {n : Nat} (hd : decode (dB y) pc = .ok (.arraylength, 1)) (hn : n < 11) (kk : G w d y Pq bc bs (pc + 1) L (vI (txN n) :: st) μ) : G w d y Pq bc bs pc L (vP (some (wV w n)) :: st) μ :=
  G.go (fun _ _ _ _ _ _ _ _ _ _ _ hx hb hL H locs lsr cells slots hR hS hlh k => va_tlen hx hb ((Live.tx hL).2.1.1 n hn).2.2.2 hS (v := iv (txN n)) (tx_iv n hn) hd k) kk
theorem tx_small : ∀ n, n < 11 → txL.getD n 0 ≤ 6 := by decide
theorem g_txb {n : Nat} {i : Int} (hd : decode (dB y) pc = .ok (.baload, 1)) (hn : n < 11) (h0 : 0 ≤ i) (h1 : i < txN n) (kk : G w d y Pq bc bs (pc + 1) L (vI (txZ n i) :: st) μ) : G w d y Pq bc bs pc L (vI i :: vP (some (wV w n)) :: st) μ := by
  have h6 := tx_small n hn
  unfold txN at h1
  refine G.go (fun _ _ _ _ _ _ _ _ _ _ _ hx hb hL H locs lsr cells slots hR hS hlh k => va_tb hx hb ((Live.tx hL).2.1.1 n hn).2.2.2 hS (i := iv i) (iv_in h0 h1 (by omega)) (v := .int (iv (txZ n i))) ?_ hd k) kk
  rw [iv_clamp ⟨by omega, by omega⟩]
  unfold txZ
  rw [iv_of]

section
variable {d2 : Nat} {y2 : MD} {R2 : Option AV → Mem → Prop} {bc1 bs1 bc2 bs2 idx n : Nat} {stk as : List AV}
theorem g_callT {n0 : Nat} (hd : decode (dB y) pc = .ok (.invokevirtual idx, 3)) (hl : ML (dO y) idx (dN y2)) (hk : MV y2 n) (hcls : dO y2 = "java/lang/String") (hn0 : n0 < 11) (hC : Con w d2 y2 bc2 bs2 (vP (some (wK w n0)) :: as) μ R2) (hst : stk = as.reverse ++ vP (some (wK w n0)) :: st) (hn : as.length = n) (hdd : d2 + 1 ≤ d) (hW : stW st ≤ 8) (hbc : bc1 + bc2 ≤ bc) (hbs : bs1 + bs2 ≤ bs)
    (kk : ∀ (v : Option AV) (μ2 : Mem), R2 v μ2 → G w d y Pq bc1 bs1 (pc + 3) L (v.toList ++ st) μ2) : G w d y Pq bc bs pc L stk μ := by
  subst hst
  intro p l e R s m args below meth c Q hL hE H locs lsr cells slots hR hS hlh h1 h2
  obtain ⟨hx, hb, -, hml, hown, hts, -, hK, -, -, hdf, hdl, hT⟩ := id hL
  have hrec : ∃ cellB : Cell, H[wK w n0]? = some cellB ∧ cellB.vm.isStatics = false ∧ s.vm.findClass (dO y2) = some cellB.cls := by
    obtain ⟨cell, q1, q2, q3⟩ := vk_recv (Live.tx hL).2.1 hn0 hS
    exact ⟨cell, q1, q2, by rw [hcls]; exact q3⟩
  have hp : PreV s H (dO y2) (wK w n0) (va_Pc ((vP (some (wK w n0)) :: as).map cv) (fun U => Rep w μ U.heap ∧ va_K (wD w) vwCl (tysW w) U ∧ TxOk w U)) (as.map cv) := ⟨con_blind, hrec, fun U hU hW => ⟨rfl, by rw [hU]; exact hR, va_K.moved hW.alike hK, hT.move hW (by rw [hU]; exact hS.2.1)⟩⟩
  have hroom : d2 + 1 ≤ R.frames ∧ 8 + (dL y2 + 11) + 64 * d2 ≤ R.locals := ⟨by omega, by have := hk.1.2.2.2; omega⟩
  have hstack : (F0 m pc lsr ((as.reverse ++ vP (some (wK w n0)) :: st).map cv)).stack = (as.map cv).reverse ++ .ref (wK w n0) :: st.map cv := by simp; rfl
  have hf : cells + bc2 ≤ R.cells ∧ slots + bs2 ≤ R.slots := ⟨by omega, by omega⟩
  have kw : ∀ (v : Option AV) (μ2 : Mem) (H1 : Heap) (locs1 : List Loc), R2 v μ2 → Rep w μ2 H1 → va_S (fun q => wB w ≤ q) s.heap H1 locs1 → W p l e R s m args below meth c H1 locs1 (cells + bc2) (slots + bs2) Q (F0 m (pc + 3) lsr (v.toList.map cv ++ st.map cv)) := fun v μ2 H1 locs1 a1 a2 a3 => by
    rw [← List.map_append]
    exact kk v μ2 a1 p l e R s m args below meth c Q hL hE H1 locs1 lsr _ _ a2 a3 hlh (by omega) (by omega)
  rcases hl with hl | ⟨host, hl⟩
  · exact W.fin (a := #[]) (va_runV (rest := st.map cv) ⟨hx, hb, hml, hown, hts⟩ (hC l) ⟨callB_of n hts (good_ws hk.1) rfl rfl rfl (hts _ hk.1.2.1) (hts _ hl) hk.1.2.2.1 hroom, hts _ hk.2.1, hts _ hk.2.2⟩ hp rfl (by rw [List.length_map]; exact hn) hlh.1 hstack (lv_room (by rw [stW_cv]; exact hW)) hd hf) hS kw
  · exact W.fin (a := #[]) (va_runVN (rest := st.map cv) ⟨hx, hb, hml, hown, hts⟩ (hC l) ⟨va_cnB n hts (good_ws hk.1) rfl rfl rfl (va_Nw.of rfl (hts _ hl)) (hts _ hk.1.2.1) hk.1.2.2.1 hroom, hts _ hk.2.1, hts _ hk.2.2⟩ hp rfl (by rw [List.length_map]; exact hn) hlh.1 hstack (lv_room (by rw [stW_cv]; exact hW)) hd hf) hS kw

end
end GT
theorem sfJ0_38 : Cond.fieldLink RJ0 38 "java/lang/String" "COMPACT_STRINGS" "Z" ∈ lw_use := use_t (i := 502) (by decide +kernel) rfl
theorem sfJ0_9 : Cond.fieldLink RJ0 9 "java/lang/String" "value" "[B" ∈ lw_use := use_t (i := 1723) (by decide +kernel) rfl
theorem sfJ0_15 : Cond.fieldLink RJ0 15 "java/lang/String" "coder" "B" ∈ lw_use := use_t (i := 1724) (by decide +kernel) rfl
theorem sfJ0_1053 : Cond.fieldLink RJ0 1053 "jdk/internal/util/Preconditions" "SIOOBE_FORMATTER" "Ljava/util/function/BiFunction;" ∈ lw_use := use_t (i := 518) (by decide +kernel) rfl
theorem c_J0_coder (w : WC) (d : Nat) (μ : Mem) {n : Nat} (hn : n < 11) : Con w d mJ0_coder_7d493 0 0 [vP (some (wK w n))] μ (fun v μ2 => v = some (vI 0) ∧ μ2 = μ) := by
  refine Con.ofF (by decide +kernel) (Nat.le_of_ble_eq_true rfl) rfl ?_
  refine g_getZ dJ0_coder_7d493_0 sfJ0_38 ?_
  refine g_if_eq (tgt := 13) dJ0_coder_7d493_3 (by decide) (by omega) (fun h3 => absurd h3 (by decide)) (fun _ => ?_)
  refine g_aload_n (j := 0) rfl dJ0_coder_7d493_6 ?_
  refine g_txC dJ0_coder_7d493_7 sfJ0_15 hn ?_
  refine g_goto (tgt := 14) (by decide) dJ0_coder_7d493_10 ?_
  exact G.ret (Or.inl ⟨0, dJ0_coder_7d493_14, rfl, rfl, .byte, rfl, rfl⟩) ⟨rfl, rfl⟩
theorem c_J0_isLatin1 (w : WC) (d : Nat) (μ : Mem) {n : Nat} (hn : n < 11) : Con w d mJ0_isLatin1_aae02 0 0 [vP (some (wK w n))] μ (fun v μ2 => v = some (vI 1) ∧ μ2 = μ) := by
  refine Con.ofF (by decide +kernel) (Nat.le_of_ble_eq_true rfl) rfl ?_
  refine g_getZ dJ0_isLatin1_aae02_0 sfJ0_38 ?_
  refine g_if_eq (tgt := 17) dJ0_isLatin1_aae02_3 (by decide) (by omega) (fun h3 => absurd h3 (by decide)) (fun _ => ?_)
  refine g_aload_n (j := 0) rfl dJ0_isLatin1_aae02_6 ?_
  refine g_txC dJ0_isLatin1_aae02_7 sfJ0_15 hn ?_
  refine g_if_ne (tgt := 17) dJ0_isLatin1_aae02_10 (by decide) (by omega) (fun h3 => absurd rfl h3) (fun _ => ?_)
  refine g_iconst dJ0_isLatin1_aae02_13 ?_
  refine g_goto (tgt := 18) (by decide) dJ0_isLatin1_aae02_14 ?_
  exact G.retZ dJ0_isLatin1_aae02_18 rfl (Or.inr rfl) ⟨rfl, rfl⟩
/-- String.length() -/
theorem c_J0_length (w : WC) (d : Nat) (μ : Mem) {n : Nat} (hn : n < 11) : Con w (d + 1) mJ0_length_8abf5 0 0 [vP (some (wK w n))] μ (fun v μ2 => v = some (vI (txN n)) ∧ μ2 = μ) := by
  refine Con.ofF (by decide +kernel) (Nat.le_of_ble_eq_true rfl) rfl ?_
  refine g_aload_n (j := 0) rfl dJ0_length_8abf5_0 ?_
  refine g_txF dJ0_length_8abf5_1 sfJ0_9 hn ?_
  refine g_txL dJ0_length_8abf5_4 hn ?_
  refine g_aload_n (j := 0) rfl dJ0_length_8abf5_5 ?_
  refine g_callT dJ0_length_8abf5_6 mlJ0_335 mvJ0_coder_7d493 rfl hn (c_J0_coder w d μ hn) sv0 rfl (by omega) (Nat.le_of_ble_eq_true rfl) (Nat.le_refl _) (Nat.le_refl _) (fun v μ2 hR => ?_)
  obtain ⟨rfl, rfl⟩ := hR
  refine g_ishr dJ0_length_8abf5_9 ?_
  exact G.retI dJ0_length_8abf5_10 rfl ⟨by rw [tx_sh n hn], rfl⟩
theorem c_J3_checkIndex (w : WC) (d : Nat) (μ : Mem) {i n : Int} {r : Option Nat} (h0 : 0 ≤ i) (h1 : i < n) (hn : i32 n) : Con w d mJ3_checkIndex_8e157 0 0 [vI i, vI n, vP r] μ (fun v μ2 => v = some (vI i) ∧ μ2 = μ) := by
  refine Con.ofF (by decide +kernel) (Nat.le_of_ble_eq_true rfl) rfl ?_
  refine g_iload_n (j := 0) rfl dJ3_checkIndex_8e157_0 ?_
  refine g_if_lt (tgt := 9) dJ3_checkIndex_8e157_1 (by decide) (by omega) (fun h => by omega) (fun _ => ?_)
  refine g_iload_n (j := 0) rfl dJ3_checkIndex_8e157_4 ?_
  refine g_iload_n (j := 1) rfl dJ3_checkIndex_8e157_5 ?_
  refine g_icmp_lt (tgt := 16) dJ3_checkIndex_8e157_6 (by decide) (by omega) (by omega) (fun _ => ?_) (fun h => by omega)
  refine g_iload_n (j := 0) rfl dJ3_checkIndex_8e157_16 ?_
  exact G.retI dJ3_checkIndex_8e157_17 rfl ⟨rfl, rfl⟩
theorem c_J0_checkIndex (w : WC) (d : Nat) (μ : Mem) {i n : Int} (h0 : 0 ≤ i) (h1 : i < n) (hn : i32 n) : Con w (d + 1) mJ0_checkIndex_df160 0 0 [vI i, vI n] μ (fun v μ2 => v = none ∧ μ2 = μ) := by
  refine Con.ofF (by decide +kernel) (Nat.le_of_ble_eq_true rfl) rfl ?_
  refine g_iload_n (j := 0) rfl dJ0_checkIndex_df160_0 ?_
  refine g_iload_n (j := 1) rfl dJ0_checkIndex_df160_1 ?_
  refine g_getQ dJ0_checkIndex_df160_2 sfJ0_1053 (fun r => ?_)
  refine g_callS dJ0_checkIndex_df160_5 mlJ0_1059 msJ3_checkIndex_8e157 (c_J3_checkIndex w d μ h0 h1 hn) sk3 rfl (by omega) (Nat.le_of_ble_eq_true rfl) (Nat.le_refl _) (Nat.le_refl _) (fun v μ2 hR => ?_)
  obtain ⟨rfl, rfl⟩ := hR
  refine g_pop rfl dJ0_checkIndex_df160_8 ?_
  exact G.retV dJ0_checkIndex_df160_9 rfl ⟨rfl, rfl⟩
theorem c_J1_charAt (w : WC) (d : Nat) (μ : Mem) {n : Nat} {i : Int} (hn : n < 11) (h0 : 0 ≤ i) (h1 : i < txN n) : Con w (d + 2) mJ1_charAt_3b067 0 0 [vP (some (wV w n)), vI i] μ (fun v μ2 => v = some (vI (txZ n i)) ∧ μ2 = μ) := by
  have h6 : txN n ≤ 6 := by have := tx_small n hn; unfold txN; omega
  refine Con.ofF (by decide +kernel) (Nat.le_of_ble_eq_true rfl) rfl ?_
  refine g_iload_n (j := 1) rfl dJ1_charAt_3b067_0 ?_
  refine g_aload_n (j := 0) rfl dJ1_charAt_3b067_1 ?_
  refine g_txL dJ1_charAt_3b067_2 hn ?_
  refine g_callS dJ1_charAt_3b067_3 mlJ1_9 msJ0_checkIndex_df160 (c_J0_checkIndex w d μ h0 h1 (by omega)) sk2 rfl (by omega) (Nat.le_of_ble_eq_true rfl) (Nat.le_refl _) (Nat.le_refl _) (fun v μ2 hR => ?_)
  obtain ⟨rfl, rfl⟩ := hR
  refine g_aload_n (j := 0) rfl dJ1_charAt_3b067_6 ?_
  refine g_iload_n (j := 1) rfl dJ1_charAt_3b067_7 ?_
  refine g_txb dJ1_charAt_3b067_8 hn h0 h1 ?_
  refine g_sipush dJ1_charAt_3b067_9 (by omega) ?_
  refine g_iand dJ1_charAt_3b067_12 ?_
  refine g_i2c dJ1_charAt_3b067_13 ?_
  have key : ∀ n, n < 11 → ∀ k, k < txL.getD n 0 → ((iv (iv (txZ n (k : Nat)) &&& iv 255).toInt).toUInt32 % 65536).toInt32.toInt = txZ n (k : Nat) ∧ narrow .char (.int (iv (txZ n (k : Nat)))) = .int (iv (txZ n (k : Nat))) := by decide +kernel
  obtain ⟨k, rfl⟩ : ∃ k : Nat, i = (k : Int) := ⟨i.toNat, by omega⟩
  obtain ⟨k1, k2⟩ := key n hn k (by unfold txN at h1; omega)
  rw [k1]
  exact G.ret (Or.inl ⟨_, dJ1_charAt_3b067_14, rfl, rfl, .char, rfl, k2⟩) ⟨rfl, rfl⟩
/-- String.charAt(i) -/
theorem c_J0_charAt (w : WC) (d : Nat) (μ : Mem) {n : Nat} {i : Int} (hn : n < 11) (h0 : 0 ≤ i) (h1 : i < txN n) : Con w (d + 3) mJ0_charAt_5068e 0 0 [vP (some (wK w n)), vI i] μ (fun v μ2 => v = some (vI (txZ n i)) ∧ μ2 = μ) := by
  have key : ∀ n, n < 11 → ∀ k, k < txL.getD n 0 → narrow .char (.int (iv (txZ n (k : Nat)))) = .int (iv (txZ n (k : Nat))) := by decide +kernel
  refine Con.ofF (by decide +kernel) (Nat.le_of_ble_eq_true rfl) rfl ?_
  refine g_aload_n (j := 0) rfl dJ0_charAt_5068e_0 ?_
  refine g_callT dJ0_charAt_5068e_1 mlJ0_492 mvJ0_isLatin1_aae02 rfl hn (c_J0_isLatin1 w d μ hn) sv0 rfl (by omega) (Nat.le_of_ble_eq_true rfl) (Nat.le_refl _) (Nat.le_refl _) (fun v μ2 hR => ?_)
  obtain ⟨rfl, rfl⟩ := hR
  refine g_if_eq (tgt := 16) dJ0_charAt_5068e_4 (by decide) (by omega) (fun h3 => absurd h3 (by decide)) (fun _ => ?_)
  refine g_aload_n (j := 0) rfl dJ0_charAt_5068e_7 ?_
  refine g_txF dJ0_charAt_5068e_8 sfJ0_9 hn ?_
  refine g_iload_n (j := 1) rfl dJ0_charAt_5068e_11 ?_
  refine g_callS dJ0_charAt_5068e_12 mlJ0_495 msJ1_charAt_3b067 (c_J1_charAt w d _ hn h0 h1) sk2 rfl (by omega) (Nat.le_of_ble_eq_true rfl) (Nat.le_refl _) (Nat.le_refl _) (fun v μ2 hR => ?_)
  obtain ⟨rfl, rfl⟩ := hR
  obtain ⟨k, rfl⟩ : ∃ k : Nat, i = (k : Int) := ⟨i.toNat, by omega⟩
  exact G.ret (Or.inl ⟨_, dJ0_charAt_5068e_15, rfl, rfl, .char, rfl, key n hn k (by unfold txN at h1; omega)⟩) ⟨rfl, rfl⟩
