/-! ROWS OF THE MEMORY MACHINE: calls by contract, new cells -/
def ML (own : String) (idx : Nat) (x : MethodName) : Prop := Cond.methodLink own idx x ∈ lw_use ∨ ∃ host, Cond.methodLinkNest own idx x host ∈ lw_use
def MK (y2 : MD) (n : Nat) : Prop := Cond.code (dN y2) (dB y2) (dL y2) (dR y2) ∈ lw_use ∧ Cond.initialized (dO y2) ∈ lw_use ∧ (dO y2 ≠ "java/lang/invoke/MethodHandle" ∧ dO y2 ≠ "java/lang/invoke/VarHandle" ∧ (parseMethodDescriptor (dN y2).desc).map (fun d => d.parameters.length) = some n) ∧ dL y2 ≤ 45
def MS (y2 : MD) (n : Nat) : Prop := MK y2 n ∧ Cond.static (dN y2) ∈ lw_use
def MV (y2 : MD) (n : Nat) : Prop := MK y2 n ∧ Cond.instanceMethod (dN y2) ∈ lw_use ∧ Cond.selects (dO y2) (dN y2) (dN y2) ∈ lw_use
def MN (y2 : MD) (n : Nat) : Prop := MK y2 n ∧ Cond.instanceMethod (dN y2) ∈ lw_use ∧ (dN y2).name = "<init>" ∧ dR y2 = none
def stW (st : List AV) : Nat := (st.map fun v => if isJ v then 2 else 1).sum
theorem stW_cv (st : List AV) : ((st.map cv).map fun v => v.category).sum = stW st := by
  unfold stW
  rw [List.map_map]
  congr 2
  funext v
  exact cv_cat v
theorem good_ws {y2 : MD} {n : Nat} (h : MK y2 n) : GoodIn lw_use (Cond.code (dN y2) (dB y2) (dL y2) (dR y2) :: lw_good) := fun x hx => by
  rcases List.mem_cons.mp hx with rfl | hx
  · exact ⟨h.1, good_of_word rfl⟩
  · exact gAll x hx
theorem con_blind {w : WC} {as : List Value} {μ : Mem} : FrameBlind (va_Pc as (fun U => Rep w μ U.heap ∧ va_K (wD w) vwCl (tysW w) U ∧ TxOk w U)) :=
  fun a U g mk q => ⟨q.1, q.2.1, va_K.moved (u := U) (U := U.calling g mk a) (Vm.Alike.refl U.vm) q.2.2.1, q.2.2.2.call⟩
theorem W.fin {w : WC} {p : Program} {l : Launch} {e : Env} {R : Room} {s : State} {m : MethodId} {args : Array Value} {below : List Frame} {meth : Method} {c : Code} {H : Heap} {locs : List Loc} {cells slots mc ms pc : Nat} {lsr : Array Slot} {stv rest : List Value} {Q : State → Prop} {a : Array Value} {R2 : Option AV → Mem → Prop}
    (hr : va_Run p l e R s m args below meth c H locs cells slots mc ms (F0 m pc lsr stv) rest ((fun (_ : Array Value) (s : State) (o : Outcome) (t : State) => (∃ (v : Option AV) (μ2 : Mem), o = .returned (v.map cv) ∧ R2 v μ2 ∧ Rep w μ2 t.heap) ∧ va_F (fun q => wB w ≤ q) s t) a) (fun q => wB w ≤ q)) (hS : va_S (fun q => wB w ≤ q) s.heap H locs)
    (kk : ∀ (v : Option AV) (μ2 : Mem) (H1 : Heap) (locs1 : List Loc), R2 v μ2 → Rep w μ2 H1 → va_S (fun q => wB w ≤ q) s.heap H1 locs1 → W p l e R s m args below meth c H1 locs1 (cells + mc) (slots + ms) Q (F0 m (pc + 3) lsr (v.toList.map cv ++ rest))) : W p l e R s m args below meth c H locs cells slots Q (F0 m pc lsr stv) := by
  intro T hT X
  obtain ⟨v, st₀, t, T', L, h0, X', hL, e1, e2, ⟨⟨v', μ2, hv, hp, hb⟩, hz, hk⟩, st⟩ := hr T hT X
  cases hv
  rw [h0] at hz hk
  obtain ⟨t2, a1, b1⟩ := kk v' μ2 T'.heap (locs ++ L) hp (by rw [e1]; exact hb) ⟨Nat.le_trans hS.1 (by rw [e1]; exact hz), fun q h1 h2 => by rw [e1, hk q (Nat.lt_of_lt_of_le h1 hS.1) h2]; exact hS.2.1 q h1 h2, fun q hq => by
      rcases List.mem_append.mp hq with h | h
      · exact hS.2.2 q h
      · exact hL q h⟩ T' rfl X'
  refine ⟨t2, st t2 ?_, b1⟩
  cases v' <;> exact a1
section GC
variable {w : WC} {d d2 : Nat} {y y2 : MD} {Pq R2 : Option AV → Mem → Prop} {bc bs bc1 bs1 bc2 bs2 pc idx n : Nat} {L L2 : List (Option AV)} {st stk as : List AV} {μ : Mem}
theorem g_callS (hd : decode (dB y) pc = .ok (.invokestatic idx, 3)) (hl : ML (dO y) idx (dN y2)) (hk : MS y2 n) (hC : Con w d2 y2 bc2 bs2 as μ R2) (hst : stk = as.reverse ++ st) (hn : as.length = n) (hdd : d2 + 1 ≤ d) (hW : stW st ≤ 8) (hbc : bc1 + bc2 ≤ bc) (hbs : bs1 + bs2 ≤ bs)
    (kk : ∀ (v : Option AV) (μ2 : Mem), R2 v μ2 → G w d y Pq bc1 bs1 (pc + 3) L (v.toList ++ st) μ2) : G w d y Pq bc bs pc L stk μ := by
  subst hst
  intro p l e R s m args below meth c Q hL hE H locs lsr cells slots hR hS hlh h1 h2
  obtain ⟨hx, hb, -, hml, hown, hts, -, hK, -, -, hdf, hdl, hT⟩ := id hL
  have hp : PreS s H (va_Pc (as.map cv) (fun U => Rep w μ U.heap ∧ va_K (wD w) vwCl (tysW w) U ∧ TxOk w U)) (as.map cv) := ⟨con_blind, fun U hU hW => ⟨rfl, by rw [hU]; exact hR, va_K.moved hW.alike hK, hT.move hW (by rw [hU]; exact hS.2.1)⟩⟩
  have hroom : d2 + 1 ≤ R.frames ∧ 8 + (dL y2 + 11) + 64 * d2 ≤ R.locals := ⟨by omega, by have := hk.1.2.2.2; omega⟩
  have hstack : (F0 m pc lsr ((as.reverse ++ st).map cv)).stack = (as.map cv).reverse ++ st.map cv := by simp
  have hf : cells + bc2 ≤ R.cells ∧ slots + bs2 ≤ R.slots := ⟨by omega, by omega⟩
  have kw : ∀ (v : Option AV) (μ2 : Mem) (H1 : Heap) (locs1 : List Loc), R2 v μ2 → Rep w μ2 H1 → va_S (fun q => wB w ≤ q) s.heap H1 locs1 → W p l e R s m args below meth c H1 locs1 (cells + bc2) (slots + bs2) Q (F0 m (pc + 3) lsr (v.toList.map cv ++ st.map cv)) := fun v μ2 H1 locs1 a1 a2 a3 => by
    rw [← List.map_append]
    exact kk v μ2 a1 p l e R s m args below meth c Q hL hE H1 locs1 lsr _ _ a2 a3 hlh (by omega) (by omega)
  rcases hl with hl | ⟨host, hl⟩
  · exact W.fin (a := #[]) (va_runS (rest := st.map cv) ⟨hx, hb, hml, hown, hts⟩ (hC l) ⟨callB_of n hts (good_ws hk.1) rfl rfl rfl (hts _ hk.1.2.1) (hts _ hl) hk.1.2.2.1 hroom, hts _ hk.2⟩ hp rfl (by rw [List.length_map]; exact hn) hlh.1 hstack (lv_room (by rw [stW_cv]; exact hW)) hd hf) hS kw
  · exact W.fin (a := #[]) (va_runSN (rest := st.map cv) ⟨hx, hb, hml, hown, hts⟩ (hC l) ⟨va_cnB n hts (good_ws hk.1) rfl rfl rfl (va_Nw.of rfl (hts _ hl)) (hts _ hk.1.2.1) hk.1.2.2.1 hroom, hts _ hk.2, trivial⟩ hp rfl (by rw [List.length_map]; exact hn) hlh.1 hstack (lv_room (by rw [stW_cv]; exact hW)) hd hf) hS kw
theorem g_callV {b ci N : Nat} {T : u_T} (hd : decode (dB y) pc = .ok (.invokevirtual idx, 3)) (hl : ML (dO y) idx (dN y2)) (hk : MV y2 n) (hci : ci < 13 ∧ vwCl[ci]? = some (dO y2, T, N)) (ho : IsO w μ b ci) (hC : Con w d2 y2 bc2 bs2 (vP (some b) :: as) μ R2) (hst : stk = as.reverse ++ vP (some b) :: st) (hn : as.length = n) (hdd : d2 + 1 ≤ d) (hW : stW st ≤ 8) (hbc : bc1 + bc2 ≤ bc) (hbs : bs1 + bs2 ≤ bs)
    (kk : ∀ (v : Option AV) (μ2 : Mem), R2 v μ2 → G w d y Pq bc1 bs1 (pc + 3) L (v.toList ++ st) μ2) : G w d y Pq bc bs pc L stk μ := by
  subst hst
  intro p l e R s m args below meth c Q hL hE H locs lsr cells slots hR hS hlh h1 h2
  obtain ⟨hx, hb, -, hml, hown, hts, -, hK, -, -, hdf, hdl, hT⟩ := id hL
  have hrec : ∃ cellB : Cell, H[b]? = some cellB ∧ cellB.vm.isStatics = false ∧ s.vm.findClass (dO y2) = some cellB.cls := by
    obtain ⟨cell, q1, q2, q3, -⟩ := hR.obj ho hci.2 hci.1
    exact ⟨cell, q1, by rw [q3]; rfl, by rw [q2]; exact (hK.1 ci _ hci.2).2.1⟩
  have hp : PreV s H (dO y2) b (va_Pc ((vP (some b) :: as).map cv) (fun U => Rep w μ U.heap ∧ va_K (wD w) vwCl (tysW w) U ∧ TxOk w U)) (as.map cv) := ⟨con_blind, hrec, fun U hU hW => ⟨rfl, by rw [hU]; exact hR, va_K.moved hW.alike hK, hT.move hW (by rw [hU]; exact hS.2.1)⟩⟩
  have hroom : d2 + 1 ≤ R.frames ∧ 8 + (dL y2 + 11) + 64 * d2 ≤ R.locals := ⟨by omega, by have := hk.1.2.2.2; omega⟩
  have hstack : (F0 m pc lsr ((as.reverse ++ vP (some b) :: st).map cv)).stack = (as.map cv).reverse ++ .ref b :: st.map cv := by simp; rfl
  have hf : cells + bc2 ≤ R.cells ∧ slots + bs2 ≤ R.slots := ⟨by omega, by omega⟩
  have kw : ∀ (v : Option AV) (μ2 : Mem) (H1 : Heap) (locs1 : List Loc), R2 v μ2 → Rep w μ2 H1 → va_S (fun q => wB w ≤ q) s.heap H1 locs1 → W p l e R s m args below meth c H1 locs1 (cells + bc2) (slots + bs2) Q (F0 m (pc + 3) lsr (v.toList.map cv ++ st.map cv)) := fun v μ2 H1 locs1 a1 a2 a3 => by
    rw [← List.map_append]
    exact kk v μ2 a1 p l e R s m args below meth c Q hL hE H1 locs1 lsr _ _ a2 a3 hlh (by omega) (by omega)
  rcases hl with hl | ⟨host, hl⟩
  · exact W.fin (a := #[]) (va_runV (rest := st.map cv) ⟨hx, hb, hml, hown, hts⟩ (hC l) ⟨callB_of n hts (good_ws hk.1) rfl rfl rfl (hts _ hk.1.2.1) (hts _ hl) hk.1.2.2.1 hroom, hts _ hk.2.1, hts _ hk.2.2⟩ hp rfl (by rw [List.length_map]; exact hn) hlh.1 hstack (lv_room (by rw [stW_cv]; exact hW)) hd hf) hS kw
  · exact W.fin (a := #[]) (va_runVN (rest := st.map cv) ⟨hx, hb, hml, hown, hts⟩ (hC l) ⟨va_cnB n hts (good_ws hk.1) rfl rfl rfl (va_Nw.of rfl (hts _ hl)) (hts _ hk.1.2.1) hk.1.2.2.1 hroom, hts _ hk.2.1, hts _ hk.2.2⟩ hp rfl (by rw [List.length_map]; exact hn) hlh.1 hstack (lv_room (by rw [stW_cv]; exact hW)) hd hf) hS kw
theorem g_callI {b : Nat} (hd : decode (dB y) pc = .ok (.invokespecial idx, 3)) (hl : ML (dO y) idx (dN y2)) (hk : MN y2 n) (hC : Con w d2 y2 bc2 bs2 (vP (some b) :: as) μ R2) (hst : stk = as.reverse ++ vP (some b) :: st) (hn : as.length = n) (hdd : d2 + 1 ≤ d) (hW : stW st ≤ 8) (hbc : bc1 + bc2 ≤ bc) (hbs : bs1 + bs2 ≤ bs)
    (kk : ∀ (v : Option AV) (μ2 : Mem), R2 v μ2 → G w d y Pq bc1 bs1 (pc + 3) L (v.toList ++ st) μ2) : G w d y Pq bc bs pc L stk μ := by
  subst hst
  intro p l e R s m args below meth c Q hL hE H locs lsr cells slots hR hS hlh h1 h2
  obtain ⟨hx, hb, -, hml, hown, hts, -, hK, -, -, hdf, hdl, hT⟩ := id hL
  have hC2 := hC l
  have hm := good_ws hk.1
  have hcode := hk.1.1
  rw [hk.2.2.2] at hC2 hm hcode
  have hp : PreS s H (va_Pc ((vP (some b) :: as).map cv) (fun U => Rep w μ U.heap ∧ va_K (wD w) vwCl (tysW w) U ∧ TxOk w U)) (.ref b :: as.map cv) := ⟨con_blind, fun U hU hW => ⟨rfl, by rw [hU]; exact hR, va_K.moved hW.alike hK, hT.move hW (by rw [hU]; exact hS.2.1)⟩⟩
  have hroom : d2 + 1 ≤ R.frames ∧ 8 + (dL y2 + 11) + 64 * d2 ≤ R.locals := ⟨by omega, by have := hk.1.2.2.2; omega⟩
  have hstack : (F0 m pc lsr ((as.reverse ++ vP (some b) :: st).map cv)).stack = (as.map cv).reverse ++ .ref b :: st.map cv := by simp; rfl
  have hf : cells + bc2 ≤ R.cells ∧ slots + bs2 ≤ R.slots := ⟨by omega, by omega⟩
  have kw : ∀ (v : Option AV) (μ2 : Mem) (H1 : Heap) (locs1 : List Loc), R2 v μ2 → Rep w μ2 H1 → va_S (fun q => wB w ≤ q) s.heap H1 locs1 → W p l e R s m args below meth c H1 locs1 (cells + bc2) (slots + bs2) Q (F0 m (pc + 3) lsr (v.toList.map cv ++ st.map cv)) := fun v μ2 H1 locs1 a1 a2 a3 => by
    rw [← List.map_append]
    exact kk v μ2 a1 p l e R s m args below meth c Q hL hE H1 locs1 lsr _ _ a2 a3 hlh (by omega) (by omega)
  rcases hl with hl | ⟨host, hl⟩
  · exact W.fin (a := #[]) (va_runI (rest := st.map cv) ⟨hx, hb, hml, hown, hts⟩ hC2 ⟨callB_of n hts hm rfl rfl rfl (hts _ hk.1.2.1) (hts _ hl) hk.1.2.2.1 hroom, hk.2.2.1, hts _ hk.2.1⟩ hp rfl (by rw [List.length_map]; exact hn) hlh.1 hstack (lv_room (by rw [stW_cv]; exact hW)) hd hf) hS kw
  · exact W.fin (a := #[]) (va_runIN (rest := st.map cv) ⟨hx, hb, hml, hown, hts⟩ hC2 ⟨va_cnB n hts hm rfl rfl rfl (va_Nw.of rfl (hts _ hl)) (hts _ hk.1.2.1) hk.1.2.2.1 hroom, hk.2.2.1, hts _ hk.2.1⟩ hp rfl (by rw [List.length_map]; exact hn) hlh.1 hstack (lv_room (by rw [stW_cv]; exact hW)) hd hf) hS kw
/-- Object.<init> -/
theorem g_objI {a : Nat} (hd : decode (dB y) pc = .ok (.invokespecial idx, 3)) (hl : Cond.methodLink (dO y) idx Lib.objectInit ∈ lw_use) (hin : Cond.instanceMethod Lib.objectInit ∈ lw_use) (hcode : Cond.code Lib.objectInit ⟨#[0xb1]⟩ 1 none ∈ lw_use) (hdd : 1 ≤ d) (hW : stW st ≤ 8) (kk : G w d y Pq bc bs (pc + 3) L st μ) : G w d y Pq bc bs pc L (vP (some a) :: st) μ := by
  refine G.go (fun p l e R s m args below meth c Q hx hb hL H locs lsr cells slots hR hS hlh kw => ?_) kk
  obtain ⟨-, -, -, hml, hown, hts, -, -, -, -, hdf, hdl, -⟩ := hL
  exact W.objInit hx hb hown (hts _ hl) (hts _ hin) (hts _ hcode) rfl (hlh.1.trans hml.symm) rfl hd (by omega) (by
    have h1 := lv_room (m := m) (pc := pc) (ls := lsr) (rest := []) (st := st.map cv) (by rw [stW_cv]; exact hW)
    have h2 : (F0 m pc lsr ((vP (some a) :: st).map cv)).monitorRoom = (F0 m pc lsr []).monitorRoom := rfl
    rw [h2]
    omega) kw
/-- new -/
theorem g_new {ci : Nat} {C : String} {T : u_T} {N : Nat} (hd : decode (dB y) pc = .ok (.new idx, 3)) (hc : ClOk ci C T N) (hl : Cond.classLink (dO y) idx C ∈ lw_use) (hi : Cond.instantiable C N ∈ lw_use) (hini : Cond.initialized C ∈ lw_use) (hdf : ∀ k, k < N → tyF (clTy ci k) = true) (hbc : bc1 + 1 ≤ bc) (hbs : bs1 + N ≤ bs)
    (kk : G w d y Pq bc1 bs1 (pc + 3) L (vP (some (mZ μ)) :: st) (sN μ ci 0)) : G w d y Pq bc bs pc L st μ := by
  intro p l e R s m args below meth c Q hL hE H locs lsr cells slots hR hS hlh h1 h2
  obtain ⟨hx, hb, -, hml, hown, hts, -, hK, -, -, -, -, -⟩ := id hL
  obtain ⟨hci, hcl, hin, hty, hnm, hC⟩ := hc
  have hKn := hK.1 ci _ hcl
  refine W.newcK hx hb hown (hts _ hl) (hts _ hi) (hts _ hini) rfl hd (by omega) (by omega) hKn.2.1 hR.1 fun H1 kC hkC e1 z1 o1 => ?_
  have z2 : H1.size = H.size + 1 := by rw [z1, hR.1]
  have o2 : ∀ q : Nat, q < H.size → H1[q]? = H[q]? := fun q hq => o1 q (by rw [← hR.1]; exact hq)
  refine kk p l e R s m args below meth c Q hL hE H1 locs lsr _ _ (hR.new z2 o2 (Or.inl ?_)) (hS.new z2 o2) hlh (by omega) (by omega)
  rw [mS_sN_self]
  refine ⟨hci, _, hcl, (u_born (clTy ci) hts hin hKn hkC e1 hty).to fun k hk => ?_⟩
  show defaultValue (clTy ci k) = cv (fa (sN μ ci 0) (mZ μ) (clTy ci k) k)
  rw [fa_sN_self]
  exact df_of (hdf k hk)
/-- newarray: a row of kind t -/
theorem g_newa {t n : Nat} {z : Int} {atype : ArrayType} (hd : decode (dB y) pc = .ok (.newarray atype, 2)) (ha : Cond.arrayClass (newarray.typeOf atype) ∈ lw_use) (ht : 13 ≤ t ∧ t ≤ 16 ∧ arTy t = newarray.typeOf atype) (hz : z = (n : Int)) (hn : n ≤ 60000000) (hbc : bc1 + 1 ≤ bc) (hbs : bs1 + n ≤ bs)
    (kk : G w d y Pq bc1 bs1 (pc + 2) L (vP (some (mZ μ)) :: st) (sN μ t n)) : G w d y Pq bc bs pc L (vI z :: st) μ := by
  subst hz
  intro p l e R s m args below meth c Q hL hE H locs lsr cells slots hR hS hlh h1 h2
  obtain ⟨hx, hb, -, hml, hown, hts, -, hK, -, -, -, -, -⟩ := id hL
  obtain ⟨ht1, ht2, ht3⟩ := ht
  have hi : i32 (n : Int) := ⟨by omega, by omega⟩
  have hcb : componentBytes (newarray.typeOf atype) ≤ 8 := by
    rw [← ht3]
    rcases (by omega : t = 13 ∨ t = 14 ∨ t = 15 ∨ t = 16) with rfl | rfl | rfl | rfl <;> decide
  have hcl : (iv (n : Int)).toNatClampNeg = n := by rw [iv_clamp hi]; omega
  have hnn : ¬ iv (n : Int) < 0 := fun q => by
    have := (iv_lt hi i32_0).mp q
    omega
  refine va_newaK hx hb (hts _ ha) rfl hd rfl hnn hcl (Nat.le_trans (Nat.mul_le_mul hn hcb) (by decide)) (by omega) (by omega) hR.1 fun H1 cA e1 z1 o1 hA hfc => ?_
  have hcA : cA = wA w t := by
    have hRA := (va_K.rowT hK (t := t) ht1 (by omega)).2
    rw [ht3] at hRA
    rcases (by omega : t = 13 ∨ t = 14 ∨ t = 15 ∨ t = 16) with rfl | rfl | rfl | rfl <;> (rw [← ht3] at hRA hfc; exact Option.some.inj (hfc.symm.trans hRA))
  subst hcA
  have z2 : H1.size = H.size + 1 := by rw [z1, hR.1]
  have o2 : ∀ q : Nat, q < H.size → H1[q]? = H[q]? := fun q hq => o1 q (by rw [← hR.1]; exact hq)
  refine kk p l e R s m args below meth c Q hL hE H1 locs lsr _ _ (hR.new z2 o2 (Or.inr ?_)) (hS.new z2 o2) hlh (by omega) (by omega)
  rw [mS_sN_self]
  refine ⟨ht1, by omega, e1.trans ?_⟩
  congr 2
  funext j
  show defaultValue (newarray.typeOf atype) = cv (fa (sN μ t n) (mZ μ) (arTy t) j)
  rw [fa_sN_self, ← ht3]
  rcases (by omega : t = 13 ∨ t = 14 ∨ t = 15 ∨ t = 16) with rfl | rfl | rfl | rfl <;> rfl
/-- anewarray -/
theorem g_newq {t n : Nat} {z : Int} {C : String} (hd : decode (dB y) pc = .ok (.anewarray idx, 3)) (hl : Cond.classLink (dO y) idx C ∈ lw_use) (ha : Cond.arrayOver (.object C) ∈ lw_use) (ht : 17 ≤ t ∧ t ≤ 18 ∧ arTy t = .object C) (hz : z = (n : Int)) (hn : n ≤ 60000000) (hbc : bc1 + 1 ≤ bc) (hbs : bs1 + n ≤ bs)
    (kk : G w d y Pq bc1 bs1 (pc + 3) L (vP (some (mZ μ)) :: st) (sN μ t n)) : G w d y Pq bc bs pc L (vI z :: st) μ := by
  subst hz
  intro p l e R s m args below meth c Q hL hE H locs lsr cells slots hR hS hlh h1 h2
  obtain ⟨hx, hb, -, hml, hown, hts, -, hK, -, -, -, -, -⟩ := id hL
  obtain ⟨ht1, ht2, ht3⟩ := ht
  have hi : i32 (n : Int) := ⟨by omega, by omega⟩
  have hcl : (iv (n : Int)).toNatClampNeg = n := by rw [iv_clamp hi]; omega
  have hnn : ¬ iv (n : Int) < 0 := fun q => by
    have := (iv_lt hi i32_0).mp q
    omega
  refine W.anew hx hb hown (hts _ hl) (hts _ ha) rfl hd rfl hnn (by rw [hcl]; omega) (by omega) (by rw [hcl]; omega) fun cA kA comp f1 f2 f3 f4 => ?_
  have hcA : cA = wA w t := by
    have hRA := (va_K.rowT hK (t := t) (by omega) (by omega)).2
    rw [ht3] at hRA
    obtain ⟨_, _, _, _, _, k4⟩ := hRA
    exact Option.some.inj (f1.symm.trans k4)
  subst hcA
  rw [hcl]
  generalize hH1 : H.push ({ cls := wA w t, slots := Array.replicate n .null, vm := .none } : Cell) = H1
  have z2 : H1.size = H.size + 1 := by rw [← hH1, Array.size_push]
  have e1 : H1[mZ μ]? = some (arrV (wA w t) n (fun _ => .null)) := by rw [← hH1, ← hR.1, Array.getElem?_push_size, ← arrV_new]
  have o2 : ∀ q : Nat, q < H.size → H1[q]? = H[q]? := fun q hq => by rw [← hH1, Array.getElem?_push, if_neg (Nat.ne_of_lt hq)]
  rw [hR.1]
  refine kk p l e R s m args below meth c Q hL hE H1 locs lsr _ _ (hR.new z2 o2 (Or.inr ?_)) (hS.new z2 o2) hlh (by omega) (by omega)
  rw [mS_sN_self]
  refine ⟨by omega, by omega, e1.trans ?_⟩
  congr 2
  funext j
  show Value.null = cv (fa (sN μ t n) (mZ μ) (arTy t) j)
  rw [fa_sN_self, ht3]
  rfl
end GC
