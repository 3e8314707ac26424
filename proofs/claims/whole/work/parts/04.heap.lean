/-! ROWS OF THE MEMORY MACHINE: fields, rows, new cells -/
def vK (v : AV) : Nat := match v with
  | .inl _ => 0
  | .inr (.inl _) => 1
  | .inr (.inr _) => 2
def sV (μ : Mem) (a : Nat) (k : Int) (v : AV) : Mem := match v with
  | .inl z => sI μ a k z
  | .inr (.inl z) => sL μ a k z
  | .inr (.inr r) => sR μ a k r
theorem mS_sV (μ : Mem) (a : Nat) (k : Int) (v : AV) : mS (sV μ a k v) = mS μ := by rcases v with z | z | r <;> rfl
theorem mZ_sV (μ : Mem) (a : Nat) (k : Int) (v : AV) : mZ (sV μ a k v) = mZ μ := by rcases v with z | z | r <;> rfl
theorem fa_set {μ : Mem} {a : Nat} {k : Int} {v : AV} {t : FieldType} (h : tyK t = vK v) : fa (sV μ a k v) a t k = v := by
  unfold fa
  rw [h]
  rcases v with z | z | r <;> simp [vK, sV, sI, sL, sR, mI, mL, mR, up2]
theorem fa_ne {μ : Mem} {a x : Nat} {k j : Int} {v : AV} {t : FieldType} (h : ¬ (x = a ∧ j = k)) : fa (sV μ a k v) x t j = fa μ x t j := by
  unfold fa
  rcases v with z | z | r <;> simp [sV, sI, sL, sR, mI, mL, mR, up2, h]
theorem cOk.kept {w : WC} {μ μ2 : Mem} {x : Nat} {H H1 : Heap} (h : cOk w μ x H) (hq : H1[x]? = H[x]?) (hs : mS μ2 x = mS μ x) (hf : ∀ t j, fa μ2 x t j = fa μ x t j) : cOk w μ2 x H1 := by
  unfold cOk at h ⊢
  rw [hs]
  rcases h with ⟨h1, r, h2, h3⟩ | ⟨h1, h2, h3⟩
  · exact Or.inl ⟨h1, r, h2, (h3.kept hq).to fun k _ => by unfold fv; rw [hf]⟩
  · refine Or.inr ⟨h1, h2, ?_⟩
    rw [hq, h3]
    congr 2
    funext j
    unfold fv
    rw [hf]
theorem Rep.upd {w : WC} {μ : Mem} {H H1 : Heap} {a : Nat} {k : Int} {v : AV} (h : Rep w μ H) (hz : H1.size = H.size) (oq : ∀ q : Nat, q ≠ a → H1[q]? = H[q]?) (hc : cOk w (sV μ a k v) a H1) : Rep w (sV μ a k v) H1 := by
  refine ⟨by rw [hz, mZ_sV]; exact h.1, by rw [mZ_sV]; exact h.2.1, fun x h1 h2 => ?_⟩
  rw [mZ_sV] at h2
  by_cases hx : x = a
  · subst hx
    exact hc
  · exact (h.2.2 x h1 h2).kept (oq x hx) (by rw [mS_sV]) fun t j => fa_ne (fun q => hx q.1)
theorem Rep.obj {w : WC} {μ : Mem} {H : Heap} {a ci : Nat} {C : String} {T : u_T} {N : Nat} (h : Rep w μ H) (ho : IsO w μ a ci) (hc : vwCl[ci]? = some (C, T, N)) (hci : ci < 13) : t_OB a ((wD w).1 ci) N ((wD w).2 ci) H (fun k => fv μ a (clTy ci k) k) := by
  obtain ⟨h1, h2, h3⟩ := ho
  rcases h.2.2 a h1 h2 with ⟨h4, r, h5, h6⟩ | ⟨h4, -⟩
  · rw [h3] at h5 h6
    cases h5.symm.trans hc
    exact h6
  · omega
theorem Rep.row {w : WC} {μ : Mem} {H : Heap} {a t n : Nat} (h : Rep w μ H) (ho : IsA w μ a t n) (ht : 13 ≤ t) : H[a]? = some (arrV (wA w t) n (fun j => fv μ a (arTy t) j)) ∧ t ≤ 18 := by
  obtain ⟨h1, h2, h3, -⟩ := ho
  rcases h.2.2 a h1 h2 with ⟨h4, -⟩ | ⟨h4, h5, h6⟩
  · rw [h3] at h4
    exact absurd h4 (Nat.not_lt.mpr ht)
  · rw [h3] at h5 h6
    exact ⟨h6, h5⟩
section GH
variable {w : WC} {d : Nat} {y : MD} {Pq : Option AV → Mem → Prop} {bc bs pc : Nat} {L L2 : List (Option AV)} {st : List AV} {μ : Mem}
theorem g_get {idx ci k a : Nat} {kz : Int} (hd : decode (dB y) pc = .ok (.getfield idx, 3)) (hf : FL (dO y) idx ci k) (ho : IsO w μ a ci) (hk : kz = (k : Int)) (kk : G w d y Pq bc bs (pc + 3) L (fa μ a (clTy ci k) kz :: st) μ) : G w d y Pq bc bs pc L (vP (some a) :: st) μ := by
  subst hk
  obtain ⟨C, T, N, ⟨hci, hc, hin, hty, hnm, hC⟩, hkN, hlink⟩ := hf
  refine G.go (fun p l e R s m args below meth c Q hx hb hL H locs lsr cells slots hR hS hlh kw => ?_) kk
  obtain ⟨-, -, -, -, hown, hts, -, hK, -⟩ := hL
  obtain ⟨cell, q1, q2, q3, q4⟩ := hR.obj ho hc hci
  obtain ⟨hSl, hfc, kC, hkC, hkind⟩ := hK.1 ci _ hc
  obtain ⟨cf, kf, fi, f, hi, hsl⟩ := hSl k hkN
  have hi2 := hi
  rw [hC k hkN] at hi2
  have hst := (u_facts hfc hkC (u_lays hts hin hkN) hi).1
  have hv : cell.slots[f.slot]? = some (fv μ a (clTy ci k) k) := by rw [hsl]; exact q4 k hkN
  have hun : cell.vm ≠ .unknown := by rw [q3]; exact fun h => by cases h
  rcases hlink with hlink | ⟨host, hlink⟩
  · exact W.getf hx hb hown (hts _ hlink) hi2 hst q1 hun hv rfl rfl hd kw
  · exact va_Wgetf hx hb hown (hts _ hlink) hi2 hst q1 hun hv rfl rfl hd kw
theorem g_getI {idx ci k a : Nat} {kz : Int} (hd : decode (dB y) pc = .ok (.getfield idx, 3)) (hf : FL (dO y) idx ci k) (ht : tyK (clTy ci k) = 0) (ho : IsO w μ a ci) (hk : kz = (k : Int)) (kk : G w d y Pq bc bs (pc + 3) L (vI (mI μ a kz) :: st) μ) : G w d y Pq bc bs pc L (vP (some a) :: st) μ :=
  g_get hd hf ho hk (by rw [show fa μ a (clTy ci k) kz = vI (mI μ a kz) by unfold fa; rw [ht]; rfl]; exact kk)
theorem g_getJ {idx ci k a : Nat} {kz : Int} (hd : decode (dB y) pc = .ok (.getfield idx, 3)) (hf : FL (dO y) idx ci k) (ht : tyK (clTy ci k) = 1) (ho : IsO w μ a ci) (hk : kz = (k : Int)) (kk : G w d y Pq bc bs (pc + 3) L (vJ (mL μ a kz) :: st) μ) : G w d y Pq bc bs pc L (vP (some a) :: st) μ :=
  g_get hd hf ho hk (by rw [show fa μ a (clTy ci k) kz = vJ (mL μ a kz) by unfold fa; rw [ht]; rfl]; exact kk)
theorem g_getR {idx ci k a : Nat} {kz : Int} {r : Option Nat} (hd : decode (dB y) pc = .ok (.getfield idx, 3)) (hf : FL (dO y) idx ci k) (ht : tyK (clTy ci k) = 2) (ho : IsO w μ a ci) (hk : kz = (k : Int)) (hr : mR μ a kz = r) (kk : G w d y Pq bc bs (pc + 3) L (vP r :: st) μ) : G w d y Pq bc bs pc L (vP (some a) :: st) μ :=
  g_get hd hf ho hk (by rw [show fa μ a (clTy ci k) kz = vP r by unfold fa; rw [ht, ← hr]; rfl]; exact kk)
/-- a step that changes one cell -/
theorem G.put {pc2 a : Nat} {k : Int} {v : AV} {st2 : List AV} (ha : wB w ≤ a) (h : ∀ (p : Program) (l : Launch) (e : Env) (R : Room) (s : State) (m : MethodId) (args : Array Value) (below : List Frame) (meth : Method) (c : Code) (Q : State → Prop), p.tables.exec = Jvm.exec → c.code = dB y → Live w d y p R s m args meth c → ∀ (H : Heap) (locs : List Loc) (lsr : Array Slot) (cells slots : Nat), Rep w μ H → va_S (fun q => wB w ≤ q) s.heap H locs →
      (∀ (H1 : Heap) (j : Nat), H1.size = H.size → (∀ q : Nat, q ≠ a → H1[q]? = H[q]?) → cOk w (sV μ a k v) a H1 → W p l e R s m args below meth c H1 (locs ++ [⟨a, j⟩]) cells slots Q (F0 m pc2 lsr (st2.map cv))) → W p l e R s m args below meth c H locs cells slots Q (F0 m pc lsr (st.map cv))) (kk : G w d y Pq bc bs pc2 L st2 (sV μ a k v)) : G w d y Pq bc bs pc L st μ :=
  fun p l e R s m args below meth c Q hL hE H locs lsr cells slots hR hS hl h1 h2 => h p l e R s m args below meth c Q hL.1 hL.2.1 hL H locs lsr cells slots hR hS fun H1 j hz oq hc =>
    kk p l e R s m args below meth c Q hL hE H1 (locs ++ [⟨a, j⟩]) lsr cells slots (hR.upd hz oq hc) (hS.put hz oq ha) hl h1 h2
theorem g_put {idx ci k a : Nat} {kz : Int} {v : AV} (hd : decode (dB y) pc = .ok (.putfield idx, 3)) (hf : FP (dO y) (dI y) idx ci k) (ht : tyK (clTy ci k) = vK v) (hn : narrow (clTy ci k) (cv v) = cv v) (hfit : fits (clTy ci k) (cv v) = true) (ho : IsO w μ a ci) (hk : kz = (k : Int)) (kk : G w d y Pq bc bs (pc + 3) L st (sV μ a kz v)) : G w d y Pq bc bs pc L (v :: vP (some a) :: st) μ := by
  subst hk
  obtain ⟨C, T, N, ⟨hci, hc, hin, hty, hnm, hC⟩, hkN, hlink⟩ := hf
  refine G.put ho.1 (fun p l e R s m args below meth c Q hx hb hL H locs lsr cells slots hR hS kw => ?_) kk
  obtain ⟨-, -, -, -, hown, hts, -, hK, hini, -⟩ := hL
  obtain ⟨cell, q1, q2, q3, q4⟩ := hR.obj ho hc hci
  have hap := va_apart (own := C) hts hin (clTy ci) hty hnm hK hc
  obtain ⟨hSl, hfc, kC, hkC, hkind⟩ := hK.1 ci _ hc
  obtain ⟨cf, kf, fi, f, hi, hsl⟩ := hSl k hkN
  have hi2 := hi
  rw [hC k hkN] at hi2
  have hst := (u_facts hfc hkC (u_lays hts hin hkN) hi).1
  have hlt : f.slot < cell.slots.size := by rw [hsl]; exact k2_hasslot (q4 k hkN)
  have fin : ∀ H1 : Heap, H1[a]? = some (cell.setSlot f.slot (cv v)) → H1.size = H.size → (∀ q, q ≠ a → H1[q]? = H[q]?) → W p l e R s m args below meth c H1 (locs ++ [⟨a, f.slot⟩]) cells slots Q (F0 m (pc + 3) lsr (st.map cv)) := by
    intro H1 e1 e2 e3
    refine kw H1 f.slot e2 e3 (Or.inl ?_)
    rw [mS_sV, ho.2.2]
    refine ⟨hci, _, hc, t_OB.to (V := updV (fun j => fv μ a (clTy ci j) j) k (cv v)) ⟨_, e1, q2, q3, ?_⟩ fun j hj => ?_⟩
    · rw [hsl]
      exact t_set q4 hap hkN (cv v)
    · unfold updV fv
      by_cases hjk : j = k
      · subst hjk
        rw [if_pos rfl, fa_set ht]
      · rw [if_neg hjk, fa_ne (fun q => hjk (by omega))]
  rcases hlink with ⟨hlink, hfin⟩ | ⟨hlink, hfin, hi0, hoC⟩
  · have hlay := hts _ (hin _ (u_in_lay hkN))
    unfold u_lay at hlay
    rw [if_neg (by rw [hfin]; decide)] at hlay
    have h6 := u_store hfc hkC hkind hlay hi (hty k hkN) hn hfit
    rcases hlink with hlink | ⟨host, hlink⟩
    · exact W.putK hx hb (f := f) ⟨hown, hts _ hlink, ⟨_, _, _, hi2⟩, hst⟩ (by rw [q2]; exact h6) q1 q3 hlt rfl rfl hd fin
    · exact va_WputK hx hb (f := f) hown (hts _ hlink) hi2 hst (by rw [q2]; exact h6) q1 q3 hlt rfl rfl hd fin
  · have h7 := u_fits hfc hkC hkind (u_lays hts hin hkN) hi (hty k hkN) hn hfit
    have hlay := hts _ (hin _ (u_in_lay hkN))
    unfold u_lay at hlay
    rw [if_pos hfin] at hlay
    have hcf : m.cls = cf := by
      obtain ⟨_, _, c', _, _, _, -, -, hf', -, -, -, hown2, -⟩ := Cond.laysFinal_spec hlay
      have e1 : c' = cf := by have := hi.symm.trans hf'; simp at this; exact this.1.symm
      rw [hC k hkN, ← hoC] at hown2
      rw [← e1]; exact Option.some.inj (hown.symm.trans hown2)
    exact W.putFinK hx hb hown (hts _ hlink) hi2 hst hcf (hini hi0) (by rw [q2]; exact h7) q1 q3 hlt rfl rfl hd fin
end GH
