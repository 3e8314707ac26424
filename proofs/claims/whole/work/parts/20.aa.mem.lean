/-! WHOLE ROWS OF THE MEMORY, WRITTEN AT ONCE -/
theorem Mem.ext {μ μ2 : Mem} (h1 : ∀ a k, mI μ2 a k = mI μ a k) (h2 : ∀ a k, mL μ2 a k = mL μ a k) (h3 : ∀ a k, mR μ2 a k = mR μ a k) (h4 : mS μ2 = mS μ) (h5 : mZ μ2 = mZ μ) : μ2 = μ := by
  obtain ⟨a1, a2, a3, a4, a5⟩ := μ
  obtain ⟨b1, b2, b3, b4, b5⟩ := μ2
  have e1 : b1 = a1 := funext fun a => funext fun k => h1 a k
  have e2 : b2 = a2 := funext fun a => funext fun k => h2 a k
  have e3 : b3 = a3 := funext fun a => funext fun k => h3 a k
  have e4 : b4 = a4 := h4
  have e5 : b5 = a5 := h5
  subst e1; subst e2; subst e3; subst e4; subst e5
  rfl
/-- the ints, longs of a cell, all at once -/
def wI (μ : Mem) (a : Nat) (g : Int → Int) : Mem := (fun x => if x = a then g else μ.1 x, μ.2)
def wL (μ : Mem) (a : Nat) (g : Int → Int) : Mem := (μ.1, fun x => if x = a then g else μ.2.1 x, μ.2.2)
theorem mI_wI (μ : Mem) (a : Nat) (g : Int → Int) (x : Nat) (j : Int) : mI (wI μ a g) x j = if x = a then g j else mI μ x j := by
  show (if x = a then g else μ.1 x) j = _
  split <;> rfl
theorem mL_wL (μ : Mem) (a : Nat) (g : Int → Int) (x : Nat) (j : Int) : mL (wL μ a g) x j = if x = a then g j else mL μ x j := by
  show (if x = a then g else μ.2.1 x) j = _
  split <;> rfl
theorem mI_wL (μ : Mem) (a : Nat) (g : Int → Int) : mI (wL μ a g) = mI μ := rfl
theorem mR_wL (μ : Mem) (a : Nat) (g : Int → Int) : mR (wL μ a g) = mR μ := rfl
theorem mL_wI (μ : Mem) (a : Nat) (g : Int → Int) : mL (wI μ a g) = mL μ := rfl
theorem mR_wI (μ : Mem) (a : Nat) (g : Int → Int) : mR (wI μ a g) = mR μ := rfl
theorem mS_wI (μ : Mem) (a : Nat) (g : Int → Int) : mS (wI μ a g) = mS μ := rfl
theorem mS_wL (μ : Mem) (a : Nat) (g : Int → Int) : mS (wL μ a g) = mS μ := rfl
theorem mZ_wI (μ : Mem) (a : Nat) (g : Int → Int) : mZ (wI μ a g) = mZ μ := rfl
theorem mZ_wL (μ : Mem) (a : Nat) (g : Int → Int) : mZ (wL μ a g) = mZ μ := rfl
theorem wI_eta (μ : Mem) (a : Nat) : wI μ a (mI μ a) = μ := Mem.ext (fun x k => by rw [mI_wI]; split <;> simp_all) (fun _ _ => rfl) (fun _ _ => rfl) rfl rfl
theorem wL_eta (μ : Mem) (a : Nat) : wL μ a (mL μ a) = μ := Mem.ext (fun _ _ => rfl) (fun x k => by rw [mL_wL]; split <;> simp_all) (fun _ _ => rfl) rfl rfl
theorem wI_eta' {μ : Mem} {a : Nat} {g : Int → Int} (h : ∀ k, g k = mI μ a k) : wI μ a g = μ := by rw [show g = mI μ a from funext h]; exact wI_eta μ a
theorem wL_eta' {μ : Mem} {a : Nat} {g : Int → Int} (h : ∀ k, g k = mL μ a k) : wL μ a g = μ := by rw [show g = mL μ a from funext h]; exact wL_eta μ a
theorem sI_wI (μ : Mem) (a : Nat) (g : Int → Int) (k v : Int) : sI (wI μ a g) a k v = wI μ a (fun j => if j = k then v else g j) :=
  Mem.ext (fun x j => by rw [mI_sI, mI_wI, mI_wI]; by_cases h : x = a <;> by_cases h2 : j = k <;> simp [h, h2]) (fun _ _ => rfl) (fun _ _ => rfl) rfl rfl
theorem sL_wL (μ : Mem) (a : Nat) (g : Int → Int) (k v : Int) : sL (wL μ a g) a k v = wL μ a (fun j => if j = k then v else g j) :=
  Mem.ext (fun _ _ => rfl) (fun x j => by rw [mL_sL, mL_wL, mL_wL]; by_cases h : x = a <;> by_cases h2 : j = k <;> simp [h, h2]) (fun _ _ => rfl) rfl rfl
theorem wI_wI (μ : Mem) (a : Nat) (g h : Int → Int) : wI (wI μ a g) a h = wI μ a h := Mem.ext (fun x j => by rw [mI_wI, mI_wI, mI_wI]; split <;> rfl) (fun _ _ => rfl) (fun _ _ => rfl) rfl rfl
theorem wL_wL (μ : Mem) (a : Nat) (g h : Int → Int) : wL (wL μ a g) a h = wL μ a h := Mem.ext (fun _ _ => rfl) (fun x j => by rw [mL_wL, mL_wL, mL_wL]; split <;> rfl) (fun _ _ => rfl) rfl rfl
theorem sI_w (μ : Mem) (a : Nat) (k v : Int) : sI μ a k v = wI μ a (fun j => if j = k then v else mI μ a j) := by
  rw [← sI_wI, wI_eta]
theorem sL_w (μ : Mem) (a : Nat) (k v : Int) : sL μ a k v = wL μ a (fun j => if j = k then v else mL μ a j) := by
  rw [← sL_wL, wL_eta]
theorem wI_congr {μ : Mem} {a : Nat} {g h : Int → Int} (e : ∀ k, g k = h k) : wI μ a g = wI μ a h := by rw [funext e]
theorem wL_congr {μ : Mem} {a : Nat} {g h : Int → Int} (e : ∀ k, g k = h k) : wL μ a g = wL μ a h := by rw [funext e]
theorem IsO_sI (w : WC) (μ : Mem) (a : Nat) (k v : Int) (x c : Nat) : IsO w (sI μ a k v) x c = IsO w μ x c := rfl
theorem IsA_sI (w : WC) (μ : Mem) (a : Nat) (k v : Int) (x t n : Nat) : IsA w (sI μ a k v) x t n = IsA w μ x t n := rfl
theorem IsO_sL (w : WC) (μ : Mem) (a : Nat) (k v : Int) (x c : Nat) : IsO w (sL μ a k v) x c = IsO w μ x c := rfl
theorem IsA_sL (w : WC) (μ : Mem) (a : Nat) (k v : Int) (x t n : Nat) : IsA w (sL μ a k v) x t n = IsA w μ x t n := rfl
theorem IsO_sR (w : WC) (μ : Mem) (a : Nat) (k : Int) (v : Option Nat) (x c : Nat) : IsO w (sR μ a k v) x c = IsO w μ x c := rfl
theorem IsA_sR (w : WC) (μ : Mem) (a : Nat) (k : Int) (v : Option Nat) (x t n : Nat) : IsA w (sR μ a k v) x t n = IsA w μ x t n := rfl
theorem IsO_wI (w : WC) (μ : Mem) (a : Nat) (g : Int → Int) (x c : Nat) : IsO w (wI μ a g) x c = IsO w μ x c := rfl
theorem IsA_wI (w : WC) (μ : Mem) (a : Nat) (g : Int → Int) (x t n : Nat) : IsA w (wI μ a g) x t n = IsA w μ x t n := rfl
theorem IsO_wL (w : WC) (μ : Mem) (a : Nat) (g : Int → Int) (x c : Nat) : IsO w (wL μ a g) x c = IsO w μ x c := rfl
theorem IsA_wL (w : WC) (μ : Mem) (a : Nat) (g : Int → Int) (x t n : Nat) : IsA w (wL μ a g) x t n = IsA w μ x t n := rfl
section GP
variable {w : WC} {d : Nat} {y : MD} {Pq : Option AV → Mem → Prop} {bc bs pc : Nat} {L L2 : List (Option AV)} {st : List AV} {μ : Mem}
theorem g_putI {idx ci k a : Nat} {kz z : Int} (hd : decode (dB y) pc = .ok (.putfield idx, 3)) (hf : FP (dO y) (dI y) idx ci k) (ht : tyK (clTy ci k) = 0) (hn : narrow (clTy ci k) (.int (iv z)) = .int (iv z)) (hfit : fits (clTy ci k) (.int (iv z)) = true) (ho : IsO w μ a ci) (hk : kz = (k : Int)) (kk : G w d y Pq bc bs (pc + 3) L st (sI μ a kz z)) : G w d y Pq bc bs pc L (vI z :: vP (some a) :: st) μ := g_put (v := vI z) hd hf ht hn hfit ho hk kk
theorem g_putJ {idx ci k a : Nat} {kz z : Int} (hd : decode (dB y) pc = .ok (.putfield idx, 3)) (hf : FP (dO y) (dI y) idx ci k) (ht : tyK (clTy ci k) = 1) (hn : narrow (clTy ci k) (.long (lg z)) = .long (lg z)) (hfit : fits (clTy ci k) (.long (lg z)) = true) (ho : IsO w μ a ci) (hk : kz = (k : Int)) (kk : G w d y Pq bc bs (pc + 3) L st (sL μ a kz z)) : G w d y Pq bc bs pc L (vJ z :: vP (some a) :: st) μ := g_put (v := vJ z) hd hf ht hn hfit ho hk kk
theorem g_putR {idx ci k a : Nat} {kz : Int} {r : Option Nat} (hd : decode (dB y) pc = .ok (.putfield idx, 3)) (hf : FP (dO y) (dI y) idx ci k) (ht : tyK (clTy ci k) = 2) (hn : narrow (clTy ci k) (va_rf r) = va_rf r) (hfit : fits (clTy ci k) (va_rf r) = true) (ho : IsO w μ a ci) (hk : kz = (k : Int)) (kk : G w d y Pq bc bs (pc + 3) L st (sR μ a kz r)) : G w d y Pq bc bs pc L (vP r :: vP (some a) :: st) μ := g_put (v := vP r) hd hf ht hn hfit ho hk kk
theorem g_getIv {idx ci k a : Nat} {kz z : Int} (hd : decode (dB y) pc = .ok (.getfield idx, 3)) (hf : FL (dO y) idx ci k) (ht : tyK (clTy ci k) = 0) (ho : IsO w μ a ci) (hk : kz = (k : Int)) (hv : mI μ a kz = z) (kk : G w d y Pq bc bs (pc + 3) L (vI z :: st) μ) : G w d y Pq bc bs pc L (vP (some a) :: st) μ := g_getI hd hf ht ho hk (by rw [hv]; exact kk)
theorem g_getJv {idx ci k a : Nat} {kz z : Int} (hd : decode (dB y) pc = .ok (.getfield idx, 3)) (hf : FL (dO y) idx ci k) (ht : tyK (clTy ci k) = 1) (ho : IsO w μ a ci) (hk : kz = (k : Int)) (hv : mL μ a kz = z) (kk : G w d y Pq bc bs (pc + 3) L (vJ z :: st) μ) : G w d y Pq bc bs pc L (vP (some a) :: st) μ := g_getJ hd hf ht ho hk (by rw [hv]; exact kk)
theorem g_ialdv {a n : Nat} {i z : Int} (hd : decode (dB y) pc = .ok (.iaload, 1)) (ho : IsA w μ a 14 n) (h0 : 0 ≤ i) (h1 : i < n) (hv : mI μ a i = z) (kk : G w d y Pq bc bs (pc + 1) L (vI z :: st) μ) : G w d y Pq bc bs pc L (vI i :: vP (some a) :: st) μ := g_iald hd ho h0 h1 (by rw [hv]; exact kk)
theorem g_baldv {a n : Nat} {i z : Int} (hd : decode (dB y) pc = .ok (.baload, 1)) (ho : IsA w μ a 13 n) (h0 : 0 ≤ i) (h1 : i < n) (hv : mI μ a i = z) (kk : G w d y Pq bc bs (pc + 1) L (vI z :: st) μ) : G w d y Pq bc bs pc L (vI i :: vP (some a) :: st) μ := g_bald hd ho h0 h1 (by rw [hv]; exact kk)
theorem g_zaldv {a n : Nat} {i z : Int} (hd : decode (dB y) pc = .ok (.baload, 1)) (ho : IsA w μ a 16 n) (h0 : 0 ≤ i) (h1 : i < n) (hv : mI μ a i = z) (kk : G w d y Pq bc bs (pc + 1) L (vI z :: st) μ) : G w d y Pq bc bs pc L (vI i :: vP (some a) :: st) μ := g_zald hd ho h0 h1 (by rw [hv]; exact kk)
theorem g_laldv {a n : Nat} {i z : Int} (hd : decode (dB y) pc = .ok (.laload, 1)) (ho : IsA w μ a 15 n) (h0 : 0 ≤ i) (h1 : i < n) (hv : mL μ a i = z) (kk : G w d y Pq bc bs (pc + 1) L (vJ z :: st) μ) : G w d y Pq bc bs pc L (vI i :: vP (some a) :: st) μ := g_lald hd ho h0 h1 (by rw [hv]; exact kk)
end GP
/-- 1 where it holds, 0 where not -/
noncomputable def bI (P : Prop) : Int := @ite Int P (Classical.propDecidable P) 1 0
theorem bI_1 {P : Prop} (h : P) : bI P = 1 := if_pos h
theorem bI_0 {P : Prop} (h : ¬ P) : bI P = 0 := if_neg h
theorem bI_01 (P : Prop) : bI P = 0 ∨ bI P = 1 := by
  by_cases h : P
  · exact Or.inr (bI_1 h)
  · exact Or.inl (bI_0 h)
theorem bI_is1 {P : Prop} : bI P = 1 ↔ P := ⟨fun h => Classical.byContradiction fun q => by rw [bI_0 q] at h; omega, bI_1⟩
theorem bI_is0 {P : Prop} : bI P = 0 ↔ ¬ P := ⟨fun h q => by rw [bI_1 q] at h; omega, bI_0⟩
theorem bI_congr {P Q : Prop} (h : P ↔ Q) : bI P = bI Q := by rw [propext h]
/-- contracts of the library's own methods -/
theorem Met.ofWF {l : Launch} {y : MethodName} {ws ws' : List Cond} {rm : Room} {Pc : Array Value → State → Prop} {Qc : Array Value → State → Outcome → State → Prop} {mc ms : Nat} {free : Addr → Prop} {cc : ByteArray} {maxL : Nat} {ret : Option FieldType}
    (hy : plainFor y = true) (hw : ws = Cond.code y cc maxL ret :: ws')
    (body : ∀ p e s m args below meth c s₁, BodyLoose p l y (headSpec ws rm) cc maxL ret e s m args below meth c s₁ → c.maxLocals = maxL → Pc args s →
      W p l e (headSpec ws rm).room s m args below meth c s.heap [] 0 0 (MQ below Qc args s mc ms free) (entryFrame m args maxL)) : Met l y ws rm Pc Qc mc ms free := by
  refine MetFree.of_bodySF (code := cc) (maxLocals := maxL) (ret := ret) hy ?_ ?_
  · intro args s m h hn
    obtain ⟨meth, c, h1, h2, h3, h4, h5, h6, -, -⟩ := Cond.code_spec hn (atoms_spec (ws := ws) h _ (by rw [hw]; exact List.mem_cons_self))
    exact ⟨meth, c, h1, h2, h3, h4, h5, h6⟩
  · intro p e s m args below meth c s₁ B hml hP _
    have hh0 : s₁.heap = s.heap := by rw [B.state]; rfl
    obtain ⟨t, a1, o, b1, b2, b3⟩ := body p e s m args below meth c s₁ B hml hP s₁ hh0 (Stand.of_body B)
    exact ⟨t, o, a1, b1, b2, ⟨b3.1, b3.2⟩⟩
/-- a contract out of the walk from the method's first instruction -/
theorem Con.ofF {w : WC} {d : Nat} {y : MD} {bc bs : Nat} {as : List AV} {μ : Mem} {R : Option AV → Mem → Prop} {L : List (Option AV)} (hp : plainFor (dN y) = true) (hn : (enL as).length ≤ dL y) (hL : enL as ++ List.replicate (dL y - (enL as).length) none = L) (h : G w d y R bc bs 0 L [] μ) : Con w d y bc bs as μ R := by
  subst hL
  intro l
  refine Met.ofWF (cc := dB y) (maxL := dL y) (ret := dR y) hp rfl ?_
  intro p e s m args below meth c s₁ B hml hv
  obtain ⟨rfl, hRep, hK, hT⟩ := hv
  have hts : ∀ x ∈ lw_use, x.before (as.map cv).toArray s = true := hT.uses fun x hx => atoms_spec (ws := Cond.code (dN y) (dB y) (dL y) (dR y) :: lw_good) B.pre x (List.mem_cons_of_mem _ hx)
  have hin : dI y = true → meth.name = "<init>" := fun q => (name_of_methodNamed B.named B.method).1.trans (eq_of_beq q)
  have hl := lv_entry (as.map cv) (n := dL y) (by rw [lg_sl_len]; exact hn)
  rw [lg_entry_eq]
  generalize (lg_sl (as.map cv) ++ List.replicate (dL y - (lg_sl (as.map cv)).length) Slot.unset).toArray = ls at hl ⊢
  have hlh : lh ls (dL y) (enL as) := lh.of hl fun k v hk => by have := lv_args_mem as 0 k v hk; rwa [Nat.zero_add] at this
  refine h p l e _ s m _ below meth c _ ⟨B.exec, B.bytes, B.returns, hml, findClass_of_methodNamed B.named, hts, B.notSynchronized, hK, hin, by rw [hRep.1]; exact hRep.2.1, Nat.le_refl d, Nat.le_refl (64 * d), hT⟩ ?_ s.heap [] ls 0 0 hRep va_S.rf (lh_pad hlh) (by show 0 + bc ≤ bc; omega) (by show 0 + bs ≤ bs; omega)
  intro v μ2 H locs lsr cells slots pc st hret hR hS hP hc hs
  refine W.widen (k := bc) (n := bs) hc hs ?_
  have hQ : ∀ t : State, t.heap = H → s.WarmedH t.vm → (∃ (v' : Option AV) (μ2 : Mem), Outcome.returned (v.map cv) = .returned (v'.map cv) ∧ R v' μ2 ∧ Rep w μ2 t.heap) ∧ va_F (fun q => wB w ≤ q) s t := fun t ht _ => ⟨⟨v, μ2, rfl, hP, by rw [ht]; exact hR⟩, hS.F ht⟩
  rcases hret with ⟨z, h1, rfl, rfl, t, h2, h3⟩ | ⟨z, h1, rfl, rfl, h2⟩ | ⟨r, h1, rfl, rfl, t, h2, h3⟩ | ⟨h1, rfl, rfl, h2⟩
  · exact W.zret B.exec B.bytes (B.returns.trans h2) h3 hQ hS.2.2 h1 (hlocks := B.notSynchronized)
  · exact W.lret B.exec B.bytes (B.returns.trans h2) hQ hS.2.2 h1 (hlocks := B.notSynchronized)
  · exact W.aret (v := va_rf r) B.exec B.bytes (B.returns.trans h2) h3 (by cases r with
      | none => exact Or.inl rfl
      | some a => exact Or.inr ⟨a, rfl⟩) hQ hS.2.2 h1 (hlocks := B.notSynchronized)
  · exact W.vret B.exec B.bytes (B.returns.trans h2) hQ hS.2.2 h1 (hlocks := B.notSynchronized)
