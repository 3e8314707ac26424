/-! THE MEMORY: ints, longs, references by address and place, all of them whole numbers without a bound; the kind (and length) of each address; how many cells there are.
    Kinds 0 .. 12: the classes of vwCl; 13 byte rows, 14 int rows, 15 long rows, 16 boolean rows, 17 rows of Form, 18 rows of Tally. -/
def Mem : Type := (Nat → Int → Int) × (Nat → Int → Int) × (Nat → Int → Option Nat) × (Nat → Nat × Nat) × Nat
def mI (μ : Mem) : Nat → Int → Int := μ.1
def mL (μ : Mem) : Nat → Int → Int := μ.2.1
def mR (μ : Mem) : Nat → Int → Option Nat := μ.2.2.1
def mS (μ : Mem) : Nat → Nat × Nat := μ.2.2.2.1
def mZ (μ : Mem) : Nat := μ.2.2.2.2
def up2 {α : Type} (f : Nat → Int → α) (a : Nat) (k : Int) (v : α) : Nat → Int → α := fun x y => if x = a ∧ y = k then v else f x y
def sI (μ : Mem) (a : Nat) (k : Int) (v : Int) : Mem := (up2 μ.1 a k v, μ.2)
def sL (μ : Mem) (a : Nat) (k : Int) (v : Int) : Mem := (μ.1, up2 μ.2.1 a k v, μ.2.2)
def sR (μ : Mem) (a : Nat) (k : Int) (v : Option Nat) : Mem := (μ.1, μ.2.1, up2 μ.2.2.1 a k v, μ.2.2.2)
/-- a new cell of kind t, of n places where it is a row, all of it 0 and null -/
def sN (μ : Mem) (t n : Nat) : Mem := (fun x y => if x = mZ μ then 0 else μ.1 x y, fun x y => if x = mZ μ then 0 else μ.2.1 x y, fun x y => if x = mZ μ then none else μ.2.2.1 x y, fun x => if x = mZ μ then (t, n) else mS μ x, mZ μ + 1)
/-- values: an int, a long (whole numbers: the machine has them cut), a reference -/
def AV : Type := Int ⊕ Int ⊕ Option Nat
abbrev vI (z : Int) : AV := Sum.inl z
abbrev vJ (z : Int) : AV := Sum.inr (Sum.inl z)
abbrev vP (r : Option Nat) : AV := Sum.inr (Sum.inr r)
def iv (z : Int) : Int32 := Int32.ofInt z
def lg (z : Int) : Int64 := Int64.ofInt z
def cv (v : AV) : Value := match v with
  | .inl z => .int (iv z)
  | .inr (.inl z) => .long (lg z)
  | .inr (.inr r) => va_rf r
/-- the world's constants: the classes' numbers and slots; the rows' classes; the first address that is ours; addresses of the texts, of their bytes; the script -/
def WC : Type := va_G × (Nat → ClassId) × Nat × (Nat → Nat) × (Nat → Nat) × (Nat × Nat × (Nat → Int32))
def wD (w : WC) : va_G := w.1
def wA (w : WC) : Nat → ClassId := w.2.1
def wB (w : WC) : Nat := w.2.2.1
def clTy (c : Nat) : Nat → FieldType := match c with
  | 0 => tyX0
  | 1 => tyX1
  | 2 => tyX2
  | 3 => tyX3
  | 4 => tyX4
  | 5 => tyX5
  | 6 => tyX6
  | 7 => tyX7
  | 8 => tyX8
  | 9 => tyX9
  | 10 => tyX10
  | 11 => tyX11
  | _ => tyX12
def arTy (t : Nat) : FieldType := match t with
  | 13 => .byte
  | 14 => .int
  | 15 => .long
  | 16 => .boolean
  | 17 => .object RX1
  | _ => .object RX9
/-- 0: an int, 1: a long, 2: a reference -/
def tyK (t : FieldType) : Nat := match t with
  | .long => 1
  | .object _ => 2
  | .array _ => 2
  | _ => 0
def fa (μ : Mem) (a : Nat) (t : FieldType) (k : Int) : AV := if tyK t = 1 then vJ (mL μ a k) else if tyK t = 2 then vP (mR μ a k) else vI (mI μ a k)
def fv (μ : Mem) (a : Nat) (t : FieldType) (k : Nat) : Value := cv (fa μ a t (k : Int))
def cOk (w : WC) (μ : Mem) (a : Nat) (H : Heap) : Prop :=
  ((mS μ a).1 < 13 ∧ ∃ r : vw_C, vwCl[(mS μ a).1]? = some r ∧ t_OB a ((wD w).1 (mS μ a).1) r.2.2 ((wD w).2 (mS μ a).1) H (fun k => fv μ a (clTy (mS μ a).1 k) k)) ∨
  (13 ≤ (mS μ a).1 ∧ (mS μ a).1 ≤ 18 ∧ H[a]? = some (arrV (wA w (mS μ a).1) (mS μ a).2 (fun j => fv μ a (arTy (mS μ a).1) j)))
def Rep (w : WC) (μ : Mem) (H : Heap) : Prop := H.size = mZ μ ∧ wB w ≤ mZ μ ∧ ∀ a, wB w ≤ a → a < mZ μ → cOk w μ a H
def tysW (w : WC) : List (ClassId × FieldType) := [(wA w 13, arTy 13), (wA w 14, arTy 14), (wA w 15, arTy 15), (wA w 16, arTy 16), (wA w 17, arTy 17), (wA w 18, arTy 18)]
theorem tysW_at (w : WC) {t : Nat} (h1 : 13 ≤ t) (h2 : t ≤ 18) : (tysW w)[t - 13]? = some (wA w t, arTy t) := by
  rcases (by omega : t = 13 ∨ t = 14 ∨ t = 15 ∨ t = 16 ∨ t = 17 ∨ t = 18) with rfl | rfl | rfl | rfl | rfl | rfl <;> rfl
/-- an object of class c, a row of kind t of n places -/
def IsO (w : WC) (μ : Mem) (a c : Nat) : Prop := wB w ≤ a ∧ a < mZ μ ∧ (mS μ a).1 = c
def IsA (w : WC) (μ : Mem) (a t n : Nat) : Prop := wB w ≤ a ∧ a < mZ μ ∧ mS μ a = (t, n) ∧ n ≤ 2147483647
/-- the words that methods use: those that stay as they are, and those of nest mates -/
def nestW (x : Cond) : Bool := match x with
  | .fieldLinkNest .. => true
  | .methodLinkNest .. => true
  | .arrayOver (.object _) => true
  | _ => false
def lw_good : List Cond := lw_tbl.filter goodWord
def lw_use : List Cond := lw_tbl.filter (fun x => goodWord x || nestW x)
theorem use_of {x : Cond} (h : x ∈ lw_tbl) (hg : (goodWord x || nestW x) = true) : x ∈ lw_use := List.mem_filter.mpr ⟨h, hg⟩
theorem use_t {x : Cond} {i : Nat} (h : tables_1[i]? = some x) (hg : (goodWord x || nestW x) = true) : x ∈ lw_use := use_of (List.mem_append_right _ (List.mem_of_getElem? h)) hg
theorem use_p {x : Cond} {i : Nat} (h : (k2_sels lw_privs)[i]? = some x) (hg : (goodWord x || nestW x) = true) : x ∈ lw_use := use_of (List.mem_append_left _ (List.mem_of_getElem? h)) hg
theorem nest_move {x : Cond} {s U : State} (hn : nestW x = true) (hW : s.WarmedH U.vm) (h : va_Nw x s) : va_Nw x U := by
  unfold nestW at hn
  split at hn
  · exact va_Nw.warmF hW h
  · exact va_Nw.warmM hW h
  · exact va_AO.moved hW.alike h
  · cases hn
theorem nest_use {x : Cond} {U : State} {A : Array Value} (hn : nestW x = true) (h : va_Nw x U) : x.before A U = true := by
  unfold nestW at hn
  split at hn
  · exact va_Nw.use rfl h
  · exact va_Nw.use rfl h
  · exact va_AO.use h
  · cases hn
theorem nest_same {x : Cond} {u U : State} (hn : nestW x = true) (hv : u.vm = U.vm) (h : va_Nw x u) : va_Nw x U := by
  unfold nestW at hn
  split at hn
  · exact va_Nw.same rfl hv h
  · exact va_Nw.same rfl hv h
  · exact va_AO.moved (by rw [hv]; exact Vm.Alike.refl _) h
  · cases hn
/-- what is known of a class -/
def ClOk (ci : Nat) (C : String) (T : u_T) (N : Nat) : Prop :=
  ci < 13 ∧ vwCl[ci]? = some (C, T, N) ∧ (∀ w ∈ u_ws C T N, w ∈ lw_use) ∧ (∀ k, k < N → parseFieldDescriptor (T k).2.2.1 = some (clTy ci k)) ∧ (∀ a, a < N → ∀ b, b < N → a ≠ b → (T a).2.1 ≠ (T b).2.1) ∧ ∀ k, k < N → (T k).1 = C
/-- a field of class ci at place k, as class own spells it by its number idx -/
def FL (own : String) (idx ci k : Nat) : Prop := ∃ (C : String) (T : u_T) (N : Nat), ClOk ci C T N ∧ k < N ∧ (Cond.fieldLink own idx C (T k).2.1 (T k).2.2.1 ∈ lw_use ∨ ∃ host, Cond.fieldLinkNest own idx C (T k).2.1 (T k).2.2.1 host ∈ lw_use)
/-- .. that may be written: it isn't final; or it is, the class is its own, and it is being made -/
def FP (own : String) (ini : Bool) (idx ci k : Nat) : Prop := ∃ (C : String) (T : u_T) (N : Nat), ClOk ci C T N ∧ k < N ∧ (((Cond.fieldLink own idx C (T k).2.1 (T k).2.2.1 ∈ lw_use ∨ ∃ host, Cond.fieldLinkNest own idx C (T k).2.1 (T k).2.2.1 host ∈ lw_use) ∧ (T k).2.2.2 = false) ∨ (Cond.fieldLink own idx C (T k).2.1 (T k).2.2.1 ∈ lw_use ∧ (T k).2.2.2 = true ∧ ini = true ∧ own = C))
/-- a method: its name, its bytes, its locals, what it answers -/
def MD : Type := MethodName × ByteArray × Nat × Option FieldType
def dN (y : MD) : MethodName := y.1
def dO (y : MD) : String := y.1.cls
def dB (y : MD) : ByteArray := y.2.1
def dL (y : MD) : Nat := y.2.2.1
def dR (y : MD) : Option FieldType := y.2.2.2
def dI (y : MD) : Bool := y.1.name == "<init>"
/-- the locals -/
def lh (ls : Array Slot) (nL : Nat) (L : List (Option AV)) : Prop := ls.size = nL ∧ lv_wf ls ∧ ∀ (k : Nat) (v : AV), L[k]? = some (some v) → ls[k]? = some (.val (cv v))
def lsl : Nat → List (Option AV) → List (Nat × Value)
  | _, [] => []
  | i, none :: t => lsl (i + 1) t
  | i, some v :: t => (i, cv v) :: lsl (i + 1) t
theorem lsl_mem : ∀ (L : List (Option AV)) (i k : Nat) (u : Value), (k, u) ∈ lsl i L ↔ i ≤ k ∧ ∃ v, L[k - i]? = some (some v) ∧ cv v = u
  | [], i, k, v => by simp [lsl]
  | none :: t, i, k, v => by
    have ih := lsl_mem t (i + 1) k v
    rw [show lsl i (none :: t) = lsl (i + 1) t from rfl, ih]
    constructor
    · rintro ⟨h1, h2⟩
      refine ⟨by omega, ?_⟩
      rw [show k - i = (k - (i + 1)) + 1 by omega, List.getElem?_cons_succ]
      exact h2
    · rintro ⟨h1, h2⟩
      rcases Nat.eq_or_lt_of_le h1 with h | h
      · subst h
        rw [Nat.sub_self, List.getElem?_cons_zero] at h2
        obtain ⟨v, h3, -⟩ := h2
        cases h3
      · refine ⟨h, ?_⟩
        rw [show k - i = (k - (i + 1)) + 1 by omega, List.getElem?_cons_succ] at h2
        exact h2
  | some u :: t, i, k, v => by
    have ih := lsl_mem t (i + 1) k v
    rw [show lsl i (some u :: t) = (i, cv u) :: lsl (i + 1) t from rfl, List.mem_cons, ih]
    constructor
    · rintro (h | ⟨h1, h2⟩)
      · cases h
        exact ⟨Nat.le_refl _, u, by rw [Nat.sub_self]; rfl, rfl⟩
      · refine ⟨by omega, ?_⟩
        rw [show k - i = (k - (i + 1)) + 1 by omega, List.getElem?_cons_succ]
        exact h2
    · rintro ⟨h1, h2⟩
      rcases Nat.eq_or_lt_of_le h1 with h | h
      · subst h
        rw [Nat.sub_self, List.getElem?_cons_zero] at h2
        obtain ⟨v', h3, h4⟩ := h2
        cases h3
        subst h4
        exact Or.inl rfl
      · refine Or.inr ⟨h, ?_⟩
        rw [show k - i = (k - (i + 1)) + 1 by omega, List.getElem?_cons_succ] at h2
        exact h2
theorem lh.has {ls : Array Slot} {nL : Nat} {L : List (Option AV)} (h : lh ls nL L) : lv_has ls nL (lsl 0 L) :=
  ⟨h.1, h.2.1, fun q hq => by
    obtain ⟨k, u⟩ := q
    obtain ⟨-, v, h1, h2⟩ := (lsl_mem L 0 k u).mp hq
    rw [Nat.sub_zero] at h1
    rw [← h2]
    exact h.2.2 k v h1⟩
theorem lh.of {ls : Array Slot} {nL : Nat} {L : List (Option AV)} {l : List (Nat × Value)} (h : lv_has ls nL l) (hm : ∀ (k : Nat) (v : AV), L[k]? = some (some v) → (k, cv v) ∈ l) : lh ls nL L :=
  ⟨h.1, h.2.1, fun k v hk => h.2.2 (k, cv v) (hm k v hk)⟩
def isJ (v : AV) : Bool := match v with
  | .inr (.inl _) => true
  | _ => false
theorem cv_cat (v : AV) : (cv v).category = if isJ v then 2 else 1 := by
  rcases v with z | z | r
  · rfl
  · rfl
  · cases r <;> rfl
/-- no long begins just ahead of place i -/
def oP (L : List (Option AV)) (i : Nat) : Bool := match i with
  | 0 => true
  | j + 1 => match L[j]? with
    | some (some v) => !isJ v
    | _ => true
theorem oP_use {L : List (Option AV)} {i k : Nat} {v : AV} (h : oP L i = true) (hk : k + 1 = i) (hv : L[k]? = some (some v)) : ¬ (cv v).category = 2 := by
  subst hk
  simp only [oP, hv] at h
  rw [cv_cat]
  cases hj : isJ v
  · simp
  · rw [hj] at h
    cases h
theorem lh.set1 {ls' : Array Slot} {nL i : Nat} {L : List (Option AV)} {v : AV} (hp : oP L i = true)
    (h : lv_has ls' nL ((i, cv v) :: (lsl 0 L).filter (fun q => !(q.1 == i) && !(q.1 + 1 == i && q.2.category == 2)))) : lh ls' nL (L.set i (some v)) := by
  refine lh.of h fun k u hk => ?_
  rw [List.getElem?_set] at hk
  split at hk
  · next e =>
    split at hk
    · cases hk
      subst e
      exact List.mem_cons_self
    · cases hk
  · next e =>
    refine List.mem_cons_of_mem _ (List.mem_filter.mpr ⟨(lsl_mem L 0 k (cv u)).mpr ⟨Nat.zero_le _, u, by rwa [Nat.sub_zero], rfl⟩, ?_⟩)
    have e' : ¬ k = i := fun q => e q.symm
    by_cases h1 : k + 1 = i
    · have := oP_use hp h1 hk
      simp [e', this]
    · simp [e', h1]
theorem lh.set2 {ls' : Array Slot} {nL i : Nat} {L : List (Option AV)} {v : AV} (hp : oP L i = true)
    (h : lv_has ls' nL ((i, cv v) :: (lsl 0 L).filter (fun q => !(q.1 == i) && (!(q.1 == i + 1) && !(q.1 + 1 == i && q.2.category == 2))))) : lh ls' nL ((L.set i (some v)).set (i + 1) none) := by
  refine lh.of h fun k u hk => ?_
  rw [List.getElem?_set] at hk
  split at hk
  · split at hk <;> cases hk
  · next e0 =>
    rw [List.getElem?_set] at hk
    split at hk
    · next e =>
      split at hk
      · cases hk
        subst e
        exact List.mem_cons_self
      · cases hk
    · next e =>
      refine List.mem_cons_of_mem _ (List.mem_filter.mpr ⟨(lsl_mem L 0 k (cv u)).mpr ⟨Nat.zero_le _, u, by rwa [Nat.sub_zero], rfl⟩, ?_⟩)
      have e' : ¬ k = i := fun q => e q.symm
      have e0' : ¬ k = i + 1 := fun q => e0 q.symm
      by_cases h1 : k + 1 = i
      · have := oP_use hp h1 hk
        simp [e', e0', this]
      · simp [e', e0', h1]
def wK (w : WC) : Nat → Nat := w.2.2.2.1
def wV (w : WC) : Nat → Nat := w.2.2.2.2.1
/-- the law's script: where it lies, how long it is, what it holds -/
def wX (w : WC) : Nat × Nat × (Nat → Int32) := w.2.2.2.2.2
/-- the texts of the program, a place each: their bytes; where they are named -/
def txB : List (List Int32) := [[108, 105, 110, 101], [115, 113, 117, 97, 114, 101], [99, 117, 98, 101], [102, 111, 117, 114, 116, 104], [116, 104, 114, 101, 101], [102, 114, 111, 109], [116, 111], [110, 111, 116], [32, 102, 114, 111, 109, 32], [32, 116, 111, 32], [32, 110, 111, 116]]
def txL : List Nat := [4, 6, 4, 6, 5, 4, 2, 3, 6, 4, 4]
def txR : List (String × Nat × String × Nat) := [("ToldPowers", 357, "line", 0), ("ToldPowers", 359, "square", 1), ("ToldPowers", 361, "cube", 2), ("ToldPowers", 363, "fourth", 3), ("ToldPowers", 365, "three", 4), ("ToldPowers$FormReader", 66, "from", 5), ("ToldPowers$FormReader", 91, "to", 6), ("ToldPowers$ProofReader", 71, "not", 7), ("ToldPowers", 351, " from ", 8), ("ToldPowers", 353, " to ", 9), ("ToldPowers", 355, " not", 10), ("ToldPowersModel", 196, "line", 0), ("ToldPowersModel", 202, "square", 1), ("ToldPowersModel", 204, "cube", 2), ("ToldPowersModel", 206, "fourth", 3), ("ToldPowersModel", 208, "three", 4), ("ToldPowersModel", 227, "from", 5), ("ToldPowersModel", 242, "to", 6), ("ToldPowersModel", 330, "not", 7), ("ToldPowersModel", 458, " from ", 8), ("ToldPowersModel", 460, " to ", 9), ("ToldPowersModel", 462, " not", 10)]
/-- the texts, the script, two statics of the JDK's, and the words of nest mates -/
def TxOk (w : WC) (U : State) : Prop := (∀ x ∈ lw_tbl, nestW x = true → va_Nw x U) ∧ vk_S 11 txL txB (wK w) (wV w) (fun q => wB w ≤ q) U U.heap ∧ (∀ r ∈ txR, vk_R r.1 r.2.1 r.2.2.1 (wK w r.2.2.2) U) ∧ va_Z "java/lang/String" "COMPACT_STRINGS" "Z" (.int 1) (fun q => wB w ≤ q) U U.heap ∧ va_Zq "jdk/internal/util/Preconditions" "SIOOBE_FORMATTER" "Ljava/util/function/BiFunction;" (fun q => wB w ≤ q) U U.heap ∧ va_T .int (wX w).1 (wX w).2.1 (fun j => .int ((wX w).2.2 j)) (fun q => wB w ≤ q) U U.heap
theorem TxOk.move {w : WC} {s U : State} (h : TxOk w s) (hW : s.WarmedH U.vm) (hq : ∀ a : Nat, a < s.heap.size → ¬ wB w ≤ a → U.heap[a]? = s.heap[a]?) : TxOk w U := by
  obtain ⟨h1, h2, h3, h4, h5, h6⟩ := h
  exact ⟨fun x hx hn => nest_move hn hW (h1 x hx hn), (h2.moved hW.alike).kept hq, fun r hr => (h3 r hr).warm hW, (h4.moved hW.alike).kept hq, (h5.moved hW.alike).kept hq, (h6.moved hW.alike).kept hq⟩
theorem TxOk.call {w : WC} {U : State} {g : JFrame} {mk : MethodId} {a : Array Value} (h : TxOk w U) : TxOk w (U.calling g mk a) := by
  obtain ⟨h1, h2, h3, h4, h5, h6⟩ := h
  have hv : U.vm.Alike (U.calling g mk a).vm := Vm.Alike.refl U.vm
  exact ⟨fun x hx hn => nest_same (u := U) hn rfl (h1 x hx hn), h2.moved hv, fun r hr => (h3 r hr).same rfl, h4.moved hv, h5.moved hv, h6.moved hv⟩
theorem TxOk.uses {w : WC} {U : State} {A : Array Value} (h : TxOk w U) (hg : ∀ x ∈ lw_good, x.before A U = true) : ∀ x ∈ lw_use, x.before A U = true := fun x hx => by
  obtain ⟨h1, h2⟩ := List.mem_filter.mp hx
  rcases Bool.or_eq_true _ _ ▸ h2 with h3 | h3
  · exact hg x (List.mem_filter.mpr ⟨h1, h3⟩)
  · exact nest_use h3 (h.1 x h1 h3)
/-- what holds all along a method -/
def Live (w : WC) (d : Nat) (y : MD) (p : Program) (R : Room) (s : State) (m : MethodId) (args : Array Value) (meth : Method) (c : Code) : Prop :=
  p.tables.exec = Jvm.exec ∧ c.code = dB y ∧ meth.sig.returnType = dR y ∧ c.maxLocals = dL y ∧ s.vm.findClass (dO y) = some m.cls ∧ (∀ x ∈ lw_use, x.before args s = true) ∧ meth.locks = false ∧ va_K (wD w) vwCl (tysW w) s ∧ (dI y = true → meth.name = "<init>") ∧ wB w ≤ s.heap.size ∧ d ≤ R.frames ∧ 64 * d ≤ R.locals ∧ TxOk w s
/-- what a method's end is, by what it answers -/
def RetAt (y : MD) (pc : Nat) (v : Option AV) (st : List AV) : Prop :=
  (∃ z : Int, decode (dB y) pc = .ok (.ireturn, 1) ∧ v = some (vI z) ∧ st = [vI z] ∧ ∃ t, dR y = some t ∧ narrow t (.int (iv z)) = .int (iv z)) ∨ (∃ z : Int, decode (dB y) pc = .ok (.lreturn, 1) ∧ v = some (vJ z) ∧ st = [vJ z] ∧ dR y = some .long) ∨
  (∃ x : Option Nat, decode (dB y) pc = .ok (.areturn, 1) ∧ v = some (vP x) ∧ st = [vP x] ∧ ∃ t, dR y = some t ∧ ((∃ n, t = .object n) ∨ ∃ u, t = .array u)) ∨ (decode (dB y) pc = .ok (.return_, 1) ∧ v = none ∧ st = [] ∧ dR y = none)
def EndOk (w : WC) (y : MD) (Pq : Option AV → Mem → Prop) (p : Program) (l : Launch) (e : Env) (R : Room) (s : State) (m : MethodId) (args : Array Value) (below : List Frame) (meth : Method) (c : Code) (Q : State → Prop) : Prop :=
  ∀ (v : Option AV) (μ : Mem) (H : Heap) (locs : List Loc) (lsr : Array Slot) (cells slots pc : Nat) (st : List AV), RetAt y pc v st → Rep w μ H → va_S (fun q => wB w ≤ q) s.heap H locs → Pq v μ → cells ≤ R.cells → slots ≤ R.slots → W p l e R s m args below meth c H locs cells slots Q (F0 m pc lsr (st.map cv))
/-- FROM HERE the method comes to an end with Pq: depth d below, bc cells of bs slots may yet be made -/
def G (w : WC) (d : Nat) (y : MD) (Pq : Option AV → Mem → Prop) (bc bs pc : Nat) (L : List (Option AV)) (st : List AV) (μ : Mem) : Prop :=
  ∀ (p : Program) (l : Launch) (e : Env) (R : Room) (s : State) (m : MethodId) (args : Array Value) (below : List Frame) (meth : Method) (c : Code) (Q : State → Prop), Live w d y p R s m args meth c → EndOk w y Pq p l e R s m args below meth c Q →
    ∀ (H : Heap) (locs : List Loc) (lsr : Array Slot) (cells slots : Nat), Rep w μ H → va_S (fun q => wB w ≤ q) s.heap H locs → lh lsr (dL y) L → cells + bc ≤ R.cells → slots + bs ≤ R.slots → W p l e R s m args below meth c H locs cells slots Q (F0 m pc lsr (st.map cv))
section GR
variable {w : WC} {d : Nat} {y : MD} {Pq : Option AV → Mem → Prop} {bc bs pc pc2 : Nat} {L L2 : List (Option AV)} {st st2 : List AV} {μ : Mem}
/-- a step that leaves heap and locals -/
theorem G.go (h : ∀ (p : Program) (l : Launch) (e : Env) (R : Room) (s : State) (m : MethodId) (args : Array Value) (below : List Frame) (meth : Method) (c : Code) (Q : State → Prop), p.tables.exec = Jvm.exec → c.code = dB y → Live w d y p R s m args meth c → ∀ (H : Heap) (locs : List Loc) (lsr : Array Slot) (cells slots : Nat), Rep w μ H → va_S (fun q => wB w ≤ q) s.heap H locs → lh lsr (dL y) L →
      W p l e R s m args below meth c H locs cells slots Q (F0 m pc2 lsr (st2.map cv)) → W p l e R s m args below meth c H locs cells slots Q (F0 m pc lsr (st.map cv))) (k : G w d y Pq bc bs pc2 L st2 μ) : G w d y Pq bc bs pc L st μ :=
  fun p l e R s m args below meth c Q hL hE H locs lsr cells slots hR hS hl h1 h2 => h p l e R s m args below meth c Q hL.1 hL.2.1 hL H locs lsr cells slots hR hS hl (k p l e R s m args below meth c Q hL hE H locs lsr cells slots hR hS hl h1 h2)
/-- a step that changes locals alone -/
theorem G.goL (h : ∀ (p : Program) (l : Launch) (e : Env) (R : Room) (s : State) (m : MethodId) (args : Array Value) (below : List Frame) (meth : Method) (c : Code) (Q : State → Prop), p.tables.exec = Jvm.exec → c.code = dB y → Live w d y p R s m args meth c → ∀ (H : Heap) (locs : List Loc) (lsr : Array Slot) (cells slots : Nat), Rep w μ H → va_S (fun q => wB w ≤ q) s.heap H locs → lh lsr (dL y) L →
      (∀ lsr2, lh lsr2 (dL y) L2 → W p l e R s m args below meth c H locs cells slots Q (F0 m pc2 lsr2 (st2.map cv))) → W p l e R s m args below meth c H locs cells slots Q (F0 m pc lsr (st.map cv))) (k : G w d y Pq bc bs pc2 L2 st2 μ) : G w d y Pq bc bs pc L st μ :=
  fun p l e R s m args below meth c Q hL hE H locs lsr cells slots hR hS hl h1 h2 => h p l e R s m args below meth c Q hL.1 hL.2.1 hL H locs lsr cells slots hR hS hl fun lsr2 hl2 => k p l e R s m args below meth c Q hL hE H locs lsr2 cells slots hR hS hl2 h1 h2
/-- a step that branches -/
theorem G.br {pc3 : Nat} {A : Prop} (h : ∀ (p : Program) (l : Launch) (e : Env) (R : Room) (s : State) (m : MethodId) (args : Array Value) (below : List Frame) (meth : Method) (c : Code) (Q : State → Prop), p.tables.exec = Jvm.exec → c.code = dB y → ∀ (H : Heap) (locs : List Loc) (lsr : Array Slot) (cells slots : Nat),
      (A → W p l e R s m args below meth c H locs cells slots Q (F0 m pc2 lsr (st2.map cv))) → (¬ A → W p l e R s m args below meth c H locs cells slots Q (F0 m pc3 lsr (st2.map cv))) → W p l e R s m args below meth c H locs cells slots Q (F0 m pc lsr (st.map cv))) (k : A → G w d y Pq bc bs pc2 L st2 μ) (k2 : ¬ A → G w d y Pq bc bs pc3 L st2 μ) : G w d y Pq bc bs pc L st μ :=
  fun p l e R s m args below meth c Q hL hE H locs lsr cells slots hR hS hl h1 h2 => h p l e R s m args below meth c Q hL.1 hL.2.1 H locs lsr cells slots (fun a => k a p l e R s m args below meth c Q hL hE H locs lsr cells slots hR hS hl h1 h2) (fun a => k2 a p l e R s m args below meth c Q hL hE H locs lsr cells slots hR hS hl h1 h2)
theorem G.ret {v : Option AV} (h : RetAt y pc v st) (k : Pq v μ) : G w d y Pq bc bs pc L st μ :=
  fun p l e R s m args below meth c Q hL hE H locs lsr cells slots hR hS hl h1 h2 => hE v μ H locs lsr cells slots pc st h hR hS k (by omega) (by omega)
theorem G.less {bc2 bs2 : Nat} (h1 : bc2 ≤ bc) (h2 : bs2 ≤ bs) (k : G w d y Pq bc2 bs2 pc L st μ) : G w d y Pq bc bs pc L st μ :=
  fun p l e R s m args below meth c Q hL hE H locs lsr cells slots hR hS hl g1 g2 => k p l e R s m args below meth c Q hL hE H locs lsr cells slots hR hS hl (by omega) (by omega)
theorem G.post {Pq2 : Option AV → Mem → Prop} (h : ∀ v μ, Pq2 v μ → Pq v μ) (k : G w d y Pq2 bc bs pc L st μ) : G w d y Pq bc bs pc L st μ :=
  fun p l e R s m args below meth c Q hL hE => k p l e R s m args below meth c Q hL fun v μ H locs lsr cells slots pc st a1 a2 a3 a4 => hE v μ H locs lsr cells slots pc st a1 a2 a3 (h v μ a4)
end GR
