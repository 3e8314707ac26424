/-! ROWS OF THE MEMORY MACHINE: an instruction a row -/
theorem iv_add (a b : Int) : iv (a + b) = iv a + iv b := Int32.ofInt_add a b
theorem iv_sub (a b : Int) : iv (a - b) = iv a - iv b := Int32.ofInt_sub a b
theorem iv_mul (a b : Int) : iv (a * b) = iv a * iv b := Int32.ofInt_mul a b
theorem iv_neg (a : Int) : iv (-a) = -iv a := Int32.ofInt_neg a
theorem lg_add (a b : Int) : lg (a + b) = lg a + lg b := Int64.ofInt_add a b
theorem lg_sub (a b : Int) : lg (a - b) = lg a - lg b := Int64.ofInt_sub a b
theorem lg_mul (a b : Int) : lg (a * b) = lg a * lg b := Int64.ofInt_mul a b
theorem lg_neg (a : Int) : lg (-a) = -lg a := Int64.ofInt_neg a
abbrev i32 (z : Int) : Prop := -2147483648 ≤ z ∧ z ≤ 2147483647
abbrev i64 (z : Int) : Prop := -9223372036854775808 ≤ z ∧ z ≤ 9223372036854775807
theorem iv_toInt {z : Int} (h : i32 z) : (iv z).toInt = z := Int32.toInt_ofInt_of_le (by omega) (by omega)
theorem lg_toInt {z : Int} (h : i64 z) : (lg z).toInt = z := Int64.toInt_ofInt_of_le (by omega) (by omega)
theorem iv_of (x : Int32) : iv x.toInt = x := Int32.ofInt_toInt x
theorem lg_of (x : Int64) : lg x.toInt = x := Int64.ofInt_toInt x
theorem i32_of (x : Int32) : i32 x.toInt := ⟨by have := x.le_toInt; omega, by have := x.toInt_lt; omega⟩
theorem i64_of (x : Int64) : i64 x.toInt := ⟨by have := x.le_toInt; omega, by have := x.toInt_lt; omega⟩
theorem iv_eq {a b : Int} (ha : i32 a) (hb : i32 b) : iv a = iv b ↔ a = b := by
  rw [← Int32.toInt_inj, iv_toInt ha, iv_toInt hb]
theorem iv_lt {a b : Int} (ha : i32 a) (hb : i32 b) : iv a < iv b ↔ a < b := by
  rw [Int32.lt_iff_toInt_lt, iv_toInt ha, iv_toInt hb]
theorem iv_le {a b : Int} (ha : i32 a) (hb : i32 b) : iv a ≤ iv b ↔ a ≤ b := by
  rw [Int32.le_iff_toInt_le, iv_toInt ha, iv_toInt hb]
theorem lg_eq {a b : Int} (ha : i64 a) (hb : i64 b) : lg a = lg b ↔ a = b := by
  rw [← Int64.toInt_inj, lg_toInt ha, lg_toInt hb]
theorem lg_lt {a b : Int} (ha : i64 a) (hb : i64 b) : lg a < lg b ↔ a < b := by
  rw [Int64.lt_iff_toInt_lt, lg_toInt ha, lg_toInt hb]
theorem lg_le {a b : Int} (ha : i64 a) (hb : i64 b) : lg a ≤ lg b ↔ a ≤ b := by
  rw [Int64.le_iff_toInt_le, lg_toInt ha, lg_toInt hb]
theorem iv_0 : iv 0 = 0 := rfl
theorem i32_0 : i32 0 := by omega
theorem iv_clamp {z : Int} (h : i32 z) : (iv z).toNatClampNeg = z.toNat := by
  show (iv z).toInt.toNat = _
  rw [iv_toInt h]
theorem iv_in {z : Int} {n : Nat} (h0 : 0 ≤ z) (h1 : z < n) (hn : n ≤ 2147483647) : vp_in (iv z) n := by
  rw [vp_in_iff, iv_toInt ⟨by omega, by omega⟩]
  exact ⟨h0, h1⟩
theorem i64_32 {z : Int} (h : i32 z) : i64 z := ⟨by omega, by omega⟩
theorem iv_l {z : Int} (h : i32 z) : (iv z).toInt64 = lg z := by
  rw [← Int64.toInt_inj, Int32.toInt_toInt64, iv_toInt h, lg_toInt (i64_32 h)]
theorem lg_i (z : Int) : (lg z).toInt32 = iv z := Int64.toInt32_ofInt
section GX
variable {w : WC} {d : Nat} {y : MD} {Pq : Option AV → Mem → Prop} {bc bs pc : Nat} {L L2 : List (Option AV)} {st : List AV} {μ : Mem}
theorem g_iconst {n : Int} (hd : decode (dB y) pc = .ok (.iconst n, 1)) (kk : G w d y Pq bc bs (pc + 1) L (vI n :: st) μ) : G w d y Pq bc bs pc L (st) μ :=
  G.go (fun _ _ _ _ _ _ _ _ _ _ _ hx hb1 hL H locs lsr cells slots hR hS hlh k => lv_iconst hx hb1 hd rfl k) kk
theorem g_bipush {n : Int} (hd : decode (dB y) pc = .ok (.bipush n, 2)) (hn : -128 ≤ n ∧ n ≤ 127) (kk : G w d y Pq bc bs (pc + 2) L (vI n :: st) μ) : G w d y Pq bc bs pc L st μ :=
  G.go (fun _ _ _ _ _ _ _ _ _ _ _ hx hb hL H locs lsr cells slots hR hS hlh k => lv_bipush hx hb hd (by rw [← Int32.toInt_inj, Int8.toInt_toInt32, Int8.toInt_ofInt_of_le (by omega) (by omega)]; exact (iv_toInt ⟨by omega, by omega⟩).symm) k) kk
theorem g_sipush {n : Int} (hd : decode (dB y) pc = .ok (.sipush n, 3)) (hn : -32768 ≤ n ∧ n ≤ 32767) (kk : G w d y Pq bc bs (pc + 3) L (vI n :: st) μ) : G w d y Pq bc bs pc L st μ :=
  G.go (fun _ _ _ _ _ _ _ _ _ _ _ hx hb hL H locs lsr cells slots hR hS hlh k => lv_sipush hx hb hd (by rw [← Int32.toInt_inj, Int16.toInt_toInt32, Int16.toInt_ofInt_of_le (by omega) (by omega)]; exact (iv_toInt ⟨by omega, by omega⟩).symm) k) kk
theorem g_lconst0 (hd : decode (dB y) pc = .ok (.lconst 0, 1)) (kk : G w d y Pq bc bs (pc + 1) L (vJ 0 :: st) μ) : G w d y Pq bc bs pc L st μ :=
  G.go (fun _ _ _ _ _ _ _ _ _ _ _ hx hb hL H locs lsr cells slots hR hS hlh k => lv_lconst hx hb hd rfl k) kk
theorem g_lconst1 (hd : decode (dB y) pc = .ok (.lconst 1, 1)) (kk : G w d y Pq bc bs (pc + 1) L (vJ 1 :: st) μ) : G w d y Pq bc bs pc L st μ :=
  G.go (fun _ _ _ _ _ _ _ _ _ _ _ hx hb hL H locs lsr cells slots hR hS hlh k => lv_lconst hx hb hd rfl k) kk
theorem g_ldc {i : Nat} {v : Int32} {z : Int} (hd : decode (dB y) pc = .ok (.ldc i, 2)) (hc : Cond.constant (dO y) i v ∈ lw_use) (hv : v = iv z) (kk : G w d y Pq bc bs (pc + 2) L (vI z :: st) μ) : G w d y Pq bc bs pc L st μ :=
  G.go (fun _ _ _ _ _ _ _ _ _ _ _ hx hb hL H locs lsr cells slots hR hS hlh k => lv_ldc hx hb hL.2.2.2.2.1 (hL.2.2.2.2.2.1 _ hc) hd (by subst hv; exact k)) kk
theorem g_ldcw {i : Nat} {v : Int32} {z : Int} (hd : decode (dB y) pc = .ok (.ldc_w i, 3)) (hc : Cond.constant (dO y) i v ∈ lw_use) (hv : v = iv z) (kk : G w d y Pq bc bs (pc + 3) L (vI z :: st) μ) : G w d y Pq bc bs pc L st μ :=
  G.go (fun _ _ _ _ _ _ _ _ _ _ _ hx hb hL H locs lsr cells slots hR hS hlh k => lv_ldcw hx hb hL.2.2.2.2.1 (hL.2.2.2.2.2.1 _ hc) hd (by subst hv; exact k)) kk
theorem g_ldc2 {i : Nat} {v : Int64} {z : Int} (hd : decode (dB y) pc = .ok (.ldc2_w i, 3)) (hc : Cond.constantLong (dO y) i v ∈ lw_use) (hv : v = lg z) (kk : G w d y Pq bc bs (pc + 3) L (vJ z :: st) μ) : G w d y Pq bc bs pc L st μ :=
  G.go (fun _ _ _ _ _ _ _ _ _ _ _ hx hb hL H locs lsr cells slots hR hS hlh k => lv_ldc2 hx hb hL.2.2.2.2.1 (hL.2.2.2.2.2.1 _ hc) hd (by subst hv; exact k)) kk
theorem g_null  (hd : decode (dB y) pc = .ok (.aconst_null, 1)) (kk : G w d y Pq bc bs (pc + 1) L (vP none :: st) μ) : G w d y Pq bc bs pc L (st) μ :=
  G.go (fun _ _ _ _ _ _ _ _ _ _ _ hx hb1 hL H locs lsr cells slots hR hS hlh k => lv_null hx hb1 hd k) kk
theorem g_iload_n {j : Fin 4} {z : Int} (hl : L[(j : Nat)]? = some (some (vI z))) (hd : decode (dB y) pc = .ok (.iload_n j, 1)) (kk : G w d y Pq bc bs (pc + 1) L (vI z :: st) μ) : G w d y Pq bc bs pc L (st) μ :=
  G.go (fun _ _ _ _ _ _ _ _ _ _ _ hx hb1 hL H locs lsr cells slots hR hS hlh k => lv_iload_n hx hb1 hd rfl (hlh.2.2 _ _ hl) k) kk
theorem g_iload {i : Nat} {z : Int} (hl : L[i]? = some (some (vI z))) (hd : decode (dB y) pc = .ok (.iload i, 2)) (kk : G w d y Pq bc bs (pc + 2) L (vI z :: st) μ) : G w d y Pq bc bs pc L (st) μ :=
  G.go (fun _ _ _ _ _ _ _ _ _ _ _ hx hb1 hL H locs lsr cells slots hR hS hlh k => lv_iload hx hb1 hd (hlh.2.2 _ _ hl) k) kk
theorem g_lload_n {j : Fin 4} {z : Int} (hl : L[(j : Nat)]? = some (some (vJ z))) (hd : decode (dB y) pc = .ok (.lload_n j, 1)) (kk : G w d y Pq bc bs (pc + 1) L (vJ z :: st) μ) : G w d y Pq bc bs pc L (st) μ :=
  G.go (fun _ _ _ _ _ _ _ _ _ _ _ hx hb1 hL H locs lsr cells slots hR hS hlh k => lv_lload_n hx hb1 hd rfl (hlh.2.2 _ _ hl) k) kk
theorem g_lload {i : Nat} {z : Int} (hl : L[i]? = some (some (vJ z))) (hd : decode (dB y) pc = .ok (.lload i, 2)) (kk : G w d y Pq bc bs (pc + 2) L (vJ z :: st) μ) : G w d y Pq bc bs pc L (st) μ :=
  G.go (fun _ _ _ _ _ _ _ _ _ _ _ hx hb1 hL H locs lsr cells slots hR hS hlh k => lv_lload hx hb1 hd (hlh.2.2 _ _ hl) k) kk
theorem g_aload_n {j : Fin 4} {r : Option Nat} (hl : L[(j : Nat)]? = some (some (vP r))) (hd : decode (dB y) pc = .ok (.aload_n j, 1)) (kk : G w d y Pq bc bs (pc + 1) L (vP r :: st) μ) : G w d y Pq bc bs pc L st μ := by
  cases r with
  | none => exact G.go (fun _ _ _ _ _ _ _ _ _ _ _ hx hb hL H locs lsr cells slots hR hS hlh k => lv_aload_nN hx hb hd rfl (hlh.2.2 _ _ hl) k) kk
  | some x => exact G.go (fun _ _ _ _ _ _ _ _ _ _ _ hx hb hL H locs lsr cells slots hR hS hlh k => lv_aload_n hx hb hd rfl (hlh.2.2 _ _ hl) k) kk
theorem g_aload {i : Nat} {r : Option Nat} (hl : L[i]? = some (some (vP r))) (hd : decode (dB y) pc = .ok (.aload i, 2)) (kk : G w d y Pq bc bs (pc + 2) L (vP r :: st) μ) : G w d y Pq bc bs pc L st μ := by
  cases r with
  | none => exact G.go (fun _ _ _ _ _ _ _ _ _ _ _ hx hb hL H locs lsr cells slots hR hS hlh k => lv_aloadN hx hb hd (hlh.2.2 _ _ hl) k) kk
  | some x => exact G.go (fun _ _ _ _ _ _ _ _ _ _ _ hx hb hL H locs lsr cells slots hR hS hlh k => lv_aload hx hb hd (hlh.2.2 _ _ hl) k) kk
theorem g_istore_n {j : Fin 4} {z : Int} (hd : decode (dB y) pc = .ok (.istore_n j, 1)) (hn : (j : Nat) < dL y) (hp : oP L (j : Nat) = true) (hs : L.set (j : Nat) (some (vI z)) = L2) (kk : G w d y Pq bc bs (pc + 1) L2 st μ) : G w d y Pq bc bs pc L (vI z :: st) μ := by
  subst hs
  exact G.goL (fun _ _ _ _ _ _ _ _ _ _ _ hx hb hL H locs lsr cells slots hR hS hlh k => lv_istore_n hx hb hd rfl hlh.has hn rfl fun ls2 h2 => k ls2 (lh.set1 (v := vI z) hp h2)) kk
theorem g_istore {i : Nat} {z : Int} (hd : decode (dB y) pc = .ok (.istore i, 2)) (hn : i < dL y) (hp : oP L i = true) (hs : L.set i (some (vI z)) = L2) (kk : G w d y Pq bc bs (pc + 2) L2 st μ) : G w d y Pq bc bs pc L (vI z :: st) μ := by
  subst hs
  exact G.goL (fun _ _ _ _ _ _ _ _ _ _ _ hx hb hL H locs lsr cells slots hR hS hlh k => lv_istore hx hb hd hlh.has hn rfl fun ls2 h2 => k ls2 (lh.set1 (v := vI z) hp h2)) kk
theorem g_lstore_n {j : Fin 4} {z : Int} (hd : decode (dB y) pc = .ok (.lstore_n j, 1)) (hn : (j : Nat) + 1 < dL y) (hp : oP L (j : Nat) = true) (hs : (L.set (j : Nat) (some (vJ z))).set ((j : Nat) + 1) none = L2) (kk : G w d y Pq bc bs (pc + 1) L2 st μ) : G w d y Pq bc bs pc L (vJ z :: st) μ := by
  subst hs
  exact G.goL (fun _ _ _ _ _ _ _ _ _ _ _ hx hb hL H locs lsr cells slots hR hS hlh k => lv_lstore_n hx hb hd rfl hlh.has hn rfl fun ls2 h2 => k ls2 (lh.set2 (v := vJ z) hp h2)) kk
theorem g_lstore {i : Nat} {z : Int} (hd : decode (dB y) pc = .ok (.lstore i, 2)) (hn : i + 1 < dL y) (hp : oP L i = true) (hs : (L.set i (some (vJ z))).set (i + 1) none = L2) (kk : G w d y Pq bc bs (pc + 2) L2 st μ) : G w d y Pq bc bs pc L (vJ z :: st) μ := by
  subst hs
  exact G.goL (fun _ _ _ _ _ _ _ _ _ _ _ hx hb hL H locs lsr cells slots hR hS hlh k => lv_lstore hx hb hd hlh.has hn rfl fun ls2 h2 => k ls2 (lh.set2 (v := vJ z) hp h2)) kk
theorem g_astore_n {j : Fin 4} {r : Option Nat} (hd : decode (dB y) pc = .ok (.astore_n j, 1)) (hn : (j : Nat) < dL y) (hp : oP L (j : Nat) = true) (hs : L.set (j : Nat) (some (vP r)) = L2) (kk : G w d y Pq bc bs (pc + 1) L2 st μ) : G w d y Pq bc bs pc L (vP r :: st) μ := by
  subst hs
  cases r with
  | none => exact G.goL (fun _ _ _ _ _ _ _ _ _ _ _ hx hb hL H locs lsr cells slots hR hS hlh k => lv_astore_nN hx hb hd rfl hlh.has hn rfl fun ls2 h2 => k ls2 (lh.set1 (v := vP none) hp h2)) kk
  | some x => exact G.goL (fun _ _ _ _ _ _ _ _ _ _ _ hx hb hL H locs lsr cells slots hR hS hlh k => lv_astore_n hx hb hd rfl hlh.has hn rfl fun ls2 h2 => k ls2 (lh.set1 (v := vP (some x)) hp h2)) kk
theorem g_astore {i : Nat} {r : Option Nat} (hd : decode (dB y) pc = .ok (.astore i, 2)) (hn : i < dL y) (hp : oP L i = true) (hs : L.set i (some (vP r)) = L2) (kk : G w d y Pq bc bs (pc + 2) L2 st μ) : G w d y Pq bc bs pc L (vP r :: st) μ := by
  subst hs
  cases r with
  | none => exact G.goL (fun _ _ _ _ _ _ _ _ _ _ _ hx hb hL H locs lsr cells slots hR hS hlh k => lv_astoreN hx hb hd hlh.has hn rfl fun ls2 h2 => k ls2 (lh.set1 (v := vP none) hp h2)) kk
  | some x => exact G.goL (fun _ _ _ _ _ _ _ _ _ _ _ hx hb hL H locs lsr cells slots hR hS hlh k => lv_astore hx hb hd hlh.has hn rfl fun ls2 h2 => k ls2 (lh.set1 (v := vP (some x)) hp h2)) kk
theorem g_iinc {i : Nat} {n z : Int} (hd : decode (dB y) pc = .ok (.iinc i n, 3)) (hl : L[i]? = some (some (vI z))) (hn : i < dL y) (hp : oP L i = true) (hs : L.set i (some (vI (z + n))) = L2) (kk : G w d y Pq bc bs (pc + 3) L2 st μ) : G w d y Pq bc bs pc L st μ := by
  subst hs
  refine G.goL (fun _ _ _ _ _ _ _ _ _ _ _ hx hb hL H locs lsr cells slots hR hS hlh k => ?_) kk
  have hm : (i, Value.int (iv z)) ∈ lsl 0 L := (lsl_mem L 0 i _).mpr ⟨Nat.zero_le _, vI z, by rw [Nat.sub_zero]; exact hl, rfl⟩
  obtain ⟨q, hq⟩ := List.getElem?_of_mem hm
  exact lv_iinc (v := iv (z + n)) hx hb hd hlh.has hq (iv_add z n).symm hn rfl fun ls2 h2 => k ls2 (lh.set1 (v := vI (z + n)) hp h2)
theorem g_iadd {a b : Int} (hd : decode (dB y) pc = .ok (.iadd, 1)) (kk : G w d y Pq bc bs (pc + 1) L (vI (a + b) :: st) μ) : G w d y Pq bc bs pc L (vI b :: vI a :: st) μ :=
  G.go (fun _ _ _ _ _ _ _ _ _ _ _ hx hb1 hL H locs lsr cells slots hR hS hlh k => lv_iadd hx hb1 hd (by rw [← iv_add]; exact k)) kk
theorem g_isub {a b : Int} (hd : decode (dB y) pc = .ok (.isub, 1)) (kk : G w d y Pq bc bs (pc + 1) L (vI (a - b) :: st) μ) : G w d y Pq bc bs pc L (vI b :: vI a :: st) μ :=
  G.go (fun _ _ _ _ _ _ _ _ _ _ _ hx hb1 hL H locs lsr cells slots hR hS hlh k => lv_isub hx hb1 hd (by rw [← iv_sub]; exact k)) kk
theorem g_imul {a b : Int} (hd : decode (dB y) pc = .ok (.imul, 1)) (kk : G w d y Pq bc bs (pc + 1) L (vI (a * b) :: st) μ) : G w d y Pq bc bs pc L (vI b :: vI a :: st) μ :=
  G.go (fun _ _ _ _ _ _ _ _ _ _ _ hx hb1 hL H locs lsr cells slots hR hS hlh k => lv_imul hx hb1 hd (by rw [← iv_mul]; exact k)) kk
theorem g_ladd {a b : Int} (hd : decode (dB y) pc = .ok (.ladd, 1)) (kk : G w d y Pq bc bs (pc + 1) L (vJ (a + b) :: st) μ) : G w d y Pq bc bs pc L (vJ b :: vJ a :: st) μ :=
  G.go (fun _ _ _ _ _ _ _ _ _ _ _ hx hb1 hL H locs lsr cells slots hR hS hlh k => lv_ladd hx hb1 hd (by rw [← lg_add]; exact k)) kk
theorem g_lsub {a b : Int} (hd : decode (dB y) pc = .ok (.lsub, 1)) (kk : G w d y Pq bc bs (pc + 1) L (vJ (a - b) :: st) μ) : G w d y Pq bc bs pc L (vJ b :: vJ a :: st) μ :=
  G.go (fun _ _ _ _ _ _ _ _ _ _ _ hx hb1 hL H locs lsr cells slots hR hS hlh k => lv_lsub hx hb1 hd (by rw [← lg_sub]; exact k)) kk
theorem g_lmul {a b : Int} (hd : decode (dB y) pc = .ok (.lmul, 1)) (kk : G w d y Pq bc bs (pc + 1) L (vJ (a * b) :: st) μ) : G w d y Pq bc bs pc L (vJ b :: vJ a :: st) μ :=
  G.go (fun _ _ _ _ _ _ _ _ _ _ _ hx hb1 hL H locs lsr cells slots hR hS hlh k => lv_lmul hx hb1 hd (by rw [← lg_mul]; exact k)) kk
theorem g_ineg {a : Int} (hd : decode (dB y) pc = .ok (.ineg, 1)) (kk : G w d y Pq bc bs (pc + 1) L (vI (-a) :: st) μ) : G w d y Pq bc bs pc L (vI a :: st) μ :=
  G.go (fun _ _ _ _ _ _ _ _ _ _ _ hx hb1 hL H locs lsr cells slots hR hS hlh k => lv_ineg hx hb1 hd (by rw [← iv_neg]; exact k)) kk
theorem g_lneg {a : Int} (hd : decode (dB y) pc = .ok (.lneg, 1)) (kk : G w d y Pq bc bs (pc + 1) L (vJ (-a) :: st) μ) : G w d y Pq bc bs pc L (vJ a :: st) μ :=
  G.go (fun _ _ _ _ _ _ _ _ _ _ _ hx hb1 hL H locs lsr cells slots hR hS hlh k => lv_lneg hx hb1 hd (by rw [← lg_neg]; exact k)) kk
theorem g_iand {a b : Int} (hd : decode (dB y) pc = .ok (.iand, 1)) (kk : G w d y Pq bc bs (pc + 1) L (vI (iv a &&& iv b).toInt :: st) μ) : G w d y Pq bc bs pc L (vI b :: vI a :: st) μ :=
  G.go (fun _ _ _ _ _ _ _ _ _ _ _ hx hb1 hL H locs lsr cells slots hR hS hlh k => lv_iand hx hb1 hd (by rw [← iv_of (_ &&& _)]; exact k)) kk
theorem g_ior {a b : Int} (hd : decode (dB y) pc = .ok (.ior, 1)) (kk : G w d y Pq bc bs (pc + 1) L (vI (iv a ||| iv b).toInt :: st) μ) : G w d y Pq bc bs pc L (vI b :: vI a :: st) μ :=
  G.go (fun _ _ _ _ _ _ _ _ _ _ _ hx hb1 hL H locs lsr cells slots hR hS hlh k => lv_ior hx hb1 hd (by rw [← iv_of (_ ||| _)]; exact k)) kk
theorem g_ixor {a b : Int} (hd : decode (dB y) pc = .ok (.ixor, 1)) (kk : G w d y Pq bc bs (pc + 1) L (vI (iv a ^^^ iv b).toInt :: st) μ) : G w d y Pq bc bs pc L (vI b :: vI a :: st) μ :=
  G.go (fun _ _ _ _ _ _ _ _ _ _ _ hx hb1 hL H locs lsr cells slots hR hS hlh k => lv_ixor hx hb1 hd (by rw [← iv_of (_ ^^^ _)]; exact k)) kk
theorem g_land {a b : Int} (hd : decode (dB y) pc = .ok (.land, 1)) (kk : G w d y Pq bc bs (pc + 1) L (vJ (lg a &&& lg b).toInt :: st) μ) : G w d y Pq bc bs pc L (vJ b :: vJ a :: st) μ :=
  G.go (fun _ _ _ _ _ _ _ _ _ _ _ hx hb1 hL H locs lsr cells slots hR hS hlh k => lv_land hx hb1 hd (by rw [← lg_of (_ &&& _)]; exact k)) kk
theorem g_lor {a b : Int} (hd : decode (dB y) pc = .ok (.lor, 1)) (kk : G w d y Pq bc bs (pc + 1) L (vJ (lg a ||| lg b).toInt :: st) μ) : G w d y Pq bc bs pc L (vJ b :: vJ a :: st) μ :=
  G.go (fun _ _ _ _ _ _ _ _ _ _ _ hx hb1 hL H locs lsr cells slots hR hS hlh k => lv_lor hx hb1 hd (by rw [← lg_of (_ ||| _)]; exact k)) kk
theorem g_lxor {a b : Int} (hd : decode (dB y) pc = .ok (.lxor, 1)) (kk : G w d y Pq bc bs (pc + 1) L (vJ (lg a ^^^ lg b).toInt :: st) μ) : G w d y Pq bc bs pc L (vJ b :: vJ a :: st) μ :=
  G.go (fun _ _ _ _ _ _ _ _ _ _ _ hx hb1 hL H locs lsr cells slots hR hS hlh k => lv_lxor hx hb1 hd (by rw [← lg_of (_ ^^^ _)]; exact k)) kk
theorem g_ishl {a b : Int} (hd : decode (dB y) pc = .ok (.ishl, 1)) (kk : G w d y Pq bc bs (pc + 1) L (vI (iv a <<< (iv b &&& 31)).toInt :: st) μ) : G w d y Pq bc bs pc L (vI b :: vI a :: st) μ :=
  G.go (fun _ _ _ _ _ _ _ _ _ _ _ hx hb1 hL H locs lsr cells slots hR hS hlh k => lv_ishl hx hb1 hd (by rw [← iv_of (_ <<< _)]; exact k)) kk
theorem g_ishr {a b : Int} (hd : decode (dB y) pc = .ok (.ishr, 1)) (kk : G w d y Pq bc bs (pc + 1) L (vI (iv a >>> (iv b &&& 31)).toInt :: st) μ) : G w d y Pq bc bs pc L (vI b :: vI a :: st) μ :=
  G.go (fun _ _ _ _ _ _ _ _ _ _ _ hx hb1 hL H locs lsr cells slots hR hS hlh k => lv_ishr hx hb1 hd (by rw [← iv_of (_ >>> _)]; exact k)) kk
theorem g_iushr {a b : Int} (hd : decode (dB y) pc = .ok (.iushr, 1)) (kk : G w d y Pq bc bs (pc + 1) L (vI ((iv a).toUInt32 >>> ((iv b).toUInt32 &&& Int32.toUInt32 31)).toInt32.toInt :: st) μ) : G w d y Pq bc bs pc L (vI b :: vI a :: st) μ :=
  G.go (fun _ _ _ _ _ _ _ _ _ _ _ hx hb1 hL H locs lsr cells slots hR hS hlh k => lv_iushr hx hb1 hd (iv_of _).symm k) kk
theorem g_lshl {a b : Int} (hd : decode (dB y) pc = .ok (.lshl, 1)) (kk : G w d y Pq bc bs (pc + 1) L (vJ (lg a <<< ((iv b).toInt64 &&& 63)).toInt :: st) μ) : G w d y Pq bc bs pc L (vI b :: vJ a :: st) μ :=
  G.go (fun _ _ _ _ _ _ _ _ _ _ _ hx hb1 hL H locs lsr cells slots hR hS hlh k => lv_lshl hx hb1 hd (lg_of _).symm k) kk
theorem g_lshr {a b : Int} (hd : decode (dB y) pc = .ok (.lshr, 1)) (kk : G w d y Pq bc bs (pc + 1) L (vJ (lg a >>> ((iv b).toInt64 &&& 63)).toInt :: st) μ) : G w d y Pq bc bs pc L (vI b :: vJ a :: st) μ :=
  G.go (fun _ _ _ _ _ _ _ _ _ _ _ hx hb1 hL H locs lsr cells slots hR hS hlh k => lv_lshr hx hb1 hd (lg_of _).symm k) kk
theorem g_lushr {a b : Int} (hd : decode (dB y) pc = .ok (.lushr, 1)) (kk : G w d y Pq bc bs (pc + 1) L (vJ ((lg a).toUInt64 >>> ((iv b).toInt64.toUInt64 &&& Int64.toUInt64 63)).toInt64.toInt :: st) μ) : G w d y Pq bc bs pc L (vI b :: vJ a :: st) μ :=
  G.go (fun _ _ _ _ _ _ _ _ _ _ _ hx hb1 hL H locs lsr cells slots hR hS hlh k => lv_lushr hx hb1 hd (lg_of _).symm k) kk
theorem g_i2l {a : Int} (ha : i32 a) (hd : decode (dB y) pc = .ok (.i2l, 1)) (kk : G w d y Pq bc bs (pc + 1) L (vJ a :: st) μ) : G w d y Pq bc bs pc L (vI a :: st) μ :=
  G.go (fun _ _ _ _ _ _ _ _ _ _ _ hx hb1 hL H locs lsr cells slots hR hS hlh k => lv_i2l hx hb1 hd (iv_l ha) k) kk
theorem g_l2i {a : Int} (hd : decode (dB y) pc = .ok (.l2i, 1)) (kk : G w d y Pq bc bs (pc + 1) L (vI a :: st) μ) : G w d y Pq bc bs pc L (vJ a :: st) μ :=
  G.go (fun _ _ _ _ _ _ _ _ _ _ _ hx hb1 hL H locs lsr cells slots hR hS hlh k => lv_l2i hx hb1 hd (lg_i a) k) kk
theorem g_i2b {a : Int} (hd : decode (dB y) pc = .ok (.i2b, 1)) (kk : G w d y Pq bc bs (pc + 1) L (vI (iv a).toInt8.toInt32.toInt :: st) μ) : G w d y Pq bc bs pc L (vI a :: st) μ :=
  G.go (fun _ _ _ _ _ _ _ _ _ _ _ hx hb1 hL H locs lsr cells slots hR hS hlh k => lv_i2b hx hb1 hd (iv_of _).symm k) kk
theorem g_i2c {a : Int} (hd : decode (dB y) pc = .ok (.i2c, 1)) (kk : G w d y Pq bc bs (pc + 1) L (vI ((iv a).toUInt32 % 65536).toInt32.toInt :: st) μ) : G w d y Pq bc bs pc L (vI a :: st) μ :=
  G.go (fun _ _ _ _ _ _ _ _ _ _ _ hx hb1 hL H locs lsr cells slots hR hS hlh k => lv_i2c hx hb1 hd (iv_of _).symm k) kk
theorem iv_div {a b : Int} (ha : i32 a) (hb : i32 b) : iv a / iv b = iv (a.tdiv b) := by
  have h1 : Int32.minValue.toInt = -2147483648 := by decide
  have h2 : Int32.maxValue.toInt = 2147483647 := by decide
  exact (Int32.ofInt_tdiv (by omega) (by omega) (by omega) (by omega)).symm
theorem iv_rem {a b : Int} (ha : i32 a) (hb : i32 b) : iv a - iv a / iv b * iv b = iv (a.tmod b) := by
  rw [iv_div ha hb, ← iv_mul, ← iv_sub, Int.tmod_def, Int.mul_comm b]
theorem lg_div {a b : Int} (ha : i64 a) (hb : i64 b) : lg a / lg b = lg (a.tdiv b) := by
  have h1 : Int64.minValue.toInt = -9223372036854775808 := by decide
  have h2 : Int64.maxValue.toInt = 9223372036854775807 := by decide
  exact (Int64.ofInt_tdiv (by omega) (by omega) (by omega) (by omega)).symm
theorem lg_rem {a b : Int} (ha : i64 a) (hb : i64 b) : lg a - lg a / lg b * lg b = lg (a.tmod b) := by
  rw [lg_div ha hb, ← lg_mul, ← lg_sub, Int.tmod_def, Int.mul_comm b]
theorem iv_ne0 {b : Int} (hb : i32 b) (h : ¬ b = 0) : ¬ iv b = 0 := fun q => h ((iv_eq hb i32_0).mp q)
theorem lg_ne0 {b : Int} (hb : i64 b) (h : ¬ b = 0) : ¬ lg b = 0 := fun q => h ((lg_eq hb (b := 0) ⟨by omega, by omega⟩).mp q)
theorem g_idiv {a b : Int} (ha : i32 a) (hb : i32 b) (hne : ¬ b = 0) (hd : decode (dB y) pc = .ok (.idiv, 1)) (kk : G w d y Pq bc bs (pc + 1) L (vI (a.tdiv b) :: st) μ) : G w d y Pq bc bs pc L (vI b :: vI a :: st) μ :=
  G.go (fun _ _ _ _ _ _ _ _ _ _ _ hx hb1 hL H locs lsr cells slots hR hS hlh k => lv_idiv hx hb1 hd (iv_ne0 hb hne) (by rw [iv_div ha hb]; exact k)) kk
theorem g_irem {a b : Int} (ha : i32 a) (hb : i32 b) (hne : ¬ b = 0) (hd : decode (dB y) pc = .ok (.irem, 1)) (kk : G w d y Pq bc bs (pc + 1) L (vI (a.tmod b) :: st) μ) : G w d y Pq bc bs pc L (vI b :: vI a :: st) μ :=
  G.go (fun _ _ _ _ _ _ _ _ _ _ _ hx hb1 hL H locs lsr cells slots hR hS hlh k => lv_irem hx hb1 hd (iv_ne0 hb hne) (by rw [iv_rem ha hb]; exact k)) kk
theorem g_ldiv {a b : Int} (ha : i64 a) (hb : i64 b) (hne : ¬ b = 0) (hd : decode (dB y) pc = .ok (.ldiv, 1)) (kk : G w d y Pq bc bs (pc + 1) L (vJ (a.tdiv b) :: st) μ) : G w d y Pq bc bs pc L (vJ b :: vJ a :: st) μ :=
  G.go (fun _ _ _ _ _ _ _ _ _ _ _ hx hb1 hL H locs lsr cells slots hR hS hlh k => lv_ldiv hx hb1 hd (lg_ne0 hb hne) (by rw [lg_div ha hb]; exact k)) kk
theorem g_lrem {a b : Int} (ha : i64 a) (hb : i64 b) (hne : ¬ b = 0) (hd : decode (dB y) pc = .ok (.lrem, 1)) (kk : G w d y Pq bc bs (pc + 1) L (vJ (a.tmod b) :: st) μ) : G w d y Pq bc bs pc L (vJ b :: vJ a :: st) μ :=
  G.go (fun _ _ _ _ _ _ _ _ _ _ _ hx hb1 hL H locs lsr cells slots hR hS hlh k => lv_lrem hx hb1 hd (lg_ne0 hb hne) (by rw [lg_rem ha hb]; exact k)) kk
theorem g_dup {v : AV} (hv : isJ v = false) (hd : decode (dB y) pc = .ok (.dup, 1)) (kk : G w d y Pq bc bs (pc + 1) L (v :: v :: st) μ) : G w d y Pq bc bs pc L (v :: st) μ :=
  G.go (fun _ _ _ _ _ _ _ _ _ _ _ hx hb1 hL H locs lsr cells slots hR hS hlh k => lv_dup hx hb1 hd (by rw [cv_cat, hv]; rfl) k) kk
theorem g_pop {v : AV} (hv : isJ v = false) (hd : decode (dB y) pc = .ok (.pop, 1)) (kk : G w d y Pq bc bs (pc + 1) L (st) μ) : G w d y Pq bc bs pc L (v :: st) μ :=
  G.go (fun _ _ _ _ _ _ _ _ _ _ _ hx hb1 hL H locs lsr cells slots hR hS hlh k => lv_pop hx hb1 hd (by rw [cv_cat, hv]; rfl) k) kk
theorem g_dup_x1 {v u : AV} (hv : isJ v = false) (hu : isJ u = false) (hd : decode (dB y) pc = .ok (.dup_x1, 1)) (kk : G w d y Pq bc bs (pc + 1) L (v :: u :: v :: st) μ) : G w d y Pq bc bs pc L (v :: u :: st) μ :=
  G.go (fun _ _ _ _ _ _ _ _ _ _ _ hx hb1 hL H locs lsr cells slots hR hS hlh k => lv_dup_x1 hx hb1 hd (by rw [cv_cat, hv]; rfl) (by rw [cv_cat, hu]; rfl) k) kk
theorem g_dup2 {v u : AV} (hv : isJ v = false) (hu : isJ u = false) (hd : decode (dB y) pc = .ok (.dup2, 1)) (kk : G w d y Pq bc bs (pc + 1) L (v :: u :: v :: u :: st) μ) : G w d y Pq bc bs pc L (v :: u :: st) μ :=
  G.go (fun _ _ _ _ _ _ _ _ _ _ _ hx hb1 hL H locs lsr cells slots hR hS hlh k => lv_dup2_11 hx hb1 hd (by rw [cv_cat, hv]; rfl) (by rw [cv_cat, hu]; rfl) k) kk
theorem g_icmp_eq {a b : Int} {off : Int} {tgt : Nat} (hd : decode (dB y) pc = .ok (.if_icmp .eq off, 3)) (ht : (pc : Int) + off = (tgt : Int)) (ha : i32 a) (hb : i32 b) (kt : a = b → G w d y Pq bc bs tgt L st μ) (kf : ¬ a = b → G w d y Pq bc bs (pc + 3) L st μ) : G w d y Pq bc bs pc L (vI b :: vI a :: st) μ :=
  G.br (A := a = b) (pc2 := tgt) (pc3 := pc + 3) (st2 := st) (fun _ _ _ _ _ _ _ _ _ _ _ hx hb0 H locs lsr cells slots A1 A2 => lv_icmp_eq hx hb0 hd ht (fun h => A1 ((iv_eq ha hb).mp h)) (fun h => A2 (fun q => h ((iv_eq ha hb).mpr q)))) kt (fun h => kf (by omega))
theorem g_if_eq {a : Int} {off : Int} {tgt : Nat} (hd : decode (dB y) pc = .ok (.ifCond .eq off, 3)) (ht : (pc : Int) + off = (tgt : Int)) (ha : i32 a) (kt : a = 0 → G w d y Pq bc bs tgt L st μ) (kf : ¬ a = 0 → G w d y Pq bc bs (pc + 3) L st μ) : G w d y Pq bc bs pc L (vI a :: st) μ :=
  G.br (A := a = 0) (pc2 := tgt) (pc3 := pc + 3) (st2 := st) (fun _ _ _ _ _ _ _ _ _ _ _ hx hb0 H locs lsr cells slots A1 A2 => lv_if_eq hx hb0 hd ht (fun h => A1 ((iv_eq ha i32_0).mp h)) (fun h => A2 (fun q => h ((iv_eq ha i32_0).mpr q)))) kt (fun h => kf (by omega))
theorem g_icmp_ne {a b : Int} {off : Int} {tgt : Nat} (hd : decode (dB y) pc = .ok (.if_icmp .ne off, 3)) (ht : (pc : Int) + off = (tgt : Int)) (ha : i32 a) (hb : i32 b) (kt : ¬ a = b → G w d y Pq bc bs tgt L st μ) (kf : a = b → G w d y Pq bc bs (pc + 3) L st μ) : G w d y Pq bc bs pc L (vI b :: vI a :: st) μ :=
  G.br (A := a = b) (pc2 := pc + 3) (pc3 := tgt) (st2 := st) (fun _ _ _ _ _ _ _ _ _ _ _ hx hb0 H locs lsr cells slots A1 A2 => lv_icmp_ne hx hb0 hd ht (fun h => A2 (fun q => h ((iv_eq ha hb).mpr q))) (fun h => A1 ((iv_eq ha hb).mp h))) kf kt
theorem g_if_ne {a : Int} {off : Int} {tgt : Nat} (hd : decode (dB y) pc = .ok (.ifCond .ne off, 3)) (ht : (pc : Int) + off = (tgt : Int)) (ha : i32 a) (kt : ¬ a = 0 → G w d y Pq bc bs tgt L st μ) (kf : a = 0 → G w d y Pq bc bs (pc + 3) L st μ) : G w d y Pq bc bs pc L (vI a :: st) μ :=
  G.br (A := a = 0) (pc2 := pc + 3) (pc3 := tgt) (st2 := st) (fun _ _ _ _ _ _ _ _ _ _ _ hx hb0 H locs lsr cells slots A1 A2 => lv_if_ne hx hb0 hd ht (fun h => A2 (fun q => h ((iv_eq ha i32_0).mpr q))) (fun h => A1 ((iv_eq ha i32_0).mp h))) kf kt
theorem g_icmp_lt {a b : Int} {off : Int} {tgt : Nat} (hd : decode (dB y) pc = .ok (.if_icmp .lt off, 3)) (ht : (pc : Int) + off = (tgt : Int)) (ha : i32 a) (hb : i32 b) (kt : a < b → G w d y Pq bc bs tgt L st μ) (kf : b ≤ a → G w d y Pq bc bs (pc + 3) L st μ) : G w d y Pq bc bs pc L (vI b :: vI a :: st) μ :=
  G.br (A := a < b) (pc2 := tgt) (pc3 := pc + 3) (st2 := st) (fun _ _ _ _ _ _ _ _ _ _ _ hx hb0 H locs lsr cells slots A1 A2 => lv_icmp_lt hx hb0 hd ht (fun h => A1 ((iv_lt ha hb).mp h)) (fun h => A2 (fun q => h ((iv_lt ha hb).mpr q)))) kt (fun h => kf (by omega))
theorem g_if_lt {a : Int} {off : Int} {tgt : Nat} (hd : decode (dB y) pc = .ok (.ifCond .lt off, 3)) (ht : (pc : Int) + off = (tgt : Int)) (ha : i32 a) (kt : a < 0 → G w d y Pq bc bs tgt L st μ) (kf : 0 ≤ a → G w d y Pq bc bs (pc + 3) L st μ) : G w d y Pq bc bs pc L (vI a :: st) μ :=
  G.br (A := a < 0) (pc2 := tgt) (pc3 := pc + 3) (st2 := st) (fun _ _ _ _ _ _ _ _ _ _ _ hx hb0 H locs lsr cells slots A1 A2 => lv_if_lt hx hb0 hd ht (fun h => A1 ((iv_lt ha i32_0).mp h)) (fun h => A2 (fun q => h ((iv_lt ha i32_0).mpr q)))) kt (fun h => kf (by omega))
theorem g_icmp_ge {a b : Int} {off : Int} {tgt : Nat} (hd : decode (dB y) pc = .ok (.if_icmp .ge off, 3)) (ht : (pc : Int) + off = (tgt : Int)) (ha : i32 a) (hb : i32 b) (kt : b ≤ a → G w d y Pq bc bs tgt L st μ) (kf : a < b → G w d y Pq bc bs (pc + 3) L st μ) : G w d y Pq bc bs pc L (vI b :: vI a :: st) μ :=
  G.br (A := b ≤ a) (pc2 := tgt) (pc3 := pc + 3) (st2 := st) (fun _ _ _ _ _ _ _ _ _ _ _ hx hb0 H locs lsr cells slots A1 A2 => lv_icmp_ge hx hb0 hd ht (fun h => A1 ((iv_le hb ha).mp h)) (fun h => A2 (fun q => h ((iv_le hb ha).mpr q)))) kt (fun h => kf (by omega))
theorem g_if_ge {a : Int} {off : Int} {tgt : Nat} (hd : decode (dB y) pc = .ok (.ifCond .ge off, 3)) (ht : (pc : Int) + off = (tgt : Int)) (ha : i32 a) (kt : 0 ≤ a → G w d y Pq bc bs tgt L st μ) (kf : a < 0 → G w d y Pq bc bs (pc + 3) L st μ) : G w d y Pq bc bs pc L (vI a :: st) μ :=
  G.br (A := 0 ≤ a) (pc2 := tgt) (pc3 := pc + 3) (st2 := st) (fun _ _ _ _ _ _ _ _ _ _ _ hx hb0 H locs lsr cells slots A1 A2 => lv_if_ge hx hb0 hd ht (fun h => A1 ((iv_le i32_0 ha).mp h)) (fun h => A2 (fun q => h ((iv_le i32_0 ha).mpr q)))) kt (fun h => kf (by omega))
theorem g_icmp_gt {a b : Int} {off : Int} {tgt : Nat} (hd : decode (dB y) pc = .ok (.if_icmp .gt off, 3)) (ht : (pc : Int) + off = (tgt : Int)) (ha : i32 a) (hb : i32 b) (kt : b < a → G w d y Pq bc bs tgt L st μ) (kf : a ≤ b → G w d y Pq bc bs (pc + 3) L st μ) : G w d y Pq bc bs pc L (vI b :: vI a :: st) μ :=
  G.br (A := b < a) (pc2 := tgt) (pc3 := pc + 3) (st2 := st) (fun _ _ _ _ _ _ _ _ _ _ _ hx hb0 H locs lsr cells slots A1 A2 => lv_icmp_gt hx hb0 hd ht (fun h => A1 ((iv_lt hb ha).mp h)) (fun h => A2 (fun q => h ((iv_lt hb ha).mpr q)))) kt (fun h => kf (by omega))
theorem g_if_gt {a : Int} {off : Int} {tgt : Nat} (hd : decode (dB y) pc = .ok (.ifCond .gt off, 3)) (ht : (pc : Int) + off = (tgt : Int)) (ha : i32 a) (kt : 0 < a → G w d y Pq bc bs tgt L st μ) (kf : a ≤ 0 → G w d y Pq bc bs (pc + 3) L st μ) : G w d y Pq bc bs pc L (vI a :: st) μ :=
  G.br (A := 0 < a) (pc2 := tgt) (pc3 := pc + 3) (st2 := st) (fun _ _ _ _ _ _ _ _ _ _ _ hx hb0 H locs lsr cells slots A1 A2 => lv_if_gt hx hb0 hd ht (fun h => A1 ((iv_lt i32_0 ha).mp h)) (fun h => A2 (fun q => h ((iv_lt i32_0 ha).mpr q)))) kt (fun h => kf (by omega))
theorem g_icmp_le {a b : Int} {off : Int} {tgt : Nat} (hd : decode (dB y) pc = .ok (.if_icmp .le off, 3)) (ht : (pc : Int) + off = (tgt : Int)) (ha : i32 a) (hb : i32 b) (kt : a ≤ b → G w d y Pq bc bs tgt L st μ) (kf : b < a → G w d y Pq bc bs (pc + 3) L st μ) : G w d y Pq bc bs pc L (vI b :: vI a :: st) μ :=
  G.br (A := a ≤ b) (pc2 := tgt) (pc3 := pc + 3) (st2 := st) (fun _ _ _ _ _ _ _ _ _ _ _ hx hb0 H locs lsr cells slots A1 A2 => lv_icmp_le hx hb0 hd ht (fun h => A1 ((iv_le ha hb).mp h)) (fun h => A2 (fun q => h ((iv_le ha hb).mpr q)))) kt (fun h => kf (by omega))
theorem g_if_le {a : Int} {off : Int} {tgt : Nat} (hd : decode (dB y) pc = .ok (.ifCond .le off, 3)) (ht : (pc : Int) + off = (tgt : Int)) (ha : i32 a) (kt : a ≤ 0 → G w d y Pq bc bs tgt L st μ) (kf : 0 < a → G w d y Pq bc bs (pc + 3) L st μ) : G w d y Pq bc bs pc L (vI a :: st) μ :=
  G.br (A := a ≤ 0) (pc2 := tgt) (pc3 := pc + 3) (st2 := st) (fun _ _ _ _ _ _ _ _ _ _ _ hx hb0 H locs lsr cells slots A1 A2 => lv_if_le hx hb0 hd ht (fun h => A1 ((iv_le ha i32_0).mp h)) (fun h => A2 (fun q => h ((iv_le ha i32_0).mpr q)))) kt (fun h => kf (by omega))
theorem g_goto {off : Int} {tgt : Nat} (ht : (pc : Int) + off = (tgt : Int)) (hd : decode (dB y) pc = .ok (.goto off, 3)) (kk : G w d y Pq bc bs tgt L (st) μ) : G w d y Pq bc bs pc L (st) μ :=
  G.go (fun _ _ _ _ _ _ _ _ _ _ _ hx hb1 hL H locs lsr cells slots hR hS hlh k => lv_goto hx hb1 hd ht k) kk
theorem g_ifnonnull {x : Nat} {off : Int} {tgt : Nat} (ht : (pc : Int) + off = (tgt : Int)) (hd : decode (dB y) pc = .ok (.ifnonnull off, 3)) (kk : G w d y Pq bc bs tgt L (st) μ) : G w d y Pq bc bs pc L (vP (some x) :: st) μ :=
  G.go (fun _ _ _ _ _ _ _ _ _ _ _ hx hb1 hL H locs lsr cells slots hR hS hlh k => lv_ifnonnull hx hb1 hd ht k) kk
theorem g_ifnonnullN {off : Int} (hd : decode (dB y) pc = .ok (.ifnonnull off, 3)) (kk : G w d y Pq bc bs (pc + 3) L (st) μ) : G w d y Pq bc bs pc L (vP none :: st) μ :=
  G.go (fun _ _ _ _ _ _ _ _ _ _ _ hx hb1 hL H locs lsr cells slots hR hS hlh k => lv_ifnonnullN hx hb1 hd k) kk
theorem g_lcmp {a b : Int} (hd : decode (dB y) pc = .ok (.lcmp, 1)) (ha : i64 a) (hb2 : i64 b) (kk : G w d y Pq bc bs (pc + 1) L (vI (if b < a then 1 else if a = b then 0 else -1) :: st) μ) : G w d y Pq bc bs pc L (vJ b :: vJ a :: st) μ := by
  refine G.go (fun _ _ _ _ _ _ _ _ _ _ _ hx hb hL H locs lsr cells slots hR hS hlh k => W.lcmp hx hb hd ?_) kk
  have e : lg_cmp (lg a) (lg b) = iv (if b < a then 1 else if a = b then 0 else -1) := by
    unfold lg_cmp
    simp only [lg_lt hb2 ha, lg_eq ha hb2]
    split
    · rfl
    · split <;> rfl
  rw [e]
  exact k
theorem g_tswOut {dflt lo hi : Int} {offs : Array Int} {len tgt : Nat} {a : Int} (hd : decode (dB y) pc = .ok (.tableswitch dflt lo hi offs, len)) (ha : i32 a) (h : a < lo ∨ hi < a) (ht : (pc : Int) + dflt = (tgt : Int)) (kk : G w d y Pq bc bs tgt L st μ) : G w d y Pq bc bs pc L (vI a :: st) μ :=
  G.go (fun _ _ _ _ _ _ _ _ _ _ _ hx hb hL H locs lsr cells slots hR hS hlh k => lv_tableOut hx hb hd (by rw [iv_toInt ha]; exact h) ht k) kk
theorem g_tswIn {dflt lo hi off : Int} {offs : Array Int} {len tgt : Nat} {a : Int} (hd : decode (dB y) pc = .ok (.tableswitch dflt lo hi offs, len)) (ha : i32 a) (h1 : lo ≤ a) (h2 : a ≤ hi) (ho : offs[(a - lo).toNat]? = some off) (ht : (pc : Int) + off = (tgt : Int)) (kk : G w d y Pq bc bs tgt L st μ) : G w d y Pq bc bs pc L (vI a :: st) μ :=
  G.go (fun _ _ _ _ _ _ _ _ _ _ _ hx hb hL H locs lsr cells slots hR hS hlh k => lv_tableIn hx hb hd (by rw [iv_toInt ha]; omega) (by rw [iv_toInt ha]; omega) (by rw [iv_toInt ha]; exact ho) ht k) kk
end GX
theorem ls0 {a0 v : Option AV} {t : List (Option AV)} : List.set (a0 :: t) 0 v = v :: t := rfl
theorem lj0 {a0 a1 v u : Option AV} {t : List (Option AV)} : List.set (List.set (a0 :: a1 :: t) 0 v) (0 + 1) u = v :: u :: t := rfl
theorem ls1 {a0 a1 v : Option AV} {t : List (Option AV)} : List.set (a0 :: a1 :: t) 1 v = a0 :: v :: t := rfl
theorem lj1 {a0 a1 a2 v u : Option AV} {t : List (Option AV)} : List.set (List.set (a0 :: a1 :: a2 :: t) 1 v) (1 + 1) u = a0 :: v :: u :: t := rfl
theorem ls2 {a0 a1 a2 v : Option AV} {t : List (Option AV)} : List.set (a0 :: a1 :: a2 :: t) 2 v = a0 :: a1 :: v :: t := rfl
theorem lj2 {a0 a1 a2 a3 v u : Option AV} {t : List (Option AV)} : List.set (List.set (a0 :: a1 :: a2 :: a3 :: t) 2 v) (2 + 1) u = a0 :: a1 :: v :: u :: t := rfl
theorem ls3 {a0 a1 a2 a3 v : Option AV} {t : List (Option AV)} : List.set (a0 :: a1 :: a2 :: a3 :: t) 3 v = a0 :: a1 :: a2 :: v :: t := rfl
theorem lj3 {a0 a1 a2 a3 a4 v u : Option AV} {t : List (Option AV)} : List.set (List.set (a0 :: a1 :: a2 :: a3 :: a4 :: t) 3 v) (3 + 1) u = a0 :: a1 :: a2 :: v :: u :: t := rfl
theorem ls4 {a0 a1 a2 a3 a4 v : Option AV} {t : List (Option AV)} : List.set (a0 :: a1 :: a2 :: a3 :: a4 :: t) 4 v = a0 :: a1 :: a2 :: a3 :: v :: t := rfl
theorem lj4 {a0 a1 a2 a3 a4 a5 v u : Option AV} {t : List (Option AV)} : List.set (List.set (a0 :: a1 :: a2 :: a3 :: a4 :: a5 :: t) 4 v) (4 + 1) u = a0 :: a1 :: a2 :: a3 :: v :: u :: t := rfl
theorem ls5 {a0 a1 a2 a3 a4 a5 v : Option AV} {t : List (Option AV)} : List.set (a0 :: a1 :: a2 :: a3 :: a4 :: a5 :: t) 5 v = a0 :: a1 :: a2 :: a3 :: a4 :: v :: t := rfl
theorem lj5 {a0 a1 a2 a3 a4 a5 a6 v u : Option AV} {t : List (Option AV)} : List.set (List.set (a0 :: a1 :: a2 :: a3 :: a4 :: a5 :: a6 :: t) 5 v) (5 + 1) u = a0 :: a1 :: a2 :: a3 :: a4 :: v :: u :: t := rfl
theorem ls6 {a0 a1 a2 a3 a4 a5 a6 v : Option AV} {t : List (Option AV)} : List.set (a0 :: a1 :: a2 :: a3 :: a4 :: a5 :: a6 :: t) 6 v = a0 :: a1 :: a2 :: a3 :: a4 :: a5 :: v :: t := rfl
theorem lj6 {a0 a1 a2 a3 a4 a5 a6 a7 v u : Option AV} {t : List (Option AV)} : List.set (List.set (a0 :: a1 :: a2 :: a3 :: a4 :: a5 :: a6 :: a7 :: t) 6 v) (6 + 1) u = a0 :: a1 :: a2 :: a3 :: a4 :: a5 :: v :: u :: t := rfl
theorem ls7 {a0 a1 a2 a3 a4 a5 a6 a7 v : Option AV} {t : List (Option AV)} : List.set (a0 :: a1 :: a2 :: a3 :: a4 :: a5 :: a6 :: a7 :: t) 7 v = a0 :: a1 :: a2 :: a3 :: a4 :: a5 :: a6 :: v :: t := rfl
theorem lj7 {a0 a1 a2 a3 a4 a5 a6 a7 a8 v u : Option AV} {t : List (Option AV)} : List.set (List.set (a0 :: a1 :: a2 :: a3 :: a4 :: a5 :: a6 :: a7 :: a8 :: t) 7 v) (7 + 1) u = a0 :: a1 :: a2 :: a3 :: a4 :: a5 :: a6 :: v :: u :: t := rfl
theorem ls8 {a0 a1 a2 a3 a4 a5 a6 a7 a8 v : Option AV} {t : List (Option AV)} : List.set (a0 :: a1 :: a2 :: a3 :: a4 :: a5 :: a6 :: a7 :: a8 :: t) 8 v = a0 :: a1 :: a2 :: a3 :: a4 :: a5 :: a6 :: a7 :: v :: t := rfl
theorem lj8 {a0 a1 a2 a3 a4 a5 a6 a7 a8 a9 v u : Option AV} {t : List (Option AV)} : List.set (List.set (a0 :: a1 :: a2 :: a3 :: a4 :: a5 :: a6 :: a7 :: a8 :: a9 :: t) 8 v) (8 + 1) u = a0 :: a1 :: a2 :: a3 :: a4 :: a5 :: a6 :: a7 :: v :: u :: t := rfl
theorem ls9 {a0 a1 a2 a3 a4 a5 a6 a7 a8 a9 v : Option AV} {t : List (Option AV)} : List.set (a0 :: a1 :: a2 :: a3 :: a4 :: a5 :: a6 :: a7 :: a8 :: a9 :: t) 9 v = a0 :: a1 :: a2 :: a3 :: a4 :: a5 :: a6 :: a7 :: a8 :: v :: t := rfl
theorem lj9 {a0 a1 a2 a3 a4 a5 a6 a7 a8 a9 a10 v u : Option AV} {t : List (Option AV)} : List.set (List.set (a0 :: a1 :: a2 :: a3 :: a4 :: a5 :: a6 :: a7 :: a8 :: a9 :: a10 :: t) 9 v) (9 + 1) u = a0 :: a1 :: a2 :: a3 :: a4 :: a5 :: a6 :: a7 :: a8 :: v :: u :: t := rfl
theorem ls10 {a0 a1 a2 a3 a4 a5 a6 a7 a8 a9 a10 v : Option AV} {t : List (Option AV)} : List.set (a0 :: a1 :: a2 :: a3 :: a4 :: a5 :: a6 :: a7 :: a8 :: a9 :: a10 :: t) 10 v = a0 :: a1 :: a2 :: a3 :: a4 :: a5 :: a6 :: a7 :: a8 :: a9 :: v :: t := rfl
theorem lj10 {a0 a1 a2 a3 a4 a5 a6 a7 a8 a9 a10 a11 v u : Option AV} {t : List (Option AV)} : List.set (List.set (a0 :: a1 :: a2 :: a3 :: a4 :: a5 :: a6 :: a7 :: a8 :: a9 :: a10 :: a11 :: t) 10 v) (10 + 1) u = a0 :: a1 :: a2 :: a3 :: a4 :: a5 :: a6 :: a7 :: a8 :: a9 :: v :: u :: t := rfl
theorem ls11 {a0 a1 a2 a3 a4 a5 a6 a7 a8 a9 a10 a11 v : Option AV} {t : List (Option AV)} : List.set (a0 :: a1 :: a2 :: a3 :: a4 :: a5 :: a6 :: a7 :: a8 :: a9 :: a10 :: a11 :: t) 11 v = a0 :: a1 :: a2 :: a3 :: a4 :: a5 :: a6 :: a7 :: a8 :: a9 :: a10 :: v :: t := rfl
theorem lj11 {a0 a1 a2 a3 a4 a5 a6 a7 a8 a9 a10 a11 a12 v u : Option AV} {t : List (Option AV)} : List.set (List.set (a0 :: a1 :: a2 :: a3 :: a4 :: a5 :: a6 :: a7 :: a8 :: a9 :: a10 :: a11 :: a12 :: t) 11 v) (11 + 1) u = a0 :: a1 :: a2 :: a3 :: a4 :: a5 :: a6 :: a7 :: a8 :: a9 :: a10 :: v :: u :: t := rfl
theorem ls12 {a0 a1 a2 a3 a4 a5 a6 a7 a8 a9 a10 a11 a12 v : Option AV} {t : List (Option AV)} : List.set (a0 :: a1 :: a2 :: a3 :: a4 :: a5 :: a6 :: a7 :: a8 :: a9 :: a10 :: a11 :: a12 :: t) 12 v = a0 :: a1 :: a2 :: a3 :: a4 :: a5 :: a6 :: a7 :: a8 :: a9 :: a10 :: a11 :: v :: t := rfl
theorem lj12 {a0 a1 a2 a3 a4 a5 a6 a7 a8 a9 a10 a11 a12 a13 v u : Option AV} {t : List (Option AV)} : List.set (List.set (a0 :: a1 :: a2 :: a3 :: a4 :: a5 :: a6 :: a7 :: a8 :: a9 :: a10 :: a11 :: a12 :: a13 :: t) 12 v) (12 + 1) u = a0 :: a1 :: a2 :: a3 :: a4 :: a5 :: a6 :: a7 :: a8 :: a9 :: a10 :: a11 :: v :: u :: t := rfl
theorem ls13 {a0 a1 a2 a3 a4 a5 a6 a7 a8 a9 a10 a11 a12 a13 v : Option AV} {t : List (Option AV)} : List.set (a0 :: a1 :: a2 :: a3 :: a4 :: a5 :: a6 :: a7 :: a8 :: a9 :: a10 :: a11 :: a12 :: a13 :: t) 13 v = a0 :: a1 :: a2 :: a3 :: a4 :: a5 :: a6 :: a7 :: a8 :: a9 :: a10 :: a11 :: a12 :: v :: t := rfl
theorem lj13 {a0 a1 a2 a3 a4 a5 a6 a7 a8 a9 a10 a11 a12 a13 a14 v u : Option AV} {t : List (Option AV)} : List.set (List.set (a0 :: a1 :: a2 :: a3 :: a4 :: a5 :: a6 :: a7 :: a8 :: a9 :: a10 :: a11 :: a12 :: a13 :: a14 :: t) 13 v) (13 + 1) u = a0 :: a1 :: a2 :: a3 :: a4 :: a5 :: a6 :: a7 :: a8 :: a9 :: a10 :: a11 :: a12 :: v :: u :: t := rfl
theorem ls14 {a0 a1 a2 a3 a4 a5 a6 a7 a8 a9 a10 a11 a12 a13 a14 v : Option AV} {t : List (Option AV)} : List.set (a0 :: a1 :: a2 :: a3 :: a4 :: a5 :: a6 :: a7 :: a8 :: a9 :: a10 :: a11 :: a12 :: a13 :: a14 :: t) 14 v = a0 :: a1 :: a2 :: a3 :: a4 :: a5 :: a6 :: a7 :: a8 :: a9 :: a10 :: a11 :: a12 :: a13 :: v :: t := rfl
theorem lj14 {a0 a1 a2 a3 a4 a5 a6 a7 a8 a9 a10 a11 a12 a13 a14 a15 v u : Option AV} {t : List (Option AV)} : List.set (List.set (a0 :: a1 :: a2 :: a3 :: a4 :: a5 :: a6 :: a7 :: a8 :: a9 :: a10 :: a11 :: a12 :: a13 :: a14 :: a15 :: t) 14 v) (14 + 1) u = a0 :: a1 :: a2 :: a3 :: a4 :: a5 :: a6 :: a7 :: a8 :: a9 :: a10 :: a11 :: a12 :: a13 :: v :: u :: t := rfl
theorem ls15 {a0 a1 a2 a3 a4 a5 a6 a7 a8 a9 a10 a11 a12 a13 a14 a15 v : Option AV} {t : List (Option AV)} : List.set (a0 :: a1 :: a2 :: a3 :: a4 :: a5 :: a6 :: a7 :: a8 :: a9 :: a10 :: a11 :: a12 :: a13 :: a14 :: a15 :: t) 15 v = a0 :: a1 :: a2 :: a3 :: a4 :: a5 :: a6 :: a7 :: a8 :: a9 :: a10 :: a11 :: a12 :: a13 :: a14 :: v :: t := rfl
theorem lj15 {a0 a1 a2 a3 a4 a5 a6 a7 a8 a9 a10 a11 a12 a13 a14 a15 a16 v u : Option AV} {t : List (Option AV)} : List.set (List.set (a0 :: a1 :: a2 :: a3 :: a4 :: a5 :: a6 :: a7 :: a8 :: a9 :: a10 :: a11 :: a12 :: a13 :: a14 :: a15 :: a16 :: t) 15 v) (15 + 1) u = a0 :: a1 :: a2 :: a3 :: a4 :: a5 :: a6 :: a7 :: a8 :: a9 :: a10 :: a11 :: a12 :: a13 :: a14 :: v :: u :: t := rfl
theorem ls16 {a0 a1 a2 a3 a4 a5 a6 a7 a8 a9 a10 a11 a12 a13 a14 a15 a16 v : Option AV} {t : List (Option AV)} : List.set (a0 :: a1 :: a2 :: a3 :: a4 :: a5 :: a6 :: a7 :: a8 :: a9 :: a10 :: a11 :: a12 :: a13 :: a14 :: a15 :: a16 :: t) 16 v = a0 :: a1 :: a2 :: a3 :: a4 :: a5 :: a6 :: a7 :: a8 :: a9 :: a10 :: a11 :: a12 :: a13 :: a14 :: a15 :: v :: t := rfl
theorem lj16 {a0 a1 a2 a3 a4 a5 a6 a7 a8 a9 a10 a11 a12 a13 a14 a15 a16 a17 v u : Option AV} {t : List (Option AV)} : List.set (List.set (a0 :: a1 :: a2 :: a3 :: a4 :: a5 :: a6 :: a7 :: a8 :: a9 :: a10 :: a11 :: a12 :: a13 :: a14 :: a15 :: a16 :: a17 :: t) 16 v) (16 + 1) u = a0 :: a1 :: a2 :: a3 :: a4 :: a5 :: a6 :: a7 :: a8 :: a9 :: a10 :: a11 :: a12 :: a13 :: a14 :: a15 :: v :: u :: t := rfl
theorem ls17 {a0 a1 a2 a3 a4 a5 a6 a7 a8 a9 a10 a11 a12 a13 a14 a15 a16 a17 v : Option AV} {t : List (Option AV)} : List.set (a0 :: a1 :: a2 :: a3 :: a4 :: a5 :: a6 :: a7 :: a8 :: a9 :: a10 :: a11 :: a12 :: a13 :: a14 :: a15 :: a16 :: a17 :: t) 17 v = a0 :: a1 :: a2 :: a3 :: a4 :: a5 :: a6 :: a7 :: a8 :: a9 :: a10 :: a11 :: a12 :: a13 :: a14 :: a15 :: a16 :: v :: t := rfl
theorem lj17 {a0 a1 a2 a3 a4 a5 a6 a7 a8 a9 a10 a11 a12 a13 a14 a15 a16 a17 a18 v u : Option AV} {t : List (Option AV)} : List.set (List.set (a0 :: a1 :: a2 :: a3 :: a4 :: a5 :: a6 :: a7 :: a8 :: a9 :: a10 :: a11 :: a12 :: a13 :: a14 :: a15 :: a16 :: a17 :: a18 :: t) 17 v) (17 + 1) u = a0 :: a1 :: a2 :: a3 :: a4 :: a5 :: a6 :: a7 :: a8 :: a9 :: a10 :: a11 :: a12 :: a13 :: a14 :: a15 :: a16 :: v :: u :: t := rfl
theorem ls18 {a0 a1 a2 a3 a4 a5 a6 a7 a8 a9 a10 a11 a12 a13 a14 a15 a16 a17 a18 v : Option AV} {t : List (Option AV)} : List.set (a0 :: a1 :: a2 :: a3 :: a4 :: a5 :: a6 :: a7 :: a8 :: a9 :: a10 :: a11 :: a12 :: a13 :: a14 :: a15 :: a16 :: a17 :: a18 :: t) 18 v = a0 :: a1 :: a2 :: a3 :: a4 :: a5 :: a6 :: a7 :: a8 :: a9 :: a10 :: a11 :: a12 :: a13 :: a14 :: a15 :: a16 :: a17 :: v :: t := rfl
theorem lj18 {a0 a1 a2 a3 a4 a5 a6 a7 a8 a9 a10 a11 a12 a13 a14 a15 a16 a17 a18 a19 v u : Option AV} {t : List (Option AV)} : List.set (List.set (a0 :: a1 :: a2 :: a3 :: a4 :: a5 :: a6 :: a7 :: a8 :: a9 :: a10 :: a11 :: a12 :: a13 :: a14 :: a15 :: a16 :: a17 :: a18 :: a19 :: t) 18 v) (18 + 1) u = a0 :: a1 :: a2 :: a3 :: a4 :: a5 :: a6 :: a7 :: a8 :: a9 :: a10 :: a11 :: a12 :: a13 :: a14 :: a15 :: a16 :: a17 :: v :: u :: t := rfl
theorem ls19 {a0 a1 a2 a3 a4 a5 a6 a7 a8 a9 a10 a11 a12 a13 a14 a15 a16 a17 a18 a19 v : Option AV} {t : List (Option AV)} : List.set (a0 :: a1 :: a2 :: a3 :: a4 :: a5 :: a6 :: a7 :: a8 :: a9 :: a10 :: a11 :: a12 :: a13 :: a14 :: a15 :: a16 :: a17 :: a18 :: a19 :: t) 19 v = a0 :: a1 :: a2 :: a3 :: a4 :: a5 :: a6 :: a7 :: a8 :: a9 :: a10 :: a11 :: a12 :: a13 :: a14 :: a15 :: a16 :: a17 :: a18 :: v :: t := rfl
theorem lj19 {a0 a1 a2 a3 a4 a5 a6 a7 a8 a9 a10 a11 a12 a13 a14 a15 a16 a17 a18 a19 a20 v u : Option AV} {t : List (Option AV)} : List.set (List.set (a0 :: a1 :: a2 :: a3 :: a4 :: a5 :: a6 :: a7 :: a8 :: a9 :: a10 :: a11 :: a12 :: a13 :: a14 :: a15 :: a16 :: a17 :: a18 :: a19 :: a20 :: t) 19 v) (19 + 1) u = a0 :: a1 :: a2 :: a3 :: a4 :: a5 :: a6 :: a7 :: a8 :: a9 :: a10 :: a11 :: a12 :: a13 :: a14 :: a15 :: a16 :: a17 :: a18 :: v :: u :: t := rfl
