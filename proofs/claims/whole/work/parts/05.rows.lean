/-! ROWS OF THE MEMORY MACHINE: places of rows (arrays), new cells -/
theorem va_K.rowT {w : WC} {U : State} (hK : va_K (wD w) vwCl (tysW w) U) {t : Nat} (h1 : 13 ≤ t) (h2 : t ≤ 18) : ArrOfT U (wA w t) (arTy t) ∧ va_RA U (wA w t) (arTy t) := hK.2 _ _ (tysW_at w h1 h2)
theorem row_upd {w : WC} {μ : Mem} {a t n : Nat} {i : Int} {v : AV} {H1 : Heap} (ho : IsA w μ a t n) (ht1 : 13 ≤ t) (ht2 : t ≤ 18) (hv : tyK (arTy t) = vK v) (h0 : 0 ≤ i) (e : H1[a]? = some ((arrV (wA w t) n (fun j => fv μ a (arTy t) j)).setSlot i.toNat (cv v))) : cOk w (sV μ a i v) a H1 := by
  refine Or.inr ?_
  rw [mS_sV, ho.2.2.1]
  refine ⟨ht1, ht2, ?_⟩
  rw [e, arrV_store]
  congr 2
  funext j
  unfold updV fv
  by_cases hj : j = i.toNat
  · have hji : (j : Int) = i := by omega
    rw [if_pos hj, hji, fa_set hv]
  · rw [if_neg hj, fa_ne (fun q => hj (by omega))]
section GA
variable {w : WC} {d : Nat} {y : MD} {Pq : Option AV → Mem → Prop} {bc bs pc : Nat} {L L2 : List (Option AV)} {st : List AV} {μ : Mem}
theorem g_iald {a n : Nat} {i : Int} (hd : decode (dB y) pc = .ok (.iaload, 1)) (ho : IsA w μ a 14 n) (h0 : 0 ≤ i) (h1 : i < n) (kk : G w d y Pq bc bs (pc + 1) L (vI (mI μ a i) :: st) μ) : G w d y Pq bc bs pc L (vI i :: vP (some a) :: st) μ := by
  refine G.go (fun p l e R s m args below meth c Q hx hb hL H locs lsr cells slots hR hS hlh kw => ?_) kk
  obtain ⟨hc, -⟩ := hR.row ho (by omega)
  obtain ⟨hA, -⟩ := va_K.rowT hL.2.2.2.2.2.2.2.1 (t := 14) (by omega) (by omega)
  have hi : i32 i := ⟨by omega, by have := ho.2.2.2; omega⟩
  have hin := iv_in h0 h1 ho.2.2.2
  refine W.iald (v := .int (iv (mI μ a i))) hx hb hc (hA _ _) (fun q => by cases q) (by rw [arrV_size]; exact hin) (by rw [iv_clamp hi, arrV_read _ _ (by omega)]; unfold fv; rw [Int.toNat_of_nonneg h0]; rfl) rfl rfl hd kw
theorem g_bald {a n : Nat} {i : Int} (hd : decode (dB y) pc = .ok (.baload, 1)) (ho : IsA w μ a 13 n) (h0 : 0 ≤ i) (h1 : i < n) (kk : G w d y Pq bc bs (pc + 1) L (vI (mI μ a i) :: st) μ) : G w d y Pq bc bs pc L (vI i :: vP (some a) :: st) μ := by
  refine G.go (fun p l e R s m args below meth c Q hx hb hL H locs lsr cells slots hR hS hlh kw => ?_) kk
  obtain ⟨hc, -⟩ := hR.row ho (by omega)
  obtain ⟨hA, -⟩ := va_K.rowT hL.2.2.2.2.2.2.2.1 (t := 13) (by omega) (by omega)
  have hi : i32 i := ⟨by omega, by have := ho.2.2.2; omega⟩
  have hin := iv_in h0 h1 ho.2.2.2
  refine W.bald (v := .int (iv (mI μ a i))) hx hb hc (hA _ _) (fun q => by cases q) (by rw [arrV_size]; exact hin) (by rw [iv_clamp hi, arrV_read _ _ (by omega)]; unfold fv; rw [Int.toNat_of_nonneg h0]; rfl) rfl rfl hd kw
theorem g_zald {a n : Nat} {i : Int} (hd : decode (dB y) pc = .ok (.baload, 1)) (ho : IsA w μ a 16 n) (h0 : 0 ≤ i) (h1 : i < n) (kk : G w d y Pq bc bs (pc + 1) L (vI (mI μ a i) :: st) μ) : G w d y Pq bc bs pc L (vI i :: vP (some a) :: st) μ := by
  refine G.go (fun p l e R s m args below meth c Q hx hb hL H locs lsr cells slots hR hS hlh kw => ?_) kk
  obtain ⟨hc, -⟩ := hR.row ho (by omega)
  obtain ⟨hA, -⟩ := va_K.rowT hL.2.2.2.2.2.2.2.1 (t := 16) (by omega) (by omega)
  have hi : i32 i := ⟨by omega, by have := ho.2.2.2; omega⟩
  have hin := iv_in h0 h1 ho.2.2.2
  refine W.zald (v := .int (iv (mI μ a i))) hx hb hc (hA _ _) (fun q => by cases q) (by rw [arrV_size]; exact hin) (by rw [iv_clamp hi, arrV_read _ _ (by omega)]; unfold fv; rw [Int.toNat_of_nonneg h0]; rfl) rfl rfl hd kw
theorem g_lald {a n : Nat} {i : Int} (hd : decode (dB y) pc = .ok (.laload, 1)) (ho : IsA w μ a 15 n) (h0 : 0 ≤ i) (h1 : i < n) (kk : G w d y Pq bc bs (pc + 1) L (vJ (mL μ a i) :: st) μ) : G w d y Pq bc bs pc L (vI i :: vP (some a) :: st) μ := by
  refine G.go (fun p l e R s m args below meth c Q hx hb hL H locs lsr cells slots hR hS hlh kw => ?_) kk
  obtain ⟨hc, -⟩ := hR.row ho (by omega)
  obtain ⟨hA, -⟩ := va_K.rowT hL.2.2.2.2.2.2.2.1 (t := 15) (by omega) (by omega)
  have hi : i32 i := ⟨by omega, by have := ho.2.2.2; omega⟩
  have hin := iv_in h0 h1 ho.2.2.2
  refine W.lald (v := .long (lg (mL μ a i))) hx hb hc (hA _ _) (fun q => by cases q) (by rw [arrV_size]; exact hin) (by rw [iv_clamp hi, arrV_read _ _ (by omega)]; unfold fv; rw [Int.toNat_of_nonneg h0]; rfl) rfl rfl hd kw
theorem g_aald {a n t : Nat} {i : Int} {r : Option Nat} (hd : decode (dB y) pc = .ok (.aaload, 1)) (ho : IsA w μ a t n) (ht : 17 ≤ t) (h0 : 0 ≤ i) (h1 : i < n) (hr : mR μ a i = r) (kk : G w d y Pq bc bs (pc + 1) L (vP r :: st) μ) : G w d y Pq bc bs pc L (vI i :: vP (some a) :: st) μ := by
  subst hr
  refine G.go (fun p l e R s m args below meth c Q hx hb hL H locs lsr cells slots hR hS hlh kw => ?_) kk
  obtain ⟨hc, ht2⟩ := hR.row ho (by omega)
  obtain ⟨hA, -⟩ := va_K.rowT hL.2.2.2.2.2.2.2.1 (t := t) (by omega) ht2
  have hi : i32 i := ⟨by omega, by have := ho.2.2.2; omega⟩
  have hin := iv_in h0 h1 ho.2.2.2
  have hk2 : tyK (arTy t) = 2 ∧ (arTy t).isReference = true := by
    rcases (by omega : t = 17 ∨ t = 18) with rfl | rfl <;> exact ⟨rfl, rfl⟩
  refine W.aald (v := va_rf (mR μ a i)) (ty := arTy t) hx hb hc (hA _ _) hk2.2 (fun q => by cases q) (by rw [arrV_size]; exact hin) (by rw [iv_clamp hi, arrV_read _ _ (by omega)]; unfold fv fa; rw [Int.toNat_of_nonneg h0, hk2.1]; rfl) rfl rfl hd kw
theorem g_iast {a n : Nat} {i z : Int} (hd : decode (dB y) pc = .ok (.iastore, 1)) (ho : IsA w μ a 14 n) (h0 : 0 ≤ i) (h1 : i < n) (kk : G w d y Pq bc bs (pc + 1) L st (sI μ a i z)) : G w d y Pq bc bs pc L (vI z :: vI i :: vP (some a) :: st) μ := by
  refine G.put (k := i) (v := vI z) ho.1 (fun p l e R s m args below meth c Q hx hb hL H locs lsr cells slots hR hS kw => ?_) kk
  obtain ⟨hc, -⟩ := hR.row ho (by omega)
  obtain ⟨hA, -⟩ := va_K.rowT hL.2.2.2.2.2.2.2.1 (t := 14) (by omega) (by omega)
  have hi : i32 i := ⟨by omega, by have := ho.2.2.2; omega⟩
  have hin := iv_in h0 h1 ho.2.2.2
  refine W.iast hx hb hc (hA _ _) (fun q => by cases q) (by rw [arrV_size]; exact hin) rfl rfl hd fun H1 e z oq => kw H1 _ z oq (row_upd ho (by omega) (by omega) rfl h0 ?_)
  rw [iv_clamp hi] at e
  exact e
theorem g_last {a n : Nat} {i z : Int} (hd : decode (dB y) pc = .ok (.lastore, 1)) (ho : IsA w μ a 15 n) (h0 : 0 ≤ i) (h1 : i < n) (kk : G w d y Pq bc bs (pc + 1) L st (sL μ a i z)) : G w d y Pq bc bs pc L (vJ z :: vI i :: vP (some a) :: st) μ := by
  refine G.put (k := i) (v := vJ z) ho.1 (fun p l e R s m args below meth c Q hx hb hL H locs lsr cells slots hR hS kw => ?_) kk
  obtain ⟨hc, -⟩ := hR.row ho (by omega)
  obtain ⟨hA, -⟩ := va_K.rowT hL.2.2.2.2.2.2.2.1 (t := 15) (by omega) (by omega)
  have hi : i32 i := ⟨by omega, by have := ho.2.2.2; omega⟩
  have hin := iv_in h0 h1 ho.2.2.2
  refine W.last hx hb hc (hA _ _) (fun q => by cases q) (by rw [arrV_size]; exact hin) rfl rfl hd fun H1 e z oq => kw H1 _ z oq (row_upd ho (by omega) (by omega) rfl h0 ?_)
  rw [iv_clamp hi] at e
  exact e
theorem nar_byte {z : Int} (h : -128 ≤ z ∧ z ≤ 127) : narrow .byte (.int (iv z)) = .int (iv z) := by
  rw [narrow_byte]
  congr 1
  rw [← Int32.toInt_inj, Int8.toInt_toInt32, Int32.toInt_toInt8, iv_toInt ⟨by omega, by omega⟩]
  exact Int.bmod_eq_of_le (by omega) (by omega)
theorem nar_b0 : narrow .boolean (.int (iv 0)) = .int (iv 0) := rfl
theorem nar_b1 : narrow .boolean (.int (iv 1)) = .int (iv 1) := rfl
theorem nar_bool {z : Int} (h : z = 0 ∨ z = 1) : narrow .boolean (.int (iv z)) = .int (iv z) := by
  rcases h with rfl | rfl
  · exact nar_b0
  · exact nar_b1
theorem g_bast {a n : Nat} {i z : Int} (hd : decode (dB y) pc = .ok (.bastore, 1)) (ho : IsA w μ a 13 n) (h0 : 0 ≤ i) (h1 : i < n) (hz : -128 ≤ z ∧ z ≤ 127) (kk : G w d y Pq bc bs (pc + 1) L st (sI μ a i z)) : G w d y Pq bc bs pc L (vI z :: vI i :: vP (some a) :: st) μ := by
  refine G.put (k := i) (v := vI z) ho.1 (fun p l e R s m args below meth c Q hx hb hL H locs lsr cells slots hR hS kw => ?_) kk
  obtain ⟨hc, -⟩ := hR.row ho (by omega)
  obtain ⟨hA, -⟩ := va_K.rowT hL.2.2.2.2.2.2.2.1 (t := 13) (by omega) (by omega)
  have hi : i32 i := ⟨by omega, by have := ho.2.2.2; omega⟩
  have hin := iv_in h0 h1 ho.2.2.2
  refine W.bast hx hb hc (hA _ _) (fun q => by cases q) (by rw [arrV_size]; exact hin) rfl rfl hd fun H1 e z oq => kw H1 _ z oq (row_upd ho (by omega) (by omega) rfl h0 ?_)
  rw [iv_clamp hi, nar_byte hz] at e
  exact e
theorem g_zast {a n : Nat} {i z : Int} (hd : decode (dB y) pc = .ok (.bastore, 1)) (ho : IsA w μ a 16 n) (h0 : 0 ≤ i) (h1 : i < n) (hz : z = 0 ∨ z = 1) (kk : G w d y Pq bc bs (pc + 1) L st (sI μ a i z)) : G w d y Pq bc bs pc L (vI z :: vI i :: vP (some a) :: st) μ := by
  refine G.put (k := i) (v := vI z) ho.1 (fun p l e R s m args below meth c Q hx hb hL H locs lsr cells slots hR hS kw => ?_) kk
  obtain ⟨hc, -⟩ := hR.row ho (by omega)
  obtain ⟨hA, -⟩ := va_K.rowT hL.2.2.2.2.2.2.2.1 (t := 16) (by omega) (by omega)
  have hi : i32 i := ⟨by omega, by have := ho.2.2.2; omega⟩
  have hin := iv_in h0 h1 ho.2.2.2
  refine W.zast hx hb hc (hA _ _) (fun q => by cases q) (by rw [arrV_size]; exact hin) rfl rfl hd fun H1 e z oq => kw H1 _ z oq (row_upd ho (by omega) (by omega) rfl h0 ?_)
  rw [iv_clamp hi, nar_bool hz] at e
  exact e
theorem g_aast {a n t b ci : Nat} {i : Int} {C : String} {T : u_T} {N : Nat} (hd : decode (dB y) pc = .ok (.aastore, 1)) (ho : IsA w μ a t n) (ht : 17 ≤ t) (hv : IsO w μ b ci) (hcl : vwCl[ci]? = some (C, T, N)) (hci : ci < 13) (hC : arTy t = .object C) (h0 : 0 ≤ i) (h1 : i < n) (kk : G w d y Pq bc bs (pc + 1) L st (sR μ a i (some b))) : G w d y Pq bc bs pc L (vP (some b) :: vI i :: vP (some a) :: st) μ := by
  refine G.put (k := i) (v := vP (some b)) ho.1 (fun p l e R s m args below meth c Q hx hb hL H locs lsr cells slots hR hS kw => ?_) kk
  obtain ⟨hc, ht2⟩ := hR.row ho (by omega)
  have hK := hL.2.2.2.2.2.2.2.1
  obtain ⟨hA, hRA⟩ := va_K.rowT hK (t := t) (by omega) ht2
  rw [hC] at hRA
  have hi : i32 i := ⟨by omega, by have := ho.2.2.2; omega⟩
  have hin := iv_in h0 h1 ho.2.2.2
  have hk2 : tyK (arTy t) = 2 := by rw [hC]; rfl
  obtain ⟨cellV, g1, g2, g3, -⟩ := hR.obj hv hcl hci
  have hcls := (hK.1 ci _ hcl).2
  obtain ⟨kA, comp, k1, k2, k3, -⟩ := hRA
  have hcomp : comp = (wD w).1 ci := Option.some.inj (k3.symm.trans hcls.1)
  subst hcomp
  obtain ⟨kC, hkC, -⟩ := hcls.2
  refine W.aast hx hb hc (fun q h => by cases h) (fun h => by cases h) k1 k2 rfl hkC ⟨fun q => hin (Or.inl q), by show _ < (arrV _ _ _).slots.size; rw [arrV_size]; exact Nat.not_le.mp fun q => hin (Or.inr q)⟩ g1 (fun q h => by rw [g3] at h; cases h) (by rw [g2]; exact hkC) (by rw [g2]; exact va_assign hcls) rfl rfl hd fun H1 e z oq => kw H1 _ z oq (row_upd ho (by omega) ht2 hk2 h0 ?_)
  rw [iv_clamp hi] at e
  exact e
theorem g_alen {a n t : Nat} (hd : decode (dB y) pc = .ok (.arraylength, 1)) (ho : IsA w μ a t n) (ht : 13 ≤ t) (kk : G w d y Pq bc bs (pc + 1) L (vI n :: st) μ) : G w d y Pq bc bs pc L (vP (some a) :: st) μ := by
  refine G.go (fun p l e R s m args below meth c Q hx hb hL H locs lsr cells slots hR hS hlh kw => ?_) kk
  obtain ⟨hc, ht2⟩ := hR.row ho ht
  obtain ⟨hA, -⟩ := va_K.rowT hL.2.2.2.2.2.2.2.1 ht ht2
  exact W.alen (n := iv n) hx hb hc (hA _ _) (by rw [arrV_size]; exact Int32.ofInt_eq_ofNat.symm) rfl rfl hd kw
end GA
