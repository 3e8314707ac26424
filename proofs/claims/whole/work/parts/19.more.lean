/-! ROWS OF THE MEMORY MACHINE: stacks of arguments, switches; memory read behind writes -/
theorem sk0 {st : List AV} : st = ([] : List AV).reverse ++ st := rfl
theorem sv0 {b : AV} {st : List AV} : b :: st = ([] : List AV).reverse ++ b :: st := rfl
theorem sk1 {a0 : AV} {st : List AV} : a0 :: st = [a0].reverse ++ st := rfl
theorem sv1 {a0 : AV} {b : AV} {st : List AV} : a0 :: b :: st = [a0].reverse ++ b :: st := rfl
theorem sk2 {a0 a1 : AV} {st : List AV} : a1 :: a0 :: st = [a0, a1].reverse ++ st := rfl
theorem sv2 {a0 a1 : AV} {b : AV} {st : List AV} : a1 :: a0 :: b :: st = [a0, a1].reverse ++ b :: st := rfl
theorem sk3 {a0 a1 a2 : AV} {st : List AV} : a2 :: a1 :: a0 :: st = [a0, a1, a2].reverse ++ st := rfl
theorem sv3 {a0 a1 a2 : AV} {b : AV} {st : List AV} : a2 :: a1 :: a0 :: b :: st = [a0, a1, a2].reverse ++ b :: st := rfl
theorem sk4 {a0 a1 a2 a3 : AV} {st : List AV} : a3 :: a2 :: a1 :: a0 :: st = [a0, a1, a2, a3].reverse ++ st := rfl
theorem sv4 {a0 a1 a2 a3 : AV} {b : AV} {st : List AV} : a3 :: a2 :: a1 :: a0 :: b :: st = [a0, a1, a2, a3].reverse ++ b :: st := rfl
theorem sk5 {a0 a1 a2 a3 a4 : AV} {st : List AV} : a4 :: a3 :: a2 :: a1 :: a0 :: st = [a0, a1, a2, a3, a4].reverse ++ st := rfl
theorem sv5 {a0 a1 a2 a3 a4 : AV} {b : AV} {st : List AV} : a4 :: a3 :: a2 :: a1 :: a0 :: b :: st = [a0, a1, a2, a3, a4].reverse ++ b :: st := rfl
theorem sk6 {a0 a1 a2 a3 a4 a5 : AV} {st : List AV} : a5 :: a4 :: a3 :: a2 :: a1 :: a0 :: st = [a0, a1, a2, a3, a4, a5].reverse ++ st := rfl
theorem sv6 {a0 a1 a2 a3 a4 a5 : AV} {b : AV} {st : List AV} : a5 :: a4 :: a3 :: a2 :: a1 :: a0 :: b :: st = [a0, a1, a2, a3, a4, a5].reverse ++ b :: st := rfl
theorem sk7 {a0 a1 a2 a3 a4 a5 a6 : AV} {st : List AV} : a6 :: a5 :: a4 :: a3 :: a2 :: a1 :: a0 :: st = [a0, a1, a2, a3, a4, a5, a6].reverse ++ st := rfl
theorem sv7 {a0 a1 a2 a3 a4 a5 a6 : AV} {b : AV} {st : List AV} : a6 :: a5 :: a4 :: a3 :: a2 :: a1 :: a0 :: b :: st = [a0, a1, a2, a3, a4, a5, a6].reverse ++ b :: st := rfl
theorem sk8 {a0 a1 a2 a3 a4 a5 a6 a7 : AV} {st : List AV} : a7 :: a6 :: a5 :: a4 :: a3 :: a2 :: a1 :: a0 :: st = [a0, a1, a2, a3, a4, a5, a6, a7].reverse ++ st := rfl
theorem sv8 {a0 a1 a2 a3 a4 a5 a6 a7 : AV} {b : AV} {st : List AV} : a7 :: a6 :: a5 :: a4 :: a3 :: a2 :: a1 :: a0 :: b :: st = [a0, a1, a2, a3, a4, a5, a6, a7].reverse ++ b :: st := rfl
def allI (P : Nat → Nat → Prop) : Nat → List Nat → Prop
  | _, [] => True
  | i, t :: ts => P i t ∧ allI P (i + 1) ts
theorem allI_at {P : Nat → Nat → Prop} : ∀ (ts : List Nat) (i j t : Nat), allI P i ts → ts[j]? = some t → P (i + j) t
  | [], i, j, t, h, hj => by simp at hj
  | u :: ts, i, 0, t, h, hj => by
    simp at hj
    subst hj
    exact h.1
  | u :: ts, i, j + 1, t, h, hj => by
    have := allI_at ts (i + 1) j t h.2 (by simpa using hj)
    rwa [show i + (j + 1) = i + 1 + j by omega]
theorem g_tsw {w : WC} {d : Nat} {y : MD} {Pq : Option AV → Mem → Prop} {bc bs pc : Nat} {L : List (Option AV)} {st : List AV} {μ : Mem} {dflt lo hi : Int} {offs : Array Int} {len td : Nat} {ts : List Nat} {a : Int} (hd : decode (dB y) pc = .ok (.tableswitch dflt lo hi offs, len)) (ha : i32 a) (hhi : hi = lo + ts.length - 1) (ht : offs.toList.map (fun q => (pc : Int) + q) = ts.map (fun (t : Nat) => (t : Int))) (htd : (pc : Int) + dflt = (td : Int))
    (kd : a < lo ∨ hi < a → G w d y Pq bc bs td L st μ) (kk : allI (fun i t => a = lo + (i : Int) → G w d y Pq bc bs t L st μ) 0 ts) : G w d y Pq bc bs pc L (vI a :: st) μ := by
  by_cases h : a < lo ∨ hi < a
  · exact g_tswOut hd ha h htd (kd h)
  · have h1 : lo ≤ a := by omega
    have h2 : a ≤ hi := by omega
    have hj : (a - lo).toNat < ts.length := by omega
    have hlen := congrArg List.length ht
    simp only [List.length_map, Array.length_toList] at hlen
    have hx := congrArg (fun l => l[(a - lo).toNat]?) ht
    simp only [List.getElem?_map, Array.getElem?_toList, List.getElem?_eq_getElem hj] at hx
    have ho : ∃ off, offs[(a - lo).toNat]? = some off := ⟨_, Array.getElem?_eq_getElem (by omega)⟩
    obtain ⟨off, ho⟩ := ho
    rw [ho] at hx
    simp only [Option.map_some, Option.some.injEq] at hx
    have := allI_at ts 0 (a - lo).toNat _ kk (List.getElem?_eq_getElem hj) (by omega)
    exact g_tswIn hd ha h1 h2 ho hx this
/-- memory read behind writes -/
theorem mI_sI (μ : Mem) (a : Nat) (k v : Int) (x : Nat) (j : Int) : mI (sI μ a k v) x j = if x = a ∧ j = k then v else mI μ x j := rfl
theorem mL_sL (μ : Mem) (a : Nat) (k v : Int) (x : Nat) (j : Int) : mL (sL μ a k v) x j = if x = a ∧ j = k then v else mL μ x j := rfl
theorem mR_sR (μ : Mem) (a : Nat) (k : Int) (v : Option Nat) (x : Nat) (j : Int) : mR (sR μ a k v) x j = if x = a ∧ j = k then v else mR μ x j := rfl
theorem mL_sI (μ : Mem) (a : Nat) (k v : Int) : mL (sI μ a k v) = mL μ := rfl
theorem mR_sI (μ : Mem) (a : Nat) (k v : Int) : mR (sI μ a k v) = mR μ := rfl
theorem mS_sI (μ : Mem) (a : Nat) (k v : Int) : mS (sI μ a k v) = mS μ := rfl
theorem mZ_sI (μ : Mem) (a : Nat) (k v : Int) : mZ (sI μ a k v) = mZ μ := rfl
theorem mI_sL (μ : Mem) (a : Nat) (k v : Int) : mI (sL μ a k v) = mI μ := rfl
theorem mR_sL (μ : Mem) (a : Nat) (k v : Int) : mR (sL μ a k v) = mR μ := rfl
theorem mS_sL (μ : Mem) (a : Nat) (k v : Int) : mS (sL μ a k v) = mS μ := rfl
theorem mZ_sL (μ : Mem) (a : Nat) (k v : Int) : mZ (sL μ a k v) = mZ μ := rfl
theorem mI_sR (μ : Mem) (a : Nat) (k : Int) (v : Option Nat) : mI (sR μ a k v) = mI μ := rfl
theorem mL_sR (μ : Mem) (a : Nat) (k : Int) (v : Option Nat) : mL (sR μ a k v) = mL μ := rfl
theorem mS_sR (μ : Mem) (a : Nat) (k : Int) (v : Option Nat) : mS (sR μ a k v) = mS μ := rfl
theorem mZ_sR (μ : Mem) (a : Nat) (k : Int) (v : Option Nat) : mZ (sR μ a k v) = mZ μ := rfl
theorem IsO.eq {w : WC} {μ μ2 : Mem} {a c : Nat} (h : IsO w μ a c) (hs : mS μ2 = mS μ) (hz : mZ μ2 = mZ μ) : IsO w μ2 a c := by unfold IsO; rw [hs, hz]; exact h
theorem IsA.eq {w : WC} {μ μ2 : Mem} {a t n : Nat} (h : IsA w μ a t n) (hs : mS μ2 = mS μ) (hz : mZ μ2 = mZ μ) : IsA w μ2 a t n := by unfold IsA; rw [hs, hz]; exact h
/-- ends -/
theorem G.retI {w : WC} {d : Nat} {y : MD} {Pq : Option AV → Mem → Prop} {bc bs pc : Nat} {L : List (Option AV)} {μ : Mem} {z : Int} (hd : decode (dB y) pc = .ok (.ireturn, 1)) (hr : dR y = some .int) (k : Pq (some (vI z)) μ) : G w d y Pq bc bs pc L [vI z] μ := G.ret (Or.inl ⟨z, hd, rfl, rfl, .int, hr, rfl⟩) k
theorem G.retZ {w : WC} {d : Nat} {y : MD} {Pq : Option AV → Mem → Prop} {bc bs pc : Nat} {L : List (Option AV)} {μ : Mem} {z : Int} (hd : decode (dB y) pc = .ok (.ireturn, 1)) (hr : dR y = some .boolean) (hz : z = 0 ∨ z = 1) (k : Pq (some (vI z)) μ) : G w d y Pq bc bs pc L [vI z] μ := G.ret (Or.inl ⟨z, hd, rfl, rfl, .boolean, hr, nar_bool hz⟩) k
theorem G.retJ {w : WC} {d : Nat} {y : MD} {Pq : Option AV → Mem → Prop} {bc bs pc : Nat} {L : List (Option AV)} {μ : Mem} {z : Int} (hd : decode (dB y) pc = .ok (.lreturn, 1)) (hr : dR y = some .long) (k : Pq (some (vJ z)) μ) : G w d y Pq bc bs pc L [vJ z] μ := G.ret (Or.inr (Or.inl ⟨z, hd, rfl, rfl, hr⟩)) k
theorem G.retV {w : WC} {d : Nat} {y : MD} {Pq : Option AV → Mem → Prop} {bc bs pc : Nat} {L : List (Option AV)} {μ : Mem} (hd : decode (dB y) pc = .ok (.return_, 1)) (hr : dR y = none) (k : Pq none μ) : G w d y Pq bc bs pc L [] μ := G.ret (Or.inr (Or.inr (Or.inr ⟨hd, rfl, rfl, hr⟩))) k
theorem G.retP {w : WC} {d : Nat} {y : MD} {Pq : Option AV → Mem → Prop} {bc bs pc : Nat} {L : List (Option AV)} {μ : Mem} {r : Option Nat} {t : FieldType} (hd : decode (dB y) pc = .ok (.areturn, 1)) (hr : dR y = some t) (ht : (∃ n, t = .object n) ∨ ∃ u, t = .array u) (k : Pq (some (vP r)) μ) : G w d y Pq bc bs pc L [vP r] μ := G.ret (Or.inr (Or.inr (Or.inl ⟨r, hd, rfl, rfl, t, hr, ht⟩))) k
theorem g_lif_lt {w : WC} {d : Nat} {y : MD} {Pq : Option AV → Mem → Prop} {bc bs pc : Nat} {L : List (Option AV)} {st : List AV} {μ : Mem} {a b : Int} {off : Int} {tgt : Nat} (hd : decode (dB y) pc = .ok (.lcmp, 1)) (hd2 : decode (dB y) (pc + 1) = .ok (.ifCond .lt off, 3)) (ht : ((pc + 1 : Nat) : Int) + off = (tgt : Int)) (ha : i64 a) (hb : i64 b) (kt : a < b → G w d y Pq bc bs tgt L st μ) (kf : b ≤ a → G w d y Pq bc bs (pc + 4) L st μ) : G w d y Pq bc bs pc L (vJ b :: vJ a :: st) μ := by
  refine g_lcmp hd ha hb ?_
  refine g_if_lt hd2 ht ?_ (fun h => kt ?_) (fun h => kf ?_)
  · split
    · omega
    · split <;> omega
  · split at h
    · omega
    · split at h <;> omega
  · split at h
    · omega
    · split at h <;> omega
theorem g_lif_ge {w : WC} {d : Nat} {y : MD} {Pq : Option AV → Mem → Prop} {bc bs pc : Nat} {L : List (Option AV)} {st : List AV} {μ : Mem} {a b : Int} {off : Int} {tgt : Nat} (hd : decode (dB y) pc = .ok (.lcmp, 1)) (hd2 : decode (dB y) (pc + 1) = .ok (.ifCond .ge off, 3)) (ht : ((pc + 1 : Nat) : Int) + off = (tgt : Int)) (ha : i64 a) (hb : i64 b) (kt : b ≤ a → G w d y Pq bc bs tgt L st μ) (kf : a < b → G w d y Pq bc bs (pc + 4) L st μ) : G w d y Pq bc bs pc L (vJ b :: vJ a :: st) μ := by
  refine g_lcmp hd ha hb ?_
  refine g_if_ge hd2 ht ?_ (fun h => kt ?_) (fun h => kf ?_)
  · split
    · omega
    · split <;> omega
  · split at h
    · omega
    · split at h <;> omega
  · split at h
    · omega
    · split at h <;> omega
theorem g_lif_gt {w : WC} {d : Nat} {y : MD} {Pq : Option AV → Mem → Prop} {bc bs pc : Nat} {L : List (Option AV)} {st : List AV} {μ : Mem} {a b : Int} {off : Int} {tgt : Nat} (hd : decode (dB y) pc = .ok (.lcmp, 1)) (hd2 : decode (dB y) (pc + 1) = .ok (.ifCond .gt off, 3)) (ht : ((pc + 1 : Nat) : Int) + off = (tgt : Int)) (ha : i64 a) (hb : i64 b) (kt : b < a → G w d y Pq bc bs tgt L st μ) (kf : a ≤ b → G w d y Pq bc bs (pc + 4) L st μ) : G w d y Pq bc bs pc L (vJ b :: vJ a :: st) μ := by
  refine g_lcmp hd ha hb ?_
  refine g_if_gt hd2 ht ?_ (fun h => kt ?_) (fun h => kf ?_)
  · split
    · omega
    · split <;> omega
  · split at h
    · omega
    · split at h <;> omega
  · split at h
    · omega
    · split at h <;> omega
theorem g_lif_le {w : WC} {d : Nat} {y : MD} {Pq : Option AV → Mem → Prop} {bc bs pc : Nat} {L : List (Option AV)} {st : List AV} {μ : Mem} {a b : Int} {off : Int} {tgt : Nat} (hd : decode (dB y) pc = .ok (.lcmp, 1)) (hd2 : decode (dB y) (pc + 1) = .ok (.ifCond .le off, 3)) (ht : ((pc + 1 : Nat) : Int) + off = (tgt : Int)) (ha : i64 a) (hb : i64 b) (kt : a ≤ b → G w d y Pq bc bs tgt L st μ) (kf : b < a → G w d y Pq bc bs (pc + 4) L st μ) : G w d y Pq bc bs pc L (vJ b :: vJ a :: st) μ := by
  refine g_lcmp hd ha hb ?_
  refine g_if_le hd2 ht ?_ (fun h => kt ?_) (fun h => kf ?_)
  · split
    · omega
    · split <;> omega
  · split at h
    · omega
    · split at h <;> omega
  · split at h
    · omega
    · split at h <;> omega
theorem g_lif_eq {w : WC} {d : Nat} {y : MD} {Pq : Option AV → Mem → Prop} {bc bs pc : Nat} {L : List (Option AV)} {st : List AV} {μ : Mem} {a b : Int} {off : Int} {tgt : Nat} (hd : decode (dB y) pc = .ok (.lcmp, 1)) (hd2 : decode (dB y) (pc + 1) = .ok (.ifCond .eq off, 3)) (ht : ((pc + 1 : Nat) : Int) + off = (tgt : Int)) (ha : i64 a) (hb : i64 b) (kt : a = b → G w d y Pq bc bs tgt L st μ) (kf : ¬ a = b → G w d y Pq bc bs (pc + 4) L st μ) : G w d y Pq bc bs pc L (vJ b :: vJ a :: st) μ := by
  refine g_lcmp hd ha hb ?_
  refine g_if_eq hd2 ht ?_ (fun h => kt ?_) (fun h => kf ?_)
  · split
    · omega
    · split <;> omega
  · split at h
    · omega
    · split at h <;> omega
  · split at h
    · omega
    · split at h <;> omega
theorem g_lif_ne {w : WC} {d : Nat} {y : MD} {Pq : Option AV → Mem → Prop} {bc bs pc : Nat} {L : List (Option AV)} {st : List AV} {μ : Mem} {a b : Int} {off : Int} {tgt : Nat} (hd : decode (dB y) pc = .ok (.lcmp, 1)) (hd2 : decode (dB y) (pc + 1) = .ok (.ifCond .ne off, 3)) (ht : ((pc + 1 : Nat) : Int) + off = (tgt : Int)) (ha : i64 a) (hb : i64 b) (kt : ¬ a = b → G w d y Pq bc bs tgt L st μ) (kf : a = b → G w d y Pq bc bs (pc + 4) L st μ) : G w d y Pq bc bs pc L (vJ b :: vJ a :: st) μ := by
  refine g_lcmp hd ha hb ?_
  refine g_if_ne hd2 ht ?_ (fun h => kt ?_) (fun h => kf ?_)
  · split
    · omega
    · split <;> omega
  · split at h
    · omega
    · split at h <;> omega
  · split at h
    · omega
    · split at h <;> omega
