/-! THE LAW'S ENTRY: its words -/
def lwF : List Cond := flatC (Jvm.Cond.and given_1 narrow_1)
def tmT (i : Nat) : Term := match txR[i]? with
  | some r => .string r.1 r.2.1
  | none => .string "" 0
def tmV (i : Nat) : Term := .field (tmT i) "java/lang/String" "value" "[B"
set_option maxRecDepth 100000 in
theorem tw_ex : ∀ i, i < 11 → Cond.exactly (tmT i) "java/lang/String" ∈ lwF := by decide +kernel
set_option maxRecDepth 100000 in
theorem tw_co : ∀ i, i < 11 → Cond.eq (.field (tmT i) "java/lang/String" "coder" "B") (.int 0) ∈ lwF := by decide +kernel
set_option maxRecDepth 100000 in
theorem tw_ar : ∀ i, i < 11 → Cond.arrayOf (tmV i) .byte ∈ lwF := by decide +kernel
set_option maxRecDepth 100000 in
theorem tw_le : ∀ i, i < 11 → Cond.eq (.length (tmV i)) (.int (Int32.ofNat (txL.getD i 0))) ∈ lwF := by decide +kernel
set_option maxRecDepth 100000 in
theorem tw_el : ∀ i, i < 11 → ∀ j, j < txL.getD i 0 → Cond.eq (.elem (tmV i) (.int (Int32.ofNat j))) (.int ((txB.getD i []).getD j 0)) ∈ lwF := by decide +kernel
set_option maxRecDepth 100000 in
theorem tw_ne : ∀ j, j < 11 → ∀ i, i < j → Cond.not (Cond.eq (tmT i) (tmT j)) ∈ lwF := by decide +kernel
theorem tw_N : ∀ i, i < 11 → txL.getD i 0 < 2 ^ 31 := by decide
set_option maxRecDepth 100000 in
theorem tw_eq : ∀ r ∈ txR, r.2.2.2 < 11 ∧ (Term.string r.1 r.2.1 = tmT r.2.2.2 ∨ Cond.eq (tmT r.2.2.2) (.string r.1 r.2.1) ∈ lwF) := by decide +kernel
theorem tw_cs : Cond.eq (.static "java/lang/String" "COMPACT_STRINGS" "Z") (.int 1) ∈ lwF := by decide +kernel
theorem tw_sf : Cond.isRef (.static "jdk/internal/util/Preconditions" "SIOOBE_FORMATTER" "Ljava/util/function/BiFunction;") ∈ lwF := by decide +kernel
theorem tt_ls : Cond.laysStatic "java/lang/String" "COMPACT_STRINGS" "Z" ∈ lw_tbl := List.mem_append_right _ (List.mem_of_getElem? (i := 503) (by decide +kernel))
theorem tt_is : Cond.initialized "java/lang/String" ∈ lw_tbl := List.mem_append_right _ (List.mem_of_getElem? (i := 14) (by decide +kernel))
theorem tt_lp : Cond.laysStatic "jdk/internal/util/Preconditions" "SIOOBE_FORMATTER" "Ljava/util/function/BiFunction;" ∈ lw_tbl := List.mem_append_right _ (List.mem_of_getElem? (i := 519) (by decide +kernel))
theorem tt_ip : Cond.initialized "jdk/internal/util/Preconditions" ∈ lw_tbl := List.mem_append_right _ (List.mem_of_getElem? (i := 16) (by decide +kernel))
theorem tt_r0 : Cond.stringRef "ToldPowers" 357 "line" ∈ lw_tbl := List.mem_append_right _ (List.mem_of_getElem? (i := 485) (by decide +kernel))
theorem tt_r1 : Cond.stringRef "ToldPowers" 359 "square" ∈ lw_tbl := List.mem_append_right _ (List.mem_of_getElem? (i := 486) (by decide +kernel))
theorem tt_r2 : Cond.stringRef "ToldPowers" 361 "cube" ∈ lw_tbl := List.mem_append_right _ (List.mem_of_getElem? (i := 487) (by decide +kernel))
theorem tt_r3 : Cond.stringRef "ToldPowers" 363 "fourth" ∈ lw_tbl := List.mem_append_right _ (List.mem_of_getElem? (i := 488) (by decide +kernel))
theorem tt_r4 : Cond.stringRef "ToldPowers" 365 "three" ∈ lw_tbl := List.mem_append_right _ (List.mem_of_getElem? (i := 489) (by decide +kernel))
theorem tt_r5 : Cond.stringRef "ToldPowers$FormReader" 66 "from" ∈ lw_tbl := List.mem_append_right _ (List.mem_of_getElem? (i := 546) (by decide +kernel))
theorem tt_r6 : Cond.stringRef "ToldPowers$FormReader" 91 "to" ∈ lw_tbl := List.mem_append_right _ (List.mem_of_getElem? (i := 576) (by decide +kernel))
theorem tt_r7 : Cond.stringRef "ToldPowers$ProofReader" 71 "not" ∈ lw_tbl := List.mem_append_right _ (List.mem_of_getElem? (i := 720) (by decide +kernel))
theorem tt_r8 : Cond.stringRef "ToldPowers" 351 " from " ∈ lw_tbl := List.mem_append_right _ (List.mem_of_getElem? (i := 1121) (by decide +kernel))
theorem tt_r9 : Cond.stringRef "ToldPowers" 353 " to " ∈ lw_tbl := List.mem_append_right _ (List.mem_of_getElem? (i := 1122) (by decide +kernel))
theorem tt_r10 : Cond.stringRef "ToldPowers" 355 " not" ∈ lw_tbl := List.mem_append_right _ (List.mem_of_getElem? (i := 1131) (by decide +kernel))
theorem tt_r11 : Cond.stringRef "ToldPowersModel" 196 "line" ∈ lw_tbl := List.mem_append_right _ (List.mem_of_getElem? (i := 1353) (by decide +kernel))
theorem tt_r12 : Cond.stringRef "ToldPowersModel" 202 "square" ∈ lw_tbl := List.mem_append_right _ (List.mem_of_getElem? (i := 1363) (by decide +kernel))
theorem tt_r13 : Cond.stringRef "ToldPowersModel" 204 "cube" ∈ lw_tbl := List.mem_append_right _ (List.mem_of_getElem? (i := 1364) (by decide +kernel))
theorem tt_r14 : Cond.stringRef "ToldPowersModel" 206 "fourth" ∈ lw_tbl := List.mem_append_right _ (List.mem_of_getElem? (i := 1365) (by decide +kernel))
theorem tt_r15 : Cond.stringRef "ToldPowersModel" 208 "three" ∈ lw_tbl := List.mem_append_right _ (List.mem_of_getElem? (i := 1366) (by decide +kernel))
theorem tt_r16 : Cond.stringRef "ToldPowersModel" 227 "from" ∈ lw_tbl := List.mem_append_right _ (List.mem_of_getElem? (i := 1380) (by decide +kernel))
theorem tt_r17 : Cond.stringRef "ToldPowersModel" 242 "to" ∈ lw_tbl := List.mem_append_right _ (List.mem_of_getElem? (i := 1405) (by decide +kernel))
theorem tt_r18 : Cond.stringRef "ToldPowersModel" 330 "not" ∈ lw_tbl := List.mem_append_right _ (List.mem_of_getElem? (i := 1513) (by decide +kernel))
theorem tt_r19 : Cond.stringRef "ToldPowersModel" 458 " from " ∈ lw_tbl := List.mem_append_right _ (List.mem_of_getElem? (i := 1707) (by decide +kernel))
theorem tt_r20 : Cond.stringRef "ToldPowersModel" 460 " to " ∈ lw_tbl := List.mem_append_right _ (List.mem_of_getElem? (i := 1708) (by decide +kernel))
theorem tt_r21 : Cond.stringRef "ToldPowersModel" 462 " not" ∈ lw_tbl := List.mem_append_right _ (List.mem_of_getElem? (i := 1713) (by decide +kernel))
theorem tt_R : ∀ r ∈ txR, Cond.stringRef r.1 r.2.1 r.2.2.1 ∈ lw_tbl := List.forall_mem_cons.mpr ⟨tt_r0, List.forall_mem_cons.mpr ⟨tt_r1, List.forall_mem_cons.mpr ⟨tt_r2, List.forall_mem_cons.mpr ⟨tt_r3, List.forall_mem_cons.mpr ⟨tt_r4, List.forall_mem_cons.mpr ⟨tt_r5, List.forall_mem_cons.mpr ⟨tt_r6, List.forall_mem_cons.mpr ⟨tt_r7, List.forall_mem_cons.mpr ⟨tt_r8, List.forall_mem_cons.mpr ⟨tt_r9, List.forall_mem_cons.mpr ⟨tt_r10, List.forall_mem_cons.mpr ⟨tt_r11, List.forall_mem_cons.mpr ⟨tt_r12, List.forall_mem_cons.mpr ⟨tt_r13, List.forall_mem_cons.mpr ⟨tt_r14, List.forall_mem_cons.mpr ⟨tt_r15, List.forall_mem_cons.mpr ⟨tt_r16, List.forall_mem_cons.mpr ⟨tt_r17, List.forall_mem_cons.mpr ⟨tt_r18, List.forall_mem_cons.mpr ⟨tt_r19, List.forall_mem_cons.mpr ⟨tt_r20, List.forall_mem_cons.mpr ⟨tt_r21, fun _ h => absurd h List.not_mem_nil⟩⟩⟩⟩⟩⟩⟩⟩⟩⟩⟩⟩⟩⟩⟩⟩⟩⟩⟩⟩⟩⟩
