/-! THE LAW'S ENTRY -/
theorem nest_of {x : Cond} {U : State} {A : Array Value} (hn : nestW x = true) (h : x.before A U = true) : va_Nw x U := by
  unfold nestW at hn
  split at hn
  · exact va_Nw.of rfl h
  · exact va_Nw.of rfl h
  · exact va_AO.of h
  · cases hn
theorem arP {s : State} {args : Array Value} {ty : FieldType} (h : (Cond.arrayClass ty).before args s = true) : ∃ c : ClassId, ArrOfT s c ty ∧ s.vm.findClass ("[" ++ ty.toString) = some c := by
  obtain ⟨c, k, comp, h1, h2, h3⟩ := Cond.arrayClass_spec h
  exact ⟨c, fun n z => ⟨fun k h => (by cases h), k, h2, comp, h3⟩, h1⟩
theorem arO {s : State} {args : Array Value} {C : String} (h : (Cond.arrayOver (.object C)).before args s = true) : ∃ c : ClassId, ArrOfT s c (.object C) ∧ va_RA s c (.object C) := by
  obtain ⟨comp, c, k, h1, h2, h3, h4, h5⟩ := Cond.arrayOver_spec h
  exact ⟨c, fun n z => ⟨fun k h => (by cases h), k, h3, comp, h4⟩, k, comp, h3, h4, h1, h5⟩
theorem kn_of {ci : Nat} {C : String} {T : u_T} {N n : Nat} {s : State} {args : Array Value} (hok : ClOk ci C T N) (hi : Cond.instantiable C n ∈ lw_use) (hts : ∀ x ∈ lw_use, x.before args s = true) : ∃ x : ClassId × (Nat → Nat), ∀ q : vw_C, vwCl[ci]? = some q → u_Kn s q.1 q.2.1 q.2.2 x.1 x.2 := by
  obtain ⟨c, iS, h⟩ := u_known hts hok.2.2.1 (hts _ hi)
  refine ⟨(c, iS), fun q hq => ?_⟩
  rw [hok.2.1] at hq
  cases hq
  exact h
theorem kn_all {s : State} {args : Array Value} (hts : ∀ x ∈ lw_use, x.before args s = true) : ∃ D : va_G, ∀ (c : Nat) (q : vw_C), vwCl[c]? = some q → u_Kn s q.1 q.2.1 q.2.2 (D.1 c) (D.2 c) := by
  have h0 : ∀ c : Nat, ∃ x : ClassId × (Nat → Nat), ∀ q : vw_C, vwCl[c]? = some q → u_Kn s q.1 q.2.1 q.2.2 x.1 x.2 := by
    intro c
    match c with
    | 0 => exact kn_of okX0 ibX0 hts
    | 1 => exact kn_of okX1 ibX1 hts
    | 2 => exact kn_of okX2 ibX2 hts
    | 3 => exact kn_of okX3 ibX3 hts
    | 4 => exact kn_of okX4 ibX4 hts
    | 5 => exact kn_of okX5 ibX5 hts
    | 6 => exact kn_of okX6 ibX6 hts
    | 7 => exact kn_of okX7 ibX7 hts
    | 8 => exact kn_of okX8 ibX8 hts
    | 9 => exact kn_of okX9 ibX9 hts
    | 10 => exact kn_of okX10 ibX10 hts
    | 11 => exact kn_of okX11 ibX11 hts
    | 12 => exact kn_of okX12 ibX12 hts
    | k + 13 => exact ⟨((0 : Nat), fun _ => 0), fun q hq => by cases hq⟩
  obtain ⟨f, hf⟩ := Classical.axiomOfChoice h0
  exact ⟨(fun c => (f c).1, fun c => (f c).2), fun c q hq => hf c q hq⟩
def mem0 (n : Nat) : Mem := (fun _ _ => 0, fun _ _ => 0, fun _ _ => none, fun _ => (0, 0), n)
set_option maxHeartbeats 4000000 in
set_option maxRecDepth 100000 in
theorem whole_start {p : Program} {e : Env} {s : State} {m : MethodId} {below : List Frame} {meth : Method} {c : Code} (l : Launch) (hflags : l.flags = flags0) {b L : Nat} {xs : Nat → Int32} (hL : L ≤ 4096) (C0 : lw_At p s m meth c b L xs) : W p l e room_1 s m #[Value.ref b] below meth c s.heap [] 0 0 (lw_Z below #[Value.ref b] s) (entryFrame m ([Value.ref b] : List Value).toArray 4) := by
  obtain ⟨hx, hb, hr, hml, hown, hts, hX, hbl, hlocks, hgv⟩ := id C0
  have hA : ∀ a : Nat, a < s.heap.size → ¬ (fun q : Nat => s.heap.size ≤ q) a := fun a h => Nat.not_le.mpr h
  have hs : ∀ x ∈ lwF, x.before #[Value.ref b] s = true := flat_of_before _ hgv
  have hu : ∀ x ∈ lw_use, x.before #[Value.ref b] s = true := fun x hm => hts x (List.mem_filter.mp hm).1
  obtain ⟨D, hD⟩ := kn_all hu
  obtain ⟨a13, r13, n13⟩ := arP (hu _ ac_byte)
  obtain ⟨a14, r14, n14⟩ := arP (hu _ ac_int)
  obtain ⟨a15, r15, n15⟩ := arP (hu _ ac_long)
  obtain ⟨a16, r16, n16⟩ := arP (hu _ ac_boolean)
  obtain ⟨a17, r17, n17⟩ := arO (hu _ aoX1)
  obtain ⟨a18, r18, n18⟩ := arO (hu _ aoX9)
  obtain ⟨adK, adV, hE, hAd⟩ := vk_Sof (s := s) (args := #[Value.ref b]) (tm := tmT) (len := txL) (byt := txB) tw_N (fun i hi => hs _ (tw_ex i hi)) (fun i hi => hs _ (tw_co i hi)) (fun i hi => hs _ (tw_ar i hi)) (fun i hi => hs _ (tw_le i hi)) (fun i hi j hj => hs _ (tw_el i hi j hj)) (fun i j hi hj hij => (Nat.lt_or_gt_of_ne hij).imp (fun z => hs _ (tw_ne j hj i z)) (fun z => hs _ (tw_ne i hi j z))) hA
  obtain ⟨w, ew⟩ : ∃ w : WC, w = (D, (fun t => if t = 13 then a13 else if t = 14 then a14 else if t = 15 then a15 else if t = 16 then a16 else if t = 17 then a17 else a18), s.heap.size, adK, adV, (b, L, xs)) := ⟨_, rfl⟩
  have eB : wB w = s.heap.size := by rw [ew]; rfl
  have eX : wX w = (b, L, xs) := by rw [ew]; rfl
  have hT : va_T .int b L (fun j => .int (xs j)) (fun q => s.heap.size ≤ q) s s.heap := by
    obtain ⟨scr, h1, h2, h3, h4, h5⟩ := hX
    exact ⟨scr, h1, h2, h3, Nat.le_of_eq h4.symm, by rw [h4], h5, hA b hbl⟩
  have hTx : TxOk w s := by
    subst ew
    refine ⟨fun x hm hn => nest_of hn (hts x hm), hE, fun r hr => ?_, va_Zof (hts _ tt_ls) (hts _ tt_is) (va_eqi (hs _ tw_cs)) hA, va_Zqof (hts _ tt_lp) (hts _ tt_ip) (hs _ tw_sf) hA, hT⟩
    obtain ⟨h1, h2⟩ := tw_eq r hr
    refine vk_R.of (hts _ (tt_R r hr)) ?_
    rcases h2 with h2 | h2
    · rw [h2]
      exact hAd _ h1
    · exact va_eqR (hs _ h2) (hAd _ h1)
  have hK : va_K (wD w) vwCl (tysW w) s := by
    subst ew
    refine ⟨hD, fun k q hq => ?_⟩
    match k, hq with
    | 0, hq => cases hq; exact ⟨r13, n13⟩
    | 1, hq => cases hq; exact ⟨r14, n14⟩
    | 2, hq => cases hq; exact ⟨r15, n15⟩
    | 3, hq => cases hq; exact ⟨r16, n16⟩
    | 4, hq => cases hq; exact ⟨r17, n17⟩
    | 5, hq => cases hq; exact ⟨r18, n18⟩
    | k + 6, hq => cases hq
  have hLive : Live w 48 mL_law p room_1 s m #[Value.ref b] meth c := ⟨hx, hb, hr, hml, hown, hu, hlocks, hK, fun z => absurd z (by decide), Nat.le_of_eq eB, Nat.le_of_ble_eq_true rfl, Nat.le_of_ble_eq_true rfl, hTx⟩
  have hEnd : EndOk w mL_law LwQ p l e room_1 s m #[Value.ref b] below meth c (lw_Z below #[Value.ref b] s) := by
    intro v μ H locs lsr cells slots pc st hret hR hS hP hc hsl
    have hS' := hS.2.2
    rw [eB] at hS'
    refine va_forget (fun q hq => hS' q hq) ?_
    refine W.widen (k := 600000) (n := 7302250) hc hsl ?_
    rcases hret with ⟨z, h1, rfl, rfl, -⟩ | ⟨z, h1, rfl, rfl, -⟩ | ⟨r, h1, rfl, rfl, -⟩ | ⟨h1, rfl, rfl, -⟩
    · have ez : z = 1 := by cases hP; rfl
      subst ez
      exact lw_ret hx hb hr hlocks h1
    · cases hP
    · cases hP
    · cases hP
  have hl := lv_entry ([.ref b]) (n := 4) (Nat.le_of_ble_eq_true rfl)
  rw [lg_entry_eq]
  generalize (lg_sl ([.ref b]) ++ List.replicate (4 - (lg_sl ([.ref b])).length) Slot.unset).toArray = ls at hl ⊢
  have hlh : lh ls (dL mL_law) [some (vP (some (wX w).1)), none, none, none] := lh.of hl fun k v hk => by
    rw [eX] at hk
    match k, hk with
    | 0, hk => cases hk; exact List.mem_cons_self
    | 1, hk => cases hk
    | 2, hk => cases hk
    | 3, hk => cases hk
    | k + 4, hk => cases hk
  have hRep : Rep w (mem0 s.heap.size) s.heap := ⟨rfl, Nat.le_of_eq eB, fun a h1 h2 => absurd (Nat.lt_of_lt_of_le h2 (by rw [← eB]; exact h1)) (Nat.lt_irrefl _)⟩
  have hG := g_law w (mem0 s.heap.size) (Nat.le_of_eq eB) (by rw [eX]; exact hL)
  exact hG p l e room_1 s m #[Value.ref b] below meth c _ hLive hEnd s.heap [] ls 0 0 hRep va_S.rf hlh (Nat.le_of_ble_eq_true rfl) (Nat.le_of_ble_eq_true rfl)
