/-! THE LAW: its cases -/
theorem g_icmpS {w : WC} {d : Nat} {y : MD} {Pq : Option AV → Mem → Prop} {bc bs pc : Nat} {L : List (Option AV)} {st : List AV} {μ : Mem} {a : Int} {off : Int} {tgt : Nat} (hd : decode (dB y) pc = .ok (.if_icmp .eq off, 3)) (ht : (pc : Int) + off = (tgt : Int)) (kt : G w d y Pq bc bs tgt L st μ) : G w d y Pq bc bs pc L (vI a :: vI a :: st) μ :=
  G.br (A := True) (pc2 := tgt) (pc3 := pc + 3) (st2 := st) (fun _ _ _ _ _ _ _ _ _ _ _ hx hb0 H locs lsr cells slots A1 A2 => lv_icmp_eq hx hb0 hd ht (fun _ => A1 trivial) (fun h => absurd rfl h)) (fun _ => kt) (fun h => absurd trivial h)
theorem g_lcmpS {w : WC} {d : Nat} {y : MD} {Pq : Option AV → Mem → Prop} {bc bs pc : Nat} {L : List (Option AV)} {st : List AV} {μ : Mem} {a : Int} (hd : decode (dB y) pc = .ok (.lcmp, 1)) (kk : G w d y Pq bc bs (pc + 1) L (vI 0 :: st) μ) : G w d y Pq bc bs pc L (vJ a :: vJ a :: st) μ := by
  refine G.go (fun _ _ _ _ _ _ _ _ _ _ _ hx hb hL H locs lsr cells slots hR hS hlh k => W.lcmp hx hb hd ?_) kk
  have e : lg_cmp (lg a) (lg a) = iv 0 := by
    unfold lg_cmp
    rw [if_neg (by intro z; exact absurd z (Int64.lt_irrefl)), if_pos rfl]
    rfl
  rw [e]
  exact k
def sq (w : WC) (i k : Int) : Int := ((wX w).2.2 (i + k).toNat).toInt
theorem sq_i (w : WC) (i k : Int) : i32 (sq w i k) := i32_of _
def LwQ (v : Option AV) (_ : Mem) : Prop := v = some (vI 1)
def LwK (w : WC) (x k : Nat) (i : Int) : Prop := ∀ (μ2 : Mem) (S2 : LSt) (N2 bc2 bs2 : Nat), CS w μ2 x S2 N2 → Mst w μ2 (x + 99) S2 → 200 * k ≤ bc2 → 12002 * k + pot N2 ≤ bs2 → G w 48 mL_law LwQ bc2 bs2 1615 [some (vP (some (wX w).1)), some (vP (some x)), some (vP (some (x + 99))), some (vI i)] [] μ2
theorem lw_0 {w : WC} {x k N bc bs : Nat} {i : Int} {μ : Mem} {S : LSt} (hS : CS w μ x S N) (hM : Mst w μ (x + 99) S) (h0 : 0 ≤ i) (h1 : i + 8 ≤ ((wX w).2.1 : Int)) (h4 : (wX w).2.1 ≤ 4096) (hbc : 200 * (k + 1) ≤ bc) (hbs : 12002 * (k + 1) + pot N ≤ bs) (kk : LwK w x k i) : G w 48 mL_law LwQ bc bs 184 [some (vP (some (wX w).1)), some (vP (some x)), some (vP (some (x + 99))), some (vI i)] [] μ := by
  refine g_aload_n (j := 1) rfl dL_law_184 ?_
  refine g_aload_n (j := 0) rfl dL_law_185 ?_
  refine g_iload_n (j := 3) rfl dL_law_186 ?_
  refine g_iconst dL_law_187 ?_
  refine g_iadd dL_law_188 ?_
  refine g_xald dL_law_189 (by omega) (by omega) h4 ?_
  refine g_aload_n (j := 0) rfl dL_law_190 ?_
  refine g_iload_n (j := 3) rfl dL_law_191 ?_
  refine g_iconst dL_law_192 ?_
  refine g_iadd dL_law_193 ?_
  refine g_xald dL_law_194 (by omega) (by omega) h4 ?_
  refine g_aload_n (j := 0) rfl dL_law_195 ?_
  refine g_iload_n (j := 3) rfl dL_law_196 ?_
  refine g_iconst dL_law_197 ?_
  refine g_iadd dL_law_198 ?_
  refine g_xald dL_law_199 (by omega) (by omega) h4 ?_
  refine g_aload_n (j := 0) rfl dL_law_200 ?_
  refine g_iload_n (j := 3) rfl dL_law_201 ?_
  refine g_iconst dL_law_202 ?_
  refine g_iadd dL_law_203 ?_
  refine g_xald dL_law_204 (by omega) (by omega) h4 ?_
  refine g_aload_n (j := 0) rfl dL_law_205 ?_
  refine g_iload_n (j := 3) rfl dL_law_206 ?_
  refine g_iconst dL_law_207 ?_
  refine g_iadd dL_law_208 ?_
  refine g_xald dL_law_209 (by omega) (by omega) h4 ?_
  obtain ⟨bs0, hb0, hC⟩ := k_X11_feed (d := 0) hS (sq_i w i 1) (sq_i w i 2) (sq_i w i 3) (sq_i w i 4) (sq_i w i 5)
  refine g_callV dL_law_210 mlL_13 mvX11_feed (ci := 11) ⟨by decide, rfl⟩ hS.o hC sv5 rfl (by omega) (Nat.le_of_ble_eq_true rfl) (bc1 := bc - 200) (bs1 := bs - bs0) (by omega) (by omega) (fun v μ1 hR => ?_)
  obtain ⟨rfl, N1, hS1, hF1, hb1⟩ := hR
  have hM1 := hM.fa hF1
  clear hC
  refine g_aload_n (j := 2) rfl dL_law_213 ?_
  refine g_aload_n (j := 0) rfl dL_law_214 ?_
  refine g_iload_n (j := 3) rfl dL_law_215 ?_
  refine g_iconst dL_law_216 ?_
  refine g_iadd dL_law_217 ?_
  refine g_xald dL_law_218 (by omega) (by omega) h4 ?_
  refine g_aload_n (j := 0) rfl dL_law_219 ?_
  refine g_iload_n (j := 3) rfl dL_law_220 ?_
  refine g_iconst dL_law_221 ?_
  refine g_iadd dL_law_222 ?_
  refine g_xald dL_law_223 (by omega) (by omega) h4 ?_
  refine g_aload_n (j := 0) rfl dL_law_224 ?_
  refine g_iload_n (j := 3) rfl dL_law_225 ?_
  refine g_iconst dL_law_226 ?_
  refine g_iadd dL_law_227 ?_
  refine g_xald dL_law_228 (by omega) (by omega) h4 ?_
  refine g_aload_n (j := 0) rfl dL_law_229 ?_
  refine g_iload_n (j := 3) rfl dL_law_230 ?_
  refine g_iconst dL_law_231 ?_
  refine g_iadd dL_law_232 ?_
  refine g_xald dL_law_233 (by omega) (by omega) h4 ?_
  refine g_aload_n (j := 0) rfl dL_law_234 ?_
  refine g_iload_n (j := 3) rfl dL_law_235 ?_
  refine g_iconst dL_law_236 ?_
  refine g_iadd dL_law_237 ?_
  refine g_xald dL_law_238 (by omega) (by omega) h4 ?_
  refine g_callV dL_law_239 mlL_17 mvX12_feed (ci := 12) ⟨by decide, rfl⟩ hM1.1.1.o (k_X12_feed (d := 0) hM1 (sq_i w i 1) (sq_i w i 2) (sq_i w i 3) (sq_i w i 4) (sq_i w i 5)) sv5 rfl (by omega) (Nat.le_of_ble_eq_true rfl) (bc1 := bc - 200) (bs1 := bs - bs0) (by omega) (by omega) (fun v μ2 hR => ?_)
  obtain ⟨rfl, hM2, hF2⟩ := hR
  refine g_icmpS (tgt := 1615) dL_law_242 (by decide) ?_
  exact kk μ2 _ N1 _ _ (hS1.fb hF2) hM2 (by omega) (by omega)
theorem lw_1 {w : WC} {x k N bc bs : Nat} {i : Int} {μ : Mem} {S : LSt} (hS : CS w μ x S N) (hM : Mst w μ (x + 99) S) (h0 : 0 ≤ i) (h1 : i + 8 ≤ ((wX w).2.1 : Int)) (h4 : (wX w).2.1 ≤ 4096) (hbc : 200 * (k + 1) ≤ bc) (hbs : 12002 * (k + 1) + pot N ≤ bs) (kk : LwK w x k i) : G w 48 mL_law LwQ bc bs 247 [some (vP (some (wX w).1)), some (vP (some x)), some (vP (some (x + 99))), some (vI i)] [] μ := by
  refine g_aload_n (j := 1) rfl dL_law_247 ?_
  refine g_aload_n (j := 0) rfl dL_law_248 ?_
  refine g_iload_n (j := 3) rfl dL_law_249 ?_
  refine g_iconst dL_law_250 ?_
  refine g_iadd dL_law_251 ?_
  refine g_xald dL_law_252 (by omega) (by omega) h4 ?_
  obtain ⟨bs0, hb0, hC⟩ := k_X11_end (d := 0) hS (sq_i w i 1)
  refine g_callV dL_law_253 mlL_18 mvX11_end (ci := 11) ⟨by decide, rfl⟩ hS.o hC sv1 rfl (by omega) (Nat.le_of_ble_eq_true rfl) (bc1 := bc - 200) (bs1 := bs - bs0) (by omega) (by omega) (fun v μ1 hR => ?_)
  obtain ⟨rfl, N1, hS1, hF1, hb1⟩ := hR
  have hM1 := hM.fa hF1
  clear hC
  refine g_aload_n (j := 2) rfl dL_law_256 ?_
  refine g_aload_n (j := 0) rfl dL_law_257 ?_
  refine g_iload_n (j := 3) rfl dL_law_258 ?_
  refine g_iconst dL_law_259 ?_
  refine g_iadd dL_law_260 ?_
  refine g_xald dL_law_261 (by omega) (by omega) h4 ?_
  refine g_callV dL_law_262 mlL_22 mvX12_end (ci := 12) ⟨by decide, rfl⟩ hM1.1.1.o (k_X12_end (d := 0) hM1 (sq_i w i 1)) sv1 rfl (by omega) (Nat.le_of_ble_eq_true rfl) (bc1 := bc - 200) (bs1 := bs - bs0) (by omega) (by omega) (fun v μ2 hR => ?_)
  obtain ⟨rfl, hM2, hF2⟩ := hR
  refine g_icmpS (tgt := 1615) dL_law_265 (by decide) ?_
  exact kk μ2 _ N1 _ _ (hS1.fb hF2) hM2 (by omega) (by omega)
theorem lw_2 {w : WC} {x k N bc bs : Nat} {i : Int} {μ : Mem} {S : LSt} (hS : CS w μ x S N) (hM : Mst w μ (x + 99) S) (h0 : 0 ≤ i) (h1 : i + 8 ≤ ((wX w).2.1 : Int)) (h4 : (wX w).2.1 ≤ 4096) (hbc : 200 * (k + 1) ≤ bc) (hbs : 12002 * (k + 1) + pot N ≤ bs) (kk : LwK w x k i) : G w 48 mL_law LwQ bc bs 270 [some (vP (some (wX w).1)), some (vP (some x)), some (vP (some (x + 99))), some (vI i)] [] μ := by
  refine g_aload_n (j := 1) rfl dL_law_270 ?_
  refine g_aload_n (j := 0) rfl dL_law_271 ?_
  refine g_iload_n (j := 3) rfl dL_law_272 ?_
  refine g_iconst dL_law_273 ?_
  refine g_iadd dL_law_274 ?_
  refine g_xald dL_law_275 (by omega) (by omega) h4 ?_
  obtain ⟨bs0, hb0, hC⟩ := k_X11_form (d := 0) hS (sq_i w i 1)
  refine g_callV dL_law_276 mlL_23 mvX11_form (ci := 11) ⟨by decide, rfl⟩ hS.o hC sv1 rfl (by omega) (Nat.le_of_ble_eq_true rfl) (bc1 := bc - 200) (bs1 := bs - bs0) (by omega) (by omega) (fun v μ1 hR => ?_)
  obtain ⟨rfl, N1, hS1, hF1, hb1⟩ := hR
  have hM1 := hM.fa hF1
  clear hC
  refine g_aload_n (j := 2) rfl dL_law_279 ?_
  refine g_aload_n (j := 0) rfl dL_law_280 ?_
  refine g_iload_n (j := 3) rfl dL_law_281 ?_
  refine g_iconst dL_law_282 ?_
  refine g_iadd dL_law_283 ?_
  refine g_xald dL_law_284 (by omega) (by omega) h4 ?_
  refine g_callV dL_law_285 mlL_27 mvX12_form (ci := 12) ⟨by decide, rfl⟩ hM1.1.1.o (k_X12_form (d := 0) hM1 (sq_i w i 1)) sv1 rfl (by omega) (Nat.le_of_ble_eq_true rfl) (bc1 := bc - 200) (bs1 := bs - bs0) (by omega) (by omega) (fun v μ2 hR => ?_)
  obtain ⟨rfl, hM2, hF2⟩ := hR
  refine g_icmpS (tgt := 1615) dL_law_288 (by decide) ?_
  exact kk μ2 _ N1 _ _ (hS1.fb hF2) hM2 (by omega) (by omega)
theorem lw_3 {w : WC} {x k N bc bs : Nat} {i : Int} {μ : Mem} {S : LSt} (hS : CS w μ x S N) (hM : Mst w μ (x + 99) S) (h0 : 0 ≤ i) (h1 : i + 8 ≤ ((wX w).2.1 : Int)) (h4 : (wX w).2.1 ≤ 4096) (hbc : 200 * (k + 1) ≤ bc) (hbs : 12002 * (k + 1) + pot N ≤ bs) (kk : LwK w x k i) : G w 48 mL_law LwQ bc bs 293 [some (vP (some (wX w).1)), some (vP (some x)), some (vP (some (x + 99))), some (vI i)] [] μ := by
  refine g_aload_n (j := 1) rfl dL_law_293 ?_
  refine g_aload_n (j := 0) rfl dL_law_294 ?_
  refine g_iload_n (j := 3) rfl dL_law_295 ?_
  refine g_iconst dL_law_296 ?_
  refine g_iadd dL_law_297 ?_
  refine g_xald dL_law_298 (by omega) (by omega) h4 ?_
  obtain ⟨bs0, hb0, hC⟩ := k_X11_prove (d := 0) hS (sq_i w i 1)
  refine g_callV dL_law_299 mlL_28 mvX11_prove (ci := 11) ⟨by decide, rfl⟩ hS.o hC sv1 rfl (by omega) (Nat.le_of_ble_eq_true rfl) (bc1 := bc - 200) (bs1 := bs - bs0) (by omega) (by omega) (fun v μ1 hR => ?_)
  obtain ⟨rfl, N1, hS1, hF1, hb1⟩ := hR
  have hM1 := hM.fa hF1
  clear hC
  refine g_aload_n (j := 2) rfl dL_law_302 ?_
  refine g_aload_n (j := 0) rfl dL_law_303 ?_
  refine g_iload_n (j := 3) rfl dL_law_304 ?_
  refine g_iconst dL_law_305 ?_
  refine g_iadd dL_law_306 ?_
  refine g_xald dL_law_307 (by omega) (by omega) h4 ?_
  refine g_callV dL_law_308 mlL_31 mvX12_prove (ci := 12) ⟨by decide, rfl⟩ hM1.1.1.o (k_X12_prove (d := 0) hM1 (sq_i w i 1)) sv1 rfl (by omega) (Nat.le_of_ble_eq_true rfl) (bc1 := bc - 200) (bs1 := bs - bs0) (by omega) (by omega) (fun v μ2 hR => ?_)
  obtain ⟨rfl, hM2, hF2⟩ := hR
  refine g_icmpS (tgt := 1615) dL_law_311 (by decide) ?_
  exact kk μ2 _ N1 _ _ (hS1.fb hF2) hM2 (by omega) (by omega)
theorem lw_4 {w : WC} {x k N bc bs : Nat} {i : Int} {μ : Mem} {S : LSt} (hS : CS w μ x S N) (hM : Mst w μ (x + 99) S) (h0 : 0 ≤ i) (h1 : i + 8 ≤ ((wX w).2.1 : Int)) (h4 : (wX w).2.1 ≤ 4096) (hbc : 200 * (k + 1) ≤ bc) (hbs : 12002 * (k + 1) + pot N ≤ bs) (kk : LwK w x k i) : G w 48 mL_law LwQ bc bs 316 [some (vP (some (wX w).1)), some (vP (some x)), some (vP (some (x + 99))), some (vI i)] [] μ := by
  refine g_aload_n (j := 1) rfl dL_law_316 ?_
  obtain ⟨bs0, hb0, hC⟩ := k_X11_identity (d := 0) hS
  refine g_callV dL_law_317 mlL_32 mvX11_identity (ci := 11) ⟨by decide, rfl⟩ hS.o hC sv0 rfl (by omega) (Nat.le_of_ble_eq_true rfl) (bc1 := bc - 200) (bs1 := bs - bs0) (by omega) (by omega) (fun v μ1 hR => ?_)
  obtain ⟨rfl, N1, hS1, hF1, hb1⟩ := hR
  have hM1 := hM.fa hF1
  clear hC
  refine g_aload_n (j := 2) rfl dL_law_320 ?_
  refine g_callV dL_law_321 mlL_36 mvX12_identity (ci := 12) ⟨by decide, rfl⟩ hM1.1.1.o (k_X12_identity (d := 0) (hw := hS.1) hM1) sv0 rfl (by omega) (Nat.le_of_ble_eq_true rfl) (bc1 := bc - 200) (bs1 := bs - bs0) (by omega) (by omega) (fun v μ2 hR => ?_)
  obtain ⟨rfl, hM2, hF2⟩ := hR
  refine g_icmpS (tgt := 1615) dL_law_324 (by decide) ?_
  exact kk μ2 _ N1 _ _ (hS1.fb hF2) hM2 (by omega) (by omega)
theorem lw_5 {w : WC} {x k N bc bs : Nat} {i : Int} {μ : Mem} {S : LSt} (hS : CS w μ x S N) (hM : Mst w μ (x + 99) S) (h0 : 0 ≤ i) (h1 : i + 8 ≤ ((wX w).2.1 : Int)) (h4 : (wX w).2.1 ≤ 4096) (hbc : 200 * (k + 1) ≤ bc) (hbs : 12002 * (k + 1) + pot N ≤ bs) (kk : LwK w x k i) : G w 48 mL_law LwQ bc bs 329 [some (vP (some (wX w).1)), some (vP (some x)), some (vP (some (x + 99))), some (vI i)] [] μ := by
  refine g_aload_n (j := 1) rfl dL_law_329 ?_
  refine g_aload_n (j := 0) rfl dL_law_330 ?_
  refine g_iload_n (j := 3) rfl dL_law_331 ?_
  refine g_iconst dL_law_332 ?_
  refine g_iadd dL_law_333 ?_
  refine g_xald dL_law_334 (by omega) (by omega) h4 ?_
  obtain ⟨bs0, hb0, hC⟩ := k_X11_fault (d := 0) hS (sq_i w i 1)
  refine g_callV dL_law_335 mlL_37 mvX11_fault (ci := 11) ⟨by decide, rfl⟩ hS.o hC sv1 rfl (by omega) (Nat.le_of_ble_eq_true rfl) (bc1 := bc - 200) (bs1 := bs - bs0) (by omega) (by omega) (fun v μ1 hR => ?_)
  obtain ⟨rfl, N1, hS1, hF1, hb1⟩ := hR
  have hM1 := hM.fa hF1
  clear hC
  refine g_aload_n (j := 2) rfl dL_law_338 ?_
  refine g_aload_n (j := 0) rfl dL_law_339 ?_
  refine g_iload_n (j := 3) rfl dL_law_340 ?_
  refine g_iconst dL_law_341 ?_
  refine g_iadd dL_law_342 ?_
  refine g_xald dL_law_343 (by omega) (by omega) h4 ?_
  refine g_callV dL_law_344 mlL_40 mvX12_fault (ci := 12) ⟨by decide, rfl⟩ hM1.1.1.o (k_X12_fault (d := 0) hM1 (sq_i w i 1)) sv1 rfl (by omega) (Nat.le_of_ble_eq_true rfl) (bc1 := bc - 200) (bs1 := bs - bs0) (by omega) (by omega) (fun v μ2 hR => ?_)
  obtain ⟨rfl, hM2, hF2⟩ := hR
  refine g_icmpS (tgt := 1615) dL_law_347 (by decide) ?_
  exact kk μ2 _ N1 _ _ (hS1.fb hF2) hM2 (by omega) (by omega)
theorem lw_6 {w : WC} {x k N bc bs : Nat} {i : Int} {μ : Mem} {S : LSt} (hS : CS w μ x S N) (hM : Mst w μ (x + 99) S) (h0 : 0 ≤ i) (h1 : i + 8 ≤ ((wX w).2.1 : Int)) (h4 : (wX w).2.1 ≤ 4096) (hbc : 200 * (k + 1) ≤ bc) (hbs : 12002 * (k + 1) + pot N ≤ bs) (kk : LwK w x k i) : G w 48 mL_law LwQ bc bs 352 [some (vP (some (wX w).1)), some (vP (some x)), some (vP (some (x + 99))), some (vI i)] [] μ := by
  refine g_aload_n (j := 1) rfl dL_law_352 ?_
  refine g_aload_n (j := 0) rfl dL_law_353 ?_
  refine g_iload_n (j := 3) rfl dL_law_354 ?_
  refine g_iconst dL_law_355 ?_
  refine g_iadd dL_law_356 ?_
  refine g_xald dL_law_357 (by omega) (by omega) h4 ?_
  refine g_aload_n (j := 0) rfl dL_law_358 ?_
  refine g_iload_n (j := 3) rfl dL_law_359 ?_
  refine g_iconst dL_law_360 ?_
  refine g_iadd dL_law_361 ?_
  refine g_xald dL_law_362 (by omega) (by omega) h4 ?_
  refine g_aload_n (j := 0) rfl dL_law_363 ?_
  refine g_iload_n (j := 3) rfl dL_law_364 ?_
  refine g_iconst dL_law_365 ?_
  refine g_iadd dL_law_366 ?_
  refine g_xald dL_law_367 (by omega) (by omega) h4 ?_
  obtain ⟨bs0, hb0, hC⟩ := k_X11_term (d := 0) hS (sq_i w i 1) (sq_i w i 2) (sq_i w i 3)
  refine g_callV dL_law_368 mlL_41 mvX11_term (ci := 11) ⟨by decide, rfl⟩ hS.o hC sv3 rfl (by omega) (Nat.le_of_ble_eq_true rfl) (bc1 := bc - 200) (bs1 := bs - bs0) (by omega) (by omega) (fun v μ1 hR => ?_)
  obtain ⟨rfl, N1, hS1, hF1, hb1⟩ := hR
  have hM1 := hM.fa hF1
  clear hC
  refine g_aload_n (j := 2) rfl dL_law_371 ?_
  refine g_aload_n (j := 0) rfl dL_law_372 ?_
  refine g_iload_n (j := 3) rfl dL_law_373 ?_
  refine g_iconst dL_law_374 ?_
  refine g_iadd dL_law_375 ?_
  refine g_xald dL_law_376 (by omega) (by omega) h4 ?_
  refine g_aload_n (j := 0) rfl dL_law_377 ?_
  refine g_iload_n (j := 3) rfl dL_law_378 ?_
  refine g_iconst dL_law_379 ?_
  refine g_iadd dL_law_380 ?_
  refine g_xald dL_law_381 (by omega) (by omega) h4 ?_
  refine g_aload_n (j := 0) rfl dL_law_382 ?_
  refine g_iload_n (j := 3) rfl dL_law_383 ?_
  refine g_iconst dL_law_384 ?_
  refine g_iadd dL_law_385 ?_
  refine g_xald dL_law_386 (by omega) (by omega) h4 ?_
  refine g_callV dL_law_387 mlL_45 mvX12_term (ci := 12) ⟨by decide, rfl⟩ hM1.1.1.o (k_X12_term (d := 0) hM1 (sq_i w i 1) (sq_i w i 2) (sq_i w i 3)) sv3 rfl (by omega) (Nat.le_of_ble_eq_true rfl) (bc1 := bc - 200) (bs1 := bs - bs0) (by omega) (by omega) (fun v μ2 hR => ?_)
  obtain ⟨rfl, hM2, hF2⟩ := hR
  refine g_icmpS (tgt := 1615) dL_law_390 (by decide) ?_
  exact kk μ2 _ N1 _ _ (hS1.fb hF2) hM2 (by omega) (by omega)
theorem lw_7 {w : WC} {x k N bc bs : Nat} {i : Int} {μ : Mem} {S : LSt} (hS : CS w μ x S N) (hM : Mst w μ (x + 99) S) (h0 : 0 ≤ i) (h1 : i + 8 ≤ ((wX w).2.1 : Int)) (h4 : (wX w).2.1 ≤ 4096) (hbc : 200 * (k + 1) ≤ bc) (hbs : 12002 * (k + 1) + pot N ≤ bs) (kk : LwK w x k i) : G w 48 mL_law LwQ bc bs 395 [some (vP (some (wX w).1)), some (vP (some x)), some (vP (some (x + 99))), some (vI i)] [] μ := by
  refine g_aload_n (j := 1) rfl dL_law_395 ?_
  refine g_aload_n (j := 0) rfl dL_law_396 ?_
  refine g_iload_n (j := 3) rfl dL_law_397 ?_
  refine g_iconst dL_law_398 ?_
  refine g_iadd dL_law_399 ?_
  refine g_xald dL_law_400 (by omega) (by omega) h4 ?_
  refine g_aload_n (j := 0) rfl dL_law_401 ?_
  refine g_iload_n (j := 3) rfl dL_law_402 ?_
  refine g_iconst dL_law_403 ?_
  refine g_iadd dL_law_404 ?_
  refine g_xald dL_law_405 (by omega) (by omega) h4 ?_
  obtain ⟨bs0, hb0, hC⟩ := k_X11_ways (d := 0) hS (sq_i w i 1) (sq_i w i 2)
  refine g_callV dL_law_406 mlL_46 mvX11_ways (ci := 11) ⟨by decide, rfl⟩ hS.o hC sv2 rfl (by omega) (Nat.le_of_ble_eq_true rfl) (bc1 := bc - 200) (bs1 := bs - bs0) (by omega) (by omega) (fun v μ1 hR => ?_)
  obtain ⟨rfl, N1, hS1, hF1, hb1⟩ := hR
  have hM1 := hM.fa hF1
  clear hC
  refine g_aload_n (j := 2) rfl dL_law_409 ?_
  refine g_aload_n (j := 0) rfl dL_law_410 ?_
  refine g_iload_n (j := 3) rfl dL_law_411 ?_
  refine g_iconst dL_law_412 ?_
  refine g_iadd dL_law_413 ?_
  refine g_xald dL_law_414 (by omega) (by omega) h4 ?_
  refine g_aload_n (j := 0) rfl dL_law_415 ?_
  refine g_iload_n (j := 3) rfl dL_law_416 ?_
  refine g_iconst dL_law_417 ?_
  refine g_iadd dL_law_418 ?_
  refine g_xald dL_law_419 (by omega) (by omega) h4 ?_
  refine g_callV dL_law_420 mlL_50 mvX12_ways (ci := 12) ⟨by decide, rfl⟩ hM1.1.1.o (k_X12_ways (d := 0) hM1 (sq_i w i 1) (sq_i w i 2)) sv2 rfl (by omega) (Nat.le_of_ble_eq_true rfl) (bc1 := bc - 200) (bs1 := bs - bs0) (by omega) (by omega) (fun v μ2 hR => ?_)
  obtain ⟨rfl, hM2, hF2⟩ := hR
  refine g_lcmpS dL_law_423 ?_
  refine g_if_eq (tgt := 1615) dL_law_424 (by decide) i32_0 (fun _ => ?_) (fun hy => absurd rfl hy)
  exact kk μ2 _ N1 _ _ (hS1.fb hF2) hM2 (by omega) (by omega)
theorem lw_8 {w : WC} {x k N bc bs : Nat} {i : Int} {μ : Mem} {S : LSt} (hS : CS w μ x S N) (hM : Mst w μ (x + 99) S) (h0 : 0 ≤ i) (h1 : i + 8 ≤ ((wX w).2.1 : Int)) (h4 : (wX w).2.1 ≤ 4096) (hbc : 200 * (k + 1) ≤ bc) (hbs : 12002 * (k + 1) + pot N ≤ bs) (kk : LwK w x k i) : G w 48 mL_law LwQ bc bs 429 [some (vP (some (wX w).1)), some (vP (some x)), some (vP (some (x + 99))), some (vI i)] [] μ := by
  refine g_aload_n (j := 1) rfl dL_law_429 ?_
  refine g_aload_n (j := 0) rfl dL_law_430 ?_
  refine g_iload_n (j := 3) rfl dL_law_431 ?_
  refine g_iconst dL_law_432 ?_
  refine g_iadd dL_law_433 ?_
  refine g_xald dL_law_434 (by omega) (by omega) h4 ?_
  refine g_aload_n (j := 0) rfl dL_law_435 ?_
  refine g_iload_n (j := 3) rfl dL_law_436 ?_
  refine g_iconst dL_law_437 ?_
  refine g_iadd dL_law_438 ?_
  refine g_xald dL_law_439 (by omega) (by omega) h4 ?_
  obtain ⟨bs0, hb0, hC⟩ := k_X11_unlike (d := 0) hS (sq_i w i 1) (sq_i w i 2)
  refine g_callV dL_law_440 mlL_51 mvX11_unlike (ci := 11) ⟨by decide, rfl⟩ hS.o hC sv2 rfl (by omega) (Nat.le_of_ble_eq_true rfl) (bc1 := bc - 200) (bs1 := bs - bs0) (by omega) (by omega) (fun v μ1 hR => ?_)
  obtain ⟨rfl, N1, hS1, hF1, hb1⟩ := hR
  have hM1 := hM.fa hF1
  clear hC
  refine g_aload_n (j := 2) rfl dL_law_443 ?_
  refine g_aload_n (j := 0) rfl dL_law_444 ?_
  refine g_iload_n (j := 3) rfl dL_law_445 ?_
  refine g_iconst dL_law_446 ?_
  refine g_iadd dL_law_447 ?_
  refine g_xald dL_law_448 (by omega) (by omega) h4 ?_
  refine g_aload_n (j := 0) rfl dL_law_449 ?_
  refine g_iload_n (j := 3) rfl dL_law_450 ?_
  refine g_iconst dL_law_451 ?_
  refine g_iadd dL_law_452 ?_
  refine g_xald dL_law_453 (by omega) (by omega) h4 ?_
  refine g_callV dL_law_454 mlL_54 mvX12_unlike (ci := 12) ⟨by decide, rfl⟩ hM1.1.1.o (k_X12_unlike (d := 0) hM1 (sq_i w i 1) (sq_i w i 2)) sv2 rfl (by omega) (Nat.le_of_ble_eq_true rfl) (bc1 := bc - 200) (bs1 := bs - bs0) (by omega) (by omega) (fun v μ2 hR => ?_)
  obtain ⟨rfl, hM2, hF2⟩ := hR
  refine g_lcmpS dL_law_457 ?_
  refine g_if_eq (tgt := 1615) dL_law_458 (by decide) i32_0 (fun _ => ?_) (fun hy => absurd rfl hy)
  exact kk μ2 _ N1 _ _ (hS1.fb hF2) hM2 (by omega) (by omega)
theorem lw_9 {w : WC} {x k N bc bs : Nat} {i : Int} {μ : Mem} {S : LSt} (hS : CS w μ x S N) (hM : Mst w μ (x + 99) S) (h0 : 0 ≤ i) (h1 : i + 8 ≤ ((wX w).2.1 : Int)) (h4 : (wX w).2.1 ≤ 4096) (hbc : 200 * (k + 1) ≤ bc) (hbs : 12002 * (k + 1) + pot N ≤ bs) (kk : LwK w x k i) : G w 48 mL_law LwQ bc bs 463 [some (vP (some (wX w).1)), some (vP (some x)), some (vP (some (x + 99))), some (vI i)] [] μ := by
  refine g_aload_n (j := 1) rfl dL_law_463 ?_
  refine g_aload_n (j := 0) rfl dL_law_464 ?_
  refine g_iload_n (j := 3) rfl dL_law_465 ?_
  refine g_iconst dL_law_466 ?_
  refine g_iadd dL_law_467 ?_
  refine g_xald dL_law_468 (by omega) (by omega) h4 ?_
  refine g_aload_n (j := 0) rfl dL_law_469 ?_
  refine g_iload_n (j := 3) rfl dL_law_470 ?_
  refine g_iconst dL_law_471 ?_
  refine g_iadd dL_law_472 ?_
  refine g_xald dL_law_473 (by omega) (by omega) h4 ?_
  refine g_aload_n (j := 0) rfl dL_law_474 ?_
  refine g_iload_n (j := 3) rfl dL_law_475 ?_
  refine g_iconst dL_law_476 ?_
  refine g_iadd dL_law_477 ?_
  refine g_xald dL_law_478 (by omega) (by omega) h4 ?_
  refine g_i2l (sq_i w i 3) dL_law_479 ?_
  refine g_bipush dL_law_480 (by omega) ?_
  refine g_lshl dL_law_482 ?_
  refine g_aload_n (j := 0) rfl dL_law_483 ?_
  refine g_iload_n (j := 3) rfl dL_law_484 ?_
  refine g_iconst dL_law_485 ?_
  refine g_iadd dL_law_486 ?_
  refine g_xald dL_law_487 (by omega) (by omega) h4 ?_
  refine g_i2l (sq_i w i 4) dL_law_488 ?_
  refine g_ldc2 dL_law_489 klL_55 (z := 4294967295) rfl ?_
  refine g_land dL_law_492 ?_
  refine g_lor dL_law_493 ?_
  refine g_aload_n (j := 0) rfl dL_law_494 ?_
  refine g_iload_n (j := 3) rfl dL_law_495 ?_
  refine g_iconst dL_law_496 ?_
  refine g_iadd dL_law_497 ?_
  refine g_xald dL_law_498 (by omega) (by omega) h4 ?_
  obtain ⟨bs0, hb0, hC⟩ := k_X11_way (d := 0) hS (sq_i w i 1) (sq_i w i 2) (i64_of _) (sq_i w i 5)
  refine g_callV dL_law_499 mlL_57 mvX11_way (ci := 11) ⟨by decide, rfl⟩ hS.o hC sv4 rfl (by omega) (Nat.le_of_ble_eq_true rfl) (bc1 := bc - 200) (bs1 := bs - bs0) (by omega) (by omega) (fun v μ1 hR => ?_)
  obtain ⟨rfl, N1, hS1, hF1, hb1⟩ := hR
  have hM1 := hM.fa hF1
  clear hC
  refine g_aload_n (j := 2) rfl dL_law_502 ?_
  refine g_aload_n (j := 0) rfl dL_law_503 ?_
  refine g_iload_n (j := 3) rfl dL_law_504 ?_
  refine g_iconst dL_law_505 ?_
  refine g_iadd dL_law_506 ?_
  refine g_xald dL_law_507 (by omega) (by omega) h4 ?_
  refine g_aload_n (j := 0) rfl dL_law_508 ?_
  refine g_iload_n (j := 3) rfl dL_law_509 ?_
  refine g_iconst dL_law_510 ?_
  refine g_iadd dL_law_511 ?_
  refine g_xald dL_law_512 (by omega) (by omega) h4 ?_
  refine g_aload_n (j := 0) rfl dL_law_513 ?_
  refine g_iload_n (j := 3) rfl dL_law_514 ?_
  refine g_iconst dL_law_515 ?_
  refine g_iadd dL_law_516 ?_
  refine g_xald dL_law_517 (by omega) (by omega) h4 ?_
  refine g_i2l (sq_i w i 3) dL_law_518 ?_
  refine g_bipush dL_law_519 (by omega) ?_
  refine g_lshl dL_law_521 ?_
  refine g_aload_n (j := 0) rfl dL_law_522 ?_
  refine g_iload_n (j := 3) rfl dL_law_523 ?_
  refine g_iconst dL_law_524 ?_
  refine g_iadd dL_law_525 ?_
  refine g_xald dL_law_526 (by omega) (by omega) h4 ?_
  refine g_i2l (sq_i w i 4) dL_law_527 ?_
  refine g_ldc2 dL_law_528 klL_55 (z := 4294967295) rfl ?_
  refine g_land dL_law_531 ?_
  refine g_lor dL_law_532 ?_
  refine g_aload_n (j := 0) rfl dL_law_533 ?_
  refine g_iload_n (j := 3) rfl dL_law_534 ?_
  refine g_iconst dL_law_535 ?_
  refine g_iadd dL_law_536 ?_
  refine g_xald dL_law_537 (by omega) (by omega) h4 ?_
  refine g_callV dL_law_538 mlL_61 mvX12_way (ci := 12) ⟨by decide, rfl⟩ hM1.1.1.o (k_X12_way (d := 0) hM1 (sq_i w i 1) (sq_i w i 2) (i64_of _) (sq_i w i 5)) sv4 rfl (by omega) (Nat.le_of_ble_eq_true rfl) (bc1 := bc - 200) (bs1 := bs - bs0) (by omega) (by omega) (fun v μ2 hR => ?_)
  obtain ⟨rfl, hM2, hF2⟩ := hR
  refine g_icmpS (tgt := 1615) dL_law_541 (by decide) ?_
  exact kk μ2 _ N1 _ _ (hS1.fb hF2) hM2 (by omega) (by omega)
theorem lw_10 {w : WC} {x k N bc bs : Nat} {i : Int} {μ : Mem} {S : LSt} (hS : CS w μ x S N) (hM : Mst w μ (x + 99) S) (h0 : 0 ≤ i) (h1 : i + 8 ≤ ((wX w).2.1 : Int)) (h4 : (wX w).2.1 ≤ 4096) (hbc : 200 * (k + 1) ≤ bc) (hbs : 12002 * (k + 1) + pot N ≤ bs) (kk : LwK w x k i) : G w 48 mL_law LwQ bc bs 546 [some (vP (some (wX w).1)), some (vP (some x)), some (vP (some (x + 99))), some (vI i)] [] μ := by
  refine g_aload_n (j := 1) rfl dL_law_546 ?_
  refine g_aload_n (j := 0) rfl dL_law_547 ?_
  refine g_iload_n (j := 3) rfl dL_law_548 ?_
  refine g_iconst dL_law_549 ?_
  refine g_iadd dL_law_550 ?_
  refine g_xald dL_law_551 (by omega) (by omega) h4 ?_
  refine g_aload_n (j := 0) rfl dL_law_552 ?_
  refine g_iload_n (j := 3) rfl dL_law_553 ?_
  refine g_iconst dL_law_554 ?_
  refine g_iadd dL_law_555 ?_
  refine g_xald dL_law_556 (by omega) (by omega) h4 ?_
  refine g_aload_n (j := 0) rfl dL_law_557 ?_
  refine g_iload_n (j := 3) rfl dL_law_558 ?_
  refine g_iconst dL_law_559 ?_
  refine g_iadd dL_law_560 ?_
  refine g_xald dL_law_561 (by omega) (by omega) h4 ?_
  refine g_aload_n (j := 0) rfl dL_law_562 ?_
  refine g_iload_n (j := 3) rfl dL_law_563 ?_
  refine g_iconst dL_law_564 ?_
  refine g_iadd dL_law_565 ?_
  refine g_xald dL_law_566 (by omega) (by omega) h4 ?_
  refine g_aload_n (j := 0) rfl dL_law_567 ?_
  refine g_iload_n (j := 3) rfl dL_law_568 ?_
  refine g_iconst dL_law_569 ?_
  refine g_iadd dL_law_570 ?_
  refine g_xald dL_law_571 (by omega) (by omega) h4 ?_
  refine g_aload_n (j := 0) rfl dL_law_572 ?_
  refine g_iload_n (j := 3) rfl dL_law_573 ?_
  refine g_bipush dL_law_574 (by omega) ?_
  refine g_iadd dL_law_576 ?_
  refine g_xald dL_law_577 (by omega) (by omega) h4 ?_
  refine g_aload_n (j := 0) rfl dL_law_578 ?_
  refine g_iload_n (j := 3) rfl dL_law_579 ?_
  refine g_bipush dL_law_580 (by omega) ?_
  refine g_iadd dL_law_582 ?_
  refine g_xald dL_law_583 (by omega) (by omega) h4 ?_
  obtain ⟨bs0, hb0, hC⟩ := k_X11_number (d := 0) hS (sq_i w i 1) (sq_i w i 2) (sq_i w i 3) (sq_i w i 4) (sq_i w i 5) (sq_i w i 6) (sq_i w i 7)
  refine g_callV dL_law_584 mlL_62 mvX11_number (ci := 11) ⟨by decide, rfl⟩ hS.o hC sv7 rfl (by omega) (Nat.le_of_ble_eq_true rfl) (bc1 := bc - 200) (bs1 := bs - bs0) (by omega) (by omega) (fun v μ1 hR => ?_)
  obtain ⟨rfl, N1, hS1, hF1, hb1⟩ := hR
  have hM1 := hM.fa hF1
  clear hC
  refine g_aload_n (j := 2) rfl dL_law_587 ?_
  refine g_aload_n (j := 0) rfl dL_law_588 ?_
  refine g_iload_n (j := 3) rfl dL_law_589 ?_
  refine g_iconst dL_law_590 ?_
  refine g_iadd dL_law_591 ?_
  refine g_xald dL_law_592 (by omega) (by omega) h4 ?_
  refine g_aload_n (j := 0) rfl dL_law_593 ?_
  refine g_iload_n (j := 3) rfl dL_law_594 ?_
  refine g_iconst dL_law_595 ?_
  refine g_iadd dL_law_596 ?_
  refine g_xald dL_law_597 (by omega) (by omega) h4 ?_
  refine g_aload_n (j := 0) rfl dL_law_598 ?_
  refine g_iload_n (j := 3) rfl dL_law_599 ?_
  refine g_iconst dL_law_600 ?_
  refine g_iadd dL_law_601 ?_
  refine g_xald dL_law_602 (by omega) (by omega) h4 ?_
  refine g_aload_n (j := 0) rfl dL_law_603 ?_
  refine g_iload_n (j := 3) rfl dL_law_604 ?_
  refine g_iconst dL_law_605 ?_
  refine g_iadd dL_law_606 ?_
  refine g_xald dL_law_607 (by omega) (by omega) h4 ?_
  refine g_aload_n (j := 0) rfl dL_law_608 ?_
  refine g_iload_n (j := 3) rfl dL_law_609 ?_
  refine g_iconst dL_law_610 ?_
  refine g_iadd dL_law_611 ?_
  refine g_xald dL_law_612 (by omega) (by omega) h4 ?_
  refine g_aload_n (j := 0) rfl dL_law_613 ?_
  refine g_iload_n (j := 3) rfl dL_law_614 ?_
  refine g_bipush dL_law_615 (by omega) ?_
  refine g_iadd dL_law_617 ?_
  refine g_xald dL_law_618 (by omega) (by omega) h4 ?_
  refine g_aload_n (j := 0) rfl dL_law_619 ?_
  refine g_iload_n (j := 3) rfl dL_law_620 ?_
  refine g_bipush dL_law_621 (by omega) ?_
  refine g_iadd dL_law_623 ?_
  refine g_xald dL_law_624 (by omega) (by omega) h4 ?_
  refine g_callV dL_law_625 mlL_66 mvX12_number (ci := 12) ⟨by decide, rfl⟩ hM1.1.1.o (k_X12_number (d := 0) hM1 (sq_i w i 1) (sq_i w i 2) (sq_i w i 3) (sq_i w i 4) (sq_i w i 5) (sq_i w i 6) (sq_i w i 7)) sv7 rfl (by omega) (Nat.le_of_ble_eq_true rfl) (bc1 := bc - 200) (bs1 := bs - bs0) (by omega) (by omega) (fun v μ2 hR => ?_)
  obtain ⟨rfl, hM2, hF2⟩ := hR
  refine g_lcmpS dL_law_628 ?_
  refine g_if_eq (tgt := 1615) dL_law_629 (by decide) i32_0 (fun _ => ?_) (fun hy => absurd rfl hy)
  exact kk μ2 _ N1 _ _ (hS1.fb hF2) hM2 (by omega) (by omega)
theorem lw_11 {w : WC} {x k N bc bs : Nat} {i : Int} {μ : Mem} {S : LSt} (hS : CS w μ x S N) (hM : Mst w μ (x + 99) S) (h0 : 0 ≤ i) (h1 : i + 8 ≤ ((wX w).2.1 : Int)) (h4 : (wX w).2.1 ≤ 4096) (hbc : 200 * (k + 1) ≤ bc) (hbs : 12002 * (k + 1) + pot N ≤ bs) (kk : LwK w x k i) : G w 48 mL_law LwQ bc bs 634 [some (vP (some (wX w).1)), some (vP (some x)), some (vP (some (x + 99))), some (vI i)] [] μ := by
  refine g_aload_n (j := 1) rfl dL_law_634 ?_
  refine g_aload_n (j := 0) rfl dL_law_635 ?_
  refine g_iload_n (j := 3) rfl dL_law_636 ?_
  refine g_iconst dL_law_637 ?_
  refine g_iadd dL_law_638 ?_
  refine g_xald dL_law_639 (by omega) (by omega) h4 ?_
  refine g_aload_n (j := 0) rfl dL_law_640 ?_
  refine g_iload_n (j := 3) rfl dL_law_641 ?_
  refine g_iconst dL_law_642 ?_
  refine g_iadd dL_law_643 ?_
  refine g_xald dL_law_644 (by omega) (by omega) h4 ?_
  refine g_aload_n (j := 0) rfl dL_law_645 ?_
  refine g_iload_n (j := 3) rfl dL_law_646 ?_
  refine g_iconst dL_law_647 ?_
  refine g_iadd dL_law_648 ?_
  refine g_xald dL_law_649 (by omega) (by omega) h4 ?_
  refine g_aload_n (j := 0) rfl dL_law_650 ?_
  refine g_iload_n (j := 3) rfl dL_law_651 ?_
  refine g_iconst dL_law_652 ?_
  refine g_iadd dL_law_653 ?_
  refine g_xald dL_law_654 (by omega) (by omega) h4 ?_
  obtain ⟨bs0, hb0, hC⟩ := k_X11_missed (d := 0) hS (sq_i w i 1) (sq_i w i 2) (sq_i w i 3) (sq_i w i 4)
  refine g_callV dL_law_655 mlL_67 mvX11_missed (ci := 11) ⟨by decide, rfl⟩ hS.o hC sv4 rfl (by omega) (Nat.le_of_ble_eq_true rfl) (bc1 := bc - 200) (bs1 := bs - bs0) (by omega) (by omega) (fun v μ1 hR => ?_)
  obtain ⟨rfl, N1, hS1, hF1, hb1⟩ := hR
  have hM1 := hM.fa hF1
  clear hC
  refine g_aload_n (j := 2) rfl dL_law_658 ?_
  refine g_aload_n (j := 0) rfl dL_law_659 ?_
  refine g_iload_n (j := 3) rfl dL_law_660 ?_
  refine g_iconst dL_law_661 ?_
  refine g_iadd dL_law_662 ?_
  refine g_xald dL_law_663 (by omega) (by omega) h4 ?_
  refine g_aload_n (j := 0) rfl dL_law_664 ?_
  refine g_iload_n (j := 3) rfl dL_law_665 ?_
  refine g_iconst dL_law_666 ?_
  refine g_iadd dL_law_667 ?_
  refine g_xald dL_law_668 (by omega) (by omega) h4 ?_
  refine g_aload_n (j := 0) rfl dL_law_669 ?_
  refine g_iload_n (j := 3) rfl dL_law_670 ?_
  refine g_iconst dL_law_671 ?_
  refine g_iadd dL_law_672 ?_
  refine g_xald dL_law_673 (by omega) (by omega) h4 ?_
  refine g_aload_n (j := 0) rfl dL_law_674 ?_
  refine g_iload_n (j := 3) rfl dL_law_675 ?_
  refine g_iconst dL_law_676 ?_
  refine g_iadd dL_law_677 ?_
  refine g_xald dL_law_678 (by omega) (by omega) h4 ?_
  refine g_callV dL_law_679 mlL_71 mvX12_missed (ci := 12) ⟨by decide, rfl⟩ hM1.1.1.o (k_X12_missed (d := 0) hM1 (sq_i w i 1) (sq_i w i 2) (sq_i w i 3) (sq_i w i 4)) sv4 rfl (by omega) (Nat.le_of_ble_eq_true rfl) (bc1 := bc - 200) (bs1 := bs - bs0) (by omega) (by omega) (fun v μ2 hR => ?_)
  obtain ⟨rfl, hM2, hF2⟩ := hR
  refine g_icmpS (tgt := 1615) dL_law_682 (by decide) ?_
  exact kk μ2 _ N1 _ _ (hS1.fb hF2) hM2 (by omega) (by omega)
theorem lw_12 {w : WC} {x k N bc bs : Nat} {i : Int} {μ : Mem} {S : LSt} (hS : CS w μ x S N) (hM : Mst w μ (x + 99) S) (h0 : 0 ≤ i) (h1 : i + 8 ≤ ((wX w).2.1 : Int)) (h4 : (wX w).2.1 ≤ 4096) (hbc : 200 * (k + 1) ≤ bc) (hbs : 12002 * (k + 1) + pot N ≤ bs) (kk : LwK w x k i) : G w 48 mL_law LwQ bc bs 687 [some (vP (some (wX w).1)), some (vP (some x)), some (vP (some (x + 99))), some (vI i)] [] μ := by
  refine g_aload_n (j := 1) rfl dL_law_687 ?_
  refine g_aload_n (j := 0) rfl dL_law_688 ?_
  refine g_iload_n (j := 3) rfl dL_law_689 ?_
  refine g_iconst dL_law_690 ?_
  refine g_iadd dL_law_691 ?_
  refine g_xald dL_law_692 (by omega) (by omega) h4 ?_
  refine g_aload_n (j := 0) rfl dL_law_693 ?_
  refine g_iload_n (j := 3) rfl dL_law_694 ?_
  refine g_iconst dL_law_695 ?_
  refine g_iadd dL_law_696 ?_
  refine g_xald dL_law_697 (by omega) (by omega) h4 ?_
  refine g_aload_n (j := 0) rfl dL_law_698 ?_
  refine g_iload_n (j := 3) rfl dL_law_699 ?_
  refine g_iconst dL_law_700 ?_
  refine g_iadd dL_law_701 ?_
  refine g_xald dL_law_702 (by omega) (by omega) h4 ?_
  refine g_aload_n (j := 0) rfl dL_law_703 ?_
  refine g_iload_n (j := 3) rfl dL_law_704 ?_
  refine g_iconst dL_law_705 ?_
  refine g_iadd dL_law_706 ?_
  refine g_xald dL_law_707 (by omega) (by omega) h4 ?_
  obtain ⟨bs0, hb0, hC⟩ := k_X11_explained (d := 0) hS (sq_i w i 1) (sq_i w i 2) (sq_i w i 3) (sq_i w i 4)
  refine g_callV dL_law_708 mlL_72 mvX11_explained (ci := 11) ⟨by decide, rfl⟩ hS.o hC sv4 rfl (by omega) (Nat.le_of_ble_eq_true rfl) (bc1 := bc - 200) (bs1 := bs - bs0) (by omega) (by omega) (fun v μ1 hR => ?_)
  obtain ⟨rfl, N1, hS1, hF1, hb1⟩ := hR
  have hM1 := hM.fa hF1
  clear hC
  refine g_aload_n (j := 2) rfl dL_law_711 ?_
  refine g_aload_n (j := 0) rfl dL_law_712 ?_
  refine g_iload_n (j := 3) rfl dL_law_713 ?_
  refine g_iconst dL_law_714 ?_
  refine g_iadd dL_law_715 ?_
  refine g_xald dL_law_716 (by omega) (by omega) h4 ?_
  refine g_aload_n (j := 0) rfl dL_law_717 ?_
  refine g_iload_n (j := 3) rfl dL_law_718 ?_
  refine g_iconst dL_law_719 ?_
  refine g_iadd dL_law_720 ?_
  refine g_xald dL_law_721 (by omega) (by omega) h4 ?_
  refine g_aload_n (j := 0) rfl dL_law_722 ?_
  refine g_iload_n (j := 3) rfl dL_law_723 ?_
  refine g_iconst dL_law_724 ?_
  refine g_iadd dL_law_725 ?_
  refine g_xald dL_law_726 (by omega) (by omega) h4 ?_
  refine g_aload_n (j := 0) rfl dL_law_727 ?_
  refine g_iload_n (j := 3) rfl dL_law_728 ?_
  refine g_iconst dL_law_729 ?_
  refine g_iadd dL_law_730 ?_
  refine g_xald dL_law_731 (by omega) (by omega) h4 ?_
  refine g_callV dL_law_732 mlL_75 mvX12_explained (ci := 12) ⟨by decide, rfl⟩ hM1.1.1.o (k_X12_explained (d := 0) hM1 (sq_i w i 1) (sq_i w i 2) (sq_i w i 3) (sq_i w i 4)) sv4 rfl (by omega) (Nat.le_of_ble_eq_true rfl) (bc1 := bc - 200) (bs1 := bs - bs0) (by omega) (by omega) (fun v μ2 hR => ?_)
  obtain ⟨rfl, hM2, hF2⟩ := hR
  refine g_icmpS (tgt := 1615) dL_law_735 (by decide) ?_
  exact kk μ2 _ N1 _ _ (hS1.fb hF2) hM2 (by omega) (by omega)
theorem lw_13 {w : WC} {x k N bc bs : Nat} {i : Int} {μ : Mem} {S : LSt} (hS : CS w μ x S N) (hM : Mst w μ (x + 99) S) (h0 : 0 ≤ i) (h1 : i + 8 ≤ ((wX w).2.1 : Int)) (h4 : (wX w).2.1 ≤ 4096) (hbc : 200 * (k + 1) ≤ bc) (hbs : 12002 * (k + 1) + pot N ≤ bs) (kk : LwK w x k i) : G w 48 mL_law LwQ bc bs 740 [some (vP (some (wX w).1)), some (vP (some x)), some (vP (some (x + 99))), some (vI i)] [] μ := by
  refine g_aload_n (j := 1) rfl dL_law_740 ?_
  refine g_aload_n (j := 0) rfl dL_law_741 ?_
  refine g_iload_n (j := 3) rfl dL_law_742 ?_
  refine g_iconst dL_law_743 ?_
  refine g_iadd dL_law_744 ?_
  refine g_xald dL_law_745 (by omega) (by omega) h4 ?_
  obtain ⟨bs0, hb0, hC⟩ := k_X11_full (d := 0) hS (sq_i w i 1)
  refine g_callV dL_law_746 mlL_76 mvX11_full (ci := 11) ⟨by decide, rfl⟩ hS.o hC sv1 rfl (by omega) (Nat.le_of_ble_eq_true rfl) (bc1 := bc - 200) (bs1 := bs - bs0) (by omega) (by omega) (fun v μ1 hR => ?_)
  obtain ⟨rfl, N1, hS1, hF1, hb1⟩ := hR
  have hM1 := hM.fa hF1
  clear hC
  refine g_aload_n (j := 2) rfl dL_law_749 ?_
  refine g_aload_n (j := 0) rfl dL_law_750 ?_
  refine g_iload_n (j := 3) rfl dL_law_751 ?_
  refine g_iconst dL_law_752 ?_
  refine g_iadd dL_law_753 ?_
  refine g_xald dL_law_754 (by omega) (by omega) h4 ?_
  refine g_callV dL_law_755 mlL_79 mvX12_full (ci := 12) ⟨by decide, rfl⟩ hM1.1.1.o (k_X12_full (d := 0) hM1 (sq_i w i 1)) sv1 rfl (by omega) (Nat.le_of_ble_eq_true rfl) (bc1 := bc - 200) (bs1 := bs - bs0) (by omega) (by omega) (fun v μ2 hR => ?_)
  obtain ⟨rfl, hM2, hF2⟩ := hR
  refine g_icmpS (tgt := 1615) dL_law_758 (by decide) ?_
  exact kk μ2 _ N1 _ _ (hS1.fb hF2) hM2 (by omega) (by omega)
theorem lw_14 {w : WC} {x k N bc bs : Nat} {i : Int} {μ : Mem} {S : LSt} (hS : CS w μ x S N) (hM : Mst w μ (x + 99) S) (h0 : 0 ≤ i) (h1 : i + 8 ≤ ((wX w).2.1 : Int)) (h4 : (wX w).2.1 ≤ 4096) (hbc : 200 * (k + 1) ≤ bc) (hbs : 12002 * (k + 1) + pot N ≤ bs) (kk : LwK w x k i) : G w 48 mL_law LwQ bc bs 763 [some (vP (some (wX w).1)), some (vP (some x)), some (vP (some (x + 99))), some (vI i)] [] μ := by
  refine g_aload_n (j := 1) rfl dL_law_763 ?_
  refine g_aload_n (j := 0) rfl dL_law_764 ?_
  refine g_iload_n (j := 3) rfl dL_law_765 ?_
  refine g_iconst dL_law_766 ?_
  refine g_iadd dL_law_767 ?_
  refine g_xald dL_law_768 (by omega) (by omega) h4 ?_
  refine g_aload_n (j := 0) rfl dL_law_769 ?_
  refine g_iload_n (j := 3) rfl dL_law_770 ?_
  refine g_iconst dL_law_771 ?_
  refine g_iadd dL_law_772 ?_
  refine g_xald dL_law_773 (by omega) (by omega) h4 ?_
  refine g_aload_n (j := 0) rfl dL_law_774 ?_
  refine g_iload_n (j := 3) rfl dL_law_775 ?_
  refine g_iconst dL_law_776 ?_
  refine g_iadd dL_law_777 ?_
  refine g_xald dL_law_778 (by omega) (by omega) h4 ?_
  obtain ⟨bs0, hb0, hC⟩ := k_X11_met (d := 0) hS (sq_i w i 1) (sq_i w i 2) (sq_i w i 3)
  refine g_callV dL_law_779 mlL_80 mvX11_met (ci := 11) ⟨by decide, rfl⟩ hS.o hC sv3 rfl (by omega) (Nat.le_of_ble_eq_true rfl) (bc1 := bc - 200) (bs1 := bs - bs0) (by omega) (by omega) (fun v μ1 hR => ?_)
  obtain ⟨rfl, N1, hS1, hF1, hb1⟩ := hR
  have hM1 := hM.fa hF1
  clear hC
  refine g_aload_n (j := 2) rfl dL_law_782 ?_
  refine g_aload_n (j := 0) rfl dL_law_783 ?_
  refine g_iload_n (j := 3) rfl dL_law_784 ?_
  refine g_iconst dL_law_785 ?_
  refine g_iadd dL_law_786 ?_
  refine g_xald dL_law_787 (by omega) (by omega) h4 ?_
  refine g_aload_n (j := 0) rfl dL_law_788 ?_
  refine g_iload_n (j := 3) rfl dL_law_789 ?_
  refine g_iconst dL_law_790 ?_
  refine g_iadd dL_law_791 ?_
  refine g_xald dL_law_792 (by omega) (by omega) h4 ?_
  refine g_aload_n (j := 0) rfl dL_law_793 ?_
  refine g_iload_n (j := 3) rfl dL_law_794 ?_
  refine g_iconst dL_law_795 ?_
  refine g_iadd dL_law_796 ?_
  refine g_xald dL_law_797 (by omega) (by omega) h4 ?_
  refine g_callV dL_law_798 mlL_84 mvX12_met (ci := 12) ⟨by decide, rfl⟩ hM1.1.1.o (k_X12_met (d := 0) hM1 (sq_i w i 1) (sq_i w i 2) (sq_i w i 3)) sv3 rfl (by omega) (Nat.le_of_ble_eq_true rfl) (bc1 := bc - 200) (bs1 := bs - bs0) (by omega) (by omega) (fun v μ2 hR => ?_)
  obtain ⟨rfl, hM2, hF2⟩ := hR
  refine g_lcmpS dL_law_801 ?_
  refine g_if_eq (tgt := 1615) dL_law_802 (by decide) i32_0 (fun _ => ?_) (fun hy => absurd rfl hy)
  exact kk μ2 _ N1 _ _ (hS1.fb hF2) hM2 (by omega) (by omega)
theorem lw_15 {w : WC} {x k N bc bs : Nat} {i : Int} {μ : Mem} {S : LSt} (hS : CS w μ x S N) (hM : Mst w μ (x + 99) S) (h0 : 0 ≤ i) (h1 : i + 8 ≤ ((wX w).2.1 : Int)) (h4 : (wX w).2.1 ≤ 4096) (hbc : 200 * (k + 1) ≤ bc) (hbs : 12002 * (k + 1) + pot N ≤ bs) (kk : LwK w x k i) : G w 48 mL_law LwQ bc bs 807 [some (vP (some (wX w).1)), some (vP (some x)), some (vP (some (x + 99))), some (vI i)] [] μ := by
  refine g_aload_n (j := 1) rfl dL_law_807 ?_
  refine g_aload_n (j := 0) rfl dL_law_808 ?_
  refine g_iload_n (j := 3) rfl dL_law_809 ?_
  refine g_iconst dL_law_810 ?_
  refine g_iadd dL_law_811 ?_
  refine g_xald dL_law_812 (by omega) (by omega) h4 ?_
  refine g_aload_n (j := 0) rfl dL_law_813 ?_
  refine g_iload_n (j := 3) rfl dL_law_814 ?_
  refine g_iconst dL_law_815 ?_
  refine g_iadd dL_law_816 ?_
  refine g_xald dL_law_817 (by omega) (by omega) h4 ?_
  refine g_aload_n (j := 0) rfl dL_law_818 ?_
  refine g_iload_n (j := 3) rfl dL_law_819 ?_
  refine g_iconst dL_law_820 ?_
  refine g_iadd dL_law_821 ?_
  refine g_xald dL_law_822 (by omega) (by omega) h4 ?_
  refine g_aload_n (j := 0) rfl dL_law_823 ?_
  refine g_iload_n (j := 3) rfl dL_law_824 ?_
  refine g_iconst dL_law_825 ?_
  refine g_iadd dL_law_826 ?_
  refine g_xald dL_law_827 (by omega) (by omega) h4 ?_
  obtain ⟨bs0, hb0, hC⟩ := k_X11_meets (d := 0) hS (sq_i w i 1) (sq_i w i 2) (sq_i w i 3) (sq_i w i 4)
  refine g_callV dL_law_828 mlL_85 mvX11_meets (ci := 11) ⟨by decide, rfl⟩ hS.o hC sv4 rfl (by omega) (Nat.le_of_ble_eq_true rfl) (bc1 := bc - 200) (bs1 := bs - bs0) (by omega) (by omega) (fun v μ1 hR => ?_)
  obtain ⟨rfl, N1, hS1, hF1, hb1⟩ := hR
  have hM1 := hM.fa hF1
  clear hC
  refine g_aload_n (j := 2) rfl dL_law_831 ?_
  refine g_aload_n (j := 0) rfl dL_law_832 ?_
  refine g_iload_n (j := 3) rfl dL_law_833 ?_
  refine g_iconst dL_law_834 ?_
  refine g_iadd dL_law_835 ?_
  refine g_xald dL_law_836 (by omega) (by omega) h4 ?_
  refine g_aload_n (j := 0) rfl dL_law_837 ?_
  refine g_iload_n (j := 3) rfl dL_law_838 ?_
  refine g_iconst dL_law_839 ?_
  refine g_iadd dL_law_840 ?_
  refine g_xald dL_law_841 (by omega) (by omega) h4 ?_
  refine g_aload_n (j := 0) rfl dL_law_842 ?_
  refine g_iload_n (j := 3) rfl dL_law_843 ?_
  refine g_iconst dL_law_844 ?_
  refine g_iadd dL_law_845 ?_
  refine g_xald dL_law_846 (by omega) (by omega) h4 ?_
  refine g_aload_n (j := 0) rfl dL_law_847 ?_
  refine g_iload_n (j := 3) rfl dL_law_848 ?_
  refine g_iconst dL_law_849 ?_
  refine g_iadd dL_law_850 ?_
  refine g_xald dL_law_851 (by omega) (by omega) h4 ?_
  refine g_callV dL_law_852 mlL_88 mvX12_meets (ci := 12) ⟨by decide, rfl⟩ hM1.1.1.o (k_X12_meets (d := 0) hM1 (sq_i w i 1) (sq_i w i 2) (sq_i w i 3) (sq_i w i 4)) sv4 rfl (by omega) (Nat.le_of_ble_eq_true rfl) (bc1 := bc - 200) (bs1 := bs - bs0) (by omega) (by omega) (fun v μ2 hR => ?_)
  obtain ⟨rfl, hM2, hF2⟩ := hR
  refine g_icmpS (tgt := 1615) dL_law_855 (by decide) ?_
  exact kk μ2 _ N1 _ _ (hS1.fb hF2) hM2 (by omega) (by omega)
theorem lw_16 {w : WC} {x k N bc bs : Nat} {i : Int} {μ : Mem} {S : LSt} (hS : CS w μ x S N) (hM : Mst w μ (x + 99) S) (h0 : 0 ≤ i) (h1 : i + 8 ≤ ((wX w).2.1 : Int)) (h4 : (wX w).2.1 ≤ 4096) (hbc : 200 * (k + 1) ≤ bc) (hbs : 12002 * (k + 1) + pot N ≤ bs) (kk : LwK w x k i) : G w 48 mL_law LwQ bc bs 860 [some (vP (some (wX w).1)), some (vP (some x)), some (vP (some (x + 99))), some (vI i)] [] μ := by
  refine g_aload_n (j := 1) rfl dL_law_860 ?_
  refine g_aload_n (j := 0) rfl dL_law_861 ?_
  refine g_iload_n (j := 3) rfl dL_law_862 ?_
  refine g_iconst dL_law_863 ?_
  refine g_iadd dL_law_864 ?_
  refine g_xald dL_law_865 (by omega) (by omega) h4 ?_
  refine g_aload_n (j := 0) rfl dL_law_866 ?_
  refine g_iload_n (j := 3) rfl dL_law_867 ?_
  refine g_iconst dL_law_868 ?_
  refine g_iadd dL_law_869 ?_
  refine g_xald dL_law_870 (by omega) (by omega) h4 ?_
  refine g_aload_n (j := 0) rfl dL_law_871 ?_
  refine g_iload_n (j := 3) rfl dL_law_872 ?_
  refine g_iconst dL_law_873 ?_
  refine g_iadd dL_law_874 ?_
  refine g_xald dL_law_875 (by omega) (by omega) h4 ?_
  obtain ⟨bs0, hb0, hC⟩ := k_X11_never (d := 0) hS (sq_i w i 1) (sq_i w i 2) (sq_i w i 3)
  refine g_callV dL_law_876 mlL_89 mvX11_never (ci := 11) ⟨by decide, rfl⟩ hS.o hC sv3 rfl (by omega) (Nat.le_of_ble_eq_true rfl) (bc1 := bc - 200) (bs1 := bs - bs0) (by omega) (by omega) (fun v μ1 hR => ?_)
  obtain ⟨rfl, N1, hS1, hF1, hb1⟩ := hR
  have hM1 := hM.fa hF1
  clear hC
  refine g_aload_n (j := 2) rfl dL_law_879 ?_
  refine g_aload_n (j := 0) rfl dL_law_880 ?_
  refine g_iload_n (j := 3) rfl dL_law_881 ?_
  refine g_iconst dL_law_882 ?_
  refine g_iadd dL_law_883 ?_
  refine g_xald dL_law_884 (by omega) (by omega) h4 ?_
  refine g_aload_n (j := 0) rfl dL_law_885 ?_
  refine g_iload_n (j := 3) rfl dL_law_886 ?_
  refine g_iconst dL_law_887 ?_
  refine g_iadd dL_law_888 ?_
  refine g_xald dL_law_889 (by omega) (by omega) h4 ?_
  refine g_aload_n (j := 0) rfl dL_law_890 ?_
  refine g_iload_n (j := 3) rfl dL_law_891 ?_
  refine g_iconst dL_law_892 ?_
  refine g_iadd dL_law_893 ?_
  refine g_xald dL_law_894 (by omega) (by omega) h4 ?_
  refine g_callV dL_law_895 mlL_92 mvX12_never (ci := 12) ⟨by decide, rfl⟩ hM1.1.1.o (k_X12_never (d := 0) hM1 (sq_i w i 1) (sq_i w i 2) (sq_i w i 3)) sv3 rfl (by omega) (Nat.le_of_ble_eq_true rfl) (bc1 := bc - 200) (bs1 := bs - bs0) (by omega) (by omega) (fun v μ2 hR => ?_)
  obtain ⟨rfl, hM2, hF2⟩ := hR
  refine g_icmpS (tgt := 1615) dL_law_898 (by decide) ?_
  exact kk μ2 _ N1 _ _ (hS1.fb hF2) hM2 (by omega) (by omega)
