/-! THE LAW: its arms -/
section LW
variable {p : Program} {l : Launch} {e : Env} {s : State} {m : MethodId} {below : List Frame} {meth : Method} {c : Code} {H : Heap} {locs : List Loc} {cells slots : Nat} {Q : State → Prop}
variable {ls : Array Slot} {rest : List Value} {X : wd_X} {D : wd_D} {b L i : Nat} {xs : Nat → Int32}
def lw_Ls (ls : Array Slot) (b x0 i : Nat) : Prop := lv_has ls 4 [(0, .ref b), (1, .ref (x0 + 0)), (2, .ref (x0 + 370)), (3, .int (nI i))]
theorem sc_in {n : Nat} (h : n < L) (hL : L ≤ 384) : vp_in (nI n) L ∧ (nI n).toNatClampNeg = n := ⟨vp_in_nI h (by omega), Int32.toNatClampNeg_ofNat_of_lt (show n < 2 ^ 31 by omega)⟩
theorem sc_ld (hx : p.tables.exec = Jvm.exec) (hb : c.code = cL_law) (hX : va_X b L xs s s.heap) (hbl : b < s.heap.size) (hbA : ¬ wd_A X b) (hL : L ≤ 384) (hS : va_S (wd_A X) s.heap H locs) (hl : lw_Ls ls b X.2.2.1 i) (k : Nat) (hk : i + k < L) {pc : Nat} {n : Int} (hv : Int32.ofInt n = nI k) (d1 : decode cL_law pc = .ok (.aload_n 0, 1)) (d2 : decode cL_law (pc + 1) = .ok (.iload_n 3, 1)) (d3 : decode cL_law (pc + 2) = .ok (.iconst n, 1)) (d4 : decode cL_law (pc + 3) = .ok (.iadd, 1)) (d5 : decode cL_law (pc + 4) = .ok (.iaload, 1))
    (kk : W p l e room_1 s m #[Value.ref b] below meth c H locs cells slots Q (F0 m (pc + 5) ls (.int (xs (i + k)) :: rest))) : W p l e room_1 s m #[Value.ref b] below meth c H locs cells slots Q (F0 m pc ls rest) := by
  have hl : lv_has ls 4 [(0, .ref b), (1, .ref (X.2.2.1 + 0)), (2, .ref (X.2.2.1 + 370)), (3, .int (nI i))] := hl
  refine lv_aload_n hx hb d1 rfl (lv_at hl 0 rfl) ?_
  refine lv_iload_n hx hb d2 rfl (lv_at hl 3 rfl) ?_
  refine lv_iconst hx hb d3 hv ?_
  refine lv_iadd hx hb d4 ?_
  rw [nI_add]
  obtain ⟨h1, h2⟩ := sc_in hk hL
  refine va_sld hx hb hX hbl hbA hS h1 d5 ?_
  rw [h2]
  exact kk
/-- what every arm has -/
def lw_C (p : Program) (s : State) (m : MethodId) (c : Code) (X : wd_X) (b L : Nat) (xs : Nat → Int32) : Prop := CallFix p m c cL_law 4 s #[Value.ref b] tg "AsleepCotsLaw" ∧ wd_Env X s ∧ va_X b L xs s s.heap ∧ b < s.heap.size ∧ ¬ wd_A X b ∧ L ≤ 384
def lw_N (p : Program) (l : Launch) (e : Env) (s : State) (m : MethodId) (below : List Frame) (meth : Method) (c : Code) (cells slots : Nat) (Q : State → Prop) (ls : Array Slot) (X : wd_X) (b : Nat) : Prop := ∀ (D2 : wd_D) (H2 : Heap) (locs2 : List Loc), Inv D2 → Wd X S0 D2 H2 → va_S (wd_A X) s.heap H2 locs2 → W p l e room_1 s m #[Value.ref b] below meth c H2 locs2 cells slots Q (F0 m 1342 ls [])

theorem arm_0 (C : lw_C p s m c X b L xs) (hc : cells ≤ 600000 ∧ slots ≤ 7302250) (hI : Inv D) (hW : Wd X S0 D H) (hS : va_S (wd_A X) s.heap H locs) (hi : i + 5 < L) (hl : lw_Ls ls b X.2.2.1 i) (kk : lw_N p l e s m below meth c cells slots Q ls X b) : W p l e room_1 s m #[Value.ref b] below meth c H locs cells slots Q (F0 m 204 ls []) := by
  obtain ⟨CF, hE, hX, hbl, hbA, hL⟩ := C
  have hx := CF.1
  have hb := CF.2.1
  have hl4 : lv_has ls 4 [(0, .ref b), (1, .ref (X.2.2.1 + 0)), (2, .ref (X.2.2.1 + 370)), (3, .int (nI i))] := hl
  obtain ⟨v, D1, D2, e1, e2, hI2⟩ := op_row hI (xs (i + 1)) (xs (i + 2)) (xs (i + 3))
  refine lv_aload_n hx hb dL_law_204 rfl (lv_at hl4 1 rfl) ?_
  refine sc_ld hx hb hX hbl hbA hL hS hl 1 (by omega) (by decide) dL_law_205 dL_law_206 dL_law_207 dL_law_208 dL_law_209 ?_
  refine sc_ld hx hb hX hbl hbA hL hS hl 2 (by omega) (by decide) dL_law_210 dL_law_211 dL_law_212 dL_law_213 dL_law_214 ?_
  refine sc_ld hx hb hX hbl hbA hL hS hl 3 (by omega) (by decide) dL_law_215 dL_law_216 dL_law_217 dL_law_218 dL_law_219 ?_
  refine wd_callV CF hE hW hS (k := 0) (ci := 6) (x_X6_row l X _ _ _ D e1) mi_X6_row vi_X6_row tw258 ⟨by decide, rfl⟩ sh_0 ⟨rfl, rfl, Nat.le_of_ble_eq_true rfl, Nat.le_of_ble_eq_true rfl⟩ rfl hl4.1 rfl (Nat.le_of_ble_eq_true rfl) dL_law_220 ⟨hc.1, hc.2⟩ (fun H locs hW hS => ?_)
  refine W.rc (Nat.add_zero _) (Nat.add_zero _) ?_
  refine lv_aload_n hx hb dL_law_223 rfl (lv_at hl4 2 rfl) ?_
  refine sc_ld hx hb hX hbl hbA hL hS hl 1 (by omega) (by decide) dL_law_224 dL_law_225 dL_law_226 dL_law_227 dL_law_228 ?_
  refine sc_ld hx hb hX hbl hbA hL hS hl 2 (by omega) (by decide) dL_law_229 dL_law_230 dL_law_231 dL_law_232 dL_law_233 ?_
  refine sc_ld hx hb hX hbl hbA hL hS hl 3 (by omega) (by decide) dL_law_234 dL_law_235 dL_law_236 dL_law_237 dL_law_238 ?_
  refine wd_callV CF hE hW hS (k := 370) (ci := 7) (x_X7_row l X _ _ _ D1 e2) mi_X7_row vi_X7_row tw810 ⟨by decide, rfl⟩ sh_370 ⟨rfl, rfl, Nat.le_of_ble_eq_true rfl, Nat.le_of_ble_eq_true rfl⟩ rfl hl4.1 rfl (Nat.le_of_ble_eq_true rfl) dL_law_239 ⟨hc.1, hc.2⟩ (fun H locs hW hS => ?_)
  refine W.rc (Nat.add_zero _) (Nat.add_zero _) ?_
  exact lv_icmp_eq (tgt := 1342) hx hb dL_law_242 (by decide) (fun _ => kk _ _ _ hI2 hW hS) (fun z => absurd rfl z)
theorem arm_1 (C : lw_C p s m c X b L xs) (hc : cells ≤ 600000 ∧ slots ≤ 7302250) (hI : Inv D) (hW : Wd X S0 D H) (hS : va_S (wd_A X) s.heap H locs) (hi : i + 5 < L) (hl : lw_Ls ls b X.2.2.1 i) (kk : lw_N p l e s m below meth c cells slots Q ls X b) : W p l e room_1 s m #[Value.ref b] below meth c H locs cells slots Q (F0 m 247 ls []) := by
  obtain ⟨CF, hE, hX, hbl, hbA, hL⟩ := C
  have hx := CF.1
  have hb := CF.2.1
  have hl4 : lv_has ls 4 [(0, .ref b), (1, .ref (X.2.2.1 + 0)), (2, .ref (X.2.2.1 + 370)), (3, .int (nI i))] := hl
  obtain ⟨v, D1, D2, e1, e2, hI2⟩ := op_set hI (xs (i + 1)) (xs (i + 2)) (xs (i + 3))
  refine lv_aload_n hx hb dL_law_247 rfl (lv_at hl4 1 rfl) ?_
  refine sc_ld hx hb hX hbl hbA hL hS hl 1 (by omega) (by decide) dL_law_248 dL_law_249 dL_law_250 dL_law_251 dL_law_252 ?_
  refine sc_ld hx hb hX hbl hbA hL hS hl 2 (by omega) (by decide) dL_law_253 dL_law_254 dL_law_255 dL_law_256 dL_law_257 ?_
  refine sc_ld hx hb hX hbl hbA hL hS hl 3 (by omega) (by decide) dL_law_258 dL_law_259 dL_law_260 dL_law_261 dL_law_262 ?_
  refine wd_callV CF hE hW hS (k := 0) (ci := 6) (x_X6_set l X _ _ _ D e1) mi_X6_set vi_X6_set tw282 ⟨by decide, rfl⟩ sh_0 ⟨rfl, rfl, Nat.le_of_ble_eq_true rfl, Nat.le_of_ble_eq_true rfl⟩ rfl hl4.1 rfl (Nat.le_of_ble_eq_true rfl) dL_law_263 ⟨hc.1, hc.2⟩ (fun H locs hW hS => ?_)
  refine W.rc (Nat.add_zero _) (Nat.add_zero _) ?_
  refine lv_aload_n hx hb dL_law_266 rfl (lv_at hl4 2 rfl) ?_
  refine sc_ld hx hb hX hbl hbA hL hS hl 1 (by omega) (by decide) dL_law_267 dL_law_268 dL_law_269 dL_law_270 dL_law_271 ?_
  refine sc_ld hx hb hX hbl hbA hL hS hl 2 (by omega) (by decide) dL_law_272 dL_law_273 dL_law_274 dL_law_275 dL_law_276 ?_
  refine sc_ld hx hb hX hbl hbA hL hS hl 3 (by omega) (by decide) dL_law_277 dL_law_278 dL_law_279 dL_law_280 dL_law_281 ?_
  refine wd_callV CF hE hW hS (k := 370) (ci := 7) (x_X7_set l X _ _ _ D1 e2) mi_X7_set vi_X7_set tw832 ⟨by decide, rfl⟩ sh_370 ⟨rfl, rfl, Nat.le_of_ble_eq_true rfl, Nat.le_of_ble_eq_true rfl⟩ rfl hl4.1 rfl (Nat.le_of_ble_eq_true rfl) dL_law_282 ⟨hc.1, hc.2⟩ (fun H locs hW hS => ?_)
  refine W.rc (Nat.add_zero _) (Nat.add_zero _) ?_
  exact lv_icmp_eq (tgt := 1342) hx hb dL_law_285 (by decide) (fun _ => kk _ _ _ hI2 hW hS) (fun z => absurd rfl z)
theorem arm_2 (C : lw_C p s m c X b L xs) (hc : cells ≤ 600000 ∧ slots ≤ 7302250) (hI : Inv D) (hW : Wd X S0 D H) (hS : va_S (wd_A X) s.heap H locs) (hi : i + 5 < L) (hl : lw_Ls ls b X.2.2.1 i) (kk : lw_N p l e s m below meth c cells slots Q ls X b) : W p l e room_1 s m #[Value.ref b] below meth c H locs cells slots Q (F0 m 290 ls []) := by
  obtain ⟨CF, hE, hX, hbl, hbA, hL⟩ := C
  have hx := CF.1
  have hb := CF.2.1
  have hl4 : lv_has ls 4 [(0, .ref b), (1, .ref (X.2.2.1 + 0)), (2, .ref (X.2.2.1 + 370)), (3, .int (nI i))] := hl
  obtain ⟨v, D1, D2, e1, e2, hI2⟩ := op_copy hI (xs (i + 1)) (xs (i + 2)) (xs (i + 3)) (xs (i + 4)) (xs (i + 5))
  refine lv_aload_n hx hb dL_law_290 rfl (lv_at hl4 1 rfl) ?_
  refine sc_ld hx hb hX hbl hbA hL hS hl 1 (by omega) (by decide) dL_law_291 dL_law_292 dL_law_293 dL_law_294 dL_law_295 ?_
  refine sc_ld hx hb hX hbl hbA hL hS hl 2 (by omega) (by decide) dL_law_296 dL_law_297 dL_law_298 dL_law_299 dL_law_300 ?_
  refine sc_ld hx hb hX hbl hbA hL hS hl 3 (by omega) (by decide) dL_law_301 dL_law_302 dL_law_303 dL_law_304 dL_law_305 ?_
  refine sc_ld hx hb hX hbl hbA hL hS hl 4 (by omega) (by decide) dL_law_306 dL_law_307 dL_law_308 dL_law_309 dL_law_310 ?_
  refine sc_ld hx hb hX hbl hbA hL hS hl 5 (by omega) (by decide) dL_law_311 dL_law_312 dL_law_313 dL_law_314 dL_law_315 ?_
  refine wd_callV CF hE hW hS (k := 0) (ci := 6) (x_X6_copy l X _ _ _ _ _ D e1) mi_X6_copy vi_X6_copy tw298 ⟨by decide, rfl⟩ sh_0 ⟨rfl, rfl, Nat.le_of_ble_eq_true rfl, Nat.le_of_ble_eq_true rfl⟩ rfl hl4.1 rfl (Nat.le_of_ble_eq_true rfl) dL_law_316 ⟨hc.1, hc.2⟩ (fun H locs hW hS => ?_)
  refine W.rc (Nat.add_zero _) (Nat.add_zero _) ?_
  refine lv_aload_n hx hb dL_law_319 rfl (lv_at hl4 2 rfl) ?_
  refine sc_ld hx hb hX hbl hbA hL hS hl 1 (by omega) (by decide) dL_law_320 dL_law_321 dL_law_322 dL_law_323 dL_law_324 ?_
  refine sc_ld hx hb hX hbl hbA hL hS hl 2 (by omega) (by decide) dL_law_325 dL_law_326 dL_law_327 dL_law_328 dL_law_329 ?_
  refine sc_ld hx hb hX hbl hbA hL hS hl 3 (by omega) (by decide) dL_law_330 dL_law_331 dL_law_332 dL_law_333 dL_law_334 ?_
  refine sc_ld hx hb hX hbl hbA hL hS hl 4 (by omega) (by decide) dL_law_335 dL_law_336 dL_law_337 dL_law_338 dL_law_339 ?_
  refine sc_ld hx hb hX hbl hbA hL hS hl 5 (by omega) (by decide) dL_law_340 dL_law_341 dL_law_342 dL_law_343 dL_law_344 ?_
  refine wd_callV CF hE hW hS (k := 370) (ci := 7) (x_X7_copy l X _ _ _ _ _ D1 e2) mi_X7_copy vi_X7_copy tw836 ⟨by decide, rfl⟩ sh_370 ⟨rfl, rfl, Nat.le_of_ble_eq_true rfl, Nat.le_of_ble_eq_true rfl⟩ rfl hl4.1 rfl (Nat.le_of_ble_eq_true rfl) dL_law_345 ⟨hc.1, hc.2⟩ (fun H locs hW hS => ?_)
  refine W.rc (Nat.add_zero _) (Nat.add_zero _) ?_
  exact lv_icmp_eq (tgt := 1342) hx hb dL_law_348 (by decide) (fun _ => kk _ _ _ hI2 hW hS) (fun z => absurd rfl z)
theorem arm_3 (C : lw_C p s m c X b L xs) (hc : cells ≤ 600000 ∧ slots ≤ 7302250) (hI : Inv D) (hW : Wd X S0 D H) (hS : va_S (wd_A X) s.heap H locs) (hi : i + 5 < L) (hl : lw_Ls ls b X.2.2.1 i) (kk : lw_N p l e s m below meth c cells slots Q ls X b) : W p l e room_1 s m #[Value.ref b] below meth c H locs cells slots Q (F0 m 353 ls []) := by
  obtain ⟨CF, hE, hX, hbl, hbA, hL⟩ := C
  have hx := CF.1
  have hb := CF.2.1
  have hl4 : lv_has ls 4 [(0, .ref b), (1, .ref (X.2.2.1 + 0)), (2, .ref (X.2.2.1 + 370)), (3, .int (nI i))] := hl
  obtain ⟨v, D1, D2, e1, e2, hI2⟩ := op_drop hI (xs (i + 1))
  refine lv_aload_n hx hb dL_law_353 rfl (lv_at hl4 1 rfl) ?_
  refine sc_ld hx hb hX hbl hbA hL hS hl 1 (by omega) (by decide) dL_law_354 dL_law_355 dL_law_356 dL_law_357 dL_law_358 ?_
  refine wd_callV CF hE hW hS (k := 0) (ci := 6) (x_X6_drop l X _ D e1) mi_X6_drop vi_X6_drop tw306 ⟨by decide, rfl⟩ sh_0 ⟨rfl, rfl, Nat.le_of_ble_eq_true rfl, Nat.le_of_ble_eq_true rfl⟩ rfl hl4.1 rfl (Nat.le_of_ble_eq_true rfl) dL_law_359 ⟨hc.1, hc.2⟩ (fun H locs hW hS => ?_)
  refine W.rc (Nat.add_zero _) (Nat.add_zero _) ?_
  refine lv_aload_n hx hb dL_law_362 rfl (lv_at hl4 2 rfl) ?_
  refine sc_ld hx hb hX hbl hbA hL hS hl 1 (by omega) (by decide) dL_law_363 dL_law_364 dL_law_365 dL_law_366 dL_law_367 ?_
  refine wd_callV CF hE hW hS (k := 370) (ci := 7) (x_X7_drop l X _ D1 e2) mi_X7_drop vi_X7_drop tw843 ⟨by decide, rfl⟩ sh_370 ⟨rfl, rfl, Nat.le_of_ble_eq_true rfl, Nat.le_of_ble_eq_true rfl⟩ rfl hl4.1 rfl (Nat.le_of_ble_eq_true rfl) dL_law_368 ⟨hc.1, hc.2⟩ (fun H locs hW hS => ?_)
  refine W.rc (Nat.add_zero _) (Nat.add_zero _) ?_
  exact lv_icmp_eq (tgt := 1342) hx hb dL_law_371 (by decide) (fun _ => kk _ _ _ hI2 hW hS) (fun z => absurd rfl z)
theorem arm_4 (C : lw_C p s m c X b L xs) (hc : cells ≤ 600000 ∧ slots ≤ 7302250) (hI : Inv D) (hW : Wd X S0 D H) (hS : va_S (wd_A X) s.heap H locs) (hi : i + 5 < L) (hl : lw_Ls ls b X.2.2.1 i) (kk : lw_N p l e s m below meth c cells slots Q ls X b) : W p l e room_1 s m #[Value.ref b] below meth c H locs cells slots Q (F0 m 376 ls []) := by
  obtain ⟨CF, hE, hX, hbl, hbA, hL⟩ := C
  have hx := CF.1
  have hb := CF.2.1
  have hl4 : lv_has ls 4 [(0, .ref b), (1, .ref (X.2.2.1 + 0)), (2, .ref (X.2.2.1 + 370)), (3, .int (nI i))] := hl
  obtain ⟨v, D1, D2, e1, e2, hI2⟩ := op_feed hI (xs (i + 1))
  refine lv_aload_n hx hb dL_law_376 rfl (lv_at hl4 1 rfl) ?_
  refine sc_ld hx hb hX hbl hbA hL hS hl 1 (by omega) (by decide) dL_law_377 dL_law_378 dL_law_379 dL_law_380 dL_law_381 ?_
  refine wd_callV CF hE hW hS (k := 0) (ci := 6) (x_X6_feed l X _ D e1) mi_X6_feed vi_X6_feed tw310 ⟨by decide, rfl⟩ sh_0 ⟨rfl, rfl, Nat.le_of_ble_eq_true rfl, Nat.le_of_ble_eq_true rfl⟩ rfl hl4.1 rfl (Nat.le_of_ble_eq_true rfl) dL_law_382 ⟨hc.1, hc.2⟩ (fun H locs hW hS => ?_)
  refine W.rc (Nat.add_zero _) (Nat.add_zero _) ?_
  refine lv_aload_n hx hb dL_law_385 rfl (lv_at hl4 2 rfl) ?_
  refine sc_ld hx hb hX hbl hbA hL hS hl 1 (by omega) (by decide) dL_law_386 dL_law_387 dL_law_388 dL_law_389 dL_law_390 ?_
  refine wd_callV CF hE hW hS (k := 370) (ci := 7) (x_X7_feed l X _ D1 e2) mi_X7_feed vi_X7_feed tw847 ⟨by decide, rfl⟩ sh_370 ⟨rfl, rfl, Nat.le_of_ble_eq_true rfl, Nat.le_of_ble_eq_true rfl⟩ rfl hl4.1 rfl (Nat.le_of_ble_eq_true rfl) dL_law_391 ⟨hc.1, hc.2⟩ (fun H locs hW hS => ?_)
  refine W.rc (Nat.add_zero _) (Nat.add_zero _) ?_
  exact lv_icmp_eq (tgt := 1342) hx hb dL_law_394 (by decide) (fun _ => kk _ _ _ hI2 hW hS) (fun z => absurd rfl z)
theorem arm_5 (C : lw_C p s m c X b L xs) (hc : cells ≤ 600000 ∧ slots ≤ 7302250) (hI : Inv D) (hW : Wd X S0 D H) (hS : va_S (wd_A X) s.heap H locs) (hi : i + 5 < L) (hl : lw_Ls ls b X.2.2.1 i) (kk : lw_N p l e s m below meth c cells slots Q ls X b) : W p l e room_1 s m #[Value.ref b] below meth c H locs cells slots Q (F0 m 399 ls []) := by
  obtain ⟨CF, hE, hX, hbl, hbA, hL⟩ := C
  have hx := CF.1
  have hb := CF.2.1
  have hl4 : lv_has ls 4 [(0, .ref b), (1, .ref (X.2.2.1 + 0)), (2, .ref (X.2.2.1 + 370)), (3, .int (nI i))] := hl
  obtain ⟨v, D1, D2, e1, e2, hI2⟩ := op_room hI 
  refine lv_aload_n hx hb dL_law_399 rfl (lv_at hl4 1 rfl) ?_
  refine wd_callV CF hE hW hS (k := 0) (ci := 6) (x_X6_room l X  D e1) mi_X6_room vi_X6_room tw315 ⟨by decide, rfl⟩ sh_0 ⟨rfl, rfl, Nat.le_of_ble_eq_true rfl, Nat.le_of_ble_eq_true rfl⟩ rfl hl4.1 rfl (Nat.le_of_ble_eq_true rfl) dL_law_400 ⟨hc.1, hc.2⟩ (fun H locs hW hS => ?_)
  refine W.rc (Nat.add_zero _) (Nat.add_zero _) ?_
  refine lv_aload_n hx hb dL_law_403 rfl (lv_at hl4 2 rfl) ?_
  refine wd_callV CF hE hW hS (k := 370) (ci := 7) (x_X7_room l X  D1 e2) mi_X7_room vi_X7_room tw853 ⟨by decide, rfl⟩ sh_370 ⟨rfl, rfl, Nat.le_of_ble_eq_true rfl, Nat.le_of_ble_eq_true rfl⟩ rfl hl4.1 rfl (Nat.le_of_ble_eq_true rfl) dL_law_404 ⟨hc.1, hc.2⟩ (fun H locs hW hS => ?_)
  refine W.rc (Nat.add_zero _) (Nat.add_zero _) ?_
  exact lv_icmp_eq (tgt := 1342) hx hb dL_law_407 (by decide) (fun _ => kk _ _ _ hI2 hW hS) (fun z => absurd rfl z)
theorem arm_6 (C : lw_C p s m c X b L xs) (hc : cells ≤ 600000 ∧ slots ≤ 7302250) (hI : Inv D) (hW : Wd X S0 D H) (hS : va_S (wd_A X) s.heap H locs) (hi : i + 5 < L) (hl : lw_Ls ls b X.2.2.1 i) (kk : lw_N p l e s m below meth c cells slots Q ls X b) : W p l e room_1 s m #[Value.ref b] below meth c H locs cells slots Q (F0 m 412 ls []) := by
  obtain ⟨CF, hE, hX, hbl, hbA, hL⟩ := C
  have hx := CF.1
  have hb := CF.2.1
  have hl4 : lv_has ls 4 [(0, .ref b), (1, .ref (X.2.2.1 + 0)), (2, .ref (X.2.2.1 + 370)), (3, .int (nI i))] := hl
  have ev := op_fault hI
  refine lv_aload_n hx hb dL_law_412 rfl (lv_at hl4 1 rfl) ?_
  refine wd_callV CF hE hW hS (k := 0) (ci := 6) (x_X6_fault l X D) mi_X6_fault vi_X6_fault tw379 ⟨by decide, rfl⟩ sh_0 ⟨rfl, rfl, Nat.le_of_ble_eq_true rfl, Nat.le_of_ble_eq_true rfl⟩ rfl hl4.1 rfl (Nat.le_of_ble_eq_true rfl) dL_law_413 ⟨hc.1, hc.2⟩ (fun H locs hW hS => ?_)
  refine W.rc (Nat.add_zero _) (Nat.add_zero _) ?_
  refine lv_aload_n hx hb dL_law_416 rfl (lv_at hl4 2 rfl) ?_
  refine wd_callV CF hE hW hS (k := 370) (ci := 7) (x_X7_fault l X D) mi_X7_fault vi_X7_fault tw891 ⟨by decide, rfl⟩ sh_370 ⟨rfl, rfl, Nat.le_of_ble_eq_true rfl, Nat.le_of_ble_eq_true rfl⟩ rfl hl4.1 rfl (Nat.le_of_ble_eq_true rfl) dL_law_417 ⟨hc.1, hc.2⟩ (fun H locs hW hS => ?_)
  refine W.rc (Nat.add_zero _) (Nat.add_zero _) ?_
  exact lv_icmp_eq (tgt := 1342) hx hb dL_law_420 (by decide) (fun _ => kk _ _ _ hI hW hS) (fun z => absurd ev z)
theorem arm_7 (C : lw_C p s m c X b L xs) (hc : cells ≤ 600000 ∧ slots ≤ 7302250) (hI : Inv D) (hW : Wd X S0 D H) (hS : va_S (wd_A X) s.heap H locs) (hi : i + 5 < L) (hl : lw_Ls ls b X.2.2.1 i) (kk : lw_N p l e s m below meth c cells slots Q ls X b) : W p l e room_1 s m #[Value.ref b] below meth c H locs cells slots Q (F0 m 425 ls []) := by
  obtain ⟨CF, hE, hX, hbl, hbA, hL⟩ := C
  have hx := CF.1
  have hb := CF.2.1
  have hl4 : lv_has ls 4 [(0, .ref b), (1, .ref (X.2.2.1 + 0)), (2, .ref (X.2.2.1 + 370)), (3, .int (nI i))] := hl
  obtain ⟨v, D1, D2, e1, e2, hI2⟩ := op_undo hI 
  refine lv_aload_n hx hb dL_law_425 rfl (lv_at hl4 1 rfl) ?_
  refine wd_callV CF hE hW hS (k := 0) (ci := 6) (x_X6_undo l X  D e1) mi_X6_undo vi_X6_undo tw383 ⟨by decide, rfl⟩ sh_0 ⟨rfl, rfl, Nat.le_of_ble_eq_true rfl, Nat.le_of_ble_eq_true rfl⟩ rfl hl4.1 rfl (Nat.le_of_ble_eq_true rfl) dL_law_426 ⟨hc.1, hc.2⟩ (fun H locs hW hS => ?_)
  refine W.rc (Nat.add_zero _) (Nat.add_zero _) ?_
  refine lv_aload_n hx hb dL_law_429 rfl (lv_at hl4 2 rfl) ?_
  refine wd_callV CF hE hW hS (k := 370) (ci := 7) (x_X7_undo l X  D1 e2) mi_X7_undo vi_X7_undo tw895 ⟨by decide, rfl⟩ sh_370 ⟨rfl, rfl, Nat.le_of_ble_eq_true rfl, Nat.le_of_ble_eq_true rfl⟩ rfl hl4.1 rfl (Nat.le_of_ble_eq_true rfl) dL_law_430 ⟨hc.1, hc.2⟩ (fun H locs hW hS => ?_)
  refine W.rc (Nat.add_zero _) (Nat.add_zero _) ?_
  exact lv_icmp_eq (tgt := 1342) hx hb dL_law_433 (by decide) (fun _ => kk _ _ _ hI2 hW hS) (fun z => absurd rfl z)
theorem arm_8 (C : lw_C p s m c X b L xs) (hc : cells ≤ 600000 ∧ slots ≤ 7302250) (hI : Inv D) (hW : Wd X S0 D H) (hS : va_S (wd_A X) s.heap H locs) (hi : i + 5 < L) (hl : lw_Ls ls b X.2.2.1 i) (kk : lw_N p l e s m below meth c cells slots Q ls X b) : W p l e room_1 s m #[Value.ref b] below meth c H locs cells slots Q (F0 m 438 ls []) := by
  obtain ⟨CF, hE, hX, hbl, hbA, hL⟩ := C
  have hx := CF.1
  have hb := CF.2.1
  have hl4 : lv_has ls 4 [(0, .ref b), (1, .ref (X.2.2.1 + 0)), (2, .ref (X.2.2.1 + 370)), (3, .int (nI i))] := hl
  obtain ⟨v, D1, D2, e1, e2, hI2⟩ := op_minutes hI (xs (i + 1))
  refine lv_aload_n hx hb dL_law_438 rfl (lv_at hl4 1 rfl) ?_
  refine sc_ld hx hb hX hbl hbA hL hS hl 1 (by omega) (by decide) dL_law_439 dL_law_440 dL_law_441 dL_law_442 dL_law_443 ?_
  refine wd_callV CF hE hW hS (k := 0) (ci := 6) (x_X6_minutes l X _ D e1) mi_X6_minutes vi_X6_minutes tw393 ⟨by decide, rfl⟩ sh_0 ⟨rfl, rfl, Nat.le_of_ble_eq_true rfl, Nat.le_of_ble_eq_true rfl⟩ rfl hl4.1 rfl (Nat.le_of_ble_eq_true rfl) dL_law_444 ⟨hc.1, hc.2⟩ (fun H locs hW hS => ?_)
  refine W.rc (Nat.add_zero _) (Nat.add_zero _) ?_
  refine lv_aload_n hx hb dL_law_447 rfl (lv_at hl4 2 rfl) ?_
  refine sc_ld hx hb hX hbl hbA hL hS hl 1 (by omega) (by decide) dL_law_448 dL_law_449 dL_law_450 dL_law_451 dL_law_452 ?_
  refine wd_callV CF hE hW hS (k := 370) (ci := 7) (x_X7_minutes l X _ D1 e2) mi_X7_minutes vi_X7_minutes tw900 ⟨by decide, rfl⟩ sh_370 ⟨rfl, rfl, Nat.le_of_ble_eq_true rfl, Nat.le_of_ble_eq_true rfl⟩ rfl hl4.1 rfl (Nat.le_of_ble_eq_true rfl) dL_law_453 ⟨hc.1, hc.2⟩ (fun H locs hW hS => ?_)
  refine W.rc (Nat.add_zero _) (Nat.add_zero _) ?_
  exact lv_icmp_eq (tgt := 1342) hx hb dL_law_456 (by decide) (fun _ => kk _ _ _ hI2 hW hS) (fun z => absurd rfl z)
theorem arm_9 (C : lw_C p s m c X b L xs) (hc : cells ≤ 600000 ∧ slots ≤ 7302250) (hI : Inv D) (hW : Wd X S0 D H) (hS : va_S (wd_A X) s.heap H locs) (hi : i + 5 < L) (hl : lw_Ls ls b X.2.2.1 i) (kk : lw_N p l e s m below meth c cells slots Q ls X b) : W p l e room_1 s m #[Value.ref b] below meth c H locs cells slots Q (F0 m 461 ls []) := by
  obtain ⟨CF, hE, hX, hbl, hbA, hL⟩ := C
  have hx := CF.1
  have hb := CF.2.1
  have hl4 : lv_has ls 4 [(0, .ref b), (1, .ref (X.2.2.1 + 0)), (2, .ref (X.2.2.1 + 370)), (3, .int (nI i))] := hl
  obtain ⟨v, D1, D2, e1, e2, hI2⟩ := op_hand hI (xs (i + 1)) (xs (i + 2))
  refine lv_aload_n hx hb dL_law_461 rfl (lv_at hl4 1 rfl) ?_
  refine sc_ld hx hb hX hbl hbA hL hS hl 1 (by omega) (by decide) dL_law_462 dL_law_463 dL_law_464 dL_law_465 dL_law_466 ?_
  refine sc_ld hx hb hX hbl hbA hL hS hl 2 (by omega) (by decide) dL_law_467 dL_law_468 dL_law_469 dL_law_470 dL_law_471 ?_
  refine wd_callV CF hE hW hS (k := 0) (ci := 6) (x_X6_hand l X _ _ D e1) mi_X6_hand vi_X6_hand tw460 ⟨by decide, rfl⟩ sh_0 ⟨rfl, rfl, Nat.le_of_ble_eq_true rfl, Nat.le_of_ble_eq_true rfl⟩ rfl hl4.1 rfl (Nat.le_of_ble_eq_true rfl) dL_law_472 ⟨hc.1, hc.2⟩ (fun H locs hW hS => ?_)
  refine W.rc (Nat.add_zero _) (Nat.add_zero _) ?_
  refine lv_aload_n hx hb dL_law_475 rfl (lv_at hl4 2 rfl) ?_
  refine sc_ld hx hb hX hbl hbA hL hS hl 1 (by omega) (by decide) dL_law_476 dL_law_477 dL_law_478 dL_law_479 dL_law_480 ?_
  refine sc_ld hx hb hX hbl hbA hL hS hl 2 (by omega) (by decide) dL_law_481 dL_law_482 dL_law_483 dL_law_484 dL_law_485 ?_
  refine wd_callV CF hE hW hS (k := 370) (ci := 7) (x_X7_hand l X _ _ D1 e2) mi_X7_hand vi_X7_hand tw951 ⟨by decide, rfl⟩ sh_370 ⟨rfl, rfl, Nat.le_of_ble_eq_true rfl, Nat.le_of_ble_eq_true rfl⟩ rfl hl4.1 rfl (Nat.le_of_ble_eq_true rfl) dL_law_486 ⟨hc.1, hc.2⟩ (fun H locs hW hS => ?_)
  refine W.rc (Nat.add_zero _) (Nat.add_zero _) ?_
  exact lv_icmp_eq (tgt := 1342) hx hb dL_law_489 (by decide) (fun _ => kk _ _ _ hI2 hW hS) (fun z => absurd rfl z)
theorem arm_10 (C : lw_C p s m c X b L xs) (hc : cells ≤ 600000 ∧ slots ≤ 7302250) (hI : Inv D) (hW : Wd X S0 D H) (hS : va_S (wd_A X) s.heap H locs) (hi : i + 5 < L) (hl : lw_Ls ls b X.2.2.1 i) (kk : lw_N p l e s m below meth c cells slots Q ls X b) : W p l e room_1 s m #[Value.ref b] below meth c H locs cells slots Q (F0 m 494 ls []) := by
  obtain ⟨CF, hE, hX, hbl, hbA, hL⟩ := C
  have hx := CF.1
  have hb := CF.2.1
  have hl4 : lv_has ls 4 [(0, .ref b), (1, .ref (X.2.2.1 + 0)), (2, .ref (X.2.2.1 + 370)), (3, .int (nI i))] := hl
  obtain ⟨v, D1, D2, e1, e2, hI2⟩ := op_carry hI (xs (i + 1)) (xs (i + 2))
  refine lv_aload_n hx hb dL_law_494 rfl (lv_at hl4 1 rfl) ?_
  refine sc_ld hx hb hX hbl hbA hL hS hl 1 (by omega) (by decide) dL_law_495 dL_law_496 dL_law_497 dL_law_498 dL_law_499 ?_
  refine sc_ld hx hb hX hbl hbA hL hS hl 2 (by omega) (by decide) dL_law_500 dL_law_501 dL_law_502 dL_law_503 dL_law_504 ?_
  refine wd_callV CF hE hW hS (k := 0) (ci := 6) (x_X6_carry l X _ _ D e1) mi_X6_carry vi_X6_carry tw475 ⟨by decide, rfl⟩ sh_0 ⟨rfl, rfl, Nat.le_of_ble_eq_true rfl, Nat.le_of_ble_eq_true rfl⟩ rfl hl4.1 rfl (Nat.le_of_ble_eq_true rfl) dL_law_505 ⟨hc.1, hc.2⟩ (fun H locs hW hS => ?_)
  refine W.rc (Nat.add_zero _) (Nat.add_zero _) ?_
  refine lv_aload_n hx hb dL_law_508 rfl (lv_at hl4 2 rfl) ?_
  refine sc_ld hx hb hX hbl hbA hL hS hl 1 (by omega) (by decide) dL_law_509 dL_law_510 dL_law_511 dL_law_512 dL_law_513 ?_
  refine sc_ld hx hb hX hbl hbA hL hS hl 2 (by omega) (by decide) dL_law_514 dL_law_515 dL_law_516 dL_law_517 dL_law_518 ?_
  refine wd_callV CF hE hW hS (k := 370) (ci := 7) (x_X7_carry l X _ _ D1 e2) mi_X7_carry vi_X7_carry tw962 ⟨by decide, rfl⟩ sh_370 ⟨rfl, rfl, Nat.le_of_ble_eq_true rfl, Nat.le_of_ble_eq_true rfl⟩ rfl hl4.1 rfl (Nat.le_of_ble_eq_true rfl) dL_law_519 ⟨hc.1, hc.2⟩ (fun H locs hW hS => ?_)
  refine W.rc (Nat.add_zero _) (Nat.add_zero _) ?_
  exact lv_icmp_eq (tgt := 1342) hx hb dL_law_522 (by decide) (fun _ => kk _ _ _ hI2 hW hS) (fun z => absurd rfl z)
theorem arm_11 (C : lw_C p s m c X b L xs) (hc : cells ≤ 600000 ∧ slots ≤ 7302250) (hI : Inv D) (hW : Wd X S0 D H) (hS : va_S (wd_A X) s.heap H locs) (hi : i + 5 < L) (hl : lw_Ls ls b X.2.2.1 i) (kk : lw_N p l e s m below meth c cells slots Q ls X b) : W p l e room_1 s m #[Value.ref b] below meth c H locs cells slots Q (F0 m 527 ls []) := by
  obtain ⟨CF, hE, hX, hbl, hbA, hL⟩ := C
  have hx := CF.1
  have hb := CF.2.1
  have hl4 : lv_has ls 4 [(0, .ref b), (1, .ref (X.2.2.1 + 0)), (2, .ref (X.2.2.1 + 370)), (3, .int (nI i))] := hl
  obtain ⟨v, D1, D2, e1, e2, hI2⟩ := op_change hI (xs (i + 1)) (xs (i + 2))
  refine lv_aload_n hx hb dL_law_527 rfl (lv_at hl4 1 rfl) ?_
  refine sc_ld hx hb hX hbl hbA hL hS hl 1 (by omega) (by decide) dL_law_528 dL_law_529 dL_law_530 dL_law_531 dL_law_532 ?_
  refine sc_ld hx hb hX hbl hbA hL hS hl 2 (by omega) (by decide) dL_law_533 dL_law_534 dL_law_535 dL_law_536 dL_law_537 ?_
  refine wd_callV CF hE hW hS (k := 0) (ci := 6) (x_X6_change l X _ _ D e1) mi_X6_change vi_X6_change tw479 ⟨by decide, rfl⟩ sh_0 ⟨rfl, rfl, Nat.le_of_ble_eq_true rfl, Nat.le_of_ble_eq_true rfl⟩ rfl hl4.1 rfl (Nat.le_of_ble_eq_true rfl) dL_law_538 ⟨hc.1, hc.2⟩ (fun H locs hW hS => ?_)
  refine W.rc (Nat.add_zero _) (Nat.add_zero _) ?_
  refine lv_aload_n hx hb dL_law_541 rfl (lv_at hl4 2 rfl) ?_
  refine sc_ld hx hb hX hbl hbA hL hS hl 1 (by omega) (by decide) dL_law_542 dL_law_543 dL_law_544 dL_law_545 dL_law_546 ?_
  refine sc_ld hx hb hX hbl hbA hL hS hl 2 (by omega) (by decide) dL_law_547 dL_law_548 dL_law_549 dL_law_550 dL_law_551 ?_
  refine wd_callV CF hE hW hS (k := 370) (ci := 7) (x_X7_change l X _ _ D1 e2) mi_X7_change vi_X7_change tw966 ⟨by decide, rfl⟩ sh_370 ⟨rfl, rfl, Nat.le_of_ble_eq_true rfl, Nat.le_of_ble_eq_true rfl⟩ rfl hl4.1 rfl (Nat.le_of_ble_eq_true rfl) dL_law_552 ⟨hc.1, hc.2⟩ (fun H locs hW hS => ?_)
  refine W.rc (Nat.add_zero _) (Nat.add_zero _) ?_
  exact lv_icmp_eq (tgt := 1342) hx hb dL_law_555 (by decide) (fun _ => kk _ _ _ hI2 hW hS) (fun z => absurd rfl z)
theorem arm_12 (C : lw_C p s m c X b L xs) (hc : cells ≤ 600000 ∧ slots ≤ 7302250) (hI : Inv D) (hW : Wd X S0 D H) (hS : va_S (wd_A X) s.heap H locs) (hi : i + 5 < L) (hl : lw_Ls ls b X.2.2.1 i) (kk : lw_N p l e s m below meth c cells slots Q ls X b) : W p l e room_1 s m #[Value.ref b] below meth c H locs cells slots Q (F0 m 560 ls []) := by
  obtain ⟨CF, hE, hX, hbl, hbA, hL⟩ := C
  have hx := CF.1
  have hb := CF.2.1
  have hl4 : lv_has ls 4 [(0, .ref b), (1, .ref (X.2.2.1 + 0)), (2, .ref (X.2.2.1 + 370)), (3, .int (nI i))] := hl
  obtain ⟨v, D1, D2, e1, e2, hI2⟩ := op_lorry hI (xs (i + 1))
  refine lv_aload_n hx hb dL_law_560 rfl (lv_at hl4 1 rfl) ?_
  refine sc_ld hx hb hX hbl hbA hL hS hl 1 (by omega) (by decide) dL_law_561 dL_law_562 dL_law_563 dL_law_564 dL_law_565 ?_
  refine wd_callV CF hE hW hS (k := 0) (ci := 6) (x_X6_lorry l X _ D e1) mi_X6_lorry vi_X6_lorry tw487 ⟨by decide, rfl⟩ sh_0 ⟨rfl, rfl, Nat.le_of_ble_eq_true rfl, Nat.le_of_ble_eq_true rfl⟩ rfl hl4.1 rfl (Nat.le_of_ble_eq_true rfl) dL_law_566 ⟨hc.1, hc.2⟩ (fun H locs hW hS => ?_)
  refine W.rc (Nat.add_zero _) (Nat.add_zero _) ?_
  refine lv_aload_n hx hb dL_law_569 rfl (lv_at hl4 2 rfl) ?_
  refine sc_ld hx hb hX hbl hbA hL hS hl 1 (by omega) (by decide) dL_law_570 dL_law_571 dL_law_572 dL_law_573 dL_law_574 ?_
  refine wd_callV CF hE hW hS (k := 370) (ci := 7) (x_X7_lorry l X _ D1 e2) mi_X7_lorry vi_X7_lorry tw974 ⟨by decide, rfl⟩ sh_370 ⟨rfl, rfl, Nat.le_of_ble_eq_true rfl, Nat.le_of_ble_eq_true rfl⟩ rfl hl4.1 rfl (Nat.le_of_ble_eq_true rfl) dL_law_575 ⟨hc.1, hc.2⟩ (fun H locs hW hS => ?_)
  refine W.rc (Nat.add_zero _) (Nat.add_zero _) ?_
  exact lv_icmp_eq (tgt := 1342) hx hb dL_law_578 (by decide) (fun _ => kk _ _ _ hI2 hW hS) (fun z => absurd rfl z)
theorem arm_13 (C : lw_C p s m c X b L xs) (hc : cells ≤ 600000 ∧ slots ≤ 7302250) (hI : Inv D) (hW : Wd X S0 D H) (hS : va_S (wd_A X) s.heap H locs) (hi : i + 5 < L) (hl : lw_Ls ls b X.2.2.1 i) (kk : lw_N p l e s m below meth c cells slots Q ls X b) : W p l e room_1 s m #[Value.ref b] below meth c H locs cells slots Q (F0 m 583 ls []) := by
  obtain ⟨CF, hE, hX, hbl, hbA, hL⟩ := C
  have hx := CF.1
  have hb := CF.2.1
  have hl4 : lv_has ls 4 [(0, .ref b), (1, .ref (X.2.2.1 + 0)), (2, .ref (X.2.2.1 + 370)), (3, .int (nI i))] := hl
  obtain ⟨v, D1, D2, e1, e2, hI2⟩ := op_need hI (xs (i + 1)) (xs (i + 2))
  refine lv_aload_n hx hb dL_law_583 rfl (lv_at hl4 1 rfl) ?_
  refine sc_ld hx hb hX hbl hbA hL hS hl 1 (by omega) (by decide) dL_law_584 dL_law_585 dL_law_586 dL_law_587 dL_law_588 ?_
  refine sc_ld hx hb hX hbl hbA hL hS hl 2 (by omega) (by decide) dL_law_589 dL_law_590 dL_law_591 dL_law_592 dL_law_593 ?_
  refine wd_callV CF hE hW hS (k := 0) (ci := 6) (x_X6_need l X _ _ D e1) mi_X6_need vi_X6_need tw495 ⟨by decide, rfl⟩ sh_0 ⟨rfl, rfl, Nat.le_of_ble_eq_true rfl, Nat.le_of_ble_eq_true rfl⟩ rfl hl4.1 rfl (Nat.le_of_ble_eq_true rfl) dL_law_594 ⟨hc.1, hc.2⟩ (fun H locs hW hS => ?_)
  refine W.rc (Nat.add_zero _) (Nat.add_zero _) ?_
  refine lv_aload_n hx hb dL_law_597 rfl (lv_at hl4 2 rfl) ?_
  refine sc_ld hx hb hX hbl hbA hL hS hl 1 (by omega) (by decide) dL_law_598 dL_law_599 dL_law_600 dL_law_601 dL_law_602 ?_
  refine sc_ld hx hb hX hbl hbA hL hS hl 2 (by omega) (by decide) dL_law_603 dL_law_604 dL_law_605 dL_law_606 dL_law_607 ?_
  refine wd_callV CF hE hW hS (k := 370) (ci := 7) (x_X7_need l X _ _ D1 e2) mi_X7_need vi_X7_need tw983 ⟨by decide, rfl⟩ sh_370 ⟨rfl, rfl, Nat.le_of_ble_eq_true rfl, Nat.le_of_ble_eq_true rfl⟩ rfl hl4.1 rfl (Nat.le_of_ble_eq_true rfl) dL_law_608 ⟨hc.1, hc.2⟩ (fun H locs hW hS => ?_)
  refine W.rc (Nat.add_zero _) (Nat.add_zero _) ?_
  exact lv_icmp_eq (tgt := 1342) hx hb dL_law_611 (by decide) (fun _ => kk _ _ _ hI2 hW hS) (fun z => absurd rfl z)
theorem arm_14 (C : lw_C p s m c X b L xs) (hc : cells ≤ 600000 ∧ slots ≤ 7302250) (hI : Inv D) (hW : Wd X S0 D H) (hS : va_S (wd_A X) s.heap H locs) (hi : i + 5 < L) (hl : lw_Ls ls b X.2.2.1 i) (kk : lw_N p l e s m below meth c cells slots Q ls X b) : W p l e room_1 s m #[Value.ref b] below meth c H locs cells slots Q (F0 m 616 ls []) := by
  obtain ⟨CF, hE, hX, hbl, hbA, hL⟩ := C
  have hx := CF.1
  have hb := CF.2.1
  have hl4 : lv_has ls 4 [(0, .ref b), (1, .ref (X.2.2.1 + 0)), (2, .ref (X.2.2.1 + 370)), (3, .int (nI i))] := hl
  obtain ⟨v, e1, e2⟩ := op_child hI (xs (i + 1)) (xs (i + 2))
  refine lv_aload_n hx hb dL_law_616 rfl (lv_at hl4 1 rfl) ?_
  refine sc_ld hx hb hX hbl hbA hL hS hl 1 (by omega) (by decide) dL_law_617 dL_law_618 dL_law_619 dL_law_620 dL_law_621 ?_
  refine sc_ld hx hb hX hbl hbA hL hS hl 2 (by omega) (by decide) dL_law_622 dL_law_623 dL_law_624 dL_law_625 dL_law_626 ?_
  refine wd_callV CF hE hW hS (k := 0) (ci := 6) (x_X6_child l X _ _ D e1) mi_X6_child vi_X6_child tw499 ⟨by decide, rfl⟩ sh_0 ⟨rfl, rfl, Nat.le_of_ble_eq_true rfl, Nat.le_of_ble_eq_true rfl⟩ rfl hl4.1 rfl (Nat.le_of_ble_eq_true rfl) dL_law_627 ⟨hc.1, hc.2⟩ (fun H locs hW hS => ?_)
  refine W.rc (Nat.add_zero _) (Nat.add_zero _) ?_
  refine lv_aload_n hx hb dL_law_630 rfl (lv_at hl4 2 rfl) ?_
  refine sc_ld hx hb hX hbl hbA hL hS hl 1 (by omega) (by decide) dL_law_631 dL_law_632 dL_law_633 dL_law_634 dL_law_635 ?_
  refine sc_ld hx hb hX hbl hbA hL hS hl 2 (by omega) (by decide) dL_law_636 dL_law_637 dL_law_638 dL_law_639 dL_law_640 ?_
  refine wd_callV CF hE hW hS (k := 370) (ci := 7) (x_X7_child l X _ _ D e2) mi_X7_child vi_X7_child tw988 ⟨by decide, rfl⟩ sh_370 ⟨rfl, rfl, Nat.le_of_ble_eq_true rfl, Nat.le_of_ble_eq_true rfl⟩ rfl hl4.1 rfl (Nat.le_of_ble_eq_true rfl) dL_law_641 ⟨hc.1, hc.2⟩ (fun H locs hW hS => ?_)
  refine W.rc (Nat.add_zero _) (Nat.add_zero _) ?_
  exact lv_icmp_eq (tgt := 1342) hx hb dL_law_644 (by decide) (fun _ => kk _ _ _ hI hW hS) (fun z => absurd rfl z)
theorem arm_15 (C : lw_C p s m c X b L xs) (hc : cells ≤ 600000 ∧ slots ≤ 7302250) (hI : Inv D) (hW : Wd X S0 D H) (hS : va_S (wd_A X) s.heap H locs) (hi : i + 5 < L) (hl : lw_Ls ls b X.2.2.1 i) (kk : lw_N p l e s m below meth c cells slots Q ls X b) : W p l e room_1 s m #[Value.ref b] below meth c H locs cells slots Q (F0 m 649 ls []) := by
  obtain ⟨CF, hE, hX, hbl, hbA, hL⟩ := C
  have hx := CF.1
  have hb := CF.2.1
  have hl4 : lv_has ls 4 [(0, .ref b), (1, .ref (X.2.2.1 + 0)), (2, .ref (X.2.2.1 + 370)), (3, .int (nI i))] := hl
  obtain ⟨v, e1, e2⟩ := op_stand hI (xs (i + 1))
  refine lv_aload_n hx hb dL_law_649 rfl (lv_at hl4 1 rfl) ?_
  refine sc_ld hx hb hX hbl hbA hL hS hl 1 (by omega) (by decide) dL_law_650 dL_law_651 dL_law_652 dL_law_653 dL_law_654 ?_
  refine wd_callV CF hE hW hS (k := 0) (ci := 6) (x_X6_stand l X _ D e1) mi_X6_stand vi_X6_stand tw505 ⟨by decide, rfl⟩ sh_0 ⟨rfl, rfl, Nat.le_of_ble_eq_true rfl, Nat.le_of_ble_eq_true rfl⟩ rfl hl4.1 rfl (Nat.le_of_ble_eq_true rfl) dL_law_655 ⟨hc.1, hc.2⟩ (fun H locs hW hS => ?_)
  refine W.rc (Nat.add_zero _) (Nat.add_zero _) ?_
  refine lv_aload_n hx hb dL_law_658 rfl (lv_at hl4 2 rfl) ?_
  refine sc_ld hx hb hX hbl hbA hL hS hl 1 (by omega) (by decide) dL_law_659 dL_law_660 dL_law_661 dL_law_662 dL_law_663 ?_
  refine wd_callV CF hE hW hS (k := 370) (ci := 7) (x_X7_stand l X _ D e2) mi_X7_stand vi_X7_stand tw992 ⟨by decide, rfl⟩ sh_370 ⟨rfl, rfl, Nat.le_of_ble_eq_true rfl, Nat.le_of_ble_eq_true rfl⟩ rfl hl4.1 rfl (Nat.le_of_ble_eq_true rfl) dL_law_664 ⟨hc.1, hc.2⟩ (fun H locs hW hS => ?_)
  refine W.rc (Nat.add_zero _) (Nat.add_zero _) ?_
  exact lv_icmp_eq (tgt := 1342) hx hb dL_law_667 (by decide) (fun _ => kk _ _ _ hI hW hS) (fun z => absurd rfl z)
theorem arm_16 (C : lw_C p s m c X b L xs) (hc : cells ≤ 600000 ∧ slots ≤ 7302250) (hI : Inv D) (hW : Wd X S0 D H) (hS : va_S (wd_A X) s.heap H locs) (hi : i + 5 < L) (hl : lw_Ls ls b X.2.2.1 i) (kk : lw_N p l e s m below meth c cells slots Q ls X b) : W p l e room_1 s m #[Value.ref b] below meth c H locs cells slots Q (F0 m 672 ls []) := by
  obtain ⟨CF, hE, hX, hbl, hbA, hL⟩ := C
  have hx := CF.1
  have hb := CF.2.1
  have hl4 : lv_has ls 4 [(0, .ref b), (1, .ref (X.2.2.1 + 0)), (2, .ref (X.2.2.1 + 370)), (3, .int (nI i))] := hl
  obtain ⟨v, D1, D2, e1, e2, hI2⟩ := op_ahead hI (xs (i + 1)) (xs (i + 2))
  refine lv_aload_n hx hb dL_law_672 rfl (lv_at hl4 1 rfl) ?_
  refine sc_ld hx hb hX hbl hbA hL hS hl 1 (by omega) (by decide) dL_law_673 dL_law_674 dL_law_675 dL_law_676 dL_law_677 ?_
  refine sc_ld hx hb hX hbl hbA hL hS hl 2 (by omega) (by decide) dL_law_678 dL_law_679 dL_law_680 dL_law_681 dL_law_682 ?_
  refine wd_callV CF hE hW hS (k := 0) (ci := 6) (x_X6_ahead l X _ _ D e1) mi_X6_ahead vi_X6_ahead tw509 ⟨by decide, rfl⟩ sh_0 ⟨rfl, rfl, Nat.le_of_ble_eq_true rfl, Nat.le_of_ble_eq_true rfl⟩ rfl hl4.1 rfl (Nat.le_of_ble_eq_true rfl) dL_law_683 ⟨hc.1, hc.2⟩ (fun H locs hW hS => ?_)
  refine W.rc (Nat.add_zero _) (Nat.add_zero _) ?_
  refine lv_aload_n hx hb dL_law_686 rfl (lv_at hl4 2 rfl) ?_
  refine sc_ld hx hb hX hbl hbA hL hS hl 1 (by omega) (by decide) dL_law_687 dL_law_688 dL_law_689 dL_law_690 dL_law_691 ?_
  refine sc_ld hx hb hX hbl hbA hL hS hl 2 (by omega) (by decide) dL_law_692 dL_law_693 dL_law_694 dL_law_695 dL_law_696 ?_
  refine wd_callV CF hE hW hS (k := 370) (ci := 7) (x_X7_ahead l X _ _ D1 e2) mi_X7_ahead vi_X7_ahead tw996 ⟨by decide, rfl⟩ sh_370 ⟨rfl, rfl, Nat.le_of_ble_eq_true rfl, Nat.le_of_ble_eq_true rfl⟩ rfl hl4.1 rfl (Nat.le_of_ble_eq_true rfl) dL_law_697 ⟨hc.1, hc.2⟩ (fun H locs hW hS => ?_)
  refine W.rc (Nat.add_zero _) (Nat.add_zero _) ?_
  exact lv_icmp_eq (tgt := 1342) hx hb dL_law_700 (by decide) (fun _ => kk _ _ _ hI2 hW hS) (fun z => absurd rfl z)
theorem arm_17 (C : lw_C p s m c X b L xs) (hc : cells ≤ 600000 ∧ slots ≤ 7302250) (hI : Inv D) (hW : Wd X S0 D H) (hS : va_S (wd_A X) s.heap H locs) (hi : i + 5 < L) (hl : lw_Ls ls b X.2.2.1 i) (kk : lw_N p l e s m below meth c cells slots Q ls X b) : W p l e room_1 s m #[Value.ref b] below meth c H locs cells slots Q (F0 m 705 ls []) := by
  obtain ⟨CF, hE, hX, hbl, hbA, hL⟩ := C
  have hx := CF.1
  have hb := CF.2.1
  have hl4 : lv_has ls 4 [(0, .ref b), (1, .ref (X.2.2.1 + 0)), (2, .ref (X.2.2.1 + 370)), (3, .int (nI i))] := hl
  obtain ⟨v, D1, D2, e1, e2, hI2⟩ := op_noise hI (xs (i + 1)) (xs (i + 2))
  refine lv_aload_n hx hb dL_law_705 rfl (lv_at hl4 1 rfl) ?_
  refine sc_ld hx hb hX hbl hbA hL hS hl 1 (by omega) (by decide) dL_law_706 dL_law_707 dL_law_708 dL_law_709 dL_law_710 ?_
  refine sc_ld hx hb hX hbl hbA hL hS hl 2 (by omega) (by decide) dL_law_711 dL_law_712 dL_law_713 dL_law_714 dL_law_715 ?_
  refine wd_callV CF hE hW hS (k := 0) (ci := 6) (x_X6_noise l X _ _ D e1) mi_X6_noise vi_X6_noise tw523 ⟨by decide, rfl⟩ sh_0 ⟨rfl, rfl, Nat.le_of_ble_eq_true rfl, Nat.le_of_ble_eq_true rfl⟩ rfl hl4.1 rfl (Nat.le_of_ble_eq_true rfl) dL_law_716 ⟨hc.1, hc.2⟩ (fun H locs hW hS => ?_)
  refine W.rc (Nat.add_zero _) (Nat.add_zero _) ?_
  refine lv_aload_n hx hb dL_law_719 rfl (lv_at hl4 2 rfl) ?_
  refine sc_ld hx hb hX hbl hbA hL hS hl 1 (by omega) (by decide) dL_law_720 dL_law_721 dL_law_722 dL_law_723 dL_law_724 ?_
  refine sc_ld hx hb hX hbl hbA hL hS hl 2 (by omega) (by decide) dL_law_725 dL_law_726 dL_law_727 dL_law_728 dL_law_729 ?_
  refine wd_callV CF hE hW hS (k := 370) (ci := 7) (x_X7_noise l X _ _ D1 e2) mi_X7_noise vi_X7_noise tw1012 ⟨by decide, rfl⟩ sh_370 ⟨rfl, rfl, Nat.le_of_ble_eq_true rfl, Nat.le_of_ble_eq_true rfl⟩ rfl hl4.1 rfl (Nat.le_of_ble_eq_true rfl) dL_law_730 ⟨hc.1, hc.2⟩ (fun H locs hW hS => ?_)
  refine W.rc (Nat.add_zero _) (Nat.add_zero _) ?_
  exact lv_icmp_eq (tgt := 1342) hx hb dL_law_733 (by decide) (fun _ => kk _ _ _ hI2 hW hS) (fun z => absurd rfl z)
theorem arm_18 (C : lw_C p s m c X b L xs) (hc : cells ≤ 600000 ∧ slots ≤ 7302250) (hI : Inv D) (hW : Wd X S0 D H) (hS : va_S (wd_A X) s.heap H locs) (hi : i + 5 < L) (hl : lw_Ls ls b X.2.2.1 i) (kk : lw_N p l e s m below meth c cells slots Q ls X b) : W p l e room_1 s m #[Value.ref b] below meth c H locs cells slots Q (F0 m 738 ls []) := by
  obtain ⟨CF, hE, hX, hbl, hbA, hL⟩ := C
  have hx := CF.1
  have hb := CF.2.1
  have hl4 : lv_has ls 4 [(0, .ref b), (1, .ref (X.2.2.1 + 0)), (2, .ref (X.2.2.1 + 370)), (3, .int (nI i))] := hl
  obtain ⟨v, D1, D2, e1, e2, hI2⟩ := op_asleep hI (xs (i + 1))
  refine lv_aload_n hx hb dL_law_738 rfl (lv_at hl4 1 rfl) ?_
  refine sc_ld hx hb hX hbl hbA hL hS hl 1 (by omega) (by decide) dL_law_739 dL_law_740 dL_law_741 dL_law_742 dL_law_743 ?_
  refine wd_callV CF hE hW hS (k := 0) (ci := 6) (x_X6_asleep l X _ D e1) mi_X6_asleep vi_X6_asleep tw527 ⟨by decide, rfl⟩ sh_0 ⟨rfl, rfl, Nat.le_of_ble_eq_true rfl, Nat.le_of_ble_eq_true rfl⟩ rfl hl4.1 rfl (Nat.le_of_ble_eq_true rfl) dL_law_744 ⟨hc.1, hc.2⟩ (fun H locs hW hS => ?_)
  refine W.rc (Nat.add_zero _) (Nat.add_zero _) ?_
  refine lv_aload_n hx hb dL_law_747 rfl (lv_at hl4 2 rfl) ?_
  refine sc_ld hx hb hX hbl hbA hL hS hl 1 (by omega) (by decide) dL_law_748 dL_law_749 dL_law_750 dL_law_751 dL_law_752 ?_
  refine wd_callV CF hE hW hS (k := 370) (ci := 7) (x_X7_asleep l X _ D1 e2) mi_X7_asleep vi_X7_asleep tw1016 ⟨by decide, rfl⟩ sh_370 ⟨rfl, rfl, Nat.le_of_ble_eq_true rfl, Nat.le_of_ble_eq_true rfl⟩ rfl hl4.1 rfl (Nat.le_of_ble_eq_true rfl) dL_law_753 ⟨hc.1, hc.2⟩ (fun H locs hW hS => ?_)
  refine W.rc (Nat.add_zero _) (Nat.add_zero _) ?_
  exact lv_icmp_eq (tgt := 1342) hx hb dL_law_756 (by decide) (fun _ => kk _ _ _ hI2 hW hS) (fun z => absurd rfl z)
theorem arm_19 (C : lw_C p s m c X b L xs) (hc : cells ≤ 600000 ∧ slots ≤ 7302250) (hI : Inv D) (hW : Wd X S0 D H) (hS : va_S (wd_A X) s.heap H locs) (hi : i + 5 < L) (hl : lw_Ls ls b X.2.2.1 i) (kk : lw_N p l e s m below meth c cells slots Q ls X b) : W p l e room_1 s m #[Value.ref b] below meth c H locs cells slots Q (F0 m 761 ls []) := by
  obtain ⟨CF, hE, hX, hbl, hbA, hL⟩ := C
  have hx := CF.1
  have hb := CF.2.1
  have hl4 : lv_has ls 4 [(0, .ref b), (1, .ref (X.2.2.1 + 0)), (2, .ref (X.2.2.1 + 370)), (3, .int (nI i))] := hl
  obtain ⟨v, D1, D2, e1, e2, hI2⟩ := op_allAsleep hI 
  refine lv_aload_n hx hb dL_law_761 rfl (lv_at hl4 1 rfl) ?_
  refine wd_callV CF hE hW hS (k := 0) (ci := 6) (x_X6_allAsleep l X  D e1) mi_X6_allAsleep vi_X6_allAsleep tw541 ⟨by decide, rfl⟩ sh_0 ⟨rfl, rfl, Nat.le_of_ble_eq_true rfl, Nat.le_of_ble_eq_true rfl⟩ rfl hl4.1 rfl (Nat.le_of_ble_eq_true rfl) dL_law_762 ⟨hc.1, hc.2⟩ (fun H locs hW hS => ?_)
  refine W.rc (Nat.add_zero _) (Nat.add_zero _) ?_
  refine lv_aload_n hx hb dL_law_765 rfl (lv_at hl4 2 rfl) ?_
  refine wd_callV CF hE hW hS (k := 370) (ci := 7) (x_X7_allAsleep l X  D1 e2) mi_X7_allAsleep vi_X7_allAsleep tw1021 ⟨by decide, rfl⟩ sh_370 ⟨rfl, rfl, Nat.le_of_ble_eq_true rfl, Nat.le_of_ble_eq_true rfl⟩ rfl hl4.1 rfl (Nat.le_of_ble_eq_true rfl) dL_law_766 ⟨hc.1, hc.2⟩ (fun H locs hW hS => ?_)
  refine W.rc (Nat.add_zero _) (Nat.add_zero _) ?_
  exact lv_icmp_eq (tgt := 1342) hx hb dL_law_769 (by decide) (fun _ => kk _ _ _ hI2 hW hS) (fun z => absurd rfl z)
theorem arm_20 (C : lw_C p s m c X b L xs) (hc : cells ≤ 600000 ∧ slots ≤ 7302250) (hI : Inv D) (hW : Wd X S0 D H) (hS : va_S (wd_A X) s.heap H locs) (hi : i + 5 < L) (hl : lw_Ls ls b X.2.2.1 i) (kk : lw_N p l e s m below meth c cells slots Q ls X b) : W p l e room_1 s m #[Value.ref b] below meth c H locs cells slots Q (F0 m 774 ls []) := by
  obtain ⟨CF, hE, hX, hbl, hbA, hL⟩ := C
  have hx := CF.1
  have hb := CF.2.1
  have hl4 : lv_has ls 4 [(0, .ref b), (1, .ref (X.2.2.1 + 0)), (2, .ref (X.2.2.1 + 370)), (3, .int (nI i))] := hl
  obtain ⟨v, D1, D2, e1, e2, hI2⟩ := op_dinner hI (xs (i + 1))
  refine lv_aload_n hx hb dL_law_774 rfl (lv_at hl4 1 rfl) ?_
  refine sc_ld hx hb hX hbl hbA hL hS hl 1 (by omega) (by decide) dL_law_775 dL_law_776 dL_law_777 dL_law_778 dL_law_779 ?_
  refine wd_callV CF hE hW hS (k := 0) (ci := 6) (x_X6_dinner l X _ D e1) mi_X6_dinner vi_X6_dinner tw549 ⟨by decide, rfl⟩ sh_0 ⟨rfl, rfl, Nat.le_of_ble_eq_true rfl, Nat.le_of_ble_eq_true rfl⟩ rfl hl4.1 rfl (Nat.le_of_ble_eq_true rfl) dL_law_780 ⟨hc.1, hc.2⟩ (fun H locs hW hS => ?_)
  refine W.rc (Nat.add_zero _) (Nat.add_zero _) ?_
  refine lv_aload_n hx hb dL_law_783 rfl (lv_at hl4 2 rfl) ?_
  refine sc_ld hx hb hX hbl hbA hL hS hl 1 (by omega) (by decide) dL_law_784 dL_law_785 dL_law_786 dL_law_787 dL_law_788 ?_
  refine wd_callV CF hE hW hS (k := 370) (ci := 7) (x_X7_dinner l X _ D1 e2) mi_X7_dinner vi_X7_dinner tw1029 ⟨by decide, rfl⟩ sh_370 ⟨rfl, rfl, Nat.le_of_ble_eq_true rfl, Nat.le_of_ble_eq_true rfl⟩ rfl hl4.1 rfl (Nat.le_of_ble_eq_true rfl) dL_law_789 ⟨hc.1, hc.2⟩ (fun H locs hW hS => ?_)
  refine W.rc (Nat.add_zero _) (Nat.add_zero _) ?_
  exact lv_icmp_eq (tgt := 1342) hx hb dL_law_792 (by decide) (fun _ => kk _ _ _ hI2 hW hS) (fun z => absurd rfl z)
theorem arm_21 (C : lw_C p s m c X b L xs) (hc : cells ≤ 600000 ∧ slots ≤ 7302250) (hI : Inv D) (hW : Wd X S0 D H) (hS : va_S (wd_A X) s.heap H locs) (hi : i + 5 < L) (hl : lw_Ls ls b X.2.2.1 i) (kk : lw_N p l e s m below meth c cells slots Q ls X b) : W p l e room_1 s m #[Value.ref b] below meth c H locs cells slots Q (F0 m 797 ls []) := by
  obtain ⟨CF, hE, hX, hbl, hbA, hL⟩ := C
  have hx := CF.1
  have hb := CF.2.1
  have hl4 : lv_has ls 4 [(0, .ref b), (1, .ref (X.2.2.1 + 0)), (2, .ref (X.2.2.1 + 370)), (3, .int (nI i))] := hl
  obtain ⟨v, D1, D2, e1, e2, hI2⟩ := op_hands hI (xs (i + 1)) (xs (i + 2))
  refine lv_aload_n hx hb dL_law_797 rfl (lv_at hl4 1 rfl) ?_
  refine sc_ld hx hb hX hbl hbA hL hS hl 1 (by omega) (by decide) dL_law_798 dL_law_799 dL_law_800 dL_law_801 dL_law_802 ?_
  refine sc_ld hx hb hX hbl hbA hL hS hl 2 (by omega) (by decide) dL_law_803 dL_law_804 dL_law_805 dL_law_806 dL_law_807 ?_
  refine wd_callV CF hE hW hS (k := 0) (ci := 6) (x_X6_hands l X _ _ D e1) mi_X6_hands vi_X6_hands tw559 ⟨by decide, rfl⟩ sh_0 ⟨rfl, rfl, Nat.le_of_ble_eq_true rfl, Nat.le_of_ble_eq_true rfl⟩ rfl hl4.1 rfl (Nat.le_of_ble_eq_true rfl) dL_law_808 ⟨hc.1, hc.2⟩ (fun H locs hW hS => ?_)
  refine W.rc (Nat.add_zero _) (Nat.add_zero _) ?_
  refine lv_aload_n hx hb dL_law_811 rfl (lv_at hl4 2 rfl) ?_
  refine sc_ld hx hb hX hbl hbA hL hS hl 1 (by omega) (by decide) dL_law_812 dL_law_813 dL_law_814 dL_law_815 dL_law_816 ?_
  refine sc_ld hx hb hX hbl hbA hL hS hl 2 (by omega) (by decide) dL_law_817 dL_law_818 dL_law_819 dL_law_820 dL_law_821 ?_
  refine wd_callV CF hE hW hS (k := 370) (ci := 7) (x_X7_hands l X _ _ D1 e2) mi_X7_hands vi_X7_hands tw1033 ⟨by decide, rfl⟩ sh_370 ⟨rfl, rfl, Nat.le_of_ble_eq_true rfl, Nat.le_of_ble_eq_true rfl⟩ rfl hl4.1 rfl (Nat.le_of_ble_eq_true rfl) dL_law_822 ⟨hc.1, hc.2⟩ (fun H locs hW hS => ?_)
  refine W.rc (Nat.add_zero _) (Nat.add_zero _) ?_
  exact lv_icmp_eq (tgt := 1342) hx hb dL_law_825 (by decide) (fun _ => kk _ _ _ hI2 hW hS) (fun z => absurd rfl z)
theorem arm_22 (C : lw_C p s m c X b L xs) (hc : cells ≤ 600000 ∧ slots ≤ 7302250) (hI : Inv D) (hW : Wd X S0 D H) (hS : va_S (wd_A X) s.heap H locs) (hi : i + 5 < L) (hl : lw_Ls ls b X.2.2.1 i) (kk : lw_N p l e s m below meth c cells slots Q ls X b) : W p l e room_1 s m #[Value.ref b] below meth c H locs cells slots Q (F0 m 830 ls []) := by
  obtain ⟨CF, hE, hX, hbl, hbA, hL⟩ := C
  have hx := CF.1
  have hb := CF.2.1
  have hl4 : lv_has ls 4 [(0, .ref b), (1, .ref (X.2.2.1 + 0)), (2, .ref (X.2.2.1 + 370)), (3, .int (nI i))] := hl
  obtain ⟨v, D1, D2, e1, e2, hI2⟩ := op_outs hI (xs (i + 1)) (xs (i + 2))
  refine lv_aload_n hx hb dL_law_830 rfl (lv_at hl4 1 rfl) ?_
  refine sc_ld hx hb hX hbl hbA hL hS hl 1 (by omega) (by decide) dL_law_831 dL_law_832 dL_law_833 dL_law_834 dL_law_835 ?_
  refine sc_ld hx hb hX hbl hbA hL hS hl 2 (by omega) (by decide) dL_law_836 dL_law_837 dL_law_838 dL_law_839 dL_law_840 ?_
  refine wd_callV CF hE hW hS (k := 0) (ci := 6) (x_X6_outs l X _ _ D e1) mi_X6_outs vi_X6_outs tw573 ⟨by decide, rfl⟩ sh_0 ⟨rfl, rfl, Nat.le_of_ble_eq_true rfl, Nat.le_of_ble_eq_true rfl⟩ rfl hl4.1 rfl (Nat.le_of_ble_eq_true rfl) dL_law_841 ⟨hc.1, hc.2⟩ (fun H locs hW hS => ?_)
  refine W.rc (Nat.add_zero _) (Nat.add_zero _) ?_
  refine lv_aload_n hx hb dL_law_844 rfl (lv_at hl4 2 rfl) ?_
  refine sc_ld hx hb hX hbl hbA hL hS hl 1 (by omega) (by decide) dL_law_845 dL_law_846 dL_law_847 dL_law_848 dL_law_849 ?_
  refine sc_ld hx hb hX hbl hbA hL hS hl 2 (by omega) (by decide) dL_law_850 dL_law_851 dL_law_852 dL_law_853 dL_law_854 ?_
  refine wd_callV CF hE hW hS (k := 370) (ci := 7) (x_X7_outs l X _ _ D1 e2) mi_X7_outs vi_X7_outs tw1042 ⟨by decide, rfl⟩ sh_370 ⟨rfl, rfl, Nat.le_of_ble_eq_true rfl, Nat.le_of_ble_eq_true rfl⟩ rfl hl4.1 rfl (Nat.le_of_ble_eq_true rfl) dL_law_855 ⟨hc.1, hc.2⟩ (fun H locs hW hS => ?_)
  refine W.rc (Nat.add_zero _) (Nat.add_zero _) ?_
  exact lv_icmp_eq (tgt := 1342) hx hb dL_law_858 (by decide) (fun _ => kk _ _ _ hI2 hW hS) (fun z => absurd rfl z)
theorem arm_23 (C : lw_C p s m c X b L xs) (hc : cells ≤ 600000 ∧ slots ≤ 7302250) (hI : Inv D) (hW : Wd X S0 D H) (hS : va_S (wd_A X) s.heap H locs) (hi : i + 5 < L) (hl : lw_Ls ls b X.2.2.1 i) (kk : lw_N p l e s m below meth c cells slots Q ls X b) : W p l e room_1 s m #[Value.ref b] below meth c H locs cells slots Q (F0 m 863 ls []) := by
  obtain ⟨CF, hE, hX, hbl, hbA, hL⟩ := C
  have hx := CF.1
  have hb := CF.2.1
  have hl4 : lv_has ls 4 [(0, .ref b), (1, .ref (X.2.2.1 + 0)), (2, .ref (X.2.2.1 + 370)), (3, .int (nI i))] := hl
  obtain ⟨v, D1, D2, e1, e2, hI2⟩ := op_best hI (xs (i + 1)) (xs (i + 2))
  refine lv_aload_n hx hb dL_law_863 rfl (lv_at hl4 1 rfl) ?_
  refine sc_ld hx hb hX hbl hbA hL hS hl 1 (by omega) (by decide) dL_law_864 dL_law_865 dL_law_866 dL_law_867 dL_law_868 ?_
  refine sc_ld hx hb hX hbl hbA hL hS hl 2 (by omega) (by decide) dL_law_869 dL_law_870 dL_law_871 dL_law_872 dL_law_873 ?_
  refine wd_callV CF hE hW hS (k := 0) (ci := 6) (x_X6_best l X _ _ D e1) mi_X6_best vi_X6_best tw581 ⟨by decide, rfl⟩ sh_0 ⟨rfl, rfl, Nat.le_of_ble_eq_true rfl, Nat.le_of_ble_eq_true rfl⟩ rfl hl4.1 rfl (Nat.le_of_ble_eq_true rfl) dL_law_874 ⟨hc.1, hc.2⟩ (fun H locs hW hS => ?_)
  refine W.rc (Nat.add_zero _) (Nat.add_zero _) ?_
  refine lv_aload_n hx hb dL_law_877 rfl (lv_at hl4 2 rfl) ?_
  refine sc_ld hx hb hX hbl hbA hL hS hl 1 (by omega) (by decide) dL_law_878 dL_law_879 dL_law_880 dL_law_881 dL_law_882 ?_
  refine sc_ld hx hb hX hbl hbA hL hS hl 2 (by omega) (by decide) dL_law_883 dL_law_884 dL_law_885 dL_law_886 dL_law_887 ?_
  refine wd_callV CF hE hW hS (k := 370) (ci := 7) (x_X7_best l X _ _ D1 e2) mi_X7_best vi_X7_best tw1046 ⟨by decide, rfl⟩ sh_370 ⟨rfl, rfl, Nat.le_of_ble_eq_true rfl, Nat.le_of_ble_eq_true rfl⟩ rfl hl4.1 rfl (Nat.le_of_ble_eq_true rfl) dL_law_888 ⟨hc.1, hc.2⟩ (fun H locs hW hS => ?_)
  refine W.rc (Nat.add_zero _) (Nat.add_zero _) ?_
  exact lv_icmp_eq (tgt := 1342) hx hb dL_law_891 (by decide) (fun _ => kk _ _ _ hI2 hW hS) (fun z => absurd rfl z)
theorem arm_24 (C : lw_C p s m c X b L xs) (hc : cells ≤ 600000 ∧ slots ≤ 7302250) (hI : Inv D) (hW : Wd X S0 D H) (hS : va_S (wd_A X) s.heap H locs) (hi : i + 5 < L) (hl : lw_Ls ls b X.2.2.1 i) (kk : lw_N p l e s m below meth c cells slots Q ls X b) : W p l e room_1 s m #[Value.ref b] below meth c H locs cells slots Q (F0 m 896 ls []) := by
  obtain ⟨CF, hE, hX, hbl, hbA, hL⟩ := C
  have hx := CF.1
  have hb := CF.2.1
  have hl4 : lv_has ls 4 [(0, .ref b), (1, .ref (X.2.2.1 + 0)), (2, .ref (X.2.2.1 + 370)), (3, .int (nI i))] := hl
  obtain ⟨v, e1, e2⟩ := op_silence hI 
  refine lv_aload_n hx hb dL_law_896 rfl (lv_at hl4 1 rfl) ?_
  refine wd_callV CF hE hW hS (k := 0) (ci := 6) (x_X6_silence l X  D e1) mi_X6_silence vi_X6_silence tw591 ⟨by decide, rfl⟩ sh_0 ⟨rfl, rfl, Nat.le_of_ble_eq_true rfl, Nat.le_of_ble_eq_true rfl⟩ rfl hl4.1 rfl (Nat.le_of_ble_eq_true rfl) dL_law_897 ⟨hc.1, hc.2⟩ (fun H locs hW hS => ?_)
  refine W.rc (Nat.add_zero _) (Nat.add_zero _) ?_
  refine lv_aload_n hx hb dL_law_900 rfl (lv_at hl4 2 rfl) ?_
  refine wd_callV CF hE hW hS (k := 370) (ci := 7) (x_X7_silence l X  D e2) mi_X7_silence vi_X7_silence tw1050 ⟨by decide, rfl⟩ sh_370 ⟨rfl, rfl, Nat.le_of_ble_eq_true rfl, Nat.le_of_ble_eq_true rfl⟩ rfl hl4.1 rfl (Nat.le_of_ble_eq_true rfl) dL_law_901 ⟨hc.1, hc.2⟩ (fun H locs hW hS => ?_)
  refine W.rc (Nat.add_zero _) (Nat.add_zero _) ?_
  exact lv_icmp_eq (tgt := 1342) hx hb dL_law_904 (by decide) (fun _ => kk _ _ _ hI hW hS) (fun z => absurd rfl z)
theorem arm_25 (C : lw_C p s m c X b L xs) (hc : cells ≤ 600000 ∧ slots ≤ 7302250) (hI : Inv D) (hW : Wd X S0 D H) (hS : va_S (wd_A X) s.heap H locs) (hi : i + 5 < L) (hl : lw_Ls ls b X.2.2.1 i) (kk : lw_N p l e s m below meth c cells slots Q ls X b) : W p l e room_1 s m #[Value.ref b] below meth c H locs cells slots Q (F0 m 909 ls []) := by
  obtain ⟨CF, hE, hX, hbl, hbA, hL⟩ := C
  have hx := CF.1
  have hb := CF.2.1
  have hl4 : lv_has ls 4 [(0, .ref b), (1, .ref (X.2.2.1 + 0)), (2, .ref (X.2.2.1 + 370)), (3, .int (nI i))] := hl
  obtain ⟨v, D1, D2, e1, e2, hI2⟩ := op_wakes hI (xs (i + 1))
  refine lv_aload_n hx hb dL_law_909 rfl (lv_at hl4 1 rfl) ?_
  refine sc_ld hx hb hX hbl hbA hL hS hl 1 (by omega) (by decide) dL_law_910 dL_law_911 dL_law_912 dL_law_913 dL_law_914 ?_
  refine wd_callV CF hE hW hS (k := 0) (ci := 6) (x_X6_wakes l X _ D e1) mi_X6_wakes vi_X6_wakes tw600 ⟨by decide, rfl⟩ sh_0 ⟨rfl, rfl, Nat.le_of_ble_eq_true rfl, Nat.le_of_ble_eq_true rfl⟩ rfl hl4.1 rfl (Nat.le_of_ble_eq_true rfl) dL_law_915 ⟨hc.1, hc.2⟩ (fun H locs hW hS => ?_)
  refine W.rc (Nat.add_zero _) (Nat.add_zero _) ?_
  refine lv_aload_n hx hb dL_law_918 rfl (lv_at hl4 2 rfl) ?_
  refine sc_ld hx hb hX hbl hbA hL hS hl 1 (by omega) (by decide) dL_law_919 dL_law_920 dL_law_921 dL_law_922 dL_law_923 ?_
  refine wd_callV CF hE hW hS (k := 370) (ci := 7) (x_X7_wakes l X _ D1 e2) mi_X7_wakes vi_X7_wakes tw1054 ⟨by decide, rfl⟩ sh_370 ⟨rfl, rfl, Nat.le_of_ble_eq_true rfl, Nat.le_of_ble_eq_true rfl⟩ rfl hl4.1 rfl (Nat.le_of_ble_eq_true rfl) dL_law_924 ⟨hc.1, hc.2⟩ (fun H locs hW hS => ?_)
  refine W.rc (Nat.add_zero _) (Nat.add_zero _) ?_
  exact lv_icmp_eq (tgt := 1342) hx hb dL_law_927 (by decide) (fun _ => kk _ _ _ hI2 hW hS) (fun z => absurd rfl z)
theorem arm_26 (C : lw_C p s m c X b L xs) (hc : cells ≤ 600000 ∧ slots ≤ 7302250) (hI : Inv D) (hW : Wd X S0 D H) (hS : va_S (wd_A X) s.heap H locs) (hi : i + 5 < L) (hl : lw_Ls ls b X.2.2.1 i) (kk : lw_N p l e s m below meth c cells slots Q ls X b) : W p l e room_1 s m #[Value.ref b] below meth c H locs cells slots Q (F0 m 932 ls []) := by
  obtain ⟨CF, hE, hX, hbl, hbA, hL⟩ := C
  have hx := CF.1
  have hb := CF.2.1
  have hl4 : lv_has ls 4 [(0, .ref b), (1, .ref (X.2.2.1 + 0)), (2, .ref (X.2.2.1 + 370)), (3, .int (nI i))] := hl
  obtain ⟨v, e1, e2⟩ := op_loudest hI 
  refine lv_aload_n hx hb dL_law_932 rfl (lv_at hl4 1 rfl) ?_
  refine wd_callV CF hE hW hS (k := 0) (ci := 6) (x_X6_loudest l X  D e1) mi_X6_loudest vi_X6_loudest tw610 ⟨by decide, rfl⟩ sh_0 ⟨rfl, rfl, Nat.le_of_ble_eq_true rfl, Nat.le_of_ble_eq_true rfl⟩ rfl hl4.1 rfl (Nat.le_of_ble_eq_true rfl) dL_law_933 ⟨hc.1, hc.2⟩ (fun H locs hW hS => ?_)
  refine W.rc (Nat.add_zero _) (Nat.add_zero _) ?_
  refine lv_aload_n hx hb dL_law_936 rfl (lv_at hl4 2 rfl) ?_
  refine wd_callV CF hE hW hS (k := 370) (ci := 7) (x_X7_loudest l X  D e2) mi_X7_loudest vi_X7_loudest tw1058 ⟨by decide, rfl⟩ sh_370 ⟨rfl, rfl, Nat.le_of_ble_eq_true rfl, Nat.le_of_ble_eq_true rfl⟩ rfl hl4.1 rfl (Nat.le_of_ble_eq_true rfl) dL_law_937 ⟨hc.1, hc.2⟩ (fun H locs hW hS => ?_)
  refine W.rc (Nat.add_zero _) (Nat.add_zero _) ?_
  exact lv_icmp_eq (tgt := 1342) hx hb dL_law_940 (by decide) (fun _ => kk _ _ _ hI hW hS) (fun z => absurd rfl z)
theorem arm_27 (C : lw_C p s m c X b L xs) (hc : cells ≤ 600000 ∧ slots ≤ 7302250) (hI : Inv D) (hW : Wd X S0 D H) (hS : va_S (wd_A X) s.heap H locs) (hi : i + 5 < L) (hl : lw_Ls ls b X.2.2.1 i) (kk : lw_N p l e s m below meth c cells slots Q ls X b) : W p l e room_1 s m #[Value.ref b] below meth c H locs cells slots Q (F0 m 945 ls []) := by
  obtain ⟨CF, hE, hX, hbl, hbA, hL⟩ := C
  have hx := CF.1
  have hb := CF.2.1
  have hl4 : lv_has ls 4 [(0, .ref b), (1, .ref (X.2.2.1 + 0)), (2, .ref (X.2.2.1 + 370)), (3, .int (nI i))] := hl
  obtain ⟨v, D1, D2, e1, e2, hI2⟩ := op_who hI (xs (i + 1)) (xs (i + 2)) (xs (i + 3)) (xs (i + 4)) (xs (i + 5))
  refine lv_aload_n hx hb dL_law_945 rfl (lv_at hl4 1 rfl) ?_
  refine sc_ld hx hb hX hbl hbA hL hS hl 1 (by omega) (by decide) dL_law_946 dL_law_947 dL_law_948 dL_law_949 dL_law_950 ?_
  refine sc_ld hx hb hX hbl hbA hL hS hl 2 (by omega) (by decide) dL_law_951 dL_law_952 dL_law_953 dL_law_954 dL_law_955 ?_
  refine sc_ld hx hb hX hbl hbA hL hS hl 3 (by omega) (by decide) dL_law_956 dL_law_957 dL_law_958 dL_law_959 dL_law_960 ?_
  refine sc_ld hx hb hX hbl hbA hL hS hl 4 (by omega) (by decide) dL_law_961 dL_law_962 dL_law_963 dL_law_964 dL_law_965 ?_
  refine sc_ld hx hb hX hbl hbA hL hS hl 5 (by omega) (by decide) dL_law_966 dL_law_967 dL_law_968 dL_law_969 dL_law_970 ?_
  refine wd_callV CF hE hW hS (k := 0) (ci := 6) (x_X6_who l X _ _ _ _ _ D e1) mi_X6_who vi_X6_who tw618 ⟨by decide, rfl⟩ sh_0 ⟨rfl, rfl, Nat.le_of_ble_eq_true rfl, Nat.le_of_ble_eq_true rfl⟩ rfl hl4.1 rfl (Nat.le_of_ble_eq_true rfl) dL_law_971 ⟨hc.1, hc.2⟩ (fun H locs hW hS => ?_)
  refine W.rc (Nat.add_zero _) (Nat.add_zero _) ?_
  refine lv_aload_n hx hb dL_law_974 rfl (lv_at hl4 2 rfl) ?_
  refine sc_ld hx hb hX hbl hbA hL hS hl 1 (by omega) (by decide) dL_law_975 dL_law_976 dL_law_977 dL_law_978 dL_law_979 ?_
  refine sc_ld hx hb hX hbl hbA hL hS hl 2 (by omega) (by decide) dL_law_980 dL_law_981 dL_law_982 dL_law_983 dL_law_984 ?_
  refine sc_ld hx hb hX hbl hbA hL hS hl 3 (by omega) (by decide) dL_law_985 dL_law_986 dL_law_987 dL_law_988 dL_law_989 ?_
  refine sc_ld hx hb hX hbl hbA hL hS hl 4 (by omega) (by decide) dL_law_990 dL_law_991 dL_law_992 dL_law_993 dL_law_994 ?_
  refine sc_ld hx hb hX hbl hbA hL hS hl 5 (by omega) (by decide) dL_law_995 dL_law_996 dL_law_997 dL_law_998 dL_law_999 ?_
  refine wd_callV CF hE hW hS (k := 370) (ci := 7) (x_X7_who l X _ _ _ _ _ D1 e2) mi_X7_who vi_X7_who tw1062 ⟨by decide, rfl⟩ sh_370 ⟨rfl, rfl, Nat.le_of_ble_eq_true rfl, Nat.le_of_ble_eq_true rfl⟩ rfl hl4.1 rfl (Nat.le_of_ble_eq_true rfl) dL_law_1000 ⟨hc.1, hc.2⟩ (fun H locs hW hS => ?_)
  refine W.rc (Nat.add_zero _) (Nat.add_zero _) ?_
  exact lv_icmp_eq (tgt := 1342) hx hb dL_law_1003 (by decide) (fun _ => kk _ _ _ hI2 hW hS) (fun z => absurd rfl z)
theorem arm_28 (C : lw_C p s m c X b L xs) (hc : cells ≤ 600000 ∧ slots ≤ 7302250) (hI : Inv D) (hW : Wd X S0 D H) (hS : va_S (wd_A X) s.heap H locs) (hi : i + 5 < L) (hl : lw_Ls ls b X.2.2.1 i) (kk : lw_N p l e s m below meth c cells slots Q ls X b) : W p l e room_1 s m #[Value.ref b] below meth c H locs cells slots Q (F0 m 1008 ls []) := by
  obtain ⟨CF, hE, hX, hbl, hbA, hL⟩ := C
  have hx := CF.1
  have hb := CF.2.1
  have hl4 : lv_has ls 4 [(0, .ref b), (1, .ref (X.2.2.1 + 0)), (2, .ref (X.2.2.1 + 370)), (3, .int (nI i))] := hl
  obtain ⟨v, D1, D2, e1, e2, hI2⟩ := op_held hI (xs (i + 1)) (xs (i + 2)) (xs (i + 3))
  refine lv_aload_n hx hb dL_law_1008 rfl (lv_at hl4 1 rfl) ?_
  refine sc_ld hx hb hX hbl hbA hL hS hl 1 (by omega) (by decide) dL_law_1009 dL_law_1010 dL_law_1011 dL_law_1012 dL_law_1013 ?_
  refine sc_ld hx hb hX hbl hbA hL hS hl 2 (by omega) (by decide) dL_law_1014 dL_law_1015 dL_law_1016 dL_law_1017 dL_law_1018 ?_
  refine sc_ld hx hb hX hbl hbA hL hS hl 3 (by omega) (by decide) dL_law_1019 dL_law_1020 dL_law_1021 dL_law_1022 dL_law_1023 ?_
  refine wd_callV CF hE hW hS (k := 0) (ci := 6) (x_X6_held l X _ _ _ D e1) mi_X6_held vi_X6_held tw639 ⟨by decide, rfl⟩ sh_0 ⟨rfl, rfl, Nat.le_of_ble_eq_true rfl, Nat.le_of_ble_eq_true rfl⟩ rfl hl4.1 rfl (Nat.le_of_ble_eq_true rfl) dL_law_1024 ⟨hc.1, hc.2⟩ (fun H locs hW hS => ?_)
  refine W.rc (Nat.add_zero _) (Nat.add_zero _) ?_
  refine lv_aload_n hx hb dL_law_1027 rfl (lv_at hl4 2 rfl) ?_
  refine sc_ld hx hb hX hbl hbA hL hS hl 1 (by omega) (by decide) dL_law_1028 dL_law_1029 dL_law_1030 dL_law_1031 dL_law_1032 ?_
  refine sc_ld hx hb hX hbl hbA hL hS hl 2 (by omega) (by decide) dL_law_1033 dL_law_1034 dL_law_1035 dL_law_1036 dL_law_1037 ?_
  refine sc_ld hx hb hX hbl hbA hL hS hl 3 (by omega) (by decide) dL_law_1038 dL_law_1039 dL_law_1040 dL_law_1041 dL_law_1042 ?_
  refine wd_callV CF hE hW hS (k := 370) (ci := 7) (x_X7_held l X _ _ _ D1 e2) mi_X7_held vi_X7_held tw1076 ⟨by decide, rfl⟩ sh_370 ⟨rfl, rfl, Nat.le_of_ble_eq_true rfl, Nat.le_of_ble_eq_true rfl⟩ rfl hl4.1 rfl (Nat.le_of_ble_eq_true rfl) dL_law_1043 ⟨hc.1, hc.2⟩ (fun H locs hW hS => ?_)
  refine W.rc (Nat.add_zero _) (Nat.add_zero _) ?_
  exact lv_icmp_eq (tgt := 1342) hx hb dL_law_1046 (by decide) (fun _ => kk _ _ _ hI2 hW hS) (fun z => absurd rfl z)
theorem arm_29 (C : lw_C p s m c X b L xs) (hc : cells ≤ 600000 ∧ slots ≤ 7302250) (hI : Inv D) (hW : Wd X S0 D H) (hS : va_S (wd_A X) s.heap H locs) (hi : i + 5 < L) (hl : lw_Ls ls b X.2.2.1 i) (kk : lw_N p l e s m below meth c cells slots Q ls X b) : W p l e room_1 s m #[Value.ref b] below meth c H locs cells slots Q (F0 m 1051 ls []) := by
  obtain ⟨CF, hE, hX, hbl, hbA, hL⟩ := C
  have hx := CF.1
  have hb := CF.2.1
  have hl4 : lv_has ls 4 [(0, .ref b), (1, .ref (X.2.2.1 + 0)), (2, .ref (X.2.2.1 + 370)), (3, .int (nI i))] := hl
  obtain ⟨v, D1, D2, e1, e2, hI2⟩ := op_lorries hI (xs (i + 1)) (xs (i + 2)) (xs (i + 3)) (xs (i + 4))
  refine lv_aload_n hx hb dL_law_1051 rfl (lv_at hl4 1 rfl) ?_
  refine sc_ld hx hb hX hbl hbA hL hS hl 1 (by omega) (by decide) dL_law_1052 dL_law_1053 dL_law_1054 dL_law_1055 dL_law_1056 ?_
  refine sc_ld hx hb hX hbl hbA hL hS hl 2 (by omega) (by decide) dL_law_1057 dL_law_1058 dL_law_1059 dL_law_1060 dL_law_1061 ?_
  refine sc_ld hx hb hX hbl hbA hL hS hl 3 (by omega) (by decide) dL_law_1062 dL_law_1063 dL_law_1064 dL_law_1065 dL_law_1066 ?_
  refine sc_ld hx hb hX hbl hbA hL hS hl 4 (by omega) (by decide) dL_law_1067 dL_law_1068 dL_law_1069 dL_law_1070 dL_law_1071 ?_
  refine wd_callV CF hE hW hS (k := 0) (ci := 6) (x_X6_lorries l X _ _ _ _ D e1) mi_X6_lorries vi_X6_lorries tw647 ⟨by decide, rfl⟩ sh_0 ⟨rfl, rfl, Nat.le_of_ble_eq_true rfl, Nat.le_of_ble_eq_true rfl⟩ rfl hl4.1 rfl (Nat.le_of_ble_eq_true rfl) dL_law_1072 ⟨hc.1, hc.2⟩ (fun H locs hW hS => ?_)
  refine W.rc (Nat.add_zero _) (Nat.add_zero _) ?_
  refine lv_aload_n hx hb dL_law_1075 rfl (lv_at hl4 2 rfl) ?_
  refine sc_ld hx hb hX hbl hbA hL hS hl 1 (by omega) (by decide) dL_law_1076 dL_law_1077 dL_law_1078 dL_law_1079 dL_law_1080 ?_
  refine sc_ld hx hb hX hbl hbA hL hS hl 2 (by omega) (by decide) dL_law_1081 dL_law_1082 dL_law_1083 dL_law_1084 dL_law_1085 ?_
  refine sc_ld hx hb hX hbl hbA hL hS hl 3 (by omega) (by decide) dL_law_1086 dL_law_1087 dL_law_1088 dL_law_1089 dL_law_1090 ?_
  refine sc_ld hx hb hX hbl hbA hL hS hl 4 (by omega) (by decide) dL_law_1091 dL_law_1092 dL_law_1093 dL_law_1094 dL_law_1095 ?_
  refine wd_callV CF hE hW hS (k := 370) (ci := 7) (x_X7_lorries l X _ _ _ _ D1 e2) mi_X7_lorries vi_X7_lorries tw1080 ⟨by decide, rfl⟩ sh_370 ⟨rfl, rfl, Nat.le_of_ble_eq_true rfl, Nat.le_of_ble_eq_true rfl⟩ rfl hl4.1 rfl (Nat.le_of_ble_eq_true rfl) dL_law_1096 ⟨hc.1, hc.2⟩ (fun H locs hW hS => ?_)
  refine W.rc (Nat.add_zero _) (Nat.add_zero _) ?_
  refine W.lcmp hx hb dL_law_1099 ?_
  refine lv_if_eq (tgt := 1342) hx hb dL_law_1100 (by decide) (fun _ => kk _ _ _ hI2 hW hS) (fun z => absurd ?_ z)
  show lg_cmp v v = 0
  unfold lg_cmp
  simp [Int64.lt_irrefl]
theorem arm_30 (C : lw_C p s m c X b L xs) (hc : cells ≤ 600000 ∧ slots ≤ 7302250) (hI : Inv D) (hW : Wd X S0 D H) (hS : va_S (wd_A X) s.heap H locs) (hi : i + 5 < L) (hl : lw_Ls ls b X.2.2.1 i) (kk : lw_N p l e s m below meth c cells slots Q ls X b) : W p l e room_1 s m #[Value.ref b] below meth c H locs cells slots Q (F0 m 1105 ls []) := by
  obtain ⟨CF, hE, hX, hbl, hbA, hL⟩ := C
  have hx := CF.1
  have hb := CF.2.1
  have hl4 : lv_has ls 4 [(0, .ref b), (1, .ref (X.2.2.1 + 0)), (2, .ref (X.2.2.1 + 370)), (3, .int (nI i))] := hl
  obtain ⟨v, D1, D2, e1, e2, hI2⟩ := op_drawn hI (xs (i + 1)) (xs (i + 2)) (xs (i + 3))
  refine lv_aload_n hx hb dL_law_1105 rfl (lv_at hl4 1 rfl) ?_
  refine sc_ld hx hb hX hbl hbA hL hS hl 1 (by omega) (by decide) dL_law_1106 dL_law_1107 dL_law_1108 dL_law_1109 dL_law_1110 ?_
  refine sc_ld hx hb hX hbl hbA hL hS hl 2 (by omega) (by decide) dL_law_1111 dL_law_1112 dL_law_1113 dL_law_1114 dL_law_1115 ?_
  refine sc_ld hx hb hX hbl hbA hL hS hl 3 (by omega) (by decide) dL_law_1116 dL_law_1117 dL_law_1118 dL_law_1119 dL_law_1120 ?_
  refine wd_callV CF hE hW hS (k := 0) (ci := 6) (x_X6_drawn l X _ _ _ D e1) mi_X6_drawn vi_X6_drawn tw671 ⟨by decide, rfl⟩ sh_0 ⟨rfl, rfl, Nat.le_of_ble_eq_true rfl, Nat.le_of_ble_eq_true rfl⟩ rfl hl4.1 rfl (Nat.le_of_ble_eq_true rfl) dL_law_1121 ⟨hc.1, hc.2⟩ (fun H locs hW hS => ?_)
  refine W.rc (Nat.add_zero _) (Nat.add_zero _) ?_
  refine lv_aload_n hx hb dL_law_1124 rfl (lv_at hl4 2 rfl) ?_
  refine sc_ld hx hb hX hbl hbA hL hS hl 1 (by omega) (by decide) dL_law_1125 dL_law_1126 dL_law_1127 dL_law_1128 dL_law_1129 ?_
  refine sc_ld hx hb hX hbl hbA hL hS hl 2 (by omega) (by decide) dL_law_1130 dL_law_1131 dL_law_1132 dL_law_1133 dL_law_1134 ?_
  refine sc_ld hx hb hX hbl hbA hL hS hl 3 (by omega) (by decide) dL_law_1135 dL_law_1136 dL_law_1137 dL_law_1138 dL_law_1139 ?_
  refine wd_callV CF hE hW hS (k := 370) (ci := 7) (x_X7_drawn l X _ _ _ D1 e2) mi_X7_drawn vi_X7_drawn tw1088 ⟨by decide, rfl⟩ sh_370 ⟨rfl, rfl, Nat.le_of_ble_eq_true rfl, Nat.le_of_ble_eq_true rfl⟩ rfl hl4.1 rfl (Nat.le_of_ble_eq_true rfl) dL_law_1140 ⟨hc.1, hc.2⟩ (fun H locs hW hS => ?_)
  refine W.rc (Nat.add_zero _) (Nat.add_zero _) ?_
  exact lv_icmp_eq (tgt := 1342) hx hb dL_law_1143 (by decide) (fun _ => kk _ _ _ hI2 hW hS) (fun z => absurd rfl z)
theorem arm_31 (C : lw_C p s m c X b L xs) (hc : cells ≤ 600000 ∧ slots ≤ 7302250) (hI : Inv D) (hW : Wd X S0 D H) (hS : va_S (wd_A X) s.heap H locs) (hi : i + 5 < L) (hl : lw_Ls ls b X.2.2.1 i) (kk : lw_N p l e s m below meth c cells slots Q ls X b) : W p l e room_1 s m #[Value.ref b] below meth c H locs cells slots Q (F0 m 1148 ls []) := by
  obtain ⟨CF, hE, hX, hbl, hbA, hL⟩ := C
  have hx := CF.1
  have hb := CF.2.1
  have hl4 : lv_has ls 4 [(0, .ref b), (1, .ref (X.2.2.1 + 0)), (2, .ref (X.2.2.1 + 370)), (3, .int (nI i))] := hl
  obtain ⟨v, D1, D2, e1, e2, hI2⟩ := op_image hI (xs (i + 1))
  refine lv_aload_n hx hb dL_law_1148 rfl (lv_at hl4 1 rfl) ?_
  refine sc_ld hx hb hX hbl hbA hL hS hl 1 (by omega) (by decide) dL_law_1149 dL_law_1150 dL_law_1151 dL_law_1152 dL_law_1153 ?_
  refine wd_callV CF hE hW hS (k := 0) (ci := 6) (x_X6_image l X _ D e1) mi_X6_image vi_X6_image tw685 ⟨by decide, rfl⟩ sh_0 ⟨rfl, rfl, Nat.le_of_ble_eq_true rfl, Nat.le_of_ble_eq_true rfl⟩ rfl hl4.1 rfl (Nat.le_of_ble_eq_true rfl) dL_law_1154 ⟨hc.1, hc.2⟩ (fun H locs hW hS => ?_)
  refine W.rc (Nat.add_zero _) (Nat.add_zero _) ?_
  refine lv_aload_n hx hb dL_law_1157 rfl (lv_at hl4 2 rfl) ?_
  refine sc_ld hx hb hX hbl hbA hL hS hl 1 (by omega) (by decide) dL_law_1158 dL_law_1159 dL_law_1160 dL_law_1161 dL_law_1162 ?_
  refine wd_callV CF hE hW hS (k := 370) (ci := 7) (x_X7_image l X _ D1 e2) mi_X7_image vi_X7_image tw1097 ⟨by decide, rfl⟩ sh_370 ⟨rfl, rfl, Nat.le_of_ble_eq_true rfl, Nat.le_of_ble_eq_true rfl⟩ rfl hl4.1 rfl (Nat.le_of_ble_eq_true rfl) dL_law_1163 ⟨hc.1, hc.2⟩ (fun H locs hW hS => ?_)
  refine W.rc (Nat.add_zero _) (Nat.add_zero _) ?_
  exact lv_icmp_eq (tgt := 1342) hx hb dL_law_1166 (by decide) (fun _ => kk _ _ _ hI2 hW hS) (fun z => absurd rfl z)
theorem arm_32 (C : lw_C p s m c X b L xs) (hc : cells ≤ 600000 ∧ slots ≤ 7302250) (hI : Inv D) (hW : Wd X S0 D H) (hS : va_S (wd_A X) s.heap H locs) (hi : i + 5 < L) (hl : lw_Ls ls b X.2.2.1 i) (kk : lw_N p l e s m below meth c cells slots Q ls X b) : W p l e room_1 s m #[Value.ref b] below meth c H locs cells slots Q (F0 m 1171 ls []) := by
  obtain ⟨CF, hE, hX, hbl, hbA, hL⟩ := C
  have hx := CF.1
  have hb := CF.2.1
  have hl4 : lv_has ls 4 [(0, .ref b), (1, .ref (X.2.2.1 + 0)), (2, .ref (X.2.2.1 + 370)), (3, .int (nI i))] := hl
  obtain ⟨v, D1, D2, e1, e2, hI2⟩ := op_restore hI (xs (i + 1))
  refine lv_aload_n hx hb dL_law_1171 rfl (lv_at hl4 1 rfl) ?_
  refine sc_ld hx hb hX hbl hbA hL hS hl 1 (by omega) (by decide) dL_law_1172 dL_law_1173 dL_law_1174 dL_law_1175 dL_law_1176 ?_
  refine wd_callV CF hE hW hS (k := 0) (ci := 6) (x_X6_restore l X _ D e1) mi_X6_restore vi_X6_restore tw689 ⟨by decide, rfl⟩ sh_0 ⟨rfl, rfl, Nat.le_of_ble_eq_true rfl, Nat.le_of_ble_eq_true rfl⟩ rfl hl4.1 rfl (Nat.le_of_ble_eq_true rfl) dL_law_1177 ⟨hc.1, hc.2⟩ (fun H locs hW hS => ?_)
  refine W.rc (Nat.add_zero _) (Nat.add_zero _) ?_
  refine lv_aload_n hx hb dL_law_1180 rfl (lv_at hl4 2 rfl) ?_
  refine sc_ld hx hb hX hbl hbA hL hS hl 1 (by omega) (by decide) dL_law_1181 dL_law_1182 dL_law_1183 dL_law_1184 dL_law_1185 ?_
  refine wd_callV CF hE hW hS (k := 370) (ci := 7) (x_X7_restore l X _ D1 e2) mi_X7_restore vi_X7_restore tw1101 ⟨by decide, rfl⟩ sh_370 ⟨rfl, rfl, Nat.le_of_ble_eq_true rfl, Nat.le_of_ble_eq_true rfl⟩ rfl hl4.1 rfl (Nat.le_of_ble_eq_true rfl) dL_law_1186 ⟨hc.1, hc.2⟩ (fun H locs hW hS => ?_)
  refine W.rc (Nat.add_zero _) (Nat.add_zero _) ?_
  exact lv_icmp_eq (tgt := 1342) hx hb dL_law_1189 (by decide) (fun _ => kk _ _ _ hI2 hW hS) (fun z => absurd rfl z)
theorem arm_33 (C : lw_C p s m c X b L xs) (hc : cells ≤ 600000 ∧ slots ≤ 7302250) (hI : Inv D) (hW : Wd X S0 D H) (hS : va_S (wd_A X) s.heap H locs) (hi : i + 5 < L) (hl : lw_Ls ls b X.2.2.1 i) (kk : lw_N p l e s m below meth c cells slots Q ls X b) : W p l e room_1 s m #[Value.ref b] below meth c H locs cells slots Q (F0 m 1194 ls []) := by
  obtain ⟨CF, hE, hX, hbl, hbA, hL⟩ := C
  have hx := CF.1
  have hb := CF.2.1
  have hl4 : lv_has ls 4 [(0, .ref b), (1, .ref (X.2.2.1 + 0)), (2, .ref (X.2.2.1 + 370)), (3, .int (nI i))] := hl
  obtain ⟨v, e1, e2⟩ := op_kind hI (xs (i + 1))
  refine lv_aload_n hx hb dL_law_1194 rfl (lv_at hl4 1 rfl) ?_
  refine sc_ld hx hb hX hbl hbA hL hS hl 1 (by omega) (by decide) dL_law_1195 dL_law_1196 dL_law_1197 dL_law_1198 dL_law_1199 ?_
  refine wd_callV CF hE hW hS (k := 0) (ci := 6) (x_X6_kind l X _ D e1) mi_X6_kind vi_X6_kind tw693 ⟨by decide, rfl⟩ sh_0 ⟨rfl, rfl, Nat.le_of_ble_eq_true rfl, Nat.le_of_ble_eq_true rfl⟩ rfl hl4.1 rfl (Nat.le_of_ble_eq_true rfl) dL_law_1200 ⟨hc.1, hc.2⟩ (fun H locs hW hS => ?_)
  refine W.rc (Nat.add_zero _) (Nat.add_zero _) ?_
  refine lv_aload_n hx hb dL_law_1203 rfl (lv_at hl4 2 rfl) ?_
  refine sc_ld hx hb hX hbl hbA hL hS hl 1 (by omega) (by decide) dL_law_1204 dL_law_1205 dL_law_1206 dL_law_1207 dL_law_1208 ?_
  refine wd_callV CF hE hW hS (k := 370) (ci := 7) (x_X7_kind l X _ D e2) mi_X7_kind vi_X7_kind tw1105 ⟨by decide, rfl⟩ sh_370 ⟨rfl, rfl, Nat.le_of_ble_eq_true rfl, Nat.le_of_ble_eq_true rfl⟩ rfl hl4.1 rfl (Nat.le_of_ble_eq_true rfl) dL_law_1209 ⟨hc.1, hc.2⟩ (fun H locs hW hS => ?_)
  refine W.rc (Nat.add_zero _) (Nat.add_zero _) ?_
  exact lv_icmp_eq (tgt := 1342) hx hb dL_law_1212 (by decide) (fun _ => kk _ _ _ hI hW hS) (fun z => absurd rfl z)
theorem arm_34 (C : lw_C p s m c X b L xs) (hc : cells ≤ 600000 ∧ slots ≤ 7302250) (hI : Inv D) (hW : Wd X S0 D H) (hS : va_S (wd_A X) s.heap H locs) (hi : i + 5 < L) (hl : lw_Ls ls b X.2.2.1 i) (kk : lw_N p l e s m below meth c cells slots Q ls X b) : W p l e room_1 s m #[Value.ref b] below meth c H locs cells slots Q (F0 m 1217 ls []) := by
  obtain ⟨CF, hE, hX, hbl, hbA, hL⟩ := C
  have hx := CF.1
  have hb := CF.2.1
  have hl4 : lv_has ls 4 [(0, .ref b), (1, .ref (X.2.2.1 + 0)), (2, .ref (X.2.2.1 + 370)), (3, .int (nI i))] := hl
  obtain ⟨v, D1, D2, e1, e2, hI2⟩ := op_as hI (xs (i + 1)) (xs (i + 2))
  refine lv_aload_n hx hb dL_law_1217 rfl (lv_at hl4 1 rfl) ?_
  refine sc_ld hx hb hX hbl hbA hL hS hl 1 (by omega) (by decide) dL_law_1218 dL_law_1219 dL_law_1220 dL_law_1221 dL_law_1222 ?_
  refine sc_ld hx hb hX hbl hbA hL hS hl 2 (by omega) (by decide) dL_law_1223 dL_law_1224 dL_law_1225 dL_law_1226 dL_law_1227 ?_
  refine wd_callV CF hE hW hS (k := 0) (ci := 6) (x_X6_as l X _ _ D e1) mi_X6_as vi_X6_as tw697 ⟨by decide, rfl⟩ sh_0 ⟨rfl, rfl, Nat.le_of_ble_eq_true rfl, Nat.le_of_ble_eq_true rfl⟩ rfl hl4.1 rfl (Nat.le_of_ble_eq_true rfl) dL_law_1228 ⟨hc.1, hc.2⟩ (fun H locs hW hS => ?_)
  refine W.rc (Nat.add_zero _) (Nat.add_zero _) ?_
  refine lv_aload_n hx hb dL_law_1231 rfl (lv_at hl4 2 rfl) ?_
  refine sc_ld hx hb hX hbl hbA hL hS hl 1 (by omega) (by decide) dL_law_1232 dL_law_1233 dL_law_1234 dL_law_1235 dL_law_1236 ?_
  refine sc_ld hx hb hX hbl hbA hL hS hl 2 (by omega) (by decide) dL_law_1237 dL_law_1238 dL_law_1239 dL_law_1240 dL_law_1241 ?_
  refine wd_callV CF hE hW hS (k := 370) (ci := 7) (x_X7_as l X _ _ D1 e2) mi_X7_as vi_X7_as tw1109 ⟨by decide, rfl⟩ sh_370 ⟨rfl, rfl, Nat.le_of_ble_eq_true rfl, Nat.le_of_ble_eq_true rfl⟩ rfl hl4.1 rfl (Nat.le_of_ble_eq_true rfl) dL_law_1242 ⟨hc.1, hc.2⟩ (fun H locs hW hS => ?_)
  refine W.rc (Nat.add_zero _) (Nat.add_zero _) ?_
  exact lv_icmp_eq (tgt := 1342) hx hb dL_law_1245 (by decide) (fun _ => kk _ _ _ hI2 hW hS) (fun z => absurd rfl z)
theorem arm_35 (C : lw_C p s m c X b L xs) (hc : cells ≤ 600000 ∧ slots ≤ 7302250) (hI : Inv D) (hW : Wd X S0 D H) (hS : va_S (wd_A X) s.heap H locs) (hi : i + 5 < L) (hl : lw_Ls ls b X.2.2.1 i) (kk : lw_N p l e s m below meth c cells slots Q ls X b) : W p l e room_1 s m #[Value.ref b] below meth c H locs cells slots Q (F0 m 1250 ls []) := by
  obtain ⟨CF, hE, hX, hbl, hbA, hL⟩ := C
  have hx := CF.1
  have hb := CF.2.1
  have hl4 : lv_has ls 4 [(0, .ref b), (1, .ref (X.2.2.1 + 0)), (2, .ref (X.2.2.1 + 370)), (3, .int (nI i))] := hl
  obtain ⟨v, D1, D2, e1, e2, hI2⟩ := op_ask hI (xs (i + 1)) (xs (i + 2))
  refine lv_aload_n hx hb dL_law_1250 rfl (lv_at hl4 1 rfl) ?_
  refine sc_ld hx hb hX hbl hbA hL hS hl 1 (by omega) (by decide) dL_law_1251 dL_law_1252 dL_law_1253 dL_law_1254 dL_law_1255 ?_
  refine sc_ld hx hb hX hbl hbA hL hS hl 2 (by omega) (by decide) dL_law_1256 dL_law_1257 dL_law_1258 dL_law_1259 dL_law_1260 ?_
  refine wd_callV CF hE hW hS (k := 0) (ci := 6) (x_X6_ask l X _ _ D e1) mi_X6_ask vi_X6_ask tw706 ⟨by decide, rfl⟩ sh_0 ⟨rfl, rfl, Nat.le_of_ble_eq_true rfl, Nat.le_of_ble_eq_true rfl⟩ rfl hl4.1 rfl (Nat.le_of_ble_eq_true rfl) dL_law_1261 ⟨hc.1, hc.2⟩ (fun H locs hW hS => ?_)
  refine W.rc (Nat.add_zero _) (Nat.add_zero _) ?_
  refine lv_aload_n hx hb dL_law_1264 rfl (lv_at hl4 2 rfl) ?_
  refine sc_ld hx hb hX hbl hbA hL hS hl 1 (by omega) (by decide) dL_law_1265 dL_law_1266 dL_law_1267 dL_law_1268 dL_law_1269 ?_
  refine sc_ld hx hb hX hbl hbA hL hS hl 2 (by omega) (by decide) dL_law_1270 dL_law_1271 dL_law_1272 dL_law_1273 dL_law_1274 ?_
  refine wd_callV CF hE hW hS (k := 370) (ci := 7) (x_X7_ask l X _ _ D1 e2) mi_X7_ask vi_X7_ask tw1114 ⟨by decide, rfl⟩ sh_370 ⟨rfl, rfl, Nat.le_of_ble_eq_true rfl, Nat.le_of_ble_eq_true rfl⟩ rfl hl4.1 rfl (Nat.le_of_ble_eq_true rfl) dL_law_1275 ⟨hc.1, hc.2⟩ (fun H locs hW hS => ?_)
  refine W.rc (Nat.add_zero _) (Nat.add_zero _) ?_
  exact lv_icmp_eq (tgt := 1342) hx hb dL_law_1278 (by decide) (fun _ => kk _ _ _ hI2 hW hS) (fun z => absurd rfl z)
theorem arm_36 (C : lw_C p s m c X b L xs) (hc : cells ≤ 600000 ∧ slots ≤ 7302250) (hI : Inv D) (hW : Wd X S0 D H) (hS : va_S (wd_A X) s.heap H locs) (hi : i + 5 < L) (hl : lw_Ls ls b X.2.2.1 i) (kk : lw_N p l e s m below meth c cells slots Q ls X b) : W p l e room_1 s m #[Value.ref b] below meth c H locs cells slots Q (F0 m 1283 ls []) := by
  obtain ⟨CF, hE, hX, hbl, hbA, hL⟩ := C
  have hx := CF.1
  have hb := CF.2.1
  have hl4 : lv_has ls 4 [(0, .ref b), (1, .ref (X.2.2.1 + 0)), (2, .ref (X.2.2.1 + 370)), (3, .int (nI i))] := hl
  obtain ⟨v, e1, e2⟩ := op_trace hI (xs (i + 1))
  refine lv_aload_n hx hb dL_law_1283 rfl (lv_at hl4 1 rfl) ?_
  refine sc_ld hx hb hX hbl hbA hL hS hl 1 (by omega) (by decide) dL_law_1284 dL_law_1285 dL_law_1286 dL_law_1287 dL_law_1288 ?_
  refine wd_callV CF hE hW hS (k := 0) (ci := 6) (x_X6_trace l X _ D e1) mi_X6_trace vi_X6_trace tw732 ⟨by decide, rfl⟩ sh_0 ⟨rfl, rfl, Nat.le_of_ble_eq_true rfl, Nat.le_of_ble_eq_true rfl⟩ rfl hl4.1 rfl (Nat.le_of_ble_eq_true rfl) dL_law_1289 ⟨hc.1, hc.2⟩ (fun H locs hW hS => ?_)
  refine W.rc (Nat.add_zero _) (Nat.add_zero _) ?_
  refine lv_aload_n hx hb dL_law_1292 rfl (lv_at hl4 2 rfl) ?_
  refine sc_ld hx hb hX hbl hbA hL hS hl 1 (by omega) (by decide) dL_law_1293 dL_law_1294 dL_law_1295 dL_law_1296 dL_law_1297 ?_
  refine wd_callV CF hE hW hS (k := 370) (ci := 7) (x_X7_trace l X _ D e2) mi_X7_trace vi_X7_trace tw1146 ⟨by decide, rfl⟩ sh_370 ⟨rfl, rfl, Nat.le_of_ble_eq_true rfl, Nat.le_of_ble_eq_true rfl⟩ rfl hl4.1 rfl (Nat.le_of_ble_eq_true rfl) dL_law_1298 ⟨hc.1, hc.2⟩ (fun H locs hW hS => ?_)
  refine W.rc (Nat.add_zero _) (Nat.add_zero _) ?_
  exact lv_icmp_eq (tgt := 1342) hx hb dL_law_1301 (by decide) (fun _ => kk _ _ _ hI hW hS) (fun z => absurd rfl z)
theorem arm_37 (C : lw_C p s m c X b L xs) (hc : cells ≤ 600000 ∧ slots ≤ 7302250) (hI : Inv D) (hW : Wd X S0 D H) (hS : va_S (wd_A X) s.heap H locs) (hi : i + 5 < L) (hl : lw_Ls ls b X.2.2.1 i) (kk : lw_N p l e s m below meth c cells slots Q ls X b) : W p l e room_1 s m #[Value.ref b] below meth c H locs cells slots Q (F0 m 1306 ls []) := by
  obtain ⟨CF, hE, hX, hbl, hbA, hL⟩ := C
  have hx := CF.1
  have hb := CF.2.1
  have hl4 : lv_has ls 4 [(0, .ref b), (1, .ref (X.2.2.1 + 0)), (2, .ref (X.2.2.1 + 370)), (3, .int (nI i))] := hl
  obtain ⟨v, e1, e2⟩ := op_count hI (xs (i + 1))
  refine lv_aload_n hx hb dL_law_1306 rfl (lv_at hl4 1 rfl) ?_
  refine sc_ld hx hb hX hbl hbA hL hS hl 1 (by omega) (by decide) dL_law_1307 dL_law_1308 dL_law_1309 dL_law_1310 dL_law_1311 ?_
  refine wd_callV CF hE hW hS (k := 0) (ci := 6) (x_X6_count l X _ D e1) mi_X6_count vi_X6_count tw736 ⟨by decide, rfl⟩ sh_0 ⟨rfl, rfl, Nat.le_of_ble_eq_true rfl, Nat.le_of_ble_eq_true rfl⟩ rfl hl4.1 rfl (Nat.le_of_ble_eq_true rfl) dL_law_1312 ⟨hc.1, hc.2⟩ (fun H locs hW hS => ?_)
  refine W.rc (Nat.add_zero _) (Nat.add_zero _) ?_
  refine lv_aload_n hx hb dL_law_1315 rfl (lv_at hl4 2 rfl) ?_
  refine sc_ld hx hb hX hbl hbA hL hS hl 1 (by omega) (by decide) dL_law_1316 dL_law_1317 dL_law_1318 dL_law_1319 dL_law_1320 ?_
  refine wd_callV CF hE hW hS (k := 370) (ci := 7) (x_X7_count l X _ D e2) mi_X7_count vi_X7_count tw1150 ⟨by decide, rfl⟩ sh_370 ⟨rfl, rfl, Nat.le_of_ble_eq_true rfl, Nat.le_of_ble_eq_true rfl⟩ rfl hl4.1 rfl (Nat.le_of_ble_eq_true rfl) dL_law_1321 ⟨hc.1, hc.2⟩ (fun H locs hW hS => ?_)
  refine W.rc (Nat.add_zero _) (Nat.add_zero _) ?_
  exact lv_icmp_eq (tgt := 1342) hx hb dL_law_1324 (by decide) (fun _ => kk _ _ _ hI hW hS) (fun z => absurd rfl z)
theorem arm_38 (C : lw_C p s m c X b L xs) (hc : cells ≤ 600000 ∧ slots ≤ 7302250) (hI : Inv D) (hW : Wd X S0 D H) (hS : va_S (wd_A X) s.heap H locs) (hi : i + 5 < L) (hl : lw_Ls ls b X.2.2.1 i) (kk : lw_N p l e s m below meth c cells slots Q ls X b) : W p l e room_1 s m #[Value.ref b] below meth c H locs cells slots Q (F0 m 1329 ls []) := by
  obtain ⟨CF, hE, hX, hbl, hbA, hL⟩ := C
  have hx := CF.1
  have hb := CF.2.1
  have hl4 : lv_has ls 4 [(0, .ref b), (1, .ref (X.2.2.1 + 0)), (2, .ref (X.2.2.1 + 370)), (3, .int (nI i))] := hl
  have ev := op_status hI
  refine lv_aload_n hx hb dL_law_1329 rfl (lv_at hl4 1 rfl) ?_
  refine wd_callV CF hE hW hS (k := 0) (ci := 6) (x_X6_status l X D) mi_X6_status vi_X6_status tw744 ⟨by decide, rfl⟩ sh_0 ⟨rfl, rfl, Nat.le_of_ble_eq_true rfl, Nat.le_of_ble_eq_true rfl⟩ rfl hl4.1 rfl (Nat.le_of_ble_eq_true rfl) dL_law_1330 ⟨hc.1, hc.2⟩ (fun H locs hW hS => ?_)
  refine W.rc (Nat.add_zero _) (Nat.add_zero _) ?_
  refine lv_aload_n hx hb dL_law_1333 rfl (lv_at hl4 2 rfl) ?_
  refine wd_callV CF hE hW hS (k := 370) (ci := 7) (x_X7_status l X D) mi_X7_status vi_X7_status tw1154 ⟨by decide, rfl⟩ sh_370 ⟨rfl, rfl, Nat.le_of_ble_eq_true rfl, Nat.le_of_ble_eq_true rfl⟩ rfl hl4.1 rfl (Nat.le_of_ble_eq_true rfl) dL_law_1334 ⟨hc.1, hc.2⟩ (fun H locs hW hS => ?_)
  refine W.rc (Nat.add_zero _) (Nat.add_zero _) ?_
  exact lv_icmp_eq (tgt := 1342) hx hb dL_law_1337 (by decide) (fun _ => kk _ _ _ hI hW hS) (fun z => absurd ev z)
end LW
