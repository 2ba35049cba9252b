section LC
variable {p : Program} {l : Launch} {e : Env} {s : State} {m : MethodId} {below : List Frame} {meth : Method} {c : Code} {D : va_G} {cI cR : ClassId} {b L : Nat} {xs : Nat → Int32} {adC adM : Nat → Nat} {pc : Nat} {lv : List (Nat × Value)} {rest : List Value} {σ τ : Sg} {Rel : Sg → Sg → Prop}
set_option maxHeartbeats 4000000 in
set_option maxRecDepth 100000 in
theorem lc_row (C : Lx p s m meth c D cI cR b L xs adC adM) {i : Nat} (hi : i + 6 ≤ L) (hL : L ≤ 3072) (hst : S_row Rel) (hrel : Rel σ τ) (k : ∀ σ' τ' : Sg, Rel σ' τ' → Jl p l e s m below meth c D cI cR b adC adM 1369 [(0, .ref b), (1, .ref (adC 0)), (2, .ref (adM 0)), (3, .int (nI i))] [] σ' τ') : Jl p l e s m below meth c D cI cR b adC adM 224 [(0, .ref b), (1, .ref (adC 0)), (2, .ref (adM 0)), (3, .int (nI i))] [] σ τ := by
  obtain ⟨r, σ', τ', e5, e6, hrel'⟩ := hst σ τ (xs (i + 1)) (xs (i + 2)) hrel
  refine L_aload_n (q := 225) C dL_law_224 rfl rfl 1 rfl ?_
  refine L_arg (j := 1) C 3 0 rfl rfl (by decide) (by omega) hL dL_law_225 rfl dL_law_226 rfl dL_law_227 rfl dL_law_228 rfl dL_law_229 rfl ?_
  refine L_arg (j := 2) C 3 0 rfl rfl (by decide) (by omega) hL dL_law_230 rfl dL_law_231 rfl dL_law_232 rfl dL_law_233 rfl dL_law_234 rfl ?_
  refine L_callCI (q := 238) (As := [.int (xs (i + 1)), .int (xs (i + 2))]) (rest := []) C (c_X5_row C.2.2.2.1 e5) ok_X5_row kM_L_13 rfl rfl rfl ⟨Nat.le_of_ble_eq_true rfl, Nat.le_of_ble_eq_true rfl⟩ (Nat.le_of_ble_eq_true rfl) dL_law_235 rfl ?_
  refine L_aload_n (q := 239) C dL_law_238 rfl rfl 2 rfl ?_
  refine L_arg (j := 1) C 3 0 rfl rfl (by decide) (by omega) hL dL_law_239 rfl dL_law_240 rfl dL_law_241 rfl dL_law_242 rfl dL_law_243 rfl ?_
  refine L_arg (j := 2) C 3 0 rfl rfl (by decide) (by omega) hL dL_law_244 rfl dL_law_245 rfl dL_law_246 rfl dL_law_247 rfl dL_law_248 rfl ?_
  refine L_callMI (q := 252) (As := [.int (xs (i + 1)), .int (xs (i + 2))]) (rest := [.int r]) C (c_X6_row C.2.2.2.2.1 e6) ok_X6_row kM_L_17 rfl rfl rfl ⟨Nat.le_of_ble_eq_true rfl, Nat.le_of_ble_eq_true rfl⟩ (Nat.le_of_ble_eq_true rfl) dL_law_249 rfl ?_
  exact L_eq (tgt := 1369) C dL_law_252 (by decide) (k σ' τ' hrel')
set_option maxHeartbeats 4000000 in
set_option maxRecDepth 100000 in
theorem lc_lay (C : Lx p s m meth c D cI cR b L xs adC adM) {i : Nat} (hi : i + 6 ≤ L) (hL : L ≤ 3072) (hst : S_lay Rel) (hrel : Rel σ τ) (k : ∀ σ' τ' : Sg, Rel σ' τ' → Jl p l e s m below meth c D cI cR b adC adM 1369 [(0, .ref b), (1, .ref (adC 0)), (2, .ref (adM 0)), (3, .int (nI i))] [] σ' τ') : Jl p l e s m below meth c D cI cR b adC adM 257 [(0, .ref b), (1, .ref (adC 0)), (2, .ref (adM 0)), (3, .int (nI i))] [] σ τ := by
  obtain ⟨r, σ', τ', e5, e6, hrel'⟩ := hst σ τ (xs (i + 1)) (xs (i + 2)) (xs (i + 3)) hrel
  refine L_aload_n (q := 258) C dL_law_257 rfl rfl 1 rfl ?_
  refine L_arg (j := 1) C 3 0 rfl rfl (by decide) (by omega) hL dL_law_258 rfl dL_law_259 rfl dL_law_260 rfl dL_law_261 rfl dL_law_262 rfl ?_
  refine L_arg (j := 2) C 3 0 rfl rfl (by decide) (by omega) hL dL_law_263 rfl dL_law_264 rfl dL_law_265 rfl dL_law_266 rfl dL_law_267 rfl ?_
  refine L_arg (j := 3) C 3 0 rfl rfl (by decide) (by omega) hL dL_law_268 rfl dL_law_269 rfl dL_law_270 rfl dL_law_271 rfl dL_law_272 rfl ?_
  refine L_callCI (q := 276) (As := [.int (xs (i + 1)), .int (xs (i + 2)), .int (xs (i + 3))]) (rest := []) C (c_X5_lay C.2.2.2.1 e5) ok_X5_lay kM_L_18 rfl rfl rfl ⟨Nat.le_of_ble_eq_true rfl, Nat.le_of_ble_eq_true rfl⟩ (Nat.le_of_ble_eq_true rfl) dL_law_273 rfl ?_
  refine L_aload_n (q := 277) C dL_law_276 rfl rfl 2 rfl ?_
  refine L_arg (j := 1) C 3 0 rfl rfl (by decide) (by omega) hL dL_law_277 rfl dL_law_278 rfl dL_law_279 rfl dL_law_280 rfl dL_law_281 rfl ?_
  refine L_arg (j := 2) C 3 0 rfl rfl (by decide) (by omega) hL dL_law_282 rfl dL_law_283 rfl dL_law_284 rfl dL_law_285 rfl dL_law_286 rfl ?_
  refine L_arg (j := 3) C 3 0 rfl rfl (by decide) (by omega) hL dL_law_287 rfl dL_law_288 rfl dL_law_289 rfl dL_law_290 rfl dL_law_291 rfl ?_
  refine L_callMI (q := 295) (As := [.int (xs (i + 1)), .int (xs (i + 2)), .int (xs (i + 3))]) (rest := [.int r]) C (c_X6_lay C.2.2.2.2.1 e6) ok_X6_lay kM_L_22 rfl rfl rfl ⟨Nat.le_of_ble_eq_true rfl, Nat.le_of_ble_eq_true rfl⟩ (Nat.le_of_ble_eq_true rfl) dL_law_292 rfl ?_
  exact L_eq (tgt := 1369) C dL_law_295 (by decide) (k σ' τ' hrel')
set_option maxHeartbeats 4000000 in
set_option maxRecDepth 100000 in
theorem lc_at (C : Lx p s m meth c D cI cR b L xs adC adM) {i : Nat} (hi : i + 6 ≤ L) (hL : L ≤ 3072) (hst : S_at Rel) (hrel : Rel σ τ) (k : ∀ σ' τ' : Sg, Rel σ' τ' → Jl p l e s m below meth c D cI cR b adC adM 1369 [(0, .ref b), (1, .ref (adC 0)), (2, .ref (adM 0)), (3, .int (nI i))] [] σ' τ') : Jl p l e s m below meth c D cI cR b adC adM 300 [(0, .ref b), (1, .ref (adC 0)), (2, .ref (adM 0)), (3, .int (nI i))] [] σ τ := by
  obtain ⟨r, σ', τ', e5, e6, hrel'⟩ := hst σ τ (xs (i + 1)) (xs (i + 2)) hrel
  refine L_aload_n (q := 301) C dL_law_300 rfl rfl 1 rfl ?_
  refine L_arg (j := 1) C 3 0 rfl rfl (by decide) (by omega) hL dL_law_301 rfl dL_law_302 rfl dL_law_303 rfl dL_law_304 rfl dL_law_305 rfl ?_
  refine L_arg (j := 2) C 3 0 rfl rfl (by decide) (by omega) hL dL_law_306 rfl dL_law_307 rfl dL_law_308 rfl dL_law_309 rfl dL_law_310 rfl ?_
  refine L_callCI (q := 314) (As := [.int (xs (i + 1)), .int (xs (i + 2))]) (rest := []) C (c_X5_at C.2.2.2.1 e5) ok_X5_at kM_L_23 rfl rfl rfl ⟨Nat.le_of_ble_eq_true rfl, Nat.le_of_ble_eq_true rfl⟩ (Nat.le_of_ble_eq_true rfl) dL_law_311 rfl ?_
  refine L_aload_n (q := 315) C dL_law_314 rfl rfl 2 rfl ?_
  refine L_arg (j := 1) C 3 0 rfl rfl (by decide) (by omega) hL dL_law_315 rfl dL_law_316 rfl dL_law_317 rfl dL_law_318 rfl dL_law_319 rfl ?_
  refine L_arg (j := 2) C 3 0 rfl rfl (by decide) (by omega) hL dL_law_320 rfl dL_law_321 rfl dL_law_322 rfl dL_law_323 rfl dL_law_324 rfl ?_
  refine L_callMI (q := 328) (As := [.int (xs (i + 1)), .int (xs (i + 2))]) (rest := [.int r]) C (c_X6_at C.2.2.2.2.1 e6) ok_X6_at kM_L_26 rfl rfl rfl ⟨Nat.le_of_ble_eq_true rfl, Nat.le_of_ble_eq_true rfl⟩ (Nat.le_of_ble_eq_true rfl) dL_law_325 rfl ?_
  exact L_eq (tgt := 1369) C dL_law_328 (by decide) (k σ' τ' hrel')
set_option maxHeartbeats 4000000 in
set_option maxRecDepth 100000 in
theorem lc_tear (C : Lx p s m meth c D cI cR b L xs adC adM) {i : Nat} (hi : i + 6 ≤ L) (hL : L ≤ 3072) (hst : S_tear Rel) (hrel : Rel σ τ) (k : ∀ σ' τ' : Sg, Rel σ' τ' → Jl p l e s m below meth c D cI cR b adC adM 1369 [(0, .ref b), (1, .ref (adC 0)), (2, .ref (adM 0)), (3, .int (nI i))] [] σ' τ') : Jl p l e s m below meth c D cI cR b adC adM 333 [(0, .ref b), (1, .ref (adC 0)), (2, .ref (adM 0)), (3, .int (nI i))] [] σ τ := by
  obtain ⟨r, σ', τ', e5, e6, hrel'⟩ := hst σ τ (xs (i + 1)) hrel
  refine L_aload_n (q := 334) C dL_law_333 rfl rfl 1 rfl ?_
  refine L_arg (j := 1) C 3 0 rfl rfl (by decide) (by omega) hL dL_law_334 rfl dL_law_335 rfl dL_law_336 rfl dL_law_337 rfl dL_law_338 rfl ?_
  refine L_callCI (q := 342) (As := [.int (xs (i + 1))]) (rest := []) C (c_X5_tear C.2.2.2.1 e5) ok_X5_tear kM_L_27 rfl rfl rfl ⟨Nat.le_of_ble_eq_true rfl, Nat.le_of_ble_eq_true rfl⟩ (Nat.le_of_ble_eq_true rfl) dL_law_339 rfl ?_
  refine L_aload_n (q := 343) C dL_law_342 rfl rfl 2 rfl ?_
  refine L_arg (j := 1) C 3 0 rfl rfl (by decide) (by omega) hL dL_law_343 rfl dL_law_344 rfl dL_law_345 rfl dL_law_346 rfl dL_law_347 rfl ?_
  refine L_callMI (q := 351) (As := [.int (xs (i + 1))]) (rest := [.int r]) C (c_X6_tear C.2.2.2.2.1 e6) ok_X6_tear kM_L_31 rfl rfl rfl ⟨Nat.le_of_ble_eq_true rfl, Nat.le_of_ble_eq_true rfl⟩ (Nat.le_of_ble_eq_true rfl) dL_law_348 rfl ?_
  exact L_eq (tgt := 1369) C dL_law_351 (by decide) (k σ' τ' hrel')
set_option maxHeartbeats 4000000 in
set_option maxRecDepth 100000 in
theorem lc_copy (C : Lx p s m meth c D cI cR b L xs adC adM) {i : Nat} (hi : i + 6 ≤ L) (hL : L ≤ 3072) (hst : S_copy Rel) (hrel : Rel σ τ) (k : ∀ σ' τ' : Sg, Rel σ' τ' → Jl p l e s m below meth c D cI cR b adC adM 1369 [(0, .ref b), (1, .ref (adC 0)), (2, .ref (adM 0)), (3, .int (nI i))] [] σ' τ') : Jl p l e s m below meth c D cI cR b adC adM 356 [(0, .ref b), (1, .ref (adC 0)), (2, .ref (adM 0)), (3, .int (nI i))] [] σ τ := by
  obtain ⟨r, σ', τ', e5, e6, hrel'⟩ := hst σ τ (xs (i + 1)) (xs (i + 2)) (xs (i + 3)) (xs (i + 4)) (xs (i + 5)) hrel
  refine L_aload_n (q := 357) C dL_law_356 rfl rfl 1 rfl ?_
  refine L_arg (j := 1) C 3 0 rfl rfl (by decide) (by omega) hL dL_law_357 rfl dL_law_358 rfl dL_law_359 rfl dL_law_360 rfl dL_law_361 rfl ?_
  refine L_arg (j := 2) C 3 0 rfl rfl (by decide) (by omega) hL dL_law_362 rfl dL_law_363 rfl dL_law_364 rfl dL_law_365 rfl dL_law_366 rfl ?_
  refine L_arg (j := 3) C 3 0 rfl rfl (by decide) (by omega) hL dL_law_367 rfl dL_law_368 rfl dL_law_369 rfl dL_law_370 rfl dL_law_371 rfl ?_
  refine L_arg (j := 4) C 3 0 rfl rfl (by decide) (by omega) hL dL_law_372 rfl dL_law_373 rfl dL_law_374 rfl dL_law_375 rfl dL_law_376 rfl ?_
  refine L_arg (j := 5) C 3 0 rfl rfl (by decide) (by omega) hL dL_law_377 rfl dL_law_378 rfl dL_law_379 rfl dL_law_380 rfl dL_law_381 rfl ?_
  refine L_callCI (q := 385) (As := [.int (xs (i + 1)), .int (xs (i + 2)), .int (xs (i + 3)), .int (xs (i + 4)), .int (xs (i + 5))]) (rest := []) C (c_X5_copy C.2.2.2.1 e5) ok_X5_copy kM_L_32 rfl rfl rfl ⟨Nat.le_of_ble_eq_true rfl, Nat.le_of_ble_eq_true rfl⟩ (Nat.le_of_ble_eq_true rfl) dL_law_382 rfl ?_
  refine L_aload_n (q := 386) C dL_law_385 rfl rfl 2 rfl ?_
  refine L_arg (j := 1) C 3 0 rfl rfl (by decide) (by omega) hL dL_law_386 rfl dL_law_387 rfl dL_law_388 rfl dL_law_389 rfl dL_law_390 rfl ?_
  refine L_arg (j := 2) C 3 0 rfl rfl (by decide) (by omega) hL dL_law_391 rfl dL_law_392 rfl dL_law_393 rfl dL_law_394 rfl dL_law_395 rfl ?_
  refine L_arg (j := 3) C 3 0 rfl rfl (by decide) (by omega) hL dL_law_396 rfl dL_law_397 rfl dL_law_398 rfl dL_law_399 rfl dL_law_400 rfl ?_
  refine L_arg (j := 4) C 3 0 rfl rfl (by decide) (by omega) hL dL_law_401 rfl dL_law_402 rfl dL_law_403 rfl dL_law_404 rfl dL_law_405 rfl ?_
  refine L_arg (j := 5) C 3 0 rfl rfl (by decide) (by omega) hL dL_law_406 rfl dL_law_407 rfl dL_law_408 rfl dL_law_409 rfl dL_law_410 rfl ?_
  refine L_callMI (q := 414) (As := [.int (xs (i + 1)), .int (xs (i + 2)), .int (xs (i + 3)), .int (xs (i + 4)), .int (xs (i + 5))]) (rest := [.int r]) C (c_X6_copy C.2.2.2.2.1 e6) ok_X6_copy kM_L_36 rfl rfl rfl ⟨Nat.le_of_ble_eq_true rfl, Nat.le_of_ble_eq_true rfl⟩ (Nat.le_of_ble_eq_true rfl) dL_law_411 rfl ?_
  exact L_eq (tgt := 1369) C dL_law_414 (by decide) (k σ' τ' hrel')
set_option maxHeartbeats 4000000 in
set_option maxRecDepth 100000 in
theorem lc_mean (C : Lx p s m meth c D cI cR b L xs adC adM) {i : Nat} (hi : i + 6 ≤ L) (hL : L ≤ 3072) (hst : S_mean Rel) (hrel : Rel σ τ) (k : ∀ σ' τ' : Sg, Rel σ' τ' → Jl p l e s m below meth c D cI cR b adC adM 1369 [(0, .ref b), (1, .ref (adC 0)), (2, .ref (adM 0)), (3, .int (nI i))] [] σ' τ') : Jl p l e s m below meth c D cI cR b adC adM 419 [(0, .ref b), (1, .ref (adC 0)), (2, .ref (adM 0)), (3, .int (nI i))] [] σ τ := by
  obtain ⟨r, σ', τ', e5, e6, hrel'⟩ := hst σ τ (xs (i + 1)) hrel
  refine L_aload_n (q := 420) C dL_law_419 rfl rfl 1 rfl ?_
  refine L_arg (j := 1) C 3 0 rfl rfl (by decide) (by omega) hL dL_law_420 rfl dL_law_421 rfl dL_law_422 rfl dL_law_423 rfl dL_law_424 rfl ?_
  refine L_callCI (q := 428) (As := [.int (xs (i + 1))]) (rest := []) C (c_X5_mean C.2.2.2.1 e5) ok_X5_mean kM_L_37 rfl rfl rfl ⟨Nat.le_of_ble_eq_true rfl, Nat.le_of_ble_eq_true rfl⟩ (Nat.le_of_ble_eq_true rfl) dL_law_425 rfl ?_
  refine L_aload_n (q := 429) C dL_law_428 rfl rfl 2 rfl ?_
  refine L_arg (j := 1) C 3 0 rfl rfl (by decide) (by omega) hL dL_law_429 rfl dL_law_430 rfl dL_law_431 rfl dL_law_432 rfl dL_law_433 rfl ?_
  refine L_callMI (q := 437) (As := [.int (xs (i + 1))]) (rest := [.int r]) C (c_X6_mean C.2.2.2.2.1 e6) ok_X6_mean kM_L_40 rfl rfl rfl ⟨Nat.le_of_ble_eq_true rfl, Nat.le_of_ble_eq_true rfl⟩ (Nat.le_of_ble_eq_true rfl) dL_law_434 rfl ?_
  exact L_eq (tgt := 1369) C dL_law_437 (by decide) (k σ' τ' hrel')
set_option maxHeartbeats 4000000 in
set_option maxRecDepth 100000 in
theorem lc_text (C : Lx p s m meth c D cI cR b L xs adC adM) {i : Nat} (hi : i + 6 ≤ L) (hL : L ≤ 3072) (hst : S_text Rel) (hrel : Rel σ τ) (k : ∀ σ' τ' : Sg, Rel σ' τ' → Jl p l e s m below meth c D cI cR b adC adM 1369 [(0, .ref b), (1, .ref (adC 0)), (2, .ref (adM 0)), (3, .int (nI i))] [] σ' τ') : Jl p l e s m below meth c D cI cR b adC adM 442 [(0, .ref b), (1, .ref (adC 0)), (2, .ref (adM 0)), (3, .int (nI i))] [] σ τ := by
  obtain ⟨r, σ', τ', e5, e6, hrel'⟩ := hst σ τ (xs (i + 1)) (xs (i + 2)) hrel
  refine L_aload_n (q := 443) C dL_law_442 rfl rfl 1 rfl ?_
  refine L_arg (j := 1) C 3 0 rfl rfl (by decide) (by omega) hL dL_law_443 rfl dL_law_444 rfl dL_law_445 rfl dL_law_446 rfl dL_law_447 rfl ?_
  refine L_arg (j := 2) C 3 0 rfl rfl (by decide) (by omega) hL dL_law_448 rfl dL_law_449 rfl dL_law_450 rfl dL_law_451 rfl dL_law_452 rfl ?_
  refine L_callCI (q := 456) (As := [.int (xs (i + 1)), .int (xs (i + 2))]) (rest := []) C (c_X5_text C.2.2.2.1 e5) ok_X5_text kM_L_41 rfl rfl rfl ⟨Nat.le_of_ble_eq_true rfl, Nat.le_of_ble_eq_true rfl⟩ (Nat.le_of_ble_eq_true rfl) dL_law_453 rfl ?_
  refine L_aload_n (q := 457) C dL_law_456 rfl rfl 2 rfl ?_
  refine L_arg (j := 1) C 3 0 rfl rfl (by decide) (by omega) hL dL_law_457 rfl dL_law_458 rfl dL_law_459 rfl dL_law_460 rfl dL_law_461 rfl ?_
  refine L_arg (j := 2) C 3 0 rfl rfl (by decide) (by omega) hL dL_law_462 rfl dL_law_463 rfl dL_law_464 rfl dL_law_465 rfl dL_law_466 rfl ?_
  refine L_callMI (q := 470) (As := [.int (xs (i + 1)), .int (xs (i + 2))]) (rest := [.int r]) C (c_X6_text C.2.2.2.2.1 e6) ok_X6_text kM_L_44 rfl rfl rfl ⟨Nat.le_of_ble_eq_true rfl, Nat.le_of_ble_eq_true rfl⟩ (Nat.le_of_ble_eq_true rfl) dL_law_467 rfl ?_
  exact L_eq (tgt := 1369) C dL_law_470 (by decide) (k σ' τ' hrel')
set_option maxHeartbeats 4000000 in
set_option maxRecDepth 100000 in
theorem lc_put (C : Lx p s m meth c D cI cR b L xs adC adM) {i : Nat} (hi : i + 6 ≤ L) (hL : L ≤ 3072) (hst : S_put Rel) (hrel : Rel σ τ) (k : ∀ σ' τ' : Sg, Rel σ' τ' → Jl p l e s m below meth c D cI cR b adC adM 1369 [(0, .ref b), (1, .ref (adC 0)), (2, .ref (adM 0)), (3, .int (nI i))] [] σ' τ') : Jl p l e s m below meth c D cI cR b adC adM 475 [(0, .ref b), (1, .ref (adC 0)), (2, .ref (adM 0)), (3, .int (nI i))] [] σ τ := by
  obtain ⟨r, σ', τ', e5, e6, hrel'⟩ := hst σ τ (xs (i + 1)) (xs (i + 2)) (xs (i + 3)) hrel
  refine L_aload_n (q := 476) C dL_law_475 rfl rfl 1 rfl ?_
  refine L_arg (j := 1) C 3 0 rfl rfl (by decide) (by omega) hL dL_law_476 rfl dL_law_477 rfl dL_law_478 rfl dL_law_479 rfl dL_law_480 rfl ?_
  refine L_arg (j := 2) C 3 0 rfl rfl (by decide) (by omega) hL dL_law_481 rfl dL_law_482 rfl dL_law_483 rfl dL_law_484 rfl dL_law_485 rfl ?_
  refine L_arg (j := 3) C 3 0 rfl rfl (by decide) (by omega) hL dL_law_486 rfl dL_law_487 rfl dL_law_488 rfl dL_law_489 rfl dL_law_490 rfl ?_
  refine L_callCI (q := 494) (As := [.int (xs (i + 1)), .int (xs (i + 2)), .int (xs (i + 3))]) (rest := []) C (c_X5_put C.2.2.2.1 e5) ok_X5_put kM_L_45 rfl rfl rfl ⟨Nat.le_of_ble_eq_true rfl, Nat.le_of_ble_eq_true rfl⟩ (Nat.le_of_ble_eq_true rfl) dL_law_491 rfl ?_
  refine L_aload_n (q := 495) C dL_law_494 rfl rfl 2 rfl ?_
  refine L_arg (j := 1) C 3 0 rfl rfl (by decide) (by omega) hL dL_law_495 rfl dL_law_496 rfl dL_law_497 rfl dL_law_498 rfl dL_law_499 rfl ?_
  refine L_arg (j := 2) C 3 0 rfl rfl (by decide) (by omega) hL dL_law_500 rfl dL_law_501 rfl dL_law_502 rfl dL_law_503 rfl dL_law_504 rfl ?_
  refine L_arg (j := 3) C 3 0 rfl rfl (by decide) (by omega) hL dL_law_505 rfl dL_law_506 rfl dL_law_507 rfl dL_law_508 rfl dL_law_509 rfl ?_
  refine L_callMI (q := 513) (As := [.int (xs (i + 1)), .int (xs (i + 2)), .int (xs (i + 3))]) (rest := [.int r]) C (c_X6_put C.2.2.2.2.1 e6) ok_X6_put kM_L_48 rfl rfl rfl ⟨Nat.le_of_ble_eq_true rfl, Nat.le_of_ble_eq_true rfl⟩ (Nat.le_of_ble_eq_true rfl) dL_law_510 rfl ?_
  exact L_eq (tgt := 1369) C dL_law_513 (by decide) (k σ' τ' hrel')
set_option maxHeartbeats 4000000 in
set_option maxRecDepth 100000 in
theorem lc_fault (C : Lx p s m meth c D cI cR b L xs adC adM) {i : Nat} (hi : i + 6 ≤ L) (hL : L ≤ 3072) (hst : S_fault Rel) (hrel : Rel σ τ) (k : ∀ σ' τ' : Sg, Rel σ' τ' → Jl p l e s m below meth c D cI cR b adC adM 1369 [(0, .ref b), (1, .ref (adC 0)), (2, .ref (adM 0)), (3, .int (nI i))] [] σ' τ') : Jl p l e s m below meth c D cI cR b adC adM 518 [(0, .ref b), (1, .ref (adC 0)), (2, .ref (adM 0)), (3, .int (nI i))] [] σ τ := by
  obtain ⟨r, σ', τ', e5, e6, hrel'⟩ := hst σ τ (xs (i + 1)) hrel
  refine L_aload_n (q := 519) C dL_law_518 rfl rfl 1 rfl ?_
  refine L_arg (j := 1) C 3 0 rfl rfl (by decide) (by omega) hL dL_law_519 rfl dL_law_520 rfl dL_law_521 rfl dL_law_522 rfl dL_law_523 rfl ?_
  refine L_callCI (q := 527) (As := [.int (xs (i + 1))]) (rest := []) C (c_X5_fault C.2.2.2.1 e5) ok_X5_fault kM_L_49 rfl rfl rfl ⟨Nat.le_of_ble_eq_true rfl, Nat.le_of_ble_eq_true rfl⟩ (Nat.le_of_ble_eq_true rfl) dL_law_524 rfl ?_
  refine L_aload_n (q := 528) C dL_law_527 rfl rfl 2 rfl ?_
  refine L_arg (j := 1) C 3 0 rfl rfl (by decide) (by omega) hL dL_law_528 rfl dL_law_529 rfl dL_law_530 rfl dL_law_531 rfl dL_law_532 rfl ?_
  refine L_callMI (q := 536) (As := [.int (xs (i + 1))]) (rest := [.int r]) C (c_X6_fault C.2.2.2.2.1 e6) ok_X6_fault kM_L_52 rfl rfl rfl ⟨Nat.le_of_ble_eq_true rfl, Nat.le_of_ble_eq_true rfl⟩ (Nat.le_of_ble_eq_true rfl) dL_law_533 rfl ?_
  exact L_eq (tgt := 1369) C dL_law_536 (by decide) (k σ' τ' hrel')
set_option maxHeartbeats 4000000 in
set_option maxRecDepth 100000 in
theorem lc_town (C : Lx p s m meth c D cI cR b L xs adC adM) {i : Nat} (hi : i + 6 ≤ L) (hL : L ≤ 3072) (hst : S_town Rel) (hrel : Rel σ τ) (k : ∀ σ' τ' : Sg, Rel σ' τ' → Jl p l e s m below meth c D cI cR b adC adM 1369 [(0, .ref b), (1, .ref (adC 0)), (2, .ref (adM 0)), (3, .int (nI i))] [] σ' τ') : Jl p l e s m below meth c D cI cR b adC adM 541 [(0, .ref b), (1, .ref (adC 0)), (2, .ref (adM 0)), (3, .int (nI i))] [] σ τ := by
  obtain ⟨r, σ', τ', e5, e6, hrel'⟩ := hst σ τ (xs (i + 1)) hrel
  refine L_aload_n (q := 542) C dL_law_541 rfl rfl 1 rfl ?_
  refine L_arg (j := 1) C 3 0 rfl rfl (by decide) (by omega) hL dL_law_542 rfl dL_law_543 rfl dL_law_544 rfl dL_law_545 rfl dL_law_546 rfl ?_
  refine L_callCI (q := 550) (As := [.int (xs (i + 1))]) (rest := []) C (c_X5_town C.2.2.2.1 e5) ok_X5_town kM_L_53 rfl rfl rfl ⟨Nat.le_of_ble_eq_true rfl, Nat.le_of_ble_eq_true rfl⟩ (Nat.le_of_ble_eq_true rfl) dL_law_547 rfl ?_
  refine L_aload_n (q := 551) C dL_law_550 rfl rfl 2 rfl ?_
  refine L_arg (j := 1) C 3 0 rfl rfl (by decide) (by omega) hL dL_law_551 rfl dL_law_552 rfl dL_law_553 rfl dL_law_554 rfl dL_law_555 rfl ?_
  refine L_callMI (q := 559) (As := [.int (xs (i + 1))]) (rest := [.int r]) C (c_X6_town C.2.2.2.2.1 e6) ok_X6_town kM_L_56 rfl rfl rfl ⟨Nat.le_of_ble_eq_true rfl, Nat.le_of_ble_eq_true rfl⟩ (Nat.le_of_ble_eq_true rfl) dL_law_556 rfl ?_
  exact L_eq (tgt := 1369) C dL_law_559 (by decide) (k σ' τ' hrel')
set_option maxHeartbeats 4000000 in
set_option maxRecDepth 100000 in
theorem lc_house (C : Lx p s m meth c D cI cR b L xs adC adM) {i : Nat} (hi : i + 6 ≤ L) (hL : L ≤ 3072) (hst : S_house Rel) (hrel : Rel σ τ) (k : ∀ σ' τ' : Sg, Rel σ' τ' → Jl p l e s m below meth c D cI cR b adC adM 1369 [(0, .ref b), (1, .ref (adC 0)), (2, .ref (adM 0)), (3, .int (nI i))] [] σ' τ') : Jl p l e s m below meth c D cI cR b adC adM 564 [(0, .ref b), (1, .ref (adC 0)), (2, .ref (adM 0)), (3, .int (nI i))] [] σ τ := by
  obtain ⟨r, σ', τ', e5, e6, hrel'⟩ := hst σ τ (xs (i + 1)) (xs (i + 2)) hrel
  refine L_aload_n (q := 565) C dL_law_564 rfl rfl 1 rfl ?_
  refine L_arg (j := 1) C 3 0 rfl rfl (by decide) (by omega) hL dL_law_565 rfl dL_law_566 rfl dL_law_567 rfl dL_law_568 rfl dL_law_569 rfl ?_
  refine L_arg (j := 2) C 3 0 rfl rfl (by decide) (by omega) hL dL_law_570 rfl dL_law_571 rfl dL_law_572 rfl dL_law_573 rfl dL_law_574 rfl ?_
  refine L_callCI (q := 578) (As := [.int (xs (i + 1)), .int (xs (i + 2))]) (rest := []) C (c_X5_house C.2.2.2.1 e5) ok_X5_house kM_L_57 rfl rfl rfl ⟨Nat.le_of_ble_eq_true rfl, Nat.le_of_ble_eq_true rfl⟩ (Nat.le_of_ble_eq_true rfl) dL_law_575 rfl ?_
  refine L_aload_n (q := 579) C dL_law_578 rfl rfl 2 rfl ?_
  refine L_arg (j := 1) C 3 0 rfl rfl (by decide) (by omega) hL dL_law_579 rfl dL_law_580 rfl dL_law_581 rfl dL_law_582 rfl dL_law_583 rfl ?_
  refine L_arg (j := 2) C 3 0 rfl rfl (by decide) (by omega) hL dL_law_584 rfl dL_law_585 rfl dL_law_586 rfl dL_law_587 rfl dL_law_588 rfl ?_
  refine L_callMI (q := 592) (As := [.int (xs (i + 1)), .int (xs (i + 2))]) (rest := [.int r]) C (c_X6_house C.2.2.2.2.1 e6) ok_X6_house kM_L_60 rfl rfl rfl ⟨Nat.le_of_ble_eq_true rfl, Nat.le_of_ble_eq_true rfl⟩ (Nat.le_of_ble_eq_true rfl) dL_law_589 rfl ?_
  exact L_eq (tgt := 1369) C dL_law_592 (by decide) (k σ' τ' hrel')
set_option maxHeartbeats 4000000 in
set_option maxRecDepth 100000 in
theorem lc_mark (C : Lx p s m meth c D cI cR b L xs adC adM) {i : Nat} (hi : i + 6 ≤ L) (hL : L ≤ 3072) (hst : S_mark Rel) (hrel : Rel σ τ) (k : ∀ σ' τ' : Sg, Rel σ' τ' → Jl p l e s m below meth c D cI cR b adC adM 1369 [(0, .ref b), (1, .ref (adC 0)), (2, .ref (adM 0)), (3, .int (nI i))] [] σ' τ') : Jl p l e s m below meth c D cI cR b adC adM 597 [(0, .ref b), (1, .ref (adC 0)), (2, .ref (adM 0)), (3, .int (nI i))] [] σ τ := by
  obtain ⟨r, σ', τ', e5, e6, hrel'⟩ := hst σ τ (xs (i + 1)) (xs (i + 2)) hrel
  refine L_aload_n (q := 598) C dL_law_597 rfl rfl 1 rfl ?_
  refine L_arg (j := 1) C 3 0 rfl rfl (by decide) (by omega) hL dL_law_598 rfl dL_law_599 rfl dL_law_600 rfl dL_law_601 rfl dL_law_602 rfl ?_
  refine L_arg (j := 2) C 3 0 rfl rfl (by decide) (by omega) hL dL_law_603 rfl dL_law_604 rfl dL_law_605 rfl dL_law_606 rfl dL_law_607 rfl ?_
  refine L_callCI (q := 611) (As := [.int (xs (i + 1)), .int (xs (i + 2))]) (rest := []) C (c_X5_mark C.2.2.2.1 e5) ok_X5_mark kM_L_61 rfl rfl rfl ⟨Nat.le_of_ble_eq_true rfl, Nat.le_of_ble_eq_true rfl⟩ (Nat.le_of_ble_eq_true rfl) dL_law_608 rfl ?_
  refine L_aload_n (q := 612) C dL_law_611 rfl rfl 2 rfl ?_
  refine L_arg (j := 1) C 3 0 rfl rfl (by decide) (by omega) hL dL_law_612 rfl dL_law_613 rfl dL_law_614 rfl dL_law_615 rfl dL_law_616 rfl ?_
  refine L_arg (j := 2) C 3 0 rfl rfl (by decide) (by omega) hL dL_law_617 rfl dL_law_618 rfl dL_law_619 rfl dL_law_620 rfl dL_law_621 rfl ?_
  refine L_callMI (q := 625) (As := [.int (xs (i + 1)), .int (xs (i + 2))]) (rest := [.int r]) C (c_X6_mark C.2.2.2.2.1 e6) ok_X6_mark kM_L_64 rfl rfl rfl ⟨Nat.le_of_ble_eq_true rfl, Nat.le_of_ble_eq_true rfl⟩ (Nat.le_of_ble_eq_true rfl) dL_law_622 rfl ?_
  exact L_eq (tgt := 1369) C dL_law_625 (by decide) (k σ' τ' hrel')
set_option maxHeartbeats 4000000 in
set_option maxRecDepth 100000 in
theorem lc_walk (C : Lx p s m meth c D cI cR b L xs adC adM) {i : Nat} (hi : i + 6 ≤ L) (hL : L ≤ 3072) (hst : S_walk Rel) (hrel : Rel σ τ) (k : ∀ σ' τ' : Sg, Rel σ' τ' → Jl p l e s m below meth c D cI cR b adC adM 1369 [(0, .ref b), (1, .ref (adC 0)), (2, .ref (adM 0)), (3, .int (nI i))] [] σ' τ') : Jl p l e s m below meth c D cI cR b adC adM 630 [(0, .ref b), (1, .ref (adC 0)), (2, .ref (adM 0)), (3, .int (nI i))] [] σ τ := by
  obtain ⟨r, σ', τ', e5, e6, hrel'⟩ := hst σ τ (xs (i + 1)) hrel
  refine L_aload_n (q := 631) C dL_law_630 rfl rfl 1 rfl ?_
  refine L_arg (j := 1) C 3 0 rfl rfl (by decide) (by omega) hL dL_law_631 rfl dL_law_632 rfl dL_law_633 rfl dL_law_634 rfl dL_law_635 rfl ?_
  refine L_callCI (q := 639) (As := [.int (xs (i + 1))]) (rest := []) C (c_X5_walk C.2.2.2.1 e5) ok_X5_walk kM_L_65 rfl rfl rfl ⟨Nat.le_of_ble_eq_true rfl, Nat.le_of_ble_eq_true rfl⟩ (Nat.le_of_ble_eq_true rfl) dL_law_636 rfl ?_
  refine L_aload_n (q := 640) C dL_law_639 rfl rfl 2 rfl ?_
  refine L_arg (j := 1) C 3 0 rfl rfl (by decide) (by omega) hL dL_law_640 rfl dL_law_641 rfl dL_law_642 rfl dL_law_643 rfl dL_law_644 rfl ?_
  refine L_callMI (q := 648) (As := [.int (xs (i + 1))]) (rest := [.int r]) C (c_X6_walk C.2.2.2.2.1 e6) ok_X6_walk kM_L_68 rfl rfl rfl ⟨Nat.le_of_ble_eq_true rfl, Nat.le_of_ble_eq_true rfl⟩ (Nat.le_of_ble_eq_true rfl) dL_law_645 rfl ?_
  exact L_eq (tgt := 1369) C dL_law_648 (by decide) (k σ' τ' hrel')
set_option maxHeartbeats 4000000 in
set_option maxRecDepth 100000 in
theorem lc_tap (C : Lx p s m meth c D cI cR b L xs adC adM) {i : Nat} (hi : i + 6 ≤ L) (hL : L ≤ 3072) (hst : S_tap Rel) (hrel : Rel σ τ) (k : ∀ σ' τ' : Sg, Rel σ' τ' → Jl p l e s m below meth c D cI cR b adC adM 1369 [(0, .ref b), (1, .ref (adC 0)), (2, .ref (adM 0)), (3, .int (nI i))] [] σ' τ') : Jl p l e s m below meth c D cI cR b adC adM 653 [(0, .ref b), (1, .ref (adC 0)), (2, .ref (adM 0)), (3, .int (nI i))] [] σ τ := by
  obtain ⟨r, σ', τ', e5, e6, hrel'⟩ := hst σ τ  hrel
  refine L_aload_n (q := 654) C dL_law_653 rfl rfl 1 rfl ?_
  refine L_callCI (q := 657) (As := []) (rest := []) C (c_X5_tap C.2.2.2.1 e5) ok_X5_tap kM_L_69 rfl rfl rfl ⟨Nat.le_of_ble_eq_true rfl, Nat.le_of_ble_eq_true rfl⟩ (Nat.le_of_ble_eq_true rfl) dL_law_654 rfl ?_
  refine L_aload_n (q := 658) C dL_law_657 rfl rfl 2 rfl ?_
  refine L_callMI (q := 661) (As := []) (rest := [.int r]) C (c_X6_tap C.2.2.2.2.1 e6) ok_X6_tap kM_L_73 rfl rfl rfl ⟨Nat.le_of_ble_eq_true rfl, Nat.le_of_ble_eq_true rfl⟩ (Nat.le_of_ble_eq_true rfl) dL_law_658 rfl ?_
  exact L_eq (tgt := 1369) C dL_law_661 (by decide) (k σ' τ' hrel')
set_option maxHeartbeats 4000000 in
set_option maxRecDepth 100000 in
theorem lc_slate (C : Lx p s m meth c D cI cR b L xs adC adM) {i : Nat} (hi : i + 6 ≤ L) (hL : L ≤ 3072) (hst : S_slate Rel) (hrel : Rel σ τ) (k : ∀ σ' τ' : Sg, Rel σ' τ' → Jl p l e s m below meth c D cI cR b adC adM 1369 [(0, .ref b), (1, .ref (adC 0)), (2, .ref (adM 0)), (3, .int (nI i))] [] σ' τ') : Jl p l e s m below meth c D cI cR b adC adM 666 [(0, .ref b), (1, .ref (adC 0)), (2, .ref (adM 0)), (3, .int (nI i))] [] σ τ := by
  obtain ⟨r, σ', τ', e5, e6, hrel'⟩ := hst σ τ (xs (i + 1)) (xs (i + 2)) hrel
  refine L_aload_n (q := 667) C dL_law_666 rfl rfl 1 rfl ?_
  refine L_arg (j := 1) C 3 0 rfl rfl (by decide) (by omega) hL dL_law_667 rfl dL_law_668 rfl dL_law_669 rfl dL_law_670 rfl dL_law_671 rfl ?_
  refine L_arg (j := 2) C 3 0 rfl rfl (by decide) (by omega) hL dL_law_672 rfl dL_law_673 rfl dL_law_674 rfl dL_law_675 rfl dL_law_676 rfl ?_
  refine L_callCI (q := 680) (As := [.int (xs (i + 1)), .int (xs (i + 2))]) (rest := []) C (c_X5_slate C.2.2.2.1 e5) ok_X5_slate kM_L_74 rfl rfl rfl ⟨Nat.le_of_ble_eq_true rfl, Nat.le_of_ble_eq_true rfl⟩ (Nat.le_of_ble_eq_true rfl) dL_law_677 rfl ?_
  refine L_aload_n (q := 681) C dL_law_680 rfl rfl 2 rfl ?_
  refine L_arg (j := 1) C 3 0 rfl rfl (by decide) (by omega) hL dL_law_681 rfl dL_law_682 rfl dL_law_683 rfl dL_law_684 rfl dL_law_685 rfl ?_
  refine L_arg (j := 2) C 3 0 rfl rfl (by decide) (by omega) hL dL_law_686 rfl dL_law_687 rfl dL_law_688 rfl dL_law_689 rfl dL_law_690 rfl ?_
  refine L_callMI (q := 694) (As := [.int (xs (i + 1)), .int (xs (i + 2))]) (rest := [.int r]) C (c_X6_slate C.2.2.2.2.1 e6) ok_X6_slate kM_L_77 rfl rfl rfl ⟨Nat.le_of_ble_eq_true rfl, Nat.le_of_ble_eq_true rfl⟩ (Nat.le_of_ble_eq_true rfl) dL_law_691 rfl ?_
  exact L_eq (tgt := 1369) C dL_law_694 (by decide) (k σ' τ' hrel')
set_option maxHeartbeats 4000000 in
set_option maxRecDepth 100000 in
theorem lc_frost (C : Lx p s m meth c D cI cR b L xs adC adM) {i : Nat} (hi : i + 6 ≤ L) (hL : L ≤ 3072) (hst : S_frost Rel) (hrel : Rel σ τ) (k : ∀ σ' τ' : Sg, Rel σ' τ' → Jl p l e s m below meth c D cI cR b adC adM 1369 [(0, .ref b), (1, .ref (adC 0)), (2, .ref (adM 0)), (3, .int (nI i))] [] σ' τ') : Jl p l e s m below meth c D cI cR b adC adM 699 [(0, .ref b), (1, .ref (adC 0)), (2, .ref (adM 0)), (3, .int (nI i))] [] σ τ := by
  obtain ⟨r, σ', τ', e5, e6, hrel'⟩ := hst σ τ (xs (i + 1)) hrel
  refine L_aload_n (q := 700) C dL_law_699 rfl rfl 1 rfl ?_
  refine L_arg (j := 1) C 3 0 rfl rfl (by decide) (by omega) hL dL_law_700 rfl dL_law_701 rfl dL_law_702 rfl dL_law_703 rfl dL_law_704 rfl ?_
  refine L_callCI (q := 708) (As := [.int (xs (i + 1))]) (rest := []) C (c_X5_frost C.2.2.2.1 e5) ok_X5_frost kM_L_78 rfl rfl rfl ⟨Nat.le_of_ble_eq_true rfl, Nat.le_of_ble_eq_true rfl⟩ (Nat.le_of_ble_eq_true rfl) dL_law_705 rfl ?_
  refine L_aload_n (q := 709) C dL_law_708 rfl rfl 2 rfl ?_
  refine L_arg (j := 1) C 3 0 rfl rfl (by decide) (by omega) hL dL_law_709 rfl dL_law_710 rfl dL_law_711 rfl dL_law_712 rfl dL_law_713 rfl ?_
  refine L_callMI (q := 717) (As := [.int (xs (i + 1))]) (rest := [.int r]) C (c_X6_frost C.2.2.2.2.1 e6) ok_X6_frost kM_L_81 rfl rfl rfl ⟨Nat.le_of_ble_eq_true rfl, Nat.le_of_ble_eq_true rfl⟩ (Nat.le_of_ble_eq_true rfl) dL_law_714 rfl ?_
  exact L_eq (tgt := 1369) C dL_law_717 (by decide) (k σ' τ' hrel')
set_option maxHeartbeats 4000000 in
set_option maxRecDepth 100000 in
theorem lc_night (C : Lx p s m meth c D cI cR b L xs adC adM) {i : Nat} (hi : i + 6 ≤ L) (hL : L ≤ 3072) (hst : S_night Rel) (hrel : Rel σ τ) (k : ∀ σ' τ' : Sg, Rel σ' τ' → Jl p l e s m below meth c D cI cR b adC adM 1369 [(0, .ref b), (1, .ref (adC 0)), (2, .ref (adM 0)), (3, .int (nI i))] [] σ' τ') : Jl p l e s m below meth c D cI cR b adC adM 722 [(0, .ref b), (1, .ref (adC 0)), (2, .ref (adM 0)), (3, .int (nI i))] [] σ τ := by
  obtain ⟨r, σ', τ', e5, e6, hrel'⟩ := hst σ τ  hrel
  refine L_aload_n (q := 723) C dL_law_722 rfl rfl 1 rfl ?_
  refine L_callCI (q := 726) (As := []) (rest := []) C (c_X5_night C.2.2.2.1 e5) ok_X5_night kM_L_82 rfl rfl rfl ⟨Nat.le_of_ble_eq_true rfl, Nat.le_of_ble_eq_true rfl⟩ (Nat.le_of_ble_eq_true rfl) dL_law_723 rfl ?_
  refine L_aload_n (q := 727) C dL_law_726 rfl rfl 2 rfl ?_
  refine L_callMI (q := 730) (As := []) (rest := [.int r]) C (c_X6_night C.2.2.2.2.1 e6) ok_X6_night kM_L_85 rfl rfl rfl ⟨Nat.le_of_ble_eq_true rfl, Nat.le_of_ble_eq_true rfl⟩ (Nat.le_of_ble_eq_true rfl) dL_law_727 rfl ?_
  exact L_eq (tgt := 1369) C dL_law_730 (by decide) (k σ' τ' hrel')
set_option maxHeartbeats 4000000 in
set_option maxRecDepth 100000 in
theorem lc_undo (C : Lx p s m meth c D cI cR b L xs adC adM) {i : Nat} (hi : i + 6 ≤ L) (hL : L ≤ 3072) (hst : S_undo Rel) (hrel : Rel σ τ) (k : ∀ σ' τ' : Sg, Rel σ' τ' → Jl p l e s m below meth c D cI cR b adC adM 1369 [(0, .ref b), (1, .ref (adC 0)), (2, .ref (adM 0)), (3, .int (nI i))] [] σ' τ') : Jl p l e s m below meth c D cI cR b adC adM 735 [(0, .ref b), (1, .ref (adC 0)), (2, .ref (adM 0)), (3, .int (nI i))] [] σ τ := by
  obtain ⟨r, σ', τ', e5, e6, hrel'⟩ := hst σ τ (xs (i + 1)) hrel
  refine L_aload_n (q := 736) C dL_law_735 rfl rfl 1 rfl ?_
  refine L_arg (j := 1) C 3 0 rfl rfl (by decide) (by omega) hL dL_law_736 rfl dL_law_737 rfl dL_law_738 rfl dL_law_739 rfl dL_law_740 rfl ?_
  refine L_callCI (q := 744) (As := [.int (xs (i + 1))]) (rest := []) C (c_X5_undo C.2.2.2.1 e5) ok_X5_undo kM_L_86 rfl rfl rfl ⟨Nat.le_of_ble_eq_true rfl, Nat.le_of_ble_eq_true rfl⟩ (Nat.le_of_ble_eq_true rfl) dL_law_741 rfl ?_
  refine L_aload_n (q := 745) C dL_law_744 rfl rfl 2 rfl ?_
  refine L_arg (j := 1) C 3 0 rfl rfl (by decide) (by omega) hL dL_law_745 rfl dL_law_746 rfl dL_law_747 rfl dL_law_748 rfl dL_law_749 rfl ?_
  refine L_callMI (q := 753) (As := [.int (xs (i + 1))]) (rest := [.int r]) C (c_X6_undo C.2.2.2.2.1 e6) ok_X6_undo kM_L_89 rfl rfl rfl ⟨Nat.le_of_ble_eq_true rfl, Nat.le_of_ble_eq_true rfl⟩ (Nat.le_of_ble_eq_true rfl) dL_law_750 rfl ?_
  exact L_eq (tgt := 1369) C dL_law_753 (by decide) (k σ' τ' hrel')
set_option maxHeartbeats 4000000 in
set_option maxRecDepth 100000 in
theorem lc_keep (C : Lx p s m meth c D cI cR b L xs adC adM) {i : Nat} (hi : i + 6 ≤ L) (hL : L ≤ 3072) (hst : S_keep Rel) (hrel : Rel σ τ) (k : ∀ σ' τ' : Sg, Rel σ' τ' → Jl p l e s m below meth c D cI cR b adC adM 1369 [(0, .ref b), (1, .ref (adC 0)), (2, .ref (adM 0)), (3, .int (nI i))] [] σ' τ') : Jl p l e s m below meth c D cI cR b adC adM 758 [(0, .ref b), (1, .ref (adC 0)), (2, .ref (adM 0)), (3, .int (nI i))] [] σ τ := by
  obtain ⟨r, σ', τ', e5, e6, hrel'⟩ := hst σ τ (xs (i + 1)) hrel
  refine L_aload_n (q := 759) C dL_law_758 rfl rfl 1 rfl ?_
  refine L_arg (j := 1) C 3 0 rfl rfl (by decide) (by omega) hL dL_law_759 rfl dL_law_760 rfl dL_law_761 rfl dL_law_762 rfl dL_law_763 rfl ?_
  refine L_callCI (q := 767) (As := [.int (xs (i + 1))]) (rest := []) C (c_X5_keep C.2.2.2.1 e5) ok_X5_keep kM_L_90 rfl rfl rfl ⟨Nat.le_of_ble_eq_true rfl, Nat.le_of_ble_eq_true rfl⟩ (Nat.le_of_ble_eq_true rfl) dL_law_764 rfl ?_
  refine L_aload_n (q := 768) C dL_law_767 rfl rfl 2 rfl ?_
  refine L_arg (j := 1) C 3 0 rfl rfl (by decide) (by omega) hL dL_law_768 rfl dL_law_769 rfl dL_law_770 rfl dL_law_771 rfl dL_law_772 rfl ?_
  refine L_callMI (q := 776) (As := [.int (xs (i + 1))]) (rest := [.int r]) C (c_X6_keep C.2.2.2.2.1 e6) ok_X6_keep kM_L_93 rfl rfl rfl ⟨Nat.le_of_ble_eq_true rfl, Nat.le_of_ble_eq_true rfl⟩ (Nat.le_of_ble_eq_true rfl) dL_law_773 rfl ?_
  exact L_eq (tgt := 1369) C dL_law_776 (by decide) (k σ' τ' hrel')
set_option maxHeartbeats 4000000 in
set_option maxRecDepth 100000 in
theorem lc_on (C : Lx p s m meth c D cI cR b L xs adC adM) {i : Nat} (hi : i + 6 ≤ L) (hL : L ≤ 3072) (hst : S_on Rel) (hrel : Rel σ τ) (k : ∀ σ' τ' : Sg, Rel σ' τ' → Jl p l e s m below meth c D cI cR b adC adM 1369 [(0, .ref b), (1, .ref (adC 0)), (2, .ref (adM 0)), (3, .int (nI i))] [] σ' τ') : Jl p l e s m below meth c D cI cR b adC adM 781 [(0, .ref b), (1, .ref (adC 0)), (2, .ref (adM 0)), (3, .int (nI i))] [] σ τ := by
  obtain ⟨r, σ', τ', e5, e6, hrel'⟩ := hst σ τ (xs (i + 1)) hrel
  refine L_aload_n (q := 782) C dL_law_781 rfl rfl 1 rfl ?_
  refine L_arg (j := 1) C 3 0 rfl rfl (by decide) (by omega) hL dL_law_782 rfl dL_law_783 rfl dL_law_784 rfl dL_law_785 rfl dL_law_786 rfl ?_
  refine L_callCI (q := 790) (As := [.int (xs (i + 1))]) (rest := []) C (c_X5_on C.2.2.2.1 e5) ok_X5_on kM_L_94 rfl rfl rfl ⟨Nat.le_of_ble_eq_true rfl, Nat.le_of_ble_eq_true rfl⟩ (Nat.le_of_ble_eq_true rfl) dL_law_787 rfl ?_
  refine L_aload_n (q := 791) C dL_law_790 rfl rfl 2 rfl ?_
  refine L_arg (j := 1) C 3 0 rfl rfl (by decide) (by omega) hL dL_law_791 rfl dL_law_792 rfl dL_law_793 rfl dL_law_794 rfl dL_law_795 rfl ?_
  refine L_callMI (q := 799) (As := [.int (xs (i + 1))]) (rest := [.int r]) C (c_X6_on C.2.2.2.2.1 e6) ok_X6_on kM_L_97 rfl rfl rfl ⟨Nat.le_of_ble_eq_true rfl, Nat.le_of_ble_eq_true rfl⟩ (Nat.le_of_ble_eq_true rfl) dL_law_796 rfl ?_
  exact L_eq (tgt := 1369) C dL_law_799 (by decide) (k σ' τ' hrel')
set_option maxHeartbeats 4000000 in
set_option maxRecDepth 100000 in
theorem lc_takes (C : Lx p s m meth c D cI cR b L xs adC adM) {i : Nat} (hi : i + 6 ≤ L) (hL : L ≤ 3072) (hst : S_takes Rel) (hrel : Rel σ τ) (k : ∀ σ' τ' : Sg, Rel σ' τ' → Jl p l e s m below meth c D cI cR b adC adM 1369 [(0, .ref b), (1, .ref (adC 0)), (2, .ref (adM 0)), (3, .int (nI i))] [] σ' τ') : Jl p l e s m below meth c D cI cR b adC adM 804 [(0, .ref b), (1, .ref (adC 0)), (2, .ref (adM 0)), (3, .int (nI i))] [] σ τ := by
  obtain ⟨r, e5, e6⟩ := hst σ τ (xs (i + 1)) (xs (i + 2)) hrel
  refine L_aload_n (q := 805) C dL_law_804 rfl rfl 1 rfl ?_
  refine L_arg (j := 1) C 3 0 rfl rfl (by decide) (by omega) hL dL_law_805 rfl dL_law_806 rfl dL_law_807 rfl dL_law_808 rfl dL_law_809 rfl ?_
  refine L_arg (j := 2) C 3 0 rfl rfl (by decide) (by omega) hL dL_law_810 rfl dL_law_811 rfl dL_law_812 rfl dL_law_813 rfl dL_law_814 rfl ?_
  refine L_callCI (q := 818) (As := [.int (xs (i + 1)), .int (xs (i + 2))]) (rest := []) C (c_X5_takes C.2.2.2.1 e5) ok_X5_takes kM_L_98 rfl rfl rfl ⟨Nat.le_of_ble_eq_true rfl, Nat.le_of_ble_eq_true rfl⟩ (Nat.le_of_ble_eq_true rfl) dL_law_815 rfl ?_
  refine L_aload_n (q := 819) C dL_law_818 rfl rfl 2 rfl ?_
  refine L_arg (j := 1) C 3 0 rfl rfl (by decide) (by omega) hL dL_law_819 rfl dL_law_820 rfl dL_law_821 rfl dL_law_822 rfl dL_law_823 rfl ?_
  refine L_arg (j := 2) C 3 0 rfl rfl (by decide) (by omega) hL dL_law_824 rfl dL_law_825 rfl dL_law_826 rfl dL_law_827 rfl dL_law_828 rfl ?_
  refine L_callMI (q := 832) (As := [.int (xs (i + 1)), .int (xs (i + 2))]) (rest := [.int r]) C (c_X6_takes C.2.2.2.2.1 e6) ok_X6_takes kM_L_101 rfl rfl rfl ⟨Nat.le_of_ble_eq_true rfl, Nat.le_of_ble_eq_true rfl⟩ (Nat.le_of_ble_eq_true rfl) dL_law_829 rfl ?_
  exact L_eq (tgt := 1369) C dL_law_832 (by decide) (k σ τ hrel)
set_option maxHeartbeats 4000000 in
set_option maxRecDepth 100000 in
theorem lc_pays (C : Lx p s m meth c D cI cR b L xs adC adM) {i : Nat} (hi : i + 6 ≤ L) (hL : L ≤ 3072) (hst : S_pays Rel) (hrel : Rel σ τ) (k : ∀ σ' τ' : Sg, Rel σ' τ' → Jl p l e s m below meth c D cI cR b adC adM 1369 [(0, .ref b), (1, .ref (adC 0)), (2, .ref (adM 0)), (3, .int (nI i))] [] σ' τ') : Jl p l e s m below meth c D cI cR b adC adM 837 [(0, .ref b), (1, .ref (adC 0)), (2, .ref (adM 0)), (3, .int (nI i))] [] σ τ := by
  obtain ⟨r, e5, e6⟩ := hst σ τ (xs (i + 1)) hrel
  refine L_aload_n (q := 838) C dL_law_837 rfl rfl 1 rfl ?_
  refine L_arg (j := 1) C 3 0 rfl rfl (by decide) (by omega) hL dL_law_838 rfl dL_law_839 rfl dL_law_840 rfl dL_law_841 rfl dL_law_842 rfl ?_
  refine L_callCI (q := 846) (As := [.int (xs (i + 1))]) (rest := []) C (c_X5_pays C.2.2.2.1 e5) ok_X5_pays kM_L_102 rfl rfl rfl ⟨Nat.le_of_ble_eq_true rfl, Nat.le_of_ble_eq_true rfl⟩ (Nat.le_of_ble_eq_true rfl) dL_law_843 rfl ?_
  refine L_aload_n (q := 847) C dL_law_846 rfl rfl 2 rfl ?_
  refine L_arg (j := 1) C 3 0 rfl rfl (by decide) (by omega) hL dL_law_847 rfl dL_law_848 rfl dL_law_849 rfl dL_law_850 rfl dL_law_851 rfl ?_
  refine L_callMI (q := 855) (As := [.int (xs (i + 1))]) (rest := [.int r]) C (c_X6_pays C.2.2.2.2.1 e6) ok_X6_pays kM_L_105 rfl rfl rfl ⟨Nat.le_of_ble_eq_true rfl, Nat.le_of_ble_eq_true rfl⟩ (Nat.le_of_ble_eq_true rfl) dL_law_852 rfl ?_
  exact L_eq (tgt := 1369) C dL_law_855 (by decide) (k σ τ hrel)
set_option maxHeartbeats 4000000 in
set_option maxRecDepth 100000 in
theorem lc_who (C : Lx p s m meth c D cI cR b L xs adC adM) {i : Nat} (hi : i + 6 ≤ L) (hL : L ≤ 3072) (hst : S_who Rel) (hrel : Rel σ τ) (k : ∀ σ' τ' : Sg, Rel σ' τ' → Jl p l e s m below meth c D cI cR b adC adM 1369 [(0, .ref b), (1, .ref (adC 0)), (2, .ref (adM 0)), (3, .int (nI i))] [] σ' τ') : Jl p l e s m below meth c D cI cR b adC adM 860 [(0, .ref b), (1, .ref (adC 0)), (2, .ref (adM 0)), (3, .int (nI i))] [] σ τ := by
  obtain ⟨r, e5, e6⟩ := hst σ τ (xs (i + 1)) (xs (i + 2)) hrel
  refine L_aload_n (q := 861) C dL_law_860 rfl rfl 1 rfl ?_
  refine L_arg (j := 1) C 3 0 rfl rfl (by decide) (by omega) hL dL_law_861 rfl dL_law_862 rfl dL_law_863 rfl dL_law_864 rfl dL_law_865 rfl ?_
  refine L_arg (j := 2) C 3 0 rfl rfl (by decide) (by omega) hL dL_law_866 rfl dL_law_867 rfl dL_law_868 rfl dL_law_869 rfl dL_law_870 rfl ?_
  refine L_callCI (q := 874) (As := [.int (xs (i + 1)), .int (xs (i + 2))]) (rest := []) C (c_X5_who C.2.2.2.1 e5) ok_X5_who kM_L_106 rfl rfl rfl ⟨Nat.le_of_ble_eq_true rfl, Nat.le_of_ble_eq_true rfl⟩ (Nat.le_of_ble_eq_true rfl) dL_law_871 rfl ?_
  refine L_aload_n (q := 875) C dL_law_874 rfl rfl 2 rfl ?_
  refine L_arg (j := 1) C 3 0 rfl rfl (by decide) (by omega) hL dL_law_875 rfl dL_law_876 rfl dL_law_877 rfl dL_law_878 rfl dL_law_879 rfl ?_
  refine L_arg (j := 2) C 3 0 rfl rfl (by decide) (by omega) hL dL_law_880 rfl dL_law_881 rfl dL_law_882 rfl dL_law_883 rfl dL_law_884 rfl ?_
  refine L_callMI (q := 888) (As := [.int (xs (i + 1)), .int (xs (i + 2))]) (rest := [.int r]) C (c_X6_who C.2.2.2.2.1 e6) ok_X6_who kM_L_109 rfl rfl rfl ⟨Nat.le_of_ble_eq_true rfl, Nat.le_of_ble_eq_true rfl⟩ (Nat.le_of_ble_eq_true rfl) dL_law_885 rfl ?_
  exact L_eq (tgt := 1369) C dL_law_888 (by decide) (k σ τ hrel)
set_option maxHeartbeats 4000000 in
set_option maxRecDepth 100000 in
theorem lc_quarrels (C : Lx p s m meth c D cI cR b L xs adC adM) {i : Nat} (hi : i + 6 ≤ L) (hL : L ≤ 3072) (hst : S_quarrels Rel) (hrel : Rel σ τ) (k : ∀ σ' τ' : Sg, Rel σ' τ' → Jl p l e s m below meth c D cI cR b adC adM 1369 [(0, .ref b), (1, .ref (adC 0)), (2, .ref (adM 0)), (3, .int (nI i))] [] σ' τ') : Jl p l e s m below meth c D cI cR b adC adM 893 [(0, .ref b), (1, .ref (adC 0)), (2, .ref (adM 0)), (3, .int (nI i))] [] σ τ := by
  obtain ⟨r, e5, e6⟩ := hst σ τ  hrel
  refine L_aload_n (q := 894) C dL_law_893 rfl rfl 1 rfl ?_
  refine L_callCI (q := 897) (As := []) (rest := []) C (c_X5_quarrels C.2.2.2.1 e5) ok_X5_quarrels kM_L_110 rfl rfl rfl ⟨Nat.le_of_ble_eq_true rfl, Nat.le_of_ble_eq_true rfl⟩ (Nat.le_of_ble_eq_true rfl) dL_law_894 rfl ?_
  refine L_aload_n (q := 898) C dL_law_897 rfl rfl 2 rfl ?_
  refine L_callMI (q := 901) (As := []) (rest := [.int r]) C (c_X6_quarrels C.2.2.2.2.1 e6) ok_X6_quarrels kM_L_113 rfl rfl rfl ⟨Nat.le_of_ble_eq_true rfl, Nat.le_of_ble_eq_true rfl⟩ (Nat.le_of_ble_eq_true rfl) dL_law_898 rfl ?_
  exact L_eq (tgt := 1369) C dL_law_901 (by decide) (k σ τ hrel)
set_option maxHeartbeats 4000000 in
set_option maxRecDepth 100000 in
theorem lc_soonest (C : Lx p s m meth c D cI cR b L xs adC adM) {i : Nat} (hi : i + 6 ≤ L) (hL : L ≤ 3072) (hst : S_soonest Rel) (hrel : Rel σ τ) (k : ∀ σ' τ' : Sg, Rel σ' τ' → Jl p l e s m below meth c D cI cR b adC adM 1369 [(0, .ref b), (1, .ref (adC 0)), (2, .ref (adM 0)), (3, .int (nI i))] [] σ' τ') : Jl p l e s m below meth c D cI cR b adC adM 906 [(0, .ref b), (1, .ref (adC 0)), (2, .ref (adM 0)), (3, .int (nI i))] [] σ τ := by
  obtain ⟨r, e5, e6⟩ := hst σ τ (xs (i + 1)) hrel
  refine L_aload_n (q := 907) C dL_law_906 rfl rfl 1 rfl ?_
  refine L_arg (j := 1) C 3 0 rfl rfl (by decide) (by omega) hL dL_law_907 rfl dL_law_908 rfl dL_law_909 rfl dL_law_910 rfl dL_law_911 rfl ?_
  refine L_callCI (q := 915) (As := [.int (xs (i + 1))]) (rest := []) C (c_X5_soonest C.2.2.2.1 e5) ok_X5_soonest kM_L_114 rfl rfl rfl ⟨Nat.le_of_ble_eq_true rfl, Nat.le_of_ble_eq_true rfl⟩ (Nat.le_of_ble_eq_true rfl) dL_law_912 rfl ?_
  refine L_aload_n (q := 916) C dL_law_915 rfl rfl 2 rfl ?_
  refine L_arg (j := 1) C 3 0 rfl rfl (by decide) (by omega) hL dL_law_916 rfl dL_law_917 rfl dL_law_918 rfl dL_law_919 rfl dL_law_920 rfl ?_
  refine L_callMI (q := 924) (As := [.int (xs (i + 1))]) (rest := [.int r]) C (c_X6_soonest C.2.2.2.2.1 e6) ok_X6_soonest kM_L_117 rfl rfl rfl ⟨Nat.le_of_ble_eq_true rfl, Nat.le_of_ble_eq_true rfl⟩ (Nat.le_of_ble_eq_true rfl) dL_law_921 rfl ?_
  exact L_eq (tgt := 1369) C dL_law_924 (by decide) (k σ τ hrel)
set_option maxHeartbeats 4000000 in
set_option maxRecDepth 100000 in
theorem lc_intime (C : Lx p s m meth c D cI cR b L xs adC adM) {i : Nat} (hi : i + 6 ≤ L) (hL : L ≤ 3072) (hst : S_intime Rel) (hrel : Rel σ τ) (k : ∀ σ' τ' : Sg, Rel σ' τ' → Jl p l e s m below meth c D cI cR b adC adM 1369 [(0, .ref b), (1, .ref (adC 0)), (2, .ref (adM 0)), (3, .int (nI i))] [] σ' τ') : Jl p l e s m below meth c D cI cR b adC adM 929 [(0, .ref b), (1, .ref (adC 0)), (2, .ref (adM 0)), (3, .int (nI i))] [] σ τ := by
  obtain ⟨r, σ', τ', e5, e6, hrel'⟩ := hst σ τ (xs (i + 1)) (xs (i + 2)) hrel
  refine L_aload_n (q := 930) C dL_law_929 rfl rfl 1 rfl ?_
  refine L_arg (j := 1) C 3 0 rfl rfl (by decide) (by omega) hL dL_law_930 rfl dL_law_931 rfl dL_law_932 rfl dL_law_933 rfl dL_law_934 rfl ?_
  refine L_arg (j := 2) C 3 0 rfl rfl (by decide) (by omega) hL dL_law_935 rfl dL_law_936 rfl dL_law_937 rfl dL_law_938 rfl dL_law_939 rfl ?_
  refine L_callCI (q := 943) (As := [.int (xs (i + 1)), .int (xs (i + 2))]) (rest := []) C (c_X5_intime C.2.2.2.1 e5) ok_X5_intime kM_L_118 rfl rfl rfl ⟨Nat.le_of_ble_eq_true rfl, Nat.le_of_ble_eq_true rfl⟩ (Nat.le_of_ble_eq_true rfl) dL_law_940 rfl ?_
  refine L_aload_n (q := 944) C dL_law_943 rfl rfl 2 rfl ?_
  refine L_arg (j := 1) C 3 0 rfl rfl (by decide) (by omega) hL dL_law_944 rfl dL_law_945 rfl dL_law_946 rfl dL_law_947 rfl dL_law_948 rfl ?_
  refine L_arg (j := 2) C 3 0 rfl rfl (by decide) (by omega) hL dL_law_949 rfl dL_law_950 rfl dL_law_951 rfl dL_law_952 rfl dL_law_953 rfl ?_
  refine L_callMI (q := 957) (As := [.int (xs (i + 1)), .int (xs (i + 2))]) (rest := [.int r]) C (c_X6_intime C.2.2.2.2.1 e6) ok_X6_intime kM_L_121 rfl rfl rfl ⟨Nat.le_of_ble_eq_true rfl, Nat.le_of_ble_eq_true rfl⟩ (Nat.le_of_ble_eq_true rfl) dL_law_954 rfl ?_
  exact L_eq (tgt := 1369) C dL_law_957 (by decide) (k σ' τ' hrel')
set_option maxHeartbeats 4000000 in
set_option maxRecDepth 100000 in
theorem lc_many (C : Lx p s m meth c D cI cR b L xs adC adM) {i : Nat} (hi : i + 6 ≤ L) (hL : L ≤ 3072) (hst : S_many Rel) (hrel : Rel σ τ) (k : ∀ σ' τ' : Sg, Rel σ' τ' → Jl p l e s m below meth c D cI cR b adC adM 1369 [(0, .ref b), (1, .ref (adC 0)), (2, .ref (adM 0)), (3, .int (nI i))] [] σ' τ') : Jl p l e s m below meth c D cI cR b adC adM 962 [(0, .ref b), (1, .ref (adC 0)), (2, .ref (adM 0)), (3, .int (nI i))] [] σ τ := by
  obtain ⟨r, σ', τ', e5, e6, hrel'⟩ := hst σ τ  hrel
  refine L_aload_n (q := 963) C dL_law_962 rfl rfl 1 rfl ?_
  refine L_callCI (q := 966) (As := []) (rest := []) C (c_X5_many C.2.2.2.1 e5) ok_X5_many kM_L_122 rfl rfl rfl ⟨Nat.le_of_ble_eq_true rfl, Nat.le_of_ble_eq_true rfl⟩ (Nat.le_of_ble_eq_true rfl) dL_law_963 rfl ?_
  refine L_aload_n (q := 967) C dL_law_966 rfl rfl 2 rfl ?_
  refine L_callMI (q := 970) (As := []) (rest := [.int r]) C (c_X6_many C.2.2.2.2.1 e6) ok_X6_many kM_L_125 rfl rfl rfl ⟨Nat.le_of_ble_eq_true rfl, Nat.le_of_ble_eq_true rfl⟩ (Nat.le_of_ble_eq_true rfl) dL_law_967 rfl ?_
  exact L_eq (tgt := 1369) C dL_law_970 (by decide) (k σ' τ' hrel')
set_option maxHeartbeats 4000000 in
set_option maxRecDepth 100000 in
theorem lc_dates (C : Lx p s m meth c D cI cR b L xs adC adM) {i : Nat} (hi : i + 6 ≤ L) (hL : L ≤ 3072) (hst : S_dates Rel) (hrel : Rel σ τ) (k : ∀ σ' τ' : Sg, Rel σ' τ' → Jl p l e s m below meth c D cI cR b adC adM 1369 [(0, .ref b), (1, .ref (adC 0)), (2, .ref (adM 0)), (3, .int (nI i))] [] σ' τ') : Jl p l e s m below meth c D cI cR b adC adM 975 [(0, .ref b), (1, .ref (adC 0)), (2, .ref (adM 0)), (3, .int (nI i))] [] σ τ := by
  obtain ⟨r, σ', τ', e5, e6, hrel'⟩ := hst σ τ (xs (i + 1)) hrel
  refine L_aload_n (q := 976) C dL_law_975 rfl rfl 1 rfl ?_
  refine L_arg (j := 1) C 3 0 rfl rfl (by decide) (by omega) hL dL_law_976 rfl dL_law_977 rfl dL_law_978 rfl dL_law_979 rfl dL_law_980 rfl ?_
  refine L_callCI (q := 984) (As := [.int (xs (i + 1))]) (rest := []) C (c_X5_dates C.2.2.2.1 e5) ok_X5_dates kM_L_126 rfl rfl rfl ⟨Nat.le_of_ble_eq_true rfl, Nat.le_of_ble_eq_true rfl⟩ (Nat.le_of_ble_eq_true rfl) dL_law_981 rfl ?_
  refine L_aload_n (q := 985) C dL_law_984 rfl rfl 2 rfl ?_
  refine L_arg (j := 1) C 3 0 rfl rfl (by decide) (by omega) hL dL_law_985 rfl dL_law_986 rfl dL_law_987 rfl dL_law_988 rfl dL_law_989 rfl ?_
  refine L_callMI (q := 993) (As := [.int (xs (i + 1))]) (rest := [.int r]) C (c_X6_dates C.2.2.2.2.1 e6) ok_X6_dates kM_L_129 rfl rfl rfl ⟨Nat.le_of_ble_eq_true rfl, Nat.le_of_ble_eq_true rfl⟩ (Nat.le_of_ble_eq_true rfl) dL_law_990 rfl ?_
  exact L_eq (tgt := 1369) C dL_law_993 (by decide) (k σ' τ' hrel')
set_option maxHeartbeats 4000000 in
set_option maxRecDepth 100000 in
theorem lc_whose (C : Lx p s m meth c D cI cR b L xs adC adM) {i : Nat} (hi : i + 6 ≤ L) (hL : L ≤ 3072) (hst : S_whose Rel) (hrel : Rel σ τ) (k : ∀ σ' τ' : Sg, Rel σ' τ' → Jl p l e s m below meth c D cI cR b adC adM 1369 [(0, .ref b), (1, .ref (adC 0)), (2, .ref (adM 0)), (3, .int (nI i))] [] σ' τ') : Jl p l e s m below meth c D cI cR b adC adM 998 [(0, .ref b), (1, .ref (adC 0)), (2, .ref (adM 0)), (3, .int (nI i))] [] σ τ := by
  obtain ⟨r, σ', τ', e5, e6, hrel'⟩ := hst σ τ (xs (i + 1)) hrel
  refine L_aload_n (q := 999) C dL_law_998 rfl rfl 1 rfl ?_
  refine L_arg (j := 1) C 3 0 rfl rfl (by decide) (by omega) hL dL_law_999 rfl dL_law_1000 rfl dL_law_1001 rfl dL_law_1002 rfl dL_law_1003 rfl ?_
  refine L_callCI (q := 1007) (As := [.int (xs (i + 1))]) (rest := []) C (c_X5_whose C.2.2.2.1 e5) ok_X5_whose kM_L_130 rfl rfl rfl ⟨Nat.le_of_ble_eq_true rfl, Nat.le_of_ble_eq_true rfl⟩ (Nat.le_of_ble_eq_true rfl) dL_law_1004 rfl ?_
  refine L_aload_n (q := 1008) C dL_law_1007 rfl rfl 2 rfl ?_
  refine L_arg (j := 1) C 3 0 rfl rfl (by decide) (by omega) hL dL_law_1008 rfl dL_law_1009 rfl dL_law_1010 rfl dL_law_1011 rfl dL_law_1012 rfl ?_
  refine L_callMI (q := 1016) (As := [.int (xs (i + 1))]) (rest := [.int r]) C (c_X6_whose C.2.2.2.2.1 e6) ok_X6_whose kM_L_133 rfl rfl rfl ⟨Nat.le_of_ble_eq_true rfl, Nat.le_of_ble_eq_true rfl⟩ (Nat.le_of_ble_eq_true rfl) dL_law_1013 rfl ?_
  exact L_eq (tgt := 1369) C dL_law_1016 (by decide) (k σ' τ' hrel')
set_option maxHeartbeats 4000000 in
set_option maxRecDepth 100000 in
theorem lc_kinds (C : Lx p s m meth c D cI cR b L xs adC adM) {i : Nat} (hi : i + 6 ≤ L) (hL : L ≤ 3072) (hst : S_kinds Rel) (hrel : Rel σ τ) (k : ∀ σ' τ' : Sg, Rel σ' τ' → Jl p l e s m below meth c D cI cR b adC adM 1369 [(0, .ref b), (1, .ref (adC 0)), (2, .ref (adM 0)), (3, .int (nI i))] [] σ' τ') : Jl p l e s m below meth c D cI cR b adC adM 1021 [(0, .ref b), (1, .ref (adC 0)), (2, .ref (adM 0)), (3, .int (nI i))] [] σ τ := by
  obtain ⟨r, σ', τ', e5, e6, hrel'⟩ := hst σ τ (xs (i + 1)) hrel
  refine L_aload_n (q := 1022) C dL_law_1021 rfl rfl 1 rfl ?_
  refine L_arg (j := 1) C 3 0 rfl rfl (by decide) (by omega) hL dL_law_1022 rfl dL_law_1023 rfl dL_law_1024 rfl dL_law_1025 rfl dL_law_1026 rfl ?_
  refine L_callCI (q := 1030) (As := [.int (xs (i + 1))]) (rest := []) C (c_X5_kinds C.2.2.2.1 e5) ok_X5_kinds kM_L_134 rfl rfl rfl ⟨Nat.le_of_ble_eq_true rfl, Nat.le_of_ble_eq_true rfl⟩ (Nat.le_of_ble_eq_true rfl) dL_law_1027 rfl ?_
  refine L_aload_n (q := 1031) C dL_law_1030 rfl rfl 2 rfl ?_
  refine L_arg (j := 1) C 3 0 rfl rfl (by decide) (by omega) hL dL_law_1031 rfl dL_law_1032 rfl dL_law_1033 rfl dL_law_1034 rfl dL_law_1035 rfl ?_
  refine L_callMI (q := 1039) (As := [.int (xs (i + 1))]) (rest := [.int r]) C (c_X6_kinds C.2.2.2.2.1 e6) ok_X6_kinds kM_L_137 rfl rfl rfl ⟨Nat.le_of_ble_eq_true rfl, Nat.le_of_ble_eq_true rfl⟩ (Nat.le_of_ble_eq_true rfl) dL_law_1036 rfl ?_
  exact L_eq (tgt := 1369) C dL_law_1039 (by decide) (k σ' τ' hrel')
set_option maxHeartbeats 4000000 in
set_option maxRecDepth 100000 in
theorem lc_test (C : Lx p s m meth c D cI cR b L xs adC adM) {i : Nat} (hi : i + 6 ≤ L) (hL : L ≤ 3072) (hst : S_test Rel) (hrel : Rel σ τ) (k : ∀ σ' τ' : Sg, Rel σ' τ' → Jl p l e s m below meth c D cI cR b adC adM 1369 [(0, .ref b), (1, .ref (adC 0)), (2, .ref (adM 0)), (3, .int (nI i))] [] σ' τ') : Jl p l e s m below meth c D cI cR b adC adM 1044 [(0, .ref b), (1, .ref (adC 0)), (2, .ref (adM 0)), (3, .int (nI i))] [] σ τ := by
  obtain ⟨r, σ', τ', e5, e6, hrel'⟩ := hst σ τ (xs (i + 1)) hrel
  refine L_aload_n (q := 1045) C dL_law_1044 rfl rfl 1 rfl ?_
  refine L_arg (j := 1) C 3 0 rfl rfl (by decide) (by omega) hL dL_law_1045 rfl dL_law_1046 rfl dL_law_1047 rfl dL_law_1048 rfl dL_law_1049 rfl ?_
  refine L_callCI (q := 1053) (As := [.int (xs (i + 1))]) (rest := []) C (c_X5_test C.2.2.2.1 e5) ok_X5_test kM_L_138 rfl rfl rfl ⟨Nat.le_of_ble_eq_true rfl, Nat.le_of_ble_eq_true rfl⟩ (Nat.le_of_ble_eq_true rfl) dL_law_1050 rfl ?_
  refine L_aload_n (q := 1054) C dL_law_1053 rfl rfl 2 rfl ?_
  refine L_arg (j := 1) C 3 0 rfl rfl (by decide) (by omega) hL dL_law_1054 rfl dL_law_1055 rfl dL_law_1056 rfl dL_law_1057 rfl dL_law_1058 rfl ?_
  refine L_callMI (q := 1062) (As := [.int (xs (i + 1))]) (rest := [.int r]) C (c_X6_test C.2.2.2.2.1 e6) ok_X6_test kM_L_141 rfl rfl rfl ⟨Nat.le_of_ble_eq_true rfl, Nat.le_of_ble_eq_true rfl⟩ (Nat.le_of_ble_eq_true rfl) dL_law_1059 rfl ?_
  exact L_eq (tgt := 1369) C dL_law_1062 (by decide) (k σ' τ' hrel')
set_option maxHeartbeats 4000000 in
set_option maxRecDepth 100000 in
theorem lc_sets (C : Lx p s m meth c D cI cR b L xs adC adM) {i : Nat} (hi : i + 6 ≤ L) (hL : L ≤ 3072) (hst : S_sets Rel) (hrel : Rel σ τ) (k : ∀ σ' τ' : Sg, Rel σ' τ' → Jl p l e s m below meth c D cI cR b adC adM 1369 [(0, .ref b), (1, .ref (adC 0)), (2, .ref (adM 0)), (3, .int (nI i))] [] σ' τ') : Jl p l e s m below meth c D cI cR b adC adM 1067 [(0, .ref b), (1, .ref (adC 0)), (2, .ref (adM 0)), (3, .int (nI i))] [] σ τ := by
  obtain ⟨r, σ', τ', e5, e6, hrel'⟩ := hst σ τ (xs (i + 1)) hrel
  refine L_aload_n (q := 1068) C dL_law_1067 rfl rfl 1 rfl ?_
  refine L_arg (j := 1) C 3 0 rfl rfl (by decide) (by omega) hL dL_law_1068 rfl dL_law_1069 rfl dL_law_1070 rfl dL_law_1071 rfl dL_law_1072 rfl ?_
  refine L_callCI (q := 1076) (As := [.int (xs (i + 1))]) (rest := []) C (c_X5_sets C.2.2.2.1 e5) ok_X5_sets kM_L_142 rfl rfl rfl ⟨Nat.le_of_ble_eq_true rfl, Nat.le_of_ble_eq_true rfl⟩ (Nat.le_of_ble_eq_true rfl) dL_law_1073 rfl ?_
  refine L_aload_n (q := 1077) C dL_law_1076 rfl rfl 2 rfl ?_
  refine L_arg (j := 1) C 3 0 rfl rfl (by decide) (by omega) hL dL_law_1077 rfl dL_law_1078 rfl dL_law_1079 rfl dL_law_1080 rfl dL_law_1081 rfl ?_
  refine L_callMI (q := 1085) (As := [.int (xs (i + 1))]) (rest := [.int r]) C (c_X6_sets C.2.2.2.2.1 e6) ok_X6_sets kM_L_145 rfl rfl rfl ⟨Nat.le_of_ble_eq_true rfl, Nat.le_of_ble_eq_true rfl⟩ (Nat.le_of_ble_eq_true rfl) dL_law_1082 rfl ?_
  exact L_eq (tgt := 1369) C dL_law_1085 (by decide) (k σ' τ' hrel')
set_option maxHeartbeats 4000000 in
set_option maxRecDepth 100000 in
theorem lc_sure (C : Lx p s m meth c D cI cR b L xs adC adM) {i : Nat} (hi : i + 6 ≤ L) (hL : L ≤ 3072) (hst : S_sure Rel) (hrel : Rel σ τ) (k : ∀ σ' τ' : Sg, Rel σ' τ' → Jl p l e s m below meth c D cI cR b adC adM 1369 [(0, .ref b), (1, .ref (adC 0)), (2, .ref (adM 0)), (3, .int (nI i))] [] σ' τ') : Jl p l e s m below meth c D cI cR b adC adM 1090 [(0, .ref b), (1, .ref (adC 0)), (2, .ref (adM 0)), (3, .int (nI i))] [] σ τ := by
  obtain ⟨r, σ', τ', e5, e6, hrel'⟩ := hst σ τ (xs (i + 1)) hrel
  refine L_aload_n (q := 1091) C dL_law_1090 rfl rfl 1 rfl ?_
  refine L_arg (j := 1) C 3 0 rfl rfl (by decide) (by omega) hL dL_law_1091 rfl dL_law_1092 rfl dL_law_1093 rfl dL_law_1094 rfl dL_law_1095 rfl ?_
  refine L_callCI (q := 1099) (As := [.int (xs (i + 1))]) (rest := []) C (c_X5_sure C.2.2.2.1 e5) ok_X5_sure kM_L_146 rfl rfl rfl ⟨Nat.le_of_ble_eq_true rfl, Nat.le_of_ble_eq_true rfl⟩ (Nat.le_of_ble_eq_true rfl) dL_law_1096 rfl ?_
  refine L_aload_n (q := 1100) C dL_law_1099 rfl rfl 2 rfl ?_
  refine L_arg (j := 1) C 3 0 rfl rfl (by decide) (by omega) hL dL_law_1100 rfl dL_law_1101 rfl dL_law_1102 rfl dL_law_1103 rfl dL_law_1104 rfl ?_
  refine L_callMI (q := 1108) (As := [.int (xs (i + 1))]) (rest := [.int r]) C (c_X6_sure C.2.2.2.2.1 e6) ok_X6_sure kM_L_149 rfl rfl rfl ⟨Nat.le_of_ble_eq_true rfl, Nat.le_of_ble_eq_true rfl⟩ (Nat.le_of_ble_eq_true rfl) dL_law_1105 rfl ?_
  exact L_eq (tgt := 1369) C dL_law_1108 (by decide) (k σ' τ' hrel')
set_option maxHeartbeats 4000000 in
set_option maxRecDepth 100000 in
theorem lc_duel (C : Lx p s m meth c D cI cR b L xs adC adM) {i : Nat} (hi : i + 6 ≤ L) (hL : L ≤ 3072) (hst : S_duel Rel) (hrel : Rel σ τ) (k : ∀ σ' τ' : Sg, Rel σ' τ' → Jl p l e s m below meth c D cI cR b adC adM 1369 [(0, .ref b), (1, .ref (adC 0)), (2, .ref (adM 0)), (3, .int (nI i))] [] σ' τ') : Jl p l e s m below meth c D cI cR b adC adM 1113 [(0, .ref b), (1, .ref (adC 0)), (2, .ref (adM 0)), (3, .int (nI i))] [] σ τ := by
  obtain ⟨r, σ', τ', e5, e6, hrel'⟩ := hst σ τ (xs (i + 1)) hrel
  refine L_aload_n (q := 1114) C dL_law_1113 rfl rfl 1 rfl ?_
  refine L_arg (j := 1) C 3 0 rfl rfl (by decide) (by omega) hL dL_law_1114 rfl dL_law_1115 rfl dL_law_1116 rfl dL_law_1117 rfl dL_law_1118 rfl ?_
  refine L_callCI (q := 1122) (As := [.int (xs (i + 1))]) (rest := []) C (c_X5_duel C.2.2.2.1 e5) ok_X5_duel kM_L_150 rfl rfl rfl ⟨Nat.le_of_ble_eq_true rfl, Nat.le_of_ble_eq_true rfl⟩ (Nat.le_of_ble_eq_true rfl) dL_law_1119 rfl ?_
  refine L_aload_n (q := 1123) C dL_law_1122 rfl rfl 2 rfl ?_
  refine L_arg (j := 1) C 3 0 rfl rfl (by decide) (by omega) hL dL_law_1123 rfl dL_law_1124 rfl dL_law_1125 rfl dL_law_1126 rfl dL_law_1127 rfl ?_
  refine L_callMI (q := 1131) (As := [.int (xs (i + 1))]) (rest := [.int r]) C (c_X6_duel C.2.2.2.2.1 e6) ok_X6_duel kM_L_153 rfl rfl rfl ⟨Nat.le_of_ble_eq_true rfl, Nat.le_of_ble_eq_true rfl⟩ (Nat.le_of_ble_eq_true rfl) dL_law_1128 rfl ?_
  exact L_eq (tgt := 1369) C dL_law_1131 (by decide) (k σ' τ' hrel')
set_option maxHeartbeats 4000000 in
set_option maxRecDepth 100000 in
theorem lc_odds (C : Lx p s m meth c D cI cR b L xs adC adM) {i : Nat} (hi : i + 6 ≤ L) (hL : L ≤ 3072) (hst : S_odds Rel) (hrel : Rel σ τ) (k : ∀ σ' τ' : Sg, Rel σ' τ' → Jl p l e s m below meth c D cI cR b adC adM 1369 [(0, .ref b), (1, .ref (adC 0)), (2, .ref (adM 0)), (3, .int (nI i))] [] σ' τ') : Jl p l e s m below meth c D cI cR b adC adM 1136 [(0, .ref b), (1, .ref (adC 0)), (2, .ref (adM 0)), (3, .int (nI i))] [] σ τ := by
  obtain ⟨r, σ', τ', e5, e6, hrel'⟩ := hst σ τ (xs (i + 1)) (xs (i + 2)) (xs (i + 3)) hrel
  refine L_aload_n (q := 1137) C dL_law_1136 rfl rfl 1 rfl ?_
  refine L_arg (j := 1) C 3 0 rfl rfl (by decide) (by omega) hL dL_law_1137 rfl dL_law_1138 rfl dL_law_1139 rfl dL_law_1140 rfl dL_law_1141 rfl ?_
  refine L_arg (j := 2) C 3 0 rfl rfl (by decide) (by omega) hL dL_law_1142 rfl dL_law_1143 rfl dL_law_1144 rfl dL_law_1145 rfl dL_law_1146 rfl ?_
  refine L_arg (j := 3) C 3 0 rfl rfl (by decide) (by omega) hL dL_law_1147 rfl dL_law_1148 rfl dL_law_1149 rfl dL_law_1150 rfl dL_law_1151 rfl ?_
  refine L_callCI (q := 1155) (As := [.int (xs (i + 1)), .int (xs (i + 2)), .int (xs (i + 3))]) (rest := []) C (c_X5_odds C.2.2.2.1 e5) ok_X5_odds kM_L_154 rfl rfl rfl ⟨Nat.le_of_ble_eq_true rfl, Nat.le_of_ble_eq_true rfl⟩ (Nat.le_of_ble_eq_true rfl) dL_law_1152 rfl ?_
  refine L_aload_n (q := 1156) C dL_law_1155 rfl rfl 2 rfl ?_
  refine L_arg (j := 1) C 3 0 rfl rfl (by decide) (by omega) hL dL_law_1156 rfl dL_law_1157 rfl dL_law_1158 rfl dL_law_1159 rfl dL_law_1160 rfl ?_
  refine L_arg (j := 2) C 3 0 rfl rfl (by decide) (by omega) hL dL_law_1161 rfl dL_law_1162 rfl dL_law_1163 rfl dL_law_1164 rfl dL_law_1165 rfl ?_
  refine L_arg (j := 3) C 3 0 rfl rfl (by decide) (by omega) hL dL_law_1166 rfl dL_law_1167 rfl dL_law_1168 rfl dL_law_1169 rfl dL_law_1170 rfl ?_
  refine L_callMI (q := 1174) (As := [.int (xs (i + 1)), .int (xs (i + 2)), .int (xs (i + 3))]) (rest := [.int r]) C (c_X6_odds C.2.2.2.2.1 e6) ok_X6_odds kM_L_157 rfl rfl rfl ⟨Nat.le_of_ble_eq_true rfl, Nat.le_of_ble_eq_true rfl⟩ (Nat.le_of_ble_eq_true rfl) dL_law_1171 rfl ?_
  exact L_eq (tgt := 1369) C dL_law_1174 (by decide) (k σ' τ' hrel')
set_option maxHeartbeats 4000000 in
set_option maxRecDepth 100000 in
theorem lc_mid (C : Lx p s m meth c D cI cR b L xs adC adM) {i : Nat} (hi : i + 6 ≤ L) (hL : L ≤ 3072) (hst : S_mid Rel) (hrel : Rel σ τ) (k : ∀ σ' τ' : Sg, Rel σ' τ' → Jl p l e s m below meth c D cI cR b adC adM 1369 [(0, .ref b), (1, .ref (adC 0)), (2, .ref (adM 0)), (3, .int (nI i))] [] σ' τ') : Jl p l e s m below meth c D cI cR b adC adM 1179 [(0, .ref b), (1, .ref (adC 0)), (2, .ref (adM 0)), (3, .int (nI i))] [] σ τ := by
  obtain ⟨r, σ', τ', e5, e6, hrel'⟩ := hst σ τ (xs (i + 1)) (xs (i + 2)) (xs (i + 3)) hrel
  refine L_aload_n (q := 1180) C dL_law_1179 rfl rfl 1 rfl ?_
  refine L_arg (j := 1) C 3 0 rfl rfl (by decide) (by omega) hL dL_law_1180 rfl dL_law_1181 rfl dL_law_1182 rfl dL_law_1183 rfl dL_law_1184 rfl ?_
  refine L_arg (j := 2) C 3 0 rfl rfl (by decide) (by omega) hL dL_law_1185 rfl dL_law_1186 rfl dL_law_1187 rfl dL_law_1188 rfl dL_law_1189 rfl ?_
  refine L_arg (j := 3) C 3 0 rfl rfl (by decide) (by omega) hL dL_law_1190 rfl dL_law_1191 rfl dL_law_1192 rfl dL_law_1193 rfl dL_law_1194 rfl ?_
  refine L_callCI (q := 1198) (As := [.int (xs (i + 1)), .int (xs (i + 2)), .int (xs (i + 3))]) (rest := []) C (c_X5_mid C.2.2.2.1 e5) ok_X5_mid kM_L_158 rfl rfl rfl ⟨Nat.le_of_ble_eq_true rfl, Nat.le_of_ble_eq_true rfl⟩ (Nat.le_of_ble_eq_true rfl) dL_law_1195 rfl ?_
  refine L_aload_n (q := 1199) C dL_law_1198 rfl rfl 2 rfl ?_
  refine L_arg (j := 1) C 3 0 rfl rfl (by decide) (by omega) hL dL_law_1199 rfl dL_law_1200 rfl dL_law_1201 rfl dL_law_1202 rfl dL_law_1203 rfl ?_
  refine L_arg (j := 2) C 3 0 rfl rfl (by decide) (by omega) hL dL_law_1204 rfl dL_law_1205 rfl dL_law_1206 rfl dL_law_1207 rfl dL_law_1208 rfl ?_
  refine L_arg (j := 3) C 3 0 rfl rfl (by decide) (by omega) hL dL_law_1209 rfl dL_law_1210 rfl dL_law_1211 rfl dL_law_1212 rfl dL_law_1213 rfl ?_
  refine L_callMI (q := 1217) (As := [.int (xs (i + 1)), .int (xs (i + 2)), .int (xs (i + 3))]) (rest := [.int r]) C (c_X6_mid C.2.2.2.2.1 e6) ok_X6_mid kM_L_161 rfl rfl rfl ⟨Nat.le_of_ble_eq_true rfl, Nat.le_of_ble_eq_true rfl⟩ (Nat.le_of_ble_eq_true rfl) dL_law_1214 rfl ?_
  exact L_eq (tgt := 1369) C dL_law_1217 (by decide) (k σ' τ' hrel')
set_option maxHeartbeats 4000000 in
set_option maxRecDepth 100000 in
theorem lc_lots (C : Lx p s m meth c D cI cR b L xs adC adM) {i : Nat} (hi : i + 6 ≤ L) (hL : L ≤ 3072) (hst : S_lots Rel) (hrel : Rel σ τ) (k : ∀ σ' τ' : Sg, Rel σ' τ' → Jl p l e s m below meth c D cI cR b adC adM 1369 [(0, .ref b), (1, .ref (adC 0)), (2, .ref (adM 0)), (3, .int (nI i))] [] σ' τ') : Jl p l e s m below meth c D cI cR b adC adM 1222 [(0, .ref b), (1, .ref (adC 0)), (2, .ref (adM 0)), (3, .int (nI i))] [] σ τ := by
  obtain ⟨r, σ', τ', e5, e6, hrel'⟩ := hst σ τ (xs (i + 1)) (xs (i + 2)) hrel
  refine L_aload_n (q := 1223) C dL_law_1222 rfl rfl 1 rfl ?_
  refine L_arg (j := 1) C 3 0 rfl rfl (by decide) (by omega) hL dL_law_1223 rfl dL_law_1224 rfl dL_law_1225 rfl dL_law_1226 rfl dL_law_1227 rfl ?_
  refine L_arg (j := 2) C 3 0 rfl rfl (by decide) (by omega) hL dL_law_1228 rfl dL_law_1229 rfl dL_law_1230 rfl dL_law_1231 rfl dL_law_1232 rfl ?_
  refine L_callCI (q := 1236) (As := [.int (xs (i + 1)), .int (xs (i + 2))]) (rest := []) C (c_X5_lots C.2.2.2.1 e5) ok_X5_lots kM_L_162 rfl rfl rfl ⟨Nat.le_of_ble_eq_true rfl, Nat.le_of_ble_eq_true rfl⟩ (Nat.le_of_ble_eq_true rfl) dL_law_1233 rfl ?_
  refine L_aload_n (q := 1237) C dL_law_1236 rfl rfl 2 rfl ?_
  refine L_arg (j := 1) C 3 0 rfl rfl (by decide) (by omega) hL dL_law_1237 rfl dL_law_1238 rfl dL_law_1239 rfl dL_law_1240 rfl dL_law_1241 rfl ?_
  refine L_arg (j := 2) C 3 0 rfl rfl (by decide) (by omega) hL dL_law_1242 rfl dL_law_1243 rfl dL_law_1244 rfl dL_law_1245 rfl dL_law_1246 rfl ?_
  refine L_callMI (q := 1250) (As := [.int (xs (i + 1)), .int (xs (i + 2))]) (rest := [.int r]) C (c_X6_lots C.2.2.2.2.1 e6) ok_X6_lots kM_L_165 rfl rfl rfl ⟨Nat.le_of_ble_eq_true rfl, Nat.le_of_ble_eq_true rfl⟩ (Nat.le_of_ble_eq_true rfl) dL_law_1247 rfl ?_
  exact L_eq (tgt := 1369) C dL_law_1250 (by decide) (k σ' τ' hrel')
set_option maxHeartbeats 4000000 in
set_option maxRecDepth 100000 in
theorem lc_asked (C : Lx p s m meth c D cI cR b L xs adC adM) {i : Nat} (hi : i + 6 ≤ L) (hL : L ≤ 3072) (hst : S_asked Rel) (hrel : Rel σ τ) (k : ∀ σ' τ' : Sg, Rel σ' τ' → Jl p l e s m below meth c D cI cR b adC adM 1369 [(0, .ref b), (1, .ref (adC 0)), (2, .ref (adM 0)), (3, .int (nI i))] [] σ' τ') : Jl p l e s m below meth c D cI cR b adC adM 1255 [(0, .ref b), (1, .ref (adC 0)), (2, .ref (adM 0)), (3, .int (nI i))] [] σ τ := by
  obtain ⟨r, e5, e6⟩ := hst σ τ  hrel
  refine L_aload_n (q := 1256) C dL_law_1255 rfl rfl 1 rfl ?_
  refine L_callCI (q := 1259) (As := []) (rest := []) C (c_X5_asked C.2.2.2.1 e5) ok_X5_asked kM_L_166 rfl rfl rfl ⟨Nat.le_of_ble_eq_true rfl, Nat.le_of_ble_eq_true rfl⟩ (Nat.le_of_ble_eq_true rfl) dL_law_1256 rfl ?_
  refine L_aload_n (q := 1260) C dL_law_1259 rfl rfl 2 rfl ?_
  refine L_callMI (q := 1263) (As := []) (rest := [.int r]) C (c_X6_asked C.2.2.2.2.1 e6) ok_X6_asked kM_L_169 rfl rfl rfl ⟨Nat.le_of_ble_eq_true rfl, Nat.le_of_ble_eq_true rfl⟩ (Nat.le_of_ble_eq_true rfl) dL_law_1260 rfl ?_
  exact L_eq (tgt := 1369) C dL_law_1263 (by decide) (k σ τ hrel)
set_option maxHeartbeats 4000000 in
set_option maxRecDepth 100000 in
theorem lc_upper (C : Lx p s m meth c D cI cR b L xs adC adM) {i : Nat} (hi : i + 6 ≤ L) (hL : L ≤ 3072) (hst : S_upper Rel) (hrel : Rel σ τ) (k : ∀ σ' τ' : Sg, Rel σ' τ' → Jl p l e s m below meth c D cI cR b adC adM 1369 [(0, .ref b), (1, .ref (adC 0)), (2, .ref (adM 0)), (3, .int (nI i))] [] σ' τ') : Jl p l e s m below meth c D cI cR b adC adM 1268 [(0, .ref b), (1, .ref (adC 0)), (2, .ref (adM 0)), (3, .int (nI i))] [] σ τ := by
  obtain ⟨r, e5, e6⟩ := hst σ τ  hrel
  refine L_aload_n (q := 1269) C dL_law_1268 rfl rfl 1 rfl ?_
  refine L_callCJ (q := 1272) (As := []) (rest := []) C (c_X5_upper C.2.2.2.1 e5) ok_X5_upper kM_L_170 rfl rfl rfl ⟨Nat.le_of_ble_eq_true rfl, Nat.le_of_ble_eq_true rfl⟩ (Nat.le_of_ble_eq_true rfl) dL_law_1269 rfl ?_
  refine L_aload_n (q := 1273) C dL_law_1272 rfl rfl 2 rfl ?_
  refine L_callMJ (q := 1276) (As := []) (rest := [.long r]) C (c_X6_upper C.2.2.2.2.1 e6) ok_X6_upper kM_L_174 rfl rfl rfl ⟨Nat.le_of_ble_eq_true rfl, Nat.le_of_ble_eq_true rfl⟩ (Nat.le_of_ble_eq_true rfl) dL_law_1273 rfl ?_
  exact L_lcmp (q := 1277) (tgt := 1369) C dL_law_1276 rfl dL_law_1277 (by decide) (k σ τ hrel)
set_option maxHeartbeats 4000000 in
set_option maxRecDepth 100000 in
theorem lc_lower (C : Lx p s m meth c D cI cR b L xs adC adM) {i : Nat} (hi : i + 6 ≤ L) (hL : L ≤ 3072) (hst : S_lower Rel) (hrel : Rel σ τ) (k : ∀ σ' τ' : Sg, Rel σ' τ' → Jl p l e s m below meth c D cI cR b adC adM 1369 [(0, .ref b), (1, .ref (adC 0)), (2, .ref (adM 0)), (3, .int (nI i))] [] σ' τ') : Jl p l e s m below meth c D cI cR b adC adM 1282 [(0, .ref b), (1, .ref (adC 0)), (2, .ref (adM 0)), (3, .int (nI i))] [] σ τ := by
  obtain ⟨r, e5, e6⟩ := hst σ τ  hrel
  refine L_aload_n (q := 1283) C dL_law_1282 rfl rfl 1 rfl ?_
  refine L_callCJ (q := 1286) (As := []) (rest := []) C (c_X5_lower C.2.2.2.1 e5) ok_X5_lower kM_L_175 rfl rfl rfl ⟨Nat.le_of_ble_eq_true rfl, Nat.le_of_ble_eq_true rfl⟩ (Nat.le_of_ble_eq_true rfl) dL_law_1283 rfl ?_
  refine L_aload_n (q := 1287) C dL_law_1286 rfl rfl 2 rfl ?_
  refine L_callMJ (q := 1290) (As := []) (rest := [.long r]) C (c_X6_lower C.2.2.2.2.1 e6) ok_X6_lower kM_L_178 rfl rfl rfl ⟨Nat.le_of_ble_eq_true rfl, Nat.le_of_ble_eq_true rfl⟩ (Nat.le_of_ble_eq_true rfl) dL_law_1287 rfl ?_
  exact L_lcmp (q := 1291) (tgt := 1369) C dL_law_1290 rfl dL_law_1291 (by decide) (k σ τ hrel)
set_option maxHeartbeats 4000000 in
set_option maxRecDepth 100000 in
theorem lc_count (C : Lx p s m meth c D cI cR b L xs adC adM) {i : Nat} (hi : i + 6 ≤ L) (hL : L ≤ 3072) (hst : S_count Rel) (hrel : Rel σ τ) (k : ∀ σ' τ' : Sg, Rel σ' τ' → Jl p l e s m below meth c D cI cR b adC adM 1369 [(0, .ref b), (1, .ref (adC 0)), (2, .ref (adM 0)), (3, .int (nI i))] [] σ' τ') : Jl p l e s m below meth c D cI cR b adC adM 1296 [(0, .ref b), (1, .ref (adC 0)), (2, .ref (adM 0)), (3, .int (nI i))] [] σ τ := by
  obtain ⟨r, e5, e6⟩ := hst σ τ (xs (i + 1)) hrel
  refine L_aload_n (q := 1297) C dL_law_1296 rfl rfl 1 rfl ?_
  refine L_arg (j := 1) C 3 0 rfl rfl (by decide) (by omega) hL dL_law_1297 rfl dL_law_1298 rfl dL_law_1299 rfl dL_law_1300 rfl dL_law_1301 rfl ?_
  refine L_callCI (q := 1305) (As := [.int (xs (i + 1))]) (rest := []) C (c_X5_count C.2.2.2.1 e5) ok_X5_count kM_L_179 rfl rfl rfl ⟨Nat.le_of_ble_eq_true rfl, Nat.le_of_ble_eq_true rfl⟩ (Nat.le_of_ble_eq_true rfl) dL_law_1302 rfl ?_
  refine L_aload_n (q := 1306) C dL_law_1305 rfl rfl 2 rfl ?_
  refine L_arg (j := 1) C 3 0 rfl rfl (by decide) (by omega) hL dL_law_1306 rfl dL_law_1307 rfl dL_law_1308 rfl dL_law_1309 rfl dL_law_1310 rfl ?_
  refine L_callMI (q := 1314) (As := [.int (xs (i + 1))]) (rest := [.int r]) C (c_X6_count C.2.2.2.2.1 e6) ok_X6_count kM_L_182 rfl rfl rfl ⟨Nat.le_of_ble_eq_true rfl, Nat.le_of_ble_eq_true rfl⟩ (Nat.le_of_ble_eq_true rfl) dL_law_1311 rfl ?_
  exact L_eq (tgt := 1369) C dL_law_1314 (by decide) (k σ τ hrel)
set_option maxHeartbeats 4000000 in
set_option maxRecDepth 100000 in
theorem lc_finding (C : Lx p s m meth c D cI cR b L xs adC adM) {i : Nat} (hi : i + 6 ≤ L) (hL : L ≤ 3072) (hst : S_finding Rel) (hrel : Rel σ τ) (k : ∀ σ' τ' : Sg, Rel σ' τ' → Jl p l e s m below meth c D cI cR b adC adM 1369 [(0, .ref b), (1, .ref (adC 0)), (2, .ref (adM 0)), (3, .int (nI i))] [] σ' τ') : Jl p l e s m below meth c D cI cR b adC adM 1319 [(0, .ref b), (1, .ref (adC 0)), (2, .ref (adM 0)), (3, .int (nI i))] [] σ τ := by
  obtain ⟨r, e5, e6⟩ := hst σ τ  hrel
  refine L_aload_n (q := 1320) C dL_law_1319 rfl rfl 1 rfl ?_
  refine L_callCI (q := 1323) (As := []) (rest := []) C (c_X5_finding C.2.2.2.1 e5) ok_X5_finding kM_L_183 rfl rfl rfl ⟨Nat.le_of_ble_eq_true rfl, Nat.le_of_ble_eq_true rfl⟩ (Nat.le_of_ble_eq_true rfl) dL_law_1320 rfl ?_
  refine L_aload_n (q := 1324) C dL_law_1323 rfl rfl 2 rfl ?_
  refine L_callMI (q := 1327) (As := []) (rest := [.int r]) C (c_X6_finding C.2.2.2.2.1 e6) ok_X6_finding kM_L_186 rfl rfl rfl ⟨Nat.le_of_ble_eq_true rfl, Nat.le_of_ble_eq_true rfl⟩ (Nat.le_of_ble_eq_true rfl) dL_law_1324 rfl ?_
  exact L_eq (tgt := 1369) C dL_law_1327 (by decide) (k σ τ hrel)
set_option maxHeartbeats 4000000 in
set_option maxRecDepth 100000 in
theorem lc_findings (C : Lx p s m meth c D cI cR b L xs adC adM) {i : Nat} (hi : i + 6 ≤ L) (hL : L ≤ 3072) (hst : S_findings Rel) (hrel : Rel σ τ) (k : ∀ σ' τ' : Sg, Rel σ' τ' → Jl p l e s m below meth c D cI cR b adC adM 1369 [(0, .ref b), (1, .ref (adC 0)), (2, .ref (adM 0)), (3, .int (nI i))] [] σ' τ') : Jl p l e s m below meth c D cI cR b adC adM 1332 [(0, .ref b), (1, .ref (adC 0)), (2, .ref (adM 0)), (3, .int (nI i))] [] σ τ := by
  obtain ⟨r, e5, e6⟩ := hst σ τ (xs (i + 1)) hrel
  refine L_aload_n (q := 1333) C dL_law_1332 rfl rfl 1 rfl ?_
  refine L_arg (j := 1) C 3 0 rfl rfl (by decide) (by omega) hL dL_law_1333 rfl dL_law_1334 rfl dL_law_1335 rfl dL_law_1336 rfl dL_law_1337 rfl ?_
  refine L_callCI (q := 1341) (As := [.int (xs (i + 1))]) (rest := []) C (c_X5_findings C.2.2.2.1 e5) ok_X5_findings kM_L_187 rfl rfl rfl ⟨Nat.le_of_ble_eq_true rfl, Nat.le_of_ble_eq_true rfl⟩ (Nat.le_of_ble_eq_true rfl) dL_law_1338 rfl ?_
  refine L_aload_n (q := 1342) C dL_law_1341 rfl rfl 2 rfl ?_
  refine L_arg (j := 1) C 3 0 rfl rfl (by decide) (by omega) hL dL_law_1342 rfl dL_law_1343 rfl dL_law_1344 rfl dL_law_1345 rfl dL_law_1346 rfl ?_
  refine L_callMI (q := 1350) (As := [.int (xs (i + 1))]) (rest := [.int r]) C (c_X6_findings C.2.2.2.2.1 e6) ok_X6_findings kM_L_190 rfl rfl rfl ⟨Nat.le_of_ble_eq_true rfl, Nat.le_of_ble_eq_true rfl⟩ (Nat.le_of_ble_eq_true rfl) dL_law_1347 rfl ?_
  exact L_eq (tgt := 1369) C dL_law_1350 (by decide) (k σ τ hrel)
set_option maxHeartbeats 4000000 in
set_option maxRecDepth 100000 in
theorem lc_digest (C : Lx p s m meth c D cI cR b L xs adC adM) {i : Nat} (hi : i + 6 ≤ L) (hL : L ≤ 3072) (hst : S_digest Rel) (hrel : Rel σ τ) (k : ∀ σ' τ' : Sg, Rel σ' τ' → Jl p l e s m below meth c D cI cR b adC adM 1369 [(0, .ref b), (1, .ref (adC 0)), (2, .ref (adM 0)), (3, .int (nI i))] [] σ' τ') : Jl p l e s m below meth c D cI cR b adC adM 1355 [(0, .ref b), (1, .ref (adC 0)), (2, .ref (adM 0)), (3, .int (nI i))] [] σ τ := by
  obtain ⟨r, e5, e6⟩ := hst σ τ  hrel
  refine L_aload_n (q := 1356) C dL_law_1355 rfl rfl 1 rfl ?_
  refine L_callCJ (q := 1359) (As := []) (rest := []) C (c_X5_digest C.2.2.2.1 e5) ok_X5_digest kM_L_191 rfl rfl rfl ⟨Nat.le_of_ble_eq_true rfl, Nat.le_of_ble_eq_true rfl⟩ (Nat.le_of_ble_eq_true rfl) dL_law_1356 rfl ?_
  refine L_aload_n (q := 1360) C dL_law_1359 rfl rfl 2 rfl ?_
  refine L_callMJ (q := 1363) (As := []) (rest := [.long r]) C (c_X6_digest C.2.2.2.2.1 e6) ok_X6_digest kM_L_194 rfl rfl rfl ⟨Nat.le_of_ble_eq_true rfl, Nat.le_of_ble_eq_true rfl⟩ (Nat.le_of_ble_eq_true rfl) dL_law_1360 rfl ?_
  exact L_lcmp (q := 1364) (tgt := 1369) C dL_law_1363 rfl dL_law_1364 (by decide) (k σ τ hrel)
end LC
