/-! THE FIFTY CASES -/
section LK
variable {p : Program} {l : Launch} {e : Env} {s : State} {m : MethodId} {b : Nat} {below : List Frame} {meth : Method} {c : Code} {g : GG} {x mm : St} {L i : Nat} {xs : Nat → Int32}
theorem law_k0 (C : Cl p m c s b g) (hX : va_X b L xs s s.heap) (hbl : b < s.heap.size) (hL : L ≤ 3072) (hi : i + 6 ≤ L) (hR : RLL x mm) (kk : ∀ x2 mm2 : St, RLL x2 mm2 → Wl p l e s m b below meth c g x2 mm2 1601 (lvL g b i) []) : Wl p l e s m b below meth c g x mm 248 (lvL g b i) [] := by
  obtain ⟨r, x2, mm2, h1, h2, h3⟩ := op_coin (xs (i + 1)) x mm hR
  refine l_aload_n C dL_248 rfl 2 rfl 249 rfl ?_
  refine l_arg C hX hbl hL (i := i) 1 (by omega) (by decide) dL_249 dL_250 dL_251 dL_252 dL_253 254 rfl ?_
  refine l_callVi (As := [.int (xs (i + 1))]) (rest := []) C (c_X3_coin l g s.heap.size x mm _ r x2 h1) (j_cwV C qc_X3_coin qm_L_13 qi_X3_coin qs_X3_coin qn_X3 hd_X3_coin ⟨rfl, rfl⟩ ⟨by decide, by decide⟩) l_recv0 rfl (Nat.le_of_ble_eq_true rfl) dL_254 257 rfl ?_
  refine l_aload_n C dL_257 rfl 1 rfl 258 rfl ?_
  refine l_arg C hX hbl hL (i := i) 1 (by omega) (by decide) dL_258 dL_259 dL_260 dL_261 dL_262 263 rfl ?_
  refine l_callVi (As := [.int (xs (i + 1))]) (rest := [.int r]) C (c_X4_coin l g s.heap.size x2 mm _ r mm2 h2) (j_cwV C qc_X4_coin qm_L_17 qi_X4_coin qs_X4_coin qn_X4 hd_X4_coin ⟨rfl, rfl⟩ ⟨by decide, by decide⟩) l_recv56 rfl (Nat.le_of_ble_eq_true rfl) dL_263 266 rfl ?_
  exact l_icmp_eq C dL_266 1601 (by decide) 269 rfl (fun _ => kk x2 mm2 h3) (fun z => absurd rfl z)
theorem law_k1 (C : Cl p m c s b g) (hX : va_X b L xs s s.heap) (hbl : b < s.heap.size) (hL : L ≤ 3072) (hi : i + 6 ≤ L) (hR : RLL x mm) (kk : ∀ x2 mm2 : St, RLL x2 mm2 → Wl p l e s m b below meth c g x2 mm2 1601 (lvL g b i) []) : Wl p l e s m b below meth c g x mm 271 (lvL g b i) [] := by
  obtain ⟨r, x2, mm2, h1, h2, h3⟩ := op_of (xs (i + 1)) (xs (i + 2)) x mm hR
  refine l_aload_n C dL_271 rfl 2 rfl 272 rfl ?_
  refine l_arg C hX hbl hL (i := i) 1 (by omega) (by decide) dL_272 dL_273 dL_274 dL_275 dL_276 277 rfl ?_
  refine l_arg C hX hbl hL (i := i) 2 (by omega) (by decide) dL_277 dL_278 dL_279 dL_280 dL_281 282 rfl ?_
  refine l_callVi (As := [.int (xs (i + 1)), .int (xs (i + 2))]) (rest := []) C (c_X3_of l g s.heap.size x mm _ _ r x2 h1) (j_cwV C qc_X3_of qm_L_18 qi_X3_of qs_X3_of qn_X3 hd_X3_of ⟨rfl, rfl⟩ ⟨by decide, by decide⟩) l_recv0 rfl (Nat.le_of_ble_eq_true rfl) dL_282 285 rfl ?_
  refine l_aload_n C dL_285 rfl 1 rfl 286 rfl ?_
  refine l_arg C hX hbl hL (i := i) 1 (by omega) (by decide) dL_286 dL_287 dL_288 dL_289 dL_290 291 rfl ?_
  refine l_arg C hX hbl hL (i := i) 2 (by omega) (by decide) dL_291 dL_292 dL_293 dL_294 dL_295 296 rfl ?_
  refine l_callVi (As := [.int (xs (i + 1)), .int (xs (i + 2))]) (rest := [.int r]) C (c_X4_of l g s.heap.size x2 mm _ _ r mm2 h2) (j_cwV C qc_X4_of qm_L_22 qi_X4_of qs_X4_of qn_X4 hd_X4_of ⟨rfl, rfl⟩ ⟨by decide, by decide⟩) l_recv56 rfl (Nat.le_of_ble_eq_true rfl) dL_296 299 rfl ?_
  exact l_icmp_eq C dL_299 1601 (by decide) 302 rfl (fun _ => kk x2 mm2 h3) (fun z => absurd rfl z)
theorem law_k2 (C : Cl p m c s b g) (hX : va_X b L xs s s.heap) (hbl : b < s.heap.size) (hL : L ≤ 3072) (hi : i + 6 ≤ L) (hR : RLL x mm) (kk : ∀ x2 mm2 : St, RLL x2 mm2 → Wl p l e s m b below meth c g x2 mm2 1601 (lvL g b i) []) : Wl p l e s m b below meth c g x mm 304 (lvL g b i) [] := by
  obtain ⟨r, x2, mm2, h1, h2, h3⟩ := op_change (xs (i + 1)) (xs (i + 2)) x mm hR
  refine l_aload_n C dL_304 rfl 2 rfl 305 rfl ?_
  refine l_arg C hX hbl hL (i := i) 1 (by omega) (by decide) dL_305 dL_306 dL_307 dL_308 dL_309 310 rfl ?_
  refine l_arg C hX hbl hL (i := i) 2 (by omega) (by decide) dL_310 dL_311 dL_312 dL_313 dL_314 315 rfl ?_
  refine l_callVi (As := [.int (xs (i + 1)), .int (xs (i + 2))]) (rest := []) C (c_X3_change l g s.heap.size x mm _ _ r x2 h1) (j_cwV C qc_X3_change qm_L_23 qi_X3_change qs_X3_change qn_X3 hd_X3_change ⟨rfl, rfl⟩ ⟨by decide, by decide⟩) l_recv0 rfl (Nat.le_of_ble_eq_true rfl) dL_315 318 rfl ?_
  refine l_aload_n C dL_318 rfl 1 rfl 319 rfl ?_
  refine l_arg C hX hbl hL (i := i) 1 (by omega) (by decide) dL_319 dL_320 dL_321 dL_322 dL_323 324 rfl ?_
  refine l_arg C hX hbl hL (i := i) 2 (by omega) (by decide) dL_324 dL_325 dL_326 dL_327 dL_328 329 rfl ?_
  refine l_callVi (As := [.int (xs (i + 1)), .int (xs (i + 2))]) (rest := [.int r]) C (c_X4_change l g s.heap.size x2 mm _ _ r mm2 h2) (j_cwV C qc_X4_change qm_L_26 qi_X4_change qs_X4_change qn_X4 hd_X4_change ⟨rfl, rfl⟩ ⟨by decide, by decide⟩) l_recv56 rfl (Nat.le_of_ble_eq_true rfl) dL_329 332 rfl ?_
  exact l_icmp_eq C dL_332 1601 (by decide) 335 rfl (fun _ => kk x2 mm2 h3) (fun z => absurd rfl z)
theorem law_k3 (C : Cl p m c s b g) (hX : va_X b L xs s s.heap) (hbl : b < s.heap.size) (hL : L ≤ 3072) (hi : i + 6 ≤ L) (hR : RLL x mm) (kk : ∀ x2 mm2 : St, RLL x2 mm2 → Wl p l e s m b below meth c g x2 mm2 1601 (lvL g b i) []) : Wl p l e s m b below meth c g x mm 337 (lvL g b i) [] := by
  obtain ⟨r, x2, mm2, h1, h2, h3⟩ := op_lay (xs (i + 1)) (xs (i + 2)) (xs (i + 3)) x mm hR
  refine l_aload_n C dL_337 rfl 2 rfl 338 rfl ?_
  refine l_arg C hX hbl hL (i := i) 1 (by omega) (by decide) dL_338 dL_339 dL_340 dL_341 dL_342 343 rfl ?_
  refine l_arg C hX hbl hL (i := i) 2 (by omega) (by decide) dL_343 dL_344 dL_345 dL_346 dL_347 348 rfl ?_
  refine l_arg C hX hbl hL (i := i) 3 (by omega) (by decide) dL_348 dL_349 dL_350 dL_351 dL_352 353 rfl ?_
  refine l_callVi (As := [.int (xs (i + 1)), .int (xs (i + 2)), .int (xs (i + 3))]) (rest := []) C (c_X3_lay l g s.heap.size x mm _ _ _ r x2 h1) (j_cwV C qc_X3_lay qm_L_27 qi_X3_lay qs_X3_lay qn_X3 hd_X3_lay ⟨rfl, rfl⟩ ⟨by decide, by decide⟩) l_recv0 rfl (Nat.le_of_ble_eq_true rfl) dL_353 356 rfl ?_
  refine l_aload_n C dL_356 rfl 1 rfl 357 rfl ?_
  refine l_arg C hX hbl hL (i := i) 1 (by omega) (by decide) dL_357 dL_358 dL_359 dL_360 dL_361 362 rfl ?_
  refine l_arg C hX hbl hL (i := i) 2 (by omega) (by decide) dL_362 dL_363 dL_364 dL_365 dL_366 367 rfl ?_
  refine l_arg C hX hbl hL (i := i) 3 (by omega) (by decide) dL_367 dL_368 dL_369 dL_370 dL_371 372 rfl ?_
  refine l_callVi (As := [.int (xs (i + 1)), .int (xs (i + 2)), .int (xs (i + 3))]) (rest := [.int r]) C (c_X4_lay l g s.heap.size x2 mm _ _ _ r mm2 h2) (j_cwV C qc_X4_lay qm_L_31 qi_X4_lay qs_X4_lay qn_X4 hd_X4_lay ⟨rfl, rfl⟩ ⟨by decide, by decide⟩) l_recv56 rfl (Nat.le_of_ble_eq_true rfl) dL_372 375 rfl ?_
  exact l_icmp_eq C dL_375 1601 (by decide) 378 rfl (fun _ => kk x2 mm2 h3) (fun z => absurd rfl z)
theorem law_k4 (C : Cl p m c s b g) (hX : va_X b L xs s s.heap) (hbl : b < s.heap.size) (hL : L ≤ 3072) (hi : i + 6 ≤ L) (hR : RLL x mm) (kk : ∀ x2 mm2 : St, RLL x2 mm2 → Wl p l e s m b below meth c g x2 mm2 1601 (lvL g b i) []) : Wl p l e s m b below meth c g x mm 380 (lvL g b i) [] := by
  obtain ⟨r, x2, mm2, h1, h2, h3⟩ := op_lift (xs (i + 1)) (xs (i + 2)) x mm hR
  refine l_aload_n C dL_380 rfl 2 rfl 381 rfl ?_
  refine l_arg C hX hbl hL (i := i) 1 (by omega) (by decide) dL_381 dL_382 dL_383 dL_384 dL_385 386 rfl ?_
  refine l_arg C hX hbl hL (i := i) 2 (by omega) (by decide) dL_386 dL_387 dL_388 dL_389 dL_390 391 rfl ?_
  refine l_callVi (As := [.int (xs (i + 1)), .int (xs (i + 2))]) (rest := []) C (c_X3_lift l g s.heap.size x mm _ _ r x2 h1) (j_cwV C qc_X3_lift qm_L_32 qi_X3_lift qs_X3_lift qn_X3 hd_X3_lift ⟨rfl, rfl⟩ ⟨by decide, by decide⟩) l_recv0 rfl (Nat.le_of_ble_eq_true rfl) dL_391 394 rfl ?_
  refine l_aload_n C dL_394 rfl 1 rfl 395 rfl ?_
  refine l_arg C hX hbl hL (i := i) 1 (by omega) (by decide) dL_395 dL_396 dL_397 dL_398 dL_399 400 rfl ?_
  refine l_arg C hX hbl hL (i := i) 2 (by omega) (by decide) dL_400 dL_401 dL_402 dL_403 dL_404 405 rfl ?_
  refine l_callVi (As := [.int (xs (i + 1)), .int (xs (i + 2))]) (rest := [.int r]) C (c_X4_lift l g s.heap.size x2 mm _ _ r mm2 h2) (j_cwV C qc_X4_lift qm_L_35 qi_X4_lift qs_X4_lift qn_X4 hd_X4_lift ⟨rfl, rfl⟩ ⟨by decide, by decide⟩) l_recv56 rfl (Nat.le_of_ble_eq_true rfl) dL_405 408 rfl ?_
  exact l_icmp_eq C dL_408 1601 (by decide) 411 rfl (fun _ => kk x2 mm2 h3) (fun z => absurd rfl z)
theorem law_k5 (C : Cl p m c s b g) (hX : va_X b L xs s s.heap) (hbl : b < s.heap.size) (hL : L ≤ 3072) (hi : i + 6 ≤ L) (hR : RLL x mm) (kk : ∀ x2 mm2 : St, RLL x2 mm2 → Wl p l e s m b below meth c g x2 mm2 1601 (lvL g b i) []) : Wl p l e s m b below meth c g x mm 413 (lvL g b i) [] := by
  obtain ⟨r, x2, mm2, h1, h2, h3⟩ := op_height (xs (i + 1)) (xs (i + 2)) x mm hR
  refine l_aload_n C dL_413 rfl 2 rfl 414 rfl ?_
  refine l_arg C hX hbl hL (i := i) 1 (by omega) (by decide) dL_414 dL_415 dL_416 dL_417 dL_418 419 rfl ?_
  refine l_arg C hX hbl hL (i := i) 2 (by omega) (by decide) dL_419 dL_420 dL_421 dL_422 dL_423 424 rfl ?_
  refine l_callVi (As := [.int (xs (i + 1)), .int (xs (i + 2))]) (rest := []) C (c_X3_height l g s.heap.size x mm _ _ r x2 h1) (j_cwV C qc_X3_height qm_L_36 qi_X3_height qs_X3_height qn_X3 hd_X3_height ⟨rfl, rfl⟩ ⟨by decide, by decide⟩) l_recv0 rfl (Nat.le_of_ble_eq_true rfl) dL_424 427 rfl ?_
  refine l_aload_n C dL_427 rfl 1 rfl 428 rfl ?_
  refine l_arg C hX hbl hL (i := i) 1 (by omega) (by decide) dL_428 dL_429 dL_430 dL_431 dL_432 433 rfl ?_
  refine l_arg C hX hbl hL (i := i) 2 (by omega) (by decide) dL_433 dL_434 dL_435 dL_436 dL_437 438 rfl ?_
  refine l_callVi (As := [.int (xs (i + 1)), .int (xs (i + 2))]) (rest := [.int r]) C (c_X4_height l g s.heap.size x2 mm _ _ r mm2 h2) (j_cwV C qc_X4_height qm_L_39 qi_X4_height qs_X4_height qn_X4 hd_X4_height ⟨rfl, rfl⟩ ⟨by decide, by decide⟩) l_recv56 rfl (Nat.le_of_ble_eq_true rfl) dL_438 441 rfl ?_
  exact l_icmp_eq C dL_441 1601 (by decide) 444 rfl (fun _ => kk x2 mm2 h3) (fun z => absurd rfl z)
theorem law_k6 (C : Cl p m c s b g) (hX : va_X b L xs s s.heap) (hbl : b < s.heap.size) (hL : L ≤ 3072) (hi : i + 6 ≤ L) (hR : RLL x mm) (kk : ∀ x2 mm2 : St, RLL x2 mm2 → Wl p l e s m b below meth c g x2 mm2 1601 (lvL g b i) []) : Wl p l e s m b below meth c g x mm 446 (lvL g b i) [] := by
  obtain ⟨r, x2, mm2, h1, h2, h3⟩ := op_seen (xs (i + 1)) (xs (i + 2)) (xs (i + 3)) x mm hR
  refine l_aload_n C dL_446 rfl 2 rfl 447 rfl ?_
  refine l_arg C hX hbl hL (i := i) 1 (by omega) (by decide) dL_447 dL_448 dL_449 dL_450 dL_451 452 rfl ?_
  refine l_arg C hX hbl hL (i := i) 2 (by omega) (by decide) dL_452 dL_453 dL_454 dL_455 dL_456 457 rfl ?_
  refine l_arg C hX hbl hL (i := i) 3 (by omega) (by decide) dL_457 dL_458 dL_459 dL_460 dL_461 462 rfl ?_
  refine l_callVi (As := [.int (xs (i + 1)), .int (xs (i + 2)), .int (xs (i + 3))]) (rest := []) C (c_X3_seen l g s.heap.size x mm _ _ _ r x2 h1) (j_cwV C qc_X3_seen qm_L_40 qi_X3_seen qs_X3_seen qn_X3 hd_X3_seen ⟨rfl, rfl⟩ ⟨by decide, by decide⟩) l_recv0 rfl (Nat.le_of_ble_eq_true rfl) dL_462 465 rfl ?_
  refine l_aload_n C dL_465 rfl 1 rfl 466 rfl ?_
  refine l_arg C hX hbl hL (i := i) 1 (by omega) (by decide) dL_466 dL_467 dL_468 dL_469 dL_470 471 rfl ?_
  refine l_arg C hX hbl hL (i := i) 2 (by omega) (by decide) dL_471 dL_472 dL_473 dL_474 dL_475 476 rfl ?_
  refine l_arg C hX hbl hL (i := i) 3 (by omega) (by decide) dL_476 dL_477 dL_478 dL_479 dL_480 481 rfl ?_
  refine l_callVi (As := [.int (xs (i + 1)), .int (xs (i + 2)), .int (xs (i + 3))]) (rest := [.int r]) C (c_X4_seen l g s.heap.size x2 mm _ _ _ r mm2 h2) (j_cwV C qc_X4_seen qm_L_43 qi_X4_seen qs_X4_seen qn_X4 hd_X4_seen ⟨rfl, rfl⟩ ⟨by decide, by decide⟩) l_recv56 rfl (Nat.le_of_ble_eq_true rfl) dL_481 484 rfl ?_
  exact l_icmp_eq C dL_484 1601 (by decide) 487 rfl (fun _ => kk x2 mm2 h3) (fun z => absurd rfl z)
theorem law_k7 (C : Cl p m c s b g) (hX : va_X b L xs s s.heap) (hbl : b < s.heap.size) (hL : L ≤ 3072) (hi : i + 6 ≤ L) (hR : RLL x mm) (kk : ∀ x2 mm2 : St, RLL x2 mm2 → Wl p l e s m b below meth c g x2 mm2 1601 (lvL g b i) []) : Wl p l e s m b below meth c g x mm 489 (lvL g b i) [] := by
  obtain ⟨r, x2, mm2, h1, h2, h3⟩ := op_set (xs (i + 1)) (xs (i + 2)) x mm hR
  refine l_aload_n C dL_489 rfl 2 rfl 490 rfl ?_
  refine l_arg C hX hbl hL (i := i) 1 (by omega) (by decide) dL_490 dL_491 dL_492 dL_493 dL_494 495 rfl ?_
  refine l_arg C hX hbl hL (i := i) 2 (by omega) (by decide) dL_495 dL_496 dL_497 dL_498 dL_499 500 rfl ?_
  refine l_callVi (As := [.int (xs (i + 1)), .int (xs (i + 2))]) (rest := []) C (c_X3_set l g s.heap.size x mm _ _ r x2 h1) (j_cwV C qc_X3_set qm_L_44 qi_X3_set qs_X3_set qn_X3 hd_X3_set ⟨rfl, rfl⟩ ⟨by decide, by decide⟩) l_recv0 rfl (Nat.le_of_ble_eq_true rfl) dL_500 503 rfl ?_
  refine l_aload_n C dL_503 rfl 1 rfl 504 rfl ?_
  refine l_arg C hX hbl hL (i := i) 1 (by omega) (by decide) dL_504 dL_505 dL_506 dL_507 dL_508 509 rfl ?_
  refine l_arg C hX hbl hL (i := i) 2 (by omega) (by decide) dL_509 dL_510 dL_511 dL_512 dL_513 514 rfl ?_
  refine l_callVi (As := [.int (xs (i + 1)), .int (xs (i + 2))]) (rest := [.int r]) C (c_X4_set l g s.heap.size x2 mm _ _ r mm2 h2) (j_cwV C qc_X4_set qm_L_47 qi_X4_set qs_X4_set qn_X4 hd_X4_set ⟨rfl, rfl⟩ ⟨by decide, by decide⟩) l_recv56 rfl (Nat.le_of_ble_eq_true rfl) dL_514 517 rfl ?_
  exact l_icmp_eq C dL_517 1601 (by decide) 520 rfl (fun _ => kk x2 mm2 h3) (fun z => absurd rfl z)
theorem law_k8 (C : Cl p m c s b g) (hX : va_X b L xs s s.heap) (hbl : b < s.heap.size) (hL : L ≤ 3072) (hi : i + 6 ≤ L) (hR : RLL x mm) (kk : ∀ x2 mm2 : St, RLL x2 mm2 → Wl p l e s m b below meth c g x2 mm2 1601 (lvL g b i) []) : Wl p l e s m b below meth c g x mm 522 (lvL g b i) [] := by
  obtain ⟨r, x2, mm2, h1, h2, h3⟩ := op_drop (xs (i + 1)) (xs (i + 2)) x mm hR
  refine l_aload_n C dL_522 rfl 2 rfl 523 rfl ?_
  refine l_arg C hX hbl hL (i := i) 1 (by omega) (by decide) dL_523 dL_524 dL_525 dL_526 dL_527 528 rfl ?_
  refine l_arg C hX hbl hL (i := i) 2 (by omega) (by decide) dL_528 dL_529 dL_530 dL_531 dL_532 533 rfl ?_
  refine l_callVi (As := [.int (xs (i + 1)), .int (xs (i + 2))]) (rest := []) C (c_X3_drop l g s.heap.size x mm _ _ r x2 h1) (j_cwV C qc_X3_drop qm_L_48 qi_X3_drop qs_X3_drop qn_X3 hd_X3_drop ⟨rfl, rfl⟩ ⟨by decide, by decide⟩) l_recv0 rfl (Nat.le_of_ble_eq_true rfl) dL_533 536 rfl ?_
  refine l_aload_n C dL_536 rfl 1 rfl 537 rfl ?_
  refine l_arg C hX hbl hL (i := i) 1 (by omega) (by decide) dL_537 dL_538 dL_539 dL_540 dL_541 542 rfl ?_
  refine l_arg C hX hbl hL (i := i) 2 (by omega) (by decide) dL_542 dL_543 dL_544 dL_545 dL_546 547 rfl ?_
  refine l_callVi (As := [.int (xs (i + 1)), .int (xs (i + 2))]) (rest := [.int r]) C (c_X4_drop l g s.heap.size x2 mm _ _ r mm2 h2) (j_cwV C qc_X4_drop qm_L_51 qi_X4_drop qs_X4_drop qn_X4 hd_X4_drop ⟨rfl, rfl⟩ ⟨by decide, by decide⟩) l_recv56 rfl (Nat.le_of_ble_eq_true rfl) dL_547 550 rfl ?_
  exact l_icmp_eq C dL_550 1601 (by decide) 553 rfl (fun _ => kk x2 mm2 h3) (fun z => absurd rfl z)
theorem law_k9 (C : Cl p m c s b g) (hX : va_X b L xs s s.heap) (hbl : b < s.heap.size) (hL : L ≤ 3072) (hi : i + 6 ≤ L) (hR : RLL x mm) (kk : ∀ x2 mm2 : St, RLL x2 mm2 → Wl p l e s m b below meth c g x2 mm2 1601 (lvL g b i) []) : Wl p l e s m b below meth c g x mm 555 (lvL g b i) [] := by
  obtain ⟨r, x2, mm2, h1, h2, h3⟩ := op_beats (xs (i + 1)) x mm hR
  refine l_aload_n C dL_555 rfl 2 rfl 556 rfl ?_
  refine l_arg C hX hbl hL (i := i) 1 (by omega) (by decide) dL_556 dL_557 dL_558 dL_559 dL_560 561 rfl ?_
  refine l_callVi (As := [.int (xs (i + 1))]) (rest := []) C (c_X3_beats l g s.heap.size x mm _ r x2 h1) (j_cwV C qc_X3_beats qm_L_52 qi_X3_beats qs_X3_beats qn_X3 hd_X3_beats ⟨rfl, rfl⟩ ⟨by decide, by decide⟩) l_recv0 rfl (Nat.le_of_ble_eq_true rfl) dL_561 564 rfl ?_
  refine l_aload_n C dL_564 rfl 1 rfl 565 rfl ?_
  refine l_arg C hX hbl hL (i := i) 1 (by omega) (by decide) dL_565 dL_566 dL_567 dL_568 dL_569 570 rfl ?_
  refine l_callVi (As := [.int (xs (i + 1))]) (rest := [.int r]) C (c_X4_beats l g s.heap.size x2 mm _ r mm2 h2) (j_cwV C qc_X4_beats qm_L_55 qi_X4_beats qs_X4_beats qn_X4 hd_X4_beats ⟨rfl, rfl⟩ ⟨by decide, by decide⟩) l_recv56 rfl (Nat.le_of_ble_eq_true rfl) dL_570 573 rfl ?_
  exact l_icmp_eq C dL_573 1601 (by decide) 576 rfl (fun _ => kk x2 mm2 h3) (fun z => absurd rfl z)
theorem law_k10 (C : Cl p m c s b g) (hX : va_X b L xs s s.heap) (hbl : b < s.heap.size) (hL : L ≤ 3072) (hi : i + 6 ≤ L) (hR : RLL x mm) (kk : ∀ x2 mm2 : St, RLL x2 mm2 → Wl p l e s m b below meth c g x2 mm2 1601 (lvL g b i) []) : Wl p l e s m b below meth c g x mm 578 (lvL g b i) [] := by
  obtain ⟨r, x2, mm2, h1, h2, h3⟩ := op_now (xs (i + 1)) x mm hR
  refine l_aload_n C dL_578 rfl 2 rfl 579 rfl ?_
  refine l_arg C hX hbl hL (i := i) 1 (by omega) (by decide) dL_579 dL_580 dL_581 dL_582 dL_583 584 rfl ?_
  refine l_callVi (As := [.int (xs (i + 1))]) (rest := []) C (c_X3_now l g s.heap.size x mm _ r x2 h1) (j_cwV C qc_X3_now qm_L_56 qi_X3_now qs_X3_now qn_X3 hd_X3_now ⟨rfl, rfl⟩ ⟨by decide, by decide⟩) l_recv0 rfl (Nat.le_of_ble_eq_true rfl) dL_584 587 rfl ?_
  refine l_aload_n C dL_587 rfl 1 rfl 588 rfl ?_
  refine l_arg C hX hbl hL (i := i) 1 (by omega) (by decide) dL_588 dL_589 dL_590 dL_591 dL_592 593 rfl ?_
  refine l_callVi (As := [.int (xs (i + 1))]) (rest := [.int r]) C (c_X4_now l g s.heap.size x2 mm _ r mm2 h2) (j_cwV C qc_X4_now qm_L_59 qi_X4_now qs_X4_now qn_X4 hd_X4_now ⟨rfl, rfl⟩ ⟨by decide, by decide⟩) l_recv56 rfl (Nat.le_of_ble_eq_true rfl) dL_593 596 rfl ?_
  exact l_icmp_eq C dL_596 1601 (by decide) 599 rfl (fun _ => kk x2 mm2 h3) (fun z => absurd rfl z)
theorem law_k11 (C : Cl p m c s b g) (hX : va_X b L xs s s.heap) (hbl : b < s.heap.size) (hL : L ≤ 3072) (hi : i + 6 ≤ L) (hR : RLL x mm) (kk : ∀ x2 mm2 : St, RLL x2 mm2 → Wl p l e s m b below meth c g x2 mm2 1601 (lvL g b i) []) : Wl p l e s m b below meth c g x mm 601 (lvL g b i) [] := by
  obtain ⟨r, x2, mm2, h1, h2, h3⟩ := op_run (xs (i + 1)) x mm hR
  refine l_aload_n C dL_601 rfl 2 rfl 602 rfl ?_
  refine l_arg C hX hbl hL (i := i) 1 (by omega) (by decide) dL_602 dL_603 dL_604 dL_605 dL_606 607 rfl ?_
  refine l_callVi (As := [.int (xs (i + 1))]) (rest := []) C (c_X3_run l g s.heap.size x mm _ r x2 h1) (j_cwV C qc_X3_run qm_L_60 qi_X3_run qs_X3_run qn_X3 hd_X3_run ⟨rfl, rfl⟩ ⟨by decide, by decide⟩) l_recv0 rfl (Nat.le_of_ble_eq_true rfl) dL_607 610 rfl ?_
  refine l_aload_n C dL_610 rfl 1 rfl 611 rfl ?_
  refine l_arg C hX hbl hL (i := i) 1 (by omega) (by decide) dL_611 dL_612 dL_613 dL_614 dL_615 616 rfl ?_
  refine l_callVi (As := [.int (xs (i + 1))]) (rest := [.int r]) C (c_X4_run l g s.heap.size x2 mm _ r mm2 h2) (j_cwV C qc_X4_run qm_L_63 qi_X4_run qs_X4_run qn_X4 hd_X4_run ⟨rfl, rfl⟩ ⟨by decide, by decide⟩) l_recv56 rfl (Nat.le_of_ble_eq_true rfl) dL_616 619 rfl ?_
  exact l_icmp_eq C dL_619 1601 (by decide) 622 rfl (fun _ => kk x2 mm2 h3) (fun z => absurd rfl z)
theorem law_k12 (C : Cl p m c s b g) (hX : va_X b L xs s s.heap) (hbl : b < s.heap.size) (hL : L ≤ 3072) (hi : i + 6 ≤ L) (hR : RLL x mm) (kk : ∀ x2 mm2 : St, RLL x2 mm2 → Wl p l e s m b below meth c g x2 mm2 1601 (lvL g b i) []) : Wl p l e s m b below meth c g x mm 624 (lvL g b i) [] := by
  obtain ⟨r, x2, mm2, h1, h2, h3⟩ := op_weight (xs (i + 1)) x mm hR
  refine l_aload_n C dL_624 rfl 2 rfl 625 rfl ?_
  refine l_arg C hX hbl hL (i := i) 1 (by omega) (by decide) dL_625 dL_626 dL_627 dL_628 dL_629 630 rfl ?_
  refine l_callVi (As := [.int (xs (i + 1))]) (rest := []) C (c_X3_weight l g s.heap.size x mm _ r x2 h1) (j_cwV C qc_X3_weight qm_L_64 qi_X3_weight qs_X3_weight qn_X3 hd_X3_weight ⟨rfl, rfl⟩ ⟨by decide, by decide⟩) l_recv0 rfl (Nat.le_of_ble_eq_true rfl) dL_630 633 rfl ?_
  refine l_aload_n C dL_633 rfl 1 rfl 634 rfl ?_
  refine l_arg C hX hbl hL (i := i) 1 (by omega) (by decide) dL_634 dL_635 dL_636 dL_637 dL_638 639 rfl ?_
  refine l_callVi (As := [.int (xs (i + 1))]) (rest := [.int r]) C (c_X4_weight l g s.heap.size x2 mm _ r mm2 h2) (j_cwV C qc_X4_weight qm_L_67 qi_X4_weight qs_X4_weight qn_X4 hd_X4_weight ⟨rfl, rfl⟩ ⟨by decide, by decide⟩) l_recv56 rfl (Nat.le_of_ble_eq_true rfl) dL_639 642 rfl ?_
  exact l_icmp_eq C dL_642 1601 (by decide) 645 rfl (fun _ => kk x2 mm2 h3) (fun z => absurd rfl z)
theorem law_k13 (C : Cl p m c s b g) (hX : va_X b L xs s s.heap) (hbl : b < s.heap.size) (hL : L ≤ 3072) (hi : i + 6 ≤ L) (hR : RLL x mm) (kk : ∀ x2 mm2 : St, RLL x2 mm2 → Wl p l e s m b below meth c g x2 mm2 1601 (lvL g b i) []) : Wl p l e s m b below meth c g x mm 647 (lvL g b i) [] := by
  obtain ⟨r, h1, h2⟩ := op_moved  x mm hR
  refine l_aload_n C dL_647 rfl 2 rfl 648 rfl ?_
  refine l_callVi (As := []) (rest := []) C (c_X3_moved l g s.heap.size x mm  r h1) (j_cwV C qc_X3_moved qm_L_68 qi_X3_moved qs_X3_moved qn_X3 hd_X3_moved ⟨rfl, rfl⟩ ⟨by decide, by decide⟩) l_recv0 rfl (Nat.le_of_ble_eq_true rfl) dL_648 651 rfl ?_
  refine l_aload_n C dL_651 rfl 1 rfl 652 rfl ?_
  refine l_callVi (As := []) (rest := [.int r]) C (c_X4_moved l g s.heap.size x mm  r h2) (j_cwV C qc_X4_moved qm_L_72 qi_X4_moved qs_X4_moved qn_X4 hd_X4_moved ⟨rfl, rfl⟩ ⟨by decide, by decide⟩) l_recv56 rfl (Nat.le_of_ble_eq_true rfl) dL_652 655 rfl ?_
  exact l_icmp_eq C dL_655 1601 (by decide) 658 rfl (fun _ => kk x mm hR) (fun z => absurd rfl z)
theorem law_k14 (C : Cl p m c s b g) (hX : va_X b L xs s s.heap) (hbl : b < s.heap.size) (hL : L ≤ 3072) (hi : i + 6 ≤ L) (hR : RLL x mm) (kk : ∀ x2 mm2 : St, RLL x2 mm2 → Wl p l e s m b below meth c g x2 mm2 1601 (lvL g b i) []) : Wl p l e s m b below meth c g x mm 660 (lvL g b i) [] := by
  obtain ⟨r, h1, h2⟩ := op_leaning  x mm hR
  refine l_aload_n C dL_660 rfl 2 rfl 661 rfl ?_
  refine l_callVi (As := []) (rest := []) C (c_X3_leaning l g s.heap.size x mm  r h1) (j_cwV C qc_X3_leaning qm_L_73 qi_X3_leaning qs_X3_leaning qn_X3 hd_X3_leaning ⟨rfl, rfl⟩ ⟨by decide, by decide⟩) l_recv0 rfl (Nat.le_of_ble_eq_true rfl) dL_661 664 rfl ?_
  refine l_aload_n C dL_664 rfl 1 rfl 665 rfl ?_
  refine l_callVi (As := []) (rest := [.int r]) C (c_X4_leaning l g s.heap.size x mm  r h2) (j_cwV C qc_X4_leaning qm_L_76 qi_X4_leaning qs_X4_leaning qn_X4 hd_X4_leaning ⟨rfl, rfl⟩ ⟨by decide, by decide⟩) l_recv56 rfl (Nat.le_of_ble_eq_true rfl) dL_665 668 rfl ?_
  exact l_icmp_eq C dL_668 1601 (by decide) 671 rfl (fun _ => kk x mm hR) (fun z => absurd rfl z)
theorem law_k15 (C : Cl p m c s b g) (hX : va_X b L xs s s.heap) (hbl : b < s.heap.size) (hL : L ≤ 3072) (hi : i + 6 ≤ L) (hR : RLL x mm) (kk : ∀ x2 mm2 : St, RLL x2 mm2 → Wl p l e s m b below meth c g x2 mm2 1601 (lvL g b i) []) : Wl p l e s m b below meth c g x mm 673 (lvL g b i) [] := by
  obtain ⟨r, x2, mm2, h1, h2, h3⟩ := op_ahead (xs (i + 1)) (xs (i + 2)) x mm hR
  refine l_aload_n C dL_673 rfl 2 rfl 674 rfl ?_
  refine l_arg C hX hbl hL (i := i) 1 (by omega) (by decide) dL_674 dL_675 dL_676 dL_677 dL_678 679 rfl ?_
  refine l_arg C hX hbl hL (i := i) 2 (by omega) (by decide) dL_679 dL_680 dL_681 dL_682 dL_683 684 rfl ?_
  refine l_callVi (As := [.int (xs (i + 1)), .int (xs (i + 2))]) (rest := []) C (c_X3_ahead l g s.heap.size x mm _ _ r x2 h1) (j_cwV C qc_X3_ahead qm_L_77 qi_X3_ahead qs_X3_ahead qn_X3 hd_X3_ahead ⟨rfl, rfl⟩ ⟨by decide, by decide⟩) l_recv0 rfl (Nat.le_of_ble_eq_true rfl) dL_684 687 rfl ?_
  refine l_aload_n C dL_687 rfl 1 rfl 688 rfl ?_
  refine l_arg C hX hbl hL (i := i) 1 (by omega) (by decide) dL_688 dL_689 dL_690 dL_691 dL_692 693 rfl ?_
  refine l_arg C hX hbl hL (i := i) 2 (by omega) (by decide) dL_693 dL_694 dL_695 dL_696 dL_697 698 rfl ?_
  refine l_callVi (As := [.int (xs (i + 1)), .int (xs (i + 2))]) (rest := [.int r]) C (c_X4_ahead l g s.heap.size x2 mm _ _ r mm2 h2) (j_cwV C qc_X4_ahead qm_L_80 qi_X4_ahead qs_X4_ahead qn_X4 hd_X4_ahead ⟨rfl, rfl⟩ ⟨by decide, by decide⟩) l_recv56 rfl (Nat.le_of_ble_eq_true rfl) dL_698 701 rfl ?_
  exact l_icmp_eq C dL_701 1601 (by decide) 704 rfl (fun _ => kk x2 mm2 h3) (fun z => absurd rfl z)
theorem law_k16 (C : Cl p m c s b g) (hX : va_X b L xs s s.heap) (hbl : b < s.heap.size) (hL : L ≤ 3072) (hi : i + 6 ≤ L) (hR : RLL x mm) (kk : ∀ x2 mm2 : St, RLL x2 mm2 → Wl p l e s m b below meth c g x2 mm2 1601 (lvL g b i) []) : Wl p l e s m b below meth c g x mm 706 (lvL g b i) [] := by
  obtain ⟨r, x2, mm2, h1, h2, h3⟩ := op_falls (xs (i + 1)) x mm hR
  refine l_aload_n C dL_706 rfl 2 rfl 707 rfl ?_
  refine l_arg C hX hbl hL (i := i) 1 (by omega) (by decide) dL_707 dL_708 dL_709 dL_710 dL_711 712 rfl ?_
  refine l_callVi (As := [.int (xs (i + 1))]) (rest := []) C (c_X3_falls l g s.heap.size x mm _ r x2 h1) (j_cwV C qc_X3_falls qm_L_81 qi_X3_falls qs_X3_falls qn_X3 hd_X3_falls ⟨rfl, rfl⟩ ⟨by decide, by decide⟩) l_recv0 rfl (Nat.le_of_ble_eq_true rfl) dL_712 715 rfl ?_
  refine l_aload_n C dL_715 rfl 1 rfl 716 rfl ?_
  refine l_arg C hX hbl hL (i := i) 1 (by omega) (by decide) dL_716 dL_717 dL_718 dL_719 dL_720 721 rfl ?_
  refine l_callVi (As := [.int (xs (i + 1))]) (rest := [.int r]) C (c_X4_falls l g s.heap.size x2 mm _ r mm2 h2) (j_cwV C qc_X4_falls qm_L_84 qi_X4_falls qs_X4_falls qn_X4 hd_X4_falls ⟨rfl, rfl⟩ ⟨by decide, by decide⟩) l_recv56 rfl (Nat.le_of_ble_eq_true rfl) dL_721 724 rfl ?_
  exact l_icmp_eq C dL_724 1601 (by decide) 727 rfl (fun _ => kk x2 mm2 h3) (fun z => absurd rfl z)
theorem law_k17 (C : Cl p m c s b g) (hX : va_X b L xs s s.heap) (hbl : b < s.heap.size) (hL : L ≤ 3072) (hi : i + 6 ≤ L) (hR : RLL x mm) (kk : ∀ x2 mm2 : St, RLL x2 mm2 → Wl p l e s m b below meth c g x2 mm2 1601 (lvL g b i) []) : Wl p l e s m b below meth c g x mm 729 (lvL g b i) [] := by
  obtain ⟨r, x2, mm2, h1, h2, h3⟩ := op_rest  x mm hR
  refine l_aload_n C dL_729 rfl 2 rfl 730 rfl ?_
  refine l_callVi (As := []) (rest := []) C (c_X3_rest l g s.heap.size x mm  r x2 h1) (j_cwV C qc_X3_rest qm_L_85 qi_X3_rest qs_X3_rest qn_X3 hd_X3_rest ⟨rfl, rfl⟩ ⟨by decide, by decide⟩) l_recv0 rfl (Nat.le_of_ble_eq_true rfl) dL_730 733 rfl ?_
  refine l_aload_n C dL_733 rfl 1 rfl 734 rfl ?_
  refine l_callVi (As := []) (rest := [.int r]) C (c_X4_rest l g s.heap.size x2 mm  r mm2 h2) (j_cwV C qc_X4_rest qm_L_88 qi_X4_rest qs_X4_rest qn_X4 hd_X4_rest ⟨rfl, rfl⟩ ⟨by decide, by decide⟩) l_recv56 rfl (Nat.le_of_ble_eq_true rfl) dL_734 737 rfl ?_
  exact l_icmp_eq C dL_737 1601 (by decide) 740 rfl (fun _ => kk x2 mm2 h3) (fun z => absurd rfl z)
theorem law_k18 (C : Cl p m c s b g) (hX : va_X b L xs s s.heap) (hbl : b < s.heap.size) (hL : L ≤ 3072) (hi : i + 6 ≤ L) (hR : RLL x mm) (kk : ∀ x2 mm2 : St, RLL x2 mm2 → Wl p l e s m b below meth c g x2 mm2 1601 (lvL g b i) []) : Wl p l e s m b below meth c g x mm 742 (lvL g b i) [] := by
  obtain ⟨r, x2, mm2, h1, h2, h3⟩ := op_brings (xs (i + 1)) (xs (i + 2)) (xs (i + 3)) x mm hR
  refine l_aload_n C dL_742 rfl 2 rfl 743 rfl ?_
  refine l_arg C hX hbl hL (i := i) 1 (by omega) (by decide) dL_743 dL_744 dL_745 dL_746 dL_747 748 rfl ?_
  refine l_arg C hX hbl hL (i := i) 2 (by omega) (by decide) dL_748 dL_749 dL_750 dL_751 dL_752 753 rfl ?_
  refine l_arg C hX hbl hL (i := i) 3 (by omega) (by decide) dL_753 dL_754 dL_755 dL_756 dL_757 758 rfl ?_
  refine l_callVi (As := [.int (xs (i + 1)), .int (xs (i + 2)), .int (xs (i + 3))]) (rest := []) C (c_X3_brings l g s.heap.size x mm _ _ _ r x2 h1) (j_cwV C qc_X3_brings qm_L_89 qi_X3_brings qs_X3_brings qn_X3 hd_X3_brings ⟨rfl, rfl⟩ ⟨by decide, by decide⟩) l_recv0 rfl (Nat.le_of_ble_eq_true rfl) dL_758 761 rfl ?_
  refine l_aload_n C dL_761 rfl 1 rfl 762 rfl ?_
  refine l_arg C hX hbl hL (i := i) 1 (by omega) (by decide) dL_762 dL_763 dL_764 dL_765 dL_766 767 rfl ?_
  refine l_arg C hX hbl hL (i := i) 2 (by omega) (by decide) dL_767 dL_768 dL_769 dL_770 dL_771 772 rfl ?_
  refine l_arg C hX hbl hL (i := i) 3 (by omega) (by decide) dL_772 dL_773 dL_774 dL_775 dL_776 777 rfl ?_
  refine l_callVi (As := [.int (xs (i + 1)), .int (xs (i + 2)), .int (xs (i + 3))]) (rest := [.int r]) C (c_X4_brings l g s.heap.size x2 mm _ _ _ r mm2 h2) (j_cwV C qc_X4_brings qm_L_92 qi_X4_brings qs_X4_brings qn_X4 hd_X4_brings ⟨rfl, rfl⟩ ⟨by decide, by decide⟩) l_recv56 rfl (Nat.le_of_ble_eq_true rfl) dL_777 780 rfl ?_
  exact l_icmp_eq C dL_780 1601 (by decide) 783 rfl (fun _ => kk x2 mm2 h3) (fun z => absurd rfl z)
theorem law_k19 (C : Cl p m c s b g) (hX : va_X b L xs s s.heap) (hbl : b < s.heap.size) (hL : L ≤ 3072) (hi : i + 6 ≤ L) (hR : RLL x mm) (kk : ∀ x2 mm2 : St, RLL x2 mm2 → Wl p l e s m b below meth c g x2 mm2 1601 (lvL g b i) []) : Wl p l e s m b below meth c g x mm 785 (lvL g b i) [] := by
  obtain ⟨r, x2, mm2, h1, h2, h3⟩ := op_best (xs (i + 1)) (xs (i + 2)) x mm hR
  refine l_aload_n C dL_785 rfl 2 rfl 786 rfl ?_
  refine l_arg C hX hbl hL (i := i) 1 (by omega) (by decide) dL_786 dL_787 dL_788 dL_789 dL_790 791 rfl ?_
  refine l_arg C hX hbl hL (i := i) 2 (by omega) (by decide) dL_791 dL_792 dL_793 dL_794 dL_795 796 rfl ?_
  refine l_callVi (As := [.int (xs (i + 1)), .int (xs (i + 2))]) (rest := []) C (c_X3_best l g s.heap.size x mm _ _ r x2 h1) (j_cwV C qc_X3_best qm_L_93 qi_X3_best qs_X3_best qn_X3 hd_X3_best ⟨rfl, rfl⟩ ⟨by decide, by decide⟩) l_recv0 rfl (Nat.le_of_ble_eq_true rfl) dL_796 799 rfl ?_
  refine l_aload_n C dL_799 rfl 1 rfl 800 rfl ?_
  refine l_arg C hX hbl hL (i := i) 1 (by omega) (by decide) dL_800 dL_801 dL_802 dL_803 dL_804 805 rfl ?_
  refine l_arg C hX hbl hL (i := i) 2 (by omega) (by decide) dL_805 dL_806 dL_807 dL_808 dL_809 810 rfl ?_
  refine l_callVi (As := [.int (xs (i + 1)), .int (xs (i + 2))]) (rest := [.int r]) C (c_X4_best l g s.heap.size x2 mm _ _ r mm2 h2) (j_cwV C qc_X4_best qm_L_96 qi_X4_best qs_X4_best qn_X4 hd_X4_best ⟨rfl, rfl⟩ ⟨by decide, by decide⟩) l_recv56 rfl (Nat.le_of_ble_eq_true rfl) dL_810 813 rfl ?_
  exact l_icmp_eq C dL_813 1601 (by decide) 816 rfl (fun _ => kk x2 mm2 h3) (fun z => absurd rfl z)
theorem law_k20 (C : Cl p m c s b g) (hX : va_X b L xs s s.heap) (hbl : b < s.heap.size) (hL : L ≤ 3072) (hi : i + 6 ≤ L) (hR : RLL x mm) (kk : ∀ x2 mm2 : St, RLL x2 mm2 → Wl p l e s m b below meth c g x2 mm2 1601 (lvL g b i) []) : Wl p l e s m b below meth c g x mm 818 (lvL g b i) [] := by
  obtain ⟨r, x2, mm2, h1, h2, h3⟩ := op_wait (xs (i + 1)) (xs (i + 2)) x mm hR
  refine l_aload_n C dL_818 rfl 2 rfl 819 rfl ?_
  refine l_arg C hX hbl hL (i := i) 1 (by omega) (by decide) dL_819 dL_820 dL_821 dL_822 dL_823 824 rfl ?_
  refine l_arg C hX hbl hL (i := i) 2 (by omega) (by decide) dL_824 dL_825 dL_826 dL_827 dL_828 829 rfl ?_
  refine l_callVi (As := [.int (xs (i + 1)), .int (xs (i + 2))]) (rest := []) C (c_X3_wait l g s.heap.size x mm _ _ r x2 h1) (j_cwV C qc_X3_wait qm_L_97 qi_X3_wait qs_X3_wait qn_X3 hd_X3_wait ⟨rfl, rfl⟩ ⟨by decide, by decide⟩) l_recv0 rfl (Nat.le_of_ble_eq_true rfl) dL_829 832 rfl ?_
  refine l_aload_n C dL_832 rfl 1 rfl 833 rfl ?_
  refine l_arg C hX hbl hL (i := i) 1 (by omega) (by decide) dL_833 dL_834 dL_835 dL_836 dL_837 838 rfl ?_
  refine l_arg C hX hbl hL (i := i) 2 (by omega) (by decide) dL_838 dL_839 dL_840 dL_841 dL_842 843 rfl ?_
  refine l_callVi (As := [.int (xs (i + 1)), .int (xs (i + 2))]) (rest := [.int r]) C (c_X4_wait l g s.heap.size x2 mm _ _ r mm2 h2) (j_cwV C qc_X4_wait qm_L_100 qi_X4_wait qs_X4_wait qn_X4 hd_X4_wait ⟨rfl, rfl⟩ ⟨by decide, by decide⟩) l_recv56 rfl (Nat.le_of_ble_eq_true rfl) dL_843 846 rfl ?_
  exact l_icmp_eq C dL_846 1601 (by decide) 849 rfl (fun _ => kk x2 mm2 h3) (fun z => absurd rfl z)
theorem law_k21 (C : Cl p m c s b g) (hX : va_X b L xs s s.heap) (hbl : b < s.heap.size) (hL : L ≤ 3072) (hi : i + 6 ≤ L) (hR : RLL x mm) (kk : ∀ x2 mm2 : St, RLL x2 mm2 → Wl p l e s m b below meth c g x2 mm2 1601 (lvL g b i) []) : Wl p l e s m b below meth c g x mm 851 (lvL g b i) [] := by
  obtain ⟨r, x2, mm2, h1, h2, h3⟩ := op_three (xs (i + 1)) x mm hR
  refine l_aload_n C dL_851 rfl 2 rfl 852 rfl ?_
  refine l_arg C hX hbl hL (i := i) 1 (by omega) (by decide) dL_852 dL_853 dL_854 dL_855 dL_856 857 rfl ?_
  refine l_callVi (As := [.int (xs (i + 1))]) (rest := []) C (c_X3_three l g s.heap.size x mm _ r x2 h1) (j_cwV C qc_X3_three qm_L_101 qi_X3_three qs_X3_three qn_X3 hd_X3_three ⟨rfl, rfl⟩ ⟨by decide, by decide⟩) l_recv0 rfl (Nat.le_of_ble_eq_true rfl) dL_857 860 rfl ?_
  refine l_aload_n C dL_860 rfl 1 rfl 861 rfl ?_
  refine l_arg C hX hbl hL (i := i) 1 (by omega) (by decide) dL_861 dL_862 dL_863 dL_864 dL_865 866 rfl ?_
  refine l_callVi (As := [.int (xs (i + 1))]) (rest := [.int r]) C (c_X4_three l g s.heap.size x2 mm _ r mm2 h2) (j_cwV C qc_X4_three qm_L_104 qi_X4_three qs_X4_three qn_X4 hd_X4_three ⟨rfl, rfl⟩ ⟨by decide, by decide⟩) l_recv56 rfl (Nat.le_of_ble_eq_true rfl) dL_866 869 rfl ?_
  exact l_icmp_eq C dL_869 1601 (by decide) 872 rfl (fun _ => kk x2 mm2 h3) (fun z => absurd rfl z)
theorem law_k22 (C : Cl p m c s b g) (hX : va_X b L xs s s.heap) (hbl : b < s.heap.size) (hL : L ≤ 3072) (hi : i + 6 ≤ L) (hR : RLL x mm) (kk : ∀ x2 mm2 : St, RLL x2 mm2 → Wl p l e s m b below meth c g x2 mm2 1601 (lvL g b i) []) : Wl p l e s m b below meth c g x mm 874 (lvL g b i) [] := by
  obtain ⟨r, x2, mm2, h1, h2, h3⟩ := op_threeBring (xs (i + 1)) x mm hR
  refine l_aload_n C dL_874 rfl 2 rfl 875 rfl ?_
  refine l_arg C hX hbl hL (i := i) 1 (by omega) (by decide) dL_875 dL_876 dL_877 dL_878 dL_879 880 rfl ?_
  refine l_callVi (As := [.int (xs (i + 1))]) (rest := []) C (c_X3_threeBring l g s.heap.size x mm _ r x2 h1) (j_cwV C qc_X3_threeBring qm_L_105 qi_X3_threeBring qs_X3_threeBring qn_X3 hd_X3_threeBring ⟨rfl, rfl⟩ ⟨by decide, by decide⟩) l_recv0 rfl (Nat.le_of_ble_eq_true rfl) dL_880 883 rfl ?_
  refine l_aload_n C dL_883 rfl 1 rfl 884 rfl ?_
  refine l_arg C hX hbl hL (i := i) 1 (by omega) (by decide) dL_884 dL_885 dL_886 dL_887 dL_888 889 rfl ?_
  refine l_callVi (As := [.int (xs (i + 1))]) (rest := [.int r]) C (c_X4_threeBring l g s.heap.size x2 mm _ r mm2 h2) (j_cwV C qc_X4_threeBring qm_L_108 qi_X4_threeBring qs_X4_threeBring qn_X4 hd_X4_threeBring ⟨rfl, rfl⟩ ⟨by decide, by decide⟩) l_recv56 rfl (Nat.le_of_ble_eq_true rfl) dL_889 892 rfl ?_
  exact l_icmp_eq C dL_892 1601 (by decide) 895 rfl (fun _ => kk x2 mm2 h3) (fun z => absurd rfl z)
theorem law_k23 (C : Cl p m c s b g) (hX : va_X b L xs s s.heap) (hbl : b < s.heap.size) (hL : L ≤ 3072) (hi : i + 6 ≤ L) (hR : RLL x mm) (kk : ∀ x2 mm2 : St, RLL x2 mm2 → Wl p l e s m b below meth c g x2 mm2 1601 (lvL g b i) []) : Wl p l e s m b below meth c g x mm 897 (lvL g b i) [] := by
  obtain ⟨r, x2, mm2, h1, h2, h3⟩ := op_soonest (xs (i + 1)) x mm hR
  refine l_aload_n C dL_897 rfl 2 rfl 898 rfl ?_
  refine l_arg C hX hbl hL (i := i) 1 (by omega) (by decide) dL_898 dL_899 dL_900 dL_901 dL_902 903 rfl ?_
  refine l_callVi (As := [.int (xs (i + 1))]) (rest := []) C (c_X3_soonest l g s.heap.size x mm _ r x2 h1) (j_cwV C qc_X3_soonest qm_L_109 qi_X3_soonest qs_X3_soonest qn_X3 hd_X3_soonest ⟨rfl, rfl⟩ ⟨by decide, by decide⟩) l_recv0 rfl (Nat.le_of_ble_eq_true rfl) dL_903 906 rfl ?_
  refine l_aload_n C dL_906 rfl 1 rfl 907 rfl ?_
  refine l_arg C hX hbl hL (i := i) 1 (by omega) (by decide) dL_907 dL_908 dL_909 dL_910 dL_911 912 rfl ?_
  refine l_callVi (As := [.int (xs (i + 1))]) (rest := [.int r]) C (c_X4_soonest l g s.heap.size x2 mm _ r mm2 h2) (j_cwV C qc_X4_soonest qm_L_112 qi_X4_soonest qs_X4_soonest qn_X4 hd_X4_soonest ⟨rfl, rfl⟩ ⟨by decide, by decide⟩) l_recv56 rfl (Nat.le_of_ble_eq_true rfl) dL_912 915 rfl ?_
  exact l_icmp_eq C dL_915 1601 (by decide) 918 rfl (fun _ => kk x2 mm2 h3) (fun z => absurd rfl z)
theorem law_k24 (C : Cl p m c s b g) (hX : va_X b L xs s s.heap) (hbl : b < s.heap.size) (hL : L ≤ 3072) (hi : i + 6 ≤ L) (hR : RLL x mm) (kk : ∀ x2 mm2 : St, RLL x2 mm2 → Wl p l e s m b below meth c g x2 mm2 1601 (lvL g b i) []) : Wl p l e s m b below meth c g x mm 920 (lvL g b i) [] := by
  obtain ⟨r, x2, mm2, h1, h2, h3⟩ := op_firstFor (xs (i + 1)) x mm hR
  refine l_aload_n C dL_920 rfl 2 rfl 921 rfl ?_
  refine l_arg C hX hbl hL (i := i) 1 (by omega) (by decide) dL_921 dL_922 dL_923 dL_924 dL_925 926 rfl ?_
  refine l_callVi (As := [.int (xs (i + 1))]) (rest := []) C (c_X3_firstFor l g s.heap.size x mm _ r x2 h1) (j_cwV C qc_X3_firstFor qm_L_113 qi_X3_firstFor qs_X3_firstFor qn_X3 hd_X3_firstFor ⟨rfl, rfl⟩ ⟨by decide, by decide⟩) l_recv0 rfl (Nat.le_of_ble_eq_true rfl) dL_926 929 rfl ?_
  refine l_aload_n C dL_929 rfl 1 rfl 930 rfl ?_
  refine l_arg C hX hbl hL (i := i) 1 (by omega) (by decide) dL_930 dL_931 dL_932 dL_933 dL_934 935 rfl ?_
  refine l_callVi (As := [.int (xs (i + 1))]) (rest := [.int r]) C (c_X4_firstFor l g s.heap.size x2 mm _ r mm2 h2) (j_cwV C qc_X4_firstFor qm_L_116 qi_X4_firstFor qs_X4_firstFor qn_X4 hd_X4_firstFor ⟨rfl, rfl⟩ ⟨by decide, by decide⟩) l_recv56 rfl (Nat.le_of_ble_eq_true rfl) dL_935 938 rfl ?_
  exact l_icmp_eq C dL_938 1601 (by decide) 941 rfl (fun _ => kk x2 mm2 h3) (fun z => absurd rfl z)
theorem law_k25 (C : Cl p m c s b g) (hX : va_X b L xs s s.heap) (hbl : b < s.heap.size) (hL : L ≤ 3072) (hi : i + 6 ≤ L) (hR : RLL x mm) (kk : ∀ x2 mm2 : St, RLL x2 mm2 → Wl p l e s m b below meth c g x2 mm2 1601 (lvL g b i) []) : Wl p l e s m b below meth c g x mm 943 (lvL g b i) [] := by
  obtain ⟨r, x2, mm2, h1, h2, h3⟩ := op_ways (xs (i + 1)) (xs (i + 2)) x mm hR
  refine l_aload_n C dL_943 rfl 2 rfl 944 rfl ?_
  refine l_arg C hX hbl hL (i := i) 1 (by omega) (by decide) dL_944 dL_945 dL_946 dL_947 dL_948 949 rfl ?_
  refine l_arg C hX hbl hL (i := i) 2 (by omega) (by decide) dL_949 dL_950 dL_951 dL_952 dL_953 954 rfl ?_
  refine l_callVl (As := [.int (xs (i + 1)), .int (xs (i + 2))]) (rest := []) C (c_X3_ways l g s.heap.size x mm _ _ r x2 h1) (j_cwV C qc_X3_ways qm_L_117 qi_X3_ways qs_X3_ways qn_X3 hd_X3_ways ⟨rfl, rfl⟩ ⟨by decide, by decide⟩) l_recv0 rfl (Nat.le_of_ble_eq_true rfl) dL_954 957 rfl ?_
  refine l_aload_n C dL_957 rfl 1 rfl 958 rfl ?_
  refine l_arg C hX hbl hL (i := i) 1 (by omega) (by decide) dL_958 dL_959 dL_960 dL_961 dL_962 963 rfl ?_
  refine l_arg C hX hbl hL (i := i) 2 (by omega) (by decide) dL_963 dL_964 dL_965 dL_966 dL_967 968 rfl ?_
  refine l_callVl (As := [.int (xs (i + 1)), .int (xs (i + 2))]) (rest := [.long r]) C (c_X4_ways_ l g s.heap.size x2 mm _ _ r mm2 h2) (j_cwV C qc_X4_ways_ qm_L_121 qi_X4_ways_ qs_X4_ways_ qn_X4 hd_X4_ways_ ⟨rfl, rfl⟩ ⟨by decide, by decide⟩) l_recv56 rfl (Nat.le_of_ble_eq_true rfl) dL_968 971 rfl ?_
  refine l_lcmp C dL_971 972 rfl ?_
  exact l_if_eq C dL_972 1601 (by decide) 975 rfl (fun _ => kk x2 mm2 h3) (fun z => absurd (l_cmp r) z)
theorem law_k26 (C : Cl p m c s b g) (hX : va_X b L xs s s.heap) (hbl : b < s.heap.size) (hL : L ≤ 3072) (hi : i + 6 ≤ L) (hR : RLL x mm) (kk : ∀ x2 mm2 : St, RLL x2 mm2 → Wl p l e s m b below meth c g x2 mm2 1601 (lvL g b i) []) : Wl p l e s m b below meth c g x mm 977 (lvL g b i) [] := by
  obtain ⟨r, x2, mm2, h1, h2, h3⟩ := op_total (xs (i + 1)) x mm hR
  refine l_aload_n C dL_977 rfl 2 rfl 978 rfl ?_
  refine l_arg C hX hbl hL (i := i) 1 (by omega) (by decide) dL_978 dL_979 dL_980 dL_981 dL_982 983 rfl ?_
  refine l_callVl (As := [.int (xs (i + 1))]) (rest := []) C (c_X3_total l g s.heap.size x mm _ r x2 h1) (j_cwV C qc_X3_total qm_L_122 qi_X3_total qs_X3_total qn_X3 hd_X3_total ⟨rfl, rfl⟩ ⟨by decide, by decide⟩) l_recv0 rfl (Nat.le_of_ble_eq_true rfl) dL_983 986 rfl ?_
  refine l_aload_n C dL_986 rfl 1 rfl 987 rfl ?_
  refine l_arg C hX hbl hL (i := i) 1 (by omega) (by decide) dL_987 dL_988 dL_989 dL_990 dL_991 992 rfl ?_
  refine l_callVl (As := [.int (xs (i + 1))]) (rest := [.long r]) C (c_X4_total l g s.heap.size x2 mm _ r mm2 h2) (j_cwV C qc_X4_total qm_L_126 qi_X4_total qs_X4_total qn_X4 hd_X4_total ⟨rfl, rfl⟩ ⟨by decide, by decide⟩) l_recv56 rfl (Nat.le_of_ble_eq_true rfl) dL_992 995 rfl ?_
  refine l_lcmp C dL_995 996 rfl ?_
  exact l_if_eq C dL_996 1601 (by decide) 999 rfl (fun _ => kk x2 mm2 h3) (fun z => absurd (l_cmp r) z)
theorem law_k27 (C : Cl p m c s b g) (hX : va_X b L xs s s.heap) (hbl : b < s.heap.size) (hL : L ≤ 3072) (hi : i + 6 ≤ L) (hR : RLL x mm) (kk : ∀ x2 mm2 : St, RLL x2 mm2 → Wl p l e s m b below meth c g x2 mm2 1601 (lvL g b i) []) : Wl p l e s m b below meth c g x mm 1001 (lvL g b i) [] := by
  obtain ⟨r, x2, mm2, h1, h2, h3⟩ := op_luck (xs (i + 1)) (xs (i + 2)) x mm hR
  refine l_aload_n C dL_1001 rfl 2 rfl 1002 rfl ?_
  refine l_arg C hX hbl hL (i := i) 1 (by omega) (by decide) dL_1002 dL_1003 dL_1004 dL_1005 dL_1006 1007 rfl ?_
  refine l_arg C hX hbl hL (i := i) 2 (by omega) (by decide) dL_1007 dL_1008 dL_1009 dL_1010 dL_1011 1012 rfl ?_
  refine l_callVl (As := [.int (xs (i + 1)), .int (xs (i + 2))]) (rest := []) C (c_X3_luck l g s.heap.size x mm _ _ r x2 h1) (j_cwV C qc_X3_luck qm_L_127 qi_X3_luck qs_X3_luck qn_X3 hd_X3_luck ⟨rfl, rfl⟩ ⟨by decide, by decide⟩) l_recv0 rfl (Nat.le_of_ble_eq_true rfl) dL_1012 1015 rfl ?_
  refine l_aload_n C dL_1015 rfl 1 rfl 1016 rfl ?_
  refine l_arg C hX hbl hL (i := i) 1 (by omega) (by decide) dL_1016 dL_1017 dL_1018 dL_1019 dL_1020 1021 rfl ?_
  refine l_arg C hX hbl hL (i := i) 2 (by omega) (by decide) dL_1021 dL_1022 dL_1023 dL_1024 dL_1025 1026 rfl ?_
  refine l_callVl (As := [.int (xs (i + 1)), .int (xs (i + 2))]) (rest := [.long r]) C (c_X4_luck l g s.heap.size x2 mm _ _ r mm2 h2) (j_cwV C qc_X4_luck qm_L_130 qi_X4_luck qs_X4_luck qn_X4 hd_X4_luck ⟨rfl, rfl⟩ ⟨by decide, by decide⟩) l_recv56 rfl (Nat.le_of_ble_eq_true rfl) dL_1026 1029 rfl ?_
  refine l_lcmp C dL_1029 1030 rfl ?_
  exact l_if_eq C dL_1030 1601 (by decide) 1033 rfl (fun _ => kk x2 mm2 h3) (fun z => absurd (l_cmp r) z)
theorem law_k28 (C : Cl p m c s b g) (hX : va_X b L xs s s.heap) (hbl : b < s.heap.size) (hL : L ≤ 3072) (hi : i + 6 ≤ L) (hR : RLL x mm) (kk : ∀ x2 mm2 : St, RLL x2 mm2 → Wl p l e s m b below meth c g x2 mm2 1601 (lvL g b i) []) : Wl p l e s m b below meth c g x mm 1035 (lvL g b i) [] := by
  obtain ⟨r, x2, mm2, h1, h2, h3⟩ := op_play (xs (i + 1)) x mm hR
  refine l_aload_n C dL_1035 rfl 2 rfl 1036 rfl ?_
  refine l_arg C hX hbl hL (i := i) 1 (by omega) (by decide) dL_1036 dL_1037 dL_1038 dL_1039 dL_1040 1041 rfl ?_
  refine l_callVi (As := [.int (xs (i + 1))]) (rest := []) C (c_X3_play l g s.heap.size x mm _ r x2 h1) (j_cwV C qc_X3_play qm_L_131 qi_X3_play qs_X3_play qn_X3 hd_X3_play ⟨rfl, rfl⟩ ⟨by decide, by decide⟩) l_recv0 rfl (Nat.le_of_ble_eq_true rfl) dL_1041 1044 rfl ?_
  refine l_aload_n C dL_1044 rfl 1 rfl 1045 rfl ?_
  refine l_arg C hX hbl hL (i := i) 1 (by omega) (by decide) dL_1045 dL_1046 dL_1047 dL_1048 dL_1049 1050 rfl ?_
  refine l_callVi (As := [.int (xs (i + 1))]) (rest := [.int r]) C (c_X4_play l g s.heap.size x2 mm _ r mm2 h2) (j_cwV C qc_X4_play qm_L_134 qi_X4_play qs_X4_play qn_X4 hd_X4_play ⟨rfl, rfl⟩ ⟨by decide, by decide⟩) l_recv56 rfl (Nat.le_of_ble_eq_true rfl) dL_1050 1053 rfl ?_
  exact l_icmp_eq C dL_1053 1601 (by decide) 1056 rfl (fun _ => kk x2 mm2 h3) (fun z => absurd rfl z)
theorem law_k29 (C : Cl p m c s b g) (hX : va_X b L xs s s.heap) (hbl : b < s.heap.size) (hL : L ≤ 3072) (hi : i + 6 ≤ L) (hR : RLL x mm) (kk : ∀ x2 mm2 : St, RLL x2 mm2 → Wl p l e s m b below meth c g x2 mm2 1601 (lvL g b i) []) : Wl p l e s m b below meth c g x mm 1058 (lvL g b i) [] := by
  obtain ⟨r, x2, mm2, h1, h2, h3⟩ := op_jolt  x mm hR
  refine l_aload_n C dL_1058 rfl 2 rfl 1059 rfl ?_
  refine l_callVi (As := []) (rest := []) C (c_X3_jolt l g s.heap.size x mm  r x2 h1) (j_cwV C qc_X3_jolt qm_L_135 qi_X3_jolt qs_X3_jolt qn_X3 hd_X3_jolt ⟨rfl, rfl⟩ ⟨by decide, by decide⟩) l_recv0 rfl (Nat.le_of_ble_eq_true rfl) dL_1059 1062 rfl ?_
  refine l_aload_n C dL_1062 rfl 1 rfl 1063 rfl ?_
  refine l_callVi (As := []) (rest := [.int r]) C (c_X4_jolt l g s.heap.size x2 mm  r mm2 h2) (j_cwV C qc_X4_jolt qm_L_138 qi_X4_jolt qs_X4_jolt qn_X4 hd_X4_jolt ⟨rfl, rfl⟩ ⟨by decide, by decide⟩) l_recv56 rfl (Nat.le_of_ble_eq_true rfl) dL_1063 1066 rfl ?_
  exact l_icmp_eq C dL_1066 1601 (by decide) 1069 rfl (fun _ => kk x2 mm2 h3) (fun z => absurd rfl z)
theorem law_k30 (C : Cl p m c s b g) (hX : va_X b L xs s s.heap) (hbl : b < s.heap.size) (hL : L ≤ 3072) (hi : i + 6 ≤ L) (hR : RLL x mm) (kk : ∀ x2 mm2 : St, RLL x2 mm2 → Wl p l e s m b below meth c g x2 mm2 1601 (lvL g b i) []) : Wl p l e s m b below meth c g x mm 1071 (lvL g b i) [] := by
  obtain ⟨r, x2, mm2, h1, h2, h3⟩ := op_jolted  x mm hR
  refine l_aload_n C dL_1071 rfl 2 rfl 1072 rfl ?_
  refine l_callVi (As := []) (rest := []) C (c_X3_jolted l g s.heap.size x mm  r x2 h1) (j_cwV C qc_X3_jolted qm_L_139 qi_X3_jolted qs_X3_jolted qn_X3 hd_X3_jolted ⟨rfl, rfl⟩ ⟨by decide, by decide⟩) l_recv0 rfl (Nat.le_of_ble_eq_true rfl) dL_1072 1075 rfl ?_
  refine l_aload_n C dL_1075 rfl 1 rfl 1076 rfl ?_
  refine l_callVi (As := []) (rest := [.int r]) C (c_X4_jolted l g s.heap.size x2 mm  r mm2 h2) (j_cwV C qc_X4_jolted qm_L_142 qi_X4_jolted qs_X4_jolted qn_X4 hd_X4_jolted ⟨rfl, rfl⟩ ⟨by decide, by decide⟩) l_recv56 rfl (Nat.le_of_ble_eq_true rfl) dL_1076 1079 rfl ?_
  exact l_icmp_eq C dL_1079 1601 (by decide) 1082 rfl (fun _ => kk x2 mm2 h3) (fun z => absurd rfl z)
theorem law_k31 (C : Cl p m c s b g) (hX : va_X b L xs s s.heap) (hbl : b < s.heap.size) (hL : L ≤ 3072) (hi : i + 6 ≤ L) (hR : RLL x mm) (kk : ∀ x2 mm2 : St, RLL x2 mm2 → Wl p l e s m b below meth c g x2 mm2 1601 (lvL g b i) []) : Wl p l e s m b below meth c g x mm 1084 (lvL g b i) [] := by
  obtain ⟨r, x2, mm2, h1, h2, h3⟩ := op_stroke (xs (i + 1)) x mm hR
  refine l_aload_n C dL_1084 rfl 2 rfl 1085 rfl ?_
  refine l_arg C hX hbl hL (i := i) 1 (by omega) (by decide) dL_1085 dL_1086 dL_1087 dL_1088 dL_1089 1090 rfl ?_
  refine l_callVi (As := [.int (xs (i + 1))]) (rest := []) C (c_X3_stroke l g s.heap.size x mm _ r x2 h1) (j_cwV C qc_X3_stroke qm_L_143 qi_X3_stroke qs_X3_stroke qn_X3 hd_X3_stroke ⟨rfl, rfl⟩ ⟨by decide, by decide⟩) l_recv0 rfl (Nat.le_of_ble_eq_true rfl) dL_1090 1093 rfl ?_
  refine l_aload_n C dL_1093 rfl 1 rfl 1094 rfl ?_
  refine l_arg C hX hbl hL (i := i) 1 (by omega) (by decide) dL_1094 dL_1095 dL_1096 dL_1097 dL_1098 1099 rfl ?_
  refine l_callVi (As := [.int (xs (i + 1))]) (rest := [.int r]) C (c_X4_stroke l g s.heap.size x2 mm _ r mm2 h2) (j_cwV C qc_X4_stroke qm_L_146 qi_X4_stroke qs_X4_stroke qn_X4 hd_X4_stroke ⟨rfl, rfl⟩ ⟨by decide, by decide⟩) l_recv56 rfl (Nat.le_of_ble_eq_true rfl) dL_1099 1102 rfl ?_
  exact l_icmp_eq C dL_1102 1601 (by decide) 1105 rfl (fun _ => kk x2 mm2 h3) (fun z => absurd rfl z)
theorem law_k32 (C : Cl p m c s b g) (hX : va_X b L xs s s.heap) (hbl : b < s.heap.size) (hL : L ≤ 3072) (hi : i + 6 ≤ L) (hR : RLL x mm) (kk : ∀ x2 mm2 : St, RLL x2 mm2 → Wl p l e s m b below meth c g x2 mm2 1601 (lvL g b i) []) : Wl p l e s m b below meth c g x mm 1107 (lvL g b i) [] := by
  obtain ⟨r, x2, mm2, h1, h2, h3⟩ := op_force (xs (i + 1)) (xs (i + 2)) x mm hR
  refine l_aload_n C dL_1107 rfl 2 rfl 1108 rfl ?_
  refine l_arg C hX hbl hL (i := i) 1 (by omega) (by decide) dL_1108 dL_1109 dL_1110 dL_1111 dL_1112 1113 rfl ?_
  refine l_arg C hX hbl hL (i := i) 2 (by omega) (by decide) dL_1113 dL_1114 dL_1115 dL_1116 dL_1117 1118 rfl ?_
  refine l_callVi (As := [.int (xs (i + 1)), .int (xs (i + 2))]) (rest := []) C (c_X3_force l g s.heap.size x mm _ _ r x2 h1) (j_cwV C qc_X3_force qm_L_147 qi_X3_force qs_X3_force qn_X3 hd_X3_force ⟨rfl, rfl⟩ ⟨by decide, by decide⟩) l_recv0 rfl (Nat.le_of_ble_eq_true rfl) dL_1118 1121 rfl ?_
  refine l_aload_n C dL_1121 rfl 1 rfl 1122 rfl ?_
  refine l_arg C hX hbl hL (i := i) 1 (by omega) (by decide) dL_1122 dL_1123 dL_1124 dL_1125 dL_1126 1127 rfl ?_
  refine l_arg C hX hbl hL (i := i) 2 (by omega) (by decide) dL_1127 dL_1128 dL_1129 dL_1130 dL_1131 1132 rfl ?_
  refine l_callVi (As := [.int (xs (i + 1)), .int (xs (i + 2))]) (rest := [.int r]) C (c_X4_force l g s.heap.size x2 mm _ _ r mm2 h2) (j_cwV C qc_X4_force qm_L_150 qi_X4_force qs_X4_force qn_X4 hd_X4_force ⟨rfl, rfl⟩ ⟨by decide, by decide⟩) l_recv56 rfl (Nat.le_of_ble_eq_true rfl) dL_1132 1135 rfl ?_
  exact l_icmp_eq C dL_1135 1601 (by decide) 1138 rfl (fun _ => kk x2 mm2 h3) (fun z => absurd rfl z)
theorem law_k33 (C : Cl p m c s b g) (hX : va_X b L xs s s.heap) (hbl : b < s.heap.size) (hL : L ≤ 3072) (hi : i + 6 ≤ L) (hR : RLL x mm) (kk : ∀ x2 mm2 : St, RLL x2 mm2 → Wl p l e s m b below meth c g x2 mm2 1601 (lvL g b i) []) : Wl p l e s m b below meth c g x mm 1140 (lvL g b i) [] := by
  obtain ⟨r, x2, mm2, h1, h2, h3⟩ := op_kindFor (xs (i + 1)) (xs (i + 2)) x mm hR
  refine l_aload_n C dL_1140 rfl 2 rfl 1141 rfl ?_
  refine l_arg C hX hbl hL (i := i) 1 (by omega) (by decide) dL_1141 dL_1142 dL_1143 dL_1144 dL_1145 1146 rfl ?_
  refine l_arg C hX hbl hL (i := i) 2 (by omega) (by decide) dL_1146 dL_1147 dL_1148 dL_1149 dL_1150 1151 rfl ?_
  refine l_callVi (As := [.int (xs (i + 1)), .int (xs (i + 2))]) (rest := []) C (c_X3_kindFor l g s.heap.size x mm _ _ r x2 h1) (j_cwV C qc_X3_kindFor qm_L_151 qi_X3_kindFor qs_X3_kindFor qn_X3 hd_X3_kindFor ⟨rfl, rfl⟩ ⟨by decide, by decide⟩) l_recv0 rfl (Nat.le_of_ble_eq_true rfl) dL_1151 1154 rfl ?_
  refine l_aload_n C dL_1154 rfl 1 rfl 1155 rfl ?_
  refine l_arg C hX hbl hL (i := i) 1 (by omega) (by decide) dL_1155 dL_1156 dL_1157 dL_1158 dL_1159 1160 rfl ?_
  refine l_arg C hX hbl hL (i := i) 2 (by omega) (by decide) dL_1160 dL_1161 dL_1162 dL_1163 dL_1164 1165 rfl ?_
  refine l_callVi (As := [.int (xs (i + 1)), .int (xs (i + 2))]) (rest := [.int r]) C (c_X4_kindFor l g s.heap.size x2 mm _ _ r mm2 h2) (j_cwV C qc_X4_kindFor qm_L_154 qi_X4_kindFor qs_X4_kindFor qn_X4 hd_X4_kindFor ⟨rfl, rfl⟩ ⟨by decide, by decide⟩) l_recv56 rfl (Nat.le_of_ble_eq_true rfl) dL_1165 1168 rfl ?_
  exact l_icmp_eq C dL_1168 1601 (by decide) 1171 rfl (fun _ => kk x2 mm2 h3) (fun z => absurd rfl z)
theorem law_k34 (C : Cl p m c s b g) (hX : va_X b L xs s s.heap) (hbl : b < s.heap.size) (hL : L ≤ 3072) (hi : i + 6 ≤ L) (hR : RLL x mm) (kk : ∀ x2 mm2 : St, RLL x2 mm2 → Wl p l e s m b below meth c g x2 mm2 1601 (lvL g b i) []) : Wl p l e s m b below meth c g x mm 1173 (lvL g b i) [] := by
  obtain ⟨r, x2, mm2, h1, h2, h3⟩ := op_seed (xs (i + 1)) x mm hR
  refine l_aload_n C dL_1173 rfl 2 rfl 1174 rfl ?_
  refine l_arg C hX hbl hL (i := i) 1 (by omega) (by decide) dL_1174 dL_1175 dL_1176 dL_1177 dL_1178 1179 rfl ?_
  refine l_callVi (As := [.int (xs (i + 1))]) (rest := []) C (c_X3_seed l g s.heap.size x mm _ r x2 h1) (j_cwV C qc_X3_seed qm_L_155 qi_X3_seed qs_X3_seed qn_X3 hd_X3_seed ⟨rfl, rfl⟩ ⟨by decide, by decide⟩) l_recv0 rfl (Nat.le_of_ble_eq_true rfl) dL_1179 1182 rfl ?_
  refine l_aload_n C dL_1182 rfl 1 rfl 1183 rfl ?_
  refine l_arg C hX hbl hL (i := i) 1 (by omega) (by decide) dL_1183 dL_1184 dL_1185 dL_1186 dL_1187 1188 rfl ?_
  refine l_callVi (As := [.int (xs (i + 1))]) (rest := [.int r]) C (c_X4_seed l g s.heap.size x2 mm _ r mm2 h2) (j_cwV C qc_X4_seed qm_L_158 qi_X4_seed qs_X4_seed qn_X4 hd_X4_seed ⟨rfl, rfl⟩ ⟨by decide, by decide⟩) l_recv56 rfl (Nat.le_of_ble_eq_true rfl) dL_1188 1191 rfl ?_
  exact l_icmp_eq C dL_1191 1601 (by decide) 1194 rfl (fun _ => kk x2 mm2 h3) (fun z => absurd rfl z)
theorem law_k35 (C : Cl p m c s b g) (hX : va_X b L xs s s.heap) (hbl : b < s.heap.size) (hL : L ≤ 3072) (hi : i + 6 ≤ L) (hR : RLL x mm) (kk : ∀ x2 mm2 : St, RLL x2 mm2 → Wl p l e s m b below meth c g x2 mm2 1601 (lvL g b i) []) : Wl p l e s m b below meth c g x mm 1196 (lvL g b i) [] := by
  obtain ⟨r, x2, mm2, h1, h2, h3⟩ := op_feed (xs (i + 1)) (xs (i + 2)) x mm hR
  refine l_aload_n C dL_1196 rfl 2 rfl 1197 rfl ?_
  refine l_arg C hX hbl hL (i := i) 1 (by omega) (by decide) dL_1197 dL_1198 dL_1199 dL_1200 dL_1201 1202 rfl ?_
  refine l_arg C hX hbl hL (i := i) 2 (by omega) (by decide) dL_1202 dL_1203 dL_1204 dL_1205 dL_1206 1207 rfl ?_
  refine l_callVi (As := [.int (xs (i + 1)), .int (xs (i + 2))]) (rest := []) C (c_X3_feed l g s.heap.size x mm _ _ r x2 h1) (j_cwV C qc_X3_feed qm_L_159 qi_X3_feed qs_X3_feed qn_X3 hd_X3_feed ⟨rfl, rfl⟩ ⟨by decide, by decide⟩) l_recv0 rfl (Nat.le_of_ble_eq_true rfl) dL_1207 1210 rfl ?_
  refine l_aload_n C dL_1210 rfl 1 rfl 1211 rfl ?_
  refine l_arg C hX hbl hL (i := i) 1 (by omega) (by decide) dL_1211 dL_1212 dL_1213 dL_1214 dL_1215 1216 rfl ?_
  refine l_arg C hX hbl hL (i := i) 2 (by omega) (by decide) dL_1216 dL_1217 dL_1218 dL_1219 dL_1220 1221 rfl ?_
  refine l_callVi (As := [.int (xs (i + 1)), .int (xs (i + 2))]) (rest := [.int r]) C (c_X4_feed l g s.heap.size x2 mm _ _ r mm2 h2) (j_cwV C qc_X4_feed qm_L_162 qi_X4_feed qs_X4_feed qn_X4 hd_X4_feed ⟨rfl, rfl⟩ ⟨by decide, by decide⟩) l_recv56 rfl (Nat.le_of_ble_eq_true rfl) dL_1221 1224 rfl ?_
  exact l_icmp_eq C dL_1224 1601 (by decide) 1227 rfl (fun _ => kk x2 mm2 h3) (fun z => absurd rfl z)
theorem law_k36 (C : Cl p m c s b g) (hX : va_X b L xs s s.heap) (hbl : b < s.heap.size) (hL : L ≤ 3072) (hi : i + 6 ≤ L) (hR : RLL x mm) (kk : ∀ x2 mm2 : St, RLL x2 mm2 → Wl p l e s m b below meth c g x2 mm2 1601 (lvL g b i) []) : Wl p l e s m b below meth c g x mm 1229 (lvL g b i) [] := by
  obtain ⟨r, x2, mm2, h1, h2, h3⟩ := op_wipe  x mm hR
  refine l_aload_n C dL_1229 rfl 2 rfl 1230 rfl ?_
  refine l_callVi (As := []) (rest := []) C (c_X3_wipe l g s.heap.size x mm  r x2 h1) (j_cwV C qc_X3_wipe qm_L_163 qi_X3_wipe qs_X3_wipe qn_X3 hd_X3_wipe ⟨rfl, rfl⟩ ⟨by decide, by decide⟩) l_recv0 rfl (Nat.le_of_ble_eq_true rfl) dL_1230 1233 rfl ?_
  refine l_aload_n C dL_1233 rfl 1 rfl 1234 rfl ?_
  refine l_callVi (As := []) (rest := [.int r]) C (c_X4_wipe l g s.heap.size x2 mm  r mm2 h2) (j_cwV C qc_X4_wipe qm_L_166 qi_X4_wipe qs_X4_wipe qn_X4 hd_X4_wipe ⟨rfl, rfl⟩ ⟨by decide, by decide⟩) l_recv56 rfl (Nat.le_of_ble_eq_true rfl) dL_1234 1237 rfl ?_
  exact l_icmp_eq C dL_1237 1601 (by decide) 1240 rfl (fun _ => kk x2 mm2 h3) (fun z => absurd rfl z)
theorem law_k37 (C : Cl p m c s b g) (hX : va_X b L xs s s.heap) (hbl : b < s.heap.size) (hL : L ≤ 3072) (hi : i + 6 ≤ L) (hR : RLL x mm) (kk : ∀ x2 mm2 : St, RLL x2 mm2 → Wl p l e s m b below meth c g x2 mm2 1601 (lvL g b i) []) : Wl p l e s m b below meth c g x mm 1242 (lvL g b i) [] := by
  obtain ⟨r, x2, mm2, h1, h2, h3⟩ := op_text  x mm hR
  refine l_aload_n C dL_1242 rfl 2 rfl 1243 rfl ?_
  refine l_callVi (As := []) (rest := []) C (c_X3_text l g s.heap.size x mm  r x2 h1) (j_cwV C qc_X3_text qm_L_167 qi_X3_text qs_X3_text qn_X3 hd_X3_text ⟨rfl, rfl⟩ ⟨by decide, by decide⟩) l_recv0 rfl (Nat.le_of_ble_eq_true rfl) dL_1243 1246 rfl ?_
  refine l_aload_n C dL_1246 rfl 1 rfl 1247 rfl ?_
  refine l_callVi (As := []) (rest := [.int r]) C (c_X4_text l g s.heap.size x2 mm  r mm2 h2) (j_cwV C qc_X4_text qm_L_170 qi_X4_text qs_X4_text qn_X4 hd_X4_text ⟨rfl, rfl⟩ ⟨by decide, by decide⟩) l_recv56 rfl (Nat.le_of_ble_eq_true rfl) dL_1247 1250 rfl ?_
  exact l_icmp_eq C dL_1250 1601 (by decide) 1253 rfl (fun _ => kk x2 mm2 h3) (fun z => absurd rfl z)
theorem law_k38 (C : Cl p m c s b g) (hX : va_X b L xs s s.heap) (hbl : b < s.heap.size) (hL : L ≤ 3072) (hi : i + 6 ≤ L) (hR : RLL x mm) (kk : ∀ x2 mm2 : St, RLL x2 mm2 → Wl p l e s m b below meth c g x2 mm2 1601 (lvL g b i) []) : Wl p l e s m b below meth c g x mm 1255 (lvL g b i) [] := by
  obtain ⟨r, x2, mm2, h1, h2, h3⟩ := op_hold (xs (i + 1)) (xs (i + 2)) x mm hR
  refine l_aload_n C dL_1255 rfl 2 rfl 1256 rfl ?_
  refine l_arg C hX hbl hL (i := i) 1 (by omega) (by decide) dL_1256 dL_1257 dL_1258 dL_1259 dL_1260 1261 rfl ?_
  refine l_arg C hX hbl hL (i := i) 2 (by omega) (by decide) dL_1261 dL_1262 dL_1263 dL_1264 dL_1265 1266 rfl ?_
  refine l_callVi (As := [.int (xs (i + 1)), .int (xs (i + 2))]) (rest := []) C (c_X3_hold l g s.heap.size x mm _ _ r x2 h1) (j_cwV C qc_X3_hold qm_L_171 qi_X3_hold qs_X3_hold qn_X3 hd_X3_hold ⟨rfl, rfl⟩ ⟨by decide, by decide⟩) l_recv0 rfl (Nat.le_of_ble_eq_true rfl) dL_1266 1269 rfl ?_
  refine l_aload_n C dL_1269 rfl 1 rfl 1270 rfl ?_
  refine l_arg C hX hbl hL (i := i) 1 (by omega) (by decide) dL_1270 dL_1271 dL_1272 dL_1273 dL_1274 1275 rfl ?_
  refine l_arg C hX hbl hL (i := i) 2 (by omega) (by decide) dL_1275 dL_1276 dL_1277 dL_1278 dL_1279 1280 rfl ?_
  refine l_callVi (As := [.int (xs (i + 1)), .int (xs (i + 2))]) (rest := [.int r]) C (c_X4_hold l g s.heap.size x2 mm _ _ r mm2 h2) (j_cwV C qc_X4_hold qm_L_174 qi_X4_hold qs_X4_hold qn_X4 hd_X4_hold ⟨rfl, rfl⟩ ⟨by decide, by decide⟩) l_recv56 rfl (Nat.le_of_ble_eq_true rfl) dL_1280 1283 rfl ?_
  exact l_icmp_eq C dL_1283 1601 (by decide) 1286 rfl (fun _ => kk x2 mm2 h3) (fun z => absurd rfl z)
theorem law_k39 (C : Cl p m c s b g) (hX : va_X b L xs s s.heap) (hbl : b < s.heap.size) (hL : L ≤ 3072) (hi : i + 6 ≤ L) (hR : RLL x mm) (kk : ∀ x2 mm2 : St, RLL x2 mm2 → Wl p l e s m b below meth c g x2 mm2 1601 (lvL g b i) []) : Wl p l e s m b below meth c g x mm 1288 (lvL g b i) [] := by
  obtain ⟨r, x2, mm2, h1, h2, h3⟩ := op_as (xs (i + 1)) (xs (i + 2)) x mm hR
  refine l_aload_n C dL_1288 rfl 2 rfl 1289 rfl ?_
  refine l_arg C hX hbl hL (i := i) 1 (by omega) (by decide) dL_1289 dL_1290 dL_1291 dL_1292 dL_1293 1294 rfl ?_
  refine l_arg C hX hbl hL (i := i) 2 (by omega) (by decide) dL_1294 dL_1295 dL_1296 dL_1297 dL_1298 1299 rfl ?_
  refine l_callVi (As := [.int (xs (i + 1)), .int (xs (i + 2))]) (rest := []) C (c_X3_as l g s.heap.size x mm _ _ r x2 h1) (j_cwV C qc_X3_as qm_L_175 qi_X3_as qs_X3_as qn_X3 hd_X3_as ⟨rfl, rfl⟩ ⟨by decide, by decide⟩) l_recv0 rfl (Nat.le_of_ble_eq_true rfl) dL_1299 1302 rfl ?_
  refine l_aload_n C dL_1302 rfl 1 rfl 1303 rfl ?_
  refine l_arg C hX hbl hL (i := i) 1 (by omega) (by decide) dL_1303 dL_1304 dL_1305 dL_1306 dL_1307 1308 rfl ?_
  refine l_arg C hX hbl hL (i := i) 2 (by omega) (by decide) dL_1308 dL_1309 dL_1310 dL_1311 dL_1312 1313 rfl ?_
  refine l_callVi (As := [.int (xs (i + 1)), .int (xs (i + 2))]) (rest := [.int r]) C (c_X4_as l g s.heap.size x2 mm _ _ r mm2 h2) (j_cwV C qc_X4_as qm_L_178 qi_X4_as qs_X4_as qn_X4 hd_X4_as ⟨rfl, rfl⟩ ⟨by decide, by decide⟩) l_recv56 rfl (Nat.le_of_ble_eq_true rfl) dL_1313 1316 rfl ?_
  exact l_icmp_eq C dL_1316 1601 (by decide) 1319 rfl (fun _ => kk x2 mm2 h3) (fun z => absurd rfl z)
theorem law_k40 (C : Cl p m c s b g) (hX : va_X b L xs s s.heap) (hbl : b < s.heap.size) (hL : L ≤ 3072) (hi : i + 6 ≤ L) (hR : RLL x mm) (kk : ∀ x2 mm2 : St, RLL x2 mm2 → Wl p l e s m b below meth c g x2 mm2 1601 (lvL g b i) []) : Wl p l e s m b below meth c g x mm 1321 (lvL g b i) [] := by
  obtain ⟨r, x2, mm2, h1, h2, h3⟩ := op_sheet (xs (i + 1)) (xs (i + 2)) (xs (i + 3)) x mm hR
  refine l_aload_n C dL_1321 rfl 2 rfl 1322 rfl ?_
  refine l_arg C hX hbl hL (i := i) 1 (by omega) (by decide) dL_1322 dL_1323 dL_1324 dL_1325 dL_1326 1327 rfl ?_
  refine l_arg C hX hbl hL (i := i) 2 (by omega) (by decide) dL_1327 dL_1328 dL_1329 dL_1330 dL_1331 1332 rfl ?_
  refine l_arg C hX hbl hL (i := i) 3 (by omega) (by decide) dL_1332 dL_1333 dL_1334 dL_1335 dL_1336 1337 rfl ?_
  refine l_callVi (As := [.int (xs (i + 1)), .int (xs (i + 2)), .int (xs (i + 3))]) (rest := []) C (c_X3_sheet l g s.heap.size x mm _ _ _ r x2 h1) (j_cwV C qc_X3_sheet qm_L_179 qi_X3_sheet qs_X3_sheet qn_X3 hd_X3_sheet ⟨rfl, rfl⟩ ⟨by decide, by decide⟩) l_recv0 rfl (Nat.le_of_ble_eq_true rfl) dL_1337 1340 rfl ?_
  refine l_aload_n C dL_1340 rfl 1 rfl 1341 rfl ?_
  refine l_arg C hX hbl hL (i := i) 1 (by omega) (by decide) dL_1341 dL_1342 dL_1343 dL_1344 dL_1345 1346 rfl ?_
  refine l_arg C hX hbl hL (i := i) 2 (by omega) (by decide) dL_1346 dL_1347 dL_1348 dL_1349 dL_1350 1351 rfl ?_
  refine l_arg C hX hbl hL (i := i) 3 (by omega) (by decide) dL_1351 dL_1352 dL_1353 dL_1354 dL_1355 1356 rfl ?_
  refine l_callVi (As := [.int (xs (i + 1)), .int (xs (i + 2)), .int (xs (i + 3))]) (rest := [.int r]) C (c_X4_sheet l g s.heap.size x2 mm _ _ _ r mm2 h2) (j_cwV C qc_X4_sheet qm_L_182 qi_X4_sheet qs_X4_sheet qn_X4 hd_X4_sheet ⟨rfl, rfl⟩ ⟨by decide, by decide⟩) l_recv56 rfl (Nat.le_of_ble_eq_true rfl) dL_1356 1359 rfl ?_
  exact l_icmp_eq C dL_1359 1601 (by decide) 1362 rfl (fun _ => kk x2 mm2 h3) (fun z => absurd rfl z)
theorem law_k41 (C : Cl p m c s b g) (hX : va_X b L xs s s.heap) (hbl : b < s.heap.size) (hL : L ≤ 3072) (hi : i + 6 ≤ L) (hR : RLL x mm) (kk : ∀ x2 mm2 : St, RLL x2 mm2 → Wl p l e s m b below meth c g x2 mm2 1601 (lvL g b i) []) : Wl p l e s m b below meth c g x mm 1364 (lvL g b i) [] := by
  obtain ⟨r, x2, mm2, h1, h2, h3⟩ := op_write (xs (i + 1)) (xs (i + 2)) (xs (i + 3)) x mm hR
  refine l_aload_n C dL_1364 rfl 2 rfl 1365 rfl ?_
  refine l_arg C hX hbl hL (i := i) 1 (by omega) (by decide) dL_1365 dL_1366 dL_1367 dL_1368 dL_1369 1370 rfl ?_
  refine l_arg C hX hbl hL (i := i) 2 (by omega) (by decide) dL_1370 dL_1371 dL_1372 dL_1373 dL_1374 1375 rfl ?_
  refine l_arg C hX hbl hL (i := i) 3 (by omega) (by decide) dL_1375 dL_1376 dL_1377 dL_1378 dL_1379 1380 rfl ?_
  refine l_callVi (As := [.int (xs (i + 1)), .int (xs (i + 2)), .int (xs (i + 3))]) (rest := []) C (c_X3_write l g s.heap.size x mm _ _ _ r x2 h1) (j_cwV C qc_X3_write qm_L_183 qi_X3_write qs_X3_write qn_X3 hd_X3_write ⟨rfl, rfl⟩ ⟨by decide, by decide⟩) l_recv0 rfl (Nat.le_of_ble_eq_true rfl) dL_1380 1383 rfl ?_
  refine l_aload_n C dL_1383 rfl 1 rfl 1384 rfl ?_
  refine l_arg C hX hbl hL (i := i) 1 (by omega) (by decide) dL_1384 dL_1385 dL_1386 dL_1387 dL_1388 1389 rfl ?_
  refine l_arg C hX hbl hL (i := i) 2 (by omega) (by decide) dL_1389 dL_1390 dL_1391 dL_1392 dL_1393 1394 rfl ?_
  refine l_arg C hX hbl hL (i := i) 3 (by omega) (by decide) dL_1394 dL_1395 dL_1396 dL_1397 dL_1398 1399 rfl ?_
  refine l_callVi (As := [.int (xs (i + 1)), .int (xs (i + 2)), .int (xs (i + 3))]) (rest := [.int r]) C (c_X4_write l g s.heap.size x2 mm _ _ _ r mm2 h2) (j_cwV C qc_X4_write qm_L_186 qi_X4_write qs_X4_write qn_X4 hd_X4_write ⟨rfl, rfl⟩ ⟨by decide, by decide⟩) l_recv56 rfl (Nat.le_of_ble_eq_true rfl) dL_1399 1402 rfl ?_
  exact l_icmp_eq C dL_1402 1601 (by decide) 1405 rfl (fun _ => kk x2 mm2 h3) (fun z => absurd rfl z)
theorem law_k42 (C : Cl p m c s b g) (hX : va_X b L xs s s.heap) (hbl : b < s.heap.size) (hL : L ≤ 3072) (hi : i + 6 ≤ L) (hR : RLL x mm) (kk : ∀ x2 mm2 : St, RLL x2 mm2 → Wl p l e s m b below meth c g x2 mm2 1601 (lvL g b i) []) : Wl p l e s m b below meth c g x mm 1407 (lvL g b i) [] := by
  obtain ⟨r, x2, mm2, h1, h2, h3⟩ := op_copy (xs (i + 1)) (xs (i + 2)) (xs (i + 3)) (xs (i + 4)) (xs (i + 5)) x mm hR
  refine l_aload_n C dL_1407 rfl 2 rfl 1408 rfl ?_
  refine l_arg C hX hbl hL (i := i) 1 (by omega) (by decide) dL_1408 dL_1409 dL_1410 dL_1411 dL_1412 1413 rfl ?_
  refine l_arg C hX hbl hL (i := i) 2 (by omega) (by decide) dL_1413 dL_1414 dL_1415 dL_1416 dL_1417 1418 rfl ?_
  refine l_arg C hX hbl hL (i := i) 3 (by omega) (by decide) dL_1418 dL_1419 dL_1420 dL_1421 dL_1422 1423 rfl ?_
  refine l_arg C hX hbl hL (i := i) 4 (by omega) (by decide) dL_1423 dL_1424 dL_1425 dL_1426 dL_1427 1428 rfl ?_
  refine l_arg C hX hbl hL (i := i) 5 (by omega) (by decide) dL_1428 dL_1429 dL_1430 dL_1431 dL_1432 1433 rfl ?_
  refine l_callVi (As := [.int (xs (i + 1)), .int (xs (i + 2)), .int (xs (i + 3)), .int (xs (i + 4)), .int (xs (i + 5))]) (rest := []) C (c_X3_copy l g s.heap.size x mm _ _ _ _ _ r x2 h1) (j_cwV C qc_X3_copy qm_L_187 qi_X3_copy qs_X3_copy qn_X3 hd_X3_copy ⟨rfl, rfl⟩ ⟨by decide, by decide⟩) l_recv0 rfl (Nat.le_of_ble_eq_true rfl) dL_1433 1436 rfl ?_
  refine l_aload_n C dL_1436 rfl 1 rfl 1437 rfl ?_
  refine l_arg C hX hbl hL (i := i) 1 (by omega) (by decide) dL_1437 dL_1438 dL_1439 dL_1440 dL_1441 1442 rfl ?_
  refine l_arg C hX hbl hL (i := i) 2 (by omega) (by decide) dL_1442 dL_1443 dL_1444 dL_1445 dL_1446 1447 rfl ?_
  refine l_arg C hX hbl hL (i := i) 3 (by omega) (by decide) dL_1447 dL_1448 dL_1449 dL_1450 dL_1451 1452 rfl ?_
  refine l_arg C hX hbl hL (i := i) 4 (by omega) (by decide) dL_1452 dL_1453 dL_1454 dL_1455 dL_1456 1457 rfl ?_
  refine l_arg C hX hbl hL (i := i) 5 (by omega) (by decide) dL_1457 dL_1458 dL_1459 dL_1460 dL_1461 1462 rfl ?_
  refine l_callVi (As := [.int (xs (i + 1)), .int (xs (i + 2)), .int (xs (i + 3)), .int (xs (i + 4)), .int (xs (i + 5))]) (rest := [.int r]) C (c_X4_copy l g s.heap.size x2 mm _ _ _ _ _ r mm2 h2) (j_cwV C qc_X4_copy qm_L_191 qi_X4_copy qs_X4_copy qn_X4 hd_X4_copy ⟨rfl, rfl⟩ ⟨by decide, by decide⟩) l_recv56 rfl (Nat.le_of_ble_eq_true rfl) dL_1462 1465 rfl ?_
  exact l_icmp_eq C dL_1465 1601 (by decide) 1468 rfl (fun _ => kk x2 mm2 h3) (fun z => absurd rfl z)
theorem law_k43 (C : Cl p m c s b g) (hX : va_X b L xs s s.heap) (hbl : b < s.heap.size) (hL : L ≤ 3072) (hi : i + 6 ≤ L) (hR : RLL x mm) (kk : ∀ x2 mm2 : St, RLL x2 mm2 → Wl p l e s m b below meth c g x2 mm2 1601 (lvL g b i) []) : Wl p l e s m b below meth c g x mm 1470 (lvL g b i) [] := by
  obtain ⟨r, x2, mm2, h1, h2, h3⟩ := op_load (xs (i + 1)) x mm hR
  refine l_aload_n C dL_1470 rfl 2 rfl 1471 rfl ?_
  refine l_arg C hX hbl hL (i := i) 1 (by omega) (by decide) dL_1471 dL_1472 dL_1473 dL_1474 dL_1475 1476 rfl ?_
  refine l_callVi (As := [.int (xs (i + 1))]) (rest := []) C (c_X3_load l g s.heap.size x mm _ r x2 h1) (j_cwV C qc_X3_load qm_L_192 qi_X3_load qs_X3_load qn_X3 hd_X3_load ⟨rfl, rfl⟩ ⟨by decide, by decide⟩) l_recv0 rfl (Nat.le_of_ble_eq_true rfl) dL_1476 1479 rfl ?_
  refine l_aload_n C dL_1479 rfl 1 rfl 1480 rfl ?_
  refine l_arg C hX hbl hL (i := i) 1 (by omega) (by decide) dL_1480 dL_1481 dL_1482 dL_1483 dL_1484 1485 rfl ?_
  refine l_callVi (As := [.int (xs (i + 1))]) (rest := [.int r]) C (c_X4_load l g s.heap.size x2 mm _ r mm2 h2) (j_cwV C qc_X4_load qm_L_195 qi_X4_load qs_X4_load qn_X4 hd_X4_load ⟨rfl, rfl⟩ ⟨by decide, by decide⟩) l_recv56 rfl (Nat.le_of_ble_eq_true rfl) dL_1485 1488 rfl ?_
  exact l_icmp_eq C dL_1488 1601 (by decide) 1491 rfl (fun _ => kk x2 mm2 h3) (fun z => absurd rfl z)
theorem law_k44 (C : Cl p m c s b g) (hX : va_X b L xs s s.heap) (hbl : b < s.heap.size) (hL : L ≤ 3072) (hi : i + 6 ≤ L) (hR : RLL x mm) (kk : ∀ x2 mm2 : St, RLL x2 mm2 → Wl p l e s m b below meth c g x2 mm2 1601 (lvL g b i) []) : Wl p l e s m b below meth c g x mm 1493 (lvL g b i) [] := by
  obtain ⟨r, x2, mm2, h1, h2, h3⟩ := op_judge (xs (i + 1)) x mm hR
  refine l_aload_n C dL_1493 rfl 2 rfl 1494 rfl ?_
  refine l_arg C hX hbl hL (i := i) 1 (by omega) (by decide) dL_1494 dL_1495 dL_1496 dL_1497 dL_1498 1499 rfl ?_
  refine l_callVi (As := [.int (xs (i + 1))]) (rest := []) C (c_X3_judge l g s.heap.size x mm _ r x2 h1) (j_cwV C qc_X3_judge qm_L_196 qi_X3_judge qs_X3_judge qn_X3 hd_X3_judge ⟨rfl, rfl⟩ ⟨by decide, by decide⟩) l_recv0 rfl (Nat.le_of_ble_eq_true rfl) dL_1499 1502 rfl ?_
  refine l_aload_n C dL_1502 rfl 1 rfl 1503 rfl ?_
  refine l_arg C hX hbl hL (i := i) 1 (by omega) (by decide) dL_1503 dL_1504 dL_1505 dL_1506 dL_1507 1508 rfl ?_
  refine l_callVi (As := [.int (xs (i + 1))]) (rest := [.int r]) C (c_X4_judge l g s.heap.size x2 mm _ r mm2 h2) (j_cwV C qc_X4_judge qm_L_199 qi_X4_judge qs_X4_judge qn_X4 hd_X4_judge ⟨rfl, rfl⟩ ⟨by decide, by decide⟩) l_recv56 rfl (Nat.le_of_ble_eq_true rfl) dL_1508 1511 rfl ?_
  exact l_icmp_eq C dL_1511 1601 (by decide) 1514 rfl (fun _ => kk x2 mm2 h3) (fun z => absurd rfl z)
theorem law_k45 (C : Cl p m c s b g) (hX : va_X b L xs s s.heap) (hbl : b < s.heap.size) (hL : L ≤ 3072) (hi : i + 6 ≤ L) (hR : RLL x mm) (kk : ∀ x2 mm2 : St, RLL x2 mm2 → Wl p l e s m b below meth c g x2 mm2 1601 (lvL g b i) []) : Wl p l e s m b below meth c g x mm 1516 (lvL g b i) [] := by
  obtain ⟨r, x2, mm2, h1, h2, h3⟩ := op_image  x mm hR
  refine l_aload_n C dL_1516 rfl 2 rfl 1517 rfl ?_
  refine l_callVi (As := []) (rest := []) C (c_X3_image l g s.heap.size x mm  r x2 h1) (j_cwV C qc_X3_image qm_L_200 qi_X3_image qs_X3_image qn_X3 hd_X3_image ⟨rfl, rfl⟩ ⟨by decide, by decide⟩) l_recv0 rfl (Nat.le_of_ble_eq_true rfl) dL_1517 1520 rfl ?_
  refine l_aload_n C dL_1520 rfl 1 rfl 1521 rfl ?_
  refine l_callVi (As := []) (rest := [.int r]) C (c_X4_image l g s.heap.size x2 mm  r mm2 h2) (j_cwV C qc_X4_image qm_L_203 qi_X4_image qs_X4_image qn_X4 hd_X4_image ⟨rfl, rfl⟩ ⟨by decide, by decide⟩) l_recv56 rfl (Nat.le_of_ble_eq_true rfl) dL_1521 1524 rfl ?_
  exact l_icmp_eq C dL_1524 1601 (by decide) 1527 rfl (fun _ => kk x2 mm2 h3) (fun z => absurd rfl z)
theorem law_k46 (C : Cl p m c s b g) (hX : va_X b L xs s s.heap) (hbl : b < s.heap.size) (hL : L ≤ 3072) (hi : i + 6 ≤ L) (hR : RLL x mm) (kk : ∀ x2 mm2 : St, RLL x2 mm2 → Wl p l e s m b below meth c g x2 mm2 1601 (lvL g b i) []) : Wl p l e s m b below meth c g x mm 1529 (lvL g b i) [] := by
  obtain ⟨r, x2, mm2, h1, h2, h3⟩ := op_undo  x mm hR
  refine l_aload_n C dL_1529 rfl 2 rfl 1530 rfl ?_
  refine l_callVi (As := []) (rest := []) C (c_X3_undo l g s.heap.size x mm  r x2 h1) (j_cwV C qc_X3_undo qm_L_204 qi_X3_undo qs_X3_undo qn_X3 hd_X3_undo ⟨rfl, rfl⟩ ⟨by decide, by decide⟩) l_recv0 rfl (Nat.le_of_ble_eq_true rfl) dL_1530 1533 rfl ?_
  refine l_aload_n C dL_1533 rfl 1 rfl 1534 rfl ?_
  refine l_callVi (As := []) (rest := [.int r]) C (c_X4_undo l g s.heap.size x2 mm  r mm2 h2) (j_cwV C qc_X4_undo qm_L_207 qi_X4_undo qs_X4_undo qn_X4 hd_X4_undo ⟨rfl, rfl⟩ ⟨by decide, by decide⟩) l_recv56 rfl (Nat.le_of_ble_eq_true rfl) dL_1534 1537 rfl ?_
  exact l_icmp_eq C dL_1537 1601 (by decide) 1540 rfl (fun _ => kk x2 mm2 h3) (fun z => absurd rfl z)
theorem law_k47 (C : Cl p m c s b g) (hX : va_X b L xs s s.heap) (hbl : b < s.heap.size) (hL : L ≤ 3072) (hi : i + 6 ≤ L) (hR : RLL x mm) (kk : ∀ x2 mm2 : St, RLL x2 mm2 → Wl p l e s m b below meth c g x2 mm2 1601 (lvL g b i) []) : Wl p l e s m b below meth c g x mm 1542 (lvL g b i) [] := by
  obtain ⟨r, x2, mm2, h1, h2, h3⟩ := op_tear  x mm hR
  refine l_aload_n C dL_1542 rfl 2 rfl 1543 rfl ?_
  refine l_callVi (As := []) (rest := []) C (c_X3_tear l g s.heap.size x mm  r x2 h1) (j_cwV C qc_X3_tear qm_L_208 qi_X3_tear qs_X3_tear qn_X3 hd_X3_tear ⟨rfl, rfl⟩ ⟨by decide, by decide⟩) l_recv0 rfl (Nat.le_of_ble_eq_true rfl) dL_1543 1546 rfl ?_
  refine l_aload_n C dL_1546 rfl 1 rfl 1547 rfl ?_
  refine l_callVi (As := []) (rest := [.int r]) C (c_X4_tear l g s.heap.size x2 mm  r mm2 h2) (j_cwV C qc_X4_tear qm_L_211 qi_X4_tear qs_X4_tear qn_X4 hd_X4_tear ⟨rfl, rfl⟩ ⟨by decide, by decide⟩) l_recv56 rfl (Nat.le_of_ble_eq_true rfl) dL_1547 1550 rfl ?_
  exact l_icmp_eq C dL_1550 1601 (by decide) 1553 rfl (fun _ => kk x2 mm2 h3) (fun z => absurd rfl z)
theorem law_k48 (C : Cl p m c s b g) (hX : va_X b L xs s s.heap) (hbl : b < s.heap.size) (hL : L ≤ 3072) (hi : i + 6 ≤ L) (hR : RLL x mm) (kk : ∀ x2 mm2 : St, RLL x2 mm2 → Wl p l e s m b below meth c g x2 mm2 1601 (lvL g b i) []) : Wl p l e s m b below meth c g x mm 1555 (lvL g b i) [] := by
  obtain ⟨r, x2, mm2, h1, h2, h3⟩ := op_count (xs (i + 1)) x mm hR
  refine l_aload_n C dL_1555 rfl 2 rfl 1556 rfl ?_
  refine l_arg C hX hbl hL (i := i) 1 (by omega) (by decide) dL_1556 dL_1557 dL_1558 dL_1559 dL_1560 1561 rfl ?_
  refine l_callVi (As := [.int (xs (i + 1))]) (rest := []) C (c_X3_count l g s.heap.size x mm _ r x2 h1) (j_cwV C qc_X3_count qm_L_212 qi_X3_count qs_X3_count qn_X3 hd_X3_count ⟨rfl, rfl⟩ ⟨by decide, by decide⟩) l_recv0 rfl (Nat.le_of_ble_eq_true rfl) dL_1561 1564 rfl ?_
  refine l_aload_n C dL_1564 rfl 1 rfl 1565 rfl ?_
  refine l_arg C hX hbl hL (i := i) 1 (by omega) (by decide) dL_1565 dL_1566 dL_1567 dL_1568 dL_1569 1570 rfl ?_
  refine l_callVi (As := [.int (xs (i + 1))]) (rest := [.int r]) C (c_X4_count l g s.heap.size x2 mm _ r mm2 h2) (j_cwV C qc_X4_count qm_L_215 qi_X4_count qs_X4_count qn_X4 hd_X4_count ⟨rfl, rfl⟩ ⟨by decide, by decide⟩) l_recv56 rfl (Nat.le_of_ble_eq_true rfl) dL_1570 1573 rfl ?_
  exact l_icmp_eq C dL_1573 1601 (by decide) 1576 rfl (fun _ => kk x2 mm2 h3) (fun z => absurd rfl z)
theorem law_k49 (C : Cl p m c s b g) (hX : va_X b L xs s s.heap) (hbl : b < s.heap.size) (hL : L ≤ 3072) (hi : i + 6 ≤ L) (hR : RLL x mm) (kk : ∀ x2 mm2 : St, RLL x2 mm2 → Wl p l e s m b below meth c g x2 mm2 1601 (lvL g b i) []) : Wl p l e s m b below meth c g x mm 1578 (lvL g b i) [] := by
  obtain ⟨r, x2, mm2, h1, h2, h3⟩ := op_status (xs (i + 1)) x mm hR
  refine l_aload_n C dL_1578 rfl 2 rfl 1579 rfl ?_
  refine l_arg C hX hbl hL (i := i) 1 (by omega) (by decide) dL_1579 dL_1580 dL_1581 dL_1582 dL_1583 1584 rfl ?_
  refine l_callVi (As := [.int (xs (i + 1))]) (rest := []) C (c_X3_status l g s.heap.size x mm _ r x2 h1) (j_cwV C qc_X3_status qm_L_216 qi_X3_status qs_X3_status qn_X3 hd_X3_status ⟨rfl, rfl⟩ ⟨by decide, by decide⟩) l_recv0 rfl (Nat.le_of_ble_eq_true rfl) dL_1584 1587 rfl ?_
  refine l_aload_n C dL_1587 rfl 1 rfl 1588 rfl ?_
  refine l_arg C hX hbl hL (i := i) 1 (by omega) (by decide) dL_1588 dL_1589 dL_1590 dL_1591 dL_1592 1593 rfl ?_
  refine l_callVi (As := [.int (xs (i + 1))]) (rest := [.int r]) C (c_X4_status l g s.heap.size x2 mm _ r mm2 h2) (j_cwV C qc_X4_status qm_L_219 qi_X4_status qs_X4_status qn_X4 hd_X4_status ⟨rfl, rfl⟩ ⟨by decide, by decide⟩) l_recv56 rfl (Nat.le_of_ble_eq_true rfl) dL_1593 1596 rfl ?_
  exact l_icmp_eq C dL_1596 1601 (by decide) 1599 rfl (fun _ => kk x2 mm2 h3) (fun z => absurd rfl z)
end LK
