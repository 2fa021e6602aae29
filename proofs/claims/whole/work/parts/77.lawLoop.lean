theorem lin {j N : Nat} (hj : j < 2 ^ 31) (h : j < N) : vp_in (nI j) N := fun q => by
  rcases q with q | q
  · rw [Int32.lt_iff_toInt_lt, nI_toInt hj, show (0 : Int32).toInt = 0 from rfl] at q
    omega
  · rw [nI_clamp hj] at q
    omega
theorem law_arg {n : jN} {h : jH} {t k pc : Nat} {ki : Int} {st : List Value} {res : Option Value × jH} (d0 : decode code pc = .ok (.aload_n 0, 1)) (d1 : decode code (pc + 1) = .ok (.iload_n 3, 1)) (d2 : decode code (pc + 2) = .ok (.iconst ki, 1)) (d3 : decode code (pc + 3) = .ok (.iadd, 1)) (d4 : decode code (pc + 4) = .ok (.iaload, 1)) (hk : Int32.ofInt ki = nI k) (hin : t + k < jl n) (hl : jl n ≤ 3072) (kk : jJ n 22 code 4 "YesNoPowersLaw" (pc + 5) [some (.ref 152), some (.ref 0), some (.ref 135), some (.int (nI t))] (.int (jx n (t + k)) :: st) h res) : jJ n 22 code 4 "YesNoPowersLaw" pc [some (.ref 152), some (.ref 0), some (.ref 135), some (.int (nI t))] st h res := by
  refine j_aload_n d0 rfl ?_
  refine j_iload_n d1 rfl ?_
  refine j_iconst (v := nI k) d2 hk ?_
  refine j_iaddN d3 ?_
  refine j_sld d4 (lin (by omega) hin) ?_
  rw [nI_clamp (by omega)]
  exact kk
theorem lcmp_self (v : Int64) : lg_cmp v v = 0 := Int32.toInt_inj.mp (by
  have a : lg_cmp v v ≤ 0 := by rw [lg_cmp_le, Int64.le_iff_toInt_le]; omega
  have b : 0 ≤ lg_cmp v v := by rw [lg_cmp_ge, Int64.le_iff_toInt_le]; omega
  rw [Int32.le_iff_toInt_le] at a b
  omega)
theorem lc_0 {n : jN} {h : jH} {t : Nat} (hI : Inv h) (ht : t + 6 ≤ jl n) (hl : jl n ≤ 3072) : ∃ h2, Inv h2 ∧ ∀ res, jJ n 22 code 4 "YesNoPowersLaw" 1649 [some (.ref 152), some (.ref 0), some (.ref 135), some (.int (nI t))] [] h2 res → jJ n 22 code 4 "YesNoPowersLaw" 208 [some (.ref 152), some (.ref 0), some (.ref 135), some (.int (nI t))] [] h res := by
  obtain ⟨v, h1, h2, ca, cb, hI2⟩ := k_make (n := n) hI (jx n (t + 1)) (jx n (t + 2)) (jx n (t + 3))
  refine ⟨h2, hI2, fun res kk => ?_⟩
  refine j_aload_n d_law_208 rfl ?_
  refine law_arg (k := 1) d_law_209 d_law_210 d_law_211 d_law_212 d_law_213 rfl (by omega) hl ?_
  refine law_arg (k := 2) d_law_214 d_law_215 d_law_216 d_law_217 d_law_218 rfl (by omega) hl ?_
  refine law_arg (k := 3) d_law_219 d_law_220 d_law_221 d_law_222 d_law_223 rfl (by omega) hl ?_
  refine j_callVs (As := [.int (jx n (t + 1)), .int (jx n (t + 2)), .int (jx n (t + 3))]) (st := []) ca d_law_224 (by decide) jm_Main_make jk_Law_13 ji_Main_make js_Main_make rfl (by decide) rfl rfl (Nat.le_of_ble_eq_true rfl) rfl ?_
  refine j_aload_n d_law_227 rfl ?_
  refine law_arg (k := 1) d_law_228 d_law_229 d_law_230 d_law_231 d_law_232 rfl (by omega) hl ?_
  refine law_arg (k := 2) d_law_233 d_law_234 d_law_235 d_law_236 d_law_237 rfl (by omega) hl ?_
  refine law_arg (k := 3) d_law_238 d_law_239 d_law_240 d_law_241 d_law_242 rfl (by omega) hl ?_
  refine j_callVs (As := [.int (jx n (t + 1)), .int (jx n (t + 2)), .int (jx n (t + 3))]) (st := [.int v]) cb d_law_243 (by decide) jm_Model_make jk_Law_17 ji_Model_make js_Model_make rfl (by decide) rfl rfl (Nat.le_of_ble_eq_true rfl) rfl ?_
  exact j_icmp_eq_t (tgt := 1649) d_law_246 (by decide) rfl kk
theorem lc_1 {n : jN} {h : jH} {t : Nat} (hI : Inv h) (ht : t + 6 ≤ jl n) (hl : jl n ≤ 3072) : ∃ h2, Inv h2 ∧ ∀ res, jJ n 22 code 4 "YesNoPowersLaw" 1649 [some (.ref 152), some (.ref 0), some (.ref 135), some (.int (nI t))] [] h2 res → jJ n 22 code 4 "YesNoPowersLaw" 251 [some (.ref 152), some (.ref 0), some (.ref 135), some (.int (nI t))] [] h res := by
  obtain ⟨v, h1, h2, ca, cb, hI2⟩ := k_put (n := n) hI (jx n (t + 1)) (jx n (t + 2)) (jx n (t + 3)) (jx n (t + 4))
  refine ⟨h2, hI2, fun res kk => ?_⟩
  refine j_aload_n d_law_251 rfl ?_
  refine law_arg (k := 1) d_law_252 d_law_253 d_law_254 d_law_255 d_law_256 rfl (by omega) hl ?_
  refine law_arg (k := 2) d_law_257 d_law_258 d_law_259 d_law_260 d_law_261 rfl (by omega) hl ?_
  refine law_arg (k := 3) d_law_262 d_law_263 d_law_264 d_law_265 d_law_266 rfl (by omega) hl ?_
  refine law_arg (k := 4) d_law_267 d_law_268 d_law_269 d_law_270 d_law_271 rfl (by omega) hl ?_
  refine j_callVs (As := [.int (jx n (t + 1)), .int (jx n (t + 2)), .int (jx n (t + 3)), .int (jx n (t + 4))]) (st := []) ca d_law_272 (by decide) jm_Main_put jk_Law_18 ji_Main_put js_Main_put rfl (by decide) rfl rfl (Nat.le_of_ble_eq_true rfl) rfl ?_
  refine j_aload_n d_law_275 rfl ?_
  refine law_arg (k := 1) d_law_276 d_law_277 d_law_278 d_law_279 d_law_280 rfl (by omega) hl ?_
  refine law_arg (k := 2) d_law_281 d_law_282 d_law_283 d_law_284 d_law_285 rfl (by omega) hl ?_
  refine law_arg (k := 3) d_law_286 d_law_287 d_law_288 d_law_289 d_law_290 rfl (by omega) hl ?_
  refine law_arg (k := 4) d_law_291 d_law_292 d_law_293 d_law_294 d_law_295 rfl (by omega) hl ?_
  refine j_callVs (As := [.int (jx n (t + 1)), .int (jx n (t + 2)), .int (jx n (t + 3)), .int (jx n (t + 4))]) (st := [.int v]) cb d_law_296 (by decide) jm_Model_put jk_Law_22 ji_Model_put js_Model_put rfl (by decide) rfl rfl (Nat.le_of_ble_eq_true rfl) rfl ?_
  exact j_icmp_eq_t (tgt := 1649) d_law_299 (by decide) rfl kk
theorem lc_2 {n : jN} {h : jH} {t : Nat} (hI : Inv h) (ht : t + 6 ≤ jl n) (hl : jl n ≤ 3072) : ∃ h2, Inv h2 ∧ ∀ res, jJ n 22 code 4 "YesNoPowersLaw" 1649 [some (.ref 152), some (.ref 0), some (.ref 135), some (.int (nI t))] [] h2 res → jJ n 22 code 4 "YesNoPowersLaw" 304 [some (.ref 152), some (.ref 0), some (.ref 135), some (.int (nI t))] [] h res := by
  obtain ⟨v, h1, h2, ca, cb, hI2⟩ := k_at (n := n) hI (jx n (t + 1)) (jx n (t + 2)) (jx n (t + 3))
  refine ⟨h2, hI2, fun res kk => ?_⟩
  refine j_aload_n d_law_304 rfl ?_
  refine law_arg (k := 1) d_law_305 d_law_306 d_law_307 d_law_308 d_law_309 rfl (by omega) hl ?_
  refine law_arg (k := 2) d_law_310 d_law_311 d_law_312 d_law_313 d_law_314 rfl (by omega) hl ?_
  refine law_arg (k := 3) d_law_315 d_law_316 d_law_317 d_law_318 d_law_319 rfl (by omega) hl ?_
  refine j_callVs (As := [.int (jx n (t + 1)), .int (jx n (t + 2)), .int (jx n (t + 3))]) (st := []) ca d_law_320 (by decide) jm_Main_at jk_Law_23 ji_Main_at js_Main_at rfl (by decide) rfl rfl (Nat.le_of_ble_eq_true rfl) rfl ?_
  refine j_aload_n d_law_323 rfl ?_
  refine law_arg (k := 1) d_law_324 d_law_325 d_law_326 d_law_327 d_law_328 rfl (by omega) hl ?_
  refine law_arg (k := 2) d_law_329 d_law_330 d_law_331 d_law_332 d_law_333 rfl (by omega) hl ?_
  refine law_arg (k := 3) d_law_334 d_law_335 d_law_336 d_law_337 d_law_338 rfl (by omega) hl ?_
  refine j_callVs (As := [.int (jx n (t + 1)), .int (jx n (t + 2)), .int (jx n (t + 3))]) (st := [.int v]) cb d_law_339 (by decide) jm_Model_at jk_Law_26 ji_Model_at js_Model_at rfl (by decide) rfl rfl (Nat.le_of_ble_eq_true rfl) rfl ?_
  exact j_icmp_eq_t (tgt := 1649) d_law_342 (by decide) rfl kk
theorem lc_3 {n : jN} {h : jH} {t : Nat} (hI : Inv h) (ht : t + 6 ≤ jl n) (hl : jl n ≤ 3072) : ∃ h2, Inv h2 ∧ ∀ res, jJ n 22 code 4 "YesNoPowersLaw" 1649 [some (.ref 152), some (.ref 0), some (.ref 135), some (.int (nI t))] [] h2 res → jJ n 22 code 4 "YesNoPowersLaw" 347 [some (.ref 152), some (.ref 0), some (.ref 135), some (.int (nI t))] [] h res := by
  obtain ⟨v, h1, h2, ca, cb, hI2⟩ := k_line (n := n) hI (jx n (t + 1)) (jx n (t + 2)) (jx n (t + 3))
  refine ⟨h2, hI2, fun res kk => ?_⟩
  refine j_aload_n d_law_347 rfl ?_
  refine law_arg (k := 1) d_law_348 d_law_349 d_law_350 d_law_351 d_law_352 rfl (by omega) hl ?_
  refine law_arg (k := 2) d_law_353 d_law_354 d_law_355 d_law_356 d_law_357 rfl (by omega) hl ?_
  refine law_arg (k := 3) d_law_358 d_law_359 d_law_360 d_law_361 d_law_362 rfl (by omega) hl ?_
  refine j_callVs (As := [.int (jx n (t + 1)), .int (jx n (t + 2)), .int (jx n (t + 3))]) (st := []) ca d_law_363 (by decide) jm_Main_line jk_Law_27 ji_Main_line js_Main_line rfl (by decide) rfl rfl (Nat.le_of_ble_eq_true rfl) rfl ?_
  refine j_aload_n d_law_366 rfl ?_
  refine law_arg (k := 1) d_law_367 d_law_368 d_law_369 d_law_370 d_law_371 rfl (by omega) hl ?_
  refine law_arg (k := 2) d_law_372 d_law_373 d_law_374 d_law_375 d_law_376 rfl (by omega) hl ?_
  refine law_arg (k := 3) d_law_377 d_law_378 d_law_379 d_law_380 d_law_381 rfl (by omega) hl ?_
  refine j_callVs (As := [.int (jx n (t + 1)), .int (jx n (t + 2)), .int (jx n (t + 3))]) (st := [.int v]) cb d_law_382 (by decide) jm_Model_line jk_Law_30 ji_Model_line js_Model_line rfl (by decide) rfl rfl (Nat.le_of_ble_eq_true rfl) rfl ?_
  exact j_icmp_eq_t (tgt := 1649) d_law_385 (by decide) rfl kk
theorem lc_4 {n : jN} {h : jH} {t : Nat} (hI : Inv h) (ht : t + 6 ≤ jl n) (hl : jl n ≤ 3072) : ∃ h2, Inv h2 ∧ ∀ res, jJ n 22 code 4 "YesNoPowersLaw" 1649 [some (.ref 152), some (.ref 0), some (.ref 135), some (.int (nI t))] [] h2 res → jJ n 22 code 4 "YesNoPowersLaw" 390 [some (.ref 152), some (.ref 0), some (.ref 135), some (.int (nI t))] [] h res := by
  obtain ⟨v, h1, h2, ca, cb, hI2⟩ := k_setRow (n := n) hI (jx n (t + 1)) (jx n (t + 2)) (jx n (t + 3))
  refine ⟨h2, hI2, fun res kk => ?_⟩
  refine j_aload_n d_law_390 rfl ?_
  refine law_arg (k := 1) d_law_391 d_law_392 d_law_393 d_law_394 d_law_395 rfl (by omega) hl ?_
  refine law_arg (k := 2) d_law_396 d_law_397 d_law_398 d_law_399 d_law_400 rfl (by omega) hl ?_
  refine law_arg (k := 3) d_law_401 d_law_402 d_law_403 d_law_404 d_law_405 rfl (by omega) hl ?_
  refine j_callVs (As := [.int (jx n (t + 1)), .int (jx n (t + 2)), .int (jx n (t + 3))]) (st := []) ca d_law_406 (by decide) jm_Main_setRow jk_Law_31 ji_Main_setRow js_Main_setRow rfl (by decide) rfl rfl (Nat.le_of_ble_eq_true rfl) rfl ?_
  refine j_aload_n d_law_409 rfl ?_
  refine law_arg (k := 1) d_law_410 d_law_411 d_law_412 d_law_413 d_law_414 rfl (by omega) hl ?_
  refine law_arg (k := 2) d_law_415 d_law_416 d_law_417 d_law_418 d_law_419 rfl (by omega) hl ?_
  refine law_arg (k := 3) d_law_420 d_law_421 d_law_422 d_law_423 d_law_424 rfl (by omega) hl ?_
  refine j_callVs (As := [.int (jx n (t + 1)), .int (jx n (t + 2)), .int (jx n (t + 3))]) (st := [.int v]) cb d_law_425 (by decide) jm_Model_setRow jk_Law_34 ji_Model_setRow js_Model_setRow rfl (by decide) rfl rfl (Nat.le_of_ble_eq_true rfl) rfl ?_
  exact j_icmp_eq_t (tgt := 1649) d_law_428 (by decide) rfl kk
theorem lc_5 {n : jN} {h : jH} {t : Nat} (hI : Inv h) (ht : t + 6 ≤ jl n) (hl : jl n ≤ 3072) : ∃ h2, Inv h2 ∧ ∀ res, jJ n 22 code 4 "YesNoPowersLaw" 1649 [some (.ref 152), some (.ref 0), some (.ref 135), some (.int (nI t))] [] h2 res → jJ n 22 code 4 "YesNoPowersLaw" 433 [some (.ref 152), some (.ref 0), some (.ref 135), some (.int (nI t))] [] h res := by
  obtain ⟨v, h1, h2, ca, cb, hI2⟩ := k_times (n := n) hI (jx n (t + 1)) (jx n (t + 2)) (jx n (t + 3))
  refine ⟨h2, hI2, fun res kk => ?_⟩
  refine j_aload_n d_law_433 rfl ?_
  refine law_arg (k := 1) d_law_434 d_law_435 d_law_436 d_law_437 d_law_438 rfl (by omega) hl ?_
  refine law_arg (k := 2) d_law_439 d_law_440 d_law_441 d_law_442 d_law_443 rfl (by omega) hl ?_
  refine law_arg (k := 3) d_law_444 d_law_445 d_law_446 d_law_447 d_law_448 rfl (by omega) hl ?_
  refine j_callVs (As := [.int (jx n (t + 1)), .int (jx n (t + 2)), .int (jx n (t + 3))]) (st := []) ca d_law_449 (by decide) jm_Main_times jk_Law_35 ji_Main_times js_Main_times rfl (by decide) rfl rfl (Nat.le_of_ble_eq_true rfl) rfl ?_
  refine j_aload_n d_law_452 rfl ?_
  refine law_arg (k := 1) d_law_453 d_law_454 d_law_455 d_law_456 d_law_457 rfl (by omega) hl ?_
  refine law_arg (k := 2) d_law_458 d_law_459 d_law_460 d_law_461 d_law_462 rfl (by omega) hl ?_
  refine law_arg (k := 3) d_law_463 d_law_464 d_law_465 d_law_466 d_law_467 rfl (by omega) hl ?_
  refine j_callVs (As := [.int (jx n (t + 1)), .int (jx n (t + 2)), .int (jx n (t + 3))]) (st := [.int v]) cb d_law_468 (by decide) jm_Model_times jk_Law_38 ji_Model_times js_Model_times rfl (by decide) rfl rfl (Nat.le_of_ble_eq_true rfl) rfl ?_
  exact j_icmp_eq_t (tgt := 1649) d_law_471 (by decide) rfl kk
theorem lc_6 {n : jN} {h : jH} {t : Nat} (hI : Inv h) (ht : t + 6 ≤ jl n) (hl : jl n ≤ 3072) : ∃ h2, Inv h2 ∧ ∀ res, jJ n 22 code 4 "YesNoPowersLaw" 1649 [some (.ref 152), some (.ref 0), some (.ref 135), some (.int (nI t))] [] h2 res → jJ n 22 code 4 "YesNoPowersLaw" 476 [some (.ref 152), some (.ref 0), some (.ref 135), some (.int (nI t))] [] h res := by
  obtain ⟨v, h1, h2, ca, cb, hI2⟩ := k_plus (n := n) hI (jx n (t + 1)) (jx n (t + 2)) (jx n (t + 3))
  refine ⟨h2, hI2, fun res kk => ?_⟩
  refine j_aload_n d_law_476 rfl ?_
  refine law_arg (k := 1) d_law_477 d_law_478 d_law_479 d_law_480 d_law_481 rfl (by omega) hl ?_
  refine law_arg (k := 2) d_law_482 d_law_483 d_law_484 d_law_485 d_law_486 rfl (by omega) hl ?_
  refine law_arg (k := 3) d_law_487 d_law_488 d_law_489 d_law_490 d_law_491 rfl (by omega) hl ?_
  refine j_callVs (As := [.int (jx n (t + 1)), .int (jx n (t + 2)), .int (jx n (t + 3))]) (st := []) ca d_law_492 (by decide) jm_Main_plus jk_Law_39 ji_Main_plus js_Main_plus rfl (by decide) rfl rfl (Nat.le_of_ble_eq_true rfl) rfl ?_
  refine j_aload_n d_law_495 rfl ?_
  refine law_arg (k := 1) d_law_496 d_law_497 d_law_498 d_law_499 d_law_500 rfl (by omega) hl ?_
  refine law_arg (k := 2) d_law_501 d_law_502 d_law_503 d_law_504 d_law_505 rfl (by omega) hl ?_
  refine law_arg (k := 3) d_law_506 d_law_507 d_law_508 d_law_509 d_law_510 rfl (by omega) hl ?_
  refine j_callVs (As := [.int (jx n (t + 1)), .int (jx n (t + 2)), .int (jx n (t + 3))]) (st := [.int v]) cb d_law_511 (by decide) jm_Model_plus jk_Law_42 ji_Model_plus js_Model_plus rfl (by decide) rfl rfl (Nat.le_of_ble_eq_true rfl) rfl ?_
  exact j_icmp_eq_t (tgt := 1649) d_law_514 (by decide) rfl kk
theorem lc_7 {n : jN} {h : jH} {t : Nat} (hI : Inv h) (ht : t + 6 ≤ jl n) (hl : jl n ≤ 3072) : ∃ h2, Inv h2 ∧ ∀ res, jJ n 22 code 4 "YesNoPowersLaw" 1649 [some (.ref 152), some (.ref 0), some (.ref 135), some (.int (nI t))] [] h2 res → jJ n 22 code 4 "YesNoPowersLaw" 519 [some (.ref 152), some (.ref 0), some (.ref 135), some (.int (nI t))] [] h res := by
  obtain ⟨v, h1, h2, ca, cb, hI2⟩ := k_power (n := n) hI (jx n (t + 1)) (jx n (t + 2)) (jx n (t + 3))
  refine ⟨h2, hI2, fun res kk => ?_⟩
  refine j_aload_n d_law_519 rfl ?_
  refine law_arg (k := 1) d_law_520 d_law_521 d_law_522 d_law_523 d_law_524 rfl (by omega) hl ?_
  refine law_arg (k := 2) d_law_525 d_law_526 d_law_527 d_law_528 d_law_529 rfl (by omega) hl ?_
  refine law_arg (k := 3) d_law_530 d_law_531 d_law_532 d_law_533 d_law_534 rfl (by omega) hl ?_
  refine j_callVs (As := [.int (jx n (t + 1)), .int (jx n (t + 2)), .int (jx n (t + 3))]) (st := []) ca d_law_535 (by decide) jm_Main_power jk_Law_43 ji_Main_power js_Main_power rfl (by decide) rfl rfl (Nat.le_of_ble_eq_true rfl) rfl ?_
  refine j_aload_n d_law_538 rfl ?_
  refine law_arg (k := 1) d_law_539 d_law_540 d_law_541 d_law_542 d_law_543 rfl (by omega) hl ?_
  refine law_arg (k := 2) d_law_544 d_law_545 d_law_546 d_law_547 d_law_548 rfl (by omega) hl ?_
  refine law_arg (k := 3) d_law_549 d_law_550 d_law_551 d_law_552 d_law_553 rfl (by omega) hl ?_
  refine j_callVs (As := [.int (jx n (t + 1)), .int (jx n (t + 2)), .int (jx n (t + 3))]) (st := [.int v]) cb d_law_554 (by decide) jm_Model_power jk_Law_46 ji_Model_power js_Model_power rfl (by decide) rfl rfl (Nat.le_of_ble_eq_true rfl) rfl ?_
  exact j_icmp_eq_t (tgt := 1649) d_law_557 (by decide) rfl kk
theorem lc_8 {n : jN} {h : jH} {t : Nat} (hI : Inv h) (ht : t + 6 ≤ jl n) (hl : jl n ≤ 3072) : ∃ h2, Inv h2 ∧ ∀ res, jJ n 22 code 4 "YesNoPowersLaw" 1649 [some (.ref 152), some (.ref 0), some (.ref 135), some (.int (nI t))] [] h2 res → jJ n 22 code 4 "YesNoPowersLaw" 562 [some (.ref 152), some (.ref 0), some (.ref 135), some (.int (nI t))] [] h res := by
  obtain ⟨v, h1, h2, ca, cb, hI2⟩ := k_derive (n := n) hI (jx n (t + 1)) (jx n (t + 2)) (jx n (t + 3))
  refine ⟨h2, hI2, fun res kk => ?_⟩
  refine j_aload_n d_law_562 rfl ?_
  refine law_arg (k := 1) d_law_563 d_law_564 d_law_565 d_law_566 d_law_567 rfl (by omega) hl ?_
  refine law_arg (k := 2) d_law_568 d_law_569 d_law_570 d_law_571 d_law_572 rfl (by omega) hl ?_
  refine law_arg (k := 3) d_law_573 d_law_574 d_law_575 d_law_576 d_law_577 rfl (by omega) hl ?_
  refine j_callVs (As := [.int (jx n (t + 1)), .int (jx n (t + 2)), .int (jx n (t + 3))]) (st := []) ca d_law_578 (by decide) jm_Main_derive jk_Law_47 ji_Main_derive js_Main_derive rfl (by decide) rfl rfl (Nat.le_of_ble_eq_true rfl) rfl ?_
  refine j_aload_n d_law_581 rfl ?_
  refine law_arg (k := 1) d_law_582 d_law_583 d_law_584 d_law_585 d_law_586 rfl (by omega) hl ?_
  refine law_arg (k := 2) d_law_587 d_law_588 d_law_589 d_law_590 d_law_591 rfl (by omega) hl ?_
  refine law_arg (k := 3) d_law_592 d_law_593 d_law_594 d_law_595 d_law_596 rfl (by omega) hl ?_
  refine j_callVs (As := [.int (jx n (t + 1)), .int (jx n (t + 2)), .int (jx n (t + 3))]) (st := [.int v]) cb d_law_597 (by decide) jm_Model_derive jk_Law_50 ji_Model_derive js_Model_derive rfl (by decide) rfl rfl (Nat.le_of_ble_eq_true rfl) rfl ?_
  exact j_icmp_eq_t (tgt := 1649) d_law_600 (by decide) rfl kk
theorem lc_9 {n : jN} {h : jH} {t : Nat} (hI : Inv h) (ht : t + 6 ≤ jl n) (hl : jl n ≤ 3072) : ∃ h2, Inv h2 ∧ ∀ res, jJ n 22 code 4 "YesNoPowersLaw" 1649 [some (.ref 152), some (.ref 0), some (.ref 135), some (.int (nI t))] [] h2 res → jJ n 22 code 4 "YesNoPowersLaw" 605 [some (.ref 152), some (.ref 0), some (.ref 135), some (.int (nI t))] [] h res := by
  obtain ⟨v, h1, h2, ca, cb, hI2⟩ := k_clear (n := n) hI (jx n (t + 1))
  refine ⟨h2, hI2, fun res kk => ?_⟩
  refine j_aload_n d_law_605 rfl ?_
  refine law_arg (k := 1) d_law_606 d_law_607 d_law_608 d_law_609 d_law_610 rfl (by omega) hl ?_
  refine j_callVs (As := [.int (jx n (t + 1))]) (st := []) ca d_law_611 (by decide) jm_Main_clear jk_Law_51 ji_Main_clear js_Main_clear rfl (by decide) rfl rfl (Nat.le_of_ble_eq_true rfl) rfl ?_
  refine j_aload_n d_law_614 rfl ?_
  refine law_arg (k := 1) d_law_615 d_law_616 d_law_617 d_law_618 d_law_619 rfl (by omega) hl ?_
  refine j_callVs (As := [.int (jx n (t + 1))]) (st := [.int v]) cb d_law_620 (by decide) jm_Model_clear jk_Law_55 ji_Model_clear js_Model_clear rfl (by decide) rfl rfl (Nat.le_of_ble_eq_true rfl) rfl ?_
  exact j_icmp_eq_t (tgt := 1649) d_law_623 (by decide) rfl kk
theorem lc_10 {n : jN} {h : jH} {t : Nat} (hI : Inv h) (ht : t + 6 ≤ jl n) (hl : jl n ≤ 3072) : ∃ h2, Inv h2 ∧ ∀ res, jJ n 22 code 4 "YesNoPowersLaw" 1649 [some (.ref 152), some (.ref 0), some (.ref 135), some (.int (nI t))] [] h2 res → jJ n 22 code 4 "YesNoPowersLaw" 628 [some (.ref 152), some (.ref 0), some (.ref 135), some (.int (nI t))] [] h res := by
  obtain ⟨v, h1, h2, ca, cb, hI2⟩ := k_same (n := n) hI (jx n (t + 1)) (jx n (t + 2))
  refine ⟨h2, hI2, fun res kk => ?_⟩
  refine j_aload_n d_law_628 rfl ?_
  refine law_arg (k := 1) d_law_629 d_law_630 d_law_631 d_law_632 d_law_633 rfl (by omega) hl ?_
  refine law_arg (k := 2) d_law_634 d_law_635 d_law_636 d_law_637 d_law_638 rfl (by omega) hl ?_
  refine j_callVs (As := [.int (jx n (t + 1)), .int (jx n (t + 2))]) (st := []) ca d_law_639 (by decide) jm_Main_same jk_Law_56 ji_Main_same js_Main_same rfl (by decide) rfl rfl (Nat.le_of_ble_eq_true rfl) rfl ?_
  refine j_aload_n d_law_642 rfl ?_
  refine law_arg (k := 1) d_law_643 d_law_644 d_law_645 d_law_646 d_law_647 rfl (by omega) hl ?_
  refine law_arg (k := 2) d_law_648 d_law_649 d_law_650 d_law_651 d_law_652 rfl (by omega) hl ?_
  refine j_callVs (As := [.int (jx n (t + 1)), .int (jx n (t + 2))]) (st := [.int v]) cb d_law_653 (by decide) jm_Model_same jk_Law_60 ji_Model_same js_Model_same rfl (by decide) rfl rfl (Nat.le_of_ble_eq_true rfl) rfl ?_
  exact j_icmp_eq_t (tgt := 1649) d_law_656 (by decide) rfl kk
theorem lc_11 {n : jN} {h : jH} {t : Nat} (hI : Inv h) (ht : t + 6 ≤ jl n) (hl : jl n ≤ 3072) : ∃ h2, Inv h2 ∧ ∀ res, jJ n 22 code 4 "YesNoPowersLaw" 1649 [some (.ref 152), some (.ref 0), some (.ref 135), some (.int (nI t))] [] h2 res → jJ n 22 code 4 "YesNoPowersLaw" 661 [some (.ref 152), some (.ref 0), some (.ref 135), some (.int (nI t))] [] h res := by
  obtain ⟨v, h1, h2, ca, cb, hI2⟩ := k_load (n := n) hI (jx n (t + 1)) (jx n (t + 2)) (jx n (t + 3)) (jx n (t + 4))
  refine ⟨h2, hI2, fun res kk => ?_⟩
  refine j_aload_n d_law_661 rfl ?_
  refine law_arg (k := 1) d_law_662 d_law_663 d_law_664 d_law_665 d_law_666 rfl (by omega) hl ?_
  refine law_arg (k := 2) d_law_667 d_law_668 d_law_669 d_law_670 d_law_671 rfl (by omega) hl ?_
  refine law_arg (k := 3) d_law_672 d_law_673 d_law_674 d_law_675 d_law_676 rfl (by omega) hl ?_
  refine law_arg (k := 4) d_law_677 d_law_678 d_law_679 d_law_680 d_law_681 rfl (by omega) hl ?_
  refine j_callVs (As := [.int (jx n (t + 1)), .int (jx n (t + 2)), .int (jx n (t + 3)), .int (jx n (t + 4))]) (st := []) ca d_law_682 (by decide) jm_Main_load jk_Law_61 ji_Main_load js_Main_load rfl (by decide) rfl rfl (Nat.le_of_ble_eq_true rfl) rfl ?_
  refine j_aload_n d_law_685 rfl ?_
  refine law_arg (k := 1) d_law_686 d_law_687 d_law_688 d_law_689 d_law_690 rfl (by omega) hl ?_
  refine law_arg (k := 2) d_law_691 d_law_692 d_law_693 d_law_694 d_law_695 rfl (by omega) hl ?_
  refine law_arg (k := 3) d_law_696 d_law_697 d_law_698 d_law_699 d_law_700 rfl (by omega) hl ?_
  refine law_arg (k := 4) d_law_701 d_law_702 d_law_703 d_law_704 d_law_705 rfl (by omega) hl ?_
  refine j_callVs (As := [.int (jx n (t + 1)), .int (jx n (t + 2)), .int (jx n (t + 3)), .int (jx n (t + 4))]) (st := [.int v]) cb d_law_706 (by decide) jm_Model_load jk_Law_64 ji_Model_load js_Model_load rfl (by decide) rfl rfl (Nat.le_of_ble_eq_true rfl) rfl ?_
  exact j_icmp_eq_t (tgt := 1649) d_law_709 (by decide) rfl kk
theorem lc_12 {n : jN} {h : jH} {t : Nat} (hI : Inv h) (ht : t + 6 ≤ jl n) (hl : jl n ≤ 3072) : ∃ h2, Inv h2 ∧ ∀ res, jJ n 22 code 4 "YesNoPowersLaw" 1649 [some (.ref 152), some (.ref 0), some (.ref 135), some (.int (nI t))] [] h2 res → jJ n 22 code 4 "YesNoPowersLaw" 714 [some (.ref 152), some (.ref 0), some (.ref 135), some (.int (nI t))] [] h res := by
  obtain ⟨v, h1, h2, ca, cb, hI2⟩ := k_spill (n := n) hI (jx n (t + 1)) (jx n (t + 2)) (jx n (t + 3))
  refine ⟨h2, hI2, fun res kk => ?_⟩
  refine j_aload_n d_law_714 rfl ?_
  refine law_arg (k := 1) d_law_715 d_law_716 d_law_717 d_law_718 d_law_719 rfl (by omega) hl ?_
  refine law_arg (k := 2) d_law_720 d_law_721 d_law_722 d_law_723 d_law_724 rfl (by omega) hl ?_
  refine law_arg (k := 3) d_law_725 d_law_726 d_law_727 d_law_728 d_law_729 rfl (by omega) hl ?_
  refine j_callVs (As := [.int (jx n (t + 1)), .int (jx n (t + 2)), .int (jx n (t + 3))]) (st := []) ca d_law_730 (by decide) jm_Main_spill jk_Law_65 ji_Main_spill js_Main_spill rfl (by decide) rfl rfl (Nat.le_of_ble_eq_true rfl) rfl ?_
  refine j_aload_n d_law_733 rfl ?_
  refine law_arg (k := 1) d_law_734 d_law_735 d_law_736 d_law_737 d_law_738 rfl (by omega) hl ?_
  refine law_arg (k := 2) d_law_739 d_law_740 d_law_741 d_law_742 d_law_743 rfl (by omega) hl ?_
  refine law_arg (k := 3) d_law_744 d_law_745 d_law_746 d_law_747 d_law_748 rfl (by omega) hl ?_
  refine j_callVs (As := [.int (jx n (t + 1)), .int (jx n (t + 2)), .int (jx n (t + 3))]) (st := [.int v]) cb d_law_749 (by decide) jm_Model_spill jk_Law_68 ji_Model_spill js_Model_spill rfl (by decide) rfl rfl (Nat.le_of_ble_eq_true rfl) rfl ?_
  exact j_icmp_eq_t (tgt := 1649) d_law_752 (by decide) rfl kk
theorem lc_13 {n : jN} {h : jH} {t : Nat} (hI : Inv h) (ht : t + 6 ≤ jl n) (hl : jl n ≤ 3072) : ∃ h2, Inv h2 ∧ ∀ res, jJ n 22 code 4 "YesNoPowersLaw" 1649 [some (.ref 152), some (.ref 0), some (.ref 135), some (.int (nI t))] [] h2 res → jJ n 22 code 4 "YesNoPowersLaw" 757 [some (.ref 152), some (.ref 0), some (.ref 135), some (.int (nI t))] [] h res := by
  obtain ⟨v, h1, h2, ca, cb, hI2⟩ := k_told (n := n) hI (jx n (t + 1)) (jx n (t + 2))
  refine ⟨h2, hI2, fun res kk => ?_⟩
  refine j_aload_n d_law_757 rfl ?_
  refine law_arg (k := 1) d_law_758 d_law_759 d_law_760 d_law_761 d_law_762 rfl (by omega) hl ?_
  refine law_arg (k := 2) d_law_763 d_law_764 d_law_765 d_law_766 d_law_767 rfl (by omega) hl ?_
  refine j_callVs (As := [.int (jx n (t + 1)), .int (jx n (t + 2))]) (st := []) ca d_law_768 (by decide) jm_Main_told jk_Law_69 ji_Main_told js_Main_told rfl (by decide) rfl rfl (Nat.le_of_ble_eq_true rfl) rfl ?_
  refine j_aload_n d_law_771 rfl ?_
  refine law_arg (k := 1) d_law_772 d_law_773 d_law_774 d_law_775 d_law_776 rfl (by omega) hl ?_
  refine law_arg (k := 2) d_law_777 d_law_778 d_law_779 d_law_780 d_law_781 rfl (by omega) hl ?_
  refine j_callVs (As := [.int (jx n (t + 1)), .int (jx n (t + 2))]) (st := [.int v]) cb d_law_782 (by decide) jm_Model_told jk_Law_72 ji_Model_told js_Model_told rfl (by decide) rfl rfl (Nat.le_of_ble_eq_true rfl) rfl ?_
  exact j_icmp_eq_t (tgt := 1649) d_law_785 (by decide) rfl kk
theorem lc_14 {n : jN} {h : jH} {t : Nat} (hI : Inv h) (ht : t + 6 ≤ jl n) (hl : jl n ≤ 3072) : ∃ h2, Inv h2 ∧ ∀ res, jJ n 22 code 4 "YesNoPowersLaw" 1649 [some (.ref 152), some (.ref 0), some (.ref 135), some (.int (nI t))] [] h2 res → jJ n 22 code 4 "YesNoPowersLaw" 790 [some (.ref 152), some (.ref 0), some (.ref 135), some (.int (nI t))] [] h res := by
  obtain ⟨v, h1, h2, ca, cb, hI2⟩ := k_reaches (n := n) hI (jx n (t + 1)) (jx n (t + 2))
  refine ⟨h2, hI2, fun res kk => ?_⟩
  refine j_aload_n d_law_790 rfl ?_
  refine law_arg (k := 1) d_law_791 d_law_792 d_law_793 d_law_794 d_law_795 rfl (by omega) hl ?_
  refine law_arg (k := 2) d_law_796 d_law_797 d_law_798 d_law_799 d_law_800 rfl (by omega) hl ?_
  refine j_callVs (As := [.int (jx n (t + 1)), .int (jx n (t + 2))]) (st := []) ca d_law_801 (by decide) jm_Main_reaches jk_Law_73 ji_Main_reaches js_Main_reaches rfl (by decide) rfl rfl (Nat.le_of_ble_eq_true rfl) rfl ?_
  refine j_aload_n d_law_804 rfl ?_
  refine law_arg (k := 1) d_law_805 d_law_806 d_law_807 d_law_808 d_law_809 rfl (by omega) hl ?_
  refine law_arg (k := 2) d_law_810 d_law_811 d_law_812 d_law_813 d_law_814 rfl (by omega) hl ?_
  refine j_callVs (As := [.int (jx n (t + 1)), .int (jx n (t + 2))]) (st := [.int v]) cb d_law_815 (by decide) jm_Model_reaches jk_Law_76 ji_Model_reaches js_Model_reaches rfl (by decide) rfl rfl (Nat.le_of_ble_eq_true rfl) rfl ?_
  exact j_icmp_eq_t (tgt := 1649) d_law_818 (by decide) rfl kk
theorem lc_15 {n : jN} {h : jH} {t : Nat} (hI : Inv h) (ht : t + 6 ≤ jl n) (hl : jl n ≤ 3072) : ∃ h2, Inv h2 ∧ ∀ res, jJ n 22 code 4 "YesNoPowersLaw" 1649 [some (.ref 152), some (.ref 0), some (.ref 135), some (.int (nI t))] [] h2 res → jJ n 22 code 4 "YesNoPowersLaw" 823 [some (.ref 152), some (.ref 0), some (.ref 135), some (.int (nI t))] [] h res := by
  obtain ⟨v, h1, h2, ca, cb, hI2⟩ := k_bound (n := n) hI (jx n (t + 1)) (jx n (t + 2))
  refine ⟨h2, hI2, fun res kk => ?_⟩
  refine j_aload_n d_law_823 rfl ?_
  refine law_arg (k := 1) d_law_824 d_law_825 d_law_826 d_law_827 d_law_828 rfl (by omega) hl ?_
  refine law_arg (k := 2) d_law_829 d_law_830 d_law_831 d_law_832 d_law_833 rfl (by omega) hl ?_
  refine j_callVs (As := [.int (jx n (t + 1)), .int (jx n (t + 2))]) (st := []) ca d_law_834 (by decide) jm_Main_bound jk_Law_77 ji_Main_bound js_Main_bound rfl (by decide) rfl rfl (Nat.le_of_ble_eq_true rfl) rfl ?_
  refine j_aload_n d_law_837 rfl ?_
  refine law_arg (k := 1) d_law_838 d_law_839 d_law_840 d_law_841 d_law_842 rfl (by omega) hl ?_
  refine law_arg (k := 2) d_law_843 d_law_844 d_law_845 d_law_846 d_law_847 rfl (by omega) hl ?_
  refine j_callVs (As := [.int (jx n (t + 1)), .int (jx n (t + 2))]) (st := [.int v]) cb d_law_848 (by decide) jm_Model_bound jk_Law_80 ji_Model_bound js_Model_bound rfl (by decide) rfl rfl (Nat.le_of_ble_eq_true rfl) rfl ?_
  exact j_icmp_eq_t (tgt := 1649) d_law_851 (by decide) rfl kk
theorem lc_16 {n : jN} {h : jH} {t : Nat} (hI : Inv h) (ht : t + 6 ≤ jl n) (hl : jl n ≤ 3072) : ∃ h2, Inv h2 ∧ ∀ res, jJ n 22 code 4 "YesNoPowersLaw" 1649 [some (.ref 152), some (.ref 0), some (.ref 135), some (.int (nI t))] [] h2 res → jJ n 22 code 4 "YesNoPowersLaw" 856 [some (.ref 152), some (.ref 0), some (.ref 135), some (.int (nI t))] [] h res := by
  obtain ⟨v, h1, h2, ca, cb, hI2⟩ := k_classes (n := n) hI (jx n (t + 1))
  refine ⟨h2, hI2, fun res kk => ?_⟩
  refine j_aload_n d_law_856 rfl ?_
  refine law_arg (k := 1) d_law_857 d_law_858 d_law_859 d_law_860 d_law_861 rfl (by omega) hl ?_
  refine j_callVs (As := [.int (jx n (t + 1))]) (st := []) ca d_law_862 (by decide) jm_Main_classes jk_Law_81 ji_Main_classes js_Main_classes rfl (by decide) rfl rfl (Nat.le_of_ble_eq_true rfl) rfl ?_
  refine j_aload_n d_law_865 rfl ?_
  refine law_arg (k := 1) d_law_866 d_law_867 d_law_868 d_law_869 d_law_870 rfl (by omega) hl ?_
  refine j_callVs (As := [.int (jx n (t + 1))]) (st := [.int v]) cb d_law_871 (by decide) jm_Model_classes jk_Law_84 ji_Model_classes js_Model_classes rfl (by decide) rfl rfl (Nat.le_of_ble_eq_true rfl) rfl ?_
  exact j_icmp_eq_t (tgt := 1649) d_law_874 (by decide) rfl kk
theorem lc_17 {n : jN} {h : jH} {t : Nat} (hI : Inv h) (ht : t + 6 ≤ jl n) (hl : jl n ≤ 3072) : ∃ h2, Inv h2 ∧ ∀ res, jJ n 22 code 4 "YesNoPowersLaw" 1649 [some (.ref 152), some (.ref 0), some (.ref 135), some (.int (nI t))] [] h2 res → jJ n 22 code 4 "YesNoPowersLaw" 879 [some (.ref 152), some (.ref 0), some (.ref 135), some (.int (nI t))] [] h res := by
  obtain ⟨v, h1, h2, ca, cb, hI2⟩ := k_classOf (n := n) hI (jx n (t + 1)) (jx n (t + 2))
  refine ⟨h2, hI2, fun res kk => ?_⟩
  refine j_aload_n d_law_879 rfl ?_
  refine law_arg (k := 1) d_law_880 d_law_881 d_law_882 d_law_883 d_law_884 rfl (by omega) hl ?_
  refine law_arg (k := 2) d_law_885 d_law_886 d_law_887 d_law_888 d_law_889 rfl (by omega) hl ?_
  refine j_callVs (As := [.int (jx n (t + 1)), .int (jx n (t + 2))]) (st := []) ca d_law_890 (by decide) jm_Main_classOf jk_Law_85 ji_Main_classOf js_Main_classOf rfl (by decide) rfl rfl (Nat.le_of_ble_eq_true rfl) rfl ?_
  refine j_aload_n d_law_893 rfl ?_
  refine law_arg (k := 1) d_law_894 d_law_895 d_law_896 d_law_897 d_law_898 rfl (by omega) hl ?_
  refine law_arg (k := 2) d_law_899 d_law_900 d_law_901 d_law_902 d_law_903 rfl (by omega) hl ?_
  refine j_callVs (As := [.int (jx n (t + 1)), .int (jx n (t + 2))]) (st := [.int v]) cb d_law_904 (by decide) jm_Model_classOf jk_Law_88 ji_Model_classOf js_Model_classOf rfl (by decide) rfl rfl (Nat.le_of_ble_eq_true rfl) rfl ?_
  exact j_icmp_eq_t (tgt := 1649) d_law_907 (by decide) rfl kk
theorem lc_18 {n : jN} {h : jH} {t : Nat} (hI : Inv h) (ht : t + 6 ≤ jl n) (hl : jl n ≤ 3072) : ∃ h2, Inv h2 ∧ ∀ res, jJ n 22 code 4 "YesNoPowersLaw" 1649 [some (.ref 152), some (.ref 0), some (.ref 135), some (.int (nI t))] [] h2 res → jJ n 22 code 4 "YesNoPowersLaw" 912 [some (.ref 152), some (.ref 0), some (.ref 135), some (.int (nI t))] [] h res := by
  obtain ⟨v, h1, h2, ca, cb, hI2⟩ := k_ofClass (n := n) hI (jx n (t + 1)) (jx n (t + 2)) (jx n (t + 3))
  refine ⟨h2, hI2, fun res kk => ?_⟩
  refine j_aload_n d_law_912 rfl ?_
  refine law_arg (k := 1) d_law_913 d_law_914 d_law_915 d_law_916 d_law_917 rfl (by omega) hl ?_
  refine law_arg (k := 2) d_law_918 d_law_919 d_law_920 d_law_921 d_law_922 rfl (by omega) hl ?_
  refine law_arg (k := 3) d_law_923 d_law_924 d_law_925 d_law_926 d_law_927 rfl (by omega) hl ?_
  refine j_callVs (As := [.int (jx n (t + 1)), .int (jx n (t + 2)), .int (jx n (t + 3))]) (st := []) ca d_law_928 (by decide) jm_Main_ofClass jk_Law_89 ji_Main_ofClass js_Main_ofClass rfl (by decide) rfl rfl (Nat.le_of_ble_eq_true rfl) rfl ?_
  refine j_aload_n d_law_931 rfl ?_
  refine law_arg (k := 1) d_law_932 d_law_933 d_law_934 d_law_935 d_law_936 rfl (by omega) hl ?_
  refine law_arg (k := 2) d_law_937 d_law_938 d_law_939 d_law_940 d_law_941 rfl (by omega) hl ?_
  refine law_arg (k := 3) d_law_942 d_law_943 d_law_944 d_law_945 d_law_946 rfl (by omega) hl ?_
  refine j_callVs (As := [.int (jx n (t + 1)), .int (jx n (t + 2)), .int (jx n (t + 3))]) (st := [.int v]) cb d_law_947 (by decide) jm_Model_ofClass jk_Law_92 ji_Model_ofClass js_Model_ofClass rfl (by decide) rfl rfl (Nat.le_of_ble_eq_true rfl) rfl ?_
  exact j_icmp_eq_t (tgt := 1649) d_law_950 (by decide) rfl kk
theorem lc_19 {n : jN} {h : jH} {t : Nat} (hI : Inv h) (ht : t + 6 ≤ jl n) (hl : jl n ≤ 3072) : ∃ h2, Inv h2 ∧ ∀ res, jJ n 22 code 4 "YesNoPowersLaw" 1649 [some (.ref 152), some (.ref 0), some (.ref 135), some (.int (nI t))] [] h2 res → jJ n 22 code 4 "YesNoPowersLaw" 955 [some (.ref 152), some (.ref 0), some (.ref 135), some (.int (nI t))] [] h res := by
  obtain ⟨v, h1, h2, ca, cb, hI2⟩ := k_part (n := n) hI (jx n (t + 1)) (jx n (t + 2))
  refine ⟨h2, hI2, fun res kk => ?_⟩
  refine j_aload_n d_law_955 rfl ?_
  refine law_arg (k := 1) d_law_956 d_law_957 d_law_958 d_law_959 d_law_960 rfl (by omega) hl ?_
  refine law_arg (k := 2) d_law_961 d_law_962 d_law_963 d_law_964 d_law_965 rfl (by omega) hl ?_
  refine j_callVs (As := [.int (jx n (t + 1)), .int (jx n (t + 2))]) (st := []) ca d_law_966 (by decide) jm_Main_part jk_Law_93 ji_Main_part js_Main_part rfl (by decide) rfl rfl (Nat.le_of_ble_eq_true rfl) rfl ?_
  refine j_aload_n d_law_969 rfl ?_
  refine law_arg (k := 1) d_law_970 d_law_971 d_law_972 d_law_973 d_law_974 rfl (by omega) hl ?_
  refine law_arg (k := 2) d_law_975 d_law_976 d_law_977 d_law_978 d_law_979 rfl (by omega) hl ?_
  refine j_callVs (As := [.int (jx n (t + 1)), .int (jx n (t + 2))]) (st := [.int v]) cb d_law_980 (by decide) jm_Model_part jk_Law_96 ji_Model_part js_Model_part rfl (by decide) rfl rfl (Nat.le_of_ble_eq_true rfl) rfl ?_
  exact j_icmp_eq_t (tgt := 1649) d_law_983 (by decide) rfl kk
theorem lc_20 {n : jN} {h : jH} {t : Nat} (hI : Inv h) (ht : t + 6 ≤ jl n) (hl : jl n ≤ 3072) : ∃ h2, Inv h2 ∧ ∀ res, jJ n 22 code 4 "YesNoPowersLaw" 1649 [some (.ref 152), some (.ref 0), some (.ref 135), some (.int (nI t))] [] h2 res → jJ n 22 code 4 "YesNoPowersLaw" 988 [some (.ref 152), some (.ref 0), some (.ref 135), some (.int (nI t))] [] h res := by
  obtain ⟨v, h1, h2, ca, cb, hI2⟩ := k_parts (n := n) hI (jx n (t + 1)) (jx n (t + 2)) (jx n (t + 3))
  refine ⟨h2, hI2, fun res kk => ?_⟩
  refine j_aload_n d_law_988 rfl ?_
  refine law_arg (k := 1) d_law_989 d_law_990 d_law_991 d_law_992 d_law_993 rfl (by omega) hl ?_
  refine law_arg (k := 2) d_law_994 d_law_995 d_law_996 d_law_997 d_law_998 rfl (by omega) hl ?_
  refine law_arg (k := 3) d_law_999 d_law_1000 d_law_1001 d_law_1002 d_law_1003 rfl (by omega) hl ?_
  refine j_callVs (As := [.int (jx n (t + 1)), .int (jx n (t + 2)), .int (jx n (t + 3))]) (st := []) ca d_law_1004 (by decide) jm_Main_parts jk_Law_97 ji_Main_parts js_Main_parts rfl (by decide) rfl rfl (Nat.le_of_ble_eq_true rfl) rfl ?_
  refine j_aload_n d_law_1007 rfl ?_
  refine law_arg (k := 1) d_law_1008 d_law_1009 d_law_1010 d_law_1011 d_law_1012 rfl (by omega) hl ?_
  refine law_arg (k := 2) d_law_1013 d_law_1014 d_law_1015 d_law_1016 d_law_1017 rfl (by omega) hl ?_
  refine law_arg (k := 3) d_law_1018 d_law_1019 d_law_1020 d_law_1021 d_law_1022 rfl (by omega) hl ?_
  refine j_callVs (As := [.int (jx n (t + 1)), .int (jx n (t + 2)), .int (jx n (t + 3))]) (st := [.int v]) cb d_law_1023 (by decide) jm_Model_parts jk_Law_100 ji_Model_parts js_Model_parts rfl (by decide) rfl rfl (Nat.le_of_ble_eq_true rfl) rfl ?_
  exact j_icmp_eq_t (tgt := 1649) d_law_1026 (by decide) rfl kk
theorem lc_21 {n : jN} {h : jH} {t : Nat} (hI : Inv h) (ht : t + 6 ≤ jl n) (hl : jl n ≤ 3072) : ∃ h2, Inv h2 ∧ ∀ res, jJ n 22 code 4 "YesNoPowersLaw" 1649 [some (.ref 152), some (.ref 0), some (.ref 135), some (.int (nI t))] [] h2 res → jJ n 22 code 4 "YesNoPowersLaw" 1031 [some (.ref 152), some (.ref 0), some (.ref 135), some (.int (nI t))] [] h res := by
  obtain ⟨v, h1, h2, ca, cb, hI2⟩ := k_rest (n := n) hI (jx n (t + 1)) (jx n (t + 2)) (jx n (t + 3))
  refine ⟨h2, hI2, fun res kk => ?_⟩
  refine j_aload_n d_law_1031 rfl ?_
  refine law_arg (k := 1) d_law_1032 d_law_1033 d_law_1034 d_law_1035 d_law_1036 rfl (by omega) hl ?_
  refine law_arg (k := 2) d_law_1037 d_law_1038 d_law_1039 d_law_1040 d_law_1041 rfl (by omega) hl ?_
  refine law_arg (k := 3) d_law_1042 d_law_1043 d_law_1044 d_law_1045 d_law_1046 rfl (by omega) hl ?_
  refine j_callVs (As := [.int (jx n (t + 1)), .int (jx n (t + 2)), .int (jx n (t + 3))]) (st := []) ca d_law_1047 (by decide) jm_Main_rest jk_Law_101 ji_Main_rest js_Main_rest rfl (by decide) rfl rfl (Nat.le_of_ble_eq_true rfl) rfl ?_
  refine j_aload_n d_law_1050 rfl ?_
  refine law_arg (k := 1) d_law_1051 d_law_1052 d_law_1053 d_law_1054 d_law_1055 rfl (by omega) hl ?_
  refine law_arg (k := 2) d_law_1056 d_law_1057 d_law_1058 d_law_1059 d_law_1060 rfl (by omega) hl ?_
  refine law_arg (k := 3) d_law_1061 d_law_1062 d_law_1063 d_law_1064 d_law_1065 rfl (by omega) hl ?_
  refine j_callVs (As := [.int (jx n (t + 1)), .int (jx n (t + 2)), .int (jx n (t + 3))]) (st := [.int v]) cb d_law_1066 (by decide) jm_Model_rest jk_Law_104 ji_Model_rest js_Model_rest rfl (by decide) rfl rfl (Nat.le_of_ble_eq_true rfl) rfl ?_
  exact j_icmp_eq_t (tgt := 1649) d_law_1069 (by decide) rfl kk
theorem lc_22 {n : jN} {h : jH} {t : Nat} (hI : Inv h) (ht : t + 6 ≤ jl n) (hl : jl n ≤ 3072) : ∃ h2, Inv h2 ∧ ∀ res, jJ n 22 code 4 "YesNoPowersLaw" 1649 [some (.ref 152), some (.ref 0), some (.ref 135), some (.int (nI t))] [] h2 res → jJ n 22 code 4 "YesNoPowersLaw" 1074 [some (.ref 152), some (.ref 0), some (.ref 135), some (.int (nI t))] [] h res := by
  obtain ⟨v, h1, h2, ca, cb, hI2⟩ := k_space (n := n) hI (jx n (t + 1)) (jx n (t + 2))
  refine ⟨h2, hI2, fun res kk => ?_⟩
  refine j_aload_n d_law_1074 rfl ?_
  refine law_arg (k := 1) d_law_1075 d_law_1076 d_law_1077 d_law_1078 d_law_1079 rfl (by omega) hl ?_
  refine law_arg (k := 2) d_law_1080 d_law_1081 d_law_1082 d_law_1083 d_law_1084 rfl (by omega) hl ?_
  refine j_callVs (As := [.int (jx n (t + 1)), .int (jx n (t + 2))]) (st := []) ca d_law_1085 (by decide) jm_Main_space jk_Law_105 ji_Main_space js_Main_space rfl (by decide) rfl rfl (Nat.le_of_ble_eq_true rfl) rfl ?_
  refine j_aload_n d_law_1088 rfl ?_
  refine law_arg (k := 1) d_law_1089 d_law_1090 d_law_1091 d_law_1092 d_law_1093 rfl (by omega) hl ?_
  refine law_arg (k := 2) d_law_1094 d_law_1095 d_law_1096 d_law_1097 d_law_1098 rfl (by omega) hl ?_
  refine j_callVs (As := [.int (jx n (t + 1)), .int (jx n (t + 2))]) (st := [.int v]) cb d_law_1099 (by decide) jm_Model_space jk_Law_108 ji_Model_space js_Model_space rfl (by decide) rfl rfl (Nat.le_of_ble_eq_true rfl) rfl ?_
  exact j_icmp_eq_t (tgt := 1649) d_law_1102 (by decide) rfl kk
theorem lc_23 {n : jN} {h : jH} {t : Nat} (hI : Inv h) (ht : t + 6 ≤ jl n) (hl : jl n ≤ 3072) : ∃ h2, Inv h2 ∧ ∀ res, jJ n 22 code 4 "YesNoPowersLaw" 1649 [some (.ref 152), some (.ref 0), some (.ref 135), some (.int (nI t))] [] h2 res → jJ n 22 code 4 "YesNoPowersLaw" 1107 [some (.ref 152), some (.ref 0), some (.ref 135), some (.int (nI t))] [] h res := by
  obtain ⟨v, h1, h2, ca, cb, hI2⟩ := k_basis (n := n) hI (jx n (t + 1)) (jx n (t + 2))
  refine ⟨h2, hI2, fun res kk => ?_⟩
  refine j_aload_n d_law_1107 rfl ?_
  refine law_arg (k := 1) d_law_1108 d_law_1109 d_law_1110 d_law_1111 d_law_1112 rfl (by omega) hl ?_
  refine law_arg (k := 2) d_law_1113 d_law_1114 d_law_1115 d_law_1116 d_law_1117 rfl (by omega) hl ?_
  refine j_callVs (As := [.int (jx n (t + 1)), .int (jx n (t + 2))]) (st := []) ca d_law_1118 (by decide) jm_Main_basis jk_Law_109 ji_Main_basis js_Main_basis rfl (by decide) rfl rfl (Nat.le_of_ble_eq_true rfl) rfl ?_
  refine j_aload_n d_law_1121 rfl ?_
  refine law_arg (k := 1) d_law_1122 d_law_1123 d_law_1124 d_law_1125 d_law_1126 rfl (by omega) hl ?_
  refine law_arg (k := 2) d_law_1127 d_law_1128 d_law_1129 d_law_1130 d_law_1131 rfl (by omega) hl ?_
  refine j_callVs (As := [.int (jx n (t + 1)), .int (jx n (t + 2))]) (st := [.int v]) cb d_law_1132 (by decide) jm_Model_basis jk_Law_112 ji_Model_basis js_Model_basis rfl (by decide) rfl rfl (Nat.le_of_ble_eq_true rfl) rfl ?_
  exact j_icmp_eq_t (tgt := 1649) d_law_1135 (by decide) rfl kk
theorem lc_24 {n : jN} {h : jH} {t : Nat} (hI : Inv h) (ht : t + 6 ≤ jl n) (hl : jl n ≤ 3072) : ∃ h2, Inv h2 ∧ ∀ res, jJ n 22 code 4 "YesNoPowersLaw" 1649 [some (.ref 152), some (.ref 0), some (.ref 135), some (.int (nI t))] [] h2 res → jJ n 22 code 4 "YesNoPowersLaw" 1140 [some (.ref 152), some (.ref 0), some (.ref 135), some (.int (nI t))] [] h res := by
  obtain ⟨v, h1, h2, ca, cb, hI2⟩ := k_spans (n := n) hI (jx n (t + 1)) (jx n (t + 2))
  refine ⟨h2, hI2, fun res kk => ?_⟩
  refine j_aload_n d_law_1140 rfl ?_
  refine law_arg (k := 1) d_law_1141 d_law_1142 d_law_1143 d_law_1144 d_law_1145 rfl (by omega) hl ?_
  refine law_arg (k := 2) d_law_1146 d_law_1147 d_law_1148 d_law_1149 d_law_1150 rfl (by omega) hl ?_
  refine j_callVs (As := [.int (jx n (t + 1)), .int (jx n (t + 2))]) (st := []) ca d_law_1151 (by decide) jm_Main_spans jk_Law_113 ji_Main_spans js_Main_spans rfl (by decide) rfl rfl (Nat.le_of_ble_eq_true rfl) rfl ?_
  refine j_aload_n d_law_1154 rfl ?_
  refine law_arg (k := 1) d_law_1155 d_law_1156 d_law_1157 d_law_1158 d_law_1159 rfl (by omega) hl ?_
  refine law_arg (k := 2) d_law_1160 d_law_1161 d_law_1162 d_law_1163 d_law_1164 rfl (by omega) hl ?_
  refine j_callVs (As := [.int (jx n (t + 1)), .int (jx n (t + 2))]) (st := [.int v]) cb d_law_1165 (by decide) jm_Model_spans jk_Law_116 ji_Model_spans js_Model_spans rfl (by decide) rfl rfl (Nat.le_of_ble_eq_true rfl) rfl ?_
  exact j_icmp_eq_t (tgt := 1649) d_law_1168 (by decide) rfl kk
theorem lc_25 {n : jN} {h : jH} {t : Nat} (hI : Inv h) (ht : t + 6 ≤ jl n) (hl : jl n ≤ 3072) : ∃ h2, Inv h2 ∧ ∀ res, jJ n 22 code 4 "YesNoPowersLaw" 1649 [some (.ref 152), some (.ref 0), some (.ref 135), some (.int (nI t))] [] h2 res → jJ n 22 code 4 "YesNoPowersLaw" 1173 [some (.ref 152), some (.ref 0), some (.ref 135), some (.int (nI t))] [] h res := by
  obtain ⟨v, h1, h2, ca, cb, hI2⟩ := k_alike (n := n) hI (jx n (t + 1)) (jx n (t + 2)) (jx n (t + 3))
  refine ⟨h2, hI2, fun res kk => ?_⟩
  refine j_aload_n d_law_1173 rfl ?_
  refine law_arg (k := 1) d_law_1174 d_law_1175 d_law_1176 d_law_1177 d_law_1178 rfl (by omega) hl ?_
  refine law_arg (k := 2) d_law_1179 d_law_1180 d_law_1181 d_law_1182 d_law_1183 rfl (by omega) hl ?_
  refine law_arg (k := 3) d_law_1184 d_law_1185 d_law_1186 d_law_1187 d_law_1188 rfl (by omega) hl ?_
  refine j_callVs (As := [.int (jx n (t + 1)), .int (jx n (t + 2)), .int (jx n (t + 3))]) (st := []) ca d_law_1189 (by decide) jm_Main_alike jk_Law_117 ji_Main_alike js_Main_alike rfl (by decide) rfl rfl (Nat.le_of_ble_eq_true rfl) rfl ?_
  refine j_aload_n d_law_1192 rfl ?_
  refine law_arg (k := 1) d_law_1193 d_law_1194 d_law_1195 d_law_1196 d_law_1197 rfl (by omega) hl ?_
  refine law_arg (k := 2) d_law_1198 d_law_1199 d_law_1200 d_law_1201 d_law_1202 rfl (by omega) hl ?_
  refine law_arg (k := 3) d_law_1203 d_law_1204 d_law_1205 d_law_1206 d_law_1207 rfl (by omega) hl ?_
  refine j_callVs (As := [.int (jx n (t + 1)), .int (jx n (t + 2)), .int (jx n (t + 3))]) (st := [.int v]) cb d_law_1208 (by decide) jm_Model_alike jk_Law_120 ji_Model_alike js_Model_alike rfl (by decide) rfl rfl (Nat.le_of_ble_eq_true rfl) rfl ?_
  exact j_icmp_eq_t (tgt := 1649) d_law_1211 (by decide) rfl kk
theorem lc_26 {n : jN} {h : jH} {t : Nat} (hI : Inv h) (ht : t + 6 ≤ jl n) (hl : jl n ≤ 3072) : ∃ h2, Inv h2 ∧ ∀ res, jJ n 22 code 4 "YesNoPowersLaw" 1649 [some (.ref 152), some (.ref 0), some (.ref 135), some (.int (nI t))] [] h2 res → jJ n 22 code 4 "YesNoPowersLaw" 1216 [some (.ref 152), some (.ref 0), some (.ref 135), some (.int (nI t))] [] h res := by
  obtain ⟨v, h1, h2, ca, cb, hI2⟩ := k_roots (n := n) hI (jx n (t + 1)) (jx n (t + 2))
  refine ⟨h2, hI2, fun res kk => ?_⟩
  refine j_aload_n d_law_1216 rfl ?_
  refine law_arg (k := 1) d_law_1217 d_law_1218 d_law_1219 d_law_1220 d_law_1221 rfl (by omega) hl ?_
  refine law_arg (k := 2) d_law_1222 d_law_1223 d_law_1224 d_law_1225 d_law_1226 rfl (by omega) hl ?_
  refine j_callVs (As := [.int (jx n (t + 1)), .int (jx n (t + 2))]) (st := []) ca d_law_1227 (by decide) jm_Main_roots jk_Law_121 ji_Main_roots js_Main_roots rfl (by decide) rfl rfl (Nat.le_of_ble_eq_true rfl) rfl ?_
  refine j_aload_n d_law_1230 rfl ?_
  refine law_arg (k := 1) d_law_1231 d_law_1232 d_law_1233 d_law_1234 d_law_1235 rfl (by omega) hl ?_
  refine law_arg (k := 2) d_law_1236 d_law_1237 d_law_1238 d_law_1239 d_law_1240 rfl (by omega) hl ?_
  refine j_callVs (As := [.int (jx n (t + 1)), .int (jx n (t + 2))]) (st := [.int v]) cb d_law_1241 (by decide) jm_Model_roots jk_Law_124 ji_Model_roots js_Model_roots rfl (by decide) rfl rfl (Nat.le_of_ble_eq_true rfl) rfl ?_
  exact j_icmp_eq_t (tgt := 1649) d_law_1244 (by decide) rfl kk
theorem lc_27 {n : jN} {h : jH} {t : Nat} (hI : Inv h) (ht : t + 6 ≤ jl n) (hl : jl n ≤ 3072) : ∃ h2, Inv h2 ∧ ∀ res, jJ n 22 code 4 "YesNoPowersLaw" 1649 [some (.ref 152), some (.ref 0), some (.ref 135), some (.int (nI t))] [] h2 res → jJ n 22 code 4 "YesNoPowersLaw" 1249 [some (.ref 152), some (.ref 0), some (.ref 135), some (.int (nI t))] [] h res := by
  obtain ⟨v, h1, h2, ca, cb, hI2⟩ := k_root (n := n) hI (jx n (t + 1)) (jx n (t + 2)) (jx n (t + 3))
  refine ⟨h2, hI2, fun res kk => ?_⟩
  refine j_aload_n d_law_1249 rfl ?_
  refine law_arg (k := 1) d_law_1250 d_law_1251 d_law_1252 d_law_1253 d_law_1254 rfl (by omega) hl ?_
  refine law_arg (k := 2) d_law_1255 d_law_1256 d_law_1257 d_law_1258 d_law_1259 rfl (by omega) hl ?_
  refine law_arg (k := 3) d_law_1260 d_law_1261 d_law_1262 d_law_1263 d_law_1264 rfl (by omega) hl ?_
  refine j_callVs (As := [.int (jx n (t + 1)), .int (jx n (t + 2)), .int (jx n (t + 3))]) (st := []) ca d_law_1265 (by decide) jm_Main_root jk_Law_125 ji_Main_root js_Main_root rfl (by decide) rfl rfl (Nat.le_of_ble_eq_true rfl) rfl ?_
  refine j_aload_n d_law_1268 rfl ?_
  refine law_arg (k := 1) d_law_1269 d_law_1270 d_law_1271 d_law_1272 d_law_1273 rfl (by omega) hl ?_
  refine law_arg (k := 2) d_law_1274 d_law_1275 d_law_1276 d_law_1277 d_law_1278 rfl (by omega) hl ?_
  refine law_arg (k := 3) d_law_1279 d_law_1280 d_law_1281 d_law_1282 d_law_1283 rfl (by omega) hl ?_
  refine j_callVs (As := [.int (jx n (t + 1)), .int (jx n (t + 2)), .int (jx n (t + 3))]) (st := [.int v]) cb d_law_1284 (by decide) jm_Model_root jk_Law_128 ji_Model_root js_Model_root rfl (by decide) rfl rfl (Nat.le_of_ble_eq_true rfl) rfl ?_
  exact j_icmp_eq_t (tgt := 1649) d_law_1287 (by decide) rfl kk
theorem lc_28 {n : jN} {h : jH} {t : Nat} (hI : Inv h) (ht : t + 6 ≤ jl n) (hl : jl n ≤ 3072) : ∃ h2, Inv h2 ∧ ∀ res, jJ n 22 code 4 "YesNoPowersLaw" 1649 [some (.ref 152), some (.ref 0), some (.ref 135), some (.int (nI t))] [] h2 res → jJ n 22 code 4 "YesNoPowersLaw" 1292 [some (.ref 152), some (.ref 0), some (.ref 135), some (.int (nI t))] [] h res := by
  obtain ⟨v, h1, h2, ca, cb, hI2⟩ := k_link (n := n) hI (jx n (t + 1)) (jx n (t + 2))
  refine ⟨h2, hI2, fun res kk => ?_⟩
  refine j_aload_n d_law_1292 rfl ?_
  refine law_arg (k := 1) d_law_1293 d_law_1294 d_law_1295 d_law_1296 d_law_1297 rfl (by omega) hl ?_
  refine law_arg (k := 2) d_law_1298 d_law_1299 d_law_1300 d_law_1301 d_law_1302 rfl (by omega) hl ?_
  refine j_callVs (As := [.int (jx n (t + 1)), .int (jx n (t + 2))]) (st := []) ca d_law_1303 (by decide) jm_Main_link jk_Law_129 ji_Main_link js_Main_link rfl (by decide) rfl rfl (Nat.le_of_ble_eq_true rfl) rfl ?_
  refine j_aload_n d_law_1306 rfl ?_
  refine law_arg (k := 1) d_law_1307 d_law_1308 d_law_1309 d_law_1310 d_law_1311 rfl (by omega) hl ?_
  refine law_arg (k := 2) d_law_1312 d_law_1313 d_law_1314 d_law_1315 d_law_1316 rfl (by omega) hl ?_
  refine j_callVs (As := [.int (jx n (t + 1)), .int (jx n (t + 2))]) (st := [.int v]) cb d_law_1317 (by decide) jm_Model_link jk_Law_132 ji_Model_link js_Model_link rfl (by decide) rfl rfl (Nat.le_of_ble_eq_true rfl) rfl ?_
  exact j_icmp_eq_t (tgt := 1649) d_law_1320 (by decide) rfl kk
theorem lc_29 {n : jN} {h : jH} {t : Nat} (hI : Inv h) (ht : t + 6 ≤ jl n) (hl : jl n ≤ 3072) : ∃ h2, Inv h2 ∧ ∀ res, jJ n 22 code 4 "YesNoPowersLaw" 1649 [some (.ref 152), some (.ref 0), some (.ref 135), some (.int (nI t))] [] h2 res → jJ n 22 code 4 "YesNoPowersLaw" 1325 [some (.ref 152), some (.ref 0), some (.ref 135), some (.int (nI t))] [] h res := by
  obtain ⟨v, h1, h2, ca, cb, hI2⟩ := k_run (n := n) hI (jx n (t + 1))
  refine ⟨h2, hI2, fun res kk => ?_⟩
  refine j_aload_n d_law_1325 rfl ?_
  refine law_arg (k := 1) d_law_1326 d_law_1327 d_law_1328 d_law_1329 d_law_1330 rfl (by omega) hl ?_
  refine j_callVs (As := [.int (jx n (t + 1))]) (st := []) ca d_law_1331 (by decide) jm_Main_run jk_Law_133 ji_Main_run js_Main_run rfl (by decide) rfl rfl (Nat.le_of_ble_eq_true rfl) rfl ?_
  refine j_aload_n d_law_1334 rfl ?_
  refine law_arg (k := 1) d_law_1335 d_law_1336 d_law_1337 d_law_1338 d_law_1339 rfl (by omega) hl ?_
  refine j_callVs (As := [.int (jx n (t + 1))]) (st := [.int v]) cb d_law_1340 (by decide) jm_Model_run jk_Law_136 ji_Model_run js_Model_run rfl (by decide) rfl rfl (Nat.le_of_ble_eq_true rfl) rfl ?_
  exact j_icmp_eq_t (tgt := 1649) d_law_1343 (by decide) rfl kk
theorem lc_30 {n : jN} {h : jH} {t : Nat} (hI : Inv h) (ht : t + 6 ≤ jl n) (hl : jl n ≤ 3072) : ∃ h2, Inv h2 ∧ ∀ res, jJ n 22 code 4 "YesNoPowersLaw" 1649 [some (.ref 152), some (.ref 0), some (.ref 135), some (.int (nI t))] [] h2 res → jJ n 22 code 4 "YesNoPowersLaw" 1348 [some (.ref 152), some (.ref 0), some (.ref 135), some (.int (nI t))] [] h res := by
  obtain ⟨v, h1, h2, ca, cb, hI2⟩ := k_would (n := n) hI (jx n (t + 1))
  refine ⟨h2, hI2, fun res kk => ?_⟩
  refine j_aload_n d_law_1348 rfl ?_
  refine law_arg (k := 1) d_law_1349 d_law_1350 d_law_1351 d_law_1352 d_law_1353 rfl (by omega) hl ?_
  refine j_callVs (As := [.int (jx n (t + 1))]) (st := []) ca d_law_1354 (by decide) jm_Main_would jk_Law_137 ji_Main_would js_Main_would rfl (by decide) rfl rfl (Nat.le_of_ble_eq_true rfl) rfl ?_
  refine j_aload_n d_law_1357 rfl ?_
  refine law_arg (k := 1) d_law_1358 d_law_1359 d_law_1360 d_law_1361 d_law_1362 rfl (by omega) hl ?_
  refine j_callVs (As := [.int (jx n (t + 1))]) (st := [.int v]) cb d_law_1363 (by decide) jm_Model_would jk_Law_140 ji_Model_would js_Model_would rfl (by decide) rfl rfl (Nat.le_of_ble_eq_true rfl) rfl ?_
  exact j_icmp_eq_t (tgt := 1649) d_law_1366 (by decide) rfl kk
theorem lc_31 {n : jN} {h : jH} {t : Nat} (hI : Inv h) (ht : t + 6 ≤ jl n) (hl : jl n ≤ 3072) : ∃ h2, Inv h2 ∧ ∀ res, jJ n 22 code 4 "YesNoPowersLaw" 1649 [some (.ref 152), some (.ref 0), some (.ref 135), some (.int (nI t))] [] h2 res → jJ n 22 code 4 "YesNoPowersLaw" 1371 [some (.ref 152), some (.ref 0), some (.ref 135), some (.int (nI t))] [] h res := by
  obtain ⟨v, h1, h2, ca, cb, hI2⟩ := k_closing (n := n) hI (jx n (t + 1))
  refine ⟨h2, hI2, fun res kk => ?_⟩
  refine j_aload_n d_law_1371 rfl ?_
  refine law_arg (k := 1) d_law_1372 d_law_1373 d_law_1374 d_law_1375 d_law_1376 rfl (by omega) hl ?_
  refine j_callVs (As := [.int (jx n (t + 1))]) (st := []) ca d_law_1377 (by decide) jm_Main_closing jk_Law_141 ji_Main_closing js_Main_closing rfl (by decide) rfl rfl (Nat.le_of_ble_eq_true rfl) rfl ?_
  refine j_aload_n d_law_1380 rfl ?_
  refine law_arg (k := 1) d_law_1381 d_law_1382 d_law_1383 d_law_1384 d_law_1385 rfl (by omega) hl ?_
  refine j_callVs (As := [.int (jx n (t + 1))]) (st := [.int v]) cb d_law_1386 (by decide) jm_Model_closing jk_Law_144 ji_Model_closing js_Model_closing rfl (by decide) rfl rfl (Nat.le_of_ble_eq_true rfl) rfl ?_
  exact j_icmp_eq_t (tgt := 1649) d_law_1389 (by decide) rfl kk
theorem lc_32 {n : jN} {h : jH} {t : Nat} (hI : Inv h) (ht : t + 6 ≤ jl n) (hl : jl n ≤ 3072) : ∃ h2, Inv h2 ∧ ∀ res, jJ n 22 code 4 "YesNoPowersLaw" 1649 [some (.ref 152), some (.ref 0), some (.ref 135), some (.int (nI t))] [] h2 res → jJ n 22 code 4 "YesNoPowersLaw" 1394 [some (.ref 152), some (.ref 0), some (.ref 135), some (.int (nI t))] [] h res := by
  obtain ⟨v, h1, h2, ca, cb, hI2⟩ := k_reason (n := n) hI (jx n (t + 1))
  refine ⟨h2, hI2, fun res kk => ?_⟩
  refine j_aload_n d_law_1394 rfl ?_
  refine law_arg (k := 1) d_law_1395 d_law_1396 d_law_1397 d_law_1398 d_law_1399 rfl (by omega) hl ?_
  refine j_callVs (As := [.int (jx n (t + 1))]) (st := []) ca d_law_1400 (by decide) jm_Main_reason jk_Law_145 ji_Main_reason js_Main_reason rfl (by decide) rfl rfl (Nat.le_of_ble_eq_true rfl) rfl ?_
  refine j_aload_n d_law_1403 rfl ?_
  refine law_arg (k := 1) d_law_1404 d_law_1405 d_law_1406 d_law_1407 d_law_1408 rfl (by omega) hl ?_
  refine j_callVs (As := [.int (jx n (t + 1))]) (st := [.int v]) cb d_law_1409 (by decide) jm_Model_reason jk_Law_148 ji_Model_reason js_Model_reason rfl (by decide) rfl rfl (Nat.le_of_ble_eq_true rfl) rfl ?_
  exact j_icmp_eq_t (tgt := 1649) d_law_1412 (by decide) rfl kk
theorem lc_33 {n : jN} {h : jH} {t : Nat} (hI : Inv h) (ht : t + 6 ≤ jl n) (hl : jl n ≤ 3072) : ∃ h2, Inv h2 ∧ ∀ res, jJ n 22 code 4 "YesNoPowersLaw" 1649 [some (.ref 152), some (.ref 0), some (.ref 135), some (.int (nI t))] [] h2 res → jJ n 22 code 4 "YesNoPowersLaw" 1417 [some (.ref 152), some (.ref 0), some (.ref 135), some (.int (nI t))] [] h res := by
  obtain ⟨v, h1, h2, ca, cb, hI2⟩ := k_loosen (n := n) hI 
  refine ⟨h2, hI2, fun res kk => ?_⟩
  refine j_aload_n d_law_1417 rfl ?_
  refine j_callVs (As := []) (st := []) ca d_law_1418 (by decide) jm_Main_loosen jk_Law_149 ji_Main_loosen js_Main_loosen rfl (by decide) rfl rfl (Nat.le_of_ble_eq_true rfl) rfl ?_
  refine j_aload_n d_law_1421 rfl ?_
  refine j_callVs (As := []) (st := [.int v]) cb d_law_1422 (by decide) jm_Model_loosen jk_Law_153 ji_Model_loosen js_Model_loosen rfl (by decide) rfl rfl (Nat.le_of_ble_eq_true rfl) rfl ?_
  exact j_icmp_eq_t (tgt := 1649) d_law_1425 (by decide) rfl kk
theorem lc_34 {n : jN} {h : jH} {t : Nat} (hI : Inv h) (ht : t + 6 ≤ jl n) (hl : jl n ≤ 3072) : ∃ h2, Inv h2 ∧ ∀ res, jJ n 22 code 4 "YesNoPowersLaw" 1649 [some (.ref 152), some (.ref 0), some (.ref 135), some (.int (nI t))] [] h2 res → jJ n 22 code 4 "YesNoPowersLaw" 1430 [some (.ref 152), some (.ref 0), some (.ref 135), some (.int (nI t))] [] h res := by
  obtain ⟨v, h1, h2, ca, cb, hI2⟩ := k_undo (n := n) hI 
  refine ⟨h2, hI2, fun res kk => ?_⟩
  refine j_aload_n d_law_1430 rfl ?_
  refine j_callVs (As := []) (st := []) ca d_law_1431 (by decide) jm_Main_undo jk_Law_154 ji_Main_undo js_Main_undo rfl (by decide) rfl rfl (Nat.le_of_ble_eq_true rfl) rfl ?_
  refine j_aload_n d_law_1434 rfl ?_
  refine j_callVs (As := []) (st := [.int v]) cb d_law_1435 (by decide) jm_Model_undo jk_Law_157 ji_Model_undo js_Model_undo rfl (by decide) rfl rfl (Nat.le_of_ble_eq_true rfl) rfl ?_
  exact j_icmp_eq_t (tgt := 1649) d_law_1438 (by decide) rfl kk
theorem lc_35 {n : jN} {h : jH} {t : Nat} (hI : Inv h) (ht : t + 6 ≤ jl n) (hl : jl n ≤ 3072) : ∃ h2, Inv h2 ∧ ∀ res, jJ n 22 code 4 "YesNoPowersLaw" 1649 [some (.ref 152), some (.ref 0), some (.ref 135), some (.int (nI t))] [] h2 res → jJ n 22 code 4 "YesNoPowersLaw" 1443 [some (.ref 152), some (.ref 0), some (.ref 135), some (.int (nI t))] [] h res := by
  obtain ⟨v, h1, h2, ca, cb, hI2⟩ := k_sheet (n := n) hI (jx n (t + 1)) (jx n (t + 2)) (jx n (t + 3))
  refine ⟨h2, hI2, fun res kk => ?_⟩
  refine j_aload_n d_law_1443 rfl ?_
  refine law_arg (k := 1) d_law_1444 d_law_1445 d_law_1446 d_law_1447 d_law_1448 rfl (by omega) hl ?_
  refine law_arg (k := 2) d_law_1449 d_law_1450 d_law_1451 d_law_1452 d_law_1453 rfl (by omega) hl ?_
  refine law_arg (k := 3) d_law_1454 d_law_1455 d_law_1456 d_law_1457 d_law_1458 rfl (by omega) hl ?_
  refine j_callVs (As := [.int (jx n (t + 1)), .int (jx n (t + 2)), .int (jx n (t + 3))]) (st := []) ca d_law_1459 (by decide) jm_Main_sheet jk_Law_158 ji_Main_sheet js_Main_sheet rfl (by decide) rfl rfl (Nat.le_of_ble_eq_true rfl) rfl ?_
  refine j_aload_n d_law_1462 rfl ?_
  refine law_arg (k := 1) d_law_1463 d_law_1464 d_law_1465 d_law_1466 d_law_1467 rfl (by omega) hl ?_
  refine law_arg (k := 2) d_law_1468 d_law_1469 d_law_1470 d_law_1471 d_law_1472 rfl (by omega) hl ?_
  refine law_arg (k := 3) d_law_1473 d_law_1474 d_law_1475 d_law_1476 d_law_1477 rfl (by omega) hl ?_
  refine j_callVs (As := [.int (jx n (t + 1)), .int (jx n (t + 2)), .int (jx n (t + 3))]) (st := [.int v]) cb d_law_1478 (by decide) jm_Model_sheet jk_Law_161 ji_Model_sheet js_Model_sheet rfl (by decide) rfl rfl (Nat.le_of_ble_eq_true rfl) rfl ?_
  exact j_icmp_eq_t (tgt := 1649) d_law_1481 (by decide) rfl kk
theorem lc_36 {n : jN} {h : jH} {t : Nat} (hI : Inv h) (ht : t + 6 ≤ jl n) (hl : jl n ≤ 3072) : ∃ h2, Inv h2 ∧ ∀ res, jJ n 22 code 4 "YesNoPowersLaw" 1649 [some (.ref 152), some (.ref 0), some (.ref 135), some (.int (nI t))] [] h2 res → jJ n 22 code 4 "YesNoPowersLaw" 1486 [some (.ref 152), some (.ref 0), some (.ref 135), some (.int (nI t))] [] h res := by
  obtain ⟨v, h1, h2, ca, cb, hI2⟩ := k_cell (n := n) hI (jx n (t + 1)) (jx n (t + 2)) (jx n (t + 3))
  refine ⟨h2, hI2, fun res kk => ?_⟩
  refine j_aload_n d_law_1486 rfl ?_
  refine law_arg (k := 1) d_law_1487 d_law_1488 d_law_1489 d_law_1490 d_law_1491 rfl (by omega) hl ?_
  refine law_arg (k := 2) d_law_1492 d_law_1493 d_law_1494 d_law_1495 d_law_1496 rfl (by omega) hl ?_
  refine law_arg (k := 3) d_law_1497 d_law_1498 d_law_1499 d_law_1500 d_law_1501 rfl (by omega) hl ?_
  refine j_callVs (As := [.int (jx n (t + 1)), .int (jx n (t + 2)), .int (jx n (t + 3))]) (st := []) ca d_law_1502 (by decide) jm_Main_cell jk_Law_162 ji_Main_cell js_Main_cell rfl (by decide) rfl rfl (Nat.le_of_ble_eq_true rfl) rfl ?_
  refine j_aload_n d_law_1505 rfl ?_
  refine law_arg (k := 1) d_law_1506 d_law_1507 d_law_1508 d_law_1509 d_law_1510 rfl (by omega) hl ?_
  refine law_arg (k := 2) d_law_1511 d_law_1512 d_law_1513 d_law_1514 d_law_1515 rfl (by omega) hl ?_
  refine law_arg (k := 3) d_law_1516 d_law_1517 d_law_1518 d_law_1519 d_law_1520 rfl (by omega) hl ?_
  refine j_callVs (As := [.int (jx n (t + 1)), .int (jx n (t + 2)), .int (jx n (t + 3))]) (st := [.int v]) cb d_law_1521 (by decide) jm_Model_cell jk_Law_165 ji_Model_cell js_Model_cell rfl (by decide) rfl rfl (Nat.le_of_ble_eq_true rfl) rfl ?_
  exact j_icmp_eq_t (tgt := 1649) d_law_1524 (by decide) rfl kk
theorem lc_37 {n : jN} {h : jH} {t : Nat} (hI : Inv h) (ht : t + 6 ≤ jl n) (hl : jl n ≤ 3072) : ∃ h2, Inv h2 ∧ ∀ res, jJ n 22 code 4 "YesNoPowersLaw" 1649 [some (.ref 152), some (.ref 0), some (.ref 135), some (.int (nI t))] [] h2 res → jJ n 22 code 4 "YesNoPowersLaw" 1529 [some (.ref 152), some (.ref 0), some (.ref 135), some (.int (nI t))] [] h res := by
  obtain ⟨v, h1, h2, ca, cb, hI2⟩ := k_item (n := n) hI (jx n (t + 1)) (jx n (t + 2))
  refine ⟨h2, hI2, fun res kk => ?_⟩
  refine j_aload_n d_law_1529 rfl ?_
  refine law_arg (k := 1) d_law_1530 d_law_1531 d_law_1532 d_law_1533 d_law_1534 rfl (by omega) hl ?_
  refine law_arg (k := 2) d_law_1535 d_law_1536 d_law_1537 d_law_1538 d_law_1539 rfl (by omega) hl ?_
  refine j_callVs (As := [.int (jx n (t + 1)), .int (jx n (t + 2))]) (st := []) ca d_law_1540 (by decide) jm_Main_item jk_Law_166 ji_Main_item js_Main_item rfl (by decide) rfl rfl (Nat.le_of_ble_eq_true rfl) rfl ?_
  refine j_aload_n d_law_1543 rfl ?_
  refine law_arg (k := 1) d_law_1544 d_law_1545 d_law_1546 d_law_1547 d_law_1548 rfl (by omega) hl ?_
  refine law_arg (k := 2) d_law_1549 d_law_1550 d_law_1551 d_law_1552 d_law_1553 rfl (by omega) hl ?_
  refine j_callVs (As := [.int (jx n (t + 1)), .int (jx n (t + 2))]) (st := [.long v]) cb d_law_1554 (by decide) jm_Model_item jk_Law_170 ji_Model_item js_Model_item rfl (by decide) rfl rfl (Nat.le_of_ble_eq_true rfl) rfl ?_
  refine j_lcmp d_law_1557 ?_
  exact j_if_eq_t (tgt := 1649) d_law_1558 (by decide) (lcmp_self v) kk
theorem lc_38 {n : jN} {h : jH} {t : Nat} (hI : Inv h) (ht : t + 6 ≤ jl n) (hl : jl n ≤ 3072) : ∃ h2, Inv h2 ∧ ∀ res, jJ n 22 code 4 "YesNoPowersLaw" 1649 [some (.ref 152), some (.ref 0), some (.ref 135), some (.int (nI t))] [] h2 res → jJ n 22 code 4 "YesNoPowersLaw" 1563 [some (.ref 152), some (.ref 0), some (.ref 135), some (.int (nI t))] [] h res := by
  obtain ⟨v, h1, h2, ca, cb, hI2⟩ := k_shift (n := n) hI (jx n (t + 1)) (jx n (t + 2)) (jx n (t + 3)) (jx n (t + 4)) (jx n (t + 5))
  refine ⟨h2, hI2, fun res kk => ?_⟩
  refine j_aload_n d_law_1563 rfl ?_
  refine law_arg (k := 1) d_law_1564 d_law_1565 d_law_1566 d_law_1567 d_law_1568 rfl (by omega) hl ?_
  refine law_arg (k := 2) d_law_1569 d_law_1570 d_law_1571 d_law_1572 d_law_1573 rfl (by omega) hl ?_
  refine law_arg (k := 3) d_law_1574 d_law_1575 d_law_1576 d_law_1577 d_law_1578 rfl (by omega) hl ?_
  refine law_arg (k := 4) d_law_1579 d_law_1580 d_law_1581 d_law_1582 d_law_1583 rfl (by omega) hl ?_
  refine law_arg (k := 5) d_law_1584 d_law_1585 d_law_1586 d_law_1587 d_law_1588 rfl (by omega) hl ?_
  refine j_callVs (As := [.int (jx n (t + 1)), .int (jx n (t + 2)), .int (jx n (t + 3)), .int (jx n (t + 4)), .int (jx n (t + 5))]) (st := []) ca d_law_1589 (by decide) jm_Main_shift jk_Law_171 ji_Main_shift js_Main_shift rfl (by decide) rfl rfl (Nat.le_of_ble_eq_true rfl) rfl ?_
  refine j_aload_n d_law_1592 rfl ?_
  refine law_arg (k := 1) d_law_1593 d_law_1594 d_law_1595 d_law_1596 d_law_1597 rfl (by omega) hl ?_
  refine law_arg (k := 2) d_law_1598 d_law_1599 d_law_1600 d_law_1601 d_law_1602 rfl (by omega) hl ?_
  refine law_arg (k := 3) d_law_1603 d_law_1604 d_law_1605 d_law_1606 d_law_1607 rfl (by omega) hl ?_
  refine law_arg (k := 4) d_law_1608 d_law_1609 d_law_1610 d_law_1611 d_law_1612 rfl (by omega) hl ?_
  refine law_arg (k := 5) d_law_1613 d_law_1614 d_law_1615 d_law_1616 d_law_1617 rfl (by omega) hl ?_
  refine j_callVs (As := [.int (jx n (t + 1)), .int (jx n (t + 2)), .int (jx n (t + 3)), .int (jx n (t + 4)), .int (jx n (t + 5))]) (st := [.int v]) cb d_law_1618 (by decide) jm_Model_shift jk_Law_175 ji_Model_shift js_Model_shift rfl (by decide) rfl rfl (Nat.le_of_ble_eq_true rfl) rfl ?_
  exact j_icmp_eq_t (tgt := 1649) d_law_1621 (by decide) rfl kk
theorem lc_39 {n : jN} {h : jH} {t : Nat} (hI : Inv h) (ht : t + 6 ≤ jl n) (hl : jl n ≤ 3072) : ∃ h2, Inv h2 ∧ ∀ res, jJ n 22 code 4 "YesNoPowersLaw" 1649 [some (.ref 152), some (.ref 0), some (.ref 135), some (.int (nI t))] [] h2 res → jJ n 22 code 4 "YesNoPowersLaw" 1626 [some (.ref 152), some (.ref 0), some (.ref 135), some (.int (nI t))] [] h res := by
  obtain ⟨v, h1, h2, ca, cb, hI2⟩ := k_count (n := n) hI (jx n (t + 1))
  refine ⟨h2, hI2, fun res kk => ?_⟩
  refine j_aload_n d_law_1626 rfl ?_
  refine law_arg (k := 1) d_law_1627 d_law_1628 d_law_1629 d_law_1630 d_law_1631 rfl (by omega) hl ?_
  refine j_callVs (As := [.int (jx n (t + 1))]) (st := []) ca d_law_1632 (by decide) jm_Main_count jk_Law_176 ji_Main_count js_Main_count rfl (by decide) rfl rfl (Nat.le_of_ble_eq_true rfl) rfl ?_
  refine j_aload_n d_law_1635 rfl ?_
  refine law_arg (k := 1) d_law_1636 d_law_1637 d_law_1638 d_law_1639 d_law_1640 rfl (by omega) hl ?_
  refine j_callVs (As := [.int (jx n (t + 1))]) (st := [.int v]) cb d_law_1641 (by decide) jm_Model_count jk_Law_179 ji_Model_count js_Model_count rfl (by decide) rfl rfl (Nat.le_of_ble_eq_true rfl) rfl ?_
  exact j_icmp_eq_t (tgt := 1649) d_law_1644 (by decide) rfl kk
theorem and63 (x : Int32) : ∃ j : Nat, j < 64 ∧ x &&& 63 = nI j := by
  refine ⟨x.toBitVec.toNat % 64, Nat.mod_lt _ (by decide), ?_⟩
  apply Int32.toBitVec_inj.mp
  rw [Int32.toBitVec_and]
  apply BitVec.eq_of_toNat_eq
  rw [BitVec.toNat_and]
  show x.toBitVec.toNat &&& 63 = (BitVec.ofNat 32 (x.toBitVec.toNat % 64)).toNat
  rw [BitVec.toNat_ofNat, show (63 : Nat) = 2 ^ 6 - 1 from rfl, Nat.and_two_pow_sub_one_eq_mod]
  omega
/-- one command of the script -/
theorem law_sw {n : jN} {h : jH} {t j : Nat} (hI : Inv h) (ht : t + 6 ≤ jl n) (hl : jl n ≤ 3072) (hj : j < 64) : ∃ h2, Inv h2 ∧ ∀ res, jJ n 22 code 4 "YesNoPowersLaw" 1649 [some (.ref 152), some (.ref 0), some (.ref 135), some (.int (nI t))] [] h2 res → jJ n 22 code 4 "YesNoPowersLaw" 33 [some (.ref 152), some (.ref 0), some (.ref 135), some (.int (nI t))] [.int (nI j)] h res := by
  by_cases h40 : j < 40
  · match j, h40 with
    | 0, _ =>
      obtain ⟨h2, hI2, kk⟩ := lc_0 (t := t) hI (by omega) hl
      exact ⟨h2, hI2, fun res k => j_swIn (off := 175) (tgt := 208) d_law_33 (by decide) (by decide) rfl (by decide) (kk res k)⟩
    | 1, _ =>
      obtain ⟨h2, hI2, kk⟩ := lc_1 (t := t) hI (by omega) hl
      exact ⟨h2, hI2, fun res k => j_swIn (off := 218) (tgt := 251) d_law_33 (by decide) (by decide) rfl (by decide) (kk res k)⟩
    | 2, _ =>
      obtain ⟨h2, hI2, kk⟩ := lc_2 (t := t) hI (by omega) hl
      exact ⟨h2, hI2, fun res k => j_swIn (off := 271) (tgt := 304) d_law_33 (by decide) (by decide) rfl (by decide) (kk res k)⟩
    | 3, _ =>
      obtain ⟨h2, hI2, kk⟩ := lc_3 (t := t) hI (by omega) hl
      exact ⟨h2, hI2, fun res k => j_swIn (off := 314) (tgt := 347) d_law_33 (by decide) (by decide) rfl (by decide) (kk res k)⟩
    | 4, _ =>
      obtain ⟨h2, hI2, kk⟩ := lc_4 (t := t) hI (by omega) hl
      exact ⟨h2, hI2, fun res k => j_swIn (off := 357) (tgt := 390) d_law_33 (by decide) (by decide) rfl (by decide) (kk res k)⟩
    | 5, _ =>
      obtain ⟨h2, hI2, kk⟩ := lc_5 (t := t) hI (by omega) hl
      exact ⟨h2, hI2, fun res k => j_swIn (off := 400) (tgt := 433) d_law_33 (by decide) (by decide) rfl (by decide) (kk res k)⟩
    | 6, _ =>
      obtain ⟨h2, hI2, kk⟩ := lc_6 (t := t) hI (by omega) hl
      exact ⟨h2, hI2, fun res k => j_swIn (off := 443) (tgt := 476) d_law_33 (by decide) (by decide) rfl (by decide) (kk res k)⟩
    | 7, _ =>
      obtain ⟨h2, hI2, kk⟩ := lc_7 (t := t) hI (by omega) hl
      exact ⟨h2, hI2, fun res k => j_swIn (off := 486) (tgt := 519) d_law_33 (by decide) (by decide) rfl (by decide) (kk res k)⟩
    | 8, _ =>
      obtain ⟨h2, hI2, kk⟩ := lc_8 (t := t) hI (by omega) hl
      exact ⟨h2, hI2, fun res k => j_swIn (off := 529) (tgt := 562) d_law_33 (by decide) (by decide) rfl (by decide) (kk res k)⟩
    | 9, _ =>
      obtain ⟨h2, hI2, kk⟩ := lc_9 (t := t) hI (by omega) hl
      exact ⟨h2, hI2, fun res k => j_swIn (off := 572) (tgt := 605) d_law_33 (by decide) (by decide) rfl (by decide) (kk res k)⟩
    | 10, _ =>
      obtain ⟨h2, hI2, kk⟩ := lc_10 (t := t) hI (by omega) hl
      exact ⟨h2, hI2, fun res k => j_swIn (off := 595) (tgt := 628) d_law_33 (by decide) (by decide) rfl (by decide) (kk res k)⟩
    | 11, _ =>
      obtain ⟨h2, hI2, kk⟩ := lc_11 (t := t) hI (by omega) hl
      exact ⟨h2, hI2, fun res k => j_swIn (off := 628) (tgt := 661) d_law_33 (by decide) (by decide) rfl (by decide) (kk res k)⟩
    | 12, _ =>
      obtain ⟨h2, hI2, kk⟩ := lc_12 (t := t) hI (by omega) hl
      exact ⟨h2, hI2, fun res k => j_swIn (off := 681) (tgt := 714) d_law_33 (by decide) (by decide) rfl (by decide) (kk res k)⟩
    | 13, _ =>
      obtain ⟨h2, hI2, kk⟩ := lc_13 (t := t) hI (by omega) hl
      exact ⟨h2, hI2, fun res k => j_swIn (off := 724) (tgt := 757) d_law_33 (by decide) (by decide) rfl (by decide) (kk res k)⟩
    | 14, _ =>
      obtain ⟨h2, hI2, kk⟩ := lc_14 (t := t) hI (by omega) hl
      exact ⟨h2, hI2, fun res k => j_swIn (off := 757) (tgt := 790) d_law_33 (by decide) (by decide) rfl (by decide) (kk res k)⟩
    | 15, _ =>
      obtain ⟨h2, hI2, kk⟩ := lc_15 (t := t) hI (by omega) hl
      exact ⟨h2, hI2, fun res k => j_swIn (off := 790) (tgt := 823) d_law_33 (by decide) (by decide) rfl (by decide) (kk res k)⟩
    | 16, _ =>
      obtain ⟨h2, hI2, kk⟩ := lc_16 (t := t) hI (by omega) hl
      exact ⟨h2, hI2, fun res k => j_swIn (off := 823) (tgt := 856) d_law_33 (by decide) (by decide) rfl (by decide) (kk res k)⟩
    | 17, _ =>
      obtain ⟨h2, hI2, kk⟩ := lc_17 (t := t) hI (by omega) hl
      exact ⟨h2, hI2, fun res k => j_swIn (off := 846) (tgt := 879) d_law_33 (by decide) (by decide) rfl (by decide) (kk res k)⟩
    | 18, _ =>
      obtain ⟨h2, hI2, kk⟩ := lc_18 (t := t) hI (by omega) hl
      exact ⟨h2, hI2, fun res k => j_swIn (off := 879) (tgt := 912) d_law_33 (by decide) (by decide) rfl (by decide) (kk res k)⟩
    | 19, _ =>
      obtain ⟨h2, hI2, kk⟩ := lc_19 (t := t) hI (by omega) hl
      exact ⟨h2, hI2, fun res k => j_swIn (off := 922) (tgt := 955) d_law_33 (by decide) (by decide) rfl (by decide) (kk res k)⟩
    | 20, _ =>
      obtain ⟨h2, hI2, kk⟩ := lc_20 (t := t) hI (by omega) hl
      exact ⟨h2, hI2, fun res k => j_swIn (off := 955) (tgt := 988) d_law_33 (by decide) (by decide) rfl (by decide) (kk res k)⟩
    | 21, _ =>
      obtain ⟨h2, hI2, kk⟩ := lc_21 (t := t) hI (by omega) hl
      exact ⟨h2, hI2, fun res k => j_swIn (off := 998) (tgt := 1031) d_law_33 (by decide) (by decide) rfl (by decide) (kk res k)⟩
    | 22, _ =>
      obtain ⟨h2, hI2, kk⟩ := lc_22 (t := t) hI (by omega) hl
      exact ⟨h2, hI2, fun res k => j_swIn (off := 1041) (tgt := 1074) d_law_33 (by decide) (by decide) rfl (by decide) (kk res k)⟩
    | 23, _ =>
      obtain ⟨h2, hI2, kk⟩ := lc_23 (t := t) hI (by omega) hl
      exact ⟨h2, hI2, fun res k => j_swIn (off := 1074) (tgt := 1107) d_law_33 (by decide) (by decide) rfl (by decide) (kk res k)⟩
    | 24, _ =>
      obtain ⟨h2, hI2, kk⟩ := lc_24 (t := t) hI (by omega) hl
      exact ⟨h2, hI2, fun res k => j_swIn (off := 1107) (tgt := 1140) d_law_33 (by decide) (by decide) rfl (by decide) (kk res k)⟩
    | 25, _ =>
      obtain ⟨h2, hI2, kk⟩ := lc_25 (t := t) hI (by omega) hl
      exact ⟨h2, hI2, fun res k => j_swIn (off := 1140) (tgt := 1173) d_law_33 (by decide) (by decide) rfl (by decide) (kk res k)⟩
    | 26, _ =>
      obtain ⟨h2, hI2, kk⟩ := lc_26 (t := t) hI (by omega) hl
      exact ⟨h2, hI2, fun res k => j_swIn (off := 1183) (tgt := 1216) d_law_33 (by decide) (by decide) rfl (by decide) (kk res k)⟩
    | 27, _ =>
      obtain ⟨h2, hI2, kk⟩ := lc_27 (t := t) hI (by omega) hl
      exact ⟨h2, hI2, fun res k => j_swIn (off := 1216) (tgt := 1249) d_law_33 (by decide) (by decide) rfl (by decide) (kk res k)⟩
    | 28, _ =>
      obtain ⟨h2, hI2, kk⟩ := lc_28 (t := t) hI (by omega) hl
      exact ⟨h2, hI2, fun res k => j_swIn (off := 1259) (tgt := 1292) d_law_33 (by decide) (by decide) rfl (by decide) (kk res k)⟩
    | 29, _ =>
      obtain ⟨h2, hI2, kk⟩ := lc_29 (t := t) hI (by omega) hl
      exact ⟨h2, hI2, fun res k => j_swIn (off := 1292) (tgt := 1325) d_law_33 (by decide) (by decide) rfl (by decide) (kk res k)⟩
    | 30, _ =>
      obtain ⟨h2, hI2, kk⟩ := lc_30 (t := t) hI (by omega) hl
      exact ⟨h2, hI2, fun res k => j_swIn (off := 1315) (tgt := 1348) d_law_33 (by decide) (by decide) rfl (by decide) (kk res k)⟩
    | 31, _ =>
      obtain ⟨h2, hI2, kk⟩ := lc_31 (t := t) hI (by omega) hl
      exact ⟨h2, hI2, fun res k => j_swIn (off := 1338) (tgt := 1371) d_law_33 (by decide) (by decide) rfl (by decide) (kk res k)⟩
    | 32, _ =>
      obtain ⟨h2, hI2, kk⟩ := lc_32 (t := t) hI (by omega) hl
      exact ⟨h2, hI2, fun res k => j_swIn (off := 1361) (tgt := 1394) d_law_33 (by decide) (by decide) rfl (by decide) (kk res k)⟩
    | 33, _ =>
      obtain ⟨h2, hI2, kk⟩ := lc_33 (t := t) hI (by omega) hl
      exact ⟨h2, hI2, fun res k => j_swIn (off := 1384) (tgt := 1417) d_law_33 (by decide) (by decide) rfl (by decide) (kk res k)⟩
    | 34, _ =>
      obtain ⟨h2, hI2, kk⟩ := lc_34 (t := t) hI (by omega) hl
      exact ⟨h2, hI2, fun res k => j_swIn (off := 1397) (tgt := 1430) d_law_33 (by decide) (by decide) rfl (by decide) (kk res k)⟩
    | 35, _ =>
      obtain ⟨h2, hI2, kk⟩ := lc_35 (t := t) hI (by omega) hl
      exact ⟨h2, hI2, fun res k => j_swIn (off := 1410) (tgt := 1443) d_law_33 (by decide) (by decide) rfl (by decide) (kk res k)⟩
    | 36, _ =>
      obtain ⟨h2, hI2, kk⟩ := lc_36 (t := t) hI (by omega) hl
      exact ⟨h2, hI2, fun res k => j_swIn (off := 1453) (tgt := 1486) d_law_33 (by decide) (by decide) rfl (by decide) (kk res k)⟩
    | 37, _ =>
      obtain ⟨h2, hI2, kk⟩ := lc_37 (t := t) hI (by omega) hl
      exact ⟨h2, hI2, fun res k => j_swIn (off := 1496) (tgt := 1529) d_law_33 (by decide) (by decide) rfl (by decide) (kk res k)⟩
    | 38, _ =>
      obtain ⟨h2, hI2, kk⟩ := lc_38 (t := t) hI (by omega) hl
      exact ⟨h2, hI2, fun res k => j_swIn (off := 1530) (tgt := 1563) d_law_33 (by decide) (by decide) rfl (by decide) (kk res k)⟩
    | 39, _ =>
      obtain ⟨h2, hI2, kk⟩ := lc_39 (t := t) hI (by omega) hl
      exact ⟨h2, hI2, fun res k => j_swIn (off := 1593) (tgt := 1626) d_law_33 (by decide) (by decide) rfl (by decide) (kk res k)⟩
    | j + 40, q => exact absurd q (by omega)
  · refine ⟨h, hI, fun res k => j_swOut (tgt := 1649) d_law_33 (Or.inr ?_) (by decide) k⟩
    rw [nI_toInt (by omega)]
    omega
/-- the law's loop -/
theorem law_loop {n : jN} (hl : jl n ≤ 3072) : ∀ (f t : Nat) (h : jH), Inv h → t ≤ jl n + 6 → jl n + 7 ≤ t + f → ∃ h', jJ n 22 code 4 "YesNoPowersLaw" 18 [some (.ref 152), some (.ref 0), some (.ref 135), some (.int (nI t))] [] h (some (.int 1), h')
  | 0, t, h, _, h1, h2 => absurd h2 (by omega)
  | f + 1, t, h, hI, h1, h2 => by
    have e6 : ((nI (jl n) - nI 6 : Int32)).toInt = (jl n : Int) - 6 := ni_subI (by omega) (by omega)
    by_cases hc : t + 6 ≤ jl n
    · obtain ⟨j, hj, ej⟩ := and63 (jx n t)
      obtain ⟨h2, hI2, kk⟩ := law_sw (t := t) hI hc hl hj
      obtain ⟨h', ih⟩ := law_loop hl f (t + 6) h2 hI2 (by omega) (by omega)
      refine ⟨h', ?_⟩
      refine j_iload_n d_law_18 rfl ?_
      refine j_aload_n d_law_19 rfl ?_
      refine j_slen d_law_20 ?_
      refine j_bipush (v := nI 6) d_law_21 rfl ?_
      refine j_isub d_law_23 ?_
      refine j_icmp_gt_f (tgt := 1655) d_law_24 (by decide) (fun q => ?_) ?_
      · rw [Int32.lt_iff_toInt_lt] at q
        have q2 : ((nI (jl n) - nI 6 : Int32)).toInt < (nI t).toInt := q
        rw [e6, nI_toInt (by omega)] at q2
        omega
      refine j_aload_n d_law_27 rfl ?_
      refine j_iload_n d_law_28 rfl ?_
      refine j_sld d_law_29 (lin (by omega) (by omega)) ?_
      rw [nI_clamp (by omega)]
      refine j_bipush (v := 63) d_law_30 rfl ?_
      refine j_iand d_law_32 ?_
      rw [ej]
      refine kk _ ?_
      refine j_iinc (v := nI (t + 6)) d_law_1649 rfl (nI_add t 6) (by decide) rfl rfl ?_
      exact j_goto (tgt := 18) d_law_1652 (by decide) ih
    · refine ⟨h, ?_⟩
      refine j_iload_n d_law_18 rfl ?_
      refine j_aload_n d_law_19 rfl ?_
      refine j_slen d_law_20 ?_
      refine j_bipush (v := nI 6) d_law_21 rfl ?_
      refine j_isub d_law_23 ?_
      refine j_icmp_gt_t (tgt := 1655) d_law_24 (by decide) ?_ ?_
      · rw [Int32.lt_iff_toInt_lt]
        show ((nI (jl n) - nI 6 : Int32)).toInt < (nI t).toInt
        rw [e6, nI_toInt (by omega)]
        omega
      refine j_iconst (v := 1) d_law_1655 rfl ?_
      exact j_reti d_law_1656 rfl rfl
