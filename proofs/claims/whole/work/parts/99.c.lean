/-! the law: its calls -/
theorem law_0 {l : Launch} {z : Zt} {σ : Mm} {L0 : Nat} {xs : Nat → Int32} {i : Nat} {S : SV} (hz : ZOk z code 4 "PassedOnAndBetterLaw" 11 422) (hX : SX z L0 xs) (hi : i + 6 ≤ L0) (h1 : XI σ S) (h2 : RI σ S) (kk : ∀ σ' S', XI σ' S' → RI σ' S' → G l z code 4 1481 (LcL i) [] σ') : G l z code 4 220 (LcL i) [] σ := by
  obtain ⟨r, s1, s2, S', e1, e2, e3, e4⟩ := op_feed (xs (i + 1)) σ S h1 h2
  refine g_aload_n hz 2 d_W_220 rfl rfl ?_
  refine g_arg hz hX 1 d_W_221 d_W_222 d_W_223 (by decide) d_W_224 d_W_225 (by omega) ?_
  refine g_callVi hz (c_X_feed l e1) (by decide) rc_X rfl rfl m_X_feed mi_X_feed ms_X_feed (mG 331 (by decide +kernel) (by decide +kernel)) ⟨Nat.le_of_ble_eq_true rfl, Nat.le_of_ble_eq_true rfl⟩ rfl (st := []) rfl (Nat.le_of_ble_eq_true rfl) d_W_226 ?_
  refine g_aload_n hz 1 d_W_229 rfl rfl ?_
  refine g_arg hz hX 1 d_W_230 d_W_231 d_W_232 (by decide) d_W_233 d_W_234 (by omega) ?_
  refine g_callVi hz (c_R_feed l e2) (by decide) rc_R rfl rfl m_R_feed mi_R_feed ms_R_feed (mG 1100 (by decide +kernel) (by decide +kernel)) ⟨Nat.le_of_ble_eq_true rfl, Nat.le_of_ble_eq_true rfl⟩ rfl (st := [.int r]) rfl (Nat.le_of_ble_eq_true rfl) d_W_235 ?_
  exact g_icmp_eq hz (tgt := 1481) d_W_238 rfl (fun _ => kk s2 S' e3 e4) (fun q => absurd rfl q)
theorem law_1 {l : Launch} {z : Zt} {σ : Mm} {L0 : Nat} {xs : Nat → Int32} {i : Nat} {S : SV} (hz : ZOk z code 4 "PassedOnAndBetterLaw" 11 422) (hX : SX z L0 xs) (hi : i + 6 ≤ L0) (h1 : XI σ S) (h2 : RI σ S) (kk : ∀ σ' S', XI σ' S' → RI σ' S' → G l z code 4 1481 (LcL i) [] σ') : G l z code 4 243 (LcL i) [] σ := by
  obtain ⟨r, s1, s2, S', e1, e2, e3, e4⟩ := op_circle σ S h1 h2
  refine g_aload_n hz 2 d_W_243 rfl rfl ?_
  refine g_callVi hz (c_X_circle l e1) (by decide) rc_X rfl rfl m_X_circle mi_X_circle ms_X_circle (mG 357 (by decide +kernel) (by decide +kernel)) ⟨Nat.le_of_ble_eq_true rfl, Nat.le_of_ble_eq_true rfl⟩ rfl (st := []) rfl (Nat.le_of_ble_eq_true rfl) d_W_244 ?_
  refine g_aload_n hz 1 d_W_247 rfl rfl ?_
  refine g_callVi hz (c_R_circle l e2) (by decide) rc_R rfl rfl m_R_circle mi_R_circle ms_R_circle (mG 1111 (by decide +kernel) (by decide +kernel)) ⟨Nat.le_of_ble_eq_true rfl, Nat.le_of_ble_eq_true rfl⟩ rfl (st := [.int r]) rfl (Nat.le_of_ble_eq_true rfl) d_W_248 ?_
  exact g_icmp_eq hz (tgt := 1481) d_W_251 rfl (fun _ => kk s2 S' e3 e4) (fun q => absurd rfl q)
theorem law_2 {l : Launch} {z : Zt} {σ : Mm} {L0 : Nat} {xs : Nat → Int32} {i : Nat} {S : SV} (hz : ZOk z code 4 "PassedOnAndBetterLaw" 11 422) (hX : SX z L0 xs) (hi : i + 6 ≤ L0) (h1 : XI σ S) (h2 : RI σ S) (kk : ∀ σ' S', XI σ' S' → RI σ' S' → G l z code 4 1481 (LcL i) [] σ') : G l z code 4 256 (LcL i) [] σ := by
  obtain ⟨r, s1, s2, S', e1, e2, e3, e4⟩ := op_friendOf (xs (i + 1)) (xs (i + 2)) σ S h1 h2
  refine g_aload_n hz 2 d_W_256 rfl rfl ?_
  refine g_arg hz hX 1 d_W_257 d_W_258 d_W_259 (by decide) d_W_260 d_W_261 (by omega) ?_
  refine g_arg hz hX 2 d_W_262 d_W_263 d_W_264 (by decide) d_W_265 d_W_266 (by omega) ?_
  refine g_callVi hz (c_X_friendOf l e1) (by decide) rc_X rfl rfl m_X_friendOf mi_X_friendOf ms_X_friendOf (mG 526 (by decide +kernel) (by decide +kernel)) ⟨Nat.le_of_ble_eq_true rfl, Nat.le_of_ble_eq_true rfl⟩ rfl (st := []) rfl (Nat.le_of_ble_eq_true rfl) d_W_267 ?_
  refine g_aload_n hz 1 d_W_270 rfl rfl ?_
  refine g_arg hz hX 1 d_W_271 d_W_272 d_W_273 (by decide) d_W_274 d_W_275 (by omega) ?_
  refine g_arg hz hX 2 d_W_276 d_W_277 d_W_278 (by decide) d_W_279 d_W_280 (by omega) ?_
  refine g_callVi hz (c_R_friendOf l e2) (by decide) rc_R rfl rfl m_R_friendOf mi_R_friendOf ms_R_friendOf (mG 1244 (by decide +kernel) (by decide +kernel)) ⟨Nat.le_of_ble_eq_true rfl, Nat.le_of_ble_eq_true rfl⟩ rfl (st := [.int r]) rfl (Nat.le_of_ble_eq_true rfl) d_W_281 ?_
  exact g_icmp_eq hz (tgt := 1481) d_W_284 rfl (fun _ => kk s2 S' e3 e4) (fun q => absurd rfl q)
theorem law_3 {l : Launch} {z : Zt} {σ : Mm} {L0 : Nat} {xs : Nat → Int32} {i : Nat} {S : SV} (hz : ZOk z code 4 "PassedOnAndBetterLaw" 11 422) (hX : SX z L0 xs) (hi : i + 6 ≤ L0) (h1 : XI σ S) (h2 : RI σ S) (kk : ∀ σ' S', XI σ' S' → RI σ' S' → G l z code 4 1481 (LcL i) [] σ') : G l z code 4 289 (LcL i) [] σ := by
  obtain ⟨r, s1, s2, S', e1, e2, e3, e4⟩ := op_giftOf (xs (i + 1)) (xs (i + 2)) σ S h1 h2
  refine g_aload_n hz 2 d_W_289 rfl rfl ?_
  refine g_arg hz hX 1 d_W_290 d_W_291 d_W_292 (by decide) d_W_293 d_W_294 (by omega) ?_
  refine g_arg hz hX 2 d_W_295 d_W_296 d_W_297 (by decide) d_W_298 d_W_299 (by omega) ?_
  refine g_callVi hz (c_X_giftOf l e1) (by decide) rc_X rfl rfl m_X_giftOf mi_X_giftOf ms_X_giftOf (mG 551 (by decide +kernel) (by decide +kernel)) ⟨Nat.le_of_ble_eq_true rfl, Nat.le_of_ble_eq_true rfl⟩ rfl (st := []) rfl (Nat.le_of_ble_eq_true rfl) d_W_300 ?_
  refine g_aload_n hz 1 d_W_303 rfl rfl ?_
  refine g_arg hz hX 1 d_W_304 d_W_305 d_W_306 (by decide) d_W_307 d_W_308 (by omega) ?_
  refine g_arg hz hX 2 d_W_309 d_W_310 d_W_311 (by decide) d_W_312 d_W_313 (by omega) ?_
  refine g_callVi hz (c_R_giftOf l e2) (by decide) rc_R rfl rfl m_R_giftOf mi_R_giftOf ms_R_giftOf (mG 1252 (by decide +kernel) (by decide +kernel)) ⟨Nat.le_of_ble_eq_true rfl, Nat.le_of_ble_eq_true rfl⟩ rfl (st := [.int r]) rfl (Nat.le_of_ble_eq_true rfl) d_W_314 ?_
  exact g_icmp_eq hz (tgt := 1481) d_W_317 rfl (fun _ => kk s2 S' e3 e4) (fun q => absurd rfl q)
theorem law_4 {l : Launch} {z : Zt} {σ : Mm} {L0 : Nat} {xs : Nat → Int32} {i : Nat} {S : SV} (hz : ZOk z code 4 "PassedOnAndBetterLaw" 11 422) (hX : SX z L0 xs) (hi : i + 6 ≤ L0) (h1 : XI σ S) (h2 : RI σ S) (kk : ∀ σ' S', XI σ' S' → RI σ' S' → G l z code 4 1481 (LcL i) [] σ') : G l z code 4 322 (LcL i) [] σ := by
  obtain ⟨r, s1, s2, S', e1, e2, e3, e4⟩ := op_friend (xs (i + 1)) (xs (i + 2)) (xs (i + 3)) σ S h1 h2
  refine g_aload_n hz 2 d_W_322 rfl rfl ?_
  refine g_arg hz hX 1 d_W_323 d_W_324 d_W_325 (by decide) d_W_326 d_W_327 (by omega) ?_
  refine g_arg hz hX 2 d_W_328 d_W_329 d_W_330 (by decide) d_W_331 d_W_332 (by omega) ?_
  refine g_arg hz hX 3 d_W_333 d_W_334 d_W_335 (by decide) d_W_336 d_W_337 (by omega) ?_
  refine g_callVi hz (c_X_friend l e1) (by decide) rc_X rfl rfl m_X_friend mi_X_friend ms_X_friend (mG 565 (by decide +kernel) (by decide +kernel)) ⟨Nat.le_of_ble_eq_true rfl, Nat.le_of_ble_eq_true rfl⟩ rfl (st := []) rfl (Nat.le_of_ble_eq_true rfl) d_W_338 ?_
  refine g_aload_n hz 1 d_W_341 rfl rfl ?_
  refine g_arg hz hX 1 d_W_342 d_W_343 d_W_344 (by decide) d_W_345 d_W_346 (by omega) ?_
  refine g_arg hz hX 2 d_W_347 d_W_348 d_W_349 (by decide) d_W_350 d_W_351 (by omega) ?_
  refine g_arg hz hX 3 d_W_352 d_W_353 d_W_354 (by decide) d_W_355 d_W_356 (by omega) ?_
  refine g_callVi hz (c_R_friend l e2) (by decide) rc_R rfl rfl m_R_friend mi_R_friend ms_R_friend (mG 1256 (by decide +kernel) (by decide +kernel)) ⟨Nat.le_of_ble_eq_true rfl, Nat.le_of_ble_eq_true rfl⟩ rfl (st := [.int r]) rfl (Nat.le_of_ble_eq_true rfl) d_W_357 ?_
  exact g_icmp_eq hz (tgt := 1481) d_W_360 rfl (fun _ => kk s2 S' e3 e4) (fun q => absurd rfl q)
theorem law_5 {l : Launch} {z : Zt} {σ : Mm} {L0 : Nat} {xs : Nat → Int32} {i : Nat} {S : SV} (hz : ZOk z code 4 "PassedOnAndBetterLaw" 11 422) (hX : SX z L0 xs) (hi : i + 6 ≤ L0) (h1 : XI σ S) (h2 : RI σ S) (kk : ∀ σ' S', XI σ' S' → RI σ' S' → G l z code 4 1481 (LcL i) [] σ') : G l z code 4 365 (LcL i) [] σ := by
  obtain ⟨r, s1, s2, S', e1, e2, e3, e4⟩ := op_gift (xs (i + 1)) (xs (i + 2)) (xs (i + 3)) σ S h1 h2
  refine g_aload_n hz 2 d_W_365 rfl rfl ?_
  refine g_arg hz hX 1 d_W_366 d_W_367 d_W_368 (by decide) d_W_369 d_W_370 (by omega) ?_
  refine g_arg hz hX 2 d_W_371 d_W_372 d_W_373 (by decide) d_W_374 d_W_375 (by omega) ?_
  refine g_arg hz hX 3 d_W_376 d_W_377 d_W_378 (by decide) d_W_379 d_W_380 (by omega) ?_
  refine g_callVi hz (c_X_gift l e1) (by decide) rc_X rfl rfl m_X_gift mi_X_gift ms_X_gift (mG 571 (by decide +kernel) (by decide +kernel)) ⟨Nat.le_of_ble_eq_true rfl, Nat.le_of_ble_eq_true rfl⟩ rfl (st := []) rfl (Nat.le_of_ble_eq_true rfl) d_W_381 ?_
  refine g_aload_n hz 1 d_W_384 rfl rfl ?_
  refine g_arg hz hX 1 d_W_385 d_W_386 d_W_387 (by decide) d_W_388 d_W_389 (by omega) ?_
  refine g_arg hz hX 2 d_W_390 d_W_391 d_W_392 (by decide) d_W_393 d_W_394 (by omega) ?_
  refine g_arg hz hX 3 d_W_395 d_W_396 d_W_397 (by decide) d_W_398 d_W_399 (by omega) ?_
  refine g_callVi hz (c_R_gift l e2) (by decide) rc_R rfl rfl m_R_gift mi_R_gift ms_R_gift (mG 1260 (by decide +kernel) (by decide +kernel)) ⟨Nat.le_of_ble_eq_true rfl, Nat.le_of_ble_eq_true rfl⟩ rfl (st := [.int r]) rfl (Nat.le_of_ble_eq_true rfl) d_W_400 ?_
  exact g_icmp_eq hz (tgt := 1481) d_W_403 rfl (fun _ => kk s2 S' e3 e4) (fun q => absurd rfl q)
theorem law_6 {l : Launch} {z : Zt} {σ : Mm} {L0 : Nat} {xs : Nat → Int32} {i : Nat} {S : SV} (hz : ZOk z code 4 "PassedOnAndBetterLaw" 11 422) (hX : SX z L0 xs) (hi : i + 6 ≤ L0) (h1 : XI σ S) (h2 : RI σ S) (kk : ∀ σ' S', XI σ' S' → RI σ' S' → G l z code 4 1481 (LcL i) [] σ') : G l z code 4 408 (LcL i) [] σ := by
  obtain ⟨r, s1, s2, S', e1, e2, e3, e4⟩ := op_nexts (xs (i + 1)) (xs (i + 2)) σ S h1 h2
  refine g_aload_n hz 2 d_W_408 rfl rfl ?_
  refine g_arg hz hX 1 d_W_409 d_W_410 d_W_411 (by decide) d_W_412 d_W_413 (by omega) ?_
  refine g_arg hz hX 2 d_W_414 d_W_415 d_W_416 (by decide) d_W_417 d_W_418 (by omega) ?_
  refine g_callVi hz (c_X_nexts l e1) (by decide) rc_X rfl rfl m_X_nexts mi_X_nexts ms_X_nexts (mG 577 (by decide +kernel) (by decide +kernel)) ⟨Nat.le_of_ble_eq_true rfl, Nat.le_of_ble_eq_true rfl⟩ rfl (st := []) rfl (Nat.le_of_ble_eq_true rfl) d_W_419 ?_
  refine g_aload_n hz 1 d_W_422 rfl rfl ?_
  refine g_arg hz hX 1 d_W_423 d_W_424 d_W_425 (by decide) d_W_426 d_W_427 (by omega) ?_
  refine g_arg hz hX 2 d_W_428 d_W_429 d_W_430 (by decide) d_W_431 d_W_432 (by omega) ?_
  refine g_callVi hz (c_R_nexts l e2) (by decide) rc_R rfl rfl m_R_nexts mi_R_nexts ms_R_nexts (mG 1264 (by decide +kernel) (by decide +kernel)) ⟨Nat.le_of_ble_eq_true rfl, Nat.le_of_ble_eq_true rfl⟩ rfl (st := [.int r]) rfl (Nat.le_of_ble_eq_true rfl) d_W_433 ?_
  exact g_icmp_eq hz (tgt := 1481) d_W_436 rfl (fun _ => kk s2 S' e3 e4) (fun q => absurd rfl q)
theorem law_7 {l : Launch} {z : Zt} {σ : Mm} {L0 : Nat} {xs : Nat → Int32} {i : Nat} {S : SV} (hz : ZOk z code 4 "PassedOnAndBetterLaw" 11 422) (hX : SX z L0 xs) (hi : i + 6 ≤ L0) (h1 : XI σ S) (h2 : RI σ S) (kk : ∀ σ' S', XI σ' S' → RI σ' S' → G l z code 4 1481 (LcL i) [] σ') : G l z code 4 441 (LcL i) [] σ := by
  obtain ⟨r, s1, s2, S', e1, e2, e3, e4⟩ := op_doors (xs (i + 1)) (xs (i + 2)) σ S h1 h2
  refine g_aload_n hz 2 d_W_441 rfl rfl ?_
  refine g_arg hz hX 1 d_W_442 d_W_443 d_W_444 (by decide) d_W_445 d_W_446 (by omega) ?_
  refine g_arg hz hX 2 d_W_447 d_W_448 d_W_449 (by decide) d_W_450 d_W_451 (by omega) ?_
  refine g_callVi hz (c_X_doors l e1) (by decide) rc_X rfl rfl m_X_doors mi_X_doors ms_X_doors (mG 595 (by decide +kernel) (by decide +kernel)) ⟨Nat.le_of_ble_eq_true rfl, Nat.le_of_ble_eq_true rfl⟩ rfl (st := []) rfl (Nat.le_of_ble_eq_true rfl) d_W_452 ?_
  refine g_aload_n hz 1 d_W_455 rfl rfl ?_
  refine g_arg hz hX 1 d_W_456 d_W_457 d_W_458 (by decide) d_W_459 d_W_460 (by omega) ?_
  refine g_arg hz hX 2 d_W_461 d_W_462 d_W_463 (by decide) d_W_464 d_W_465 (by omega) ?_
  refine g_callVi hz (c_R_doors l e2) (by decide) rc_R rfl rfl m_R_doors mi_R_doors ms_R_doors (mG 1272 (by decide +kernel) (by decide +kernel)) ⟨Nat.le_of_ble_eq_true rfl, Nat.le_of_ble_eq_true rfl⟩ rfl (st := [.int r]) rfl (Nat.le_of_ble_eq_true rfl) d_W_466 ?_
  exact g_icmp_eq hz (tgt := 1481) d_W_469 rfl (fun _ => kk s2 S' e3 e4) (fun q => absurd rfl q)
theorem law_8 {l : Launch} {z : Zt} {σ : Mm} {L0 : Nat} {xs : Nat → Int32} {i : Nat} {S : SV} (hz : ZOk z code 4 "PassedOnAndBetterLaw" 11 422) (hX : SX z L0 xs) (hi : i + 6 ≤ L0) (h1 : XI σ S) (h2 : RI σ S) (kk : ∀ σ' S', XI σ' S' → RI σ' S' → G l z code 4 1481 (LcL i) [] σ') : G l z code 4 474 (LcL i) [] σ := by
  obtain ⟨r, s1, s2, S', e1, e2, e3, e4⟩ := op_hands (xs (i + 1)) (xs (i + 2)) σ S h1 h2
  refine g_aload_n hz 2 d_W_474 rfl rfl ?_
  refine g_arg hz hX 1 d_W_475 d_W_476 d_W_477 (by decide) d_W_478 d_W_479 (by omega) ?_
  refine g_arg hz hX 2 d_W_480 d_W_481 d_W_482 (by decide) d_W_483 d_W_484 (by omega) ?_
  refine g_callVi hz (c_X_hands l e1) (by decide) rc_X rfl rfl m_X_hands mi_X_hands ms_X_hands (mG 599 (by decide +kernel) (by decide +kernel)) ⟨Nat.le_of_ble_eq_true rfl, Nat.le_of_ble_eq_true rfl⟩ rfl (st := []) rfl (Nat.le_of_ble_eq_true rfl) d_W_485 ?_
  refine g_aload_n hz 1 d_W_488 rfl rfl ?_
  refine g_arg hz hX 1 d_W_489 d_W_490 d_W_491 (by decide) d_W_492 d_W_493 (by omega) ?_
  refine g_arg hz hX 2 d_W_494 d_W_495 d_W_496 (by decide) d_W_497 d_W_498 (by omega) ?_
  refine g_callVi hz (c_R_hands l e2) (by decide) rc_R rfl rfl m_R_hands mi_R_hands ms_R_hands (mG 1276 (by decide +kernel) (by decide +kernel)) ⟨Nat.le_of_ble_eq_true rfl, Nat.le_of_ble_eq_true rfl⟩ rfl (st := [.int r]) rfl (Nat.le_of_ble_eq_true rfl) d_W_499 ?_
  exact g_icmp_eq hz (tgt := 1481) d_W_502 rfl (fun _ => kk s2 S' e3 e4) (fun q => absurd rfl q)
theorem law_9 {l : Launch} {z : Zt} {σ : Mm} {L0 : Nat} {xs : Nat → Int32} {i : Nat} {S : SV} (hz : ZOk z code 4 "PassedOnAndBetterLaw" 11 422) (hX : SX z L0 xs) (hi : i + 6 ≤ L0) (h1 : XI σ S) (h2 : RI σ S) (kk : ∀ σ' S', XI σ' S' → RI σ' S' → G l z code 4 1481 (LcL i) [] σ') : G l z code 4 507 (LcL i) [] σ := by
  obtain ⟨r, s1, s2, S', e1, e2, e3, e4⟩ := op_months (xs (i + 1)) σ S h1 h2
  refine g_aload_n hz 2 d_W_507 rfl rfl ?_
  refine g_arg hz hX 1 d_W_508 d_W_509 d_W_510 (by decide) d_W_511 d_W_512 (by omega) ?_
  refine g_callVi hz (c_X_months l e1) (by decide) rc_X rfl rfl m_X_months mi_X_months ms_X_months (mG 604 (by decide +kernel) (by decide +kernel)) ⟨Nat.le_of_ble_eq_true rfl, Nat.le_of_ble_eq_true rfl⟩ rfl (st := []) rfl (Nat.le_of_ble_eq_true rfl) d_W_513 ?_
  refine g_aload_n hz 1 d_W_516 rfl rfl ?_
  refine g_arg hz hX 1 d_W_517 d_W_518 d_W_519 (by decide) d_W_520 d_W_521 (by omega) ?_
  refine g_callVi hz (c_R_months l e2) (by decide) rc_R rfl rfl m_R_months mi_R_months ms_R_months (mG 1280 (by decide +kernel) (by decide +kernel)) ⟨Nat.le_of_ble_eq_true rfl, Nat.le_of_ble_eq_true rfl⟩ rfl (st := [.int r]) rfl (Nat.le_of_ble_eq_true rfl) d_W_522 ?_
  exact g_icmp_eq hz (tgt := 1481) d_W_525 rfl (fun _ => kk s2 S' e3 e4) (fun q => absurd rfl q)
theorem law_10 {l : Launch} {z : Zt} {σ : Mm} {L0 : Nat} {xs : Nat → Int32} {i : Nat} {S : SV} (hz : ZOk z code 4 "PassedOnAndBetterLaw" 11 422) (hX : SX z L0 xs) (hi : i + 6 ≤ L0) (h1 : XI σ S) (h2 : RI σ S) (kk : ∀ σ' S', XI σ' S' → RI σ' S' → G l z code 4 1481 (LcL i) [] σ') : G l z code 4 530 (LcL i) [] σ := by
  obtain ⟨r, s1, s2, S', e1, e2, e3, e4⟩ := op_back σ S h1 h2
  refine g_aload_n hz 2 d_W_530 rfl rfl ?_
  refine g_callVi hz (c_X_back l e1) (by decide) rc_X rfl rfl m_X_back mi_X_back ms_X_back (mG 613 (by decide +kernel) (by decide +kernel)) ⟨Nat.le_of_ble_eq_true rfl, Nat.le_of_ble_eq_true rfl⟩ rfl (st := []) rfl (Nat.le_of_ble_eq_true rfl) d_W_531 ?_
  refine g_aload_n hz 1 d_W_534 rfl rfl ?_
  refine g_callVi hz (c_R_back l e2) (by decide) rc_R rfl rfl m_R_back mi_R_back ms_R_back (mG 1232 (by decide +kernel) (by decide +kernel)) ⟨Nat.le_of_ble_eq_true rfl, Nat.le_of_ble_eq_true rfl⟩ rfl (st := [.int r]) rfl (Nat.le_of_ble_eq_true rfl) d_W_535 ?_
  exact g_icmp_eq hz (tgt := 1481) d_W_538 rfl (fun _ => kk s2 S' e3 e4) (fun q => absurd rfl q)
theorem law_11 {l : Launch} {z : Zt} {σ : Mm} {L0 : Nat} {xs : Nat → Int32} {i : Nat} {S : SV} (hz : ZOk z code 4 "PassedOnAndBetterLaw" 11 422) (hX : SX z L0 xs) (hi : i + 6 ≤ L0) (h1 : XI σ S) (h2 : RI σ S) (kk : ∀ σ' S', XI σ' S' → RI σ' S' → G l z code 4 1481 (LcL i) [] σ') : G l z code 4 543 (LcL i) [] σ := by
  obtain ⟨r, s1, s2, S', e1, e2, e3, e4⟩ := op_behind (xs (i + 1)) (xs (i + 2)) (xs (i + 3)) σ S h1 h2
  refine g_aload_n hz 2 d_W_543 rfl rfl ?_
  refine g_arg hz hX 1 d_W_544 d_W_545 d_W_546 (by decide) d_W_547 d_W_548 (by omega) ?_
  refine g_arg hz hX 2 d_W_549 d_W_550 d_W_551 (by decide) d_W_552 d_W_553 (by omega) ?_
  refine g_arg hz hX 3 d_W_554 d_W_555 d_W_556 (by decide) d_W_557 d_W_558 (by omega) ?_
  refine g_callVi hz (c_X_behind l e1) (by decide) rc_X rfl rfl m_X_behind mi_X_behind ms_X_behind (mG 621 (by decide +kernel) (by decide +kernel)) ⟨Nat.le_of_ble_eq_true rfl, Nat.le_of_ble_eq_true rfl⟩ rfl (st := []) rfl (Nat.le_of_ble_eq_true rfl) d_W_559 ?_
  refine g_aload_n hz 1 d_W_562 rfl rfl ?_
  refine g_arg hz hX 1 d_W_563 d_W_564 d_W_565 (by decide) d_W_566 d_W_567 (by omega) ?_
  refine g_arg hz hX 2 d_W_568 d_W_569 d_W_570 (by decide) d_W_571 d_W_572 (by omega) ?_
  refine g_arg hz hX 3 d_W_573 d_W_574 d_W_575 (by decide) d_W_576 d_W_577 (by omega) ?_
  refine g_callVi hz (c_R_behind l e2) (by decide) rc_R rfl rfl m_R_behind mi_R_behind ms_R_behind (mG 1287 (by decide +kernel) (by decide +kernel)) ⟨Nat.le_of_ble_eq_true rfl, Nat.le_of_ble_eq_true rfl⟩ rfl (st := [.int r]) rfl (Nat.le_of_ble_eq_true rfl) d_W_578 ?_
  exact g_icmp_eq hz (tgt := 1481) d_W_581 rfl (fun _ => kk s2 S' e3 e4) (fun q => absurd rfl q)
theorem law_12 {l : Launch} {z : Zt} {σ : Mm} {L0 : Nat} {xs : Nat → Int32} {i : Nat} {S : SV} (hz : ZOk z code 4 "PassedOnAndBetterLaw" 11 422) (hX : SX z L0 xs) (hi : i + 6 ≤ L0) (h1 : XI σ S) (h2 : RI σ S) (kk : ∀ σ' S', XI σ' S' → RI σ' S' → G l z code 4 1481 (LcL i) [] σ') : G l z code 4 586 (LcL i) [] σ := by
  obtain ⟨r, s1, s2, S', e1, e2, e3, e4⟩ := op_then (xs (i + 1)) (xs (i + 2)) σ S h1 h2
  refine g_aload_n hz 2 d_W_586 rfl rfl ?_
  refine g_arg hz hX 1 d_W_587 d_W_588 d_W_589 (by decide) d_W_590 d_W_591 (by omega) ?_
  refine g_arg hz hX 2 d_W_592 d_W_593 d_W_594 (by decide) d_W_595 d_W_596 (by omega) ?_
  refine g_callVi hz (c_X_then l e1) (by decide) rc_X rfl rfl m_X_then mi_X_then ms_X_then (mG 639 (by decide +kernel) (by decide +kernel)) ⟨Nat.le_of_ble_eq_true rfl, Nat.le_of_ble_eq_true rfl⟩ rfl (st := []) rfl (Nat.le_of_ble_eq_true rfl) d_W_597 ?_
  refine g_aload_n hz 1 d_W_600 rfl rfl ?_
  refine g_arg hz hX 1 d_W_601 d_W_602 d_W_603 (by decide) d_W_604 d_W_605 (by omega) ?_
  refine g_arg hz hX 2 d_W_606 d_W_607 d_W_608 (by decide) d_W_609 d_W_610 (by omega) ?_
  refine g_callVi hz (c_R_then l e2) (by decide) rc_R rfl rfl m_R_then mi_R_then ms_R_then (mG 1302 (by decide +kernel) (by decide +kernel)) ⟨Nat.le_of_ble_eq_true rfl, Nat.le_of_ble_eq_true rfl⟩ rfl (st := [.int r]) rfl (Nat.le_of_ble_eq_true rfl) d_W_611 ?_
  exact g_icmp_eq hz (tgt := 1481) d_W_614 rfl (fun _ => kk s2 S' e3 e4) (fun q => absurd rfl q)
theorem law_13 {l : Launch} {z : Zt} {σ : Mm} {L0 : Nat} {xs : Nat → Int32} {i : Nat} {S : SV} (hz : ZOk z code 4 "PassedOnAndBetterLaw" 11 422) (hX : SX z L0 xs) (hi : i + 6 ≤ L0) (h1 : XI σ S) (h2 : RI σ S) (kk : ∀ σ' S', XI σ' S' → RI σ' S' → G l z code 4 1481 (LcL i) [] σ') : G l z code 4 619 (LcL i) [] σ := by
  obtain ⟨r, s1, s2, S', e1, e2, e3, e4⟩ := op_given (xs (i + 1)) (xs (i + 2)) σ S h1 h2
  refine g_aload_n hz 2 d_W_619 rfl rfl ?_
  refine g_arg hz hX 1 d_W_620 d_W_621 d_W_622 (by decide) d_W_623 d_W_624 (by omega) ?_
  refine g_arg hz hX 2 d_W_625 d_W_626 d_W_627 (by decide) d_W_628 d_W_629 (by omega) ?_
  refine g_callVi hz (c_X_given l e1) (by decide) rc_X rfl rfl m_X_given mi_X_given ms_X_given (mG 654 (by decide +kernel) (by decide +kernel)) ⟨Nat.le_of_ble_eq_true rfl, Nat.le_of_ble_eq_true rfl⟩ rfl (st := []) rfl (Nat.le_of_ble_eq_true rfl) d_W_630 ?_
  refine g_aload_n hz 1 d_W_633 rfl rfl ?_
  refine g_arg hz hX 1 d_W_634 d_W_635 d_W_636 (by decide) d_W_637 d_W_638 (by omega) ?_
  refine g_arg hz hX 2 d_W_639 d_W_640 d_W_641 (by decide) d_W_642 d_W_643 (by omega) ?_
  refine g_callVi hz (c_R_given l e2) (by decide) rc_R rfl rfl m_R_given mi_R_given ms_R_given (mG 1306 (by decide +kernel) (by decide +kernel)) ⟨Nat.le_of_ble_eq_true rfl, Nat.le_of_ble_eq_true rfl⟩ rfl (st := [.int r]) rfl (Nat.le_of_ble_eq_true rfl) d_W_644 ?_
  exact g_icmp_eq hz (tgt := 1481) d_W_647 rfl (fun _ => kk s2 S' e3 e4) (fun q => absurd rfl q)
theorem law_14 {l : Launch} {z : Zt} {σ : Mm} {L0 : Nat} {xs : Nat → Int32} {i : Nat} {S : SV} (hz : ZOk z code 4 "PassedOnAndBetterLaw" 11 422) (hX : SX z L0 xs) (hi : i + 6 ≤ L0) (h1 : XI σ S) (h2 : RI σ S) (kk : ∀ σ' S', XI σ' S' → RI σ' S' → G l z code 4 1481 (LcL i) [] σ') : G l z code 4 652 (LcL i) [] σ := by
  obtain ⟨r, s1, s2, S', e1, e2, e3, e4⟩ := op_comes (xs (i + 1)) (xs (i + 2)) σ S h1 h2
  refine g_aload_n hz 2 d_W_652 rfl rfl ?_
  refine g_arg hz hX 1 d_W_653 d_W_654 d_W_655 (by decide) d_W_656 d_W_657 (by omega) ?_
  refine g_arg hz hX 2 d_W_658 d_W_659 d_W_660 (by decide) d_W_661 d_W_662 (by omega) ?_
  refine g_callVi hz (c_X_comes l e1) (by decide) rc_X rfl rfl m_X_comes mi_X_comes ms_X_comes (mG 666 (by decide +kernel) (by decide +kernel)) ⟨Nat.le_of_ble_eq_true rfl, Nat.le_of_ble_eq_true rfl⟩ rfl (st := []) rfl (Nat.le_of_ble_eq_true rfl) d_W_663 ?_
  refine g_aload_n hz 1 d_W_666 rfl rfl ?_
  refine g_arg hz hX 1 d_W_667 d_W_668 d_W_669 (by decide) d_W_670 d_W_671 (by omega) ?_
  refine g_arg hz hX 2 d_W_672 d_W_673 d_W_674 (by decide) d_W_675 d_W_676 (by omega) ?_
  refine g_callVi hz (c_R_comes2 l e2) (by decide) rc_R rfl rfl m_R_comes2 mi_R_comes2 ms_R_comes2 (mG 1314 (by decide +kernel) (by decide +kernel)) ⟨Nat.le_of_ble_eq_true rfl, Nat.le_of_ble_eq_true rfl⟩ rfl (st := [.int r]) rfl (Nat.le_of_ble_eq_true rfl) d_W_677 ?_
  exact g_icmp_eq hz (tgt := 1481) d_W_680 rfl (fun _ => kk s2 S' e3 e4) (fun q => absurd rfl q)
theorem law_15 {l : Launch} {z : Zt} {σ : Mm} {L0 : Nat} {xs : Nat → Int32} {i : Nat} {S : SV} (hz : ZOk z code 4 "PassedOnAndBetterLaw" 11 422) (hX : SX z L0 xs) (hi : i + 6 ≤ L0) (h1 : XI σ S) (h2 : RI σ S) (kk : ∀ σ' S', XI σ' S' → RI σ' S' → G l z code 4 1481 (LcL i) [] σ') : G l z code 4 685 (LcL i) [] σ := by
  obtain ⟨r, s1, s2, S', e1, e2, e3, e4⟩ := op_sticks σ S h1 h2
  refine g_aload_n hz 2 d_W_685 rfl rfl ?_
  refine g_callVi hz (c_X_sticks l e1) (by decide) rc_X rfl rfl m_X_sticks mi_X_sticks ms_X_sticks (mG 678 (by decide +kernel) (by decide +kernel)) ⟨Nat.le_of_ble_eq_true rfl, Nat.le_of_ble_eq_true rfl⟩ rfl (st := []) rfl (Nat.le_of_ble_eq_true rfl) d_W_686 ?_
  refine g_aload_n hz 1 d_W_689 rfl rfl ?_
  refine g_callVi hz (c_R_sticks l e2) (by decide) rc_R rfl rfl m_R_sticks mi_R_sticks ms_R_sticks (mG 1322 (by decide +kernel) (by decide +kernel)) ⟨Nat.le_of_ble_eq_true rfl, Nat.le_of_ble_eq_true rfl⟩ rfl (st := [.int r]) rfl (Nat.le_of_ble_eq_true rfl) d_W_690 ?_
  exact g_icmp_eq hz (tgt := 1481) d_W_693 rfl (fun _ => kk s2 S' e3 e4) (fun q => absurd rfl q)
theorem law_16 {l : Launch} {z : Zt} {σ : Mm} {L0 : Nat} {xs : Nat → Int32} {i : Nat} {S : SV} (hz : ZOk z code 4 "PassedOnAndBetterLaw" 11 422) (hX : SX z L0 xs) (hi : i + 6 ≤ L0) (h1 : XI σ S) (h2 : RI σ S) (kk : ∀ σ' S', XI σ' S' → RI σ' S' → G l z code 4 1481 (LcL i) [] σ') : G l z code 4 698 (LcL i) [] σ := by
  obtain ⟨r, s1, s2, S', e1, e2, e3, e4⟩ := op_bestStart (xs (i + 1)) (xs (i + 2)) (xs (i + 3)) σ S h1 h2
  refine g_aload_n hz 2 d_W_698 rfl rfl ?_
  refine g_arg hz hX 1 d_W_699 d_W_700 d_W_701 (by decide) d_W_702 d_W_703 (by omega) ?_
  refine g_arg hz hX 2 d_W_704 d_W_705 d_W_706 (by decide) d_W_707 d_W_708 (by omega) ?_
  refine g_arg hz hX 3 d_W_709 d_W_710 d_W_711 (by decide) d_W_712 d_W_713 (by omega) ?_
  refine g_callVi hz (c_X_bestStart l e1) (by decide) rc_X rfl rfl m_X_bestStart mi_X_bestStart ms_X_bestStart (mG 687 (by decide +kernel) (by decide +kernel)) ⟨Nat.le_of_ble_eq_true rfl, Nat.le_of_ble_eq_true rfl⟩ rfl (st := []) rfl (Nat.le_of_ble_eq_true rfl) d_W_714 ?_
  refine g_aload_n hz 1 d_W_717 rfl rfl ?_
  refine g_arg hz hX 1 d_W_718 d_W_719 d_W_720 (by decide) d_W_721 d_W_722 (by omega) ?_
  refine g_arg hz hX 2 d_W_723 d_W_724 d_W_725 (by decide) d_W_726 d_W_727 (by omega) ?_
  refine g_arg hz hX 3 d_W_728 d_W_729 d_W_730 (by decide) d_W_731 d_W_732 (by omega) ?_
  refine g_callVi hz (c_R_bestStart l e2) (by decide) rc_R rfl rfl m_R_bestStart mi_R_bestStart ms_R_bestStart (mG 1330 (by decide +kernel) (by decide +kernel)) ⟨Nat.le_of_ble_eq_true rfl, Nat.le_of_ble_eq_true rfl⟩ rfl (st := [.int r]) rfl (Nat.le_of_ble_eq_true rfl) d_W_733 ?_
  exact g_icmp_eq hz (tgt := 1481) d_W_736 rfl (fun _ => kk s2 S' e3 e4) (fun q => absurd rfl q)
theorem law_17 {l : Launch} {z : Zt} {σ : Mm} {L0 : Nat} {xs : Nat → Int32} {i : Nat} {S : SV} (hz : ZOk z code 4 "PassedOnAndBetterLaw" 11 422) (hX : SX z L0 xs) (hi : i + 6 ≤ L0) (h1 : XI σ S) (h2 : RI σ S) (kk : ∀ σ' S', XI σ' S' → RI σ' S' → G l z code 4 1481 (LcL i) [] σ') : G l z code 4 741 (LcL i) [] σ := by
  obtain ⟨r, s1, s2, S', e1, e2, e3, e4⟩ := op_bestNext (xs (i + 1)) (xs (i + 2)) (xs (i + 3)) σ S h1 h2
  refine g_aload_n hz 2 d_W_741 rfl rfl ?_
  refine g_arg hz hX 1 d_W_742 d_W_743 d_W_744 (by decide) d_W_745 d_W_746 (by omega) ?_
  refine g_arg hz hX 2 d_W_747 d_W_748 d_W_749 (by decide) d_W_750 d_W_751 (by omega) ?_
  refine g_arg hz hX 3 d_W_752 d_W_753 d_W_754 (by decide) d_W_755 d_W_756 (by omega) ?_
  refine g_callVi hz (c_X_bestNext l e1) (by decide) rc_X rfl rfl m_X_bestNext mi_X_bestNext ms_X_bestNext (mG 696 (by decide +kernel) (by decide +kernel)) ⟨Nat.le_of_ble_eq_true rfl, Nat.le_of_ble_eq_true rfl⟩ rfl (st := []) rfl (Nat.le_of_ble_eq_true rfl) d_W_757 ?_
  refine g_aload_n hz 1 d_W_760 rfl rfl ?_
  refine g_arg hz hX 1 d_W_761 d_W_762 d_W_763 (by decide) d_W_764 d_W_765 (by omega) ?_
  refine g_arg hz hX 2 d_W_766 d_W_767 d_W_768 (by decide) d_W_769 d_W_770 (by omega) ?_
  refine g_arg hz hX 3 d_W_771 d_W_772 d_W_773 (by decide) d_W_774 d_W_775 (by omega) ?_
  refine g_callVi hz (c_R_bestNext l e2) (by decide) rc_R rfl rfl m_R_bestNext mi_R_bestNext ms_R_bestNext (mG 1350 (by decide +kernel) (by decide +kernel)) ⟨Nat.le_of_ble_eq_true rfl, Nat.le_of_ble_eq_true rfl⟩ rfl (st := [.int r]) rfl (Nat.le_of_ble_eq_true rfl) d_W_776 ?_
  exact g_icmp_eq hz (tgt := 1481) d_W_779 rfl (fun _ => kk s2 S' e3 e4) (fun q => absurd rfl q)
theorem law_18 {l : Launch} {z : Zt} {σ : Mm} {L0 : Nat} {xs : Nat → Int32} {i : Nat} {S : SV} (hz : ZOk z code 4 "PassedOnAndBetterLaw" 11 422) (hX : SX z L0 xs) (hi : i + 6 ≤ L0) (h1 : XI σ S) (h2 : RI σ S) (kk : ∀ σ' S', XI σ' S' → RI σ' S' → G l z code 4 1481 (LcL i) [] σ') : G l z code 4 784 (LcL i) [] σ := by
  obtain ⟨r, s1, s2, S', e1, e2, e3, e4⟩ := op_doorsFor (xs (i + 1)) (xs (i + 2)) (xs (i + 3)) σ S h1 h2
  refine g_aload_n hz 2 d_W_784 rfl rfl ?_
  refine g_arg hz hX 1 d_W_785 d_W_786 d_W_787 (by decide) d_W_788 d_W_789 (by omega) ?_
  refine g_arg hz hX 2 d_W_790 d_W_791 d_W_792 (by decide) d_W_793 d_W_794 (by omega) ?_
  refine g_arg hz hX 3 d_W_795 d_W_796 d_W_797 (by decide) d_W_798 d_W_799 (by omega) ?_
  refine g_callVi hz (c_X_doorsFor l e1) (by decide) rc_X rfl rfl m_X_doorsFor mi_X_doorsFor ms_X_doorsFor (mG 708 (by decide +kernel) (by decide +kernel)) ⟨Nat.le_of_ble_eq_true rfl, Nat.le_of_ble_eq_true rfl⟩ rfl (st := []) rfl (Nat.le_of_ble_eq_true rfl) d_W_800 ?_
  refine g_aload_n hz 1 d_W_803 rfl rfl ?_
  refine g_arg hz hX 1 d_W_804 d_W_805 d_W_806 (by decide) d_W_807 d_W_808 (by omega) ?_
  refine g_arg hz hX 2 d_W_809 d_W_810 d_W_811 (by decide) d_W_812 d_W_813 (by omega) ?_
  refine g_arg hz hX 3 d_W_814 d_W_815 d_W_816 (by decide) d_W_817 d_W_818 (by omega) ?_
  refine g_callVi hz (c_R_doorsFor l e2) (by decide) rc_R rfl rfl m_R_doorsFor mi_R_doorsFor ms_R_doorsFor (mG 1358 (by decide +kernel) (by decide +kernel)) ⟨Nat.le_of_ble_eq_true rfl, Nat.le_of_ble_eq_true rfl⟩ rfl (st := [.int r]) rfl (Nat.le_of_ble_eq_true rfl) d_W_819 ?_
  exact g_icmp_eq hz (tgt := 1481) d_W_822 rfl (fun _ => kk s2 S' e3 e4) (fun q => absurd rfl q)
theorem law_19 {l : Launch} {z : Zt} {σ : Mm} {L0 : Nat} {xs : Nat → Int32} {i : Nat} {S : SV} (hz : ZOk z code 4 "PassedOnAndBetterLaw" 11 422) (hX : SX z L0 xs) (hi : i + 6 ≤ L0) (h1 : XI σ S) (h2 : RI σ S) (kk : ∀ σ' S', XI σ' S' → RI σ' S' → G l z code 4 1481 (LcL i) [] σ') : G l z code 4 827 (LcL i) [] σ := by
  obtain ⟨r, s1, s2, S', e1, e2, e3, e4⟩ := op_doorWanted (xs (i + 1)) (xs (i + 2)) (xs (i + 3)) σ S h1 h2
  refine g_aload_n hz 2 d_W_827 rfl rfl ?_
  refine g_arg hz hX 1 d_W_828 d_W_829 d_W_830 (by decide) d_W_831 d_W_832 (by omega) ?_
  refine g_arg hz hX 2 d_W_833 d_W_834 d_W_835 (by decide) d_W_836 d_W_837 (by omega) ?_
  refine g_arg hz hX 3 d_W_838 d_W_839 d_W_840 (by decide) d_W_841 d_W_842 (by omega) ?_
  refine g_callVi hz (c_X_doorWanted l e1) (by decide) rc_X rfl rfl m_X_doorWanted mi_X_doorWanted ms_X_doorWanted (mG 726 (by decide +kernel) (by decide +kernel)) ⟨Nat.le_of_ble_eq_true rfl, Nat.le_of_ble_eq_true rfl⟩ rfl (st := []) rfl (Nat.le_of_ble_eq_true rfl) d_W_843 ?_
  refine g_aload_n hz 1 d_W_846 rfl rfl ?_
  refine g_arg hz hX 1 d_W_847 d_W_848 d_W_849 (by decide) d_W_850 d_W_851 (by omega) ?_
  refine g_arg hz hX 2 d_W_852 d_W_853 d_W_854 (by decide) d_W_855 d_W_856 (by omega) ?_
  refine g_arg hz hX 3 d_W_857 d_W_858 d_W_859 (by decide) d_W_860 d_W_861 (by omega) ?_
  refine g_callVi hz (c_R_doorWanted l e2) (by decide) rc_R rfl rfl m_R_doorWanted mi_R_doorWanted ms_R_doorWanted (mG 1369 (by decide +kernel) (by decide +kernel)) ⟨Nat.le_of_ble_eq_true rfl, Nat.le_of_ble_eq_true rfl⟩ rfl (st := [.int r]) rfl (Nat.le_of_ble_eq_true rfl) d_W_862 ?_
  exact g_icmp_eq hz (tgt := 1481) d_W_865 rfl (fun _ => kk s2 S' e3 e4) (fun q => absurd rfl q)
theorem law_20 {l : Launch} {z : Zt} {σ : Mm} {L0 : Nat} {xs : Nat → Int32} {i : Nat} {S : SV} (hz : ZOk z code 4 "PassedOnAndBetterLaw" 11 422) (hX : SX z L0 xs) (hi : i + 6 ≤ L0) (h1 : XI σ S) (h2 : RI σ S) (kk : ∀ σ' S', XI σ' S' → RI σ' S' → G l z code 4 1481 (LcL i) [] σ') : G l z code 4 870 (LcL i) [] σ := by
  obtain ⟨r, s1, s2, S', e1, e2, e3, e4⟩ := op_passedOver (xs (i + 1)) σ S h1 h2
  refine g_aload_n hz 2 d_W_870 rfl rfl ?_
  refine g_arg hz hX 1 d_W_871 d_W_872 d_W_873 (by decide) d_W_874 d_W_875 (by omega) ?_
  refine g_callVi hz (c_X_passedOver l e1) (by decide) rc_X rfl rfl m_X_passedOver mi_X_passedOver ms_X_passedOver (mG 738 (by decide +kernel) (by decide +kernel)) ⟨Nat.le_of_ble_eq_true rfl, Nat.le_of_ble_eq_true rfl⟩ rfl (st := []) rfl (Nat.le_of_ble_eq_true rfl) d_W_876 ?_
  refine g_aload_n hz 1 d_W_879 rfl rfl ?_
  refine g_arg hz hX 1 d_W_880 d_W_881 d_W_882 (by decide) d_W_883 d_W_884 (by omega) ?_
  refine g_callVi hz (c_R_passedOver l e2) (by decide) rc_R rfl rfl m_R_passedOver mi_R_passedOver ms_R_passedOver (mG 1377 (by decide +kernel) (by decide +kernel)) ⟨Nat.le_of_ble_eq_true rfl, Nat.le_of_ble_eq_true rfl⟩ rfl (st := [.int r]) rfl (Nat.le_of_ble_eq_true rfl) d_W_885 ?_
  exact g_icmp_eq hz (tgt := 1481) d_W_888 rfl (fun _ => kk s2 S' e3 e4) (fun q => absurd rfl q)
theorem law_21 {l : Launch} {z : Zt} {σ : Mm} {L0 : Nat} {xs : Nat → Int32} {i : Nat} {S : SV} (hz : ZOk z code 4 "PassedOnAndBetterLaw" 11 422) (hX : SX z L0 xs) (hi : i + 6 ≤ L0) (h1 : XI σ S) (h2 : RI σ S) (kk : ∀ σ' S', XI σ' S' → RI σ' S' → G l z code 4 1481 (LcL i) [] σ') : G l z code 4 893 (LcL i) [] σ := by
  obtain ⟨r, s1, s2, S', e1, e2, e3, e4⟩ := op_chain (xs (i + 1)) (xs (i + 2)) σ S h1 h2
  refine g_aload_n hz 2 d_W_893 rfl rfl ?_
  refine g_arg hz hX 1 d_W_894 d_W_895 d_W_896 (by decide) d_W_897 d_W_898 (by omega) ?_
  refine g_arg hz hX 2 d_W_899 d_W_900 d_W_901 (by decide) d_W_902 d_W_903 (by omega) ?_
  refine g_callVi hz (c_X_chain l e1) (by decide) rc_X rfl rfl m_X_chain mi_X_chain ms_X_chain (mG 751 (by decide +kernel) (by decide +kernel)) ⟨Nat.le_of_ble_eq_true rfl, Nat.le_of_ble_eq_true rfl⟩ rfl (st := []) rfl (Nat.le_of_ble_eq_true rfl) d_W_904 ?_
  refine g_aload_n hz 1 d_W_907 rfl rfl ?_
  refine g_arg hz hX 1 d_W_908 d_W_909 d_W_910 (by decide) d_W_911 d_W_912 (by omega) ?_
  refine g_arg hz hX 2 d_W_913 d_W_914 d_W_915 (by decide) d_W_916 d_W_917 (by omega) ?_
  refine g_callVi hz (c_R_chain l e2) (by decide) rc_R rfl rfl m_R_chain mi_R_chain ms_R_chain (mG 1385 (by decide +kernel) (by decide +kernel)) ⟨Nat.le_of_ble_eq_true rfl, Nat.le_of_ble_eq_true rfl⟩ rfl (st := [.int r]) rfl (Nat.le_of_ble_eq_true rfl) d_W_918 ?_
  exact g_icmp_eq hz (tgt := 1481) d_W_921 rfl (fun _ => kk s2 S' e3 e4) (fun q => absurd rfl q)
theorem law_22 {l : Launch} {z : Zt} {σ : Mm} {L0 : Nat} {xs : Nat → Int32} {i : Nat} {S : SV} (hz : ZOk z code 4 "PassedOnAndBetterLaw" 11 422) (hX : SX z L0 xs) (hi : i + 6 ≤ L0) (h1 : XI σ S) (h2 : RI σ S) (kk : ∀ σ' S', XI σ' S' → RI σ' S' → G l z code 4 1481 (LcL i) [] σ') : G l z code 4 926 (LcL i) [] σ := by
  obtain ⟨r, s1, s2, S', e1, e2, e3, e4⟩ := op_circles σ S h1 h2
  refine g_aload_n hz 2 d_W_926 rfl rfl ?_
  refine g_callVi hz (c_X_circles l e1) (by decide) rc_X rfl rfl m_X_circles mi_X_circles ms_X_circles (mG 760 (by decide +kernel) (by decide +kernel)) ⟨Nat.le_of_ble_eq_true rfl, Nat.le_of_ble_eq_true rfl⟩ rfl (st := []) rfl (Nat.le_of_ble_eq_true rfl) d_W_927 ?_
  refine g_aload_n hz 1 d_W_930 rfl rfl ?_
  refine g_callVi hz (c_R_circles l e2) (by decide) rc_R rfl rfl m_R_circles mi_R_circles ms_R_circles (mG 1393 (by decide +kernel) (by decide +kernel)) ⟨Nat.le_of_ble_eq_true rfl, Nat.le_of_ble_eq_true rfl⟩ rfl (st := [.int r]) rfl (Nat.le_of_ble_eq_true rfl) d_W_931 ?_
  exact g_icmp_eq hz (tgt := 1481) d_W_934 rfl (fun _ => kk s2 S' e3 e4) (fun q => absurd rfl q)
theorem law_23 {l : Launch} {z : Zt} {σ : Mm} {L0 : Nat} {xs : Nat → Int32} {i : Nat} {S : SV} (hz : ZOk z code 4 "PassedOnAndBetterLaw" 11 422) (hX : SX z L0 xs) (hi : i + 6 ≤ L0) (h1 : XI σ S) (h2 : RI σ S) (kk : ∀ σ' S', XI σ' S' → RI σ' S' → G l z code 4 1481 (LcL i) [] σ') : G l z code 4 939 (LcL i) [] σ := by
  obtain ⟨r, s1, s2, S', e1, e2, e3, e4⟩ := op_way (xs (i + 1)) (xs (i + 2)) σ S h1 h2
  refine g_aload_n hz 2 d_W_939 rfl rfl ?_
  refine g_arg hz hX 1 d_W_940 d_W_941 d_W_942 (by decide) d_W_943 d_W_944 (by omega) ?_
  refine g_arg hz hX 2 d_W_945 d_W_946 d_W_947 (by decide) d_W_948 d_W_949 (by omega) ?_
  refine g_callVi hz (c_X_way l e1) (by decide) rc_X rfl rfl m_X_way mi_X_way ms_X_way (mG 772 (by decide +kernel) (by decide +kernel)) ⟨Nat.le_of_ble_eq_true rfl, Nat.le_of_ble_eq_true rfl⟩ rfl (st := []) rfl (Nat.le_of_ble_eq_true rfl) d_W_950 ?_
  refine g_aload_n hz 1 d_W_953 rfl rfl ?_
  refine g_arg hz hX 1 d_W_954 d_W_955 d_W_956 (by decide) d_W_957 d_W_958 (by omega) ?_
  refine g_arg hz hX 2 d_W_959 d_W_960 d_W_961 (by decide) d_W_962 d_W_963 (by omega) ?_
  refine g_callVi hz (c_R_way l e2) (by decide) rc_R rfl rfl m_R_way mi_R_way ms_R_way (mG 1401 (by decide +kernel) (by decide +kernel)) ⟨Nat.le_of_ble_eq_true rfl, Nat.le_of_ble_eq_true rfl⟩ rfl (st := [.int r]) rfl (Nat.le_of_ble_eq_true rfl) d_W_964 ?_
  exact g_icmp_eq hz (tgt := 1481) d_W_967 rfl (fun _ => kk s2 S' e3 e4) (fun q => absurd rfl q)
theorem law_24 {l : Launch} {z : Zt} {σ : Mm} {L0 : Nat} {xs : Nat → Int32} {i : Nat} {S : SV} (hz : ZOk z code 4 "PassedOnAndBetterLaw" 11 422) (hX : SX z L0 xs) (hi : i + 6 ≤ L0) (h1 : XI σ S) (h2 : RI σ S) (kk : ∀ σ' S', XI σ' S' → RI σ' S' → G l z code 4 1481 (LcL i) [] σ') : G l z code 4 972 (LcL i) [] σ := by
  obtain ⟨r, s1, s2, S', e1, e2, e3, e4⟩ := op_whatItWas (xs (i + 1)) (xs (i + 2)) σ S h1 h2
  refine g_aload_n hz 2 d_W_972 rfl rfl ?_
  refine g_arg hz hX 1 d_W_973 d_W_974 d_W_975 (by decide) d_W_976 d_W_977 (by omega) ?_
  refine g_arg hz hX 2 d_W_978 d_W_979 d_W_980 (by decide) d_W_981 d_W_982 (by omega) ?_
  refine g_callVi hz (c_X_whatItWas l e1) (by decide) rc_X rfl rfl m_X_whatItWas mi_X_whatItWas ms_X_whatItWas (mG 777 (by decide +kernel) (by decide +kernel)) ⟨Nat.le_of_ble_eq_true rfl, Nat.le_of_ble_eq_true rfl⟩ rfl (st := []) rfl (Nat.le_of_ble_eq_true rfl) d_W_983 ?_
  refine g_aload_n hz 1 d_W_986 rfl rfl ?_
  refine g_arg hz hX 1 d_W_987 d_W_988 d_W_989 (by decide) d_W_990 d_W_991 (by omega) ?_
  refine g_arg hz hX 2 d_W_992 d_W_993 d_W_994 (by decide) d_W_995 d_W_996 (by omega) ?_
  refine g_callVi hz (c_R_whatItWas l e2) (by decide) rc_R rfl rfl m_R_whatItWas mi_R_whatItWas ms_R_whatItWas (mG 1405 (by decide +kernel) (by decide +kernel)) ⟨Nat.le_of_ble_eq_true rfl, Nat.le_of_ble_eq_true rfl⟩ rfl (st := [.int r]) rfl (Nat.le_of_ble_eq_true rfl) d_W_997 ?_
  exact g_icmp_eq hz (tgt := 1481) d_W_1000 rfl (fun _ => kk s2 S' e3 e4) (fun q => absurd rfl q)
theorem law_25 {l : Launch} {z : Zt} {σ : Mm} {L0 : Nat} {xs : Nat → Int32} {i : Nat} {S : SV} (hz : ZOk z code 4 "PassedOnAndBetterLaw" 11 422) (hX : SX z L0 xs) (hi : i + 6 ≤ L0) (h1 : XI σ S) (h2 : RI σ S) (kk : ∀ σ' S', XI σ' S' → RI σ' S' → G l z code 4 1481 (LcL i) [] σ') : G l z code 4 1005 (LcL i) [] σ := by
  obtain ⟨r, s1, s2, S', e1, e2, e3, e4⟩ := op_whoHad (xs (i + 1)) (xs (i + 2)) σ S h1 h2
  refine g_aload_n hz 2 d_W_1005 rfl rfl ?_
  refine g_arg hz hX 1 d_W_1006 d_W_1007 d_W_1008 (by decide) d_W_1009 d_W_1010 (by omega) ?_
  refine g_arg hz hX 2 d_W_1011 d_W_1012 d_W_1013 (by decide) d_W_1014 d_W_1015 (by omega) ?_
  refine g_callVi hz (c_X_whoHad l e1) (by decide) rc_X rfl rfl m_X_whoHad mi_X_whoHad ms_X_whoHad (mG 807 (by decide +kernel) (by decide +kernel)) ⟨Nat.le_of_ble_eq_true rfl, Nat.le_of_ble_eq_true rfl⟩ rfl (st := []) rfl (Nat.le_of_ble_eq_true rfl) d_W_1016 ?_
  refine g_aload_n hz 1 d_W_1019 rfl rfl ?_
  refine g_arg hz hX 1 d_W_1020 d_W_1021 d_W_1022 (by decide) d_W_1023 d_W_1024 (by omega) ?_
  refine g_arg hz hX 2 d_W_1025 d_W_1026 d_W_1027 (by decide) d_W_1028 d_W_1029 (by omega) ?_
  refine g_callVi hz (c_R_whoHad l e2) (by decide) rc_R rfl rfl m_R_whoHad mi_R_whoHad ms_R_whoHad (mG 1417 (by decide +kernel) (by decide +kernel)) ⟨Nat.le_of_ble_eq_true rfl, Nat.le_of_ble_eq_true rfl⟩ rfl (st := [.int r]) rfl (Nat.le_of_ble_eq_true rfl) d_W_1030 ?_
  exact g_icmp_eq hz (tgt := 1481) d_W_1033 rfl (fun _ => kk s2 S' e3 e4) (fun q => absurd rfl q)
theorem law_26 {l : Launch} {z : Zt} {σ : Mm} {L0 : Nat} {xs : Nat → Int32} {i : Nat} {S : SV} (hz : ZOk z code 4 "PassedOnAndBetterLaw" 11 422) (hX : SX z L0 xs) (hi : i + 6 ≤ L0) (h1 : XI σ S) (h2 : RI σ S) (kk : ∀ σ' S', XI σ' S' → RI σ' S' → G l z code 4 1481 (LcL i) [] σ') : G l z code 4 1038 (LcL i) [] σ := by
  obtain ⟨r, s1, s2, S', e1, e2, e3, e4⟩ := op_two (xs (i + 1)) (xs (i + 2)) (xs (i + 3)) σ S h1 h2
  refine g_aload_n hz 2 d_W_1038 rfl rfl ?_
  refine g_arg hz hX 1 d_W_1039 d_W_1040 d_W_1041 (by decide) d_W_1042 d_W_1043 (by omega) ?_
  refine g_arg hz hX 2 d_W_1044 d_W_1045 d_W_1046 (by decide) d_W_1047 d_W_1048 (by omega) ?_
  refine g_arg hz hX 3 d_W_1049 d_W_1050 d_W_1051 (by decide) d_W_1052 d_W_1053 (by omega) ?_
  refine g_callVi hz (c_X_two l e1) (by decide) rc_X rfl rfl m_X_two mi_X_two ms_X_two (mG 823 (by decide +kernel) (by decide +kernel)) ⟨Nat.le_of_ble_eq_true rfl, Nat.le_of_ble_eq_true rfl⟩ rfl (st := []) rfl (Nat.le_of_ble_eq_true rfl) d_W_1054 ?_
  refine g_aload_n hz 1 d_W_1057 rfl rfl ?_
  refine g_arg hz hX 1 d_W_1058 d_W_1059 d_W_1060 (by decide) d_W_1061 d_W_1062 (by omega) ?_
  refine g_arg hz hX 2 d_W_1063 d_W_1064 d_W_1065 (by decide) d_W_1066 d_W_1067 (by omega) ?_
  refine g_arg hz hX 3 d_W_1068 d_W_1069 d_W_1070 (by decide) d_W_1071 d_W_1072 (by omega) ?_
  refine g_callVi hz (c_R_two l e2) (by decide) rc_R rfl rfl m_R_two mi_R_two ms_R_two (mG 1425 (by decide +kernel) (by decide +kernel)) ⟨Nat.le_of_ble_eq_true rfl, Nat.le_of_ble_eq_true rfl⟩ rfl (st := [.int r]) rfl (Nat.le_of_ble_eq_true rfl) d_W_1073 ?_
  exact g_icmp_eq hz (tgt := 1481) d_W_1076 rfl (fun _ => kk s2 S' e3 e4) (fun q => absurd rfl q)
theorem law_27 {l : Launch} {z : Zt} {σ : Mm} {L0 : Nat} {xs : Nat → Int32} {i : Nat} {S : SV} (hz : ZOk z code 4 "PassedOnAndBetterLaw" 11 422) (hX : SX z L0 xs) (hi : i + 6 ≤ L0) (h1 : XI σ S) (h2 : RI σ S) (kk : ∀ σ' S', XI σ' S' → RI σ' S' → G l z code 4 1481 (LcL i) [] σ') : G l z code 4 1081 (LcL i) [] σ := by
  obtain ⟨r, s1, s2, S', e1, e2, e3, e4⟩ := op_lost (xs (i + 1)) (xs (i + 2)) (xs (i + 3)) (xs (i + 4)) (xs (i + 5)) σ S h1 h2
  refine g_aload_n hz 2 d_W_1081 rfl rfl ?_
  refine g_arg hz hX 1 d_W_1082 d_W_1083 d_W_1084 (by decide) d_W_1085 d_W_1086 (by omega) ?_
  refine g_arg hz hX 2 d_W_1087 d_W_1088 d_W_1089 (by decide) d_W_1090 d_W_1091 (by omega) ?_
  refine g_arg hz hX 3 d_W_1092 d_W_1093 d_W_1094 (by decide) d_W_1095 d_W_1096 (by omega) ?_
  refine g_arg hz hX 4 d_W_1097 d_W_1098 d_W_1099 (by decide) d_W_1100 d_W_1101 (by omega) ?_
  refine g_arg hz hX 5 d_W_1102 d_W_1103 d_W_1104 (by decide) d_W_1105 d_W_1106 (by omega) ?_
  refine g_callVl hz (c_X_lost l e1) (by decide) rc_X rfl rfl m_X_lost mi_X_lost ms_X_lost (mG 837 (by decide +kernel) (by decide +kernel)) ⟨Nat.le_of_ble_eq_true rfl, Nat.le_of_ble_eq_true rfl⟩ rfl (st := []) rfl (Nat.le_of_ble_eq_true rfl) d_W_1107 ?_
  refine g_aload_n hz 1 d_W_1110 rfl rfl ?_
  refine g_arg hz hX 1 d_W_1111 d_W_1112 d_W_1113 (by decide) d_W_1114 d_W_1115 (by omega) ?_
  refine g_arg hz hX 2 d_W_1116 d_W_1117 d_W_1118 (by decide) d_W_1119 d_W_1120 (by omega) ?_
  refine g_arg hz hX 3 d_W_1121 d_W_1122 d_W_1123 (by decide) d_W_1124 d_W_1125 (by omega) ?_
  refine g_arg hz hX 4 d_W_1126 d_W_1127 d_W_1128 (by decide) d_W_1129 d_W_1130 (by omega) ?_
  refine g_arg hz hX 5 d_W_1131 d_W_1132 d_W_1133 (by decide) d_W_1134 d_W_1135 (by omega) ?_
  refine g_callVl hz (c_R_lost l e2) (by decide) rc_R rfl rfl m_R_lost mi_R_lost ms_R_lost (mG 1437 (by decide +kernel) (by decide +kernel)) ⟨Nat.le_of_ble_eq_true rfl, Nat.le_of_ble_eq_true rfl⟩ rfl (st := [.long r]) rfl (Nat.le_of_ble_eq_true rfl) d_W_1136 ?_
  refine g_lcmp hz d_W_1139 ?_
  exact g_if_eq hz (tgt := 1481) d_W_1140 rfl (fun _ => kk s2 S' e3 e4) (fun q => absurd (lg_self r) q)
theorem law_28 {l : Launch} {z : Zt} {σ : Mm} {L0 : Nat} {xs : Nat → Int32} {i : Nat} {S : SV} (hz : ZOk z code 4 "PassedOnAndBetterLaw" 11 422) (hX : SX z L0 xs) (hi : i + 6 ≤ L0) (h1 : XI σ S) (h2 : RI σ S) (kk : ∀ σ' S', XI σ' S' → RI σ' S' → G l z code 4 1481 (LcL i) [] σ') : G l z code 4 1145 (LcL i) [] σ := by
  obtain ⟨r, s1, s2, S', e1, e2, e3, e4⟩ := op_added (xs (i + 1)) (xs (i + 2)) σ S h1 h2
  refine g_aload_n hz 2 d_W_1145 rfl rfl ?_
  refine g_arg hz hX 1 d_W_1146 d_W_1147 d_W_1148 (by decide) d_W_1149 d_W_1150 (by omega) ?_
  refine g_arg hz hX 2 d_W_1151 d_W_1152 d_W_1153 (by decide) d_W_1154 d_W_1155 (by omega) ?_
  refine g_callVi hz (c_X_added l e1) (by decide) rc_X rfl rfl m_X_added mi_X_added ms_X_added (mG 866 (by decide +kernel) (by decide +kernel)) ⟨Nat.le_of_ble_eq_true rfl, Nat.le_of_ble_eq_true rfl⟩ rfl (st := []) rfl (Nat.le_of_ble_eq_true rfl) d_W_1156 ?_
  refine g_aload_n hz 1 d_W_1159 rfl rfl ?_
  refine g_arg hz hX 1 d_W_1160 d_W_1161 d_W_1162 (by decide) d_W_1163 d_W_1164 (by omega) ?_
  refine g_arg hz hX 2 d_W_1165 d_W_1166 d_W_1167 (by decide) d_W_1168 d_W_1169 (by omega) ?_
  refine g_callVi hz (c_R_added l e2) (by decide) rc_R rfl rfl m_R_added mi_R_added ms_R_added (mG 1452 (by decide +kernel) (by decide +kernel)) ⟨Nat.le_of_ble_eq_true rfl, Nat.le_of_ble_eq_true rfl⟩ rfl (st := [.int r]) rfl (Nat.le_of_ble_eq_true rfl) d_W_1170 ?_
  exact g_icmp_eq hz (tgt := 1481) d_W_1173 rfl (fun _ => kk s2 S' e3 e4) (fun q => absurd rfl q)
theorem law_29 {l : Launch} {z : Zt} {σ : Mm} {L0 : Nat} {xs : Nat → Int32} {i : Nat} {S : SV} (hz : ZOk z code 4 "PassedOnAndBetterLaw" 11 422) (hX : SX z L0 xs) (hi : i + 6 ≤ L0) (h1 : XI σ S) (h2 : RI σ S) (kk : ∀ σ' S', XI σ' S' → RI σ' S' → G l z code 4 1481 (LcL i) [] σ') : G l z code 4 1178 (LcL i) [] σ := by
  obtain ⟨r, s1, s2, S', e1, e2, e3, e4⟩ := op_dearest (xs (i + 1)) σ S h1 h2
  refine g_aload_n hz 2 d_W_1178 rfl rfl ?_
  refine g_arg hz hX 1 d_W_1179 d_W_1180 d_W_1181 (by decide) d_W_1182 d_W_1183 (by omega) ?_
  refine g_callVi hz (c_X_dearest l e1) (by decide) rc_X rfl rfl m_X_dearest mi_X_dearest ms_X_dearest (mG 880 (by decide +kernel) (by decide +kernel)) ⟨Nat.le_of_ble_eq_true rfl, Nat.le_of_ble_eq_true rfl⟩ rfl (st := []) rfl (Nat.le_of_ble_eq_true rfl) d_W_1184 ?_
  refine g_aload_n hz 1 d_W_1187 rfl rfl ?_
  refine g_arg hz hX 1 d_W_1188 d_W_1189 d_W_1190 (by decide) d_W_1191 d_W_1192 (by omega) ?_
  refine g_callVi hz (c_R_dearest l e2) (by decide) rc_R rfl rfl m_R_dearest mi_R_dearest ms_R_dearest (mG 1456 (by decide +kernel) (by decide +kernel)) ⟨Nat.le_of_ble_eq_true rfl, Nat.le_of_ble_eq_true rfl⟩ rfl (st := [.int r]) rfl (Nat.le_of_ble_eq_true rfl) d_W_1193 ?_
  exact g_icmp_eq hz (tgt := 1481) d_W_1196 rfl (fun _ => kk s2 S' e3 e4) (fun q => absurd rfl q)
theorem law_30 {l : Launch} {z : Zt} {σ : Mm} {L0 : Nat} {xs : Nat → Int32} {i : Nat} {S : SV} (hz : ZOk z code 4 "PassedOnAndBetterLaw" 11 422) (hX : SX z L0 xs) (hi : i + 6 ≤ L0) (h1 : XI σ S) (h2 : RI σ S) (kk : ∀ σ' S', XI σ' S' → RI σ' S' → G l z code 4 1481 (LcL i) [] σ') : G l z code 4 1201 (LcL i) [] σ := by
  obtain ⟨r, s1, s2, S', e1, e2, e3, e4⟩ := op_tooLarge (xs (i + 1)) σ S h1 h2
  refine g_aload_n hz 2 d_W_1201 rfl rfl ?_
  refine g_arg hz hX 1 d_W_1202 d_W_1203 d_W_1204 (by decide) d_W_1205 d_W_1206 (by omega) ?_
  refine g_callVi hz (c_X_tooLarge l e1) (by decide) rc_X rfl rfl m_X_tooLarge mi_X_tooLarge ms_X_tooLarge (mG 889 (by decide +kernel) (by decide +kernel)) ⟨Nat.le_of_ble_eq_true rfl, Nat.le_of_ble_eq_true rfl⟩ rfl (st := []) rfl (Nat.le_of_ble_eq_true rfl) d_W_1207 ?_
  refine g_aload_n hz 1 d_W_1210 rfl rfl ?_
  refine g_arg hz hX 1 d_W_1211 d_W_1212 d_W_1213 (by decide) d_W_1214 d_W_1215 (by omega) ?_
  refine g_callVi hz (c_R_tooLarge l e2) (by decide) rc_R rfl rfl m_R_tooLarge mi_R_tooLarge ms_R_tooLarge (mG 1460 (by decide +kernel) (by decide +kernel)) ⟨Nat.le_of_ble_eq_true rfl, Nat.le_of_ble_eq_true rfl⟩ rfl (st := [.int r]) rfl (Nat.le_of_ble_eq_true rfl) d_W_1216 ?_
  exact g_icmp_eq hz (tgt := 1481) d_W_1219 rfl (fun _ => kk s2 S' e3 e4) (fun q => absurd rfl q)
theorem law_31 {l : Launch} {z : Zt} {σ : Mm} {L0 : Nat} {xs : Nat → Int32} {i : Nat} {S : SV} (hz : ZOk z code 4 "PassedOnAndBetterLaw" 11 422) (hX : SX z L0 xs) (hi : i + 6 ≤ L0) (h1 : XI σ S) (h2 : RI σ S) (kk : ∀ σ' S', XI σ' S' → RI σ' S' → G l z code 4 1481 (LcL i) [] σ') : G l z code 4 1224 (LcL i) [] σ := by
  obtain ⟨r, s1, s2, S', e1, e2, e3, e4⟩ := op_hasty (xs (i + 1)) σ S h1 h2
  refine g_aload_n hz 2 d_W_1224 rfl rfl ?_
  refine g_arg hz hX 1 d_W_1225 d_W_1226 d_W_1227 (by decide) d_W_1228 d_W_1229 (by omega) ?_
  refine g_callVi hz (c_X_hasty l e1) (by decide) rc_X rfl rfl m_X_hasty mi_X_hasty ms_X_hasty (mG 897 (by decide +kernel) (by decide +kernel)) ⟨Nat.le_of_ble_eq_true rfl, Nat.le_of_ble_eq_true rfl⟩ rfl (st := []) rfl (Nat.le_of_ble_eq_true rfl) d_W_1230 ?_
  refine g_aload_n hz 1 d_W_1233 rfl rfl ?_
  refine g_arg hz hX 1 d_W_1234 d_W_1235 d_W_1236 (by decide) d_W_1237 d_W_1238 (by omega) ?_
  refine g_callVi hz (c_R_hasty l e2) (by decide) rc_R rfl rfl m_R_hasty mi_R_hasty ms_R_hasty (mG 1464 (by decide +kernel) (by decide +kernel)) ⟨Nat.le_of_ble_eq_true rfl, Nat.le_of_ble_eq_true rfl⟩ rfl (st := [.int r]) rfl (Nat.le_of_ble_eq_true rfl) d_W_1239 ?_
  exact g_icmp_eq hz (tgt := 1481) d_W_1242 rfl (fun _ => kk s2 S' e3 e4) (fun q => absurd rfl q)
theorem law_32 {l : Launch} {z : Zt} {σ : Mm} {L0 : Nat} {xs : Nat → Int32} {i : Nat} {S : SV} (hz : ZOk z code 4 "PassedOnAndBetterLaw" 11 422) (hX : SX z L0 xs) (hi : i + 6 ≤ L0) (h1 : XI σ S) (h2 : RI σ S) (kk : ∀ σ' S', XI σ' S' → RI σ' S' → G l z code 4 1481 (LcL i) [] σ') : G l z code 4 1247 (LcL i) [] σ := by
  obtain ⟨r, s1, s2, S', e1, e2, e3, e4⟩ := op_mean (xs (i + 1)) σ S h1 h2
  refine g_aload_n hz 2 d_W_1247 rfl rfl ?_
  refine g_arg hz hX 1 d_W_1248 d_W_1249 d_W_1250 (by decide) d_W_1251 d_W_1252 (by omega) ?_
  refine g_callVl hz (c_X_mean l e1) (by decide) rc_X rfl rfl m_X_mean mi_X_mean ms_X_mean (mG 905 (by decide +kernel) (by decide +kernel)) ⟨Nat.le_of_ble_eq_true rfl, Nat.le_of_ble_eq_true rfl⟩ rfl (st := []) rfl (Nat.le_of_ble_eq_true rfl) d_W_1253 ?_
  refine g_aload_n hz 1 d_W_1256 rfl rfl ?_
  refine g_arg hz hX 1 d_W_1257 d_W_1258 d_W_1259 (by decide) d_W_1260 d_W_1261 (by omega) ?_
  refine g_callVl hz (c_R_mean l e2) (by decide) rc_R rfl rfl m_R_mean mi_R_mean ms_R_mean (mG 1468 (by decide +kernel) (by decide +kernel)) ⟨Nat.le_of_ble_eq_true rfl, Nat.le_of_ble_eq_true rfl⟩ rfl (st := [.long r]) rfl (Nat.le_of_ble_eq_true rfl) d_W_1262 ?_
  refine g_lcmp hz d_W_1265 ?_
  exact g_if_eq hz (tgt := 1481) d_W_1266 rfl (fun _ => kk s2 S' e3 e4) (fun q => absurd (lg_self r) q)
theorem law_33 {l : Launch} {z : Zt} {σ : Mm} {L0 : Nat} {xs : Nat → Int32} {i : Nat} {S : SV} (hz : ZOk z code 4 "PassedOnAndBetterLaw" 11 422) (hX : SX z L0 xs) (hi : i + 6 ≤ L0) (h1 : XI σ S) (h2 : RI σ S) (kk : ∀ σ' S', XI σ' S' → RI σ' S' → G l z code 4 1481 (LcL i) [] σ') : G l z code 4 1271 (LcL i) [] σ := by
  obtain ⟨r, s1, s2, S', e1, e2, e3, e4⟩ := op_meet (xs (i + 1)) (xs (i + 2)) σ S h1 h2
  refine g_aload_n hz 2 d_W_1271 rfl rfl ?_
  refine g_arg hz hX 1 d_W_1272 d_W_1273 d_W_1274 (by decide) d_W_1275 d_W_1276 (by omega) ?_
  refine g_arg hz hX 2 d_W_1277 d_W_1278 d_W_1279 (by decide) d_W_1280 d_W_1281 (by omega) ?_
  refine g_callVi hz (c_X_meet l e1) (by decide) rc_X rfl rfl m_X_meet mi_X_meet ms_X_meet (mG 910 (by decide +kernel) (by decide +kernel)) ⟨Nat.le_of_ble_eq_true rfl, Nat.le_of_ble_eq_true rfl⟩ rfl (st := []) rfl (Nat.le_of_ble_eq_true rfl) d_W_1282 ?_
  refine g_aload_n hz 1 d_W_1285 rfl rfl ?_
  refine g_arg hz hX 1 d_W_1286 d_W_1287 d_W_1288 (by decide) d_W_1289 d_W_1290 (by omega) ?_
  refine g_arg hz hX 2 d_W_1291 d_W_1292 d_W_1293 (by decide) d_W_1294 d_W_1295 (by omega) ?_
  refine g_callVi hz (c_R_meet l e2) (by decide) rc_R rfl rfl m_R_meet mi_R_meet ms_R_meet (mG 1472 (by decide +kernel) (by decide +kernel)) ⟨Nat.le_of_ble_eq_true rfl, Nat.le_of_ble_eq_true rfl⟩ rfl (st := [.int r]) rfl (Nat.le_of_ble_eq_true rfl) d_W_1296 ?_
  exact g_icmp_eq hz (tgt := 1481) d_W_1299 rfl (fun _ => kk s2 S' e3 e4) (fun q => absurd rfl q)
theorem law_34 {l : Launch} {z : Zt} {σ : Mm} {L0 : Nat} {xs : Nat → Int32} {i : Nat} {S : SV} (hz : ZOk z code 4 "PassedOnAndBetterLaw" 11 422) (hX : SX z L0 xs) (hi : i + 6 ≤ L0) (h1 : XI σ S) (h2 : RI σ S) (kk : ∀ σ' S', XI σ' S' → RI σ' S' → G l z code 4 1481 (LcL i) [] σ') : G l z code 4 1304 (LcL i) [] σ := by
  obtain ⟨r, s1, s2, S', e1, e2, e3, e4⟩ := op_bare (xs (i + 1)) σ S h1 h2
  refine g_aload_n hz 2 d_W_1304 rfl rfl ?_
  refine g_arg hz hX 1 d_W_1305 d_W_1306 d_W_1307 (by decide) d_W_1308 d_W_1309 (by omega) ?_
  refine g_callVi hz (c_X_bare l e1) (by decide) rc_X rfl rfl m_X_bare mi_X_bare ms_X_bare (mG 918 (by decide +kernel) (by decide +kernel)) ⟨Nat.le_of_ble_eq_true rfl, Nat.le_of_ble_eq_true rfl⟩ rfl (st := []) rfl (Nat.le_of_ble_eq_true rfl) d_W_1310 ?_
  refine g_aload_n hz 1 d_W_1313 rfl rfl ?_
  refine g_arg hz hX 1 d_W_1314 d_W_1315 d_W_1316 (by decide) d_W_1317 d_W_1318 (by omega) ?_
  refine g_callVi hz (c_R_bare l e2) (by decide) rc_R rfl rfl m_R_bare mi_R_bare ms_R_bare (mG 1476 (by decide +kernel) (by decide +kernel)) ⟨Nat.le_of_ble_eq_true rfl, Nat.le_of_ble_eq_true rfl⟩ rfl (st := [.int r]) rfl (Nat.le_of_ble_eq_true rfl) d_W_1319 ?_
  exact g_icmp_eq hz (tgt := 1481) d_W_1322 rfl (fun _ => kk s2 S' e3 e4) (fun q => absurd rfl q)
theorem law_35 {l : Launch} {z : Zt} {σ : Mm} {L0 : Nat} {xs : Nat → Int32} {i : Nat} {S : SV} (hz : ZOk z code 4 "PassedOnAndBetterLaw" 11 422) (hX : SX z L0 xs) (hi : i + 6 ≤ L0) (h1 : XI σ S) (h2 : RI σ S) (kk : ∀ σ' S', XI σ' S' → RI σ' S' → G l z code 4 1481 (LcL i) [] σ') : G l z code 4 1327 (LcL i) [] σ := by
  obtain ⟨r, s1, s2, S', e1, e2, e3, e4⟩ := op_year σ S h1 h2
  refine g_aload_n hz 2 d_W_1327 rfl rfl ?_
  refine g_callVi hz (c_X_year l e1) (by decide) rc_X rfl rfl m_X_year mi_X_year ms_X_year (mG 926 (by decide +kernel) (by decide +kernel)) ⟨Nat.le_of_ble_eq_true rfl, Nat.le_of_ble_eq_true rfl⟩ rfl (st := []) rfl (Nat.le_of_ble_eq_true rfl) d_W_1328 ?_
  refine g_aload_n hz 1 d_W_1331 rfl rfl ?_
  refine g_callVi hz (c_R_year l e2) (by decide) rc_R rfl rfl m_R_year mi_R_year ms_R_year (mG 1480 (by decide +kernel) (by decide +kernel)) ⟨Nat.le_of_ble_eq_true rfl, Nat.le_of_ble_eq_true rfl⟩ rfl (st := [.int r]) rfl (Nat.le_of_ble_eq_true rfl) d_W_1332 ?_
  exact g_icmp_eq hz (tgt := 1481) d_W_1335 rfl (fun _ => kk s2 S' e3 e4) (fun q => absurd rfl q)
theorem law_36 {l : Launch} {z : Zt} {σ : Mm} {L0 : Nat} {xs : Nat → Int32} {i : Nat} {S : SV} (hz : ZOk z code 4 "PassedOnAndBetterLaw" 11 422) (hX : SX z L0 xs) (hi : i + 6 ≤ L0) (h1 : XI σ S) (h2 : RI σ S) (kk : ∀ σ' S', XI σ' S' → RI σ' S' → G l z code 4 1481 (LcL i) [] σ') : G l z code 4 1340 (LcL i) [] σ := by
  obtain ⟨r, s1, s2, S', e1, e2, e3, e4⟩ := op_row (xs (i + 1)) σ S h1 h2
  refine g_aload_n hz 2 d_W_1340 rfl rfl ?_
  refine g_arg hz hX 1 d_W_1341 d_W_1342 d_W_1343 (by decide) d_W_1344 d_W_1345 (by omega) ?_
  refine g_callVi hz (c_X_row l e1) (by decide) rc_X rfl rfl m_X_row mi_X_row ms_X_row (mG 934 (by decide +kernel) (by decide +kernel)) ⟨Nat.le_of_ble_eq_true rfl, Nat.le_of_ble_eq_true rfl⟩ rfl (st := []) rfl (Nat.le_of_ble_eq_true rfl) d_W_1346 ?_
  refine g_aload_n hz 1 d_W_1349 rfl rfl ?_
  refine g_arg hz hX 1 d_W_1350 d_W_1351 d_W_1352 (by decide) d_W_1353 d_W_1354 (by omega) ?_
  refine g_callVi hz (c_R_row l e2) (by decide) rc_R rfl rfl m_R_row mi_R_row ms_R_row (mG 1484 (by decide +kernel) (by decide +kernel)) ⟨Nat.le_of_ble_eq_true rfl, Nat.le_of_ble_eq_true rfl⟩ rfl (st := [.int r]) rfl (Nat.le_of_ble_eq_true rfl) d_W_1355 ?_
  exact g_icmp_eq hz (tgt := 1481) d_W_1358 rfl (fun _ => kk s2 S' e3 e4) (fun q => absurd rfl q)
theorem law_37 {l : Launch} {z : Zt} {σ : Mm} {L0 : Nat} {xs : Nat → Int32} {i : Nat} {S : SV} (hz : ZOk z code 4 "PassedOnAndBetterLaw" 11 422) (hX : SX z L0 xs) (hi : i + 6 ≤ L0) (h1 : XI σ S) (h2 : RI σ S) (kk : ∀ σ' S', XI σ' S' → RI σ' S' → G l z code 4 1481 (LcL i) [] σ') : G l z code 4 1363 (LcL i) [] σ := by
  obtain ⟨r, s1, s2, S', e1, e2, e3, e4⟩ := op_judge σ S h1 h2
  refine g_aload_n hz 2 d_W_1363 rfl rfl ?_
  refine g_callVi hz (c_X_judge l e1) (by decide) rc_X rfl rfl m_X_judge mi_X_judge ms_X_judge (mG 947 (by decide +kernel) (by decide +kernel)) ⟨Nat.le_of_ble_eq_true rfl, Nat.le_of_ble_eq_true rfl⟩ rfl (st := []) rfl (Nat.le_of_ble_eq_true rfl) d_W_1364 ?_
  refine g_aload_n hz 1 d_W_1367 rfl rfl ?_
  refine g_callVi hz (c_R_judge l e2) (by decide) rc_R rfl rfl m_R_judge mi_R_judge ms_R_judge (mG 1488 (by decide +kernel) (by decide +kernel)) ⟨Nat.le_of_ble_eq_true rfl, Nat.le_of_ble_eq_true rfl⟩ rfl (st := [.int r]) rfl (Nat.le_of_ble_eq_true rfl) d_W_1368 ?_
  exact g_icmp_eq hz (tgt := 1481) d_W_1371 rfl (fun _ => kk s2 S' e3 e4) (fun q => absurd rfl q)
theorem law_38 {l : Launch} {z : Zt} {σ : Mm} {L0 : Nat} {xs : Nat → Int32} {i : Nat} {S : SV} (hz : ZOk z code 4 "PassedOnAndBetterLaw" 11 422) (hX : SX z L0 xs) (hi : i + 6 ≤ L0) (h1 : XI σ S) (h2 : RI σ S) (kk : ∀ σ' S', XI σ' S' → RI σ' S' → G l z code 4 1481 (LcL i) [] σ') : G l z code 4 1376 (LcL i) [] σ := by
  obtain ⟨r, s1, s2, S', e1, e2, e3, e4⟩ := op_clear σ S h1 h2
  refine g_aload_n hz 2 d_W_1376 rfl rfl ?_
  refine g_callVi hz (c_X_clear l e1) (by decide) rc_X rfl rfl m_X_clear mi_X_clear ms_X_clear (mG 961 (by decide +kernel) (by decide +kernel)) ⟨Nat.le_of_ble_eq_true rfl, Nat.le_of_ble_eq_true rfl⟩ rfl (st := []) rfl (Nat.le_of_ble_eq_true rfl) d_W_1377 ?_
  refine g_aload_n hz 1 d_W_1380 rfl rfl ?_
  refine g_callVi hz (c_R_clear l e2) (by decide) rc_R rfl rfl m_R_clear mi_R_clear ms_R_clear (mG 1492 (by decide +kernel) (by decide +kernel)) ⟨Nat.le_of_ble_eq_true rfl, Nat.le_of_ble_eq_true rfl⟩ rfl (st := [.int r]) rfl (Nat.le_of_ble_eq_true rfl) d_W_1381 ?_
  exact g_icmp_eq hz (tgt := 1481) d_W_1384 rfl (fun _ => kk s2 S' e3 e4) (fun q => absurd rfl q)
theorem law_39 {l : Launch} {z : Zt} {σ : Mm} {L0 : Nat} {xs : Nat → Int32} {i : Nat} {S : SV} (hz : ZOk z code 4 "PassedOnAndBetterLaw" 11 422) (hX : SX z L0 xs) (hi : i + 6 ≤ L0) (h1 : XI σ S) (h2 : RI σ S) (kk : ∀ σ' S', XI σ' S' → RI σ' S' → G l z code 4 1481 (LcL i) [] σ') : G l z code 4 1389 (LcL i) [] σ := by
  obtain ⟨r, s1, s2, S', e1, e2, e3, e4⟩ := op_lots (xs (i + 1)) (xs (i + 2)) (xs (i + 3)) σ S h1 h2
  refine g_aload_n hz 2 d_W_1389 rfl rfl ?_
  refine g_arg hz hX 1 d_W_1390 d_W_1391 d_W_1392 (by decide) d_W_1393 d_W_1394 (by omega) ?_
  refine g_arg hz hX 2 d_W_1395 d_W_1396 d_W_1397 (by decide) d_W_1398 d_W_1399 (by omega) ?_
  refine g_arg hz hX 3 d_W_1400 d_W_1401 d_W_1402 (by decide) d_W_1403 d_W_1404 (by omega) ?_
  refine g_callVi hz (c_X_lots l e1) (by decide) rc_X rfl rfl m_X_lots mi_X_lots ms_X_lots (mG 965 (by decide +kernel) (by decide +kernel)) ⟨Nat.le_of_ble_eq_true rfl, Nat.le_of_ble_eq_true rfl⟩ rfl (st := []) rfl (Nat.le_of_ble_eq_true rfl) d_W_1405 ?_
  refine g_aload_n hz 1 d_W_1408 rfl rfl ?_
  refine g_arg hz hX 1 d_W_1409 d_W_1410 d_W_1411 (by decide) d_W_1412 d_W_1413 (by omega) ?_
  refine g_arg hz hX 2 d_W_1414 d_W_1415 d_W_1416 (by decide) d_W_1417 d_W_1418 (by omega) ?_
  refine g_arg hz hX 3 d_W_1419 d_W_1420 d_W_1421 (by decide) d_W_1422 d_W_1423 (by omega) ?_
  refine g_callVi hz (c_R_lots l e2) (by decide) rc_R rfl rfl m_R_lots mi_R_lots ms_R_lots (mG 1496 (by decide +kernel) (by decide +kernel)) ⟨Nat.le_of_ble_eq_true rfl, Nat.le_of_ble_eq_true rfl⟩ rfl (st := [.int r]) rfl (Nat.le_of_ble_eq_true rfl) d_W_1424 ?_
  exact g_icmp_eq hz (tgt := 1481) d_W_1427 rfl (fun _ => kk s2 S' e3 e4) (fun q => absurd rfl q)
theorem law_40 {l : Launch} {z : Zt} {σ : Mm} {L0 : Nat} {xs : Nat → Int32} {i : Nat} {S : SV} (hz : ZOk z code 4 "PassedOnAndBetterLaw" 11 422) (hX : SX z L0 xs) (hi : i + 6 ≤ L0) (h1 : XI σ S) (h2 : RI σ S) (kk : ∀ σ' S', XI σ' S' → RI σ' S' → G l z code 4 1481 (LcL i) [] σ') : G l z code 4 1432 (LcL i) [] σ := by
  obtain ⟨r, s1, s2, S', e1, e2, e3, e4⟩ := op_image σ S h1 h2
  refine g_aload_n hz 2 d_W_1432 rfl rfl ?_
  refine g_callVi hz (c_X_image l e1) (by decide) rc_X rfl rfl m_X_image mi_X_image ms_X_image (mG 980 (by decide +kernel) (by decide +kernel)) ⟨Nat.le_of_ble_eq_true rfl, Nat.le_of_ble_eq_true rfl⟩ rfl (st := []) rfl (Nat.le_of_ble_eq_true rfl) d_W_1433 ?_
  refine g_aload_n hz 1 d_W_1436 rfl rfl ?_
  refine g_callVi hz (c_R_image l e2) (by decide) rc_R rfl rfl m_R_image mi_R_image ms_R_image (mG 1236 (by decide +kernel) (by decide +kernel)) ⟨Nat.le_of_ble_eq_true rfl, Nat.le_of_ble_eq_true rfl⟩ rfl (st := [.int r]) rfl (Nat.le_of_ble_eq_true rfl) d_W_1437 ?_
  exact g_icmp_eq hz (tgt := 1481) d_W_1440 rfl (fun _ => kk s2 S' e3 e4) (fun q => absurd rfl q)
theorem law_41 {l : Launch} {z : Zt} {σ : Mm} {L0 : Nat} {xs : Nat → Int32} {i : Nat} {S : SV} (hz : ZOk z code 4 "PassedOnAndBetterLaw" 11 422) (hX : SX z L0 xs) (hi : i + 6 ≤ L0) (h1 : XI σ S) (h2 : RI σ S) (kk : ∀ σ' S', XI σ' S' → RI σ' S' → G l z code 4 1481 (LcL i) [] σ') : G l z code 4 1445 (LcL i) [] σ := by
  obtain ⟨r, s1, s2, S', e1, e2, e3, e4⟩ := op_restore σ S h1 h2
  refine g_aload_n hz 2 d_W_1445 rfl rfl ?_
  refine g_callVi hz (c_X_restore l e1) (by decide) rc_X rfl rfl m_X_restore mi_X_restore ms_X_restore (mG 984 (by decide +kernel) (by decide +kernel)) ⟨Nat.le_of_ble_eq_true rfl, Nat.le_of_ble_eq_true rfl⟩ rfl (st := []) rfl (Nat.le_of_ble_eq_true rfl) d_W_1446 ?_
  refine g_aload_n hz 1 d_W_1449 rfl rfl ?_
  refine g_callVi hz (c_R_restore l e2) (by decide) rc_R rfl rfl m_R_restore mi_R_restore ms_R_restore (mG 1240 (by decide +kernel) (by decide +kernel)) ⟨Nat.le_of_ble_eq_true rfl, Nat.le_of_ble_eq_true rfl⟩ rfl (st := [.int r]) rfl (Nat.le_of_ble_eq_true rfl) d_W_1450 ?_
  exact g_icmp_eq hz (tgt := 1481) d_W_1453 rfl (fun _ => kk s2 S' e3 e4) (fun q => absurd rfl q)
theorem law_42 {l : Launch} {z : Zt} {σ : Mm} {L0 : Nat} {xs : Nat → Int32} {i : Nat} {S : SV} (hz : ZOk z code 4 "PassedOnAndBetterLaw" 11 422) (hX : SX z L0 xs) (hi : i + 6 ≤ L0) (h1 : XI σ S) (h2 : RI σ S) (kk : ∀ σ' S', XI σ' S' → RI σ' S' → G l z code 4 1481 (LcL i) [] σ') : G l z code 4 1458 (LcL i) [] σ := by
  obtain ⟨r, s1, s2, S', e1, e2, e3, e4⟩ := op_count (xs (i + 1)) σ S h1 h2
  refine g_aload_n hz 2 d_W_1458 rfl rfl ?_
  refine g_arg hz hX 1 d_W_1459 d_W_1460 d_W_1461 (by decide) d_W_1462 d_W_1463 (by omega) ?_
  refine g_callVi hz (c_X_count l e1) (by decide) rc_X rfl rfl m_X_count mi_X_count ms_X_count (mG 988 (by decide +kernel) (by decide +kernel)) ⟨Nat.le_of_ble_eq_true rfl, Nat.le_of_ble_eq_true rfl⟩ rfl (st := []) rfl (Nat.le_of_ble_eq_true rfl) d_W_1464 ?_
  refine g_aload_n hz 1 d_W_1467 rfl rfl ?_
  refine g_arg hz hX 1 d_W_1468 d_W_1469 d_W_1470 (by decide) d_W_1471 d_W_1472 (by omega) ?_
  refine g_callVi hz (c_R_count l e2) (by decide) rc_R rfl rfl m_R_count mi_R_count ms_R_count (mG 1507 (by decide +kernel) (by decide +kernel)) ⟨Nat.le_of_ble_eq_true rfl, Nat.le_of_ble_eq_true rfl⟩ rfl (st := [.int r]) rfl (Nat.le_of_ble_eq_true rfl) d_W_1473 ?_
  exact g_icmp_eq hz (tgt := 1481) d_W_1476 rfl (fun _ => kk s2 S' e3 e4) (fun q => absurd rfl q)
