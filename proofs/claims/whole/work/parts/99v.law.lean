section E41
variable {L : Nat} {xs : Nat → Int32} {d i : Nat} {M : AM} {x : Int32}
abbrev lQ : AQ := fun r _ => r = some (.int 1)
abbrev LV (L : Nat) (xs : Nat → Int32) (d i pc : Nat) (st : List Value) (M : AM) : Prop := av (gG L xs) code cx_La 4 (some .boolean) d lQ pc [(0, .ref 1004), (1, .ref 0), (2, .ref 40), (3, .int (nI i))] st M
theorem la_arg {pc : Nat} {n : Int} {st : List Value} (j : Nat) (hj : j ≤ 5) (hn : Int32.ofInt n = nI j) (hi : i + 6 ≤ L) (hL : L ≤ 3072) (h0 : decode code pc = .ok (.aload_n 0, 1)) (h1 : decode code (pc + 1) = .ok (.iload_n 3, 1)) (h2 : decode code (pc + 1 + 1) = .ok (.iconst n, 1)) (h3 : decode code (pc + 1 + 1 + 1) = .ok (.iadd, 1)) (h4 : decode code (pc + 1 + 1 + 1 + 1) = .ok (.iaload, 1)) (k : LV L xs d i (pc + 1 + 1 + 1 + 1 + 1) (.int (xs (i + j)) :: st) M) : LV L xs d i pc st M := by
  refine av_aload_n 0 h0 rfl (av_iload_n 3 h1 rfl (av_iconst (v := nI j) h2 hn (av_iadd h3 (av_ialdS (n := L) (f := xs) h4 rfl ?_ ?_))))
  · rw [nI_add]; exact (n_vp (by omega)).mpr (by omega)
  · rw [nI_add, n_cl (by omega)]; exact k
theorem la_h8 (r : Option Value) : ((r.toList ++ []).map fun v : Value => v.category).sum ≤ 8 := by
  cases r with
  | none => exact Nat.zero_le 8
  | some v => cases v <;> exact Nat.le_of_ble_eq_true rfl
theorem lg_cmp_id (v : Int64) : lg_cmp v v = 0 := (lg_cmp_eq v v).mpr rfl

theorem la_person (hI : Inv M) (hd : 100 ≤ d) (hi : i + 6 ≤ L) (hL : L ≤ 3072) (k : ∀ M1, Inv M1 → LV L xs d i 1521 [] M1) : LV L xs d i 220 [] M := by
  refine av_aload_n 1 d_La_law_220 rfl ?_
  refine la_arg 1 (by decide) rfl hi hL d_La_law_221 d_La_law_222 d_La_law_223 d_La_law_224 d_La_law_225 ?_
  refine la_arg 2 (by decide) rfl hi hL d_La_law_226 d_La_law_227 d_La_law_228 d_La_law_229 d_La_law_230 ?_
  refine av_callv [.int (xs (i + 1)), .int (xs (i + 2))] d_La_law_231 rfl rfl rfl (Nat.le_of_ble_eq_true rfl) rfl (am_Call.post (j_person hI hd) (fun r M1 J1 => ?_))
  refine av_aload_n 2 d_La_law_234 rfl ?_
  refine la_arg 1 (by decide) rfl hi hL d_La_law_235 d_La_law_236 d_La_law_237 d_La_law_238 d_La_law_239 ?_
  refine la_arg 2 (by decide) rfl hi hL d_La_law_240 d_La_law_241 d_La_law_242 d_La_law_243 d_La_law_244 ?_
  refine av_callv [.int (xs (i + 1)), .int (xs (i + 2))] d_La_law_245 rfl rfl rfl (la_h8 r) rfl (am_Call.post J1 (fun r2 M2 J2 => ?_))
  obtain ⟨v, rfl, rfl, hI2⟩ := J2
  exact av_icmp 1521 d_La_law_248 (by decide) (fun _ => k M2 hI2) (fun z => absurd rfl z)
theorem la_people (hI : Inv M) (hd : 100 ≤ d) (hi : i + 6 ≤ L) (hL : L ≤ 3072) (k : ∀ M1, Inv M1 → LV L xs d i 1521 [] M1) : LV L xs d i 253 [] M := by
  refine av_aload_n 1 d_La_law_253 rfl ?_
  refine la_arg 1 (by decide) rfl hi hL d_La_law_254 d_La_law_255 d_La_law_256 d_La_law_257 d_La_law_258 ?_
  refine la_arg 2 (by decide) rfl hi hL d_La_law_259 d_La_law_260 d_La_law_261 d_La_law_262 d_La_law_263 ?_
  refine la_arg 3 (by decide) rfl hi hL d_La_law_264 d_La_law_265 d_La_law_266 d_La_law_267 d_La_law_268 ?_
  refine av_callv [.int (xs (i + 1)), .int (xs (i + 2)), .int (xs (i + 3))] d_La_law_269 rfl rfl rfl (Nat.le_of_ble_eq_true rfl) rfl (am_Call.post (j_people hI hd) (fun r M1 J1 => ?_))
  refine av_aload_n 2 d_La_law_272 rfl ?_
  refine la_arg 1 (by decide) rfl hi hL d_La_law_273 d_La_law_274 d_La_law_275 d_La_law_276 d_La_law_277 ?_
  refine la_arg 2 (by decide) rfl hi hL d_La_law_278 d_La_law_279 d_La_law_280 d_La_law_281 d_La_law_282 ?_
  refine la_arg 3 (by decide) rfl hi hL d_La_law_283 d_La_law_284 d_La_law_285 d_La_law_286 d_La_law_287 ?_
  refine av_callv [.int (xs (i + 1)), .int (xs (i + 2)), .int (xs (i + 3))] d_La_law_288 rfl rfl rfl (la_h8 r) rfl (am_Call.post J1 (fun r2 M2 J2 => ?_))
  obtain ⟨v, rfl, rfl, hI2⟩ := J2
  exact av_icmp 1521 d_La_law_291 (by decide) (fun _ => k M2 hI2) (fun z => absurd rfl z)
theorem la_mend (hI : Inv M) (hd : 100 ≤ d) (hi : i + 6 ≤ L) (hL : L ≤ 3072) (k : ∀ M1, Inv M1 → LV L xs d i 1521 [] M1) : LV L xs d i 296 [] M := by
  refine av_aload_n 1 d_La_law_296 rfl ?_
  refine la_arg 1 (by decide) rfl hi hL d_La_law_297 d_La_law_298 d_La_law_299 d_La_law_300 d_La_law_301 ?_
  refine la_arg 2 (by decide) rfl hi hL d_La_law_302 d_La_law_303 d_La_law_304 d_La_law_305 d_La_law_306 ?_
  refine la_arg 3 (by decide) rfl hi hL d_La_law_307 d_La_law_308 d_La_law_309 d_La_law_310 d_La_law_311 ?_
  refine av_callv [.int (xs (i + 1)), .int (xs (i + 2)), .int (xs (i + 3))] d_La_law_312 rfl rfl rfl (Nat.le_of_ble_eq_true rfl) rfl (am_Call.post (j_mend hI hd) (fun r M1 J1 => ?_))
  refine av_aload_n 2 d_La_law_315 rfl ?_
  refine la_arg 1 (by decide) rfl hi hL d_La_law_316 d_La_law_317 d_La_law_318 d_La_law_319 d_La_law_320 ?_
  refine la_arg 2 (by decide) rfl hi hL d_La_law_321 d_La_law_322 d_La_law_323 d_La_law_324 d_La_law_325 ?_
  refine la_arg 3 (by decide) rfl hi hL d_La_law_326 d_La_law_327 d_La_law_328 d_La_law_329 d_La_law_330 ?_
  refine av_callv [.int (xs (i + 1)), .int (xs (i + 2)), .int (xs (i + 3))] d_La_law_331 rfl rfl rfl (la_h8 r) rfl (am_Call.post J1 (fun r2 M2 J2 => ?_))
  obtain ⟨v, rfl, rfl, hI2⟩ := J2
  exact av_icmp 1521 d_La_law_334 (by decide) (fun _ => k M2 hI2) (fun z => absurd rfl z)
theorem la_of (hI : Inv M) (hd : 100 ≤ d) (hi : i + 6 ≤ L) (hL : L ≤ 3072) (k : ∀ M1, Inv M1 → LV L xs d i 1521 [] M1) : LV L xs d i 339 [] M := by
  refine av_aload_n 1 d_La_law_339 rfl ?_
  refine la_arg 1 (by decide) rfl hi hL d_La_law_340 d_La_law_341 d_La_law_342 d_La_law_343 d_La_law_344 ?_
  refine la_arg 2 (by decide) rfl hi hL d_La_law_345 d_La_law_346 d_La_law_347 d_La_law_348 d_La_law_349 ?_
  refine av_callv [.int (xs (i + 1)), .int (xs (i + 2))] d_La_law_350 rfl rfl rfl (Nat.le_of_ble_eq_true rfl) rfl (am_Call.post (j_of hI hd) (fun r M1 J1 => ?_))
  refine av_aload_n 2 d_La_law_353 rfl ?_
  refine la_arg 1 (by decide) rfl hi hL d_La_law_354 d_La_law_355 d_La_law_356 d_La_law_357 d_La_law_358 ?_
  refine la_arg 2 (by decide) rfl hi hL d_La_law_359 d_La_law_360 d_La_law_361 d_La_law_362 d_La_law_363 ?_
  refine av_callv [.int (xs (i + 1)), .int (xs (i + 2))] d_La_law_364 rfl rfl rfl (la_h8 r) rfl (am_Call.post J1 (fun r2 M2 J2 => ?_))
  obtain ⟨v, rfl, rfl, hI2⟩ := J2
  exact av_icmp 1521 d_La_law_367 (by decide) (fun _ => k M2 hI2) (fun z => absurd rfl z)
theorem la_feed (hI : Inv M) (hd : 100 ≤ d) (hi : i + 6 ≤ L) (hL : L ≤ 3072) (k : ∀ M1, Inv M1 → LV L xs d i 1521 [] M1) : LV L xs d i 372 [] M := by
  refine av_aload_n 1 d_La_law_372 rfl ?_
  refine la_arg 1 (by decide) rfl hi hL d_La_law_373 d_La_law_374 d_La_law_375 d_La_law_376 d_La_law_377 ?_
  refine av_callv [.int (xs (i + 1))] d_La_law_378 rfl rfl rfl (Nat.le_of_ble_eq_true rfl) rfl (am_Call.post (j_feed hI hd) (fun r M1 J1 => ?_))
  refine av_aload_n 2 d_La_law_381 rfl ?_
  refine la_arg 1 (by decide) rfl hi hL d_La_law_382 d_La_law_383 d_La_law_384 d_La_law_385 d_La_law_386 ?_
  refine av_callv [.int (xs (i + 1))] d_La_law_387 rfl rfl rfl (la_h8 r) rfl (am_Call.post J1 (fun r2 M2 J2 => ?_))
  obtain ⟨v, rfl, rfl, hI2⟩ := J2
  exact av_icmp 1521 d_La_law_390 (by decide) (fun _ => k M2 hI2) (fun z => absurd rfl z)
theorem la_law (hI : Inv M) (hd : 100 ≤ d) (hi : i + 6 ≤ L) (hL : L ≤ 3072) (k : ∀ M1, Inv M1 → LV L xs d i 1521 [] M1) : LV L xs d i 395 [] M := by
  refine av_aload_n 1 d_La_law_395 rfl ?_
  refine av_callv [] d_La_law_396 rfl rfl rfl (Nat.le_of_ble_eq_true rfl) rfl (am_Call.post (j_law hI hd) (fun r M1 J1 => ?_))
  refine av_aload_n 2 d_La_law_399 rfl ?_
  refine av_callv [] d_La_law_400 rfl rfl rfl (la_h8 r) rfl (am_Call.post J1 (fun r2 M2 J2 => ?_))
  obtain ⟨v, rfl, rfl, hI2⟩ := J2
  exact av_icmp 1521 d_La_law_403 (by decide) (fun _ => k M2 hI2) (fun z => absurd rfl z)
theorem la_tall (hI : Inv M) (hd : 100 ≤ d) (hi : i + 6 ≤ L) (hL : L ≤ 3072) (k : ∀ M1, Inv M1 → LV L xs d i 1521 [] M1) : LV L xs d i 408 [] M := by
  refine av_aload_n 1 d_La_law_408 rfl ?_
  refine la_arg 1 (by decide) rfl hi hL d_La_law_409 d_La_law_410 d_La_law_411 d_La_law_412 d_La_law_413 ?_
  refine la_arg 2 (by decide) rfl hi hL d_La_law_414 d_La_law_415 d_La_law_416 d_La_law_417 d_La_law_418 ?_
  refine av_callv [.int (xs (i + 1)), .int (xs (i + 2))] d_La_law_419 rfl rfl rfl (Nat.le_of_ble_eq_true rfl) rfl (am_Call.post (j_tall hI hd) (fun r M1 J1 => ?_))
  refine av_aload_n 2 d_La_law_422 rfl ?_
  refine la_arg 1 (by decide) rfl hi hL d_La_law_423 d_La_law_424 d_La_law_425 d_La_law_426 d_La_law_427 ?_
  refine la_arg 2 (by decide) rfl hi hL d_La_law_428 d_La_law_429 d_La_law_430 d_La_law_431 d_La_law_432 ?_
  refine av_callv [.int (xs (i + 1)), .int (xs (i + 2))] d_La_law_433 rfl rfl rfl (la_h8 r) rfl (am_Call.post J1 (fun r2 M2 J2 => ?_))
  obtain ⟨v, rfl, rfl, hI2⟩ := J2
  exact av_icmp 1521 d_La_law_436 (by decide) (fun _ => k M2 hI2) (fun z => absurd rfl z)
theorem la_enters (hI : Inv M) (hd : 100 ≤ d) (hi : i + 6 ≤ L) (hL : L ≤ 3072) (k : ∀ M1, Inv M1 → LV L xs d i 1521 [] M1) : LV L xs d i 441 [] M := by
  refine av_aload_n 1 d_La_law_441 rfl ?_
  refine la_arg 1 (by decide) rfl hi hL d_La_law_442 d_La_law_443 d_La_law_444 d_La_law_445 d_La_law_446 ?_
  refine la_arg 2 (by decide) rfl hi hL d_La_law_447 d_La_law_448 d_La_law_449 d_La_law_450 d_La_law_451 ?_
  refine av_callv [.int (xs (i + 1)), .int (xs (i + 2))] d_La_law_452 rfl rfl rfl (Nat.le_of_ble_eq_true rfl) rfl (am_Call.post (j_enters hI hd) (fun r M1 J1 => ?_))
  refine av_aload_n 2 d_La_law_455 rfl ?_
  refine la_arg 1 (by decide) rfl hi hL d_La_law_456 d_La_law_457 d_La_law_458 d_La_law_459 d_La_law_460 ?_
  refine la_arg 2 (by decide) rfl hi hL d_La_law_461 d_La_law_462 d_La_law_463 d_La_law_464 d_La_law_465 ?_
  refine av_callv [.int (xs (i + 1)), .int (xs (i + 2))] d_La_law_466 rfl rfl rfl (la_h8 r) rfl (am_Call.post J1 (fun r2 M2 J2 => ?_))
  obtain ⟨v, rfl, rfl, hI2⟩ := J2
  exact av_icmp 1521 d_La_law_469 (by decide) (fun _ => k M2 hI2) (fun z => absurd rfl z)
theorem la_stroke (hI : Inv M) (hd : 100 ≤ d) (hi : i + 6 ≤ L) (hL : L ≤ 3072) (k : ∀ M1, Inv M1 → LV L xs d i 1521 [] M1) : LV L xs d i 474 [] M := by
  refine av_aload_n 1 d_La_law_474 rfl ?_
  refine la_arg 1 (by decide) rfl hi hL d_La_law_475 d_La_law_476 d_La_law_477 d_La_law_478 d_La_law_479 ?_
  refine la_arg 2 (by decide) rfl hi hL d_La_law_480 d_La_law_481 d_La_law_482 d_La_law_483 d_La_law_484 ?_
  refine av_callv [.int (xs (i + 1)), .int (xs (i + 2))] d_La_law_485 rfl rfl rfl (Nat.le_of_ble_eq_true rfl) rfl (am_Call.post (j_stroke hI hd) (fun r M1 J1 => ?_))
  refine av_aload_n 2 d_La_law_488 rfl ?_
  refine la_arg 1 (by decide) rfl hi hL d_La_law_489 d_La_law_490 d_La_law_491 d_La_law_492 d_La_law_493 ?_
  refine la_arg 2 (by decide) rfl hi hL d_La_law_494 d_La_law_495 d_La_law_496 d_La_law_497 d_La_law_498 ?_
  refine av_callv [.int (xs (i + 1)), .int (xs (i + 2))] d_La_law_499 rfl rfl rfl (la_h8 r) rfl (am_Call.post J1 (fun r2 M2 J2 => ?_))
  obtain ⟨v, rfl, rfl, hI2⟩ := J2
  exact av_icmp 1521 d_La_law_502 (by decide) (fun _ => k M2 hI2) (fun z => absurd rfl z)
theorem la_day (hI : Inv M) (hd : 100 ≤ d) (hi : i + 6 ≤ L) (hL : L ≤ 3072) (k : ∀ M1, Inv M1 → LV L xs d i 1521 [] M1) : LV L xs d i 507 [] M := by
  refine av_aload_n 1 d_La_law_507 rfl ?_
  refine la_arg 1 (by decide) rfl hi hL d_La_law_508 d_La_law_509 d_La_law_510 d_La_law_511 d_La_law_512 ?_
  refine la_arg 2 (by decide) rfl hi hL d_La_law_513 d_La_law_514 d_La_law_515 d_La_law_516 d_La_law_517 ?_
  refine av_callv [.int (xs (i + 1)), .int (xs (i + 2))] d_La_law_518 rfl rfl rfl (Nat.le_of_ble_eq_true rfl) rfl (am_Call.post (j_day hI hd) (fun r M1 J1 => ?_))
  refine av_aload_n 2 d_La_law_521 rfl ?_
  refine la_arg 1 (by decide) rfl hi hL d_La_law_522 d_La_law_523 d_La_law_524 d_La_law_525 d_La_law_526 ?_
  refine la_arg 2 (by decide) rfl hi hL d_La_law_527 d_La_law_528 d_La_law_529 d_La_law_530 d_La_law_531 ?_
  refine av_callv [.int (xs (i + 1)), .int (xs (i + 2))] d_La_law_532 rfl rfl rfl (la_h8 r) rfl (am_Call.post J1 (fun r2 M2 J2 => ?_))
  obtain ⟨v, rfl, rfl, hI2⟩ := J2
  exact av_icmp 1521 d_La_law_535 (by decide) (fun _ => k M2 hI2) (fun z => absurd rfl z)
theorem la_mean (hI : Inv M) (hd : 100 ≤ d) (hi : i + 6 ≤ L) (hL : L ≤ 3072) (k : ∀ M1, Inv M1 → LV L xs d i 1521 [] M1) : LV L xs d i 540 [] M := by
  refine av_aload_n 1 d_La_law_540 rfl ?_
  refine la_arg 1 (by decide) rfl hi hL d_La_law_541 d_La_law_542 d_La_law_543 d_La_law_544 d_La_law_545 ?_
  refine la_arg 2 (by decide) rfl hi hL d_La_law_546 d_La_law_547 d_La_law_548 d_La_law_549 d_La_law_550 ?_
  refine la_arg 3 (by decide) rfl hi hL d_La_law_551 d_La_law_552 d_La_law_553 d_La_law_554 d_La_law_555 ?_
  refine av_callv [.int (xs (i + 1)), .int (xs (i + 2)), .int (xs (i + 3))] d_La_law_556 rfl rfl rfl (Nat.le_of_ble_eq_true rfl) rfl (am_Call.post (j_mean hI hd) (fun r M1 J1 => ?_))
  refine av_aload_n 2 d_La_law_559 rfl ?_
  refine la_arg 1 (by decide) rfl hi hL d_La_law_560 d_La_law_561 d_La_law_562 d_La_law_563 d_La_law_564 ?_
  refine la_arg 2 (by decide) rfl hi hL d_La_law_565 d_La_law_566 d_La_law_567 d_La_law_568 d_La_law_569 ?_
  refine la_arg 3 (by decide) rfl hi hL d_La_law_570 d_La_law_571 d_La_law_572 d_La_law_573 d_La_law_574 ?_
  refine av_callv [.int (xs (i + 1)), .int (xs (i + 2)), .int (xs (i + 3))] d_La_law_575 rfl rfl rfl (la_h8 r) rfl (am_Call.post J1 (fun r2 M2 J2 => ?_))
  obtain ⟨v, rfl, rfl, hI2⟩ := J2
  refine av_lcmp d_La_law_578 ?_
  rw [lg_cmp_id]
  exact av_if0 1521 d_La_law_579 (by decide) (fun _ => k M2 hI2) (fun z => absurd rfl z)
theorem la_sent (hI : Inv M) (hd : 100 ≤ d) (hi : i + 6 ≤ L) (hL : L ≤ 3072) (k : ∀ M1, Inv M1 → LV L xs d i 1521 [] M1) : LV L xs d i 584 [] M := by
  refine av_aload_n 1 d_La_law_584 rfl ?_
  refine la_arg 1 (by decide) rfl hi hL d_La_law_585 d_La_law_586 d_La_law_587 d_La_law_588 d_La_law_589 ?_
  refine la_arg 2 (by decide) rfl hi hL d_La_law_590 d_La_law_591 d_La_law_592 d_La_law_593 d_La_law_594 ?_
  refine la_arg 3 (by decide) rfl hi hL d_La_law_595 d_La_law_596 d_La_law_597 d_La_law_598 d_La_law_599 ?_
  refine av_callv [.int (xs (i + 1)), .int (xs (i + 2)), .int (xs (i + 3))] d_La_law_600 rfl rfl rfl (Nat.le_of_ble_eq_true rfl) rfl (am_Call.post (j_sent hI hd) (fun r M1 J1 => ?_))
  refine av_aload_n 2 d_La_law_603 rfl ?_
  refine la_arg 1 (by decide) rfl hi hL d_La_law_604 d_La_law_605 d_La_law_606 d_La_law_607 d_La_law_608 ?_
  refine la_arg 2 (by decide) rfl hi hL d_La_law_609 d_La_law_610 d_La_law_611 d_La_law_612 d_La_law_613 ?_
  refine la_arg 3 (by decide) rfl hi hL d_La_law_614 d_La_law_615 d_La_law_616 d_La_law_617 d_La_law_618 ?_
  refine av_callv [.int (xs (i + 1)), .int (xs (i + 2)), .int (xs (i + 3))] d_La_law_619 rfl rfl rfl (la_h8 r) rfl (am_Call.post J1 (fun r2 M2 J2 => ?_))
  obtain ⟨v, rfl, rfl, hI2⟩ := J2
  exact av_icmp 1521 d_La_law_622 (by decide) (fun _ => k M2 hI2) (fun z => absurd rfl z)
theorem la_brought (hI : Inv M) (hd : 100 ≤ d) (hi : i + 6 ≤ L) (hL : L ≤ 3072) (k : ∀ M1, Inv M1 → LV L xs d i 1521 [] M1) : LV L xs d i 627 [] M := by
  refine av_aload_n 1 d_La_law_627 rfl ?_
  refine la_arg 1 (by decide) rfl hi hL d_La_law_628 d_La_law_629 d_La_law_630 d_La_law_631 d_La_law_632 ?_
  refine la_arg 2 (by decide) rfl hi hL d_La_law_633 d_La_law_634 d_La_law_635 d_La_law_636 d_La_law_637 ?_
  refine la_arg 3 (by decide) rfl hi hL d_La_law_638 d_La_law_639 d_La_law_640 d_La_law_641 d_La_law_642 ?_
  refine av_callv [.int (xs (i + 1)), .int (xs (i + 2)), .int (xs (i + 3))] d_La_law_643 rfl rfl rfl (Nat.le_of_ble_eq_true rfl) rfl (am_Call.post (j_brought hI hd) (fun r M1 J1 => ?_))
  refine av_aload_n 2 d_La_law_646 rfl ?_
  refine la_arg 1 (by decide) rfl hi hL d_La_law_647 d_La_law_648 d_La_law_649 d_La_law_650 d_La_law_651 ?_
  refine la_arg 2 (by decide) rfl hi hL d_La_law_652 d_La_law_653 d_La_law_654 d_La_law_655 d_La_law_656 ?_
  refine la_arg 3 (by decide) rfl hi hL d_La_law_657 d_La_law_658 d_La_law_659 d_La_law_660 d_La_law_661 ?_
  refine av_callv [.int (xs (i + 1)), .int (xs (i + 2)), .int (xs (i + 3))] d_La_law_662 rfl rfl rfl (la_h8 r) rfl (am_Call.post J1 (fun r2 M2 J2 => ?_))
  obtain ⟨v, rfl, rfl, hI2⟩ := J2
  exact av_icmp 1521 d_La_law_665 (by decide) (fun _ => k M2 hI2) (fun z => absurd rfl z)
theorem la_heels (hI : Inv M) (hd : 100 ≤ d) (hi : i + 6 ≤ L) (hL : L ≤ 3072) (k : ∀ M1, Inv M1 → LV L xs d i 1521 [] M1) : LV L xs d i 670 [] M := by
  refine av_aload_n 1 d_La_law_670 rfl ?_
  refine la_arg 1 (by decide) rfl hi hL d_La_law_671 d_La_law_672 d_La_law_673 d_La_law_674 d_La_law_675 ?_
  refine la_arg 2 (by decide) rfl hi hL d_La_law_676 d_La_law_677 d_La_law_678 d_La_law_679 d_La_law_680 ?_
  refine la_arg 3 (by decide) rfl hi hL d_La_law_681 d_La_law_682 d_La_law_683 d_La_law_684 d_La_law_685 ?_
  refine av_callv [.int (xs (i + 1)), .int (xs (i + 2)), .int (xs (i + 3))] d_La_law_686 rfl rfl rfl (Nat.le_of_ble_eq_true rfl) rfl (am_Call.post (j_heels hI hd) (fun r M1 J1 => ?_))
  refine av_aload_n 2 d_La_law_689 rfl ?_
  refine la_arg 1 (by decide) rfl hi hL d_La_law_690 d_La_law_691 d_La_law_692 d_La_law_693 d_La_law_694 ?_
  refine la_arg 2 (by decide) rfl hi hL d_La_law_695 d_La_law_696 d_La_law_697 d_La_law_698 d_La_law_699 ?_
  refine la_arg 3 (by decide) rfl hi hL d_La_law_700 d_La_law_701 d_La_law_702 d_La_law_703 d_La_law_704 ?_
  refine av_callv [.int (xs (i + 1)), .int (xs (i + 2)), .int (xs (i + 3))] d_La_law_705 rfl rfl rfl (la_h8 r) rfl (am_Call.post J1 (fun r2 M2 J2 => ?_))
  obtain ⟨v, rfl, rfl, hI2⟩ := J2
  exact av_icmp 1521 d_La_law_708 (by decide) (fun _ => k M2 hI2) (fun z => absurd rfl z)
theorem la_later (hI : Inv M) (hd : 100 ≤ d) (hi : i + 6 ≤ L) (hL : L ≤ 3072) (k : ∀ M1, Inv M1 → LV L xs d i 1521 [] M1) : LV L xs d i 713 [] M := by
  refine av_aload_n 1 d_La_law_713 rfl ?_
  refine la_arg 1 (by decide) rfl hi hL d_La_law_714 d_La_law_715 d_La_law_716 d_La_law_717 d_La_law_718 ?_
  refine av_callv [.int (xs (i + 1))] d_La_law_719 rfl rfl rfl (Nat.le_of_ble_eq_true rfl) rfl (am_Call.post (j_later hI hd) (fun r M1 J1 => ?_))
  refine av_aload_n 2 d_La_law_722 rfl ?_
  refine la_arg 1 (by decide) rfl hi hL d_La_law_723 d_La_law_724 d_La_law_725 d_La_law_726 d_La_law_727 ?_
  refine av_callv [.int (xs (i + 1))] d_La_law_728 rfl rfl rfl (la_h8 r) rfl (am_Call.post J1 (fun r2 M2 J2 => ?_))
  obtain ⟨v, rfl, rfl, hI2⟩ := J2
  exact av_icmp 1521 d_La_law_731 (by decide) (fun _ => k M2 hI2) (fun z => absurd rfl z)
theorem la_allWear (hI : Inv M) (hd : 100 ≤ d) (hi : i + 6 ≤ L) (hL : L ≤ 3072) (k : ∀ M1, Inv M1 → LV L xs d i 1521 [] M1) : LV L xs d i 736 [] M := by
  refine av_aload_n 1 d_La_law_736 rfl ?_
  refine la_arg 1 (by decide) rfl hi hL d_La_law_737 d_La_law_738 d_La_law_739 d_La_law_740 d_La_law_741 ?_
  refine av_callv [.int (xs (i + 1))] d_La_law_742 rfl rfl rfl (Nat.le_of_ble_eq_true rfl) rfl (am_Call.post (j_allWear hI hd) (fun r M1 J1 => ?_))
  refine av_aload_n 2 d_La_law_745 rfl ?_
  refine la_arg 1 (by decide) rfl hi hL d_La_law_746 d_La_law_747 d_La_law_748 d_La_law_749 d_La_law_750 ?_
  refine av_callv [.int (xs (i + 1))] d_La_law_751 rfl rfl rfl (la_h8 r) rfl (am_Call.post J1 (fun r2 M2 J2 => ?_))
  obtain ⟨v, rfl, rfl, hI2⟩ := J2
  exact av_icmp 1521 d_La_law_754 (by decide) (fun _ => k M2 hI2) (fun z => absurd rfl z)
theorem la_gates (hI : Inv M) (hd : 100 ≤ d) (hi : i + 6 ≤ L) (hL : L ≤ 3072) (k : ∀ M1, Inv M1 → LV L xs d i 1521 [] M1) : LV L xs d i 759 [] M := by
  refine av_aload_n 1 d_La_law_759 rfl ?_
  refine la_arg 1 (by decide) rfl hi hL d_La_law_760 d_La_law_761 d_La_law_762 d_La_law_763 d_La_law_764 ?_
  refine la_arg 2 (by decide) rfl hi hL d_La_law_765 d_La_law_766 d_La_law_767 d_La_law_768 d_La_law_769 ?_
  refine av_callv [.int (xs (i + 1)), .int (xs (i + 2))] d_La_law_770 rfl rfl rfl (Nat.le_of_ble_eq_true rfl) rfl (am_Call.post (j_gates hI hd) (fun r M1 J1 => ?_))
  refine av_aload_n 2 d_La_law_773 rfl ?_
  refine la_arg 1 (by decide) rfl hi hL d_La_law_774 d_La_law_775 d_La_law_776 d_La_law_777 d_La_law_778 ?_
  refine la_arg 2 (by decide) rfl hi hL d_La_law_779 d_La_law_780 d_La_law_781 d_La_law_782 d_La_law_783 ?_
  refine av_callv [.int (xs (i + 1)), .int (xs (i + 2))] d_La_law_784 rfl rfl rfl (la_h8 r) rfl (am_Call.post J1 (fun r2 M2 J2 => ?_))
  obtain ⟨v, rfl, rfl, hI2⟩ := J2
  exact av_icmp 1521 d_La_law_787 (by decide) (fun _ => k M2 hI2) (fun z => absurd rfl z)
theorem la_where (hI : Inv M) (hd : 100 ≤ d) (hi : i + 6 ≤ L) (hL : L ≤ 3072) (k : ∀ M1, Inv M1 → LV L xs d i 1521 [] M1) : LV L xs d i 792 [] M := by
  refine av_aload_n 1 d_La_law_792 rfl ?_
  refine la_arg 1 (by decide) rfl hi hL d_La_law_793 d_La_law_794 d_La_law_795 d_La_law_796 d_La_law_797 ?_
  refine av_callv [.int (xs (i + 1))] d_La_law_798 rfl rfl rfl (Nat.le_of_ble_eq_true rfl) rfl (am_Call.post (j_where hI hd) (fun r M1 J1 => ?_))
  refine av_aload_n 2 d_La_law_801 rfl ?_
  refine la_arg 1 (by decide) rfl hi hL d_La_law_802 d_La_law_803 d_La_law_804 d_La_law_805 d_La_law_806 ?_
  refine av_callv [.int (xs (i + 1))] d_La_law_807 rfl rfl rfl (la_h8 r) rfl (am_Call.post J1 (fun r2 M2 J2 => ?_))
  obtain ⟨v, rfl, rfl, hI2⟩ := J2
  exact av_icmp 1521 d_La_law_810 (by decide) (fun _ => k M2 hI2) (fun z => absurd rfl z)
theorem la_bestSet (hI : Inv M) (hd : 100 ≤ d) (hi : i + 6 ≤ L) (hL : L ≤ 3072) (k : ∀ M1, Inv M1 → LV L xs d i 1521 [] M1) : LV L xs d i 815 [] M := by
  refine av_aload_n 1 d_La_law_815 rfl ?_
  refine la_arg 1 (by decide) rfl hi hL d_La_law_816 d_La_law_817 d_La_law_818 d_La_law_819 d_La_law_820 ?_
  refine la_arg 2 (by decide) rfl hi hL d_La_law_821 d_La_law_822 d_La_law_823 d_La_law_824 d_La_law_825 ?_
  refine av_callv [.int (xs (i + 1)), .int (xs (i + 2))] d_La_law_826 rfl rfl rfl (Nat.le_of_ble_eq_true rfl) rfl (am_Call.post (j_bestSet hI hd) (fun r M1 J1 => ?_))
  refine av_aload_n 2 d_La_law_829 rfl ?_
  refine la_arg 1 (by decide) rfl hi hL d_La_law_830 d_La_law_831 d_La_law_832 d_La_law_833 d_La_law_834 ?_
  refine la_arg 2 (by decide) rfl hi hL d_La_law_835 d_La_law_836 d_La_law_837 d_La_law_838 d_La_law_839 ?_
  refine av_callv [.int (xs (i + 1)), .int (xs (i + 2))] d_La_law_840 rfl rfl rfl (la_h8 r) rfl (am_Call.post J1 (fun r2 M2 J2 => ?_))
  obtain ⟨v, rfl, rfl, hI2⟩ := J2
  exact av_icmp 1521 d_La_law_843 (by decide) (fun _ => k M2 hI2) (fun z => absurd rfl z)
theorem la_atLast (hI : Inv M) (hd : 100 ≤ d) (hi : i + 6 ≤ L) (hL : L ≤ 3072) (k : ∀ M1, Inv M1 → LV L xs d i 1521 [] M1) : LV L xs d i 848 [] M := by
  refine av_aload_n 1 d_La_law_848 rfl ?_
  refine av_callv [] d_La_law_849 rfl rfl rfl (Nat.le_of_ble_eq_true rfl) rfl (am_Call.post (j_atLast hI hd) (fun r M1 J1 => ?_))
  refine av_aload_n 2 d_La_law_852 rfl ?_
  refine av_callv [] d_La_law_853 rfl rfl rfl (la_h8 r) rfl (am_Call.post J1 (fun r2 M2 J2 => ?_))
  obtain ⟨v, rfl, rfl, hI2⟩ := J2
  exact av_icmp 1521 d_La_law_856 (by decide) (fun _ => k M2 hI2) (fun z => absurd rfl z)
theorem la_rule (hI : Inv M) (hd : 100 ≤ d) (hi : i + 6 ≤ L) (hL : L ≤ 3072) (k : ∀ M1, Inv M1 → LV L xs d i 1521 [] M1) : LV L xs d i 861 [] M := by
  refine av_aload_n 1 d_La_law_861 rfl ?_
  refine la_arg 1 (by decide) rfl hi hL d_La_law_862 d_La_law_863 d_La_law_864 d_La_law_865 d_La_law_866 ?_
  refine av_callv [.int (xs (i + 1))] d_La_law_867 rfl rfl rfl (Nat.le_of_ble_eq_true rfl) rfl (am_Call.post (j_rule hI hd) (fun r M1 J1 => ?_))
  refine av_aload_n 2 d_La_law_870 rfl ?_
  refine la_arg 1 (by decide) rfl hi hL d_La_law_871 d_La_law_872 d_La_law_873 d_La_law_874 d_La_law_875 ?_
  refine av_callv [.int (xs (i + 1))] d_La_law_876 rfl rfl rfl (la_h8 r) rfl (am_Call.post J1 (fun r2 M2 J2 => ?_))
  obtain ⟨v, rfl, rfl, hI2⟩ := J2
  exact av_icmp 1521 d_La_law_879 (by decide) (fun _ => k M2 hI2) (fun z => absurd rfl z)
theorem la_judge (hI : Inv M) (hd : 100 ≤ d) (hi : i + 6 ≤ L) (hL : L ≤ 3072) (k : ∀ M1, Inv M1 → LV L xs d i 1521 [] M1) : LV L xs d i 884 [] M := by
  refine av_aload_n 1 d_La_law_884 rfl ?_
  refine la_arg 1 (by decide) rfl hi hL d_La_law_885 d_La_law_886 d_La_law_887 d_La_law_888 d_La_law_889 ?_
  refine av_callv [.int (xs (i + 1))] d_La_law_890 rfl rfl rfl (Nat.le_of_ble_eq_true rfl) rfl (am_Call.post (j_judge hI hd) (fun r M1 J1 => ?_))
  refine av_aload_n 2 d_La_law_893 rfl ?_
  refine la_arg 1 (by decide) rfl hi hL d_La_law_894 d_La_law_895 d_La_law_896 d_La_law_897 d_La_law_898 ?_
  refine av_callv [.int (xs (i + 1))] d_La_law_899 rfl rfl rfl (la_h8 r) rfl (am_Call.post J1 (fun r2 M2 J2 => ?_))
  obtain ⟨v, rfl, rfl, hI2⟩ := J2
  exact av_icmp 1521 d_La_law_902 (by decide) (fun _ => k M2 hI2) (fun z => absurd rfl z)
theorem la_with (hI : Inv M) (hd : 100 ≤ d) (hi : i + 6 ≤ L) (hL : L ≤ 3072) (k : ∀ M1, Inv M1 → LV L xs d i 1521 [] M1) : LV L xs d i 907 [] M := by
  refine av_aload_n 1 d_La_law_907 rfl ?_
  refine la_arg 1 (by decide) rfl hi hL d_La_law_908 d_La_law_909 d_La_law_910 d_La_law_911 d_La_law_912 ?_
  refine la_arg 2 (by decide) rfl hi hL d_La_law_913 d_La_law_914 d_La_law_915 d_La_law_916 d_La_law_917 ?_
  refine av_callv [.int (xs (i + 1)), .int (xs (i + 2))] d_La_law_918 rfl rfl rfl (Nat.le_of_ble_eq_true rfl) rfl (am_Call.post (j_with hI hd) (fun r M1 J1 => ?_))
  refine av_aload_n 2 d_La_law_921 rfl ?_
  refine la_arg 1 (by decide) rfl hi hL d_La_law_922 d_La_law_923 d_La_law_924 d_La_law_925 d_La_law_926 ?_
  refine la_arg 2 (by decide) rfl hi hL d_La_law_927 d_La_law_928 d_La_law_929 d_La_law_930 d_La_law_931 ?_
  refine av_callv [.int (xs (i + 1)), .int (xs (i + 2))] d_La_law_932 rfl rfl rfl (la_h8 r) rfl (am_Call.post J1 (fun r2 M2 J2 => ?_))
  obtain ⟨v, rfl, rfl, hI2⟩ := J2
  exact av_icmp 1521 d_La_law_935 (by decide) (fun _ => k M2 hI2) (fun z => absurd rfl z)
theorem la_heeled (hI : Inv M) (hd : 100 ≤ d) (hi : i + 6 ≤ L) (hL : L ≤ 3072) (k : ∀ M1, Inv M1 → LV L xs d i 1521 [] M1) : LV L xs d i 940 [] M := by
  refine av_aload_n 1 d_La_law_940 rfl ?_
  refine la_arg 1 (by decide) rfl hi hL d_La_law_941 d_La_law_942 d_La_law_943 d_La_law_944 d_La_law_945 ?_
  refine av_callv [.int (xs (i + 1))] d_La_law_946 rfl rfl rfl (Nat.le_of_ble_eq_true rfl) rfl (am_Call.post (j_heeled hI hd) (fun r M1 J1 => ?_))
  refine av_aload_n 2 d_La_law_949 rfl ?_
  refine la_arg 1 (by decide) rfl hi hL d_La_law_950 d_La_law_951 d_La_law_952 d_La_law_953 d_La_law_954 ?_
  refine av_callv [.int (xs (i + 1))] d_La_law_955 rfl rfl rfl (la_h8 r) rfl (am_Call.post J1 (fun r2 M2 J2 => ?_))
  obtain ⟨v, rfl, rfl, hI2⟩ := J2
  exact av_icmp 1521 d_La_law_958 (by decide) (fun _ => k M2 hI2) (fun z => absurd rfl z)
theorem la_drawn (hI : Inv M) (hd : 100 ≤ d) (hi : i + 6 ≤ L) (hL : L ≤ 3072) (k : ∀ M1, Inv M1 → LV L xs d i 1521 [] M1) : LV L xs d i 963 [] M := by
  refine av_aload_n 1 d_La_law_963 rfl ?_
  refine la_arg 1 (by decide) rfl hi hL d_La_law_964 d_La_law_965 d_La_law_966 d_La_law_967 d_La_law_968 ?_
  refine la_arg 2 (by decide) rfl hi hL d_La_law_969 d_La_law_970 d_La_law_971 d_La_law_972 d_La_law_973 ?_
  refine la_arg 3 (by decide) rfl hi hL d_La_law_974 d_La_law_975 d_La_law_976 d_La_law_977 d_La_law_978 ?_
  refine av_callv [.int (xs (i + 1)), .int (xs (i + 2)), .int (xs (i + 3))] d_La_law_979 rfl rfl rfl (Nat.le_of_ble_eq_true rfl) rfl (am_Call.post (j_drawn hI hd) (fun r M1 J1 => ?_))
  refine av_aload_n 2 d_La_law_982 rfl ?_
  refine la_arg 1 (by decide) rfl hi hL d_La_law_983 d_La_law_984 d_La_law_985 d_La_law_986 d_La_law_987 ?_
  refine la_arg 2 (by decide) rfl hi hL d_La_law_988 d_La_law_989 d_La_law_990 d_La_law_991 d_La_law_992 ?_
  refine la_arg 3 (by decide) rfl hi hL d_La_law_993 d_La_law_994 d_La_law_995 d_La_law_996 d_La_law_997 ?_
  refine av_callv [.int (xs (i + 1)), .int (xs (i + 2)), .int (xs (i + 3))] d_La_law_998 rfl rfl rfl (la_h8 r) rfl (am_Call.post J1 (fun r2 M2 J2 => ?_))
  obtain ⟨v, rfl, rfl, hI2⟩ := J2
  exact av_icmp 1521 d_La_law_1001 (by decide) (fun _ => k M2 hI2) (fun z => absurd rfl z)
theorem la_strike (hI : Inv M) (hd : 100 ≤ d) (hi : i + 6 ≤ L) (hL : L ≤ 3072) (k : ∀ M1, Inv M1 → LV L xs d i 1521 [] M1) : LV L xs d i 1006 [] M := by
  refine av_aload_n 1 d_La_law_1006 rfl ?_
  refine av_callv [] d_La_law_1007 rfl rfl rfl (Nat.le_of_ble_eq_true rfl) rfl (am_Call.post (j_strike hI hd) (fun r M1 J1 => ?_))
  refine av_aload_n 2 d_La_law_1010 rfl ?_
  refine av_callv [] d_La_law_1011 rfl rfl rfl (la_h8 r) rfl (am_Call.post J1 (fun r2 M2 J2 => ?_))
  obtain ⟨v, rfl, rfl, hI2⟩ := J2
  exact av_icmp 1521 d_La_law_1014 (by decide) (fun _ => k M2 hI2) (fun z => absurd rfl z)
theorem la_take (hI : Inv M) (hd : 100 ≤ d) (hi : i + 6 ≤ L) (hL : L ≤ 3072) (k : ∀ M1, Inv M1 → LV L xs d i 1521 [] M1) : LV L xs d i 1019 [] M := by
  refine av_aload_n 1 d_La_law_1019 rfl ?_
  refine la_arg 1 (by decide) rfl hi hL d_La_law_1020 d_La_law_1021 d_La_law_1022 d_La_law_1023 d_La_law_1024 ?_
  refine av_callv [.int (xs (i + 1))] d_La_law_1025 rfl rfl rfl (Nat.le_of_ble_eq_true rfl) rfl (am_Call.post (j_take hI hd) (fun r M1 J1 => ?_))
  refine av_aload_n 2 d_La_law_1028 rfl ?_
  refine la_arg 1 (by decide) rfl hi hL d_La_law_1029 d_La_law_1030 d_La_law_1031 d_La_law_1032 d_La_law_1033 ?_
  refine av_callv [.int (xs (i + 1))] d_La_law_1034 rfl rfl rfl (la_h8 r) rfl (am_Call.post J1 (fun r2 M2 J2 => ?_))
  obtain ⟨v, rfl, rfl, hI2⟩ := J2
  exact av_icmp 1521 d_La_law_1037 (by decide) (fun _ => k M2 hI2) (fun z => absurd rfl z)
theorem la_dawn (hI : Inv M) (hd : 100 ≤ d) (hi : i + 6 ≤ L) (hL : L ≤ 3072) (k : ∀ M1, Inv M1 → LV L xs d i 1521 [] M1) : LV L xs d i 1042 [] M := by
  refine av_aload_n 1 d_La_law_1042 rfl ?_
  refine av_callv [] d_La_law_1043 rfl rfl rfl (Nat.le_of_ble_eq_true rfl) rfl (am_Call.post (j_dawn hI hd) (fun r M1 J1 => ?_))
  refine av_aload_n 2 d_La_law_1046 rfl ?_
  refine av_callv [] d_La_law_1047 rfl rfl rfl (la_h8 r) rfl (am_Call.post J1 (fun r2 M2 J2 => ?_))
  obtain ⟨v, rfl, rfl, hI2⟩ := J2
  exact av_icmp 1521 d_La_law_1050 (by decide) (fun _ => k M2 hI2) (fun z => absurd rfl z)
theorem la_led (hI : Inv M) (hd : 100 ≤ d) (hi : i + 6 ≤ L) (hL : L ≤ 3072) (k : ∀ M1, Inv M1 → LV L xs d i 1521 [] M1) : LV L xs d i 1055 [] M := by
  refine av_aload_n 1 d_La_law_1055 rfl ?_
  refine la_arg 1 (by decide) rfl hi hL d_La_law_1056 d_La_law_1057 d_La_law_1058 d_La_law_1059 d_La_law_1060 ?_
  refine av_callv [.int (xs (i + 1))] d_La_law_1061 rfl rfl rfl (Nat.le_of_ble_eq_true rfl) rfl (am_Call.post (j_led hI hd) (fun r M1 J1 => ?_))
  refine av_aload_n 2 d_La_law_1064 rfl ?_
  refine la_arg 1 (by decide) rfl hi hL d_La_law_1065 d_La_law_1066 d_La_law_1067 d_La_law_1068 d_La_law_1069 ?_
  refine av_callv [.int (xs (i + 1))] d_La_law_1070 rfl rfl rfl (la_h8 r) rfl (am_Call.post J1 (fun r2 M2 J2 => ?_))
  obtain ⟨v, rfl, rfl, hI2⟩ := J2
  exact av_icmp 1521 d_La_law_1073 (by decide) (fun _ => k M2 hI2) (fun z => absurd rfl z)
theorem la_image (hI : Inv M) (hd : 100 ≤ d) (hi : i + 6 ≤ L) (hL : L ≤ 3072) (k : ∀ M1, Inv M1 → LV L xs d i 1521 [] M1) : LV L xs d i 1078 [] M := by
  refine av_aload_n 1 d_La_law_1078 rfl ?_
  refine av_callv [] d_La_law_1079 rfl rfl rfl (Nat.le_of_ble_eq_true rfl) rfl (am_Call.post (j_image hI hd) (fun r M1 J1 => ?_))
  refine av_aload_n 2 d_La_law_1082 rfl ?_
  refine av_callv [] d_La_law_1083 rfl rfl rfl (la_h8 r) rfl (am_Call.post J1 (fun r2 M2 J2 => ?_))
  obtain ⟨v, rfl, rfl, hI2⟩ := J2
  exact av_icmp 1521 d_La_law_1086 (by decide) (fun _ => k M2 hI2) (fun z => absurd rfl z)
theorem la_back (hI : Inv M) (hd : 100 ≤ d) (hi : i + 6 ≤ L) (hL : L ≤ 3072) (k : ∀ M1, Inv M1 → LV L xs d i 1521 [] M1) : LV L xs d i 1091 [] M := by
  refine av_aload_n 1 d_La_law_1091 rfl ?_
  refine av_callv [] d_La_law_1092 rfl rfl rfl (Nat.le_of_ble_eq_true rfl) rfl (am_Call.post (j_back hI hd) (fun r M1 J1 => ?_))
  refine av_aload_n 2 d_La_law_1095 rfl ?_
  refine av_callv [] d_La_law_1096 rfl rfl rfl (la_h8 r) rfl (am_Call.post J1 (fun r2 M2 J2 => ?_))
  obtain ⟨v, rfl, rfl, hI2⟩ := J2
  exact av_icmp 1521 d_La_law_1099 (by decide) (fun _ => k M2 hI2) (fun z => absurd rfl z)
theorem la_undo (hI : Inv M) (hd : 100 ≤ d) (hi : i + 6 ≤ L) (hL : L ≤ 3072) (k : ∀ M1, Inv M1 → LV L xs d i 1521 [] M1) : LV L xs d i 1104 [] M := by
  refine av_aload_n 1 d_La_law_1104 rfl ?_
  refine av_callv [] d_La_law_1105 rfl rfl rfl (Nat.le_of_ble_eq_true rfl) rfl (am_Call.post (j_undo hI hd) (fun r M1 J1 => ?_))
  refine av_aload_n 2 d_La_law_1108 rfl ?_
  refine av_callv [] d_La_law_1109 rfl rfl rfl (la_h8 r) rfl (am_Call.post J1 (fun r2 M2 J2 => ?_))
  obtain ⟨v, rfl, rfl, hI2⟩ := J2
  exact av_icmp 1521 d_La_law_1112 (by decide) (fun _ => k M2 hI2) (fun z => absurd rfl z)
theorem la_redo (hI : Inv M) (hd : 100 ≤ d) (hi : i + 6 ≤ L) (hL : L ≤ 3072) (k : ∀ M1, Inv M1 → LV L xs d i 1521 [] M1) : LV L xs d i 1117 [] M := by
  refine av_aload_n 1 d_La_law_1117 rfl ?_
  refine av_callv [] d_La_law_1118 rfl rfl rfl (Nat.le_of_ble_eq_true rfl) rfl (am_Call.post (j_redo hI hd) (fun r M1 J1 => ?_))
  refine av_aload_n 2 d_La_law_1121 rfl ?_
  refine av_callv [] d_La_law_1122 rfl rfl rfl (la_h8 r) rfl (am_Call.post J1 (fun r2 M2 J2 => ?_))
  obtain ⟨v, rfl, rfl, hI2⟩ := J2
  exact av_icmp 1521 d_La_law_1125 (by decide) (fun _ => k M2 hI2) (fun z => absurd rfl z)
theorem la_body (hI : Inv M) (hd : 100 ≤ d) (hi : i + 6 ≤ L) (hL : L ≤ 3072) (k : ∀ M1, Inv M1 → LV L xs d i 1521 [] M1) : LV L xs d i 1130 [] M := by
  refine av_aload_n 1 d_La_law_1130 rfl ?_
  refine la_arg 1 (by decide) rfl hi hL d_La_law_1131 d_La_law_1132 d_La_law_1133 d_La_law_1134 d_La_law_1135 ?_
  refine av_callv [.int (xs (i + 1))] d_La_law_1136 rfl rfl rfl (Nat.le_of_ble_eq_true rfl) rfl (am_Call.post (j_body hI hd) (fun r M1 J1 => ?_))
  refine av_aload_n 2 d_La_law_1139 rfl ?_
  refine la_arg 1 (by decide) rfl hi hL d_La_law_1140 d_La_law_1141 d_La_law_1142 d_La_law_1143 d_La_law_1144 ?_
  refine av_callv [.int (xs (i + 1))] d_La_law_1145 rfl rfl rfl (la_h8 r) rfl (am_Call.post J1 (fun r2 M2 J2 => ?_))
  obtain ⟨v, rfl, rfl, hI2⟩ := J2
  exact av_icmp 1521 d_La_law_1148 (by decide) (fun _ => k M2 hI2) (fun z => absurd rfl z)
theorem la_act (hI : Inv M) (hd : 100 ≤ d) (hi : i + 6 ≤ L) (hL : L ≤ 3072) (k : ∀ M1, Inv M1 → LV L xs d i 1521 [] M1) : LV L xs d i 1153 [] M := by
  refine av_aload_n 1 d_La_law_1153 rfl ?_
  refine la_arg 1 (by decide) rfl hi hL d_La_law_1154 d_La_law_1155 d_La_law_1156 d_La_law_1157 d_La_law_1158 ?_
  refine la_arg 2 (by decide) rfl hi hL d_La_law_1159 d_La_law_1160 d_La_law_1161 d_La_law_1162 d_La_law_1163 ?_
  refine la_arg 3 (by decide) rfl hi hL d_La_law_1164 d_La_law_1165 d_La_law_1166 d_La_law_1167 d_La_law_1168 ?_
  refine av_callv [.int (xs (i + 1)), .int (xs (i + 2)), .int (xs (i + 3))] d_La_law_1169 rfl rfl rfl (Nat.le_of_ble_eq_true rfl) rfl (am_Call.post (j_act hI hd) (fun r M1 J1 => ?_))
  refine av_aload_n 2 d_La_law_1172 rfl ?_
  refine la_arg 1 (by decide) rfl hi hL d_La_law_1173 d_La_law_1174 d_La_law_1175 d_La_law_1176 d_La_law_1177 ?_
  refine la_arg 2 (by decide) rfl hi hL d_La_law_1178 d_La_law_1179 d_La_law_1180 d_La_law_1181 d_La_law_1182 ?_
  refine la_arg 3 (by decide) rfl hi hL d_La_law_1183 d_La_law_1184 d_La_law_1185 d_La_law_1186 d_La_law_1187 ?_
  refine av_callv [.int (xs (i + 1)), .int (xs (i + 2)), .int (xs (i + 3))] d_La_law_1188 rfl rfl rfl (la_h8 r) rfl (am_Call.post J1 (fun r2 M2 J2 => ?_))
  obtain ⟨v, rfl, rfl, hI2⟩ := J2
  exact av_icmp 1521 d_La_law_1191 (by decide) (fun _ => k M2 hI2) (fun z => absurd rfl z)
theorem la_trace (hI : Inv M) (hd : 100 ≤ d) (hi : i + 6 ≤ L) (hL : L ≤ 3072) (k : ∀ M1, Inv M1 → LV L xs d i 1521 [] M1) : LV L xs d i 1196 [] M := by
  refine av_aload_n 1 d_La_law_1196 rfl ?_
  refine la_arg 1 (by decide) rfl hi hL d_La_law_1197 d_La_law_1198 d_La_law_1199 d_La_law_1200 d_La_law_1201 ?_
  refine av_callv [.int (xs (i + 1))] d_La_law_1202 rfl rfl rfl (Nat.le_of_ble_eq_true rfl) rfl (am_Call.post (j_trace hI hd) (fun r M1 J1 => ?_))
  refine av_aload_n 2 d_La_law_1205 rfl ?_
  refine la_arg 1 (by decide) rfl hi hL d_La_law_1206 d_La_law_1207 d_La_law_1208 d_La_law_1209 d_La_law_1210 ?_
  refine av_callv [.int (xs (i + 1))] d_La_law_1211 rfl rfl rfl (la_h8 r) rfl (am_Call.post J1 (fun r2 M2 J2 => ?_))
  obtain ⟨v, rfl, rfl, hI2⟩ := J2
  exact av_icmp 1521 d_La_law_1214 (by decide) (fun _ => k M2 hI2) (fun z => absurd rfl z)
theorem la_keep (hI : Inv M) (hd : 100 ≤ d) (hi : i + 6 ≤ L) (hL : L ≤ 3072) (k : ∀ M1, Inv M1 → LV L xs d i 1521 [] M1) : LV L xs d i 1219 [] M := by
  refine av_aload_n 1 d_La_law_1219 rfl ?_
  refine la_arg 1 (by decide) rfl hi hL d_La_law_1220 d_La_law_1221 d_La_law_1222 d_La_law_1223 d_La_law_1224 ?_
  refine la_arg 2 (by decide) rfl hi hL d_La_law_1225 d_La_law_1226 d_La_law_1227 d_La_law_1228 d_La_law_1229 ?_
  refine av_callv [.int (xs (i + 1)), .int (xs (i + 2))] d_La_law_1230 rfl rfl rfl (Nat.le_of_ble_eq_true rfl) rfl (am_Call.post (j_keep hI hd) (fun r M1 J1 => ?_))
  refine av_aload_n 2 d_La_law_1233 rfl ?_
  refine la_arg 1 (by decide) rfl hi hL d_La_law_1234 d_La_law_1235 d_La_law_1236 d_La_law_1237 d_La_law_1238 ?_
  refine la_arg 2 (by decide) rfl hi hL d_La_law_1239 d_La_law_1240 d_La_law_1241 d_La_law_1242 d_La_law_1243 ?_
  refine av_callv [.int (xs (i + 1)), .int (xs (i + 2))] d_La_law_1244 rfl rfl rfl (la_h8 r) rfl (am_Call.post J1 (fun r2 M2 J2 => ?_))
  obtain ⟨v, rfl, rfl, hI2⟩ := J2
  exact av_icmp 1521 d_La_law_1247 (by decide) (fun _ => k M2 hI2) (fun z => absurd rfl z)
theorem la_row (hI : Inv M) (hd : 100 ≤ d) (hi : i + 6 ≤ L) (hL : L ≤ 3072) (k : ∀ M1, Inv M1 → LV L xs d i 1521 [] M1) : LV L xs d i 1252 [] M := by
  refine av_aload_n 1 d_La_law_1252 rfl ?_
  refine la_arg 1 (by decide) rfl hi hL d_La_law_1253 d_La_law_1254 d_La_law_1255 d_La_law_1256 d_La_law_1257 ?_
  refine la_arg 2 (by decide) rfl hi hL d_La_law_1258 d_La_law_1259 d_La_law_1260 d_La_law_1261 d_La_law_1262 ?_
  refine la_arg 3 (by decide) rfl hi hL d_La_law_1263 d_La_law_1264 d_La_law_1265 d_La_law_1266 d_La_law_1267 ?_
  refine av_callv [.int (xs (i + 1)), .int (xs (i + 2)), .int (xs (i + 3))] d_La_law_1268 rfl rfl rfl (Nat.le_of_ble_eq_true rfl) rfl (am_Call.post (j_row hI hd) (fun r M1 J1 => ?_))
  refine av_aload_n 2 d_La_law_1271 rfl ?_
  refine la_arg 1 (by decide) rfl hi hL d_La_law_1272 d_La_law_1273 d_La_law_1274 d_La_law_1275 d_La_law_1276 ?_
  refine la_arg 2 (by decide) rfl hi hL d_La_law_1277 d_La_law_1278 d_La_law_1279 d_La_law_1280 d_La_law_1281 ?_
  refine la_arg 3 (by decide) rfl hi hL d_La_law_1282 d_La_law_1283 d_La_law_1284 d_La_law_1285 d_La_law_1286 ?_
  refine av_callv [.int (xs (i + 1)), .int (xs (i + 2)), .int (xs (i + 3))] d_La_law_1287 rfl rfl rfl (la_h8 r) rfl (am_Call.post J1 (fun r2 M2 J2 => ?_))
  obtain ⟨v, rfl, rfl, hI2⟩ := J2
  exact av_icmp 1521 d_La_law_1290 (by decide) (fun _ => k M2 hI2) (fun z => absurd rfl z)
theorem la_put (hI : Inv M) (hd : 100 ≤ d) (hi : i + 6 ≤ L) (hL : L ≤ 3072) (k : ∀ M1, Inv M1 → LV L xs d i 1521 [] M1) : LV L xs d i 1295 [] M := by
  refine av_aload_n 1 d_La_law_1295 rfl ?_
  refine la_arg 1 (by decide) rfl hi hL d_La_law_1296 d_La_law_1297 d_La_law_1298 d_La_law_1299 d_La_law_1300 ?_
  refine la_arg 2 (by decide) rfl hi hL d_La_law_1301 d_La_law_1302 d_La_law_1303 d_La_law_1304 d_La_law_1305 ?_
  refine la_arg 3 (by decide) rfl hi hL d_La_law_1306 d_La_law_1307 d_La_law_1308 d_La_law_1309 d_La_law_1310 ?_
  refine av_i2l d_La_law_1311 ?_
  refine av_bipush (v := 32) d_La_law_1312 (by decide) ?_
  refine av_lshl d_La_law_1314 ?_
  refine la_arg 4 (by decide) rfl hi hL d_La_law_1315 d_La_law_1316 d_La_law_1317 d_La_law_1318 d_La_law_1319 ?_
  refine av_i2l d_La_law_1320 ?_
  refine av_ldc2_w (v := 4294967295) d_La_law_1321 rfl ?_
  refine av_land d_La_law_1324 ?_
  refine av_lor d_La_law_1325 ?_
  refine av_callv [.int (xs (i + 1)), .int (xs (i + 2)), .long (((Int32.toInt64 (xs (i + 3))) <<< (Int32.toInt64 32 &&& 63)) ||| ((Int32.toInt64 (xs (i + 4))) &&& 4294967295))] d_La_law_1326 rfl rfl rfl (Nat.le_of_ble_eq_true rfl) rfl (am_Call.post (j_put hI hd) (fun r M1 J1 => ?_))
  refine av_aload_n 2 d_La_law_1329 rfl ?_
  refine la_arg 1 (by decide) rfl hi hL d_La_law_1330 d_La_law_1331 d_La_law_1332 d_La_law_1333 d_La_law_1334 ?_
  refine la_arg 2 (by decide) rfl hi hL d_La_law_1335 d_La_law_1336 d_La_law_1337 d_La_law_1338 d_La_law_1339 ?_
  refine la_arg 3 (by decide) rfl hi hL d_La_law_1340 d_La_law_1341 d_La_law_1342 d_La_law_1343 d_La_law_1344 ?_
  refine av_i2l d_La_law_1345 ?_
  refine av_bipush (v := 32) d_La_law_1346 (by decide) ?_
  refine av_lshl d_La_law_1348 ?_
  refine la_arg 4 (by decide) rfl hi hL d_La_law_1349 d_La_law_1350 d_La_law_1351 d_La_law_1352 d_La_law_1353 ?_
  refine av_i2l d_La_law_1354 ?_
  refine av_ldc2_w (v := 4294967295) d_La_law_1355 rfl ?_
  refine av_land d_La_law_1358 ?_
  refine av_lor d_La_law_1359 ?_
  refine av_callv [.int (xs (i + 1)), .int (xs (i + 2)), .long (((Int32.toInt64 (xs (i + 3))) <<< (Int32.toInt64 32 &&& 63)) ||| ((Int32.toInt64 (xs (i + 4))) &&& 4294967295))] d_La_law_1360 rfl rfl rfl (la_h8 r) rfl (am_Call.post J1 (fun r2 M2 J2 => ?_))
  obtain ⟨v, rfl, rfl, hI2⟩ := J2
  exact av_icmp 1521 d_La_law_1363 (by decide) (fun _ => k M2 hI2) (fun z => absurd rfl z)
theorem la_element (hI : Inv M) (hd : 100 ≤ d) (hi : i + 6 ≤ L) (hL : L ≤ 3072) (k : ∀ M1, Inv M1 → LV L xs d i 1521 [] M1) : LV L xs d i 1368 [] M := by
  refine av_aload_n 1 d_La_law_1368 rfl ?_
  refine la_arg 1 (by decide) rfl hi hL d_La_law_1369 d_La_law_1370 d_La_law_1371 d_La_law_1372 d_La_law_1373 ?_
  refine la_arg 2 (by decide) rfl hi hL d_La_law_1374 d_La_law_1375 d_La_law_1376 d_La_law_1377 d_La_law_1378 ?_
  refine av_callv [.int (xs (i + 1)), .int (xs (i + 2))] d_La_law_1379 rfl rfl rfl (Nat.le_of_ble_eq_true rfl) rfl (am_Call.post (j_element hI hd) (fun r M1 J1 => ?_))
  refine av_aload_n 2 d_La_law_1382 rfl ?_
  refine la_arg 1 (by decide) rfl hi hL d_La_law_1383 d_La_law_1384 d_La_law_1385 d_La_law_1386 d_La_law_1387 ?_
  refine la_arg 2 (by decide) rfl hi hL d_La_law_1388 d_La_law_1389 d_La_law_1390 d_La_law_1391 d_La_law_1392 ?_
  refine av_callv [.int (xs (i + 1)), .int (xs (i + 2))] d_La_law_1393 rfl rfl rfl (la_h8 r) rfl (am_Call.post J1 (fun r2 M2 J2 => ?_))
  obtain ⟨v, rfl, rfl, hI2⟩ := J2
  refine av_lcmp d_La_law_1396 ?_
  rw [lg_cmp_id]
  exact av_if0 1521 d_La_law_1397 (by decide) (fun _ => k M2 hI2) (fun z => absurd rfl z)
theorem la_shift (hI : Inv M) (hd : 100 ≤ d) (hi : i + 6 ≤ L) (hL : L ≤ 3072) (k : ∀ M1, Inv M1 → LV L xs d i 1521 [] M1) : LV L xs d i 1402 [] M := by
  refine av_aload_n 1 d_La_law_1402 rfl ?_
  refine la_arg 1 (by decide) rfl hi hL d_La_law_1403 d_La_law_1404 d_La_law_1405 d_La_law_1406 d_La_law_1407 ?_
  refine la_arg 2 (by decide) rfl hi hL d_La_law_1408 d_La_law_1409 d_La_law_1410 d_La_law_1411 d_La_law_1412 ?_
  refine la_arg 3 (by decide) rfl hi hL d_La_law_1413 d_La_law_1414 d_La_law_1415 d_La_law_1416 d_La_law_1417 ?_
  refine la_arg 4 (by decide) rfl hi hL d_La_law_1418 d_La_law_1419 d_La_law_1420 d_La_law_1421 d_La_law_1422 ?_
  refine la_arg 5 (by decide) rfl hi hL d_La_law_1423 d_La_law_1424 d_La_law_1425 d_La_law_1426 d_La_law_1427 ?_
  refine av_callv [.int (xs (i + 1)), .int (xs (i + 2)), .int (xs (i + 3)), .int (xs (i + 4)), .int (xs (i + 5))] d_La_law_1428 rfl rfl rfl (Nat.le_of_ble_eq_true rfl) rfl (am_Call.post (j_shift hI hd) (fun r M1 J1 => ?_))
  refine av_aload_n 2 d_La_law_1431 rfl ?_
  refine la_arg 1 (by decide) rfl hi hL d_La_law_1432 d_La_law_1433 d_La_law_1434 d_La_law_1435 d_La_law_1436 ?_
  refine la_arg 2 (by decide) rfl hi hL d_La_law_1437 d_La_law_1438 d_La_law_1439 d_La_law_1440 d_La_law_1441 ?_
  refine la_arg 3 (by decide) rfl hi hL d_La_law_1442 d_La_law_1443 d_La_law_1444 d_La_law_1445 d_La_law_1446 ?_
  refine la_arg 4 (by decide) rfl hi hL d_La_law_1447 d_La_law_1448 d_La_law_1449 d_La_law_1450 d_La_law_1451 ?_
  refine la_arg 5 (by decide) rfl hi hL d_La_law_1452 d_La_law_1453 d_La_law_1454 d_La_law_1455 d_La_law_1456 ?_
  refine av_callv [.int (xs (i + 1)), .int (xs (i + 2)), .int (xs (i + 3)), .int (xs (i + 4)), .int (xs (i + 5))] d_La_law_1457 rfl rfl rfl (la_h8 r) rfl (am_Call.post J1 (fun r2 M2 J2 => ?_))
  obtain ⟨v, rfl, rfl, hI2⟩ := J2
  exact av_icmp 1521 d_La_law_1460 (by decide) (fun _ => k M2 hI2) (fun z => absurd rfl z)
theorem la_taken (hI : Inv M) (hd : 100 ≤ d) (hi : i + 6 ≤ L) (hL : L ≤ 3072) (k : ∀ M1, Inv M1 → LV L xs d i 1521 [] M1) : LV L xs d i 1465 [] M := by
  refine av_aload_n 1 d_La_law_1465 rfl ?_
  refine la_arg 1 (by decide) rfl hi hL d_La_law_1466 d_La_law_1467 d_La_law_1468 d_La_law_1469 d_La_law_1470 ?_
  refine la_arg 2 (by decide) rfl hi hL d_La_law_1471 d_La_law_1472 d_La_law_1473 d_La_law_1474 d_La_law_1475 ?_
  refine av_callv [.int (xs (i + 1)), .int (xs (i + 2))] d_La_law_1476 rfl rfl rfl (Nat.le_of_ble_eq_true rfl) rfl (am_Call.post (j_taken hI hd) (fun r M1 J1 => ?_))
  refine av_aload_n 2 d_La_law_1479 rfl ?_
  refine la_arg 1 (by decide) rfl hi hL d_La_law_1480 d_La_law_1481 d_La_law_1482 d_La_law_1483 d_La_law_1484 ?_
  refine la_arg 2 (by decide) rfl hi hL d_La_law_1485 d_La_law_1486 d_La_law_1487 d_La_law_1488 d_La_law_1489 ?_
  refine av_callv [.int (xs (i + 1)), .int (xs (i + 2))] d_La_law_1490 rfl rfl rfl (la_h8 r) rfl (am_Call.post J1 (fun r2 M2 J2 => ?_))
  obtain ⟨v, rfl, rfl, hI2⟩ := J2
  exact av_icmp 1521 d_La_law_1493 (by decide) (fun _ => k M2 hI2) (fun z => absurd rfl z)
theorem la_count (hI : Inv M) (hd : 100 ≤ d) (hi : i + 6 ≤ L) (hL : L ≤ 3072) (k : ∀ M1, Inv M1 → LV L xs d i 1521 [] M1) : LV L xs d i 1498 [] M := by
  refine av_aload_n 1 d_La_law_1498 rfl ?_
  refine la_arg 1 (by decide) rfl hi hL d_La_law_1499 d_La_law_1500 d_La_law_1501 d_La_law_1502 d_La_law_1503 ?_
  refine av_callv [.int (xs (i + 1))] d_La_law_1504 rfl rfl rfl (Nat.le_of_ble_eq_true rfl) rfl (am_Call.post (j_count hI hd) (fun r M1 J1 => ?_))
  refine av_aload_n 2 d_La_law_1507 rfl ?_
  refine la_arg 1 (by decide) rfl hi hL d_La_law_1508 d_La_law_1509 d_La_law_1510 d_La_law_1511 d_La_law_1512 ?_
  refine av_callv [.int (xs (i + 1))] d_La_law_1513 rfl rfl rfl (la_h8 r) rfl (am_Call.post J1 (fun r2 M2 J2 => ?_))
  obtain ⟨v, rfl, rfl, hI2⟩ := J2
  exact av_icmp 1521 d_La_law_1516 (by decide) (fun _ => k M2 hI2) (fun z => absurd rfl z)
theorem la_and (x : Int32) : ∃ c : Nat, c ≤ 63 ∧ (x &&& 63).toInt = (c : Int) := by
  have h : (x &&& 63).toBitVec.toNat = x.toBitVec.toNat &&& 63 := by rw [Int32.toBitVec_and, BitVec.toNat_and]; rfl
  have h2 : x.toBitVec.toNat &&& 63 ≤ 63 := Nat.and_le_right
  refine ⟨x.toBitVec.toNat &&& 63, h2, ?_⟩
  have h3 : (x &&& 63).toInt = (x &&& 63).toBitVec.toInt := rfl
  rw [h3, BitVec.toInt_eq_toNat_of_lt (by rw [h]; omega), h]
theorem la_sw (hI : Inv M) (hd : 100 ≤ d) (hi : i + 6 ≤ L) (hL : L ≤ 3072) (k : ∀ M1, Inv M1 → LV L xs d i 1521 [] M1) : LV L xs d i 33 [.int (x &&& 63)] M := by
  obtain ⟨c, hc, hx⟩ := la_and x
  rcases Nat.lt_or_ge 42 c with h42 | h42
  · exact av_tswO 1521 d_La_law_33 (Or.inr (by rw [hx]; omega)) (by decide) (k M hI)
  · rcases (show c = 0 ∨ c = 1 ∨ c = 2 ∨ c = 3 ∨ c = 4 ∨ c = 5 ∨ c = 6 ∨ c = 7 ∨ c = 8 ∨ c = 9 ∨ c = 10 ∨ c = 11 ∨ c = 12 ∨ c = 13 ∨ c = 14 ∨ c = 15 ∨ c = 16 ∨ c = 17 ∨ c = 18 ∨ c = 19 ∨ c = 20 ∨ c = 21 ∨ c = 22 ∨ c = 23 ∨ c = 24 ∨ c = 25 ∨ c = 26 ∨ c = 27 ∨ c = 28 ∨ c = 29 ∨ c = 30 ∨ c = 31 ∨ c = 32 ∨ c = 33 ∨ c = 34 ∨ c = 35 ∨ c = 36 ∨ c = 37 ∨ c = 38 ∨ c = 39 ∨ c = 40 ∨ c = 41 ∨ c = 42 by omega) with rfl | rfl | rfl | rfl | rfl | rfl | rfl | rfl | rfl | rfl | rfl | rfl | rfl | rfl | rfl | rfl | rfl | rfl | rfl | rfl | rfl | rfl | rfl | rfl | rfl | rfl | rfl | rfl | rfl | rfl | rfl | rfl | rfl | rfl | rfl | rfl | rfl | rfl | rfl | rfl | rfl | rfl | rfl
    · exact av_tswI 0 187 220 d_La_law_33 hx (by decide) rfl (by decide) (la_person hI hd hi hL k)
    · exact av_tswI 1 220 253 d_La_law_33 hx (by decide) rfl (by decide) (la_people hI hd hi hL k)
    · exact av_tswI 2 263 296 d_La_law_33 hx (by decide) rfl (by decide) (la_mend hI hd hi hL k)
    · exact av_tswI 3 306 339 d_La_law_33 hx (by decide) rfl (by decide) (la_of hI hd hi hL k)
    · exact av_tswI 4 339 372 d_La_law_33 hx (by decide) rfl (by decide) (la_feed hI hd hi hL k)
    · exact av_tswI 5 362 395 d_La_law_33 hx (by decide) rfl (by decide) (la_law hI hd hi hL k)
    · exact av_tswI 6 375 408 d_La_law_33 hx (by decide) rfl (by decide) (la_tall hI hd hi hL k)
    · exact av_tswI 7 408 441 d_La_law_33 hx (by decide) rfl (by decide) (la_enters hI hd hi hL k)
    · exact av_tswI 8 441 474 d_La_law_33 hx (by decide) rfl (by decide) (la_stroke hI hd hi hL k)
    · exact av_tswI 9 474 507 d_La_law_33 hx (by decide) rfl (by decide) (la_day hI hd hi hL k)
    · exact av_tswI 10 507 540 d_La_law_33 hx (by decide) rfl (by decide) (la_mean hI hd hi hL k)
    · exact av_tswI 11 551 584 d_La_law_33 hx (by decide) rfl (by decide) (la_sent hI hd hi hL k)
    · exact av_tswI 12 594 627 d_La_law_33 hx (by decide) rfl (by decide) (la_brought hI hd hi hL k)
    · exact av_tswI 13 637 670 d_La_law_33 hx (by decide) rfl (by decide) (la_heels hI hd hi hL k)
    · exact av_tswI 14 680 713 d_La_law_33 hx (by decide) rfl (by decide) (la_later hI hd hi hL k)
    · exact av_tswI 15 703 736 d_La_law_33 hx (by decide) rfl (by decide) (la_allWear hI hd hi hL k)
    · exact av_tswI 16 726 759 d_La_law_33 hx (by decide) rfl (by decide) (la_gates hI hd hi hL k)
    · exact av_tswI 17 759 792 d_La_law_33 hx (by decide) rfl (by decide) (la_where hI hd hi hL k)
    · exact av_tswI 18 782 815 d_La_law_33 hx (by decide) rfl (by decide) (la_bestSet hI hd hi hL k)
    · exact av_tswI 19 815 848 d_La_law_33 hx (by decide) rfl (by decide) (la_atLast hI hd hi hL k)
    · exact av_tswI 20 828 861 d_La_law_33 hx (by decide) rfl (by decide) (la_rule hI hd hi hL k)
    · exact av_tswI 21 851 884 d_La_law_33 hx (by decide) rfl (by decide) (la_judge hI hd hi hL k)
    · exact av_tswI 22 874 907 d_La_law_33 hx (by decide) rfl (by decide) (la_with hI hd hi hL k)
    · exact av_tswI 23 907 940 d_La_law_33 hx (by decide) rfl (by decide) (la_heeled hI hd hi hL k)
    · exact av_tswI 24 930 963 d_La_law_33 hx (by decide) rfl (by decide) (la_drawn hI hd hi hL k)
    · exact av_tswI 25 973 1006 d_La_law_33 hx (by decide) rfl (by decide) (la_strike hI hd hi hL k)
    · exact av_tswI 26 986 1019 d_La_law_33 hx (by decide) rfl (by decide) (la_take hI hd hi hL k)
    · exact av_tswI 27 1009 1042 d_La_law_33 hx (by decide) rfl (by decide) (la_dawn hI hd hi hL k)
    · exact av_tswI 28 1022 1055 d_La_law_33 hx (by decide) rfl (by decide) (la_led hI hd hi hL k)
    · exact av_tswI 29 1045 1078 d_La_law_33 hx (by decide) rfl (by decide) (la_image hI hd hi hL k)
    · exact av_tswI 30 1058 1091 d_La_law_33 hx (by decide) rfl (by decide) (la_back hI hd hi hL k)
    · exact av_tswI 31 1071 1104 d_La_law_33 hx (by decide) rfl (by decide) (la_undo hI hd hi hL k)
    · exact av_tswI 32 1084 1117 d_La_law_33 hx (by decide) rfl (by decide) (la_redo hI hd hi hL k)
    · exact av_tswI 33 1097 1130 d_La_law_33 hx (by decide) rfl (by decide) (la_body hI hd hi hL k)
    · exact av_tswI 34 1120 1153 d_La_law_33 hx (by decide) rfl (by decide) (la_act hI hd hi hL k)
    · exact av_tswI 35 1163 1196 d_La_law_33 hx (by decide) rfl (by decide) (la_trace hI hd hi hL k)
    · exact av_tswI 36 1186 1219 d_La_law_33 hx (by decide) rfl (by decide) (la_keep hI hd hi hL k)
    · exact av_tswI 37 1219 1252 d_La_law_33 hx (by decide) rfl (by decide) (la_row hI hd hi hL k)
    · exact av_tswI 38 1262 1295 d_La_law_33 hx (by decide) rfl (by decide) (la_put hI hd hi hL k)
    · exact av_tswI 39 1335 1368 d_La_law_33 hx (by decide) rfl (by decide) (la_element hI hd hi hL k)
    · exact av_tswI 40 1369 1402 d_La_law_33 hx (by decide) rfl (by decide) (la_shift hI hd hi hL k)
    · exact av_tswI 41 1432 1465 d_La_law_33 hx (by decide) rfl (by decide) (la_taken hI hd hi hL k)
    · exact av_tswI 42 1465 1498 d_La_law_33 hx (by decide) rfl (by decide) (la_count hI hd hi hL k)
theorem la_loop (hd : 100 ≤ d) (hL : L ≤ 3072) (n : Nat) : ∀ (i : Nat) (M : AM), L + 6 ≤ i + n → i ≤ 3072 → Inv M → LV L xs d i 18 [] M := by
  induction n using Nat.strongRecOn with
  | ind n ih =>
    intro i M hn hiL hI
    refine av_iload_n 3 d_La_law_18 rfl (av_aload_n 0 d_La_law_19 rfl (av_alenS (n := L) (f := xs) d_La_law_20 rfl (av_bipush (v := 6) d_La_law_21 (by decide) (av_isub d_La_law_23 (av_icmp 1527 d_La_law_24 (by decide) (fun _ => ?_) (fun z => ?_))))))
    · exact av_iconst (v := 1) d_La_law_1527 (by decide) (av_iret d_La_law_1528 (Or.inr rfl) rfl)
    · have hi : i + 6 ≤ L := by
        have z1 : ¬ nI L - 6 < nI i := z
        rw [Int32.lt_iff_toInt_lt, Int32.toInt_sub, nI_toInt (by omega), nI_toInt (by omega)] at z1
        have e6 : (6 : Int32).toInt = 6 := rfl
        rw [e6, Int.bmod_eq_of_le (by omega) (by omega)] at z1
        omega
      refine av_aload_n 0 d_La_law_27 rfl (av_iload_n 3 d_La_law_28 rfl (av_ialdS (n := L) (f := xs) d_La_law_29 rfl ((n_vp (by omega)).mpr (by omega)) (av_bipush (v := 63) d_La_law_30 (by decide) (av_iand d_La_law_32 ?_))))
      refine la_sw hI hd hi hL (fun M1 h1 => ?_)
      refine av_iinc (w := 6) (l' := [(0, .ref 1004), (1, .ref 0), (2, .ref 40), (3, .int (nI (i + 6)))]) 3 d_La_law_1521 rfl (by decide) (by decide) (by rw [← nI_add i 6]; rfl) (av_goto 18 d_La_law_1524 (by decide) ?_)
      exact ih (n - 6) (by omega) (i + 6) M1 (by omega) (by omega) h1
end E41
