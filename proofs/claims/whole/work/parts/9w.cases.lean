/-! the law: its cases and its loop (by program) -/
theorem lk_0 {b L : Nat} {xs : Nat → Int32} {gc gm : Gx} {P : Int32 → Mem → Mem → Nat → List Value → Prop} {σ τ : Mem} {j : Nat} (N : Nat) (hN : 50000 ≤ N) (h : LJ b L xs gc gm P) (hj : j + 6 ≤ L) (hR : RR σ τ) (nx : ∀ σ1 τ1, RR σ1 τ1 → P (nI j) σ1 τ1 1205 []) : P (nI j) σ τ 172 [] := by
  obtain ⟨r, σ1, τ1, e1, e2, hR1⟩ := rr_parish N hN hR (xs (j + 1)) (xs (j + 2))
  refine lr_al1 h dL_172 ?_
  refine lr_arg (k := 1) h hj (by decide) dL_173 dL_174 dL_175 (by decide) dL_176 dL_177 ?_
  refine lr_arg (k := 2) h hj (by decide) dL_178 dL_179 dL_180 (by decide) dL_181 dL_182 ?_
  refine lr_callC (As := [.int (xs (j + 1)), .int (xs (j + 2))]) [] h (c_X9_parish h.okc N _ _ σ) e1 mw_13 (by decide) (by decide) dL_183 (Nat.le_of_ble_eq_true rfl) rfl ?_
  refine lr_al2 h dL_186 ?_
  refine lr_arg (k := 1) h hj (by decide) dL_187 dL_188 dL_189 (by decide) dL_190 dL_191 ?_
  refine lr_arg (k := 2) h hj (by decide) dL_192 dL_193 dL_194 (by decide) dL_195 dL_196 ?_
  refine lr_callM (As := [.int (xs (j + 1)), .int (xs (j + 2))]) [.int r] h (c_X10_parish h.okm N _ _ τ) e2 mw_17 (by decide) (by decide) dL_197 (Nat.le_of_ble_eq_true rfl) rfl ?_
  exact lr_eq h dL_200 (by decide) (nx σ1 τ1 hR1)
theorem lk_1 {b L : Nat} {xs : Nat → Int32} {gc gm : Gx} {P : Int32 → Mem → Mem → Nat → List Value → Prop} {σ τ : Mem} {j : Nat} (N : Nat) (hN : 50000 ≤ N) (h : LJ b L xs gc gm P) (hj : j + 6 ≤ L) (hR : RR σ τ) (nx : ∀ σ1 τ1, RR σ1 τ1 → P (nI j) σ1 τ1 1205 []) : P (nI j) σ τ 205 [] := by
  obtain ⟨r, σ1, τ1, e1, e2, hR1⟩ := rr_road N hN hR (xs (j + 1)) (xs (j + 2)) (xs (j + 3))
  refine lr_al1 h dL_205 ?_
  refine lr_arg (k := 1) h hj (by decide) dL_206 dL_207 dL_208 (by decide) dL_209 dL_210 ?_
  refine lr_arg (k := 2) h hj (by decide) dL_211 dL_212 dL_213 (by decide) dL_214 dL_215 ?_
  refine lr_arg (k := 3) h hj (by decide) dL_216 dL_217 dL_218 (by decide) dL_219 dL_220 ?_
  refine lr_callC (As := [.int (xs (j + 1)), .int (xs (j + 2)), .int (xs (j + 3))]) [] h (c_X9_road h.okc N _ _ _ σ) e1 mw_18 (by decide) (by decide) dL_221 (Nat.le_of_ble_eq_true rfl) rfl ?_
  refine lr_al2 h dL_224 ?_
  refine lr_arg (k := 1) h hj (by decide) dL_225 dL_226 dL_227 (by decide) dL_228 dL_229 ?_
  refine lr_arg (k := 2) h hj (by decide) dL_230 dL_231 dL_232 (by decide) dL_233 dL_234 ?_
  refine lr_arg (k := 3) h hj (by decide) dL_235 dL_236 dL_237 (by decide) dL_238 dL_239 ?_
  refine lr_callM (As := [.int (xs (j + 1)), .int (xs (j + 2)), .int (xs (j + 3))]) [.int r] h (c_X10_road h.okm N _ _ _ τ) e2 mw_22 (by decide) (by decide) dL_240 (Nat.le_of_ble_eq_true rfl) rfl ?_
  exact lr_eq h dL_243 (by decide) (nx σ1 τ1 hR1)
theorem lk_2 {b L : Nat} {xs : Nat → Int32} {gc gm : Gx} {P : Int32 → Mem → Mem → Nat → List Value → Prop} {σ τ : Mem} {j : Nat} (N : Nat) (hN : 50000 ≤ N) (h : LJ b L xs gc gm P) (hj : j + 6 ≤ L) (hR : RR σ τ) (nx : ∀ σ1 τ1, RR σ1 τ1 → P (nI j) σ1 τ1 1205 []) : P (nI j) σ τ 248 [] := by
  obtain ⟨r, σ1, τ1, e1, e2, hR1⟩ := rr_letter N hN hR (xs (j + 1)) (xs (j + 2)) (xs (j + 3))
  refine lr_al1 h dL_248 ?_
  refine lr_arg (k := 1) h hj (by decide) dL_249 dL_250 dL_251 (by decide) dL_252 dL_253 ?_
  refine lr_arg (k := 2) h hj (by decide) dL_254 dL_255 dL_256 (by decide) dL_257 dL_258 ?_
  refine lr_arg (k := 3) h hj (by decide) dL_259 dL_260 dL_261 (by decide) dL_262 dL_263 ?_
  refine lr_callC (As := [.int (xs (j + 1)), .int (xs (j + 2)), .int (xs (j + 3))]) [] h (c_X9_letter h.okc N _ _ _ σ) e1 mw_23 (by decide) (by decide) dL_264 (Nat.le_of_ble_eq_true rfl) rfl ?_
  refine lr_al2 h dL_267 ?_
  refine lr_arg (k := 1) h hj (by decide) dL_268 dL_269 dL_270 (by decide) dL_271 dL_272 ?_
  refine lr_arg (k := 2) h hj (by decide) dL_273 dL_274 dL_275 (by decide) dL_276 dL_277 ?_
  refine lr_arg (k := 3) h hj (by decide) dL_278 dL_279 dL_280 (by decide) dL_281 dL_282 ?_
  refine lr_callM (As := [.int (xs (j + 1)), .int (xs (j + 2)), .int (xs (j + 3))]) [.int r] h (c_X10_letter h.okm N _ _ _ τ) e2 mw_26 (by decide) (by decide) dL_283 (Nat.le_of_ble_eq_true rfl) rfl ?_
  exact lr_eq h dL_286 (by decide) (nx σ1 τ1 hR1)
theorem lk_3 {b L : Nat} {xs : Nat → Int32} {gc gm : Gx} {P : Int32 → Mem → Mem → Nat → List Value → Prop} {σ τ : Mem} {j : Nat} (N : Nat) (hN : 50000 ≤ N) (h : LJ b L xs gc gm P) (hj : j + 6 ≤ L) (hR : RR σ τ) (nx : ∀ σ1 τ1, RR σ1 τ1 → P (nI j) σ1 τ1 1205 []) : P (nI j) σ τ 291 [] := by
  obtain ⟨r, σ1, τ1, e1, e2, hR1⟩ := rr_feed N hN hR (xs (j + 1)) (xs (j + 2)) (xs (j + 3)) (xs (j + 4)) (xs (j + 5))
  refine lr_al1 h dL_291 ?_
  refine lr_arg (k := 1) h hj (by decide) dL_292 dL_293 dL_294 (by decide) dL_295 dL_296 ?_
  refine lr_arg (k := 2) h hj (by decide) dL_297 dL_298 dL_299 (by decide) dL_300 dL_301 ?_
  refine lr_arg (k := 3) h hj (by decide) dL_302 dL_303 dL_304 (by decide) dL_305 dL_306 ?_
  refine lr_arg (k := 4) h hj (by decide) dL_307 dL_308 dL_309 (by decide) dL_310 dL_311 ?_
  refine lr_arg (k := 5) h hj (by decide) dL_312 dL_313 dL_314 (by decide) dL_315 dL_316 ?_
  refine lr_callC (As := [.int (xs (j + 1)), .int (xs (j + 2)), .int (xs (j + 3)), .int (xs (j + 4)), .int (xs (j + 5))]) [] h (c_X9_feed h.okc N _ _ _ _ _ σ) e1 mw_27 (by decide) (by decide) dL_317 (Nat.le_of_ble_eq_true rfl) rfl ?_
  refine lr_al2 h dL_320 ?_
  refine lr_arg (k := 1) h hj (by decide) dL_321 dL_322 dL_323 (by decide) dL_324 dL_325 ?_
  refine lr_arg (k := 2) h hj (by decide) dL_326 dL_327 dL_328 (by decide) dL_329 dL_330 ?_
  refine lr_arg (k := 3) h hj (by decide) dL_331 dL_332 dL_333 (by decide) dL_334 dL_335 ?_
  refine lr_arg (k := 4) h hj (by decide) dL_336 dL_337 dL_338 (by decide) dL_339 dL_340 ?_
  refine lr_arg (k := 5) h hj (by decide) dL_341 dL_342 dL_343 (by decide) dL_344 dL_345 ?_
  refine lr_callM (As := [.int (xs (j + 1)), .int (xs (j + 2)), .int (xs (j + 3)), .int (xs (j + 4)), .int (xs (j + 5))]) [.int r] h (c_X10_feed h.okm N _ _ _ _ _ τ) e2 mw_31 (by decide) (by decide) dL_346 (Nat.le_of_ble_eq_true rfl) rfl ?_
  exact lr_eq h dL_349 (by decide) (nx σ1 τ1 hR1)
theorem lk_4 {b L : Nat} {xs : Nat → Int32} {gc gm : Gx} {P : Int32 → Mem → Mem → Nat → List Value → Prop} {σ τ : Mem} {j : Nat} (N : Nat) (hN : 50000 ≤ N) (h : LJ b L xs gc gm P) (hj : j + 6 ≤ L) (hR : RR σ τ) (nx : ∀ σ1 τ1, RR σ1 τ1 → P (nI j) σ1 τ1 1205 []) : P (nI j) σ τ 354 [] := by
  obtain ⟨r, σ1, τ1, e1, e2, hR1⟩ := rr_law N hN hR (xs (j + 1))
  refine lr_al1 h dL_354 ?_
  refine lr_arg (k := 1) h hj (by decide) dL_355 dL_356 dL_357 (by decide) dL_358 dL_359 ?_
  refine lr_callC (As := [.int (xs (j + 1))]) [] h (c_X9_law h.okc h.oks N _ σ) e1 mw_32 (by decide) (by decide) dL_360 (Nat.le_of_ble_eq_true rfl) rfl ?_
  refine lr_al2 h dL_363 ?_
  refine lr_arg (k := 1) h hj (by decide) dL_364 dL_365 dL_366 (by decide) dL_367 dL_368 ?_
  refine lr_callM (As := [.int (xs (j + 1))]) [.int r] h (c_X10_law h.okm N _ τ) e2 mw_36 (by decide) (by decide) dL_369 (Nat.le_of_ble_eq_true rfl) rfl ?_
  exact lr_eq h dL_372 (by decide) (nx σ1 τ1 hR1)
theorem lk_5 {b L : Nat} {xs : Nat → Int32} {gc gm : Gx} {P : Int32 → Mem → Mem → Nat → List Value → Prop} {σ τ : Mem} {j : Nat} (N : Nat) (hN : 50000 ≤ N) (h : LJ b L xs gc gm P) (hj : j + 6 ≤ L) (hR : RR σ τ) (nx : ∀ σ1 τ1, RR σ1 τ1 → P (nI j) σ1 τ1 1205 []) : P (nI j) σ τ 377 [] := by
  obtain ⟨r, σ1, τ1, e1, e2, hR1⟩ := rr_report N hN hR (xs (j + 1))
  refine lr_al1 h dL_377 ?_
  refine lr_arg (k := 1) h hj (by decide) dL_378 dL_379 dL_380 (by decide) dL_381 dL_382 ?_
  refine lr_callC (As := [.int (xs (j + 1))]) [] h (c_X9_report h.okc N _ σ) e1 mw_37 (by decide) (by decide) dL_383 (Nat.le_of_ble_eq_true rfl) rfl ?_
  refine lr_al2 h dL_386 ?_
  refine lr_arg (k := 1) h hj (by decide) dL_387 dL_388 dL_389 (by decide) dL_390 dL_391 ?_
  refine lr_callM (As := [.int (xs (j + 1))]) [.int r] h (c_X10_report h.okm N _ τ) e2 mw_40 (by decide) (by decide) dL_392 (Nat.le_of_ble_eq_true rfl) rfl ?_
  exact lr_eq h dL_395 (by decide) (nx σ1 τ1 hR1)
theorem lk_6 {b L : Nat} {xs : Nat → Int32} {gc gm : Gx} {P : Int32 → Mem → Mem → Nat → List Value → Prop} {σ τ : Mem} {j : Nat} (N : Nat) (hN : 50000 ≤ N) (h : LJ b L xs gc gm P) (hj : j + 6 ≤ L) (hR : RR σ τ) (nx : ∀ σ1 τ1, RR σ1 τ1 → P (nI j) σ1 τ1 1205 []) : P (nI j) σ τ 400 [] := by
  obtain ⟨r, σ1, τ1, e1, e2, hR1⟩ := rr_text N hN hR (xs (j + 1)) (xs (j + 2))
  refine lr_al1 h dL_400 ?_
  refine lr_arg (k := 1) h hj (by decide) dL_401 dL_402 dL_403 (by decide) dL_404 dL_405 ?_
  refine lr_arg (k := 2) h hj (by decide) dL_406 dL_407 dL_408 (by decide) dL_409 dL_410 ?_
  refine lr_callC (As := [.int (xs (j + 1)), .int (xs (j + 2))]) [] h (c_X9_text h.okc N _ _ σ) e1 mw_41 (by decide) (by decide) dL_411 (Nat.le_of_ble_eq_true rfl) rfl ?_
  refine lr_al2 h dL_414 ?_
  refine lr_arg (k := 1) h hj (by decide) dL_415 dL_416 dL_417 (by decide) dL_418 dL_419 ?_
  refine lr_arg (k := 2) h hj (by decide) dL_420 dL_421 dL_422 (by decide) dL_423 dL_424 ?_
  refine lr_callM (As := [.int (xs (j + 1)), .int (xs (j + 2))]) [.int r] h (c_X10_text h.okm N _ _ τ) e2 mw_44 (by decide) (by decide) dL_425 (Nat.le_of_ble_eq_true rfl) rfl ?_
  exact lr_eq h dL_428 (by decide) (nx σ1 τ1 hR1)
theorem lk_7 {b L : Nat} {xs : Nat → Int32} {gc gm : Gx} {P : Int32 → Mem → Mem → Nat → List Value → Prop} {σ τ : Mem} {j : Nat} (N : Nat) (hN : 50000 ≤ N) (h : LJ b L xs gc gm P) (hj : j + 6 ≤ L) (hR : RR σ τ) (nx : ∀ σ1 τ1, RR σ1 τ1 → P (nI j) σ1 τ1 1205 []) : P (nI j) σ τ 433 [] := by
  obtain ⟨r, σ1, τ1, e1, e2, hR1⟩ := rr_months N hN hR (xs (j + 1))
  refine lr_al1 h dL_433 ?_
  refine lr_arg (k := 1) h hj (by decide) dL_434 dL_435 dL_436 (by decide) dL_437 dL_438 ?_
  refine lr_callC (As := [.int (xs (j + 1))]) [] h (c_X9_months h.okc N _ σ) e1 mw_45 (by decide) (by decide) dL_439 (Nat.le_of_ble_eq_true rfl) rfl ?_
  refine lr_al2 h dL_442 ?_
  refine lr_arg (k := 1) h hj (by decide) dL_443 dL_444 dL_445 (by decide) dL_446 dL_447 ?_
  refine lr_callM (As := [.int (xs (j + 1))]) [.int r] h (c_X10_months h.okm N _ τ) e2 mw_48 (by decide) (by decide) dL_448 (Nat.le_of_ble_eq_true rfl) rfl ?_
  exact lr_eq h dL_451 (by decide) (nx σ1 τ1 hR1)
theorem lk_8 {b L : Nat} {xs : Nat → Int32} {gc gm : Gx} {P : Int32 → Mem → Mem → Nat → List Value → Prop} {σ τ : Mem} {j : Nat} (N : Nat) (hN : 50000 ≤ N) (h : LJ b L xs gc gm P) (hj : j + 6 ≤ L) (hR : RR σ τ) (nx : ∀ σ1 τ1, RR σ1 τ1 → P (nI j) σ1 τ1 1205 []) : P (nI j) σ τ 456 [] := by
  obtain ⟨r, σ1, τ1, e1, e2, hR1⟩ := rr_tried N hN hR (xs (j + 1)) (xs (j + 2))
  refine lr_al1 h dL_456 ?_
  refine lr_arg (k := 1) h hj (by decide) dL_457 dL_458 dL_459 (by decide) dL_460 dL_461 ?_
  refine lr_arg (k := 2) h hj (by decide) dL_462 dL_463 dL_464 (by decide) dL_465 dL_466 ?_
  refine lr_callC (As := [.int (xs (j + 1)), .int (xs (j + 2))]) [] h (c_X9_tried h.okc N _ _ σ) e1 mw_49 (by decide) (by decide) dL_467 (Nat.le_of_ble_eq_true rfl) rfl ?_
  refine lr_al2 h dL_470 ?_
  refine lr_arg (k := 1) h hj (by decide) dL_471 dL_472 dL_473 (by decide) dL_474 dL_475 ?_
  refine lr_arg (k := 2) h hj (by decide) dL_476 dL_477 dL_478 (by decide) dL_479 dL_480 ?_
  refine lr_callM (As := [.int (xs (j + 1)), .int (xs (j + 2))]) [.int r] h (c_X10_tried h.okm N _ _ τ) e2 mw_53 (by decide) (by decide) dL_481 (Nat.le_of_ble_eq_true rfl) rfl ?_
  exact lr_eq h dL_484 (by decide) (nx σ1 τ1 hR1)
theorem lk_9 {b L : Nat} {xs : Nat → Int32} {gc gm : Gx} {P : Int32 → Mem → Mem → Nat → List Value → Prop} {σ τ : Mem} {j : Nat} (N : Nat) (hN : 50000 ≤ N) (h : LJ b L xs gc gm P) (hj : j + 6 ≤ L) (hR : RR σ τ) (nx : ∀ σ1 τ1, RR σ1 τ1 → P (nI j) σ1 τ1 1205 []) : P (nI j) σ τ 489 [] := by
  obtain ⟨r, σ1, τ1, e1, e2, hR1⟩ := rr_parishIs N hN hR (xs (j + 1)) (xs (j + 2))
  refine lr_al1 h dL_489 ?_
  refine lr_arg (k := 1) h hj (by decide) dL_490 dL_491 dL_492 (by decide) dL_493 dL_494 ?_
  refine lr_arg (k := 2) h hj (by decide) dL_495 dL_496 dL_497 (by decide) dL_498 dL_499 ?_
  refine lr_callC (As := [.int (xs (j + 1)), .int (xs (j + 2))]) [] h (c_X9_parishIs h.okc N _ _ σ) e1 mw_54 (by decide) (by decide) dL_500 (Nat.le_of_ble_eq_true rfl) rfl ?_
  refine lr_al2 h dL_503 ?_
  refine lr_arg (k := 1) h hj (by decide) dL_504 dL_505 dL_506 (by decide) dL_507 dL_508 ?_
  refine lr_arg (k := 2) h hj (by decide) dL_509 dL_510 dL_511 (by decide) dL_512 dL_513 ?_
  refine lr_callM (As := [.int (xs (j + 1)), .int (xs (j + 2))]) [.int r] h (c_X10_parishIs h.okm N _ _ τ) e2 mw_57 (by decide) (by decide) dL_514 (Nat.le_of_ble_eq_true rfl) rfl ?_
  exact lr_eq h dL_517 (by decide) (nx σ1 τ1 hR1)
theorem lk_10 {b L : Nat} {xs : Nat → Int32} {gc gm : Gx} {P : Int32 → Mem → Mem → Nat → List Value → Prop} {σ τ : Mem} {j : Nat} (N : Nat) (hN : 50000 ≤ N) (h : LJ b L xs gc gm P) (hj : j + 6 ≤ L) (hR : RR σ τ) (nx : ∀ σ1 τ1, RR σ1 τ1 → P (nI j) σ1 τ1 1205 []) : P (nI j) σ τ 522 [] := by
  obtain ⟨r, σ1, τ1, e1, e2, hR1⟩ := rr_letterIs N hN hR (xs (j + 1)) (xs (j + 2))
  refine lr_al1 h dL_522 ?_
  refine lr_arg (k := 1) h hj (by decide) dL_523 dL_524 dL_525 (by decide) dL_526 dL_527 ?_
  refine lr_arg (k := 2) h hj (by decide) dL_528 dL_529 dL_530 (by decide) dL_531 dL_532 ?_
  refine lr_callC (As := [.int (xs (j + 1)), .int (xs (j + 2))]) [] h (c_X9_letterIs h.okc N _ _ σ) e1 mw_58 (by decide) (by decide) dL_533 (Nat.le_of_ble_eq_true rfl) rfl ?_
  refine lr_al2 h dL_536 ?_
  refine lr_arg (k := 1) h hj (by decide) dL_537 dL_538 dL_539 (by decide) dL_540 dL_541 ?_
  refine lr_arg (k := 2) h hj (by decide) dL_542 dL_543 dL_544 (by decide) dL_545 dL_546 ?_
  refine lr_callM (As := [.int (xs (j + 1)), .int (xs (j + 2))]) [.int r] h (c_X10_letterIs h.okm N _ _ τ) e2 mw_61 (by decide) (by decide) dL_547 (Nat.le_of_ble_eq_true rfl) rfl ?_
  exact lr_eq h dL_550 (by decide) (nx σ1 τ1 hR1)
theorem lk_11 {b L : Nat} {xs : Nat → Int32} {gc gm : Gx} {P : Int32 → Mem → Mem → Nat → List Value → Prop} {σ τ : Mem} {j : Nat} (N : Nat) (hN : 50000 ≤ N) (h : LJ b L xs gc gm P) (hj : j + 6 ≤ L) (hR : RR σ τ) (nx : ∀ σ1 τ1, RR σ1 τ1 → P (nI j) σ1 τ1 1205 []) : P (nI j) σ τ 555 [] := by
  obtain ⟨r, σ1, τ1, e1, e2, hR1⟩ := rr_toldAt N hN hR (xs (j + 1)) (xs (j + 2))
  refine lr_al1 h dL_555 ?_
  refine lr_arg (k := 1) h hj (by decide) dL_556 dL_557 dL_558 (by decide) dL_559 dL_560 ?_
  refine lr_arg (k := 2) h hj (by decide) dL_561 dL_562 dL_563 (by decide) dL_564 dL_565 ?_
  refine lr_callC (As := [.int (xs (j + 1)), .int (xs (j + 2))]) [] h (c_X9_toldAt h.okc N _ _ σ) e1 mw_62 (by decide) (by decide) dL_566 (Nat.le_of_ble_eq_true rfl) rfl ?_
  refine lr_al2 h dL_569 ?_
  refine lr_arg (k := 1) h hj (by decide) dL_570 dL_571 dL_572 (by decide) dL_573 dL_574 ?_
  refine lr_arg (k := 2) h hj (by decide) dL_575 dL_576 dL_577 (by decide) dL_578 dL_579 ?_
  refine lr_callM (As := [.int (xs (j + 1)), .int (xs (j + 2))]) [.int r] h (c_X10_toldAt h.okm N _ _ τ) e2 mw_65 (by decide) (by decide) dL_580 (Nat.le_of_ble_eq_true rfl) rfl ?_
  exact lr_eq h dL_583 (by decide) (nx σ1 τ1 hR1)
theorem lk_12 {b L : Nat} {xs : Nat → Int32} {gc gm : Gx} {P : Int32 → Mem → Mem → Nat → List Value → Prop} {σ τ : Mem} {j : Nat} (N : Nat) (hN : 50000 ≤ N) (h : LJ b L xs gc gm P) (hj : j + 6 ≤ L) (hR : RR σ τ) (nx : ∀ σ1 τ1, RR σ1 τ1 → P (nI j) σ1 τ1 1205 []) : P (nI j) σ τ 588 [] := by
  obtain ⟨r, σ1, τ1, e1, e2, hR1⟩ := rr_spreads N hN hR (xs (j + 1)) (xs (j + 2))
  refine lr_al1 h dL_588 ?_
  refine lr_arg (k := 1) h hj (by decide) dL_589 dL_590 dL_591 (by decide) dL_592 dL_593 ?_
  refine lr_arg (k := 2) h hj (by decide) dL_594 dL_595 dL_596 (by decide) dL_597 dL_598 ?_
  refine lr_callC (As := [.int (xs (j + 1)), .int (xs (j + 2))]) [] h (c_X9_spreads h.okc N _ _ σ) e1 mw_66 (by decide) (by decide) dL_599 (Nat.le_of_ble_eq_true rfl) rfl ?_
  refine lr_al2 h dL_602 ?_
  refine lr_arg (k := 1) h hj (by decide) dL_603 dL_604 dL_605 (by decide) dL_606 dL_607 ?_
  refine lr_arg (k := 2) h hj (by decide) dL_608 dL_609 dL_610 (by decide) dL_611 dL_612 ?_
  refine lr_callM (As := [.int (xs (j + 1)), .int (xs (j + 2))]) [.int r] h (c_X10_spreads h.okm N _ _ τ) e2 mw_69 (by decide) (by decide) dL_613 (Nat.le_of_ble_eq_true rfl) rfl ?_
  exact lr_eq h dL_616 (by decide) (nx σ1 τ1 hR1)
theorem lk_13 {b L : Nat} {xs : Nat → Int32} {gc gm : Gx} {P : Int32 → Mem → Mem → Nat → List Value → Prop} {σ τ : Mem} {j : Nat} (N : Nat) (hN : 50000 ≤ N) (h : LJ b L xs gc gm P) (hj : j + 6 ≤ L) (hR : RR σ τ) (nx : ∀ σ1 τ1, RR σ1 τ1 → P (nI j) σ1 τ1 1205 []) : P (nI j) σ τ 621 [] := by
  obtain ⟨r, σ1, τ1, e1, e2, hR1⟩ := rr_miles N hN hR (xs (j + 1)) (xs (j + 2))
  refine lr_al1 h dL_621 ?_
  refine lr_arg (k := 1) h hj (by decide) dL_622 dL_623 dL_624 (by decide) dL_625 dL_626 ?_
  refine lr_arg (k := 2) h hj (by decide) dL_627 dL_628 dL_629 (by decide) dL_630 dL_631 ?_
  refine lr_callC (As := [.int (xs (j + 1)), .int (xs (j + 2))]) [] h (c_X9_miles h.okc N _ _ σ) e1 mw_70 (by decide) (by decide) dL_632 (Nat.le_of_ble_eq_true rfl) rfl ?_
  refine lr_al2 h dL_635 ?_
  refine lr_arg (k := 1) h hj (by decide) dL_636 dL_637 dL_638 (by decide) dL_639 dL_640 ?_
  refine lr_arg (k := 2) h hj (by decide) dL_641 dL_642 dL_643 (by decide) dL_644 dL_645 ?_
  refine lr_callM (As := [.int (xs (j + 1)), .int (xs (j + 2))]) [.int r] h (c_X10_miles h.okm N _ _ τ) e2 mw_73 (by decide) (by decide) dL_646 (Nat.le_of_ble_eq_true rfl) rfl ?_
  exact lr_eq h dL_649 (by decide) (nx σ1 τ1 hR1)
theorem lk_14 {b L : Nat} {xs : Nat → Int32} {gc gm : Gx} {P : Int32 → Mem → Mem → Nat → List Value → Prop} {σ τ : Mem} {j : Nat} (N : Nat) (hN : 50000 ≤ N) (h : LJ b L xs gc gm P) (hj : j + 6 ≤ L) (hR : RR σ τ) (nx : ∀ σ1 τ1, RR σ1 τ1 → P (nI j) σ1 τ1 1205 []) : P (nI j) σ τ 654 [] := by
  obtain ⟨r, σ1, τ1, e1, e2, hR1⟩ := rr_round N hN hR (xs (j + 1)) (xs (j + 2)) (xs (j + 3))
  refine lr_al1 h dL_654 ?_
  refine lr_arg (k := 1) h hj (by decide) dL_655 dL_656 dL_657 (by decide) dL_658 dL_659 ?_
  refine lr_arg (k := 2) h hj (by decide) dL_660 dL_661 dL_662 (by decide) dL_663 dL_664 ?_
  refine lr_arg (k := 3) h hj (by decide) dL_665 dL_666 dL_667 (by decide) dL_668 dL_669 ?_
  refine lr_callC (As := [.int (xs (j + 1)), .int (xs (j + 2)), .int (xs (j + 3))]) [] h (c_X9_round h.okc N _ _ _ σ) e1 mw_74 (by decide) (by decide) dL_670 (Nat.le_of_ble_eq_true rfl) rfl ?_
  refine lr_al2 h dL_673 ?_
  refine lr_arg (k := 1) h hj (by decide) dL_674 dL_675 dL_676 (by decide) dL_677 dL_678 ?_
  refine lr_arg (k := 2) h hj (by decide) dL_679 dL_680 dL_681 (by decide) dL_682 dL_683 ?_
  refine lr_arg (k := 3) h hj (by decide) dL_684 dL_685 dL_686 (by decide) dL_687 dL_688 ?_
  refine lr_callM (As := [.int (xs (j + 1)), .int (xs (j + 2)), .int (xs (j + 3))]) [.int r] h (c_X10_round h.okm N _ _ _ τ) e2 mw_78 (by decide) (by decide) dL_689 (Nat.le_of_ble_eq_true rfl) rfl ?_
  exact lr_eq h dL_692 (by decide) (nx σ1 τ1 hR1)
theorem lk_15 {b L : Nat} {xs : Nat → Int32} {gc gm : Gx} {P : Int32 → Mem → Mem → Nat → List Value → Prop} {σ τ : Mem} {j : Nat} (N : Nat) (hN : 50000 ≤ N) (h : LJ b L xs gc gm P) (hj : j + 6 ≤ L) (hR : RR σ τ) (nx : ∀ σ1 τ1, RR σ1 τ1 → P (nI j) σ1 τ1 1205 []) : P (nI j) σ τ 697 [] := by
  obtain ⟨r, σ1, τ1, e1, e2, hR1⟩ := rr_readsMost N hN hR (xs (j + 1)) (xs (j + 2)) (xs (j + 3))
  refine lr_al1 h dL_697 ?_
  refine lr_arg (k := 1) h hj (by decide) dL_698 dL_699 dL_700 (by decide) dL_701 dL_702 ?_
  refine lr_arg (k := 2) h hj (by decide) dL_703 dL_704 dL_705 (by decide) dL_706 dL_707 ?_
  refine lr_arg (k := 3) h hj (by decide) dL_708 dL_709 dL_710 (by decide) dL_711 dL_712 ?_
  refine lr_callC (As := [.int (xs (j + 1)), .int (xs (j + 2)), .int (xs (j + 3))]) [] h (c_X9_readsMost h.okc N _ _ _ σ) e1 mw_79 (by decide) (by decide) dL_713 (Nat.le_of_ble_eq_true rfl) rfl ?_
  refine lr_al2 h dL_716 ?_
  refine lr_arg (k := 1) h hj (by decide) dL_717 dL_718 dL_719 (by decide) dL_720 dL_721 ?_
  refine lr_arg (k := 2) h hj (by decide) dL_722 dL_723 dL_724 (by decide) dL_725 dL_726 ?_
  refine lr_arg (k := 3) h hj (by decide) dL_727 dL_728 dL_729 (by decide) dL_730 dL_731 ?_
  refine lr_callM (As := [.int (xs (j + 1)), .int (xs (j + 2)), .int (xs (j + 3))]) [.int r] h (c_X10_readsMost h.okm N _ _ _ τ) e2 mw_82 (by decide) (by decide) dL_732 (Nat.le_of_ble_eq_true rfl) rfl ?_
  exact lr_eq h dL_735 (by decide) (nx σ1 τ1 hR1)
theorem lk_16 {b L : Nat} {xs : Nat → Int32} {gc gm : Gx} {P : Int32 → Mem → Mem → Nat → List Value → Prop} {σ τ : Mem} {j : Nat} (N : Nat) (hN : 50000 ≤ N) (h : LJ b L xs gc gm P) (hj : j + 6 ≤ L) (hR : RR σ τ) (nx : ∀ σ1 τ1, RR σ1 τ1 → P (nI j) σ1 τ1 1205 []) : P (nI j) σ τ 740 [] := by
  obtain ⟨r, σ1, τ1, e1, e2, hR1⟩ := rr_bestMonth N hN hR (xs (j + 1)) (xs (j + 2)) (xs (j + 3))
  refine lr_al1 h dL_740 ?_
  refine lr_arg (k := 1) h hj (by decide) dL_741 dL_742 dL_743 (by decide) dL_744 dL_745 ?_
  refine lr_arg (k := 2) h hj (by decide) dL_746 dL_747 dL_748 (by decide) dL_749 dL_750 ?_
  refine lr_arg (k := 3) h hj (by decide) dL_751 dL_752 dL_753 (by decide) dL_754 dL_755 ?_
  refine lr_callC (As := [.int (xs (j + 1)), .int (xs (j + 2)), .int (xs (j + 3))]) [] h (c_X9_bestMonth h.okc N _ _ _ σ) e1 mw_83 (by decide) (by decide) dL_756 (Nat.le_of_ble_eq_true rfl) rfl ?_
  refine lr_al2 h dL_759 ?_
  refine lr_arg (k := 1) h hj (by decide) dL_760 dL_761 dL_762 (by decide) dL_763 dL_764 ?_
  refine lr_arg (k := 2) h hj (by decide) dL_765 dL_766 dL_767 (by decide) dL_768 dL_769 ?_
  refine lr_arg (k := 3) h hj (by decide) dL_770 dL_771 dL_772 (by decide) dL_773 dL_774 ?_
  refine lr_callM (As := [.int (xs (j + 1)), .int (xs (j + 2)), .int (xs (j + 3))]) [.int r] h (c_X10_bestMonth h.okm N _ _ _ τ) e2 mw_86 (by decide) (by decide) dL_775 (Nat.le_of_ble_eq_true rfl) rfl ?_
  exact lr_eq h dL_778 (by decide) (nx σ1 τ1 hR1)
theorem lk_17 {b L : Nat} {xs : Nat → Int32} {gc gm : Gx} {P : Int32 → Mem → Mem → Nat → List Value → Prop} {σ τ : Mem} {j : Nat} (N : Nat) (hN : 50000 ≤ N) (h : LJ b L xs gc gm P) (hj : j + 6 ≤ L) (hR : RR σ τ) (nx : ∀ σ1 τ1, RR σ1 τ1 → P (nI j) σ1 τ1 1205 []) : P (nI j) σ τ 783 [] := by
  obtain ⟨r, σ1, τ1, e1, e2, hR1⟩ := rr_tales N hN hR (xs (j + 1)) (xs (j + 2))
  refine lr_al1 h dL_783 ?_
  refine lr_arg (k := 1) h hj (by decide) dL_784 dL_785 dL_786 (by decide) dL_787 dL_788 ?_
  refine lr_arg (k := 2) h hj (by decide) dL_789 dL_790 dL_791 (by decide) dL_792 dL_793 ?_
  refine lr_callC (As := [.int (xs (j + 1)), .int (xs (j + 2))]) [] h (c_X9_tales h.okc N _ _ σ) e1 mw_87 (by decide) (by decide) dL_794 (Nat.le_of_ble_eq_true rfl) rfl ?_
  refine lr_al2 h dL_797 ?_
  refine lr_arg (k := 1) h hj (by decide) dL_798 dL_799 dL_800 (by decide) dL_801 dL_802 ?_
  refine lr_arg (k := 2) h hj (by decide) dL_803 dL_804 dL_805 (by decide) dL_806 dL_807 ?_
  refine lr_callM (As := [.int (xs (j + 1)), .int (xs (j + 2))]) [.int r] h (c_X10_tales h.okm N _ _ τ) e2 mw_90 (by decide) (by decide) dL_808 (Nat.le_of_ble_eq_true rfl) rfl ?_
  exact lr_eq h dL_811 (by decide) (nx σ1 τ1 hR1)
theorem lk_18 {b L : Nat} {xs : Nat → Int32} {gc gm : Gx} {P : Int32 → Mem → Mem → Nat → List Value → Prop} {σ τ : Mem} {j : Nat} (N : Nat) (hN : 50000 ≤ N) (h : LJ b L xs gc gm P) (hj : j + 6 ≤ L) (hR : RR σ τ) (nx : ∀ σ1 τ1, RR σ1 τ1 → P (nI j) σ1 τ1 1205 []) : P (nI j) σ τ 816 [] := by
  obtain ⟨r, σ1, τ1, e1, e2, hR1⟩ := rr_far N hN hR (xs (j + 1)) (xs (j + 2))
  refine lr_al1 h dL_816 ?_
  refine lr_arg (k := 1) h hj (by decide) dL_817 dL_818 dL_819 (by decide) dL_820 dL_821 ?_
  refine lr_arg (k := 2) h hj (by decide) dL_822 dL_823 dL_824 (by decide) dL_825 dL_826 ?_
  refine lr_callC (As := [.int (xs (j + 1)), .int (xs (j + 2))]) [] h (c_X9_far h.okc N _ _ σ) e1 mw_91 (by decide) (by decide) dL_827 (Nat.le_of_ble_eq_true rfl) rfl ?_
  refine lr_al2 h dL_830 ?_
  refine lr_arg (k := 1) h hj (by decide) dL_831 dL_832 dL_833 (by decide) dL_834 dL_835 ?_
  refine lr_arg (k := 2) h hj (by decide) dL_836 dL_837 dL_838 (by decide) dL_839 dL_840 ?_
  refine lr_callM (As := [.int (xs (j + 1)), .int (xs (j + 2))]) [.int r] h (c_X10_far h.okm N _ _ τ) e2 mw_94 (by decide) (by decide) dL_841 (Nat.le_of_ble_eq_true rfl) rfl ?_
  exact lr_eq h dL_844 (by decide) (nx σ1 τ1 hR1)
theorem lk_19 {b L : Nat} {xs : Nat → Int32} {gc gm : Gx} {P : Int32 → Mem → Mem → Nat → List Value → Prop} {σ τ : Mem} {j : Nat} (N : Nat) (hN : 50000 ≤ N) (h : LJ b L xs gc gm P) (hj : j + 6 ≤ L) (hR : RR σ τ) (nx : ∀ σ1 τ1, RR σ1 τ1 → P (nI j) σ1 τ1 1205 []) : P (nI j) σ τ 849 [] := by
  obtain ⟨r, σ1, τ1, e1, e2, hR1⟩ := rr_nearest N hN hR (xs (j + 1)) (xs (j + 2))
  refine lr_al1 h dL_849 ?_
  refine lr_arg (k := 1) h hj (by decide) dL_850 dL_851 dL_852 (by decide) dL_853 dL_854 ?_
  refine lr_arg (k := 2) h hj (by decide) dL_855 dL_856 dL_857 (by decide) dL_858 dL_859 ?_
  refine lr_callC (As := [.int (xs (j + 1)), .int (xs (j + 2))]) [] h (c_X9_nearest h.okc N _ _ σ) e1 mw_95 (by decide) (by decide) dL_860 (Nat.le_of_ble_eq_true rfl) rfl ?_
  refine lr_al2 h dL_863 ?_
  refine lr_arg (k := 1) h hj (by decide) dL_864 dL_865 dL_866 (by decide) dL_867 dL_868 ?_
  refine lr_arg (k := 2) h hj (by decide) dL_869 dL_870 dL_871 (by decide) dL_872 dL_873 ?_
  refine lr_callM (As := [.int (xs (j + 1)), .int (xs (j + 2))]) [.int r] h (c_X10_nearest h.okm N _ _ τ) e2 mw_98 (by decide) (by decide) dL_874 (Nat.le_of_ble_eq_true rfl) rfl ?_
  exact lr_eq h dL_877 (by decide) (nx σ1 τ1 hR1)
theorem lk_20 {b L : Nat} {xs : Nat → Int32} {gc gm : Gx} {P : Int32 → Mem → Mem → Nat → List Value → Prop} {σ τ : Mem} {j : Nat} (N : Nat) (hN : 50000 ≤ N) (h : LJ b L xs gc gm P) (hj : j + 6 ≤ L) (hR : RR σ τ) (nx : ∀ σ1 τ1, RR σ1 τ1 → P (nI j) σ1 τ1 1205 []) : P (nI j) σ τ 882 [] := by
  obtain ⟨r, σ1, τ1, e1, e2, hR1⟩ := rr_fromWhom N hN hR 
  refine lr_al1 h dL_882 ?_
  refine lr_callC (As := []) [] h (c_X9_fromWhom h.okc N  σ) e1 mw_99 (by decide) (by decide) dL_883 (Nat.le_of_ble_eq_true rfl) rfl ?_
  refine lr_al2 h dL_886 ?_
  refine lr_callM (As := []) [.int r] h (c_X10_fromWhom h.okm N  τ) e2 mw_103 (by decide) (by decide) dL_887 (Nat.le_of_ble_eq_true rfl) rfl ?_
  exact lr_eq h dL_890 (by decide) (nx σ1 τ1 hR1)
theorem lk_21 {b L : Nat} {xs : Nat → Int32} {gc gm : Gx} {P : Int32 → Mem → Mem → Nat → List Value → Prop} {σ τ : Mem} {j : Nat} (N : Nat) (hN : 50000 ≤ N) (h : LJ b L xs gc gm P) (hj : j + 6 ≤ L) (hR : RR σ τ) (nx : ∀ σ1 τ1, RR σ1 τ1 → P (nI j) σ1 τ1 1205 []) : P (nI j) σ τ 895 [] := by
  obtain ⟨r, σ1, τ1, e1, e2, hR1⟩ := rr_misspelt N hN hR (xs (j + 1)) (xs (j + 2))
  refine lr_al1 h dL_895 ?_
  refine lr_arg (k := 1) h hj (by decide) dL_896 dL_897 dL_898 (by decide) dL_899 dL_900 ?_
  refine lr_arg (k := 2) h hj (by decide) dL_901 dL_902 dL_903 (by decide) dL_904 dL_905 ?_
  refine lr_callC (As := [.int (xs (j + 1)), .int (xs (j + 2))]) [] h (c_X9_misspelt h.okc N _ _ σ) e1 mw_104 (by decide) (by decide) dL_906 (Nat.le_of_ble_eq_true rfl) rfl ?_
  refine lr_al2 h dL_909 ?_
  refine lr_arg (k := 1) h hj (by decide) dL_910 dL_911 dL_912 (by decide) dL_913 dL_914 ?_
  refine lr_arg (k := 2) h hj (by decide) dL_915 dL_916 dL_917 (by decide) dL_918 dL_919 ?_
  refine lr_callM (As := [.int (xs (j + 1)), .int (xs (j + 2))]) [.int r] h (c_X10_misspelt h.okm N _ _ τ) e2 mw_107 (by decide) (by decide) dL_920 (Nat.le_of_ble_eq_true rfl) rfl ?_
  exact lr_eq h dL_923 (by decide) (nx σ1 τ1 hR1)
theorem lk_22 {b L : Nat} {xs : Nat → Int32} {gc gm : Gx} {P : Int32 → Mem → Mem → Nat → List Value → Prop} {σ τ : Mem} {j : Nat} (N : Nat) (hN : 50000 ≤ N) (h : LJ b L xs gc gm P) (hj : j + 6 ≤ L) (hR : RR σ τ) (nx : ∀ σ1 τ1, RR σ1 τ1 → P (nI j) σ1 τ1 1205 []) : P (nI j) σ τ 928 [] := by
  obtain ⟨r, σ1, τ1, e1, e2, hR1⟩ := rr_bids N hN hR (xs (j + 1)) (xs (j + 2)) (xs (j + 3))
  refine lr_al1 h dL_928 ?_
  refine lr_arg (k := 1) h hj (by decide) dL_929 dL_930 dL_931 (by decide) dL_932 dL_933 ?_
  refine lr_arg (k := 2) h hj (by decide) dL_934 dL_935 dL_936 (by decide) dL_937 dL_938 ?_
  refine lr_arg (k := 3) h hj (by decide) dL_939 dL_940 dL_941 (by decide) dL_942 dL_943 ?_
  refine lr_callC (As := [.int (xs (j + 1)), .int (xs (j + 2)), .int (xs (j + 3))]) [] h (c_X9_bids h.okc N _ _ _ σ) e1 mw_108 (by decide) (by decide) dL_944 (Nat.le_of_ble_eq_true rfl) rfl ?_
  refine lr_al2 h dL_947 ?_
  refine lr_arg (k := 1) h hj (by decide) dL_948 dL_949 dL_950 (by decide) dL_951 dL_952 ?_
  refine lr_arg (k := 2) h hj (by decide) dL_953 dL_954 dL_955 (by decide) dL_956 dL_957 ?_
  refine lr_arg (k := 3) h hj (by decide) dL_958 dL_959 dL_960 (by decide) dL_961 dL_962 ?_
  refine lr_callM (As := [.int (xs (j + 1)), .int (xs (j + 2)), .int (xs (j + 3))]) [.int r] h (c_X10_bids h.okm N _ _ _ τ) e2 mw_111 (by decide) (by decide) dL_963 (Nat.le_of_ble_eq_true rfl) rfl ?_
  exact lr_eq h dL_966 (by decide) (nx σ1 τ1 hR1)
theorem lk_23 {b L : Nat} {xs : Nat → Int32} {gc gm : Gx} {P : Int32 → Mem → Mem → Nat → List Value → Prop} {σ τ : Mem} {j : Nat} (N : Nat) (hN : 50000 ≤ N) (h : LJ b L xs gc gm P) (hj : j + 6 ≤ L) (hR : RR σ τ) (nx : ∀ σ1 τ1, RR σ1 τ1 → P (nI j) σ1 τ1 1205 []) : P (nI j) σ τ 971 [] := by
  obtain ⟨r, σ1, τ1, e1, e2, hR1⟩ := rr_divided N hN hR (xs (j + 1)) (xs (j + 2)) (xs (j + 3)) (xs (j + 4))
  refine lr_al1 h dL_971 ?_
  refine lr_arg (k := 1) h hj (by decide) dL_972 dL_973 dL_974 (by decide) dL_975 dL_976 ?_
  refine lr_arg (k := 2) h hj (by decide) dL_977 dL_978 dL_979 (by decide) dL_980 dL_981 ?_
  refine lr_arg (k := 3) h hj (by decide) dL_982 dL_983 dL_984 (by decide) dL_985 dL_986 ?_
  refine lr_arg (k := 4) h hj (by decide) dL_987 dL_988 dL_989 (by decide) dL_990 dL_991 ?_
  refine lr_callC (As := [.int (xs (j + 1)), .int (xs (j + 2)), .int (xs (j + 3)), .int (xs (j + 4))]) [] h (c_X9_divided h.okc N _ _ _ _ σ) e1 mw_112 (by decide) (by decide) dL_992 (Nat.le_of_ble_eq_true rfl) rfl ?_
  refine lr_al2 h dL_995 ?_
  refine lr_arg (k := 1) h hj (by decide) dL_996 dL_997 dL_998 (by decide) dL_999 dL_1000 ?_
  refine lr_arg (k := 2) h hj (by decide) dL_1001 dL_1002 dL_1003 (by decide) dL_1004 dL_1005 ?_
  refine lr_arg (k := 3) h hj (by decide) dL_1006 dL_1007 dL_1008 (by decide) dL_1009 dL_1010 ?_
  refine lr_arg (k := 4) h hj (by decide) dL_1011 dL_1012 dL_1013 (by decide) dL_1014 dL_1015 ?_
  refine lr_callM (As := [.int (xs (j + 1)), .int (xs (j + 2)), .int (xs (j + 3)), .int (xs (j + 4))]) [.int r] h (c_X10_divided h.okm N _ _ _ _ τ) e2 mw_116 (by decide) (by decide) dL_1016 (Nat.le_of_ble_eq_true rfl) rfl ?_
  exact lr_eq h dL_1019 (by decide) (nx σ1 τ1 hR1)
theorem lk_24 {b L : Nat} {xs : Nat → Int32} {gc gm : Gx} {P : Int32 → Mem → Mem → Nat → List Value → Prop} {σ τ : Mem} {j : Nat} (N : Nat) (hN : 50000 ≤ N) (h : LJ b L xs gc gm P) (hj : j + 6 ≤ L) (hR : RR σ τ) (nx : ∀ σ1 τ1, RR σ1 τ1 → P (nI j) σ1 τ1 1205 []) : P (nI j) σ τ 1024 [] := by
  obtain ⟨r, σ1, τ1, e1, e2, hR1⟩ := rr_coins N hN hR (xs (j + 1)) (xs (j + 2)) (xs (j + 3))
  refine lr_al1 h dL_1024 ?_
  refine lr_arg (k := 1) h hj (by decide) dL_1025 dL_1026 dL_1027 (by decide) dL_1028 dL_1029 ?_
  refine lr_arg (k := 2) h hj (by decide) dL_1030 dL_1031 dL_1032 (by decide) dL_1033 dL_1034 ?_
  refine lr_arg (k := 3) h hj (by decide) dL_1035 dL_1036 dL_1037 (by decide) dL_1038 dL_1039 ?_
  refine lr_callC (As := [.int (xs (j + 1)), .int (xs (j + 2)), .int (xs (j + 3))]) [] h (c_X9_coins h.okc N _ _ _ σ) e1 mw_117 (by decide) (by decide) dL_1040 (Nat.le_of_ble_eq_true rfl) rfl ?_
  refine lr_al2 h dL_1043 ?_
  refine lr_arg (k := 1) h hj (by decide) dL_1044 dL_1045 dL_1046 (by decide) dL_1047 dL_1048 ?_
  refine lr_arg (k := 2) h hj (by decide) dL_1049 dL_1050 dL_1051 (by decide) dL_1052 dL_1053 ?_
  refine lr_arg (k := 3) h hj (by decide) dL_1054 dL_1055 dL_1056 (by decide) dL_1057 dL_1058 ?_
  refine lr_callM (As := [.int (xs (j + 1)), .int (xs (j + 2)), .int (xs (j + 3))]) [.int r] h (c_X10_coins h.okm N _ _ _ τ) e2 mw_120 (by decide) (by decide) dL_1059 (Nat.le_of_ble_eq_true rfl) rfl ?_
  exact lr_eq h dL_1062 (by decide) (nx σ1 τ1 hR1)
theorem lk_25 {b L : Nat} {xs : Nat → Int32} {gc gm : Gx} {P : Int32 → Mem → Mem → Nat → List Value → Prop} {σ τ : Mem} {j : Nat} (N : Nat) (hN : 50000 ≤ N) (h : LJ b L xs gc gm P) (hj : j + 6 ≤ L) (hR : RR σ τ) (nx : ∀ σ1 τ1, RR σ1 τ1 → P (nI j) σ1 τ1 1205 []) : P (nI j) σ τ 1067 [] := by
  obtain ⟨r, σ1, τ1, e1, e2, hR1⟩ := rr_lent N hN hR (xs (j + 1)) (xs (j + 2)) (xs (j + 3))
  refine lr_al1 h dL_1067 ?_
  refine lr_arg (k := 1) h hj (by decide) dL_1068 dL_1069 dL_1070 (by decide) dL_1071 dL_1072 ?_
  refine lr_arg (k := 2) h hj (by decide) dL_1073 dL_1074 dL_1075 (by decide) dL_1076 dL_1077 ?_
  refine lr_arg (k := 3) h hj (by decide) dL_1078 dL_1079 dL_1080 (by decide) dL_1081 dL_1082 ?_
  refine lr_callC (As := [.int (xs (j + 1)), .int (xs (j + 2)), .int (xs (j + 3))]) [] h (c_X9_lent h.okc N _ _ _ σ) e1 mw_121 (by decide) (by decide) dL_1083 (Nat.le_of_ble_eq_true rfl) rfl ?_
  refine lr_al2 h dL_1086 ?_
  refine lr_arg (k := 1) h hj (by decide) dL_1087 dL_1088 dL_1089 (by decide) dL_1090 dL_1091 ?_
  refine lr_arg (k := 2) h hj (by decide) dL_1092 dL_1093 dL_1094 (by decide) dL_1095 dL_1096 ?_
  refine lr_arg (k := 3) h hj (by decide) dL_1097 dL_1098 dL_1099 (by decide) dL_1100 dL_1101 ?_
  refine lr_callM (As := [.int (xs (j + 1)), .int (xs (j + 2)), .int (xs (j + 3))]) [.int r] h (c_X10_lent h.okm N _ _ _ τ) e2 mw_124 (by decide) (by decide) dL_1102 (Nat.le_of_ble_eq_true rfl) rfl ?_
  exact lr_eq h dL_1105 (by decide) (nx σ1 τ1 hR1)
theorem lk_26 {b L : Nat} {xs : Nat → Int32} {gc gm : Gx} {P : Int32 → Mem → Mem → Nat → List Value → Prop} {σ τ : Mem} {j : Nat} (N : Nat) (hN : 50000 ≤ N) (h : LJ b L xs gc gm P) (hj : j + 6 ≤ L) (hR : RR σ τ) (nx : ∀ σ1 τ1, RR σ1 τ1 → P (nI j) σ1 τ1 1205 []) : P (nI j) σ τ 1110 [] := by
  obtain ⟨r, σ1, τ1, e1, e2, hR1⟩ := rr_seed N hN hR (xs (j + 1))
  refine lr_al1 h dL_1110 ?_
  refine lr_arg (k := 1) h hj (by decide) dL_1111 dL_1112 dL_1113 (by decide) dL_1114 dL_1115 ?_
  refine lr_callC (As := [.int (xs (j + 1))]) [] h (c_X9_seed h.okc N _ σ) e1 mw_125 (by decide) (by decide) dL_1116 (Nat.le_of_ble_eq_true rfl) rfl ?_
  refine lr_al2 h dL_1119 ?_
  refine lr_arg (k := 1) h hj (by decide) dL_1120 dL_1121 dL_1122 (by decide) dL_1123 dL_1124 ?_
  refine lr_callM (As := [.int (xs (j + 1))]) [.int r] h (c_X10_seed h.okm N _ τ) e2 mw_129 (by decide) (by decide) dL_1125 (Nat.le_of_ble_eq_true rfl) rfl ?_
  exact lr_eq h dL_1128 (by decide) (nx σ1 τ1 hR1)
theorem lk_27 {b L : Nat} {xs : Nat → Int32} {gc gm : Gx} {P : Int32 → Mem → Mem → Nat → List Value → Prop} {σ τ : Mem} {j : Nat} (N : Nat) (hN : 50000 ≤ N) (h : LJ b L xs gc gm P) (hj : j + 6 ≤ L) (hR : RR σ τ) (nx : ∀ σ1 τ1, RR σ1 τ1 → P (nI j) σ1 τ1 1205 []) : P (nI j) σ τ 1133 [] := by
  obtain ⟨r, σ1, τ1, e1, e2, hR1⟩ := rr_keep N hN hR 
  refine lr_al1 h dL_1133 ?_
  refine lr_callC (As := []) [] h (c_X9_keep h.okc N  σ) e1 mw_130 (by decide) (by decide) dL_1134 (Nat.le_of_ble_eq_true rfl) rfl ?_
  refine lr_al2 h dL_1137 ?_
  refine lr_callM (As := []) [.int r] h (c_X10_keep h.okm N  τ) e2 mw_133 (by decide) (by decide) dL_1138 (Nat.le_of_ble_eq_true rfl) rfl ?_
  exact lr_eq h dL_1141 (by decide) (nx σ1 τ1 hR1)
theorem lk_28 {b L : Nat} {xs : Nat → Int32} {gc gm : Gx} {P : Int32 → Mem → Mem → Nat → List Value → Prop} {σ τ : Mem} {j : Nat} (N : Nat) (hN : 50000 ≤ N) (h : LJ b L xs gc gm P) (hj : j + 6 ≤ L) (hR : RR σ τ) (nx : ∀ σ1 τ1, RR σ1 τ1 → P (nI j) σ1 τ1 1205 []) : P (nI j) σ τ 1146 [] := by
  obtain ⟨r, σ1, τ1, e1, e2, hR1⟩ := rr_undo N hN hR 
  refine lr_al1 h dL_1146 ?_
  refine lr_callC (As := []) [] h (c_X9_undo h.okc N  σ) e1 mw_134 (by decide) (by decide) dL_1147 (Nat.le_of_ble_eq_true rfl) rfl ?_
  refine lr_al2 h dL_1150 ?_
  refine lr_callM (As := []) [.int r] h (c_X10_undo h.okm N  τ) e2 mw_138 (by decide) (by decide) dL_1151 (Nat.le_of_ble_eq_true rfl) rfl ?_
  exact lr_eq h dL_1154 (by decide) (nx σ1 τ1 hR1)
theorem lk_29 {b L : Nat} {xs : Nat → Int32} {gc gm : Gx} {P : Int32 → Mem → Mem → Nat → List Value → Prop} {σ τ : Mem} {j : Nat} (N : Nat) (hN : 50000 ≤ N) (h : LJ b L xs gc gm P) (hj : j + 6 ≤ L) (hR : RR σ τ) (nx : ∀ σ1 τ1, RR σ1 τ1 → P (nI j) σ1 τ1 1205 []) : P (nI j) σ τ 1159 [] := by
  obtain ⟨r, σ1, τ1, e1, e2, hR1⟩ := rr_check N hN hR (xs (j + 1))
  refine lr_al1 h dL_1159 ?_
  refine lr_arg (k := 1) h hj (by decide) dL_1160 dL_1161 dL_1162 (by decide) dL_1163 dL_1164 ?_
  refine lr_callC (As := [.int (xs (j + 1))]) [] h (c_X9_check h.okc N _ σ) e1 mw_139 (by decide) (by decide) dL_1165 (Nat.le_of_ble_eq_true rfl) rfl ?_
  refine lr_al2 h dL_1168 ?_
  refine lr_arg (k := 1) h hj (by decide) dL_1169 dL_1170 dL_1171 (by decide) dL_1172 dL_1173 ?_
  refine lr_callM (As := [.int (xs (j + 1))]) [.int r] h (c_X10_check h.okm N _ τ) e2 mw_142 (by decide) (by decide) dL_1174 (Nat.le_of_ble_eq_true rfl) rfl ?_
  exact lr_eq h dL_1177 (by decide) (nx σ1 τ1 hR1)
theorem lk_30 {b L : Nat} {xs : Nat → Int32} {gc gm : Gx} {P : Int32 → Mem → Mem → Nat → List Value → Prop} {σ τ : Mem} {j : Nat} (N : Nat) (hN : 50000 ≤ N) (h : LJ b L xs gc gm P) (hj : j + 6 ≤ L) (hR : RR σ τ) (nx : ∀ σ1 τ1, RR σ1 τ1 → P (nI j) σ1 τ1 1205 []) : P (nI j) σ τ 1182 [] := by
  obtain ⟨r, σ1, τ1, e1, e2, hR1⟩ := rr_count N hN hR (xs (j + 1))
  refine lr_al1 h dL_1182 ?_
  refine lr_arg (k := 1) h hj (by decide) dL_1183 dL_1184 dL_1185 (by decide) dL_1186 dL_1187 ?_
  refine lr_callC (As := [.int (xs (j + 1))]) [] h (c_X9_count h.okc N _ σ) e1 mw_143 (by decide) (by decide) dL_1188 (Nat.le_of_ble_eq_true rfl) rfl ?_
  refine lr_al2 h dL_1191 ?_
  refine lr_arg (k := 1) h hj (by decide) dL_1192 dL_1193 dL_1194 (by decide) dL_1195 dL_1196 ?_
  refine lr_callM (As := [.int (xs (j + 1))]) [.int r] h (c_X10_count h.okm N _ τ) e2 mw_146 (by decide) (by decide) dL_1197 (Nat.le_of_ble_eq_true rfl) rfl ?_
  exact lr_eq h dL_1200 (by decide) (nx σ1 τ1 hR1)
theorem law_step {b L : Nat} {xs : Nat → Int32} {gc gm : Gx} {P : Int32 → Mem → Mem → Nat → List Value → Prop} {σ τ : Mem} {j : Nat} (N : Nat) (hN : 50000 ≤ N) (h : LJ b L xs gc gm P) (hj : j + 6 ≤ L) (hR : RR σ τ) (nx : ∀ σ1 τ1, RR σ1 τ1 → P (nI j) σ1 τ1 1205 []) : P (nI j) σ τ 27 [] := by
  obtain ⟨k, hk, e⟩ := and31 (xs j)
  rcases (show k = 0 ∨ k = 1 ∨ k = 2 ∨ k = 3 ∨ k = 4 ∨ k = 5 ∨ k = 6 ∨ k = 7 ∨ k = 8 ∨ k = 9 ∨ k = 10 ∨ k = 11 ∨ k = 12 ∨ k = 13 ∨ k = 14 ∨ k = 15 ∨ k = 16 ∨ k = 17 ∨ k = 18 ∨ k = 19 ∨ k = 20 ∨ k = 21 ∨ k = 22 ∨ k = 23 ∨ k = 24 ∨ k = 25 ∨ k = 26 ∨ k = 27 ∨ k = 28 ∨ k = 29 ∨ k = 30 ∨ k = 31 by omega) with rfl | rfl | rfl | rfl | rfl | rfl | rfl | rfl | rfl | rfl | rfl | rfl | rfl | rfl | rfl | rfl | rfl | rfl | rfl | rfl | rfl | rfl | rfl | rfl | rfl | rfl | rfl | rfl | rfl | rfl | rfl | rfl
  · exact lr_sw h hj dL_27 dL_28 dL_29 dL_30 dL_32 dL_33 e (by decide) (off := 139) rfl (by decide) (lk_0 N hN h hj hR nx)
  · exact lr_sw h hj dL_27 dL_28 dL_29 dL_30 dL_32 dL_33 e (by decide) (off := 172) rfl (by decide) (lk_1 N hN h hj hR nx)
  · exact lr_sw h hj dL_27 dL_28 dL_29 dL_30 dL_32 dL_33 e (by decide) (off := 215) rfl (by decide) (lk_2 N hN h hj hR nx)
  · exact lr_sw h hj dL_27 dL_28 dL_29 dL_30 dL_32 dL_33 e (by decide) (off := 258) rfl (by decide) (lk_3 N hN h hj hR nx)
  · exact lr_sw h hj dL_27 dL_28 dL_29 dL_30 dL_32 dL_33 e (by decide) (off := 321) rfl (by decide) (lk_4 N hN h hj hR nx)
  · exact lr_sw h hj dL_27 dL_28 dL_29 dL_30 dL_32 dL_33 e (by decide) (off := 344) rfl (by decide) (lk_5 N hN h hj hR nx)
  · exact lr_sw h hj dL_27 dL_28 dL_29 dL_30 dL_32 dL_33 e (by decide) (off := 367) rfl (by decide) (lk_6 N hN h hj hR nx)
  · exact lr_sw h hj dL_27 dL_28 dL_29 dL_30 dL_32 dL_33 e (by decide) (off := 400) rfl (by decide) (lk_7 N hN h hj hR nx)
  · exact lr_sw h hj dL_27 dL_28 dL_29 dL_30 dL_32 dL_33 e (by decide) (off := 423) rfl (by decide) (lk_8 N hN h hj hR nx)
  · exact lr_sw h hj dL_27 dL_28 dL_29 dL_30 dL_32 dL_33 e (by decide) (off := 456) rfl (by decide) (lk_9 N hN h hj hR nx)
  · exact lr_sw h hj dL_27 dL_28 dL_29 dL_30 dL_32 dL_33 e (by decide) (off := 489) rfl (by decide) (lk_10 N hN h hj hR nx)
  · exact lr_sw h hj dL_27 dL_28 dL_29 dL_30 dL_32 dL_33 e (by decide) (off := 522) rfl (by decide) (lk_11 N hN h hj hR nx)
  · exact lr_sw h hj dL_27 dL_28 dL_29 dL_30 dL_32 dL_33 e (by decide) (off := 555) rfl (by decide) (lk_12 N hN h hj hR nx)
  · exact lr_sw h hj dL_27 dL_28 dL_29 dL_30 dL_32 dL_33 e (by decide) (off := 588) rfl (by decide) (lk_13 N hN h hj hR nx)
  · exact lr_sw h hj dL_27 dL_28 dL_29 dL_30 dL_32 dL_33 e (by decide) (off := 621) rfl (by decide) (lk_14 N hN h hj hR nx)
  · exact lr_sw h hj dL_27 dL_28 dL_29 dL_30 dL_32 dL_33 e (by decide) (off := 664) rfl (by decide) (lk_15 N hN h hj hR nx)
  · exact lr_sw h hj dL_27 dL_28 dL_29 dL_30 dL_32 dL_33 e (by decide) (off := 707) rfl (by decide) (lk_16 N hN h hj hR nx)
  · exact lr_sw h hj dL_27 dL_28 dL_29 dL_30 dL_32 dL_33 e (by decide) (off := 750) rfl (by decide) (lk_17 N hN h hj hR nx)
  · exact lr_sw h hj dL_27 dL_28 dL_29 dL_30 dL_32 dL_33 e (by decide) (off := 783) rfl (by decide) (lk_18 N hN h hj hR nx)
  · exact lr_sw h hj dL_27 dL_28 dL_29 dL_30 dL_32 dL_33 e (by decide) (off := 816) rfl (by decide) (lk_19 N hN h hj hR nx)
  · exact lr_sw h hj dL_27 dL_28 dL_29 dL_30 dL_32 dL_33 e (by decide) (off := 849) rfl (by decide) (lk_20 N hN h hj hR nx)
  · exact lr_sw h hj dL_27 dL_28 dL_29 dL_30 dL_32 dL_33 e (by decide) (off := 862) rfl (by decide) (lk_21 N hN h hj hR nx)
  · exact lr_sw h hj dL_27 dL_28 dL_29 dL_30 dL_32 dL_33 e (by decide) (off := 895) rfl (by decide) (lk_22 N hN h hj hR nx)
  · exact lr_sw h hj dL_27 dL_28 dL_29 dL_30 dL_32 dL_33 e (by decide) (off := 938) rfl (by decide) (lk_23 N hN h hj hR nx)
  · exact lr_sw h hj dL_27 dL_28 dL_29 dL_30 dL_32 dL_33 e (by decide) (off := 991) rfl (by decide) (lk_24 N hN h hj hR nx)
  · exact lr_sw h hj dL_27 dL_28 dL_29 dL_30 dL_32 dL_33 e (by decide) (off := 1034) rfl (by decide) (lk_25 N hN h hj hR nx)
  · exact lr_sw h hj dL_27 dL_28 dL_29 dL_30 dL_32 dL_33 e (by decide) (off := 1077) rfl (by decide) (lk_26 N hN h hj hR nx)
  · exact lr_sw h hj dL_27 dL_28 dL_29 dL_30 dL_32 dL_33 e (by decide) (off := 1100) rfl (by decide) (lk_27 N hN h hj hR nx)
  · exact lr_sw h hj dL_27 dL_28 dL_29 dL_30 dL_32 dL_33 e (by decide) (off := 1113) rfl (by decide) (lk_28 N hN h hj hR nx)
  · exact lr_sw h hj dL_27 dL_28 dL_29 dL_30 dL_32 dL_33 e (by decide) (off := 1126) rfl (by decide) (lk_29 N hN h hj hR nx)
  · exact lr_sw h hj dL_27 dL_28 dL_29 dL_30 dL_32 dL_33 e (by decide) (off := 1149) rfl (by decide) (lk_30 N hN h hj hR nx)
  · exact lr_sw31 h hj dL_27 dL_28 dL_29 dL_30 dL_32 dL_33 e (by decide) (nx σ τ hR)
theorem law_loop {b L : Nat} {xs : Nat → Int32} {gc gm : Gx} {P : Int32 → Mem → Mem → Nat → List Value → Prop} (N : Nat) (hN : 50000 ≤ N) (h : LJ b L xs gc gm P) : ∀ (n j : Nat) (σ τ : Mem), L + 1 ≤ j + n → j ≤ 3078 → RR σ τ → P (nI j) σ τ 18 [] := by
  have hL := h.len
  intro n
  induction n with
  | zero =>
    intro j σ τ h1 h2 hR
    exact lr_head h h2 dL_18 dL_19 dL_20 dL_21 dL_23 dL_24 (tgt := 1211) (by decide) dL_1211 dL_1212 (fun hj => absurd hj (by omega))
  | succ n ih =>
    intro j σ τ h1 h2 hR
    refine lr_head h h2 dL_18 dL_19 dL_20 dL_21 dL_23 dL_24 (tgt := 1211) (by decide) dL_1211 dL_1212 (fun hj => ?_)
    refine law_step N hN h hj hR (fun σ1 τ1 hR1 => ?_)
    exact lr_inc h dL_1205 dL_1208 (tgt := 18) (by decide) (ih (j + 6) σ1 τ1 (by omega) (by omega) hR1)
