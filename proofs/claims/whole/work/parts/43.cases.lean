/-! the 23 cases of the law -/
section CASES
variable {g : GG} {L : Nat} {xs : Nat → Int32} {k : Nat} {σ : St}
theorem lc_court (hk : k + 6 ≤ L) (hL : L ≤ 3072) (hR : Rel σ) (next : ∀ σ2 : St, Rel σ2 → VL g L xs 1051 (lsL k) [] σ2) : VL g L xs 140 (lsL k) [] σ := by
  refine VE_aload_n 2 dL_law_140 (k := ?_)
  refine VL_arg 1 hk hL dL_law_141 dL_law_142 dL_law_143 dL_law_144 dL_law_145 ?_
  refine VL_arg 2 hk hL dL_law_146 dL_law_147 dL_law_148 dL_law_149 dL_law_150 ?_
  refine VL_arg 3 hk hL dL_law_151 dL_law_152 dL_law_153 dL_law_154 dL_law_155 ?_
  refine VL_arg 4 hk hL dL_law_156 dL_law_157 dL_law_158 dL_law_159 dL_law_160 ?_
  refine VE_cVi [vI (xs (k + 1)), vI (xs (k + 2)), vI (xs (k + 3)), vI (xs (k + 4))] dL_law_161 ml_L_13 (st_court (d := 0) _ _ _ _ hR) (fun r1 σ1 h1 => ?_) (rokL (by decide))
  refine VE_aload_n 1 dL_law_164 (k := ?_)
  refine VL_arg 1 hk hL dL_law_165 dL_law_166 dL_law_167 dL_law_168 dL_law_169 ?_
  refine VL_arg 2 hk hL dL_law_170 dL_law_171 dL_law_172 dL_law_173 dL_law_174 ?_
  refine VL_arg 3 hk hL dL_law_175 dL_law_176 dL_law_177 dL_law_178 dL_law_179 ?_
  refine VL_arg 4 hk hL dL_law_180 dL_law_181 dL_law_182 dL_law_183 dL_law_184 ?_
  refine VE_cVi [vI (xs (k + 1)), vI (xs (k + 2)), vI (xs (k + 3)), vI (xs (k + 4))] dL_law_185 ml_L_17 h1 (fun r2 σ2 h2 => ?_) (rokL (by decide))
  exact VE_icmp_eq 1051 dL_law_188 (fun _ => next σ2 h2.2) (fun hn => absurd h2.1 hn)
theorem lc_ofHead (hk : k + 6 ≤ L) (hL : L ≤ 3072) (hR : Rel σ) (next : ∀ σ2 : St, Rel σ2 → VL g L xs 1051 (lsL k) [] σ2) : VL g L xs 193 (lsL k) [] σ := by
  refine VE_aload_n 2 dL_law_193 (k := ?_)
  refine VL_arg 1 hk hL dL_law_194 dL_law_195 dL_law_196 dL_law_197 dL_law_198 ?_
  refine VL_arg 2 hk hL dL_law_199 dL_law_200 dL_law_201 dL_law_202 dL_law_203 ?_
  refine VE_cVi [vI (xs (k + 1)), vI (xs (k + 2))] dL_law_204 ml_L_18 (st_ofHead (d := 0) _ _ hR) (fun r1 σ1 h1 => ?_) (rokL (by decide))
  refine VE_aload_n 1 dL_law_207 (k := ?_)
  refine VL_arg 1 hk hL dL_law_208 dL_law_209 dL_law_210 dL_law_211 dL_law_212 ?_
  refine VL_arg 2 hk hL dL_law_213 dL_law_214 dL_law_215 dL_law_216 dL_law_217 ?_
  refine VE_cVi [vI (xs (k + 1)), vI (xs (k + 2))] dL_law_218 ml_L_22 h1 (fun r2 σ2 h2 => ?_) (rokL (by decide))
  exact VE_icmp_eq 1051 dL_law_221 (fun _ => next σ2 h2.2) (fun hn => absurd h2.1 hn)
theorem lc_wear (hk : k + 6 ≤ L) (hL : L ≤ 3072) (hR : Rel σ) (next : ∀ σ2 : St, Rel σ2 → VL g L xs 1051 (lsL k) [] σ2) : VL g L xs 226 (lsL k) [] σ := by
  refine VE_aload_n 2 dL_law_226 (k := ?_)
  refine VL_arg 1 hk hL dL_law_227 dL_law_228 dL_law_229 dL_law_230 dL_law_231 ?_
  refine VL_arg 2 hk hL dL_law_232 dL_law_233 dL_law_234 dL_law_235 dL_law_236 ?_
  refine VE_cVi [vI (xs (k + 1)), vI (xs (k + 2))] dL_law_237 ml_L_23 (st_wear (d := 0) _ _ hR) (fun r1 σ1 h1 => ?_) (rokL (by decide))
  refine VE_aload_n 1 dL_law_240 (k := ?_)
  refine VL_arg 1 hk hL dL_law_241 dL_law_242 dL_law_243 dL_law_244 dL_law_245 ?_
  refine VL_arg 2 hk hL dL_law_246 dL_law_247 dL_law_248 dL_law_249 dL_law_250 ?_
  refine VE_cVi [vI (xs (k + 1)), vI (xs (k + 2))] dL_law_251 ml_L_26 h1 (fun r2 σ2 h2 => ?_) (rokL (by decide))
  exact VE_icmp_eq 1051 dL_law_254 (fun _ => next σ2 h2.2) (fun hn => absurd h2.1 hn)
theorem lc_knows (hk : k + 6 ≤ L) (hL : L ≤ 3072) (hR : Rel σ) (next : ∀ σ2 : St, Rel σ2 → VL g L xs 1051 (lsL k) [] σ2) : VL g L xs 259 (lsL k) [] σ := by
  refine VE_aload_n 2 dL_law_259 (k := ?_)
  refine VL_arg 1 hk hL dL_law_260 dL_law_261 dL_law_262 dL_law_263 dL_law_264 ?_
  refine VL_arg 2 hk hL dL_law_265 dL_law_266 dL_law_267 dL_law_268 dL_law_269 ?_
  refine VE_cVi [vI (xs (k + 1)), vI (xs (k + 2))] dL_law_270 ml_L_27 (st_knows (d := 0) _ _ hR) (fun r1 σ1 h1 => ?_) (rokL (by decide))
  refine VE_aload_n 1 dL_law_273 (k := ?_)
  refine VL_arg 1 hk hL dL_law_274 dL_law_275 dL_law_276 dL_law_277 dL_law_278 ?_
  refine VL_arg 2 hk hL dL_law_279 dL_law_280 dL_law_281 dL_law_282 dL_law_283 ?_
  refine VE_cVi [vI (xs (k + 1)), vI (xs (k + 2))] dL_law_284 ml_L_30 h1 (fun r2 σ2 h2 => ?_) (rokL (by decide))
  exact VE_icmp_eq 1051 dL_law_287 (fun _ => next σ2 h2.2) (fun hn => absurd h2.1 hn)
theorem lc_visits (hk : k + 6 ≤ L) (hL : L ≤ 3072) (hR : Rel σ) (next : ∀ σ2 : St, Rel σ2 → VL g L xs 1051 (lsL k) [] σ2) : VL g L xs 292 (lsL k) [] σ := by
  refine VE_aload_n 2 dL_law_292 (k := ?_)
  refine VL_arg 1 hk hL dL_law_293 dL_law_294 dL_law_295 dL_law_296 dL_law_297 ?_
  refine VL_arg 2 hk hL dL_law_298 dL_law_299 dL_law_300 dL_law_301 dL_law_302 ?_
  refine VL_arg 3 hk hL dL_law_303 dL_law_304 dL_law_305 dL_law_306 dL_law_307 ?_
  refine VL_arg 4 hk hL dL_law_308 dL_law_309 dL_law_310 dL_law_311 dL_law_312 ?_
  refine VL_arg 5 hk hL dL_law_313 dL_law_314 dL_law_315 dL_law_316 dL_law_317 ?_
  refine VE_cVi [vI (xs (k + 1)), vI (xs (k + 2)), vI (xs (k + 3)), vI (xs (k + 4)), vI (xs (k + 5))] dL_law_318 ml_L_31 (st_visits (d := 0) _ _ _ _ _ hR) (fun r1 σ1 h1 => ?_) (rokL (by decide))
  refine VE_aload_n 1 dL_law_321 (k := ?_)
  refine VL_arg 1 hk hL dL_law_322 dL_law_323 dL_law_324 dL_law_325 dL_law_326 ?_
  refine VL_arg 2 hk hL dL_law_327 dL_law_328 dL_law_329 dL_law_330 dL_law_331 ?_
  refine VL_arg 3 hk hL dL_law_332 dL_law_333 dL_law_334 dL_law_335 dL_law_336 ?_
  refine VL_arg 4 hk hL dL_law_337 dL_law_338 dL_law_339 dL_law_340 dL_law_341 ?_
  refine VL_arg 5 hk hL dL_law_342 dL_law_343 dL_law_344 dL_law_345 dL_law_346 ?_
  refine VE_cVi [vI (xs (k + 1)), vI (xs (k + 2)), vI (xs (k + 3)), vI (xs (k + 4)), vI (xs (k + 5))] dL_law_347 ml_L_35 h1 (fun r2 σ2 h2 => ?_) (rokL (by decide))
  exact VE_icmp_eq 1051 dL_law_350 (fun _ => next σ2 h2.2) (fun hn => absurd h2.1 hn)
theorem lc_plan (hk : k + 6 ≤ L) (hL : L ≤ 3072) (hR : Rel σ) (next : ∀ σ2 : St, Rel σ2 → VL g L xs 1051 (lsL k) [] σ2) : VL g L xs 355 (lsL k) [] σ := by
  refine VE_aload_n 2 dL_law_355 (k := ?_)
  refine VL_arg 1 hk hL dL_law_356 dL_law_357 dL_law_358 dL_law_359 dL_law_360 ?_
  refine VL_arg 2 hk hL dL_law_361 dL_law_362 dL_law_363 dL_law_364 dL_law_365 ?_
  refine VL_arg 3 hk hL dL_law_366 dL_law_367 dL_law_368 dL_law_369 dL_law_370 ?_
  refine VE_cVi [vI (xs (k + 1)), vI (xs (k + 2)), vI (xs (k + 3))] dL_law_371 ml_L_36 (st_plan (d := 0) _ _ _ hR) (fun r1 σ1 h1 => ?_) (rokL (by decide))
  refine VE_aload_n 1 dL_law_374 (k := ?_)
  refine VL_arg 1 hk hL dL_law_375 dL_law_376 dL_law_377 dL_law_378 dL_law_379 ?_
  refine VL_arg 2 hk hL dL_law_380 dL_law_381 dL_law_382 dL_law_383 dL_law_384 ?_
  refine VL_arg 3 hk hL dL_law_385 dL_law_386 dL_law_387 dL_law_388 dL_law_389 ?_
  refine VE_cVi [vI (xs (k + 1)), vI (xs (k + 2)), vI (xs (k + 3))] dL_law_390 ml_L_40 h1 (fun r2 σ2 h2 => ?_) (rokL (by decide))
  exact VE_icmp_eq 1051 dL_law_393 (fun _ => next σ2 h2.2) (fun hn => absurd h2.1 hn)
theorem lc_reading (hk : k + 6 ≤ L) (hL : L ≤ 3072) (hR : Rel σ) (next : ∀ σ2 : St, Rel σ2 → VL g L xs 1051 (lsL k) [] σ2) : VL g L xs 398 (lsL k) [] σ := by
  refine VE_aload_n 2 dL_law_398 (k := ?_)
  refine VL_arg 1 hk hL dL_law_399 dL_law_400 dL_law_401 dL_law_402 dL_law_403 ?_
  refine VL_arg 2 hk hL dL_law_404 dL_law_405 dL_law_406 dL_law_407 dL_law_408 ?_
  refine VL_arg 3 hk hL dL_law_409 dL_law_410 dL_law_411 dL_law_412 dL_law_413 ?_
  refine VE_cVi [vI (xs (k + 1)), vI (xs (k + 2)), vI (xs (k + 3))] dL_law_414 ml_L_41 (st_reading (d := 0) _ _ _ hR) (fun r1 σ1 h1 => ?_) (rokL (by decide))
  refine VE_aload_n 1 dL_law_417 (k := ?_)
  refine VL_arg 1 hk hL dL_law_418 dL_law_419 dL_law_420 dL_law_421 dL_law_422 ?_
  refine VL_arg 2 hk hL dL_law_423 dL_law_424 dL_law_425 dL_law_426 dL_law_427 ?_
  refine VL_arg 3 hk hL dL_law_428 dL_law_429 dL_law_430 dL_law_431 dL_law_432 ?_
  refine VE_cVi [vI (xs (k + 1)), vI (xs (k + 2)), vI (xs (k + 3))] dL_law_433 ml_L_44 h1 (fun r2 σ2 h2 => ?_) (rokL (by decide))
  exact VE_icmp_eq 1051 dL_law_436 (fun _ => next σ2 h2.2) (fun hn => absurd h2.1 hn)
theorem lc_back (hk : k + 6 ≤ L) (hL : L ≤ 3072) (hR : Rel σ) (next : ∀ σ2 : St, Rel σ2 → VL g L xs 1051 (lsL k) [] σ2) : VL g L xs 441 (lsL k) [] σ := by
  refine VE_aload_n 2 dL_law_441 (k := ?_)
  refine VL_arg 1 hk hL dL_law_442 dL_law_443 dL_law_444 dL_law_445 dL_law_446 ?_
  refine VE_cVi [vI (xs (k + 1))] dL_law_447 ml_L_45 (st_back (d := 0) _ hR) (fun r1 σ1 h1 => ?_) (rokL (by decide))
  refine VE_aload_n 1 dL_law_450 (k := ?_)
  refine VL_arg 1 hk hL dL_law_451 dL_law_452 dL_law_453 dL_law_454 dL_law_455 ?_
  refine VE_cVi [vI (xs (k + 1))] dL_law_456 ml_L_49 h1 (fun r2 σ2 h2 => ?_) (rokL (by decide))
  exact VE_icmp_eq 1051 dL_law_459 (fun _ => next σ2 h2.2) (fun hn => absurd h2.1 hn)
theorem lc_who (hk : k + 6 ≤ L) (hL : L ≤ 3072) (hR : Rel σ) (next : ∀ σ2 : St, Rel σ2 → VL g L xs 1051 (lsL k) [] σ2) : VL g L xs 464 (lsL k) [] σ := by
  refine VE_aload_n 2 dL_law_464 (k := ?_)
  refine VL_arg 1 hk hL dL_law_465 dL_law_466 dL_law_467 dL_law_468 dL_law_469 ?_
  refine VL_arg 2 hk hL dL_law_470 dL_law_471 dL_law_472 dL_law_473 dL_law_474 ?_
  refine VL_arg 3 hk hL dL_law_475 dL_law_476 dL_law_477 dL_law_478 dL_law_479 ?_
  refine VL_arg 4 hk hL dL_law_480 dL_law_481 dL_law_482 dL_law_483 dL_law_484 ?_
  refine VL_arg 5 hk hL dL_law_485 dL_law_486 dL_law_487 dL_law_488 dL_law_489 ?_
  refine VE_cVi [vI (xs (k + 1)), vI (xs (k + 2)), vI (xs (k + 3)), vI (xs (k + 4)), vI (xs (k + 5))] dL_law_490 ml_L_50 (st_who (d := 0) _ _ _ _ _ hR) (fun r1 σ1 h1 => ?_) (rokL (by decide))
  refine VE_aload_n 1 dL_law_493 (k := ?_)
  refine VL_arg 1 hk hL dL_law_494 dL_law_495 dL_law_496 dL_law_497 dL_law_498 ?_
  refine VL_arg 2 hk hL dL_law_499 dL_law_500 dL_law_501 dL_law_502 dL_law_503 ?_
  refine VL_arg 3 hk hL dL_law_504 dL_law_505 dL_law_506 dL_law_507 dL_law_508 ?_
  refine VL_arg 4 hk hL dL_law_509 dL_law_510 dL_law_511 dL_law_512 dL_law_513 ?_
  refine VL_arg 5 hk hL dL_law_514 dL_law_515 dL_law_516 dL_law_517 dL_law_518 ?_
  refine VE_cVi [vI (xs (k + 1)), vI (xs (k + 2)), vI (xs (k + 3)), vI (xs (k + 4)), vI (xs (k + 5))] dL_law_519 ml_L_53 h1 (fun r2 σ2 h2 => ?_) (rokL (by decide))
  exact VE_icmp_eq 1051 dL_law_522 (fun _ => next σ2 h2.2) (fun hn => absurd h2.1 hn)
theorem lc_kinds (hk : k + 6 ≤ L) (hL : L ≤ 3072) (hR : Rel σ) (next : ∀ σ2 : St, Rel σ2 → VL g L xs 1051 (lsL k) [] σ2) : VL g L xs 527 (lsL k) [] σ := by
  refine VE_aload_n 2 dL_law_527 (k := ?_)
  refine VL_arg 1 hk hL dL_law_528 dL_law_529 dL_law_530 dL_law_531 dL_law_532 ?_
  refine VL_arg 2 hk hL dL_law_533 dL_law_534 dL_law_535 dL_law_536 dL_law_537 ?_
  refine VL_arg 3 hk hL dL_law_538 dL_law_539 dL_law_540 dL_law_541 dL_law_542 ?_
  refine VL_arg 4 hk hL dL_law_543 dL_law_544 dL_law_545 dL_law_546 dL_law_547 ?_
  refine VL_arg 5 hk hL dL_law_548 dL_law_549 dL_law_550 dL_law_551 dL_law_552 ?_
  refine VE_cVi [vI (xs (k + 1)), vI (xs (k + 2)), vI (xs (k + 3)), vI (xs (k + 4)), vI (xs (k + 5))] dL_law_553 ml_L_54 (st_kinds (d := 0) _ _ _ _ _ hR) (fun r1 σ1 h1 => ?_) (rokL (by decide))
  refine VE_aload_n 1 dL_law_556 (k := ?_)
  refine VL_arg 1 hk hL dL_law_557 dL_law_558 dL_law_559 dL_law_560 dL_law_561 ?_
  refine VL_arg 2 hk hL dL_law_562 dL_law_563 dL_law_564 dL_law_565 dL_law_566 ?_
  refine VL_arg 3 hk hL dL_law_567 dL_law_568 dL_law_569 dL_law_570 dL_law_571 ?_
  refine VL_arg 4 hk hL dL_law_572 dL_law_573 dL_law_574 dL_law_575 dL_law_576 ?_
  refine VL_arg 5 hk hL dL_law_577 dL_law_578 dL_law_579 dL_law_580 dL_law_581 ?_
  refine VE_cVi [vI (xs (k + 1)), vI (xs (k + 2)), vI (xs (k + 3)), vI (xs (k + 4)), vI (xs (k + 5))] dL_law_582 ml_L_57 h1 (fun r2 σ2 h2 => ?_) (rokL (by decide))
  exact VE_icmp_eq 1051 dL_law_585 (fun _ => next σ2 h2.2) (fun hn => absurd h2.1 hn)
theorem lc_wears (hk : k + 6 ≤ L) (hL : L ≤ 3072) (hR : Rel σ) (next : ∀ σ2 : St, Rel σ2 → VL g L xs 1051 (lsL k) [] σ2) : VL g L xs 590 (lsL k) [] σ := by
  refine VE_aload_n 2 dL_law_590 (k := ?_)
  refine VL_arg 1 hk hL dL_law_591 dL_law_592 dL_law_593 dL_law_594 dL_law_595 ?_
  refine VL_arg 2 hk hL dL_law_596 dL_law_597 dL_law_598 dL_law_599 dL_law_600 ?_
  refine VL_arg 3 hk hL dL_law_601 dL_law_602 dL_law_603 dL_law_604 dL_law_605 ?_
  refine VL_arg 4 hk hL dL_law_606 dL_law_607 dL_law_608 dL_law_609 dL_law_610 ?_
  refine VL_arg 5 hk hL dL_law_611 dL_law_612 dL_law_613 dL_law_614 dL_law_615 ?_
  refine VE_cVi [vI (xs (k + 1)), vI (xs (k + 2)), vI (xs (k + 3)), vI (xs (k + 4)), vI (xs (k + 5))] dL_law_616 ml_L_58 (st_wears (d := 0) _ _ _ _ _ hR) (fun r1 σ1 h1 => ?_) (rokL (by decide))
  refine VE_aload_n 1 dL_law_619 (k := ?_)
  refine VL_arg 1 hk hL dL_law_620 dL_law_621 dL_law_622 dL_law_623 dL_law_624 ?_
  refine VL_arg 2 hk hL dL_law_625 dL_law_626 dL_law_627 dL_law_628 dL_law_629 ?_
  refine VL_arg 3 hk hL dL_law_630 dL_law_631 dL_law_632 dL_law_633 dL_law_634 ?_
  refine VL_arg 4 hk hL dL_law_635 dL_law_636 dL_law_637 dL_law_638 dL_law_639 ?_
  refine VL_arg 5 hk hL dL_law_640 dL_law_641 dL_law_642 dL_law_643 dL_law_644 ?_
  refine VE_cVi [vI (xs (k + 1)), vI (xs (k + 2)), vI (xs (k + 3)), vI (xs (k + 4)), vI (xs (k + 5))] dL_law_645 ml_L_61 h1 (fun r2 σ2 h2 => ?_) (rokL (by decide))
  exact VE_icmp_eq 1051 dL_law_648 (fun _ => next σ2 h2.2) (fun hn => absurd h2.1 hn)
theorem lc_odds (hk : k + 6 ≤ L) (hL : L ≤ 3072) (hR : Rel σ) (next : ∀ σ2 : St, Rel σ2 → VL g L xs 1051 (lsL k) [] σ2) : VL g L xs 653 (lsL k) [] σ := by
  refine VE_aload_n 2 dL_law_653 (k := ?_)
  refine VL_arg 1 hk hL dL_law_654 dL_law_655 dL_law_656 dL_law_657 dL_law_658 ?_
  refine VL_arg 2 hk hL dL_law_659 dL_law_660 dL_law_661 dL_law_662 dL_law_663 ?_
  refine VL_arg 3 hk hL dL_law_664 dL_law_665 dL_law_666 dL_law_667 dL_law_668 ?_
  refine VL_arg 4 hk hL dL_law_669 dL_law_670 dL_law_671 dL_law_672 dL_law_673 ?_
  refine VE_cVl [vI (xs (k + 1)), vI (xs (k + 2)), vI (xs (k + 3)), vI (xs (k + 4))] dL_law_674 ml_L_62 (st_odds (d := 0) _ _ _ _ hR) (fun r1 σ1 h1 => ?_) (rokL (by decide))
  refine VE_aload_n 1 dL_law_677 (k := ?_)
  refine VL_arg 1 hk hL dL_law_678 dL_law_679 dL_law_680 dL_law_681 dL_law_682 ?_
  refine VL_arg 2 hk hL dL_law_683 dL_law_684 dL_law_685 dL_law_686 dL_law_687 ?_
  refine VL_arg 3 hk hL dL_law_688 dL_law_689 dL_law_690 dL_law_691 dL_law_692 ?_
  refine VL_arg 4 hk hL dL_law_693 dL_law_694 dL_law_695 dL_law_696 dL_law_697 ?_
  refine VE_cVl [vI (xs (k + 1)), vI (xs (k + 2)), vI (xs (k + 3)), vI (xs (k + 4))] dL_law_698 ml_L_66 h1 (fun r2 σ2 h2 => ?_) (rokL (by decide))
  refine VE_lcmp dL_law_701 ?_
  exact VE_if_eq 1051 dL_law_702 (fun _ => next σ2 h2.2) (fun hn => absurd (lcmp_self h2.1) hn)
theorem lc_sheet (hk : k + 6 ≤ L) (hL : L ≤ 3072) (hR : Rel σ) (next : ∀ σ2 : St, Rel σ2 → VL g L xs 1051 (lsL k) [] σ2) : VL g L xs 707 (lsL k) [] σ := by
  refine VE_aload_n 2 dL_law_707 (k := ?_)
  refine VL_arg 1 hk hL dL_law_708 dL_law_709 dL_law_710 dL_law_711 dL_law_712 ?_
  refine VL_arg 2 hk hL dL_law_713 dL_law_714 dL_law_715 dL_law_716 dL_law_717 ?_
  refine VL_arg 3 hk hL dL_law_718 dL_law_719 dL_law_720 dL_law_721 dL_law_722 ?_
  refine VE_cVi [vI (xs (k + 1)), vI (xs (k + 2)), vI (xs (k + 3))] dL_law_723 ml_L_67 (st_sheet (d := 0) _ _ _ hR) (fun r1 σ1 h1 => ?_) (rokL (by decide))
  refine VE_aload_n 1 dL_law_726 (k := ?_)
  refine VL_arg 1 hk hL dL_law_727 dL_law_728 dL_law_729 dL_law_730 dL_law_731 ?_
  refine VL_arg 2 hk hL dL_law_732 dL_law_733 dL_law_734 dL_law_735 dL_law_736 ?_
  refine VL_arg 3 hk hL dL_law_737 dL_law_738 dL_law_739 dL_law_740 dL_law_741 ?_
  refine VE_cVi [vI (xs (k + 1)), vI (xs (k + 2)), vI (xs (k + 3))] dL_law_742 ml_L_70 h1 (fun r2 σ2 h2 => ?_) (rokL (by decide))
  exact VE_icmp_eq 1051 dL_law_745 (fun _ => next σ2 h2.2) (fun hn => absurd h2.1 hn)
theorem lc_lose (hk : k + 6 ≤ L) (hL : L ≤ 3072) (hR : Rel σ) (next : ∀ σ2 : St, Rel σ2 → VL g L xs 1051 (lsL k) [] σ2) : VL g L xs 750 (lsL k) [] σ := by
  refine VE_aload_n 2 dL_law_750 (k := ?_)
  refine VL_arg 1 hk hL dL_law_751 dL_law_752 dL_law_753 dL_law_754 dL_law_755 ?_
  refine VE_cVi [vI (xs (k + 1))] dL_law_756 ml_L_71 (st_lose (d := 0) _ hR) (fun r1 σ1 h1 => ?_) (rokL (by decide))
  refine VE_aload_n 1 dL_law_759 (k := ?_)
  refine VL_arg 1 hk hL dL_law_760 dL_law_761 dL_law_762 dL_law_763 dL_law_764 ?_
  refine VE_cVi [vI (xs (k + 1))] dL_law_765 ml_L_74 h1 (fun r2 σ2 h2 => ?_) (rokL (by decide))
  exact VE_icmp_eq 1051 dL_law_768 (fun _ => next σ2 h2.2) (fun hn => absurd h2.1 hn)
theorem lc_put (hk : k + 6 ≤ L) (hL : L ≤ 3072) (hR : Rel σ) (next : ∀ σ2 : St, Rel σ2 → VL g L xs 1051 (lsL k) [] σ2) : VL g L xs 773 (lsL k) [] σ := by
  refine VE_aload_n 2 dL_law_773 (k := ?_)
  refine VL_arg 1 hk hL dL_law_774 dL_law_775 dL_law_776 dL_law_777 dL_law_778 ?_
  refine VL_arg 2 hk hL dL_law_779 dL_law_780 dL_law_781 dL_law_782 dL_law_783 ?_
  refine VL_arg 3 hk hL dL_law_784 dL_law_785 dL_law_786 dL_law_787 dL_law_788 ?_
  refine VE_cVi [vI (xs (k + 1)), vI (xs (k + 2)), vI (xs (k + 3))] dL_law_789 ml_L_75 (st_put (d := 0) _ _ _ hR) (fun r1 σ1 h1 => ?_) (rokL (by decide))
  refine VE_aload_n 1 dL_law_792 (k := ?_)
  refine VL_arg 1 hk hL dL_law_793 dL_law_794 dL_law_795 dL_law_796 dL_law_797 ?_
  refine VL_arg 2 hk hL dL_law_798 dL_law_799 dL_law_800 dL_law_801 dL_law_802 ?_
  refine VL_arg 3 hk hL dL_law_803 dL_law_804 dL_law_805 dL_law_806 dL_law_807 ?_
  refine VE_cVi [vI (xs (k + 1)), vI (xs (k + 2)), vI (xs (k + 3))] dL_law_808 ml_L_78 h1 (fun r2 σ2 h2 => ?_) (rokL (by decide))
  exact VE_icmp_eq 1051 dL_law_811 (fun _ => next σ2 h2.2) (fun hn => absurd h2.1 hn)
theorem lc_cell (hk : k + 6 ≤ L) (hL : L ≤ 3072) (hR : Rel σ) (next : ∀ σ2 : St, Rel σ2 → VL g L xs 1051 (lsL k) [] σ2) : VL g L xs 816 (lsL k) [] σ := by
  refine VE_aload_n 2 dL_law_816 (k := ?_)
  refine VL_arg 1 hk hL dL_law_817 dL_law_818 dL_law_819 dL_law_820 dL_law_821 ?_
  refine VL_arg 2 hk hL dL_law_822 dL_law_823 dL_law_824 dL_law_825 dL_law_826 ?_
  refine VL_arg 3 hk hL dL_law_827 dL_law_828 dL_law_829 dL_law_830 dL_law_831 ?_
  refine VE_cVl [vI (xs (k + 1)), vI (xs (k + 2)), vI (xs (k + 3))] dL_law_832 ml_L_79 (st_cell (d := 0) _ _ _ hR) (fun r1 σ1 h1 => ?_) (rokL (by decide))
  refine VE_aload_n 1 dL_law_835 (k := ?_)
  refine VL_arg 1 hk hL dL_law_836 dL_law_837 dL_law_838 dL_law_839 dL_law_840 ?_
  refine VL_arg 2 hk hL dL_law_841 dL_law_842 dL_law_843 dL_law_844 dL_law_845 ?_
  refine VL_arg 3 hk hL dL_law_846 dL_law_847 dL_law_848 dL_law_849 dL_law_850 ?_
  refine VE_cVl [vI (xs (k + 1)), vI (xs (k + 2)), vI (xs (k + 3))] dL_law_851 ml_L_83 h1 (fun r2 σ2 h2 => ?_) (rokL (by decide))
  refine VE_lcmp dL_law_854 ?_
  exact VE_if_eq 1051 dL_law_855 (fun _ => next σ2 h2.2) (fun hn => absurd (lcmp_self h2.1) hn)
theorem lc_copy (hk : k + 6 ≤ L) (hL : L ≤ 3072) (hR : Rel σ) (next : ∀ σ2 : St, Rel σ2 → VL g L xs 1051 (lsL k) [] σ2) : VL g L xs 860 (lsL k) [] σ := by
  refine VE_aload_n 2 dL_law_860 (k := ?_)
  refine VL_arg 1 hk hL dL_law_861 dL_law_862 dL_law_863 dL_law_864 dL_law_865 ?_
  refine VL_arg 2 hk hL dL_law_866 dL_law_867 dL_law_868 dL_law_869 dL_law_870 ?_
  refine VL_arg 3 hk hL dL_law_871 dL_law_872 dL_law_873 dL_law_874 dL_law_875 ?_
  refine VL_arg 4 hk hL dL_law_876 dL_law_877 dL_law_878 dL_law_879 dL_law_880 ?_
  refine VL_arg 5 hk hL dL_law_881 dL_law_882 dL_law_883 dL_law_884 dL_law_885 ?_
  refine VE_cVi [vI (xs (k + 1)), vI (xs (k + 2)), vI (xs (k + 3)), vI (xs (k + 4)), vI (xs (k + 5))] dL_law_886 ml_L_84 (st_copy (d := 0) _ _ _ _ _ hR) (fun r1 σ1 h1 => ?_) (rokL (by decide))
  refine VE_aload_n 1 dL_law_889 (k := ?_)
  refine VL_arg 1 hk hL dL_law_890 dL_law_891 dL_law_892 dL_law_893 dL_law_894 ?_
  refine VL_arg 2 hk hL dL_law_895 dL_law_896 dL_law_897 dL_law_898 dL_law_899 ?_
  refine VL_arg 3 hk hL dL_law_900 dL_law_901 dL_law_902 dL_law_903 dL_law_904 ?_
  refine VL_arg 4 hk hL dL_law_905 dL_law_906 dL_law_907 dL_law_908 dL_law_909 ?_
  refine VL_arg 5 hk hL dL_law_910 dL_law_911 dL_law_912 dL_law_913 dL_law_914 ?_
  refine VE_cVi [vI (xs (k + 1)), vI (xs (k + 2)), vI (xs (k + 3)), vI (xs (k + 4)), vI (xs (k + 5))] dL_law_915 ml_L_87 h1 (fun r2 σ2 h2 => ?_) (rokL (by decide))
  exact VE_icmp_eq 1051 dL_law_918 (fun _ => next σ2 h2.2) (fun hn => absurd h2.1 hn)
theorem lc_tell (hk : k + 6 ≤ L) (hL : L ≤ 3072) (hR : Rel σ) (next : ∀ σ2 : St, Rel σ2 → VL g L xs 1051 (lsL k) [] σ2) : VL g L xs 923 (lsL k) [] σ := by
  refine VE_aload_n 2 dL_law_923 (k := ?_)
  refine VL_arg 1 hk hL dL_law_924 dL_law_925 dL_law_926 dL_law_927 dL_law_928 ?_
  refine VE_cVi [vI (xs (k + 1))] dL_law_929 ml_L_88 (st_tell (d := 0) _ hR) (fun r1 σ1 h1 => ?_) (rokL (by decide))
  refine VE_aload_n 1 dL_law_932 (k := ?_)
  refine VL_arg 1 hk hL dL_law_933 dL_law_934 dL_law_935 dL_law_936 dL_law_937 ?_
  refine VE_cVi [vI (xs (k + 1))] dL_law_938 ml_L_91 h1 (fun r2 σ2 h2 => ?_) (rokL (by decide))
  exact VE_icmp_eq 1051 dL_law_941 (fun _ => next σ2 h2.2) (fun hn => absurd h2.1 hn)
theorem lc_greet (hk : k + 6 ≤ L) (hL : L ≤ 3072) (hR : Rel σ) (next : ∀ σ2 : St, Rel σ2 → VL g L xs 1051 (lsL k) [] σ2) : VL g L xs 946 (lsL k) [] σ := by
  refine VE_aload_n 2 dL_law_946 (k := ?_)
  refine VL_arg 1 hk hL dL_law_947 dL_law_948 dL_law_949 dL_law_950 dL_law_951 ?_
  refine VE_cVi [vI (xs (k + 1))] dL_law_952 ml_L_92 (st_greet (d := 0) _ hR) (fun r1 σ1 h1 => ?_) (rokL (by decide))
  refine VE_aload_n 1 dL_law_955 (k := ?_)
  refine VL_arg 1 hk hL dL_law_956 dL_law_957 dL_law_958 dL_law_959 dL_law_960 ?_
  refine VE_cVi [vI (xs (k + 1))] dL_law_961 ml_L_95 h1 (fun r2 σ2 h2 => ?_) (rokL (by decide))
  exact VE_icmp_eq 1051 dL_law_964 (fun _ => next σ2 h2.2) (fun hn => absurd h2.1 hn)
theorem lc_as (hk : k + 6 ≤ L) (hL : L ≤ 3072) (hR : Rel σ) (next : ∀ σ2 : St, Rel σ2 → VL g L xs 1051 (lsL k) [] σ2) : VL g L xs 969 (lsL k) [] σ := by
  refine VE_aload_n 2 dL_law_969 (k := ?_)
  refine VL_arg 1 hk hL dL_law_970 dL_law_971 dL_law_972 dL_law_973 dL_law_974 ?_
  refine VL_arg 2 hk hL dL_law_975 dL_law_976 dL_law_977 dL_law_978 dL_law_979 ?_
  refine VE_cVi [vI (xs (k + 1)), vI (xs (k + 2))] dL_law_980 ml_L_96 (st_as (d := 0) _ _ hR) (fun r1 σ1 h1 => ?_) (rokL (by decide))
  refine VE_aload_n 1 dL_law_983 (k := ?_)
  refine VL_arg 1 hk hL dL_law_984 dL_law_985 dL_law_986 dL_law_987 dL_law_988 ?_
  refine VL_arg 2 hk hL dL_law_989 dL_law_990 dL_law_991 dL_law_992 dL_law_993 ?_
  refine VE_cVi [vI (xs (k + 1)), vI (xs (k + 2))] dL_law_994 ml_L_99 h1 (fun r2 σ2 h2 => ?_) (rokL (by decide))
  exact VE_icmp_eq 1051 dL_law_997 (fun _ => next σ2 h2.2) (fun hn => absurd h2.1 hn)
theorem lc_trace (hk : k + 6 ≤ L) (hL : L ≤ 3072) (hR : Rel σ) (next : ∀ σ2 : St, Rel σ2 → VL g L xs 1051 (lsL k) [] σ2) : VL g L xs 1002 (lsL k) [] σ := by
  refine VE_aload_n 2 dL_law_1002 (k := ?_)
  refine VE_cVi [] dL_law_1003 ml_L_100 (st_trace (d := 0) hR) (fun r1 σ1 h1 => ?_) (rokL (by decide))
  refine VE_aload_n 1 dL_law_1006 (k := ?_)
  refine VE_cVi [] dL_law_1007 ml_L_104 h1 (fun r2 σ2 h2 => ?_) (rokL (by decide))
  exact VE_icmp_eq 1051 dL_law_1010 (fun _ => next σ2 h2.2) (fun hn => absurd h2.1 hn)
theorem lc_fault (hk : k + 6 ≤ L) (hL : L ≤ 3072) (hR : Rel σ) (next : ∀ σ2 : St, Rel σ2 → VL g L xs 1051 (lsL k) [] σ2) : VL g L xs 1015 (lsL k) [] σ := by
  refine VE_aload_n 2 dL_law_1015 (k := ?_)
  refine VE_cVi [] dL_law_1016 ml_L_105 (st_fault (d := 0) hR) (fun r1 σ1 h1 => ?_) (rokL (by decide))
  refine VE_aload_n 1 dL_law_1019 (k := ?_)
  refine VE_cVi [] dL_law_1020 ml_L_108 h1 (fun r2 σ2 h2 => ?_) (rokL (by decide))
  exact VE_icmp_eq 1051 dL_law_1023 (fun _ => next σ2 h2.2) (fun hn => absurd h2.1 hn)
theorem lc_many (hk : k + 6 ≤ L) (hL : L ≤ 3072) (hR : Rel σ) (next : ∀ σ2 : St, Rel σ2 → VL g L xs 1051 (lsL k) [] σ2) : VL g L xs 1028 (lsL k) [] σ := by
  refine VE_aload_n 2 dL_law_1028 (k := ?_)
  refine VL_arg 1 hk hL dL_law_1029 dL_law_1030 dL_law_1031 dL_law_1032 dL_law_1033 ?_
  refine VE_cVi [vI (xs (k + 1))] dL_law_1034 ml_L_109 (st_many (d := 0) _ hR) (fun r1 σ1 h1 => ?_) (rokL (by decide))
  refine VE_aload_n 1 dL_law_1037 (k := ?_)
  refine VL_arg 1 hk hL dL_law_1038 dL_law_1039 dL_law_1040 dL_law_1041 dL_law_1042 ?_
  refine VE_cVi [vI (xs (k + 1))] dL_law_1043 ml_L_112 h1 (fun r2 σ2 h2 => ?_) (rokL (by decide))
  exact VE_icmp_eq 1051 dL_law_1046 (fun _ => next σ2 h2.2) (fun hn => absurd h2.1 hn)
end CASES
