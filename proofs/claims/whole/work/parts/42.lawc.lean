noncomputable def q0 (a1 a2 a3 a4 a5 : Int32) (u : gS × gS) : Option ((gS × gS) ⊕ Int32) := bn2 (pX10_feed a1 a2 a3 a4 a5 u.1) (fun v1 s1 => bn2 (pX11_feed a1 a2 a3 a4 a5 u.2) (fun v2 s2 => if v1 = v2 then some (.inl (s1, s2)) else some (.inr 0)))
set_option maxRecDepth 100000 in
theorem lc_0 {G : gG} {l : Launch} {B L : Nat} {xs : Nat → Int32} {x0 m0 n : Nat} {u : gS × gS} (hn : n + 6 ≤ L) (hL : L ≤ 3072) : LF G l B L xs x0 m0 (kJ G l B L xs x0 m0 1881 n) 212 (lw_lv B x0 m0 n) [] u (q0 (xs (n + 1)) (xs (n + 2)) (xs (n + 3)) (xs (n + 4)) (xs (n + 5)) u) := by
  unfold q0
  refine l_aload (p9 := 213) 1 dL_law_212 rfl rfl rfl ?_
  refine l_arg (kv := 1) (p9 := 218) dL_law_213 dL_law_214 dL_law_215 dL_law_216 dL_law_217 rfl (by decide) hn hL ?_
  refine l_arg (kv := 2) (p9 := 223) dL_law_218 dL_law_219 dL_law_220 dL_law_221 dL_law_222 rfl (by decide) hn hL ?_
  refine l_arg (kv := 3) (p9 := 228) dL_law_223 dL_law_224 dL_law_225 dL_law_226 dL_law_227 rfl (by decide) hn hL ?_
  refine l_arg (kv := 4) (p9 := 233) dL_law_228 dL_law_229 dL_law_230 dL_law_231 dL_law_232 rfl (by decide) hn hL ?_
  refine l_arg (kv := 5) (p9 := 238) dL_law_233 dL_law_234 dL_law_235 dL_law_236 dL_law_237 rfl (by decide) hn hL ?_
  refine l_callC (p9 := 241) (As := [.int (xs (n + 1)), .int (xs (n + 2)), .int (xs (n + 3)), .int (xs (n + 4)), .int (xs (n + 5))]) (st := []) cn_X10_feed cwL_13 rfl dL_law_238 rfl (Nat.le_of_ble_eq_true rfl) ⟨by decide, by decide⟩ rfl rfl (lkC_I (fun v1 s1 => ?_))
  refine l_aload (p9 := 242) 2 dL_law_241 rfl rfl rfl ?_
  refine l_arg (kv := 1) (p9 := 247) dL_law_242 dL_law_243 dL_law_244 dL_law_245 dL_law_246 rfl (by decide) hn hL ?_
  refine l_arg (kv := 2) (p9 := 252) dL_law_247 dL_law_248 dL_law_249 dL_law_250 dL_law_251 rfl (by decide) hn hL ?_
  refine l_arg (kv := 3) (p9 := 257) dL_law_252 dL_law_253 dL_law_254 dL_law_255 dL_law_256 rfl (by decide) hn hL ?_
  refine l_arg (kv := 4) (p9 := 262) dL_law_257 dL_law_258 dL_law_259 dL_law_260 dL_law_261 rfl (by decide) hn hL ?_
  refine l_arg (kv := 5) (p9 := 267) dL_law_262 dL_law_263 dL_law_264 dL_law_265 dL_law_266 rfl (by decide) hn hL ?_
  refine l_callR (p9 := 270) (As := [.int (xs (n + 1)), .int (xs (n + 2)), .int (xs (n + 3)), .int (xs (n + 4)), .int (xs (n + 5))]) (st := [.int v1]) cn_X11_feed cwL_17 rfl dL_law_267 rfl (Nat.le_of_ble_eq_true rfl) ⟨by decide, by decide⟩ rfl rfl (lkR_I (fun v2 s2 => ?_))
  exact l_end dL_law_270 dL_law_273 dL_law_274 rfl rfl (by decide)
noncomputable def q1 (a1 a2 a3 a4 a5 : Int32) (u : gS × gS) : Option ((gS × gS) ⊕ Int32) := bn2 (pX10_back a1 u.1) (fun v1 s1 => bn2 (pX11_back a1 u.2) (fun v2 s2 => if v1 = v2 then some (.inl (s1, s2)) else some (.inr 0)))
set_option maxRecDepth 100000 in
theorem lc_1 {G : gG} {l : Launch} {B L : Nat} {xs : Nat → Int32} {x0 m0 n : Nat} {u : gS × gS} (hn : n + 6 ≤ L) (hL : L ≤ 3072) : LF G l B L xs x0 m0 (kJ G l B L xs x0 m0 1881 n) 275 (lw_lv B x0 m0 n) [] u (q1 (xs (n + 1)) (xs (n + 2)) (xs (n + 3)) (xs (n + 4)) (xs (n + 5)) u) := by
  unfold q1
  refine l_aload (p9 := 276) 1 dL_law_275 rfl rfl rfl ?_
  refine l_arg (kv := 1) (p9 := 281) dL_law_276 dL_law_277 dL_law_278 dL_law_279 dL_law_280 rfl (by decide) hn hL ?_
  refine l_callC (p9 := 284) (As := [.int (xs (n + 1))]) (st := []) cn_X10_back cwL_18 rfl dL_law_281 rfl (Nat.le_of_ble_eq_true rfl) ⟨by decide, by decide⟩ rfl rfl (lkC_I (fun v1 s1 => ?_))
  refine l_aload (p9 := 285) 2 dL_law_284 rfl rfl rfl ?_
  refine l_arg (kv := 1) (p9 := 290) dL_law_285 dL_law_286 dL_law_287 dL_law_288 dL_law_289 rfl (by decide) hn hL ?_
  refine l_callR (p9 := 293) (As := [.int (xs (n + 1))]) (st := [.int v1]) cn_X11_back cwL_22 rfl dL_law_290 rfl (Nat.le_of_ble_eq_true rfl) ⟨by decide, by decide⟩ rfl rfl (lkR_I (fun v2 s2 => ?_))
  exact l_end dL_law_293 dL_law_296 dL_law_297 rfl rfl (by decide)
noncomputable def q2 (a1 a2 a3 a4 a5 : Int32) (u : gS × gS) : Option ((gS × gS) ⊕ Int32) := bn2 (pX10_read u.1) (fun v1 s1 => bn2 (pX11_read u.2) (fun v2 s2 => if v1 = v2 then some (.inl (s1, s2)) else some (.inr 0)))
set_option maxRecDepth 100000 in
theorem lc_2 {G : gG} {l : Launch} {B L : Nat} {xs : Nat → Int32} {x0 m0 n : Nat} {u : gS × gS} (hn : n + 6 ≤ L) (hL : L ≤ 3072) : LF G l B L xs x0 m0 (kJ G l B L xs x0 m0 1881 n) 298 (lw_lv B x0 m0 n) [] u (q2 (xs (n + 1)) (xs (n + 2)) (xs (n + 3)) (xs (n + 4)) (xs (n + 5)) u) := by
  unfold q2
  refine l_aload (p9 := 299) 1 dL_law_298 rfl rfl rfl ?_
  refine l_callC (p9 := 302) (As := []) (st := []) cn_X10_read cwL_23 rfl dL_law_299 rfl (Nat.le_of_ble_eq_true rfl) ⟨by decide, by decide⟩ rfl rfl (lkC_I (fun v1 s1 => ?_))
  refine l_aload (p9 := 303) 2 dL_law_302 rfl rfl rfl ?_
  refine l_callR (p9 := 306) (As := []) (st := [.int v1]) cn_X11_read cwL_27 rfl dL_law_303 rfl (Nat.le_of_ble_eq_true rfl) ⟨by decide, by decide⟩ rfl rfl (lkR_I (fun v2 s2 => ?_))
  exact l_end dL_law_306 dL_law_309 dL_law_310 rfl rfl (by decide)
noncomputable def q3 (a1 a2 a3 a4 a5 : Int32) (u : gS × gS) : Option ((gS × gS) ⊕ Int32) := bn1 (pX10_place u.1) (fun v1 => bn1 (pX11_place u.2) (fun v2 => if v1 = v2 then some (.inl (u.1, u.2)) else some (.inr 0)))
set_option maxRecDepth 100000 in
theorem lc_3 {G : gG} {l : Launch} {B L : Nat} {xs : Nat → Int32} {x0 m0 n : Nat} {u : gS × gS} (hn : n + 6 ≤ L) (hL : L ≤ 3072) : LF G l B L xs x0 m0 (kJ G l B L xs x0 m0 1881 n) 311 (lw_lv B x0 m0 n) [] u (q3 (xs (n + 1)) (xs (n + 2)) (xs (n + 3)) (xs (n + 4)) (xs (n + 5)) u) := by
  unfold q3
  refine l_aload (p9 := 312) 1 dL_law_311 rfl rfl rfl ?_
  refine l_callC (p9 := 315) (As := []) (st := []) cn_X10_place cwL_28 rfl dL_law_312 rfl (Nat.le_of_ble_eq_true rfl) ⟨by decide, by decide⟩ rfl rfl (lkC_PI (fun v1 => ?_))
  refine l_aload (p9 := 316) 2 dL_law_315 rfl rfl rfl ?_
  refine l_callR (p9 := 319) (As := []) (st := [.int v1]) cn_X11_place cwL_31 rfl dL_law_316 rfl (Nat.le_of_ble_eq_true rfl) ⟨by decide, by decide⟩ rfl rfl (lkR_PI (fun v2 => ?_))
  exact l_end dL_law_319 dL_law_322 dL_law_323 rfl rfl (by decide)
noncomputable def q4 (a1 a2 a3 a4 a5 : Int32) (u : gS × gS) : Option ((gS × gS) ⊕ Int32) := bn2 (pX10_person a1 a2 a3 a4 a5 u.1) (fun v1 s1 => bn2 (pX11_person a1 a2 a3 a4 a5 u.2) (fun v2 s2 => if v1 = v2 then some (.inl (s1, s2)) else some (.inr 0)))
set_option maxRecDepth 100000 in
theorem lc_4 {G : gG} {l : Launch} {B L : Nat} {xs : Nat → Int32} {x0 m0 n : Nat} {u : gS × gS} (hn : n + 6 ≤ L) (hL : L ≤ 3072) : LF G l B L xs x0 m0 (kJ G l B L xs x0 m0 1881 n) 324 (lw_lv B x0 m0 n) [] u (q4 (xs (n + 1)) (xs (n + 2)) (xs (n + 3)) (xs (n + 4)) (xs (n + 5)) u) := by
  unfold q4
  refine l_aload (p9 := 325) 1 dL_law_324 rfl rfl rfl ?_
  refine l_arg (kv := 1) (p9 := 330) dL_law_325 dL_law_326 dL_law_327 dL_law_328 dL_law_329 rfl (by decide) hn hL ?_
  refine l_arg (kv := 2) (p9 := 335) dL_law_330 dL_law_331 dL_law_332 dL_law_333 dL_law_334 rfl (by decide) hn hL ?_
  refine l_arg (kv := 3) (p9 := 340) dL_law_335 dL_law_336 dL_law_337 dL_law_338 dL_law_339 rfl (by decide) hn hL ?_
  refine l_arg (kv := 4) (p9 := 345) dL_law_340 dL_law_341 dL_law_342 dL_law_343 dL_law_344 rfl (by decide) hn hL ?_
  refine l_arg (kv := 5) (p9 := 350) dL_law_345 dL_law_346 dL_law_347 dL_law_348 dL_law_349 rfl (by decide) hn hL ?_
  refine l_callC (p9 := 353) (As := [.int (xs (n + 1)), .int (xs (n + 2)), .int (xs (n + 3)), .int (xs (n + 4)), .int (xs (n + 5))]) (st := []) cn_X10_person cwL_32 rfl dL_law_350 rfl (Nat.le_of_ble_eq_true rfl) ⟨by decide, by decide⟩ rfl rfl (lkC_I (fun v1 s1 => ?_))
  refine l_aload (p9 := 354) 2 dL_law_353 rfl rfl rfl ?_
  refine l_arg (kv := 1) (p9 := 359) dL_law_354 dL_law_355 dL_law_356 dL_law_357 dL_law_358 rfl (by decide) hn hL ?_
  refine l_arg (kv := 2) (p9 := 364) dL_law_359 dL_law_360 dL_law_361 dL_law_362 dL_law_363 rfl (by decide) hn hL ?_
  refine l_arg (kv := 3) (p9 := 369) dL_law_364 dL_law_365 dL_law_366 dL_law_367 dL_law_368 rfl (by decide) hn hL ?_
  refine l_arg (kv := 4) (p9 := 374) dL_law_369 dL_law_370 dL_law_371 dL_law_372 dL_law_373 rfl (by decide) hn hL ?_
  refine l_arg (kv := 5) (p9 := 379) dL_law_374 dL_law_375 dL_law_376 dL_law_377 dL_law_378 rfl (by decide) hn hL ?_
  refine l_callR (p9 := 382) (As := [.int (xs (n + 1)), .int (xs (n + 2)), .int (xs (n + 3)), .int (xs (n + 4)), .int (xs (n + 5))]) (st := [.int v1]) cn_X11_person cwL_35 rfl dL_law_379 rfl (Nat.le_of_ble_eq_true rfl) ⟨by decide, by decide⟩ rfl rfl (lkR_I (fun v2 s2 => ?_))
  exact l_end dL_law_382 dL_law_385 dL_law_386 rfl rfl (by decide)
noncomputable def q5 (a1 a2 a3 a4 a5 : Int32) (u : gS × gS) : Option ((gS × gS) ⊕ Int32) := bn2 (pX10_world a1 a2 a3 u.1) (fun v1 s1 => bn2 (pX11_world a1 a2 a3 u.2) (fun v2 s2 => if v1 = v2 then some (.inl (s1, s2)) else some (.inr 0)))
set_option maxRecDepth 100000 in
theorem lc_5 {G : gG} {l : Launch} {B L : Nat} {xs : Nat → Int32} {x0 m0 n : Nat} {u : gS × gS} (hn : n + 6 ≤ L) (hL : L ≤ 3072) : LF G l B L xs x0 m0 (kJ G l B L xs x0 m0 1881 n) 387 (lw_lv B x0 m0 n) [] u (q5 (xs (n + 1)) (xs (n + 2)) (xs (n + 3)) (xs (n + 4)) (xs (n + 5)) u) := by
  unfold q5
  refine l_aload (p9 := 388) 1 dL_law_387 rfl rfl rfl ?_
  refine l_arg (kv := 1) (p9 := 393) dL_law_388 dL_law_389 dL_law_390 dL_law_391 dL_law_392 rfl (by decide) hn hL ?_
  refine l_arg (kv := 2) (p9 := 398) dL_law_393 dL_law_394 dL_law_395 dL_law_396 dL_law_397 rfl (by decide) hn hL ?_
  refine l_arg (kv := 3) (p9 := 403) dL_law_398 dL_law_399 dL_law_400 dL_law_401 dL_law_402 rfl (by decide) hn hL ?_
  refine l_callC (p9 := 406) (As := [.int (xs (n + 1)), .int (xs (n + 2)), .int (xs (n + 3))]) (st := []) cn_X10_world cwL_36 rfl dL_law_403 rfl (Nat.le_of_ble_eq_true rfl) ⟨by decide, by decide⟩ rfl rfl (lkC_I (fun v1 s1 => ?_))
  refine l_aload (p9 := 407) 2 dL_law_406 rfl rfl rfl ?_
  refine l_arg (kv := 1) (p9 := 412) dL_law_407 dL_law_408 dL_law_409 dL_law_410 dL_law_411 rfl (by decide) hn hL ?_
  refine l_arg (kv := 2) (p9 := 417) dL_law_412 dL_law_413 dL_law_414 dL_law_415 dL_law_416 rfl (by decide) hn hL ?_
  refine l_arg (kv := 3) (p9 := 422) dL_law_417 dL_law_418 dL_law_419 dL_law_420 dL_law_421 rfl (by decide) hn hL ?_
  refine l_callR (p9 := 425) (As := [.int (xs (n + 1)), .int (xs (n + 2)), .int (xs (n + 3))]) (st := [.int v1]) cn_X11_world cwL_40 rfl dL_law_422 rfl (Nat.le_of_ble_eq_true rfl) ⟨by decide, by decide⟩ rfl rfl (lkR_I (fun v2 s2 => ?_))
  exact l_end dL_law_425 dL_law_428 dL_law_429 rfl rfl (by decide)
noncomputable def q6 (a1 a2 a3 a4 a5 : Int32) (u : gS × gS) : Option ((gS × gS) ⊕ Int32) := bn1 (pX10_of a1 a2 u.1) (fun v1 => bn1 (pX11_of a1 a2 u.2) (fun v2 => if v1 = v2 then some (.inl (u.1, u.2)) else some (.inr 0)))
set_option maxRecDepth 100000 in
theorem lc_6 {G : gG} {l : Launch} {B L : Nat} {xs : Nat → Int32} {x0 m0 n : Nat} {u : gS × gS} (hn : n + 6 ≤ L) (hL : L ≤ 3072) : LF G l B L xs x0 m0 (kJ G l B L xs x0 m0 1881 n) 430 (lw_lv B x0 m0 n) [] u (q6 (xs (n + 1)) (xs (n + 2)) (xs (n + 3)) (xs (n + 4)) (xs (n + 5)) u) := by
  unfold q6
  refine l_aload (p9 := 431) 1 dL_law_430 rfl rfl rfl ?_
  refine l_arg (kv := 1) (p9 := 436) dL_law_431 dL_law_432 dL_law_433 dL_law_434 dL_law_435 rfl (by decide) hn hL ?_
  refine l_arg (kv := 2) (p9 := 441) dL_law_436 dL_law_437 dL_law_438 dL_law_439 dL_law_440 rfl (by decide) hn hL ?_
  refine l_callC (p9 := 444) (As := [.int (xs (n + 1)), .int (xs (n + 2))]) (st := []) cn_X10_of cwL_41 rfl dL_law_441 rfl (Nat.le_of_ble_eq_true rfl) ⟨by decide, by decide⟩ rfl rfl (lkC_PI (fun v1 => ?_))
  refine l_aload (p9 := 445) 2 dL_law_444 rfl rfl rfl ?_
  refine l_arg (kv := 1) (p9 := 450) dL_law_445 dL_law_446 dL_law_447 dL_law_448 dL_law_449 rfl (by decide) hn hL ?_
  refine l_arg (kv := 2) (p9 := 455) dL_law_450 dL_law_451 dL_law_452 dL_law_453 dL_law_454 rfl (by decide) hn hL ?_
  refine l_callR (p9 := 458) (As := [.int (xs (n + 1)), .int (xs (n + 2))]) (st := [.int v1]) cn_X11_of cwL_45 rfl dL_law_455 rfl (Nat.le_of_ble_eq_true rfl) ⟨by decide, by decide⟩ rfl rfl (lkR_PI (fun v2 => ?_))
  exact l_end dL_law_458 dL_law_461 dL_law_462 rfl rfl (by decide)
noncomputable def q7 (a1 a2 a3 a4 a5 : Int32) (u : gS × gS) : Option ((gS × gS) ⊕ Int32) := bn2 (pX10_signs a1 a2 u.1) (fun v1 s1 => bn2 (pX11_signs a1 a2 u.2) (fun v2 s2 => if v1 = v2 then some (.inl (s1, s2)) else some (.inr 0)))
set_option maxRecDepth 100000 in
theorem lc_7 {G : gG} {l : Launch} {B L : Nat} {xs : Nat → Int32} {x0 m0 n : Nat} {u : gS × gS} (hn : n + 6 ≤ L) (hL : L ≤ 3072) : LF G l B L xs x0 m0 (kJ G l B L xs x0 m0 1881 n) 463 (lw_lv B x0 m0 n) [] u (q7 (xs (n + 1)) (xs (n + 2)) (xs (n + 3)) (xs (n + 4)) (xs (n + 5)) u) := by
  unfold q7
  refine l_aload (p9 := 464) 1 dL_law_463 rfl rfl rfl ?_
  refine l_arg (kv := 1) (p9 := 469) dL_law_464 dL_law_465 dL_law_466 dL_law_467 dL_law_468 rfl (by decide) hn hL ?_
  refine l_arg (kv := 2) (p9 := 474) dL_law_469 dL_law_470 dL_law_471 dL_law_472 dL_law_473 rfl (by decide) hn hL ?_
  refine l_callC (p9 := 477) (As := [.int (xs (n + 1)), .int (xs (n + 2))]) (st := []) cn_X10_signs cwL_46 rfl dL_law_474 rfl (Nat.le_of_ble_eq_true rfl) ⟨by decide, by decide⟩ rfl rfl (lkC_I (fun v1 s1 => ?_))
  refine l_aload (p9 := 478) 2 dL_law_477 rfl rfl rfl ?_
  refine l_arg (kv := 1) (p9 := 483) dL_law_478 dL_law_479 dL_law_480 dL_law_481 dL_law_482 rfl (by decide) hn hL ?_
  refine l_arg (kv := 2) (p9 := 488) dL_law_483 dL_law_484 dL_law_485 dL_law_486 dL_law_487 rfl (by decide) hn hL ?_
  refine l_callR (p9 := 491) (As := [.int (xs (n + 1)), .int (xs (n + 2))]) (st := [.int v1]) cn_X11_signs cwL_49 rfl dL_law_488 rfl (Nat.le_of_ble_eq_true rfl) ⟨by decide, by decide⟩ rfl rfl (lkR_I (fun v2 s2 => ?_))
  exact l_end dL_law_491 dL_law_494 dL_law_495 rfl rfl (by decide)
noncomputable def q8 (a1 a2 a3 a4 a5 : Int32) (u : gS × gS) : Option ((gS × gS) ⊕ Int32) := bn2 (pX10_rounded a1 a2 u.1) (fun v1 s1 => bn2 (pX11_rounded a1 a2 u.2) (fun v2 s2 => if v1 = v2 then some (.inl (s1, s2)) else some (.inr 0)))
set_option maxRecDepth 100000 in
theorem lc_8 {G : gG} {l : Launch} {B L : Nat} {xs : Nat → Int32} {x0 m0 n : Nat} {u : gS × gS} (hn : n + 6 ≤ L) (hL : L ≤ 3072) : LF G l B L xs x0 m0 (kJ G l B L xs x0 m0 1881 n) 496 (lw_lv B x0 m0 n) [] u (q8 (xs (n + 1)) (xs (n + 2)) (xs (n + 3)) (xs (n + 4)) (xs (n + 5)) u) := by
  unfold q8
  refine l_aload (p9 := 497) 1 dL_law_496 rfl rfl rfl ?_
  refine l_arg (kv := 1) (p9 := 502) dL_law_497 dL_law_498 dL_law_499 dL_law_500 dL_law_501 rfl (by decide) hn hL ?_
  refine l_arg (kv := 2) (p9 := 507) dL_law_502 dL_law_503 dL_law_504 dL_law_505 dL_law_506 rfl (by decide) hn hL ?_
  refine l_callC (p9 := 510) (As := [.int (xs (n + 1)), .int (xs (n + 2))]) (st := []) cn_X10_rounded cwL_50 rfl dL_law_507 rfl (Nat.le_of_ble_eq_true rfl) ⟨by decide, by decide⟩ rfl rfl (lkC_I (fun v1 s1 => ?_))
  refine l_aload (p9 := 511) 2 dL_law_510 rfl rfl rfl ?_
  refine l_arg (kv := 1) (p9 := 516) dL_law_511 dL_law_512 dL_law_513 dL_law_514 dL_law_515 rfl (by decide) hn hL ?_
  refine l_arg (kv := 2) (p9 := 521) dL_law_516 dL_law_517 dL_law_518 dL_law_519 dL_law_520 rfl (by decide) hn hL ?_
  refine l_callR (p9 := 524) (As := [.int (xs (n + 1)), .int (xs (n + 2))]) (st := [.int v1]) cn_X11_rounded cwL_53 rfl dL_law_521 rfl (Nat.le_of_ble_eq_true rfl) ⟨by decide, by decide⟩ rfl rfl (lkR_I (fun v2 s2 => ?_))
  exact l_end dL_law_524 dL_law_527 dL_law_528 rfl rfl (by decide)
noncomputable def q9 (a1 a2 a3 a4 a5 : Int32) (u : gS × gS) : Option ((gS × gS) ⊕ Int32) := bn2 (pX10_moved a1 a2 (bz a3) u.1) (fun v1 s1 => bn2 (pX11_moved a1 a2 (bz a3) u.2) (fun v2 s2 => if v1 = v2 then some (.inl (s1, s2)) else some (.inr 0)))
set_option maxRecDepth 100000 in
theorem lc_9 {G : gG} {l : Launch} {B L : Nat} {xs : Nat → Int32} {x0 m0 n : Nat} {u : gS × gS} (hn : n + 6 ≤ L) (hL : L ≤ 3072) : LF G l B L xs x0 m0 (kJ G l B L xs x0 m0 1881 n) 529 (lw_lv B x0 m0 n) [] u (q9 (xs (n + 1)) (xs (n + 2)) (xs (n + 3)) (xs (n + 4)) (xs (n + 5)) u) := by
  unfold q9
  refine l_aload (p9 := 530) 1 dL_law_529 rfl rfl rfl ?_
  refine l_arg (kv := 1) (p9 := 535) dL_law_530 dL_law_531 dL_law_532 dL_law_533 dL_law_534 rfl (by decide) hn hL ?_
  refine l_arg (kv := 2) (p9 := 540) dL_law_535 dL_law_536 dL_law_537 dL_law_538 dL_law_539 rfl (by decide) hn hL ?_
  refine l_argB (kv := 3) (p9 := 553) dL_law_540 dL_law_541 dL_law_542 dL_law_543 dL_law_544 dL_law_545 dL_law_548 dL_law_549 dL_law_552 rfl (by decide) hn hL ?_
  refine l_callC (p9 := 556) (As := [.int (xs (n + 1)), .int (xs (n + 2)), .int (bz (xs (n + 3)))]) (st := []) cn_X10_moved cwL_54 rfl dL_law_553 rfl (Nat.le_of_ble_eq_true rfl) ⟨by decide, by decide⟩ rfl rfl (lkC_I (fun v1 s1 => ?_))
  refine l_aload (p9 := 557) 2 dL_law_556 rfl rfl rfl ?_
  refine l_arg (kv := 1) (p9 := 562) dL_law_557 dL_law_558 dL_law_559 dL_law_560 dL_law_561 rfl (by decide) hn hL ?_
  refine l_arg (kv := 2) (p9 := 567) dL_law_562 dL_law_563 dL_law_564 dL_law_565 dL_law_566 rfl (by decide) hn hL ?_
  refine l_argB (kv := 3) (p9 := 580) dL_law_567 dL_law_568 dL_law_569 dL_law_570 dL_law_571 dL_law_572 dL_law_575 dL_law_576 dL_law_579 rfl (by decide) hn hL ?_
  refine l_callR (p9 := 583) (As := [.int (xs (n + 1)), .int (xs (n + 2)), .int (bz (xs (n + 3)))]) (st := [.int v1]) cn_X11_moved cwL_58 rfl dL_law_580 rfl (Nat.le_of_ble_eq_true rfl) ⟨by decide, by decide⟩ rfl rfl (lkR_I (fun v2 s2 => ?_))
  exact l_end dL_law_583 dL_law_586 dL_law_587 rfl rfl (by decide)
noncomputable def q10 (a1 a2 a3 a4 a5 : Int32) (u : gS × gS) : Option ((gS × gS) ⊕ Int32) := bn2 (pX10_holds a1 a2 u.1) (fun v1 s1 => bn2 (pX11_holds a1 a2 u.2) (fun v2 s2 => if v1 = v2 then some (.inl (s1, s2)) else some (.inr 0)))
set_option maxRecDepth 100000 in
theorem lc_10 {G : gG} {l : Launch} {B L : Nat} {xs : Nat → Int32} {x0 m0 n : Nat} {u : gS × gS} (hn : n + 6 ≤ L) (hL : L ≤ 3072) : LF G l B L xs x0 m0 (kJ G l B L xs x0 m0 1881 n) 588 (lw_lv B x0 m0 n) [] u (q10 (xs (n + 1)) (xs (n + 2)) (xs (n + 3)) (xs (n + 4)) (xs (n + 5)) u) := by
  unfold q10
  refine l_aload (p9 := 589) 1 dL_law_588 rfl rfl rfl ?_
  refine l_arg (kv := 1) (p9 := 594) dL_law_589 dL_law_590 dL_law_591 dL_law_592 dL_law_593 rfl (by decide) hn hL ?_
  refine l_arg (kv := 2) (p9 := 599) dL_law_594 dL_law_595 dL_law_596 dL_law_597 dL_law_598 rfl (by decide) hn hL ?_
  refine l_callC (p9 := 602) (As := [.int (xs (n + 1)), .int (xs (n + 2))]) (st := []) cn_X10_holds cwL_59 rfl dL_law_599 rfl (Nat.le_of_ble_eq_true rfl) ⟨by decide, by decide⟩ rfl rfl (lkC_I (fun v1 s1 => ?_))
  refine l_aload (p9 := 603) 2 dL_law_602 rfl rfl rfl ?_
  refine l_arg (kv := 1) (p9 := 608) dL_law_603 dL_law_604 dL_law_605 dL_law_606 dL_law_607 rfl (by decide) hn hL ?_
  refine l_arg (kv := 2) (p9 := 613) dL_law_608 dL_law_609 dL_law_610 dL_law_611 dL_law_612 rfl (by decide) hn hL ?_
  refine l_callR (p9 := 616) (As := [.int (xs (n + 1)), .int (xs (n + 2))]) (st := [.int v1]) cn_X11_holds cwL_62 rfl dL_law_613 rfl (Nat.le_of_ble_eq_true rfl) ⟨by decide, by decide⟩ rfl rfl (lkR_I (fun v2 s2 => ?_))
  exact l_end dL_law_616 dL_law_619 dL_law_620 rfl rfl (by decide)
noncomputable def q11 (a1 a2 a3 a4 a5 : Int32) (u : gS × gS) : Option ((gS × gS) ⊕ Int32) := bn1 (pX10_sort a1 u.1) (fun v1 => bn1 (pX11_sort a1 u.2) (fun v2 => if v1 = v2 then some (.inl (u.1, u.2)) else some (.inr 0)))
set_option maxRecDepth 100000 in
theorem lc_11 {G : gG} {l : Launch} {B L : Nat} {xs : Nat → Int32} {x0 m0 n : Nat} {u : gS × gS} (hn : n + 6 ≤ L) (hL : L ≤ 3072) : LF G l B L xs x0 m0 (kJ G l B L xs x0 m0 1881 n) 621 (lw_lv B x0 m0 n) [] u (q11 (xs (n + 1)) (xs (n + 2)) (xs (n + 3)) (xs (n + 4)) (xs (n + 5)) u) := by
  unfold q11
  refine l_aload (p9 := 622) 1 dL_law_621 rfl rfl rfl ?_
  refine l_arg (kv := 1) (p9 := 627) dL_law_622 dL_law_623 dL_law_624 dL_law_625 dL_law_626 rfl (by decide) hn hL ?_
  refine l_callC (p9 := 630) (As := [.int (xs (n + 1))]) (st := []) cn_X10_sort cwL_63 rfl dL_law_627 rfl (Nat.le_of_ble_eq_true rfl) ⟨by decide, by decide⟩ rfl rfl (lkC_PI (fun v1 => ?_))
  refine l_aload (p9 := 631) 2 dL_law_630 rfl rfl rfl ?_
  refine l_arg (kv := 1) (p9 := 636) dL_law_631 dL_law_632 dL_law_633 dL_law_634 dL_law_635 rfl (by decide) hn hL ?_
  refine l_callR (p9 := 639) (As := [.int (xs (n + 1))]) (st := [.int v1]) cn_X11_sort cwL_66 rfl dL_law_636 rfl (Nat.le_of_ble_eq_true rfl) ⟨by decide, by decide⟩ rfl rfl (lkR_PI (fun v2 => ?_))
  exact l_end dL_law_639 dL_law_642 dL_law_643 rfl rfl (by decide)
noncomputable def q12 (a1 a2 a3 a4 a5 : Int32) (u : gS × gS) : Option ((gS × gS) ⊕ Int32) := bn2 (pX10_paper a1 a2 u.1) (fun v1 s1 => bn2 (pX11_paper a1 a2 u.2) (fun v2 s2 => if v1 = v2 then some (.inl (s1, s2)) else some (.inr 0)))
set_option maxRecDepth 100000 in
theorem lc_12 {G : gG} {l : Launch} {B L : Nat} {xs : Nat → Int32} {x0 m0 n : Nat} {u : gS × gS} (hn : n + 6 ≤ L) (hL : L ≤ 3072) : LF G l B L xs x0 m0 (kJ G l B L xs x0 m0 1881 n) 644 (lw_lv B x0 m0 n) [] u (q12 (xs (n + 1)) (xs (n + 2)) (xs (n + 3)) (xs (n + 4)) (xs (n + 5)) u) := by
  unfold q12
  refine l_aload (p9 := 645) 1 dL_law_644 rfl rfl rfl ?_
  refine l_arg (kv := 1) (p9 := 650) dL_law_645 dL_law_646 dL_law_647 dL_law_648 dL_law_649 rfl (by decide) hn hL ?_
  refine l_arg (kv := 2) (p9 := 655) dL_law_650 dL_law_651 dL_law_652 dL_law_653 dL_law_654 rfl (by decide) hn hL ?_
  refine l_callC (p9 := 658) (As := [.int (xs (n + 1)), .int (xs (n + 2))]) (st := []) cn_X10_paper cwL_67 rfl dL_law_655 rfl (Nat.le_of_ble_eq_true rfl) ⟨by decide, by decide⟩ rfl rfl (lkC_I (fun v1 s1 => ?_))
  refine l_aload (p9 := 659) 2 dL_law_658 rfl rfl rfl ?_
  refine l_arg (kv := 1) (p9 := 664) dL_law_659 dL_law_660 dL_law_661 dL_law_662 dL_law_663 rfl (by decide) hn hL ?_
  refine l_arg (kv := 2) (p9 := 669) dL_law_664 dL_law_665 dL_law_666 dL_law_667 dL_law_668 rfl (by decide) hn hL ?_
  refine l_callR (p9 := 672) (As := [.int (xs (n + 1)), .int (xs (n + 2))]) (st := [.int v1]) cn_X11_paper cwL_70 rfl dL_law_669 rfl (Nat.le_of_ble_eq_true rfl) ⟨by decide, by decide⟩ rfl rfl (lkR_I (fun v2 s2 => ?_))
  exact l_end dL_law_672 dL_law_675 dL_law_676 rfl rfl (by decide)
noncomputable def q13 (a1 a2 a3 a4 a5 : Int32) (u : gS × gS) : Option ((gS × gS) ⊕ Int32) := bn2 (pX10_altered a1 a2 u.1) (fun v1 s1 => bn2 (pX11_altered a1 a2 u.2) (fun v2 s2 => if v1 = v2 then some (.inl (s1, s2)) else some (.inr 0)))
set_option maxRecDepth 100000 in
theorem lc_13 {G : gG} {l : Launch} {B L : Nat} {xs : Nat → Int32} {x0 m0 n : Nat} {u : gS × gS} (hn : n + 6 ≤ L) (hL : L ≤ 3072) : LF G l B L xs x0 m0 (kJ G l B L xs x0 m0 1881 n) 677 (lw_lv B x0 m0 n) [] u (q13 (xs (n + 1)) (xs (n + 2)) (xs (n + 3)) (xs (n + 4)) (xs (n + 5)) u) := by
  unfold q13
  refine l_aload (p9 := 678) 1 dL_law_677 rfl rfl rfl ?_
  refine l_arg (kv := 1) (p9 := 683) dL_law_678 dL_law_679 dL_law_680 dL_law_681 dL_law_682 rfl (by decide) hn hL ?_
  refine l_arg (kv := 2) (p9 := 688) dL_law_683 dL_law_684 dL_law_685 dL_law_686 dL_law_687 rfl (by decide) hn hL ?_
  refine l_callC (p9 := 691) (As := [.int (xs (n + 1)), .int (xs (n + 2))]) (st := []) cn_X10_altered cwL_71 rfl dL_law_688 rfl (Nat.le_of_ble_eq_true rfl) ⟨by decide, by decide⟩ rfl rfl (lkC_I (fun v1 s1 => ?_))
  refine l_aload (p9 := 692) 2 dL_law_691 rfl rfl rfl ?_
  refine l_arg (kv := 1) (p9 := 697) dL_law_692 dL_law_693 dL_law_694 dL_law_695 dL_law_696 rfl (by decide) hn hL ?_
  refine l_arg (kv := 2) (p9 := 702) dL_law_697 dL_law_698 dL_law_699 dL_law_700 dL_law_701 rfl (by decide) hn hL ?_
  refine l_callR (p9 := 705) (As := [.int (xs (n + 1)), .int (xs (n + 2))]) (st := [.int v1]) cn_X11_altered cwL_74 rfl dL_law_702 rfl (Nat.le_of_ble_eq_true rfl) ⟨by decide, by decide⟩ rfl rfl (lkR_I (fun v2 s2 => ?_))
  exact l_end dL_law_705 dL_law_708 dL_law_709 rfl rfl (by decide)
noncomputable def q14 (a1 a2 a3 a4 a5 : Int32) (u : gS × gS) : Option ((gS × gS) ⊕ Int32) := bn2 (pX10_truly a1 a2 a3 u.1) (fun v1 s1 => bn2 (pX11_truly a1 a2 a3 u.2) (fun v2 s2 => if v1 = v2 then some (.inl (s1, s2)) else some (.inr 0)))
set_option maxRecDepth 100000 in
theorem lc_14 {G : gG} {l : Launch} {B L : Nat} {xs : Nat → Int32} {x0 m0 n : Nat} {u : gS × gS} (hn : n + 6 ≤ L) (hL : L ≤ 3072) : LF G l B L xs x0 m0 (kJ G l B L xs x0 m0 1881 n) 710 (lw_lv B x0 m0 n) [] u (q14 (xs (n + 1)) (xs (n + 2)) (xs (n + 3)) (xs (n + 4)) (xs (n + 5)) u) := by
  unfold q14
  refine l_aload (p9 := 711) 1 dL_law_710 rfl rfl rfl ?_
  refine l_arg (kv := 1) (p9 := 716) dL_law_711 dL_law_712 dL_law_713 dL_law_714 dL_law_715 rfl (by decide) hn hL ?_
  refine l_arg (kv := 2) (p9 := 721) dL_law_716 dL_law_717 dL_law_718 dL_law_719 dL_law_720 rfl (by decide) hn hL ?_
  refine l_arg (kv := 3) (p9 := 726) dL_law_721 dL_law_722 dL_law_723 dL_law_724 dL_law_725 rfl (by decide) hn hL ?_
  refine l_callC (p9 := 729) (As := [.int (xs (n + 1)), .int (xs (n + 2)), .int (xs (n + 3))]) (st := []) cn_X10_truly cwL_75 rfl dL_law_726 rfl (Nat.le_of_ble_eq_true rfl) ⟨by decide, by decide⟩ rfl rfl (lkC_I (fun v1 s1 => ?_))
  refine l_aload (p9 := 730) 2 dL_law_729 rfl rfl rfl ?_
  refine l_arg (kv := 1) (p9 := 735) dL_law_730 dL_law_731 dL_law_732 dL_law_733 dL_law_734 rfl (by decide) hn hL ?_
  refine l_arg (kv := 2) (p9 := 740) dL_law_735 dL_law_736 dL_law_737 dL_law_738 dL_law_739 rfl (by decide) hn hL ?_
  refine l_arg (kv := 3) (p9 := 745) dL_law_740 dL_law_741 dL_law_742 dL_law_743 dL_law_744 rfl (by decide) hn hL ?_
  refine l_callR (p9 := 748) (As := [.int (xs (n + 1)), .int (xs (n + 2)), .int (xs (n + 3))]) (st := [.int v1]) cn_X11_truly cwL_78 rfl dL_law_745 rfl (Nat.le_of_ble_eq_true rfl) ⟨by decide, by decide⟩ rfl rfl (lkR_I (fun v2 s2 => ?_))
  exact l_end dL_law_748 dL_law_751 dL_law_752 rfl rfl (by decide)
noncomputable def q15 (a1 a2 a3 a4 a5 : Int32) (u : gS × gS) : Option ((gS × gS) ⊕ Int32) := bn2 (pX10_left a1 a2 a3 u.1) (fun v1 s1 => bn2 (pX11_left a1 a2 a3 u.2) (fun v2 s2 => if v1 = v2 then some (.inl (s1, s2)) else some (.inr 0)))
set_option maxRecDepth 100000 in
theorem lc_15 {G : gG} {l : Launch} {B L : Nat} {xs : Nat → Int32} {x0 m0 n : Nat} {u : gS × gS} (hn : n + 6 ≤ L) (hL : L ≤ 3072) : LF G l B L xs x0 m0 (kJ G l B L xs x0 m0 1881 n) 753 (lw_lv B x0 m0 n) [] u (q15 (xs (n + 1)) (xs (n + 2)) (xs (n + 3)) (xs (n + 4)) (xs (n + 5)) u) := by
  unfold q15
  refine l_aload (p9 := 754) 1 dL_law_753 rfl rfl rfl ?_
  refine l_arg (kv := 1) (p9 := 759) dL_law_754 dL_law_755 dL_law_756 dL_law_757 dL_law_758 rfl (by decide) hn hL ?_
  refine l_arg (kv := 2) (p9 := 764) dL_law_759 dL_law_760 dL_law_761 dL_law_762 dL_law_763 rfl (by decide) hn hL ?_
  refine l_arg (kv := 3) (p9 := 769) dL_law_764 dL_law_765 dL_law_766 dL_law_767 dL_law_768 rfl (by decide) hn hL ?_
  refine l_callC (p9 := 772) (As := [.int (xs (n + 1)), .int (xs (n + 2)), .int (xs (n + 3))]) (st := []) cn_X10_left cwL_79 rfl dL_law_769 rfl (Nat.le_of_ble_eq_true rfl) ⟨by decide, by decide⟩ rfl rfl (lkC_I (fun v1 s1 => ?_))
  refine l_aload (p9 := 773) 2 dL_law_772 rfl rfl rfl ?_
  refine l_arg (kv := 1) (p9 := 778) dL_law_773 dL_law_774 dL_law_775 dL_law_776 dL_law_777 rfl (by decide) hn hL ?_
  refine l_arg (kv := 2) (p9 := 783) dL_law_778 dL_law_779 dL_law_780 dL_law_781 dL_law_782 rfl (by decide) hn hL ?_
  refine l_arg (kv := 3) (p9 := 788) dL_law_783 dL_law_784 dL_law_785 dL_law_786 dL_law_787 rfl (by decide) hn hL ?_
  refine l_callR (p9 := 791) (As := [.int (xs (n + 1)), .int (xs (n + 2)), .int (xs (n + 3))]) (st := [.int v1]) cn_X11_left cwL_82 rfl dL_law_788 rfl (Nat.le_of_ble_eq_true rfl) ⟨by decide, by decide⟩ rfl rfl (lkR_I (fun v2 s2 => ?_))
  exact l_end dL_law_791 dL_law_794 dL_law_795 rfl rfl (by decide)
noncomputable def q16 (a1 a2 a3 a4 a5 : Int32) (u : gS × gS) : Option ((gS × gS) ⊕ Int32) := bn2 (pX10_fit a1 a2 a3 a4 a5 u.1) (fun v1 s1 => bn2 (pX11_fit a1 a2 a3 a4 a5 u.2) (fun v2 s2 => if v1 = v2 then some (.inl (s1, s2)) else some (.inr 0)))
set_option maxRecDepth 100000 in
theorem lc_16 {G : gG} {l : Launch} {B L : Nat} {xs : Nat → Int32} {x0 m0 n : Nat} {u : gS × gS} (hn : n + 6 ≤ L) (hL : L ≤ 3072) : LF G l B L xs x0 m0 (kJ G l B L xs x0 m0 1881 n) 796 (lw_lv B x0 m0 n) [] u (q16 (xs (n + 1)) (xs (n + 2)) (xs (n + 3)) (xs (n + 4)) (xs (n + 5)) u) := by
  unfold q16
  refine l_aload (p9 := 797) 1 dL_law_796 rfl rfl rfl ?_
  refine l_arg (kv := 1) (p9 := 802) dL_law_797 dL_law_798 dL_law_799 dL_law_800 dL_law_801 rfl (by decide) hn hL ?_
  refine l_arg (kv := 2) (p9 := 807) dL_law_802 dL_law_803 dL_law_804 dL_law_805 dL_law_806 rfl (by decide) hn hL ?_
  refine l_arg (kv := 3) (p9 := 812) dL_law_807 dL_law_808 dL_law_809 dL_law_810 dL_law_811 rfl (by decide) hn hL ?_
  refine l_arg (kv := 4) (p9 := 817) dL_law_812 dL_law_813 dL_law_814 dL_law_815 dL_law_816 rfl (by decide) hn hL ?_
  refine l_arg (kv := 5) (p9 := 822) dL_law_817 dL_law_818 dL_law_819 dL_law_820 dL_law_821 rfl (by decide) hn hL ?_
  refine l_callC (p9 := 825) (As := [.int (xs (n + 1)), .int (xs (n + 2)), .int (xs (n + 3)), .int (xs (n + 4)), .int (xs (n + 5))]) (st := []) cn_X10_fit cwL_83 rfl dL_law_822 rfl (Nat.le_of_ble_eq_true rfl) ⟨by decide, by decide⟩ rfl rfl (lkC_I (fun v1 s1 => ?_))
  refine l_aload (p9 := 826) 2 dL_law_825 rfl rfl rfl ?_
  refine l_arg (kv := 1) (p9 := 831) dL_law_826 dL_law_827 dL_law_828 dL_law_829 dL_law_830 rfl (by decide) hn hL ?_
  refine l_arg (kv := 2) (p9 := 836) dL_law_831 dL_law_832 dL_law_833 dL_law_834 dL_law_835 rfl (by decide) hn hL ?_
  refine l_arg (kv := 3) (p9 := 841) dL_law_836 dL_law_837 dL_law_838 dL_law_839 dL_law_840 rfl (by decide) hn hL ?_
  refine l_arg (kv := 4) (p9 := 846) dL_law_841 dL_law_842 dL_law_843 dL_law_844 dL_law_845 rfl (by decide) hn hL ?_
  refine l_arg (kv := 5) (p9 := 851) dL_law_846 dL_law_847 dL_law_848 dL_law_849 dL_law_850 rfl (by decide) hn hL ?_
  refine l_callR (p9 := 854) (As := [.int (xs (n + 1)), .int (xs (n + 2)), .int (xs (n + 3)), .int (xs (n + 4)), .int (xs (n + 5))]) (st := [.int v1]) cn_X11_fit cwL_86 rfl dL_law_851 rfl (Nat.le_of_ble_eq_true rfl) ⟨by decide, by decide⟩ rfl rfl (lkR_I (fun v2 s2 => ?_))
  exact l_end dL_law_854 dL_law_857 dL_law_858 rfl rfl (by decide)
noncomputable def q17 (a1 a2 a3 a4 a5 : Int32) (u : gS × gS) : Option ((gS × gS) ⊕ Int32) := bn2 (pX10_choose a1 a2 a3 a4 a5 u.1) (fun v1 s1 => bn2 (pX11_choose a1 a2 a3 a4 a5 u.2) (fun v2 s2 => if v1 = v2 then some (.inl (s1, s2)) else some (.inr 0)))
set_option maxRecDepth 100000 in
theorem lc_17 {G : gG} {l : Launch} {B L : Nat} {xs : Nat → Int32} {x0 m0 n : Nat} {u : gS × gS} (hn : n + 6 ≤ L) (hL : L ≤ 3072) : LF G l B L xs x0 m0 (kJ G l B L xs x0 m0 1881 n) 859 (lw_lv B x0 m0 n) [] u (q17 (xs (n + 1)) (xs (n + 2)) (xs (n + 3)) (xs (n + 4)) (xs (n + 5)) u) := by
  unfold q17
  refine l_aload (p9 := 860) 1 dL_law_859 rfl rfl rfl ?_
  refine l_arg (kv := 1) (p9 := 865) dL_law_860 dL_law_861 dL_law_862 dL_law_863 dL_law_864 rfl (by decide) hn hL ?_
  refine l_arg (kv := 2) (p9 := 870) dL_law_865 dL_law_866 dL_law_867 dL_law_868 dL_law_869 rfl (by decide) hn hL ?_
  refine l_arg (kv := 3) (p9 := 875) dL_law_870 dL_law_871 dL_law_872 dL_law_873 dL_law_874 rfl (by decide) hn hL ?_
  refine l_arg (kv := 4) (p9 := 880) dL_law_875 dL_law_876 dL_law_877 dL_law_878 dL_law_879 rfl (by decide) hn hL ?_
  refine l_arg (kv := 5) (p9 := 885) dL_law_880 dL_law_881 dL_law_882 dL_law_883 dL_law_884 rfl (by decide) hn hL ?_
  refine l_callC (p9 := 888) (As := [.int (xs (n + 1)), .int (xs (n + 2)), .int (xs (n + 3)), .int (xs (n + 4)), .int (xs (n + 5))]) (st := []) cn_X10_choose cwL_87 rfl dL_law_885 rfl (Nat.le_of_ble_eq_true rfl) ⟨by decide, by decide⟩ rfl rfl (lkC_I (fun v1 s1 => ?_))
  refine l_aload (p9 := 889) 2 dL_law_888 rfl rfl rfl ?_
  refine l_arg (kv := 1) (p9 := 894) dL_law_889 dL_law_890 dL_law_891 dL_law_892 dL_law_893 rfl (by decide) hn hL ?_
  refine l_arg (kv := 2) (p9 := 899) dL_law_894 dL_law_895 dL_law_896 dL_law_897 dL_law_898 rfl (by decide) hn hL ?_
  refine l_arg (kv := 3) (p9 := 904) dL_law_899 dL_law_900 dL_law_901 dL_law_902 dL_law_903 rfl (by decide) hn hL ?_
  refine l_arg (kv := 4) (p9 := 909) dL_law_904 dL_law_905 dL_law_906 dL_law_907 dL_law_908 rfl (by decide) hn hL ?_
  refine l_arg (kv := 5) (p9 := 914) dL_law_909 dL_law_910 dL_law_911 dL_law_912 dL_law_913 rfl (by decide) hn hL ?_
  refine l_callR (p9 := 917) (As := [.int (xs (n + 1)), .int (xs (n + 2)), .int (xs (n + 3)), .int (xs (n + 4)), .int (xs (n + 5))]) (st := [.int v1]) cn_X11_choose cwL_90 rfl dL_law_914 rfl (Nat.le_of_ble_eq_true rfl) ⟨by decide, by decide⟩ rfl rfl (lkR_I (fun v2 s2 => ?_))
  exact l_end dL_law_917 dL_law_920 dL_law_921 rfl rfl (by decide)
noncomputable def q18 (a1 a2 a3 a4 a5 : Int32) (u : gS × gS) : Option ((gS × gS) ⊕ Int32) := bn2 (pX10_trial a1 a2 a3 u.1) (fun v1 s1 => bn2 (pX11_trial a1 a2 a3 u.2) (fun v2 s2 => if v1 = v2 then some (.inl (s1, s2)) else some (.inr 0)))
set_option maxRecDepth 100000 in
theorem lc_18 {G : gG} {l : Launch} {B L : Nat} {xs : Nat → Int32} {x0 m0 n : Nat} {u : gS × gS} (hn : n + 6 ≤ L) (hL : L ≤ 3072) : LF G l B L xs x0 m0 (kJ G l B L xs x0 m0 1881 n) 922 (lw_lv B x0 m0 n) [] u (q18 (xs (n + 1)) (xs (n + 2)) (xs (n + 3)) (xs (n + 4)) (xs (n + 5)) u) := by
  unfold q18
  refine l_aload (p9 := 923) 1 dL_law_922 rfl rfl rfl ?_
  refine l_arg (kv := 1) (p9 := 928) dL_law_923 dL_law_924 dL_law_925 dL_law_926 dL_law_927 rfl (by decide) hn hL ?_
  refine l_arg (kv := 2) (p9 := 933) dL_law_928 dL_law_929 dL_law_930 dL_law_931 dL_law_932 rfl (by decide) hn hL ?_
  refine l_arg (kv := 3) (p9 := 938) dL_law_933 dL_law_934 dL_law_935 dL_law_936 dL_law_937 rfl (by decide) hn hL ?_
  refine l_callC (p9 := 941) (As := [.int (xs (n + 1)), .int (xs (n + 2)), .int (xs (n + 3))]) (st := []) cn_X10_trial cwL_91 rfl dL_law_938 rfl (Nat.le_of_ble_eq_true rfl) ⟨by decide, by decide⟩ rfl rfl (lkC_I (fun v1 s1 => ?_))
  refine l_aload (p9 := 942) 2 dL_law_941 rfl rfl rfl ?_
  refine l_arg (kv := 1) (p9 := 947) dL_law_942 dL_law_943 dL_law_944 dL_law_945 dL_law_946 rfl (by decide) hn hL ?_
  refine l_arg (kv := 2) (p9 := 952) dL_law_947 dL_law_948 dL_law_949 dL_law_950 dL_law_951 rfl (by decide) hn hL ?_
  refine l_arg (kv := 3) (p9 := 957) dL_law_952 dL_law_953 dL_law_954 dL_law_955 dL_law_956 rfl (by decide) hn hL ?_
  refine l_callR (p9 := 960) (As := [.int (xs (n + 1)), .int (xs (n + 2)), .int (xs (n + 3))]) (st := [.int v1]) cn_X11_trial cwL_94 rfl dL_law_957 rfl (Nat.le_of_ble_eq_true rfl) ⟨by decide, by decide⟩ rfl rfl (lkR_I (fun v2 s2 => ?_))
  exact l_end dL_law_960 dL_law_963 dL_law_964 rfl rfl (by decide)
noncomputable def q19 (a1 a2 a3 a4 a5 : Int32) (u : gS × gS) : Option ((gS × gS) ⊕ Int32) := bn1 (pX10_given a1 a2 a3 u.1) (fun v1 => bn1 (pX11_given a1 a2 a3 u.2) (fun v2 => if v1 = v2 then some (.inl (u.1, u.2)) else some (.inr 0)))
set_option maxRecDepth 100000 in
theorem lc_19 {G : gG} {l : Launch} {B L : Nat} {xs : Nat → Int32} {x0 m0 n : Nat} {u : gS × gS} (hn : n + 6 ≤ L) (hL : L ≤ 3072) : LF G l B L xs x0 m0 (kJ G l B L xs x0 m0 1881 n) 965 (lw_lv B x0 m0 n) [] u (q19 (xs (n + 1)) (xs (n + 2)) (xs (n + 3)) (xs (n + 4)) (xs (n + 5)) u) := by
  unfold q19
  refine l_aload (p9 := 966) 1 dL_law_965 rfl rfl rfl ?_
  refine l_arg (kv := 1) (p9 := 971) dL_law_966 dL_law_967 dL_law_968 dL_law_969 dL_law_970 rfl (by decide) hn hL ?_
  refine l_arg (kv := 2) (p9 := 976) dL_law_971 dL_law_972 dL_law_973 dL_law_974 dL_law_975 rfl (by decide) hn hL ?_
  refine l_arg (kv := 3) (p9 := 981) dL_law_976 dL_law_977 dL_law_978 dL_law_979 dL_law_980 rfl (by decide) hn hL ?_
  refine l_callC (p9 := 984) (As := [.int (xs (n + 1)), .int (xs (n + 2)), .int (xs (n + 3))]) (st := []) cn_X10_given cwL_95 rfl dL_law_981 rfl (Nat.le_of_ble_eq_true rfl) ⟨by decide, by decide⟩ rfl rfl (lkC_PI (fun v1 => ?_))
  refine l_aload (p9 := 985) 2 dL_law_984 rfl rfl rfl ?_
  refine l_arg (kv := 1) (p9 := 990) dL_law_985 dL_law_986 dL_law_987 dL_law_988 dL_law_989 rfl (by decide) hn hL ?_
  refine l_arg (kv := 2) (p9 := 995) dL_law_990 dL_law_991 dL_law_992 dL_law_993 dL_law_994 rfl (by decide) hn hL ?_
  refine l_arg (kv := 3) (p9 := 1000) dL_law_995 dL_law_996 dL_law_997 dL_law_998 dL_law_999 rfl (by decide) hn hL ?_
  refine l_callR (p9 := 1003) (As := [.int (xs (n + 1)), .int (xs (n + 2)), .int (xs (n + 3))]) (st := [.int v1]) cn_X11_given cwL_98 rfl dL_law_1000 rfl (Nat.le_of_ble_eq_true rfl) ⟨by decide, by decide⟩ rfl rfl (lkR_PI (fun v2 => ?_))
  exact l_end dL_law_1003 dL_law_1006 dL_law_1007 rfl rfl (by decide)
noncomputable def q20 (a1 a2 a3 a4 a5 : Int32) (u : gS × gS) : Option ((gS × gS) ⊕ Int32) := bn2 (pX10_whole a1 a2 u.1) (fun v1 s1 => bn2 (pX11_whole a1 a2 u.2) (fun v2 s2 => if v1 = v2 then some (.inl (s1, s2)) else some (.inr 0)))
set_option maxRecDepth 100000 in
theorem lc_20 {G : gG} {l : Launch} {B L : Nat} {xs : Nat → Int32} {x0 m0 n : Nat} {u : gS × gS} (hn : n + 6 ≤ L) (hL : L ≤ 3072) : LF G l B L xs x0 m0 (kJ G l B L xs x0 m0 1881 n) 1008 (lw_lv B x0 m0 n) [] u (q20 (xs (n + 1)) (xs (n + 2)) (xs (n + 3)) (xs (n + 4)) (xs (n + 5)) u) := by
  unfold q20
  refine l_aload (p9 := 1009) 1 dL_law_1008 rfl rfl rfl ?_
  refine l_arg (kv := 1) (p9 := 1014) dL_law_1009 dL_law_1010 dL_law_1011 dL_law_1012 dL_law_1013 rfl (by decide) hn hL ?_
  refine l_arg (kv := 2) (p9 := 1019) dL_law_1014 dL_law_1015 dL_law_1016 dL_law_1017 dL_law_1018 rfl (by decide) hn hL ?_
  refine l_callC (p9 := 1022) (As := [.int (xs (n + 1)), .int (xs (n + 2))]) (st := []) cn_X10_whole cwL_99 rfl dL_law_1019 rfl (Nat.le_of_ble_eq_true rfl) ⟨by decide, by decide⟩ rfl rfl (lkC_I (fun v1 s1 => ?_))
  refine l_aload (p9 := 1023) 2 dL_law_1022 rfl rfl rfl ?_
  refine l_arg (kv := 1) (p9 := 1028) dL_law_1023 dL_law_1024 dL_law_1025 dL_law_1026 dL_law_1027 rfl (by decide) hn hL ?_
  refine l_arg (kv := 2) (p9 := 1033) dL_law_1028 dL_law_1029 dL_law_1030 dL_law_1031 dL_law_1032 rfl (by decide) hn hL ?_
  refine l_callR (p9 := 1036) (As := [.int (xs (n + 1)), .int (xs (n + 2))]) (st := [.int v1]) cn_X11_whole cwL_102 rfl dL_law_1033 rfl (Nat.le_of_ble_eq_true rfl) ⟨by decide, by decide⟩ rfl rfl (lkR_I (fun v2 s2 => ?_))
  exact l_end dL_law_1036 dL_law_1039 dL_law_1040 rfl rfl (by decide)
noncomputable def q21 (a1 a2 a3 a4 a5 : Int32) (u : gS × gS) : Option ((gS × gS) ⊕ Int32) := bn2 (pX10_pleased a1 a2 a3 (bz a4) u.1) (fun v1 s1 => bn2 (pX11_pleased a1 a2 a3 (bz a4) u.2) (fun v2 s2 => if v1 = v2 then some (.inl (s1, s2)) else some (.inr 0)))
set_option maxRecDepth 100000 in
theorem lc_21 {G : gG} {l : Launch} {B L : Nat} {xs : Nat → Int32} {x0 m0 n : Nat} {u : gS × gS} (hn : n + 6 ≤ L) (hL : L ≤ 3072) : LF G l B L xs x0 m0 (kJ G l B L xs x0 m0 1881 n) 1041 (lw_lv B x0 m0 n) [] u (q21 (xs (n + 1)) (xs (n + 2)) (xs (n + 3)) (xs (n + 4)) (xs (n + 5)) u) := by
  unfold q21
  refine l_aload (p9 := 1042) 1 dL_law_1041 rfl rfl rfl ?_
  refine l_arg (kv := 1) (p9 := 1047) dL_law_1042 dL_law_1043 dL_law_1044 dL_law_1045 dL_law_1046 rfl (by decide) hn hL ?_
  refine l_arg (kv := 2) (p9 := 1052) dL_law_1047 dL_law_1048 dL_law_1049 dL_law_1050 dL_law_1051 rfl (by decide) hn hL ?_
  refine l_arg (kv := 3) (p9 := 1057) dL_law_1052 dL_law_1053 dL_law_1054 dL_law_1055 dL_law_1056 rfl (by decide) hn hL ?_
  refine l_argB (kv := 4) (p9 := 1070) dL_law_1057 dL_law_1058 dL_law_1059 dL_law_1060 dL_law_1061 dL_law_1062 dL_law_1065 dL_law_1066 dL_law_1069 rfl (by decide) hn hL ?_
  refine l_callC (p9 := 1073) (As := [.int (xs (n + 1)), .int (xs (n + 2)), .int (xs (n + 3)), .int (bz (xs (n + 4)))]) (st := []) cn_X10_pleased cwL_103 rfl dL_law_1070 rfl (Nat.le_of_ble_eq_true rfl) ⟨by decide, by decide⟩ rfl rfl (lkC_I (fun v1 s1 => ?_))
  refine l_aload (p9 := 1074) 2 dL_law_1073 rfl rfl rfl ?_
  refine l_arg (kv := 1) (p9 := 1079) dL_law_1074 dL_law_1075 dL_law_1076 dL_law_1077 dL_law_1078 rfl (by decide) hn hL ?_
  refine l_arg (kv := 2) (p9 := 1084) dL_law_1079 dL_law_1080 dL_law_1081 dL_law_1082 dL_law_1083 rfl (by decide) hn hL ?_
  refine l_arg (kv := 3) (p9 := 1089) dL_law_1084 dL_law_1085 dL_law_1086 dL_law_1087 dL_law_1088 rfl (by decide) hn hL ?_
  refine l_argB (kv := 4) (p9 := 1102) dL_law_1089 dL_law_1090 dL_law_1091 dL_law_1092 dL_law_1093 dL_law_1094 dL_law_1097 dL_law_1098 dL_law_1101 rfl (by decide) hn hL ?_
  refine l_callR (p9 := 1105) (As := [.int (xs (n + 1)), .int (xs (n + 2)), .int (xs (n + 3)), .int (bz (xs (n + 4)))]) (st := [.int v1]) cn_X11_pleased cwL_107 rfl dL_law_1102 rfl (Nat.le_of_ble_eq_true rfl) ⟨by decide, by decide⟩ rfl rfl (lkR_I (fun v2 s2 => ?_))
  exact l_end dL_law_1105 dL_law_1108 dL_law_1109 rfl rfl (by decide)
noncomputable def q22 (a1 a2 a3 a4 a5 : Int32) (u : gS × gS) : Option ((gS × gS) ⊕ Int32) := bn2 (pX10_tail a1 a2 a3 a4 u.1) (fun v1 s1 => bn1 (pX11_tail a1 a2 a3 a4 u.2) (fun v2 => if lg_cmp v1 v2 = 0 then some (.inl (s1, u.2)) else some (.inr 0)))
set_option maxRecDepth 100000 in
theorem lc_22 {G : gG} {l : Launch} {B L : Nat} {xs : Nat → Int32} {x0 m0 n : Nat} {u : gS × gS} (hn : n + 6 ≤ L) (hL : L ≤ 3072) : LF G l B L xs x0 m0 (kJ G l B L xs x0 m0 1881 n) 1110 (lw_lv B x0 m0 n) [] u (q22 (xs (n + 1)) (xs (n + 2)) (xs (n + 3)) (xs (n + 4)) (xs (n + 5)) u) := by
  unfold q22
  refine l_aload (p9 := 1111) 1 dL_law_1110 rfl rfl rfl ?_
  refine l_arg (kv := 1) (p9 := 1116) dL_law_1111 dL_law_1112 dL_law_1113 dL_law_1114 dL_law_1115 rfl (by decide) hn hL ?_
  refine l_arg (kv := 2) (p9 := 1121) dL_law_1116 dL_law_1117 dL_law_1118 dL_law_1119 dL_law_1120 rfl (by decide) hn hL ?_
  refine l_arg (kv := 3) (p9 := 1126) dL_law_1121 dL_law_1122 dL_law_1123 dL_law_1124 dL_law_1125 rfl (by decide) hn hL ?_
  refine l_arg (kv := 4) (p9 := 1131) dL_law_1126 dL_law_1127 dL_law_1128 dL_law_1129 dL_law_1130 rfl (by decide) hn hL ?_
  refine l_callC (p9 := 1134) (As := [.int (xs (n + 1)), .int (xs (n + 2)), .int (xs (n + 3)), .int (xs (n + 4))]) (st := []) cn_X10_tail cwL_108 rfl dL_law_1131 rfl (Nat.le_of_ble_eq_true rfl) ⟨by decide, by decide⟩ rfl rfl (lkC_L (fun v1 s1 => ?_))
  refine l_aload (p9 := 1135) 2 dL_law_1134 rfl rfl rfl ?_
  refine l_arg (kv := 1) (p9 := 1140) dL_law_1135 dL_law_1136 dL_law_1137 dL_law_1138 dL_law_1139 rfl (by decide) hn hL ?_
  refine l_arg (kv := 2) (p9 := 1145) dL_law_1140 dL_law_1141 dL_law_1142 dL_law_1143 dL_law_1144 rfl (by decide) hn hL ?_
  refine l_arg (kv := 3) (p9 := 1150) dL_law_1145 dL_law_1146 dL_law_1147 dL_law_1148 dL_law_1149 rfl (by decide) hn hL ?_
  refine l_arg (kv := 4) (p9 := 1155) dL_law_1150 dL_law_1151 dL_law_1152 dL_law_1153 dL_law_1154 rfl (by decide) hn hL ?_
  refine l_callR (p9 := 1158) (As := [.int (xs (n + 1)), .int (xs (n + 2)), .int (xs (n + 3)), .int (xs (n + 4))]) (st := [.long v1]) cn_X11_tail cwL_112 rfl dL_law_1155 rfl (Nat.le_of_ble_eq_true rfl) ⟨by decide, by decide⟩ rfl rfl (lkR_PL (fun v2 => ?_))
  refine l_lcmp (p9 := 1159) dL_law_1158 rfl ?_
  exact l_endL dL_law_1159 dL_law_1162 dL_law_1163 rfl rfl (by decide)
noncomputable def q23 (a1 a2 a3 a4 a5 : Int32) (u : gS × gS) : Option ((gS × gS) ⊕ Int32) := bn2 (pX10_agree a1 a2 a3 u.1) (fun v1 s1 => bn1 (pX11_agree a1 a2 a3 u.2) (fun v2 => if v1 = v2 then some (.inl (s1, u.2)) else some (.inr 0)))
set_option maxRecDepth 100000 in
theorem lc_23 {G : gG} {l : Launch} {B L : Nat} {xs : Nat → Int32} {x0 m0 n : Nat} {u : gS × gS} (hn : n + 6 ≤ L) (hL : L ≤ 3072) : LF G l B L xs x0 m0 (kJ G l B L xs x0 m0 1881 n) 1164 (lw_lv B x0 m0 n) [] u (q23 (xs (n + 1)) (xs (n + 2)) (xs (n + 3)) (xs (n + 4)) (xs (n + 5)) u) := by
  unfold q23
  refine l_aload (p9 := 1165) 1 dL_law_1164 rfl rfl rfl ?_
  refine l_arg (kv := 1) (p9 := 1170) dL_law_1165 dL_law_1166 dL_law_1167 dL_law_1168 dL_law_1169 rfl (by decide) hn hL ?_
  refine l_arg (kv := 2) (p9 := 1175) dL_law_1170 dL_law_1171 dL_law_1172 dL_law_1173 dL_law_1174 rfl (by decide) hn hL ?_
  refine l_arg (kv := 3) (p9 := 1180) dL_law_1175 dL_law_1176 dL_law_1177 dL_law_1178 dL_law_1179 rfl (by decide) hn hL ?_
  refine l_callC (p9 := 1183) (As := [.int (xs (n + 1)), .int (xs (n + 2)), .int (xs (n + 3))]) (st := []) cn_X10_agree cwL_113 rfl dL_law_1180 rfl (Nat.le_of_ble_eq_true rfl) ⟨by decide, by decide⟩ rfl rfl (lkC_I (fun v1 s1 => ?_))
  refine l_aload (p9 := 1184) 2 dL_law_1183 rfl rfl rfl ?_
  refine l_arg (kv := 1) (p9 := 1189) dL_law_1184 dL_law_1185 dL_law_1186 dL_law_1187 dL_law_1188 rfl (by decide) hn hL ?_
  refine l_arg (kv := 2) (p9 := 1194) dL_law_1189 dL_law_1190 dL_law_1191 dL_law_1192 dL_law_1193 rfl (by decide) hn hL ?_
  refine l_arg (kv := 3) (p9 := 1199) dL_law_1194 dL_law_1195 dL_law_1196 dL_law_1197 dL_law_1198 rfl (by decide) hn hL ?_
  refine l_callR (p9 := 1202) (As := [.int (xs (n + 1)), .int (xs (n + 2)), .int (xs (n + 3))]) (st := [.int v1]) cn_X11_agree cwL_116 rfl dL_law_1199 rfl (Nat.le_of_ble_eq_true rfl) ⟨by decide, by decide⟩ rfl rfl (lkR_PI (fun v2 => ?_))
  exact l_end dL_law_1202 dL_law_1205 dL_law_1206 rfl rfl (by decide)
noncomputable def q24 (a1 a2 a3 a4 a5 : Int32) (u : gS × gS) : Option ((gS × gS) ⊕ Int32) := bn2 (pX10_table a1 a2 a3 u.1) (fun v1 s1 => bn2 (pX11_table a1 a2 a3 u.2) (fun v2 s2 => if v1 = v2 then some (.inl (s1, s2)) else some (.inr 0)))
set_option maxRecDepth 100000 in
theorem lc_24 {G : gG} {l : Launch} {B L : Nat} {xs : Nat → Int32} {x0 m0 n : Nat} {u : gS × gS} (hn : n + 6 ≤ L) (hL : L ≤ 3072) : LF G l B L xs x0 m0 (kJ G l B L xs x0 m0 1881 n) 1207 (lw_lv B x0 m0 n) [] u (q24 (xs (n + 1)) (xs (n + 2)) (xs (n + 3)) (xs (n + 4)) (xs (n + 5)) u) := by
  unfold q24
  refine l_aload (p9 := 1208) 1 dL_law_1207 rfl rfl rfl ?_
  refine l_arg (kv := 1) (p9 := 1213) dL_law_1208 dL_law_1209 dL_law_1210 dL_law_1211 dL_law_1212 rfl (by decide) hn hL ?_
  refine l_arg (kv := 2) (p9 := 1218) dL_law_1213 dL_law_1214 dL_law_1215 dL_law_1216 dL_law_1217 rfl (by decide) hn hL ?_
  refine l_arg (kv := 3) (p9 := 1223) dL_law_1218 dL_law_1219 dL_law_1220 dL_law_1221 dL_law_1222 rfl (by decide) hn hL ?_
  refine l_callC (p9 := 1226) (As := [.int (xs (n + 1)), .int (xs (n + 2)), .int (xs (n + 3))]) (st := []) cn_X10_table cwL_117 rfl dL_law_1223 rfl (Nat.le_of_ble_eq_true rfl) ⟨by decide, by decide⟩ rfl rfl (lkC_I (fun v1 s1 => ?_))
  refine l_aload (p9 := 1227) 2 dL_law_1226 rfl rfl rfl ?_
  refine l_arg (kv := 1) (p9 := 1232) dL_law_1227 dL_law_1228 dL_law_1229 dL_law_1230 dL_law_1231 rfl (by decide) hn hL ?_
  refine l_arg (kv := 2) (p9 := 1237) dL_law_1232 dL_law_1233 dL_law_1234 dL_law_1235 dL_law_1236 rfl (by decide) hn hL ?_
  refine l_arg (kv := 3) (p9 := 1242) dL_law_1237 dL_law_1238 dL_law_1239 dL_law_1240 dL_law_1241 rfl (by decide) hn hL ?_
  refine l_callR (p9 := 1245) (As := [.int (xs (n + 1)), .int (xs (n + 2)), .int (xs (n + 3))]) (st := [.int v1]) cn_X11_table cwL_120 rfl dL_law_1242 rfl (Nat.le_of_ble_eq_true rfl) ⟨by decide, by decide⟩ rfl rfl (lkR_I (fun v2 s2 => ?_))
  exact l_end dL_law_1245 dL_law_1248 dL_law_1249 rfl rfl (by decide)
noncomputable def q25 (a1 a2 a3 a4 a5 : Int32) (u : gS × gS) : Option ((gS × gS) ⊕ Int32) := bn2 (pX10_chances a1 a2 (bz a3) u.1) (fun v1 s1 => bn2 (pX11_chances a1 a2 (bz a3) u.2) (fun v2 s2 => if lg_cmp v1 v2 = 0 then some (.inl (s1, s2)) else some (.inr 0)))
set_option maxRecDepth 100000 in
theorem lc_25 {G : gG} {l : Launch} {B L : Nat} {xs : Nat → Int32} {x0 m0 n : Nat} {u : gS × gS} (hn : n + 6 ≤ L) (hL : L ≤ 3072) : LF G l B L xs x0 m0 (kJ G l B L xs x0 m0 1881 n) 1250 (lw_lv B x0 m0 n) [] u (q25 (xs (n + 1)) (xs (n + 2)) (xs (n + 3)) (xs (n + 4)) (xs (n + 5)) u) := by
  unfold q25
  refine l_aload (p9 := 1251) 1 dL_law_1250 rfl rfl rfl ?_
  refine l_arg (kv := 1) (p9 := 1256) dL_law_1251 dL_law_1252 dL_law_1253 dL_law_1254 dL_law_1255 rfl (by decide) hn hL ?_
  refine l_arg (kv := 2) (p9 := 1261) dL_law_1256 dL_law_1257 dL_law_1258 dL_law_1259 dL_law_1260 rfl (by decide) hn hL ?_
  refine l_argB (kv := 3) (p9 := 1274) dL_law_1261 dL_law_1262 dL_law_1263 dL_law_1264 dL_law_1265 dL_law_1266 dL_law_1269 dL_law_1270 dL_law_1273 rfl (by decide) hn hL ?_
  refine l_callC (p9 := 1277) (As := [.int (xs (n + 1)), .int (xs (n + 2)), .int (bz (xs (n + 3)))]) (st := []) cn_X10_chances cwL_121 rfl dL_law_1274 rfl (Nat.le_of_ble_eq_true rfl) ⟨by decide, by decide⟩ rfl rfl (lkC_L (fun v1 s1 => ?_))
  refine l_aload (p9 := 1278) 2 dL_law_1277 rfl rfl rfl ?_
  refine l_arg (kv := 1) (p9 := 1283) dL_law_1278 dL_law_1279 dL_law_1280 dL_law_1281 dL_law_1282 rfl (by decide) hn hL ?_
  refine l_arg (kv := 2) (p9 := 1288) dL_law_1283 dL_law_1284 dL_law_1285 dL_law_1286 dL_law_1287 rfl (by decide) hn hL ?_
  refine l_argB (kv := 3) (p9 := 1301) dL_law_1288 dL_law_1289 dL_law_1290 dL_law_1291 dL_law_1292 dL_law_1293 dL_law_1296 dL_law_1297 dL_law_1300 rfl (by decide) hn hL ?_
  refine l_callR (p9 := 1304) (As := [.int (xs (n + 1)), .int (xs (n + 2)), .int (bz (xs (n + 3)))]) (st := [.long v1]) cn_X11_chances cwL_125 rfl dL_law_1301 rfl (Nat.le_of_ble_eq_true rfl) ⟨by decide, by decide⟩ rfl rfl (lkR_L (fun v2 s2 => ?_))
  refine l_lcmp (p9 := 1305) dL_law_1304 rfl ?_
  exact l_endL dL_law_1305 dL_law_1308 dL_law_1309 rfl rfl (by decide)
noncomputable def q26 (a1 a2 a3 a4 a5 : Int32) (u : gS × gS) : Option ((gS × gS) ⊕ Int32) := bn2 (pX10_within a1 a2 a3 (bz a4) u.1) (fun v1 s1 => bn2 (pX11_within a1 a2 a3 (bz a4) u.2) (fun v2 s2 => if lg_cmp v1 v2 = 0 then some (.inl (s1, s2)) else some (.inr 0)))
set_option maxRecDepth 100000 in
theorem lc_26 {G : gG} {l : Launch} {B L : Nat} {xs : Nat → Int32} {x0 m0 n : Nat} {u : gS × gS} (hn : n + 6 ≤ L) (hL : L ≤ 3072) : LF G l B L xs x0 m0 (kJ G l B L xs x0 m0 1881 n) 1310 (lw_lv B x0 m0 n) [] u (q26 (xs (n + 1)) (xs (n + 2)) (xs (n + 3)) (xs (n + 4)) (xs (n + 5)) u) := by
  unfold q26
  refine l_aload (p9 := 1311) 1 dL_law_1310 rfl rfl rfl ?_
  refine l_arg (kv := 1) (p9 := 1316) dL_law_1311 dL_law_1312 dL_law_1313 dL_law_1314 dL_law_1315 rfl (by decide) hn hL ?_
  refine l_arg (kv := 2) (p9 := 1321) dL_law_1316 dL_law_1317 dL_law_1318 dL_law_1319 dL_law_1320 rfl (by decide) hn hL ?_
  refine l_arg (kv := 3) (p9 := 1326) dL_law_1321 dL_law_1322 dL_law_1323 dL_law_1324 dL_law_1325 rfl (by decide) hn hL ?_
  refine l_argB (kv := 4) (p9 := 1339) dL_law_1326 dL_law_1327 dL_law_1328 dL_law_1329 dL_law_1330 dL_law_1331 dL_law_1334 dL_law_1335 dL_law_1338 rfl (by decide) hn hL ?_
  refine l_callC (p9 := 1342) (As := [.int (xs (n + 1)), .int (xs (n + 2)), .int (xs (n + 3)), .int (bz (xs (n + 4)))]) (st := []) cn_X10_within cwL_126 rfl dL_law_1339 rfl (Nat.le_of_ble_eq_true rfl) ⟨by decide, by decide⟩ rfl rfl (lkC_L (fun v1 s1 => ?_))
  refine l_aload (p9 := 1343) 2 dL_law_1342 rfl rfl rfl ?_
  refine l_arg (kv := 1) (p9 := 1348) dL_law_1343 dL_law_1344 dL_law_1345 dL_law_1346 dL_law_1347 rfl (by decide) hn hL ?_
  refine l_arg (kv := 2) (p9 := 1353) dL_law_1348 dL_law_1349 dL_law_1350 dL_law_1351 dL_law_1352 rfl (by decide) hn hL ?_
  refine l_arg (kv := 3) (p9 := 1358) dL_law_1353 dL_law_1354 dL_law_1355 dL_law_1356 dL_law_1357 rfl (by decide) hn hL ?_
  refine l_argB (kv := 4) (p9 := 1371) dL_law_1358 dL_law_1359 dL_law_1360 dL_law_1361 dL_law_1362 dL_law_1363 dL_law_1366 dL_law_1367 dL_law_1370 rfl (by decide) hn hL ?_
  refine l_callR (p9 := 1374) (As := [.int (xs (n + 1)), .int (xs (n + 2)), .int (xs (n + 3)), .int (bz (xs (n + 4)))]) (st := [.long v1]) cn_X11_within cwL_130 rfl dL_law_1371 rfl (Nat.le_of_ble_eq_true rfl) ⟨by decide, by decide⟩ rfl rfl (lkR_L (fun v2 s2 => ?_))
  refine l_lcmp (p9 := 1375) dL_law_1374 rfl ?_
  exact l_endL dL_law_1375 dL_law_1378 dL_law_1379 rfl rfl (by decide)
noncomputable def q27 (a1 a2 a3 a4 a5 : Int32) (u : gS × gS) : Option ((gS × gS) ⊕ Int32) := bn2 (pX10_striking u.1) (fun v1 s1 => bn2 (pX11_striking u.2) (fun v2 s2 => if v1 = v2 then some (.inl (s1, s2)) else some (.inr 0)))
set_option maxRecDepth 100000 in
theorem lc_27 {G : gG} {l : Launch} {B L : Nat} {xs : Nat → Int32} {x0 m0 n : Nat} {u : gS × gS} (hn : n + 6 ≤ L) (hL : L ≤ 3072) : LF G l B L xs x0 m0 (kJ G l B L xs x0 m0 1881 n) 1380 (lw_lv B x0 m0 n) [] u (q27 (xs (n + 1)) (xs (n + 2)) (xs (n + 3)) (xs (n + 4)) (xs (n + 5)) u) := by
  unfold q27
  refine l_aload (p9 := 1381) 1 dL_law_1380 rfl rfl rfl ?_
  refine l_callC (p9 := 1384) (As := []) (st := []) cn_X10_striking cwL_131 rfl dL_law_1381 rfl (Nat.le_of_ble_eq_true rfl) ⟨by decide, by decide⟩ rfl rfl (lkC_I (fun v1 s1 => ?_))
  refine l_aload (p9 := 1385) 2 dL_law_1384 rfl rfl rfl ?_
  refine l_callR (p9 := 1388) (As := []) (st := [.int v1]) cn_X11_striking cwL_134 rfl dL_law_1385 rfl (Nat.le_of_ble_eq_true rfl) ⟨by decide, by decide⟩ rfl rfl (lkR_I (fun v2 s2 => ?_))
  exact l_end dL_law_1388 dL_law_1391 dL_law_1392 rfl rfl (by decide)
noncomputable def q28 (a1 a2 a3 a4 a5 : Int32) (u : gS × gS) : Option ((gS × gS) ⊕ Int32) := bn2 (pX10_bound a1 u.1) (fun v1 s1 => bn2 (pX11_bound a1 u.2) (fun v2 s2 => if v1 = v2 then some (.inl (s1, s2)) else some (.inr 0)))
set_option maxRecDepth 100000 in
theorem lc_28 {G : gG} {l : Launch} {B L : Nat} {xs : Nat → Int32} {x0 m0 n : Nat} {u : gS × gS} (hn : n + 6 ≤ L) (hL : L ≤ 3072) : LF G l B L xs x0 m0 (kJ G l B L xs x0 m0 1881 n) 1393 (lw_lv B x0 m0 n) [] u (q28 (xs (n + 1)) (xs (n + 2)) (xs (n + 3)) (xs (n + 4)) (xs (n + 5)) u) := by
  unfold q28
  refine l_aload (p9 := 1394) 1 dL_law_1393 rfl rfl rfl ?_
  refine l_arg (kv := 1) (p9 := 1399) dL_law_1394 dL_law_1395 dL_law_1396 dL_law_1397 dL_law_1398 rfl (by decide) hn hL ?_
  refine l_callC (p9 := 1402) (As := [.int (xs (n + 1))]) (st := []) cn_X10_bound cwL_135 rfl dL_law_1399 rfl (Nat.le_of_ble_eq_true rfl) ⟨by decide, by decide⟩ rfl rfl (lkC_I (fun v1 s1 => ?_))
  refine l_aload (p9 := 1403) 2 dL_law_1402 rfl rfl rfl ?_
  refine l_arg (kv := 1) (p9 := 1408) dL_law_1403 dL_law_1404 dL_law_1405 dL_law_1406 dL_law_1407 rfl (by decide) hn hL ?_
  refine l_callR (p9 := 1411) (As := [.int (xs (n + 1))]) (st := [.int v1]) cn_X11_bound cwL_138 rfl dL_law_1408 rfl (Nat.le_of_ble_eq_true rfl) ⟨by decide, by decide⟩ rfl rfl (lkR_I (fun v2 s2 => ?_))
  exact l_end dL_law_1411 dL_law_1414 dL_law_1415 rfl rfl (by decide)
noncomputable def q29 (a1 a2 a3 a4 a5 : Int32) (u : gS × gS) : Option ((gS × gS) ⊕ Int32) := bn2 (pX10_choice a1 (bz a2) a3 u.1) (fun v1 s1 => bn2 (pX11_choice a1 (bz a2) a3 u.2) (fun v2 s2 => if v1 = v2 then some (.inl (s1, s2)) else some (.inr 0)))
set_option maxRecDepth 100000 in
theorem lc_29 {G : gG} {l : Launch} {B L : Nat} {xs : Nat → Int32} {x0 m0 n : Nat} {u : gS × gS} (hn : n + 6 ≤ L) (hL : L ≤ 3072) : LF G l B L xs x0 m0 (kJ G l B L xs x0 m0 1881 n) 1416 (lw_lv B x0 m0 n) [] u (q29 (xs (n + 1)) (xs (n + 2)) (xs (n + 3)) (xs (n + 4)) (xs (n + 5)) u) := by
  unfold q29
  refine l_aload (p9 := 1417) 1 dL_law_1416 rfl rfl rfl ?_
  refine l_arg (kv := 1) (p9 := 1422) dL_law_1417 dL_law_1418 dL_law_1419 dL_law_1420 dL_law_1421 rfl (by decide) hn hL ?_
  refine l_argB (kv := 2) (p9 := 1435) dL_law_1422 dL_law_1423 dL_law_1424 dL_law_1425 dL_law_1426 dL_law_1427 dL_law_1430 dL_law_1431 dL_law_1434 rfl (by decide) hn hL ?_
  refine l_arg (kv := 3) (p9 := 1440) dL_law_1435 dL_law_1436 dL_law_1437 dL_law_1438 dL_law_1439 rfl (by decide) hn hL ?_
  refine l_callC (p9 := 1443) (As := [.int (xs (n + 1)), .int (bz (xs (n + 2))), .int (xs (n + 3))]) (st := []) cn_X10_choice cwL_139 rfl dL_law_1440 rfl (Nat.le_of_ble_eq_true rfl) ⟨by decide, by decide⟩ rfl rfl (lkC_I (fun v1 s1 => ?_))
  refine l_aload (p9 := 1444) 2 dL_law_1443 rfl rfl rfl ?_
  refine l_arg (kv := 1) (p9 := 1449) dL_law_1444 dL_law_1445 dL_law_1446 dL_law_1447 dL_law_1448 rfl (by decide) hn hL ?_
  refine l_argB (kv := 2) (p9 := 1462) dL_law_1449 dL_law_1450 dL_law_1451 dL_law_1452 dL_law_1453 dL_law_1454 dL_law_1457 dL_law_1458 dL_law_1461 rfl (by decide) hn hL ?_
  refine l_arg (kv := 3) (p9 := 1467) dL_law_1462 dL_law_1463 dL_law_1464 dL_law_1465 dL_law_1466 rfl (by decide) hn hL ?_
  refine l_callR (p9 := 1470) (As := [.int (xs (n + 1)), .int (bz (xs (n + 2))), .int (xs (n + 3))]) (st := [.int v1]) cn_X11_choice cwL_143 rfl dL_law_1467 rfl (Nat.le_of_ble_eq_true rfl) ⟨by decide, by decide⟩ rfl rfl (lkR_I (fun v2 s2 => ?_))
  exact l_end dL_law_1470 dL_law_1473 dL_law_1474 rfl rfl (by decide)
noncomputable def q30 (a1 a2 a3 a4 a5 : Int32) (u : gS × gS) : Option ((gS × gS) ⊕ Int32) := bn2 (pX10_list a1 (bz a2) u.1) (fun v1 s1 => bn2 (pX11_list a1 (bz a2) u.2) (fun v2 s2 => if v1 = v2 then some (.inl (s1, s2)) else some (.inr 0)))
set_option maxRecDepth 100000 in
theorem lc_30 {G : gG} {l : Launch} {B L : Nat} {xs : Nat → Int32} {x0 m0 n : Nat} {u : gS × gS} (hn : n + 6 ≤ L) (hL : L ≤ 3072) : LF G l B L xs x0 m0 (kJ G l B L xs x0 m0 1881 n) 1475 (lw_lv B x0 m0 n) [] u (q30 (xs (n + 1)) (xs (n + 2)) (xs (n + 3)) (xs (n + 4)) (xs (n + 5)) u) := by
  unfold q30
  refine l_aload (p9 := 1476) 1 dL_law_1475 rfl rfl rfl ?_
  refine l_arg (kv := 1) (p9 := 1481) dL_law_1476 dL_law_1477 dL_law_1478 dL_law_1479 dL_law_1480 rfl (by decide) hn hL ?_
  refine l_argB (kv := 2) (p9 := 1494) dL_law_1481 dL_law_1482 dL_law_1483 dL_law_1484 dL_law_1485 dL_law_1486 dL_law_1489 dL_law_1490 dL_law_1493 rfl (by decide) hn hL ?_
  refine l_callC (p9 := 1497) (As := [.int (xs (n + 1)), .int (bz (xs (n + 2)))]) (st := []) cn_X10_list cwL_144 rfl dL_law_1494 rfl (Nat.le_of_ble_eq_true rfl) ⟨by decide, by decide⟩ rfl rfl (lkC_I (fun v1 s1 => ?_))
  refine l_aload (p9 := 1498) 2 dL_law_1497 rfl rfl rfl ?_
  refine l_arg (kv := 1) (p9 := 1503) dL_law_1498 dL_law_1499 dL_law_1500 dL_law_1501 dL_law_1502 rfl (by decide) hn hL ?_
  refine l_argB (kv := 2) (p9 := 1516) dL_law_1503 dL_law_1504 dL_law_1505 dL_law_1506 dL_law_1507 dL_law_1508 dL_law_1511 dL_law_1512 dL_law_1515 rfl (by decide) hn hL ?_
  refine l_callR (p9 := 1519) (As := [.int (xs (n + 1)), .int (bz (xs (n + 2)))]) (st := [.int v1]) cn_X11_list cwL_148 rfl dL_law_1516 rfl (Nat.le_of_ble_eq_true rfl) ⟨by decide, by decide⟩ rfl rfl (lkR_I (fun v2 s2 => ?_))
  exact l_end dL_law_1519 dL_law_1522 dL_law_1523 rfl rfl (by decide)
noncomputable def q31 (a1 a2 a3 a4 a5 : Int32) (u : gS × gS) : Option ((gS × gS) ⊕ Int32) := bn2 (pX10_tried a1 a2 u.1) (fun v1 s1 => bn2 (pX11_tried a1 a2 u.2) (fun v2 s2 => if v1 = v2 then some (.inl (s1, s2)) else some (.inr 0)))
set_option maxRecDepth 100000 in
theorem lc_31 {G : gG} {l : Launch} {B L : Nat} {xs : Nat → Int32} {x0 m0 n : Nat} {u : gS × gS} (hn : n + 6 ≤ L) (hL : L ≤ 3072) : LF G l B L xs x0 m0 (kJ G l B L xs x0 m0 1881 n) 1524 (lw_lv B x0 m0 n) [] u (q31 (xs (n + 1)) (xs (n + 2)) (xs (n + 3)) (xs (n + 4)) (xs (n + 5)) u) := by
  unfold q31
  refine l_aload (p9 := 1525) 1 dL_law_1524 rfl rfl rfl ?_
  refine l_arg (kv := 1) (p9 := 1530) dL_law_1525 dL_law_1526 dL_law_1527 dL_law_1528 dL_law_1529 rfl (by decide) hn hL ?_
  refine l_arg (kv := 2) (p9 := 1535) dL_law_1530 dL_law_1531 dL_law_1532 dL_law_1533 dL_law_1534 rfl (by decide) hn hL ?_
  refine l_callC (p9 := 1538) (As := [.int (xs (n + 1)), .int (xs (n + 2))]) (st := []) cn_X10_tried cwL_149 rfl dL_law_1535 rfl (Nat.le_of_ble_eq_true rfl) ⟨by decide, by decide⟩ rfl rfl (lkC_I (fun v1 s1 => ?_))
  refine l_aload (p9 := 1539) 2 dL_law_1538 rfl rfl rfl ?_
  refine l_arg (kv := 1) (p9 := 1544) dL_law_1539 dL_law_1540 dL_law_1541 dL_law_1542 dL_law_1543 rfl (by decide) hn hL ?_
  refine l_arg (kv := 2) (p9 := 1549) dL_law_1544 dL_law_1545 dL_law_1546 dL_law_1547 dL_law_1548 rfl (by decide) hn hL ?_
  refine l_callR (p9 := 1552) (As := [.int (xs (n + 1)), .int (xs (n + 2))]) (st := [.int v1]) cn_X11_tried cwL_152 rfl dL_law_1549 rfl (Nat.le_of_ble_eq_true rfl) ⟨by decide, by decide⟩ rfl rfl (lkR_I (fun v2 s2 => ?_))
  exact l_end dL_law_1552 dL_law_1555 dL_law_1556 rfl rfl (by decide)
noncomputable def q32 (a1 a2 a3 a4 a5 : Int32) (u : gS × gS) : Option ((gS × gS) ⊕ Int32) := bn2 (pX10_annul a1 u.1) (fun v1 s1 => bn2 (pX11_annul a1 u.2) (fun v2 s2 => if v1 = v2 then some (.inl (s1, s2)) else some (.inr 0)))
set_option maxRecDepth 100000 in
theorem lc_32 {G : gG} {l : Launch} {B L : Nat} {xs : Nat → Int32} {x0 m0 n : Nat} {u : gS × gS} (hn : n + 6 ≤ L) (hL : L ≤ 3072) : LF G l B L xs x0 m0 (kJ G l B L xs x0 m0 1881 n) 1557 (lw_lv B x0 m0 n) [] u (q32 (xs (n + 1)) (xs (n + 2)) (xs (n + 3)) (xs (n + 4)) (xs (n + 5)) u) := by
  unfold q32
  refine l_aload (p9 := 1558) 1 dL_law_1557 rfl rfl rfl ?_
  refine l_arg (kv := 1) (p9 := 1563) dL_law_1558 dL_law_1559 dL_law_1560 dL_law_1561 dL_law_1562 rfl (by decide) hn hL ?_
  refine l_callC (p9 := 1566) (As := [.int (xs (n + 1))]) (st := []) cn_X10_annul cwL_153 rfl dL_law_1563 rfl (Nat.le_of_ble_eq_true rfl) ⟨by decide, by decide⟩ rfl rfl (lkC_I (fun v1 s1 => ?_))
  refine l_aload (p9 := 1567) 2 dL_law_1566 rfl rfl rfl ?_
  refine l_arg (kv := 1) (p9 := 1572) dL_law_1567 dL_law_1568 dL_law_1569 dL_law_1570 dL_law_1571 rfl (by decide) hn hL ?_
  refine l_callR (p9 := 1575) (As := [.int (xs (n + 1))]) (st := [.int v1]) cn_X11_annul cwL_156 rfl dL_law_1572 rfl (Nat.le_of_ble_eq_true rfl) ⟨by decide, by decide⟩ rfl rfl (lkR_I (fun v2 s2 => ?_))
  exact l_end dL_law_1575 dL_law_1578 dL_law_1579 rfl rfl (by decide)
noncomputable def q33 (a1 a2 a3 a4 a5 : Int32) (u : gS × gS) : Option ((gS × gS) ⊕ Int32) := bn2 (pX10_choices a1 a2 u.1) (fun v1 s1 => bn1 (pX11_choices a1 a2 u.2) (fun v2 => if v1 = v2 then some (.inl (s1, u.2)) else some (.inr 0)))
set_option maxRecDepth 100000 in
theorem lc_33 {G : gG} {l : Launch} {B L : Nat} {xs : Nat → Int32} {x0 m0 n : Nat} {u : gS × gS} (hn : n + 6 ≤ L) (hL : L ≤ 3072) : LF G l B L xs x0 m0 (kJ G l B L xs x0 m0 1881 n) 1580 (lw_lv B x0 m0 n) [] u (q33 (xs (n + 1)) (xs (n + 2)) (xs (n + 3)) (xs (n + 4)) (xs (n + 5)) u) := by
  unfold q33
  refine l_aload (p9 := 1581) 1 dL_law_1580 rfl rfl rfl ?_
  refine l_arg (kv := 1) (p9 := 1586) dL_law_1581 dL_law_1582 dL_law_1583 dL_law_1584 dL_law_1585 rfl (by decide) hn hL ?_
  refine l_arg (kv := 2) (p9 := 1591) dL_law_1586 dL_law_1587 dL_law_1588 dL_law_1589 dL_law_1590 rfl (by decide) hn hL ?_
  refine l_callC (p9 := 1594) (As := [.int (xs (n + 1)), .int (xs (n + 2))]) (st := []) cn_X10_choices cwL_157 rfl dL_law_1591 rfl (Nat.le_of_ble_eq_true rfl) ⟨by decide, by decide⟩ rfl rfl (lkC_I (fun v1 s1 => ?_))
  refine l_aload (p9 := 1595) 2 dL_law_1594 rfl rfl rfl ?_
  refine l_arg (kv := 1) (p9 := 1600) dL_law_1595 dL_law_1596 dL_law_1597 dL_law_1598 dL_law_1599 rfl (by decide) hn hL ?_
  refine l_arg (kv := 2) (p9 := 1605) dL_law_1600 dL_law_1601 dL_law_1602 dL_law_1603 dL_law_1604 rfl (by decide) hn hL ?_
  refine l_callR (p9 := 1608) (As := [.int (xs (n + 1)), .int (xs (n + 2))]) (st := [.int v1]) cn_X11_choices cwL_160 rfl dL_law_1605 rfl (Nat.le_of_ble_eq_true rfl) ⟨by decide, by decide⟩ rfl rfl (lkR_PI (fun v2 => ?_))
  exact l_end dL_law_1608 dL_law_1611 dL_law_1612 rfl rfl (by decide)
noncomputable def q34 (a1 a2 a3 a4 a5 : Int32) (u : gS × gS) : Option ((gS × gS) ⊕ Int32) := bn2 (pX10_sure a1 a2 a3 u.1) (fun v1 s1 => bn1 (pX11_sure a1 a2 a3 u.2) (fun v2 => if v1 = v2 then some (.inl (s1, u.2)) else some (.inr 0)))
set_option maxRecDepth 100000 in
theorem lc_34 {G : gG} {l : Launch} {B L : Nat} {xs : Nat → Int32} {x0 m0 n : Nat} {u : gS × gS} (hn : n + 6 ≤ L) (hL : L ≤ 3072) : LF G l B L xs x0 m0 (kJ G l B L xs x0 m0 1881 n) 1613 (lw_lv B x0 m0 n) [] u (q34 (xs (n + 1)) (xs (n + 2)) (xs (n + 3)) (xs (n + 4)) (xs (n + 5)) u) := by
  unfold q34
  refine l_aload (p9 := 1614) 1 dL_law_1613 rfl rfl rfl ?_
  refine l_arg (kv := 1) (p9 := 1619) dL_law_1614 dL_law_1615 dL_law_1616 dL_law_1617 dL_law_1618 rfl (by decide) hn hL ?_
  refine l_arg (kv := 2) (p9 := 1624) dL_law_1619 dL_law_1620 dL_law_1621 dL_law_1622 dL_law_1623 rfl (by decide) hn hL ?_
  refine l_arg (kv := 3) (p9 := 1629) dL_law_1624 dL_law_1625 dL_law_1626 dL_law_1627 dL_law_1628 rfl (by decide) hn hL ?_
  refine l_callC (p9 := 1632) (As := [.int (xs (n + 1)), .int (xs (n + 2)), .int (xs (n + 3))]) (st := []) cn_X10_sure cwL_161 rfl dL_law_1629 rfl (Nat.le_of_ble_eq_true rfl) ⟨by decide, by decide⟩ rfl rfl (lkC_I (fun v1 s1 => ?_))
  refine l_aload (p9 := 1633) 2 dL_law_1632 rfl rfl rfl ?_
  refine l_arg (kv := 1) (p9 := 1638) dL_law_1633 dL_law_1634 dL_law_1635 dL_law_1636 dL_law_1637 rfl (by decide) hn hL ?_
  refine l_arg (kv := 2) (p9 := 1643) dL_law_1638 dL_law_1639 dL_law_1640 dL_law_1641 dL_law_1642 rfl (by decide) hn hL ?_
  refine l_arg (kv := 3) (p9 := 1648) dL_law_1643 dL_law_1644 dL_law_1645 dL_law_1646 dL_law_1647 rfl (by decide) hn hL ?_
  refine l_callR (p9 := 1651) (As := [.int (xs (n + 1)), .int (xs (n + 2)), .int (xs (n + 3))]) (st := [.int v1]) cn_X11_sure cwL_164 rfl dL_law_1648 rfl (Nat.le_of_ble_eq_true rfl) ⟨by decide, by decide⟩ rfl rfl (lkR_PI (fun v2 => ?_))
  exact l_end dL_law_1651 dL_law_1654 dL_law_1655 rfl rfl (by decide)
noncomputable def q35 (a1 a2 a3 a4 a5 : Int32) (u : gS × gS) : Option ((gS × gS) ⊕ Int32) := bn2 (pX10_surer a1 a2 u.1) (fun v1 s1 => bn1 (pX11_surer a1 a2 u.2) (fun v2 => if v1 = v2 then some (.inl (s1, u.2)) else some (.inr 0)))
set_option maxRecDepth 100000 in
theorem lc_35 {G : gG} {l : Launch} {B L : Nat} {xs : Nat → Int32} {x0 m0 n : Nat} {u : gS × gS} (hn : n + 6 ≤ L) (hL : L ≤ 3072) : LF G l B L xs x0 m0 (kJ G l B L xs x0 m0 1881 n) 1656 (lw_lv B x0 m0 n) [] u (q35 (xs (n + 1)) (xs (n + 2)) (xs (n + 3)) (xs (n + 4)) (xs (n + 5)) u) := by
  unfold q35
  refine l_aload (p9 := 1657) 1 dL_law_1656 rfl rfl rfl ?_
  refine l_arg (kv := 1) (p9 := 1662) dL_law_1657 dL_law_1658 dL_law_1659 dL_law_1660 dL_law_1661 rfl (by decide) hn hL ?_
  refine l_arg (kv := 2) (p9 := 1667) dL_law_1662 dL_law_1663 dL_law_1664 dL_law_1665 dL_law_1666 rfl (by decide) hn hL ?_
  refine l_callC (p9 := 1670) (As := [.int (xs (n + 1)), .int (xs (n + 2))]) (st := []) cn_X10_surer cwL_165 rfl dL_law_1667 rfl (Nat.le_of_ble_eq_true rfl) ⟨by decide, by decide⟩ rfl rfl (lkC_I (fun v1 s1 => ?_))
  refine l_aload (p9 := 1671) 2 dL_law_1670 rfl rfl rfl ?_
  refine l_arg (kv := 1) (p9 := 1676) dL_law_1671 dL_law_1672 dL_law_1673 dL_law_1674 dL_law_1675 rfl (by decide) hn hL ?_
  refine l_arg (kv := 2) (p9 := 1681) dL_law_1676 dL_law_1677 dL_law_1678 dL_law_1679 dL_law_1680 rfl (by decide) hn hL ?_
  refine l_callR (p9 := 1684) (As := [.int (xs (n + 1)), .int (xs (n + 2))]) (st := [.int v1]) cn_X11_surer cwL_168 rfl dL_law_1681 rfl (Nat.le_of_ble_eq_true rfl) ⟨by decide, by decide⟩ rfl rfl (lkR_PI (fun v2 => ?_))
  exact l_end dL_law_1684 dL_law_1687 dL_law_1688 rfl rfl (by decide)
noncomputable def q36 (a1 a2 a3 a4 a5 : Int32) (u : gS × gS) : Option ((gS × gS) ⊕ Int32) := bn2 (pX10_on a1 a2 u.1) (fun v1 s1 => bn1 (pX11_on a1 a2 u.2) (fun v2 => if v1 = v2 then some (.inl (s1, u.2)) else some (.inr 0)))
set_option maxRecDepth 100000 in
theorem lc_36 {G : gG} {l : Launch} {B L : Nat} {xs : Nat → Int32} {x0 m0 n : Nat} {u : gS × gS} (hn : n + 6 ≤ L) (hL : L ≤ 3072) : LF G l B L xs x0 m0 (kJ G l B L xs x0 m0 1881 n) 1689 (lw_lv B x0 m0 n) [] u (q36 (xs (n + 1)) (xs (n + 2)) (xs (n + 3)) (xs (n + 4)) (xs (n + 5)) u) := by
  unfold q36
  refine l_aload (p9 := 1690) 1 dL_law_1689 rfl rfl rfl ?_
  refine l_arg (kv := 1) (p9 := 1695) dL_law_1690 dL_law_1691 dL_law_1692 dL_law_1693 dL_law_1694 rfl (by decide) hn hL ?_
  refine l_arg (kv := 2) (p9 := 1700) dL_law_1695 dL_law_1696 dL_law_1697 dL_law_1698 dL_law_1699 rfl (by decide) hn hL ?_
  refine l_callC (p9 := 1703) (As := [.int (xs (n + 1)), .int (xs (n + 2))]) (st := []) cn_X10_on cwL_169 rfl dL_law_1700 rfl (Nat.le_of_ble_eq_true rfl) ⟨by decide, by decide⟩ rfl rfl (lkC_I (fun v1 s1 => ?_))
  refine l_aload (p9 := 1704) 2 dL_law_1703 rfl rfl rfl ?_
  refine l_arg (kv := 1) (p9 := 1709) dL_law_1704 dL_law_1705 dL_law_1706 dL_law_1707 dL_law_1708 rfl (by decide) hn hL ?_
  refine l_arg (kv := 2) (p9 := 1714) dL_law_1709 dL_law_1710 dL_law_1711 dL_law_1712 dL_law_1713 rfl (by decide) hn hL ?_
  refine l_callR (p9 := 1717) (As := [.int (xs (n + 1)), .int (xs (n + 2))]) (st := [.int v1]) cn_X11_on cwL_172 rfl dL_law_1714 rfl (Nat.le_of_ble_eq_true rfl) ⟨by decide, by decide⟩ rfl rfl (lkR_PI (fun v2 => ?_))
  exact l_end dL_law_1717 dL_law_1720 dL_law_1721 rfl rfl (by decide)
noncomputable def q37 (a1 a2 a3 a4 a5 : Int32) (u : gS × gS) : Option ((gS × gS) ⊕ Int32) := bn2 (pX10_red a1 a2 a3 u.1) (fun v1 s1 => bn2 (pX11_red a1 a2 a3 u.2) (fun v2 s2 => if v1 = v2 then some (.inl (s1, s2)) else some (.inr 0)))
set_option maxRecDepth 100000 in
theorem lc_37 {G : gG} {l : Launch} {B L : Nat} {xs : Nat → Int32} {x0 m0 n : Nat} {u : gS × gS} (hn : n + 6 ≤ L) (hL : L ≤ 3072) : LF G l B L xs x0 m0 (kJ G l B L xs x0 m0 1881 n) 1722 (lw_lv B x0 m0 n) [] u (q37 (xs (n + 1)) (xs (n + 2)) (xs (n + 3)) (xs (n + 4)) (xs (n + 5)) u) := by
  unfold q37
  refine l_aload (p9 := 1723) 1 dL_law_1722 rfl rfl rfl ?_
  refine l_arg (kv := 1) (p9 := 1728) dL_law_1723 dL_law_1724 dL_law_1725 dL_law_1726 dL_law_1727 rfl (by decide) hn hL ?_
  refine l_arg (kv := 2) (p9 := 1733) dL_law_1728 dL_law_1729 dL_law_1730 dL_law_1731 dL_law_1732 rfl (by decide) hn hL ?_
  refine l_arg (kv := 3) (p9 := 1738) dL_law_1733 dL_law_1734 dL_law_1735 dL_law_1736 dL_law_1737 rfl (by decide) hn hL ?_
  refine l_callC (p9 := 1741) (As := [.int (xs (n + 1)), .int (xs (n + 2)), .int (xs (n + 3))]) (st := []) cn_X10_red cwL_173 rfl dL_law_1738 rfl (Nat.le_of_ble_eq_true rfl) ⟨by decide, by decide⟩ rfl rfl (lkC_I (fun v1 s1 => ?_))
  refine l_aload (p9 := 1742) 2 dL_law_1741 rfl rfl rfl ?_
  refine l_arg (kv := 1) (p9 := 1747) dL_law_1742 dL_law_1743 dL_law_1744 dL_law_1745 dL_law_1746 rfl (by decide) hn hL ?_
  refine l_arg (kv := 2) (p9 := 1752) dL_law_1747 dL_law_1748 dL_law_1749 dL_law_1750 dL_law_1751 rfl (by decide) hn hL ?_
  refine l_arg (kv := 3) (p9 := 1757) dL_law_1752 dL_law_1753 dL_law_1754 dL_law_1755 dL_law_1756 rfl (by decide) hn hL ?_
  refine l_callR (p9 := 1760) (As := [.int (xs (n + 1)), .int (xs (n + 2)), .int (xs (n + 3))]) (st := [.int v1]) cn_X11_red cwL_176 rfl dL_law_1757 rfl (Nat.le_of_ble_eq_true rfl) ⟨by decide, by decide⟩ rfl rfl (lkR_I (fun v2 s2 => ?_))
  exact l_end dL_law_1760 dL_law_1763 dL_law_1764 rfl rfl (by decide)
noncomputable def q38 (a1 a2 a3 a4 a5 : Int32) (u : gS × gS) : Option ((gS × gS) ⊕ Int32) := bn2 (pX10_odds a1 a2 (bz a3) u.1) (fun v1 s1 => bn2 (pX11_odds a1 a2 (bz a3) u.2) (fun v2 s2 => if lg_cmp v1 v2 = 0 then some (.inl (s1, s2)) else some (.inr 0)))
set_option maxRecDepth 100000 in
theorem lc_38 {G : gG} {l : Launch} {B L : Nat} {xs : Nat → Int32} {x0 m0 n : Nat} {u : gS × gS} (hn : n + 6 ≤ L) (hL : L ≤ 3072) : LF G l B L xs x0 m0 (kJ G l B L xs x0 m0 1881 n) 1765 (lw_lv B x0 m0 n) [] u (q38 (xs (n + 1)) (xs (n + 2)) (xs (n + 3)) (xs (n + 4)) (xs (n + 5)) u) := by
  unfold q38
  refine l_aload (p9 := 1766) 1 dL_law_1765 rfl rfl rfl ?_
  refine l_arg (kv := 1) (p9 := 1771) dL_law_1766 dL_law_1767 dL_law_1768 dL_law_1769 dL_law_1770 rfl (by decide) hn hL ?_
  refine l_arg (kv := 2) (p9 := 1776) dL_law_1771 dL_law_1772 dL_law_1773 dL_law_1774 dL_law_1775 rfl (by decide) hn hL ?_
  refine l_argB (kv := 3) (p9 := 1789) dL_law_1776 dL_law_1777 dL_law_1778 dL_law_1779 dL_law_1780 dL_law_1781 dL_law_1784 dL_law_1785 dL_law_1788 rfl (by decide) hn hL ?_
  refine l_callC (p9 := 1792) (As := [.int (xs (n + 1)), .int (xs (n + 2)), .int (bz (xs (n + 3)))]) (st := []) cn_X10_odds cwL_177 rfl dL_law_1789 rfl (Nat.le_of_ble_eq_true rfl) ⟨by decide, by decide⟩ rfl rfl (lkC_L (fun v1 s1 => ?_))
  refine l_aload (p9 := 1793) 2 dL_law_1792 rfl rfl rfl ?_
  refine l_arg (kv := 1) (p9 := 1798) dL_law_1793 dL_law_1794 dL_law_1795 dL_law_1796 dL_law_1797 rfl (by decide) hn hL ?_
  refine l_arg (kv := 2) (p9 := 1803) dL_law_1798 dL_law_1799 dL_law_1800 dL_law_1801 dL_law_1802 rfl (by decide) hn hL ?_
  refine l_argB (kv := 3) (p9 := 1816) dL_law_1803 dL_law_1804 dL_law_1805 dL_law_1806 dL_law_1807 dL_law_1808 dL_law_1811 dL_law_1812 dL_law_1815 rfl (by decide) hn hL ?_
  refine l_callR (p9 := 1819) (As := [.int (xs (n + 1)), .int (xs (n + 2)), .int (bz (xs (n + 3)))]) (st := [.long v1]) cn_X11_odds cwL_180 rfl dL_law_1816 rfl (Nat.le_of_ble_eq_true rfl) ⟨by decide, by decide⟩ rfl rfl (lkR_L (fun v2 s2 => ?_))
  refine l_lcmp (p9 := 1820) dL_law_1819 rfl ?_
  exact l_endL dL_law_1820 dL_law_1823 dL_law_1824 rfl rfl (by decide)
noncomputable def q39 (a1 a2 a3 a4 a5 : Int32) (u : gS × gS) : Option ((gS × gS) ⊕ Int32) := bn2 (pX10_turned a1 a2 u.1) (fun v1 s1 => bn2 (pX11_turned a1 a2 u.2) (fun v2 s2 => if v1 = v2 then some (.inl (s1, s2)) else some (.inr 0)))
set_option maxRecDepth 100000 in
theorem lc_39 {G : gG} {l : Launch} {B L : Nat} {xs : Nat → Int32} {x0 m0 n : Nat} {u : gS × gS} (hn : n + 6 ≤ L) (hL : L ≤ 3072) : LF G l B L xs x0 m0 (kJ G l B L xs x0 m0 1881 n) 1825 (lw_lv B x0 m0 n) [] u (q39 (xs (n + 1)) (xs (n + 2)) (xs (n + 3)) (xs (n + 4)) (xs (n + 5)) u) := by
  unfold q39
  refine l_aload (p9 := 1826) 1 dL_law_1825 rfl rfl rfl ?_
  refine l_arg (kv := 1) (p9 := 1831) dL_law_1826 dL_law_1827 dL_law_1828 dL_law_1829 dL_law_1830 rfl (by decide) hn hL ?_
  refine l_arg (kv := 2) (p9 := 1836) dL_law_1831 dL_law_1832 dL_law_1833 dL_law_1834 dL_law_1835 rfl (by decide) hn hL ?_
  refine l_callC (p9 := 1839) (As := [.int (xs (n + 1)), .int (xs (n + 2))]) (st := []) cn_X10_turned cwL_181 rfl dL_law_1836 rfl (Nat.le_of_ble_eq_true rfl) ⟨by decide, by decide⟩ rfl rfl (lkC_I (fun v1 s1 => ?_))
  refine l_aload (p9 := 1840) 2 dL_law_1839 rfl rfl rfl ?_
  refine l_arg (kv := 1) (p9 := 1845) dL_law_1840 dL_law_1841 dL_law_1842 dL_law_1843 dL_law_1844 rfl (by decide) hn hL ?_
  refine l_arg (kv := 2) (p9 := 1850) dL_law_1845 dL_law_1846 dL_law_1847 dL_law_1848 dL_law_1849 rfl (by decide) hn hL ?_
  refine l_callR (p9 := 1853) (As := [.int (xs (n + 1)), .int (xs (n + 2))]) (st := [.int v1]) cn_X11_turned cwL_184 rfl dL_law_1850 rfl (Nat.le_of_ble_eq_true rfl) ⟨by decide, by decide⟩ rfl rfl (lkR_I (fun v2 s2 => ?_))
  exact l_end dL_law_1853 dL_law_1856 dL_law_1857 rfl rfl (by decide)
noncomputable def q40 (a1 a2 a3 a4 a5 : Int32) (u : gS × gS) : Option ((gS × gS) ⊕ Int32) := bn1 (pX10_count a1 u.1) (fun v1 => bn1 (pX11_count a1 u.2) (fun v2 => if v1 = v2 then some (.inl (u.1, u.2)) else some (.inr 0)))
set_option maxRecDepth 100000 in
theorem lc_40 {G : gG} {l : Launch} {B L : Nat} {xs : Nat → Int32} {x0 m0 n : Nat} {u : gS × gS} (hn : n + 6 ≤ L) (hL : L ≤ 3072) : LF G l B L xs x0 m0 (kJ G l B L xs x0 m0 1881 n) 1858 (lw_lv B x0 m0 n) [] u (q40 (xs (n + 1)) (xs (n + 2)) (xs (n + 3)) (xs (n + 4)) (xs (n + 5)) u) := by
  unfold q40
  refine l_aload (p9 := 1859) 1 dL_law_1858 rfl rfl rfl ?_
  refine l_arg (kv := 1) (p9 := 1864) dL_law_1859 dL_law_1860 dL_law_1861 dL_law_1862 dL_law_1863 rfl (by decide) hn hL ?_
  refine l_callC (p9 := 1867) (As := [.int (xs (n + 1))]) (st := []) cn_X10_count cwL_185 rfl dL_law_1864 rfl (Nat.le_of_ble_eq_true rfl) ⟨by decide, by decide⟩ rfl rfl (lkC_PI (fun v1 => ?_))
  refine l_aload (p9 := 1868) 2 dL_law_1867 rfl rfl rfl ?_
  refine l_arg (kv := 1) (p9 := 1873) dL_law_1868 dL_law_1869 dL_law_1870 dL_law_1871 dL_law_1872 rfl (by decide) hn hL ?_
  refine l_callR (p9 := 1876) (As := [.int (xs (n + 1))]) (st := [.int v1]) cn_X11_count cwL_188 rfl dL_law_1873 rfl (Nat.le_of_ble_eq_true rfl) ⟨by decide, by decide⟩ rfl rfl (lkR_PI (fun v2 => ?_))
  exact l_end dL_law_1876 dL_law_1879 dL_law_1880 rfl rfl (by decide)
noncomputable def qs (k : Nat) (a1 a2 a3 a4 a5 : Int32) (u : gS × gS) : Option ((gS × gS) ⊕ Int32) := match k with
  | 0 => q0 a1 a2 a3 a4 a5 u
  | 1 => q1 a1 a2 a3 a4 a5 u
  | 2 => q2 a1 a2 a3 a4 a5 u
  | 3 => q3 a1 a2 a3 a4 a5 u
  | 4 => q4 a1 a2 a3 a4 a5 u
  | 5 => q5 a1 a2 a3 a4 a5 u
  | 6 => q6 a1 a2 a3 a4 a5 u
  | 7 => q7 a1 a2 a3 a4 a5 u
  | 8 => q8 a1 a2 a3 a4 a5 u
  | 9 => q9 a1 a2 a3 a4 a5 u
  | 10 => q10 a1 a2 a3 a4 a5 u
  | 11 => q11 a1 a2 a3 a4 a5 u
  | 12 => q12 a1 a2 a3 a4 a5 u
  | 13 => q13 a1 a2 a3 a4 a5 u
  | 14 => q14 a1 a2 a3 a4 a5 u
  | 15 => q15 a1 a2 a3 a4 a5 u
  | 16 => q16 a1 a2 a3 a4 a5 u
  | 17 => q17 a1 a2 a3 a4 a5 u
  | 18 => q18 a1 a2 a3 a4 a5 u
  | 19 => q19 a1 a2 a3 a4 a5 u
  | 20 => q20 a1 a2 a3 a4 a5 u
  | 21 => q21 a1 a2 a3 a4 a5 u
  | 22 => q22 a1 a2 a3 a4 a5 u
  | 23 => q23 a1 a2 a3 a4 a5 u
  | 24 => q24 a1 a2 a3 a4 a5 u
  | 25 => q25 a1 a2 a3 a4 a5 u
  | 26 => q26 a1 a2 a3 a4 a5 u
  | 27 => q27 a1 a2 a3 a4 a5 u
  | 28 => q28 a1 a2 a3 a4 a5 u
  | 29 => q29 a1 a2 a3 a4 a5 u
  | 30 => q30 a1 a2 a3 a4 a5 u
  | 31 => q31 a1 a2 a3 a4 a5 u
  | 32 => q32 a1 a2 a3 a4 a5 u
  | 33 => q33 a1 a2 a3 a4 a5 u
  | 34 => q34 a1 a2 a3 a4 a5 u
  | 35 => q35 a1 a2 a3 a4 a5 u
  | 36 => q36 a1 a2 a3 a4 a5 u
  | 37 => q37 a1 a2 a3 a4 a5 u
  | 38 => q38 a1 a2 a3 a4 a5 u
  | 39 => q39 a1 a2 a3 a4 a5 u
  | 40 => q40 a1 a2 a3 a4 a5 u
  | _ => some (.inl u)
