section CASES
variable {D : va_G} {ad : Nat → Nat} {ca : Nat → ClassId} {l : Launch} {b L : Nat} {xs : Nat → Int32} {K : Nat → List (Nat × Value) → List Value → rv_W → rv_R → Prop} {w : rv_W} {t : rv_R}
set_option maxRecDepth 100000 in
theorem lc_0 (h : rl_K D ad ca l b L xs K) (hJ : rv_J ad) (hL : L ≤ 2560) {i : Nat} (hi : i + 5 ≤ L) (hI : ra_Inv w) (n : ∀ w', ra_Inv w' → K 1214 (rl_lv ad b i) [] w' t) : K 208 (rl_lv ad b i) [] w t := by
  obtain ⟨v1, w1, e1, v2, w2, e2, hv, hI2⟩ := q_addGroup (xs (i + 1)) (xs (i + 2)) w hI
  refine rv_aload_n h.1 208 dL_law_208 1 rfl ?_
  refine rl_arg h hL 209 1 (by omega) dL_law_209 dL_law_210 dL_law_211 (by decide) dL_law_212 dL_law_213 ?_
  refine rl_arg h hL 214 2 (by omega) dL_law_214 dL_law_215 dL_law_216 (by decide) dL_law_217 dL_law_218 ?_
  refine rl_call (st := []) h 219 dL_law_219 (fn_X10_addGroup hJ _ _ w) ce_X10_addGroup lk_L_13 rv_s0 rfl rv_cf8 rfl rfl (Nat.le_of_ble_eq_true rfl) ⟨Nat.le_of_ble_eq_true rfl, Nat.le_of_ble_eq_true rfl⟩ e1 ?_
  refine rv_aload_n h.1 222 dL_law_222 2 rfl ?_
  refine rl_arg h hL 223 1 (by omega) dL_law_223 dL_law_224 dL_law_225 (by decide) dL_law_226 dL_law_227 ?_
  refine rl_arg h hL 228 2 (by omega) dL_law_228 dL_law_229 dL_law_230 (by decide) dL_law_231 dL_law_232 ?_
  refine rl_call (st := [.int v1]) h 233 dL_law_233 (fn_X11_addGroup hJ _ _ w1) ce_X11_addGroup lk_L_17 rv_s78 rfl rv_cf9 rfl rfl (Nat.le_of_ble_eq_true rfl) ⟨Nat.le_of_ble_eq_true rfl, Nat.le_of_ble_eq_true rfl⟩ e2 ?_
  exact rl_eq h 236 dL_law_236 (by decide) hv (n w2 hI2)
set_option maxRecDepth 100000 in
theorem lc_1 (h : rl_K D ad ca l b L xs K) (hJ : rv_J ad) (hL : L ≤ 2560) {i : Nat} (hi : i + 5 ≤ L) (hI : ra_Inv w) (n : ∀ w', ra_Inv w' → K 1214 (rl_lv ad b i) [] w' t) : K 241 (rl_lv ad b i) [] w t := by
  obtain ⟨v1, w1, e1, v2, w2, e2, hv, hI2⟩ := q_removeGroup (xs (i + 1)) w hI
  refine rv_aload_n h.1 241 dL_law_241 1 rfl ?_
  refine rl_arg h hL 242 1 (by omega) dL_law_242 dL_law_243 dL_law_244 (by decide) dL_law_245 dL_law_246 ?_
  refine rl_call (st := []) h 247 dL_law_247 (fn_X10_removeGroup hJ _ w) ce_X10_removeGroup lk_L_18 rv_s0 rfl rv_cf8 rfl rfl (Nat.le_of_ble_eq_true rfl) ⟨Nat.le_of_ble_eq_true rfl, Nat.le_of_ble_eq_true rfl⟩ e1 ?_
  refine rv_aload_n h.1 250 dL_law_250 2 rfl ?_
  refine rl_arg h hL 251 1 (by omega) dL_law_251 dL_law_252 dL_law_253 (by decide) dL_law_254 dL_law_255 ?_
  refine rl_call (st := [.int v1]) h 256 dL_law_256 (fn_X11_removeGroup hJ _ w1) ce_X11_removeGroup lk_L_22 rv_s78 rfl rv_cf9 rfl rfl (Nat.le_of_ble_eq_true rfl) ⟨Nat.le_of_ble_eq_true rfl, Nat.le_of_ble_eq_true rfl⟩ e2 ?_
  exact rl_eq h 259 dL_law_259 (by decide) hv (n w2 hI2)
set_option maxRecDepth 100000 in
theorem lc_2 (h : rl_K D ad ca l b L xs K) (hJ : rv_J ad) (hL : L ≤ 2560) {i : Nat} (hi : i + 5 ≤ L) (hI : ra_Inv w) (n : ∀ w', ra_Inv w' → K 1214 (rl_lv ad b i) [] w' t) : K 264 (rl_lv ad b i) [] w t := by
  obtain ⟨v1, w1, e1, v2, w2, e2, hv, hI2⟩ := q_setVoters (xs (i + 1)) (xs (i + 2)) w hI
  refine rv_aload_n h.1 264 dL_law_264 1 rfl ?_
  refine rl_arg h hL 265 1 (by omega) dL_law_265 dL_law_266 dL_law_267 (by decide) dL_law_268 dL_law_269 ?_
  refine rl_arg h hL 270 2 (by omega) dL_law_270 dL_law_271 dL_law_272 (by decide) dL_law_273 dL_law_274 ?_
  refine rl_call (st := []) h 275 dL_law_275 (fn_X10_setVoters hJ _ _ w) ce_X10_setVoters lk_L_23 rv_s0 rfl rv_cf8 rfl rfl (Nat.le_of_ble_eq_true rfl) ⟨Nat.le_of_ble_eq_true rfl, Nat.le_of_ble_eq_true rfl⟩ e1 ?_
  refine rv_aload_n h.1 278 dL_law_278 2 rfl ?_
  refine rl_arg h hL 279 1 (by omega) dL_law_279 dL_law_280 dL_law_281 (by decide) dL_law_282 dL_law_283 ?_
  refine rl_arg h hL 284 2 (by omega) dL_law_284 dL_law_285 dL_law_286 (by decide) dL_law_287 dL_law_288 ?_
  refine rl_call (st := [.int v1]) h 289 dL_law_289 (fn_X11_setVoters hJ _ _ w1) ce_X11_setVoters lk_L_26 rv_s78 rfl rv_cf9 rfl rfl (Nat.le_of_ble_eq_true rfl) ⟨Nat.le_of_ble_eq_true rfl, Nat.le_of_ble_eq_true rfl⟩ e2 ?_
  exact rl_eq h 292 dL_law_292 (by decide) hv (n w2 hI2)
set_option maxRecDepth 100000 in
theorem lc_3 (h : rl_K D ad ca l b L xs K) (hJ : rv_J ad) (hL : L ≤ 2560) {i : Nat} (hi : i + 5 ≤ L) (hI : ra_Inv w) (n : ∀ w', ra_Inv w' → K 1214 (rl_lv ad b i) [] w' t) : K 297 (rl_lv ad b i) [] w t := by
  obtain ⟨v1, w1, e1, v2, w2, e2, hv, hI2⟩ := q_exchange (xs (i + 1)) (xs (i + 2)) w hI
  refine rv_aload_n h.1 297 dL_law_297 1 rfl ?_
  refine rl_arg h hL 298 1 (by omega) dL_law_298 dL_law_299 dL_law_300 (by decide) dL_law_301 dL_law_302 ?_
  refine rl_arg h hL 303 2 (by omega) dL_law_303 dL_law_304 dL_law_305 (by decide) dL_law_306 dL_law_307 ?_
  refine rl_call (st := []) h 308 dL_law_308 (fn_X10_exchange hJ _ _ w) ce_X10_exchange lk_L_27 rv_s0 rfl rv_cf8 rfl rfl (Nat.le_of_ble_eq_true rfl) ⟨Nat.le_of_ble_eq_true rfl, Nat.le_of_ble_eq_true rfl⟩ e1 ?_
  refine rv_aload_n h.1 311 dL_law_311 2 rfl ?_
  refine rl_arg h hL 312 1 (by omega) dL_law_312 dL_law_313 dL_law_314 (by decide) dL_law_315 dL_law_316 ?_
  refine rl_arg h hL 317 2 (by omega) dL_law_317 dL_law_318 dL_law_319 (by decide) dL_law_320 dL_law_321 ?_
  refine rl_call (st := [.int v1]) h 322 dL_law_322 (fn_X11_exchange hJ _ _ w1) ce_X11_exchange lk_L_30 rv_s78 rfl rv_cf9 rfl rfl (Nat.le_of_ble_eq_true rfl) ⟨Nat.le_of_ble_eq_true rfl, Nat.le_of_ble_eq_true rfl⟩ e2 ?_
  exact rl_eq h 325 dL_law_325 (by decide) hv (n w2 hI2)
set_option maxRecDepth 100000 in
theorem lc_4 (h : rl_K D ad ca l b L xs K) (hJ : rv_J ad) (hL : L ≤ 2560) {i : Nat} (hi : i + 5 ≤ L) (hI : ra_Inv w) (n : ∀ w', ra_Inv w' → K 1214 (rl_lv ad b i) [] w' t) : K 330 (rl_lv ad b i) [] w t := by
  obtain ⟨v1, w1, e1, v2, w2, e2, hv, hI2⟩ := q_setStanding (xs (i + 1)) (if xs (i + 2) = 0 then 0 else 1) w hI
  refine rv_aload_n h.1 330 dL_law_330 1 rfl ?_
  refine rl_arg h hL 331 1 (by omega) dL_law_331 dL_law_332 dL_law_333 (by decide) dL_law_334 dL_law_335 ?_
  refine rl_arg h hL 336 2 (by omega) dL_law_336 dL_law_337 dL_law_338 (by decide) dL_law_339 dL_law_340 ?_
  refine rl_nz h 341 dL_law_341 dL_law_344 dL_law_345 dL_law_348 ?_
  refine rl_call (st := []) h 349 dL_law_349 (fn_X10_setStanding hJ _ _ w) ce_X10_setStanding lk_L_31 rv_s0 rfl rv_cf8 rfl rfl (Nat.le_of_ble_eq_true rfl) ⟨Nat.le_of_ble_eq_true rfl, Nat.le_of_ble_eq_true rfl⟩ e1 ?_
  refine rv_aload_n h.1 352 dL_law_352 2 rfl ?_
  refine rl_arg h hL 353 1 (by omega) dL_law_353 dL_law_354 dL_law_355 (by decide) dL_law_356 dL_law_357 ?_
  refine rl_arg h hL 358 2 (by omega) dL_law_358 dL_law_359 dL_law_360 (by decide) dL_law_361 dL_law_362 ?_
  refine rl_nz h 363 dL_law_363 dL_law_366 dL_law_367 dL_law_370 ?_
  refine rl_call (st := [.int v1]) h 371 dL_law_371 (fn_X11_setStanding hJ _ _ w1) ce_X11_setStanding lk_L_35 rv_s78 rfl rv_cf9 rfl rfl (Nat.le_of_ble_eq_true rfl) ⟨Nat.le_of_ble_eq_true rfl, Nat.le_of_ble_eq_true rfl⟩ e2 ?_
  exact rl_eq h 374 dL_law_374 (by decide) hv (n w2 hI2)
set_option maxRecDepth 100000 in
theorem lc_5 (h : rl_K D ad ca l b L xs K) (hJ : rv_J ad) (hL : L ≤ 2560) {i : Nat} (hi : i + 5 ≤ L) (hI : ra_Inv w) (n : ∀ w', ra_Inv w' → K 1214 (rl_lv ad b i) [] w' t) : K 379 (rl_lv ad b i) [] w t := by
  obtain ⟨v1, w1, e1, v2, w2, e2, hv, hI2⟩ := q_standing  w hI
  refine rv_aload_n h.1 379 dL_law_379 1 rfl ?_
  refine rl_call (st := []) h 380 dL_law_380 (fn_X10_standing hJ w) ce_X10_standing lk_L_36 rv_s0 rfl rv_cf8 rfl rfl (Nat.le_of_ble_eq_true rfl) ⟨Nat.le_of_ble_eq_true rfl, Nat.le_of_ble_eq_true rfl⟩ e1 ?_
  refine rv_aload_n h.1 383 dL_law_383 2 rfl ?_
  refine rl_call (st := [.int v1]) h 384 dL_law_384 (fn_X11_standing hJ w1) ce_X11_standing lk_L_40 rv_s78 rfl rv_cf9 rfl rfl (Nat.le_of_ble_eq_true rfl) ⟨Nat.le_of_ble_eq_true rfl, Nat.le_of_ble_eq_true rfl⟩ e2 ?_
  exact rl_eq h 387 dL_law_387 (by decide) hv (n w2 hI2)
set_option maxRecDepth 100000 in
theorem lc_6 (h : rl_K D ad ca l b L xs K) (hJ : rv_J ad) (hL : L ≤ 2560) {i : Nat} (hi : i + 5 ≤ L) (hI : ra_Inv w) (n : ∀ w', ra_Inv w' → K 1214 (rl_lv ad b i) [] w' t) : K 392 (rl_lv ad b i) [] w t := by
  obtain ⟨v1, w1, e1, v2, w2, e2, hv, hI2⟩ := q_groupCount  w hI
  refine rv_aload_n h.1 392 dL_law_392 1 rfl ?_
  refine rl_call (st := []) h 393 dL_law_393 (fn_X10_groupCount hJ w) ce_X10_groupCount lk_L_41 rv_s0 rfl rv_cf8 rfl rfl (Nat.le_of_ble_eq_true rfl) ⟨Nat.le_of_ble_eq_true rfl, Nat.le_of_ble_eq_true rfl⟩ e1 ?_
  refine rv_aload_n h.1 396 dL_law_396 2 rfl ?_
  refine rl_call (st := [.int v1]) h 397 dL_law_397 (fn_X11_groupCount hJ w1) ce_X11_groupCount lk_L_44 rv_s78 rfl rv_cf9 rfl rfl (Nat.le_of_ble_eq_true rfl) ⟨Nat.le_of_ble_eq_true rfl, Nat.le_of_ble_eq_true rfl⟩ e2 ?_
  exact rl_eq h 400 dL_law_400 (by decide) hv (n w2 hI2)
set_option maxRecDepth 100000 in
theorem lc_7 (h : rl_K D ad ca l b L xs K) (hJ : rv_J ad) (hL : L ≤ 2560) {i : Nat} (hi : i + 5 ≤ L) (hI : ra_Inv w) (n : ∀ w', ra_Inv w' → K 1214 (rl_lv ad b i) [] w' t) : K 405 (rl_lv ad b i) [] w t := by
  obtain ⟨v1, w1, e1, v2, w2, e2, hv, hI2⟩ := q_voters (xs (i + 1)) w hI
  refine rv_aload_n h.1 405 dL_law_405 1 rfl ?_
  refine rl_arg h hL 406 1 (by omega) dL_law_406 dL_law_407 dL_law_408 (by decide) dL_law_409 dL_law_410 ?_
  refine rl_call (st := []) h 411 dL_law_411 (fn_X10_voters hJ _ w) ce_X10_voters lk_L_45 rv_s0 rfl rv_cf8 rfl rfl (Nat.le_of_ble_eq_true rfl) ⟨Nat.le_of_ble_eq_true rfl, Nat.le_of_ble_eq_true rfl⟩ e1 ?_
  refine rv_aload_n h.1 414 dL_law_414 2 rfl ?_
  refine rl_arg h hL 415 1 (by omega) dL_law_415 dL_law_416 dL_law_417 (by decide) dL_law_418 dL_law_419 ?_
  refine rl_call (st := [.int v1]) h 420 dL_law_420 (fn_X11_voters hJ _ w1) ce_X11_voters lk_L_48 rv_s78 rfl rv_cf9 rfl rfl (Nat.le_of_ble_eq_true rfl) ⟨Nat.le_of_ble_eq_true rfl, Nat.le_of_ble_eq_true rfl⟩ e2 ?_
  exact rl_eq h 423 dL_law_423 (by decide) hv (n w2 hI2)
set_option maxRecDepth 100000 in
theorem lc_8 (h : rl_K D ad ca l b L xs K) (hJ : rv_J ad) (hL : L ≤ 2560) {i : Nat} (hi : i + 5 ≤ L) (hI : ra_Inv w) (n : ∀ w', ra_Inv w' → K 1214 (rl_lv ad b i) [] w' t) : K 428 (rl_lv ad b i) [] w t := by
  obtain ⟨v1, w1, e1, v2, w2, e2, hv, hI2⟩ := q_ballot (xs (i + 1)) w hI
  refine rv_aload_n h.1 428 dL_law_428 1 rfl ?_
  refine rl_arg h hL 429 1 (by omega) dL_law_429 dL_law_430 dL_law_431 (by decide) dL_law_432 dL_law_433 ?_
  refine rl_call (st := []) h 434 dL_law_434 (fn_X10_ballot hJ _ w) ce_X10_ballot lk_L_49 rv_s0 rfl rv_cf8 rfl rfl (Nat.le_of_ble_eq_true rfl) ⟨Nat.le_of_ble_eq_true rfl, Nat.le_of_ble_eq_true rfl⟩ e1 ?_
  refine rv_aload_n h.1 437 dL_law_437 2 rfl ?_
  refine rl_arg h hL 438 1 (by omega) dL_law_438 dL_law_439 dL_law_440 (by decide) dL_law_441 dL_law_442 ?_
  refine rl_call (st := [.int v1]) h 443 dL_law_443 (fn_X11_ballot hJ _ w1) ce_X11_ballot lk_L_52 rv_s78 rfl rv_cf9 rfl rfl (Nat.le_of_ble_eq_true rfl) ⟨Nat.le_of_ble_eq_true rfl, Nat.le_of_ble_eq_true rfl⟩ e2 ?_
  exact rl_eq h 446 dL_law_446 (by decide) hv (n w2 hI2)
set_option maxRecDepth 100000 in
theorem lc_9 (h : rl_K D ad ca l b L xs K) (hJ : rv_J ad) (hL : L ≤ 2560) {i : Nat} (hi : i + 5 ≤ L) (hI : ra_Inv w) (n : ∀ w', ra_Inv w' → K 1214 (rl_lv ad b i) [] w' t) : K 451 (rl_lv ad b i) [] w t := by
  obtain ⟨v1, w1, e1, v2, w2, e2, hv, hI2⟩ := q_allVoters  w hI
  refine rv_aload_n h.1 451 dL_law_451 1 rfl ?_
  refine rl_call (st := []) h 452 dL_law_452 (fn_X10_allVoters hJ w) ce_X10_allVoters lk_L_53 rv_s0 rfl rv_cf8 rfl rfl (Nat.le_of_ble_eq_true rfl) ⟨Nat.le_of_ble_eq_true rfl, Nat.le_of_ble_eq_true rfl⟩ e1 ?_
  refine rv_aload_n h.1 455 dL_law_455 2 rfl ?_
  refine rl_call (st := [.int v1]) h 456 dL_law_456 (fn_X11_allVoters hJ w1) ce_X11_allVoters lk_L_56 rv_s78 rfl rv_cf9 rfl rfl (Nat.le_of_ble_eq_true rfl) ⟨Nat.le_of_ble_eq_true rfl, Nat.le_of_ble_eq_true rfl⟩ e2 ?_
  exact rl_eq h 459 dL_law_459 (by decide) hv (n w2 hI2)
set_option maxRecDepth 100000 in
theorem lc_10 (h : rl_K D ad ca l b L xs K) (hJ : rv_J ad) (hL : L ≤ 2560) {i : Nat} (hi : i + 5 ≤ L) (hI : ra_Inv w) (n : ∀ w', ra_Inv w' → K 1214 (rl_lv ad b i) [] w' t) : K 464 (rl_lv ad b i) [] w t := by
  obtain ⟨v1, w1, e1, v2, w2, e2, hv, hI2⟩ := q_pair (xs (i + 1)) (xs (i + 2)) w hI
  refine rv_aload_n h.1 464 dL_law_464 1 rfl ?_
  refine rl_arg h hL 465 1 (by omega) dL_law_465 dL_law_466 dL_law_467 (by decide) dL_law_468 dL_law_469 ?_
  refine rl_arg h hL 470 2 (by omega) dL_law_470 dL_law_471 dL_law_472 (by decide) dL_law_473 dL_law_474 ?_
  refine rl_call (st := []) h 475 dL_law_475 (fn_X10_pair hJ _ _ w) ce_X10_pair lk_L_57 rv_s0 rfl rv_cf8 rfl rfl (Nat.le_of_ble_eq_true rfl) ⟨Nat.le_of_ble_eq_true rfl, Nat.le_of_ble_eq_true rfl⟩ e1 ?_
  refine rv_aload_n h.1 478 dL_law_478 2 rfl ?_
  refine rl_arg h hL 479 1 (by omega) dL_law_479 dL_law_480 dL_law_481 (by decide) dL_law_482 dL_law_483 ?_
  refine rl_arg h hL 484 2 (by omega) dL_law_484 dL_law_485 dL_law_486 (by decide) dL_law_487 dL_law_488 ?_
  refine rl_call (st := [.int v1]) h 489 dL_law_489 (fn_X11_pair hJ _ _ w1) ce_X11_pair lk_L_60 rv_s78 rfl rv_cf9 rfl rfl (Nat.le_of_ble_eq_true rfl) ⟨Nat.le_of_ble_eq_true rfl, Nat.le_of_ble_eq_true rfl⟩ e2 ?_
  exact rl_eq h 492 dL_law_492 (by decide) hv (n w2 hI2)
set_option maxRecDepth 100000 in
theorem lc_11 (h : rl_K D ad ca l b L xs K) (hJ : rv_J ad) (hL : L ≤ 2560) {i : Nat} (hi : i + 5 ≤ L) (hI : ra_Inv w) (n : ∀ w', ra_Inv w' → K 1214 (rl_lv ad b i) [] w' t) : K 497 (rl_lv ad b i) [] w t := by
  obtain ⟨v1, w1, e1, v2, w2, e2, hv, hI2⟩ := q_winners (xs (i + 1)) w hI
  refine rv_aload_n h.1 497 dL_law_497 1 rfl ?_
  refine rl_arg h hL 498 1 (by omega) dL_law_498 dL_law_499 dL_law_500 (by decide) dL_law_501 dL_law_502 ?_
  refine rl_call (st := []) h 503 dL_law_503 (fn_X10_winners hJ _ w) ce_X10_winners lk_L_61 rv_s0 rfl rv_cf8 rfl rfl (Nat.le_of_ble_eq_true rfl) ⟨Nat.le_of_ble_eq_true rfl, Nat.le_of_ble_eq_true rfl⟩ e1 ?_
  refine rv_aload_n h.1 506 dL_law_506 2 rfl ?_
  refine rl_arg h hL 507 1 (by omega) dL_law_507 dL_law_508 dL_law_509 (by decide) dL_law_510 dL_law_511 ?_
  refine rl_call (st := [.int v1]) h 512 dL_law_512 (fn_X11_winners hJ _ w1) ce_X11_winners lk_L_64 rv_s78 rfl rv_cf9 rfl rfl (Nat.le_of_ble_eq_true rfl) ⟨Nat.le_of_ble_eq_true rfl, Nat.le_of_ble_eq_true rfl⟩ e2 ?_
  exact rl_eq h 515 dL_law_515 (by decide) hv (n w2 hI2)
set_option maxRecDepth 100000 in
theorem lc_12 (h : rl_K D ad ca l b L xs K) (hJ : rv_J ad) (hL : L ≤ 2560) {i : Nat} (hi : i + 5 ≤ L) (hI : ra_Inv w) (n : ∀ w', ra_Inv w' → K 1214 (rl_lv ad b i) [] w' t) : K 520 (rl_lv ad b i) [] w t := by
  obtain ⟨v1, w1, e1, v2, w2, e2, hv, hI2⟩ := q_winner (xs (i + 1)) w hI
  refine rv_aload_n h.1 520 dL_law_520 1 rfl ?_
  refine rl_arg h hL 521 1 (by omega) dL_law_521 dL_law_522 dL_law_523 (by decide) dL_law_524 dL_law_525 ?_
  refine rl_call (st := []) h 526 dL_law_526 (fn_X10_winner hJ _ w) ce_X10_winner lk_L_65 rv_s0 rfl rv_cf8 rfl rfl (Nat.le_of_ble_eq_true rfl) ⟨Nat.le_of_ble_eq_true rfl, Nat.le_of_ble_eq_true rfl⟩ e1 ?_
  refine rv_aload_n h.1 529 dL_law_529 2 rfl ?_
  refine rl_arg h hL 530 1 (by omega) dL_law_530 dL_law_531 dL_law_532 (by decide) dL_law_533 dL_law_534 ?_
  refine rl_call (st := [.int v1]) h 535 dL_law_535 (fn_X11_winner hJ _ w1) ce_X11_winner lk_L_68 rv_s78 rfl rv_cf9 rfl rfl (Nat.le_of_ble_eq_true rfl) ⟨Nat.le_of_ble_eq_true rfl, Nat.le_of_ble_eq_true rfl⟩ e2 ?_
  exact rl_eq h 538 dL_law_538 (by decide) hv (n w2 hI2)
set_option maxRecDepth 100000 in
theorem lc_13 (h : rl_K D ad ca l b L xs K) (hJ : rv_J ad) (hL : L ≤ 2560) {i : Nat} (hi : i + 5 ≤ L) (hI : ra_Inv w) (n : ∀ w', ra_Inv w' → K 1214 (rl_lv ad b i) [] w' t) : K 543 (rl_lv ad b i) [] w t := by
  obtain ⟨v1, w1, e1, v2, w2, e2, hv, hI2⟩ := q_points (xs (i + 1)) (xs (i + 2)) w hI
  refine rv_aload_n h.1 543 dL_law_543 1 rfl ?_
  refine rl_arg h hL 544 1 (by omega) dL_law_544 dL_law_545 dL_law_546 (by decide) dL_law_547 dL_law_548 ?_
  refine rl_arg h hL 549 2 (by omega) dL_law_549 dL_law_550 dL_law_551 (by decide) dL_law_552 dL_law_553 ?_
  refine rl_call (st := []) h 554 dL_law_554 (fn_X10_points hJ _ _ w) ce_X10_points lk_L_69 rv_s0 rfl rv_cf8 rfl rfl (Nat.le_of_ble_eq_true rfl) ⟨Nat.le_of_ble_eq_true rfl, Nat.le_of_ble_eq_true rfl⟩ e1 ?_
  refine rv_aload_n h.1 557 dL_law_557 2 rfl ?_
  refine rl_arg h hL 558 1 (by omega) dL_law_558 dL_law_559 dL_law_560 (by decide) dL_law_561 dL_law_562 ?_
  refine rl_arg h hL 563 2 (by omega) dL_law_563 dL_law_564 dL_law_565 (by decide) dL_law_566 dL_law_567 ?_
  refine rl_call (st := [.int v1]) h 568 dL_law_568 (fn_X11_points hJ _ _ w1) ce_X11_points lk_L_72 rv_s78 rfl rv_cf9 rfl rfl (Nat.le_of_ble_eq_true rfl) ⟨Nat.le_of_ble_eq_true rfl, Nat.le_of_ble_eq_true rfl⟩ e2 ?_
  exact rl_eq h 571 dL_law_571 (by decide) hv (n w2 hI2)
set_option maxRecDepth 100000 in
theorem lc_14 (h : rl_K D ad ca l b L xs K) (hJ : rv_J ad) (hL : L ≤ 2560) {i : Nat} (hi : i + 5 ≤ L) (hI : ra_Inv w) (n : ∀ w', ra_Inv w' → K 1214 (rl_lv ad b i) [] w' t) : K 576 (rl_lv ad b i) [] w t := by
  obtain ⟨v1, w1, e1, v2, w2, e2, hv, hI2⟩ := q_beatsAll  w hI
  refine rv_aload_n h.1 576 dL_law_576 1 rfl ?_
  refine rl_call (st := []) h 577 dL_law_577 (fn_X10_beatsAll hJ w) ce_X10_beatsAll lk_L_73 rv_s0 rfl rv_cf8 rfl rfl (Nat.le_of_ble_eq_true rfl) ⟨Nat.le_of_ble_eq_true rfl, Nat.le_of_ble_eq_true rfl⟩ e1 ?_
  refine rv_aload_n h.1 580 dL_law_580 2 rfl ?_
  refine rl_call (st := [.int v1]) h 581 dL_law_581 (fn_X11_beatsAll hJ w1) ce_X11_beatsAll lk_L_76 rv_s78 rfl rv_cf9 rfl rfl (Nat.le_of_ble_eq_true rfl) ⟨Nat.le_of_ble_eq_true rfl, Nat.le_of_ble_eq_true rfl⟩ e2 ?_
  exact rl_eq h 584 dL_law_584 (by decide) hv (n w2 hI2)
set_option maxRecDepth 100000 in
theorem lc_15 (h : rl_K D ad ca l b L xs K) (hJ : rv_J ad) (hL : L ≤ 2560) {i : Nat} (hi : i + 5 ≤ L) (hI : ra_Inv w) (n : ∀ w', ra_Inv w' → K 1214 (rl_lv ad b i) [] w' t) : K 589 (rl_lv ad b i) [] w t := by
  obtain ⟨v1, w1, e1, v2, w2, e2, hv, hI2⟩ := q_losesToAll  w hI
  refine rv_aload_n h.1 589 dL_law_589 1 rfl ?_
  refine rl_call (st := []) h 590 dL_law_590 (fn_X10_losesToAll hJ w) ce_X10_losesToAll lk_L_77 rv_s0 rfl rv_cf8 rfl rfl (Nat.le_of_ble_eq_true rfl) ⟨Nat.le_of_ble_eq_true rfl, Nat.le_of_ble_eq_true rfl⟩ e1 ?_
  refine rv_aload_n h.1 593 dL_law_593 2 rfl ?_
  refine rl_call (st := [.int v1]) h 594 dL_law_594 (fn_X11_losesToAll hJ w1) ce_X11_losesToAll lk_L_80 rv_s78 rfl rv_cf9 rfl rfl (Nat.le_of_ble_eq_true rfl) ⟨Nat.le_of_ble_eq_true rfl, Nat.le_of_ble_eq_true rfl⟩ e2 ?_
  exact rl_eq h 597 dL_law_597 (by decide) hv (n w2 hI2)
set_option maxRecDepth 100000 in
theorem lc_16 (h : rl_K D ad ca l b L xs K) (hJ : rv_J ad) (hL : L ≤ 2560) {i : Nat} (hi : i + 5 ≤ L) (hI : ra_Inv w) (n : ∀ w', ra_Inv w' → K 1214 (rl_lv ad b i) [] w' t) : K 602 (rl_lv ad b i) [] w t := by
  obtain ⟨v1, w1, e1, v2, w2, e2, hv, hI2⟩ := q_smith  w hI
  refine rv_aload_n h.1 602 dL_law_602 1 rfl ?_
  refine rl_call (st := []) h 603 dL_law_603 (fn_X10_smith hJ w) ce_X10_smith lk_L_81 rv_s0 rfl rv_cf8 rfl rfl (Nat.le_of_ble_eq_true rfl) ⟨Nat.le_of_ble_eq_true rfl, Nat.le_of_ble_eq_true rfl⟩ e1 ?_
  refine rv_aload_n h.1 606 dL_law_606 2 rfl ?_
  refine rl_call (st := [.int v1]) h 607 dL_law_607 (fn_X11_smith hJ w1) ce_X11_smith lk_L_84 rv_s78 rfl rv_cf9 rfl rfl (Nat.le_of_ble_eq_true rfl) ⟨Nat.le_of_ble_eq_true rfl, Nat.le_of_ble_eq_true rfl⟩ e2 ?_
  exact rl_eq h 610 dL_law_610 (by decide) hv (n w2 hI2)
set_option maxRecDepth 100000 in
theorem lc_17 (h : rl_K D ad ca l b L xs K) (hJ : rv_J ad) (hL : L ≤ 2560) {i : Nat} (hi : i + 5 ≤ L) (hI : ra_Inv w) (n : ∀ w', ra_Inv w' → K 1214 (rl_lv ad b i) [] w' t) : K 615 (rl_lv ad b i) [] w t := by
  obtain ⟨v1, w1, e1, v2, w2, e2, hv, hI2⟩ := q_strength (xs (i + 1)) (xs (i + 2)) w hI
  refine rv_aload_n h.1 615 dL_law_615 1 rfl ?_
  refine rl_arg h hL 616 1 (by omega) dL_law_616 dL_law_617 dL_law_618 (by decide) dL_law_619 dL_law_620 ?_
  refine rl_arg h hL 621 2 (by omega) dL_law_621 dL_law_622 dL_law_623 (by decide) dL_law_624 dL_law_625 ?_
  refine rl_call (st := []) h 626 dL_law_626 (fn_X10_strength hJ _ _ w) ce_X10_strength lk_L_85 rv_s0 rfl rv_cf8 rfl rfl (Nat.le_of_ble_eq_true rfl) ⟨Nat.le_of_ble_eq_true rfl, Nat.le_of_ble_eq_true rfl⟩ e1 ?_
  refine rv_aload_n h.1 629 dL_law_629 2 rfl ?_
  refine rl_arg h hL 630 1 (by omega) dL_law_630 dL_law_631 dL_law_632 (by decide) dL_law_633 dL_law_634 ?_
  refine rl_arg h hL 635 2 (by omega) dL_law_635 dL_law_636 dL_law_637 (by decide) dL_law_638 dL_law_639 ?_
  refine rl_call (st := [.int v1]) h 640 dL_law_640 (fn_X11_strength hJ _ _ w1) ce_X11_strength lk_L_88 rv_s78 rfl rv_cf9 rfl rfl (Nat.le_of_ble_eq_true rfl) ⟨Nat.le_of_ble_eq_true rfl, Nat.le_of_ble_eq_true rfl⟩ e2 ?_
  exact rl_eq h 643 dL_law_643 (by decide) hv (n w2 hI2)
set_option maxRecDepth 100000 in
theorem lc_18 (h : rl_K D ad ca l b L xs K) (hJ : rv_J ad) (hL : L ≤ 2560) {i : Nat} (hi : i + 5 ≤ L) (hI : ra_Inv w) (n : ∀ w', ra_Inv w' → K 1214 (rl_lv ad b i) [] w' t) : K 648 (rl_lv ad b i) [] w t := by
  obtain ⟨v1, w1, e1, v2, w2, e2, hv, hI2⟩ := q_isLocked (xs (i + 1)) (xs (i + 2)) w hI
  refine rv_aload_n h.1 648 dL_law_648 1 rfl ?_
  refine rl_arg h hL 649 1 (by omega) dL_law_649 dL_law_650 dL_law_651 (by decide) dL_law_652 dL_law_653 ?_
  refine rl_arg h hL 654 2 (by omega) dL_law_654 dL_law_655 dL_law_656 (by decide) dL_law_657 dL_law_658 ?_
  refine rl_call (st := []) h 659 dL_law_659 (fn_X10_isLocked hJ _ _ w) ce_X10_isLocked lk_L_89 rv_s0 rfl rv_cf8 rfl rfl (Nat.le_of_ble_eq_true rfl) ⟨Nat.le_of_ble_eq_true rfl, Nat.le_of_ble_eq_true rfl⟩ e1 ?_
  refine rv_aload_n h.1 662 dL_law_662 2 rfl ?_
  refine rl_arg h hL 663 1 (by omega) dL_law_663 dL_law_664 dL_law_665 (by decide) dL_law_666 dL_law_667 ?_
  refine rl_arg h hL 668 2 (by omega) dL_law_668 dL_law_669 dL_law_670 (by decide) dL_law_671 dL_law_672 ?_
  refine rl_call (st := [.int v1]) h 673 dL_law_673 (fn_X11_isLocked hJ _ _ w1) ce_X11_isLocked lk_L_92 rv_s78 rfl rv_cf9 rfl rfl (Nat.le_of_ble_eq_true rfl) ⟨Nat.le_of_ble_eq_true rfl, Nat.le_of_ble_eq_true rfl⟩ e2 ?_
  exact rl_eq h 676 dL_law_676 (by decide) hv (n w2 hI2)
set_option maxRecDepth 100000 in
theorem lc_19 (h : rl_K D ad ca l b L xs K) (hJ : rv_J ad) (hL : L ≤ 2560) {i : Nat} (hi : i + 5 ≤ L) (hI : ra_Inv w) (n : ∀ w', ra_Inv w' → K 1214 (rl_lv ad b i) [] w' t) : K 681 (rl_lv ad b i) [] w t := by
  obtain ⟨v1, w1, e1, v2, w2, e2, hv, hI2⟩ := q_rounds (xs (i + 1)) w hI
  refine rv_aload_n h.1 681 dL_law_681 1 rfl ?_
  refine rl_arg h hL 682 1 (by omega) dL_law_682 dL_law_683 dL_law_684 (by decide) dL_law_685 dL_law_686 ?_
  refine rl_call (st := []) h 687 dL_law_687 (fn_X10_rounds hJ _ w) ce_X10_rounds lk_L_93 rv_s0 rfl rv_cf8 rfl rfl (Nat.le_of_ble_eq_true rfl) ⟨Nat.le_of_ble_eq_true rfl, Nat.le_of_ble_eq_true rfl⟩ e1 ?_
  refine rv_aload_n h.1 690 dL_law_690 2 rfl ?_
  refine rl_arg h hL 691 1 (by omega) dL_law_691 dL_law_692 dL_law_693 (by decide) dL_law_694 dL_law_695 ?_
  refine rl_call (st := [.int v1]) h 696 dL_law_696 (fn_X11_rounds hJ _ w1) ce_X11_rounds lk_L_96 rv_s78 rfl rv_cf9 rfl rfl (Nat.le_of_ble_eq_true rfl) ⟨Nat.le_of_ble_eq_true rfl, Nat.le_of_ble_eq_true rfl⟩ e2 ?_
  exact rl_eq h 699 dL_law_699 (by decide) hv (n w2 hI2)
set_option maxRecDepth 100000 in
theorem lc_20 (h : rl_K D ad ca l b L xs K) (hJ : rv_J ad) (hL : L ≤ 2560) {i : Nat} (hi : i + 5 ≤ L) (hI : ra_Inv w) (n : ∀ w', ra_Inv w' → K 1214 (rl_lv ad b i) [] w' t) : K 704 (rl_lv ad b i) [] w t := by
  obtain ⟨v1, w1, e1, v2, w2, e2, hv, hI2⟩ := q_leaves (xs (i + 1)) (xs (i + 2)) w hI
  refine rv_aload_n h.1 704 dL_law_704 1 rfl ?_
  refine rl_arg h hL 705 1 (by omega) dL_law_705 dL_law_706 dL_law_707 (by decide) dL_law_708 dL_law_709 ?_
  refine rl_arg h hL 710 2 (by omega) dL_law_710 dL_law_711 dL_law_712 (by decide) dL_law_713 dL_law_714 ?_
  refine rl_call (st := []) h 715 dL_law_715 (fn_X10_leaves hJ _ _ w) ce_X10_leaves lk_L_97 rv_s0 rfl rv_cf8 rfl rfl (Nat.le_of_ble_eq_true rfl) ⟨Nat.le_of_ble_eq_true rfl, Nat.le_of_ble_eq_true rfl⟩ e1 ?_
  refine rv_aload_n h.1 718 dL_law_718 2 rfl ?_
  refine rl_arg h hL 719 1 (by omega) dL_law_719 dL_law_720 dL_law_721 (by decide) dL_law_722 dL_law_723 ?_
  refine rl_arg h hL 724 2 (by omega) dL_law_724 dL_law_725 dL_law_726 (by decide) dL_law_727 dL_law_728 ?_
  refine rl_call (st := [.int v1]) h 729 dL_law_729 (fn_X11_leaves hJ _ _ w1) ce_X11_leaves lk_L_100 rv_s78 rfl rv_cf9 rfl rfl (Nat.le_of_ble_eq_true rfl) ⟨Nat.le_of_ble_eq_true rfl, Nat.le_of_ble_eq_true rfl⟩ e2 ?_
  exact rl_eq h 732 dL_law_732 (by decide) hv (n w2 hI2)
set_option maxRecDepth 100000 in
theorem lc_21 (h : rl_K D ad ca l b L xs K) (hJ : rv_J ad) (hL : L ≤ 2560) {i : Nat} (hi : i + 5 ≤ L) (hI : ra_Inv w) (n : ∀ w', ra_Inv w' → K 1214 (rl_lv ad b i) [] w' t) : K 737 (rl_lv ad b i) [] w t := by
  obtain ⟨v1, w1, e1, v2, w2, e2, hv, hI2⟩ := q_tally (xs (i + 1)) (xs (i + 2)) (xs (i + 3)) w hI
  refine rv_aload_n h.1 737 dL_law_737 1 rfl ?_
  refine rl_arg h hL 738 1 (by omega) dL_law_738 dL_law_739 dL_law_740 (by decide) dL_law_741 dL_law_742 ?_
  refine rl_arg h hL 743 2 (by omega) dL_law_743 dL_law_744 dL_law_745 (by decide) dL_law_746 dL_law_747 ?_
  refine rl_arg h hL 748 3 (by omega) dL_law_748 dL_law_749 dL_law_750 (by decide) dL_law_751 dL_law_752 ?_
  refine rl_call (st := []) h 753 dL_law_753 (fn_X10_tally hJ _ _ _ w) ce_X10_tally lk_L_101 rv_s0 rfl rv_cf8 rfl rfl (Nat.le_of_ble_eq_true rfl) ⟨Nat.le_of_ble_eq_true rfl, Nat.le_of_ble_eq_true rfl⟩ e1 ?_
  refine rv_aload_n h.1 756 dL_law_756 2 rfl ?_
  refine rl_arg h hL 757 1 (by omega) dL_law_757 dL_law_758 dL_law_759 (by decide) dL_law_760 dL_law_761 ?_
  refine rl_arg h hL 762 2 (by omega) dL_law_762 dL_law_763 dL_law_764 (by decide) dL_law_765 dL_law_766 ?_
  refine rl_arg h hL 767 3 (by omega) dL_law_767 dL_law_768 dL_law_769 (by decide) dL_law_770 dL_law_771 ?_
  refine rl_call (st := [.int v1]) h 772 dL_law_772 (fn_X11_tally hJ _ _ _ w1) ce_X11_tally lk_L_105 rv_s78 rfl rv_cf9 rfl rfl (Nat.le_of_ble_eq_true rfl) ⟨Nat.le_of_ble_eq_true rfl, Nat.le_of_ble_eq_true rfl⟩ e2 ?_
  exact rl_eq h 775 dL_law_775 (by decide) hv (n w2 hI2)
set_option maxRecDepth 100000 in
theorem lc_22 (h : rl_K D ad ca l b L xs K) (hJ : rv_J ad) (hL : L ≤ 2560) {i : Nat} (hi : i + 5 ≤ L) (hI : ra_Inv w) (n : ∀ w', ra_Inv w' → K 1214 (rl_lv ad b i) [] w' t) : K 780 (rl_lv ad b i) [] w t := by
  obtain ⟨v1, w1, e1, v2, w2, e2, hv, hI2⟩ := q_kemenyValue  w hI
  refine rv_aload_n h.1 780 dL_law_780 1 rfl ?_
  refine rl_call (st := []) h 781 dL_law_781 (fn_X10_kemenyValue hJ w) ce_X10_kemenyValue lk_L_106 rv_s0 rfl rv_cf8 rfl rfl (Nat.le_of_ble_eq_true rfl) ⟨Nat.le_of_ble_eq_true rfl, Nat.le_of_ble_eq_true rfl⟩ e1 ?_
  refine rv_aload_n h.1 784 dL_law_784 2 rfl ?_
  refine rl_call (st := [.int v1]) h 785 dL_law_785 (fn_X11_kemenyValue hJ w1) ce_X11_kemenyValue lk_L_109 rv_s78 rfl rv_cf9 rfl rfl (Nat.le_of_ble_eq_true rfl) ⟨Nat.le_of_ble_eq_true rfl, Nat.le_of_ble_eq_true rfl⟩ e2 ?_
  exact rl_eq h 788 dL_law_788 (by decide) hv (n w2 hI2)
set_option maxRecDepth 100000 in
theorem lc_23 (h : rl_K D ad ca l b L xs K) (hJ : rv_J ad) (hL : L ≤ 2560) {i : Nat} (hi : i + 5 ≤ L) (hI : ra_Inv w) (n : ∀ w', ra_Inv w' → K 1214 (rl_lv ad b i) [] w' t) : K 793 (rl_lv ad b i) [] w t := by
  obtain ⟨v1, w1, e1, v2, w2, e2, hv, hI2⟩ := q_kemeny (xs (i + 1)) w hI
  refine rv_aload_n h.1 793 dL_law_793 1 rfl ?_
  refine rl_arg h hL 794 1 (by omega) dL_law_794 dL_law_795 dL_law_796 (by decide) dL_law_797 dL_law_798 ?_
  refine rl_call (st := []) h 799 dL_law_799 (fn_X10_kemeny hJ _ w) ce_X10_kemeny lk_L_110 rv_s0 rfl rv_cf8 rfl rfl (Nat.le_of_ble_eq_true rfl) ⟨Nat.le_of_ble_eq_true rfl, Nat.le_of_ble_eq_true rfl⟩ e1 ?_
  refine rv_aload_n h.1 802 dL_law_802 2 rfl ?_
  refine rl_arg h hL 803 1 (by omega) dL_law_803 dL_law_804 dL_law_805 (by decide) dL_law_806 dL_law_807 ?_
  refine rl_call (st := [.int v1]) h 808 dL_law_808 (fn_X11_kemeny hJ _ w1) ce_X11_kemeny lk_L_113 rv_s78 rfl rv_cf9 rfl rfl (Nat.le_of_ble_eq_true rfl) ⟨Nat.le_of_ble_eq_true rfl, Nat.le_of_ble_eq_true rfl⟩ e2 ?_
  exact rl_eq h 811 dL_law_811 (by decide) hv (n w2 hI2)
set_option maxRecDepth 100000 in
theorem lc_24 (h : rl_K D ad ca l b L xs K) (hJ : rv_J ad) (hL : L ≤ 2560) {i : Nat} (hi : i + 5 ≤ L) (hI : ra_Inv w) (n : ∀ w', ra_Inv w' → K 1214 (rl_lv ad b i) [] w' t) : K 816 (rl_lv ad b i) [] w t := by
  obtain ⟨v1, w1, e1, v2, w2, e2, hv, hI2⟩ := q_favourite  w hI
  refine rv_aload_n h.1 816 dL_law_816 1 rfl ?_
  refine rl_call (st := []) h 817 dL_law_817 (fn_X10_favourite hJ w) ce_X10_favourite lk_L_114 rv_s0 rfl rv_cf8 rfl rfl (Nat.le_of_ble_eq_true rfl) ⟨Nat.le_of_ble_eq_true rfl, Nat.le_of_ble_eq_true rfl⟩ e1 ?_
  refine rv_aload_n h.1 820 dL_law_820 2 rfl ?_
  refine rl_call (st := [.int v1]) h 821 dL_law_821 (fn_X11_favourite hJ w1) ce_X11_favourite lk_L_117 rv_s78 rfl rv_cf9 rfl rfl (Nat.le_of_ble_eq_true rfl) ⟨Nat.le_of_ble_eq_true rfl, Nat.le_of_ble_eq_true rfl⟩ e2 ?_
  exact rl_eq h 824 dL_law_824 (by decide) hv (n w2 hI2)
set_option maxRecDepth 100000 in
theorem lc_25 (h : rl_K D ad ca l b L xs K) (hJ : rv_J ad) (hL : L ≤ 2560) {i : Nat} (hi : i + 5 ≤ L) (hI : ra_Inv w) (n : ∀ w', ra_Inv w' → K 1214 (rl_lv ad b i) [] w' t) : K 829 (rl_lv ad b i) [] w t := by
  obtain ⟨v1, w1, e1, v2, w2, e2, hv, hI2⟩ := q_strategy (xs (i + 1)) (xs (i + 2)) w hI
  refine rv_aload_n h.1 829 dL_law_829 1 rfl ?_
  refine rl_arg h hL 830 1 (by omega) dL_law_830 dL_law_831 dL_law_832 (by decide) dL_law_833 dL_law_834 ?_
  refine rl_arg h hL 835 2 (by omega) dL_law_835 dL_law_836 dL_law_837 (by decide) dL_law_838 dL_law_839 ?_
  refine rl_call (st := []) h 840 dL_law_840 (fn_X10_strategy hJ _ _ w) ce_X10_strategy lk_L_118 rv_s0 rfl rv_cf8 rfl rfl (Nat.le_of_ble_eq_true rfl) ⟨Nat.le_of_ble_eq_true rfl, Nat.le_of_ble_eq_true rfl⟩ e1 ?_
  refine rv_aload_n h.1 843 dL_law_843 2 rfl ?_
  refine rl_arg h hL 844 1 (by omega) dL_law_844 dL_law_845 dL_law_846 (by decide) dL_law_847 dL_law_848 ?_
  refine rl_arg h hL 849 2 (by omega) dL_law_849 dL_law_850 dL_law_851 (by decide) dL_law_852 dL_law_853 ?_
  refine rl_call (st := [.int v1]) h 854 dL_law_854 (fn_X11_strategy hJ _ _ w1) ce_X11_strategy lk_L_121 rv_s78 rfl rv_cf9 rfl rfl (Nat.le_of_ble_eq_true rfl) ⟨Nat.le_of_ble_eq_true rfl, Nat.le_of_ble_eq_true rfl⟩ e2 ?_
  exact rl_eq h 857 dL_law_857 (by decide) hv (n w2 hI2)
set_option maxRecDepth 100000 in
theorem lc_26 (h : rl_K D ad ca l b L xs K) (hJ : rv_J ad) (hL : L ≤ 2560) {i : Nat} (hi : i + 5 ≤ L) (hI : ra_Inv w) (n : ∀ w', ra_Inv w' → K 1214 (rl_lv ad b i) [] w' t) : K 862 (rl_lv ad b i) [] w t := by
  obtain ⟨v1, w1, e1, v2, w2, e2, hv, hI2⟩ := q_strategyAt (xs (i + 1)) (xs (i + 2)) (xs (i + 3)) w hI
  refine rv_aload_n h.1 862 dL_law_862 1 rfl ?_
  refine rl_arg h hL 863 1 (by omega) dL_law_863 dL_law_864 dL_law_865 (by decide) dL_law_866 dL_law_867 ?_
  refine rl_arg h hL 868 2 (by omega) dL_law_868 dL_law_869 dL_law_870 (by decide) dL_law_871 dL_law_872 ?_
  refine rl_arg h hL 873 3 (by omega) dL_law_873 dL_law_874 dL_law_875 (by decide) dL_law_876 dL_law_877 ?_
  refine rl_call (st := []) h 878 dL_law_878 (fn_X10_strategyAt hJ _ _ _ w) ce_X10_strategyAt lk_L_122 rv_s0 rfl rv_cf8 rfl rfl (Nat.le_of_ble_eq_true rfl) ⟨Nat.le_of_ble_eq_true rfl, Nat.le_of_ble_eq_true rfl⟩ e1 ?_
  refine rv_aload_n h.1 881 dL_law_881 2 rfl ?_
  refine rl_arg h hL 882 1 (by omega) dL_law_882 dL_law_883 dL_law_884 (by decide) dL_law_885 dL_law_886 ?_
  refine rl_arg h hL 887 2 (by omega) dL_law_887 dL_law_888 dL_law_889 (by decide) dL_law_890 dL_law_891 ?_
  refine rl_arg h hL 892 3 (by omega) dL_law_892 dL_law_893 dL_law_894 (by decide) dL_law_895 dL_law_896 ?_
  refine rl_call (st := [.int v1]) h 897 dL_law_897 (fn_X11_strategyAt hJ _ _ _ w1) ce_X11_strategyAt lk_L_125 rv_s78 rfl rv_cf9 rfl rfl (Nat.le_of_ble_eq_true rfl) ⟨Nat.le_of_ble_eq_true rfl, Nat.le_of_ble_eq_true rfl⟩ e2 ?_
  exact rl_eq h 900 dL_law_900 (by decide) hv (n w2 hI2)
set_option maxRecDepth 100000 in
theorem lc_27 (h : rl_K D ad ca l b L xs K) (hJ : rv_J ad) (hL : L ≤ 2560) {i : Nat} (hi : i + 5 ≤ L) (hI : ra_Inv w) (n : ∀ w', ra_Inv w' → K 1214 (rl_lv ad b i) [] w' t) : K 905 (rl_lv ad b i) [] w t := by
  obtain ⟨v1, w1, e1, v2, w2, e2, hv, hI2⟩ := q_strategists (xs (i + 1)) w hI
  refine rv_aload_n h.1 905 dL_law_905 1 rfl ?_
  refine rl_arg h hL 906 1 (by omega) dL_law_906 dL_law_907 dL_law_908 (by decide) dL_law_909 dL_law_910 ?_
  refine rl_call (st := []) h 911 dL_law_911 (fn_X10_strategists hJ _ w) ce_X10_strategists lk_L_126 rv_s0 rfl rv_cf8 rfl rfl (Nat.le_of_ble_eq_true rfl) ⟨Nat.le_of_ble_eq_true rfl, Nat.le_of_ble_eq_true rfl⟩ e1 ?_
  refine rv_aload_n h.1 914 dL_law_914 2 rfl ?_
  refine rl_arg h hL 915 1 (by omega) dL_law_915 dL_law_916 dL_law_917 (by decide) dL_law_918 dL_law_919 ?_
  refine rl_call (st := [.int v1]) h 920 dL_law_920 (fn_X11_strategists hJ _ w1) ce_X11_strategists lk_L_129 rv_s78 rfl rv_cf9 rfl rfl (Nat.le_of_ble_eq_true rfl) ⟨Nat.le_of_ble_eq_true rfl, Nat.le_of_ble_eq_true rfl⟩ e2 ?_
  exact rl_eq h 923 dL_law_923 (by decide) hv (n w2 hI2)
set_option maxRecDepth 100000 in
theorem lc_28 (h : rl_K D ad ca l b L xs K) (hJ : rv_J ad) (hL : L ≤ 2560) {i : Nat} (hi : i + 5 ≤ L) (hI : ra_Inv w) (n : ∀ w', ra_Inv w' → K 1214 (rl_lv ad b i) [] w' t) : K 928 (rl_lv ad b i) [] w t := by
  obtain ⟨v1, w1, e1, v2, w2, e2, hv, hI2⟩ := q_absentees (xs (i + 1)) w hI
  refine rv_aload_n h.1 928 dL_law_928 1 rfl ?_
  refine rl_arg h hL 929 1 (by omega) dL_law_929 dL_law_930 dL_law_931 (by decide) dL_law_932 dL_law_933 ?_
  refine rl_call (st := []) h 934 dL_law_934 (fn_X10_absentees hJ _ w) ce_X10_absentees lk_L_130 rv_s0 rfl rv_cf8 rfl rfl (Nat.le_of_ble_eq_true rfl) ⟨Nat.le_of_ble_eq_true rfl, Nat.le_of_ble_eq_true rfl⟩ e1 ?_
  refine rv_aload_n h.1 937 dL_law_937 2 rfl ?_
  refine rl_arg h hL 938 1 (by omega) dL_law_938 dL_law_939 dL_law_940 (by decide) dL_law_941 dL_law_942 ?_
  refine rl_call (st := [.int v1]) h 943 dL_law_943 (fn_X11_absentees hJ _ w1) ce_X11_absentees lk_L_133 rv_s78 rfl rv_cf9 rfl rfl (Nat.le_of_ble_eq_true rfl) ⟨Nat.le_of_ble_eq_true rfl, Nat.le_of_ble_eq_true rfl⟩ e2 ?_
  exact rl_eq h 946 dL_law_946 (by decide) hv (n w2 hI2)
set_option maxRecDepth 100000 in
theorem lc_29 (h : rl_K D ad ca l b L xs K) (hJ : rv_J ad) (hL : L ≤ 2560) {i : Nat} (hi : i + 5 ≤ L) (hI : ra_Inv w) (n : ∀ w', ra_Inv w' → K 1214 (rl_lv ad b i) [] w' t) : K 951 (rl_lv ad b i) [] w t := by
  obtain ⟨v1, w1, e1, v2, w2, e2, hv, hI2⟩ := q_raisers (xs (i + 1)) w hI
  refine rv_aload_n h.1 951 dL_law_951 1 rfl ?_
  refine rl_arg h hL 952 1 (by omega) dL_law_952 dL_law_953 dL_law_954 (by decide) dL_law_955 dL_law_956 ?_
  refine rl_call (st := []) h 957 dL_law_957 (fn_X10_raisers hJ _ w) ce_X10_raisers lk_L_134 rv_s0 rfl rv_cf8 rfl rfl (Nat.le_of_ble_eq_true rfl) ⟨Nat.le_of_ble_eq_true rfl, Nat.le_of_ble_eq_true rfl⟩ e1 ?_
  refine rv_aload_n h.1 960 dL_law_960 2 rfl ?_
  refine rl_arg h hL 961 1 (by omega) dL_law_961 dL_law_962 dL_law_963 (by decide) dL_law_964 dL_law_965 ?_
  refine rl_call (st := [.int v1]) h 966 dL_law_966 (fn_X11_raisers hJ _ w1) ce_X11_raisers lk_L_137 rv_s78 rfl rv_cf9 rfl rfl (Nat.le_of_ble_eq_true rfl) ⟨Nat.le_of_ble_eq_true rfl, Nat.le_of_ble_eq_true rfl⟩ e2 ?_
  exact rl_eq h 969 dL_law_969 (by decide) hv (n w2 hI2)
set_option maxRecDepth 100000 in
theorem lc_30 (h : rl_K D ad ca l b L xs K) (hJ : rv_J ad) (hL : L ≤ 2560) {i : Nat} (hi : i + 5 ≤ L) (hI : ra_Inv w) (n : ∀ w', ra_Inv w' → K 1214 (rl_lv ad b i) [] w' t) : K 974 (rl_lv ad b i) [] w t := by
  obtain ⟨v1, w1, e1, v2, w2, e2, hv, hI2⟩ := q_spoilers (xs (i + 1)) w hI
  refine rv_aload_n h.1 974 dL_law_974 1 rfl ?_
  refine rl_arg h hL 975 1 (by omega) dL_law_975 dL_law_976 dL_law_977 (by decide) dL_law_978 dL_law_979 ?_
  refine rl_call (st := []) h 980 dL_law_980 (fn_X10_spoilers hJ _ w) ce_X10_spoilers lk_L_138 rv_s0 rfl rv_cf8 rfl rfl (Nat.le_of_ble_eq_true rfl) ⟨Nat.le_of_ble_eq_true rfl, Nat.le_of_ble_eq_true rfl⟩ e1 ?_
  refine rv_aload_n h.1 983 dL_law_983 2 rfl ?_
  refine rl_arg h hL 984 1 (by omega) dL_law_984 dL_law_985 dL_law_986 (by decide) dL_law_987 dL_law_988 ?_
  refine rl_call (st := [.int v1]) h 989 dL_law_989 (fn_X11_spoilers hJ _ w1) ce_X11_spoilers lk_L_141 rv_s78 rfl rv_cf9 rfl rfl (Nat.le_of_ble_eq_true rfl) ⟨Nat.le_of_ble_eq_true rfl, Nat.le_of_ble_eq_true rfl⟩ e2 ?_
  exact rl_eq h 992 dL_law_992 (by decide) hv (n w2 hI2)
set_option maxRecDepth 100000 in
theorem lc_31 (h : rl_K D ad ca l b L xs K) (hJ : rv_J ad) (hL : L ≤ 2560) {i : Nat} (hi : i + 5 ≤ L) (hI : ra_Inv w) (n : ∀ w', ra_Inv w' → K 1214 (rl_lv ad b i) [] w' t) : K 997 (rl_lv ad b i) [] w t := by
  obtain ⟨v1, w1, e1, v2, w2, e2, hv, hI2⟩ := q_split (xs (i + 1)) w hI
  refine rv_aload_n h.1 997 dL_law_997 1 rfl ?_
  refine rl_arg h hL 998 1 (by omega) dL_law_998 dL_law_999 dL_law_1000 (by decide) dL_law_1001 dL_law_1002 ?_
  refine rl_call (st := []) h 1003 dL_law_1003 (fn_X10_split hJ _ w) ce_X10_split lk_L_142 rv_s0 rfl rv_cf8 rfl rfl (Nat.le_of_ble_eq_true rfl) ⟨Nat.le_of_ble_eq_true rfl, Nat.le_of_ble_eq_true rfl⟩ e1 ?_
  refine rv_aload_n h.1 1006 dL_law_1006 2 rfl ?_
  refine rl_arg h hL 1007 1 (by omega) dL_law_1007 dL_law_1008 dL_law_1009 (by decide) dL_law_1010 dL_law_1011 ?_
  refine rl_call (st := [.int v1]) h 1012 dL_law_1012 (fn_X11_split hJ _ w1) ce_X11_split lk_L_145 rv_s78 rfl rv_cf9 rfl rfl (Nat.le_of_ble_eq_true rfl) ⟨Nat.le_of_ble_eq_true rfl, Nat.le_of_ble_eq_true rfl⟩ e2 ?_
  exact rl_eq h 1015 dL_law_1015 (by decide) hv (n w2 hI2)
set_option maxRecDepth 100000 in
theorem lc_32 (h : rl_K D ad ca l b L xs K) (hJ : rv_J ad) (hL : L ≤ 2560) {i : Nat} (hi : i + 5 ≤ L) (hI : ra_Inv w) (n : ∀ w', ra_Inv w' → K 1214 (rl_lv ad b i) [] w' t) : K 1020 (rl_lv ad b i) [] w t := by
  obtain ⟨v1, w1, e1, v2, w2, e2, hv, hI2⟩ := q_removals (xs (i + 1)) w hI
  refine rv_aload_n h.1 1020 dL_law_1020 1 rfl ?_
  refine rl_arg h hL 1021 1 (by omega) dL_law_1021 dL_law_1022 dL_law_1023 (by decide) dL_law_1024 dL_law_1025 ?_
  refine rl_call (st := []) h 1026 dL_law_1026 (fn_X10_removals hJ _ w) ce_X10_removals lk_L_146 rv_s0 rfl rv_cf8 rfl rfl (Nat.le_of_ble_eq_true rfl) ⟨Nat.le_of_ble_eq_true rfl, Nat.le_of_ble_eq_true rfl⟩ e1 ?_
  refine rv_aload_n h.1 1029 dL_law_1029 2 rfl ?_
  refine rl_arg h hL 1030 1 (by omega) dL_law_1030 dL_law_1031 dL_law_1032 (by decide) dL_law_1033 dL_law_1034 ?_
  refine rl_call (st := [.int v1]) h 1035 dL_law_1035 (fn_X11_removals hJ _ w1) ce_X11_removals lk_L_149 rv_s78 rfl rv_cf9 rfl rfl (Nat.le_of_ble_eq_true rfl) ⟨Nat.le_of_ble_eq_true rfl, Nat.le_of_ble_eq_true rfl⟩ e2 ?_
  exact rl_eq h 1038 dL_law_1038 (by decide) hv (n w2 hI2)
set_option maxRecDepth 100000 in
theorem lc_33 (h : rl_K D ad ca l b L xs K) (hJ : rv_J ad) (hL : L ≤ 2560) {i : Nat} (hi : i + 5 ≤ L) (hI : ra_Inv w) (n : ∀ w', ra_Inv w' → K 1214 (rl_lv ad b i) [] w' t) : K 1043 (rl_lv ad b i) [] w t := by
  obtain ⟨v1, w1, e1, v2, w2, e2, hv, hI2⟩ := q_sample (xs (i + 1)) (xs (i + 2)) (xs (i + 3)) w hI
  refine rv_aload_n h.1 1043 dL_law_1043 1 rfl ?_
  refine rl_arg h hL 1044 1 (by omega) dL_law_1044 dL_law_1045 dL_law_1046 (by decide) dL_law_1047 dL_law_1048 ?_
  refine rl_arg h hL 1049 2 (by omega) dL_law_1049 dL_law_1050 dL_law_1051 (by decide) dL_law_1052 dL_law_1053 ?_
  refine rl_arg h hL 1054 3 (by omega) dL_law_1054 dL_law_1055 dL_law_1056 (by decide) dL_law_1057 dL_law_1058 ?_
  refine rl_call (st := []) h 1059 dL_law_1059 (fn_X10_sample hJ _ _ _ w) ce_X10_sample lk_L_150 rv_s0 rfl rv_cf8 rfl rfl (Nat.le_of_ble_eq_true rfl) ⟨Nat.le_of_ble_eq_true rfl, Nat.le_of_ble_eq_true rfl⟩ e1 ?_
  refine rv_aload_n h.1 1062 dL_law_1062 2 rfl ?_
  refine rl_arg h hL 1063 1 (by omega) dL_law_1063 dL_law_1064 dL_law_1065 (by decide) dL_law_1066 dL_law_1067 ?_
  refine rl_arg h hL 1068 2 (by omega) dL_law_1068 dL_law_1069 dL_law_1070 (by decide) dL_law_1071 dL_law_1072 ?_
  refine rl_arg h hL 1073 3 (by omega) dL_law_1073 dL_law_1074 dL_law_1075 (by decide) dL_law_1076 dL_law_1077 ?_
  refine rl_call (st := [.int v1]) h 1078 dL_law_1078 (fn_X11_sample hJ _ _ _ w1) ce_X11_sample lk_L_153 rv_s78 rfl rv_cf9 rfl rfl (Nat.le_of_ble_eq_true rfl) ⟨Nat.le_of_ble_eq_true rfl, Nat.le_of_ble_eq_true rfl⟩ e2 ?_
  exact rl_eq h 1081 dL_law_1081 (by decide) hv (n w2 hI2)
set_option maxRecDepth 100000 in
theorem lc_34 (h : rl_K D ad ca l b L xs K) (hJ : rv_J ad) (hL : L ≤ 2560) {i : Nat} (hi : i + 5 ≤ L) (hI : ra_Inv w) (n : ∀ w', ra_Inv w' → K 1214 (rl_lv ad b i) [] w' t) : K 1086 (rl_lv ad b i) [] w t := by
  obtain ⟨v1, w1, e1, v2, w2, e2, hv, hI2⟩ := q_agreeing (xs (i + 1)) (xs (i + 2)) (xs (i + 3)) (xs (i + 4)) w hI
  refine rv_aload_n h.1 1086 dL_law_1086 1 rfl ?_
  refine rl_arg h hL 1087 1 (by omega) dL_law_1087 dL_law_1088 dL_law_1089 (by decide) dL_law_1090 dL_law_1091 ?_
  refine rl_arg h hL 1092 2 (by omega) dL_law_1092 dL_law_1093 dL_law_1094 (by decide) dL_law_1095 dL_law_1096 ?_
  refine rl_arg h hL 1097 3 (by omega) dL_law_1097 dL_law_1098 dL_law_1099 (by decide) dL_law_1100 dL_law_1101 ?_
  refine rl_arg h hL 1102 4 (by omega) dL_law_1102 dL_law_1103 dL_law_1104 (by decide) dL_law_1105 dL_law_1106 ?_
  refine rl_call (st := []) h 1107 dL_law_1107 (fn_X10_agreeing hJ _ _ _ _ w) ce_X10_agreeing lk_L_154 rv_s0 rfl rv_cf8 rfl rfl (Nat.le_of_ble_eq_true rfl) ⟨Nat.le_of_ble_eq_true rfl, Nat.le_of_ble_eq_true rfl⟩ e1 ?_
  refine rv_aload_n h.1 1110 dL_law_1110 2 rfl ?_
  refine rl_arg h hL 1111 1 (by omega) dL_law_1111 dL_law_1112 dL_law_1113 (by decide) dL_law_1114 dL_law_1115 ?_
  refine rl_arg h hL 1116 2 (by omega) dL_law_1116 dL_law_1117 dL_law_1118 (by decide) dL_law_1119 dL_law_1120 ?_
  refine rl_arg h hL 1121 3 (by omega) dL_law_1121 dL_law_1122 dL_law_1123 (by decide) dL_law_1124 dL_law_1125 ?_
  refine rl_arg h hL 1126 4 (by omega) dL_law_1126 dL_law_1127 dL_law_1128 (by decide) dL_law_1129 dL_law_1130 ?_
  refine rl_call (st := [.int v1]) h 1131 dL_law_1131 (fn_X11_agreeing hJ _ _ _ _ w1) ce_X11_agreeing lk_L_158 rv_s78 rfl rv_cf9 rfl rfl (Nat.le_of_ble_eq_true rfl) ⟨Nat.le_of_ble_eq_true rfl, Nat.le_of_ble_eq_true rfl⟩ e2 ?_
  exact rl_eq h 1134 dL_law_1134 (by decide) hv (n w2 hI2)
set_option maxRecDepth 100000 in
theorem lc_35 (h : rl_K D ad ca l b L xs K) (hJ : rv_J ad) (hL : L ≤ 2560) {i : Nat} (hi : i + 5 ≤ L) (hI : ra_Inv w) (n : ∀ w', ra_Inv w' → K 1214 (rl_lv ad b i) [] w' t) : K 1139 (rl_lv ad b i) [] w t := by
  obtain ⟨v1, w1, e1, v2, w2, e2, hv, hI2⟩ := q_undo  w hI
  refine rv_aload_n h.1 1139 dL_law_1139 1 rfl ?_
  refine rl_call (st := []) h 1140 dL_law_1140 (fn_X10_undo hJ w) ce_X10_undo lk_L_159 rv_s0 rfl rv_cf8 rfl rfl (Nat.le_of_ble_eq_true rfl) ⟨Nat.le_of_ble_eq_true rfl, Nat.le_of_ble_eq_true rfl⟩ e1 ?_
  refine rv_aload_n h.1 1143 dL_law_1143 2 rfl ?_
  refine rl_call (st := [.int v1]) h 1144 dL_law_1144 (fn_X11_undo hJ w1) ce_X11_undo lk_L_162 rv_s78 rfl rv_cf9 rfl rfl (Nat.le_of_ble_eq_true rfl) ⟨Nat.le_of_ble_eq_true rfl, Nat.le_of_ble_eq_true rfl⟩ e2 ?_
  exact rl_eq h 1147 dL_law_1147 (by decide) hv (n w2 hI2)
set_option maxRecDepth 100000 in
theorem lc_36 (h : rl_K D ad ca l b L xs K) (hJ : rv_J ad) (hL : L ≤ 2560) {i : Nat} (hi : i + 5 ≤ L) (hI : ra_Inv w) (n : ∀ w', ra_Inv w' → K 1214 (rl_lv ad b i) [] w' t) : K 1152 (rl_lv ad b i) [] w t := by
  obtain ⟨v1, w1, e1, v2, w2, e2, hv, hI2⟩ := q_type (xs (i + 1)) w hI
  refine rv_aload_n h.1 1152 dL_law_1152 1 rfl ?_
  refine rl_arg h hL 1153 1 (by omega) dL_law_1153 dL_law_1154 dL_law_1155 (by decide) dL_law_1156 dL_law_1157 ?_
  refine rl_call (st := []) h 1158 dL_law_1158 (fn_X10_type hJ _ w) ce_X10_type lk_L_163 rv_s0 rfl rv_cf8 rfl rfl (Nat.le_of_ble_eq_true rfl) ⟨Nat.le_of_ble_eq_true rfl, Nat.le_of_ble_eq_true rfl⟩ e1 ?_
  refine rv_aload_n h.1 1161 dL_law_1161 2 rfl ?_
  refine rl_arg h hL 1162 1 (by omega) dL_law_1162 dL_law_1163 dL_law_1164 (by decide) dL_law_1165 dL_law_1166 ?_
  refine rl_call (st := [.int v1]) h 1167 dL_law_1167 (fn_X11_type hJ _ w1) ce_X11_type lk_L_166 rv_s78 rfl rv_cf9 rfl rfl (Nat.le_of_ble_eq_true rfl) ⟨Nat.le_of_ble_eq_true rfl, Nat.le_of_ble_eq_true rfl⟩ e2 ?_
  exact rl_eq h 1170 dL_law_1170 (by decide) hv (n w2 hI2)
set_option maxRecDepth 100000 in
theorem lc_37 (h : rl_K D ad ca l b L xs K) (hJ : rv_J ad) (hL : L ≤ 2560) {i : Nat} (hi : i + 5 ≤ L) (hI : ra_Inv w) (n : ∀ w', ra_Inv w' → K 1214 (rl_lv ad b i) [] w' t) : K 1175 (rl_lv ad b i) [] w t := by
  obtain ⟨v1, w1, e1, v2, w2, e2, hv, hI2⟩ := q_clearText  w hI
  refine rv_aload_n h.1 1175 dL_law_1175 1 rfl ?_
  refine rl_call (st := []) h 1176 dL_law_1176 (fn_X10_clearText hJ w) ce_X10_clearText lk_L_167 rv_s0 rfl rv_cf8 rfl rfl (Nat.le_of_ble_eq_true rfl) ⟨Nat.le_of_ble_eq_true rfl, Nat.le_of_ble_eq_true rfl⟩ e1 ?_
  refine rv_aload_n h.1 1179 dL_law_1179 2 rfl ?_
  refine rl_call (st := [.int v1]) h 1180 dL_law_1180 (fn_X11_clearText hJ w1) ce_X11_clearText lk_L_170 rv_s78 rfl rv_cf9 rfl rfl (Nat.le_of_ble_eq_true rfl) ⟨Nat.le_of_ble_eq_true rfl, Nat.le_of_ble_eq_true rfl⟩ e2 ?_
  exact rl_eq h 1183 dL_law_1183 (by decide) hv (n w2 hI2)
set_option maxRecDepth 100000 in
theorem lc_38 (h : rl_K D ad ca l b L xs K) (hJ : rv_J ad) (hL : L ≤ 2560) {i : Nat} (hi : i + 5 ≤ L) (hI : ra_Inv w) (n : ∀ w', ra_Inv w' → K 1214 (rl_lv ad b i) [] w' t) : K 1188 (rl_lv ad b i) [] w t := by
  obtain ⟨v1, w1, e1, v2, w2, e2, hv, hI2⟩ := q_textFault  w hI
  refine rv_aload_n h.1 1188 dL_law_1188 1 rfl ?_
  refine rl_call (st := []) h 1189 dL_law_1189 (fn_X10_textFault hJ w) ce_X10_textFault lk_L_171 rv_s0 rfl rv_cf8 rfl rfl (Nat.le_of_ble_eq_true rfl) ⟨Nat.le_of_ble_eq_true rfl, Nat.le_of_ble_eq_true rfl⟩ e1 ?_
  refine rv_aload_n h.1 1192 dL_law_1192 2 rfl ?_
  refine rl_call (st := [.int v1]) h 1193 dL_law_1193 (fn_X11_textFault hJ w1) ce_X11_textFault lk_L_174 rv_s78 rfl rv_cf9 rfl rfl (Nat.le_of_ble_eq_true rfl) ⟨Nat.le_of_ble_eq_true rfl, Nat.le_of_ble_eq_true rfl⟩ e2 ?_
  exact rl_eq h 1196 dL_law_1196 (by decide) hv (n w2 hI2)
set_option maxRecDepth 100000 in
theorem lc_39 (h : rl_K D ad ca l b L xs K) (hJ : rv_J ad) (hL : L ≤ 2560) {i : Nat} (hi : i + 5 ≤ L) (hI : ra_Inv w) (n : ∀ w', ra_Inv w' → K 1214 (rl_lv ad b i) [] w' t) : K 1201 (rl_lv ad b i) [] w t := by
  obtain ⟨v1, w1, e1, v2, w2, e2, hv, hI2⟩ := q_load  w hI
  refine rv_aload_n h.1 1201 dL_law_1201 1 rfl ?_
  refine rl_call (st := []) h 1202 dL_law_1202 (fn_X10_load hJ w) ce_X10_load lk_L_175 rv_s0 rfl rv_cf8 rfl rfl (Nat.le_of_ble_eq_true rfl) ⟨Nat.le_of_ble_eq_true rfl, Nat.le_of_ble_eq_true rfl⟩ e1 ?_
  refine rv_aload_n h.1 1205 dL_law_1205 2 rfl ?_
  refine rl_call (st := [.int v1]) h 1206 dL_law_1206 (fn_X11_load hJ w1) ce_X11_load lk_L_178 rv_s78 rfl rv_cf9 rfl rfl (Nat.le_of_ble_eq_true rfl) ⟨Nat.le_of_ble_eq_true rfl, Nat.le_of_ble_eq_true rfl⟩ e2 ?_
  exact rl_eq h 1209 dL_law_1209 (by decide) hv (n w2 hI2)
end CASES
