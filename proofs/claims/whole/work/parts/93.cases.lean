/-! the law's cases (by program, wip/whole/gen/law.py) -/
section CASES
variable {l : Launch} {E : u_E} {b L : Nat} {xs : Nat → Int32} {nm : String} {K : u_K} {nc ns : Nat}
theorem L_0 (g : LW l (XE E) b L xs nm K) {i : Int} (h0 : 0 ≤ i) (h5 : i + 5 < (L : Int)) (hL : L ≤ 3072) (hroom : nc ≤ 600000 ∧ ns ≤ 7302250) {s : u_S} (hI : Inv s) (kk : ∀ s', Inv s' → K nc ns 1278 (lvL E b i) [] (Wd E s')) : K nc ns 184 (lvL E b i) [] (Wd E s) := by
  have g0 := g.wn.wk0
  obtain ⟨r, s1, s2, h1, h2, hI'⟩ := Inv_step (call_note (sv xs (i + 1)) (sv xs (i + 2)) (sv xs (i + 3))) hI
  refine r_aload_n g0 dL_184 rfl ?_
  refine r_arg g h0 (by omega) hL ⟨by decide, by decide⟩ dL_185 dL_186 dL_187 dL_188 dL_189 ?_
  refine r_arg g h0 (by omega) hL ⟨by decide, by decide⟩ dL_190 dL_191 dL_192 dL_193 dL_194 ?_
  refine r_arg g h0 (by omega) hL ⟨by decide, by decide⟩ dL_195 dL_196 dL_197 dL_198 dL_199 ?_
  refine r_cVI g0 (rest := []) (c_X10_note isFP0 (InR_to _) (InR_to _) (InR_to _) h1) ok_X10_note mL_13 (recv_FP isFP0) dL_200 ⟨Nat.le_of_ble_eq_true rfl, Nat.le_of_ble_eq_true rfl⟩ hroom rfl (Nat.le_of_ble_eq_true rfl) rfl (fun i_r => ?_)
  refine r_aload_n g0 dL_203 rfl ?_
  refine r_arg g h0 (by omega) hL ⟨by decide, by decide⟩ dL_204 dL_205 dL_206 dL_207 dL_208 ?_
  refine r_arg g h0 (by omega) hL ⟨by decide, by decide⟩ dL_209 dL_210 dL_211 dL_212 dL_213 ?_
  refine r_arg g h0 (by omega) hL ⟨by decide, by decide⟩ dL_214 dL_215 dL_216 dL_217 dL_218 ?_
  refine r_cVI g0 (rest := [.int (J r)]) (c_X11_note isMo0 (InR_to _) (InR_to _) (InR_to _) h2) ok_X11_note mL_17 (recv_Mo isMo0) dL_219 ⟨Nat.le_of_ble_eq_true rfl, Nat.le_of_ble_eq_true rfl⟩ hroom rfl (Nat.le_of_ble_eq_true rfl) rfl (fun i_r => ?_)
  exact r_icmp_eq g0 1278 dL_222 (by decide) i_r i_r (fun _ => kk s2 hI') (fun h => absurd rfl h)
theorem L_1 (g : LW l (XE E) b L xs nm K) {i : Int} (h0 : 0 ≤ i) (h5 : i + 5 < (L : Int)) (hL : L ≤ 3072) (hroom : nc ≤ 600000 ∧ ns ≤ 7302250) {s : u_S} (hI : Inv s) (kk : ∀ s', Inv s' → K nc ns 1278 (lvL E b i) [] (Wd E s')) : K nc ns 227 (lvL E b i) [] (Wd E s) := by
  have g0 := g.wn.wk0
  obtain ⟨r, s1, s2, h1, h2, hI'⟩ := Inv_step (call_drop (sv xs (i + 1)) (sv xs (i + 2)) (InR_to _)) hI
  refine r_aload_n g0 dL_227 rfl ?_
  refine r_arg g h0 (by omega) hL ⟨by decide, by decide⟩ dL_228 dL_229 dL_230 dL_231 dL_232 ?_
  refine r_arg g h0 (by omega) hL ⟨by decide, by decide⟩ dL_233 dL_234 dL_235 dL_236 dL_237 ?_
  refine r_cVI g0 (rest := []) (c_X10_drop isFP0 (InR_to _) (InR_to _) h1) ok_X10_drop mL_18 (recv_FP isFP0) dL_238 ⟨Nat.le_of_ble_eq_true rfl, Nat.le_of_ble_eq_true rfl⟩ hroom rfl (Nat.le_of_ble_eq_true rfl) rfl (fun i_r => ?_)
  refine r_aload_n g0 dL_241 rfl ?_
  refine r_arg g h0 (by omega) hL ⟨by decide, by decide⟩ dL_242 dL_243 dL_244 dL_245 dL_246 ?_
  refine r_arg g h0 (by omega) hL ⟨by decide, by decide⟩ dL_247 dL_248 dL_249 dL_250 dL_251 ?_
  refine r_cVI g0 (rest := [.int (J r)]) (c_X11_drop isMo0 (InR_to _) (InR_to _) h2) ok_X11_drop mL_22 (recv_Mo isMo0) dL_252 ⟨Nat.le_of_ble_eq_true rfl, Nat.le_of_ble_eq_true rfl⟩ hroom rfl (Nat.le_of_ble_eq_true rfl) rfl (fun i_r => ?_)
  exact r_icmp_eq g0 1278 dL_255 (by decide) i_r i_r (fun _ => kk s2 hI') (fun h => absurd rfl h)
theorem L_2 (g : LW l (XE E) b L xs nm K) {i : Int} (h0 : 0 ≤ i) (h5 : i + 5 < (L : Int)) (hL : L ≤ 3072) (hroom : nc ≤ 600000 ∧ ns ≤ 7302250) {s : u_S} (hI : Inv s) (kk : ∀ s', Inv s' → K nc ns 1278 (lvL E b i) [] (Wd E s')) : K nc ns 260 (lvL E b i) [] (Wd E s) := by
  have g0 := g.wn.wk0
  obtain ⟨r, s1, s2, h1, h2, hI'⟩ := Inv_step (call_empties (sv xs (i + 1))) hI
  refine r_aload_n g0 dL_260 rfl ?_
  refine r_arg g h0 (by omega) hL ⟨by decide, by decide⟩ dL_261 dL_262 dL_263 dL_264 dL_265 ?_
  refine r_cVI g0 (rest := []) (c_X10_empties isFP0 (InR_to _) h1) ok_X10_empties mL_23 (recv_FP isFP0) dL_266 ⟨Nat.le_of_ble_eq_true rfl, Nat.le_of_ble_eq_true rfl⟩ hroom rfl (Nat.le_of_ble_eq_true rfl) rfl (fun i_r => ?_)
  refine r_aload_n g0 dL_269 rfl ?_
  refine r_arg g h0 (by omega) hL ⟨by decide, by decide⟩ dL_270 dL_271 dL_272 dL_273 dL_274 ?_
  refine r_cVI g0 (rest := [.int (J r)]) (c_X11_empties isMo0 (InR_to _) h2) ok_X11_empties mL_27 (recv_Mo isMo0) dL_275 ⟨Nat.le_of_ble_eq_true rfl, Nat.le_of_ble_eq_true rfl⟩ hroom rfl (Nat.le_of_ble_eq_true rfl) rfl (fun i_r => ?_)
  exact r_icmp_eq g0 1278 dL_278 (by decide) i_r i_r (fun _ => kk s2 hI') (fun h => absurd rfl h)
theorem L_3 (g : LW l (XE E) b L xs nm K) {i : Int} (h0 : 0 ≤ i) (h5 : i + 5 < (L : Int)) (hL : L ≤ 3072) (hroom : nc ≤ 600000 ∧ ns ≤ 7302250) {s : u_S} (hI : Inv s) (kk : ∀ s', Inv s' → K nc ns 1278 (lvL E b i) [] (Wd E s')) : K nc ns 283 (lvL E b i) [] (Wd E s) := by
  have g0 := g.wn.wk0
  obtain ⟨r, s1, s2, h1, h2, hI'⟩ := Inv_step (call_draw (sv xs (i + 1)) (sv xs (i + 2)) (sv xs (i + 3))) hI
  refine r_aload_n g0 dL_283 rfl ?_
  refine r_arg g h0 (by omega) hL ⟨by decide, by decide⟩ dL_284 dL_285 dL_286 dL_287 dL_288 ?_
  refine r_arg g h0 (by omega) hL ⟨by decide, by decide⟩ dL_289 dL_290 dL_291 dL_292 dL_293 ?_
  refine r_arg g h0 (by omega) hL ⟨by decide, by decide⟩ dL_294 dL_295 dL_296 dL_297 dL_298 ?_
  refine r_cVI g0 (rest := []) (c_X10_draw isFP0 (InR_to _) (InR_to _) (InR_to _) h1) ok_X10_draw mL_28 (recv_FP isFP0) dL_299 ⟨Nat.le_of_ble_eq_true rfl, Nat.le_of_ble_eq_true rfl⟩ hroom rfl (Nat.le_of_ble_eq_true rfl) rfl (fun i_r => ?_)
  refine r_aload_n g0 dL_302 rfl ?_
  refine r_arg g h0 (by omega) hL ⟨by decide, by decide⟩ dL_303 dL_304 dL_305 dL_306 dL_307 ?_
  refine r_arg g h0 (by omega) hL ⟨by decide, by decide⟩ dL_308 dL_309 dL_310 dL_311 dL_312 ?_
  refine r_arg g h0 (by omega) hL ⟨by decide, by decide⟩ dL_313 dL_314 dL_315 dL_316 dL_317 ?_
  refine r_cVI g0 (rest := [.int (J r)]) (c_X11_draw isMo0 (InR_to _) (InR_to _) (InR_to _) h2) ok_X11_draw mL_31 (recv_Mo isMo0) dL_318 ⟨Nat.le_of_ble_eq_true rfl, Nat.le_of_ble_eq_true rfl⟩ hroom rfl (Nat.le_of_ble_eq_true rfl) rfl (fun i_r => ?_)
  exact r_icmp_eq g0 1278 dL_321 (by decide) i_r i_r (fun _ => kk s2 hI') (fun h => absurd rfl h)
theorem L_4 (g : LW l (XE E) b L xs nm K) {i : Int} (h0 : 0 ≤ i) (h5 : i + 5 < (L : Int)) (hL : L ≤ 3072) (hroom : nc ≤ 600000 ∧ ns ≤ 7302250) {s : u_S} (hI : Inv s) (kk : ∀ s', Inv s' → K nc ns 1278 (lvL E b i) [] (Wd E s')) : K nc ns 326 (lvL E b i) [] (Wd E s) := by
  have g0 := g.wn.wk0
  obtain ⟨r, s1, s2, h1, h2, hI'⟩ := Inv_step (call_sets (sv xs (i + 1)) (sv xs (i + 2))) hI
  refine r_aload_n g0 dL_326 rfl ?_
  refine r_arg g h0 (by omega) hL ⟨by decide, by decide⟩ dL_327 dL_328 dL_329 dL_330 dL_331 ?_
  refine r_arg g h0 (by omega) hL ⟨by decide, by decide⟩ dL_332 dL_333 dL_334 dL_335 dL_336 ?_
  refine r_cVI g0 (rest := []) (c_X10_sets isFP0 (InR_to _) (InR_to _) h1) ok_X10_sets mL_32 (recv_FP isFP0) dL_337 ⟨Nat.le_of_ble_eq_true rfl, Nat.le_of_ble_eq_true rfl⟩ hroom rfl (Nat.le_of_ble_eq_true rfl) rfl (fun i_r => ?_)
  refine r_aload_n g0 dL_340 rfl ?_
  refine r_arg g h0 (by omega) hL ⟨by decide, by decide⟩ dL_341 dL_342 dL_343 dL_344 dL_345 ?_
  refine r_arg g h0 (by omega) hL ⟨by decide, by decide⟩ dL_346 dL_347 dL_348 dL_349 dL_350 ?_
  refine r_cVI g0 (rest := [.int (J r)]) (c_X11_sets isMo0 (InR_to _) (InR_to _) h2) ok_X11_sets mL_35 (recv_Mo isMo0) dL_351 ⟨Nat.le_of_ble_eq_true rfl, Nat.le_of_ble_eq_true rfl⟩ hroom rfl (Nat.le_of_ble_eq_true rfl) rfl (fun i_r => ?_)
  exact r_icmp_eq g0 1278 dL_354 (by decide) i_r i_r (fun _ => kk s2 hI') (fun h => absurd rfl h)
theorem L_5 (g : LW l (XE E) b L xs nm K) {i : Int} (h0 : 0 ≤ i) (h5 : i + 5 < (L : Int)) (hL : L ≤ 3072) (hroom : nc ≤ 600000 ∧ ns ≤ 7302250) {s : u_S} (hI : Inv s) (kk : ∀ s', Inv s' → K nc ns 1278 (lvL E b i) [] (Wd E s')) : K nc ns 359 (lvL E b i) [] (Wd E s) := by
  have g0 := g.wn.wk0
  obtain ⟨r, s1, s2, h1, h2, hI'⟩ := Inv_step (call_noteOf (sv xs (i + 1)) (sv xs (i + 2)) (sv xs (i + 3))) hI
  refine r_aload_n g0 dL_359 rfl ?_
  refine r_arg g h0 (by omega) hL ⟨by decide, by decide⟩ dL_360 dL_361 dL_362 dL_363 dL_364 ?_
  refine r_arg g h0 (by omega) hL ⟨by decide, by decide⟩ dL_365 dL_366 dL_367 dL_368 dL_369 ?_
  refine r_arg g h0 (by omega) hL ⟨by decide, by decide⟩ dL_370 dL_371 dL_372 dL_373 dL_374 ?_
  refine r_cVI g0 (rest := []) (c_X10_noteOf isFP0 (InR_to _) (InR_to _) (InR_to _) h1) ok_X10_noteOf mL_36 (recv_FP isFP0) dL_375 ⟨Nat.le_of_ble_eq_true rfl, Nat.le_of_ble_eq_true rfl⟩ hroom rfl (Nat.le_of_ble_eq_true rfl) rfl (fun i_r => ?_)
  refine r_aload_n g0 dL_378 rfl ?_
  refine r_arg g h0 (by omega) hL ⟨by decide, by decide⟩ dL_379 dL_380 dL_381 dL_382 dL_383 ?_
  refine r_arg g h0 (by omega) hL ⟨by decide, by decide⟩ dL_384 dL_385 dL_386 dL_387 dL_388 ?_
  refine r_arg g h0 (by omega) hL ⟨by decide, by decide⟩ dL_389 dL_390 dL_391 dL_392 dL_393 ?_
  refine r_cVI g0 (rest := [.int (J r)]) (c_X11_noteOf isMo0 (InR_to _) (InR_to _) (InR_to _) h2) ok_X11_noteOf mL_39 (recv_Mo isMo0) dL_394 ⟨Nat.le_of_ble_eq_true rfl, Nat.le_of_ble_eq_true rfl⟩ hroom rfl (Nat.le_of_ble_eq_true rfl) rfl (fun i_r => ?_)
  exact r_icmp_eq g0 1278 dL_397 (by decide) i_r i_r (fun _ => kk s2 hI') (fun h => absurd rfl h)
theorem L_6 (g : LW l (XE E) b L xs nm K) {i : Int} (h0 : 0 ≤ i) (h5 : i + 5 < (L : Int)) (hL : L ≤ 3072) (hroom : nc ≤ 600000 ∧ ns ≤ 7302250) {s : u_S} (hI : Inv s) (kk : ∀ s', Inv s' → K nc ns 1278 (lvL E b i) [] (Wd E s')) : K nc ns 402 (lvL E b i) [] (Wd E s) := by
  have g0 := g.wn.wk0
  obtain ⟨r, s1, s2, h1, h2, hI'⟩ := Inv_step (call_line (sv xs (i + 1)) (sv xs (i + 2))) hI
  refine r_aload_n g0 dL_402 rfl ?_
  refine r_arg g h0 (by omega) hL ⟨by decide, by decide⟩ dL_403 dL_404 dL_405 dL_406 dL_407 ?_
  refine r_arg g h0 (by omega) hL ⟨by decide, by decide⟩ dL_408 dL_409 dL_410 dL_411 dL_412 ?_
  refine r_cVI g0 (rest := []) (c_X10_line isFP0 (InR_to _) (InR_to _) h1) ok_X10_line mL_40 (recv_FP isFP0) dL_413 ⟨Nat.le_of_ble_eq_true rfl, Nat.le_of_ble_eq_true rfl⟩ hroom rfl (Nat.le_of_ble_eq_true rfl) rfl (fun i_r => ?_)
  refine r_aload_n g0 dL_416 rfl ?_
  refine r_arg g h0 (by omega) hL ⟨by decide, by decide⟩ dL_417 dL_418 dL_419 dL_420 dL_421 ?_
  refine r_arg g h0 (by omega) hL ⟨by decide, by decide⟩ dL_422 dL_423 dL_424 dL_425 dL_426 ?_
  refine r_cVI g0 (rest := [.int (J r)]) (c_X11_line isMo0 (InR_to _) (InR_to _) h2) ok_X11_line mL_43 (recv_Mo isMo0) dL_427 ⟨Nat.le_of_ble_eq_true rfl, Nat.le_of_ble_eq_true rfl⟩ hroom rfl (Nat.le_of_ble_eq_true rfl) rfl (fun i_r => ?_)
  exact r_icmp_eq g0 1278 dL_430 (by decide) i_r i_r (fun _ => kk s2 hI') (fun h => absurd rfl h)
theorem L_7 (g : LW l (XE E) b L xs nm K) {i : Int} (h0 : 0 ≤ i) (h5 : i + 5 < (L : Int)) (hL : L ≤ 3072) (hroom : nc ≤ 600000 ∧ ns ≤ 7302250) {s : u_S} (hI : Inv s) (kk : ∀ s', Inv s' → K nc ns 1278 (lvL E b i) [] (Wd E s')) : K nc ns 435 (lvL E b i) [] (Wd E s) := by
  have g0 := g.wn.wk0
  obtain ⟨r, s1, s2, h1, h2, hI'⟩ := Inv_step (call_step (sv xs (i + 1)) (sv xs (i + 2)) (sv xs (i + 3)) (sv xs (i + 4)) (InR_to _)) hI
  refine r_aload_n g0 dL_435 rfl ?_
  refine r_arg g h0 (by omega) hL ⟨by decide, by decide⟩ dL_436 dL_437 dL_438 dL_439 dL_440 ?_
  refine r_arg g h0 (by omega) hL ⟨by decide, by decide⟩ dL_441 dL_442 dL_443 dL_444 dL_445 ?_
  refine r_arg g h0 (by omega) hL ⟨by decide, by decide⟩ dL_446 dL_447 dL_448 dL_449 dL_450 ?_
  refine r_arg g h0 (by omega) hL ⟨by decide, by decide⟩ dL_451 dL_452 dL_453 dL_454 dL_455 ?_
  refine r_cVI g0 (rest := []) (c_X10_step isFP0 (InR_to _) (InR_to _) (InR_to _) (InR_to _) h1) ok_X10_step mL_44 (recv_FP isFP0) dL_456 ⟨Nat.le_of_ble_eq_true rfl, Nat.le_of_ble_eq_true rfl⟩ hroom rfl (Nat.le_of_ble_eq_true rfl) rfl (fun i_r => ?_)
  refine r_aload_n g0 dL_459 rfl ?_
  refine r_arg g h0 (by omega) hL ⟨by decide, by decide⟩ dL_460 dL_461 dL_462 dL_463 dL_464 ?_
  refine r_arg g h0 (by omega) hL ⟨by decide, by decide⟩ dL_465 dL_466 dL_467 dL_468 dL_469 ?_
  refine r_arg g h0 (by omega) hL ⟨by decide, by decide⟩ dL_470 dL_471 dL_472 dL_473 dL_474 ?_
  refine r_arg g h0 (by omega) hL ⟨by decide, by decide⟩ dL_475 dL_476 dL_477 dL_478 dL_479 ?_
  refine r_cVI g0 (rest := [.int (J r)]) (c_X11_step isMo0 (InR_to _) (InR_to _) (InR_to _) (InR_to _) h2) ok_X11_step mL_48 (recv_Mo isMo0) dL_480 ⟨Nat.le_of_ble_eq_true rfl, Nat.le_of_ble_eq_true rfl⟩ hroom rfl (Nat.le_of_ble_eq_true rfl) rfl (fun i_r => ?_)
  exact r_icmp_eq g0 1278 dL_483 (by decide) i_r i_r (fun _ => kk s2 hI') (fun h => absurd rfl h)
theorem L_8 (g : LW l (XE E) b L xs nm K) {i : Int} (h0 : 0 ≤ i) (h5 : i + 5 < (L : Int)) (hL : L ≤ 3072) (hroom : nc ≤ 600000 ∧ ns ≤ 7302250) {s : u_S} (hI : Inv s) (kk : ∀ s', Inv s' → K nc ns 1278 (lvL E b i) [] (Wd E s')) : K nc ns 488 (lvL E b i) [] (Wd E s) := by
  have g0 := g.wn.wk0
  obtain ⟨r, s1, s2, h1, h2, hI'⟩ := Inv_step (call_enters (sv xs (i + 1)) (sv xs (i + 2)) (sv xs (i + 3)) (sv xs (i + 4)) (sv xs (i + 5))) hI
  refine r_aload_n g0 dL_488 rfl ?_
  refine r_arg g h0 (by omega) hL ⟨by decide, by decide⟩ dL_489 dL_490 dL_491 dL_492 dL_493 ?_
  refine r_arg g h0 (by omega) hL ⟨by decide, by decide⟩ dL_494 dL_495 dL_496 dL_497 dL_498 ?_
  refine r_arg g h0 (by omega) hL ⟨by decide, by decide⟩ dL_499 dL_500 dL_501 dL_502 dL_503 ?_
  refine r_arg g h0 (by omega) hL ⟨by decide, by decide⟩ dL_504 dL_505 dL_506 dL_507 dL_508 ?_
  refine r_arg g h0 (by omega) hL ⟨by decide, by decide⟩ dL_509 dL_510 dL_511 dL_512 dL_513 ?_
  refine r_cVI g0 (rest := []) (c_X10_enters isFP0 (InR_to _) (InR_to _) (InR_to _) (InR_to _) (InR_to _) h1) ok_X10_enters mL_49 (recv_FP isFP0) dL_514 ⟨Nat.le_of_ble_eq_true rfl, Nat.le_of_ble_eq_true rfl⟩ hroom rfl (Nat.le_of_ble_eq_true rfl) rfl (fun i_r => ?_)
  refine r_aload_n g0 dL_517 rfl ?_
  refine r_arg g h0 (by omega) hL ⟨by decide, by decide⟩ dL_518 dL_519 dL_520 dL_521 dL_522 ?_
  refine r_arg g h0 (by omega) hL ⟨by decide, by decide⟩ dL_523 dL_524 dL_525 dL_526 dL_527 ?_
  refine r_arg g h0 (by omega) hL ⟨by decide, by decide⟩ dL_528 dL_529 dL_530 dL_531 dL_532 ?_
  refine r_arg g h0 (by omega) hL ⟨by decide, by decide⟩ dL_533 dL_534 dL_535 dL_536 dL_537 ?_
  refine r_arg g h0 (by omega) hL ⟨by decide, by decide⟩ dL_538 dL_539 dL_540 dL_541 dL_542 ?_
  refine r_cVI g0 (rest := [.int (J r)]) (c_X11_enters isMo0 (InR_to _) (InR_to _) (InR_to _) (InR_to _) (InR_to _) h2) ok_X11_enters mL_53 (recv_Mo isMo0) dL_543 ⟨Nat.le_of_ble_eq_true rfl, Nat.le_of_ble_eq_true rfl⟩ hroom rfl (Nat.le_of_ble_eq_true rfl) rfl (fun i_r => ?_)
  exact r_icmp_eq g0 1278 dL_546 (by decide) i_r i_r (fun _ => kk s2 hI') (fun h => absurd rfl h)
theorem L_9 (g : LW l (XE E) b L xs nm K) {i : Int} (h0 : 0 ≤ i) (h5 : i + 5 < (L : Int)) (hL : L ≤ 3072) (hroom : nc ≤ 600000 ∧ ns ≤ 7302250) {s : u_S} (hI : Inv s) (kk : ∀ s', Inv s' → K nc ns 1278 (lvL E b i) [] (Wd E s')) : K nc ns 551 (lvL E b i) [] (Wd E s) := by
  have g0 := g.wn.wk0
  obtain ⟨r, s1, s2, h1, h2, hI'⟩ := Inv_step (call_leaves (sv xs (i + 1))) hI
  refine r_aload_n g0 dL_551 rfl ?_
  refine r_arg g h0 (by omega) hL ⟨by decide, by decide⟩ dL_552 dL_553 dL_554 dL_555 dL_556 ?_
  refine r_cVI g0 (rest := []) (c_X10_leaves isFP0 (InR_to _) h1) ok_X10_leaves mL_54 (recv_FP isFP0) dL_557 ⟨Nat.le_of_ble_eq_true rfl, Nat.le_of_ble_eq_true rfl⟩ hroom rfl (Nat.le_of_ble_eq_true rfl) rfl (fun i_r => ?_)
  refine r_aload_n g0 dL_560 rfl ?_
  refine r_arg g h0 (by omega) hL ⟨by decide, by decide⟩ dL_561 dL_562 dL_563 dL_564 dL_565 ?_
  refine r_cVI g0 (rest := [.int (J r)]) (c_X11_leaves isMo0 (InR_to _) h2) ok_X11_leaves mL_57 (recv_Mo isMo0) dL_566 ⟨Nat.le_of_ble_eq_true rfl, Nat.le_of_ble_eq_true rfl⟩ hroom rfl (Nat.le_of_ble_eq_true rfl) rfl (fun i_r => ?_)
  exact r_icmp_eq g0 1278 dL_569 (by decide) i_r i_r (fun _ => kk s2 hI') (fun h => absurd rfl h)
theorem L_10 (g : LW l (XE E) b L xs nm K) {i : Int} (h0 : 0 ≤ i) (h5 : i + 5 < (L : Int)) (hL : L ≤ 3072) (hroom : nc ≤ 600000 ∧ ns ≤ 7302250) {s : u_S} (hI : Inv s) (kk : ∀ s', Inv s' → K nc ns 1278 (lvL E b i) [] (Wd E s')) : K nc ns 574 (lvL E b i) [] (Wd E s) := by
  have g0 := g.wn.wk0
  obtain ⟨r, s1, s2, h1, h2, hI'⟩ := Inv_step (call_entry (sv xs (i + 1)) (sv xs (i + 2))) hI
  refine r_aload_n g0 dL_574 rfl ?_
  refine r_arg g h0 (by omega) hL ⟨by decide, by decide⟩ dL_575 dL_576 dL_577 dL_578 dL_579 ?_
  refine r_arg g h0 (by omega) hL ⟨by decide, by decide⟩ dL_580 dL_581 dL_582 dL_583 dL_584 ?_
  refine r_cVI g0 (rest := []) (c_X10_entry isFP0 (InR_to _) (InR_to _) h1) ok_X10_entry mL_58 (recv_FP isFP0) dL_585 ⟨Nat.le_of_ble_eq_true rfl, Nat.le_of_ble_eq_true rfl⟩ hroom rfl (Nat.le_of_ble_eq_true rfl) rfl (fun i_r => ?_)
  refine r_aload_n g0 dL_588 rfl ?_
  refine r_arg g h0 (by omega) hL ⟨by decide, by decide⟩ dL_589 dL_590 dL_591 dL_592 dL_593 ?_
  refine r_arg g h0 (by omega) hL ⟨by decide, by decide⟩ dL_594 dL_595 dL_596 dL_597 dL_598 ?_
  refine r_cVI g0 (rest := [.int (J r)]) (c_X11_entry isMo0 (InR_to _) (InR_to _) h2) ok_X11_entry mL_61 (recv_Mo isMo0) dL_599 ⟨Nat.le_of_ble_eq_true rfl, Nat.le_of_ble_eq_true rfl⟩ hroom rfl (Nat.le_of_ble_eq_true rfl) rfl (fun i_r => ?_)
  exact r_icmp_eq g0 1278 dL_602 (by decide) i_r i_r (fun _ => kk s2 hI') (fun h => absurd rfl h)
theorem L_11 (g : LW l (XE E) b L xs nm K) {i : Int} (h0 : 0 ≤ i) (h5 : i + 5 < (L : Int)) (hL : L ≤ 3072) (hroom : nc ≤ 600000 ∧ ns ≤ 7302250) {s : u_S} (hI : Inv s) (kk : ∀ s', Inv s' → K nc ns 1278 (lvL E b i) [] (Wd E s')) : K nc ns 607 (lvL E b i) [] (Wd E s) := by
  have g0 := g.wn.wk0
  obtain ⟨r, s1, s2, h1, h2, hI'⟩ := Inv_step (call_sounds (sv xs (i + 1)) (sv xs (i + 2)) (InR_to _)) hI
  refine r_aload_n g0 dL_607 rfl ?_
  refine r_arg g h0 (by omega) hL ⟨by decide, by decide⟩ dL_608 dL_609 dL_610 dL_611 dL_612 ?_
  refine r_arg g h0 (by omega) hL ⟨by decide, by decide⟩ dL_613 dL_614 dL_615 dL_616 dL_617 ?_
  refine r_cVI g0 (rest := []) (c_X10_sounds isFP0 (InR_to _) (InR_to _) h1) ok_X10_sounds mL_62 (recv_FP isFP0) dL_618 ⟨Nat.le_of_ble_eq_true rfl, Nat.le_of_ble_eq_true rfl⟩ hroom rfl (Nat.le_of_ble_eq_true rfl) rfl (fun i_r => ?_)
  refine r_aload_n g0 dL_621 rfl ?_
  refine r_arg g h0 (by omega) hL ⟨by decide, by decide⟩ dL_622 dL_623 dL_624 dL_625 dL_626 ?_
  refine r_arg g h0 (by omega) hL ⟨by decide, by decide⟩ dL_627 dL_628 dL_629 dL_630 dL_631 ?_
  refine r_cVI g0 (rest := [.int (J r)]) (c_X11_sounds isMo0 (InR_to _) (InR_to _) h2) ok_X11_sounds mL_65 (recv_Mo isMo0) dL_632 ⟨Nat.le_of_ble_eq_true rfl, Nat.le_of_ble_eq_true rfl⟩ hroom rfl (Nat.le_of_ble_eq_true rfl) rfl (fun i_r => ?_)
  exact r_icmp_eq g0 1278 dL_635 (by decide) i_r i_r (fun _ => kk s2 hI') (fun h => absurd rfl h)
theorem L_12 (g : LW l (XE E) b L xs nm K) {i : Int} (h0 : 0 ≤ i) (h5 : i + 5 < (L : Int)) (hL : L ≤ 3072) (hroom : nc ≤ 600000 ∧ ns ≤ 7302250) {s : u_S} (hI : Inv s) (kk : ∀ s', Inv s' → K nc ns 1278 (lvL E b i) [] (Wd E s')) : K nc ns 640 (lvL E b i) [] (Wd E s) := by
  have g0 := g.wn.wk0
  obtain ⟨r, s1, s2, h1, h2, hI'⟩ := Inv_step (call_faults (sv xs (i + 1)) (sv xs (i + 2)) (sv xs (i + 3))) hI
  refine r_aload_n g0 dL_640 rfl ?_
  refine r_arg g h0 (by omega) hL ⟨by decide, by decide⟩ dL_641 dL_642 dL_643 dL_644 dL_645 ?_
  refine r_arg g h0 (by omega) hL ⟨by decide, by decide⟩ dL_646 dL_647 dL_648 dL_649 dL_650 ?_
  refine r_arg g h0 (by omega) hL ⟨by decide, by decide⟩ dL_651 dL_652 dL_653 dL_654 dL_655 ?_
  refine r_cVI g0 (rest := []) (c_X10_faults isFP0 (InR_to _) (InR_to _) (InR_to _) h1) ok_X10_faults mL_66 (recv_FP isFP0) dL_656 ⟨Nat.le_of_ble_eq_true rfl, Nat.le_of_ble_eq_true rfl⟩ hroom rfl (Nat.le_of_ble_eq_true rfl) rfl (fun i_r => ?_)
  refine r_aload_n g0 dL_659 rfl ?_
  refine r_arg g h0 (by omega) hL ⟨by decide, by decide⟩ dL_660 dL_661 dL_662 dL_663 dL_664 ?_
  refine r_arg g h0 (by omega) hL ⟨by decide, by decide⟩ dL_665 dL_666 dL_667 dL_668 dL_669 ?_
  refine r_arg g h0 (by omega) hL ⟨by decide, by decide⟩ dL_670 dL_671 dL_672 dL_673 dL_674 ?_
  refine r_cVI g0 (rest := [.int (J r)]) (c_X11_faults isMo0 (InR_to _) (InR_to _) (InR_to _) h2) ok_X11_faults mL_69 (recv_Mo isMo0) dL_675 ⟨Nat.le_of_ble_eq_true rfl, Nat.le_of_ble_eq_true rfl⟩ hroom rfl (Nat.le_of_ble_eq_true rfl) rfl (fun i_r => ?_)
  exact r_icmp_eq g0 1278 dL_678 (by decide) i_r i_r (fun _ => kk s2 hI') (fun h => absurd rfl h)
theorem L_13 (g : LW l (XE E) b L xs nm K) {i : Int} (h0 : 0 ≤ i) (h5 : i + 5 < (L : Int)) (hL : L ≤ 3072) (hroom : nc ≤ 600000 ∧ ns ≤ 7302250) {s : u_S} (hI : Inv s) (kk : ∀ s', Inv s' → K nc ns 1278 (lvL E b i) [] (Wd E s')) : K nc ns 683 (lvL E b i) [] (Wd E s) := by
  have g0 := g.wn.wk0
  obtain ⟨r, s1, s2, h1, h2, hI'⟩ := Inv_step (call_all (sv xs (i + 1))) hI
  refine r_aload_n g0 dL_683 rfl ?_
  refine r_arg g h0 (by omega) hL ⟨by decide, by decide⟩ dL_684 dL_685 dL_686 dL_687 dL_688 ?_
  refine r_cVI g0 (rest := []) (c_X10_all isFP0 (InR_to _) h1) ok_X10_all mL_70 (recv_FP isFP0) dL_689 ⟨Nat.le_of_ble_eq_true rfl, Nat.le_of_ble_eq_true rfl⟩ hroom rfl (Nat.le_of_ble_eq_true rfl) rfl (fun i_r => ?_)
  refine r_aload_n g0 dL_692 rfl ?_
  refine r_arg g h0 (by omega) hL ⟨by decide, by decide⟩ dL_693 dL_694 dL_695 dL_696 dL_697 ?_
  refine r_cVI g0 (rest := [.int (J r)]) (c_X11_all isMo0 (InR_to _) h2) ok_X11_all mL_73 (recv_Mo isMo0) dL_698 ⟨Nat.le_of_ble_eq_true rfl, Nat.le_of_ble_eq_true rfl⟩ hroom rfl (Nat.le_of_ble_eq_true rfl) rfl (fun i_r => ?_)
  exact r_icmp_eq g0 1278 dL_701 (by decide) i_r i_r (fun _ => kk s2 hI') (fun h => absurd rfl h)
theorem L_14 (g : LW l (XE E) b L xs nm K) {i : Int} (h0 : 0 ≤ i) (h5 : i + 5 < (L : Int)) (hL : L ≤ 3072) (hroom : nc ≤ 600000 ∧ ns ≤ 7302250) {s : u_S} (hI : Inv s) (kk : ∀ s', Inv s' → K nc ns 1278 (lvL E b i) [] (Wd E s')) : K nc ns 706 (lvL E b i) [] (Wd E s) := by
  have g0 := g.wn.wk0
  obtain ⟨r, s1, s2, h1, h2, hI'⟩ := Inv_step (call_first (sv xs (i + 1))) hI
  refine r_aload_n g0 dL_706 rfl ?_
  refine r_arg g h0 (by omega) hL ⟨by decide, by decide⟩ dL_707 dL_708 dL_709 dL_710 dL_711 ?_
  refine r_cVI g0 (rest := []) (c_X10_first isFP0 (InR_to _) h1) ok_X10_first mL_74 (recv_FP isFP0) dL_712 ⟨Nat.le_of_ble_eq_true rfl, Nat.le_of_ble_eq_true rfl⟩ hroom rfl (Nat.le_of_ble_eq_true rfl) rfl (fun i_r => ?_)
  refine r_aload_n g0 dL_715 rfl ?_
  refine r_arg g h0 (by omega) hL ⟨by decide, by decide⟩ dL_716 dL_717 dL_718 dL_719 dL_720 ?_
  refine r_cVI g0 (rest := [.int (J r)]) (c_X11_first isMo0 (InR_to _) h2) ok_X11_first mL_77 (recv_Mo isMo0) dL_721 ⟨Nat.le_of_ble_eq_true rfl, Nat.le_of_ble_eq_true rfl⟩ hroom rfl (Nat.le_of_ble_eq_true rfl) rfl (fun i_r => ?_)
  exact r_icmp_eq g0 1278 dL_724 (by decide) i_r i_r (fun _ => kk s2 hI') (fun h => absurd rfl h)
theorem L_15 (g : LW l (XE E) b L xs nm K) {i : Int} (h0 : 0 ≤ i) (h5 : i + 5 < (L : Int)) (hL : L ≤ 3072) (hroom : nc ≤ 600000 ∧ ns ≤ 7302250) {s : u_S} (hI : Inv s) (kk : ∀ s', Inv s' → K nc ns 1278 (lvL E b i) [] (Wd E s')) : K nc ns 729 (lvL E b i) [] (Wd E s) := by
  have g0 := g.wn.wk0
  obtain ⟨r, s1, s2, h1, h2, hI'⟩ := Inv_step (call_stretto (sv xs (i + 1)) (sv xs (i + 2)) (sv xs (i + 3)) (sv xs (i + 4)) (sv xs (i + 5))) hI
  refine r_aload_n g0 dL_729 rfl ?_
  refine r_arg g h0 (by omega) hL ⟨by decide, by decide⟩ dL_730 dL_731 dL_732 dL_733 dL_734 ?_
  refine r_arg g h0 (by omega) hL ⟨by decide, by decide⟩ dL_735 dL_736 dL_737 dL_738 dL_739 ?_
  refine r_arg g h0 (by omega) hL ⟨by decide, by decide⟩ dL_740 dL_741 dL_742 dL_743 dL_744 ?_
  refine r_arg g h0 (by omega) hL ⟨by decide, by decide⟩ dL_745 dL_746 dL_747 dL_748 dL_749 ?_
  refine r_arg g h0 (by omega) hL ⟨by decide, by decide⟩ dL_750 dL_751 dL_752 dL_753 dL_754 ?_
  refine r_cVI g0 (rest := []) (c_X10_stretto isFP0 (InR_to _) (InR_to _) (InR_to _) (InR_to _) (InR_to _) h1) ok_X10_stretto mL_78 (recv_FP isFP0) dL_755 ⟨Nat.le_of_ble_eq_true rfl, Nat.le_of_ble_eq_true rfl⟩ hroom rfl (Nat.le_of_ble_eq_true rfl) rfl (fun i_r => ?_)
  refine r_aload_n g0 dL_758 rfl ?_
  refine r_arg g h0 (by omega) hL ⟨by decide, by decide⟩ dL_759 dL_760 dL_761 dL_762 dL_763 ?_
  refine r_arg g h0 (by omega) hL ⟨by decide, by decide⟩ dL_764 dL_765 dL_766 dL_767 dL_768 ?_
  refine r_arg g h0 (by omega) hL ⟨by decide, by decide⟩ dL_769 dL_770 dL_771 dL_772 dL_773 ?_
  refine r_arg g h0 (by omega) hL ⟨by decide, by decide⟩ dL_774 dL_775 dL_776 dL_777 dL_778 ?_
  refine r_arg g h0 (by omega) hL ⟨by decide, by decide⟩ dL_779 dL_780 dL_781 dL_782 dL_783 ?_
  refine r_cVI g0 (rest := [.int (J r)]) (c_X11_stretto isMo0 (InR_to _) (InR_to _) (InR_to _) (InR_to _) (InR_to _) h2) ok_X11_stretto mL_81 (recv_Mo isMo0) dL_784 ⟨Nat.le_of_ble_eq_true rfl, Nat.le_of_ble_eq_true rfl⟩ hroom rfl (Nat.le_of_ble_eq_true rfl) rfl (fun i_r => ?_)
  exact r_icmp_eq g0 1278 dL_787 (by decide) i_r i_r (fun _ => kk s2 hI') (fun h => absurd rfl h)
theorem L_16 (g : LW l (XE E) b L xs nm K) {i : Int} (h0 : 0 ≤ i) (h5 : i + 5 < (L : Int)) (hL : L ≤ 3072) (hroom : nc ≤ 600000 ∧ ns ≤ 7302250) {s : u_S} (hI : Inv s) (kk : ∀ s', Inv s' → K nc ns 1278 (lvL E b i) [] (Wd E s')) : K nc ns 792 (lvL E b i) [] (Wd E s) := by
  have g0 := g.wn.wk0
  obtain ⟨r, s1, s2, h1, h2, hI'⟩ := Inv_step (call_strettos (sv xs (i + 1)) (sv xs (i + 2)) (sv xs (i + 3))) hI
  refine r_aload_n g0 dL_792 rfl ?_
  refine r_arg g h0 (by omega) hL ⟨by decide, by decide⟩ dL_793 dL_794 dL_795 dL_796 dL_797 ?_
  refine r_arg g h0 (by omega) hL ⟨by decide, by decide⟩ dL_798 dL_799 dL_800 dL_801 dL_802 ?_
  refine r_arg g h0 (by omega) hL ⟨by decide, by decide⟩ dL_803 dL_804 dL_805 dL_806 dL_807 ?_
  refine r_cVJ g0 (rest := []) (c_X10_strettos isFP0 (InR_to _) (InR_to _) (InR_to _) h1) ok_X10_strettos mL_82 (recv_FP isFP0) dL_808 ⟨Nat.le_of_ble_eq_true rfl, Nat.le_of_ble_eq_true rfl⟩ hroom rfl (Nat.le_of_ble_eq_true rfl) rfl (fun i_r => ?_)
  refine r_aload_n g0 dL_811 rfl ?_
  refine r_arg g h0 (by omega) hL ⟨by decide, by decide⟩ dL_812 dL_813 dL_814 dL_815 dL_816 ?_
  refine r_arg g h0 (by omega) hL ⟨by decide, by decide⟩ dL_817 dL_818 dL_819 dL_820 dL_821 ?_
  refine r_arg g h0 (by omega) hL ⟨by decide, by decide⟩ dL_822 dL_823 dL_824 dL_825 dL_826 ?_
  refine r_cVJ g0 (rest := [.long (JL r)]) (c_X11_strettos isMo0 (InR_to _) (InR_to _) (InR_to _) h2) ok_X11_strettos mL_86 (recv_Mo isMo0) dL_827 ⟨Nat.le_of_ble_eq_true rfl, Nat.le_of_ble_eq_true rfl⟩ hroom rfl (Nat.le_of_ble_eq_true rfl) rfl (fun i_r => ?_)
  refine r_lcmp g0 dL_830 i_r i_r ?_
  rw [show lcm3 r r = 0 from by simp [lcm3]]
  exact r_if_eq g0 1278 dL_831 (by decide) InR_0 (fun _ => kk s2 hI') (fun h => absurd rfl h)
theorem L_17 (g : LW l (XE E) b L xs nm K) {i : Int} (h0 : 0 ≤ i) (h5 : i + 5 < (L : Int)) (hL : L ≤ 3072) (hroom : nc ≤ 600000 ∧ ns ≤ 7302250) {s : u_S} (hI : Inv s) (kk : ∀ s', Inv s' → K nc ns 1278 (lvL E b i) [] (Wd E s')) : K nc ns 836 (lvL E b i) [] (Wd E s) := by
  have g0 := g.wn.wk0
  obtain ⟨r, s1, s2, h1, h2, hI'⟩ := Inv_step (call_closest (sv xs (i + 1)) (sv xs (i + 2))) hI
  refine r_aload_n g0 dL_836 rfl ?_
  refine r_arg g h0 (by omega) hL ⟨by decide, by decide⟩ dL_837 dL_838 dL_839 dL_840 dL_841 ?_
  refine r_arg g h0 (by omega) hL ⟨by decide, by decide⟩ dL_842 dL_843 dL_844 dL_845 dL_846 ?_
  refine r_cVI g0 (rest := []) (c_X10_closest isFP0 (InR_to _) (InR_to _) h1) ok_X10_closest mL_87 (recv_FP isFP0) dL_847 ⟨Nat.le_of_ble_eq_true rfl, Nat.le_of_ble_eq_true rfl⟩ hroom rfl (Nat.le_of_ble_eq_true rfl) rfl (fun i_r => ?_)
  refine r_aload_n g0 dL_850 rfl ?_
  refine r_arg g h0 (by omega) hL ⟨by decide, by decide⟩ dL_851 dL_852 dL_853 dL_854 dL_855 ?_
  refine r_arg g h0 (by omega) hL ⟨by decide, by decide⟩ dL_856 dL_857 dL_858 dL_859 dL_860 ?_
  refine r_cVI g0 (rest := [.int (J r)]) (c_X11_closest isMo0 (InR_to _) (InR_to _) h2) ok_X11_closest mL_90 (recv_Mo isMo0) dL_861 ⟨Nat.le_of_ble_eq_true rfl, Nat.le_of_ble_eq_true rfl⟩ hroom rfl (Nat.le_of_ble_eq_true rfl) rfl (fun i_r => ?_)
  exact r_icmp_eq g0 1278 dL_864 (by decide) i_r i_r (fun _ => kk s2 hI') (fun h => absurd rfl h)
theorem L_18 (g : LW l (XE E) b L xs nm K) {i : Int} (h0 : 0 ≤ i) (h5 : i + 5 < (L : Int)) (hL : L ≤ 3072) (hroom : nc ≤ 600000 ∧ ns ≤ 7302250) {s : u_S} (hI : Inv s) (kk : ∀ s', Inv s' → K nc ns 1278 (lvL E b i) [] (Wd E s')) : K nc ns 869 (lvL E b i) [] (Wd E s) := by
  have g0 := g.wn.wk0
  obtain ⟨r, s1, s2, h1, h2, hI'⟩ := Inv_step (call_inverted (sv xs (i + 1)) (sv xs (i + 2)) (sv xs (i + 3)) (sv xs (i + 4))) hI
  refine r_aload_n g0 dL_869 rfl ?_
  refine r_arg g h0 (by omega) hL ⟨by decide, by decide⟩ dL_870 dL_871 dL_872 dL_873 dL_874 ?_
  refine r_arg g h0 (by omega) hL ⟨by decide, by decide⟩ dL_875 dL_876 dL_877 dL_878 dL_879 ?_
  refine r_arg g h0 (by omega) hL ⟨by decide, by decide⟩ dL_880 dL_881 dL_882 dL_883 dL_884 ?_
  refine r_arg g h0 (by omega) hL ⟨by decide, by decide⟩ dL_885 dL_886 dL_887 dL_888 dL_889 ?_
  refine r_cVI g0 (rest := []) (c_X10_inverted isFP0 (InR_to _) (InR_to _) (InR_to _) (InR_to _) h1) ok_X10_inverted mL_91 (recv_FP isFP0) dL_890 ⟨Nat.le_of_ble_eq_true rfl, Nat.le_of_ble_eq_true rfl⟩ hroom rfl (Nat.le_of_ble_eq_true rfl) rfl (fun i_r => ?_)
  refine r_aload_n g0 dL_893 rfl ?_
  refine r_arg g h0 (by omega) hL ⟨by decide, by decide⟩ dL_894 dL_895 dL_896 dL_897 dL_898 ?_
  refine r_arg g h0 (by omega) hL ⟨by decide, by decide⟩ dL_899 dL_900 dL_901 dL_902 dL_903 ?_
  refine r_arg g h0 (by omega) hL ⟨by decide, by decide⟩ dL_904 dL_905 dL_906 dL_907 dL_908 ?_
  refine r_arg g h0 (by omega) hL ⟨by decide, by decide⟩ dL_909 dL_910 dL_911 dL_912 dL_913 ?_
  refine r_cVI g0 (rest := [.int (J r)]) (c_X11_inverted isMo0 (InR_to _) (InR_to _) (InR_to _) (InR_to _) h2) ok_X11_inverted mL_94 (recv_Mo isMo0) dL_914 ⟨Nat.le_of_ble_eq_true rfl, Nat.le_of_ble_eq_true rfl⟩ hroom rfl (Nat.le_of_ble_eq_true rfl) rfl (fun i_r => ?_)
  exact r_icmp_eq g0 1278 dL_917 (by decide) i_r i_r (fun _ => kk s2 hI') (fun h => absurd rfl h)
theorem L_19 (g : LW l (XE E) b L xs nm K) {i : Int} (h0 : 0 ≤ i) (h5 : i + 5 < (L : Int)) (hL : L ≤ 3072) (hroom : nc ≤ 600000 ∧ ns ≤ 7302250) {s : u_S} (hI : Inv s) (kk : ∀ s', Inv s' → K nc ns 1278 (lvL E b i) [] (Wd E s')) : K nc ns 922 (lvL E b i) [] (Wd E s) := by
  have g0 := g.wn.wk0
  obtain ⟨r, s1, s2, h1, h2, hI'⟩ := Inv_step (call_inversions (sv xs (i + 1)) (sv xs (i + 2))) hI
  refine r_aload_n g0 dL_922 rfl ?_
  refine r_arg g h0 (by omega) hL ⟨by decide, by decide⟩ dL_923 dL_924 dL_925 dL_926 dL_927 ?_
  refine r_arg g h0 (by omega) hL ⟨by decide, by decide⟩ dL_928 dL_929 dL_930 dL_931 dL_932 ?_
  refine r_cVI g0 (rest := []) (c_X10_inversions isFP0 (InR_to _) (InR_to _) h1) ok_X10_inversions mL_95 (recv_FP isFP0) dL_933 ⟨Nat.le_of_ble_eq_true rfl, Nat.le_of_ble_eq_true rfl⟩ hroom rfl (Nat.le_of_ble_eq_true rfl) rfl (fun i_r => ?_)
  refine r_aload_n g0 dL_936 rfl ?_
  refine r_arg g h0 (by omega) hL ⟨by decide, by decide⟩ dL_937 dL_938 dL_939 dL_940 dL_941 ?_
  refine r_arg g h0 (by omega) hL ⟨by decide, by decide⟩ dL_942 dL_943 dL_944 dL_945 dL_946 ?_
  refine r_cVI g0 (rest := [.int (J r)]) (c_X11_inversions isMo0 (InR_to _) (InR_to _) h2) ok_X11_inversions mL_98 (recv_Mo isMo0) dL_947 ⟨Nat.le_of_ble_eq_true rfl, Nat.le_of_ble_eq_true rfl⟩ hroom rfl (Nat.le_of_ble_eq_true rfl) rfl (fun i_r => ?_)
  exact r_icmp_eq g0 1278 dL_950 (by decide) i_r i_r (fun _ => kk s2 hI') (fun h => absurd rfl h)
theorem L_20 (g : LW l (XE E) b L xs nm K) {i : Int} (h0 : 0 ≤ i) (h5 : i + 5 < (L : Int)) (hL : L ≤ 3072) (hroom : nc ≤ 600000 ∧ ns ≤ 7302250) {s : u_S} (hI : Inv s) (kk : ∀ s', Inv s' → K nc ns 1278 (lvL E b i) [] (Wd E s')) : K nc ns 955 (lvL E b i) [] (Wd E s) := by
  have g0 := g.wn.wk0
  obtain ⟨r, s1, s2, h1, h2, hI'⟩ := Inv_step (call_order (sv xs (i + 1)) (sv xs (i + 2)) (InR_to _)) hI
  refine r_aload_n g0 dL_955 rfl ?_
  refine r_arg g h0 (by omega) hL ⟨by decide, by decide⟩ dL_956 dL_957 dL_958 dL_959 dL_960 ?_
  refine r_arg g h0 (by omega) hL ⟨by decide, by decide⟩ dL_961 dL_962 dL_963 dL_964 dL_965 ?_
  refine r_cVI g0 (rest := []) (c_X10_order isFP0 (InR_to _) (InR_to _) h1) ok_X10_order mL_99 (recv_FP isFP0) dL_966 ⟨Nat.le_of_ble_eq_true rfl, Nat.le_of_ble_eq_true rfl⟩ hroom rfl (Nat.le_of_ble_eq_true rfl) rfl (fun i_r => ?_)
  refine r_aload_n g0 dL_969 rfl ?_
  refine r_arg g h0 (by omega) hL ⟨by decide, by decide⟩ dL_970 dL_971 dL_972 dL_973 dL_974 ?_
  refine r_arg g h0 (by omega) hL ⟨by decide, by decide⟩ dL_975 dL_976 dL_977 dL_978 dL_979 ?_
  refine r_cVI g0 (rest := [.int (J r)]) (c_X11_order isMo0 (InR_to _) (InR_to _) h2) ok_X11_order mL_102 (recv_Mo isMo0) dL_980 ⟨Nat.le_of_ble_eq_true rfl, Nat.le_of_ble_eq_true rfl⟩ hroom rfl (Nat.le_of_ble_eq_true rfl) rfl (fun i_r => ?_)
  exact r_icmp_eq g0 1278 dL_983 (by decide) i_r i_r (fun _ => kk s2 hI') (fun h => absurd rfl h)
theorem L_21 (g : LW l (XE E) b L xs nm K) {i : Int} (h0 : 0 ≤ i) (h5 : i + 5 < (L : Int)) (hL : L ≤ 3072) (hroom : nc ≤ 600000 ∧ ns ≤ 7302250) {s : u_S} (hI : Inv s) (kk : ∀ s', Inv s' → K nc ns 1278 (lvL E b i) [] (Wd E s')) : K nc ns 988 (lvL E b i) [] (Wd E s) := by
  have g0 := g.wn.wk0
  obtain ⟨r, s1, s2, h1, h2, hI'⟩ := Inv_step (call_best (sv xs (i + 1)) (sv xs (i + 2))) hI
  refine r_aload_n g0 dL_988 rfl ?_
  refine r_arg g h0 (by omega) hL ⟨by decide, by decide⟩ dL_989 dL_990 dL_991 dL_992 dL_993 ?_
  refine r_arg g h0 (by omega) hL ⟨by decide, by decide⟩ dL_994 dL_995 dL_996 dL_997 dL_998 ?_
  refine r_cVI g0 (rest := []) (c_X10_best isFP0 (InR_to _) (InR_to _) h1) ok_X10_best mL_103 (recv_FP isFP0) dL_999 ⟨Nat.le_of_ble_eq_true rfl, Nat.le_of_ble_eq_true rfl⟩ hroom rfl (Nat.le_of_ble_eq_true rfl) rfl (fun i_r => ?_)
  refine r_aload_n g0 dL_1002 rfl ?_
  refine r_arg g h0 (by omega) hL ⟨by decide, by decide⟩ dL_1003 dL_1004 dL_1005 dL_1006 dL_1007 ?_
  refine r_arg g h0 (by omega) hL ⟨by decide, by decide⟩ dL_1008 dL_1009 dL_1010 dL_1011 dL_1012 ?_
  refine r_cVI g0 (rest := [.int (J r)]) (c_X11_best isMo0 (InR_to _) (InR_to _) h2) ok_X11_best mL_106 (recv_Mo isMo0) dL_1013 ⟨Nat.le_of_ble_eq_true rfl, Nat.le_of_ble_eq_true rfl⟩ hroom rfl (Nat.le_of_ble_eq_true rfl) rfl (fun i_r => ?_)
  exact r_icmp_eq g0 1278 dL_1016 (by decide) i_r i_r (fun _ => kk s2 hI') (fun h => absurd rfl h)
theorem L_22 (g : LW l (XE E) b L xs nm K) {i : Int} (h0 : 0 ≤ i) (h5 : i + 5 < (L : Int)) (hL : L ≤ 3072) (hroom : nc ≤ 600000 ∧ ns ≤ 7302250) {s : u_S} (hI : Inv s) (kk : ∀ s', Inv s' → K nc ns 1278 (lvL E b i) [] (Wd E s')) : K nc ns 1021 (lvL E b i) [] (Wd E s) := by
  have g0 := g.wn.wk0
  obtain ⟨r, s1, s2, h1, h2, hI'⟩ := Inv_step (call_lays (sv xs (i + 1))) hI
  refine r_aload_n g0 dL_1021 rfl ?_
  refine r_arg g h0 (by omega) hL ⟨by decide, by decide⟩ dL_1022 dL_1023 dL_1024 dL_1025 dL_1026 ?_
  refine r_cVI g0 (rest := []) (c_X10_lays isFP0 (InR_to _) h1) ok_X10_lays mL_107 (recv_FP isFP0) dL_1027 ⟨Nat.le_of_ble_eq_true rfl, Nat.le_of_ble_eq_true rfl⟩ hroom rfl (Nat.le_of_ble_eq_true rfl) rfl (fun i_r => ?_)
  refine r_aload_n g0 dL_1030 rfl ?_
  refine r_arg g h0 (by omega) hL ⟨by decide, by decide⟩ dL_1031 dL_1032 dL_1033 dL_1034 dL_1035 ?_
  refine r_cVI g0 (rest := [.int (J r)]) (c_X11_lays isMo0 (InR_to _) h2) ok_X11_lays mL_110 (recv_Mo isMo0) dL_1036 ⟨Nat.le_of_ble_eq_true rfl, Nat.le_of_ble_eq_true rfl⟩ hroom rfl (Nat.le_of_ble_eq_true rfl) rfl (fun i_r => ?_)
  exact r_icmp_eq g0 1278 dL_1039 (by decide) i_r i_r (fun _ => kk s2 hI') (fun h => absurd rfl h)
theorem L_23 (g : LW l (XE E) b L xs nm K) {i : Int} (h0 : 0 ≤ i) (h5 : i + 5 < (L : Int)) (hL : L ≤ 3072) (hroom : nc ≤ 600000 ∧ ns ≤ 7302250) {s : u_S} (hI : Inv s) (kk : ∀ s', Inv s' → K nc ns 1278 (lvL E b i) [] (Wd E s')) : K nc ns 1044 (lvL E b i) [] (Wd E s) := by
  have g0 := g.wn.wk0
  obtain ⟨r, s1, s2, h1, h2, hI'⟩ := Inv_step (call_way (sv xs (i + 1)) (sv xs (i + 2))) hI
  refine r_aload_n g0 dL_1044 rfl ?_
  refine r_arg g h0 (by omega) hL ⟨by decide, by decide⟩ dL_1045 dL_1046 dL_1047 dL_1048 dL_1049 ?_
  refine r_arg g h0 (by omega) hL ⟨by decide, by decide⟩ dL_1050 dL_1051 dL_1052 dL_1053 dL_1054 ?_
  refine r_cVI g0 (rest := []) (c_X10_way isFP0 (InR_to _) (InR_to _) h1) ok_X10_way mL_111 (recv_FP isFP0) dL_1055 ⟨Nat.le_of_ble_eq_true rfl, Nat.le_of_ble_eq_true rfl⟩ hroom rfl (Nat.le_of_ble_eq_true rfl) rfl (fun i_r => ?_)
  refine r_aload_n g0 dL_1058 rfl ?_
  refine r_arg g h0 (by omega) hL ⟨by decide, by decide⟩ dL_1059 dL_1060 dL_1061 dL_1062 dL_1063 ?_
  refine r_arg g h0 (by omega) hL ⟨by decide, by decide⟩ dL_1064 dL_1065 dL_1066 dL_1067 dL_1068 ?_
  refine r_cVI g0 (rest := [.int (J r)]) (c_X11_way isMo0 (InR_to _) (InR_to _) h2) ok_X11_way mL_114 (recv_Mo isMo0) dL_1069 ⟨Nat.le_of_ble_eq_true rfl, Nat.le_of_ble_eq_true rfl⟩ hroom rfl (Nat.le_of_ble_eq_true rfl) rfl (fun i_r => ?_)
  exact r_icmp_eq g0 1278 dL_1072 (by decide) i_r i_r (fun _ => kk s2 hI') (fun h => absurd rfl h)
theorem L_24 (g : LW l (XE E) b L xs nm K) {i : Int} (h0 : 0 ≤ i) (h5 : i + 5 < (L : Int)) (hL : L ≤ 3072) (hroom : nc ≤ 600000 ∧ ns ≤ 7302250) {s : u_S} (hI : Inv s) (kk : ∀ s', Inv s' → K nc ns 1278 (lvL E b i) [] (Wd E s')) : K nc ns 1077 (lvL E b i) [] (Wd E s) := by
  have g0 := g.wn.wk0
  obtain ⟨r, s1, s2, h1, h2, hI'⟩ := Inv_step (call_next (sv xs (i + 1)) (sv xs (i + 2))) hI
  refine r_aload_n g0 dL_1077 rfl ?_
  refine r_arg g h0 (by omega) hL ⟨by decide, by decide⟩ dL_1078 dL_1079 dL_1080 dL_1081 dL_1082 ?_
  refine r_arg g h0 (by omega) hL ⟨by decide, by decide⟩ dL_1083 dL_1084 dL_1085 dL_1086 dL_1087 ?_
  refine r_cVI g0 (rest := []) (c_X10_next isFP0 (InR_to _) (InR_to _) h1) ok_X10_next mL_115 (recv_FP isFP0) dL_1088 ⟨Nat.le_of_ble_eq_true rfl, Nat.le_of_ble_eq_true rfl⟩ hroom rfl (Nat.le_of_ble_eq_true rfl) rfl (fun i_r => ?_)
  refine r_aload_n g0 dL_1091 rfl ?_
  refine r_arg g h0 (by omega) hL ⟨by decide, by decide⟩ dL_1092 dL_1093 dL_1094 dL_1095 dL_1096 ?_
  refine r_arg g h0 (by omega) hL ⟨by decide, by decide⟩ dL_1097 dL_1098 dL_1099 dL_1100 dL_1101 ?_
  refine r_cVI g0 (rest := [.int (J r)]) (c_X11_next isMo0 (InR_to _) (InR_to _) h2) ok_X11_next mL_118 (recv_Mo isMo0) dL_1102 ⟨Nat.le_of_ble_eq_true rfl, Nat.le_of_ble_eq_true rfl⟩ hroom rfl (Nat.le_of_ble_eq_true rfl) rfl (fun i_r => ?_)
  exact r_icmp_eq g0 1278 dL_1105 (by decide) i_r i_r (fun _ => kk s2 hI') (fun h => absurd rfl h)
theorem L_25 (g : LW l (XE E) b L xs nm K) {i : Int} (h0 : 0 ≤ i) (h5 : i + 5 < (L : Int)) (hL : L ≤ 3072) (hroom : nc ≤ 600000 ∧ ns ≤ 7302250) {s : u_S} (hI : Inv s) (kk : ∀ s', Inv s' → K nc ns 1278 (lvL E b i) [] (Wd E s')) : K nc ns 1110 (lvL E b i) [] (Wd E s) := by
  have g0 := g.wn.wk0
  obtain ⟨r, s1, s2, h1, h2, hI'⟩ := Inv_step (call_visits (sv xs (i + 1))) hI
  refine r_aload_n g0 dL_1110 rfl ?_
  refine r_arg g h0 (by omega) hL ⟨by decide, by decide⟩ dL_1111 dL_1112 dL_1113 dL_1114 dL_1115 ?_
  refine r_cVI g0 (rest := []) (c_X10_visits isFP0 (InR_to _) h1) ok_X10_visits mL_119 (recv_FP isFP0) dL_1116 ⟨Nat.le_of_ble_eq_true rfl, Nat.le_of_ble_eq_true rfl⟩ hroom rfl (Nat.le_of_ble_eq_true rfl) rfl (fun i_r => ?_)
  refine r_aload_n g0 dL_1119 rfl ?_
  refine r_arg g h0 (by omega) hL ⟨by decide, by decide⟩ dL_1120 dL_1121 dL_1122 dL_1123 dL_1124 ?_
  refine r_cVI g0 (rest := [.int (J r)]) (c_X11_visits isMo0 (InR_to _) h2) ok_X11_visits mL_122 (recv_Mo isMo0) dL_1125 ⟨Nat.le_of_ble_eq_true rfl, Nat.le_of_ble_eq_true rfl⟩ hroom rfl (Nat.le_of_ble_eq_true rfl) rfl (fun i_r => ?_)
  exact r_icmp_eq g0 1278 dL_1128 (by decide) i_r i_r (fun _ => kk s2 hI') (fun h => absurd rfl h)
theorem L_26 (g : LW l (XE E) b L xs nm K) {i : Int} (h0 : 0 ≤ i) (h5 : i + 5 < (L : Int)) (hL : L ≤ 3072) (hroom : nc ≤ 600000 ∧ ns ≤ 7302250) {s : u_S} (hI : Inv s) (kk : ∀ s', Inv s' → K nc ns 1278 (lvL E b i) [] (Wd E s')) : K nc ns 1133 (lvL E b i) [] (Wd E s) := by
  have g0 := g.wn.wk0
  obtain ⟨r, s1, s2, h1, h2, hI'⟩ := Inv_step (call_skips (sv xs (i + 1))) hI
  refine r_aload_n g0 dL_1133 rfl ?_
  refine r_arg g h0 (by omega) hL ⟨by decide, by decide⟩ dL_1134 dL_1135 dL_1136 dL_1137 dL_1138 ?_
  refine r_cVI g0 (rest := []) (c_X10_skips isFP0 (InR_to _) h1) ok_X10_skips mL_123 (recv_FP isFP0) dL_1139 ⟨Nat.le_of_ble_eq_true rfl, Nat.le_of_ble_eq_true rfl⟩ hroom rfl (Nat.le_of_ble_eq_true rfl) rfl (fun i_r => ?_)
  refine r_aload_n g0 dL_1142 rfl ?_
  refine r_arg g h0 (by omega) hL ⟨by decide, by decide⟩ dL_1143 dL_1144 dL_1145 dL_1146 dL_1147 ?_
  refine r_cVI g0 (rest := [.int (J r)]) (c_X11_skips isMo0 (InR_to _) h2) ok_X11_skips mL_126 (recv_Mo isMo0) dL_1148 ⟨Nat.le_of_ble_eq_true rfl, Nat.le_of_ble_eq_true rfl⟩ hroom rfl (Nat.le_of_ble_eq_true rfl) rfl (fun i_r => ?_)
  exact r_icmp_eq g0 1278 dL_1151 (by decide) i_r i_r (fun _ => kk s2 hI') (fun h => absurd rfl h)
theorem L_27 (g : LW l (XE E) b L xs nm K) {i : Int} (h0 : 0 ≤ i) (h5 : i + 5 < (L : Int)) (hL : L ≤ 3072) (hroom : nc ≤ 600000 ∧ ns ≤ 7302250) {s : u_S} (hI : Inv s) (kk : ∀ s', Inv s' → K nc ns 1278 (lvL E b i) [] (Wd E s')) : K nc ns 1156 (lvL E b i) [] (Wd E s) := by
  have g0 := g.wn.wk0
  obtain ⟨r, s1, s2, h1, h2, hI'⟩ := Inv_step (call_path (sv xs (i + 1))) hI
  refine r_aload_n g0 dL_1156 rfl ?_
  refine r_arg g h0 (by omega) hL ⟨by decide, by decide⟩ dL_1157 dL_1158 dL_1159 dL_1160 dL_1161 ?_
  refine r_cVI g0 (rest := []) (c_X10_path isFP0 (InR_to _) h1) ok_X10_path mL_127 (recv_FP isFP0) dL_1162 ⟨Nat.le_of_ble_eq_true rfl, Nat.le_of_ble_eq_true rfl⟩ hroom rfl (Nat.le_of_ble_eq_true rfl) rfl (fun i_r => ?_)
  refine r_aload_n g0 dL_1165 rfl ?_
  refine r_arg g h0 (by omega) hL ⟨by decide, by decide⟩ dL_1166 dL_1167 dL_1168 dL_1169 dL_1170 ?_
  refine r_cVI g0 (rest := [.int (J r)]) (c_X11_path isMo0 (InR_to _) h2) ok_X11_path mL_130 (recv_Mo isMo0) dL_1171 ⟨Nat.le_of_ble_eq_true rfl, Nat.le_of_ble_eq_true rfl⟩ hroom rfl (Nat.le_of_ble_eq_true rfl) rfl (fun i_r => ?_)
  exact r_icmp_eq g0 1278 dL_1174 (by decide) i_r i_r (fun _ => kk s2 hI') (fun h => absurd rfl h)
theorem L_28 (g : LW l (XE E) b L xs nm K) {i : Int} (h0 : 0 ≤ i) (h5 : i + 5 < (L : Int)) (hL : L ≤ 3072) (hroom : nc ≤ 600000 ∧ ns ≤ 7302250) {s : u_S} (hI : Inv s) (kk : ∀ s', Inv s' → K nc ns 1278 (lvL E b i) [] (Wd E s')) : K nc ns 1179 (lvL E b i) [] (Wd E s) := by
  have g0 := g.wn.wk0
  obtain ⟨r, s1, s2, h1, h2, hI'⟩ := Inv_step (call_type (sv xs (i + 1))) hI
  refine r_aload_n g0 dL_1179 rfl ?_
  refine r_arg g h0 (by omega) hL ⟨by decide, by decide⟩ dL_1180 dL_1181 dL_1182 dL_1183 dL_1184 ?_
  refine r_cVI g0 (rest := []) (c_X10_type isFP0 (InR_to _) h1) ok_X10_type mL_131 (recv_FP isFP0) dL_1185 ⟨Nat.le_of_ble_eq_true rfl, Nat.le_of_ble_eq_true rfl⟩ hroom rfl (Nat.le_of_ble_eq_true rfl) rfl (fun i_r => ?_)
  refine r_aload_n g0 dL_1188 rfl ?_
  refine r_arg g h0 (by omega) hL ⟨by decide, by decide⟩ dL_1189 dL_1190 dL_1191 dL_1192 dL_1193 ?_
  refine r_cVI g0 (rest := [.int (J r)]) (c_X11_type isMo0 (InR_to _) h2) ok_X11_type mL_134 (recv_Mo isMo0) dL_1194 ⟨Nat.le_of_ble_eq_true rfl, Nat.le_of_ble_eq_true rfl⟩ hroom rfl (Nat.le_of_ble_eq_true rfl) rfl (fun i_r => ?_)
  exact r_icmp_eq g0 1278 dL_1197 (by decide) i_r i_r (fun _ => kk s2 hI') (fun h => absurd rfl h)
theorem L_29 (g : LW l (XE E) b L xs nm K) {i : Int} (h0 : 0 ≤ i) (h5 : i + 5 < (L : Int)) (hL : L ≤ 3072) (hroom : nc ≤ 600000 ∧ ns ≤ 7302250) {s : u_S} (hI : Inv s) (kk : ∀ s', Inv s' → K nc ns 1278 (lvL E b i) [] (Wd E s')) : K nc ns 1202 (lvL E b i) [] (Wd E s) := by
  have g0 := g.wn.wk0
  obtain ⟨r, s1, s2, h1, h2, hI'⟩ := Inv_step (call_clear ) hI
  refine r_aload_n g0 dL_1202 rfl ?_
  refine r_cVI g0 (rest := []) (c_X10_clear isFP0  h1) ok_X10_clear mL_135 (recv_FP isFP0) dL_1203 ⟨Nat.le_of_ble_eq_true rfl, Nat.le_of_ble_eq_true rfl⟩ hroom rfl (Nat.le_of_ble_eq_true rfl) rfl (fun i_r => ?_)
  refine r_aload_n g0 dL_1206 rfl ?_
  refine r_cVI g0 (rest := [.int (J r)]) (c_X11_clear isMo0  h2) ok_X11_clear mL_139 (recv_Mo isMo0) dL_1207 ⟨Nat.le_of_ble_eq_true rfl, Nat.le_of_ble_eq_true rfl⟩ hroom rfl (Nat.le_of_ble_eq_true rfl) rfl (fun i_r => ?_)
  exact r_icmp_eq g0 1278 dL_1210 (by decide) i_r i_r (fun _ => kk s2 hI') (fun h => absurd rfl h)
theorem L_30 (g : LW l (XE E) b L xs nm K) {i : Int} (h0 : 0 ≤ i) (h5 : i + 5 < (L : Int)) (hL : L ≤ 3072) (hroom : nc ≤ 600000 ∧ ns ≤ 7302250) {s : u_S} (hI : Inv s) (kk : ∀ s', Inv s' → K nc ns 1278 (lvL E b i) [] (Wd E s')) : K nc ns 1215 (lvL E b i) [] (Wd E s) := by
  have g0 := g.wn.wk0
  obtain ⟨r, s1, s2, h1, h2, hI'⟩ := Inv_step (call_reads ) hI
  refine r_aload_n g0 dL_1215 rfl ?_
  refine r_cVI g0 (rest := []) (c_X10_reads isFP0  h1) ok_X10_reads mL_140 (recv_FP isFP0) dL_1216 ⟨Nat.le_of_ble_eq_true rfl, Nat.le_of_ble_eq_true rfl⟩ hroom rfl (Nat.le_of_ble_eq_true rfl) rfl (fun i_r => ?_)
  refine r_aload_n g0 dL_1219 rfl ?_
  refine r_cVI g0 (rest := [.int (J r)]) (c_X11_reads isMo0  h2) ok_X11_reads mL_143 (recv_Mo isMo0) dL_1220 ⟨Nat.le_of_ble_eq_true rfl, Nat.le_of_ble_eq_true rfl⟩ hroom rfl (Nat.le_of_ble_eq_true rfl) rfl (fun i_r => ?_)
  exact r_icmp_eq g0 1278 dL_1223 (by decide) i_r i_r (fun _ => kk s2 hI') (fun h => absurd rfl h)
theorem L_31 (g : LW l (XE E) b L xs nm K) {i : Int} (h0 : 0 ≤ i) (h5 : i + 5 < (L : Int)) (hL : L ≤ 3072) (hroom : nc ≤ 600000 ∧ ns ≤ 7302250) {s : u_S} (hI : Inv s) (kk : ∀ s', Inv s' → K nc ns 1278 (lvL E b i) [] (Wd E s')) : K nc ns 1228 (lvL E b i) [] (Wd E s) := by
  have g0 := g.wn.wk0
  obtain ⟨r, s1, s2, h1, h2, hI'⟩ := Inv_step (call_back ) hI
  refine r_aload_n g0 dL_1228 rfl ?_
  refine r_cVI g0 (rest := []) (c_X10_back isFP0  h1) ok_X10_back mL_144 (recv_FP isFP0) dL_1229 ⟨Nat.le_of_ble_eq_true rfl, Nat.le_of_ble_eq_true rfl⟩ hroom rfl (Nat.le_of_ble_eq_true rfl) rfl (fun i_r => ?_)
  refine r_aload_n g0 dL_1232 rfl ?_
  refine r_cVI g0 (rest := [.int (J r)]) (c_X11_back isMo0  h2) ok_X11_back mL_147 (recv_Mo isMo0) dL_1233 ⟨Nat.le_of_ble_eq_true rfl, Nat.le_of_ble_eq_true rfl⟩ hroom rfl (Nat.le_of_ble_eq_true rfl) rfl (fun i_r => ?_)
  exact r_icmp_eq g0 1278 dL_1236 (by decide) i_r i_r (fun _ => kk s2 hI') (fun h => absurd rfl h)
theorem L_32 (g : LW l (XE E) b L xs nm K) {i : Int} (h0 : 0 ≤ i) (h5 : i + 5 < (L : Int)) (hL : L ≤ 3072) (hroom : nc ≤ 600000 ∧ ns ≤ 7302250) {s : u_S} (hI : Inv s) (kk : ∀ s', Inv s' → K nc ns 1278 (lvL E b i) [] (Wd E s')) : K nc ns 1241 (lvL E b i) [] (Wd E s) := by
  have g0 := g.wn.wk0
  obtain ⟨r, s1, s2, h1, h2, hI'⟩ := Inv_step (call_told (sv xs (i + 1))) hI
  refine r_aload_n g0 dL_1241 rfl ?_
  refine r_arg g h0 (by omega) hL ⟨by decide, by decide⟩ dL_1242 dL_1243 dL_1244 dL_1245 dL_1246 ?_
  refine r_cVI g0 (rest := []) (c_X10_told isFP0 (InR_to _) h1) ok_X10_told mL_148 (recv_FP isFP0) dL_1247 ⟨Nat.le_of_ble_eq_true rfl, Nat.le_of_ble_eq_true rfl⟩ hroom rfl (Nat.le_of_ble_eq_true rfl) rfl (fun i_r => ?_)
  refine r_aload_n g0 dL_1250 rfl ?_
  refine r_arg g h0 (by omega) hL ⟨by decide, by decide⟩ dL_1251 dL_1252 dL_1253 dL_1254 dL_1255 ?_
  refine r_cVI g0 (rest := [.int (J r)]) (c_X11_told isMo0 (InR_to _) h2) ok_X11_told mL_151 (recv_Mo isMo0) dL_1256 ⟨Nat.le_of_ble_eq_true rfl, Nat.le_of_ble_eq_true rfl⟩ hroom rfl (Nat.le_of_ble_eq_true rfl) rfl (fun i_r => ?_)
  exact r_icmp_eq g0 1278 dL_1259 (by decide) i_r i_r (fun _ => kk s2 hI') (fun h => absurd rfl h)
theorem L_33 (g : LW l (XE E) b L xs nm K) {i : Int} (h0 : 0 ≤ i) (h5 : i + 5 < (L : Int)) (hL : L ≤ 3072) (hroom : nc ≤ 600000 ∧ ns ≤ 7302250) {s : u_S} (hI : Inv s) (kk : ∀ s', Inv s' → K nc ns 1278 (lvL E b i) [] (Wd E s')) : K nc ns 1264 (lvL E b i) [] (Wd E s) := by
  have g0 := g.wn.wk0
  obtain ⟨r, s1, s2, h1, h2, hI'⟩ := Inv_step (call_digest ) hI
  refine r_aload_n g0 dL_1264 rfl ?_
  refine r_cVJ g0 (rest := []) (c_X10_digest isFP0  h1) ok_X10_digest mL_152 (recv_FP isFP0) dL_1265 ⟨Nat.le_of_ble_eq_true rfl, Nat.le_of_ble_eq_true rfl⟩ hroom rfl (Nat.le_of_ble_eq_true rfl) rfl (fun i_r => ?_)
  refine r_aload_n g0 dL_1268 rfl ?_
  refine r_cVJ g0 (rest := [.long (JL r)]) (c_X11_digest isMo0  h2) ok_X11_digest mL_156 (recv_Mo isMo0) dL_1269 ⟨Nat.le_of_ble_eq_true rfl, Nat.le_of_ble_eq_true rfl⟩ hroom rfl (Nat.le_of_ble_eq_true rfl) rfl (fun i_r => ?_)
  refine r_lcmp g0 dL_1272 i_r i_r ?_
  rw [show lcm3 r r = 0 from by simp [lcm3]]
  exact r_if_eq g0 1278 dL_1273 (by decide) InR_0 (fun _ => kk s2 hI') (fun h => absurd rfl h)
end CASES
