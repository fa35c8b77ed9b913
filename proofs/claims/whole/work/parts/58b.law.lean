section LW1
variable {p : Program} {l : Launch} {e : Env} {s : State} {m : MethodId} {args : Array Value} {below : List Frame} {meth : Method} {c : Code} {Q : State → Prop}
variable {D : va_G} {cy : Nat → ClassId} {B : Nat} {sa sv : Nat → Nat} {bs L : Nat} {xs : Nat → Int32} {β : Type} {b0 : β}
set_option maxHeartbeats 4000000 in
set_option maxRecDepth 100000 in
theorem z_lc0 (C : zC p l s m args meth c D cy B kd0 166 sa sv RL cL_law 8) (X : va_X bs L xs s s.heap ∧ bs < s.heap.size ∧ s.heap.size = B ∧ L ≤ 3072) (N i cu : Nat) (hi : i + 6 ≤ L) (hcu : cu + 80 ≤ 599000) (M : Mem) (k : Mem → Option β) (hk : ∀ M : Mem, Z p l e room_1 s m args below meth c Q D cy B kd0 166 8 b0 (cu + 80) (2508) (lwl B bs i) [] M (k M)) : Z p l e room_1 s m args below meth c Q D cy B kd0 166 8 b0 (cu) (200) (lwl B bs i) [] M (fLc0 N (xs (i + 1)) (xs (i + 2)) (xs (i + 3)) (xs (i + 4)) (xs (i + 5)) M k) := by
  unfold fLc0 lwl
  refine z_aload_n C 1 3 dL_law_200 rfl rfl ?_
  refine z_scr C X 1 4 0 (by omega) rfl rfl dL_law_201 dL_law_202 dL_law_204 dL_law_205 dL_law_206 rfl ?_
  refine z_scr C X 2 4 0 (by omega) rfl rfl dL_law_207 dL_law_208 dL_law_210 dL_law_211 dL_law_212 rfl ?_
  refine z_scr C X 3 4 0 (by omega) rfl rfl dL_law_213 dL_law_214 dL_law_216 dL_law_217 dL_law_218 rfl ?_
  refine z_scr C X 4 4 0 (by omega) rfl rfl dL_law_219 dL_law_220 dL_law_222 dL_law_223 dL_law_224 rfl ?_
  refine z_scr C X 5 4 0 (by omega) rfl rfl dL_law_225 dL_law_226 dL_law_228 dL_law_229 dL_law_230 rfl ?_
  refine z_callV_I (As := [.int (xs (i + 1)), .int (xs (i + 2)), .int (xs (i + 3)), .int (xs (i + 4)), .int (xs (i + 5))]) (rest := []) C rfl (ctX10_feed (zG_of C) N 0 (xs (i + 1)) (xs (i + 2)) (xs (i + 3)) (xs (i + 4)) (xs (i + 5)) lk0 M) cw_RL_124 rfl (okM_X10_feed) rfl cl10 lk0 (okR_w rfl (by omega)) (Nat.le_of_ble_eq_true rfl) dL_law_231 (fun qj1 _ => ?_)
  refine z_aload_n C 2 2 dL_law_234 rfl rfl ?_
  refine z_scr C X 1 4 0 (by omega) rfl rfl dL_law_235 dL_law_236 dL_law_238 dL_law_239 dL_law_240 rfl ?_
  refine z_scr C X 2 4 0 (by omega) rfl rfl dL_law_241 dL_law_242 dL_law_244 dL_law_245 dL_law_246 rfl ?_
  refine z_scr C X 3 4 0 (by omega) rfl rfl dL_law_247 dL_law_248 dL_law_250 dL_law_251 dL_law_252 rfl ?_
  refine z_scr C X 4 4 0 (by omega) rfl rfl dL_law_253 dL_law_254 dL_law_256 dL_law_257 dL_law_258 rfl ?_
  refine z_scr C X 5 4 0 (by omega) rfl rfl dL_law_259 dL_law_260 dL_law_262 dL_law_263 dL_law_264 rfl ?_
  refine z_callV_I (As := [.int (xs (i + 1)), .int (xs (i + 2)), .int (xs (i + 3)), .int (xs (i + 4)), .int (xs (i + 5))]) (rest := [.int qj1.1]) C rfl (ctX11_feed (zG_of C) N 140 (xs (i + 1)) (xs (i + 2)) (xs (i + 3)) (xs (i + 4)) (xs (i + 5)) lk1 qj1.2) cw_RL_128 rfl (okM_X11_feed) rfl cl11 lk1 (okR_w rfl (by omega)) (Nat.le_of_ble_eq_true rfl) dL_law_265 (fun qj2 _ => ?_)
  refine z_icmp_eq C 2508 dL_law_268 rfl (fun _ => ?_) (fun _ => ?_)
  · exact z_jump (ls1 := lwl B bs i) (by omega) [0, 1, 2, 3, 4] rfl (hk qj2.2)
  · exact z_none
set_option maxHeartbeats 4000000 in
set_option maxRecDepth 100000 in
theorem z_lc1 (C : zC p l s m args meth c D cy B kd0 166 sa sv RL cL_law 8) (X : va_X bs L xs s s.heap ∧ bs < s.heap.size ∧ s.heap.size = B ∧ L ≤ 3072) (N i cu : Nat) (hi : i + 6 ≤ L) (hcu : cu + 80 ≤ 599000) (M : Mem) (k : Mem → Option β) (hk : ∀ M : Mem, Z p l e room_1 s m args below meth c Q D cy B kd0 166 8 b0 (cu + 80) (2508) (lwl B bs i) [] M (k M)) : Z p l e room_1 s m args below meth c Q D cy B kd0 166 8 b0 (cu) (273) (lwl B bs i) [] M (fLc1 N (xs (i + 1)) M k) := by
  unfold fLc1 lwl
  refine z_aload_n C 1 3 dL_law_273 rfl rfl ?_
  refine z_scr C X 1 4 0 (by omega) rfl rfl dL_law_274 dL_law_275 dL_law_277 dL_law_278 dL_law_279 rfl ?_
  refine z_aload_n C 3 1 dL_law_280 rfl rfl ?_
  refine z_callSH_I (As := [.ref (B + 0), .int (xs (i + 1)), .ref (B + 165)]) (rest := []) C rfl (ctL_rules (zG_of C) N 0 (xs (i + 1)) 165 lk0 lk2 M) cw_RL_129 (okM_L_rules) rfl (okR_w rfl (by omega)) (Nat.le_of_ble_eq_true rfl) dL_law_281 (fun qj1 _ => ?_)
  refine z_istore C 5 (ls1 := [(5, .int qj1.1), (4, .int (nI i)), (3, .ref (B + 165)), (2, .ref (B + 140)), (1, .ref (B + 0)), (0, .ref bs)]) dL_law_284 (by decide) rfl ?_
  refine z_aload_n C 2 3 dL_law_286 rfl rfl ?_
  refine z_scr C X 1 5 1 (by omega) rfl rfl dL_law_287 dL_law_288 dL_law_290 dL_law_291 dL_law_292 rfl ?_
  refine z_callV_I (As := [.int (xs (i + 1))]) (rest := []) C rfl (ctX11_rules (zG_of C) N 140 (xs (i + 1)) lk1 qj1.2) cw_RL_134 rfl (okM_X11_rules) rfl cl11 lk1 (okR_w rfl (by omega)) (Nat.le_of_ble_eq_true rfl) dL_law_293 (fun qj2 _ => ?_)
  refine z_istore C 6 (ls1 := [(6, .int qj2.1), (5, .int qj1.1), (4, .int (nI i)), (3, .ref (B + 165)), (2, .ref (B + 140)), (1, .ref (B + 0)), (0, .ref bs)]) dL_law_296 (by decide) rfl ?_
  refine z_aload_n C 2 4 dL_law_298 rfl rfl ?_
  refine z_callV_pI (As := []) (rest := []) C rfl (ctX11_thrown (zG_of C) 140 lk1 qj2.2) cw_RL_135 rfl (okM_X11_thrown) rfl cl11 lk1 (okR_w rfl (by omega)) (Nat.le_of_ble_eq_true rfl) dL_law_299 (fun qj3 _ => ?_)
  refine z_iload C 1 dL_law_302 rfl ?_
  refine z_icmp_eq C 309 dL_law_304 rfl (fun _ => ?_) (fun _ => ?_)
  · refine z_iload C 1 dL_law_309 rfl ?_
    refine z_if_ne C 326 dL_law_311 rfl (fun _ => ?_) (fun _ => ?_)
    · refine z_aload_n C 3 3 dL_law_314 rfl rfl ?_
      refine z_iconst C dL_law_315 rfl ?_
      refine z_lald C lk2 rfl (by decide) dL_law_316 (fun j4 => ?_)
      refine z_iload C 0 dL_law_317 rfl ?_
      refine z_i2l C dL_law_319 ?_
      refine z_lcmp_eq C 326 dL_law_320 dL_law_321 rfl (fun _ => ?_) (fun _ => ?_)
      · refine z_goto C 2508 dL_law_326 rfl ?_
        exact z_jump (ls1 := lwl B bs i) (by omega) [2, 3, 4, 5, 6] rfl (hk qj2.2)
      · exact z_none
    · refine z_goto C 2508 dL_law_326 rfl ?_
      exact z_jump (ls1 := lwl B bs i) (by omega) [2, 3, 4, 5, 6] rfl (hk qj2.2)
  · exact z_none
set_option maxHeartbeats 4000000 in
set_option maxRecDepth 100000 in
theorem z_lc2 (C : zC p l s m args meth c D cy B kd0 166 sa sv RL cL_law 8) (X : va_X bs L xs s s.heap ∧ bs < s.heap.size ∧ s.heap.size = B ∧ L ≤ 3072) (N i cu : Nat) (hi : i + 6 ≤ L) (hcu : cu + 80 ≤ 599000) (M : Mem) (k : Mem → Option β) (hk : ∀ M : Mem, Z p l e room_1 s m args below meth c Q D cy B kd0 166 8 b0 (cu + 80) (2508) (lwl B bs i) [] M (k M)) : Z p l e room_1 s m args below meth c Q D cy B kd0 166 8 b0 (cu) (329) (lwl B bs i) [] M (fLc2 N (xs (i + 1)) M k) := by
  unfold fLc2 lwl
  refine z_aload_n C 1 3 dL_law_329 rfl rfl ?_
  refine z_scr C X 1 4 0 (by omega) rfl rfl dL_law_330 dL_law_331 dL_law_333 dL_law_334 dL_law_335 rfl ?_
  refine z_callV_pI (As := [.int (xs (i + 1))]) (rest := []) C rfl (ctX10_fault (zG_of C) 0 (xs (i + 1)) lk0 M) cw_RL_139 rfl (okM_X10_fault) rfl cl10 lk0 (okR_w rfl (by omega)) (Nat.le_of_ble_eq_true rfl) dL_law_336 (fun qj1 _ => ?_)
  refine z_aload_n C 2 2 dL_law_339 rfl rfl ?_
  refine z_scr C X 1 4 0 (by omega) rfl rfl dL_law_340 dL_law_341 dL_law_343 dL_law_344 dL_law_345 rfl ?_
  refine z_callV_I (As := [.int (xs (i + 1))]) (rest := [.int qj1]) C rfl (ctX11_fault (zG_of C) 140 (xs (i + 1)) lk1 M) cw_RL_142 rfl (okM_X11_fault) rfl cl11 lk1 (okR_w rfl (by omega)) (Nat.le_of_ble_eq_true rfl) dL_law_346 (fun qj2 _ => ?_)
  refine z_icmp_eq C 2508 dL_law_349 rfl (fun _ => ?_) (fun _ => ?_)
  · exact z_jump (ls1 := lwl B bs i) (by omega) [0, 1, 2, 3, 4] rfl (hk qj2.2)
  · exact z_none
set_option maxHeartbeats 4000000 in
set_option maxRecDepth 100000 in
theorem z_lc3 (C : zC p l s m args meth c D cy B kd0 166 sa sv RL cL_law 8) (X : va_X bs L xs s s.heap ∧ bs < s.heap.size ∧ s.heap.size = B ∧ L ≤ 3072) (N i cu : Nat) (hi : i + 6 ≤ L) (hcu : cu + 80 ≤ 599000) (M : Mem) (k : Mem → Option β) (hk : ∀ M : Mem, Z p l e room_1 s m args below meth c Q D cy B kd0 166 8 b0 (cu + 80) (2508) (lwl B bs i) [] M (k M)) : Z p l e room_1 s m args below meth c Q D cy B kd0 166 8 b0 (cu) (354) (lwl B bs i) [] M (fLc3 N (xs (i + 1)) (xs (i + 2)) (xs (i + 3)) M k) := by
  unfold fLc3 lwl
  refine z_aload_n C 1 3 dL_law_354 rfl rfl ?_
  refine z_scr C X 1 4 0 (by omega) rfl rfl dL_law_355 dL_law_356 dL_law_358 dL_law_359 dL_law_360 rfl ?_
  refine z_scr C X 2 4 0 (by omega) rfl rfl dL_law_361 dL_law_362 dL_law_364 dL_law_365 dL_law_366 rfl ?_
  refine z_scr C X 3 4 0 (by omega) rfl rfl dL_law_367 dL_law_368 dL_law_370 dL_law_371 dL_law_372 rfl ?_
  refine z_aload_n C 3 1 dL_law_373 rfl rfl ?_
  refine z_callSH_I (As := [.ref (B + 0), .int (xs (i + 1)), .int (xs (i + 2)), .int (xs (i + 3)), .ref (B + 165)]) (rest := []) C rfl (ctL_value (zG_of C) N 0 (xs (i + 1)) (xs (i + 2)) (xs (i + 3)) 165 lk0 lk2 M) cw_RL_143 (okM_L_value) rfl (okR_w rfl (by omega)) (Nat.le_of_ble_eq_true rfl) dL_law_374 (fun qj1 _ => ?_)
  refine z_istore C 5 (ls1 := [(5, .int qj1.1), (4, .int (nI i)), (3, .ref (B + 165)), (2, .ref (B + 140)), (1, .ref (B + 0)), (0, .ref bs)]) dL_law_377 (by decide) rfl ?_
  refine z_aload_n C 2 3 dL_law_379 rfl rfl ?_
  refine z_scr C X 1 5 1 (by omega) rfl rfl dL_law_380 dL_law_381 dL_law_383 dL_law_384 dL_law_385 rfl ?_
  refine z_scr C X 2 5 1 (by omega) rfl rfl dL_law_386 dL_law_387 dL_law_389 dL_law_390 dL_law_391 rfl ?_
  refine z_scr C X 3 5 1 (by omega) rfl rfl dL_law_392 dL_law_393 dL_law_395 dL_law_396 dL_law_397 rfl ?_
  refine z_callV_I (As := [.int (xs (i + 1)), .int (xs (i + 2)), .int (xs (i + 3))]) (rest := []) C rfl (ctX11_value (zG_of C) N 140 (xs (i + 1)) (xs (i + 2)) (xs (i + 3)) lk1 qj1.2) cw_RL_146 rfl (okM_X11_value) rfl cl11 lk1 (okR_w rfl (by omega)) (Nat.le_of_ble_eq_true rfl) dL_law_398 (fun qj2 _ => ?_)
  refine z_istore C 6 (ls1 := [(6, .int qj2.1), (5, .int qj1.1), (4, .int (nI i)), (3, .ref (B + 165)), (2, .ref (B + 140)), (1, .ref (B + 0)), (0, .ref bs)]) dL_law_401 (by decide) rfl ?_
  refine z_aload_n C 2 4 dL_law_403 rfl rfl ?_
  refine z_callV_pI (As := []) (rest := []) C rfl (ctX11_thrown (zG_of C) 140 lk1 qj2.2) cw_RL_135 rfl (okM_X11_thrown) rfl cl11 lk1 (okR_w rfl (by omega)) (Nat.le_of_ble_eq_true rfl) dL_law_404 (fun qj3 _ => ?_)
  refine z_iload C 1 dL_law_407 rfl ?_
  refine z_icmp_eq C 414 dL_law_409 rfl (fun _ => ?_) (fun _ => ?_)
  · refine z_iload C 1 dL_law_414 rfl ?_
    refine z_if_ne C 431 dL_law_416 rfl (fun _ => ?_) (fun _ => ?_)
    · refine z_aload_n C 3 3 dL_law_419 rfl rfl ?_
      refine z_iconst C dL_law_420 rfl ?_
      refine z_lald C lk2 rfl (by decide) dL_law_421 (fun j4 => ?_)
      refine z_iload C 0 dL_law_422 rfl ?_
      refine z_i2l C dL_law_424 ?_
      refine z_lcmp_eq C 431 dL_law_425 dL_law_426 rfl (fun _ => ?_) (fun _ => ?_)
      · refine z_goto C 2508 dL_law_431 rfl ?_
        exact z_jump (ls1 := lwl B bs i) (by omega) [2, 3, 4, 5, 6] rfl (hk qj2.2)
      · exact z_none
    · refine z_goto C 2508 dL_law_431 rfl ?_
      exact z_jump (ls1 := lwl B bs i) (by omega) [2, 3, 4, 5, 6] rfl (hk qj2.2)
  · exact z_none
set_option maxHeartbeats 4000000 in
set_option maxRecDepth 100000 in
theorem z_lc4 (C : zC p l s m args meth c D cy B kd0 166 sa sv RL cL_law 8) (X : va_X bs L xs s s.heap ∧ bs < s.heap.size ∧ s.heap.size = B ∧ L ≤ 3072) (N i cu : Nat) (hi : i + 6 ≤ L) (hcu : cu + 80 ≤ 599000) (M : Mem) (k : Mem → Option β) (hk : ∀ M : Mem, Z p l e room_1 s m args below meth c Q D cy B kd0 166 8 b0 (cu + 80) (2508) (lwl B bs i) [] M (k M)) : Z p l e room_1 s m args below meth c Q D cy B kd0 166 8 b0 (cu) (434) (lwl B bs i) [] M (fLc4 N (xs (i + 1)) (xs (i + 2)) (xs (i + 3)) M k) := by
  unfold fLc4 lwl
  refine z_aload_n C 1 3 dL_law_434 rfl rfl ?_
  refine z_scr C X 1 4 0 (by omega) rfl rfl dL_law_435 dL_law_436 dL_law_438 dL_law_439 dL_law_440 rfl ?_
  refine z_scr C X 2 4 0 (by omega) rfl rfl dL_law_441 dL_law_442 dL_law_444 dL_law_445 dL_law_446 rfl ?_
  refine z_scr C X 3 4 0 (by omega) rfl rfl dL_law_447 dL_law_448 dL_law_450 dL_law_451 dL_law_452 rfl ?_
  refine z_aload_n C 3 1 dL_law_453 rfl rfl ?_
  refine z_callSH_I (As := [.ref (B + 0), .int (xs (i + 1)), .int (xs (i + 2)), .int (xs (i + 3)), .ref (B + 165)]) (rest := []) C rfl (ctL_place (zG_of C) N 0 (xs (i + 1)) (xs (i + 2)) (xs (i + 3)) 165 lk0 lk2 M) cw_RL_147 (okM_L_place) rfl (okR_w rfl (by omega)) (Nat.le_of_ble_eq_true rfl) dL_law_454 (fun qj1 _ => ?_)
  refine z_istore C 5 (ls1 := [(5, .int qj1.1), (4, .int (nI i)), (3, .ref (B + 165)), (2, .ref (B + 140)), (1, .ref (B + 0)), (0, .ref bs)]) dL_law_457 (by decide) rfl ?_
  refine z_aload_n C 2 3 dL_law_459 rfl rfl ?_
  refine z_scr C X 1 5 1 (by omega) rfl rfl dL_law_460 dL_law_461 dL_law_463 dL_law_464 dL_law_465 rfl ?_
  refine z_scr C X 2 5 1 (by omega) rfl rfl dL_law_466 dL_law_467 dL_law_469 dL_law_470 dL_law_471 rfl ?_
  refine z_scr C X 3 5 1 (by omega) rfl rfl dL_law_472 dL_law_473 dL_law_475 dL_law_476 dL_law_477 rfl ?_
  refine z_callV_I (As := [.int (xs (i + 1)), .int (xs (i + 2)), .int (xs (i + 3))]) (rest := []) C rfl (ctX11_place (zG_of C) N 140 (xs (i + 1)) (xs (i + 2)) (xs (i + 3)) lk1 qj1.2) cw_RL_149 rfl (okM_X11_place) rfl cl11 lk1 (okR_w rfl (by omega)) (Nat.le_of_ble_eq_true rfl) dL_law_478 (fun qj2 _ => ?_)
  refine z_istore C 6 (ls1 := [(6, .int qj2.1), (5, .int qj1.1), (4, .int (nI i)), (3, .ref (B + 165)), (2, .ref (B + 140)), (1, .ref (B + 0)), (0, .ref bs)]) dL_law_481 (by decide) rfl ?_
  refine z_aload_n C 2 4 dL_law_483 rfl rfl ?_
  refine z_callV_pI (As := []) (rest := []) C rfl (ctX11_thrown (zG_of C) 140 lk1 qj2.2) cw_RL_135 rfl (okM_X11_thrown) rfl cl11 lk1 (okR_w rfl (by omega)) (Nat.le_of_ble_eq_true rfl) dL_law_484 (fun qj3 _ => ?_)
  refine z_iload C 1 dL_law_487 rfl ?_
  refine z_icmp_eq C 494 dL_law_489 rfl (fun _ => ?_) (fun _ => ?_)
  · refine z_iload C 1 dL_law_494 rfl ?_
    refine z_if_ne C 511 dL_law_496 rfl (fun _ => ?_) (fun _ => ?_)
    · refine z_aload_n C 3 3 dL_law_499 rfl rfl ?_
      refine z_iconst C dL_law_500 rfl ?_
      refine z_lald C lk2 rfl (by decide) dL_law_501 (fun j4 => ?_)
      refine z_iload C 0 dL_law_502 rfl ?_
      refine z_i2l C dL_law_504 ?_
      refine z_lcmp_eq C 511 dL_law_505 dL_law_506 rfl (fun _ => ?_) (fun _ => ?_)
      · refine z_goto C 2508 dL_law_511 rfl ?_
        exact z_jump (ls1 := lwl B bs i) (by omega) [2, 3, 4, 5, 6] rfl (hk qj2.2)
      · exact z_none
    · refine z_goto C 2508 dL_law_511 rfl ?_
      exact z_jump (ls1 := lwl B bs i) (by omega) [2, 3, 4, 5, 6] rfl (hk qj2.2)
  · exact z_none
set_option maxHeartbeats 4000000 in
set_option maxRecDepth 100000 in
theorem z_lc5 (C : zC p l s m args meth c D cy B kd0 166 sa sv RL cL_law 8) (X : va_X bs L xs s s.heap ∧ bs < s.heap.size ∧ s.heap.size = B ∧ L ≤ 3072) (N i cu : Nat) (hi : i + 6 ≤ L) (hcu : cu + 80 ≤ 599000) (M : Mem) (k : Mem → Option β) (hk : ∀ M : Mem, Z p l e room_1 s m args below meth c Q D cy B kd0 166 8 b0 (cu + 80) (2508) (lwl B bs i) [] M (k M)) : Z p l e room_1 s m args below meth c Q D cy B kd0 166 8 b0 (cu) (514) (lwl B bs i) [] M (fLc5 N (xs (i + 1)) M k) := by
  unfold fLc5 lwl
  refine z_aload_n C 1 3 dL_law_514 rfl rfl ?_
  refine z_scr C X 1 4 0 (by omega) rfl rfl dL_law_515 dL_law_516 dL_law_518 dL_law_519 dL_law_520 rfl ?_
  refine z_aload_n C 3 1 dL_law_521 rfl rfl ?_
  refine z_callSH_I (As := [.ref (B + 0), .int (xs (i + 1)), .ref (B + 165)]) (rest := []) C rfl (ctL_tag (zG_of C) 0 (xs (i + 1)) 165 lk0 lk2 M) cw_RL_150 (okM_L_tag) rfl (okR_w rfl (by omega)) (Nat.le_of_ble_eq_true rfl) dL_law_522 (fun qj1 _ => ?_)
  refine z_istore C 5 (ls1 := [(5, .int qj1.1), (4, .int (nI i)), (3, .ref (B + 165)), (2, .ref (B + 140)), (1, .ref (B + 0)), (0, .ref bs)]) dL_law_525 (by decide) rfl ?_
  refine z_aload_n C 2 3 dL_law_527 rfl rfl ?_
  refine z_scr C X 1 5 1 (by omega) rfl rfl dL_law_528 dL_law_529 dL_law_531 dL_law_532 dL_law_533 rfl ?_
  refine z_callV_I (As := [.int (xs (i + 1))]) (rest := []) C rfl (ctX11_tag (zG_of C) N 140 (xs (i + 1)) lk1 qj1.2) cw_RL_152 rfl (okM_X11_tag) rfl cl11 lk1 (okR_w rfl (by omega)) (Nat.le_of_ble_eq_true rfl) dL_law_534 (fun qj2 _ => ?_)
  refine z_istore C 6 (ls1 := [(6, .int qj2.1), (5, .int qj1.1), (4, .int (nI i)), (3, .ref (B + 165)), (2, .ref (B + 140)), (1, .ref (B + 0)), (0, .ref bs)]) dL_law_537 (by decide) rfl ?_
  refine z_aload_n C 2 4 dL_law_539 rfl rfl ?_
  refine z_callV_pI (As := []) (rest := []) C rfl (ctX11_thrown (zG_of C) 140 lk1 qj2.2) cw_RL_135 rfl (okM_X11_thrown) rfl cl11 lk1 (okR_w rfl (by omega)) (Nat.le_of_ble_eq_true rfl) dL_law_540 (fun qj3 _ => ?_)
  refine z_iload C 1 dL_law_543 rfl ?_
  refine z_icmp_eq C 550 dL_law_545 rfl (fun _ => ?_) (fun _ => ?_)
  · refine z_iload C 1 dL_law_550 rfl ?_
    refine z_if_ne C 567 dL_law_552 rfl (fun _ => ?_) (fun _ => ?_)
    · refine z_aload_n C 3 3 dL_law_555 rfl rfl ?_
      refine z_iconst C dL_law_556 rfl ?_
      refine z_lald C lk2 rfl (by decide) dL_law_557 (fun j4 => ?_)
      refine z_iload C 0 dL_law_558 rfl ?_
      refine z_i2l C dL_law_560 ?_
      refine z_lcmp_eq C 567 dL_law_561 dL_law_562 rfl (fun _ => ?_) (fun _ => ?_)
      · refine z_goto C 2508 dL_law_567 rfl ?_
        exact z_jump (ls1 := lwl B bs i) (by omega) [2, 3, 4, 5, 6] rfl (hk qj2.2)
      · exact z_none
    · refine z_goto C 2508 dL_law_567 rfl ?_
      exact z_jump (ls1 := lwl B bs i) (by omega) [2, 3, 4, 5, 6] rfl (hk qj2.2)
  · exact z_none
set_option maxHeartbeats 4000000 in
set_option maxRecDepth 100000 in
theorem z_lc6 (C : zC p l s m args meth c D cy B kd0 166 sa sv RL cL_law 8) (X : va_X bs L xs s s.heap ∧ bs < s.heap.size ∧ s.heap.size = B ∧ L ≤ 3072) (N i cu : Nat) (hi : i + 6 ≤ L) (hcu : cu + 80 ≤ 599000) (M : Mem) (k : Mem → Option β) (hk : ∀ M : Mem, Z p l e room_1 s m args below meth c Q D cy B kd0 166 8 b0 (cu + 80) (2508) (lwl B bs i) [] M (k M)) : Z p l e room_1 s m args below meth c Q D cy B kd0 166 8 b0 (cu) (570) (lwl B bs i) [] M (fLc6 N (xs (i + 1)) (xs (i + 2)) (xs (i + 3)) (xs (i + 4)) (xs (i + 5)) M k) := by
  unfold fLc6 lwl
  refine z_aload_n C 1 3 dL_law_570 rfl rfl ?_
  refine z_scr C X 1 4 0 (by omega) rfl rfl dL_law_571 dL_law_572 dL_law_574 dL_law_575 dL_law_576 rfl ?_
  refine z_scr C X 2 4 0 (by omega) rfl rfl dL_law_577 dL_law_578 dL_law_580 dL_law_581 dL_law_582 rfl ?_
  refine z_scr C X 3 4 0 (by omega) rfl rfl dL_law_583 dL_law_584 dL_law_586 dL_law_587 dL_law_588 rfl ?_
  refine z_scr C X 4 4 0 (by omega) rfl rfl dL_law_589 dL_law_590 dL_law_592 dL_law_593 dL_law_594 rfl ?_
  refine z_scr C X 5 4 0 (by omega) rfl rfl dL_law_595 dL_law_596 dL_law_598 dL_law_599 dL_law_600 rfl ?_
  refine z_callSH_I (As := [.ref (B + 0), .int (xs (i + 1)), .int (xs (i + 2)), .int (xs (i + 3)), .int (xs (i + 4)), .int (xs (i + 5))]) (rest := []) C rfl (ctL_make (zG_of C) N 0 (xs (i + 1)) (xs (i + 2)) (xs (i + 3)) (xs (i + 4)) (xs (i + 5)) lk0 M) cw_RL_153 (okM_L_make) rfl (okR_w rfl (by omega)) (Nat.le_of_ble_eq_true rfl) dL_law_601 (fun qj1 _ => ?_)
  refine z_istore C 5 (ls1 := [(5, .int qj1.1), (4, .int (nI i)), (3, .ref (B + 165)), (2, .ref (B + 140)), (1, .ref (B + 0)), (0, .ref bs)]) dL_law_604 (by decide) rfl ?_
  refine z_aload_n C 2 3 dL_law_606 rfl rfl ?_
  refine z_scr C X 1 5 1 (by omega) rfl rfl dL_law_607 dL_law_608 dL_law_610 dL_law_611 dL_law_612 rfl ?_
  refine z_scr C X 2 5 1 (by omega) rfl rfl dL_law_613 dL_law_614 dL_law_616 dL_law_617 dL_law_618 rfl ?_
  refine z_scr C X 3 5 1 (by omega) rfl rfl dL_law_619 dL_law_620 dL_law_622 dL_law_623 dL_law_624 rfl ?_
  refine z_scr C X 4 5 1 (by omega) rfl rfl dL_law_625 dL_law_626 dL_law_628 dL_law_629 dL_law_630 rfl ?_
  refine z_scr C X 5 5 1 (by omega) rfl rfl dL_law_631 dL_law_632 dL_law_634 dL_law_635 dL_law_636 rfl ?_
  refine z_callV_V (As := [.int (xs (i + 1)), .int (xs (i + 2)), .int (xs (i + 3)), .int (xs (i + 4)), .int (xs (i + 5))]) (rest := []) C rfl (ctX11_make (zG_of C) N 140 (xs (i + 1)) (xs (i + 2)) (xs (i + 3)) (xs (i + 4)) (xs (i + 5)) lk1 qj1.2) cw_RL_156 rfl (okM_X11_make) rfl cl11 lk1 (okR_w rfl (by omega)) (Nat.le_of_ble_eq_true rfl) dL_law_637 (fun qj2 _ => ?_)
  refine z_aload_n C 2 3 dL_law_640 rfl rfl ?_
  refine z_callV_pI (As := []) (rest := []) C rfl (ctX11_thrown (zG_of C) 140 lk1 qj2) cw_RL_135 rfl (okM_X11_thrown) rfl cl11 lk1 (okR_w rfl (by omega)) (Nat.le_of_ble_eq_true rfl) dL_law_641 (fun qj3 _ => ?_)
  refine z_iload C 0 dL_law_644 rfl ?_
  refine z_icmp_eq C 651 dL_law_646 rfl (fun _ => ?_) (fun _ => ?_)
  · refine z_goto C 2508 dL_law_651 rfl ?_
    exact z_jump (ls1 := lwl B bs i) (by omega) [1, 2, 3, 4, 5] rfl (hk qj2)
  · exact z_none
set_option maxHeartbeats 4000000 in
set_option maxRecDepth 100000 in
theorem z_lc7 (C : zC p l s m args meth c D cy B kd0 166 sa sv RL cL_law 8) (X : va_X bs L xs s s.heap ∧ bs < s.heap.size ∧ s.heap.size = B ∧ L ≤ 3072) (N i cu : Nat) (hi : i + 6 ≤ L) (hcu : cu + 80 ≤ 599000) (M : Mem) (k : Mem → Option β) (hk : ∀ M : Mem, Z p l e room_1 s m args below meth c Q D cy B kd0 166 8 b0 (cu + 80) (2508) (lwl B bs i) [] M (k M)) : Z p l e room_1 s m args below meth c Q D cy B kd0 166 8 b0 (cu) (654) (lwl B bs i) [] M (fLc7 N (xs (i + 1)) (xs (i + 2)) M k) := by
  unfold fLc7 lwl
  refine z_aload_n C 1 3 dL_law_654 rfl rfl ?_
  refine z_scr C X 1 4 0 (by omega) rfl rfl dL_law_655 dL_law_656 dL_law_658 dL_law_659 dL_law_660 rfl ?_
  refine z_scr C X 2 4 0 (by omega) rfl rfl dL_law_661 dL_law_662 dL_law_664 dL_law_665 dL_law_666 rfl ?_
  refine z_aload_n C 3 1 dL_law_667 rfl rfl ?_
  refine z_callSH_I (As := [.ref (B + 0), .int (xs (i + 1)), .int (xs (i + 2)), .ref (B + 165)]) (rest := []) C rfl (ctL_of (zG_of C) N 0 (xs (i + 1)) (xs (i + 2)) 165 lk0 lk2 M) cw_RL_157 (okM_L_of) rfl (okR_w rfl (by omega)) (Nat.le_of_ble_eq_true rfl) dL_law_668 (fun qj1 _ => ?_)
  refine z_istore C 5 (ls1 := [(5, .int qj1.1), (4, .int (nI i)), (3, .ref (B + 165)), (2, .ref (B + 140)), (1, .ref (B + 0)), (0, .ref bs)]) dL_law_671 (by decide) rfl ?_
  refine z_aload_n C 2 3 dL_law_673 rfl rfl ?_
  refine z_scr C X 1 5 1 (by omega) rfl rfl dL_law_674 dL_law_675 dL_law_677 dL_law_678 dL_law_679 rfl ?_
  refine z_scr C X 2 5 1 (by omega) rfl rfl dL_law_680 dL_law_681 dL_law_683 dL_law_684 dL_law_685 rfl ?_
  refine z_callV_I (As := [.int (xs (i + 1)), .int (xs (i + 2))]) (rest := []) C rfl (ctX11_of (zG_of C) N 140 (xs (i + 1)) (xs (i + 2)) lk1 qj1.2) cw_RL_160 rfl (okM_X11_of) rfl cl11 lk1 (okR_w rfl (by omega)) (Nat.le_of_ble_eq_true rfl) dL_law_686 (fun qj2 _ => ?_)
  refine z_istore C 6 (ls1 := [(6, .int qj2.1), (5, .int qj1.1), (4, .int (nI i)), (3, .ref (B + 165)), (2, .ref (B + 140)), (1, .ref (B + 0)), (0, .ref bs)]) dL_law_689 (by decide) rfl ?_
  refine z_aload_n C 2 4 dL_law_691 rfl rfl ?_
  refine z_callV_pI (As := []) (rest := []) C rfl (ctX11_thrown (zG_of C) 140 lk1 qj2.2) cw_RL_135 rfl (okM_X11_thrown) rfl cl11 lk1 (okR_w rfl (by omega)) (Nat.le_of_ble_eq_true rfl) dL_law_692 (fun qj3 _ => ?_)
  refine z_iload C 1 dL_law_695 rfl ?_
  refine z_icmp_eq C 702 dL_law_697 rfl (fun _ => ?_) (fun _ => ?_)
  · refine z_iload C 1 dL_law_702 rfl ?_
    refine z_if_ne C 719 dL_law_704 rfl (fun _ => ?_) (fun _ => ?_)
    · refine z_aload_n C 3 3 dL_law_707 rfl rfl ?_
      refine z_iconst C dL_law_708 rfl ?_
      refine z_lald C lk2 rfl (by decide) dL_law_709 (fun j4 => ?_)
      refine z_iload C 0 dL_law_710 rfl ?_
      refine z_i2l C dL_law_712 ?_
      refine z_lcmp_eq C 719 dL_law_713 dL_law_714 rfl (fun _ => ?_) (fun _ => ?_)
      · refine z_goto C 2508 dL_law_719 rfl ?_
        exact z_jump (ls1 := lwl B bs i) (by omega) [2, 3, 4, 5, 6] rfl (hk qj2.2)
      · exact z_none
    · refine z_goto C 2508 dL_law_719 rfl ?_
      exact z_jump (ls1 := lwl B bs i) (by omega) [2, 3, 4, 5, 6] rfl (hk qj2.2)
  · exact z_none
set_option maxHeartbeats 4000000 in
set_option maxRecDepth 100000 in
theorem z_lc8 (C : zC p l s m args meth c D cy B kd0 166 sa sv RL cL_law 8) (X : va_X bs L xs s s.heap ∧ bs < s.heap.size ∧ s.heap.size = B ∧ L ≤ 3072) (N i cu : Nat) (hi : i + 6 ≤ L) (hcu : cu + 80 ≤ 599000) (M : Mem) (k : Mem → Option β) (hk : ∀ M : Mem, Z p l e room_1 s m args below meth c Q D cy B kd0 166 8 b0 (cu + 80) (2508) (lwl B bs i) [] M (k M)) : Z p l e room_1 s m args below meth c Q D cy B kd0 166 8 b0 (cu) (722) (lwl B bs i) [] M (fLc8 N (xs (i + 1)) (xs (i + 2)) M k) := by
  unfold fLc8 lwl
  refine z_aload_n C 1 3 dL_law_722 rfl rfl ?_
  refine z_scr C X 1 4 0 (by omega) rfl rfl dL_law_723 dL_law_724 dL_law_726 dL_law_727 dL_law_728 rfl ?_
  refine z_scr C X 2 4 0 (by omega) rfl rfl dL_law_729 dL_law_730 dL_law_732 dL_law_733 dL_law_734 rfl ?_
  refine z_aload_n C 3 1 dL_law_735 rfl rfl ?_
  refine z_callSH_I (As := [.ref (B + 0), .int (xs (i + 1)), .int (xs (i + 2)), .ref (B + 165)]) (rest := []) C rfl (ctL_cell (zG_of C) N 0 (xs (i + 1)) (xs (i + 2)) 165 lk0 lk2 M) cw_RL_161 (okM_L_cell) rfl (okR_w rfl (by omega)) (Nat.le_of_ble_eq_true rfl) dL_law_736 (fun qj1 _ => ?_)
  refine z_istore C 5 (ls1 := [(5, .int qj1.1), (4, .int (nI i)), (3, .ref (B + 165)), (2, .ref (B + 140)), (1, .ref (B + 0)), (0, .ref bs)]) dL_law_739 (by decide) rfl ?_
  refine z_aload_n C 2 3 dL_law_741 rfl rfl ?_
  refine z_scr C X 1 5 1 (by omega) rfl rfl dL_law_742 dL_law_743 dL_law_745 dL_law_746 dL_law_747 rfl ?_
  refine z_scr C X 2 5 1 (by omega) rfl rfl dL_law_748 dL_law_749 dL_law_751 dL_law_752 dL_law_753 rfl ?_
  refine z_callV_I (As := [.int (xs (i + 1)), .int (xs (i + 2))]) (rest := []) C rfl (ctX11_cell (zG_of C) N 140 (xs (i + 1)) (xs (i + 2)) lk1 qj1.2) cw_RL_163 rfl (okM_X11_cell) rfl cl11 lk1 (okR_w rfl (by omega)) (Nat.le_of_ble_eq_true rfl) dL_law_754 (fun qj2 _ => ?_)
  refine z_istore C 6 (ls1 := [(6, .int qj2.1), (5, .int qj1.1), (4, .int (nI i)), (3, .ref (B + 165)), (2, .ref (B + 140)), (1, .ref (B + 0)), (0, .ref bs)]) dL_law_757 (by decide) rfl ?_
  refine z_aload_n C 2 4 dL_law_759 rfl rfl ?_
  refine z_callV_pI (As := []) (rest := []) C rfl (ctX11_thrown (zG_of C) 140 lk1 qj2.2) cw_RL_135 rfl (okM_X11_thrown) rfl cl11 lk1 (okR_w rfl (by omega)) (Nat.le_of_ble_eq_true rfl) dL_law_760 (fun qj3 _ => ?_)
  refine z_iload C 1 dL_law_763 rfl ?_
  refine z_icmp_eq C 770 dL_law_765 rfl (fun _ => ?_) (fun _ => ?_)
  · refine z_iload C 1 dL_law_770 rfl ?_
    refine z_if_ne C 787 dL_law_772 rfl (fun _ => ?_) (fun _ => ?_)
    · refine z_aload_n C 3 3 dL_law_775 rfl rfl ?_
      refine z_iconst C dL_law_776 rfl ?_
      refine z_lald C lk2 rfl (by decide) dL_law_777 (fun j4 => ?_)
      refine z_iload C 0 dL_law_778 rfl ?_
      refine z_i2l C dL_law_780 ?_
      refine z_lcmp_eq C 787 dL_law_781 dL_law_782 rfl (fun _ => ?_) (fun _ => ?_)
      · refine z_goto C 2508 dL_law_787 rfl ?_
        exact z_jump (ls1 := lwl B bs i) (by omega) [2, 3, 4, 5, 6] rfl (hk qj2.2)
      · exact z_none
    · refine z_goto C 2508 dL_law_787 rfl ?_
      exact z_jump (ls1 := lwl B bs i) (by omega) [2, 3, 4, 5, 6] rfl (hk qj2.2)
  · exact z_none
set_option maxHeartbeats 4000000 in
set_option maxRecDepth 100000 in
theorem z_lc9 (C : zC p l s m args meth c D cy B kd0 166 sa sv RL cL_law 8) (X : va_X bs L xs s s.heap ∧ bs < s.heap.size ∧ s.heap.size = B ∧ L ≤ 3072) (N i cu : Nat) (hi : i + 6 ≤ L) (hcu : cu + 80 ≤ 599000) (M : Mem) (k : Mem → Option β) (hk : ∀ M : Mem, Z p l e room_1 s m args below meth c Q D cy B kd0 166 8 b0 (cu + 80) (2508) (lwl B bs i) [] M (k M)) : Z p l e room_1 s m args below meth c Q D cy B kd0 166 8 b0 (cu) (790) (lwl B bs i) [] M (fLc9 N (xs (i + 1)) (xs (i + 2)) (xs (i + 3)) M k) := by
  unfold fLc9 lwl
  refine z_aload_n C 1 3 dL_law_790 rfl rfl ?_
  refine z_scr C X 1 4 0 (by omega) rfl rfl dL_law_791 dL_law_792 dL_law_794 dL_law_795 dL_law_796 rfl ?_
  refine z_scr C X 2 4 0 (by omega) rfl rfl dL_law_797 dL_law_798 dL_law_800 dL_law_801 dL_law_802 rfl ?_
  refine z_scr C X 3 4 0 (by omega) rfl rfl dL_law_803 dL_law_804 dL_law_806 dL_law_807 dL_law_808 rfl ?_
  refine z_aload_n C 3 1 dL_law_809 rfl rfl ?_
  refine z_callSH_I (As := [.ref (B + 0), .int (xs (i + 1)), .int (xs (i + 2)), .int (xs (i + 3)), .ref (B + 165)]) (rest := []) C rfl (ctL_guest (zG_of C) 0 (xs (i + 1)) (xs (i + 2)) (xs (i + 3)) 165 lk0 lk2 M) cw_RL_164 (okM_L_guest) rfl (okR_w rfl (by omega)) (Nat.le_of_ble_eq_true rfl) dL_law_810 (fun qj1 _ => ?_)
  refine z_istore C 5 (ls1 := [(5, .int qj1.1), (4, .int (nI i)), (3, .ref (B + 165)), (2, .ref (B + 140)), (1, .ref (B + 0)), (0, .ref bs)]) dL_law_813 (by decide) rfl ?_
  refine z_aload_n C 2 3 dL_law_815 rfl rfl ?_
  refine z_scr C X 1 5 1 (by omega) rfl rfl dL_law_816 dL_law_817 dL_law_819 dL_law_820 dL_law_821 rfl ?_
  refine z_scr C X 2 5 1 (by omega) rfl rfl dL_law_822 dL_law_823 dL_law_825 dL_law_826 dL_law_827 rfl ?_
  refine z_scr C X 3 5 1 (by omega) rfl rfl dL_law_828 dL_law_829 dL_law_831 dL_law_832 dL_law_833 rfl ?_
  refine z_callV_I (As := [.int (xs (i + 1)), .int (xs (i + 2)), .int (xs (i + 3))]) (rest := []) C rfl (ctX11_guest (zG_of C) 140 (xs (i + 1)) (xs (i + 2)) (xs (i + 3)) lk1 qj1.2) cw_RL_166 rfl (okM_X11_guest) rfl cl11 lk1 (okR_w rfl (by omega)) (Nat.le_of_ble_eq_true rfl) dL_law_834 (fun qj2 _ => ?_)
  refine z_istore C 6 (ls1 := [(6, .int qj2.1), (5, .int qj1.1), (4, .int (nI i)), (3, .ref (B + 165)), (2, .ref (B + 140)), (1, .ref (B + 0)), (0, .ref bs)]) dL_law_837 (by decide) rfl ?_
  refine z_aload_n C 2 4 dL_law_839 rfl rfl ?_
  refine z_callV_pI (As := []) (rest := []) C rfl (ctX11_thrown (zG_of C) 140 lk1 qj2.2) cw_RL_135 rfl (okM_X11_thrown) rfl cl11 lk1 (okR_w rfl (by omega)) (Nat.le_of_ble_eq_true rfl) dL_law_840 (fun qj3 _ => ?_)
  refine z_iload C 1 dL_law_843 rfl ?_
  refine z_icmp_eq C 850 dL_law_845 rfl (fun _ => ?_) (fun _ => ?_)
  · refine z_iload C 1 dL_law_850 rfl ?_
    refine z_if_ne C 867 dL_law_852 rfl (fun _ => ?_) (fun _ => ?_)
    · refine z_aload_n C 3 3 dL_law_855 rfl rfl ?_
      refine z_iconst C dL_law_856 rfl ?_
      refine z_lald C lk2 rfl (by decide) dL_law_857 (fun j4 => ?_)
      refine z_iload C 0 dL_law_858 rfl ?_
      refine z_i2l C dL_law_860 ?_
      refine z_lcmp_eq C 867 dL_law_861 dL_law_862 rfl (fun _ => ?_) (fun _ => ?_)
      · refine z_goto C 2508 dL_law_867 rfl ?_
        exact z_jump (ls1 := lwl B bs i) (by omega) [2, 3, 4, 5, 6] rfl (hk qj2.2)
      · exact z_none
    · refine z_goto C 2508 dL_law_867 rfl ?_
      exact z_jump (ls1 := lwl B bs i) (by omega) [2, 3, 4, 5, 6] rfl (hk qj2.2)
  · exact z_none
set_option maxHeartbeats 4000000 in
set_option maxRecDepth 100000 in
theorem z_lc10 (C : zC p l s m args meth c D cy B kd0 166 sa sv RL cL_law 8) (X : va_X bs L xs s s.heap ∧ bs < s.heap.size ∧ s.heap.size = B ∧ L ≤ 3072) (N i cu : Nat) (hi : i + 6 ≤ L) (hcu : cu + 80 ≤ 599000) (M : Mem) (k : Mem → Option β) (hk : ∀ M : Mem, Z p l e room_1 s m args below meth c Q D cy B kd0 166 8 b0 (cu + 80) (2508) (lwl B bs i) [] M (k M)) : Z p l e room_1 s m args below meth c Q D cy B kd0 166 8 b0 (cu) (870) (lwl B bs i) [] M (fLc10 N (xs (i + 1)) (xs (i + 2)) M k) := by
  unfold fLc10 lwl
  refine z_aload_n C 1 3 dL_law_870 rfl rfl ?_
  refine z_scr C X 1 4 0 (by omega) rfl rfl dL_law_871 dL_law_872 dL_law_874 dL_law_875 dL_law_876 rfl ?_
  refine z_scr C X 2 4 0 (by omega) rfl rfl dL_law_877 dL_law_878 dL_law_880 dL_law_881 dL_law_882 rfl ?_
  refine z_aload_n C 3 1 dL_law_883 rfl rfl ?_
  refine z_callSH_I (As := [.ref (B + 0), .int (xs (i + 1)), .int (xs (i + 2)), .ref (B + 165)]) (rest := []) C rfl (ctL_yes (zG_of C) N 0 (xs (i + 1)) (xs (i + 2)) 165 lk0 lk2 M) cw_RL_167 (okM_L_yes) rfl (okR_w rfl (by omega)) (Nat.le_of_ble_eq_true rfl) dL_law_884 (fun qj1 _ => ?_)
  refine z_istore C 5 (ls1 := [(5, .int qj1.1), (4, .int (nI i)), (3, .ref (B + 165)), (2, .ref (B + 140)), (1, .ref (B + 0)), (0, .ref bs)]) dL_law_887 (by decide) rfl ?_
  refine z_aload_n C 2 3 dL_law_889 rfl rfl ?_
  refine z_scr C X 1 5 1 (by omega) rfl rfl dL_law_890 dL_law_891 dL_law_893 dL_law_894 dL_law_895 rfl ?_
  refine z_scr C X 2 5 1 (by omega) rfl rfl dL_law_896 dL_law_897 dL_law_899 dL_law_900 dL_law_901 rfl ?_
  refine z_callV_B (As := [.int (xs (i + 1)), .int (xs (i + 2))]) (rest := []) C rfl (ctX11_yes (zG_of C) N 140 (xs (i + 1)) (xs (i + 2)) lk1 qj1.2) cw_RL_169 rfl (okM_X11_yes) rfl cl11 lk1 (okR_w rfl (by omega)) (Nat.le_of_ble_eq_true rfl) dL_law_902 (fun qj2 _ => ?_)
  refine z_istore C 6 (ls1 := [(6, .int (bI qj2.1)), (5, .int qj1.1), (4, .int (nI i)), (3, .ref (B + 165)), (2, .ref (B + 140)), (1, .ref (B + 0)), (0, .ref bs)]) dL_law_905 (by decide) rfl ?_
  refine z_aload_n C 2 4 dL_law_907 rfl rfl ?_
  refine z_callV_pI (As := []) (rest := []) C rfl (ctX11_thrown (zG_of C) 140 lk1 qj2.2) cw_RL_135 rfl (okM_X11_thrown) rfl cl11 lk1 (okR_w rfl (by omega)) (Nat.le_of_ble_eq_true rfl) dL_law_908 (fun qj3 _ => ?_)
  refine z_iload C 1 dL_law_911 rfl ?_
  refine z_icmp_eq C 918 dL_law_913 rfl (fun _ => ?_) (fun _ => ?_)
  · refine z_iload C 1 dL_law_918 rfl ?_
    refine z_if_ne C 942 dL_law_920 rfl (fun _ => ?_) (fun _ => ?_)
    · refine z_aload_n C 3 3 dL_law_923 rfl rfl ?_
      refine z_iconst C dL_law_924 rfl ?_
      refine z_lald C lk2 rfl (by decide) dL_law_925 (fun j4 => ?_)
      refine z_iload C 0 dL_law_926 rfl ?_
      refine z_if_eqB C 935 dL_law_928 rfl (fun _ => ?_) (fun _ => ?_)
      · refine z_lconst (v := 1) C dL_law_931 rfl ?_
        refine z_goto C 936 dL_law_932 rfl ?_
        refine z_lcmp_eq C 942 dL_law_936 dL_law_937 rfl (fun _ => ?_) (fun _ => ?_)
        · refine z_goto C 2508 dL_law_942 rfl ?_
          exact z_jump (ls1 := lwl B bs i) (by omega) [2, 3, 4, 5, 6] rfl (hk qj2.2)
        · exact z_none
      · refine z_lconst (v := 0) C dL_law_935 rfl ?_
        refine z_lcmp_eq C 942 dL_law_936 dL_law_937 rfl (fun _ => ?_) (fun _ => ?_)
        · refine z_goto C 2508 dL_law_942 rfl ?_
          exact z_jump (ls1 := lwl B bs i) (by omega) [2, 3, 4, 5, 6] rfl (hk qj2.2)
        · exact z_none
    · refine z_goto C 2508 dL_law_942 rfl ?_
      exact z_jump (ls1 := lwl B bs i) (by omega) [2, 3, 4, 5, 6] rfl (hk qj2.2)
  · exact z_none
set_option maxHeartbeats 4000000 in
set_option maxRecDepth 100000 in
theorem z_lc11 (C : zC p l s m args meth c D cy B kd0 166 sa sv RL cL_law 8) (X : va_X bs L xs s s.heap ∧ bs < s.heap.size ∧ s.heap.size = B ∧ L ≤ 3072) (N i cu : Nat) (hi : i + 6 ≤ L) (hcu : cu + 80 ≤ 599000) (M : Mem) (k : Mem → Option β) (hk : ∀ M : Mem, Z p l e room_1 s m args below meth c Q D cy B kd0 166 8 b0 (cu + 80) (2508) (lwl B bs i) [] M (k M)) : Z p l e room_1 s m args below meth c Q D cy B kd0 166 8 b0 (cu) (945) (lwl B bs i) [] M (fLc11 N (xs (i + 1)) (xs (i + 2)) M k) := by
  unfold fLc11 lwl
  refine z_aload_n C 1 3 dL_law_945 rfl rfl ?_
  refine z_scr C X 1 4 0 (by omega) rfl rfl dL_law_946 dL_law_947 dL_law_949 dL_law_950 dL_law_951 rfl ?_
  refine z_scr C X 2 4 0 (by omega) rfl rfl dL_law_952 dL_law_953 dL_law_955 dL_law_956 dL_law_957 rfl ?_
  refine z_aload_n C 3 1 dL_law_958 rfl rfl ?_
  refine z_callSH_I (As := [.ref (B + 0), .int (xs (i + 1)), .int (xs (i + 2)), .ref (B + 165)]) (rest := []) C rfl (ctL_isPut (zG_of C) 0 (xs (i + 1)) (xs (i + 2)) 165 lk0 lk2 M) cw_RL_170 (okM_L_isPut) rfl (okR_w rfl (by omega)) (Nat.le_of_ble_eq_true rfl) dL_law_959 (fun qj1 _ => ?_)
  refine z_istore C 5 (ls1 := [(5, .int qj1.1), (4, .int (nI i)), (3, .ref (B + 165)), (2, .ref (B + 140)), (1, .ref (B + 0)), (0, .ref bs)]) dL_law_962 (by decide) rfl ?_
  refine z_aload_n C 2 3 dL_law_964 rfl rfl ?_
  refine z_scr C X 1 5 1 (by omega) rfl rfl dL_law_965 dL_law_966 dL_law_968 dL_law_969 dL_law_970 rfl ?_
  refine z_scr C X 2 5 1 (by omega) rfl rfl dL_law_971 dL_law_972 dL_law_974 dL_law_975 dL_law_976 rfl ?_
  refine z_callV_B (As := [.int (xs (i + 1)), .int (xs (i + 2))]) (rest := []) C rfl (ctX11_isPut (zG_of C) 140 (xs (i + 1)) (xs (i + 2)) lk1 qj1.2) cw_RL_172 rfl (okM_X11_isPut) rfl cl11 lk1 (okR_w rfl (by omega)) (Nat.le_of_ble_eq_true rfl) dL_law_977 (fun qj2 _ => ?_)
  refine z_istore C 6 (ls1 := [(6, .int (bI qj2.1)), (5, .int qj1.1), (4, .int (nI i)), (3, .ref (B + 165)), (2, .ref (B + 140)), (1, .ref (B + 0)), (0, .ref bs)]) dL_law_980 (by decide) rfl ?_
  refine z_aload_n C 2 4 dL_law_982 rfl rfl ?_
  refine z_callV_pI (As := []) (rest := []) C rfl (ctX11_thrown (zG_of C) 140 lk1 qj2.2) cw_RL_135 rfl (okM_X11_thrown) rfl cl11 lk1 (okR_w rfl (by omega)) (Nat.le_of_ble_eq_true rfl) dL_law_983 (fun qj3 _ => ?_)
  refine z_iload C 1 dL_law_986 rfl ?_
  refine z_icmp_eq C 993 dL_law_988 rfl (fun _ => ?_) (fun _ => ?_)
  · refine z_iload C 1 dL_law_993 rfl ?_
    refine z_if_ne C 1017 dL_law_995 rfl (fun _ => ?_) (fun _ => ?_)
    · refine z_aload_n C 3 3 dL_law_998 rfl rfl ?_
      refine z_iconst C dL_law_999 rfl ?_
      refine z_lald C lk2 rfl (by decide) dL_law_1000 (fun j4 => ?_)
      refine z_iload C 0 dL_law_1001 rfl ?_
      refine z_if_eqB C 1010 dL_law_1003 rfl (fun _ => ?_) (fun _ => ?_)
      · refine z_lconst (v := 1) C dL_law_1006 rfl ?_
        refine z_goto C 1011 dL_law_1007 rfl ?_
        refine z_lcmp_eq C 1017 dL_law_1011 dL_law_1012 rfl (fun _ => ?_) (fun _ => ?_)
        · refine z_goto C 2508 dL_law_1017 rfl ?_
          exact z_jump (ls1 := lwl B bs i) (by omega) [2, 3, 4, 5, 6] rfl (hk qj2.2)
        · exact z_none
      · refine z_lconst (v := 0) C dL_law_1010 rfl ?_
        refine z_lcmp_eq C 1017 dL_law_1011 dL_law_1012 rfl (fun _ => ?_) (fun _ => ?_)
        · refine z_goto C 2508 dL_law_1017 rfl ?_
          exact z_jump (ls1 := lwl B bs i) (by omega) [2, 3, 4, 5, 6] rfl (hk qj2.2)
        · exact z_none
    · refine z_goto C 2508 dL_law_1017 rfl ?_
      exact z_jump (ls1 := lwl B bs i) (by omega) [2, 3, 4, 5, 6] rfl (hk qj2.2)
  · exact z_none
set_option maxHeartbeats 4000000 in
set_option maxRecDepth 100000 in
theorem z_lc12 (C : zC p l s m args meth c D cy B kd0 166 sa sv RL cL_law 8) (X : va_X bs L xs s s.heap ∧ bs < s.heap.size ∧ s.heap.size = B ∧ L ≤ 3072) (N i cu : Nat) (hi : i + 6 ≤ L) (hcu : cu + 80 ≤ 599000) (M : Mem) (k : Mem → Option β) (hk : ∀ M : Mem, Z p l e room_1 s m args below meth c Q D cy B kd0 166 8 b0 (cu + 80) (2508) (lwl B bs i) [] M (k M)) : Z p l e room_1 s m args below meth c Q D cy B kd0 166 8 b0 (cu) (1020) (lwl B bs i) [] M (fLc12 N (xs (i + 1)) (xs (i + 2)) M k) := by
  unfold fLc12 lwl
  refine z_aload_n C 1 3 dL_law_1020 rfl rfl ?_
  refine z_scr C X 1 4 0 (by omega) rfl rfl dL_law_1021 dL_law_1022 dL_law_1024 dL_law_1025 dL_law_1026 rfl ?_
  refine z_scr C X 2 4 0 (by omega) rfl rfl dL_law_1027 dL_law_1028 dL_law_1030 dL_law_1031 dL_law_1032 rfl ?_
  refine z_aload_n C 3 1 dL_law_1033 rfl rfl ?_
  refine z_callSH_I (As := [.ref (B + 0), .int (xs (i + 1)), .int (xs (i + 2)), .ref (B + 165)]) (rest := []) C rfl (ctL_put (zG_of C) N 0 (xs (i + 1)) (xs (i + 2)) 165 lk0 lk2 M) cw_RL_173 (okM_L_put) rfl (okR_w rfl (by omega)) (Nat.le_of_ble_eq_true rfl) dL_law_1034 (fun qj1 _ => ?_)
  refine z_istore C 5 (ls1 := [(5, .int qj1.1), (4, .int (nI i)), (3, .ref (B + 165)), (2, .ref (B + 140)), (1, .ref (B + 0)), (0, .ref bs)]) dL_law_1037 (by decide) rfl ?_
  refine z_aload_n C 2 3 dL_law_1039 rfl rfl ?_
  refine z_scr C X 1 5 1 (by omega) rfl rfl dL_law_1040 dL_law_1041 dL_law_1043 dL_law_1044 dL_law_1045 rfl ?_
  refine z_scr C X 2 5 1 (by omega) rfl rfl dL_law_1046 dL_law_1047 dL_law_1049 dL_law_1050 dL_law_1051 rfl ?_
  refine z_callV_I (As := [.int (xs (i + 1)), .int (xs (i + 2))]) (rest := []) C rfl (ctX11_put (zG_of C) N 140 (xs (i + 1)) (xs (i + 2)) lk1 qj1.2) cw_RL_175 rfl (okM_X11_put) rfl cl11 lk1 (okR_w rfl (by omega)) (Nat.le_of_ble_eq_true rfl) dL_law_1052 (fun qj2 _ => ?_)
  refine z_istore C 6 (ls1 := [(6, .int qj2.1), (5, .int qj1.1), (4, .int (nI i)), (3, .ref (B + 165)), (2, .ref (B + 140)), (1, .ref (B + 0)), (0, .ref bs)]) dL_law_1055 (by decide) rfl ?_
  refine z_aload_n C 2 4 dL_law_1057 rfl rfl ?_
  refine z_callV_pI (As := []) (rest := []) C rfl (ctX11_thrown (zG_of C) 140 lk1 qj2.2) cw_RL_135 rfl (okM_X11_thrown) rfl cl11 lk1 (okR_w rfl (by omega)) (Nat.le_of_ble_eq_true rfl) dL_law_1058 (fun qj3 _ => ?_)
  refine z_iload C 1 dL_law_1061 rfl ?_
  refine z_icmp_eq C 1068 dL_law_1063 rfl (fun _ => ?_) (fun _ => ?_)
  · refine z_iload C 1 dL_law_1068 rfl ?_
    refine z_if_ne C 1085 dL_law_1070 rfl (fun _ => ?_) (fun _ => ?_)
    · refine z_aload_n C 3 3 dL_law_1073 rfl rfl ?_
      refine z_iconst C dL_law_1074 rfl ?_
      refine z_lald C lk2 rfl (by decide) dL_law_1075 (fun j4 => ?_)
      refine z_iload C 0 dL_law_1076 rfl ?_
      refine z_i2l C dL_law_1078 ?_
      refine z_lcmp_eq C 1085 dL_law_1079 dL_law_1080 rfl (fun _ => ?_) (fun _ => ?_)
      · refine z_goto C 2508 dL_law_1085 rfl ?_
        exact z_jump (ls1 := lwl B bs i) (by omega) [2, 3, 4, 5, 6] rfl (hk qj2.2)
      · exact z_none
    · refine z_goto C 2508 dL_law_1085 rfl ?_
      exact z_jump (ls1 := lwl B bs i) (by omega) [2, 3, 4, 5, 6] rfl (hk qj2.2)
  · exact z_none
set_option maxHeartbeats 4000000 in
set_option maxRecDepth 100000 in
theorem z_lc13 (C : zC p l s m args meth c D cy B kd0 166 sa sv RL cL_law 8) (X : va_X bs L xs s s.heap ∧ bs < s.heap.size ∧ s.heap.size = B ∧ L ≤ 3072) (N i cu : Nat) (hi : i + 6 ≤ L) (hcu : cu + 80 ≤ 599000) (M : Mem) (k : Mem → Option β) (hk : ∀ M : Mem, Z p l e room_1 s m args below meth c Q D cy B kd0 166 8 b0 (cu + 80) (2508) (lwl B bs i) [] M (k M)) : Z p l e room_1 s m args below meth c Q D cy B kd0 166 8 b0 (cu) (1088) (lwl B bs i) [] M (fLc13 N (xs (i + 1)) (xs (i + 2)) M k) := by
  unfold fLc13 lwl
  refine z_aload_n C 1 3 dL_law_1088 rfl rfl ?_
  refine z_scr C X 1 4 0 (by omega) rfl rfl dL_law_1089 dL_law_1090 dL_law_1092 dL_law_1093 dL_law_1094 rfl ?_
  refine z_scr C X 2 4 0 (by omega) rfl rfl dL_law_1095 dL_law_1096 dL_law_1098 dL_law_1099 dL_law_1100 rfl ?_
  refine z_aload_n C 3 1 dL_law_1101 rfl rfl ?_
  refine z_callSH_I (As := [.ref (B + 0), .int (xs (i + 1)), .int (xs (i + 2)), .ref (B + 165)]) (rest := []) C rfl (ctL_take (zG_of C) N 0 (xs (i + 1)) (xs (i + 2)) 165 lk0 lk2 M) cw_RL_176 (okM_L_take) rfl (okR_w rfl (by omega)) (Nat.le_of_ble_eq_true rfl) dL_law_1102 (fun qj1 _ => ?_)
  refine z_istore C 5 (ls1 := [(5, .int qj1.1), (4, .int (nI i)), (3, .ref (B + 165)), (2, .ref (B + 140)), (1, .ref (B + 0)), (0, .ref bs)]) dL_law_1105 (by decide) rfl ?_
  refine z_aload_n C 2 3 dL_law_1107 rfl rfl ?_
  refine z_scr C X 1 5 1 (by omega) rfl rfl dL_law_1108 dL_law_1109 dL_law_1111 dL_law_1112 dL_law_1113 rfl ?_
  refine z_scr C X 2 5 1 (by omega) rfl rfl dL_law_1114 dL_law_1115 dL_law_1117 dL_law_1118 dL_law_1119 rfl ?_
  refine z_callV_B (As := [.int (xs (i + 1)), .int (xs (i + 2))]) (rest := []) C rfl (ctX11_take (zG_of C) N 140 (xs (i + 1)) (xs (i + 2)) lk1 qj1.2) cw_RL_178 rfl (okM_X11_take) rfl cl11 lk1 (okR_w rfl (by omega)) (Nat.le_of_ble_eq_true rfl) dL_law_1120 (fun qj2 _ => ?_)
  refine z_istore C 6 (ls1 := [(6, .int (bI qj2.1)), (5, .int qj1.1), (4, .int (nI i)), (3, .ref (B + 165)), (2, .ref (B + 140)), (1, .ref (B + 0)), (0, .ref bs)]) dL_law_1123 (by decide) rfl ?_
  refine z_aload_n C 2 4 dL_law_1125 rfl rfl ?_
  refine z_callV_pI (As := []) (rest := []) C rfl (ctX11_thrown (zG_of C) 140 lk1 qj2.2) cw_RL_135 rfl (okM_X11_thrown) rfl cl11 lk1 (okR_w rfl (by omega)) (Nat.le_of_ble_eq_true rfl) dL_law_1126 (fun qj3 _ => ?_)
  refine z_iload C 1 dL_law_1129 rfl ?_
  refine z_icmp_eq C 1136 dL_law_1131 rfl (fun _ => ?_) (fun _ => ?_)
  · refine z_iload C 1 dL_law_1136 rfl ?_
    refine z_if_ne C 1160 dL_law_1138 rfl (fun _ => ?_) (fun _ => ?_)
    · refine z_aload_n C 3 3 dL_law_1141 rfl rfl ?_
      refine z_iconst C dL_law_1142 rfl ?_
      refine z_lald C lk2 rfl (by decide) dL_law_1143 (fun j4 => ?_)
      refine z_iload C 0 dL_law_1144 rfl ?_
      refine z_if_eqB C 1153 dL_law_1146 rfl (fun _ => ?_) (fun _ => ?_)
      · refine z_lconst (v := 1) C dL_law_1149 rfl ?_
        refine z_goto C 1154 dL_law_1150 rfl ?_
        refine z_lcmp_eq C 1160 dL_law_1154 dL_law_1155 rfl (fun _ => ?_) (fun _ => ?_)
        · refine z_goto C 2508 dL_law_1160 rfl ?_
          exact z_jump (ls1 := lwl B bs i) (by omega) [2, 3, 4, 5, 6] rfl (hk qj2.2)
        · exact z_none
      · refine z_lconst (v := 0) C dL_law_1153 rfl ?_
        refine z_lcmp_eq C 1160 dL_law_1154 dL_law_1155 rfl (fun _ => ?_) (fun _ => ?_)
        · refine z_goto C 2508 dL_law_1160 rfl ?_
          exact z_jump (ls1 := lwl B bs i) (by omega) [2, 3, 4, 5, 6] rfl (hk qj2.2)
        · exact z_none
    · refine z_goto C 2508 dL_law_1160 rfl ?_
      exact z_jump (ls1 := lwl B bs i) (by omega) [2, 3, 4, 5, 6] rfl (hk qj2.2)
  · exact z_none
set_option maxHeartbeats 4000000 in
set_option maxRecDepth 100000 in
theorem z_lc14 (C : zC p l s m args meth c D cy B kd0 166 sa sv RL cL_law 8) (X : va_X bs L xs s s.heap ∧ bs < s.heap.size ∧ s.heap.size = B ∧ L ≤ 3072) (N i cu : Nat) (hi : i + 6 ≤ L) (hcu : cu + 80 ≤ 599000) (M : Mem) (k : Mem → Option β) (hk : ∀ M : Mem, Z p l e room_1 s m args below meth c Q D cy B kd0 166 8 b0 (cu + 80) (2508) (lwl B bs i) [] M (k M)) : Z p l e room_1 s m args below meth c Q D cy B kd0 166 8 b0 (cu) (1163) (lwl B bs i) [] M (fLc14 N (xs (i + 1)) (xs (i + 2)) M k) := by
  unfold fLc14 lwl
  refine z_aload_n C 1 3 dL_law_1163 rfl rfl ?_
  refine z_scr C X 1 4 0 (by omega) rfl rfl dL_law_1164 dL_law_1165 dL_law_1167 dL_law_1168 dL_law_1169 rfl ?_
  refine z_scr C X 2 4 0 (by omega) rfl rfl dL_law_1170 dL_law_1171 dL_law_1173 dL_law_1174 dL_law_1175 rfl ?_
  refine z_aload_n C 3 1 dL_law_1176 rfl rfl ?_
  refine z_callSH_I (As := [.ref (B + 0), .int (xs (i + 1)), .int (xs (i + 2)), .ref (B + 165)]) (rest := []) C rfl (ctL_join (zG_of C) N 0 (xs (i + 1)) (xs (i + 2)) 165 lk0 lk2 M) cw_RL_179 (okM_L_join) rfl (okR_w rfl (by omega)) (Nat.le_of_ble_eq_true rfl) dL_law_1177 (fun qj1 _ => ?_)
  refine z_istore C 5 (ls1 := [(5, .int qj1.1), (4, .int (nI i)), (3, .ref (B + 165)), (2, .ref (B + 140)), (1, .ref (B + 0)), (0, .ref bs)]) dL_law_1180 (by decide) rfl ?_
  refine z_aload_n C 2 3 dL_law_1182 rfl rfl ?_
  refine z_scr C X 1 5 1 (by omega) rfl rfl dL_law_1183 dL_law_1184 dL_law_1186 dL_law_1187 dL_law_1188 rfl ?_
  refine z_scr C X 2 5 1 (by omega) rfl rfl dL_law_1189 dL_law_1190 dL_law_1192 dL_law_1193 dL_law_1194 rfl ?_
  refine z_callV_I (As := [.int (xs (i + 1)), .int (xs (i + 2))]) (rest := []) C rfl (ctX11_join (zG_of C) N 140 (xs (i + 1)) (xs (i + 2)) lk1 qj1.2) cw_RL_181 rfl (okM_X11_join) rfl cl11 lk1 (okR_w rfl (by omega)) (Nat.le_of_ble_eq_true rfl) dL_law_1195 (fun qj2 _ => ?_)
  refine z_istore C 6 (ls1 := [(6, .int qj2.1), (5, .int qj1.1), (4, .int (nI i)), (3, .ref (B + 165)), (2, .ref (B + 140)), (1, .ref (B + 0)), (0, .ref bs)]) dL_law_1198 (by decide) rfl ?_
  refine z_aload_n C 2 4 dL_law_1200 rfl rfl ?_
  refine z_callV_pI (As := []) (rest := []) C rfl (ctX11_thrown (zG_of C) 140 lk1 qj2.2) cw_RL_135 rfl (okM_X11_thrown) rfl cl11 lk1 (okR_w rfl (by omega)) (Nat.le_of_ble_eq_true rfl) dL_law_1201 (fun qj3 _ => ?_)
  refine z_iload C 1 dL_law_1204 rfl ?_
  refine z_icmp_eq C 1211 dL_law_1206 rfl (fun _ => ?_) (fun _ => ?_)
  · refine z_iload C 1 dL_law_1211 rfl ?_
    refine z_if_ne C 1228 dL_law_1213 rfl (fun _ => ?_) (fun _ => ?_)
    · refine z_aload_n C 3 3 dL_law_1216 rfl rfl ?_
      refine z_iconst C dL_law_1217 rfl ?_
      refine z_lald C lk2 rfl (by decide) dL_law_1218 (fun j4 => ?_)
      refine z_iload C 0 dL_law_1219 rfl ?_
      refine z_i2l C dL_law_1221 ?_
      refine z_lcmp_eq C 1228 dL_law_1222 dL_law_1223 rfl (fun _ => ?_) (fun _ => ?_)
      · refine z_goto C 2508 dL_law_1228 rfl ?_
        exact z_jump (ls1 := lwl B bs i) (by omega) [2, 3, 4, 5, 6] rfl (hk qj2.2)
      · exact z_none
    · refine z_goto C 2508 dL_law_1228 rfl ?_
      exact z_jump (ls1 := lwl B bs i) (by omega) [2, 3, 4, 5, 6] rfl (hk qj2.2)
  · exact z_none
set_option maxHeartbeats 4000000 in
set_option maxRecDepth 100000 in
theorem z_lc15 (C : zC p l s m args meth c D cy B kd0 166 sa sv RL cL_law 8) (X : va_X bs L xs s s.heap ∧ bs < s.heap.size ∧ s.heap.size = B ∧ L ≤ 3072) (N i cu : Nat) (hi : i + 6 ≤ L) (hcu : cu + 80 ≤ 599000) (M : Mem) (k : Mem → Option β) (hk : ∀ M : Mem, Z p l e room_1 s m args below meth c Q D cy B kd0 166 8 b0 (cu + 80) (2508) (lwl B bs i) [] M (k M)) : Z p l e room_1 s m args below meth c Q D cy B kd0 166 8 b0 (cu) (1231) (lwl B bs i) [] M (fLc15 N (xs (i + 1)) M k) := by
  unfold fLc15 lwl
  refine z_aload_n C 1 3 dL_law_1231 rfl rfl ?_
  refine z_scr C X 1 4 0 (by omega) rfl rfl dL_law_1232 dL_law_1233 dL_law_1235 dL_law_1236 dL_law_1237 rfl ?_
  refine z_aload_n C 3 1 dL_law_1238 rfl rfl ?_
  refine z_callSH_I (As := [.ref (B + 0), .int (xs (i + 1)), .ref (B + 165)]) (rest := []) C rfl (ctL_halve (zG_of C) N 0 (xs (i + 1)) 165 lk0 lk2 M) cw_RL_182 (okM_L_halve) rfl (okR_w rfl (by omega)) (Nat.le_of_ble_eq_true rfl) dL_law_1239 (fun qj1 _ => ?_)
  refine z_istore C 5 (ls1 := [(5, .int qj1.1), (4, .int (nI i)), (3, .ref (B + 165)), (2, .ref (B + 140)), (1, .ref (B + 0)), (0, .ref bs)]) dL_law_1242 (by decide) rfl ?_
  refine z_aload_n C 2 3 dL_law_1244 rfl rfl ?_
  refine z_scr C X 1 5 1 (by omega) rfl rfl dL_law_1245 dL_law_1246 dL_law_1248 dL_law_1249 dL_law_1250 rfl ?_
  refine z_callV_I (As := [.int (xs (i + 1))]) (rest := []) C rfl (ctX11_halve (zG_of C) N 140 (xs (i + 1)) lk1 qj1.2) cw_RL_184 rfl (okM_X11_halve) rfl cl11 lk1 (okR_w rfl (by omega)) (Nat.le_of_ble_eq_true rfl) dL_law_1251 (fun qj2 _ => ?_)
  refine z_istore C 6 (ls1 := [(6, .int qj2.1), (5, .int qj1.1), (4, .int (nI i)), (3, .ref (B + 165)), (2, .ref (B + 140)), (1, .ref (B + 0)), (0, .ref bs)]) dL_law_1254 (by decide) rfl ?_
  refine z_aload_n C 2 4 dL_law_1256 rfl rfl ?_
  refine z_callV_pI (As := []) (rest := []) C rfl (ctX11_thrown (zG_of C) 140 lk1 qj2.2) cw_RL_135 rfl (okM_X11_thrown) rfl cl11 lk1 (okR_w rfl (by omega)) (Nat.le_of_ble_eq_true rfl) dL_law_1257 (fun qj3 _ => ?_)
  refine z_iload C 1 dL_law_1260 rfl ?_
  refine z_icmp_eq C 1267 dL_law_1262 rfl (fun _ => ?_) (fun _ => ?_)
  · refine z_iload C 1 dL_law_1267 rfl ?_
    refine z_if_ne C 1284 dL_law_1269 rfl (fun _ => ?_) (fun _ => ?_)
    · refine z_aload_n C 3 3 dL_law_1272 rfl rfl ?_
      refine z_iconst C dL_law_1273 rfl ?_
      refine z_lald C lk2 rfl (by decide) dL_law_1274 (fun j4 => ?_)
      refine z_iload C 0 dL_law_1275 rfl ?_
      refine z_i2l C dL_law_1277 ?_
      refine z_lcmp_eq C 1284 dL_law_1278 dL_law_1279 rfl (fun _ => ?_) (fun _ => ?_)
      · refine z_goto C 2508 dL_law_1284 rfl ?_
        exact z_jump (ls1 := lwl B bs i) (by omega) [2, 3, 4, 5, 6] rfl (hk qj2.2)
      · exact z_none
    · refine z_goto C 2508 dL_law_1284 rfl ?_
      exact z_jump (ls1 := lwl B bs i) (by omega) [2, 3, 4, 5, 6] rfl (hk qj2.2)
  · exact z_none
set_option maxHeartbeats 4000000 in
set_option maxRecDepth 100000 in
theorem z_lc16 (C : zC p l s m args meth c D cy B kd0 166 sa sv RL cL_law 8) (X : va_X bs L xs s s.heap ∧ bs < s.heap.size ∧ s.heap.size = B ∧ L ≤ 3072) (N i cu : Nat) (hi : i + 6 ≤ L) (hcu : cu + 80 ≤ 599000) (M : Mem) (k : Mem → Option β) (hk : ∀ M : Mem, Z p l e room_1 s m args below meth c Q D cy B kd0 166 8 b0 (cu + 80) (2508) (lwl B bs i) [] M (k M)) : Z p l e room_1 s m args below meth c Q D cy B kd0 166 8 b0 (cu) (1287) (lwl B bs i) [] M (fLc16 N (xs (i + 1)) M k) := by
  unfold fLc16 lwl
  refine z_aload_n C 1 3 dL_law_1287 rfl rfl ?_
  refine z_scr C X 1 4 0 (by omega) rfl rfl dL_law_1288 dL_law_1289 dL_law_1291 dL_law_1292 dL_law_1293 rfl ?_
  refine z_aload_n C 3 1 dL_law_1294 rfl rfl ?_
  refine z_callSH_I (As := [.ref (B + 0), .int (xs (i + 1)), .ref (B + 165)]) (rest := []) C rfl (ctL_grow (zG_of C) N 0 (xs (i + 1)) 165 lk0 lk2 M) cw_RL_185 (okM_L_grow) rfl (okR_w rfl (by omega)) (Nat.le_of_ble_eq_true rfl) dL_law_1295 (fun qj1 _ => ?_)
  refine z_istore C 5 (ls1 := [(5, .int qj1.1), (4, .int (nI i)), (3, .ref (B + 165)), (2, .ref (B + 140)), (1, .ref (B + 0)), (0, .ref bs)]) dL_law_1298 (by decide) rfl ?_
  refine z_aload_n C 2 3 dL_law_1300 rfl rfl ?_
  refine z_scr C X 1 5 1 (by omega) rfl rfl dL_law_1301 dL_law_1302 dL_law_1304 dL_law_1305 dL_law_1306 rfl ?_
  refine z_callV_I (As := [.int (xs (i + 1))]) (rest := []) C rfl (ctX11_grow (zG_of C) N 140 (xs (i + 1)) lk1 qj1.2) cw_RL_187 rfl (okM_X11_grow) rfl cl11 lk1 (okR_w rfl (by omega)) (Nat.le_of_ble_eq_true rfl) dL_law_1307 (fun qj2 _ => ?_)
  refine z_istore C 6 (ls1 := [(6, .int qj2.1), (5, .int qj1.1), (4, .int (nI i)), (3, .ref (B + 165)), (2, .ref (B + 140)), (1, .ref (B + 0)), (0, .ref bs)]) dL_law_1310 (by decide) rfl ?_
  refine z_aload_n C 2 4 dL_law_1312 rfl rfl ?_
  refine z_callV_pI (As := []) (rest := []) C rfl (ctX11_thrown (zG_of C) 140 lk1 qj2.2) cw_RL_135 rfl (okM_X11_thrown) rfl cl11 lk1 (okR_w rfl (by omega)) (Nat.le_of_ble_eq_true rfl) dL_law_1313 (fun qj3 _ => ?_)
  refine z_iload C 1 dL_law_1316 rfl ?_
  refine z_icmp_eq C 1323 dL_law_1318 rfl (fun _ => ?_) (fun _ => ?_)
  · refine z_iload C 1 dL_law_1323 rfl ?_
    refine z_if_ne C 1340 dL_law_1325 rfl (fun _ => ?_) (fun _ => ?_)
    · refine z_aload_n C 3 3 dL_law_1328 rfl rfl ?_
      refine z_iconst C dL_law_1329 rfl ?_
      refine z_lald C lk2 rfl (by decide) dL_law_1330 (fun j4 => ?_)
      refine z_iload C 0 dL_law_1331 rfl ?_
      refine z_i2l C dL_law_1333 ?_
      refine z_lcmp_eq C 1340 dL_law_1334 dL_law_1335 rfl (fun _ => ?_) (fun _ => ?_)
      · refine z_goto C 2508 dL_law_1340 rfl ?_
        exact z_jump (ls1 := lwl B bs i) (by omega) [2, 3, 4, 5, 6] rfl (hk qj2.2)
      · exact z_none
    · refine z_goto C 2508 dL_law_1340 rfl ?_
      exact z_jump (ls1 := lwl B bs i) (by omega) [2, 3, 4, 5, 6] rfl (hk qj2.2)
  · exact z_none
set_option maxHeartbeats 4000000 in
set_option maxRecDepth 100000 in
theorem z_lc17 (C : zC p l s m args meth c D cy B kd0 166 sa sv RL cL_law 8) (X : va_X bs L xs s s.heap ∧ bs < s.heap.size ∧ s.heap.size = B ∧ L ≤ 3072) (N i cu : Nat) (hi : i + 6 ≤ L) (hcu : cu + 80 ≤ 599000) (M : Mem) (k : Mem → Option β) (hk : ∀ M : Mem, Z p l e room_1 s m args below meth c Q D cy B kd0 166 8 b0 (cu + 80) (2508) (lwl B bs i) [] M (k M)) : Z p l e room_1 s m args below meth c Q D cy B kd0 166 8 b0 (cu) (1343) (lwl B bs i) [] M (fLc17 N (xs (i + 1)) (xs (i + 2)) M k) := by
  unfold fLc17 lwl
  refine z_aload_n C 1 3 dL_law_1343 rfl rfl ?_
  refine z_scr C X 1 4 0 (by omega) rfl rfl dL_law_1344 dL_law_1345 dL_law_1347 dL_law_1348 dL_law_1349 rfl ?_
  refine z_scr C X 2 4 0 (by omega) rfl rfl dL_law_1350 dL_law_1351 dL_law_1353 dL_law_1354 dL_law_1355 rfl ?_
  refine z_aload_n C 3 1 dL_law_1356 rfl rfl ?_
  refine z_callSH_I (As := [.ref (B + 0), .int (xs (i + 1)), .int (xs (i + 2)), .ref (B + 165)]) (rest := []) C rfl (ctL_solve (zG_of C) N 0 (xs (i + 1)) (xs (i + 2)) 165 lk0 lk2 M) cw_RL_188 (okM_L_solve) rfl (okR_w rfl (by omega)) (Nat.le_of_ble_eq_true rfl) dL_law_1357 (fun qj1 _ => ?_)
  refine z_istore C 5 (ls1 := [(5, .int qj1.1), (4, .int (nI i)), (3, .ref (B + 165)), (2, .ref (B + 140)), (1, .ref (B + 0)), (0, .ref bs)]) dL_law_1360 (by decide) rfl ?_
  refine z_aload_n C 2 3 dL_law_1362 rfl rfl ?_
  refine z_scr C X 1 5 1 (by omega) rfl rfl dL_law_1363 dL_law_1364 dL_law_1366 dL_law_1367 dL_law_1368 rfl ?_
  refine z_scr C X 2 5 1 (by omega) rfl rfl dL_law_1369 dL_law_1370 dL_law_1372 dL_law_1373 dL_law_1374 rfl ?_
  refine z_callV_I (As := [.int (xs (i + 1)), .int (xs (i + 2))]) (rest := []) C rfl (ctX11_solve (zG_of C) N 140 (xs (i + 1)) (xs (i + 2)) lk1 qj1.2) cw_RL_190 rfl (okM_X11_solve) rfl cl11 lk1 (okR_w rfl (by omega)) (Nat.le_of_ble_eq_true rfl) dL_law_1375 (fun qj2 _ => ?_)
  refine z_istore C 6 (ls1 := [(6, .int qj2.1), (5, .int qj1.1), (4, .int (nI i)), (3, .ref (B + 165)), (2, .ref (B + 140)), (1, .ref (B + 0)), (0, .ref bs)]) dL_law_1378 (by decide) rfl ?_
  refine z_aload_n C 2 4 dL_law_1380 rfl rfl ?_
  refine z_callV_pI (As := []) (rest := []) C rfl (ctX11_thrown (zG_of C) 140 lk1 qj2.2) cw_RL_135 rfl (okM_X11_thrown) rfl cl11 lk1 (okR_w rfl (by omega)) (Nat.le_of_ble_eq_true rfl) dL_law_1381 (fun qj3 _ => ?_)
  refine z_iload C 1 dL_law_1384 rfl ?_
  refine z_icmp_eq C 1391 dL_law_1386 rfl (fun _ => ?_) (fun _ => ?_)
  · refine z_iload C 1 dL_law_1391 rfl ?_
    refine z_if_ne C 1408 dL_law_1393 rfl (fun _ => ?_) (fun _ => ?_)
    · refine z_aload_n C 3 3 dL_law_1396 rfl rfl ?_
      refine z_iconst C dL_law_1397 rfl ?_
      refine z_lald C lk2 rfl (by decide) dL_law_1398 (fun j4 => ?_)
      refine z_iload C 0 dL_law_1399 rfl ?_
      refine z_i2l C dL_law_1401 ?_
      refine z_lcmp_eq C 1408 dL_law_1402 dL_law_1403 rfl (fun _ => ?_) (fun _ => ?_)
      · refine z_goto C 2508 dL_law_1408 rfl ?_
        exact z_jump (ls1 := lwl B bs i) (by omega) [2, 3, 4, 5, 6] rfl (hk qj2.2)
      · exact z_none
    · refine z_goto C 2508 dL_law_1408 rfl ?_
      exact z_jump (ls1 := lwl B bs i) (by omega) [2, 3, 4, 5, 6] rfl (hk qj2.2)
  · exact z_none
set_option maxHeartbeats 4000000 in
set_option maxRecDepth 100000 in
theorem z_lc18 (C : zC p l s m args meth c D cy B kd0 166 sa sv RL cL_law 8) (X : va_X bs L xs s s.heap ∧ bs < s.heap.size ∧ s.heap.size = B ∧ L ≤ 3072) (N i cu : Nat) (hi : i + 6 ≤ L) (hcu : cu + 80 ≤ 599000) (M : Mem) (k : Mem → Option β) (hk : ∀ M : Mem, Z p l e room_1 s m args below meth c Q D cy B kd0 166 8 b0 (cu + 80) (2508) (lwl B bs i) [] M (k M)) : Z p l e room_1 s m args below meth c Q D cy B kd0 166 8 b0 (cu) (1411) (lwl B bs i) [] M (fLc18 N (xs (i + 1)) M k) := by
  unfold fLc18 lwl
  refine z_aload_n C 1 3 dL_law_1411 rfl rfl ?_
  refine z_scr C X 1 4 0 (by omega) rfl rfl dL_law_1412 dL_law_1413 dL_law_1415 dL_law_1416 dL_law_1417 rfl ?_
  refine z_aload_n C 3 1 dL_law_1418 rfl rfl ?_
  refine z_callSH_I (As := [.ref (B + 0), .int (xs (i + 1)), .ref (B + 165)]) (rest := []) C rfl (ctL_lying (zG_of C) N 0 (xs (i + 1)) 165 lk0 lk2 M) cw_RL_191 (okM_L_lying) rfl (okR_w rfl (by omega)) (Nat.le_of_ble_eq_true rfl) dL_law_1419 (fun qj1 _ => ?_)
  refine z_istore C 5 (ls1 := [(5, .int qj1.1), (4, .int (nI i)), (3, .ref (B + 165)), (2, .ref (B + 140)), (1, .ref (B + 0)), (0, .ref bs)]) dL_law_1422 (by decide) rfl ?_
  refine z_aload_n C 2 3 dL_law_1424 rfl rfl ?_
  refine z_scr C X 1 5 1 (by omega) rfl rfl dL_law_1425 dL_law_1426 dL_law_1428 dL_law_1429 dL_law_1430 rfl ?_
  refine z_callV_B (As := [.int (xs (i + 1))]) (rest := []) C rfl (ctX11_lying (zG_of C) N 140 (xs (i + 1)) lk1 qj1.2) cw_RL_193 rfl (okM_X11_lying) rfl cl11 lk1 (okR_w rfl (by omega)) (Nat.le_of_ble_eq_true rfl) dL_law_1431 (fun qj2 _ => ?_)
  refine z_istore C 6 (ls1 := [(6, .int (bI qj2.1)), (5, .int qj1.1), (4, .int (nI i)), (3, .ref (B + 165)), (2, .ref (B + 140)), (1, .ref (B + 0)), (0, .ref bs)]) dL_law_1434 (by decide) rfl ?_
  refine z_aload_n C 2 4 dL_law_1436 rfl rfl ?_
  refine z_callV_pI (As := []) (rest := []) C rfl (ctX11_thrown (zG_of C) 140 lk1 qj2.2) cw_RL_135 rfl (okM_X11_thrown) rfl cl11 lk1 (okR_w rfl (by omega)) (Nat.le_of_ble_eq_true rfl) dL_law_1437 (fun qj3 _ => ?_)
  refine z_iload C 1 dL_law_1440 rfl ?_
  refine z_icmp_eq C 1447 dL_law_1442 rfl (fun _ => ?_) (fun _ => ?_)
  · refine z_iload C 1 dL_law_1447 rfl ?_
    refine z_if_ne C 1471 dL_law_1449 rfl (fun _ => ?_) (fun _ => ?_)
    · refine z_aload_n C 3 3 dL_law_1452 rfl rfl ?_
      refine z_iconst C dL_law_1453 rfl ?_
      refine z_lald C lk2 rfl (by decide) dL_law_1454 (fun j4 => ?_)
      refine z_iload C 0 dL_law_1455 rfl ?_
      refine z_if_eqB C 1464 dL_law_1457 rfl (fun _ => ?_) (fun _ => ?_)
      · refine z_lconst (v := 1) C dL_law_1460 rfl ?_
        refine z_goto C 1465 dL_law_1461 rfl ?_
        refine z_lcmp_eq C 1471 dL_law_1465 dL_law_1466 rfl (fun _ => ?_) (fun _ => ?_)
        · refine z_goto C 2508 dL_law_1471 rfl ?_
          exact z_jump (ls1 := lwl B bs i) (by omega) [2, 3, 4, 5, 6] rfl (hk qj2.2)
        · exact z_none
      · refine z_lconst (v := 0) C dL_law_1464 rfl ?_
        refine z_lcmp_eq C 1471 dL_law_1465 dL_law_1466 rfl (fun _ => ?_) (fun _ => ?_)
        · refine z_goto C 2508 dL_law_1471 rfl ?_
          exact z_jump (ls1 := lwl B bs i) (by omega) [2, 3, 4, 5, 6] rfl (hk qj2.2)
        · exact z_none
    · refine z_goto C 2508 dL_law_1471 rfl ?_
      exact z_jump (ls1 := lwl B bs i) (by omega) [2, 3, 4, 5, 6] rfl (hk qj2.2)
  · exact z_none
set_option maxHeartbeats 4000000 in
set_option maxRecDepth 100000 in
theorem z_lc19 (C : zC p l s m args meth c D cy B kd0 166 sa sv RL cL_law 8) (X : va_X bs L xs s s.heap ∧ bs < s.heap.size ∧ s.heap.size = B ∧ L ≤ 3072) (N i cu : Nat) (hi : i + 6 ≤ L) (hcu : cu + 80 ≤ 599000) (M : Mem) (k : Mem → Option β) (hk : ∀ M : Mem, Z p l e room_1 s m args below meth c Q D cy B kd0 166 8 b0 (cu + 80) (2508) (lwl B bs i) [] M (k M)) : Z p l e room_1 s m args below meth c Q D cy B kd0 166 8 b0 (cu) (1474) (lwl B bs i) [] M (fLc19 N M k) := by
  unfold fLc19 lwl
  refine z_aload_n C 1 3 dL_law_1474 rfl rfl ?_
  refine z_callV_pI (As := []) (rest := []) C rfl (ctX10_upper (zG_of C) 0 lk0 M) cw_RL_194 rfl (okM_X10_upper) rfl cl10 lk0 (okR_w rfl (by omega)) (Nat.le_of_ble_eq_true rfl) dL_law_1475 (fun qj1 _ => ?_)
  refine z_aload_n C 2 2 dL_law_1478 rfl rfl ?_
  refine z_callV_I (As := []) (rest := [.int qj1]) C rfl (ctX11_upper (zG_of C) 140 lk1 M) cw_RL_197 rfl (okM_X11_upper) rfl cl11 lk1 (okR_w rfl (by omega)) (Nat.le_of_ble_eq_true rfl) dL_law_1479 (fun qj2 _ => ?_)
  refine z_icmp_eq C 2508 dL_law_1482 rfl (fun _ => ?_) (fun _ => ?_)
  · exact z_jump (ls1 := lwl B bs i) (by omega) [0, 1, 2, 3, 4] rfl (hk qj2.2)
  · exact z_none
set_option maxHeartbeats 4000000 in
set_option maxRecDepth 100000 in
theorem z_lc20 (C : zC p l s m args meth c D cy B kd0 166 sa sv RL cL_law 8) (X : va_X bs L xs s s.heap ∧ bs < s.heap.size ∧ s.heap.size = B ∧ L ≤ 3072) (N i cu : Nat) (hi : i + 6 ≤ L) (hcu : cu + 80 ≤ 599000) (M : Mem) (k : Mem → Option β) (hk : ∀ M : Mem, Z p l e room_1 s m args below meth c Q D cy B kd0 166 8 b0 (cu + 80) (2508) (lwl B bs i) [] M (k M)) : Z p l e room_1 s m args below meth c Q D cy B kd0 166 8 b0 (cu) (1487) (lwl B bs i) [] M (fLc20 N M k) := by
  unfold fLc20 lwl
  refine z_aload_n C 1 3 dL_law_1487 rfl rfl ?_
  refine z_callV_pI (As := []) (rest := []) C rfl (ctX10_lower (zG_of C) 0 lk0 M) cw_RL_198 rfl (okM_X10_lower) rfl cl10 lk0 (okR_w rfl (by omega)) (Nat.le_of_ble_eq_true rfl) dL_law_1488 (fun qj1 _ => ?_)
  refine z_aload_n C 2 2 dL_law_1491 rfl rfl ?_
  refine z_callV_I (As := []) (rest := [.int qj1]) C rfl (ctX11_lower (zG_of C) 140 lk1 M) cw_RL_201 rfl (okM_X11_lower) rfl cl11 lk1 (okR_w rfl (by omega)) (Nat.le_of_ble_eq_true rfl) dL_law_1492 (fun qj2 _ => ?_)
  refine z_icmp_eq C 2508 dL_law_1495 rfl (fun _ => ?_) (fun _ => ?_)
  · exact z_jump (ls1 := lwl B bs i) (by omega) [0, 1, 2, 3, 4] rfl (hk qj2.2)
  · exact z_none
set_option maxHeartbeats 4000000 in
set_option maxRecDepth 100000 in
theorem z_lc21 (C : zC p l s m args meth c D cy B kd0 166 sa sv RL cL_law 8) (X : va_X bs L xs s s.heap ∧ bs < s.heap.size ∧ s.heap.size = B ∧ L ≤ 3072) (N i cu : Nat) (hi : i + 6 ≤ L) (hcu : cu + 80 ≤ 599000) (M : Mem) (k : Mem → Option β) (hk : ∀ M : Mem, Z p l e room_1 s m args below meth c Q D cy B kd0 166 8 b0 (cu + 80) (2508) (lwl B bs i) [] M (k M)) : Z p l e room_1 s m args below meth c Q D cy B kd0 166 8 b0 (cu) (1500) (lwl B bs i) [] M (fLc21 N (xs (i + 1)) (xs (i + 2)) M k) := by
  unfold fLc21 lwl
  refine z_aload_n C 1 3 dL_law_1500 rfl rfl ?_
  refine z_scr C X 1 4 0 (by omega) rfl rfl dL_law_1501 dL_law_1502 dL_law_1504 dL_law_1505 dL_law_1506 rfl ?_
  refine z_scr C X 2 4 0 (by omega) rfl rfl dL_law_1507 dL_law_1508 dL_law_1510 dL_law_1511 dL_law_1512 rfl ?_
  refine z_aload_n C 3 1 dL_law_1513 rfl rfl ?_
  refine z_callSH_I (As := [.ref (B + 0), .int (xs (i + 1)), .int (xs (i + 2)), .ref (B + 165)]) (rest := []) C rfl (ctL_lie (zG_of C) N 0 (xs (i + 1)) (xs (i + 2)) 165 lk0 lk2 M) cw_RL_202 (okM_L_lie) rfl (okR_w rfl (by omega)) (Nat.le_of_ble_eq_true rfl) dL_law_1514 (fun qj1 _ => ?_)
  refine z_istore C 5 (ls1 := [(5, .int qj1.1), (4, .int (nI i)), (3, .ref (B + 165)), (2, .ref (B + 140)), (1, .ref (B + 0)), (0, .ref bs)]) dL_law_1517 (by decide) rfl ?_
  refine z_aload_n C 2 3 dL_law_1519 rfl rfl ?_
  refine z_scr C X 1 5 1 (by omega) rfl rfl dL_law_1520 dL_law_1521 dL_law_1523 dL_law_1524 dL_law_1525 rfl ?_
  refine z_scr C X 2 5 1 (by omega) rfl rfl dL_law_1526 dL_law_1527 dL_law_1529 dL_law_1530 dL_law_1531 rfl ?_
  refine z_callV_I (As := [.int (xs (i + 1)), .int (xs (i + 2))]) (rest := []) C rfl (ctX11_lie (zG_of C) N 140 (xs (i + 1)) (xs (i + 2)) lk1 qj1.2) cw_RL_204 rfl (okM_X11_lie) rfl cl11 lk1 (okR_w rfl (by omega)) (Nat.le_of_ble_eq_true rfl) dL_law_1532 (fun qj2 _ => ?_)
  refine z_istore C 6 (ls1 := [(6, .int qj2.1), (5, .int qj1.1), (4, .int (nI i)), (3, .ref (B + 165)), (2, .ref (B + 140)), (1, .ref (B + 0)), (0, .ref bs)]) dL_law_1535 (by decide) rfl ?_
  refine z_aload_n C 2 4 dL_law_1537 rfl rfl ?_
  refine z_callV_pI (As := []) (rest := []) C rfl (ctX11_thrown (zG_of C) 140 lk1 qj2.2) cw_RL_135 rfl (okM_X11_thrown) rfl cl11 lk1 (okR_w rfl (by omega)) (Nat.le_of_ble_eq_true rfl) dL_law_1538 (fun qj3 _ => ?_)
  refine z_iload C 1 dL_law_1541 rfl ?_
  refine z_icmp_eq C 1548 dL_law_1543 rfl (fun _ => ?_) (fun _ => ?_)
  · refine z_iload C 1 dL_law_1548 rfl ?_
    refine z_if_ne C 1565 dL_law_1550 rfl (fun _ => ?_) (fun _ => ?_)
    · refine z_aload_n C 3 3 dL_law_1553 rfl rfl ?_
      refine z_iconst C dL_law_1554 rfl ?_
      refine z_lald C lk2 rfl (by decide) dL_law_1555 (fun j4 => ?_)
      refine z_iload C 0 dL_law_1556 rfl ?_
      refine z_i2l C dL_law_1558 ?_
      refine z_lcmp_eq C 1565 dL_law_1559 dL_law_1560 rfl (fun _ => ?_) (fun _ => ?_)
      · refine z_goto C 2508 dL_law_1565 rfl ?_
        exact z_jump (ls1 := lwl B bs i) (by omega) [2, 3, 4, 5, 6] rfl (hk qj2.2)
      · exact z_none
    · refine z_goto C 2508 dL_law_1565 rfl ?_
      exact z_jump (ls1 := lwl B bs i) (by omega) [2, 3, 4, 5, 6] rfl (hk qj2.2)
  · exact z_none
set_option maxHeartbeats 4000000 in
set_option maxRecDepth 100000 in
theorem z_lc22 (C : zC p l s m args meth c D cy B kd0 166 sa sv RL cL_law 8) (X : va_X bs L xs s s.heap ∧ bs < s.heap.size ∧ s.heap.size = B ∧ L ≤ 3072) (N i cu : Nat) (hi : i + 6 ≤ L) (hcu : cu + 80 ≤ 599000) (M : Mem) (k : Mem → Option β) (hk : ∀ M : Mem, Z p l e room_1 s m args below meth c Q D cy B kd0 166 8 b0 (cu + 80) (2508) (lwl B bs i) [] M (k M)) : Z p l e room_1 s m args below meth c Q D cy B kd0 166 8 b0 (cu) (1568) (lwl B bs i) [] M (fLc22 N (xs (i + 1)) (xs (i + 2)) (xs (i + 3)) M k) := by
  unfold fLc22 lwl
  refine z_aload_n C 1 3 dL_law_1568 rfl rfl ?_
  refine z_scr C X 1 4 0 (by omega) rfl rfl dL_law_1569 dL_law_1570 dL_law_1572 dL_law_1573 dL_law_1574 rfl ?_
  refine z_scr C X 2 4 0 (by omega) rfl rfl dL_law_1575 dL_law_1576 dL_law_1578 dL_law_1579 dL_law_1580 rfl ?_
  refine z_scr C X 3 4 0 (by omega) rfl rfl dL_law_1581 dL_law_1582 dL_law_1584 dL_law_1585 dL_law_1586 rfl ?_
  refine z_aload_n C 3 1 dL_law_1587 rfl rfl ?_
  refine z_callSH_I (As := [.ref (B + 0), .int (xs (i + 1)), .int (xs (i + 2)), .int (xs (i + 3)), .ref (B + 165)]) (rest := []) C rfl (ctL_wronged (zG_of C) N 0 (xs (i + 1)) (xs (i + 2)) (xs (i + 3)) 165 lk0 lk2 M) cw_RL_205 (okM_L_wronged) rfl (okR_w rfl (by omega)) (Nat.le_of_ble_eq_true rfl) dL_law_1588 (fun qj1 _ => ?_)
  refine z_istore C 5 (ls1 := [(5, .int qj1.1), (4, .int (nI i)), (3, .ref (B + 165)), (2, .ref (B + 140)), (1, .ref (B + 0)), (0, .ref bs)]) dL_law_1591 (by decide) rfl ?_
  refine z_aload_n C 2 3 dL_law_1593 rfl rfl ?_
  refine z_scr C X 1 5 1 (by omega) rfl rfl dL_law_1594 dL_law_1595 dL_law_1597 dL_law_1598 dL_law_1599 rfl ?_
  refine z_scr C X 2 5 1 (by omega) rfl rfl dL_law_1600 dL_law_1601 dL_law_1603 dL_law_1604 dL_law_1605 rfl ?_
  refine z_scr C X 3 5 1 (by omega) rfl rfl dL_law_1606 dL_law_1607 dL_law_1609 dL_law_1610 dL_law_1611 rfl ?_
  refine z_callV_I (As := [.int (xs (i + 1)), .int (xs (i + 2)), .int (xs (i + 3))]) (rest := []) C rfl (ctX11_wronged (zG_of C) N 140 (xs (i + 1)) (xs (i + 2)) (xs (i + 3)) lk1 qj1.2) cw_RL_207 rfl (okM_X11_wronged) rfl cl11 lk1 (okR_w rfl (by omega)) (Nat.le_of_ble_eq_true rfl) dL_law_1612 (fun qj2 _ => ?_)
  refine z_istore C 6 (ls1 := [(6, .int qj2.1), (5, .int qj1.1), (4, .int (nI i)), (3, .ref (B + 165)), (2, .ref (B + 140)), (1, .ref (B + 0)), (0, .ref bs)]) dL_law_1615 (by decide) rfl ?_
  refine z_aload_n C 2 4 dL_law_1617 rfl rfl ?_
  refine z_callV_pI (As := []) (rest := []) C rfl (ctX11_thrown (zG_of C) 140 lk1 qj2.2) cw_RL_135 rfl (okM_X11_thrown) rfl cl11 lk1 (okR_w rfl (by omega)) (Nat.le_of_ble_eq_true rfl) dL_law_1618 (fun qj3 _ => ?_)
  refine z_iload C 1 dL_law_1621 rfl ?_
  refine z_icmp_eq C 1628 dL_law_1623 rfl (fun _ => ?_) (fun _ => ?_)
  · refine z_iload C 1 dL_law_1628 rfl ?_
    refine z_if_ne C 1645 dL_law_1630 rfl (fun _ => ?_) (fun _ => ?_)
    · refine z_aload_n C 3 3 dL_law_1633 rfl rfl ?_
      refine z_iconst C dL_law_1634 rfl ?_
      refine z_lald C lk2 rfl (by decide) dL_law_1635 (fun j4 => ?_)
      refine z_iload C 0 dL_law_1636 rfl ?_
      refine z_i2l C dL_law_1638 ?_
      refine z_lcmp_eq C 1645 dL_law_1639 dL_law_1640 rfl (fun _ => ?_) (fun _ => ?_)
      · refine z_goto C 2508 dL_law_1645 rfl ?_
        exact z_jump (ls1 := lwl B bs i) (by omega) [2, 3, 4, 5, 6] rfl (hk qj2.2)
      · exact z_none
    · refine z_goto C 2508 dL_law_1645 rfl ?_
      exact z_jump (ls1 := lwl B bs i) (by omega) [2, 3, 4, 5, 6] rfl (hk qj2.2)
  · exact z_none
set_option maxHeartbeats 4000000 in
set_option maxRecDepth 100000 in
theorem z_lc23 (C : zC p l s m args meth c D cy B kd0 166 sa sv RL cL_law 8) (X : va_X bs L xs s s.heap ∧ bs < s.heap.size ∧ s.heap.size = B ∧ L ≤ 3072) (N i cu : Nat) (hi : i + 6 ≤ L) (hcu : cu + 80 ≤ 599000) (M : Mem) (k : Mem → Option β) (hk : ∀ M : Mem, Z p l e room_1 s m args below meth c Q D cy B kd0 166 8 b0 (cu + 80) (2508) (lwl B bs i) [] M (k M)) : Z p l e room_1 s m args below meth c Q D cy B kd0 166 8 b0 (cu) (1648) (lwl B bs i) [] M (fLc23 N (xs (i + 1)) (xs (i + 2)) M k) := by
  unfold fLc23 lwl
  refine z_aload_n C 1 3 dL_law_1648 rfl rfl ?_
  refine z_scr C X 1 4 0 (by omega) rfl rfl dL_law_1649 dL_law_1650 dL_law_1652 dL_law_1653 dL_law_1654 rfl ?_
  refine z_scr C X 2 4 0 (by omega) rfl rfl dL_law_1655 dL_law_1656 dL_law_1658 dL_law_1659 dL_law_1660 rfl ?_
  refine z_aload_n C 3 1 dL_law_1661 rfl rfl ?_
  refine z_callSH_I (As := [.ref (B + 0), .int (xs (i + 1)), .int (xs (i + 2)), .ref (B + 165)]) (rest := []) C rfl (ctL_worse (zG_of C) N 0 (xs (i + 1)) (xs (i + 2)) 165 lk0 lk2 M) cw_RL_208 (okM_L_worse) rfl (okR_w rfl (by omega)) (Nat.le_of_ble_eq_true rfl) dL_law_1662 (fun qj1 _ => ?_)
  refine z_istore C 5 (ls1 := [(5, .int qj1.1), (4, .int (nI i)), (3, .ref (B + 165)), (2, .ref (B + 140)), (1, .ref (B + 0)), (0, .ref bs)]) dL_law_1665 (by decide) rfl ?_
  refine z_aload_n C 2 3 dL_law_1667 rfl rfl ?_
  refine z_scr C X 1 5 1 (by omega) rfl rfl dL_law_1668 dL_law_1669 dL_law_1671 dL_law_1672 dL_law_1673 rfl ?_
  refine z_scr C X 2 5 1 (by omega) rfl rfl dL_law_1674 dL_law_1675 dL_law_1677 dL_law_1678 dL_law_1679 rfl ?_
  refine z_callV_I (As := [.int (xs (i + 1)), .int (xs (i + 2))]) (rest := []) C rfl (ctX11_worse (zG_of C) N 140 (xs (i + 1)) (xs (i + 2)) lk1 qj1.2) cw_RL_210 rfl (okM_X11_worse) rfl cl11 lk1 (okR_w rfl (by omega)) (Nat.le_of_ble_eq_true rfl) dL_law_1680 (fun qj2 _ => ?_)
  refine z_istore C 6 (ls1 := [(6, .int qj2.1), (5, .int qj1.1), (4, .int (nI i)), (3, .ref (B + 165)), (2, .ref (B + 140)), (1, .ref (B + 0)), (0, .ref bs)]) dL_law_1683 (by decide) rfl ?_
  refine z_aload_n C 2 4 dL_law_1685 rfl rfl ?_
  refine z_callV_pI (As := []) (rest := []) C rfl (ctX11_thrown (zG_of C) 140 lk1 qj2.2) cw_RL_135 rfl (okM_X11_thrown) rfl cl11 lk1 (okR_w rfl (by omega)) (Nat.le_of_ble_eq_true rfl) dL_law_1686 (fun qj3 _ => ?_)
  refine z_iload C 1 dL_law_1689 rfl ?_
  refine z_icmp_eq C 1696 dL_law_1691 rfl (fun _ => ?_) (fun _ => ?_)
  · refine z_iload C 1 dL_law_1696 rfl ?_
    refine z_if_ne C 1713 dL_law_1698 rfl (fun _ => ?_) (fun _ => ?_)
    · refine z_aload_n C 3 3 dL_law_1701 rfl rfl ?_
      refine z_iconst C dL_law_1702 rfl ?_
      refine z_lald C lk2 rfl (by decide) dL_law_1703 (fun j4 => ?_)
      refine z_iload C 0 dL_law_1704 rfl ?_
      refine z_i2l C dL_law_1706 ?_
      refine z_lcmp_eq C 1713 dL_law_1707 dL_law_1708 rfl (fun _ => ?_) (fun _ => ?_)
      · refine z_goto C 2508 dL_law_1713 rfl ?_
        exact z_jump (ls1 := lwl B bs i) (by omega) [2, 3, 4, 5, 6] rfl (hk qj2.2)
      · exact z_none
    · refine z_goto C 2508 dL_law_1713 rfl ?_
      exact z_jump (ls1 := lwl B bs i) (by omega) [2, 3, 4, 5, 6] rfl (hk qj2.2)
  · exact z_none
set_option maxHeartbeats 4000000 in
set_option maxRecDepth 100000 in
theorem z_lc24 (C : zC p l s m args meth c D cy B kd0 166 sa sv RL cL_law 8) (X : va_X bs L xs s s.heap ∧ bs < s.heap.size ∧ s.heap.size = B ∧ L ≤ 3072) (N i cu : Nat) (hi : i + 6 ≤ L) (hcu : cu + 80 ≤ 599000) (M : Mem) (k : Mem → Option β) (hk : ∀ M : Mem, Z p l e room_1 s m args below meth c Q D cy B kd0 166 8 b0 (cu + 80) (2508) (lwl B bs i) [] M (k M)) : Z p l e room_1 s m args below meth c Q D cy B kd0 166 8 b0 (cu) (1716) (lwl B bs i) [] M (fLc24 N (xs (i + 1)) (xs (i + 2)) (xs (i + 3)) (xs (i + 4)) M k) := by
  unfold fLc24 lwl
  refine z_aload_n C 1 3 dL_law_1716 rfl rfl ?_
  refine z_scr C X 1 4 0 (by omega) rfl rfl dL_law_1717 dL_law_1718 dL_law_1720 dL_law_1721 dL_law_1722 rfl ?_
  refine z_scr C X 2 4 0 (by omega) rfl rfl dL_law_1723 dL_law_1724 dL_law_1726 dL_law_1727 dL_law_1728 rfl ?_
  refine z_scr C X 3 4 0 (by omega) rfl rfl dL_law_1729 dL_law_1730 dL_law_1732 dL_law_1733 dL_law_1734 rfl ?_
  refine z_scr C X 4 4 0 (by omega) rfl rfl dL_law_1735 dL_law_1736 dL_law_1738 dL_law_1739 dL_law_1740 rfl ?_
  refine z_aload_n C 3 1 dL_law_1741 rfl rfl ?_
  refine z_callSH_I (As := [.ref (B + 0), .int (xs (i + 1)), .int (xs (i + 2)), .int (xs (i + 3)), .int (xs (i + 4)), .ref (B + 165)]) (rest := []) C rfl (ctL_cascade (zG_of C) N 0 (xs (i + 1)) (xs (i + 2)) (xs (i + 3)) (xs (i + 4)) 165 lk0 lk2 M) cw_RL_211 (okM_L_cascade) rfl (okR_w rfl (by omega)) (Nat.le_of_ble_eq_true rfl) dL_law_1742 (fun qj1 _ => ?_)
  refine z_istore C 5 (ls1 := [(5, .int qj1.1), (4, .int (nI i)), (3, .ref (B + 165)), (2, .ref (B + 140)), (1, .ref (B + 0)), (0, .ref bs)]) dL_law_1745 (by decide) rfl ?_
  refine z_aload_n C 2 3 dL_law_1747 rfl rfl ?_
  refine z_scr C X 1 5 1 (by omega) rfl rfl dL_law_1748 dL_law_1749 dL_law_1751 dL_law_1752 dL_law_1753 rfl ?_
  refine z_scr C X 2 5 1 (by omega) rfl rfl dL_law_1754 dL_law_1755 dL_law_1757 dL_law_1758 dL_law_1759 rfl ?_
  refine z_scr C X 3 5 1 (by omega) rfl rfl dL_law_1760 dL_law_1761 dL_law_1763 dL_law_1764 dL_law_1765 rfl ?_
  refine z_scr C X 4 5 1 (by omega) rfl rfl dL_law_1766 dL_law_1767 dL_law_1769 dL_law_1770 dL_law_1771 rfl ?_
  refine z_callV_I (As := [.int (xs (i + 1)), .int (xs (i + 2)), .int (xs (i + 3)), .int (xs (i + 4))]) (rest := []) C rfl (ctX11_cascade (zG_of C) N 140 (xs (i + 1)) (xs (i + 2)) (xs (i + 3)) (xs (i + 4)) lk1 qj1.2) cw_RL_214 rfl (okM_X11_cascade) rfl cl11 lk1 (okR_w rfl (by omega)) (Nat.le_of_ble_eq_true rfl) dL_law_1772 (fun qj2 _ => ?_)
  refine z_istore C 6 (ls1 := [(6, .int qj2.1), (5, .int qj1.1), (4, .int (nI i)), (3, .ref (B + 165)), (2, .ref (B + 140)), (1, .ref (B + 0)), (0, .ref bs)]) dL_law_1775 (by decide) rfl ?_
  refine z_aload_n C 2 4 dL_law_1777 rfl rfl ?_
  refine z_callV_pI (As := []) (rest := []) C rfl (ctX11_thrown (zG_of C) 140 lk1 qj2.2) cw_RL_135 rfl (okM_X11_thrown) rfl cl11 lk1 (okR_w rfl (by omega)) (Nat.le_of_ble_eq_true rfl) dL_law_1778 (fun qj3 _ => ?_)
  refine z_iload C 1 dL_law_1781 rfl ?_
  refine z_icmp_eq C 1788 dL_law_1783 rfl (fun _ => ?_) (fun _ => ?_)
  · refine z_iload C 1 dL_law_1788 rfl ?_
    refine z_if_ne C 1805 dL_law_1790 rfl (fun _ => ?_) (fun _ => ?_)
    · refine z_aload_n C 3 3 dL_law_1793 rfl rfl ?_
      refine z_iconst C dL_law_1794 rfl ?_
      refine z_lald C lk2 rfl (by decide) dL_law_1795 (fun j4 => ?_)
      refine z_iload C 0 dL_law_1796 rfl ?_
      refine z_i2l C dL_law_1798 ?_
      refine z_lcmp_eq C 1805 dL_law_1799 dL_law_1800 rfl (fun _ => ?_) (fun _ => ?_)
      · refine z_goto C 2508 dL_law_1805 rfl ?_
        exact z_jump (ls1 := lwl B bs i) (by omega) [2, 3, 4, 5, 6] rfl (hk qj2.2)
      · exact z_none
    · refine z_goto C 2508 dL_law_1805 rfl ?_
      exact z_jump (ls1 := lwl B bs i) (by omega) [2, 3, 4, 5, 6] rfl (hk qj2.2)
  · exact z_none
set_option maxHeartbeats 4000000 in
set_option maxRecDepth 100000 in
theorem z_lc25 (C : zC p l s m args meth c D cy B kd0 166 sa sv RL cL_law 8) (X : va_X bs L xs s s.heap ∧ bs < s.heap.size ∧ s.heap.size = B ∧ L ≤ 3072) (N i cu : Nat) (hi : i + 6 ≤ L) (hcu : cu + 80 ≤ 599000) (M : Mem) (k : Mem → Option β) (hk : ∀ M : Mem, Z p l e room_1 s m args below meth c Q D cy B kd0 166 8 b0 (cu + 80) (2508) (lwl B bs i) [] M (k M)) : Z p l e room_1 s m args below meth c Q D cy B kd0 166 8 b0 (cu) (1808) (lwl B bs i) [] M (fLc25 N (xs (i + 1)) (xs (i + 2)) (xs (i + 3)) M k) := by
  unfold fLc25 lwl
  refine z_aload_n C 1 3 dL_law_1808 rfl rfl ?_
  refine z_scr C X 1 4 0 (by omega) rfl rfl dL_law_1809 dL_law_1810 dL_law_1812 dL_law_1813 dL_law_1814 rfl ?_
  refine z_scr C X 2 4 0 (by omega) rfl rfl dL_law_1815 dL_law_1816 dL_law_1818 dL_law_1819 dL_law_1820 rfl ?_
  refine z_scr C X 3 4 0 (by omega) rfl rfl dL_law_1821 dL_law_1822 dL_law_1824 dL_law_1825 dL_law_1826 rfl ?_
  refine z_aload_n C 3 1 dL_law_1827 rfl rfl ?_
  refine z_callSH_I (As := [.ref (B + 0), .int (xs (i + 1)), .int (xs (i + 2)), .int (xs (i + 3)), .ref (B + 165)]) (rest := []) C rfl (ctL_learn (zG_of C) N 0 (xs (i + 1)) (xs (i + 2)) (xs (i + 3)) 165 lk0 lk2 M) cw_RL_215 (okM_L_learn) rfl (okR_w rfl (by omega)) (Nat.le_of_ble_eq_true rfl) dL_law_1828 (fun qj1 _ => ?_)
  refine z_istore C 5 (ls1 := [(5, .int qj1.1), (4, .int (nI i)), (3, .ref (B + 165)), (2, .ref (B + 140)), (1, .ref (B + 0)), (0, .ref bs)]) dL_law_1831 (by decide) rfl ?_
  refine z_aload_n C 2 3 dL_law_1833 rfl rfl ?_
  refine z_scr C X 1 5 1 (by omega) rfl rfl dL_law_1834 dL_law_1835 dL_law_1837 dL_law_1838 dL_law_1839 rfl ?_
  refine z_scr C X 2 5 1 (by omega) rfl rfl dL_law_1840 dL_law_1841 dL_law_1843 dL_law_1844 dL_law_1845 rfl ?_
  refine z_scr C X 3 5 1 (by omega) rfl rfl dL_law_1846 dL_law_1847 dL_law_1849 dL_law_1850 dL_law_1851 rfl ?_
  refine z_callV_I (As := [.int (xs (i + 1)), .int (xs (i + 2)), .int (xs (i + 3))]) (rest := []) C rfl (ctX11_learn (zG_of C) N 140 (xs (i + 1)) (xs (i + 2)) (xs (i + 3)) lk1 qj1.2) cw_RL_217 rfl (okM_X11_learn) rfl cl11 lk1 (okR_w rfl (by omega)) (Nat.le_of_ble_eq_true rfl) dL_law_1852 (fun qj2 _ => ?_)
  refine z_istore C 6 (ls1 := [(6, .int qj2.1), (5, .int qj1.1), (4, .int (nI i)), (3, .ref (B + 165)), (2, .ref (B + 140)), (1, .ref (B + 0)), (0, .ref bs)]) dL_law_1855 (by decide) rfl ?_
  refine z_aload_n C 2 4 dL_law_1857 rfl rfl ?_
  refine z_callV_pI (As := []) (rest := []) C rfl (ctX11_thrown (zG_of C) 140 lk1 qj2.2) cw_RL_135 rfl (okM_X11_thrown) rfl cl11 lk1 (okR_w rfl (by omega)) (Nat.le_of_ble_eq_true rfl) dL_law_1858 (fun qj3 _ => ?_)
  refine z_iload C 1 dL_law_1861 rfl ?_
  refine z_icmp_eq C 1868 dL_law_1863 rfl (fun _ => ?_) (fun _ => ?_)
  · refine z_iload C 1 dL_law_1868 rfl ?_
    refine z_if_ne C 1885 dL_law_1870 rfl (fun _ => ?_) (fun _ => ?_)
    · refine z_aload_n C 3 3 dL_law_1873 rfl rfl ?_
      refine z_iconst C dL_law_1874 rfl ?_
      refine z_lald C lk2 rfl (by decide) dL_law_1875 (fun j4 => ?_)
      refine z_iload C 0 dL_law_1876 rfl ?_
      refine z_i2l C dL_law_1878 ?_
      refine z_lcmp_eq C 1885 dL_law_1879 dL_law_1880 rfl (fun _ => ?_) (fun _ => ?_)
      · refine z_goto C 2508 dL_law_1885 rfl ?_
        exact z_jump (ls1 := lwl B bs i) (by omega) [2, 3, 4, 5, 6] rfl (hk qj2.2)
      · exact z_none
    · refine z_goto C 2508 dL_law_1885 rfl ?_
      exact z_jump (ls1 := lwl B bs i) (by omega) [2, 3, 4, 5, 6] rfl (hk qj2.2)
  · exact z_none
set_option maxHeartbeats 4000000 in
set_option maxRecDepth 100000 in
theorem z_lc26 (C : zC p l s m args meth c D cy B kd0 166 sa sv RL cL_law 8) (X : va_X bs L xs s s.heap ∧ bs < s.heap.size ∧ s.heap.size = B ∧ L ≤ 3072) (N i cu : Nat) (hi : i + 6 ≤ L) (hcu : cu + 80 ≤ 599000) (M : Mem) (k : Mem → Option β) (hk : ∀ M : Mem, Z p l e room_1 s m args below meth c Q D cy B kd0 166 8 b0 (cu + 80) (2508) (lwl B bs i) [] M (k M)) : Z p l e room_1 s m args below meth c Q D cy B kd0 166 8 b0 (cu) (1888) (lwl B bs i) [] M (fLc26 N (xs (i + 1)) (xs (i + 2)) M k) := by
  unfold fLc26 lwl
  refine z_aload_n C 1 3 dL_law_1888 rfl rfl ?_
  refine z_scr C X 1 4 0 (by omega) rfl rfl dL_law_1889 dL_law_1890 dL_law_1892 dL_law_1893 dL_law_1894 rfl ?_
  refine z_scr C X 2 4 0 (by omega) rfl rfl dL_law_1895 dL_law_1896 dL_law_1898 dL_law_1899 dL_law_1900 rfl ?_
  refine z_aload_n C 3 1 dL_law_1901 rfl rfl ?_
  refine z_callSH_I (As := [.ref (B + 0), .int (xs (i + 1)), .int (xs (i + 2)), .ref (B + 165)]) (rest := []) C rfl (ctL_ask (zG_of C) N 0 (xs (i + 1)) (xs (i + 2)) 165 lk0 lk2 M) cw_RL_218 (okM_L_ask) rfl (okR_w rfl (by omega)) (Nat.le_of_ble_eq_true rfl) dL_law_1902 (fun qj1 _ => ?_)
  refine z_istore C 5 (ls1 := [(5, .int qj1.1), (4, .int (nI i)), (3, .ref (B + 165)), (2, .ref (B + 140)), (1, .ref (B + 0)), (0, .ref bs)]) dL_law_1905 (by decide) rfl ?_
  refine z_aload_n C 2 3 dL_law_1907 rfl rfl ?_
  refine z_scr C X 1 5 1 (by omega) rfl rfl dL_law_1908 dL_law_1909 dL_law_1911 dL_law_1912 dL_law_1913 rfl ?_
  refine z_scr C X 2 5 1 (by omega) rfl rfl dL_law_1914 dL_law_1915 dL_law_1917 dL_law_1918 dL_law_1919 rfl ?_
  refine z_callV_I (As := [.int (xs (i + 1)), .int (xs (i + 2))]) (rest := []) C rfl (ctX11_ask (zG_of C) N 140 (xs (i + 1)) (xs (i + 2)) lk1 qj1.2) cw_RL_220 rfl (okM_X11_ask) rfl cl11 lk1 (okR_w rfl (by omega)) (Nat.le_of_ble_eq_true rfl) dL_law_1920 (fun qj2 _ => ?_)
  refine z_istore C 6 (ls1 := [(6, .int qj2.1), (5, .int qj1.1), (4, .int (nI i)), (3, .ref (B + 165)), (2, .ref (B + 140)), (1, .ref (B + 0)), (0, .ref bs)]) dL_law_1923 (by decide) rfl ?_
  refine z_aload_n C 2 4 dL_law_1925 rfl rfl ?_
  refine z_callV_pI (As := []) (rest := []) C rfl (ctX11_thrown (zG_of C) 140 lk1 qj2.2) cw_RL_135 rfl (okM_X11_thrown) rfl cl11 lk1 (okR_w rfl (by omega)) (Nat.le_of_ble_eq_true rfl) dL_law_1926 (fun qj3 _ => ?_)
  refine z_iload C 1 dL_law_1929 rfl ?_
  refine z_icmp_eq C 1936 dL_law_1931 rfl (fun _ => ?_) (fun _ => ?_)
  · refine z_iload C 1 dL_law_1936 rfl ?_
    refine z_if_ne C 1953 dL_law_1938 rfl (fun _ => ?_) (fun _ => ?_)
    · refine z_aload_n C 3 3 dL_law_1941 rfl rfl ?_
      refine z_iconst C dL_law_1942 rfl ?_
      refine z_lald C lk2 rfl (by decide) dL_law_1943 (fun j4 => ?_)
      refine z_iload C 0 dL_law_1944 rfl ?_
      refine z_i2l C dL_law_1946 ?_
      refine z_lcmp_eq C 1953 dL_law_1947 dL_law_1948 rfl (fun _ => ?_) (fun _ => ?_)
      · refine z_goto C 2508 dL_law_1953 rfl ?_
        exact z_jump (ls1 := lwl B bs i) (by omega) [2, 3, 4, 5, 6] rfl (hk qj2.2)
      · exact z_none
    · refine z_goto C 2508 dL_law_1953 rfl ?_
      exact z_jump (ls1 := lwl B bs i) (by omega) [2, 3, 4, 5, 6] rfl (hk qj2.2)
  · exact z_none
set_option maxHeartbeats 4000000 in
set_option maxRecDepth 100000 in
theorem z_lc27 (C : zC p l s m args meth c D cy B kd0 166 sa sv RL cL_law 8) (X : va_X bs L xs s s.heap ∧ bs < s.heap.size ∧ s.heap.size = B ∧ L ≤ 3072) (N i cu : Nat) (hi : i + 6 ≤ L) (hcu : cu + 80 ≤ 599000) (M : Mem) (k : Mem → Option β) (hk : ∀ M : Mem, Z p l e room_1 s m args below meth c Q D cy B kd0 166 8 b0 (cu + 80) (2508) (lwl B bs i) [] M (k M)) : Z p l e room_1 s m args below meth c Q D cy B kd0 166 8 b0 (cu) (1956) (lwl B bs i) [] M (fLc27 N (xs (i + 1)) (xs (i + 2)) M k) := by
  unfold fLc27 lwl
  refine z_aload_n C 1 3 dL_law_1956 rfl rfl ?_
  refine z_scr C X 1 4 0 (by omega) rfl rfl dL_law_1957 dL_law_1958 dL_law_1960 dL_law_1961 dL_law_1962 rfl ?_
  refine z_scr C X 2 4 0 (by omega) rfl rfl dL_law_1963 dL_law_1964 dL_law_1966 dL_law_1967 dL_law_1968 rfl ?_
  refine z_aload_n C 3 1 dL_law_1969 rfl rfl ?_
  refine z_callSH_I (As := [.ref (B + 0), .int (xs (i + 1)), .int (xs (i + 2)), .ref (B + 165)]) (rest := []) C rfl (ctL_worst (zG_of C) N 0 (xs (i + 1)) (xs (i + 2)) 165 lk0 lk2 M) cw_RL_221 (okM_L_worst) rfl (okR_w rfl (by omega)) (Nat.le_of_ble_eq_true rfl) dL_law_1970 (fun qj1 _ => ?_)
  refine z_istore C 5 (ls1 := [(5, .int qj1.1), (4, .int (nI i)), (3, .ref (B + 165)), (2, .ref (B + 140)), (1, .ref (B + 0)), (0, .ref bs)]) dL_law_1973 (by decide) rfl ?_
  refine z_aload_n C 2 3 dL_law_1975 rfl rfl ?_
  refine z_scr C X 1 5 1 (by omega) rfl rfl dL_law_1976 dL_law_1977 dL_law_1979 dL_law_1980 dL_law_1981 rfl ?_
  refine z_scr C X 2 5 1 (by omega) rfl rfl dL_law_1982 dL_law_1983 dL_law_1985 dL_law_1986 dL_law_1987 rfl ?_
  refine z_callV_I (As := [.int (xs (i + 1)), .int (xs (i + 2))]) (rest := []) C rfl (ctX11_worst (zG_of C) N 140 (xs (i + 1)) (xs (i + 2)) lk1 qj1.2) cw_RL_223 rfl (okM_X11_worst) rfl cl11 lk1 (okR_w rfl (by omega)) (Nat.le_of_ble_eq_true rfl) dL_law_1988 (fun qj2 _ => ?_)
  refine z_istore C 6 (ls1 := [(6, .int qj2.1), (5, .int qj1.1), (4, .int (nI i)), (3, .ref (B + 165)), (2, .ref (B + 140)), (1, .ref (B + 0)), (0, .ref bs)]) dL_law_1991 (by decide) rfl ?_
  refine z_aload_n C 2 4 dL_law_1993 rfl rfl ?_
  refine z_callV_pI (As := []) (rest := []) C rfl (ctX11_thrown (zG_of C) 140 lk1 qj2.2) cw_RL_135 rfl (okM_X11_thrown) rfl cl11 lk1 (okR_w rfl (by omega)) (Nat.le_of_ble_eq_true rfl) dL_law_1994 (fun qj3 _ => ?_)
  refine z_iload C 1 dL_law_1997 rfl ?_
  refine z_icmp_eq C 2004 dL_law_1999 rfl (fun _ => ?_) (fun _ => ?_)
  · refine z_iload C 1 dL_law_2004 rfl ?_
    refine z_if_ne C 2021 dL_law_2006 rfl (fun _ => ?_) (fun _ => ?_)
    · refine z_aload_n C 3 3 dL_law_2009 rfl rfl ?_
      refine z_iconst C dL_law_2010 rfl ?_
      refine z_lald C lk2 rfl (by decide) dL_law_2011 (fun j4 => ?_)
      refine z_iload C 0 dL_law_2012 rfl ?_
      refine z_i2l C dL_law_2014 ?_
      refine z_lcmp_eq C 2021 dL_law_2015 dL_law_2016 rfl (fun _ => ?_) (fun _ => ?_)
      · refine z_goto C 2508 dL_law_2021 rfl ?_
        exact z_jump (ls1 := lwl B bs i) (by omega) [2, 3, 4, 5, 6] rfl (hk qj2.2)
      · exact z_none
    · refine z_goto C 2508 dL_law_2021 rfl ?_
      exact z_jump (ls1 := lwl B bs i) (by omega) [2, 3, 4, 5, 6] rfl (hk qj2.2)
  · exact z_none
set_option maxHeartbeats 4000000 in
set_option maxRecDepth 100000 in
theorem z_lc28 (C : zC p l s m args meth c D cy B kd0 166 sa sv RL cL_law 8) (X : va_X bs L xs s s.heap ∧ bs < s.heap.size ∧ s.heap.size = B ∧ L ≤ 3072) (N i cu : Nat) (hi : i + 6 ≤ L) (hcu : cu + 80 ≤ 599000) (M : Mem) (k : Mem → Option β) (hk : ∀ M : Mem, Z p l e room_1 s m args below meth c Q D cy B kd0 166 8 b0 (cu + 80) (2508) (lwl B bs i) [] M (k M)) : Z p l e room_1 s m args below meth c Q D cy B kd0 166 8 b0 (cu) (2024) (lwl B bs i) [] M (fLc28 N (xs (i + 1)) (xs (i + 2)) M k) := by
  unfold fLc28 lwl
  refine z_aload_n C 1 3 dL_law_2024 rfl rfl ?_
  refine z_scr C X 1 4 0 (by omega) rfl rfl dL_law_2025 dL_law_2026 dL_law_2028 dL_law_2029 dL_law_2030 rfl ?_
  refine z_scr C X 2 4 0 (by omega) rfl rfl dL_law_2031 dL_law_2032 dL_law_2034 dL_law_2035 dL_law_2036 rfl ?_
  refine z_aload_n C 3 1 dL_law_2037 rfl rfl ?_
  refine z_callSH_I (As := [.ref (B + 0), .int (xs (i + 1)), .int (xs (i + 2)), .ref (B + 165)]) (rest := []) C rfl (ctL_blame (zG_of C) N 0 (xs (i + 1)) (xs (i + 2)) 165 lk0 lk2 M) cw_RL_224 (okM_L_blame) rfl (okR_w rfl (by omega)) (Nat.le_of_ble_eq_true rfl) dL_law_2038 (fun qj1 _ => ?_)
  refine z_istore C 5 (ls1 := [(5, .int qj1.1), (4, .int (nI i)), (3, .ref (B + 165)), (2, .ref (B + 140)), (1, .ref (B + 0)), (0, .ref bs)]) dL_law_2041 (by decide) rfl ?_
  refine z_aload_n C 2 3 dL_law_2043 rfl rfl ?_
  refine z_scr C X 1 5 1 (by omega) rfl rfl dL_law_2044 dL_law_2045 dL_law_2047 dL_law_2048 dL_law_2049 rfl ?_
  refine z_scr C X 2 5 1 (by omega) rfl rfl dL_law_2050 dL_law_2051 dL_law_2053 dL_law_2054 dL_law_2055 rfl ?_
  refine z_callV_I (As := [.int (xs (i + 1)), .int (xs (i + 2))]) (rest := []) C rfl (ctX11_blame (zG_of C) N 140 (xs (i + 1)) (xs (i + 2)) lk1 qj1.2) cw_RL_226 rfl (okM_X11_blame) rfl cl11 lk1 (okR_w rfl (by omega)) (Nat.le_of_ble_eq_true rfl) dL_law_2056 (fun qj2 _ => ?_)
  refine z_istore C 6 (ls1 := [(6, .int qj2.1), (5, .int qj1.1), (4, .int (nI i)), (3, .ref (B + 165)), (2, .ref (B + 140)), (1, .ref (B + 0)), (0, .ref bs)]) dL_law_2059 (by decide) rfl ?_
  refine z_aload_n C 2 4 dL_law_2061 rfl rfl ?_
  refine z_callV_pI (As := []) (rest := []) C rfl (ctX11_thrown (zG_of C) 140 lk1 qj2.2) cw_RL_135 rfl (okM_X11_thrown) rfl cl11 lk1 (okR_w rfl (by omega)) (Nat.le_of_ble_eq_true rfl) dL_law_2062 (fun qj3 _ => ?_)
  refine z_iload C 1 dL_law_2065 rfl ?_
  refine z_icmp_eq C 2072 dL_law_2067 rfl (fun _ => ?_) (fun _ => ?_)
  · refine z_iload C 1 dL_law_2072 rfl ?_
    refine z_if_ne C 2089 dL_law_2074 rfl (fun _ => ?_) (fun _ => ?_)
    · refine z_aload_n C 3 3 dL_law_2077 rfl rfl ?_
      refine z_iconst C dL_law_2078 rfl ?_
      refine z_lald C lk2 rfl (by decide) dL_law_2079 (fun j4 => ?_)
      refine z_iload C 0 dL_law_2080 rfl ?_
      refine z_i2l C dL_law_2082 ?_
      refine z_lcmp_eq C 2089 dL_law_2083 dL_law_2084 rfl (fun _ => ?_) (fun _ => ?_)
      · refine z_goto C 2508 dL_law_2089 rfl ?_
        exact z_jump (ls1 := lwl B bs i) (by omega) [2, 3, 4, 5, 6] rfl (hk qj2.2)
      · exact z_none
    · refine z_goto C 2508 dL_law_2089 rfl ?_
      exact z_jump (ls1 := lwl B bs i) (by omega) [2, 3, 4, 5, 6] rfl (hk qj2.2)
  · exact z_none
set_option maxHeartbeats 4000000 in
set_option maxRecDepth 100000 in
theorem z_lc29 (C : zC p l s m args meth c D cy B kd0 166 sa sv RL cL_law 8) (X : va_X bs L xs s s.heap ∧ bs < s.heap.size ∧ s.heap.size = B ∧ L ≤ 3072) (N i cu : Nat) (hi : i + 6 ≤ L) (hcu : cu + 80 ≤ 599000) (M : Mem) (k : Mem → Option β) (hk : ∀ M : Mem, Z p l e room_1 s m args below meth c Q D cy B kd0 166 8 b0 (cu + 80) (2508) (lwl B bs i) [] M (k M)) : Z p l e room_1 s m args below meth c Q D cy B kd0 166 8 b0 (cu) (2092) (lwl B bs i) [] M (fLc29 N (xs (i + 1)) (xs (i + 2)) (xs (i + 3)) M k) := by
  unfold fLc29 lwl
  refine z_aload_n C 1 3 dL_law_2092 rfl rfl ?_
  refine z_scr C X 1 4 0 (by omega) rfl rfl dL_law_2093 dL_law_2094 dL_law_2096 dL_law_2097 dL_law_2098 rfl ?_
  refine z_scr C X 2 4 0 (by omega) rfl rfl dL_law_2099 dL_law_2100 dL_law_2102 dL_law_2103 dL_law_2104 rfl ?_
  refine z_scr C X 3 4 0 (by omega) rfl rfl dL_law_2105 dL_law_2106 dL_law_2108 dL_law_2109 dL_law_2110 rfl ?_
  refine z_aload_n C 3 1 dL_law_2111 rfl rfl ?_
  refine z_callSH_I (As := [.ref (B + 0), .int (xs (i + 1)), .int (xs (i + 2)), .int (xs (i + 3)), .ref (B + 165)]) (rest := []) C rfl (ctL_choose (zG_of C) N 0 (xs (i + 1)) (xs (i + 2)) (xs (i + 3)) 165 lk0 lk2 M) cw_RL_227 (okM_L_choose) rfl (okR_w rfl (by omega)) (Nat.le_of_ble_eq_true rfl) dL_law_2112 (fun qj1 _ => ?_)
  refine z_istore C 5 (ls1 := [(5, .int qj1.1), (4, .int (nI i)), (3, .ref (B + 165)), (2, .ref (B + 140)), (1, .ref (B + 0)), (0, .ref bs)]) dL_law_2115 (by decide) rfl ?_
  refine z_aload_n C 2 3 dL_law_2117 rfl rfl ?_
  refine z_scr C X 1 5 1 (by omega) rfl rfl dL_law_2118 dL_law_2119 dL_law_2121 dL_law_2122 dL_law_2123 rfl ?_
  refine z_scr C X 2 5 1 (by omega) rfl rfl dL_law_2124 dL_law_2125 dL_law_2127 dL_law_2128 dL_law_2129 rfl ?_
  refine z_scr C X 3 5 1 (by omega) rfl rfl dL_law_2130 dL_law_2131 dL_law_2133 dL_law_2134 dL_law_2135 rfl ?_
  refine z_callV_I (As := [.int (xs (i + 1)), .int (xs (i + 2)), .int (xs (i + 3))]) (rest := []) C rfl (ctX11_choose (zG_of C) N 140 (xs (i + 1)) (xs (i + 2)) (xs (i + 3)) lk1 qj1.2) cw_RL_229 rfl (okM_X11_choose) rfl cl11 lk1 (okR_w rfl (by omega)) (Nat.le_of_ble_eq_true rfl) dL_law_2136 (fun qj2 _ => ?_)
  refine z_istore C 6 (ls1 := [(6, .int qj2.1), (5, .int qj1.1), (4, .int (nI i)), (3, .ref (B + 165)), (2, .ref (B + 140)), (1, .ref (B + 0)), (0, .ref bs)]) dL_law_2139 (by decide) rfl ?_
  refine z_aload_n C 2 4 dL_law_2141 rfl rfl ?_
  refine z_callV_pI (As := []) (rest := []) C rfl (ctX11_thrown (zG_of C) 140 lk1 qj2.2) cw_RL_135 rfl (okM_X11_thrown) rfl cl11 lk1 (okR_w rfl (by omega)) (Nat.le_of_ble_eq_true rfl) dL_law_2142 (fun qj3 _ => ?_)
  refine z_iload C 1 dL_law_2145 rfl ?_
  refine z_icmp_eq C 2152 dL_law_2147 rfl (fun _ => ?_) (fun _ => ?_)
  · refine z_iload C 1 dL_law_2152 rfl ?_
    refine z_if_ne C 2169 dL_law_2154 rfl (fun _ => ?_) (fun _ => ?_)
    · refine z_aload_n C 3 3 dL_law_2157 rfl rfl ?_
      refine z_iconst C dL_law_2158 rfl ?_
      refine z_lald C lk2 rfl (by decide) dL_law_2159 (fun j4 => ?_)
      refine z_iload C 0 dL_law_2160 rfl ?_
      refine z_i2l C dL_law_2162 ?_
      refine z_lcmp_eq C 2169 dL_law_2163 dL_law_2164 rfl (fun _ => ?_) (fun _ => ?_)
      · refine z_goto C 2508 dL_law_2169 rfl ?_
        exact z_jump (ls1 := lwl B bs i) (by omega) [2, 3, 4, 5, 6] rfl (hk qj2.2)
      · exact z_none
    · refine z_goto C 2508 dL_law_2169 rfl ?_
      exact z_jump (ls1 := lwl B bs i) (by omega) [2, 3, 4, 5, 6] rfl (hk qj2.2)
  · exact z_none
set_option maxHeartbeats 4000000 in
set_option maxRecDepth 100000 in
theorem z_lc30 (C : zC p l s m args meth c D cy B kd0 166 sa sv RL cL_law 8) (X : va_X bs L xs s s.heap ∧ bs < s.heap.size ∧ s.heap.size = B ∧ L ≤ 3072) (N i cu : Nat) (hi : i + 6 ≤ L) (hcu : cu + 80 ≤ 599000) (M : Mem) (k : Mem → Option β) (hk : ∀ M : Mem, Z p l e room_1 s m args below meth c Q D cy B kd0 166 8 b0 (cu + 80) (2508) (lwl B bs i) [] M (k M)) : Z p l e room_1 s m args below meth c Q D cy B kd0 166 8 b0 (cu) (2172) (lwl B bs i) [] M (fLc30 N (xs (i + 1)) (xs (i + 2)) (xs (i + 3)) M k) := by
  unfold fLc30 lwl
  refine z_aload_n C 1 3 dL_law_2172 rfl rfl ?_
  refine z_scr C X 1 4 0 (by omega) rfl rfl dL_law_2173 dL_law_2174 dL_law_2176 dL_law_2177 dL_law_2178 rfl ?_
  refine z_scr C X 2 4 0 (by omega) rfl rfl dL_law_2179 dL_law_2180 dL_law_2182 dL_law_2183 dL_law_2184 rfl ?_
  refine z_scr C X 3 4 0 (by omega) rfl rfl dL_law_2185 dL_law_2186 dL_law_2188 dL_law_2189 dL_law_2190 rfl ?_
  refine z_callSH_I (As := [.ref (B + 0), .int (xs (i + 1)), .int (xs (i + 2)), .int (xs (i + 3))]) (rest := []) C rfl (ctL_tray (zG_of C) N 0 (xs (i + 1)) (xs (i + 2)) (xs (i + 3)) lk0 M) cw_RL_230 (okM_L_tray) rfl (okR_w rfl (by omega)) (Nat.le_of_ble_eq_true rfl) dL_law_2191 (fun qj1 _ => ?_)
  refine z_istore C 5 (ls1 := [(5, .int qj1.1), (4, .int (nI i)), (3, .ref (B + 165)), (2, .ref (B + 140)), (1, .ref (B + 0)), (0, .ref bs)]) dL_law_2194 (by decide) rfl ?_
  refine z_aload_n C 2 3 dL_law_2196 rfl rfl ?_
  refine z_scr C X 1 5 1 (by omega) rfl rfl dL_law_2197 dL_law_2198 dL_law_2200 dL_law_2201 dL_law_2202 rfl ?_
  refine z_scr C X 2 5 1 (by omega) rfl rfl dL_law_2203 dL_law_2204 dL_law_2206 dL_law_2207 dL_law_2208 rfl ?_
  refine z_scr C X 3 5 1 (by omega) rfl rfl dL_law_2209 dL_law_2210 dL_law_2212 dL_law_2213 dL_law_2214 rfl ?_
  refine z_callV_V (As := [.int (xs (i + 1)), .int (xs (i + 2)), .int (xs (i + 3))]) (rest := []) C rfl (ctX11_tray (zG_of C) N 140 (xs (i + 1)) (xs (i + 2)) (xs (i + 3)) lk1 qj1.2) cw_RL_233 rfl (okM_X11_tray) rfl cl11 lk1 (okR_w rfl (by omega)) (Nat.le_of_ble_eq_true rfl) dL_law_2215 (fun qj2 _ => ?_)
  refine z_aload_n C 2 3 dL_law_2218 rfl rfl ?_
  refine z_callV_pI (As := []) (rest := []) C rfl (ctX11_thrown (zG_of C) 140 lk1 qj2) cw_RL_135 rfl (okM_X11_thrown) rfl cl11 lk1 (okR_w rfl (by omega)) (Nat.le_of_ble_eq_true rfl) dL_law_2219 (fun qj3 _ => ?_)
  refine z_iload C 0 dL_law_2222 rfl ?_
  refine z_icmp_eq C 2229 dL_law_2224 rfl (fun _ => ?_) (fun _ => ?_)
  · refine z_goto C 2508 dL_law_2229 rfl ?_
    exact z_jump (ls1 := lwl B bs i) (by omega) [1, 2, 3, 4, 5] rfl (hk qj2)
  · exact z_none
set_option maxHeartbeats 4000000 in
set_option maxRecDepth 100000 in
theorem z_lc31 (C : zC p l s m args meth c D cy B kd0 166 sa sv RL cL_law 8) (X : va_X bs L xs s s.heap ∧ bs < s.heap.size ∧ s.heap.size = B ∧ L ≤ 3072) (N i cu : Nat) (hi : i + 6 ≤ L) (hcu : cu + 80 ≤ 599000) (M : Mem) (k : Mem → Option β) (hk : ∀ M : Mem, Z p l e room_1 s m args below meth c Q D cy B kd0 166 8 b0 (cu + 80) (2508) (lwl B bs i) [] M (k M)) : Z p l e room_1 s m args below meth c Q D cy B kd0 166 8 b0 (cu) (2232) (lwl B bs i) [] M (fLc31 N (xs (i + 1)) (xs (i + 2)) (xs (i + 3)) (xs (i + 4)) M k) := by
  unfold fLc31 lwl
  refine z_aload_n C 1 3 dL_law_2232 rfl rfl ?_
  refine z_scr C X 1 4 0 (by omega) rfl rfl dL_law_2233 dL_law_2234 dL_law_2236 dL_law_2237 dL_law_2238 rfl ?_
  refine z_scr C X 2 4 0 (by omega) rfl rfl dL_law_2239 dL_law_2240 dL_law_2242 dL_law_2243 dL_law_2244 rfl ?_
  refine z_scr C X 3 4 0 (by omega) rfl rfl dL_law_2245 dL_law_2246 dL_law_2248 dL_law_2249 dL_law_2250 rfl ?_
  refine z_i2l C dL_law_2251 ?_
  refine z_bipush (v := 32) C dL_law_2252 rfl ?_
  refine z_lshl C dL_law_2254 ?_
  refine z_scr C X 4 4 0 (by omega) rfl rfl dL_law_2255 dL_law_2256 dL_law_2258 dL_law_2259 dL_law_2260 rfl ?_
  refine z_i2l C dL_law_2261 ?_
  refine z_ldc2 C dL_law_2262 gw_9_57 ?_
  refine z_land C dL_law_2265 ?_
  refine z_lor C dL_law_2266 ?_
  refine z_aload_n C 3 1 dL_law_2267 rfl rfl ?_
  refine z_callSH_I (As := [.ref (B + 0), .int (xs (i + 1)), .int (xs (i + 2)), .long ((shlJ ((xs (i + 3)).toInt64) (32 : Int32)) ||| ((xs (i + 4)).toInt64 &&& (4294967295 : Int64))), .ref (B + 165)]) (rest := []) C rfl (ctL_write (zG_of C) 0 (xs (i + 1)) (xs (i + 2)) ((shlJ ((xs (i + 3)).toInt64) (32 : Int32)) ||| ((xs (i + 4)).toInt64 &&& (4294967295 : Int64))) 165 lk0 lk2 M) cw_RL_236 (okM_L_write) rfl (okR_w rfl (by omega)) (Nat.le_of_ble_eq_true rfl) dL_law_2268 (fun qj1 _ => ?_)
  refine z_istore C 5 (ls1 := [(5, .int qj1.1), (4, .int (nI i)), (3, .ref (B + 165)), (2, .ref (B + 140)), (1, .ref (B + 0)), (0, .ref bs)]) dL_law_2271 (by decide) rfl ?_
  refine z_aload_n C 2 3 dL_law_2273 rfl rfl ?_
  refine z_scr C X 1 5 1 (by omega) rfl rfl dL_law_2274 dL_law_2275 dL_law_2277 dL_law_2278 dL_law_2279 rfl ?_
  refine z_scr C X 2 5 1 (by omega) rfl rfl dL_law_2280 dL_law_2281 dL_law_2283 dL_law_2284 dL_law_2285 rfl ?_
  refine z_scr C X 3 5 1 (by omega) rfl rfl dL_law_2286 dL_law_2287 dL_law_2289 dL_law_2290 dL_law_2291 rfl ?_
  refine z_i2l C dL_law_2292 ?_
  refine z_bipush (v := 32) C dL_law_2293 rfl ?_
  refine z_lshl C dL_law_2295 ?_
  refine z_scr C X 4 5 1 (by omega) rfl rfl dL_law_2296 dL_law_2297 dL_law_2299 dL_law_2300 dL_law_2301 rfl ?_
  refine z_i2l C dL_law_2302 ?_
  refine z_ldc2 C dL_law_2303 gw_9_57 ?_
  refine z_land C dL_law_2306 ?_
  refine z_lor C dL_law_2307 ?_
  refine z_callV_J (As := [.int (xs (i + 1)), .int (xs (i + 2)), .long ((shlJ ((xs (i + 3)).toInt64) (32 : Int32)) ||| ((xs (i + 4)).toInt64 &&& (4294967295 : Int64)))]) (rest := []) C rfl (ctX11_write (zG_of C) 140 (xs (i + 1)) (xs (i + 2)) ((shlJ ((xs (i + 3)).toInt64) (32 : Int32)) ||| ((xs (i + 4)).toInt64 &&& (4294967295 : Int64))) lk1 qj1.2) cw_RL_239 rfl (okM_X11_write) rfl cl11 lk1 (okR_w rfl (by omega)) (Nat.le_of_ble_eq_true rfl) dL_law_2308 (fun qj2 _ => ?_)
  refine z_lstore C 6 (ls1 := [(6, .long qj2.1), (5, .int qj1.1), (4, .int (nI i)), (3, .ref (B + 165)), (2, .ref (B + 140)), (1, .ref (B + 0)), (0, .ref bs)]) dL_law_2311 (by decide) rfl ?_
  refine z_aload_n C 2 4 dL_law_2313 rfl rfl ?_
  refine z_callV_pI (As := []) (rest := []) C rfl (ctX11_thrown (zG_of C) 140 lk1 qj2.2) cw_RL_135 rfl (okM_X11_thrown) rfl cl11 lk1 (okR_w rfl (by omega)) (Nat.le_of_ble_eq_true rfl) dL_law_2314 (fun qj3 _ => ?_)
  refine z_iload C 1 dL_law_2317 rfl ?_
  refine z_icmp_eq C 2324 dL_law_2319 rfl (fun _ => ?_) (fun _ => ?_)
  · refine z_iload C 1 dL_law_2324 rfl ?_
    refine z_if_ne C 2340 dL_law_2326 rfl (fun _ => ?_) (fun _ => ?_)
    · refine z_aload_n C 3 3 dL_law_2329 rfl rfl ?_
      refine z_iconst C dL_law_2330 rfl ?_
      refine z_lald C lk2 rfl (by decide) dL_law_2331 (fun j4 => ?_)
      refine z_lload C 0 dL_law_2332 rfl ?_
      refine z_lcmp_eq C 2340 dL_law_2334 dL_law_2335 rfl (fun _ => ?_) (fun _ => ?_)
      · refine z_goto C 2508 dL_law_2340 rfl ?_
        exact z_jump (ls1 := lwl B bs i) (by omega) [2, 3, 4, 5, 6] rfl (hk qj2.2)
      · exact z_none
    · refine z_goto C 2508 dL_law_2340 rfl ?_
      exact z_jump (ls1 := lwl B bs i) (by omega) [2, 3, 4, 5, 6] rfl (hk qj2.2)
  · exact z_none
set_option maxHeartbeats 4000000 in
set_option maxRecDepth 100000 in
theorem z_lc32 (C : zC p l s m args meth c D cy B kd0 166 sa sv RL cL_law 8) (X : va_X bs L xs s s.heap ∧ bs < s.heap.size ∧ s.heap.size = B ∧ L ≤ 3072) (N i cu : Nat) (hi : i + 6 ≤ L) (hcu : cu + 80 ≤ 599000) (M : Mem) (k : Mem → Option β) (hk : ∀ M : Mem, Z p l e room_1 s m args below meth c Q D cy B kd0 166 8 b0 (cu + 80) (2508) (lwl B bs i) [] M (k M)) : Z p l e room_1 s m args below meth c Q D cy B kd0 166 8 b0 (cu) (2343) (lwl B bs i) [] M (fLc32 N (xs (i + 1)) (xs (i + 2)) M k) := by
  unfold fLc32 lwl
  refine z_aload_n C 1 3 dL_law_2343 rfl rfl ?_
  refine z_scr C X 1 4 0 (by omega) rfl rfl dL_law_2344 dL_law_2345 dL_law_2347 dL_law_2348 dL_law_2349 rfl ?_
  refine z_scr C X 2 4 0 (by omega) rfl rfl dL_law_2350 dL_law_2351 dL_law_2353 dL_law_2354 dL_law_2355 rfl ?_
  refine z_aload_n C 3 1 dL_law_2356 rfl rfl ?_
  refine z_callSH_I (As := [.ref (B + 0), .int (xs (i + 1)), .int (xs (i + 2)), .ref (B + 165)]) (rest := []) C rfl (ctL_pour (zG_of C) N 0 (xs (i + 1)) (xs (i + 2)) 165 lk0 lk2 M) cw_RL_240 (okM_L_pour) rfl (okR_w rfl (by omega)) (Nat.le_of_ble_eq_true rfl) dL_law_2357 (fun qj1 _ => ?_)
  refine z_istore C 5 (ls1 := [(5, .int qj1.1), (4, .int (nI i)), (3, .ref (B + 165)), (2, .ref (B + 140)), (1, .ref (B + 0)), (0, .ref bs)]) dL_law_2360 (by decide) rfl ?_
  refine z_aload_n C 2 3 dL_law_2362 rfl rfl ?_
  refine z_scr C X 1 5 1 (by omega) rfl rfl dL_law_2363 dL_law_2364 dL_law_2366 dL_law_2367 dL_law_2368 rfl ?_
  refine z_scr C X 2 5 1 (by omega) rfl rfl dL_law_2369 dL_law_2370 dL_law_2372 dL_law_2373 dL_law_2374 rfl ?_
  refine z_callV_I (As := [.int (xs (i + 1)), .int (xs (i + 2))]) (rest := []) C rfl (ctX11_pour (zG_of C) N 140 (xs (i + 1)) (xs (i + 2)) lk1 qj1.2) cw_RL_242 rfl (okM_X11_pour) rfl cl11 lk1 (okR_w rfl (by omega)) (Nat.le_of_ble_eq_true rfl) dL_law_2375 (fun qj2 _ => ?_)
  refine z_istore C 6 (ls1 := [(6, .int qj2.1), (5, .int qj1.1), (4, .int (nI i)), (3, .ref (B + 165)), (2, .ref (B + 140)), (1, .ref (B + 0)), (0, .ref bs)]) dL_law_2378 (by decide) rfl ?_
  refine z_aload_n C 2 4 dL_law_2380 rfl rfl ?_
  refine z_callV_pI (As := []) (rest := []) C rfl (ctX11_thrown (zG_of C) 140 lk1 qj2.2) cw_RL_135 rfl (okM_X11_thrown) rfl cl11 lk1 (okR_w rfl (by omega)) (Nat.le_of_ble_eq_true rfl) dL_law_2381 (fun qj3 _ => ?_)
  refine z_iload C 1 dL_law_2384 rfl ?_
  refine z_icmp_eq C 2391 dL_law_2386 rfl (fun _ => ?_) (fun _ => ?_)
  · refine z_iload C 1 dL_law_2391 rfl ?_
    refine z_if_ne C 2408 dL_law_2393 rfl (fun _ => ?_) (fun _ => ?_)
    · refine z_aload_n C 3 3 dL_law_2396 rfl rfl ?_
      refine z_iconst C dL_law_2397 rfl ?_
      refine z_lald C lk2 rfl (by decide) dL_law_2398 (fun j4 => ?_)
      refine z_iload C 0 dL_law_2399 rfl ?_
      refine z_i2l C dL_law_2401 ?_
      refine z_lcmp_eq C 2408 dL_law_2402 dL_law_2403 rfl (fun _ => ?_) (fun _ => ?_)
      · refine z_goto C 2508 dL_law_2408 rfl ?_
        exact z_jump (ls1 := lwl B bs i) (by omega) [2, 3, 4, 5, 6] rfl (hk qj2.2)
      · exact z_none
    · refine z_goto C 2508 dL_law_2408 rfl ?_
      exact z_jump (ls1 := lwl B bs i) (by omega) [2, 3, 4, 5, 6] rfl (hk qj2.2)
  · exact z_none
set_option maxHeartbeats 4000000 in
set_option maxRecDepth 100000 in
theorem z_lc33 (C : zC p l s m args meth c D cy B kd0 166 sa sv RL cL_law 8) (X : va_X bs L xs s s.heap ∧ bs < s.heap.size ∧ s.heap.size = B ∧ L ≤ 3072) (N i cu : Nat) (hi : i + 6 ≤ L) (hcu : cu + 80 ≤ 599000) (M : Mem) (k : Mem → Option β) (hk : ∀ M : Mem, Z p l e room_1 s m args below meth c Q D cy B kd0 166 8 b0 (cu + 80) (2508) (lwl B bs i) [] M (k M)) : Z p l e room_1 s m args below meth c Q D cy B kd0 166 8 b0 (cu) (2411) (lwl B bs i) [] M (fLc33 N (xs (i + 1)) M k) := by
  unfold fLc33 lwl
  refine z_aload_n C 1 3 dL_law_2411 rfl rfl ?_
  refine z_scr C X 1 4 0 (by omega) rfl rfl dL_law_2412 dL_law_2413 dL_law_2415 dL_law_2416 dL_law_2417 rfl ?_
  refine z_callSH_I (As := [.ref (B + 0), .int (xs (i + 1))]) (rest := []) C rfl (ctL_image (zG_of C) N 0 (xs (i + 1)) lk0 M) cw_RL_243 (okM_L_image) rfl (okR_w rfl (by omega)) (Nat.le_of_ble_eq_true rfl) dL_law_2418 (fun qj1 _ => ?_)
  refine z_istore C 5 (ls1 := [(5, .int qj1.1), (4, .int (nI i)), (3, .ref (B + 165)), (2, .ref (B + 140)), (1, .ref (B + 0)), (0, .ref bs)]) dL_law_2421 (by decide) rfl ?_
  refine z_aload_n C 2 3 dL_law_2423 rfl rfl ?_
  refine z_scr C X 1 5 1 (by omega) rfl rfl dL_law_2424 dL_law_2425 dL_law_2427 dL_law_2428 dL_law_2429 rfl ?_
  refine z_callV_V (As := [.int (xs (i + 1))]) (rest := []) C rfl (ctX11_image (zG_of C) N 140 (xs (i + 1)) lk1 qj1.2) cw_RL_246 rfl (okM_X11_image) rfl cl11 lk1 (okR_w rfl (by omega)) (Nat.le_of_ble_eq_true rfl) dL_law_2430 (fun qj2 _ => ?_)
  refine z_aload_n C 2 3 dL_law_2433 rfl rfl ?_
  refine z_callV_pI (As := []) (rest := []) C rfl (ctX11_thrown (zG_of C) 140 lk1 qj2) cw_RL_135 rfl (okM_X11_thrown) rfl cl11 lk1 (okR_w rfl (by omega)) (Nat.le_of_ble_eq_true rfl) dL_law_2434 (fun qj3 _ => ?_)
  refine z_iload C 0 dL_law_2437 rfl ?_
  refine z_icmp_eq C 2444 dL_law_2439 rfl (fun _ => ?_) (fun _ => ?_)
  · refine z_goto C 2508 dL_law_2444 rfl ?_
    exact z_jump (ls1 := lwl B bs i) (by omega) [1, 2, 3, 4, 5] rfl (hk qj2)
  · exact z_none
set_option maxHeartbeats 4000000 in
set_option maxRecDepth 100000 in
theorem z_lc34 (C : zC p l s m args meth c D cy B kd0 166 sa sv RL cL_law 8) (X : va_X bs L xs s s.heap ∧ bs < s.heap.size ∧ s.heap.size = B ∧ L ≤ 3072) (N i cu : Nat) (hi : i + 6 ≤ L) (hcu : cu + 80 ≤ 599000) (M : Mem) (k : Mem → Option β) (hk : ∀ M : Mem, Z p l e room_1 s m args below meth c Q D cy B kd0 166 8 b0 (cu + 80) (2508) (lwl B bs i) [] M (k M)) : Z p l e room_1 s m args below meth c Q D cy B kd0 166 8 b0 (cu) (2447) (lwl B bs i) [] M (fLc34 N (xs (i + 1)) M k) := by
  unfold fLc34 lwl
  refine z_aload_n C 1 3 dL_law_2447 rfl rfl ?_
  refine z_scr C X 1 4 0 (by omega) rfl rfl dL_law_2448 dL_law_2449 dL_law_2451 dL_law_2452 dL_law_2453 rfl ?_
  refine z_callSH_I (As := [.ref (B + 0), .int (xs (i + 1))]) (rest := []) C rfl (ctL_restore (zG_of C) N 0 (xs (i + 1)) lk0 M) cw_RL_247 (okM_L_restore) rfl (okR_w rfl (by omega)) (Nat.le_of_ble_eq_true rfl) dL_law_2454 (fun qj1 _ => ?_)
  refine z_istore C 5 (ls1 := [(5, .int qj1.1), (4, .int (nI i)), (3, .ref (B + 165)), (2, .ref (B + 140)), (1, .ref (B + 0)), (0, .ref bs)]) dL_law_2457 (by decide) rfl ?_
  refine z_aload_n C 2 3 dL_law_2459 rfl rfl ?_
  refine z_scr C X 1 5 1 (by omega) rfl rfl dL_law_2460 dL_law_2461 dL_law_2463 dL_law_2464 dL_law_2465 rfl ?_
  refine z_callV_V (As := [.int (xs (i + 1))]) (rest := []) C rfl (ctX11_restore (zG_of C) N 140 (xs (i + 1)) lk1 qj1.2) cw_RL_249 rfl (okM_X11_restore) rfl cl11 lk1 (okR_w rfl (by omega)) (Nat.le_of_ble_eq_true rfl) dL_law_2466 (fun qj2 _ => ?_)
  refine z_aload_n C 2 3 dL_law_2469 rfl rfl ?_
  refine z_callV_pI (As := []) (rest := []) C rfl (ctX11_thrown (zG_of C) 140 lk1 qj2) cw_RL_135 rfl (okM_X11_thrown) rfl cl11 lk1 (okR_w rfl (by omega)) (Nat.le_of_ble_eq_true rfl) dL_law_2470 (fun qj3 _ => ?_)
  refine z_iload C 0 dL_law_2473 rfl ?_
  refine z_icmp_eq C 2480 dL_law_2475 rfl (fun _ => ?_) (fun _ => ?_)
  · refine z_goto C 2508 dL_law_2480 rfl ?_
    exact z_jump (ls1 := lwl B bs i) (by omega) [1, 2, 3, 4, 5] rfl (hk qj2)
  · exact z_none
set_option maxHeartbeats 4000000 in
set_option maxRecDepth 100000 in
theorem z_lc35 (C : zC p l s m args meth c D cy B kd0 166 sa sv RL cL_law 8) (X : va_X bs L xs s s.heap ∧ bs < s.heap.size ∧ s.heap.size = B ∧ L ≤ 3072) (N i cu : Nat) (hi : i + 6 ≤ L) (hcu : cu + 80 ≤ 599000) (M : Mem) (k : Mem → Option β) (hk : ∀ M : Mem, Z p l e room_1 s m args below meth c Q D cy B kd0 166 8 b0 (cu + 80) (2508) (lwl B bs i) [] M (k M)) : Z p l e room_1 s m args below meth c Q D cy B kd0 166 8 b0 (cu) (2483) (lwl B bs i) [] M (fLc35 N (xs (i + 1)) M k) := by
  unfold fLc35 lwl
  refine z_aload_n C 1 3 dL_law_2483 rfl rfl ?_
  refine z_scr C X 1 4 0 (by omega) rfl rfl dL_law_2484 dL_law_2485 dL_law_2487 dL_law_2488 dL_law_2489 rfl ?_
  refine z_callV_pI (As := [.int (xs (i + 1))]) (rest := []) C rfl (ctX10_count (zG_of C) N 0 (xs (i + 1)) lk0 M) cw_RL_250 rfl (okM_X10_count) rfl cl10 lk0 (okR_w rfl (by omega)) (Nat.le_of_ble_eq_true rfl) dL_law_2490 (fun qj1 _ => ?_)
  refine z_aload_n C 2 2 dL_law_2493 rfl rfl ?_
  refine z_scr C X 1 4 0 (by omega) rfl rfl dL_law_2494 dL_law_2495 dL_law_2497 dL_law_2498 dL_law_2499 rfl ?_
  refine z_callV_I (As := [.int (xs (i + 1))]) (rest := [.int qj1]) C rfl (ctX11_count (zG_of C) N 140 (xs (i + 1)) lk1 M) cw_RL_253 rfl (okM_X11_count) rfl cl11 lk1 (okR_w rfl (by omega)) (Nat.le_of_ble_eq_true rfl) dL_law_2500 (fun qj2 _ => ?_)
  refine z_icmp_eq C 2508 dL_law_2503 rfl (fun _ => ?_) (fun _ => ?_)
  · exact z_jump (ls1 := lwl B bs i) (by omega) [0, 1, 2, 3, 4] rfl (hk qj2.2)
  · exact z_none
end LW1
