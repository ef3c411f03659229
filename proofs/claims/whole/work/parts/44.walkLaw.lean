set_option maxHeartbeats 40000000 in
set_option maxRecDepth 100000 in
theorem V_lp_L_law_23 {l : Launch} {w : vm_W} (hfl : l.stackTraces = false) (hL : vm_L w < 2147483648) (kx2805 : mm_T → Option (Int × mm_T)) (a1 : Nat) (a2 : Nat) (a3 : Nat) (hkx2805 : ∀ (M : mm_T), V_ l w q_L_law 62 ex_Z 2805 [] [] M (kx2805 M)) : ∀ (f : Nat) (v4 : Int) (M : mm_T), V_ l w q_L_law 62 ex_Z 23 [(0, xA 1), (1, xA a1), (2, xA a2), (3, xA a3), (4, xI v4)] [] M (lp_L_law_23 kx2805 (vm_L w) (vm_xz w) a1 a2 a3 f v4 M) := by
  intro f
  induction f with
  | zero => intros; exact V_.none
  | succ f ih =>
    intro v4 M
    unfold lp_L_law_23
    refine v_iload d_L_law_23 4 rfl ?_
    refine v_aloadn d_L_law_25 rfl 0 rfl ?_
    refine v_sln d_L_law_26 (fun x26 => ?_) hL
    refine v_bipush d_L_law_27 (by decide) ?_
    refine v_isub d_L_law_29 (fun x29 => ?_)
    refine v_icgt d_L_law_30 ?_ ?_
    · refine v_sub (ls' := []) [] rfl ?_
      exact hkx2805 M
    · refine v_aloadn d_L_law_33 rfl 0 rfl ?_
      refine v_iload d_L_law_34 4 rfl ?_
      refine v_sld d_L_law_36 (fun x36 => ?_) hL
      refine v_bipush d_L_law_37 (by decide) ?_
      refine v_iand d_L_law_39 ?_
      refine v_join0 (pj := 2799) (lj := [(0, xA 1), (1, xA a1), (2, xA a2), (3, xA a3), (4, xI v4)]) (sj := []) (fun M => ?_) (fun j2799 hj2799 => ?_)
      · refine v_iinc (lz := fun z => [(4, xI z), (0, xA 1), (1, xA a1), (2, xA a2), (3, xA a3)]) d_L_law_2799 4 rfl (Nat.le_of_ble_eq_true rfl) (fun _ => rfl) (fun v4_2799 => ?_)
        refine v_goto d_L_law_2802 ?_
        refine v_sub (ls' := [(0, xA 1), (1, xA a1), (2, xA a2), (3, xA a3), (4, xI v4_2799)]) [1, 2, 3, 4, 0] rfl ?_
        exact ih v4_2799 M
      refine v_sw (n := 51) (tg := fun i => ([260, 333, 358, 402, 446, 459, 484, 540, 584, 597, 610, 623, 679, 692, 717, 785, 841, 854, 922, 935, 948, 1004, 1048, 1104, 1117, 1173, 1229, 1309, 1388, 1512, 1603, 1671, 1739, 1795, 1851, 1914, 1982, 2050, 2106, 2150, 2218, 2231, 2311, 2402, 2427, 2440, 2496, 2576, 2631, 2694, 2774] : List Nat).getD i 0) (dt := 2799) d_L_law_40 rfl rfl d_L_law_40_o (fun i hi => ?_) ?_
      · match i, hi with
        | 0, _ =>
          show V_ l w q_L_law 62 ex_Z 260 [(0, xA 1), (1, xA a1), (2, xA a2), (3, xA a3), (4, xI v4)] [] M _
          refine v_aloadn d_L_law_260 rfl 1 rfl ?_
          refine v_aloadn d_L_law_261 rfl 0 rfl ?_
          refine v_iload d_L_law_262 4 rfl ?_
          refine v_iconst d_L_law_264 (by decide) ?_
          refine v_iadd d_L_law_265 (fun x265 => ?_)
          refine v_sld d_L_law_266 (fun x266 => ?_) hL
          refine v_aloadn d_L_law_267 rfl 0 rfl ?_
          refine v_iload d_L_law_268 4 rfl ?_
          refine v_iconst d_L_law_270 (by decide) ?_
          refine v_iadd d_L_law_271 (fun x271 => ?_)
          refine v_sld d_L_law_272 (fun x272 => ?_) hL
          refine v_aloadn d_L_law_273 rfl 0 rfl ?_
          refine v_iload d_L_law_274 4 rfl ?_
          refine v_iconst d_L_law_276 (by decide) ?_
          refine v_iadd d_L_law_277 (fun x277 => ?_)
          refine v_sld d_L_law_278 (fun x278 => ?_) hL
          refine v_aloadn d_L_law_279 rfl 0 rfl ?_
          refine v_iload d_L_law_280 4 rfl ?_
          refine v_iconst d_L_law_282 (by decide) ?_
          refine v_iadd d_L_law_283 (fun x283 => ?_)
          refine v_sld d_L_law_284 (fun x284 => ?_) hL
          refine v_aloadn d_L_law_285 rfl 0 rfl ?_
          refine v_iload d_L_law_286 4 rfl ?_
          refine v_iconst d_L_law_288 (by decide) ?_
          refine v_iadd d_L_law_289 (fun x289 => ?_)
          refine v_sld d_L_law_290 (fun x290 => ?_) hL
          refine v_cVi d_L_law_291 ml_L_133 (q := (RX10, TX10, 10)) rfl (c_X_feed l hfl a1 x266 x272 x278 x284 x290 M) (fun _ => rfl) (by decide) (by decide) (as := [xI x266, xI x272, xI x278, xI x284, xI x290]) (st1 := []) rfl rfl (Nat.le_of_ble_eq_true rfl) (fun c291 M => ?_)
          refine v_aloadn d_L_law_294 rfl 2 rfl ?_
          refine v_aloadn d_L_law_295 rfl 0 rfl ?_
          refine v_iload d_L_law_296 4 rfl ?_
          refine v_iconst d_L_law_298 (by decide) ?_
          refine v_iadd d_L_law_299 (fun x299 => ?_)
          refine v_sld d_L_law_300 (fun x300 => ?_) hL
          refine v_aloadn d_L_law_301 rfl 0 rfl ?_
          refine v_iload d_L_law_302 4 rfl ?_
          refine v_iconst d_L_law_304 (by decide) ?_
          refine v_iadd d_L_law_305 (fun x305 => ?_)
          refine v_sld d_L_law_306 (fun x306 => ?_) hL
          refine v_aloadn d_L_law_307 rfl 0 rfl ?_
          refine v_iload d_L_law_308 4 rfl ?_
          refine v_iconst d_L_law_310 (by decide) ?_
          refine v_iadd d_L_law_311 (fun x311 => ?_)
          refine v_sld d_L_law_312 (fun x312 => ?_) hL
          refine v_aloadn d_L_law_313 rfl 0 rfl ?_
          refine v_iload d_L_law_314 4 rfl ?_
          refine v_iconst d_L_law_316 (by decide) ?_
          refine v_iadd d_L_law_317 (fun x317 => ?_)
          refine v_sld d_L_law_318 (fun x318 => ?_) hL
          refine v_aloadn d_L_law_319 rfl 0 rfl ?_
          refine v_iload d_L_law_320 4 rfl ?_
          refine v_iconst d_L_law_322 (by decide) ?_
          refine v_iadd d_L_law_323 (fun x323 => ?_)
          refine v_sld d_L_law_324 (fun x324 => ?_) hL
          refine v_cVi d_L_law_325 ml_L_137 (q := (RX11, TX11, 32)) rfl (c_M_feed l hfl a2 x300 x306 x312 x318 x324 M) (fun _ => rfl) (by decide) (by decide) (as := [xI x300, xI x306, xI x312, xI x318, xI x324]) (st1 := [xI c291]) rfl rfl (Nat.le_of_ble_eq_true rfl) (fun c325 M => ?_)
          refine v_iceq d_L_law_328 ?_ ?_
          · exact hj2799 M
          · refine v_iconst d_L_law_331 (by decide) ?_
            exact v_zret d_L_law_332 rfl
        | 1, _ =>
          show V_ l w q_L_law 62 ex_Z 333 [(0, xA 1), (1, xA a1), (2, xA a2), (3, xA a3), (4, xI v4)] [] M _
          refine v_aloadn d_L_law_333 rfl 1 rfl ?_
          refine v_aloadn d_L_law_334 rfl 0 rfl ?_
          refine v_iload d_L_law_335 4 rfl ?_
          refine v_iconst d_L_law_337 (by decide) ?_
          refine v_iadd d_L_law_338 (fun x338 => ?_)
          refine v_sld d_L_law_339 (fun x339 => ?_) hL
          refine v_cVi d_L_law_340 ml_L_138 (q := (RX10, TX10, 10)) rfl (c_X_end l hfl a1 x339 M) (fun _ => rfl) (by decide) (by decide) (as := [xI x339]) (st1 := []) rfl rfl (Nat.le_of_ble_eq_true rfl) (fun c340 M => ?_)
          refine v_aloadn d_L_law_343 rfl 2 rfl ?_
          refine v_aloadn d_L_law_344 rfl 0 rfl ?_
          refine v_iload d_L_law_345 4 rfl ?_
          refine v_iconst d_L_law_347 (by decide) ?_
          refine v_iadd d_L_law_348 (fun x348 => ?_)
          refine v_sld d_L_law_349 (fun x349 => ?_) hL
          refine v_cVi d_L_law_350 ml_L_141 (q := (RX11, TX11, 32)) rfl (c_M_end l hfl a2 x349 M) (fun _ => rfl) (by decide) (by decide) (as := [xI x349]) (st1 := [xI c340]) rfl rfl (Nat.le_of_ble_eq_true rfl) (fun c350 M => ?_)
          refine v_iceq d_L_law_353 ?_ ?_
          · exact hj2799 M
          · refine v_iconst d_L_law_356 (by decide) ?_
            exact v_zret d_L_law_357 rfl
        | 2, _ =>
          show V_ l w q_L_law 62 ex_Z 358 [(0, xA 1), (1, xA a1), (2, xA a2), (3, xA a3), (4, xI v4)] [] M _
          refine v_aloadn d_L_law_358 rfl 1 rfl ?_
          refine v_aloadn d_L_law_359 rfl 3 rfl ?_
          refine v_cSWi d_L_law_360 ml_L_142 (c_L_read l hfl a1 a3 M) (fun _ => rfl) (by decide) (by decide) (as := [xA a1, xA a3]) (st1 := []) rfl rfl (Nat.le_of_ble_eq_true rfl) (fun c360 M => ?_)
          refine v_istore (lz := fun z => [(5, xI z), (0, xA 1), (1, xA a1), (2, xA a2), (3, xA a3), (4, xI v4)]) d_L_law_363 (Nat.le_of_ble_eq_true rfl) (fun _ => rfl) (fun v5_363 => ?_)
          refine v_aloadn d_L_law_365 rfl 3 rfl ?_
          refine v_cVi d_L_law_366 ml_L_147 (q := (RX11, TX11, 32)) rfl (c_M_read l hfl a2 M) (fun _ => rfl) (by decide) (by decide) (as := []) (st1 := []) rfl rfl (Nat.le_of_ble_eq_true rfl) (fun c366 M => ?_)
          refine v_istore (lz := fun z => [(6, xI z), (5, xI v5_363), (0, xA 1), (1, xA a1), (2, xA a2), (3, xA a3), (4, xI v4)]) d_L_law_369 (Nat.le_of_ble_eq_true rfl) (fun _ => rfl) (fun v6_369 => ?_)
          refine v_aloadn d_L_law_371 rfl 4 rfl ?_
          refine v_cVi d_L_law_372 ml_L_148 (q := (RX11, TX11, 32)) rfl (c_M_thrown l hfl a2 M) (fun _ => rfl) (by decide) (by decide) (as := []) (st1 := []) rfl rfl (Nat.le_of_ble_eq_true rfl) (fun c372 M => ?_)
          refine v_iload d_L_law_375 1 rfl ?_
          refine v_iceq d_L_law_377 ?_ ?_
          · refine v_iload d_L_law_382 1 rfl ?_
            refine v_join0 (pj := 399) (lj := [(0, xA 1), (1, xA a1), (2, xA a2), (3, xA a3), (4, xI v4)]) (sj := []) (fun M => ?_) (fun j399 hj399 => ?_)
            · refine v_goto d_L_law_399 ?_
              exact hj2799 M
            refine v_ifne d_L_law_384 ?_ ?_
            · refine v_sub (ls' := [(0, xA 1), (1, xA a1), (2, xA a2), (3, xA a3), (4, xI v4)]) [2, 3, 4, 5, 6] rfl ?_
              exact hj399 M
            · refine v_aloadn d_L_law_387 rfl 5 rfl ?_
              refine v_iconst d_L_law_388 (by decide) ?_
              refine v_lald d_L_law_389 (fun x389 => ?_)
              refine v_iload d_L_law_390 0 rfl ?_
              refine v_i2l d_L_law_392 ?_
              refine v_lcmp d_L_law_393 ?_
              refine v_ifeq d_L_law_394 ?_ ?_
              · refine v_sub (ls' := [(0, xA 1), (1, xA a1), (2, xA a2), (3, xA a3), (4, xI v4)]) [2, 3, 4, 5, 6] rfl ?_
                exact hj399 M
              · refine v_iconst d_L_law_397 (by decide) ?_
                exact v_zret d_L_law_398 rfl
          · refine v_iconst d_L_law_380 (by decide) ?_
            exact v_zret d_L_law_381 rfl
        | 3, _ =>
          show V_ l w q_L_law 62 ex_Z 402 [(0, xA 1), (1, xA a1), (2, xA a2), (3, xA a3), (4, xI v4)] [] M _
          refine v_aloadn d_L_law_402 rfl 1 rfl ?_
          refine v_aloadn d_L_law_403 rfl 3 rfl ?_
          refine v_cSWi d_L_law_404 ml_L_151 (c_L_word l hfl a1 a3 M) (fun _ => rfl) (by decide) (by decide) (as := [xA a1, xA a3]) (st1 := []) rfl rfl (Nat.le_of_ble_eq_true rfl) (fun c404 M => ?_)
          refine v_istore (lz := fun z => [(5, xI z), (0, xA 1), (1, xA a1), (2, xA a2), (3, xA a3), (4, xI v4)]) d_L_law_407 (Nat.le_of_ble_eq_true rfl) (fun _ => rfl) (fun v5_407 => ?_)
          refine v_aloadn d_L_law_409 rfl 3 rfl ?_
          refine v_cVi d_L_law_410 ml_L_153 (q := (RX11, TX11, 32)) rfl (c_M_word l hfl a2 M) (fun _ => rfl) (by decide) (by decide) (as := []) (st1 := []) rfl rfl (Nat.le_of_ble_eq_true rfl) (fun c410 M => ?_)
          refine v_istore (lz := fun z => [(6, xI z), (5, xI v5_407), (0, xA 1), (1, xA a1), (2, xA a2), (3, xA a3), (4, xI v4)]) d_L_law_413 (Nat.le_of_ble_eq_true rfl) (fun _ => rfl) (fun v6_413 => ?_)
          refine v_aloadn d_L_law_415 rfl 4 rfl ?_
          refine v_cVi d_L_law_416 ml_L_148 (q := (RX11, TX11, 32)) rfl (c_M_thrown l hfl a2 M) (fun _ => rfl) (by decide) (by decide) (as := []) (st1 := []) rfl rfl (Nat.le_of_ble_eq_true rfl) (fun c416 M => ?_)
          refine v_iload d_L_law_419 1 rfl ?_
          refine v_iceq d_L_law_421 ?_ ?_
          · refine v_iload d_L_law_426 1 rfl ?_
            refine v_join0 (pj := 443) (lj := [(0, xA 1), (1, xA a1), (2, xA a2), (3, xA a3), (4, xI v4)]) (sj := []) (fun M => ?_) (fun j443 hj443 => ?_)
            · refine v_goto d_L_law_443 ?_
              exact hj2799 M
            refine v_ifne d_L_law_428 ?_ ?_
            · refine v_sub (ls' := [(0, xA 1), (1, xA a1), (2, xA a2), (3, xA a3), (4, xI v4)]) [2, 3, 4, 5, 6] rfl ?_
              exact hj443 M
            · refine v_aloadn d_L_law_431 rfl 5 rfl ?_
              refine v_iconst d_L_law_432 (by decide) ?_
              refine v_lald d_L_law_433 (fun x433 => ?_)
              refine v_iload d_L_law_434 0 rfl ?_
              refine v_i2l d_L_law_436 ?_
              refine v_lcmp d_L_law_437 ?_
              refine v_ifeq d_L_law_438 ?_ ?_
              · refine v_sub (ls' := [(0, xA 1), (1, xA a1), (2, xA a2), (3, xA a3), (4, xI v4)]) [2, 3, 4, 5, 6] rfl ?_
                exact hj443 M
              · refine v_iconst d_L_law_441 (by decide) ?_
                exact v_zret d_L_law_442 rfl
          · refine v_iconst d_L_law_424 (by decide) ?_
            exact v_zret d_L_law_425 rfl
        | 4, _ =>
          show V_ l w q_L_law 62 ex_Z 446 [(0, xA 1), (1, xA a1), (2, xA a2), (3, xA a3), (4, xI v4)] [] M _
          refine v_aloadn d_L_law_446 rfl 1 rfl ?_
          refine v_cVi d_L_law_447 ml_L_154 (q := (RX10, TX10, 10)) rfl (c_X_fault l hfl a1 M) (fun _ => rfl) (by decide) (by decide) (as := []) (st1 := []) rfl rfl (Nat.le_of_ble_eq_true rfl) (fun c447 M => ?_)
          refine v_aloadn d_L_law_450 rfl 2 rfl ?_
          refine v_cVi d_L_law_451 ml_L_157 (q := (RX11, TX11, 32)) rfl (c_M_fault l hfl a2 M) (fun _ => rfl) (by decide) (by decide) (as := []) (st1 := [xI c447]) rfl rfl (Nat.le_of_ble_eq_true rfl) (fun c451 M => ?_)
          refine v_iceq d_L_law_454 ?_ ?_
          · exact hj2799 M
          · refine v_iconst d_L_law_457 (by decide) ?_
            exact v_zret d_L_law_458 rfl
        | 5, _ =>
          show V_ l w q_L_law 62 ex_Z 459 [(0, xA 1), (1, xA a1), (2, xA a2), (3, xA a3), (4, xI v4)] [] M _
          refine v_aloadn d_L_law_459 rfl 1 rfl ?_
          refine v_aloadn d_L_law_460 rfl 0 rfl ?_
          refine v_iload d_L_law_461 4 rfl ?_
          refine v_iconst d_L_law_463 (by decide) ?_
          refine v_iadd d_L_law_464 (fun x464 => ?_)
          refine v_sld d_L_law_465 (fun x465 => ?_) hL
          refine v_cVi d_L_law_466 ml_L_158 (q := (RX10, TX10, 10)) rfl (c_X_letter l hfl a1 x465 M) (fun _ => rfl) (by decide) (by decide) (as := [xI x465]) (st1 := []) rfl rfl (Nat.le_of_ble_eq_true rfl) (fun c466 M => ?_)
          refine v_aloadn d_L_law_469 rfl 2 rfl ?_
          refine v_aloadn d_L_law_470 rfl 0 rfl ?_
          refine v_iload d_L_law_471 4 rfl ?_
          refine v_iconst d_L_law_473 (by decide) ?_
          refine v_iadd d_L_law_474 (fun x474 => ?_)
          refine v_sld d_L_law_475 (fun x475 => ?_) hL
          refine v_cVi d_L_law_476 ml_L_161 (q := (RX11, TX11, 32)) rfl (c_M_letter l hfl a2 x475 M) (fun _ => rfl) (by decide) (by decide) (as := [xI x475]) (st1 := [xI c466]) rfl rfl (Nat.le_of_ble_eq_true rfl) (fun c476 M => ?_)
          refine v_iceq d_L_law_479 ?_ ?_
          · exact hj2799 M
          · refine v_iconst d_L_law_482 (by decide) ?_
            exact v_zret d_L_law_483 rfl
        | 6, _ =>
          show V_ l w q_L_law 62 ex_Z 484 [(0, xA 1), (1, xA a1), (2, xA a2), (3, xA a3), (4, xI v4)] [] M _
          refine v_aloadn d_L_law_484 rfl 1 rfl ?_
          refine v_aloadn d_L_law_485 rfl 0 rfl ?_
          refine v_iload d_L_law_486 4 rfl ?_
          refine v_iconst d_L_law_488 (by decide) ?_
          refine v_iadd d_L_law_489 (fun x489 => ?_)
          refine v_sld d_L_law_490 (fun x490 => ?_) hL
          refine v_aloadn d_L_law_491 rfl 3 rfl ?_
          refine v_cSWi d_L_law_492 ml_L_162 (c_L_push l hfl a1 x490 a3 M) (fun _ => rfl) (by decide) (by decide) (as := [xA a1, xI x490, xA a3]) (st1 := []) rfl rfl (Nat.le_of_ble_eq_true rfl) (fun c492 M => ?_)
          refine v_istore (lz := fun z => [(5, xI z), (0, xA 1), (1, xA a1), (2, xA a2), (3, xA a3), (4, xI v4)]) d_L_law_495 (Nat.le_of_ble_eq_true rfl) (fun _ => rfl) (fun v5_495 => ?_)
          refine v_aloadn d_L_law_497 rfl 3 rfl ?_
          refine v_aloadn d_L_law_498 rfl 1 rfl ?_
          refine v_iload d_L_law_499 5 rfl ?_
          refine v_iconst d_L_law_501 (by decide) ?_
          refine v_iadd d_L_law_502 (fun x502 => ?_)
          refine v_sld d_L_law_503 (fun x503 => ?_) hL
          refine v_cVi d_L_law_504 ml_L_165 (q := (RX11, TX11, 32)) rfl (c_M_push l hfl a2 x503 M) (fun _ => rfl) (by decide) (by decide) (as := [xI x503]) (st1 := []) rfl rfl (Nat.le_of_ble_eq_true rfl) (fun c504 M => ?_)
          refine v_istore (lz := fun z => [(6, xI z), (5, xI v5_495), (0, xA 1), (1, xA a1), (2, xA a2), (3, xA a3), (4, xI v4)]) d_L_law_507 (Nat.le_of_ble_eq_true rfl) (fun _ => rfl) (fun v6_507 => ?_)
          refine v_aloadn d_L_law_509 rfl 4 rfl ?_
          refine v_cVi d_L_law_510 ml_L_148 (q := (RX11, TX11, 32)) rfl (c_M_thrown l hfl a2 M) (fun _ => rfl) (by decide) (by decide) (as := []) (st1 := []) rfl rfl (Nat.le_of_ble_eq_true rfl) (fun c510 M => ?_)
          refine v_iload d_L_law_513 1 rfl ?_
          refine v_iceq d_L_law_515 ?_ ?_
          · refine v_iload d_L_law_520 1 rfl ?_
            refine v_join0 (pj := 537) (lj := [(0, xA 1), (1, xA a1), (2, xA a2), (3, xA a3), (4, xI v4)]) (sj := []) (fun M => ?_) (fun j537 hj537 => ?_)
            · refine v_goto d_L_law_537 ?_
              exact hj2799 M
            refine v_ifne d_L_law_522 ?_ ?_
            · refine v_sub (ls' := [(0, xA 1), (1, xA a1), (2, xA a2), (3, xA a3), (4, xI v4)]) [2, 3, 4, 5, 6] rfl ?_
              exact hj537 M
            · refine v_aloadn d_L_law_525 rfl 5 rfl ?_
              refine v_iconst d_L_law_526 (by decide) ?_
              refine v_lald d_L_law_527 (fun x527 => ?_)
              refine v_iload d_L_law_528 0 rfl ?_
              refine v_i2l d_L_law_530 ?_
              refine v_lcmp d_L_law_531 ?_
              refine v_ifeq d_L_law_532 ?_ ?_
              · refine v_sub (ls' := [(0, xA 1), (1, xA a1), (2, xA a2), (3, xA a3), (4, xI v4)]) [2, 3, 4, 5, 6] rfl ?_
                exact hj537 M
              · refine v_iconst d_L_law_535 (by decide) ?_
                exact v_zret d_L_law_536 rfl
          · refine v_iconst d_L_law_518 (by decide) ?_
            exact v_zret d_L_law_519 rfl
        | 7, _ =>
          show V_ l w q_L_law 62 ex_Z 540 [(0, xA 1), (1, xA a1), (2, xA a2), (3, xA a3), (4, xI v4)] [] M _
          refine v_aloadn d_L_law_540 rfl 1 rfl ?_
          refine v_aloadn d_L_law_541 rfl 3 rfl ?_
          refine v_cSWi d_L_law_542 ml_L_166 (c_L_pop l hfl a1 a3 M) (fun _ => rfl) (by decide) (by decide) (as := [xA a1, xA a3]) (st1 := []) rfl rfl (Nat.le_of_ble_eq_true rfl) (fun c542 M => ?_)
          refine v_istore (lz := fun z => [(5, xI z), (0, xA 1), (1, xA a1), (2, xA a2), (3, xA a3), (4, xI v4)]) d_L_law_545 (Nat.le_of_ble_eq_true rfl) (fun _ => rfl) (fun v5_545 => ?_)
          refine v_aloadn d_L_law_547 rfl 3 rfl ?_
          refine v_cVi d_L_law_548 ml_L_168 (q := (RX11, TX11, 32)) rfl (c_M_pop l hfl a2 M) (fun _ => rfl) (by decide) (by decide) (as := []) (st1 := []) rfl rfl (Nat.le_of_ble_eq_true rfl) (fun c548 M => ?_)
          refine v_istore (lz := fun z => [(6, xI z), (5, xI v5_545), (0, xA 1), (1, xA a1), (2, xA a2), (3, xA a3), (4, xI v4)]) d_L_law_551 (Nat.le_of_ble_eq_true rfl) (fun _ => rfl) (fun v6_551 => ?_)
          refine v_aloadn d_L_law_553 rfl 4 rfl ?_
          refine v_cVi d_L_law_554 ml_L_148 (q := (RX11, TX11, 32)) rfl (c_M_thrown l hfl a2 M) (fun _ => rfl) (by decide) (by decide) (as := []) (st1 := []) rfl rfl (Nat.le_of_ble_eq_true rfl) (fun c554 M => ?_)
          refine v_iload d_L_law_557 1 rfl ?_
          refine v_iceq d_L_law_559 ?_ ?_
          · refine v_iload d_L_law_564 1 rfl ?_
            refine v_join0 (pj := 581) (lj := [(0, xA 1), (1, xA a1), (2, xA a2), (3, xA a3), (4, xI v4)]) (sj := []) (fun M => ?_) (fun j581 hj581 => ?_)
            · refine v_goto d_L_law_581 ?_
              exact hj2799 M
            refine v_ifne d_L_law_566 ?_ ?_
            · refine v_sub (ls' := [(0, xA 1), (1, xA a1), (2, xA a2), (3, xA a3), (4, xI v4)]) [2, 3, 4, 5, 6] rfl ?_
              exact hj581 M
            · refine v_aloadn d_L_law_569 rfl 5 rfl ?_
              refine v_iconst d_L_law_570 (by decide) ?_
              refine v_lald d_L_law_571 (fun x571 => ?_)
              refine v_iload d_L_law_572 0 rfl ?_
              refine v_i2l d_L_law_574 ?_
              refine v_lcmp d_L_law_575 ?_
              refine v_ifeq d_L_law_576 ?_ ?_
              · refine v_sub (ls' := [(0, xA 1), (1, xA a1), (2, xA a2), (3, xA a3), (4, xI v4)]) [2, 3, 4, 5, 6] rfl ?_
                exact hj581 M
              · refine v_iconst d_L_law_579 (by decide) ?_
                exact v_zret d_L_law_580 rfl
          · refine v_iconst d_L_law_562 (by decide) ?_
            exact v_zret d_L_law_563 rfl
        | 8, _ =>
          show V_ l w q_L_law 62 ex_Z 584 [(0, xA 1), (1, xA a1), (2, xA a2), (3, xA a3), (4, xI v4)] [] M _
          refine v_aloadn d_L_law_584 rfl 1 rfl ?_
          refine v_cVi d_L_law_585 ml_L_169 (q := (RX10, TX10, 10)) rfl (c_X_undo l hfl a1 M) (fun _ => rfl) (by decide) (by decide) (as := []) (st1 := []) rfl rfl (Nat.le_of_ble_eq_true rfl) (fun c585 M => ?_)
          refine v_aloadn d_L_law_588 rfl 2 rfl ?_
          refine v_cVi d_L_law_589 ml_L_172 (q := (RX11, TX11, 32)) rfl (c_M_undo l hfl a2 M) (fun _ => rfl) (by decide) (by decide) (as := []) (st1 := [xI c585]) rfl rfl (Nat.le_of_ble_eq_true rfl) (fun c589 M => ?_)
          refine v_iceq d_L_law_592 ?_ ?_
          · exact hj2799 M
          · refine v_iconst d_L_law_595 (by decide) ?_
            exact v_zret d_L_law_596 rfl
        | 9, _ =>
          show V_ l w q_L_law 62 ex_Z 597 [(0, xA 1), (1, xA a1), (2, xA a2), (3, xA a3), (4, xI v4)] [] M _
          refine v_aloadn d_L_law_597 rfl 1 rfl ?_
          refine v_cVi d_L_law_598 ml_L_173 (q := (RX10, TX10, 10)) rfl (c_X_free l hfl a1 M) (fun _ => rfl) (by decide) (by decide) (as := []) (st1 := []) rfl rfl (Nat.le_of_ble_eq_true rfl) (fun c598 M => ?_)
          refine v_aloadn d_L_law_601 rfl 2 rfl ?_
          refine v_cVi d_L_law_602 ml_L_177 (q := (RX11, TX11, 32)) rfl (c_M_free l hfl a2 M) (fun _ => rfl) (by decide) (by decide) (as := []) (st1 := [xI c598]) rfl rfl (Nat.le_of_ble_eq_true rfl) (fun c602 M => ?_)
          refine v_iceq d_L_law_605 ?_ ?_
          · exact hj2799 M
          · refine v_iconst d_L_law_608 (by decide) ?_
            exact v_zret d_L_law_609 rfl
        | 10, _ =>
          show V_ l w q_L_law 62 ex_Z 610 [(0, xA 1), (1, xA a1), (2, xA a2), (3, xA a3), (4, xI v4)] [] M _
          refine v_aloadn d_L_law_610 rfl 1 rfl ?_
          refine v_cVi d_L_law_611 ml_L_178 (q := (RX10, TX10, 10)) rfl (c_X_ends l hfl a1 M) (fun _ => rfl) (by decide) (by decide) (as := []) (st1 := []) rfl rfl (Nat.le_of_ble_eq_true rfl) (fun c611 M => ?_)
          refine v_aloadn d_L_law_614 rfl 2 rfl ?_
          refine v_cVi d_L_law_615 ml_L_181 (q := (RX11, TX11, 32)) rfl (c_M_ends l hfl a2 M) (fun _ => rfl) (by decide) (by decide) (as := []) (st1 := [xI c611]) rfl rfl (Nat.le_of_ble_eq_true rfl) (fun c615 M => ?_)
          refine v_iceq d_L_law_618 ?_ ?_
          · exact hj2799 M
          · refine v_iconst d_L_law_621 (by decide) ?_
            exact v_zret d_L_law_622 rfl
        | 11, _ =>
          show V_ l w q_L_law 62 ex_Z 623 [(0, xA 1), (1, xA a1), (2, xA a2), (3, xA a3), (4, xI v4)] [] M _
          refine v_aloadn d_L_law_623 rfl 1 rfl ?_
          refine v_aloadn d_L_law_624 rfl 0 rfl ?_
          refine v_iload d_L_law_625 4 rfl ?_
          refine v_iconst d_L_law_627 (by decide) ?_
          refine v_iadd d_L_law_628 (fun x628 => ?_)
          refine v_sld d_L_law_629 (fun x629 => ?_) hL
          refine v_aloadn d_L_law_630 rfl 3 rfl ?_
          refine v_cSWi d_L_law_631 ml_L_182 (c_L_greatest l hfl a1 x629 a3 M) (fun _ => rfl) (by decide) (by decide) (as := [xA a1, xI x629, xA a3]) (st1 := []) rfl rfl (Nat.le_of_ble_eq_true rfl) (fun c631 M => ?_)
          refine v_istore (lz := fun z => [(5, xI z), (0, xA 1), (1, xA a1), (2, xA a2), (3, xA a3), (4, xI v4)]) d_L_law_634 (Nat.le_of_ble_eq_true rfl) (fun _ => rfl) (fun v5_634 => ?_)
          refine v_aloadn d_L_law_636 rfl 3 rfl ?_
          refine v_aloadn d_L_law_637 rfl 1 rfl ?_
          refine v_iload d_L_law_638 5 rfl ?_
          refine v_iconst d_L_law_640 (by decide) ?_
          refine v_iadd d_L_law_641 (fun x641 => ?_)
          refine v_sld d_L_law_642 (fun x642 => ?_) hL
          refine v_cVi d_L_law_643 ml_L_184 (q := (RX11, TX11, 32)) rfl (c_M_greatest l hfl a2 x642 M) (fun _ => rfl) (by decide) (by decide) (as := [xI x642]) (st1 := []) rfl rfl (Nat.le_of_ble_eq_true rfl) (fun c643 M => ?_)
          refine v_istore (lz := fun z => [(6, xI z), (5, xI v5_634), (0, xA 1), (1, xA a1), (2, xA a2), (3, xA a3), (4, xI v4)]) d_L_law_646 (Nat.le_of_ble_eq_true rfl) (fun _ => rfl) (fun v6_646 => ?_)
          refine v_aloadn d_L_law_648 rfl 4 rfl ?_
          refine v_cVi d_L_law_649 ml_L_148 (q := (RX11, TX11, 32)) rfl (c_M_thrown l hfl a2 M) (fun _ => rfl) (by decide) (by decide) (as := []) (st1 := []) rfl rfl (Nat.le_of_ble_eq_true rfl) (fun c649 M => ?_)
          refine v_iload d_L_law_652 1 rfl ?_
          refine v_iceq d_L_law_654 ?_ ?_
          · refine v_iload d_L_law_659 1 rfl ?_
            refine v_join0 (pj := 676) (lj := [(0, xA 1), (1, xA a1), (2, xA a2), (3, xA a3), (4, xI v4)]) (sj := []) (fun M => ?_) (fun j676 hj676 => ?_)
            · refine v_goto d_L_law_676 ?_
              exact hj2799 M
            refine v_ifne d_L_law_661 ?_ ?_
            · refine v_sub (ls' := [(0, xA 1), (1, xA a1), (2, xA a2), (3, xA a3), (4, xI v4)]) [2, 3, 4, 5, 6] rfl ?_
              exact hj676 M
            · refine v_aloadn d_L_law_664 rfl 5 rfl ?_
              refine v_iconst d_L_law_665 (by decide) ?_
              refine v_lald d_L_law_666 (fun x666 => ?_)
              refine v_iload d_L_law_667 0 rfl ?_
              refine v_i2l d_L_law_669 ?_
              refine v_lcmp d_L_law_670 ?_
              refine v_ifeq d_L_law_671 ?_ ?_
              · refine v_sub (ls' := [(0, xA 1), (1, xA a1), (2, xA a2), (3, xA a3), (4, xI v4)]) [2, 3, 4, 5, 6] rfl ?_
                exact hj676 M
              · refine v_iconst d_L_law_674 (by decide) ?_
                exact v_zret d_L_law_675 rfl
          · refine v_iconst d_L_law_657 (by decide) ?_
            exact v_zret d_L_law_658 rfl
        | 12, _ =>
          show V_ l w q_L_law 62 ex_Z 679 [(0, xA 1), (1, xA a1), (2, xA a2), (3, xA a3), (4, xI v4)] [] M _
          refine v_aloadn d_L_law_679 rfl 1 rfl ?_
          refine v_cVi d_L_law_680 ml_L_185 (q := (RX10, TX10, 10)) rfl (c_X_period l hfl a1 M) (fun _ => rfl) (by decide) (by decide) (as := []) (st1 := []) rfl rfl (Nat.le_of_ble_eq_true rfl) (fun c680 M => ?_)
          refine v_aloadn d_L_law_683 rfl 2 rfl ?_
          refine v_cVi d_L_law_684 ml_L_188 (q := (RX11, TX11, 32)) rfl (c_M_period l hfl a2 M) (fun _ => rfl) (by decide) (by decide) (as := []) (st1 := [xI c680]) rfl rfl (Nat.le_of_ble_eq_true rfl) (fun c684 M => ?_)
          refine v_iceq d_L_law_687 ?_ ?_
          · exact hj2799 M
          · refine v_iconst d_L_law_690 (by decide) ?_
            exact v_zret d_L_law_691 rfl
        | 13, _ =>
          show V_ l w q_L_law 62 ex_Z 692 [(0, xA 1), (1, xA a1), (2, xA a2), (3, xA a3), (4, xI v4)] [] M _
          refine v_aloadn d_L_law_692 rfl 1 rfl ?_
          refine v_aloadn d_L_law_693 rfl 0 rfl ?_
          refine v_iload d_L_law_694 4 rfl ?_
          refine v_iconst d_L_law_696 (by decide) ?_
          refine v_iadd d_L_law_697 (fun x697 => ?_)
          refine v_sld d_L_law_698 (fun x698 => ?_) hL
          refine v_cVi d_L_law_699 ml_L_189 (q := (RX10, TX10, 10)) rfl (c_X_border l hfl a1 x698 M) (fun _ => rfl) (by decide) (by decide) (as := [xI x698]) (st1 := []) rfl rfl (Nat.le_of_ble_eq_true rfl) (fun c699 M => ?_)
          refine v_aloadn d_L_law_702 rfl 2 rfl ?_
          refine v_aloadn d_L_law_703 rfl 0 rfl ?_
          refine v_iload d_L_law_704 4 rfl ?_
          refine v_iconst d_L_law_706 (by decide) ?_
          refine v_iadd d_L_law_707 (fun x707 => ?_)
          refine v_sld d_L_law_708 (fun x708 => ?_) hL
          refine v_cVi d_L_law_709 ml_L_192 (q := (RX11, TX11, 32)) rfl (c_M_border l hfl a2 x708 M) (fun _ => rfl) (by decide) (by decide) (as := [xI x708]) (st1 := [xI c699]) rfl rfl (Nat.le_of_ble_eq_true rfl) (fun c709 M => ?_)
          refine v_iceq d_L_law_712 ?_ ?_
          · exact hj2799 M
          · refine v_iconst d_L_law_715 (by decide) ?_
            exact v_zret d_L_law_716 rfl
        | 14, _ =>
          show V_ l w q_L_law 62 ex_Z 717 [(0, xA 1), (1, xA a1), (2, xA a2), (3, xA a3), (4, xI v4)] [] M _
          refine v_aloadn d_L_law_717 rfl 1 rfl ?_
          refine v_aloadn d_L_law_718 rfl 0 rfl ?_
          refine v_iload d_L_law_719 4 rfl ?_
          refine v_iconst d_L_law_721 (by decide) ?_
          refine v_iadd d_L_law_722 (fun x722 => ?_)
          refine v_sld d_L_law_723 (fun x723 => ?_) hL
          refine v_aloadn d_L_law_724 rfl 0 rfl ?_
          refine v_iload d_L_law_725 4 rfl ?_
          refine v_iconst d_L_law_727 (by decide) ?_
          refine v_iadd d_L_law_728 (fun x728 => ?_)
          refine v_sld d_L_law_729 (fun x729 => ?_) hL
          refine v_aloadn d_L_law_730 rfl 3 rfl ?_
          refine v_cSWi d_L_law_731 ml_L_193 (c_L_run l hfl a1 x723 x729 a3 M) (fun _ => rfl) (by decide) (by decide) (as := [xA a1, xI x723, xI x729, xA a3]) (st1 := []) rfl rfl (Nat.le_of_ble_eq_true rfl) (fun c731 M => ?_)
          refine v_istore (lz := fun z => [(5, xI z), (0, xA 1), (1, xA a1), (2, xA a2), (3, xA a3), (4, xI v4)]) d_L_law_734 (Nat.le_of_ble_eq_true rfl) (fun _ => rfl) (fun v5_734 => ?_)
          refine v_aloadn d_L_law_736 rfl 3 rfl ?_
          refine v_aloadn d_L_law_737 rfl 1 rfl ?_
          refine v_iload d_L_law_738 5 rfl ?_
          refine v_iconst d_L_law_740 (by decide) ?_
          refine v_iadd d_L_law_741 (fun x741 => ?_)
          refine v_sld d_L_law_742 (fun x742 => ?_) hL
          refine v_aloadn d_L_law_743 rfl 1 rfl ?_
          refine v_iload d_L_law_744 5 rfl ?_
          refine v_iconst d_L_law_746 (by decide) ?_
          refine v_iadd d_L_law_747 (fun x747 => ?_)
          refine v_sld d_L_law_748 (fun x748 => ?_) hL
          refine v_cVi d_L_law_749 ml_L_196 (q := (RX11, TX11, 32)) rfl (c_M_run l hfl a2 x742 x748 M) (fun _ => rfl) (by decide) (by decide) (as := [xI x742, xI x748]) (st1 := []) rfl rfl (Nat.le_of_ble_eq_true rfl) (fun c749 M => ?_)
          refine v_istore (lz := fun z => [(6, xI z), (5, xI v5_734), (0, xA 1), (1, xA a1), (2, xA a2), (3, xA a3), (4, xI v4)]) d_L_law_752 (Nat.le_of_ble_eq_true rfl) (fun _ => rfl) (fun v6_752 => ?_)
          refine v_aloadn d_L_law_754 rfl 4 rfl ?_
          refine v_cVi d_L_law_755 ml_L_148 (q := (RX11, TX11, 32)) rfl (c_M_thrown l hfl a2 M) (fun _ => rfl) (by decide) (by decide) (as := []) (st1 := []) rfl rfl (Nat.le_of_ble_eq_true rfl) (fun c755 M => ?_)
          refine v_iload d_L_law_758 1 rfl ?_
          refine v_iceq d_L_law_760 ?_ ?_
          · refine v_iload d_L_law_765 1 rfl ?_
            refine v_join0 (pj := 782) (lj := [(0, xA 1), (1, xA a1), (2, xA a2), (3, xA a3), (4, xI v4)]) (sj := []) (fun M => ?_) (fun j782 hj782 => ?_)
            · refine v_goto d_L_law_782 ?_
              exact hj2799 M
            refine v_ifne d_L_law_767 ?_ ?_
            · refine v_sub (ls' := [(0, xA 1), (1, xA a1), (2, xA a2), (3, xA a3), (4, xI v4)]) [2, 3, 4, 5, 6] rfl ?_
              exact hj782 M
            · refine v_aloadn d_L_law_770 rfl 5 rfl ?_
              refine v_iconst d_L_law_771 (by decide) ?_
              refine v_lald d_L_law_772 (fun x772 => ?_)
              refine v_iload d_L_law_773 0 rfl ?_
              refine v_i2l d_L_law_775 ?_
              refine v_lcmp d_L_law_776 ?_
              refine v_ifeq d_L_law_777 ?_ ?_
              · refine v_sub (ls' := [(0, xA 1), (1, xA a1), (2, xA a2), (3, xA a3), (4, xI v4)]) [2, 3, 4, 5, 6] rfl ?_
                exact hj782 M
              · refine v_iconst d_L_law_780 (by decide) ?_
                exact v_zret d_L_law_781 rfl
          · refine v_iconst d_L_law_763 (by decide) ?_
            exact v_zret d_L_law_764 rfl
        | 15, _ =>
          show V_ l w q_L_law 62 ex_Z 785 [(0, xA 1), (1, xA a1), (2, xA a2), (3, xA a3), (4, xI v4)] [] M _
          refine v_aloadn d_L_law_785 rfl 1 rfl ?_
          refine v_aloadn d_L_law_786 rfl 0 rfl ?_
          refine v_iload d_L_law_787 4 rfl ?_
          refine v_iconst d_L_law_789 (by decide) ?_
          refine v_iadd d_L_law_790 (fun x790 => ?_)
          refine v_sld d_L_law_791 (fun x791 => ?_) hL
          refine v_aloadn d_L_law_792 rfl 3 rfl ?_
          refine v_cSWi d_L_law_793 ml_L_197 (c_L_factors l hfl a1 x791 a3 M) (fun _ => rfl) (by decide) (by decide) (as := [xA a1, xI x791, xA a3]) (st1 := []) rfl rfl (Nat.le_of_ble_eq_true rfl) (fun c793 M => ?_)
          refine v_istore (lz := fun z => [(5, xI z), (0, xA 1), (1, xA a1), (2, xA a2), (3, xA a3), (4, xI v4)]) d_L_law_796 (Nat.le_of_ble_eq_true rfl) (fun _ => rfl) (fun v5_796 => ?_)
          refine v_aloadn d_L_law_798 rfl 3 rfl ?_
          refine v_aloadn d_L_law_799 rfl 1 rfl ?_
          refine v_iload d_L_law_800 5 rfl ?_
          refine v_iconst d_L_law_802 (by decide) ?_
          refine v_iadd d_L_law_803 (fun x803 => ?_)
          refine v_sld d_L_law_804 (fun x804 => ?_) hL
          refine v_cVi d_L_law_805 ml_L_199 (q := (RX11, TX11, 32)) rfl (c_M_factors l hfl a2 x804 M) (fun _ => rfl) (by decide) (by decide) (as := [xI x804]) (st1 := []) rfl rfl (Nat.le_of_ble_eq_true rfl) (fun c805 M => ?_)
          refine v_istore (lz := fun z => [(6, xI z), (5, xI v5_796), (0, xA 1), (1, xA a1), (2, xA a2), (3, xA a3), (4, xI v4)]) d_L_law_808 (Nat.le_of_ble_eq_true rfl) (fun _ => rfl) (fun v6_808 => ?_)
          refine v_aloadn d_L_law_810 rfl 4 rfl ?_
          refine v_cVi d_L_law_811 ml_L_148 (q := (RX11, TX11, 32)) rfl (c_M_thrown l hfl a2 M) (fun _ => rfl) (by decide) (by decide) (as := []) (st1 := []) rfl rfl (Nat.le_of_ble_eq_true rfl) (fun c811 M => ?_)
          refine v_iload d_L_law_814 1 rfl ?_
          refine v_iceq d_L_law_816 ?_ ?_
          · refine v_iload d_L_law_821 1 rfl ?_
            refine v_join0 (pj := 838) (lj := [(0, xA 1), (1, xA a1), (2, xA a2), (3, xA a3), (4, xI v4)]) (sj := []) (fun M => ?_) (fun j838 hj838 => ?_)
            · refine v_goto d_L_law_838 ?_
              exact hj2799 M
            refine v_ifne d_L_law_823 ?_ ?_
            · refine v_sub (ls' := [(0, xA 1), (1, xA a1), (2, xA a2), (3, xA a3), (4, xI v4)]) [2, 3, 4, 5, 6] rfl ?_
              exact hj838 M
            · refine v_aloadn d_L_law_826 rfl 5 rfl ?_
              refine v_iconst d_L_law_827 (by decide) ?_
              refine v_lald d_L_law_828 (fun x828 => ?_)
              refine v_iload d_L_law_829 0 rfl ?_
              refine v_i2l d_L_law_831 ?_
              refine v_lcmp d_L_law_832 ?_
              refine v_ifeq d_L_law_833 ?_ ?_
              · refine v_sub (ls' := [(0, xA 1), (1, xA a1), (2, xA a2), (3, xA a3), (4, xI v4)]) [2, 3, 4, 5, 6] rfl ?_
                exact hj838 M
              · refine v_iconst d_L_law_836 (by decide) ?_
                exact v_zret d_L_law_837 rfl
          · refine v_iconst d_L_law_819 (by decide) ?_
            exact v_zret d_L_law_820 rfl
        | 16, _ =>
          show V_ l w q_L_law 62 ex_Z 841 [(0, xA 1), (1, xA a1), (2, xA a2), (3, xA a3), (4, xI v4)] [] M _
          refine v_aloadn d_L_law_841 rfl 1 rfl ?_
          refine v_cVi d_L_law_842 ml_L_200 (q := (RX10, TX10, 10)) rfl (c_X_mirror l hfl a1 M) (fun _ => rfl) (by decide) (by decide) (as := []) (st1 := []) rfl rfl (Nat.le_of_ble_eq_true rfl) (fun c842 M => ?_)
          refine v_aloadn d_L_law_845 rfl 2 rfl ?_
          refine v_cVi d_L_law_846 ml_L_203 (q := (RX11, TX11, 32)) rfl (c_M_mirror l hfl a2 M) (fun _ => rfl) (by decide) (by decide) (as := []) (st1 := [xI c842]) rfl rfl (Nat.le_of_ble_eq_true rfl) (fun c846 M => ?_)
          refine v_iceq d_L_law_849 ?_ ?_
          · exact hj2799 M
          · refine v_iconst d_L_law_852 (by decide) ?_
            exact v_zret d_L_law_853 rfl
        | 17, _ =>
          show V_ l w q_L_law 62 ex_Z 854 [(0, xA 1), (1, xA a1), (2, xA a2), (3, xA a3), (4, xI v4)] [] M _
          refine v_aloadn d_L_law_854 rfl 1 rfl ?_
          refine v_aloadn d_L_law_855 rfl 0 rfl ?_
          refine v_iload d_L_law_856 4 rfl ?_
          refine v_iconst d_L_law_858 (by decide) ?_
          refine v_iadd d_L_law_859 (fun x859 => ?_)
          refine v_sld d_L_law_860 (fun x860 => ?_) hL
          refine v_aloadn d_L_law_861 rfl 0 rfl ?_
          refine v_iload d_L_law_862 4 rfl ?_
          refine v_iconst d_L_law_864 (by decide) ?_
          refine v_iadd d_L_law_865 (fun x865 => ?_)
          refine v_sld d_L_law_866 (fun x866 => ?_) hL
          refine v_aloadn d_L_law_867 rfl 3 rfl ?_
          refine v_cSWi d_L_law_868 ml_L_204 (c_L_met l hfl a1 x860 x866 a3 M) (fun _ => rfl) (by decide) (by decide) (as := [xA a1, xI x860, xI x866, xA a3]) (st1 := []) rfl rfl (Nat.le_of_ble_eq_true rfl) (fun c868 M => ?_)
          refine v_istore (lz := fun z => [(5, xI z), (0, xA 1), (1, xA a1), (2, xA a2), (3, xA a3), (4, xI v4)]) d_L_law_871 (Nat.le_of_ble_eq_true rfl) (fun _ => rfl) (fun v5_871 => ?_)
          refine v_aloadn d_L_law_873 rfl 3 rfl ?_
          refine v_aloadn d_L_law_874 rfl 1 rfl ?_
          refine v_iload d_L_law_875 5 rfl ?_
          refine v_iconst d_L_law_877 (by decide) ?_
          refine v_iadd d_L_law_878 (fun x878 => ?_)
          refine v_sld d_L_law_879 (fun x879 => ?_) hL
          refine v_aloadn d_L_law_880 rfl 1 rfl ?_
          refine v_iload d_L_law_881 5 rfl ?_
          refine v_iconst d_L_law_883 (by decide) ?_
          refine v_iadd d_L_law_884 (fun x884 => ?_)
          refine v_sld d_L_law_885 (fun x885 => ?_) hL
          refine v_cVi d_L_law_886 ml_L_206 (q := (RX11, TX11, 32)) rfl (c_M_met l hfl a2 x879 x885 M) (fun _ => rfl) (by decide) (by decide) (as := [xI x879, xI x885]) (st1 := []) rfl rfl (Nat.le_of_ble_eq_true rfl) (fun c886 M => ?_)
          refine v_istore (lz := fun z => [(6, xI z), (5, xI v5_871), (0, xA 1), (1, xA a1), (2, xA a2), (3, xA a3), (4, xI v4)]) d_L_law_889 (Nat.le_of_ble_eq_true rfl) (fun _ => rfl) (fun v6_889 => ?_)
          refine v_aloadn d_L_law_891 rfl 4 rfl ?_
          refine v_cVi d_L_law_892 ml_L_148 (q := (RX11, TX11, 32)) rfl (c_M_thrown l hfl a2 M) (fun _ => rfl) (by decide) (by decide) (as := []) (st1 := []) rfl rfl (Nat.le_of_ble_eq_true rfl) (fun c892 M => ?_)
          refine v_iload d_L_law_895 1 rfl ?_
          refine v_iceq d_L_law_897 ?_ ?_
          · refine v_iload d_L_law_902 1 rfl ?_
            refine v_join0 (pj := 919) (lj := [(0, xA 1), (1, xA a1), (2, xA a2), (3, xA a3), (4, xI v4)]) (sj := []) (fun M => ?_) (fun j919 hj919 => ?_)
            · refine v_goto d_L_law_919 ?_
              exact hj2799 M
            refine v_ifne d_L_law_904 ?_ ?_
            · refine v_sub (ls' := [(0, xA 1), (1, xA a1), (2, xA a2), (3, xA a3), (4, xI v4)]) [2, 3, 4, 5, 6] rfl ?_
              exact hj919 M
            · refine v_aloadn d_L_law_907 rfl 5 rfl ?_
              refine v_iconst d_L_law_908 (by decide) ?_
              refine v_lald d_L_law_909 (fun x909 => ?_)
              refine v_iload d_L_law_910 0 rfl ?_
              refine v_i2l d_L_law_912 ?_
              refine v_lcmp d_L_law_913 ?_
              refine v_ifeq d_L_law_914 ?_ ?_
              · refine v_sub (ls' := [(0, xA 1), (1, xA a1), (2, xA a2), (3, xA a3), (4, xI v4)]) [2, 3, 4, 5, 6] rfl ?_
                exact hj919 M
              · refine v_iconst d_L_law_917 (by decide) ?_
                exact v_zret d_L_law_918 rfl
          · refine v_iconst d_L_law_900 (by decide) ?_
            exact v_zret d_L_law_901 rfl
        | 18, _ =>
          show V_ l w q_L_law 62 ex_Z 922 [(0, xA 1), (1, xA a1), (2, xA a2), (3, xA a3), (4, xI v4)] [] M _
          refine v_aloadn d_L_law_922 rfl 1 rfl ?_
          refine v_cVi d_L_law_923 ml_L_207 (q := (RX10, TX10, 10)) rfl (c_X_goes l hfl a1 M) (fun _ => rfl) (by decide) (by decide) (as := []) (st1 := []) rfl rfl (Nat.le_of_ble_eq_true rfl) (fun c923 M => ?_)
          refine v_aloadn d_L_law_926 rfl 2 rfl ?_
          refine v_cVi d_L_law_927 ml_L_210 (q := (RX11, TX11, 32)) rfl (c_M_goes l hfl a2 M) (fun _ => rfl) (by decide) (by decide) (as := []) (st1 := [xI c923]) rfl rfl (Nat.le_of_ble_eq_true rfl) (fun c927 M => ?_)
          refine v_iceq d_L_law_930 ?_ ?_
          · exact hj2799 M
          · refine v_iconst d_L_law_933 (by decide) ?_
            exact v_zret d_L_law_934 rfl
        | 19, _ =>
          show V_ l w q_L_law 62 ex_Z 935 [(0, xA 1), (1, xA a1), (2, xA a2), (3, xA a3), (4, xI v4)] [] M _
          refine v_aloadn d_L_law_935 rfl 1 rfl ?_
          refine v_cVi d_L_law_936 ml_L_211 (q := (RX10, TX10, 10)) rfl (c_X_further l hfl a1 M) (fun _ => rfl) (by decide) (by decide) (as := []) (st1 := []) rfl rfl (Nat.le_of_ble_eq_true rfl) (fun c936 M => ?_)
          refine v_aloadn d_L_law_939 rfl 2 rfl ?_
          refine v_cVi d_L_law_940 ml_L_214 (q := (RX11, TX11, 32)) rfl (c_M_further l hfl a2 M) (fun _ => rfl) (by decide) (by decide) (as := []) (st1 := [xI c936]) rfl rfl (Nat.le_of_ble_eq_true rfl) (fun c940 M => ?_)
          refine v_iceq d_L_law_943 ?_ ?_
          · exact hj2799 M
          · refine v_iconst d_L_law_946 (by decide) ?_
            exact v_zret d_L_law_947 rfl
        | 20, _ =>
          show V_ l w q_L_law 62 ex_Z 948 [(0, xA 1), (1, xA a1), (2, xA a2), (3, xA a3), (4, xI v4)] [] M _
          refine v_aloadn d_L_law_948 rfl 1 rfl ?_
          refine v_aloadn d_L_law_949 rfl 0 rfl ?_
          refine v_iload d_L_law_950 4 rfl ?_
          refine v_iconst d_L_law_952 (by decide) ?_
          refine v_iadd d_L_law_953 (fun x953 => ?_)
          refine v_sld d_L_law_954 (fun x954 => ?_) hL
          refine v_aloadn d_L_law_955 rfl 3 rfl ?_
          refine v_cSWi d_L_law_956 ml_L_215 (c_L_first l hfl a1 x954 a3 M) (fun _ => rfl) (by decide) (by decide) (as := [xA a1, xI x954, xA a3]) (st1 := []) rfl rfl (Nat.le_of_ble_eq_true rfl) (fun c956 M => ?_)
          refine v_istore (lz := fun z => [(5, xI z), (0, xA 1), (1, xA a1), (2, xA a2), (3, xA a3), (4, xI v4)]) d_L_law_959 (Nat.le_of_ble_eq_true rfl) (fun _ => rfl) (fun v5_959 => ?_)
          refine v_aloadn d_L_law_961 rfl 3 rfl ?_
          refine v_aloadn d_L_law_962 rfl 1 rfl ?_
          refine v_iload d_L_law_963 5 rfl ?_
          refine v_iconst d_L_law_965 (by decide) ?_
          refine v_iadd d_L_law_966 (fun x966 => ?_)
          refine v_sld d_L_law_967 (fun x967 => ?_) hL
          refine v_cVi d_L_law_968 ml_L_217 (q := (RX11, TX11, 32)) rfl (c_M_first l hfl a2 x967 M) (fun _ => rfl) (by decide) (by decide) (as := [xI x967]) (st1 := []) rfl rfl (Nat.le_of_ble_eq_true rfl) (fun c968 M => ?_)
          refine v_istore (lz := fun z => [(6, xI z), (5, xI v5_959), (0, xA 1), (1, xA a1), (2, xA a2), (3, xA a3), (4, xI v4)]) d_L_law_971 (Nat.le_of_ble_eq_true rfl) (fun _ => rfl) (fun v6_971 => ?_)
          refine v_aloadn d_L_law_973 rfl 4 rfl ?_
          refine v_cVi d_L_law_974 ml_L_148 (q := (RX11, TX11, 32)) rfl (c_M_thrown l hfl a2 M) (fun _ => rfl) (by decide) (by decide) (as := []) (st1 := []) rfl rfl (Nat.le_of_ble_eq_true rfl) (fun c974 M => ?_)
          refine v_iload d_L_law_977 1 rfl ?_
          refine v_iceq d_L_law_979 ?_ ?_
          · refine v_iload d_L_law_984 1 rfl ?_
            refine v_join0 (pj := 1001) (lj := [(0, xA 1), (1, xA a1), (2, xA a2), (3, xA a3), (4, xI v4)]) (sj := []) (fun M => ?_) (fun j1001 hj1001 => ?_)
            · refine v_goto d_L_law_1001 ?_
              exact hj2799 M
            refine v_ifne d_L_law_986 ?_ ?_
            · refine v_sub (ls' := [(0, xA 1), (1, xA a1), (2, xA a2), (3, xA a3), (4, xI v4)]) [2, 3, 4, 5, 6] rfl ?_
              exact hj1001 M
            · refine v_aloadn d_L_law_989 rfl 5 rfl ?_
              refine v_iconst d_L_law_990 (by decide) ?_
              refine v_lald d_L_law_991 (fun x991 => ?_)
              refine v_iload d_L_law_992 0 rfl ?_
              refine v_i2l d_L_law_994 ?_
              refine v_lcmp d_L_law_995 ?_
              refine v_ifeq d_L_law_996 ?_ ?_
              · refine v_sub (ls' := [(0, xA 1), (1, xA a1), (2, xA a2), (3, xA a3), (4, xI v4)]) [2, 3, 4, 5, 6] rfl ?_
                exact hj1001 M
              · refine v_iconst d_L_law_999 (by decide) ?_
                exact v_zret d_L_law_1000 rfl
          · refine v_iconst d_L_law_982 (by decide) ?_
            exact v_zret d_L_law_983 rfl
        | 21, _ =>
          show V_ l w q_L_law 62 ex_Z 1004 [(0, xA 1), (1, xA a1), (2, xA a2), (3, xA a3), (4, xI v4)] [] M _
          refine v_aloadn d_L_law_1004 rfl 1 rfl ?_
          refine v_aloadn d_L_law_1005 rfl 3 rfl ?_
          refine v_cSWi d_L_law_1006 ml_L_218 (c_L_next l hfl a1 a3 M) (fun _ => rfl) (by decide) (by decide) (as := [xA a1, xA a3]) (st1 := []) rfl rfl (Nat.le_of_ble_eq_true rfl) (fun c1006 M => ?_)
          refine v_istore (lz := fun z => [(5, xI z), (0, xA 1), (1, xA a1), (2, xA a2), (3, xA a3), (4, xI v4)]) d_L_law_1009 (Nat.le_of_ble_eq_true rfl) (fun _ => rfl) (fun v5_1009 => ?_)
          refine v_aloadn d_L_law_1011 rfl 3 rfl ?_
          refine v_cVi d_L_law_1012 ml_L_220 (q := (RX11, TX11, 32)) rfl (c_M_next l hfl a2 M) (fun _ => rfl) (by decide) (by decide) (as := []) (st1 := []) rfl rfl (Nat.le_of_ble_eq_true rfl) (fun c1012 M => ?_)
          refine v_istore (lz := fun z => [(6, xI z), (5, xI v5_1009), (0, xA 1), (1, xA a1), (2, xA a2), (3, xA a3), (4, xI v4)]) d_L_law_1015 (Nat.le_of_ble_eq_true rfl) (fun _ => rfl) (fun v6_1015 => ?_)
          refine v_aloadn d_L_law_1017 rfl 4 rfl ?_
          refine v_cVi d_L_law_1018 ml_L_148 (q := (RX11, TX11, 32)) rfl (c_M_thrown l hfl a2 M) (fun _ => rfl) (by decide) (by decide) (as := []) (st1 := []) rfl rfl (Nat.le_of_ble_eq_true rfl) (fun c1018 M => ?_)
          refine v_iload d_L_law_1021 1 rfl ?_
          refine v_iceq d_L_law_1023 ?_ ?_
          · refine v_iload d_L_law_1028 1 rfl ?_
            refine v_join0 (pj := 1045) (lj := [(0, xA 1), (1, xA a1), (2, xA a2), (3, xA a3), (4, xI v4)]) (sj := []) (fun M => ?_) (fun j1045 hj1045 => ?_)
            · refine v_goto d_L_law_1045 ?_
              exact hj2799 M
            refine v_ifne d_L_law_1030 ?_ ?_
            · refine v_sub (ls' := [(0, xA 1), (1, xA a1), (2, xA a2), (3, xA a3), (4, xI v4)]) [2, 3, 4, 5, 6] rfl ?_
              exact hj1045 M
            · refine v_aloadn d_L_law_1033 rfl 5 rfl ?_
              refine v_iconst d_L_law_1034 (by decide) ?_
              refine v_lald d_L_law_1035 (fun x1035 => ?_)
              refine v_iload d_L_law_1036 0 rfl ?_
              refine v_i2l d_L_law_1038 ?_
              refine v_lcmp d_L_law_1039 ?_
              refine v_ifeq d_L_law_1040 ?_ ?_
              · refine v_sub (ls' := [(0, xA 1), (1, xA a1), (2, xA a2), (3, xA a3), (4, xI v4)]) [2, 3, 4, 5, 6] rfl ?_
                exact hj1045 M
              · refine v_iconst d_L_law_1043 (by decide) ?_
                exact v_zret d_L_law_1044 rfl
          · refine v_iconst d_L_law_1026 (by decide) ?_
            exact v_zret d_L_law_1027 rfl
        | 22, _ =>
          show V_ l w q_L_law 62 ex_Z 1048 [(0, xA 1), (1, xA a1), (2, xA a2), (3, xA a3), (4, xI v4)] [] M _
          refine v_aloadn d_L_law_1048 rfl 1 rfl ?_
          refine v_aloadn d_L_law_1049 rfl 0 rfl ?_
          refine v_iload d_L_law_1050 4 rfl ?_
          refine v_iconst d_L_law_1052 (by decide) ?_
          refine v_iadd d_L_law_1053 (fun x1053 => ?_)
          refine v_sld d_L_law_1054 (fun x1054 => ?_) hL
          refine v_aloadn d_L_law_1055 rfl 3 rfl ?_
          refine v_cSWi d_L_law_1056 ml_L_221 (c_L_many l hfl a1 x1054 a3 M) (fun _ => rfl) (by decide) (by decide) (as := [xA a1, xI x1054, xA a3]) (st1 := []) rfl rfl (Nat.le_of_ble_eq_true rfl) (fun c1056 M => ?_)
          refine v_istore (lz := fun z => [(5, xI z), (0, xA 1), (1, xA a1), (2, xA a2), (3, xA a3), (4, xI v4)]) d_L_law_1059 (Nat.le_of_ble_eq_true rfl) (fun _ => rfl) (fun v5_1059 => ?_)
          refine v_aloadn d_L_law_1061 rfl 3 rfl ?_
          refine v_aloadn d_L_law_1062 rfl 1 rfl ?_
          refine v_iload d_L_law_1063 5 rfl ?_
          refine v_iconst d_L_law_1065 (by decide) ?_
          refine v_iadd d_L_law_1066 (fun x1066 => ?_)
          refine v_sld d_L_law_1067 (fun x1067 => ?_) hL
          refine v_cVi d_L_law_1068 ml_L_223 (q := (RX11, TX11, 32)) rfl (c_M_many l hfl a2 x1067 M) (fun _ => rfl) (by decide) (by decide) (as := [xI x1067]) (st1 := []) rfl rfl (Nat.le_of_ble_eq_true rfl) (fun c1068 M => ?_)
          refine v_istore (lz := fun z => [(6, xI z), (5, xI v5_1059), (0, xA 1), (1, xA a1), (2, xA a2), (3, xA a3), (4, xI v4)]) d_L_law_1071 (Nat.le_of_ble_eq_true rfl) (fun _ => rfl) (fun v6_1071 => ?_)
          refine v_aloadn d_L_law_1073 rfl 4 rfl ?_
          refine v_cVi d_L_law_1074 ml_L_148 (q := (RX11, TX11, 32)) rfl (c_M_thrown l hfl a2 M) (fun _ => rfl) (by decide) (by decide) (as := []) (st1 := []) rfl rfl (Nat.le_of_ble_eq_true rfl) (fun c1074 M => ?_)
          refine v_iload d_L_law_1077 1 rfl ?_
          refine v_iceq d_L_law_1079 ?_ ?_
          · refine v_iload d_L_law_1084 1 rfl ?_
            refine v_join0 (pj := 1101) (lj := [(0, xA 1), (1, xA a1), (2, xA a2), (3, xA a3), (4, xI v4)]) (sj := []) (fun M => ?_) (fun j1101 hj1101 => ?_)
            · refine v_goto d_L_law_1101 ?_
              exact hj2799 M
            refine v_ifne d_L_law_1086 ?_ ?_
            · refine v_sub (ls' := [(0, xA 1), (1, xA a1), (2, xA a2), (3, xA a3), (4, xI v4)]) [2, 3, 4, 5, 6] rfl ?_
              exact hj1101 M
            · refine v_aloadn d_L_law_1089 rfl 5 rfl ?_
              refine v_iconst d_L_law_1090 (by decide) ?_
              refine v_lald d_L_law_1091 (fun x1091 => ?_)
              refine v_iload d_L_law_1092 0 rfl ?_
              refine v_i2l d_L_law_1094 ?_
              refine v_lcmp d_L_law_1095 ?_
              refine v_ifeq d_L_law_1096 ?_ ?_
              · refine v_sub (ls' := [(0, xA 1), (1, xA a1), (2, xA a2), (3, xA a3), (4, xI v4)]) [2, 3, 4, 5, 6] rfl ?_
                exact hj1101 M
              · refine v_iconst d_L_law_1099 (by decide) ?_
                exact v_zret d_L_law_1100 rfl
          · refine v_iconst d_L_law_1082 (by decide) ?_
            exact v_zret d_L_law_1083 rfl
        | 23, _ =>
          show V_ l w q_L_law 62 ex_Z 1104 [(0, xA 1), (1, xA a1), (2, xA a2), (3, xA a3), (4, xI v4)] [] M _
          refine v_aloadn d_L_law_1104 rfl 1 rfl ?_
          refine v_cVi d_L_law_1105 ml_L_224 (q := (RX10, TX10, 10)) rfl (c_X_longest l hfl a1 M) (fun _ => rfl) (by decide) (by decide) (as := []) (st1 := []) rfl rfl (Nat.le_of_ble_eq_true rfl) (fun c1105 M => ?_)
          refine v_aloadn d_L_law_1108 rfl 2 rfl ?_
          refine v_cVi d_L_law_1109 ml_L_227 (q := (RX11, TX11, 32)) rfl (c_M_longest l hfl a2 M) (fun _ => rfl) (by decide) (by decide) (as := []) (st1 := [xI c1105]) rfl rfl (Nat.le_of_ble_eq_true rfl) (fun c1109 M => ?_)
          refine v_iceq d_L_law_1112 ?_ ?_
          · exact hj2799 M
          · refine v_iconst d_L_law_1115 (by decide) ?_
            exact v_zret d_L_law_1116 rfl
        | 24, _ =>
          show V_ l w q_L_law 62 ex_Z 1117 [(0, xA 1), (1, xA a1), (2, xA a2), (3, xA a3), (4, xI v4)] [] M _
          refine v_aloadn d_L_law_1117 rfl 1 rfl ?_
          refine v_aloadn d_L_law_1118 rfl 0 rfl ?_
          refine v_iload d_L_law_1119 4 rfl ?_
          refine v_iconst d_L_law_1121 (by decide) ?_
          refine v_iadd d_L_law_1122 (fun x1122 => ?_)
          refine v_sld d_L_law_1123 (fun x1123 => ?_) hL
          refine v_aloadn d_L_law_1124 rfl 3 rfl ?_
          refine v_cSWi d_L_law_1125 ml_L_228 (c_L_growth l hfl a1 x1123 a3 M) (fun _ => rfl) (by decide) (by decide) (as := [xA a1, xI x1123, xA a3]) (st1 := []) rfl rfl (Nat.le_of_ble_eq_true rfl) (fun c1125 M => ?_)
          refine v_istore (lz := fun z => [(5, xI z), (0, xA 1), (1, xA a1), (2, xA a2), (3, xA a3), (4, xI v4)]) d_L_law_1128 (Nat.le_of_ble_eq_true rfl) (fun _ => rfl) (fun v5_1128 => ?_)
          refine v_aloadn d_L_law_1130 rfl 3 rfl ?_
          refine v_aloadn d_L_law_1131 rfl 1 rfl ?_
          refine v_iload d_L_law_1132 5 rfl ?_
          refine v_iconst d_L_law_1134 (by decide) ?_
          refine v_iadd d_L_law_1135 (fun x1135 => ?_)
          refine v_sld d_L_law_1136 (fun x1136 => ?_) hL
          refine v_cVi d_L_law_1137 ml_L_230 (q := (RX11, TX11, 32)) rfl (c_M_growth l hfl a2 x1136 M) (fun _ => rfl) (by decide) (by decide) (as := [xI x1136]) (st1 := []) rfl rfl (Nat.le_of_ble_eq_true rfl) (fun c1137 M => ?_)
          refine v_istore (lz := fun z => [(6, xI z), (5, xI v5_1128), (0, xA 1), (1, xA a1), (2, xA a2), (3, xA a3), (4, xI v4)]) d_L_law_1140 (Nat.le_of_ble_eq_true rfl) (fun _ => rfl) (fun v6_1140 => ?_)
          refine v_aloadn d_L_law_1142 rfl 4 rfl ?_
          refine v_cVi d_L_law_1143 ml_L_148 (q := (RX11, TX11, 32)) rfl (c_M_thrown l hfl a2 M) (fun _ => rfl) (by decide) (by decide) (as := []) (st1 := []) rfl rfl (Nat.le_of_ble_eq_true rfl) (fun c1143 M => ?_)
          refine v_iload d_L_law_1146 1 rfl ?_
          refine v_iceq d_L_law_1148 ?_ ?_
          · refine v_iload d_L_law_1153 1 rfl ?_
            refine v_join0 (pj := 1170) (lj := [(0, xA 1), (1, xA a1), (2, xA a2), (3, xA a3), (4, xI v4)]) (sj := []) (fun M => ?_) (fun j1170 hj1170 => ?_)
            · refine v_goto d_L_law_1170 ?_
              exact hj2799 M
            refine v_ifne d_L_law_1155 ?_ ?_
            · refine v_sub (ls' := [(0, xA 1), (1, xA a1), (2, xA a2), (3, xA a3), (4, xI v4)]) [2, 3, 4, 5, 6] rfl ?_
              exact hj1170 M
            · refine v_aloadn d_L_law_1158 rfl 5 rfl ?_
              refine v_iconst d_L_law_1159 (by decide) ?_
              refine v_lald d_L_law_1160 (fun x1160 => ?_)
              refine v_iload d_L_law_1161 0 rfl ?_
              refine v_i2l d_L_law_1163 ?_
              refine v_lcmp d_L_law_1164 ?_
              refine v_ifeq d_L_law_1165 ?_ ?_
              · refine v_sub (ls' := [(0, xA 1), (1, xA a1), (2, xA a2), (3, xA a3), (4, xI v4)]) [2, 3, 4, 5, 6] rfl ?_
                exact hj1170 M
              · refine v_iconst d_L_law_1168 (by decide) ?_
                exact v_zret d_L_law_1169 rfl
          · refine v_iconst d_L_law_1151 (by decide) ?_
            exact v_zret d_L_law_1152 rfl
        | 25, _ =>
          show V_ l w q_L_law 62 ex_Z 1173 [(0, xA 1), (1, xA a1), (2, xA a2), (3, xA a3), (4, xI v4)] [] M _
          refine v_aloadn d_L_law_1173 rfl 1 rfl ?_
          refine v_aloadn d_L_law_1174 rfl 0 rfl ?_
          refine v_iload d_L_law_1175 4 rfl ?_
          refine v_iconst d_L_law_1177 (by decide) ?_
          refine v_iadd d_L_law_1178 (fun x1178 => ?_)
          refine v_sld d_L_law_1179 (fun x1179 => ?_) hL
          refine v_aloadn d_L_law_1180 rfl 3 rfl ?_
          refine v_cSWi d_L_law_1181 ml_L_231 (c_L_image l hfl a1 x1179 a3 M) (fun _ => rfl) (by decide) (by decide) (as := [xA a1, xI x1179, xA a3]) (st1 := []) rfl rfl (Nat.le_of_ble_eq_true rfl) (fun c1181 M => ?_)
          refine v_istore (lz := fun z => [(5, xI z), (0, xA 1), (1, xA a1), (2, xA a2), (3, xA a3), (4, xI v4)]) d_L_law_1184 (Nat.le_of_ble_eq_true rfl) (fun _ => rfl) (fun v5_1184 => ?_)
          refine v_aloadn d_L_law_1186 rfl 3 rfl ?_
          refine v_aloadn d_L_law_1187 rfl 1 rfl ?_
          refine v_iload d_L_law_1188 5 rfl ?_
          refine v_iconst d_L_law_1190 (by decide) ?_
          refine v_iadd d_L_law_1191 (fun x1191 => ?_)
          refine v_sld d_L_law_1192 (fun x1192 => ?_) hL
          refine v_cVi d_L_law_1193 ml_L_233 (q := (RX11, TX11, 32)) rfl (c_M_image l hfl a2 x1192 M) (fun _ => rfl) (by decide) (by decide) (as := [xI x1192]) (st1 := []) rfl rfl (Nat.le_of_ble_eq_true rfl) (fun c1193 M => ?_)
          refine v_istore (lz := fun z => [(6, xI z), (5, xI v5_1184), (0, xA 1), (1, xA a1), (2, xA a2), (3, xA a3), (4, xI v4)]) d_L_law_1196 (Nat.le_of_ble_eq_true rfl) (fun _ => rfl) (fun v6_1196 => ?_)
          refine v_aloadn d_L_law_1198 rfl 4 rfl ?_
          refine v_cVi d_L_law_1199 ml_L_148 (q := (RX11, TX11, 32)) rfl (c_M_thrown l hfl a2 M) (fun _ => rfl) (by decide) (by decide) (as := []) (st1 := []) rfl rfl (Nat.le_of_ble_eq_true rfl) (fun c1199 M => ?_)
          refine v_iload d_L_law_1202 1 rfl ?_
          refine v_iceq d_L_law_1204 ?_ ?_
          · refine v_iload d_L_law_1209 1 rfl ?_
            refine v_join0 (pj := 1226) (lj := [(0, xA 1), (1, xA a1), (2, xA a2), (3, xA a3), (4, xI v4)]) (sj := []) (fun M => ?_) (fun j1226 hj1226 => ?_)
            · refine v_goto d_L_law_1226 ?_
              exact hj2799 M
            refine v_ifne d_L_law_1211 ?_ ?_
            · refine v_sub (ls' := [(0, xA 1), (1, xA a1), (2, xA a2), (3, xA a3), (4, xI v4)]) [2, 3, 4, 5, 6] rfl ?_
              exact hj1226 M
            · refine v_aloadn d_L_law_1214 rfl 5 rfl ?_
              refine v_iconst d_L_law_1215 (by decide) ?_
              refine v_lald d_L_law_1216 (fun x1216 => ?_)
              refine v_iload d_L_law_1217 0 rfl ?_
              refine v_i2l d_L_law_1219 ?_
              refine v_lcmp d_L_law_1220 ?_
              refine v_ifeq d_L_law_1221 ?_ ?_
              · refine v_sub (ls' := [(0, xA 1), (1, xA a1), (2, xA a2), (3, xA a3), (4, xI v4)]) [2, 3, 4, 5, 6] rfl ?_
                exact hj1226 M
              · refine v_iconst d_L_law_1224 (by decide) ?_
                exact v_zret d_L_law_1225 rfl
          · refine v_iconst d_L_law_1207 (by decide) ?_
            exact v_zret d_L_law_1208 rfl
        | 26, _ =>
          show V_ l w q_L_law 62 ex_Z 1229 [(0, xA 1), (1, xA a1), (2, xA a2), (3, xA a3), (4, xI v4)] [] M _
          refine v_aloadn d_L_law_1229 rfl 1 rfl ?_
          refine v_aloadn d_L_law_1230 rfl 0 rfl ?_
          refine v_iload d_L_law_1231 4 rfl ?_
          refine v_iconst d_L_law_1233 (by decide) ?_
          refine v_iadd d_L_law_1234 (fun x1234 => ?_)
          refine v_sld d_L_law_1235 (fun x1235 => ?_) hL
          refine v_aloadn d_L_law_1236 rfl 0 rfl ?_
          refine v_iload d_L_law_1237 4 rfl ?_
          refine v_iconst d_L_law_1239 (by decide) ?_
          refine v_iadd d_L_law_1240 (fun x1240 => ?_)
          refine v_sld d_L_law_1241 (fun x1241 => ?_) hL
          refine v_aloadn d_L_law_1242 rfl 0 rfl ?_
          refine v_iload d_L_law_1243 4 rfl ?_
          refine v_iconst d_L_law_1245 (by decide) ?_
          refine v_iadd d_L_law_1246 (fun x1246 => ?_)
          refine v_sld d_L_law_1247 (fun x1247 => ?_) hL
          refine v_aloadn d_L_law_1248 rfl 3 rfl ?_
          refine v_cSWi d_L_law_1249 ml_L_234 (c_L_imaged l hfl a1 x1235 x1241 x1247 a3 M) (fun _ => rfl) (by decide) (by decide) (as := [xA a1, xI x1235, xI x1241, xI x1247, xA a3]) (st1 := []) rfl rfl (Nat.le_of_ble_eq_true rfl) (fun c1249 M => ?_)
          refine v_istore (lz := fun z => [(5, xI z), (0, xA 1), (1, xA a1), (2, xA a2), (3, xA a3), (4, xI v4)]) d_L_law_1252 (Nat.le_of_ble_eq_true rfl) (fun _ => rfl) (fun v5_1252 => ?_)
          refine v_aloadn d_L_law_1254 rfl 3 rfl ?_
          refine v_aloadn d_L_law_1255 rfl 1 rfl ?_
          refine v_iload d_L_law_1256 5 rfl ?_
          refine v_iconst d_L_law_1258 (by decide) ?_
          refine v_iadd d_L_law_1259 (fun x1259 => ?_)
          refine v_sld d_L_law_1260 (fun x1260 => ?_) hL
          refine v_aloadn d_L_law_1261 rfl 1 rfl ?_
          refine v_iload d_L_law_1262 5 rfl ?_
          refine v_iconst d_L_law_1264 (by decide) ?_
          refine v_iadd d_L_law_1265 (fun x1265 => ?_)
          refine v_sld d_L_law_1266 (fun x1266 => ?_) hL
          refine v_aloadn d_L_law_1267 rfl 1 rfl ?_
          refine v_iload d_L_law_1268 5 rfl ?_
          refine v_iconst d_L_law_1270 (by decide) ?_
          refine v_iadd d_L_law_1271 (fun x1271 => ?_)
          refine v_sld d_L_law_1272 (fun x1272 => ?_) hL
          refine v_cVi d_L_law_1273 ml_L_237 (q := (RX11, TX11, 32)) rfl (c_M_imaged l hfl a2 x1260 x1266 x1272 M) (fun _ => rfl) (by decide) (by decide) (as := [xI x1260, xI x1266, xI x1272]) (st1 := []) rfl rfl (Nat.le_of_ble_eq_true rfl) (fun c1273 M => ?_)
          refine v_istore (lz := fun z => [(6, xI z), (5, xI v5_1252), (0, xA 1), (1, xA a1), (2, xA a2), (3, xA a3), (4, xI v4)]) d_L_law_1276 (Nat.le_of_ble_eq_true rfl) (fun _ => rfl) (fun v6_1276 => ?_)
          refine v_aloadn d_L_law_1278 rfl 4 rfl ?_
          refine v_cVi d_L_law_1279 ml_L_148 (q := (RX11, TX11, 32)) rfl (c_M_thrown l hfl a2 M) (fun _ => rfl) (by decide) (by decide) (as := []) (st1 := []) rfl rfl (Nat.le_of_ble_eq_true rfl) (fun c1279 M => ?_)
          refine v_iload d_L_law_1282 1 rfl ?_
          refine v_iceq d_L_law_1284 ?_ ?_
          · refine v_iload d_L_law_1289 1 rfl ?_
            refine v_join0 (pj := 1306) (lj := [(0, xA 1), (1, xA a1), (2, xA a2), (3, xA a3), (4, xI v4)]) (sj := []) (fun M => ?_) (fun j1306 hj1306 => ?_)
            · refine v_goto d_L_law_1306 ?_
              exact hj2799 M
            refine v_ifne d_L_law_1291 ?_ ?_
            · refine v_sub (ls' := [(0, xA 1), (1, xA a1), (2, xA a2), (3, xA a3), (4, xI v4)]) [2, 3, 4, 5, 6] rfl ?_
              exact hj1306 M
            · refine v_aloadn d_L_law_1294 rfl 5 rfl ?_
              refine v_iconst d_L_law_1295 (by decide) ?_
              refine v_lald d_L_law_1296 (fun x1296 => ?_)
              refine v_iload d_L_law_1297 0 rfl ?_
              refine v_i2l d_L_law_1299 ?_
              refine v_lcmp d_L_law_1300 ?_
              refine v_ifeq d_L_law_1301 ?_ ?_
              · refine v_sub (ls' := [(0, xA 1), (1, xA a1), (2, xA a2), (3, xA a3), (4, xI v4)]) [2, 3, 4, 5, 6] rfl ?_
                exact hj1306 M
              · refine v_iconst d_L_law_1304 (by decide) ?_
                exact v_zret d_L_law_1305 rfl
          · refine v_iconst d_L_law_1287 (by decide) ?_
            exact v_zret d_L_law_1288 rfl
        | 27, _ =>
          show V_ l w q_L_law 62 ex_Z 1309 [(0, xA 1), (1, xA a1), (2, xA a2), (3, xA a3), (4, xI v4)] [] M _
          refine v_aloadn d_L_law_1309 rfl 1 rfl ?_
          refine v_aloadn d_L_law_1310 rfl 0 rfl ?_
          refine v_iload d_L_law_1311 4 rfl ?_
          refine v_iconst d_L_law_1313 (by decide) ?_
          refine v_iadd d_L_law_1314 (fun x1314 => ?_)
          refine v_sld d_L_law_1315 (fun x1315 => ?_) hL
          refine v_aloadn d_L_law_1316 rfl 0 rfl ?_
          refine v_iload d_L_law_1317 4 rfl ?_
          refine v_iconst d_L_law_1319 (by decide) ?_
          refine v_iadd d_L_law_1320 (fun x1320 => ?_)
          refine v_sld d_L_law_1321 (fun x1321 => ?_) hL
          refine v_aloadn d_L_law_1322 rfl 0 rfl ?_
          refine v_iload d_L_law_1323 4 rfl ?_
          refine v_iconst d_L_law_1325 (by decide) ?_
          refine v_iadd d_L_law_1326 (fun x1326 => ?_)
          refine v_sld d_L_law_1327 (fun x1327 => ?_) hL
          refine v_aloadn d_L_law_1328 rfl 3 rfl ?_
          refine v_cSWi d_L_law_1329 ml_L_238 (c_L_length l hfl a1 x1315 x1321 x1327 a3 M) (fun _ => rfl) (by decide) (by decide) (as := [xA a1, xI x1315, xI x1321, xI x1327, xA a3]) (st1 := []) rfl rfl (Nat.le_of_ble_eq_true rfl) (fun c1329 M => ?_)
          refine v_istore (lz := fun z => [(5, xI z), (0, xA 1), (1, xA a1), (2, xA a2), (3, xA a3), (4, xI v4)]) d_L_law_1332 (Nat.le_of_ble_eq_true rfl) (fun _ => rfl) (fun v5_1332 => ?_)
          refine v_aloadn d_L_law_1334 rfl 3 rfl ?_
          refine v_aloadn d_L_law_1335 rfl 1 rfl ?_
          refine v_iload d_L_law_1336 5 rfl ?_
          refine v_iconst d_L_law_1338 (by decide) ?_
          refine v_iadd d_L_law_1339 (fun x1339 => ?_)
          refine v_sld d_L_law_1340 (fun x1340 => ?_) hL
          refine v_aloadn d_L_law_1341 rfl 1 rfl ?_
          refine v_iload d_L_law_1342 5 rfl ?_
          refine v_iconst d_L_law_1344 (by decide) ?_
          refine v_iadd d_L_law_1345 (fun x1345 => ?_)
          refine v_sld d_L_law_1346 (fun x1346 => ?_) hL
          refine v_aloadn d_L_law_1347 rfl 1 rfl ?_
          refine v_iload d_L_law_1348 5 rfl ?_
          refine v_iconst d_L_law_1350 (by decide) ?_
          refine v_iadd d_L_law_1351 (fun x1351 => ?_)
          refine v_sld d_L_law_1352 (fun x1352 => ?_) hL
          refine v_cVl d_L_law_1353 ml_L_240 (q := (RX11, TX11, 32)) rfl (c_M_length l hfl a2 x1340 x1346 x1352 M) (fun _ => rfl) (by decide) (by decide) (as := [xI x1340, xI x1346, xI x1352]) (st1 := []) rfl rfl (Nat.le_of_ble_eq_true rfl) (fun c1353 M => ?_)
          refine v_lstore (lz := fun z => [(6, xJ z), (5, xI v5_1332), (0, xA 1), (1, xA a1), (2, xA a2), (3, xA a3), (4, xI v4)]) d_L_law_1356 (Nat.le_of_ble_eq_true rfl) (fun _ => rfl) (fun w6_1356 => ?_)
          refine v_aloadn d_L_law_1358 rfl 4 rfl ?_
          refine v_cVi d_L_law_1359 ml_L_148 (q := (RX11, TX11, 32)) rfl (c_M_thrown l hfl a2 M) (fun _ => rfl) (by decide) (by decide) (as := []) (st1 := []) rfl rfl (Nat.le_of_ble_eq_true rfl) (fun c1359 M => ?_)
          refine v_iload d_L_law_1362 1 rfl ?_
          refine v_iceq d_L_law_1364 ?_ ?_
          · refine v_iload d_L_law_1369 1 rfl ?_
            refine v_join0 (pj := 1385) (lj := [(0, xA 1), (1, xA a1), (2, xA a2), (3, xA a3), (4, xI v4)]) (sj := []) (fun M => ?_) (fun j1385 hj1385 => ?_)
            · refine v_goto d_L_law_1385 ?_
              exact hj2799 M
            refine v_ifne d_L_law_1371 ?_ ?_
            · refine v_sub (ls' := [(0, xA 1), (1, xA a1), (2, xA a2), (3, xA a3), (4, xI v4)]) [2, 3, 4, 5, 6] rfl ?_
              exact hj1385 M
            · refine v_aloadn d_L_law_1374 rfl 5 rfl ?_
              refine v_iconst d_L_law_1375 (by decide) ?_
              refine v_lald d_L_law_1376 (fun x1376 => ?_)
              refine v_lload d_L_law_1377 0 rfl ?_
              refine v_lcmp d_L_law_1379 ?_
              refine v_ifeq d_L_law_1380 ?_ ?_
              · refine v_sub (ls' := [(0, xA 1), (1, xA a1), (2, xA a2), (3, xA a3), (4, xI v4)]) [2, 3, 4, 5, 6] rfl ?_
                exact hj1385 M
              · refine v_iconst d_L_law_1383 (by decide) ?_
                exact v_zret d_L_law_1384 rfl
          · refine v_iconst d_L_law_1367 (by decide) ?_
            exact v_zret d_L_law_1368 rfl
        | 28, _ =>
          show V_ l w q_L_law 62 ex_Z 1388 [(0, xA 1), (1, xA a1), (2, xA a2), (3, xA a3), (4, xI v4)] [] M _
          refine v_aloadn d_L_law_1388 rfl 1 rfl ?_
          refine v_aloadn d_L_law_1389 rfl 0 rfl ?_
          refine v_iload d_L_law_1390 4 rfl ?_
          refine v_iconst d_L_law_1392 (by decide) ?_
          refine v_iadd d_L_law_1393 (fun x1393 => ?_)
          refine v_sld d_L_law_1394 (fun x1394 => ?_) hL
          refine v_aloadn d_L_law_1395 rfl 0 rfl ?_
          refine v_iload d_L_law_1396 4 rfl ?_
          refine v_iconst d_L_law_1398 (by decide) ?_
          refine v_iadd d_L_law_1399 (fun x1399 => ?_)
          refine v_sld d_L_law_1400 (fun x1400 => ?_) hL
          refine v_aloadn d_L_law_1401 rfl 0 rfl ?_
          refine v_iload d_L_law_1402 4 rfl ?_
          refine v_iconst d_L_law_1404 (by decide) ?_
          refine v_iadd d_L_law_1405 (fun x1405 => ?_)
          refine v_sld d_L_law_1406 (fun x1406 => ?_) hL
          refine v_aloadn d_L_law_1407 rfl 0 rfl ?_
          refine v_iload d_L_law_1408 4 rfl ?_
          refine v_iconst d_L_law_1410 (by decide) ?_
          refine v_iadd d_L_law_1411 (fun x1411 => ?_)
          refine v_sld d_L_law_1412 (fun x1412 => ?_) hL
          refine v_i2l d_L_law_1413 ?_
          refine v_bipush d_L_law_1414 (by decide) ?_
          refine v_lshl d_L_law_1416 ?_
          refine v_aloadn d_L_law_1417 rfl 0 rfl ?_
          refine v_iload d_L_law_1418 4 rfl ?_
          refine v_iconst d_L_law_1420 (by decide) ?_
          refine v_iadd d_L_law_1421 (fun x1421 => ?_)
          refine v_sld d_L_law_1422 (fun x1422 => ?_) hL
          refine v_i2l d_L_law_1423 ?_
          refine v_ldc2 d_L_law_1424 gw_1951 ?_
          refine v_land d_L_law_1427 ?_
          refine v_lor d_L_law_1428 ?_
          refine v_aloadn d_L_law_1429 rfl 3 rfl ?_
          refine v_cSWi d_L_law_1430 ml_L_243 (c_L_power l hfl a1 x1394 x1400 x1406 ((lshl_ (i2l_ x1412) 32) ||| ((i2l_ x1422) &&& 4294967295)) a3 M) (fun _ => rfl) (by decide) (by decide) (as := [xA a1, xI x1394, xI x1400, xI x1406, xJ ((lshl_ (i2l_ x1412) 32) ||| ((i2l_ x1422) &&& 4294967295)), xA a3]) (st1 := []) rfl rfl (Nat.le_of_ble_eq_true rfl) (fun c1430 M => ?_)
          refine v_istore (lz := fun z => [(5, xI z), (0, xA 1), (1, xA a1), (2, xA a2), (3, xA a3), (4, xI v4)]) d_L_law_1433 (Nat.le_of_ble_eq_true rfl) (fun _ => rfl) (fun v5_1433 => ?_)
          refine v_aloadn d_L_law_1435 rfl 3 rfl ?_
          refine v_aloadn d_L_law_1436 rfl 1 rfl ?_
          refine v_iload d_L_law_1437 5 rfl ?_
          refine v_iconst d_L_law_1439 (by decide) ?_
          refine v_iadd d_L_law_1440 (fun x1440 => ?_)
          refine v_sld d_L_law_1441 (fun x1441 => ?_) hL
          refine v_aloadn d_L_law_1442 rfl 1 rfl ?_
          refine v_iload d_L_law_1443 5 rfl ?_
          refine v_iconst d_L_law_1445 (by decide) ?_
          refine v_iadd d_L_law_1446 (fun x1446 => ?_)
          refine v_sld d_L_law_1447 (fun x1447 => ?_) hL
          refine v_aloadn d_L_law_1448 rfl 1 rfl ?_
          refine v_iload d_L_law_1449 5 rfl ?_
          refine v_iconst d_L_law_1451 (by decide) ?_
          refine v_iadd d_L_law_1452 (fun x1452 => ?_)
          refine v_sld d_L_law_1453 (fun x1453 => ?_) hL
          refine v_aloadn d_L_law_1454 rfl 1 rfl ?_
          refine v_iload d_L_law_1455 5 rfl ?_
          refine v_iconst d_L_law_1457 (by decide) ?_
          refine v_iadd d_L_law_1458 (fun x1458 => ?_)
          refine v_sld d_L_law_1459 (fun x1459 => ?_) hL
          refine v_i2l d_L_law_1460 ?_
          refine v_bipush d_L_law_1461 (by decide) ?_
          refine v_lshl d_L_law_1463 ?_
          refine v_aloadn d_L_law_1464 rfl 1 rfl ?_
          refine v_iload d_L_law_1465 5 rfl ?_
          refine v_iconst d_L_law_1467 (by decide) ?_
          refine v_iadd d_L_law_1468 (fun x1468 => ?_)
          refine v_sld d_L_law_1469 (fun x1469 => ?_) hL
          refine v_i2l d_L_law_1470 ?_
          refine v_ldc2 d_L_law_1471 gw_1951 ?_
          refine v_land d_L_law_1474 ?_
          refine v_lor d_L_law_1475 ?_
          refine v_cVi d_L_law_1476 ml_L_246 (q := (RX11, TX11, 32)) rfl (c_M_power l hfl a2 x1441 x1447 x1453 ((lshl_ (i2l_ x1459) 32) ||| ((i2l_ x1469) &&& 4294967295)) M) (fun _ => rfl) (by decide) (by decide) (as := [xI x1441, xI x1447, xI x1453, xJ ((lshl_ (i2l_ x1459) 32) ||| ((i2l_ x1469) &&& 4294967295))]) (st1 := []) rfl rfl (Nat.le_of_ble_eq_true rfl) (fun c1476 M => ?_)
          refine v_istore (lz := fun z => [(6, xI z), (5, xI v5_1433), (0, xA 1), (1, xA a1), (2, xA a2), (3, xA a3), (4, xI v4)]) d_L_law_1479 (Nat.le_of_ble_eq_true rfl) (fun _ => rfl) (fun v6_1479 => ?_)
          refine v_aloadn d_L_law_1481 rfl 4 rfl ?_
          refine v_cVi d_L_law_1482 ml_L_148 (q := (RX11, TX11, 32)) rfl (c_M_thrown l hfl a2 M) (fun _ => rfl) (by decide) (by decide) (as := []) (st1 := []) rfl rfl (Nat.le_of_ble_eq_true rfl) (fun c1482 M => ?_)
          refine v_iload d_L_law_1485 1 rfl ?_
          refine v_iceq d_L_law_1487 ?_ ?_
          · refine v_iload d_L_law_1492 1 rfl ?_
            refine v_join0 (pj := 1509) (lj := [(0, xA 1), (1, xA a1), (2, xA a2), (3, xA a3), (4, xI v4)]) (sj := []) (fun M => ?_) (fun j1509 hj1509 => ?_)
            · refine v_goto d_L_law_1509 ?_
              exact hj2799 M
            refine v_ifne d_L_law_1494 ?_ ?_
            · refine v_sub (ls' := [(0, xA 1), (1, xA a1), (2, xA a2), (3, xA a3), (4, xI v4)]) [2, 3, 4, 5, 6] rfl ?_
              exact hj1509 M
            · refine v_aloadn d_L_law_1497 rfl 5 rfl ?_
              refine v_iconst d_L_law_1498 (by decide) ?_
              refine v_lald d_L_law_1499 (fun x1499 => ?_)
              refine v_iload d_L_law_1500 0 rfl ?_
              refine v_i2l d_L_law_1502 ?_
              refine v_lcmp d_L_law_1503 ?_
              refine v_ifeq d_L_law_1504 ?_ ?_
              · refine v_sub (ls' := [(0, xA 1), (1, xA a1), (2, xA a2), (3, xA a3), (4, xI v4)]) [2, 3, 4, 5, 6] rfl ?_
                exact hj1509 M
              · refine v_iconst d_L_law_1507 (by decide) ?_
                exact v_zret d_L_law_1508 rfl
          · refine v_iconst d_L_law_1490 (by decide) ?_
            exact v_zret d_L_law_1491 rfl
        | 29, _ =>
          show V_ l w q_L_law 62 ex_Z 1512 [(0, xA 1), (1, xA a1), (2, xA a2), (3, xA a3), (4, xI v4)] [] M _
          refine v_aloadn d_L_law_1512 rfl 1 rfl ?_
          refine v_aloadn d_L_law_1513 rfl 0 rfl ?_
          refine v_iload d_L_law_1514 4 rfl ?_
          refine v_iconst d_L_law_1516 (by decide) ?_
          refine v_iadd d_L_law_1517 (fun x1517 => ?_)
          refine v_sld d_L_law_1518 (fun x1518 => ?_) hL
          refine v_aloadn d_L_law_1519 rfl 0 rfl ?_
          refine v_iload d_L_law_1520 4 rfl ?_
          refine v_iconst d_L_law_1522 (by decide) ?_
          refine v_iadd d_L_law_1523 (fun x1523 => ?_)
          refine v_sld d_L_law_1524 (fun x1524 => ?_) hL
          refine v_aloadn d_L_law_1525 rfl 0 rfl ?_
          refine v_iload d_L_law_1526 4 rfl ?_
          refine v_iconst d_L_law_1528 (by decide) ?_
          refine v_iadd d_L_law_1529 (fun x1529 => ?_)
          refine v_sld d_L_law_1530 (fun x1530 => ?_) hL
          refine v_aloadn d_L_law_1531 rfl 0 rfl ?_
          refine v_iload d_L_law_1532 4 rfl ?_
          refine v_iconst d_L_law_1534 (by decide) ?_
          refine v_iadd d_L_law_1535 (fun x1535 => ?_)
          refine v_sld d_L_law_1536 (fun x1536 => ?_) hL
          refine v_aloadn d_L_law_1537 rfl 3 rfl ?_
          refine v_cSWi d_L_law_1538 ml_L_247 (c_L_often l hfl a1 x1518 x1524 x1530 x1536 a3 M) (fun _ => rfl) (by decide) (by decide) (as := [xA a1, xI x1518, xI x1524, xI x1530, xI x1536, xA a3]) (st1 := []) rfl rfl (Nat.le_of_ble_eq_true rfl) (fun c1538 M => ?_)
          refine v_istore (lz := fun z => [(5, xI z), (0, xA 1), (1, xA a1), (2, xA a2), (3, xA a3), (4, xI v4)]) d_L_law_1541 (Nat.le_of_ble_eq_true rfl) (fun _ => rfl) (fun v5_1541 => ?_)
          refine v_aloadn d_L_law_1543 rfl 3 rfl ?_
          refine v_aloadn d_L_law_1544 rfl 1 rfl ?_
          refine v_iload d_L_law_1545 5 rfl ?_
          refine v_iconst d_L_law_1547 (by decide) ?_
          refine v_iadd d_L_law_1548 (fun x1548 => ?_)
          refine v_sld d_L_law_1549 (fun x1549 => ?_) hL
          refine v_aloadn d_L_law_1550 rfl 1 rfl ?_
          refine v_iload d_L_law_1551 5 rfl ?_
          refine v_iconst d_L_law_1553 (by decide) ?_
          refine v_iadd d_L_law_1554 (fun x1554 => ?_)
          refine v_sld d_L_law_1555 (fun x1555 => ?_) hL
          refine v_aloadn d_L_law_1556 rfl 1 rfl ?_
          refine v_iload d_L_law_1557 5 rfl ?_
          refine v_iconst d_L_law_1559 (by decide) ?_
          refine v_iadd d_L_law_1560 (fun x1560 => ?_)
          refine v_sld d_L_law_1561 (fun x1561 => ?_) hL
          refine v_aloadn d_L_law_1562 rfl 1 rfl ?_
          refine v_iload d_L_law_1563 5 rfl ?_
          refine v_iconst d_L_law_1565 (by decide) ?_
          refine v_iadd d_L_law_1566 (fun x1566 => ?_)
          refine v_sld d_L_law_1567 (fun x1567 => ?_) hL
          refine v_cVl d_L_law_1568 ml_L_250 (q := (RX11, TX11, 32)) rfl (c_M_often l hfl a2 x1549 x1555 x1561 x1567 M) (fun _ => rfl) (by decide) (by decide) (as := [xI x1549, xI x1555, xI x1561, xI x1567]) (st1 := []) rfl rfl (Nat.le_of_ble_eq_true rfl) (fun c1568 M => ?_)
          refine v_lstore (lz := fun z => [(6, xJ z), (5, xI v5_1541), (0, xA 1), (1, xA a1), (2, xA a2), (3, xA a3), (4, xI v4)]) d_L_law_1571 (Nat.le_of_ble_eq_true rfl) (fun _ => rfl) (fun w6_1571 => ?_)
          refine v_aloadn d_L_law_1573 rfl 4 rfl ?_
          refine v_cVi d_L_law_1574 ml_L_148 (q := (RX11, TX11, 32)) rfl (c_M_thrown l hfl a2 M) (fun _ => rfl) (by decide) (by decide) (as := []) (st1 := []) rfl rfl (Nat.le_of_ble_eq_true rfl) (fun c1574 M => ?_)
          refine v_iload d_L_law_1577 1 rfl ?_
          refine v_iceq d_L_law_1579 ?_ ?_
          · refine v_iload d_L_law_1584 1 rfl ?_
            refine v_join0 (pj := 1600) (lj := [(0, xA 1), (1, xA a1), (2, xA a2), (3, xA a3), (4, xI v4)]) (sj := []) (fun M => ?_) (fun j1600 hj1600 => ?_)
            · refine v_goto d_L_law_1600 ?_
              exact hj2799 M
            refine v_ifne d_L_law_1586 ?_ ?_
            · refine v_sub (ls' := [(0, xA 1), (1, xA a1), (2, xA a2), (3, xA a3), (4, xI v4)]) [2, 3, 4, 5, 6] rfl ?_
              exact hj1600 M
            · refine v_aloadn d_L_law_1589 rfl 5 rfl ?_
              refine v_iconst d_L_law_1590 (by decide) ?_
              refine v_lald d_L_law_1591 (fun x1591 => ?_)
              refine v_lload d_L_law_1592 0 rfl ?_
              refine v_lcmp d_L_law_1594 ?_
              refine v_ifeq d_L_law_1595 ?_ ?_
              · refine v_sub (ls' := [(0, xA 1), (1, xA a1), (2, xA a2), (3, xA a3), (4, xI v4)]) [2, 3, 4, 5, 6] rfl ?_
                exact hj1600 M
              · refine v_iconst d_L_law_1598 (by decide) ?_
                exact v_zret d_L_law_1599 rfl
          · refine v_iconst d_L_law_1582 (by decide) ?_
            exact v_zret d_L_law_1583 rfl
        | 30, _ =>
          show V_ l w q_L_law 62 ex_Z 1603 [(0, xA 1), (1, xA a1), (2, xA a2), (3, xA a3), (4, xI v4)] [] M _
          refine v_aloadn d_L_law_1603 rfl 1 rfl ?_
          refine v_aloadn d_L_law_1604 rfl 0 rfl ?_
          refine v_iload d_L_law_1605 4 rfl ?_
          refine v_iconst d_L_law_1607 (by decide) ?_
          refine v_iadd d_L_law_1608 (fun x1608 => ?_)
          refine v_sld d_L_law_1609 (fun x1609 => ?_) hL
          refine v_aloadn d_L_law_1610 rfl 0 rfl ?_
          refine v_iload d_L_law_1611 4 rfl ?_
          refine v_iconst d_L_law_1613 (by decide) ?_
          refine v_iadd d_L_law_1614 (fun x1614 => ?_)
          refine v_sld d_L_law_1615 (fun x1615 => ?_) hL
          refine v_aloadn d_L_law_1616 rfl 3 rfl ?_
          refine v_cSWi d_L_law_1617 ml_L_251 (c_L_keeps l hfl a1 x1609 x1615 a3 M) (fun _ => rfl) (by decide) (by decide) (as := [xA a1, xI x1609, xI x1615, xA a3]) (st1 := []) rfl rfl (Nat.le_of_ble_eq_true rfl) (fun c1617 M => ?_)
          refine v_istore (lz := fun z => [(5, xI z), (0, xA 1), (1, xA a1), (2, xA a2), (3, xA a3), (4, xI v4)]) d_L_law_1620 (Nat.le_of_ble_eq_true rfl) (fun _ => rfl) (fun v5_1620 => ?_)
          refine v_aloadn d_L_law_1622 rfl 3 rfl ?_
          refine v_aloadn d_L_law_1623 rfl 1 rfl ?_
          refine v_iload d_L_law_1624 5 rfl ?_
          refine v_iconst d_L_law_1626 (by decide) ?_
          refine v_iadd d_L_law_1627 (fun x1627 => ?_)
          refine v_sld d_L_law_1628 (fun x1628 => ?_) hL
          refine v_aloadn d_L_law_1629 rfl 1 rfl ?_
          refine v_iload d_L_law_1630 5 rfl ?_
          refine v_iconst d_L_law_1632 (by decide) ?_
          refine v_iadd d_L_law_1633 (fun x1633 => ?_)
          refine v_sld d_L_law_1634 (fun x1634 => ?_) hL
          refine v_cVi d_L_law_1635 ml_L_253 (q := (RX11, TX11, 32)) rfl (c_M_keeps l hfl a2 x1628 x1634 M) (fun _ => rfl) (by decide) (by decide) (as := [xI x1628, xI x1634]) (st1 := []) rfl rfl (Nat.le_of_ble_eq_true rfl) (fun c1635 M => ?_)
          refine v_istore (lz := fun z => [(6, xI z), (5, xI v5_1620), (0, xA 1), (1, xA a1), (2, xA a2), (3, xA a3), (4, xI v4)]) d_L_law_1638 (Nat.le_of_ble_eq_true rfl) (fun _ => rfl) (fun v6_1638 => ?_)
          refine v_aloadn d_L_law_1640 rfl 4 rfl ?_
          refine v_cVi d_L_law_1641 ml_L_148 (q := (RX11, TX11, 32)) rfl (c_M_thrown l hfl a2 M) (fun _ => rfl) (by decide) (by decide) (as := []) (st1 := []) rfl rfl (Nat.le_of_ble_eq_true rfl) (fun c1641 M => ?_)
          refine v_iload d_L_law_1644 1 rfl ?_
          refine v_iceq d_L_law_1646 ?_ ?_
          · refine v_iload d_L_law_1651 1 rfl ?_
            refine v_join0 (pj := 1668) (lj := [(0, xA 1), (1, xA a1), (2, xA a2), (3, xA a3), (4, xI v4)]) (sj := []) (fun M => ?_) (fun j1668 hj1668 => ?_)
            · refine v_goto d_L_law_1668 ?_
              exact hj2799 M
            refine v_ifne d_L_law_1653 ?_ ?_
            · refine v_sub (ls' := [(0, xA 1), (1, xA a1), (2, xA a2), (3, xA a3), (4, xI v4)]) [2, 3, 4, 5, 6] rfl ?_
              exact hj1668 M
            · refine v_aloadn d_L_law_1656 rfl 5 rfl ?_
              refine v_iconst d_L_law_1657 (by decide) ?_
              refine v_lald d_L_law_1658 (fun x1658 => ?_)
              refine v_iload d_L_law_1659 0 rfl ?_
              refine v_i2l d_L_law_1661 ?_
              refine v_lcmp d_L_law_1662 ?_
              refine v_ifeq d_L_law_1663 ?_ ?_
              · refine v_sub (ls' := [(0, xA 1), (1, xA a1), (2, xA a2), (3, xA a3), (4, xI v4)]) [2, 3, 4, 5, 6] rfl ?_
                exact hj1668 M
              · refine v_iconst d_L_law_1666 (by decide) ?_
                exact v_zret d_L_law_1667 rfl
          · refine v_iconst d_L_law_1649 (by decide) ?_
            exact v_zret d_L_law_1650 rfl
        | 31, _ =>
          show V_ l w q_L_law 62 ex_Z 1671 [(0, xA 1), (1, xA a1), (2, xA a2), (3, xA a3), (4, xI v4)] [] M _
          refine v_aloadn d_L_law_1671 rfl 1 rfl ?_
          refine v_aloadn d_L_law_1672 rfl 0 rfl ?_
          refine v_iload d_L_law_1673 4 rfl ?_
          refine v_iconst d_L_law_1675 (by decide) ?_
          refine v_iadd d_L_law_1676 (fun x1676 => ?_)
          refine v_sld d_L_law_1677 (fun x1677 => ?_) hL
          refine v_aloadn d_L_law_1678 rfl 0 rfl ?_
          refine v_iload d_L_law_1679 4 rfl ?_
          refine v_iconst d_L_law_1681 (by decide) ?_
          refine v_iadd d_L_law_1682 (fun x1682 => ?_)
          refine v_sld d_L_law_1683 (fun x1683 => ?_) hL
          refine v_aloadn d_L_law_1684 rfl 3 rfl ?_
          refine v_cSWi d_L_law_1685 ml_L_254 (c_L_breaks l hfl a1 x1677 x1683 a3 M) (fun _ => rfl) (by decide) (by decide) (as := [xA a1, xI x1677, xI x1683, xA a3]) (st1 := []) rfl rfl (Nat.le_of_ble_eq_true rfl) (fun c1685 M => ?_)
          refine v_istore (lz := fun z => [(5, xI z), (0, xA 1), (1, xA a1), (2, xA a2), (3, xA a3), (4, xI v4)]) d_L_law_1688 (Nat.le_of_ble_eq_true rfl) (fun _ => rfl) (fun v5_1688 => ?_)
          refine v_aloadn d_L_law_1690 rfl 3 rfl ?_
          refine v_aloadn d_L_law_1691 rfl 1 rfl ?_
          refine v_iload d_L_law_1692 5 rfl ?_
          refine v_iconst d_L_law_1694 (by decide) ?_
          refine v_iadd d_L_law_1695 (fun x1695 => ?_)
          refine v_sld d_L_law_1696 (fun x1696 => ?_) hL
          refine v_aloadn d_L_law_1697 rfl 1 rfl ?_
          refine v_iload d_L_law_1698 5 rfl ?_
          refine v_iconst d_L_law_1700 (by decide) ?_
          refine v_iadd d_L_law_1701 (fun x1701 => ?_)
          refine v_sld d_L_law_1702 (fun x1702 => ?_) hL
          refine v_cVi d_L_law_1703 ml_L_256 (q := (RX11, TX11, 32)) rfl (c_M_breaks l hfl a2 x1696 x1702 M) (fun _ => rfl) (by decide) (by decide) (as := [xI x1696, xI x1702]) (st1 := []) rfl rfl (Nat.le_of_ble_eq_true rfl) (fun c1703 M => ?_)
          refine v_istore (lz := fun z => [(6, xI z), (5, xI v5_1688), (0, xA 1), (1, xA a1), (2, xA a2), (3, xA a3), (4, xI v4)]) d_L_law_1706 (Nat.le_of_ble_eq_true rfl) (fun _ => rfl) (fun v6_1706 => ?_)
          refine v_aloadn d_L_law_1708 rfl 4 rfl ?_
          refine v_cVi d_L_law_1709 ml_L_148 (q := (RX11, TX11, 32)) rfl (c_M_thrown l hfl a2 M) (fun _ => rfl) (by decide) (by decide) (as := []) (st1 := []) rfl rfl (Nat.le_of_ble_eq_true rfl) (fun c1709 M => ?_)
          refine v_iload d_L_law_1712 1 rfl ?_
          refine v_iceq d_L_law_1714 ?_ ?_
          · refine v_iload d_L_law_1719 1 rfl ?_
            refine v_join0 (pj := 1736) (lj := [(0, xA 1), (1, xA a1), (2, xA a2), (3, xA a3), (4, xI v4)]) (sj := []) (fun M => ?_) (fun j1736 hj1736 => ?_)
            · refine v_goto d_L_law_1736 ?_
              exact hj2799 M
            refine v_ifne d_L_law_1721 ?_ ?_
            · refine v_sub (ls' := [(0, xA 1), (1, xA a1), (2, xA a2), (3, xA a3), (4, xI v4)]) [2, 3, 4, 5, 6] rfl ?_
              exact hj1736 M
            · refine v_aloadn d_L_law_1724 rfl 5 rfl ?_
              refine v_iconst d_L_law_1725 (by decide) ?_
              refine v_lald d_L_law_1726 (fun x1726 => ?_)
              refine v_iload d_L_law_1727 0 rfl ?_
              refine v_i2l d_L_law_1729 ?_
              refine v_lcmp d_L_law_1730 ?_
              refine v_ifeq d_L_law_1731 ?_ ?_
              · refine v_sub (ls' := [(0, xA 1), (1, xA a1), (2, xA a2), (3, xA a3), (4, xI v4)]) [2, 3, 4, 5, 6] rfl ?_
                exact hj1736 M
              · refine v_iconst d_L_law_1734 (by decide) ?_
                exact v_zret d_L_law_1735 rfl
          · refine v_iconst d_L_law_1717 (by decide) ?_
            exact v_zret d_L_law_1718 rfl
        | 32, _ =>
          show V_ l w q_L_law 62 ex_Z 1739 [(0, xA 1), (1, xA a1), (2, xA a2), (3, xA a3), (4, xI v4)] [] M _
          refine v_aloadn d_L_law_1739 rfl 1 rfl ?_
          refine v_aloadn d_L_law_1740 rfl 0 rfl ?_
          refine v_iload d_L_law_1741 4 rfl ?_
          refine v_iconst d_L_law_1743 (by decide) ?_
          refine v_iadd d_L_law_1744 (fun x1744 => ?_)
          refine v_sld d_L_law_1745 (fun x1745 => ?_) hL
          refine v_aloadn d_L_law_1746 rfl 3 rfl ?_
          refine v_cSWi d_L_law_1747 ml_L_257 (c_L_grows l hfl a1 x1745 a3 M) (fun _ => rfl) (by decide) (by decide) (as := [xA a1, xI x1745, xA a3]) (st1 := []) rfl rfl (Nat.le_of_ble_eq_true rfl) (fun c1747 M => ?_)
          refine v_istore (lz := fun z => [(5, xI z), (0, xA 1), (1, xA a1), (2, xA a2), (3, xA a3), (4, xI v4)]) d_L_law_1750 (Nat.le_of_ble_eq_true rfl) (fun _ => rfl) (fun v5_1750 => ?_)
          refine v_aloadn d_L_law_1752 rfl 3 rfl ?_
          refine v_aloadn d_L_law_1753 rfl 1 rfl ?_
          refine v_iload d_L_law_1754 5 rfl ?_
          refine v_iconst d_L_law_1756 (by decide) ?_
          refine v_iadd d_L_law_1757 (fun x1757 => ?_)
          refine v_sld d_L_law_1758 (fun x1758 => ?_) hL
          refine v_cVi d_L_law_1759 ml_L_259 (q := (RX11, TX11, 32)) rfl (c_M_grows l hfl a2 x1758 M) (fun _ => rfl) (by decide) (by decide) (as := [xI x1758]) (st1 := []) rfl rfl (Nat.le_of_ble_eq_true rfl) (fun c1759 M => ?_)
          refine v_istore (lz := fun z => [(6, xI z), (5, xI v5_1750), (0, xA 1), (1, xA a1), (2, xA a2), (3, xA a3), (4, xI v4)]) d_L_law_1762 (Nat.le_of_ble_eq_true rfl) (fun _ => rfl) (fun v6_1762 => ?_)
          refine v_aloadn d_L_law_1764 rfl 4 rfl ?_
          refine v_cVi d_L_law_1765 ml_L_148 (q := (RX11, TX11, 32)) rfl (c_M_thrown l hfl a2 M) (fun _ => rfl) (by decide) (by decide) (as := []) (st1 := []) rfl rfl (Nat.le_of_ble_eq_true rfl) (fun c1765 M => ?_)
          refine v_iload d_L_law_1768 1 rfl ?_
          refine v_iceq d_L_law_1770 ?_ ?_
          · refine v_iload d_L_law_1775 1 rfl ?_
            refine v_join0 (pj := 1792) (lj := [(0, xA 1), (1, xA a1), (2, xA a2), (3, xA a3), (4, xI v4)]) (sj := []) (fun M => ?_) (fun j1792 hj1792 => ?_)
            · refine v_goto d_L_law_1792 ?_
              exact hj2799 M
            refine v_ifne d_L_law_1777 ?_ ?_
            · refine v_sub (ls' := [(0, xA 1), (1, xA a1), (2, xA a2), (3, xA a3), (4, xI v4)]) [2, 3, 4, 5, 6] rfl ?_
              exact hj1792 M
            · refine v_aloadn d_L_law_1780 rfl 5 rfl ?_
              refine v_iconst d_L_law_1781 (by decide) ?_
              refine v_lald d_L_law_1782 (fun x1782 => ?_)
              refine v_iload d_L_law_1783 0 rfl ?_
              refine v_i2l d_L_law_1785 ?_
              refine v_lcmp d_L_law_1786 ?_
              refine v_ifeq d_L_law_1787 ?_ ?_
              · refine v_sub (ls' := [(0, xA 1), (1, xA a1), (2, xA a2), (3, xA a3), (4, xI v4)]) [2, 3, 4, 5, 6] rfl ?_
                exact hj1792 M
              · refine v_iconst d_L_law_1790 (by decide) ?_
                exact v_zret d_L_law_1791 rfl
          · refine v_iconst d_L_law_1773 (by decide) ?_
            exact v_zret d_L_law_1774 rfl
        | 33, _ =>
          show V_ l w q_L_law 62 ex_Z 1795 [(0, xA 1), (1, xA a1), (2, xA a2), (3, xA a3), (4, xI v4)] [] M _
          refine v_aloadn d_L_law_1795 rfl 1 rfl ?_
          refine v_aloadn d_L_law_1796 rfl 0 rfl ?_
          refine v_iload d_L_law_1797 4 rfl ?_
          refine v_iconst d_L_law_1799 (by decide) ?_
          refine v_iadd d_L_law_1800 (fun x1800 => ?_)
          refine v_sld d_L_law_1801 (fun x1801 => ?_) hL
          refine v_aloadn d_L_law_1802 rfl 3 rfl ?_
          refine v_cSWi d_L_law_1803 ml_L_260 (c_L_uniform l hfl a1 x1801 a3 M) (fun _ => rfl) (by decide) (by decide) (as := [xA a1, xI x1801, xA a3]) (st1 := []) rfl rfl (Nat.le_of_ble_eq_true rfl) (fun c1803 M => ?_)
          refine v_istore (lz := fun z => [(5, xI z), (0, xA 1), (1, xA a1), (2, xA a2), (3, xA a3), (4, xI v4)]) d_L_law_1806 (Nat.le_of_ble_eq_true rfl) (fun _ => rfl) (fun v5_1806 => ?_)
          refine v_aloadn d_L_law_1808 rfl 3 rfl ?_
          refine v_aloadn d_L_law_1809 rfl 1 rfl ?_
          refine v_iload d_L_law_1810 5 rfl ?_
          refine v_iconst d_L_law_1812 (by decide) ?_
          refine v_iadd d_L_law_1813 (fun x1813 => ?_)
          refine v_sld d_L_law_1814 (fun x1814 => ?_) hL
          refine v_cVi d_L_law_1815 ml_L_262 (q := (RX11, TX11, 32)) rfl (c_M_uniform l hfl a2 x1814 M) (fun _ => rfl) (by decide) (by decide) (as := [xI x1814]) (st1 := []) rfl rfl (Nat.le_of_ble_eq_true rfl) (fun c1815 M => ?_)
          refine v_istore (lz := fun z => [(6, xI z), (5, xI v5_1806), (0, xA 1), (1, xA a1), (2, xA a2), (3, xA a3), (4, xI v4)]) d_L_law_1818 (Nat.le_of_ble_eq_true rfl) (fun _ => rfl) (fun v6_1818 => ?_)
          refine v_aloadn d_L_law_1820 rfl 4 rfl ?_
          refine v_cVi d_L_law_1821 ml_L_148 (q := (RX11, TX11, 32)) rfl (c_M_thrown l hfl a2 M) (fun _ => rfl) (by decide) (by decide) (as := []) (st1 := []) rfl rfl (Nat.le_of_ble_eq_true rfl) (fun c1821 M => ?_)
          refine v_iload d_L_law_1824 1 rfl ?_
          refine v_iceq d_L_law_1826 ?_ ?_
          · refine v_iload d_L_law_1831 1 rfl ?_
            refine v_join0 (pj := 1848) (lj := [(0, xA 1), (1, xA a1), (2, xA a2), (3, xA a3), (4, xI v4)]) (sj := []) (fun M => ?_) (fun j1848 hj1848 => ?_)
            · refine v_goto d_L_law_1848 ?_
              exact hj2799 M
            refine v_ifne d_L_law_1833 ?_ ?_
            · refine v_sub (ls' := [(0, xA 1), (1, xA a1), (2, xA a2), (3, xA a3), (4, xI v4)]) [2, 3, 4, 5, 6] rfl ?_
              exact hj1848 M
            · refine v_aloadn d_L_law_1836 rfl 5 rfl ?_
              refine v_iconst d_L_law_1837 (by decide) ?_
              refine v_lald d_L_law_1838 (fun x1838 => ?_)
              refine v_iload d_L_law_1839 0 rfl ?_
              refine v_i2l d_L_law_1841 ?_
              refine v_lcmp d_L_law_1842 ?_
              refine v_ifeq d_L_law_1843 ?_ ?_
              · refine v_sub (ls' := [(0, xA 1), (1, xA a1), (2, xA a2), (3, xA a3), (4, xI v4)]) [2, 3, 4, 5, 6] rfl ?_
                exact hj1848 M
              · refine v_iconst d_L_law_1846 (by decide) ?_
                exact v_zret d_L_law_1847 rfl
          · refine v_iconst d_L_law_1829 (by decide) ?_
            exact v_zret d_L_law_1830 rfl
        | 34, _ =>
          show V_ l w q_L_law 62 ex_Z 1851 [(0, xA 1), (1, xA a1), (2, xA a2), (3, xA a3), (4, xI v4)] [] M _
          refine v_aloadn d_L_law_1851 rfl 1 rfl ?_
          refine v_aloadn d_L_law_1852 rfl 0 rfl ?_
          refine v_iload d_L_law_1853 4 rfl ?_
          refine v_iconst d_L_law_1855 (by decide) ?_
          refine v_iadd d_L_law_1856 (fun x1856 => ?_)
          refine v_sld d_L_law_1857 (fun x1857 => ?_) hL
          refine v_aloadn d_L_law_1858 rfl 3 rfl ?_
          refine v_cSWi d_L_law_1859 ml_L_263 (c_L_cannot l hfl a1 x1857 a3 M) (fun _ => rfl) (by decide) (by decide) (as := [xA a1, xI x1857, xA a3]) (st1 := []) rfl rfl (Nat.le_of_ble_eq_true rfl) (fun c1859 M => ?_)
          refine v_istore (lz := fun z => [(5, xI z), (0, xA 1), (1, xA a1), (2, xA a2), (3, xA a3), (4, xI v4)]) d_L_law_1862 (Nat.le_of_ble_eq_true rfl) (fun _ => rfl) (fun v5_1862 => ?_)
          refine v_aloadn d_L_law_1864 rfl 3 rfl ?_
          refine v_aloadn d_L_law_1865 rfl 1 rfl ?_
          refine v_iload d_L_law_1866 5 rfl ?_
          refine v_iconst d_L_law_1868 (by decide) ?_
          refine v_iadd d_L_law_1869 (fun x1869 => ?_)
          refine v_sld d_L_law_1870 (fun x1870 => ?_) hL
          refine v_cVi d_L_law_1871 ml_L_265 (q := (RX11, TX11, 32)) rfl (c_M_cannot l hfl a2 x1870 M) (fun _ => rfl) (by decide) (by decide) (as := [xI x1870]) (st1 := []) rfl rfl (Nat.le_of_ble_eq_true rfl) (fun c1871 M => ?_)
          refine v_istore (lz := fun z => [(6, xI z), (5, xI v5_1862), (0, xA 1), (1, xA a1), (2, xA a2), (3, xA a3), (4, xI v4)]) d_L_law_1874 (Nat.le_of_ble_eq_true rfl) (fun _ => rfl) (fun v6_1874 => ?_)
          refine v_aloadn d_L_law_1876 rfl 4 rfl ?_
          refine v_cVi d_L_law_1877 ml_L_148 (q := (RX11, TX11, 32)) rfl (c_M_thrown l hfl a2 M) (fun _ => rfl) (by decide) (by decide) (as := []) (st1 := []) rfl rfl (Nat.le_of_ble_eq_true rfl) (fun c1877 M => ?_)
          refine v_iload d_L_law_1880 1 rfl ?_
          refine v_iceq d_L_law_1882 ?_ ?_
          · refine v_iload d_L_law_1887 1 rfl ?_
            refine v_join0 (pj := 1911) (lj := [(0, xA 1), (1, xA a1), (2, xA a2), (3, xA a3), (4, xI v4)]) (sj := []) (fun M => ?_) (fun j1911 hj1911 => ?_)
            · refine v_goto d_L_law_1911 ?_
              exact hj2799 M
            refine v_ifne d_L_law_1889 ?_ ?_
            · refine v_sub (ls' := [(0, xA 1), (1, xA a1), (2, xA a2), (3, xA a3), (4, xI v4)]) [2, 3, 4, 5, 6] rfl ?_
              exact hj1911 M
            · refine v_aloadn d_L_law_1892 rfl 5 rfl ?_
              refine v_iconst d_L_law_1893 (by decide) ?_
              refine v_lald d_L_law_1894 (fun x1894 => ?_)
              refine v_iload d_L_law_1895 0 rfl ?_
              refine v_join2 (pj := 1905) (lj := fun sw0_1905 sw1_1905 => [(0, xA 1), (1, xA a1), (2, xA a2), (3, xA a3), (4, xI v4)]) (sj := fun sw0_1905 sw1_1905 => [xJ sw1_1905, xJ sw0_1905]) (fun sw0_1905 sw1_1905 M => ?_) (fun j1905 hj1905 => ?_)
              · refine v_lcmp d_L_law_1905 ?_
                refine v_ifeq d_L_law_1906 ?_ ?_
                · exact hj1911 M
                · refine v_iconst d_L_law_1909 (by decide) ?_
                  exact v_zret d_L_law_1910 rfl
              refine v_ifeq d_L_law_1897 ?_ ?_
              · refine v_lconst d_L_law_1904 (v := 0) rfl ?_
                refine v_sub (ls' := [(0, xA 1), (1, xA a1), (2, xA a2), (3, xA a3), (4, xI v4)]) [2, 3, 4, 5, 6] rfl ?_
                exact hj1905 x1894 0 M
              · refine v_lconst d_L_law_1900 (v := 1) rfl ?_
                refine v_goto d_L_law_1901 ?_
                refine v_sub (ls' := [(0, xA 1), (1, xA a1), (2, xA a2), (3, xA a3), (4, xI v4)]) [2, 3, 4, 5, 6] rfl ?_
                exact hj1905 x1894 1 M
          · refine v_iconst d_L_law_1885 (by decide) ?_
            exact v_zret d_L_law_1886 rfl
        | 35, _ =>
          show V_ l w q_L_law 62 ex_Z 1914 [(0, xA 1), (1, xA a1), (2, xA a2), (3, xA a3), (4, xI v4)] [] M _
          refine v_aloadn d_L_law_1914 rfl 1 rfl ?_
          refine v_aloadn d_L_law_1915 rfl 0 rfl ?_
          refine v_iload d_L_law_1916 4 rfl ?_
          refine v_iconst d_L_law_1918 (by decide) ?_
          refine v_iadd d_L_law_1919 (fun x1919 => ?_)
          refine v_sld d_L_law_1920 (fun x1920 => ?_) hL
          refine v_aloadn d_L_law_1921 rfl 0 rfl ?_
          refine v_iload d_L_law_1922 4 rfl ?_
          refine v_iconst d_L_law_1924 (by decide) ?_
          refine v_iadd d_L_law_1925 (fun x1925 => ?_)
          refine v_sld d_L_law_1926 (fun x1926 => ?_) hL
          refine v_aloadn d_L_law_1927 rfl 3 rfl ?_
          refine v_cSWi d_L_law_1928 ml_L_266 (c_L_loose l hfl a1 x1920 x1926 a3 M) (fun _ => rfl) (by decide) (by decide) (as := [xA a1, xI x1920, xI x1926, xA a3]) (st1 := []) rfl rfl (Nat.le_of_ble_eq_true rfl) (fun c1928 M => ?_)
          refine v_istore (lz := fun z => [(5, xI z), (0, xA 1), (1, xA a1), (2, xA a2), (3, xA a3), (4, xI v4)]) d_L_law_1931 (Nat.le_of_ble_eq_true rfl) (fun _ => rfl) (fun v5_1931 => ?_)
          refine v_aloadn d_L_law_1933 rfl 3 rfl ?_
          refine v_aloadn d_L_law_1934 rfl 1 rfl ?_
          refine v_iload d_L_law_1935 5 rfl ?_
          refine v_iconst d_L_law_1937 (by decide) ?_
          refine v_iadd d_L_law_1938 (fun x1938 => ?_)
          refine v_sld d_L_law_1939 (fun x1939 => ?_) hL
          refine v_aloadn d_L_law_1940 rfl 1 rfl ?_
          refine v_iload d_L_law_1941 5 rfl ?_
          refine v_iconst d_L_law_1943 (by decide) ?_
          refine v_iadd d_L_law_1944 (fun x1944 => ?_)
          refine v_sld d_L_law_1945 (fun x1945 => ?_) hL
          refine v_cVi d_L_law_1946 ml_L_268 (q := (RX11, TX11, 32)) rfl (c_M_loose l hfl a2 x1939 x1945 M) (fun _ => rfl) (by decide) (by decide) (as := [xI x1939, xI x1945]) (st1 := []) rfl rfl (Nat.le_of_ble_eq_true rfl) (fun c1946 M => ?_)
          refine v_istore (lz := fun z => [(6, xI z), (5, xI v5_1931), (0, xA 1), (1, xA a1), (2, xA a2), (3, xA a3), (4, xI v4)]) d_L_law_1949 (Nat.le_of_ble_eq_true rfl) (fun _ => rfl) (fun v6_1949 => ?_)
          refine v_aloadn d_L_law_1951 rfl 4 rfl ?_
          refine v_cVi d_L_law_1952 ml_L_148 (q := (RX11, TX11, 32)) rfl (c_M_thrown l hfl a2 M) (fun _ => rfl) (by decide) (by decide) (as := []) (st1 := []) rfl rfl (Nat.le_of_ble_eq_true rfl) (fun c1952 M => ?_)
          refine v_iload d_L_law_1955 1 rfl ?_
          refine v_iceq d_L_law_1957 ?_ ?_
          · refine v_iload d_L_law_1962 1 rfl ?_
            refine v_join0 (pj := 1979) (lj := [(0, xA 1), (1, xA a1), (2, xA a2), (3, xA a3), (4, xI v4)]) (sj := []) (fun M => ?_) (fun j1979 hj1979 => ?_)
            · refine v_goto d_L_law_1979 ?_
              exact hj2799 M
            refine v_ifne d_L_law_1964 ?_ ?_
            · refine v_sub (ls' := [(0, xA 1), (1, xA a1), (2, xA a2), (3, xA a3), (4, xI v4)]) [2, 3, 4, 5, 6] rfl ?_
              exact hj1979 M
            · refine v_aloadn d_L_law_1967 rfl 5 rfl ?_
              refine v_iconst d_L_law_1968 (by decide) ?_
              refine v_lald d_L_law_1969 (fun x1969 => ?_)
              refine v_iload d_L_law_1970 0 rfl ?_
              refine v_i2l d_L_law_1972 ?_
              refine v_lcmp d_L_law_1973 ?_
              refine v_ifeq d_L_law_1974 ?_ ?_
              · refine v_sub (ls' := [(0, xA 1), (1, xA a1), (2, xA a2), (3, xA a3), (4, xI v4)]) [2, 3, 4, 5, 6] rfl ?_
                exact hj1979 M
              · refine v_iconst d_L_law_1977 (by decide) ?_
                exact v_zret d_L_law_1978 rfl
          · refine v_iconst d_L_law_1960 (by decide) ?_
            exact v_zret d_L_law_1961 rfl
        | 36, _ =>
          show V_ l w q_L_law 62 ex_Z 1982 [(0, xA 1), (1, xA a1), (2, xA a2), (3, xA a3), (4, xI v4)] [] M _
          refine v_aloadn d_L_law_1982 rfl 1 rfl ?_
          refine v_aloadn d_L_law_1983 rfl 0 rfl ?_
          refine v_iload d_L_law_1984 4 rfl ?_
          refine v_iconst d_L_law_1986 (by decide) ?_
          refine v_iadd d_L_law_1987 (fun x1987 => ?_)
          refine v_sld d_L_law_1988 (fun x1988 => ?_) hL
          refine v_aloadn d_L_law_1989 rfl 0 rfl ?_
          refine v_iload d_L_law_1990 4 rfl ?_
          refine v_iconst d_L_law_1992 (by decide) ?_
          refine v_iadd d_L_law_1993 (fun x1993 => ?_)
          refine v_sld d_L_law_1994 (fun x1994 => ?_) hL
          refine v_aloadn d_L_law_1995 rfl 3 rfl ?_
          refine v_cSWi d_L_law_1996 ml_L_269 (c_L_pattern l hfl a1 x1988 x1994 a3 M) (fun _ => rfl) (by decide) (by decide) (as := [xA a1, xI x1988, xI x1994, xA a3]) (st1 := []) rfl rfl (Nat.le_of_ble_eq_true rfl) (fun c1996 M => ?_)
          refine v_istore (lz := fun z => [(5, xI z), (0, xA 1), (1, xA a1), (2, xA a2), (3, xA a3), (4, xI v4)]) d_L_law_1999 (Nat.le_of_ble_eq_true rfl) (fun _ => rfl) (fun v5_1999 => ?_)
          refine v_aloadn d_L_law_2001 rfl 3 rfl ?_
          refine v_aloadn d_L_law_2002 rfl 1 rfl ?_
          refine v_iload d_L_law_2003 5 rfl ?_
          refine v_iconst d_L_law_2005 (by decide) ?_
          refine v_iadd d_L_law_2006 (fun x2006 => ?_)
          refine v_sld d_L_law_2007 (fun x2007 => ?_) hL
          refine v_aloadn d_L_law_2008 rfl 1 rfl ?_
          refine v_iload d_L_law_2009 5 rfl ?_
          refine v_iconst d_L_law_2011 (by decide) ?_
          refine v_iadd d_L_law_2012 (fun x2012 => ?_)
          refine v_sld d_L_law_2013 (fun x2013 => ?_) hL
          refine v_cVi d_L_law_2014 ml_L_271 (q := (RX11, TX11, 32)) rfl (c_M_pattern l hfl a2 x2007 x2013 M) (fun _ => rfl) (by decide) (by decide) (as := [xI x2007, xI x2013]) (st1 := []) rfl rfl (Nat.le_of_ble_eq_true rfl) (fun c2014 M => ?_)
          refine v_istore (lz := fun z => [(6, xI z), (5, xI v5_1999), (0, xA 1), (1, xA a1), (2, xA a2), (3, xA a3), (4, xI v4)]) d_L_law_2017 (Nat.le_of_ble_eq_true rfl) (fun _ => rfl) (fun v6_2017 => ?_)
          refine v_aloadn d_L_law_2019 rfl 4 rfl ?_
          refine v_cVi d_L_law_2020 ml_L_148 (q := (RX11, TX11, 32)) rfl (c_M_thrown l hfl a2 M) (fun _ => rfl) (by decide) (by decide) (as := []) (st1 := []) rfl rfl (Nat.le_of_ble_eq_true rfl) (fun c2020 M => ?_)
          refine v_iload d_L_law_2023 1 rfl ?_
          refine v_iceq d_L_law_2025 ?_ ?_
          · refine v_iload d_L_law_2030 1 rfl ?_
            refine v_join0 (pj := 2047) (lj := [(0, xA 1), (1, xA a1), (2, xA a2), (3, xA a3), (4, xI v4)]) (sj := []) (fun M => ?_) (fun j2047 hj2047 => ?_)
            · refine v_goto d_L_law_2047 ?_
              exact hj2799 M
            refine v_ifne d_L_law_2032 ?_ ?_
            · refine v_sub (ls' := [(0, xA 1), (1, xA a1), (2, xA a2), (3, xA a3), (4, xI v4)]) [2, 3, 4, 5, 6] rfl ?_
              exact hj2047 M
            · refine v_aloadn d_L_law_2035 rfl 5 rfl ?_
              refine v_iconst d_L_law_2036 (by decide) ?_
              refine v_lald d_L_law_2037 (fun x2037 => ?_)
              refine v_iload d_L_law_2038 0 rfl ?_
              refine v_i2l d_L_law_2040 ?_
              refine v_lcmp d_L_law_2041 ?_
              refine v_ifeq d_L_law_2042 ?_ ?_
              · refine v_sub (ls' := [(0, xA 1), (1, xA a1), (2, xA a2), (3, xA a3), (4, xI v4)]) [2, 3, 4, 5, 6] rfl ?_
                exact hj2047 M
              · refine v_iconst d_L_law_2045 (by decide) ?_
                exact v_zret d_L_law_2046 rfl
          · refine v_iconst d_L_law_2028 (by decide) ?_
            exact v_zret d_L_law_2029 rfl
        | 37, _ =>
          show V_ l w q_L_law 62 ex_Z 2050 [(0, xA 1), (1, xA a1), (2, xA a2), (3, xA a3), (4, xI v4)] [] M _
          refine v_aloadn d_L_law_2050 rfl 1 rfl ?_
          refine v_aloadn d_L_law_2051 rfl 0 rfl ?_
          refine v_iload d_L_law_2052 4 rfl ?_
          refine v_iconst d_L_law_2054 (by decide) ?_
          refine v_iadd d_L_law_2055 (fun x2055 => ?_)
          refine v_sld d_L_law_2056 (fun x2056 => ?_) hL
          refine v_aloadn d_L_law_2057 rfl 3 rfl ?_
          refine v_cSWi d_L_law_2058 ml_L_272 (c_L_stuck l hfl a1 x2056 a3 M) (fun _ => rfl) (by decide) (by decide) (as := [xA a1, xI x2056, xA a3]) (st1 := []) rfl rfl (Nat.le_of_ble_eq_true rfl) (fun c2058 M => ?_)
          refine v_istore (lz := fun z => [(5, xI z), (0, xA 1), (1, xA a1), (2, xA a2), (3, xA a3), (4, xI v4)]) d_L_law_2061 (Nat.le_of_ble_eq_true rfl) (fun _ => rfl) (fun v5_2061 => ?_)
          refine v_aloadn d_L_law_2063 rfl 3 rfl ?_
          refine v_aloadn d_L_law_2064 rfl 1 rfl ?_
          refine v_iload d_L_law_2065 5 rfl ?_
          refine v_iconst d_L_law_2067 (by decide) ?_
          refine v_iadd d_L_law_2068 (fun x2068 => ?_)
          refine v_sld d_L_law_2069 (fun x2069 => ?_) hL
          refine v_cVi d_L_law_2070 ml_L_274 (q := (RX11, TX11, 32)) rfl (c_M_stuck l hfl a2 x2069 M) (fun _ => rfl) (by decide) (by decide) (as := [xI x2069]) (st1 := []) rfl rfl (Nat.le_of_ble_eq_true rfl) (fun c2070 M => ?_)
          refine v_istore (lz := fun z => [(6, xI z), (5, xI v5_2061), (0, xA 1), (1, xA a1), (2, xA a2), (3, xA a3), (4, xI v4)]) d_L_law_2073 (Nat.le_of_ble_eq_true rfl) (fun _ => rfl) (fun v6_2073 => ?_)
          refine v_aloadn d_L_law_2075 rfl 4 rfl ?_
          refine v_cVi d_L_law_2076 ml_L_148 (q := (RX11, TX11, 32)) rfl (c_M_thrown l hfl a2 M) (fun _ => rfl) (by decide) (by decide) (as := []) (st1 := []) rfl rfl (Nat.le_of_ble_eq_true rfl) (fun c2076 M => ?_)
          refine v_iload d_L_law_2079 1 rfl ?_
          refine v_iceq d_L_law_2081 ?_ ?_
          · refine v_iload d_L_law_2086 1 rfl ?_
            refine v_join0 (pj := 2103) (lj := [(0, xA 1), (1, xA a1), (2, xA a2), (3, xA a3), (4, xI v4)]) (sj := []) (fun M => ?_) (fun j2103 hj2103 => ?_)
            · refine v_goto d_L_law_2103 ?_
              exact hj2799 M
            refine v_ifne d_L_law_2088 ?_ ?_
            · refine v_sub (ls' := [(0, xA 1), (1, xA a1), (2, xA a2), (3, xA a3), (4, xI v4)]) [2, 3, 4, 5, 6] rfl ?_
              exact hj2103 M
            · refine v_aloadn d_L_law_2091 rfl 5 rfl ?_
              refine v_iconst d_L_law_2092 (by decide) ?_
              refine v_lald d_L_law_2093 (fun x2093 => ?_)
              refine v_iload d_L_law_2094 0 rfl ?_
              refine v_i2l d_L_law_2096 ?_
              refine v_lcmp d_L_law_2097 ?_
              refine v_ifeq d_L_law_2098 ?_ ?_
              · refine v_sub (ls' := [(0, xA 1), (1, xA a1), (2, xA a2), (3, xA a3), (4, xI v4)]) [2, 3, 4, 5, 6] rfl ?_
                exact hj2103 M
              · refine v_iconst d_L_law_2101 (by decide) ?_
                exact v_zret d_L_law_2102 rfl
          · refine v_iconst d_L_law_2084 (by decide) ?_
            exact v_zret d_L_law_2085 rfl
        | 38, _ =>
          show V_ l w q_L_law 62 ex_Z 2106 [(0, xA 1), (1, xA a1), (2, xA a2), (3, xA a3), (4, xI v4)] [] M _
          refine v_aloadn d_L_law_2106 rfl 1 rfl ?_
          refine v_aloadn d_L_law_2107 rfl 3 rfl ?_
          refine v_cSWi d_L_law_2108 ml_L_275 (c_L_rank l hfl a1 a3 M) (fun _ => rfl) (by decide) (by decide) (as := [xA a1, xA a3]) (st1 := []) rfl rfl (Nat.le_of_ble_eq_true rfl) (fun c2108 M => ?_)
          refine v_istore (lz := fun z => [(5, xI z), (0, xA 1), (1, xA a1), (2, xA a2), (3, xA a3), (4, xI v4)]) d_L_law_2111 (Nat.le_of_ble_eq_true rfl) (fun _ => rfl) (fun v5_2111 => ?_)
          refine v_aloadn d_L_law_2113 rfl 3 rfl ?_
          refine v_cVi d_L_law_2114 ml_L_277 (q := (RX11, TX11, 32)) rfl (c_M_rank l hfl a2 M) (fun _ => rfl) (by decide) (by decide) (as := []) (st1 := []) rfl rfl (Nat.le_of_ble_eq_true rfl) (fun c2114 M => ?_)
          refine v_istore (lz := fun z => [(6, xI z), (5, xI v5_2111), (0, xA 1), (1, xA a1), (2, xA a2), (3, xA a3), (4, xI v4)]) d_L_law_2117 (Nat.le_of_ble_eq_true rfl) (fun _ => rfl) (fun v6_2117 => ?_)
          refine v_aloadn d_L_law_2119 rfl 4 rfl ?_
          refine v_cVi d_L_law_2120 ml_L_148 (q := (RX11, TX11, 32)) rfl (c_M_thrown l hfl a2 M) (fun _ => rfl) (by decide) (by decide) (as := []) (st1 := []) rfl rfl (Nat.le_of_ble_eq_true rfl) (fun c2120 M => ?_)
          refine v_iload d_L_law_2123 1 rfl ?_
          refine v_iceq d_L_law_2125 ?_ ?_
          · refine v_iload d_L_law_2130 1 rfl ?_
            refine v_join0 (pj := 2147) (lj := [(0, xA 1), (1, xA a1), (2, xA a2), (3, xA a3), (4, xI v4)]) (sj := []) (fun M => ?_) (fun j2147 hj2147 => ?_)
            · refine v_goto d_L_law_2147 ?_
              exact hj2799 M
            refine v_ifne d_L_law_2132 ?_ ?_
            · refine v_sub (ls' := [(0, xA 1), (1, xA a1), (2, xA a2), (3, xA a3), (4, xI v4)]) [2, 3, 4, 5, 6] rfl ?_
              exact hj2147 M
            · refine v_aloadn d_L_law_2135 rfl 5 rfl ?_
              refine v_iconst d_L_law_2136 (by decide) ?_
              refine v_lald d_L_law_2137 (fun x2137 => ?_)
              refine v_iload d_L_law_2138 0 rfl ?_
              refine v_i2l d_L_law_2140 ?_
              refine v_lcmp d_L_law_2141 ?_
              refine v_ifeq d_L_law_2142 ?_ ?_
              · refine v_sub (ls' := [(0, xA 1), (1, xA a1), (2, xA a2), (3, xA a3), (4, xI v4)]) [2, 3, 4, 5, 6] rfl ?_
                exact hj2147 M
              · refine v_iconst d_L_law_2145 (by decide) ?_
                exact v_zret d_L_law_2146 rfl
          · refine v_iconst d_L_law_2128 (by decide) ?_
            exact v_zret d_L_law_2129 rfl
        | 39, _ =>
          show V_ l w q_L_law 62 ex_Z 2150 [(0, xA 1), (1, xA a1), (2, xA a2), (3, xA a3), (4, xI v4)] [] M _
          refine v_aloadn d_L_law_2150 rfl 1 rfl ?_
          refine v_aloadn d_L_law_2151 rfl 0 rfl ?_
          refine v_iload d_L_law_2152 4 rfl ?_
          refine v_iconst d_L_law_2154 (by decide) ?_
          refine v_iadd d_L_law_2155 (fun x2155 => ?_)
          refine v_sld d_L_law_2156 (fun x2156 => ?_) hL
          refine v_aloadn d_L_law_2157 rfl 0 rfl ?_
          refine v_iload d_L_law_2158 4 rfl ?_
          refine v_iconst d_L_law_2160 (by decide) ?_
          refine v_iadd d_L_law_2161 (fun x2161 => ?_)
          refine v_sld d_L_law_2162 (fun x2162 => ?_) hL
          refine v_aloadn d_L_law_2163 rfl 3 rfl ?_
          refine v_cSWi d_L_law_2164 ml_L_278 (c_L_nth l hfl a1 x2156 x2162 a3 M) (fun _ => rfl) (by decide) (by decide) (as := [xA a1, xI x2156, xI x2162, xA a3]) (st1 := []) rfl rfl (Nat.le_of_ble_eq_true rfl) (fun c2164 M => ?_)
          refine v_istore (lz := fun z => [(5, xI z), (0, xA 1), (1, xA a1), (2, xA a2), (3, xA a3), (4, xI v4)]) d_L_law_2167 (Nat.le_of_ble_eq_true rfl) (fun _ => rfl) (fun v5_2167 => ?_)
          refine v_aloadn d_L_law_2169 rfl 3 rfl ?_
          refine v_aloadn d_L_law_2170 rfl 1 rfl ?_
          refine v_iload d_L_law_2171 5 rfl ?_
          refine v_iconst d_L_law_2173 (by decide) ?_
          refine v_iadd d_L_law_2174 (fun x2174 => ?_)
          refine v_sld d_L_law_2175 (fun x2175 => ?_) hL
          refine v_aloadn d_L_law_2176 rfl 1 rfl ?_
          refine v_iload d_L_law_2177 5 rfl ?_
          refine v_iconst d_L_law_2179 (by decide) ?_
          refine v_iadd d_L_law_2180 (fun x2180 => ?_)
          refine v_sld d_L_law_2181 (fun x2181 => ?_) hL
          refine v_cVi d_L_law_2182 ml_L_280 (q := (RX11, TX11, 32)) rfl (c_M_nth l hfl a2 x2175 x2181 M) (fun _ => rfl) (by decide) (by decide) (as := [xI x2175, xI x2181]) (st1 := []) rfl rfl (Nat.le_of_ble_eq_true rfl) (fun c2182 M => ?_)
          refine v_istore (lz := fun z => [(6, xI z), (5, xI v5_2167), (0, xA 1), (1, xA a1), (2, xA a2), (3, xA a3), (4, xI v4)]) d_L_law_2185 (Nat.le_of_ble_eq_true rfl) (fun _ => rfl) (fun v6_2185 => ?_)
          refine v_aloadn d_L_law_2187 rfl 4 rfl ?_
          refine v_cVi d_L_law_2188 ml_L_148 (q := (RX11, TX11, 32)) rfl (c_M_thrown l hfl a2 M) (fun _ => rfl) (by decide) (by decide) (as := []) (st1 := []) rfl rfl (Nat.le_of_ble_eq_true rfl) (fun c2188 M => ?_)
          refine v_iload d_L_law_2191 1 rfl ?_
          refine v_iceq d_L_law_2193 ?_ ?_
          · refine v_iload d_L_law_2198 1 rfl ?_
            refine v_join0 (pj := 2215) (lj := [(0, xA 1), (1, xA a1), (2, xA a2), (3, xA a3), (4, xI v4)]) (sj := []) (fun M => ?_) (fun j2215 hj2215 => ?_)
            · refine v_goto d_L_law_2215 ?_
              exact hj2799 M
            refine v_ifne d_L_law_2200 ?_ ?_
            · refine v_sub (ls' := [(0, xA 1), (1, xA a1), (2, xA a2), (3, xA a3), (4, xI v4)]) [2, 3, 4, 5, 6] rfl ?_
              exact hj2215 M
            · refine v_aloadn d_L_law_2203 rfl 5 rfl ?_
              refine v_iconst d_L_law_2204 (by decide) ?_
              refine v_lald d_L_law_2205 (fun x2205 => ?_)
              refine v_iload d_L_law_2206 0 rfl ?_
              refine v_i2l d_L_law_2208 ?_
              refine v_lcmp d_L_law_2209 ?_
              refine v_ifeq d_L_law_2210 ?_ ?_
              · refine v_sub (ls' := [(0, xA 1), (1, xA a1), (2, xA a2), (3, xA a3), (4, xI v4)]) [2, 3, 4, 5, 6] rfl ?_
                exact hj2215 M
              · refine v_iconst d_L_law_2213 (by decide) ?_
                exact v_zret d_L_law_2214 rfl
          · refine v_iconst d_L_law_2196 (by decide) ?_
            exact v_zret d_L_law_2197 rfl
        | 40, _ =>
          show V_ l w q_L_law 62 ex_Z 2218 [(0, xA 1), (1, xA a1), (2, xA a2), (3, xA a3), (4, xI v4)] [] M _
          refine v_aloadn d_L_law_2218 rfl 1 rfl ?_
          refine v_cVi d_L_law_2219 ml_L_281 (q := (RX10, TX10, 10)) rfl (c_X_ahead l hfl a1 M) (fun _ => rfl) (by decide) (by decide) (as := []) (st1 := []) rfl rfl (Nat.le_of_ble_eq_true rfl) (fun c2219 M => ?_)
          refine v_aloadn d_L_law_2222 rfl 2 rfl ?_
          refine v_cVi d_L_law_2223 ml_L_284 (q := (RX11, TX11, 32)) rfl (c_M_ahead l hfl a2 M) (fun _ => rfl) (by decide) (by decide) (as := []) (st1 := [xI c2219]) rfl rfl (Nat.le_of_ble_eq_true rfl) (fun c2223 M => ?_)
          refine v_iceq d_L_law_2226 ?_ ?_
          · exact hj2799 M
          · refine v_iconst d_L_law_2229 (by decide) ?_
            exact v_zret d_L_law_2230 rfl
        | 41, _ =>
          show V_ l w q_L_law 62 ex_Z 2231 [(0, xA 1), (1, xA a1), (2, xA a2), (3, xA a3), (4, xI v4)] [] M _
          refine v_aloadn d_L_law_2231 rfl 1 rfl ?_
          refine v_aloadn d_L_law_2232 rfl 0 rfl ?_
          refine v_iload d_L_law_2233 4 rfl ?_
          refine v_iconst d_L_law_2235 (by decide) ?_
          refine v_iadd d_L_law_2236 (fun x2236 => ?_)
          refine v_sld d_L_law_2237 (fun x2237 => ?_) hL
          refine v_aloadn d_L_law_2238 rfl 0 rfl ?_
          refine v_iload d_L_law_2239 4 rfl ?_
          refine v_iconst d_L_law_2241 (by decide) ?_
          refine v_iadd d_L_law_2242 (fun x2242 => ?_)
          refine v_sld d_L_law_2243 (fun x2243 => ?_) hL
          refine v_aloadn d_L_law_2244 rfl 0 rfl ?_
          refine v_iload d_L_law_2245 4 rfl ?_
          refine v_iconst d_L_law_2247 (by decide) ?_
          refine v_iadd d_L_law_2248 (fun x2248 => ?_)
          refine v_sld d_L_law_2249 (fun x2249 => ?_) hL
          refine v_aloadn d_L_law_2250 rfl 3 rfl ?_
          refine v_cSWi d_L_law_2251 ml_L_285 (c_L_limit l hfl a1 x2237 x2243 x2249 a3 M) (fun _ => rfl) (by decide) (by decide) (as := [xA a1, xI x2237, xI x2243, xI x2249, xA a3]) (st1 := []) rfl rfl (Nat.le_of_ble_eq_true rfl) (fun c2251 M => ?_)
          refine v_istore (lz := fun z => [(5, xI z), (0, xA 1), (1, xA a1), (2, xA a2), (3, xA a3), (4, xI v4)]) d_L_law_2254 (Nat.le_of_ble_eq_true rfl) (fun _ => rfl) (fun v5_2254 => ?_)
          refine v_aloadn d_L_law_2256 rfl 3 rfl ?_
          refine v_aloadn d_L_law_2257 rfl 1 rfl ?_
          refine v_iload d_L_law_2258 5 rfl ?_
          refine v_iconst d_L_law_2260 (by decide) ?_
          refine v_iadd d_L_law_2261 (fun x2261 => ?_)
          refine v_sld d_L_law_2262 (fun x2262 => ?_) hL
          refine v_aloadn d_L_law_2263 rfl 1 rfl ?_
          refine v_iload d_L_law_2264 5 rfl ?_
          refine v_iconst d_L_law_2266 (by decide) ?_
          refine v_iadd d_L_law_2267 (fun x2267 => ?_)
          refine v_sld d_L_law_2268 (fun x2268 => ?_) hL
          refine v_aloadn d_L_law_2269 rfl 1 rfl ?_
          refine v_iload d_L_law_2270 5 rfl ?_
          refine v_iconst d_L_law_2272 (by decide) ?_
          refine v_iadd d_L_law_2273 (fun x2273 => ?_)
          refine v_sld d_L_law_2274 (fun x2274 => ?_) hL
          refine v_cVi d_L_law_2275 ml_L_287 (q := (RX11, TX11, 32)) rfl (c_M_limit l hfl a2 x2262 x2268 x2274 M) (fun _ => rfl) (by decide) (by decide) (as := [xI x2262, xI x2268, xI x2274]) (st1 := []) rfl rfl (Nat.le_of_ble_eq_true rfl) (fun c2275 M => ?_)
          refine v_istore (lz := fun z => [(6, xI z), (5, xI v5_2254), (0, xA 1), (1, xA a1), (2, xA a2), (3, xA a3), (4, xI v4)]) d_L_law_2278 (Nat.le_of_ble_eq_true rfl) (fun _ => rfl) (fun v6_2278 => ?_)
          refine v_aloadn d_L_law_2280 rfl 4 rfl ?_
          refine v_cVi d_L_law_2281 ml_L_148 (q := (RX11, TX11, 32)) rfl (c_M_thrown l hfl a2 M) (fun _ => rfl) (by decide) (by decide) (as := []) (st1 := []) rfl rfl (Nat.le_of_ble_eq_true rfl) (fun c2281 M => ?_)
          refine v_iload d_L_law_2284 1 rfl ?_
          refine v_iceq d_L_law_2286 ?_ ?_
          · refine v_iload d_L_law_2291 1 rfl ?_
            refine v_join0 (pj := 2308) (lj := [(0, xA 1), (1, xA a1), (2, xA a2), (3, xA a3), (4, xI v4)]) (sj := []) (fun M => ?_) (fun j2308 hj2308 => ?_)
            · refine v_goto d_L_law_2308 ?_
              exact hj2799 M
            refine v_ifne d_L_law_2293 ?_ ?_
            · refine v_sub (ls' := [(0, xA 1), (1, xA a1), (2, xA a2), (3, xA a3), (4, xI v4)]) [2, 3, 4, 5, 6] rfl ?_
              exact hj2308 M
            · refine v_aloadn d_L_law_2296 rfl 5 rfl ?_
              refine v_iconst d_L_law_2297 (by decide) ?_
              refine v_lald d_L_law_2298 (fun x2298 => ?_)
              refine v_iload d_L_law_2299 0 rfl ?_
              refine v_i2l d_L_law_2301 ?_
              refine v_lcmp d_L_law_2302 ?_
              refine v_ifeq d_L_law_2303 ?_ ?_
              · refine v_sub (ls' := [(0, xA 1), (1, xA a1), (2, xA a2), (3, xA a3), (4, xI v4)]) [2, 3, 4, 5, 6] rfl ?_
                exact hj2308 M
              · refine v_iconst d_L_law_2306 (by decide) ?_
                exact v_zret d_L_law_2307 rfl
          · refine v_iconst d_L_law_2289 (by decide) ?_
            exact v_zret d_L_law_2290 rfl
        | 42, _ =>
          show V_ l w q_L_law 62 ex_Z 2311 [(0, xA 1), (1, xA a1), (2, xA a2), (3, xA a3), (4, xI v4)] [] M _
          refine v_aloadn d_L_law_2311 rfl 1 rfl ?_
          refine v_aloadn d_L_law_2312 rfl 0 rfl ?_
          refine v_iload d_L_law_2313 4 rfl ?_
          refine v_iconst d_L_law_2315 (by decide) ?_
          refine v_iadd d_L_law_2316 (fun x2316 => ?_)
          refine v_sld d_L_law_2317 (fun x2317 => ?_) hL
          refine v_aloadn d_L_law_2318 rfl 0 rfl ?_
          refine v_iload d_L_law_2319 4 rfl ?_
          refine v_iconst d_L_law_2321 (by decide) ?_
          refine v_iadd d_L_law_2322 (fun x2322 => ?_)
          refine v_sld d_L_law_2323 (fun x2323 => ?_) hL
          refine v_join3 (pj := 2332) (lj := fun sa0_2332 s1_2332 s2_2332 => [(0, xA 1), (1, xA a1), (2, xA a2), (3, xA a3), (4, xI v4)]) (sj := fun sa0_2332 s1_2332 s2_2332 => [xI s2_2332, xI s1_2332, xA sa0_2332]) (fun sa0_2332 s1_2332 s2_2332 M => ?_) (fun j2332 hj2332 => ?_)
          · refine v_aloadn d_L_law_2332 rfl 3 rfl ?_
            refine v_cSWi d_L_law_2333 ml_L_288 (c_L_avoid l hfl sa0_2332 s1_2332 s2_2332 a3 M) (fun _ => rfl) (by decide) (by decide) (as := [xA sa0_2332, xI s1_2332, xI s2_2332, xA a3]) (st1 := []) rfl rfl (Nat.le_of_ble_eq_true rfl) (fun c2333 M => ?_)
            refine v_istore (lz := fun z => [(5, xI z), (0, xA 1), (1, xA a1), (2, xA a2), (3, xA a3), (4, xI v4)]) d_L_law_2336 (Nat.le_of_ble_eq_true rfl) (fun _ => rfl) (fun v5_2336 => ?_)
            refine v_aloadn d_L_law_2338 rfl 3 rfl ?_
            refine v_aloadn d_L_law_2339 rfl 1 rfl ?_
            refine v_iload d_L_law_2340 5 rfl ?_
            refine v_iconst d_L_law_2342 (by decide) ?_
            refine v_iadd d_L_law_2343 (fun x2343 => ?_)
            refine v_sld d_L_law_2344 (fun x2344 => ?_) hL
            refine v_aloadn d_L_law_2345 rfl 1 rfl ?_
            refine v_iload d_L_law_2346 5 rfl ?_
            refine v_iconst d_L_law_2348 (by decide) ?_
            refine v_iadd d_L_law_2349 (fun x2349 => ?_)
            refine v_sld d_L_law_2350 (fun x2350 => ?_) hL
            refine v_join3 (pj := 2359) (lj := fun sa0_2359 s1_2359 s2_2359 => [(0, xA 1), (1, xA a1), (2, xA a2), (3, xA a3), (4, xI v4), (5, xI v5_2336)]) (sj := fun sa0_2359 s1_2359 s2_2359 => [xI s2_2359, xI s1_2359, xA sa0_2359]) (fun sa0_2359 s1_2359 s2_2359 M => ?_) (fun j2359 hj2359 => ?_)
            · refine v_cVi d_L_law_2359 ml_L_291 (q := (RX11, TX11, 32)) rfl (c_M_avoid l hfl sa0_2359 s1_2359 s2_2359 M) (fun _ => rfl) (by decide) (by decide) (as := [xI s1_2359, xI s2_2359]) (st1 := []) rfl rfl (Nat.le_of_ble_eq_true rfl) (fun c2359 M => ?_)
              refine v_istore (lz := fun z => [(6, xI z), (0, xA 1), (1, xA a1), (2, xA a2), (3, xA a3), (4, xI v4), (5, xI v5_2336)]) d_L_law_2362 (Nat.le_of_ble_eq_true rfl) (fun _ => rfl) (fun v6_2362 => ?_)
              refine v_aloadn d_L_law_2364 rfl 3 rfl ?_
              refine v_cVi d_L_law_2365 ml_L_148 (q := (RX11, TX11, 32)) rfl (c_M_thrown l hfl a2 M) (fun _ => rfl) (by decide) (by decide) (as := []) (st1 := []) rfl rfl (Nat.le_of_ble_eq_true rfl) (fun c2365 M => ?_)
              refine v_iload d_L_law_2368 6 rfl ?_
              refine v_iceq d_L_law_2370 ?_ ?_
              · refine v_iload d_L_law_2375 6 rfl ?_
                refine v_join0 (pj := 2399) (lj := [(0, xA 1), (1, xA a1), (2, xA a2), (3, xA a3), (4, xI v4)]) (sj := []) (fun M => ?_) (fun j2399 hj2399 => ?_)
                · refine v_goto d_L_law_2399 ?_
                  exact hj2799 M
                refine v_ifne d_L_law_2377 ?_ ?_
                · refine v_sub (ls' := [(0, xA 1), (1, xA a1), (2, xA a2), (3, xA a3), (4, xI v4)]) [1, 2, 3, 4, 5] rfl ?_
                  exact hj2399 M
                · refine v_aloadn d_L_law_2380 rfl 4 rfl ?_
                  refine v_iconst d_L_law_2381 (by decide) ?_
                  refine v_lald d_L_law_2382 (fun x2382 => ?_)
                  refine v_iload d_L_law_2383 0 rfl ?_
                  refine v_join2 (pj := 2393) (lj := fun sw0_2393 sw1_2393 => [(0, xA 1), (1, xA a1), (2, xA a2), (3, xA a3), (4, xI v4)]) (sj := fun sw0_2393 sw1_2393 => [xJ sw1_2393, xJ sw0_2393]) (fun sw0_2393 sw1_2393 M => ?_) (fun j2393 hj2393 => ?_)
                  · refine v_lcmp d_L_law_2393 ?_
                    refine v_ifeq d_L_law_2394 ?_ ?_
                    · exact hj2399 M
                    · refine v_iconst d_L_law_2397 (by decide) ?_
                      exact v_zret d_L_law_2398 rfl
                  refine v_ifeq d_L_law_2385 ?_ ?_
                  · refine v_lconst d_L_law_2392 (v := 0) rfl ?_
                    refine v_sub (ls' := [(0, xA 1), (1, xA a1), (2, xA a2), (3, xA a3), (4, xI v4)]) [1, 2, 3, 4, 5] rfl ?_
                    exact hj2393 x2382 0 M
                  · refine v_lconst d_L_law_2388 (v := 1) rfl ?_
                    refine v_goto d_L_law_2389 ?_
                    refine v_sub (ls' := [(0, xA 1), (1, xA a1), (2, xA a2), (3, xA a3), (4, xI v4)]) [1, 2, 3, 4, 5] rfl ?_
                    exact hj2393 x2382 1 M
              · refine v_iconst d_L_law_2373 (by decide) ?_
                exact v_zret d_L_law_2374 rfl
            refine v_ifeq d_L_law_2351 ?_ ?_
            · refine v_iconst d_L_law_2358 (by decide) ?_
              refine v_sub (ls' := [(0, xA 1), (1, xA a1), (2, xA a2), (3, xA a3), (4, xI v4), (5, xI v5_2336)]) [1, 2, 3, 4, 5, 0] rfl ?_
              exact hj2359 a2 x2344 0 M
            · refine v_iconst d_L_law_2354 (by decide) ?_
              refine v_goto d_L_law_2355 ?_
              refine v_sub (ls' := [(0, xA 1), (1, xA a1), (2, xA a2), (3, xA a3), (4, xI v4), (5, xI v5_2336)]) [1, 2, 3, 4, 5, 0] rfl ?_
              exact hj2359 a2 x2344 1 M
          refine v_ifeq d_L_law_2324 ?_ ?_
          · refine v_iconst d_L_law_2331 (by decide) ?_
            exact hj2332 a1 x2317 0 M
          · refine v_iconst d_L_law_2327 (by decide) ?_
            refine v_goto d_L_law_2328 ?_
            exact hj2332 a1 x2317 1 M
        | 43, _ =>
          show V_ l w q_L_law 62 ex_Z 2402 [(0, xA 1), (1, xA a1), (2, xA a2), (3, xA a3), (4, xI v4)] [] M _
          refine v_aloadn d_L_law_2402 rfl 1 rfl ?_
          refine v_aloadn d_L_law_2403 rfl 0 rfl ?_
          refine v_iload d_L_law_2404 4 rfl ?_
          refine v_iconst d_L_law_2406 (by decide) ?_
          refine v_iadd d_L_law_2407 (fun x2407 => ?_)
          refine v_sld d_L_law_2408 (fun x2408 => ?_) hL
          refine v_cVi d_L_law_2409 ml_L_292 (q := (RX10, TX10, 10)) rfl (c_X_lyndon l hfl a1 x2408 M) (fun _ => rfl) (by decide) (by decide) (as := [xI x2408]) (st1 := []) rfl rfl (Nat.le_of_ble_eq_true rfl) (fun c2409 M => ?_)
          refine v_aloadn d_L_law_2412 rfl 2 rfl ?_
          refine v_aloadn d_L_law_2413 rfl 0 rfl ?_
          refine v_iload d_L_law_2414 4 rfl ?_
          refine v_iconst d_L_law_2416 (by decide) ?_
          refine v_iadd d_L_law_2417 (fun x2417 => ?_)
          refine v_sld d_L_law_2418 (fun x2418 => ?_) hL
          refine v_cVi d_L_law_2419 ml_L_295 (q := (RX11, TX11, 32)) rfl (c_M_lyndon l hfl a2 x2418 M) (fun _ => rfl) (by decide) (by decide) (as := [xI x2418]) (st1 := [xI c2409]) rfl rfl (Nat.le_of_ble_eq_true rfl) (fun c2419 M => ?_)
          refine v_iceq d_L_law_2422 ?_ ?_
          · exact hj2799 M
          · refine v_iconst d_L_law_2425 (by decide) ?_
            exact v_zret d_L_law_2426 rfl
        | 44, _ =>
          show V_ l w q_L_law 62 ex_Z 2427 [(0, xA 1), (1, xA a1), (2, xA a2), (3, xA a3), (4, xI v4)] [] M _
          refine v_aloadn d_L_law_2427 rfl 1 rfl ?_
          refine v_cVi d_L_law_2428 ml_L_296 (q := (RX10, TX10, 10)) rfl (c_X_turned l hfl a1 M) (fun _ => rfl) (by decide) (by decide) (as := []) (st1 := []) rfl rfl (Nat.le_of_ble_eq_true rfl) (fun c2428 M => ?_)
          refine v_aloadn d_L_law_2431 rfl 2 rfl ?_
          refine v_cVi d_L_law_2432 ml_L_299 (q := (RX11, TX11, 32)) rfl (c_M_turned l hfl a2 M) (fun _ => rfl) (by decide) (by decide) (as := []) (st1 := [xI c2428]) rfl rfl (Nat.le_of_ble_eq_true rfl) (fun c2432 M => ?_)
          refine v_iceq d_L_law_2435 ?_ ?_
          · exact hj2799 M
          · refine v_iconst d_L_law_2438 (by decide) ?_
            exact v_zret d_L_law_2439 rfl
        | 45, _ =>
          show V_ l w q_L_law 62 ex_Z 2440 [(0, xA 1), (1, xA a1), (2, xA a2), (3, xA a3), (4, xI v4)] [] M _
          refine v_aloadn d_L_law_2440 rfl 1 rfl ?_
          refine v_aloadn d_L_law_2441 rfl 0 rfl ?_
          refine v_iload d_L_law_2442 4 rfl ?_
          refine v_iconst d_L_law_2444 (by decide) ?_
          refine v_iadd d_L_law_2445 (fun x2445 => ?_)
          refine v_sld d_L_law_2446 (fun x2446 => ?_) hL
          refine v_aloadn d_L_law_2447 rfl 3 rfl ?_
          refine v_cSWi d_L_law_2448 ml_L_300 (c_L_local l hfl a1 x2446 a3 M) (fun _ => rfl) (by decide) (by decide) (as := [xA a1, xI x2446, xA a3]) (st1 := []) rfl rfl (Nat.le_of_ble_eq_true rfl) (fun c2448 M => ?_)
          refine v_istore (lz := fun z => [(5, xI z), (0, xA 1), (1, xA a1), (2, xA a2), (3, xA a3), (4, xI v4)]) d_L_law_2451 (Nat.le_of_ble_eq_true rfl) (fun _ => rfl) (fun v5_2451 => ?_)
          refine v_aloadn d_L_law_2453 rfl 3 rfl ?_
          refine v_aloadn d_L_law_2454 rfl 1 rfl ?_
          refine v_iload d_L_law_2455 5 rfl ?_
          refine v_iconst d_L_law_2457 (by decide) ?_
          refine v_iadd d_L_law_2458 (fun x2458 => ?_)
          refine v_sld d_L_law_2459 (fun x2459 => ?_) hL
          refine v_cVi d_L_law_2460 ml_L_302 (q := (RX11, TX11, 32)) rfl (c_M_local l hfl a2 x2459 M) (fun _ => rfl) (by decide) (by decide) (as := [xI x2459]) (st1 := []) rfl rfl (Nat.le_of_ble_eq_true rfl) (fun c2460 M => ?_)
          refine v_istore (lz := fun z => [(6, xI z), (5, xI v5_2451), (0, xA 1), (1, xA a1), (2, xA a2), (3, xA a3), (4, xI v4)]) d_L_law_2463 (Nat.le_of_ble_eq_true rfl) (fun _ => rfl) (fun v6_2463 => ?_)
          refine v_aloadn d_L_law_2465 rfl 4 rfl ?_
          refine v_cVi d_L_law_2466 ml_L_148 (q := (RX11, TX11, 32)) rfl (c_M_thrown l hfl a2 M) (fun _ => rfl) (by decide) (by decide) (as := []) (st1 := []) rfl rfl (Nat.le_of_ble_eq_true rfl) (fun c2466 M => ?_)
          refine v_iload d_L_law_2469 1 rfl ?_
          refine v_iceq d_L_law_2471 ?_ ?_
          · refine v_iload d_L_law_2476 1 rfl ?_
            refine v_join0 (pj := 2493) (lj := [(0, xA 1), (1, xA a1), (2, xA a2), (3, xA a3), (4, xI v4)]) (sj := []) (fun M => ?_) (fun j2493 hj2493 => ?_)
            · refine v_goto d_L_law_2493 ?_
              exact hj2799 M
            refine v_ifne d_L_law_2478 ?_ ?_
            · refine v_sub (ls' := [(0, xA 1), (1, xA a1), (2, xA a2), (3, xA a3), (4, xI v4)]) [2, 3, 4, 5, 6] rfl ?_
              exact hj2493 M
            · refine v_aloadn d_L_law_2481 rfl 5 rfl ?_
              refine v_iconst d_L_law_2482 (by decide) ?_
              refine v_lald d_L_law_2483 (fun x2483 => ?_)
              refine v_iload d_L_law_2484 0 rfl ?_
              refine v_i2l d_L_law_2486 ?_
              refine v_lcmp d_L_law_2487 ?_
              refine v_ifeq d_L_law_2488 ?_ ?_
              · refine v_sub (ls' := [(0, xA 1), (1, xA a1), (2, xA a2), (3, xA a3), (4, xI v4)]) [2, 3, 4, 5, 6] rfl ?_
                exact hj2493 M
              · refine v_iconst d_L_law_2491 (by decide) ?_
                exact v_zret d_L_law_2492 rfl
          · refine v_iconst d_L_law_2474 (by decide) ?_
            exact v_zret d_L_law_2475 rfl
        | 46, _ =>
          show V_ l w q_L_law 62 ex_Z 2496 [(0, xA 1), (1, xA a1), (2, xA a2), (3, xA a3), (4, xI v4)] [] M _
          refine v_aloadn d_L_law_2496 rfl 1 rfl ?_
          refine v_aloadn d_L_law_2497 rfl 0 rfl ?_
          refine v_iload d_L_law_2498 4 rfl ?_
          refine v_iconst d_L_law_2500 (by decide) ?_
          refine v_iadd d_L_law_2501 (fun x2501 => ?_)
          refine v_sld d_L_law_2502 (fun x2502 => ?_) hL
          refine v_aloadn d_L_law_2503 rfl 0 rfl ?_
          refine v_iload d_L_law_2504 4 rfl ?_
          refine v_iconst d_L_law_2506 (by decide) ?_
          refine v_iadd d_L_law_2507 (fun x2507 => ?_)
          refine v_sld d_L_law_2508 (fun x2508 => ?_) hL
          refine v_aloadn d_L_law_2509 rfl 0 rfl ?_
          refine v_iload d_L_law_2510 4 rfl ?_
          refine v_iconst d_L_law_2512 (by decide) ?_
          refine v_iadd d_L_law_2513 (fun x2513 => ?_)
          refine v_sld d_L_law_2514 (fun x2514 => ?_) hL
          refine v_aloadn d_L_law_2515 rfl 3 rfl ?_
          refine v_cSWi d_L_law_2516 ml_L_303 (c_L_fill l hfl a1 x2502 x2508 x2514 a3 M) (fun _ => rfl) (by decide) (by decide) (as := [xA a1, xI x2502, xI x2508, xI x2514, xA a3]) (st1 := []) rfl rfl (Nat.le_of_ble_eq_true rfl) (fun c2516 M => ?_)
          refine v_istore (lz := fun z => [(5, xI z), (0, xA 1), (1, xA a1), (2, xA a2), (3, xA a3), (4, xI v4)]) d_L_law_2519 (Nat.le_of_ble_eq_true rfl) (fun _ => rfl) (fun v5_2519 => ?_)
          refine v_aloadn d_L_law_2521 rfl 3 rfl ?_
          refine v_aloadn d_L_law_2522 rfl 1 rfl ?_
          refine v_iload d_L_law_2523 5 rfl ?_
          refine v_iconst d_L_law_2525 (by decide) ?_
          refine v_iadd d_L_law_2526 (fun x2526 => ?_)
          refine v_sld d_L_law_2527 (fun x2527 => ?_) hL
          refine v_aloadn d_L_law_2528 rfl 1 rfl ?_
          refine v_iload d_L_law_2529 5 rfl ?_
          refine v_iconst d_L_law_2531 (by decide) ?_
          refine v_iadd d_L_law_2532 (fun x2532 => ?_)
          refine v_sld d_L_law_2533 (fun x2533 => ?_) hL
          refine v_aloadn d_L_law_2534 rfl 1 rfl ?_
          refine v_iload d_L_law_2535 5 rfl ?_
          refine v_iconst d_L_law_2537 (by decide) ?_
          refine v_iadd d_L_law_2538 (fun x2538 => ?_)
          refine v_sld d_L_law_2539 (fun x2539 => ?_) hL
          refine v_cVi d_L_law_2540 ml_L_305 (q := (RX11, TX11, 32)) rfl (c_M_fill l hfl a2 x2527 x2533 x2539 M) (fun _ => rfl) (by decide) (by decide) (as := [xI x2527, xI x2533, xI x2539]) (st1 := []) rfl rfl (Nat.le_of_ble_eq_true rfl) (fun c2540 M => ?_)
          refine v_istore (lz := fun z => [(6, xI z), (5, xI v5_2519), (0, xA 1), (1, xA a1), (2, xA a2), (3, xA a3), (4, xI v4)]) d_L_law_2543 (Nat.le_of_ble_eq_true rfl) (fun _ => rfl) (fun v6_2543 => ?_)
          refine v_aloadn d_L_law_2545 rfl 4 rfl ?_
          refine v_cVi d_L_law_2546 ml_L_148 (q := (RX11, TX11, 32)) rfl (c_M_thrown l hfl a2 M) (fun _ => rfl) (by decide) (by decide) (as := []) (st1 := []) rfl rfl (Nat.le_of_ble_eq_true rfl) (fun c2546 M => ?_)
          refine v_iload d_L_law_2549 1 rfl ?_
          refine v_iceq d_L_law_2551 ?_ ?_
          · refine v_iload d_L_law_2556 1 rfl ?_
            refine v_join0 (pj := 2573) (lj := [(0, xA 1), (1, xA a1), (2, xA a2), (3, xA a3), (4, xI v4)]) (sj := []) (fun M => ?_) (fun j2573 hj2573 => ?_)
            · refine v_goto d_L_law_2573 ?_
              exact hj2799 M
            refine v_ifne d_L_law_2558 ?_ ?_
            · refine v_sub (ls' := [(0, xA 1), (1, xA a1), (2, xA a2), (3, xA a3), (4, xI v4)]) [2, 3, 4, 5, 6] rfl ?_
              exact hj2573 M
            · refine v_aloadn d_L_law_2561 rfl 5 rfl ?_
              refine v_iconst d_L_law_2562 (by decide) ?_
              refine v_lald d_L_law_2563 (fun x2563 => ?_)
              refine v_iload d_L_law_2564 0 rfl ?_
              refine v_i2l d_L_law_2566 ?_
              refine v_lcmp d_L_law_2567 ?_
              refine v_ifeq d_L_law_2568 ?_ ?_
              · refine v_sub (ls' := [(0, xA 1), (1, xA a1), (2, xA a2), (3, xA a3), (4, xI v4)]) [2, 3, 4, 5, 6] rfl ?_
                exact hj2573 M
              · refine v_iconst d_L_law_2571 (by decide) ?_
                exact v_zret d_L_law_2572 rfl
          · refine v_iconst d_L_law_2554 (by decide) ?_
            exact v_zret d_L_law_2555 rfl
        | 47, _ =>
          show V_ l w q_L_law 62 ex_Z 2576 [(0, xA 1), (1, xA a1), (2, xA a2), (3, xA a3), (4, xI v4)] [] M _
          refine v_aloadn d_L_law_2576 rfl 1 rfl ?_
          refine v_aloadn d_L_law_2577 rfl 0 rfl ?_
          refine v_iload d_L_law_2578 4 rfl ?_
          refine v_iconst d_L_law_2580 (by decide) ?_
          refine v_iadd d_L_law_2581 (fun x2581 => ?_)
          refine v_sld d_L_law_2582 (fun x2582 => ?_) hL
          refine v_aloadn d_L_law_2583 rfl 3 rfl ?_
          refine v_cSWi d_L_law_2584 ml_L_306 (c_L_sources l hfl a1 x2582 a3 M) (fun _ => rfl) (by decide) (by decide) (as := [xA a1, xI x2582, xA a3]) (st1 := []) rfl rfl (Nat.le_of_ble_eq_true rfl) (fun c2584 M => ?_)
          refine v_istore (lz := fun z => [(5, xI z), (0, xA 1), (1, xA a1), (2, xA a2), (3, xA a3), (4, xI v4)]) d_L_law_2587 (Nat.le_of_ble_eq_true rfl) (fun _ => rfl) (fun v5_2587 => ?_)
          refine v_aloadn d_L_law_2589 rfl 3 rfl ?_
          refine v_aloadn d_L_law_2590 rfl 1 rfl ?_
          refine v_iload d_L_law_2591 5 rfl ?_
          refine v_iconst d_L_law_2593 (by decide) ?_
          refine v_iadd d_L_law_2594 (fun x2594 => ?_)
          refine v_sld d_L_law_2595 (fun x2595 => ?_) hL
          refine v_cVl d_L_law_2596 ml_L_308 (q := (RX11, TX11, 32)) rfl (c_M_sources l hfl a2 x2595 M) (fun _ => rfl) (by decide) (by decide) (as := [xI x2595]) (st1 := []) rfl rfl (Nat.le_of_ble_eq_true rfl) (fun c2596 M => ?_)
          refine v_lstore (lz := fun z => [(6, xJ z), (5, xI v5_2587), (0, xA 1), (1, xA a1), (2, xA a2), (3, xA a3), (4, xI v4)]) d_L_law_2599 (Nat.le_of_ble_eq_true rfl) (fun _ => rfl) (fun w6_2599 => ?_)
          refine v_aloadn d_L_law_2601 rfl 4 rfl ?_
          refine v_cVi d_L_law_2602 ml_L_148 (q := (RX11, TX11, 32)) rfl (c_M_thrown l hfl a2 M) (fun _ => rfl) (by decide) (by decide) (as := []) (st1 := []) rfl rfl (Nat.le_of_ble_eq_true rfl) (fun c2602 M => ?_)
          refine v_iload d_L_law_2605 1 rfl ?_
          refine v_iceq d_L_law_2607 ?_ ?_
          · refine v_iload d_L_law_2612 1 rfl ?_
            refine v_join0 (pj := 2628) (lj := [(0, xA 1), (1, xA a1), (2, xA a2), (3, xA a3), (4, xI v4)]) (sj := []) (fun M => ?_) (fun j2628 hj2628 => ?_)
            · refine v_goto d_L_law_2628 ?_
              exact hj2799 M
            refine v_ifne d_L_law_2614 ?_ ?_
            · refine v_sub (ls' := [(0, xA 1), (1, xA a1), (2, xA a2), (3, xA a3), (4, xI v4)]) [2, 3, 4, 5, 6] rfl ?_
              exact hj2628 M
            · refine v_aloadn d_L_law_2617 rfl 5 rfl ?_
              refine v_iconst d_L_law_2618 (by decide) ?_
              refine v_lald d_L_law_2619 (fun x2619 => ?_)
              refine v_lload d_L_law_2620 0 rfl ?_
              refine v_lcmp d_L_law_2622 ?_
              refine v_ifeq d_L_law_2623 ?_ ?_
              · refine v_sub (ls' := [(0, xA 1), (1, xA a1), (2, xA a2), (3, xA a3), (4, xI v4)]) [2, 3, 4, 5, 6] rfl ?_
                exact hj2628 M
              · refine v_iconst d_L_law_2626 (by decide) ?_
                exact v_zret d_L_law_2627 rfl
          · refine v_iconst d_L_law_2610 (by decide) ?_
            exact v_zret d_L_law_2611 rfl
        | 48, _ =>
          show V_ l w q_L_law 62 ex_Z 2631 [(0, xA 1), (1, xA a1), (2, xA a2), (3, xA a3), (4, xI v4)] [] M _
          refine v_aloadn d_L_law_2631 rfl 1 rfl ?_
          refine v_aloadn d_L_law_2632 rfl 0 rfl ?_
          refine v_iload d_L_law_2633 4 rfl ?_
          refine v_iconst d_L_law_2635 (by decide) ?_
          refine v_iadd d_L_law_2636 (fun x2636 => ?_)
          refine v_sld d_L_law_2637 (fun x2637 => ?_) hL
          refine v_aloadn d_L_law_2638 rfl 3 rfl ?_
          refine v_cSWi d_L_law_2639 ml_L_309 (c_L_code l hfl a1 x2637 a3 M) (fun _ => rfl) (by decide) (by decide) (as := [xA a1, xI x2637, xA a3]) (st1 := []) rfl rfl (Nat.le_of_ble_eq_true rfl) (fun c2639 M => ?_)
          refine v_istore (lz := fun z => [(5, xI z), (0, xA 1), (1, xA a1), (2, xA a2), (3, xA a3), (4, xI v4)]) d_L_law_2642 (Nat.le_of_ble_eq_true rfl) (fun _ => rfl) (fun v5_2642 => ?_)
          refine v_aloadn d_L_law_2644 rfl 3 rfl ?_
          refine v_aloadn d_L_law_2645 rfl 1 rfl ?_
          refine v_iload d_L_law_2646 5 rfl ?_
          refine v_iconst d_L_law_2648 (by decide) ?_
          refine v_iadd d_L_law_2649 (fun x2649 => ?_)
          refine v_sld d_L_law_2650 (fun x2650 => ?_) hL
          refine v_cVi d_L_law_2651 ml_L_311 (q := (RX11, TX11, 32)) rfl (c_M_code l hfl a2 x2650 M) (fun _ => rfl) (by decide) (by decide) (as := [xI x2650]) (st1 := []) rfl rfl (Nat.le_of_ble_eq_true rfl) (fun c2651 M => ?_)
          refine v_istore (lz := fun z => [(6, xI z), (5, xI v5_2642), (0, xA 1), (1, xA a1), (2, xA a2), (3, xA a3), (4, xI v4)]) d_L_law_2654 (Nat.le_of_ble_eq_true rfl) (fun _ => rfl) (fun v6_2654 => ?_)
          refine v_aloadn d_L_law_2656 rfl 4 rfl ?_
          refine v_cVi d_L_law_2657 ml_L_148 (q := (RX11, TX11, 32)) rfl (c_M_thrown l hfl a2 M) (fun _ => rfl) (by decide) (by decide) (as := []) (st1 := []) rfl rfl (Nat.le_of_ble_eq_true rfl) (fun c2657 M => ?_)
          refine v_iload d_L_law_2660 1 rfl ?_
          refine v_iceq d_L_law_2662 ?_ ?_
          · refine v_iload d_L_law_2667 1 rfl ?_
            refine v_join0 (pj := 2691) (lj := [(0, xA 1), (1, xA a1), (2, xA a2), (3, xA a3), (4, xI v4)]) (sj := []) (fun M => ?_) (fun j2691 hj2691 => ?_)
            · refine v_goto d_L_law_2691 ?_
              exact hj2799 M
            refine v_ifne d_L_law_2669 ?_ ?_
            · refine v_sub (ls' := [(0, xA 1), (1, xA a1), (2, xA a2), (3, xA a3), (4, xI v4)]) [2, 3, 4, 5, 6] rfl ?_
              exact hj2691 M
            · refine v_aloadn d_L_law_2672 rfl 5 rfl ?_
              refine v_iconst d_L_law_2673 (by decide) ?_
              refine v_lald d_L_law_2674 (fun x2674 => ?_)
              refine v_iload d_L_law_2675 0 rfl ?_
              refine v_join2 (pj := 2685) (lj := fun sw0_2685 sw1_2685 => [(0, xA 1), (1, xA a1), (2, xA a2), (3, xA a3), (4, xI v4)]) (sj := fun sw0_2685 sw1_2685 => [xJ sw1_2685, xJ sw0_2685]) (fun sw0_2685 sw1_2685 M => ?_) (fun j2685 hj2685 => ?_)
              · refine v_lcmp d_L_law_2685 ?_
                refine v_ifeq d_L_law_2686 ?_ ?_
                · exact hj2691 M
                · refine v_iconst d_L_law_2689 (by decide) ?_
                  exact v_zret d_L_law_2690 rfl
              refine v_ifeq d_L_law_2677 ?_ ?_
              · refine v_lconst d_L_law_2684 (v := 0) rfl ?_
                refine v_sub (ls' := [(0, xA 1), (1, xA a1), (2, xA a2), (3, xA a3), (4, xI v4)]) [2, 3, 4, 5, 6] rfl ?_
                exact hj2685 x2674 0 M
              · refine v_lconst d_L_law_2680 (v := 1) rfl ?_
                refine v_goto d_L_law_2681 ?_
                refine v_sub (ls' := [(0, xA 1), (1, xA a1), (2, xA a2), (3, xA a3), (4, xI v4)]) [2, 3, 4, 5, 6] rfl ?_
                exact hj2685 x2674 1 M
          · refine v_iconst d_L_law_2665 (by decide) ?_
            exact v_zret d_L_law_2666 rfl
        | 49, _ =>
          show V_ l w q_L_law 62 ex_Z 2694 [(0, xA 1), (1, xA a1), (2, xA a2), (3, xA a3), (4, xI v4)] [] M _
          refine v_aloadn d_L_law_2694 rfl 1 rfl ?_
          refine v_aloadn d_L_law_2695 rfl 0 rfl ?_
          refine v_iload d_L_law_2696 4 rfl ?_
          refine v_iconst d_L_law_2698 (by decide) ?_
          refine v_iadd d_L_law_2699 (fun x2699 => ?_)
          refine v_sld d_L_law_2700 (fun x2700 => ?_) hL
          refine v_aloadn d_L_law_2701 rfl 0 rfl ?_
          refine v_iload d_L_law_2702 4 rfl ?_
          refine v_iconst d_L_law_2704 (by decide) ?_
          refine v_iadd d_L_law_2705 (fun x2705 => ?_)
          refine v_sld d_L_law_2706 (fun x2706 => ?_) hL
          refine v_aloadn d_L_law_2707 rfl 0 rfl ?_
          refine v_iload d_L_law_2708 4 rfl ?_
          refine v_iconst d_L_law_2710 (by decide) ?_
          refine v_iadd d_L_law_2711 (fun x2711 => ?_)
          refine v_sld d_L_law_2712 (fun x2712 => ?_) hL
          refine v_aloadn d_L_law_2713 rfl 3 rfl ?_
          refine v_cSWi d_L_law_2714 ml_L_312 (c_L_whole l hfl a1 x2700 x2706 x2712 a3 M) (fun _ => rfl) (by decide) (by decide) (as := [xA a1, xI x2700, xI x2706, xI x2712, xA a3]) (st1 := []) rfl rfl (Nat.le_of_ble_eq_true rfl) (fun c2714 M => ?_)
          refine v_istore (lz := fun z => [(5, xI z), (0, xA 1), (1, xA a1), (2, xA a2), (3, xA a3), (4, xI v4)]) d_L_law_2717 (Nat.le_of_ble_eq_true rfl) (fun _ => rfl) (fun v5_2717 => ?_)
          refine v_aloadn d_L_law_2719 rfl 3 rfl ?_
          refine v_aloadn d_L_law_2720 rfl 1 rfl ?_
          refine v_iload d_L_law_2721 5 rfl ?_
          refine v_iconst d_L_law_2723 (by decide) ?_
          refine v_iadd d_L_law_2724 (fun x2724 => ?_)
          refine v_sld d_L_law_2725 (fun x2725 => ?_) hL
          refine v_aloadn d_L_law_2726 rfl 1 rfl ?_
          refine v_iload d_L_law_2727 5 rfl ?_
          refine v_iconst d_L_law_2729 (by decide) ?_
          refine v_iadd d_L_law_2730 (fun x2730 => ?_)
          refine v_sld d_L_law_2731 (fun x2731 => ?_) hL
          refine v_aloadn d_L_law_2732 rfl 1 rfl ?_
          refine v_iload d_L_law_2733 5 rfl ?_
          refine v_iconst d_L_law_2735 (by decide) ?_
          refine v_iadd d_L_law_2736 (fun x2736 => ?_)
          refine v_sld d_L_law_2737 (fun x2737 => ?_) hL
          refine v_cVi d_L_law_2738 ml_L_314 (q := (RX11, TX11, 32)) rfl (c_M_whole l hfl a2 x2725 x2731 x2737 M) (fun _ => rfl) (by decide) (by decide) (as := [xI x2725, xI x2731, xI x2737]) (st1 := []) rfl rfl (Nat.le_of_ble_eq_true rfl) (fun c2738 M => ?_)
          refine v_istore (lz := fun z => [(6, xI z), (5, xI v5_2717), (0, xA 1), (1, xA a1), (2, xA a2), (3, xA a3), (4, xI v4)]) d_L_law_2741 (Nat.le_of_ble_eq_true rfl) (fun _ => rfl) (fun v6_2741 => ?_)
          refine v_aloadn d_L_law_2743 rfl 4 rfl ?_
          refine v_cVi d_L_law_2744 ml_L_148 (q := (RX11, TX11, 32)) rfl (c_M_thrown l hfl a2 M) (fun _ => rfl) (by decide) (by decide) (as := []) (st1 := []) rfl rfl (Nat.le_of_ble_eq_true rfl) (fun c2744 M => ?_)
          refine v_iload d_L_law_2747 1 rfl ?_
          refine v_iceq d_L_law_2749 ?_ ?_
          · refine v_iload d_L_law_2754 1 rfl ?_
            refine v_join0 (pj := 2771) (lj := [(0, xA 1), (1, xA a1), (2, xA a2), (3, xA a3), (4, xI v4)]) (sj := []) (fun M => ?_) (fun j2771 hj2771 => ?_)
            · refine v_goto d_L_law_2771 ?_
              exact hj2799 M
            refine v_ifne d_L_law_2756 ?_ ?_
            · refine v_sub (ls' := [(0, xA 1), (1, xA a1), (2, xA a2), (3, xA a3), (4, xI v4)]) [2, 3, 4, 5, 6] rfl ?_
              exact hj2771 M
            · refine v_aloadn d_L_law_2759 rfl 5 rfl ?_
              refine v_iconst d_L_law_2760 (by decide) ?_
              refine v_lald d_L_law_2761 (fun x2761 => ?_)
              refine v_iload d_L_law_2762 0 rfl ?_
              refine v_i2l d_L_law_2764 ?_
              refine v_lcmp d_L_law_2765 ?_
              refine v_ifeq d_L_law_2766 ?_ ?_
              · refine v_sub (ls' := [(0, xA 1), (1, xA a1), (2, xA a2), (3, xA a3), (4, xI v4)]) [2, 3, 4, 5, 6] rfl ?_
                exact hj2771 M
              · refine v_iconst d_L_law_2769 (by decide) ?_
                exact v_zret d_L_law_2770 rfl
          · refine v_iconst d_L_law_2752 (by decide) ?_
            exact v_zret d_L_law_2753 rfl
        | 50, _ =>
          show V_ l w q_L_law 62 ex_Z 2774 [(0, xA 1), (1, xA a1), (2, xA a2), (3, xA a3), (4, xI v4)] [] M _
          refine v_aloadn d_L_law_2774 rfl 1 rfl ?_
          refine v_aloadn d_L_law_2775 rfl 0 rfl ?_
          refine v_iload d_L_law_2776 4 rfl ?_
          refine v_iconst d_L_law_2778 (by decide) ?_
          refine v_iadd d_L_law_2779 (fun x2779 => ?_)
          refine v_sld d_L_law_2780 (fun x2780 => ?_) hL
          refine v_cVi d_L_law_2781 ml_L_315 (q := (RX10, TX10, 10)) rfl (c_X_count l hfl a1 x2780 M) (fun _ => rfl) (by decide) (by decide) (as := [xI x2780]) (st1 := []) rfl rfl (Nat.le_of_ble_eq_true rfl) (fun c2781 M => ?_)
          refine v_aloadn d_L_law_2784 rfl 2 rfl ?_
          refine v_aloadn d_L_law_2785 rfl 0 rfl ?_
          refine v_iload d_L_law_2786 4 rfl ?_
          refine v_iconst d_L_law_2788 (by decide) ?_
          refine v_iadd d_L_law_2789 (fun x2789 => ?_)
          refine v_sld d_L_law_2790 (fun x2790 => ?_) hL
          refine v_cVi d_L_law_2791 ml_L_318 (q := (RX11, TX11, 32)) rfl (c_M_count l hfl a2 x2790 M) (fun _ => rfl) (by decide) (by decide) (as := [xI x2790]) (st1 := [xI c2781]) rfl rfl (Nat.le_of_ble_eq_true rfl) (fun c2791 M => ?_)
          refine v_iceq d_L_law_2794 ?_ ?_
          · exact hj2799 M
          · refine v_iconst d_L_law_2797 (by decide) ?_
            exact v_zret d_L_law_2798 rfl
        | i + 51, hi => exact absurd hi (by omega)
      · exact hj2799 M
set_option maxHeartbeats 40000000 in
set_option maxRecDepth 100000 in
theorem c_L_law {l : Launch} {w : vm_W} (hfl : l.stackTraces = false) (hL : vm_L w < 2147483648) (M : mm_T) : V_ l w q_L_law 62 ex_Z 0 [(0, xA 1)] [] M (k_L_law (vm_L w) (vm_xz w) M) := by
  unfold k_L_law
  refine v_new d_L_law_0 (q := (RX10, TX10, 10)) rfl rfl gw_135 gw_136 gw_111 df_10 (fun r0 M => ?_)
  refine v_dup d_L_law_3 rfl ?_
  refine v_cIv d_L_law_4 ml_L_129 (q := (RX10, TX10, 10)) rfl (c_X_init l hfl r0 M) (fun _ => rfl) (by decide) (by decide) (as := []) (st1 := [xA r0]) rfl rfl (Nat.le_of_ble_eq_true rfl) (fun _ M => ?_)
  refine v_astoren (lz := fun z => [(1, xA z), (0, xA 1)]) d_L_law_7 rfl (Nat.le_of_ble_eq_true rfl) (fun _ => rfl) (fun a1_7 => ?_)
  refine v_new d_L_law_8 (q := (RX11, TX11, 32)) rfl rfl gw_1373 gw_1374 gw_122 df_11 (fun r8 M => ?_)
  refine v_dup d_L_law_11 rfl ?_
  refine v_cIv d_L_law_12 ml_L_132 (q := (RX11, TX11, 32)) rfl (c_M_init l hfl r8 M) (fun _ => rfl) (by decide) (by decide) (as := []) (st1 := [xA r8]) rfl rfl (Nat.le_of_ble_eq_true rfl) (fun _ M => ?_)
  refine v_astoren (lz := fun z => [(2, xA z), (1, xA a1_7), (0, xA 1)]) d_L_law_15 rfl (Nat.le_of_ble_eq_true rfl) (fun _ => rfl) (fun a2_15 => ?_)
  refine v_iconst d_L_law_16 (by decide) ?_
  refine v_newa (t := 3) d_L_law_17 rfl gw_424 rfl (by decide) (fun r17 M => ?_)
  refine v_astoren (lz := fun z => [(3, xA z), (2, xA a2_15), (1, xA a1_7), (0, xA 1)]) d_L_law_19 rfl (Nat.le_of_ble_eq_true rfl) (fun _ => rfl) (fun a3_19 => ?_)
  refine v_iconst d_L_law_20 (by decide) ?_
  refine v_istore (lz := fun z => [(4, xI z), (3, xA a3_19), (2, xA a2_15), (1, xA a1_7), (0, xA 1)]) d_L_law_21 (Nat.le_of_ble_eq_true rfl) (fun _ => rfl) (fun v4_21 => ?_)
  refine v_sub (ls' := [(0, xA 1), (1, xA a1_7), (2, xA a2_15), (3, xA a3_19), (4, xI v4_21)]) [4, 3, 2, 1, 0] rfl ?_
  refine V_lp_L_law_23 hfl hL _ _ _ _ (fun M => ?_) _ _ _
  · refine v_iconst d_L_law_2805 (by decide) ?_
    exact v_zret d_L_law_2806 rfl
