/-! the law's cases -/
theorem lc_append {G : bc_G} {b Ls : Nat} {xs : Nat → Int32} {j u v : Nat} {M : bc_M} {y6 y7 y8 : Option Value} (hK : KK M (j : Int)) (hj : 6 * (j : Int) + 5 < (Ls : Int)) (hL : Ls ≤ 3072) (hu : u + 5 ≤ 601024) (hv : v + 40 ≤ 7293034) (K : ∀ (M' : bc_M) (y6 y7 y8 : Option Value), KK M' ((j : Int) + 1) → bg_W G RL cL_law 9 ret room_1 (lw_T G b Ls xs) lw_E (u + 5) (v + 40) 3074 [some (.ref b), some (vR G 1 0), some (vR G 33 0), some (vR G 51 0), some (vR G 52 0), some (vI (6 * (j : Int))), y6, y7, y8] [] M') : bg_W G RL cL_law 9 ret room_1 (lw_T G b Ls xs) lw_E u v 252 [some (.ref b), some (vR G 1 0), some (vR G 33 0), some (vR G 51 0), some (vR G 52 0), some (vI (6 * (j : Int))), y6, y7, y8] [] M := by
  refine wg_aload_n eL_law_252 rfl ?_
  refine wg_aload_no eL_law_253 rfl ?_
  refine wg_iload eL_law_254 rfl ?_
  refine wg_iconst eL_law_256 ?_
  refine wg_iadd eL_law_257 ?_
  refine wg_sld eL_law_258 ?_
  refine wg_aload_no eL_law_259 rfl ?_
  refine wg_iload eL_law_260 rfl ?_
  refine wg_iconst eL_law_262 ?_
  refine wg_iadd eL_law_263 ?_
  refine wg_sld eL_law_264 ?_
  refine wg_aload_no eL_law_265 rfl ?_
  refine wg_iload eL_law_266 rfl ?_
  refine wg_iconst eL_law_268 ?_
  refine wg_iadd eL_law_269 ?_
  refine wg_sld eL_law_270 ?_
  refine wg_aload_no eL_law_271 rfl ?_
  refine wg_iload eL_law_272 rfl ?_
  refine wg_iconst eL_law_274 ?_
  refine wg_iadd eL_law_275 ?_
  refine wg_sld eL_law_276 ?_
  refine wg_aload_no eL_law_277 rfl ?_
  refine wg_iload eL_law_278 rfl ?_
  refine wg_iconst eL_law_280 ?_
  refine wg_iadd eL_law_281 ?_
  refine wg_sld eL_law_282 ?_
  refine wg_aload_n eL_law_283 rfl ?_
  refine bg_callSH (hh := [(0, 16, 19, 13)]) (n := 7) (As := [vR G 1 0, vI (sx xs (6 * (j : Int) + 1)), vI (sx xs (6 * (j : Int) + 2)), vI (sx xs (6 * (j : Int) + 3)), vI (sx xs (6 * (j : Int) + 4)), vI (sx xs (6 * (j : Int) + 5)), vR G 51 0]) (st := []) eL_law_284 mw_677 mw_678 mw_104 mw_679 ⟨by decide, by decide, by decide +kernel⟩ rfl (by decide) ⟨show _ ≤ 2048 by decide, show _ ≤ 84000 by decide⟩ ⟨show u + 1 ≤ 601024 by omega, show v + 8 * 1 ≤ 7293034 by omega⟩ rfl (bh_mono (hp_append (st_append  hK)) (fun r M2 hr => ?_))
  obtain ⟨k, rfl, hk, hF⟩ := hr
  refine wg_istore eL_law_287 rfl ?_
  refine wg_aload_n eL_law_289 rfl ?_
  refine wg_aload_no eL_law_290 rfl ?_
  refine wg_iload eL_law_291 rfl ?_
  refine wg_iconst eL_law_293 ?_
  refine wg_iadd eL_law_294 ?_
  refine wg_sld eL_law_295 ?_
  refine wg_aload_no eL_law_296 rfl ?_
  refine wg_iload eL_law_297 rfl ?_
  refine wg_iconst eL_law_299 ?_
  refine wg_iadd eL_law_300 ?_
  refine wg_sld eL_law_301 ?_
  refine wg_aload_no eL_law_302 rfl ?_
  refine wg_iload eL_law_303 rfl ?_
  refine wg_iconst eL_law_305 ?_
  refine wg_iadd eL_law_306 ?_
  refine wg_sld eL_law_307 ?_
  refine wg_aload_no eL_law_308 rfl ?_
  refine wg_iload eL_law_309 rfl ?_
  refine wg_iconst eL_law_311 ?_
  refine wg_iadd eL_law_312 ?_
  refine wg_sld eL_law_313 ?_
  refine wg_aload_no eL_law_314 rfl ?_
  refine wg_iload eL_law_315 rfl ?_
  refine wg_iconst eL_law_317 ?_
  refine wg_iadd eL_law_318 ?_
  refine wg_sld eL_law_319 ?_
  refine bg_callV (k := 33) (j := 0) (ci := 9) (n := 5) (As := [vI (sx xs (6 * (j : Int) + 1)), vI (sx xs (6 * (j : Int) + 2)), vI (sx xs (6 * (j : Int) + 3)), vI (sx xs (6 * (j : Int) + 4)), vI (sx xs (6 * (j : Int) + 5))]) (st := []) eL_law_320 mw_1483 mw_1484 mw_1485 mw_114 mw_1486 ⟨rfl, by decide, by decide, by decide +kernel⟩ rfl rfl (by decide) rfl (by decide) ⟨show _ ≤ 2048 by decide, show _ ≤ 84000 by decide⟩ ⟨show u + 1 + 0 ≤ 601024 by omega, show v + 8 * 1 + 8 * 0 ≤ 7293034 by omega⟩ rfl (bc_mono hF (fun r M3 hr => ?_))
  obtain ⟨z, rfl, h4, ho, hK3⟩ := hr
  refine wg_istore eL_law_323 rfl ?_
  refine wg_aload_n eL_law_325 rfl ?_
  refine bg_callV (k := 33) (j := 0) (ci := 9) (n := 0) (As := []) (st := []) eL_law_326 mw_1479 mw_1480 mw_1481 mw_114 mw_1482 ⟨rfl, by decide, by decide, by decide +kernel⟩ rfl rfl (by decide) rfl (by decide) ⟨show _ ≤ 2048 by decide, show _ ≤ 84000 by decide⟩ ⟨show u + 1 + 0 + 0 ≤ 601024 by omega, show v + 8 * 1 + 8 * 0 + 8 * 0 ≤ 7293034 by omega⟩ rfl (ct_mThrown ?_)
  rw [h4]
  refine wg_iload eL_law_329 rfl ?_
  refine wg_icmp_same eL_law_331 ?_
  refine wg_iload eL_law_336 rfl ?_
  refine wg_if_ne eL_law_338 (fun _ => ?_) (fun c0 => ?_)
  · exact wg_goto eL_law_353 (wg_widen (by omega) (by omega) (K M3 _ _ _ hK3))
  have e0 := ho (by omega)
  refine wg_aload_n eL_law_341 rfl ?_
  refine wg_iconst eL_law_342 ?_
  refine bg_lald (k := 51) (n := 1) (j := 0) (i := 0) eL_law_343 (fun _ => rfl) (by decide) (by decide) (by decide) ?_
  rw [e0]
  refine wg_iload eL_law_344 rfl ?_
  refine wg_i2l eL_law_346 ?_
  refine wg_lcmp_same eL_law_347 ?_
  refine wg_if_eq eL_law_348 (fun _ => ?_) (fun h => absurd rfl h)
  exact wg_goto eL_law_353 (wg_widen (by omega) (by omega) (K M3 _ _ _ hK3))
theorem lc_truncate {G : bc_G} {b Ls : Nat} {xs : Nat → Int32} {j u v : Nat} {M : bc_M} {y6 y7 y8 : Option Value} (hK : KK M (j : Int)) (hj : 6 * (j : Int) + 5 < (Ls : Int)) (hL : Ls ≤ 3072) (hu : u + 5 ≤ 601024) (hv : v + 40 ≤ 7293034) (K : ∀ (M' : bc_M) (y6 y7 y8 : Option Value), KK M' ((j : Int) + 1) → bg_W G RL cL_law 9 ret room_1 (lw_T G b Ls xs) lw_E (u + 5) (v + 40) 3074 [some (.ref b), some (vR G 1 0), some (vR G 33 0), some (vR G 51 0), some (vR G 52 0), some (vI (6 * (j : Int))), y6, y7, y8] [] M') : bg_W G RL cL_law 9 ret room_1 (lw_T G b Ls xs) lw_E u v 356 [some (.ref b), some (vR G 1 0), some (vR G 33 0), some (vR G 51 0), some (vR G 52 0), some (vI (6 * (j : Int))), y6, y7, y8] [] M := by
  refine wg_aload_n eL_law_356 rfl ?_
  refine wg_aload_no eL_law_357 rfl ?_
  refine wg_iload eL_law_358 rfl ?_
  refine wg_iconst eL_law_360 ?_
  refine wg_iadd eL_law_361 ?_
  refine wg_sld eL_law_362 ?_
  refine wg_aload_n eL_law_363 rfl ?_
  refine bg_callSH (hh := [(0, 9, 12, 19)]) (n := 3) (As := [vR G 1 0, vI (sx xs (6 * (j : Int) + 1)), vR G 51 0]) (st := []) eL_law_364 mw_756 mw_757 mw_104 mw_758 ⟨by decide, by decide, by decide +kernel⟩ rfl (by decide) ⟨show _ ≤ 2048 by decide, show _ ≤ 84000 by decide⟩ ⟨show u + 1 ≤ 601024 by omega, show v + 8 * 1 ≤ 7293034 by omega⟩ rfl (bh_mono (hp_truncate (st_truncate sx_rng hK)) (fun r M2 hr => ?_))
  obtain ⟨k, rfl, hk, hF⟩ := hr
  refine wg_istore eL_law_367 rfl ?_
  refine wg_aload_n eL_law_369 rfl ?_
  refine wg_aload_no eL_law_370 rfl ?_
  refine wg_iload eL_law_371 rfl ?_
  refine wg_iconst eL_law_373 ?_
  refine wg_iadd eL_law_374 ?_
  refine wg_sld eL_law_375 ?_
  refine bg_callV (k := 33) (j := 0) (ci := 9) (n := 1) (As := [vI (sx xs (6 * (j : Int) + 1))]) (st := []) eL_law_376 mw_1491 mw_1492 mw_1493 mw_114 mw_1494 ⟨rfl, by decide, by decide, by decide +kernel⟩ rfl rfl (by decide) rfl (by decide) ⟨show _ ≤ 2048 by decide, show _ ≤ 84000 by decide⟩ ⟨show u + 1 + 0 ≤ 601024 by omega, show v + 8 * 1 + 8 * 0 ≤ 7293034 by omega⟩ rfl (bc_mono hF (fun r M3 hr => ?_))
  obtain ⟨z, rfl, h4, ho, hK3⟩ := hr
  refine wg_istore eL_law_379 rfl ?_
  refine wg_aload_n eL_law_381 rfl ?_
  refine bg_callV (k := 33) (j := 0) (ci := 9) (n := 0) (As := []) (st := []) eL_law_382 mw_1479 mw_1480 mw_1481 mw_114 mw_1482 ⟨rfl, by decide, by decide, by decide +kernel⟩ rfl rfl (by decide) rfl (by decide) ⟨show _ ≤ 2048 by decide, show _ ≤ 84000 by decide⟩ ⟨show u + 1 + 0 + 0 ≤ 601024 by omega, show v + 8 * 1 + 8 * 0 + 8 * 0 ≤ 7293034 by omega⟩ rfl (ct_mThrown ?_)
  rw [h4]
  refine wg_iload eL_law_385 rfl ?_
  refine wg_icmp_same eL_law_387 ?_
  refine wg_iload eL_law_392 rfl ?_
  refine wg_if_ne eL_law_394 (fun _ => ?_) (fun c0 => ?_)
  · exact wg_goto eL_law_409 (wg_widen (by omega) (by omega) (K M3 _ _ _ hK3))
  have e0 := ho (by omega)
  refine wg_aload_n eL_law_397 rfl ?_
  refine wg_iconst eL_law_398 ?_
  refine bg_lald (k := 51) (n := 1) (j := 0) (i := 0) eL_law_399 (fun _ => rfl) (by decide) (by decide) (by decide) ?_
  rw [e0]
  refine wg_iload eL_law_400 rfl ?_
  refine wg_i2l eL_law_402 ?_
  refine wg_lcmp_same eL_law_403 ?_
  refine wg_if_eq eL_law_404 (fun _ => ?_) (fun h => absurd rfl h)
  exact wg_goto eL_law_409 (wg_widen (by omega) (by omega) (K M3 _ _ _ hK3))
theorem lc_load {G : bc_G} {b Ls : Nat} {xs : Nat → Int32} {j u v : Nat} {M : bc_M} {y6 y7 y8 : Option Value} (hK : KK M (j : Int)) (hj : 6 * (j : Int) + 5 < (Ls : Int)) (hL : Ls ≤ 3072) (hu : u + 5 ≤ 601024) (hv : v + 40 ≤ 7293034) (K : ∀ (M' : bc_M) (y6 y7 y8 : Option Value), KK M' ((j : Int) + 1) → bg_W G RL cL_law 9 ret room_1 (lw_T G b Ls xs) lw_E (u + 5) (v + 40) 3074 [some (.ref b), some (vR G 1 0), some (vR G 33 0), some (vR G 51 0), some (vR G 52 0), some (vI (6 * (j : Int))), y6, y7, y8] [] M') : bg_W G RL cL_law 9 ret room_1 (lw_T G b Ls xs) lw_E u v 412 [some (.ref b), some (vR G 1 0), some (vR G 33 0), some (vR G 51 0), some (vR G 52 0), some (vI (6 * (j : Int))), y6, y7, y8] [] M := by
  refine wg_aload_n eL_law_412 rfl ?_
  refine bg_callV (k := 1) (j := 0) (ci := 8) (n := 0) (As := []) (st := []) eL_law_413 mw_468 mw_469 mw_470 mw_105 mw_471 ⟨rfl, by decide, by decide, by decide +kernel⟩ rfl rfl (by decide) rfl (by decide) ⟨show _ ≤ 2048 by decide, show _ ≤ 84000 by decide⟩ ⟨show u + 0 ≤ 601024 by omega, show v + 8 * 0 ≤ 7293034 by omega⟩ rfl (bc_mono (st_load hK) (fun r M2 hr => ?_))
  obtain ⟨x, rfl, hF⟩ := hr
  refine wg_aload_n eL_law_416 rfl ?_
  refine bg_callV (k := 33) (j := 0) (ci := 9) (n := 0) (As := []) (st := [vI x]) eL_law_417 mw_1498 mw_1499 mw_1500 mw_114 mw_1501 ⟨rfl, by decide, by decide, by decide +kernel⟩ rfl rfl (by decide) rfl (by decide) ⟨show _ ≤ 2048 by decide, show _ ≤ 84000 by decide⟩ ⟨show u + 0 + 0 ≤ 601024 by omega, show v + 8 * 0 + 8 * 0 ≤ 7293034 by omega⟩ rfl (bc_mono hF (fun r M3 hr => ?_))
  obtain ⟨rfl, hK3⟩ := hr
  refine wg_icmp_same eL_law_420 ?_
  exact wg_widen (by omega) (by omega) (K M3 _ _ _ hK3)
theorem lc_errorPosition {G : bc_G} {b Ls : Nat} {xs : Nat → Int32} {j u v : Nat} {M : bc_M} {y6 y7 y8 : Option Value} (hK : KK M (j : Int)) (hj : 6 * (j : Int) + 5 < (Ls : Int)) (hL : Ls ≤ 3072) (hu : u + 5 ≤ 601024) (hv : v + 40 ≤ 7293034) (K : ∀ (M' : bc_M) (y6 y7 y8 : Option Value), KK M' ((j : Int) + 1) → bg_W G RL cL_law 9 ret room_1 (lw_T G b Ls xs) lw_E (u + 5) (v + 40) 3074 [some (.ref b), some (vR G 1 0), some (vR G 33 0), some (vR G 51 0), some (vR G 52 0), some (vI (6 * (j : Int))), y6, y7, y8] [] M') : bg_W G RL cL_law 9 ret room_1 (lw_T G b Ls xs) lw_E u v 425 [some (.ref b), some (vR G 1 0), some (vR G 33 0), some (vR G 51 0), some (vR G 52 0), some (vI (6 * (j : Int))), y6, y7, y8] [] M := by
  refine wg_aload_n eL_law_425 rfl ?_
  refine bg_callV (k := 1) (j := 0) (ci := 8) (n := 0) (As := []) (st := []) eL_law_426 mw_673 mw_674 mw_675 mw_105 mw_676 ⟨rfl, by decide, by decide, by decide +kernel⟩ rfl rfl (by decide) rfl (by decide) ⟨show _ ≤ 2048 by decide, show _ ≤ 84000 by decide⟩ ⟨show u + 0 ≤ 601024 by omega, show v + 8 * 0 ≤ 7293034 by omega⟩ rfl (bc_mono (st_errorPosition hK) (fun r M2 hr => ?_))
  obtain ⟨x, rfl, hF⟩ := hr
  refine wg_aload_n eL_law_429 rfl ?_
  refine bg_callV (k := 33) (j := 0) (ci := 9) (n := 0) (As := []) (st := [vI x]) eL_law_430 mw_1571 mw_1572 mw_1573 mw_114 mw_1574 ⟨rfl, by decide, by decide, by decide +kernel⟩ rfl rfl (by decide) rfl (by decide) ⟨show _ ≤ 2048 by decide, show _ ≤ 84000 by decide⟩ ⟨show u + 0 + 0 ≤ 601024 by omega, show v + 8 * 0 + 8 * 0 ≤ 7293034 by omega⟩ rfl (bc_mono hF (fun r M3 hr => ?_))
  obtain ⟨rfl, hK3⟩ := hr
  refine wg_icmp_same eL_law_433 ?_
  exact wg_widen (by omega) (by omega) (K M3 _ _ _ hK3)
theorem lc_request {G : bc_G} {b Ls : Nat} {xs : Nat → Int32} {j u v : Nat} {M : bc_M} {y6 y7 y8 : Option Value} (hK : KK M (j : Int)) (hj : 6 * (j : Int) + 5 < (Ls : Int)) (hL : Ls ≤ 3072) (hu : u + 5 ≤ 601024) (hv : v + 40 ≤ 7293034) (K : ∀ (M' : bc_M) (y6 y7 y8 : Option Value), KK M' ((j : Int) + 1) → bg_W G RL cL_law 9 ret room_1 (lw_T G b Ls xs) lw_E (u + 5) (v + 40) 3074 [some (.ref b), some (vR G 1 0), some (vR G 33 0), some (vR G 51 0), some (vR G 52 0), some (vI (6 * (j : Int))), y6, y7, y8] [] M') : bg_W G RL cL_law 9 ret room_1 (lw_T G b Ls xs) lw_E u v 438 [some (.ref b), some (vR G 1 0), some (vR G 33 0), some (vR G 51 0), some (vR G 52 0), some (vI (6 * (j : Int))), y6, y7, y8] [] M := by
  refine wg_aload_n eL_law_438 rfl ?_
  refine wg_aload_no eL_law_439 rfl ?_
  refine wg_iload eL_law_440 rfl ?_
  refine wg_iconst eL_law_442 ?_
  refine wg_iadd eL_law_443 ?_
  refine wg_sld eL_law_444 ?_
  refine wg_aload_no eL_law_445 rfl ?_
  refine wg_iload eL_law_446 rfl ?_
  refine wg_iconst eL_law_448 ?_
  refine wg_iadd eL_law_449 ?_
  refine wg_sld eL_law_450 ?_
  refine wg_aload_n eL_law_451 rfl ?_
  refine bg_callSH (hh := [(0, 10, 13, 13), (0, 10, 17, 19)]) (n := 4) (As := [vR G 1 0, vI (sx xs (6 * (j : Int) + 1)), vI (sx xs (6 * (j : Int) + 2)), vR G 51 0]) (st := []) eL_law_452 mw_783 mw_784 mw_104 mw_785 ⟨by decide, by decide, by decide +kernel⟩ rfl (by decide) ⟨show _ ≤ 2048 by decide, show _ ≤ 84000 by decide⟩ ⟨show u + 3 ≤ 601024 by omega, show v + 8 * 3 ≤ 7293034 by omega⟩ rfl (bh_mono (hp_request (st_request sx_rng sx_rng hK (by omega))) (fun r M2 hr => ?_))
  obtain ⟨k, rfl, hk, hF⟩ := hr
  refine wg_istore eL_law_455 rfl ?_
  refine wg_aload_n eL_law_457 rfl ?_
  refine wg_aload_no eL_law_458 rfl ?_
  refine wg_iload eL_law_459 rfl ?_
  refine wg_iconst eL_law_461 ?_
  refine wg_iadd eL_law_462 ?_
  refine wg_sld eL_law_463 ?_
  refine wg_aload_no eL_law_464 rfl ?_
  refine wg_iload eL_law_465 rfl ?_
  refine wg_iconst eL_law_467 ?_
  refine wg_iadd eL_law_468 ?_
  refine wg_sld eL_law_469 ?_
  refine bg_callV (k := 33) (j := 0) (ci := 9) (n := 2) (As := [vI (sx xs (6 * (j : Int) + 1)), vI (sx xs (6 * (j : Int) + 2))]) (st := []) eL_law_470 mw_1583 mw_1584 mw_1585 mw_114 mw_1586 ⟨rfl, by decide, by decide, by decide +kernel⟩ rfl rfl (by decide) rfl (by decide) ⟨show _ ≤ 2048 by decide, show _ ≤ 84000 by decide⟩ ⟨show u + 3 + 0 ≤ 601024 by omega, show v + 8 * 3 + 8 * 0 ≤ 7293034 by omega⟩ rfl (bc_mono hF (fun r M3 hr => ?_))
  obtain ⟨z, rfl, h4, ho, hK3⟩ := hr
  refine wg_istore eL_law_473 rfl ?_
  refine wg_aload_n eL_law_475 rfl ?_
  refine bg_callV (k := 33) (j := 0) (ci := 9) (n := 0) (As := []) (st := []) eL_law_476 mw_1479 mw_1480 mw_1481 mw_114 mw_1482 ⟨rfl, by decide, by decide, by decide +kernel⟩ rfl rfl (by decide) rfl (by decide) ⟨show _ ≤ 2048 by decide, show _ ≤ 84000 by decide⟩ ⟨show u + 3 + 0 + 0 ≤ 601024 by omega, show v + 8 * 3 + 8 * 0 + 8 * 0 ≤ 7293034 by omega⟩ rfl (ct_mThrown ?_)
  rw [h4]
  refine wg_iload eL_law_479 rfl ?_
  refine wg_icmp_same eL_law_481 ?_
  refine wg_iload eL_law_486 rfl ?_
  refine wg_if_ne eL_law_488 (fun _ => ?_) (fun c0 => ?_)
  · exact wg_goto eL_law_503 (wg_widen (by omega) (by omega) (K M3 _ _ _ hK3))
  have e0 := ho (by omega)
  refine wg_aload_n eL_law_491 rfl ?_
  refine wg_iconst eL_law_492 ?_
  refine bg_lald (k := 51) (n := 1) (j := 0) (i := 0) eL_law_493 (fun _ => rfl) (by decide) (by decide) (by decide) ?_
  rw [e0]
  refine wg_iload eL_law_494 rfl ?_
  refine wg_i2l eL_law_496 ?_
  refine wg_lcmp_same eL_law_497 ?_
  refine wg_if_eq eL_law_498 (fun _ => ?_) (fun h => absurd rfl h)
  exact wg_goto eL_law_503 (wg_widen (by omega) (by omega) (K M3 _ _ _ hK3))
theorem lc_think {G : bc_G} {b Ls : Nat} {xs : Nat → Int32} {j u v : Nat} {M : bc_M} {y6 y7 y8 : Option Value} (hK : KK M (j : Int)) (hj : 6 * (j : Int) + 5 < (Ls : Int)) (hL : Ls ≤ 3072) (hu : u + 5 ≤ 601024) (hv : v + 40 ≤ 7293034) (K : ∀ (M' : bc_M) (y6 y7 y8 : Option Value), KK M' ((j : Int) + 1) → bg_W G RL cL_law 9 ret room_1 (lw_T G b Ls xs) lw_E (u + 5) (v + 40) 3074 [some (.ref b), some (vR G 1 0), some (vR G 33 0), some (vR G 51 0), some (vR G 52 0), some (vI (6 * (j : Int))), y6, y7, y8] [] M') : bg_W G RL cL_law 9 ret room_1 (lw_T G b Ls xs) lw_E u v 506 [some (.ref b), some (vR G 1 0), some (vR G 33 0), some (vR G 51 0), some (vR G 52 0), some (vI (6 * (j : Int))), y6, y7, y8] [] M := by
  refine wg_aload_n eL_law_506 rfl ?_
  refine wg_aload_no eL_law_507 rfl ?_
  refine wg_iload eL_law_508 rfl ?_
  refine wg_iconst eL_law_510 ?_
  refine wg_iadd eL_law_511 ?_
  refine wg_sld eL_law_512 ?_
  refine wg_aload_no eL_law_513 rfl ?_
  refine wg_iload eL_law_514 rfl ?_
  refine wg_iconst eL_law_516 ?_
  refine wg_iadd eL_law_517 ?_
  refine wg_sld eL_law_518 ?_
  refine wg_aload_n eL_law_519 rfl ?_
  refine bg_callSH (hh := [(0, 10, 13, 13), (0, 10, 17, 19)]) (n := 4) (As := [vR G 1 0, vI (sx xs (6 * (j : Int) + 1)), vI (sx xs (6 * (j : Int) + 2)), vR G 51 0]) (st := []) eL_law_520 mw_869 mw_870 mw_104 mw_871 ⟨by decide, by decide, by decide +kernel⟩ rfl (by decide) ⟨show _ ≤ 2048 by decide, show _ ≤ 84000 by decide⟩ ⟨show u + 3 ≤ 601024 by omega, show v + 8 * 3 ≤ 7293034 by omega⟩ rfl (bh_mono (hp_think (st_think sx_rng sx_rng hK (by omega))) (fun r M2 hr => ?_))
  obtain ⟨k, rfl, hk, hF⟩ := hr
  refine wg_istore eL_law_523 rfl ?_
  refine wg_aload_n eL_law_525 rfl ?_
  refine wg_aload_no eL_law_526 rfl ?_
  refine wg_iload eL_law_527 rfl ?_
  refine wg_iconst eL_law_529 ?_
  refine wg_iadd eL_law_530 ?_
  refine wg_sld eL_law_531 ?_
  refine wg_aload_no eL_law_532 rfl ?_
  refine wg_iload eL_law_533 rfl ?_
  refine wg_iconst eL_law_535 ?_
  refine wg_iadd eL_law_536 ?_
  refine wg_sld eL_law_537 ?_
  refine bg_callV (k := 33) (j := 0) (ci := 9) (n := 2) (As := [vI (sx xs (6 * (j : Int) + 1)), vI (sx xs (6 * (j : Int) + 2))]) (st := []) eL_law_538 mw_1660 mw_1661 mw_1662 mw_114 mw_1663 ⟨rfl, by decide, by decide, by decide +kernel⟩ rfl rfl (by decide) rfl (by decide) ⟨show _ ≤ 2048 by decide, show _ ≤ 84000 by decide⟩ ⟨show u + 3 + 0 ≤ 601024 by omega, show v + 8 * 3 + 8 * 0 ≤ 7293034 by omega⟩ rfl (bc_mono hF (fun r M3 hr => ?_))
  obtain ⟨z, rfl, h4, ho, hK3⟩ := hr
  refine wg_istore eL_law_541 rfl ?_
  refine wg_aload_n eL_law_543 rfl ?_
  refine bg_callV (k := 33) (j := 0) (ci := 9) (n := 0) (As := []) (st := []) eL_law_544 mw_1479 mw_1480 mw_1481 mw_114 mw_1482 ⟨rfl, by decide, by decide, by decide +kernel⟩ rfl rfl (by decide) rfl (by decide) ⟨show _ ≤ 2048 by decide, show _ ≤ 84000 by decide⟩ ⟨show u + 3 + 0 + 0 ≤ 601024 by omega, show v + 8 * 3 + 8 * 0 + 8 * 0 ≤ 7293034 by omega⟩ rfl (ct_mThrown ?_)
  rw [h4]
  refine wg_iload eL_law_547 rfl ?_
  refine wg_icmp_same eL_law_549 ?_
  refine wg_iload eL_law_554 rfl ?_
  refine wg_if_ne eL_law_556 (fun _ => ?_) (fun c0 => ?_)
  · exact wg_goto eL_law_571 (wg_widen (by omega) (by omega) (K M3 _ _ _ hK3))
  have e0 := ho (by omega)
  refine wg_aload_n eL_law_559 rfl ?_
  refine wg_iconst eL_law_560 ?_
  refine bg_lald (k := 51) (n := 1) (j := 0) (i := 0) eL_law_561 (fun _ => rfl) (by decide) (by decide) (by decide) ?_
  rw [e0]
  refine wg_iload eL_law_562 rfl ?_
  refine wg_i2l eL_law_564 ?_
  refine wg_lcmp_same eL_law_565 ?_
  refine wg_if_eq eL_law_566 (fun _ => ?_) (fun h => absurd rfl h)
  exact wg_goto eL_law_571 (wg_widen (by omega) (by omega) (K M3 _ _ _ hK3))
theorem lc_setPopularity {G : bc_G} {b Ls : Nat} {xs : Nat → Int32} {j u v : Nat} {M : bc_M} {y6 y7 y8 : Option Value} (hK : KK M (j : Int)) (hj : 6 * (j : Int) + 5 < (Ls : Int)) (hL : Ls ≤ 3072) (hu : u + 5 ≤ 601024) (hv : v + 40 ≤ 7293034) (K : ∀ (M' : bc_M) (y6 y7 y8 : Option Value), KK M' ((j : Int) + 1) → bg_W G RL cL_law 9 ret room_1 (lw_T G b Ls xs) lw_E (u + 5) (v + 40) 3074 [some (.ref b), some (vR G 1 0), some (vR G 33 0), some (vR G 51 0), some (vR G 52 0), some (vI (6 * (j : Int))), y6, y7, y8] [] M') : bg_W G RL cL_law 9 ret room_1 (lw_T G b Ls xs) lw_E u v 574 [some (.ref b), some (vR G 1 0), some (vR G 33 0), some (vR G 51 0), some (vR G 52 0), some (vI (6 * (j : Int))), y6, y7, y8] [] M := by
  refine wg_aload_n eL_law_574 rfl ?_
  refine wg_aload_no eL_law_575 rfl ?_
  refine wg_iload eL_law_576 rfl ?_
  refine wg_iconst eL_law_578 ?_
  refine wg_iadd eL_law_579 ?_
  refine wg_sld eL_law_580 ?_
  refine wg_aload_no eL_law_581 rfl ?_
  refine wg_iload eL_law_582 rfl ?_
  refine wg_iconst eL_law_584 ?_
  refine wg_iadd eL_law_585 ?_
  refine wg_sld eL_law_586 ?_
  refine wg_aload_n eL_law_587 rfl ?_
  refine bg_callSH (hh := [(0, 10, 13, 13), (0, 10, 17, 19)]) (n := 4) (As := [vR G 1 0, vI (sx xs (6 * (j : Int) + 1)), vI (sx xs (6 * (j : Int) + 2)), vR G 51 0]) (st := []) eL_law_588 mw_876 mw_877 mw_104 mw_878 ⟨by decide, by decide, by decide +kernel⟩ rfl (by decide) ⟨show _ ≤ 2048 by decide, show _ ≤ 84000 by decide⟩ ⟨show u + 3 ≤ 601024 by omega, show v + 8 * 3 ≤ 7293034 by omega⟩ rfl (bh_mono (hp_setPopularity (st_setPopularity sx_rng sx_rng hK (by omega))) (fun r M2 hr => ?_))
  obtain ⟨k, rfl, hk, hF⟩ := hr
  refine wg_istore eL_law_591 rfl ?_
  refine wg_aload_n eL_law_593 rfl ?_
  refine wg_aload_no eL_law_594 rfl ?_
  refine wg_iload eL_law_595 rfl ?_
  refine wg_iconst eL_law_597 ?_
  refine wg_iadd eL_law_598 ?_
  refine wg_sld eL_law_599 ?_
  refine wg_aload_no eL_law_600 rfl ?_
  refine wg_iload eL_law_601 rfl ?_
  refine wg_iconst eL_law_603 ?_
  refine wg_iadd eL_law_604 ?_
  refine wg_sld eL_law_605 ?_
  refine bg_callV (k := 33) (j := 0) (ci := 9) (n := 2) (As := [vI (sx xs (6 * (j : Int) + 1)), vI (sx xs (6 * (j : Int) + 2))]) (st := []) eL_law_606 mw_1669 mw_1670 mw_1671 mw_114 mw_1672 ⟨rfl, by decide, by decide, by decide +kernel⟩ rfl rfl (by decide) rfl (by decide) ⟨show _ ≤ 2048 by decide, show _ ≤ 84000 by decide⟩ ⟨show u + 3 + 0 ≤ 601024 by omega, show v + 8 * 3 + 8 * 0 ≤ 7293034 by omega⟩ rfl (bc_mono hF (fun r M3 hr => ?_))
  obtain ⟨z, rfl, h4, ho, hK3⟩ := hr
  refine wg_istore eL_law_609 rfl ?_
  refine wg_aload_n eL_law_611 rfl ?_
  refine bg_callV (k := 33) (j := 0) (ci := 9) (n := 0) (As := []) (st := []) eL_law_612 mw_1479 mw_1480 mw_1481 mw_114 mw_1482 ⟨rfl, by decide, by decide, by decide +kernel⟩ rfl rfl (by decide) rfl (by decide) ⟨show _ ≤ 2048 by decide, show _ ≤ 84000 by decide⟩ ⟨show u + 3 + 0 + 0 ≤ 601024 by omega, show v + 8 * 3 + 8 * 0 + 8 * 0 ≤ 7293034 by omega⟩ rfl (ct_mThrown ?_)
  rw [h4]
  refine wg_iload eL_law_615 rfl ?_
  refine wg_icmp_same eL_law_617 ?_
  refine wg_iload eL_law_622 rfl ?_
  refine wg_if_ne eL_law_624 (fun _ => ?_) (fun c0 => ?_)
  · exact wg_goto eL_law_639 (wg_widen (by omega) (by omega) (K M3 _ _ _ hK3))
  have e0 := ho (by omega)
  refine wg_aload_n eL_law_627 rfl ?_
  refine wg_iconst eL_law_628 ?_
  refine bg_lald (k := 51) (n := 1) (j := 0) (i := 0) eL_law_629 (fun _ => rfl) (by decide) (by decide) (by decide) ?_
  rw [e0]
  refine wg_iload eL_law_630 rfl ?_
  refine wg_i2l eL_law_632 ?_
  refine wg_lcmp_same eL_law_633 ?_
  refine wg_if_eq eL_law_634 (fun _ => ?_) (fun h => absurd rfl h)
  exact wg_goto eL_law_639 (wg_widen (by omega) (by omega) (K M3 _ _ _ hK3))
theorem lc_setBound {G : bc_G} {b Ls : Nat} {xs : Nat → Int32} {j u v : Nat} {M : bc_M} {y6 y7 y8 : Option Value} (hK : KK M (j : Int)) (hj : 6 * (j : Int) + 5 < (Ls : Int)) (hL : Ls ≤ 3072) (hu : u + 5 ≤ 601024) (hv : v + 40 ≤ 7293034) (K : ∀ (M' : bc_M) (y6 y7 y8 : Option Value), KK M' ((j : Int) + 1) → bg_W G RL cL_law 9 ret room_1 (lw_T G b Ls xs) lw_E (u + 5) (v + 40) 3074 [some (.ref b), some (vR G 1 0), some (vR G 33 0), some (vR G 51 0), some (vR G 52 0), some (vI (6 * (j : Int))), y6, y7, y8] [] M') : bg_W G RL cL_law 9 ret room_1 (lw_T G b Ls xs) lw_E u v 642 [some (.ref b), some (vR G 1 0), some (vR G 33 0), some (vR G 51 0), some (vR G 52 0), some (vI (6 * (j : Int))), y6, y7, y8] [] M := by
  refine wg_aload_n eL_law_642 rfl ?_
  refine wg_aload_no eL_law_643 rfl ?_
  refine wg_iload eL_law_644 rfl ?_
  refine wg_iconst eL_law_646 ?_
  refine wg_iadd eL_law_647 ?_
  refine wg_sld eL_law_648 ?_
  refine wg_aload_no eL_law_649 rfl ?_
  refine wg_iload eL_law_650 rfl ?_
  refine wg_iconst eL_law_652 ?_
  refine wg_iadd eL_law_653 ?_
  refine wg_sld eL_law_654 ?_
  refine wg_aload_n eL_law_655 rfl ?_
  refine bg_callSH (hh := [(0, 10, 13, 13), (0, 10, 17, 19)]) (n := 4) (As := [vR G 1 0, vI (sx xs (6 * (j : Int) + 1)), vI (sx xs (6 * (j : Int) + 2)), vR G 51 0]) (st := []) eL_law_656 mw_883 mw_884 mw_104 mw_885 ⟨by decide, by decide, by decide +kernel⟩ rfl (by decide) ⟨show _ ≤ 2048 by decide, show _ ≤ 84000 by decide⟩ ⟨show u + 3 ≤ 601024 by omega, show v + 8 * 3 ≤ 7293034 by omega⟩ rfl (bh_mono (hp_setBound (st_setBound sx_rng sx_rng hK (by omega))) (fun r M2 hr => ?_))
  obtain ⟨k, rfl, hk, hF⟩ := hr
  refine wg_istore eL_law_659 rfl ?_
  refine wg_aload_n eL_law_661 rfl ?_
  refine wg_aload_no eL_law_662 rfl ?_
  refine wg_iload eL_law_663 rfl ?_
  refine wg_iconst eL_law_665 ?_
  refine wg_iadd eL_law_666 ?_
  refine wg_sld eL_law_667 ?_
  refine wg_aload_no eL_law_668 rfl ?_
  refine wg_iload eL_law_669 rfl ?_
  refine wg_iconst eL_law_671 ?_
  refine wg_iadd eL_law_672 ?_
  refine wg_sld eL_law_673 ?_
  refine bg_callV (k := 33) (j := 0) (ci := 9) (n := 2) (As := [vI (sx xs (6 * (j : Int) + 1)), vI (sx xs (6 * (j : Int) + 2))]) (st := []) eL_law_674 mw_1678 mw_1679 mw_1680 mw_114 mw_1681 ⟨rfl, by decide, by decide, by decide +kernel⟩ rfl rfl (by decide) rfl (by decide) ⟨show _ ≤ 2048 by decide, show _ ≤ 84000 by decide⟩ ⟨show u + 3 + 0 ≤ 601024 by omega, show v + 8 * 3 + 8 * 0 ≤ 7293034 by omega⟩ rfl (bc_mono hF (fun r M3 hr => ?_))
  obtain ⟨z, rfl, h4, ho, hK3⟩ := hr
  refine wg_istore eL_law_677 rfl ?_
  refine wg_aload_n eL_law_679 rfl ?_
  refine bg_callV (k := 33) (j := 0) (ci := 9) (n := 0) (As := []) (st := []) eL_law_680 mw_1479 mw_1480 mw_1481 mw_114 mw_1482 ⟨rfl, by decide, by decide, by decide +kernel⟩ rfl rfl (by decide) rfl (by decide) ⟨show _ ≤ 2048 by decide, show _ ≤ 84000 by decide⟩ ⟨show u + 3 + 0 + 0 ≤ 601024 by omega, show v + 8 * 3 + 8 * 0 + 8 * 0 ≤ 7293034 by omega⟩ rfl (ct_mThrown ?_)
  rw [h4]
  refine wg_iload eL_law_683 rfl ?_
  refine wg_icmp_same eL_law_685 ?_
  refine wg_iload eL_law_690 rfl ?_
  refine wg_if_ne eL_law_692 (fun _ => ?_) (fun c0 => ?_)
  · exact wg_goto eL_law_707 (wg_widen (by omega) (by omega) (K M3 _ _ _ hK3))
  have e0 := ho (by omega)
  refine wg_aload_n eL_law_695 rfl ?_
  refine wg_iconst eL_law_696 ?_
  refine bg_lald (k := 51) (n := 1) (j := 0) (i := 0) eL_law_697 (fun _ => rfl) (by decide) (by decide) (by decide) ?_
  rw [e0]
  refine wg_iload eL_law_698 rfl ?_
  refine wg_i2l eL_law_700 ?_
  refine wg_lcmp_same eL_law_701 ?_
  refine wg_if_eq eL_law_702 (fun _ => ?_) (fun h => absurd rfl h)
  exact wg_goto eL_law_707 (wg_widen (by omega) (by omega) (K M3 _ _ _ hK3))
theorem lc_setFrequency {G : bc_G} {b Ls : Nat} {xs : Nat → Int32} {j u v : Nat} {M : bc_M} {y6 y7 y8 : Option Value} (hK : KK M (j : Int)) (hj : 6 * (j : Int) + 5 < (Ls : Int)) (hL : Ls ≤ 3072) (hu : u + 5 ≤ 601024) (hv : v + 40 ≤ 7293034) (K : ∀ (M' : bc_M) (y6 y7 y8 : Option Value), KK M' ((j : Int) + 1) → bg_W G RL cL_law 9 ret room_1 (lw_T G b Ls xs) lw_E (u + 5) (v + 40) 3074 [some (.ref b), some (vR G 1 0), some (vR G 33 0), some (vR G 51 0), some (vR G 52 0), some (vI (6 * (j : Int))), y6, y7, y8] [] M') : bg_W G RL cL_law 9 ret room_1 (lw_T G b Ls xs) lw_E u v 710 [some (.ref b), some (vR G 1 0), some (vR G 33 0), some (vR G 51 0), some (vR G 52 0), some (vI (6 * (j : Int))), y6, y7, y8] [] M := by
  refine wg_aload_n eL_law_710 rfl ?_
  refine wg_aload_no eL_law_711 rfl ?_
  refine wg_iload eL_law_712 rfl ?_
  refine wg_iconst eL_law_714 ?_
  refine wg_iadd eL_law_715 ?_
  refine wg_sld eL_law_716 ?_
  refine wg_aload_no eL_law_717 rfl ?_
  refine wg_iload eL_law_718 rfl ?_
  refine wg_iconst eL_law_720 ?_
  refine wg_iadd eL_law_721 ?_
  refine wg_sld eL_law_722 ?_
  refine wg_aload_n eL_law_723 rfl ?_
  refine bg_callSH (hh := [(0, 10, 13, 13), (0, 10, 17, 19)]) (n := 4) (As := [vR G 1 0, vI (sx xs (6 * (j : Int) + 1)), vI (sx xs (6 * (j : Int) + 2)), vR G 51 0]) (st := []) eL_law_724 mw_890 mw_891 mw_104 mw_892 ⟨by decide, by decide, by decide +kernel⟩ rfl (by decide) ⟨show _ ≤ 2048 by decide, show _ ≤ 84000 by decide⟩ ⟨show u + 3 ≤ 601024 by omega, show v + 8 * 3 ≤ 7293034 by omega⟩ rfl (bh_mono (hp_setFrequency (st_setFrequency sx_rng sx_rng hK (by omega))) (fun r M2 hr => ?_))
  obtain ⟨k, rfl, hk, hF⟩ := hr
  refine wg_istore eL_law_727 rfl ?_
  refine wg_aload_n eL_law_729 rfl ?_
  refine wg_aload_no eL_law_730 rfl ?_
  refine wg_iload eL_law_731 rfl ?_
  refine wg_iconst eL_law_733 ?_
  refine wg_iadd eL_law_734 ?_
  refine wg_sld eL_law_735 ?_
  refine wg_aload_no eL_law_736 rfl ?_
  refine wg_iload eL_law_737 rfl ?_
  refine wg_iconst eL_law_739 ?_
  refine wg_iadd eL_law_740 ?_
  refine wg_sld eL_law_741 ?_
  refine bg_callV (k := 33) (j := 0) (ci := 9) (n := 2) (As := [vI (sx xs (6 * (j : Int) + 1)), vI (sx xs (6 * (j : Int) + 2))]) (st := []) eL_law_742 mw_1683 mw_1684 mw_1685 mw_114 mw_1686 ⟨rfl, by decide, by decide, by decide +kernel⟩ rfl rfl (by decide) rfl (by decide) ⟨show _ ≤ 2048 by decide, show _ ≤ 84000 by decide⟩ ⟨show u + 3 + 0 ≤ 601024 by omega, show v + 8 * 3 + 8 * 0 ≤ 7293034 by omega⟩ rfl (bc_mono hF (fun r M3 hr => ?_))
  obtain ⟨z, rfl, h4, ho, hK3⟩ := hr
  refine wg_istore eL_law_745 rfl ?_
  refine wg_aload_n eL_law_747 rfl ?_
  refine bg_callV (k := 33) (j := 0) (ci := 9) (n := 0) (As := []) (st := []) eL_law_748 mw_1479 mw_1480 mw_1481 mw_114 mw_1482 ⟨rfl, by decide, by decide, by decide +kernel⟩ rfl rfl (by decide) rfl (by decide) ⟨show _ ≤ 2048 by decide, show _ ≤ 84000 by decide⟩ ⟨show u + 3 + 0 + 0 ≤ 601024 by omega, show v + 8 * 3 + 8 * 0 + 8 * 0 ≤ 7293034 by omega⟩ rfl (ct_mThrown ?_)
  rw [h4]
  refine wg_iload eL_law_751 rfl ?_
  refine wg_icmp_same eL_law_753 ?_
  refine wg_iload eL_law_758 rfl ?_
  refine wg_if_ne eL_law_760 (fun _ => ?_) (fun c0 => ?_)
  · exact wg_goto eL_law_775 (wg_widen (by omega) (by omega) (K M3 _ _ _ hK3))
  have e0 := ho (by omega)
  refine wg_aload_n eL_law_763 rfl ?_
  refine wg_iconst eL_law_764 ?_
  refine bg_lald (k := 51) (n := 1) (j := 0) (i := 0) eL_law_765 (fun _ => rfl) (by decide) (by decide) (by decide) ?_
  rw [e0]
  refine wg_iload eL_law_766 rfl ?_
  refine wg_i2l eL_law_768 ?_
  refine wg_lcmp_same eL_law_769 ?_
  refine wg_if_eq eL_law_770 (fun _ => ?_) (fun h => absurd rfl h)
  exact wg_goto eL_law_775 (wg_widen (by omega) (by omega) (K M3 _ _ _ hK3))
theorem lc_setIndex {G : bc_G} {b Ls : Nat} {xs : Nat → Int32} {j u v : Nat} {M : bc_M} {y6 y7 y8 : Option Value} (hK : KK M (j : Int)) (hj : 6 * (j : Int) + 5 < (Ls : Int)) (hL : Ls ≤ 3072) (hu : u + 5 ≤ 601024) (hv : v + 40 ≤ 7293034) (K : ∀ (M' : bc_M) (y6 y7 y8 : Option Value), KK M' ((j : Int) + 1) → bg_W G RL cL_law 9 ret room_1 (lw_T G b Ls xs) lw_E (u + 5) (v + 40) 3074 [some (.ref b), some (vR G 1 0), some (vR G 33 0), some (vR G 51 0), some (vR G 52 0), some (vI (6 * (j : Int))), y6, y7, y8] [] M') : bg_W G RL cL_law 9 ret room_1 (lw_T G b Ls xs) lw_E u v 778 [some (.ref b), some (vR G 1 0), some (vR G 33 0), some (vR G 51 0), some (vR G 52 0), some (vI (6 * (j : Int))), y6, y7, y8] [] M := by
  refine wg_aload_n eL_law_778 rfl ?_
  refine wg_aload_no eL_law_779 rfl ?_
  refine wg_iload eL_law_780 rfl ?_
  refine wg_iconst eL_law_782 ?_
  refine wg_iadd eL_law_783 ?_
  refine wg_sld eL_law_784 ?_
  refine wg_aload_no eL_law_785 rfl ?_
  refine wg_iload eL_law_786 rfl ?_
  refine wg_iconst eL_law_788 ?_
  refine wg_iadd eL_law_789 ?_
  refine wg_sld eL_law_790 ?_
  refine wg_aload_n eL_law_791 rfl ?_
  refine bg_callSH (hh := [(0, 10, 13, 13), (0, 10, 17, 19)]) (n := 4) (As := [vR G 1 0, vI (sx xs (6 * (j : Int) + 1)), vI (sx xs (6 * (j : Int) + 2)), vR G 51 0]) (st := []) eL_law_792 mw_901 mw_902 mw_104 mw_903 ⟨by decide, by decide, by decide +kernel⟩ rfl (by decide) ⟨show _ ≤ 2048 by decide, show _ ≤ 84000 by decide⟩ ⟨show u + 3 ≤ 601024 by omega, show v + 8 * 3 ≤ 7293034 by omega⟩ rfl (bh_mono (hp_setIndex (st_setIndex sx_rng sx_rng hK (by omega))) (fun r M2 hr => ?_))
  obtain ⟨k, rfl, hk, hF⟩ := hr
  refine wg_istore eL_law_795 rfl ?_
  refine wg_aload_n eL_law_797 rfl ?_
  refine wg_aload_no eL_law_798 rfl ?_
  refine wg_iload eL_law_799 rfl ?_
  refine wg_iconst eL_law_801 ?_
  refine wg_iadd eL_law_802 ?_
  refine wg_sld eL_law_803 ?_
  refine wg_aload_no eL_law_804 rfl ?_
  refine wg_iload eL_law_805 rfl ?_
  refine wg_iconst eL_law_807 ?_
  refine wg_iadd eL_law_808 ?_
  refine wg_sld eL_law_809 ?_
  refine bg_callV (k := 33) (j := 0) (ci := 9) (n := 2) (As := [vI (sx xs (6 * (j : Int) + 1)), vI (sx xs (6 * (j : Int) + 2))]) (st := []) eL_law_810 mw_1692 mw_1693 mw_1694 mw_114 mw_1695 ⟨rfl, by decide, by decide, by decide +kernel⟩ rfl rfl (by decide) rfl (by decide) ⟨show _ ≤ 2048 by decide, show _ ≤ 84000 by decide⟩ ⟨show u + 3 + 0 ≤ 601024 by omega, show v + 8 * 3 + 8 * 0 ≤ 7293034 by omega⟩ rfl (bc_mono hF (fun r M3 hr => ?_))
  obtain ⟨z, rfl, h4, ho, hK3⟩ := hr
  refine wg_istore eL_law_813 rfl ?_
  refine wg_aload_n eL_law_815 rfl ?_
  refine bg_callV (k := 33) (j := 0) (ci := 9) (n := 0) (As := []) (st := []) eL_law_816 mw_1479 mw_1480 mw_1481 mw_114 mw_1482 ⟨rfl, by decide, by decide, by decide +kernel⟩ rfl rfl (by decide) rfl (by decide) ⟨show _ ≤ 2048 by decide, show _ ≤ 84000 by decide⟩ ⟨show u + 3 + 0 + 0 ≤ 601024 by omega, show v + 8 * 3 + 8 * 0 + 8 * 0 ≤ 7293034 by omega⟩ rfl (ct_mThrown ?_)
  rw [h4]
  refine wg_iload eL_law_819 rfl ?_
  refine wg_icmp_same eL_law_821 ?_
  refine wg_iload eL_law_826 rfl ?_
  refine wg_if_ne eL_law_828 (fun _ => ?_) (fun c0 => ?_)
  · exact wg_goto eL_law_843 (wg_widen (by omega) (by omega) (K M3 _ _ _ hK3))
  have e0 := ho (by omega)
  refine wg_aload_n eL_law_831 rfl ?_
  refine wg_iconst eL_law_832 ?_
  refine bg_lald (k := 51) (n := 1) (j := 0) (i := 0) eL_law_833 (fun _ => rfl) (by decide) (by decide) (by decide) ?_
  rw [e0]
  refine wg_iload eL_law_834 rfl ?_
  refine wg_i2l eL_law_836 ?_
  refine wg_lcmp_same eL_law_837 ?_
  refine wg_if_eq eL_law_838 (fun _ => ?_) (fun h => absurd rfl h)
  exact wg_goto eL_law_843 (wg_widen (by omega) (by omega) (K M3 _ _ _ hK3))
theorem lc_moveItem {G : bc_G} {b Ls : Nat} {xs : Nat → Int32} {j u v : Nat} {M : bc_M} {y6 y7 y8 : Option Value} (hK : KK M (j : Int)) (hj : 6 * (j : Int) + 5 < (Ls : Int)) (hL : Ls ≤ 3072) (hu : u + 5 ≤ 601024) (hv : v + 40 ≤ 7293034) (K : ∀ (M' : bc_M) (y6 y7 y8 : Option Value), KK M' ((j : Int) + 1) → bg_W G RL cL_law 9 ret room_1 (lw_T G b Ls xs) lw_E (u + 5) (v + 40) 3074 [some (.ref b), some (vR G 1 0), some (vR G 33 0), some (vR G 51 0), some (vR G 52 0), some (vI (6 * (j : Int))), y6, y7, y8] [] M') : bg_W G RL cL_law 9 ret room_1 (lw_T G b Ls xs) lw_E u v 846 [some (.ref b), some (vR G 1 0), some (vR G 33 0), some (vR G 51 0), some (vR G 52 0), some (vI (6 * (j : Int))), y6, y7, y8] [] M := by
  refine wg_aload_n eL_law_846 rfl ?_
  refine wg_aload_no eL_law_847 rfl ?_
  refine wg_iload eL_law_848 rfl ?_
  refine wg_iconst eL_law_850 ?_
  refine wg_iadd eL_law_851 ?_
  refine wg_sld eL_law_852 ?_
  refine wg_aload_no eL_law_853 rfl ?_
  refine wg_iload eL_law_854 rfl ?_
  refine wg_iconst eL_law_856 ?_
  refine wg_iadd eL_law_857 ?_
  refine wg_sld eL_law_858 ?_
  refine wg_aload_n eL_law_859 rfl ?_
  refine bg_callSH (hh := [(0, 10, 13, 13), (0, 10, 17, 19)]) (n := 4) (As := [vR G 1 0, vI (sx xs (6 * (j : Int) + 1)), vI (sx xs (6 * (j : Int) + 2)), vR G 51 0]) (st := []) eL_law_860 mw_908 mw_909 mw_104 mw_910 ⟨by decide, by decide, by decide +kernel⟩ rfl (by decide) ⟨show _ ≤ 2048 by decide, show _ ≤ 84000 by decide⟩ ⟨show u + 3 ≤ 601024 by omega, show v + 8 * 3 ≤ 7293034 by omega⟩ rfl (bh_mono (hp_moveItem (st_moveItem sx_rng sx_rng hK (by omega))) (fun r M2 hr => ?_))
  obtain ⟨k, rfl, hk, hF⟩ := hr
  refine wg_istore eL_law_863 rfl ?_
  refine wg_aload_n eL_law_865 rfl ?_
  refine wg_aload_no eL_law_866 rfl ?_
  refine wg_iload eL_law_867 rfl ?_
  refine wg_iconst eL_law_869 ?_
  refine wg_iadd eL_law_870 ?_
  refine wg_sld eL_law_871 ?_
  refine wg_aload_no eL_law_872 rfl ?_
  refine wg_iload eL_law_873 rfl ?_
  refine wg_iconst eL_law_875 ?_
  refine wg_iadd eL_law_876 ?_
  refine wg_sld eL_law_877 ?_
  refine bg_callV (k := 33) (j := 0) (ci := 9) (n := 2) (As := [vI (sx xs (6 * (j : Int) + 1)), vI (sx xs (6 * (j : Int) + 2))]) (st := []) eL_law_878 mw_1698 mw_1699 mw_1700 mw_114 mw_1701 ⟨rfl, by decide, by decide, by decide +kernel⟩ rfl rfl (by decide) rfl (by decide) ⟨show _ ≤ 2048 by decide, show _ ≤ 84000 by decide⟩ ⟨show u + 3 + 0 ≤ 601024 by omega, show v + 8 * 3 + 8 * 0 ≤ 7293034 by omega⟩ rfl (bc_mono hF (fun r M3 hr => ?_))
  obtain ⟨z, rfl, h4, ho, hK3⟩ := hr
  refine wg_istore eL_law_881 rfl ?_
  refine wg_aload_n eL_law_883 rfl ?_
  refine bg_callV (k := 33) (j := 0) (ci := 9) (n := 0) (As := []) (st := []) eL_law_884 mw_1479 mw_1480 mw_1481 mw_114 mw_1482 ⟨rfl, by decide, by decide, by decide +kernel⟩ rfl rfl (by decide) rfl (by decide) ⟨show _ ≤ 2048 by decide, show _ ≤ 84000 by decide⟩ ⟨show u + 3 + 0 + 0 ≤ 601024 by omega, show v + 8 * 3 + 8 * 0 + 8 * 0 ≤ 7293034 by omega⟩ rfl (ct_mThrown ?_)
  rw [h4]
  refine wg_iload eL_law_887 rfl ?_
  refine wg_icmp_same eL_law_889 ?_
  refine wg_iload eL_law_894 rfl ?_
  refine wg_if_ne eL_law_896 (fun _ => ?_) (fun c0 => ?_)
  · exact wg_goto eL_law_911 (wg_widen (by omega) (by omega) (K M3 _ _ _ hK3))
  have e0 := ho (by omega)
  refine wg_aload_n eL_law_899 rfl ?_
  refine wg_iconst eL_law_900 ?_
  refine bg_lald (k := 51) (n := 1) (j := 0) (i := 0) eL_law_901 (fun _ => rfl) (by decide) (by decide) (by decide) ?_
  rw [e0]
  refine wg_iload eL_law_902 rfl ?_
  refine wg_i2l eL_law_904 ?_
  refine wg_lcmp_same eL_law_905 ?_
  refine wg_if_eq eL_law_906 (fun _ => ?_) (fun h => absurd rfl h)
  exact wg_goto eL_law_911 (wg_widen (by omega) (by omega) (K M3 _ _ _ hK3))
theorem lc_repair {G : bc_G} {b Ls : Nat} {xs : Nat → Int32} {j u v : Nat} {M : bc_M} {y6 y7 y8 : Option Value} (hK : KK M (j : Int)) (hj : 6 * (j : Int) + 5 < (Ls : Int)) (hL : Ls ≤ 3072) (hu : u + 5 ≤ 601024) (hv : v + 40 ≤ 7293034) (K : ∀ (M' : bc_M) (y6 y7 y8 : Option Value), KK M' ((j : Int) + 1) → bg_W G RL cL_law 9 ret room_1 (lw_T G b Ls xs) lw_E (u + 5) (v + 40) 3074 [some (.ref b), some (vR G 1 0), some (vR G 33 0), some (vR G 51 0), some (vR G 52 0), some (vI (6 * (j : Int))), y6, y7, y8] [] M') : bg_W G RL cL_law 9 ret room_1 (lw_T G b Ls xs) lw_E u v 914 [some (.ref b), some (vR G 1 0), some (vR G 33 0), some (vR G 51 0), some (vR G 52 0), some (vI (6 * (j : Int))), y6, y7, y8] [] M := by
  refine wg_aload_n eL_law_914 rfl ?_
  refine wg_aload_n eL_law_915 rfl ?_
  refine bg_callSH (hh := [(0, 8, 11, 13)]) (n := 2) (As := [vR G 1 0, vR G 51 0]) (st := []) eL_law_916 mw_915 mw_916 mw_104 mw_917 ⟨by decide, by decide, by decide +kernel⟩ rfl (by decide) ⟨show _ ≤ 2048 by decide, show _ ≤ 84000 by decide⟩ ⟨show u + 1 ≤ 601024 by omega, show v + 8 * 1 ≤ 7293034 by omega⟩ rfl (bh_mono (hp_repair (st_repair  hK (by omega))) (fun r M2 hr => ?_))
  obtain ⟨k, rfl, hk, hF⟩ := hr
  refine wg_istore eL_law_919 rfl ?_
  refine wg_aload_n eL_law_921 rfl ?_
  refine bg_callV (k := 33) (j := 0) (ci := 9) (n := 0) (As := []) (st := []) eL_law_922 mw_1702 mw_1703 mw_1704 mw_114 mw_1705 ⟨rfl, by decide, by decide, by decide +kernel⟩ rfl rfl (by decide) rfl (by decide) ⟨show _ ≤ 2048 by decide, show _ ≤ 84000 by decide⟩ ⟨show u + 1 + 0 ≤ 601024 by omega, show v + 8 * 1 + 8 * 0 ≤ 7293034 by omega⟩ rfl (bc_mono hF (fun r M3 hr => ?_))
  obtain ⟨z, rfl, h4, ho, hK3⟩ := hr
  refine wg_istore eL_law_925 rfl ?_
  refine wg_aload_n eL_law_927 rfl ?_
  refine bg_callV (k := 33) (j := 0) (ci := 9) (n := 0) (As := []) (st := []) eL_law_928 mw_1479 mw_1480 mw_1481 mw_114 mw_1482 ⟨rfl, by decide, by decide, by decide +kernel⟩ rfl rfl (by decide) rfl (by decide) ⟨show _ ≤ 2048 by decide, show _ ≤ 84000 by decide⟩ ⟨show u + 1 + 0 + 0 ≤ 601024 by omega, show v + 8 * 1 + 8 * 0 + 8 * 0 ≤ 7293034 by omega⟩ rfl (ct_mThrown ?_)
  rw [h4]
  refine wg_iload eL_law_931 rfl ?_
  refine wg_icmp_same eL_law_933 ?_
  refine wg_iload eL_law_938 rfl ?_
  refine wg_if_ne eL_law_940 (fun _ => ?_) (fun c0 => ?_)
  · exact wg_goto eL_law_955 (wg_widen (by omega) (by omega) (K M3 _ _ _ hK3))
  have e0 := ho (by omega)
  refine wg_aload_n eL_law_943 rfl ?_
  refine wg_iconst eL_law_944 ?_
  refine bg_lald (k := 51) (n := 1) (j := 0) (i := 0) eL_law_945 (fun _ => rfl) (by decide) (by decide) (by decide) ?_
  rw [e0]
  refine wg_iload eL_law_946 rfl ?_
  refine wg_i2l eL_law_948 ?_
  refine wg_lcmp_same eL_law_949 ?_
  refine wg_if_eq eL_law_950 (fun _ => ?_) (fun h => absurd rfl h)
  exact wg_goto eL_law_955 (wg_widen (by omega) (by omega) (K M3 _ _ _ hK3))
theorem lc_applyTiers {G : bc_G} {b Ls : Nat} {xs : Nat → Int32} {j u v : Nat} {M : bc_M} {y6 y7 y8 : Option Value} (hK : KK M (j : Int)) (hj : 6 * (j : Int) + 5 < (Ls : Int)) (hL : Ls ≤ 3072) (hu : u + 5 ≤ 601024) (hv : v + 40 ≤ 7293034) (K : ∀ (M' : bc_M) (y6 y7 y8 : Option Value), KK M' ((j : Int) + 1) → bg_W G RL cL_law 9 ret room_1 (lw_T G b Ls xs) lw_E (u + 5) (v + 40) 3074 [some (.ref b), some (vR G 1 0), some (vR G 33 0), some (vR G 51 0), some (vR G 52 0), some (vI (6 * (j : Int))), y6, y7, y8] [] M') : bg_W G RL cL_law 9 ret room_1 (lw_T G b Ls xs) lw_E u v 958 [some (.ref b), some (vR G 1 0), some (vR G 33 0), some (vR G 51 0), some (vR G 52 0), some (vI (6 * (j : Int))), y6, y7, y8] [] M := by
  refine wg_aload_n eL_law_958 rfl ?_
  refine wg_aload_no eL_law_959 rfl ?_
  refine wg_iload eL_law_960 rfl ?_
  refine wg_iconst eL_law_962 ?_
  refine wg_iadd eL_law_963 ?_
  refine wg_sld eL_law_964 ?_
  refine wg_aload_n eL_law_965 rfl ?_
  refine bg_callSH (hh := [(0, 9, 12, 13), (0, 9, 15, 19)]) (n := 3) (As := [vR G 1 0, vI (sx xs (6 * (j : Int) + 1)), vR G 51 0]) (st := []) eL_law_966 mw_946 mw_947 mw_104 mw_948 ⟨by decide, by decide, by decide +kernel⟩ rfl (by decide) ⟨show _ ≤ 2048 by decide, show _ ≤ 84000 by decide⟩ ⟨show u + 2 ≤ 601024 by omega, show v + 8 * 2 ≤ 7293034 by omega⟩ rfl (bh_mono (hp_applyTiers (st_applyTiers sx_rng hK (by omega))) (fun r M2 hr => ?_))
  obtain ⟨k, rfl, hk, hF⟩ := hr
  refine wg_istore eL_law_969 rfl ?_
  refine wg_aload_n eL_law_971 rfl ?_
  refine wg_aload_no eL_law_972 rfl ?_
  refine wg_iload eL_law_973 rfl ?_
  refine wg_iconst eL_law_975 ?_
  refine wg_iadd eL_law_976 ?_
  refine wg_sld eL_law_977 ?_
  refine bg_callV (k := 33) (j := 0) (ci := 9) (n := 1) (As := [vI (sx xs (6 * (j : Int) + 1))]) (st := []) eL_law_978 mw_1727 mw_1728 mw_1729 mw_114 mw_1730 ⟨rfl, by decide, by decide, by decide +kernel⟩ rfl rfl (by decide) rfl (by decide) ⟨show _ ≤ 2048 by decide, show _ ≤ 84000 by decide⟩ ⟨show u + 2 + 0 ≤ 601024 by omega, show v + 8 * 2 + 8 * 0 ≤ 7293034 by omega⟩ rfl (bc_mono hF (fun r M3 hr => ?_))
  obtain ⟨z, rfl, h4, ho, hK3⟩ := hr
  refine wg_istore eL_law_981 rfl ?_
  refine wg_aload_n eL_law_983 rfl ?_
  refine bg_callV (k := 33) (j := 0) (ci := 9) (n := 0) (As := []) (st := []) eL_law_984 mw_1479 mw_1480 mw_1481 mw_114 mw_1482 ⟨rfl, by decide, by decide, by decide +kernel⟩ rfl rfl (by decide) rfl (by decide) ⟨show _ ≤ 2048 by decide, show _ ≤ 84000 by decide⟩ ⟨show u + 2 + 0 + 0 ≤ 601024 by omega, show v + 8 * 2 + 8 * 0 + 8 * 0 ≤ 7293034 by omega⟩ rfl (ct_mThrown ?_)
  rw [h4]
  refine wg_iload eL_law_987 rfl ?_
  refine wg_icmp_same eL_law_989 ?_
  refine wg_iload eL_law_994 rfl ?_
  refine wg_if_ne eL_law_996 (fun _ => ?_) (fun c0 => ?_)
  · exact wg_goto eL_law_1011 (wg_widen (by omega) (by omega) (K M3 _ _ _ hK3))
  have e0 := ho (by omega)
  refine wg_aload_n eL_law_999 rfl ?_
  refine wg_iconst eL_law_1000 ?_
  refine bg_lald (k := 51) (n := 1) (j := 0) (i := 0) eL_law_1001 (fun _ => rfl) (by decide) (by decide) (by decide) ?_
  rw [e0]
  refine wg_iload eL_law_1002 rfl ?_
  refine wg_i2l eL_law_1004 ?_
  refine wg_lcmp_same eL_law_1005 ?_
  refine wg_if_eq eL_law_1006 (fun _ => ?_) (fun h => absurd rfl h)
  exact wg_goto eL_law_1011 (wg_widen (by omega) (by omega) (K M3 _ _ _ hK3))
theorem lc_itemValue {G : bc_G} {b Ls : Nat} {xs : Nat → Int32} {j u v : Nat} {M : bc_M} {y6 y7 y8 : Option Value} (hK : KK M (j : Int)) (hj : 6 * (j : Int) + 5 < (Ls : Int)) (hL : Ls ≤ 3072) (hu : u + 5 ≤ 601024) (hv : v + 40 ≤ 7293034) (K : ∀ (M' : bc_M) (y6 y7 y8 : Option Value), KK M' ((j : Int) + 1) → bg_W G RL cL_law 9 ret room_1 (lw_T G b Ls xs) lw_E (u + 5) (v + 40) 3074 [some (.ref b), some (vR G 1 0), some (vR G 33 0), some (vR G 51 0), some (vR G 52 0), some (vI (6 * (j : Int))), y6, y7, y8] [] M') : bg_W G RL cL_law 9 ret room_1 (lw_T G b Ls xs) lw_E u v 1014 [some (.ref b), some (vR G 1 0), some (vR G 33 0), some (vR G 51 0), some (vR G 52 0), some (vI (6 * (j : Int))), y6, y7, y8] [] M := by
  refine wg_aload_n eL_law_1014 rfl ?_
  refine wg_aload_no eL_law_1015 rfl ?_
  refine wg_iload eL_law_1016 rfl ?_
  refine wg_iconst eL_law_1018 ?_
  refine wg_iadd eL_law_1019 ?_
  refine wg_sld eL_law_1020 ?_
  refine wg_aload_no eL_law_1021 rfl ?_
  refine wg_iload eL_law_1022 rfl ?_
  refine wg_iconst eL_law_1024 ?_
  refine wg_iadd eL_law_1025 ?_
  refine wg_sld eL_law_1026 ?_
  refine wg_aload_n eL_law_1027 rfl ?_
  refine bg_callSH (hh := [(0, 10, 13, 13), (0, 10, 17, 19)]) (n := 4) (As := [vR G 1 0, vI (sx xs (6 * (j : Int) + 1)), vI (sx xs (6 * (j : Int) + 2)), vR G 51 0]) (st := []) eL_law_1028 mw_1007 mw_1008 mw_104 mw_1009 ⟨by decide, by decide, by decide +kernel⟩ rfl (by decide) ⟨show _ ≤ 2048 by decide, show _ ≤ 84000 by decide⟩ ⟨show u + 3 ≤ 601024 by omega, show v + 8 * 3 ≤ 7293034 by omega⟩ rfl (bh_mono (hp_itemValue (st_itemValue sx_rng sx_rng hK (by omega))) (fun r M2 hr => ?_))
  obtain ⟨k, rfl, hk, hF⟩ := hr
  refine wg_istore eL_law_1031 rfl ?_
  refine wg_aload_n eL_law_1033 rfl ?_
  refine wg_aload_no eL_law_1034 rfl ?_
  refine wg_iload eL_law_1035 rfl ?_
  refine wg_iconst eL_law_1037 ?_
  refine wg_iadd eL_law_1038 ?_
  refine wg_sld eL_law_1039 ?_
  refine wg_aload_no eL_law_1040 rfl ?_
  refine wg_iload eL_law_1041 rfl ?_
  refine wg_iconst eL_law_1043 ?_
  refine wg_iadd eL_law_1044 ?_
  refine wg_sld eL_law_1045 ?_
  refine bg_callV (k := 33) (j := 0) (ci := 9) (n := 2) (As := [vI (sx xs (6 * (j : Int) + 1)), vI (sx xs (6 * (j : Int) + 2))]) (st := []) eL_law_1046 mw_1763 mw_1764 mw_1765 mw_114 mw_1766 ⟨rfl, by decide, by decide, by decide +kernel⟩ rfl rfl (by decide) rfl (by decide) ⟨show _ ≤ 2048 by decide, show _ ≤ 84000 by decide⟩ ⟨show u + 3 + 0 ≤ 601024 by omega, show v + 8 * 3 + 8 * 0 ≤ 7293034 by omega⟩ rfl (bc_mono hF (fun r M3 hr => ?_))
  obtain ⟨z, rfl, h4, ho, hK3⟩ := hr
  refine wg_istore eL_law_1049 rfl ?_
  refine wg_aload_n eL_law_1051 rfl ?_
  refine bg_callV (k := 33) (j := 0) (ci := 9) (n := 0) (As := []) (st := []) eL_law_1052 mw_1479 mw_1480 mw_1481 mw_114 mw_1482 ⟨rfl, by decide, by decide, by decide +kernel⟩ rfl rfl (by decide) rfl (by decide) ⟨show _ ≤ 2048 by decide, show _ ≤ 84000 by decide⟩ ⟨show u + 3 + 0 + 0 ≤ 601024 by omega, show v + 8 * 3 + 8 * 0 + 8 * 0 ≤ 7293034 by omega⟩ rfl (ct_mThrown ?_)
  rw [h4]
  refine wg_iload eL_law_1055 rfl ?_
  refine wg_icmp_same eL_law_1057 ?_
  refine wg_iload eL_law_1062 rfl ?_
  refine wg_if_ne eL_law_1064 (fun _ => ?_) (fun c0 => ?_)
  · exact wg_goto eL_law_1079 (wg_widen (by omega) (by omega) (K M3 _ _ _ hK3))
  have e0 := ho (by omega)
  refine wg_aload_n eL_law_1067 rfl ?_
  refine wg_iconst eL_law_1068 ?_
  refine bg_lald (k := 51) (n := 1) (j := 0) (i := 0) eL_law_1069 (fun _ => rfl) (by decide) (by decide) (by decide) ?_
  rw [e0]
  refine wg_iload eL_law_1070 rfl ?_
  refine wg_i2l eL_law_1072 ?_
  refine wg_lcmp_same eL_law_1073 ?_
  refine wg_if_eq eL_law_1074 (fun _ => ?_) (fun h => absurd rfl h)
  exact wg_goto eL_law_1079 (wg_widen (by omega) (by omega) (K M3 _ _ _ hK3))
theorem lc_frequency {G : bc_G} {b Ls : Nat} {xs : Nat → Int32} {j u v : Nat} {M : bc_M} {y6 y7 y8 : Option Value} (hK : KK M (j : Int)) (hj : 6 * (j : Int) + 5 < (Ls : Int)) (hL : Ls ≤ 3072) (hu : u + 5 ≤ 601024) (hv : v + 40 ≤ 7293034) (K : ∀ (M' : bc_M) (y6 y7 y8 : Option Value), KK M' ((j : Int) + 1) → bg_W G RL cL_law 9 ret room_1 (lw_T G b Ls xs) lw_E (u + 5) (v + 40) 3074 [some (.ref b), some (vR G 1 0), some (vR G 33 0), some (vR G 51 0), some (vR G 52 0), some (vI (6 * (j : Int))), y6, y7, y8] [] M') : bg_W G RL cL_law 9 ret room_1 (lw_T G b Ls xs) lw_E u v 1082 [some (.ref b), some (vR G 1 0), some (vR G 33 0), some (vR G 51 0), some (vR G 52 0), some (vI (6 * (j : Int))), y6, y7, y8] [] M := by
  refine wg_aload_n eL_law_1082 rfl ?_
  refine wg_aload_no eL_law_1083 rfl ?_
  refine wg_iload eL_law_1084 rfl ?_
  refine wg_iconst eL_law_1086 ?_
  refine wg_iadd eL_law_1087 ?_
  refine wg_sld eL_law_1088 ?_
  refine wg_aload_n eL_law_1089 rfl ?_
  refine bg_callSH (hh := [(0, 9, 12, 13), (0, 9, 15, 19)]) (n := 3) (As := [vR G 1 0, vI (sx xs (6 * (j : Int) + 1)), vR G 51 0]) (st := []) eL_law_1090 mw_1014 mw_1015 mw_104 mw_1016 ⟨by decide, by decide, by decide +kernel⟩ rfl (by decide) ⟨show _ ≤ 2048 by decide, show _ ≤ 84000 by decide⟩ ⟨show u + 2 ≤ 601024 by omega, show v + 8 * 2 ≤ 7293034 by omega⟩ rfl (bh_mono (hp_frequency (st_frequency sx_rng hK (by omega))) (fun r M2 hr => ?_))
  obtain ⟨k, rfl, hk, hF⟩ := hr
  refine wg_istore eL_law_1093 rfl ?_
  refine wg_aload_n eL_law_1095 rfl ?_
  refine wg_aload_no eL_law_1096 rfl ?_
  refine wg_iload eL_law_1097 rfl ?_
  refine wg_iconst eL_law_1099 ?_
  refine wg_iadd eL_law_1100 ?_
  refine wg_sld eL_law_1101 ?_
  refine bg_callV (k := 33) (j := 0) (ci := 9) (n := 1) (As := [vI (sx xs (6 * (j : Int) + 1))]) (st := []) eL_law_1102 mw_1768 mw_1769 mw_1770 mw_114 mw_1771 ⟨rfl, by decide, by decide, by decide +kernel⟩ rfl rfl (by decide) rfl (by decide) ⟨show _ ≤ 2048 by decide, show _ ≤ 84000 by decide⟩ ⟨show u + 2 + 0 ≤ 601024 by omega, show v + 8 * 2 + 8 * 0 ≤ 7293034 by omega⟩ rfl (bc_mono hF (fun r M3 hr => ?_))
  obtain ⟨z, rfl, h4, ho, hK3⟩ := hr
  refine wg_istore eL_law_1105 rfl ?_
  refine wg_aload_n eL_law_1107 rfl ?_
  refine bg_callV (k := 33) (j := 0) (ci := 9) (n := 0) (As := []) (st := []) eL_law_1108 mw_1479 mw_1480 mw_1481 mw_114 mw_1482 ⟨rfl, by decide, by decide, by decide +kernel⟩ rfl rfl (by decide) rfl (by decide) ⟨show _ ≤ 2048 by decide, show _ ≤ 84000 by decide⟩ ⟨show u + 2 + 0 + 0 ≤ 601024 by omega, show v + 8 * 2 + 8 * 0 + 8 * 0 ≤ 7293034 by omega⟩ rfl (ct_mThrown ?_)
  rw [h4]
  refine wg_iload eL_law_1111 rfl ?_
  refine wg_icmp_same eL_law_1113 ?_
  refine wg_iload eL_law_1118 rfl ?_
  refine wg_if_ne eL_law_1120 (fun _ => ?_) (fun c0 => ?_)
  · exact wg_goto eL_law_1135 (wg_widen (by omega) (by omega) (K M3 _ _ _ hK3))
  have e0 := ho (by omega)
  refine wg_aload_n eL_law_1123 rfl ?_
  refine wg_iconst eL_law_1124 ?_
  refine bg_lald (k := 51) (n := 1) (j := 0) (i := 0) eL_law_1125 (fun _ => rfl) (by decide) (by decide) (by decide) ?_
  rw [e0]
  refine wg_iload eL_law_1126 rfl ?_
  refine wg_i2l eL_law_1128 ?_
  refine wg_lcmp_same eL_law_1129 ?_
  refine wg_if_eq eL_law_1130 (fun _ => ?_) (fun h => absurd rfl h)
  exact wg_goto eL_law_1135 (wg_widen (by omega) (by omega) (K M3 _ _ _ hK3))
theorem lc_itemsOf {G : bc_G} {b Ls : Nat} {xs : Nat → Int32} {j u v : Nat} {M : bc_M} {y6 y7 y8 : Option Value} (hK : KK M (j : Int)) (hj : 6 * (j : Int) + 5 < (Ls : Int)) (hL : Ls ≤ 3072) (hu : u + 5 ≤ 601024) (hv : v + 40 ≤ 7293034) (K : ∀ (M' : bc_M) (y6 y7 y8 : Option Value), KK M' ((j : Int) + 1) → bg_W G RL cL_law 9 ret room_1 (lw_T G b Ls xs) lw_E (u + 5) (v + 40) 3074 [some (.ref b), some (vR G 1 0), some (vR G 33 0), some (vR G 51 0), some (vR G 52 0), some (vI (6 * (j : Int))), y6, y7, y8] [] M') : bg_W G RL cL_law 9 ret room_1 (lw_T G b Ls xs) lw_E u v 1138 [some (.ref b), some (vR G 1 0), some (vR G 33 0), some (vR G 51 0), some (vR G 52 0), some (vI (6 * (j : Int))), y6, y7, y8] [] M := by
  refine wg_aload_n eL_law_1138 rfl ?_
  refine wg_aload_no eL_law_1139 rfl ?_
  refine wg_iload eL_law_1140 rfl ?_
  refine wg_iconst eL_law_1142 ?_
  refine wg_iadd eL_law_1143 ?_
  refine wg_sld eL_law_1144 ?_
  refine wg_aload_n eL_law_1145 rfl ?_
  refine bg_callSH (hh := [(0, 9, 12, 13), (0, 9, 15, 19)]) (n := 3) (As := [vR G 1 0, vI (sx xs (6 * (j : Int) + 1)), vR G 51 0]) (st := []) eL_law_1146 mw_1021 mw_1022 mw_104 mw_1023 ⟨by decide, by decide, by decide +kernel⟩ rfl (by decide) ⟨show _ ≤ 2048 by decide, show _ ≤ 84000 by decide⟩ ⟨show u + 2 ≤ 601024 by omega, show v + 8 * 2 ≤ 7293034 by omega⟩ rfl (bh_mono (hp_itemsOf (st_itemsOf sx_rng hK (by omega))) (fun r M2 hr => ?_))
  obtain ⟨k, rfl, hk, hF⟩ := hr
  refine wg_istore eL_law_1149 rfl ?_
  refine wg_aload_n eL_law_1151 rfl ?_
  refine wg_aload_no eL_law_1152 rfl ?_
  refine wg_iload eL_law_1153 rfl ?_
  refine wg_iconst eL_law_1155 ?_
  refine wg_iadd eL_law_1156 ?_
  refine wg_sld eL_law_1157 ?_
  refine bg_callV (k := 33) (j := 0) (ci := 9) (n := 1) (As := [vI (sx xs (6 * (j : Int) + 1))]) (st := []) eL_law_1158 mw_1772 mw_1773 mw_1774 mw_114 mw_1775 ⟨rfl, by decide, by decide, by decide +kernel⟩ rfl rfl (by decide) rfl (by decide) ⟨show _ ≤ 2048 by decide, show _ ≤ 84000 by decide⟩ ⟨show u + 2 + 0 ≤ 601024 by omega, show v + 8 * 2 + 8 * 0 ≤ 7293034 by omega⟩ rfl (bc_mono hF (fun r M3 hr => ?_))
  obtain ⟨z, rfl, h4, ho, hK3⟩ := hr
  refine wg_istore eL_law_1161 rfl ?_
  refine wg_aload_n eL_law_1163 rfl ?_
  refine bg_callV (k := 33) (j := 0) (ci := 9) (n := 0) (As := []) (st := []) eL_law_1164 mw_1479 mw_1480 mw_1481 mw_114 mw_1482 ⟨rfl, by decide, by decide, by decide +kernel⟩ rfl rfl (by decide) rfl (by decide) ⟨show _ ≤ 2048 by decide, show _ ≤ 84000 by decide⟩ ⟨show u + 2 + 0 + 0 ≤ 601024 by omega, show v + 8 * 2 + 8 * 0 + 8 * 0 ≤ 7293034 by omega⟩ rfl (ct_mThrown ?_)
  rw [h4]
  refine wg_iload eL_law_1167 rfl ?_
  refine wg_icmp_same eL_law_1169 ?_
  refine wg_iload eL_law_1174 rfl ?_
  refine wg_if_ne eL_law_1176 (fun _ => ?_) (fun c0 => ?_)
  · exact wg_goto eL_law_1191 (wg_widen (by omega) (by omega) (K M3 _ _ _ hK3))
  have e0 := ho (by omega)
  refine wg_aload_n eL_law_1179 rfl ?_
  refine wg_iconst eL_law_1180 ?_
  refine bg_lald (k := 51) (n := 1) (j := 0) (i := 0) eL_law_1181 (fun _ => rfl) (by decide) (by decide) (by decide) ?_
  rw [e0]
  refine wg_iload eL_law_1182 rfl ?_
  refine wg_i2l eL_law_1184 ?_
  refine wg_lcmp_same eL_law_1185 ?_
  refine wg_if_eq eL_law_1186 (fun _ => ?_) (fun h => absurd rfl h)
  exact wg_goto eL_law_1191 (wg_widen (by omega) (by omega) (K M3 _ _ _ hK3))
theorem lc_cycle {G : bc_G} {b Ls : Nat} {xs : Nat → Int32} {j u v : Nat} {M : bc_M} {y6 y7 y8 : Option Value} (hK : KK M (j : Int)) (hj : 6 * (j : Int) + 5 < (Ls : Int)) (hL : Ls ≤ 3072) (hu : u + 5 ≤ 601024) (hv : v + 40 ≤ 7293034) (K : ∀ (M' : bc_M) (y6 y7 y8 : Option Value), KK M' ((j : Int) + 1) → bg_W G RL cL_law 9 ret room_1 (lw_T G b Ls xs) lw_E (u + 5) (v + 40) 3074 [some (.ref b), some (vR G 1 0), some (vR G 33 0), some (vR G 51 0), some (vR G 52 0), some (vI (6 * (j : Int))), y6, y7, y8] [] M') : bg_W G RL cL_law 9 ret room_1 (lw_T G b Ls xs) lw_E u v 1194 [some (.ref b), some (vR G 1 0), some (vR G 33 0), some (vR G 51 0), some (vR G 52 0), some (vI (6 * (j : Int))), y6, y7, y8] [] M := by
  refine wg_aload_n eL_law_1194 rfl ?_
  refine wg_aload_n eL_law_1195 rfl ?_
  refine bg_callSH (hh := [(0, 8, 11, 13)]) (n := 2) (As := [vR G 1 0, vR G 51 0]) (st := []) eL_law_1196 mw_1028 mw_1029 mw_104 mw_1030 ⟨by decide, by decide, by decide +kernel⟩ rfl (by decide) ⟨show _ ≤ 2048 by decide, show _ ≤ 84000 by decide⟩ ⟨show u + 1 ≤ 601024 by omega, show v + 8 * 1 ≤ 7293034 by omega⟩ rfl (bh_mono (hp_cycle (st_cycle  hK (by omega))) (fun r M2 hr => ?_))
  obtain ⟨k, rfl, hk, hF⟩ := hr
  refine wg_istore eL_law_1199 rfl ?_
  refine wg_aload_n eL_law_1201 rfl ?_
  refine bg_callV (k := 33) (j := 0) (ci := 9) (n := 0) (As := []) (st := []) eL_law_1202 mw_1776 mw_1777 mw_1778 mw_114 mw_1779 ⟨rfl, by decide, by decide, by decide +kernel⟩ rfl rfl (by decide) rfl (by decide) ⟨show _ ≤ 2048 by decide, show _ ≤ 84000 by decide⟩ ⟨show u + 1 + 0 ≤ 601024 by omega, show v + 8 * 1 + 8 * 0 ≤ 7293034 by omega⟩ rfl (bc_mono hF (fun r M3 hr => ?_))
  obtain ⟨z, rfl, h4, ho, hK3⟩ := hr
  refine wg_istore eL_law_1205 rfl ?_
  refine wg_aload_n eL_law_1207 rfl ?_
  refine bg_callV (k := 33) (j := 0) (ci := 9) (n := 0) (As := []) (st := []) eL_law_1208 mw_1479 mw_1480 mw_1481 mw_114 mw_1482 ⟨rfl, by decide, by decide, by decide +kernel⟩ rfl rfl (by decide) rfl (by decide) ⟨show _ ≤ 2048 by decide, show _ ≤ 84000 by decide⟩ ⟨show u + 1 + 0 + 0 ≤ 601024 by omega, show v + 8 * 1 + 8 * 0 + 8 * 0 ≤ 7293034 by omega⟩ rfl (ct_mThrown ?_)
  rw [h4]
  refine wg_iload eL_law_1211 rfl ?_
  refine wg_icmp_same eL_law_1213 ?_
  refine wg_iload eL_law_1218 rfl ?_
  refine wg_if_ne eL_law_1220 (fun _ => ?_) (fun c0 => ?_)
  · exact wg_goto eL_law_1235 (wg_widen (by omega) (by omega) (K M3 _ _ _ hK3))
  have e0 := ho (by omega)
  refine wg_aload_n eL_law_1223 rfl ?_
  refine wg_iconst eL_law_1224 ?_
  refine bg_lald (k := 51) (n := 1) (j := 0) (i := 0) eL_law_1225 (fun _ => rfl) (by decide) (by decide) (by decide) ?_
  rw [e0]
  refine wg_iload eL_law_1226 rfl ?_
  refine wg_i2l eL_law_1228 ?_
  refine wg_lcmp_same eL_law_1229 ?_
  refine wg_if_eq eL_law_1230 (fun _ => ?_) (fun h => absurd rfl h)
  exact wg_goto eL_law_1235 (wg_widen (by omega) (by omega) (K M3 _ _ _ hK3))
theorem lc_slotAt {G : bc_G} {b Ls : Nat} {xs : Nat → Int32} {j u v : Nat} {M : bc_M} {y6 y7 y8 : Option Value} (hK : KK M (j : Int)) (hj : 6 * (j : Int) + 5 < (Ls : Int)) (hL : Ls ≤ 3072) (hu : u + 5 ≤ 601024) (hv : v + 40 ≤ 7293034) (K : ∀ (M' : bc_M) (y6 y7 y8 : Option Value), KK M' ((j : Int) + 1) → bg_W G RL cL_law 9 ret room_1 (lw_T G b Ls xs) lw_E (u + 5) (v + 40) 3074 [some (.ref b), some (vR G 1 0), some (vR G 33 0), some (vR G 51 0), some (vR G 52 0), some (vI (6 * (j : Int))), y6, y7, y8] [] M') : bg_W G RL cL_law 9 ret room_1 (lw_T G b Ls xs) lw_E u v 1238 [some (.ref b), some (vR G 1 0), some (vR G 33 0), some (vR G 51 0), some (vR G 52 0), some (vI (6 * (j : Int))), y6, y7, y8] [] M := by
  refine wg_aload_n eL_law_1238 rfl ?_
  refine wg_aload_no eL_law_1239 rfl ?_
  refine wg_iload eL_law_1240 rfl ?_
  refine wg_iconst eL_law_1242 ?_
  refine wg_iadd eL_law_1243 ?_
  refine wg_sld eL_law_1244 ?_
  refine wg_aload_n eL_law_1245 rfl ?_
  refine bg_callSH (hh := [(0, 9, 12, 13), (0, 9, 15, 19)]) (n := 3) (As := [vR G 1 0, vI (sx xs (6 * (j : Int) + 1)), vR G 51 0]) (st := []) eL_law_1246 mw_1035 mw_1036 mw_104 mw_1037 ⟨by decide, by decide, by decide +kernel⟩ rfl (by decide) ⟨show _ ≤ 2048 by decide, show _ ≤ 84000 by decide⟩ ⟨show u + 2 ≤ 601024 by omega, show v + 8 * 2 ≤ 7293034 by omega⟩ rfl (bh_mono (hp_slotAt (st_slotAt sx_rng hK (by omega))) (fun r M2 hr => ?_))
  obtain ⟨k, rfl, hk, hF⟩ := hr
  refine wg_istore eL_law_1249 rfl ?_
  refine wg_aload_n eL_law_1251 rfl ?_
  refine wg_aload_no eL_law_1252 rfl ?_
  refine wg_iload eL_law_1253 rfl ?_
  refine wg_iconst eL_law_1255 ?_
  refine wg_iadd eL_law_1256 ?_
  refine wg_sld eL_law_1257 ?_
  refine bg_callV (k := 33) (j := 0) (ci := 9) (n := 1) (As := [vI (sx xs (6 * (j : Int) + 1))]) (st := []) eL_law_1258 mw_1780 mw_1781 mw_1782 mw_114 mw_1783 ⟨rfl, by decide, by decide, by decide +kernel⟩ rfl rfl (by decide) rfl (by decide) ⟨show _ ≤ 2048 by decide, show _ ≤ 84000 by decide⟩ ⟨show u + 2 + 0 ≤ 601024 by omega, show v + 8 * 2 + 8 * 0 ≤ 7293034 by omega⟩ rfl (bc_mono hF (fun r M3 hr => ?_))
  obtain ⟨z, rfl, h4, ho, hK3⟩ := hr
  refine wg_istore eL_law_1261 rfl ?_
  refine wg_aload_n eL_law_1263 rfl ?_
  refine bg_callV (k := 33) (j := 0) (ci := 9) (n := 0) (As := []) (st := []) eL_law_1264 mw_1479 mw_1480 mw_1481 mw_114 mw_1482 ⟨rfl, by decide, by decide, by decide +kernel⟩ rfl rfl (by decide) rfl (by decide) ⟨show _ ≤ 2048 by decide, show _ ≤ 84000 by decide⟩ ⟨show u + 2 + 0 + 0 ≤ 601024 by omega, show v + 8 * 2 + 8 * 0 + 8 * 0 ≤ 7293034 by omega⟩ rfl (ct_mThrown ?_)
  rw [h4]
  refine wg_iload eL_law_1267 rfl ?_
  refine wg_icmp_same eL_law_1269 ?_
  refine wg_iload eL_law_1274 rfl ?_
  refine wg_if_ne eL_law_1276 (fun _ => ?_) (fun c0 => ?_)
  · exact wg_goto eL_law_1291 (wg_widen (by omega) (by omega) (K M3 _ _ _ hK3))
  have e0 := ho (by omega)
  refine wg_aload_n eL_law_1279 rfl ?_
  refine wg_iconst eL_law_1280 ?_
  refine bg_lald (k := 51) (n := 1) (j := 0) (i := 0) eL_law_1281 (fun _ => rfl) (by decide) (by decide) (by decide) ?_
  rw [e0]
  refine wg_iload eL_law_1282 rfl ?_
  refine wg_i2l eL_law_1284 ?_
  refine wg_lcmp_same eL_law_1285 ?_
  refine wg_if_eq eL_law_1286 (fun _ => ?_) (fun h => absurd rfl h)
  exact wg_goto eL_law_1291 (wg_widen (by omega) (by omega) (K M3 _ _ _ hK3))
theorem lc_occurrences {G : bc_G} {b Ls : Nat} {xs : Nat → Int32} {j u v : Nat} {M : bc_M} {y6 y7 y8 : Option Value} (hK : KK M (j : Int)) (hj : 6 * (j : Int) + 5 < (Ls : Int)) (hL : Ls ≤ 3072) (hu : u + 5 ≤ 601024) (hv : v + 40 ≤ 7293034) (K : ∀ (M' : bc_M) (y6 y7 y8 : Option Value), KK M' ((j : Int) + 1) → bg_W G RL cL_law 9 ret room_1 (lw_T G b Ls xs) lw_E (u + 5) (v + 40) 3074 [some (.ref b), some (vR G 1 0), some (vR G 33 0), some (vR G 51 0), some (vR G 52 0), some (vI (6 * (j : Int))), y6, y7, y8] [] M') : bg_W G RL cL_law 9 ret room_1 (lw_T G b Ls xs) lw_E u v 1294 [some (.ref b), some (vR G 1 0), some (vR G 33 0), some (vR G 51 0), some (vR G 52 0), some (vI (6 * (j : Int))), y6, y7, y8] [] M := by
  refine wg_aload_n eL_law_1294 rfl ?_
  refine wg_aload_no eL_law_1295 rfl ?_
  refine wg_iload eL_law_1296 rfl ?_
  refine wg_iconst eL_law_1298 ?_
  refine wg_iadd eL_law_1299 ?_
  refine wg_sld eL_law_1300 ?_
  refine wg_aload_n eL_law_1301 rfl ?_
  refine bg_callSH (hh := [(0, 9, 12, 13), (0, 9, 15, 19)]) (n := 3) (As := [vR G 1 0, vI (sx xs (6 * (j : Int) + 1)), vR G 51 0]) (st := []) eL_law_1302 mw_1047 mw_1048 mw_104 mw_1049 ⟨by decide, by decide, by decide +kernel⟩ rfl (by decide) ⟨show _ ≤ 2048 by decide, show _ ≤ 84000 by decide⟩ ⟨show u + 2 ≤ 601024 by omega, show v + 8 * 2 ≤ 7293034 by omega⟩ rfl (bh_mono (hp_occurrences (st_occurrences sx_rng hK (by omega))) (fun r M2 hr => ?_))
  obtain ⟨k, rfl, hk, hF⟩ := hr
  refine wg_istore eL_law_1305 rfl ?_
  refine wg_aload_n eL_law_1307 rfl ?_
  refine wg_aload_no eL_law_1308 rfl ?_
  refine wg_iload eL_law_1309 rfl ?_
  refine wg_iconst eL_law_1311 ?_
  refine wg_iadd eL_law_1312 ?_
  refine wg_sld eL_law_1313 ?_
  refine bg_callV (k := 33) (j := 0) (ci := 9) (n := 1) (As := [vI (sx xs (6 * (j : Int) + 1))]) (st := []) eL_law_1314 mw_1785 mw_1786 mw_1787 mw_114 mw_1788 ⟨rfl, by decide, by decide, by decide +kernel⟩ rfl rfl (by decide) rfl (by decide) ⟨show _ ≤ 2048 by decide, show _ ≤ 84000 by decide⟩ ⟨show u + 2 + 0 ≤ 601024 by omega, show v + 8 * 2 + 8 * 0 ≤ 7293034 by omega⟩ rfl (bc_mono hF (fun r M3 hr => ?_))
  obtain ⟨z, rfl, h4, ho, hK3⟩ := hr
  refine wg_istore eL_law_1317 rfl ?_
  refine wg_aload_n eL_law_1319 rfl ?_
  refine bg_callV (k := 33) (j := 0) (ci := 9) (n := 0) (As := []) (st := []) eL_law_1320 mw_1479 mw_1480 mw_1481 mw_114 mw_1482 ⟨rfl, by decide, by decide, by decide +kernel⟩ rfl rfl (by decide) rfl (by decide) ⟨show _ ≤ 2048 by decide, show _ ≤ 84000 by decide⟩ ⟨show u + 2 + 0 + 0 ≤ 601024 by omega, show v + 8 * 2 + 8 * 0 + 8 * 0 ≤ 7293034 by omega⟩ rfl (ct_mThrown ?_)
  rw [h4]
  refine wg_iload eL_law_1323 rfl ?_
  refine wg_icmp_same eL_law_1325 ?_
  refine wg_iload eL_law_1330 rfl ?_
  refine wg_if_ne eL_law_1332 (fun _ => ?_) (fun c0 => ?_)
  · exact wg_goto eL_law_1347 (wg_widen (by omega) (by omega) (K M3 _ _ _ hK3))
  have e0 := ho (by omega)
  refine wg_aload_n eL_law_1335 rfl ?_
  refine wg_iconst eL_law_1336 ?_
  refine bg_lald (k := 51) (n := 1) (j := 0) (i := 0) eL_law_1337 (fun _ => rfl) (by decide) (by decide) (by decide) ?_
  rw [e0]
  refine wg_iload eL_law_1338 rfl ?_
  refine wg_i2l eL_law_1340 ?_
  refine wg_lcmp_same eL_law_1341 ?_
  refine wg_if_eq eL_law_1342 (fun _ => ?_) (fun h => absurd rfl h)
  exact wg_goto eL_law_1347 (wg_widen (by omega) (by omega) (K M3 _ _ _ hK3))
theorem lc_emptySlots {G : bc_G} {b Ls : Nat} {xs : Nat → Int32} {j u v : Nat} {M : bc_M} {y6 y7 y8 : Option Value} (hK : KK M (j : Int)) (hj : 6 * (j : Int) + 5 < (Ls : Int)) (hL : Ls ≤ 3072) (hu : u + 5 ≤ 601024) (hv : v + 40 ≤ 7293034) (K : ∀ (M' : bc_M) (y6 y7 y8 : Option Value), KK M' ((j : Int) + 1) → bg_W G RL cL_law 9 ret room_1 (lw_T G b Ls xs) lw_E (u + 5) (v + 40) 3074 [some (.ref b), some (vR G 1 0), some (vR G 33 0), some (vR G 51 0), some (vR G 52 0), some (vI (6 * (j : Int))), y6, y7, y8] [] M') : bg_W G RL cL_law 9 ret room_1 (lw_T G b Ls xs) lw_E u v 1350 [some (.ref b), some (vR G 1 0), some (vR G 33 0), some (vR G 51 0), some (vR G 52 0), some (vI (6 * (j : Int))), y6, y7, y8] [] M := by
  refine wg_aload_n eL_law_1350 rfl ?_
  refine wg_aload_n eL_law_1351 rfl ?_
  refine bg_callSH (hh := [(0, 8, 11, 13)]) (n := 2) (As := [vR G 1 0, vR G 51 0]) (st := []) eL_law_1352 mw_1054 mw_1055 mw_104 mw_1056 ⟨by decide, by decide, by decide +kernel⟩ rfl (by decide) ⟨show _ ≤ 2048 by decide, show _ ≤ 84000 by decide⟩ ⟨show u + 1 ≤ 601024 by omega, show v + 8 * 1 ≤ 7293034 by omega⟩ rfl (bh_mono (hp_emptySlots (st_emptySlots  hK (by omega))) (fun r M2 hr => ?_))
  obtain ⟨k, rfl, hk, hF⟩ := hr
  refine wg_istore eL_law_1355 rfl ?_
  refine wg_aload_n eL_law_1357 rfl ?_
  refine bg_callV (k := 33) (j := 0) (ci := 9) (n := 0) (As := []) (st := []) eL_law_1358 mw_1793 mw_1794 mw_1795 mw_114 mw_1796 ⟨rfl, by decide, by decide, by decide +kernel⟩ rfl rfl (by decide) rfl (by decide) ⟨show _ ≤ 2048 by decide, show _ ≤ 84000 by decide⟩ ⟨show u + 1 + 0 ≤ 601024 by omega, show v + 8 * 1 + 8 * 0 ≤ 7293034 by omega⟩ rfl (bc_mono hF (fun r M3 hr => ?_))
  obtain ⟨z, rfl, h4, ho, hK3⟩ := hr
  refine wg_istore eL_law_1361 rfl ?_
  refine wg_aload_n eL_law_1363 rfl ?_
  refine bg_callV (k := 33) (j := 0) (ci := 9) (n := 0) (As := []) (st := []) eL_law_1364 mw_1479 mw_1480 mw_1481 mw_114 mw_1482 ⟨rfl, by decide, by decide, by decide +kernel⟩ rfl rfl (by decide) rfl (by decide) ⟨show _ ≤ 2048 by decide, show _ ≤ 84000 by decide⟩ ⟨show u + 1 + 0 + 0 ≤ 601024 by omega, show v + 8 * 1 + 8 * 0 + 8 * 0 ≤ 7293034 by omega⟩ rfl (ct_mThrown ?_)
  rw [h4]
  refine wg_iload eL_law_1367 rfl ?_
  refine wg_icmp_same eL_law_1369 ?_
  refine wg_iload eL_law_1374 rfl ?_
  refine wg_if_ne eL_law_1376 (fun _ => ?_) (fun c0 => ?_)
  · exact wg_goto eL_law_1391 (wg_widen (by omega) (by omega) (K M3 _ _ _ hK3))
  have e0 := ho (by omega)
  refine wg_aload_n eL_law_1379 rfl ?_
  refine wg_iconst eL_law_1380 ?_
  refine bg_lald (k := 51) (n := 1) (j := 0) (i := 0) eL_law_1381 (fun _ => rfl) (by decide) (by decide) (by decide) ?_
  rw [e0]
  refine wg_iload eL_law_1382 rfl ?_
  refine wg_i2l eL_law_1384 ?_
  refine wg_lcmp_same eL_law_1385 ?_
  refine wg_if_eq eL_law_1386 (fun _ => ?_) (fun h => absurd rfl h)
  exact wg_goto eL_law_1391 (wg_widen (by omega) (by omega) (K M3 _ _ _ hK3))
theorem lc_gap {G : bc_G} {b Ls : Nat} {xs : Nat → Int32} {j u v : Nat} {M : bc_M} {y6 y7 y8 : Option Value} (hK : KK M (j : Int)) (hj : 6 * (j : Int) + 5 < (Ls : Int)) (hL : Ls ≤ 3072) (hu : u + 5 ≤ 601024) (hv : v + 40 ≤ 7293034) (K : ∀ (M' : bc_M) (y6 y7 y8 : Option Value), KK M' ((j : Int) + 1) → bg_W G RL cL_law 9 ret room_1 (lw_T G b Ls xs) lw_E (u + 5) (v + 40) 3074 [some (.ref b), some (vR G 1 0), some (vR G 33 0), some (vR G 51 0), some (vR G 52 0), some (vI (6 * (j : Int))), y6, y7, y8] [] M') : bg_W G RL cL_law 9 ret room_1 (lw_T G b Ls xs) lw_E u v 1394 [some (.ref b), some (vR G 1 0), some (vR G 33 0), some (vR G 51 0), some (vR G 52 0), some (vI (6 * (j : Int))), y6, y7, y8] [] M := by
  refine wg_aload_n eL_law_1394 rfl ?_
  refine wg_aload_no eL_law_1395 rfl ?_
  refine wg_iload eL_law_1396 rfl ?_
  refine wg_iconst eL_law_1398 ?_
  refine wg_iadd eL_law_1399 ?_
  refine wg_sld eL_law_1400 ?_
  refine wg_aload_n eL_law_1401 rfl ?_
  refine bg_callSH (hh := [(0, 9, 12, 13), (0, 9, 15, 19)]) (n := 3) (As := [vR G 1 0, vI (sx xs (6 * (j : Int) + 1)), vR G 51 0]) (st := []) eL_law_1402 mw_1061 mw_1062 mw_104 mw_1063 ⟨by decide, by decide, by decide +kernel⟩ rfl (by decide) ⟨show _ ≤ 2048 by decide, show _ ≤ 84000 by decide⟩ ⟨show u + 2 ≤ 601024 by omega, show v + 8 * 2 ≤ 7293034 by omega⟩ rfl (bh_mono (hp_gap (st_gap sx_rng hK (by omega))) (fun r M2 hr => ?_))
  obtain ⟨k, rfl, hk, hF⟩ := hr
  refine wg_istore eL_law_1405 rfl ?_
  refine wg_aload_n eL_law_1407 rfl ?_
  refine wg_aload_no eL_law_1408 rfl ?_
  refine wg_iload eL_law_1409 rfl ?_
  refine wg_iconst eL_law_1411 ?_
  refine wg_iadd eL_law_1412 ?_
  refine wg_sld eL_law_1413 ?_
  refine bg_callV (k := 33) (j := 0) (ci := 9) (n := 1) (As := [vI (sx xs (6 * (j : Int) + 1))]) (st := []) eL_law_1414 mw_1797 mw_1798 mw_1799 mw_114 mw_1800 ⟨rfl, by decide, by decide, by decide +kernel⟩ rfl rfl (by decide) rfl (by decide) ⟨show _ ≤ 2048 by decide, show _ ≤ 84000 by decide⟩ ⟨show u + 2 + 0 ≤ 601024 by omega, show v + 8 * 2 + 8 * 0 ≤ 7293034 by omega⟩ rfl (bc_mono hF (fun r M3 hr => ?_))
  obtain ⟨z, rfl, h4, ho, hK3⟩ := hr
  refine wg_istore eL_law_1417 rfl ?_
  refine wg_aload_n eL_law_1419 rfl ?_
  refine bg_callV (k := 33) (j := 0) (ci := 9) (n := 0) (As := []) (st := []) eL_law_1420 mw_1479 mw_1480 mw_1481 mw_114 mw_1482 ⟨rfl, by decide, by decide, by decide +kernel⟩ rfl rfl (by decide) rfl (by decide) ⟨show _ ≤ 2048 by decide, show _ ≤ 84000 by decide⟩ ⟨show u + 2 + 0 + 0 ≤ 601024 by omega, show v + 8 * 2 + 8 * 0 + 8 * 0 ≤ 7293034 by omega⟩ rfl (ct_mThrown ?_)
  rw [h4]
  refine wg_iload eL_law_1423 rfl ?_
  refine wg_icmp_same eL_law_1425 ?_
  refine wg_iload eL_law_1430 rfl ?_
  refine wg_if_ne eL_law_1432 (fun _ => ?_) (fun c0 => ?_)
  · exact wg_goto eL_law_1447 (wg_widen (by omega) (by omega) (K M3 _ _ _ hK3))
  have e0 := ho (by omega)
  refine wg_aload_n eL_law_1435 rfl ?_
  refine wg_iconst eL_law_1436 ?_
  refine bg_lald (k := 51) (n := 1) (j := 0) (i := 0) eL_law_1437 (fun _ => rfl) (by decide) (by decide) (by decide) ?_
  rw [e0]
  refine wg_iload eL_law_1438 rfl ?_
  refine wg_i2l eL_law_1440 ?_
  refine wg_lcmp_same eL_law_1441 ?_
  refine wg_if_eq eL_law_1442 (fun _ => ?_) (fun h => absurd rfl h)
  exact wg_goto eL_law_1447 (wg_widen (by omega) (by omega) (K M3 _ _ _ hK3))
theorem lc_violations {G : bc_G} {b Ls : Nat} {xs : Nat → Int32} {j u v : Nat} {M : bc_M} {y6 y7 y8 : Option Value} (hK : KK M (j : Int)) (hj : 6 * (j : Int) + 5 < (Ls : Int)) (hL : Ls ≤ 3072) (hu : u + 5 ≤ 601024) (hv : v + 40 ≤ 7293034) (K : ∀ (M' : bc_M) (y6 y7 y8 : Option Value), KK M' ((j : Int) + 1) → bg_W G RL cL_law 9 ret room_1 (lw_T G b Ls xs) lw_E (u + 5) (v + 40) 3074 [some (.ref b), some (vR G 1 0), some (vR G 33 0), some (vR G 51 0), some (vR G 52 0), some (vI (6 * (j : Int))), y6, y7, y8] [] M') : bg_W G RL cL_law 9 ret room_1 (lw_T G b Ls xs) lw_E u v 1450 [some (.ref b), some (vR G 1 0), some (vR G 33 0), some (vR G 51 0), some (vR G 52 0), some (vI (6 * (j : Int))), y6, y7, y8] [] M := by
  refine wg_aload_n eL_law_1450 rfl ?_
  refine wg_aload_n eL_law_1451 rfl ?_
  refine bg_callSH (hh := [(0, 8, 11, 13)]) (n := 2) (As := [vR G 1 0, vR G 51 0]) (st := []) eL_law_1452 mw_1069 mw_1070 mw_104 mw_1071 ⟨by decide, by decide, by decide +kernel⟩ rfl (by decide) ⟨show _ ≤ 2048 by decide, show _ ≤ 84000 by decide⟩ ⟨show u + 1 ≤ 601024 by omega, show v + 8 * 1 ≤ 7293034 by omega⟩ rfl (bh_mono (hp_violations (st_violations  hK (by omega))) (fun r M2 hr => ?_))
  obtain ⟨k, rfl, hk, hF⟩ := hr
  refine wg_istore eL_law_1455 rfl ?_
  refine wg_aload_n eL_law_1457 rfl ?_
  refine bg_callV (k := 33) (j := 0) (ci := 9) (n := 0) (As := []) (st := []) eL_law_1458 mw_1801 mw_1802 mw_1803 mw_114 mw_1804 ⟨rfl, by decide, by decide, by decide +kernel⟩ rfl rfl (by decide) rfl (by decide) ⟨show _ ≤ 2048 by decide, show _ ≤ 84000 by decide⟩ ⟨show u + 1 + 0 ≤ 601024 by omega, show v + 8 * 1 + 8 * 0 ≤ 7293034 by omega⟩ rfl (bc_mono hF (fun r M3 hr => ?_))
  obtain ⟨z, rfl, h4, ho, hK3⟩ := hr
  refine wg_istore eL_law_1461 rfl ?_
  refine wg_aload_n eL_law_1463 rfl ?_
  refine bg_callV (k := 33) (j := 0) (ci := 9) (n := 0) (As := []) (st := []) eL_law_1464 mw_1479 mw_1480 mw_1481 mw_114 mw_1482 ⟨rfl, by decide, by decide, by decide +kernel⟩ rfl rfl (by decide) rfl (by decide) ⟨show _ ≤ 2048 by decide, show _ ≤ 84000 by decide⟩ ⟨show u + 1 + 0 + 0 ≤ 601024 by omega, show v + 8 * 1 + 8 * 0 + 8 * 0 ≤ 7293034 by omega⟩ rfl (ct_mThrown ?_)
  rw [h4]
  refine wg_iload eL_law_1467 rfl ?_
  refine wg_icmp_same eL_law_1469 ?_
  refine wg_iload eL_law_1474 rfl ?_
  refine wg_if_ne eL_law_1476 (fun _ => ?_) (fun c0 => ?_)
  · exact wg_goto eL_law_1491 (wg_widen (by omega) (by omega) (K M3 _ _ _ hK3))
  have e0 := ho (by omega)
  refine wg_aload_n eL_law_1479 rfl ?_
  refine wg_iconst eL_law_1480 ?_
  refine bg_lald (k := 51) (n := 1) (j := 0) (i := 0) eL_law_1481 (fun _ => rfl) (by decide) (by decide) (by decide) ?_
  rw [e0]
  refine wg_iload eL_law_1482 rfl ?_
  refine wg_i2l eL_law_1484 ?_
  refine wg_lcmp_same eL_law_1485 ?_
  refine wg_if_eq eL_law_1486 (fun _ => ?_) (fun h => absurd rfl h)
  exact wg_goto eL_law_1491 (wg_widen (by omega) (by omega) (K M3 _ _ _ hK3))
theorem lc_nextTime {G : bc_G} {b Ls : Nat} {xs : Nat → Int32} {j u v : Nat} {M : bc_M} {y6 y7 y8 : Option Value} (hK : KK M (j : Int)) (hj : 6 * (j : Int) + 5 < (Ls : Int)) (hL : Ls ≤ 3072) (hu : u + 5 ≤ 601024) (hv : v + 40 ≤ 7293034) (K : ∀ (M' : bc_M) (y6 y7 y8 : Option Value), KK M' ((j : Int) + 1) → bg_W G RL cL_law 9 ret room_1 (lw_T G b Ls xs) lw_E (u + 5) (v + 40) 3074 [some (.ref b), some (vR G 1 0), some (vR G 33 0), some (vR G 51 0), some (vR G 52 0), some (vI (6 * (j : Int))), y6, y7, y8] [] M') : bg_W G RL cL_law 9 ret room_1 (lw_T G b Ls xs) lw_E u v 1494 [some (.ref b), some (vR G 1 0), some (vR G 33 0), some (vR G 51 0), some (vR G 52 0), some (vI (6 * (j : Int))), y6, y7, y8] [] M := by
  refine wg_aload_n eL_law_1494 rfl ?_
  refine wg_aload_no eL_law_1495 rfl ?_
  refine wg_iload eL_law_1496 rfl ?_
  refine wg_iconst eL_law_1498 ?_
  refine wg_iadd eL_law_1499 ?_
  refine wg_sld eL_law_1500 ?_
  refine wg_aload_no eL_law_1501 rfl ?_
  refine wg_iload eL_law_1502 rfl ?_
  refine wg_iconst eL_law_1504 ?_
  refine wg_iadd eL_law_1505 ?_
  refine wg_sld eL_law_1506 ?_
  refine wg_aload_n eL_law_1507 rfl ?_
  refine bg_callSH (hh := [(0, 10, 13, 13), (0, 10, 17, 19)]) (n := 4) (As := [vR G 1 0, vI (sx xs (6 * (j : Int) + 1)), vI (sx xs (6 * (j : Int) + 2)), vR G 51 0]) (st := []) eL_law_1508 mw_1076 mw_1077 mw_104 mw_1078 ⟨by decide, by decide, by decide +kernel⟩ rfl (by decide) ⟨show _ ≤ 2048 by decide, show _ ≤ 84000 by decide⟩ ⟨show u + 3 ≤ 601024 by omega, show v + 8 * 3 ≤ 7293034 by omega⟩ rfl (bh_mono (hp_nextTime (st_nextTime sx_rng sx_rng hK (by omega))) (fun r M2 hr => ?_))
  obtain ⟨k, rfl, hk, hF⟩ := hr
  refine wg_istore eL_law_1511 rfl ?_
  refine wg_aload_n eL_law_1513 rfl ?_
  refine wg_aload_no eL_law_1514 rfl ?_
  refine wg_iload eL_law_1515 rfl ?_
  refine wg_iconst eL_law_1517 ?_
  refine wg_iadd eL_law_1518 ?_
  refine wg_sld eL_law_1519 ?_
  refine wg_aload_no eL_law_1520 rfl ?_
  refine wg_iload eL_law_1521 rfl ?_
  refine wg_iconst eL_law_1523 ?_
  refine wg_iadd eL_law_1524 ?_
  refine wg_sld eL_law_1525 ?_
  refine bg_callV (k := 33) (j := 0) (ci := 9) (n := 2) (As := [vI (sx xs (6 * (j : Int) + 1)), vI (sx xs (6 * (j : Int) + 2))]) (st := []) eL_law_1526 mw_1805 mw_1806 mw_1807 mw_114 mw_1808 ⟨rfl, by decide, by decide, by decide +kernel⟩ rfl rfl (by decide) rfl (by decide) ⟨show _ ≤ 2048 by decide, show _ ≤ 84000 by decide⟩ ⟨show u + 3 + 0 ≤ 601024 by omega, show v + 8 * 3 + 8 * 0 ≤ 7293034 by omega⟩ rfl (bc_mono hF (fun r M3 hr => ?_))
  obtain ⟨z, rfl, h4, ho, hK3⟩ := hr
  refine wg_istore eL_law_1529 rfl ?_
  refine wg_aload_n eL_law_1531 rfl ?_
  refine bg_callV (k := 33) (j := 0) (ci := 9) (n := 0) (As := []) (st := []) eL_law_1532 mw_1479 mw_1480 mw_1481 mw_114 mw_1482 ⟨rfl, by decide, by decide, by decide +kernel⟩ rfl rfl (by decide) rfl (by decide) ⟨show _ ≤ 2048 by decide, show _ ≤ 84000 by decide⟩ ⟨show u + 3 + 0 + 0 ≤ 601024 by omega, show v + 8 * 3 + 8 * 0 + 8 * 0 ≤ 7293034 by omega⟩ rfl (ct_mThrown ?_)
  rw [h4]
  refine wg_iload eL_law_1535 rfl ?_
  refine wg_icmp_same eL_law_1537 ?_
  refine wg_iload eL_law_1542 rfl ?_
  refine wg_if_ne eL_law_1544 (fun _ => ?_) (fun c0 => ?_)
  · exact wg_goto eL_law_1559 (wg_widen (by omega) (by omega) (K M3 _ _ _ hK3))
  have e0 := ho (by omega)
  refine wg_aload_n eL_law_1547 rfl ?_
  refine wg_iconst eL_law_1548 ?_
  refine bg_lald (k := 51) (n := 1) (j := 0) (i := 0) eL_law_1549 (fun _ => rfl) (by decide) (by decide) (by decide) ?_
  rw [e0]
  refine wg_iload eL_law_1550 rfl ?_
  refine wg_i2l eL_law_1552 ?_
  refine wg_lcmp_same eL_law_1553 ?_
  refine wg_if_eq eL_law_1554 (fun _ => ?_) (fun h => absurd rfl h)
  exact wg_goto eL_law_1559 (wg_widen (by omega) (by omega) (K M3 _ _ _ hK3))
theorem lc_share {G : bc_G} {b Ls : Nat} {xs : Nat → Int32} {j u v : Nat} {M : bc_M} {y6 y7 y8 : Option Value} (hK : KK M (j : Int)) (hj : 6 * (j : Int) + 5 < (Ls : Int)) (hL : Ls ≤ 3072) (hu : u + 5 ≤ 601024) (hv : v + 40 ≤ 7293034) (K : ∀ (M' : bc_M) (y6 y7 y8 : Option Value), KK M' ((j : Int) + 1) → bg_W G RL cL_law 9 ret room_1 (lw_T G b Ls xs) lw_E (u + 5) (v + 40) 3074 [some (.ref b), some (vR G 1 0), some (vR G 33 0), some (vR G 51 0), some (vR G 52 0), some (vI (6 * (j : Int))), y6, y7, y8] [] M') : bg_W G RL cL_law 9 ret room_1 (lw_T G b Ls xs) lw_E u v 1562 [some (.ref b), some (vR G 1 0), some (vR G 33 0), some (vR G 51 0), some (vR G 52 0), some (vI (6 * (j : Int))), y6, y7, y8] [] M := by
  refine wg_aload_n eL_law_1562 rfl ?_
  refine wg_aload_no eL_law_1563 rfl ?_
  refine wg_iload eL_law_1564 rfl ?_
  refine wg_iconst eL_law_1566 ?_
  refine wg_iadd eL_law_1567 ?_
  refine wg_sld eL_law_1568 ?_
  refine wg_aload eL_law_1569 rfl ?_
  refine bg_callSH (hh := [(0, 8, 11, 13), (0, 8, 14, 19)]) (n := 3) (As := [vR G 1 0, vI (sx xs (6 * (j : Int) + 1)), vR G 52 0]) (st := []) eL_law_1571 mw_1084 mw_1085 mw_104 mw_1086 ⟨by decide, by decide, by decide +kernel⟩ rfl (by decide) ⟨show _ ≤ 2048 by decide, show _ ≤ 84000 by decide⟩ ⟨show u + 2 ≤ 601024 by omega, show v + 8 * 2 ≤ 7293034 by omega⟩ rfl (bh_mono (hp_share (st_share sx_rng hK (by omega))) (fun r M2 hr => ?_))
  obtain ⟨k, rfl, hk, hF⟩ := hr
  refine wg_istore eL_law_1574 rfl ?_
  refine wg_aload_n eL_law_1576 rfl ?_
  refine wg_aload_no eL_law_1577 rfl ?_
  refine wg_iload eL_law_1578 rfl ?_
  refine wg_iconst eL_law_1580 ?_
  refine wg_iadd eL_law_1581 ?_
  refine wg_sld eL_law_1582 ?_
  refine bg_callV (k := 33) (j := 0) (ci := 9) (n := 1) (As := [vI (sx xs (6 * (j : Int) + 1))]) (st := []) eL_law_1583 mw_1809 mw_1810 mw_1811 mw_114 mw_1812 ⟨rfl, by decide, by decide, by decide +kernel⟩ rfl rfl (by decide) rfl (by decide) ⟨show _ ≤ 2048 by decide, show _ ≤ 84000 by decide⟩ ⟨show u + 2 + 0 ≤ 601024 by omega, show v + 8 * 2 + 8 * 0 ≤ 7293034 by omega⟩ rfl (bc_mono hF (fun r M3 hr => ?_))
  obtain ⟨z, rfl, h4, ho, hK3⟩ := hr
  refine wg_dstore eL_law_1586 rfl ?_
  refine wg_aload_n eL_law_1588 rfl ?_
  refine bg_callV (k := 33) (j := 0) (ci := 9) (n := 0) (As := []) (st := []) eL_law_1589 mw_1479 mw_1480 mw_1481 mw_114 mw_1482 ⟨rfl, by decide, by decide, by decide +kernel⟩ rfl rfl (by decide) rfl (by decide) ⟨show _ ≤ 2048 by decide, show _ ≤ 84000 by decide⟩ ⟨show u + 2 + 0 + 0 ≤ 601024 by omega, show v + 8 * 2 + 8 * 0 + 8 * 0 ≤ 7293034 by omega⟩ rfl (ct_mThrown ?_)
  rw [h4]
  refine wg_iload eL_law_1592 rfl ?_
  refine wg_icmp_same eL_law_1594 ?_
  refine wg_iload eL_law_1599 rfl ?_
  refine wg_if_ne eL_law_1601 (fun _ => ?_) (fun c0 => ?_)
  · exact wg_goto eL_law_1636 (wg_widen (by omega) (by omega) (K M3 _ _ _ hK3))
  have e0 := ho (by omega)
  refine wg_aload eL_law_1604 rfl ?_
  refine wg_iconst eL_law_1606 ?_
  refine bg_dald (k := 52) (n := 1) (j := 0) (i := 0) eL_law_1607 (fun _ => rfl) (by decide) (by decide) (by decide) ?_
  rw [e0, u64_nat]
  refine wg_dload eL_law_1608 rfl ?_
  refine wg_dcmp eL_law_1610 ?_
  refine wg_zeq eL_law_1611 (fun _ => ?_) (fun d0 => ?_)
  · exact wg_goto eL_law_1636 (wg_widen (by omega) (by omega) (K M3 _ _ _ hK3))
  refine wg_aload eL_law_1614 rfl ?_
  refine wg_iconst eL_law_1616 ?_
  refine bg_dald (k := 52) (n := 1) (j := 0) (i := 0) eL_law_1617 (fun _ => rfl) (by decide) (by decide) (by decide) ?_
  rw [e0, u64_nat]
  refine wg_aload eL_law_1618 rfl ?_
  refine wg_iconst eL_law_1620 ?_
  refine bg_dald (k := 52) (n := 1) (j := 0) (i := 0) eL_law_1621 (fun _ => rfl) (by decide) (by decide) (by decide) ?_
  rw [e0, u64_nat]
  refine wg_dcmp eL_law_1622 ?_
  refine wg_zeq eL_law_1623 (fun h => absurd h d0) (fun _ => ?_)
  refine wg_dload eL_law_1626 rfl ?_
  refine wg_dload eL_law_1628 rfl ?_
  refine wg_dcmp eL_law_1630 ?_
  refine wg_zne eL_law_1631 (fun _ => ?_) (fun h => absurd h d0)
  exact wg_goto eL_law_1636 (wg_widen (by omega) (by omega) (K M3 _ _ _ hK3))
theorem lc_accessTime {G : bc_G} {b Ls : Nat} {xs : Nat → Int32} {j u v : Nat} {M : bc_M} {y6 y7 y8 : Option Value} (hK : KK M (j : Int)) (hj : 6 * (j : Int) + 5 < (Ls : Int)) (hL : Ls ≤ 3072) (hu : u + 5 ≤ 601024) (hv : v + 40 ≤ 7293034) (K : ∀ (M' : bc_M) (y6 y7 y8 : Option Value), KK M' ((j : Int) + 1) → bg_W G RL cL_law 9 ret room_1 (lw_T G b Ls xs) lw_E (u + 5) (v + 40) 3074 [some (.ref b), some (vR G 1 0), some (vR G 33 0), some (vR G 51 0), some (vR G 52 0), some (vI (6 * (j : Int))), y6, y7, y8] [] M') : bg_W G RL cL_law 9 ret room_1 (lw_T G b Ls xs) lw_E u v 1639 [some (.ref b), some (vR G 1 0), some (vR G 33 0), some (vR G 51 0), some (vR G 52 0), some (vI (6 * (j : Int))), y6, y7, y8] [] M := by
  refine wg_aload_n eL_law_1639 rfl ?_
  refine wg_aload_no eL_law_1640 rfl ?_
  refine wg_iload eL_law_1641 rfl ?_
  refine wg_iconst eL_law_1643 ?_
  refine wg_iadd eL_law_1644 ?_
  refine wg_sld eL_law_1645 ?_
  refine wg_aload_no eL_law_1646 rfl ?_
  refine wg_iload eL_law_1647 rfl ?_
  refine wg_iconst eL_law_1649 ?_
  refine wg_iadd eL_law_1650 ?_
  refine wg_sld eL_law_1651 ?_
  refine wg_aload_n eL_law_1652 rfl ?_
  refine bg_callSH (hh := [(0, 10, 13, 13), (0, 10, 17, 19)]) (n := 4) (As := [vR G 1 0, vI (sx xs (6 * (j : Int) + 1)), vI (sx xs (6 * (j : Int) + 2)), vR G 51 0]) (st := []) eL_law_1653 mw_1095 mw_1096 mw_104 mw_1097 ⟨by decide, by decide, by decide +kernel⟩ rfl (by decide) ⟨show _ ≤ 2048 by decide, show _ ≤ 84000 by decide⟩ ⟨show u + 3 ≤ 601024 by omega, show v + 8 * 3 ≤ 7293034 by omega⟩ rfl (bh_mono (hp_accessTime (st_accessTime sx_rng sx_rng hK (by omega))) (fun r M2 hr => ?_))
  obtain ⟨k, rfl, hk, hF⟩ := hr
  refine wg_istore eL_law_1656 rfl ?_
  refine wg_aload_n eL_law_1658 rfl ?_
  refine wg_aload_no eL_law_1659 rfl ?_
  refine wg_iload eL_law_1660 rfl ?_
  refine wg_iconst eL_law_1662 ?_
  refine wg_iadd eL_law_1663 ?_
  refine wg_sld eL_law_1664 ?_
  refine wg_aload_no eL_law_1665 rfl ?_
  refine wg_iload eL_law_1666 rfl ?_
  refine wg_iconst eL_law_1668 ?_
  refine wg_iadd eL_law_1669 ?_
  refine wg_sld eL_law_1670 ?_
  refine bg_callV (k := 33) (j := 0) (ci := 9) (n := 2) (As := [vI (sx xs (6 * (j : Int) + 1)), vI (sx xs (6 * (j : Int) + 2))]) (st := []) eL_law_1671 mw_1813 mw_1814 mw_1815 mw_114 mw_1816 ⟨rfl, by decide, by decide, by decide +kernel⟩ rfl rfl (by decide) rfl (by decide) ⟨show _ ≤ 2048 by decide, show _ ≤ 84000 by decide⟩ ⟨show u + 3 + 0 ≤ 601024 by omega, show v + 8 * 3 + 8 * 0 ≤ 7293034 by omega⟩ rfl (bc_mono hF (fun r M3 hr => ?_))
  obtain ⟨z, rfl, h4, ho, hK3⟩ := hr
  refine wg_istore eL_law_1674 rfl ?_
  refine wg_aload_n eL_law_1676 rfl ?_
  refine bg_callV (k := 33) (j := 0) (ci := 9) (n := 0) (As := []) (st := []) eL_law_1677 mw_1479 mw_1480 mw_1481 mw_114 mw_1482 ⟨rfl, by decide, by decide, by decide +kernel⟩ rfl rfl (by decide) rfl (by decide) ⟨show _ ≤ 2048 by decide, show _ ≤ 84000 by decide⟩ ⟨show u + 3 + 0 + 0 ≤ 601024 by omega, show v + 8 * 3 + 8 * 0 + 8 * 0 ≤ 7293034 by omega⟩ rfl (ct_mThrown ?_)
  rw [h4]
  refine wg_iload eL_law_1680 rfl ?_
  refine wg_icmp_same eL_law_1682 ?_
  refine wg_iload eL_law_1687 rfl ?_
  refine wg_if_ne eL_law_1689 (fun _ => ?_) (fun c0 => ?_)
  · exact wg_goto eL_law_1704 (wg_widen (by omega) (by omega) (K M3 _ _ _ hK3))
  have e0 := ho (by omega)
  refine wg_aload_n eL_law_1692 rfl ?_
  refine wg_iconst eL_law_1693 ?_
  refine bg_lald (k := 51) (n := 1) (j := 0) (i := 0) eL_law_1694 (fun _ => rfl) (by decide) (by decide) (by decide) ?_
  rw [e0]
  refine wg_iload eL_law_1695 rfl ?_
  refine wg_i2l eL_law_1697 ?_
  refine wg_lcmp_same eL_law_1698 ?_
  refine wg_if_eq eL_law_1699 (fun _ => ?_) (fun h => absurd rfl h)
  exact wg_goto eL_law_1704 (wg_widen (by omega) (by omega) (K M3 _ _ _ hK3))
theorem lc_tuningTime {G : bc_G} {b Ls : Nat} {xs : Nat → Int32} {j u v : Nat} {M : bc_M} {y6 y7 y8 : Option Value} (hK : KK M (j : Int)) (hj : 6 * (j : Int) + 5 < (Ls : Int)) (hL : Ls ≤ 3072) (hu : u + 5 ≤ 601024) (hv : v + 40 ≤ 7293034) (K : ∀ (M' : bc_M) (y6 y7 y8 : Option Value), KK M' ((j : Int) + 1) → bg_W G RL cL_law 9 ret room_1 (lw_T G b Ls xs) lw_E (u + 5) (v + 40) 3074 [some (.ref b), some (vR G 1 0), some (vR G 33 0), some (vR G 51 0), some (vR G 52 0), some (vI (6 * (j : Int))), y6, y7, y8] [] M') : bg_W G RL cL_law 9 ret room_1 (lw_T G b Ls xs) lw_E u v 1707 [some (.ref b), some (vR G 1 0), some (vR G 33 0), some (vR G 51 0), some (vR G 52 0), some (vI (6 * (j : Int))), y6, y7, y8] [] M := by
  refine wg_aload_n eL_law_1707 rfl ?_
  refine wg_aload_no eL_law_1708 rfl ?_
  refine wg_iload eL_law_1709 rfl ?_
  refine wg_iconst eL_law_1711 ?_
  refine wg_iadd eL_law_1712 ?_
  refine wg_sld eL_law_1713 ?_
  refine wg_aload_no eL_law_1714 rfl ?_
  refine wg_iload eL_law_1715 rfl ?_
  refine wg_iconst eL_law_1717 ?_
  refine wg_iadd eL_law_1718 ?_
  refine wg_sld eL_law_1719 ?_
  refine wg_aload_n eL_law_1720 rfl ?_
  refine bg_callSH (hh := [(0, 10, 13, 13), (0, 10, 17, 19)]) (n := 4) (As := [vR G 1 0, vI (sx xs (6 * (j : Int) + 1)), vI (sx xs (6 * (j : Int) + 2)), vR G 51 0]) (st := []) eL_law_1721 mw_1103 mw_1104 mw_104 mw_1105 ⟨by decide, by decide, by decide +kernel⟩ rfl (by decide) ⟨show _ ≤ 2048 by decide, show _ ≤ 84000 by decide⟩ ⟨show u + 3 ≤ 601024 by omega, show v + 8 * 3 ≤ 7293034 by omega⟩ rfl (bh_mono (hp_tuningTime (st_tuningTime sx_rng sx_rng hK (by omega))) (fun r M2 hr => ?_))
  obtain ⟨k, rfl, hk, hF⟩ := hr
  refine wg_istore eL_law_1724 rfl ?_
  refine wg_aload_n eL_law_1726 rfl ?_
  refine wg_aload_no eL_law_1727 rfl ?_
  refine wg_iload eL_law_1728 rfl ?_
  refine wg_iconst eL_law_1730 ?_
  refine wg_iadd eL_law_1731 ?_
  refine wg_sld eL_law_1732 ?_
  refine wg_aload_no eL_law_1733 rfl ?_
  refine wg_iload eL_law_1734 rfl ?_
  refine wg_iconst eL_law_1736 ?_
  refine wg_iadd eL_law_1737 ?_
  refine wg_sld eL_law_1738 ?_
  refine bg_callV (k := 33) (j := 0) (ci := 9) (n := 2) (As := [vI (sx xs (6 * (j : Int) + 1)), vI (sx xs (6 * (j : Int) + 2))]) (st := []) eL_law_1739 mw_1817 mw_1818 mw_1819 mw_114 mw_1820 ⟨rfl, by decide, by decide, by decide +kernel⟩ rfl rfl (by decide) rfl (by decide) ⟨show _ ≤ 2048 by decide, show _ ≤ 84000 by decide⟩ ⟨show u + 3 + 0 ≤ 601024 by omega, show v + 8 * 3 + 8 * 0 ≤ 7293034 by omega⟩ rfl (bc_mono hF (fun r M3 hr => ?_))
  obtain ⟨z, rfl, h4, ho, hK3⟩ := hr
  refine wg_istore eL_law_1742 rfl ?_
  refine wg_aload_n eL_law_1744 rfl ?_
  refine bg_callV (k := 33) (j := 0) (ci := 9) (n := 0) (As := []) (st := []) eL_law_1745 mw_1479 mw_1480 mw_1481 mw_114 mw_1482 ⟨rfl, by decide, by decide, by decide +kernel⟩ rfl rfl (by decide) rfl (by decide) ⟨show _ ≤ 2048 by decide, show _ ≤ 84000 by decide⟩ ⟨show u + 3 + 0 + 0 ≤ 601024 by omega, show v + 8 * 3 + 8 * 0 + 8 * 0 ≤ 7293034 by omega⟩ rfl (ct_mThrown ?_)
  rw [h4]
  refine wg_iload eL_law_1748 rfl ?_
  refine wg_icmp_same eL_law_1750 ?_
  refine wg_iload eL_law_1755 rfl ?_
  refine wg_if_ne eL_law_1757 (fun _ => ?_) (fun c0 => ?_)
  · exact wg_goto eL_law_1772 (wg_widen (by omega) (by omega) (K M3 _ _ _ hK3))
  have e0 := ho (by omega)
  refine wg_aload_n eL_law_1760 rfl ?_
  refine wg_iconst eL_law_1761 ?_
  refine bg_lald (k := 51) (n := 1) (j := 0) (i := 0) eL_law_1762 (fun _ => rfl) (by decide) (by decide) (by decide) ?_
  rw [e0]
  refine wg_iload eL_law_1763 rfl ?_
  refine wg_i2l eL_law_1765 ?_
  refine wg_lcmp_same eL_law_1766 ?_
  refine wg_if_eq eL_law_1767 (fun _ => ?_) (fun h => absurd rfl h)
  exact wg_goto eL_law_1772 (wg_widen (by omega) (by omega) (K M3 _ _ _ hK3))
theorem lc_worstAccess {G : bc_G} {b Ls : Nat} {xs : Nat → Int32} {j u v : Nat} {M : bc_M} {y6 y7 y8 : Option Value} (hK : KK M (j : Int)) (hj : 6 * (j : Int) + 5 < (Ls : Int)) (hL : Ls ≤ 3072) (hu : u + 5 ≤ 601024) (hv : v + 40 ≤ 7293034) (K : ∀ (M' : bc_M) (y6 y7 y8 : Option Value), KK M' ((j : Int) + 1) → bg_W G RL cL_law 9 ret room_1 (lw_T G b Ls xs) lw_E (u + 5) (v + 40) 3074 [some (.ref b), some (vR G 1 0), some (vR G 33 0), some (vR G 51 0), some (vR G 52 0), some (vI (6 * (j : Int))), y6, y7, y8] [] M') : bg_W G RL cL_law 9 ret room_1 (lw_T G b Ls xs) lw_E u v 1775 [some (.ref b), some (vR G 1 0), some (vR G 33 0), some (vR G 51 0), some (vR G 52 0), some (vI (6 * (j : Int))), y6, y7, y8] [] M := by
  refine wg_aload_n eL_law_1775 rfl ?_
  refine wg_aload_no eL_law_1776 rfl ?_
  refine wg_iload eL_law_1777 rfl ?_
  refine wg_iconst eL_law_1779 ?_
  refine wg_iadd eL_law_1780 ?_
  refine wg_sld eL_law_1781 ?_
  refine wg_aload_n eL_law_1782 rfl ?_
  refine bg_callSH (hh := [(0, 9, 12, 13), (0, 9, 15, 19)]) (n := 3) (As := [vR G 1 0, vI (sx xs (6 * (j : Int) + 1)), vR G 51 0]) (st := []) eL_law_1783 mw_1111 mw_1112 mw_104 mw_1113 ⟨by decide, by decide, by decide +kernel⟩ rfl (by decide) ⟨show _ ≤ 2048 by decide, show _ ≤ 84000 by decide⟩ ⟨show u + 2 ≤ 601024 by omega, show v + 8 * 2 ≤ 7293034 by omega⟩ rfl (bh_mono (hp_worstAccess (st_worstAccess sx_rng hK (by omega))) (fun r M2 hr => ?_))
  obtain ⟨k, rfl, hk, hF⟩ := hr
  refine wg_istore eL_law_1786 rfl ?_
  refine wg_aload_n eL_law_1788 rfl ?_
  refine wg_aload_no eL_law_1789 rfl ?_
  refine wg_iload eL_law_1790 rfl ?_
  refine wg_iconst eL_law_1792 ?_
  refine wg_iadd eL_law_1793 ?_
  refine wg_sld eL_law_1794 ?_
  refine bg_callV (k := 33) (j := 0) (ci := 9) (n := 1) (As := [vI (sx xs (6 * (j : Int) + 1))]) (st := []) eL_law_1795 mw_1821 mw_1822 mw_1823 mw_114 mw_1824 ⟨rfl, by decide, by decide, by decide +kernel⟩ rfl rfl (by decide) rfl (by decide) ⟨show _ ≤ 2048 by decide, show _ ≤ 84000 by decide⟩ ⟨show u + 2 + 0 ≤ 601024 by omega, show v + 8 * 2 + 8 * 0 ≤ 7293034 by omega⟩ rfl (bc_mono hF (fun r M3 hr => ?_))
  obtain ⟨z, rfl, h4, ho, hK3⟩ := hr
  refine wg_istore eL_law_1798 rfl ?_
  refine wg_aload_n eL_law_1800 rfl ?_
  refine bg_callV (k := 33) (j := 0) (ci := 9) (n := 0) (As := []) (st := []) eL_law_1801 mw_1479 mw_1480 mw_1481 mw_114 mw_1482 ⟨rfl, by decide, by decide, by decide +kernel⟩ rfl rfl (by decide) rfl (by decide) ⟨show _ ≤ 2048 by decide, show _ ≤ 84000 by decide⟩ ⟨show u + 2 + 0 + 0 ≤ 601024 by omega, show v + 8 * 2 + 8 * 0 + 8 * 0 ≤ 7293034 by omega⟩ rfl (ct_mThrown ?_)
  rw [h4]
  refine wg_iload eL_law_1804 rfl ?_
  refine wg_icmp_same eL_law_1806 ?_
  refine wg_iload eL_law_1811 rfl ?_
  refine wg_if_ne eL_law_1813 (fun _ => ?_) (fun c0 => ?_)
  · exact wg_goto eL_law_1828 (wg_widen (by omega) (by omega) (K M3 _ _ _ hK3))
  have e0 := ho (by omega)
  refine wg_aload_n eL_law_1816 rfl ?_
  refine wg_iconst eL_law_1817 ?_
  refine bg_lald (k := 51) (n := 1) (j := 0) (i := 0) eL_law_1818 (fun _ => rfl) (by decide) (by decide) (by decide) ?_
  rw [e0]
  refine wg_iload eL_law_1819 rfl ?_
  refine wg_i2l eL_law_1821 ?_
  refine wg_lcmp_same eL_law_1822 ?_
  refine wg_if_eq eL_law_1823 (fun _ => ?_) (fun h => absurd rfl h)
  exact wg_goto eL_law_1828 (wg_widen (by omega) (by omega) (K M3 _ _ _ hK3))
theorem lc_weight {G : bc_G} {b Ls : Nat} {xs : Nat → Int32} {j u v : Nat} {M : bc_M} {y6 y7 y8 : Option Value} (hK : KK M (j : Int)) (hj : 6 * (j : Int) + 5 < (Ls : Int)) (hL : Ls ≤ 3072) (hu : u + 5 ≤ 601024) (hv : v + 40 ≤ 7293034) (K : ∀ (M' : bc_M) (y6 y7 y8 : Option Value), KK M' ((j : Int) + 1) → bg_W G RL cL_law 9 ret room_1 (lw_T G b Ls xs) lw_E (u + 5) (v + 40) 3074 [some (.ref b), some (vR G 1 0), some (vR G 33 0), some (vR G 51 0), some (vR G 52 0), some (vI (6 * (j : Int))), y6, y7, y8] [] M') : bg_W G RL cL_law 9 ret room_1 (lw_T G b Ls xs) lw_E u v 1831 [some (.ref b), some (vR G 1 0), some (vR G 33 0), some (vR G 51 0), some (vR G 52 0), some (vI (6 * (j : Int))), y6, y7, y8] [] M := by
  refine wg_aload_n eL_law_1831 rfl ?_
  refine wg_aload_no eL_law_1832 rfl ?_
  refine wg_iload eL_law_1833 rfl ?_
  refine wg_iconst eL_law_1835 ?_
  refine wg_iadd eL_law_1836 ?_
  refine wg_sld eL_law_1837 ?_
  refine wg_aload_n eL_law_1838 rfl ?_
  refine bg_callSH (hh := [(0, 8, 11, 13), (0, 8, 14, 19)]) (n := 3) (As := [vR G 1 0, vI (sx xs (6 * (j : Int) + 1)), vR G 51 0]) (st := []) eL_law_1839 mw_1119 mw_1120 mw_104 mw_1121 ⟨by decide, by decide, by decide +kernel⟩ rfl (by decide) ⟨show _ ≤ 2048 by decide, show _ ≤ 84000 by decide⟩ ⟨show u + 2 ≤ 601024 by omega, show v + 8 * 2 ≤ 7293034 by omega⟩ rfl (bh_mono (hp_weight (st_weight sx_rng hK (by omega))) (fun r M2 hr => ?_))
  obtain ⟨k, rfl, hk, hF⟩ := hr
  refine wg_istore eL_law_1842 rfl ?_
  refine wg_aload_n eL_law_1844 rfl ?_
  refine wg_aload_no eL_law_1845 rfl ?_
  refine wg_iload eL_law_1846 rfl ?_
  refine wg_iconst eL_law_1848 ?_
  refine wg_iadd eL_law_1849 ?_
  refine wg_sld eL_law_1850 ?_
  refine bg_callV (k := 33) (j := 0) (ci := 9) (n := 1) (As := [vI (sx xs (6 * (j : Int) + 1))]) (st := []) eL_law_1851 mw_1825 mw_1826 mw_1827 mw_114 mw_1828 ⟨rfl, by decide, by decide, by decide +kernel⟩ rfl rfl (by decide) rfl (by decide) ⟨show _ ≤ 2048 by decide, show _ ≤ 84000 by decide⟩ ⟨show u + 2 + 0 ≤ 601024 by omega, show v + 8 * 2 + 8 * 0 ≤ 7293034 by omega⟩ rfl (bc_mono hF (fun r M3 hr => ?_))
  obtain ⟨z, rfl, h4, ho, hK3⟩ := hr
  refine wg_lstore eL_law_1854 rfl ?_
  refine wg_aload_n eL_law_1856 rfl ?_
  refine bg_callV (k := 33) (j := 0) (ci := 9) (n := 0) (As := []) (st := []) eL_law_1857 mw_1479 mw_1480 mw_1481 mw_114 mw_1482 ⟨rfl, by decide, by decide, by decide +kernel⟩ rfl rfl (by decide) rfl (by decide) ⟨show _ ≤ 2048 by decide, show _ ≤ 84000 by decide⟩ ⟨show u + 2 + 0 + 0 ≤ 601024 by omega, show v + 8 * 2 + 8 * 0 + 8 * 0 ≤ 7293034 by omega⟩ rfl (ct_mThrown ?_)
  rw [h4]
  refine wg_iload eL_law_1860 rfl ?_
  refine wg_icmp_same eL_law_1862 ?_
  refine wg_iload eL_law_1867 rfl ?_
  refine wg_if_ne eL_law_1869 (fun _ => ?_) (fun c0 => ?_)
  · exact wg_goto eL_law_1883 (wg_widen (by omega) (by omega) (K M3 _ _ _ hK3))
  have e0 := ho (by omega)
  refine wg_aload_n eL_law_1872 rfl ?_
  refine wg_iconst eL_law_1873 ?_
  refine bg_lald (k := 51) (n := 1) (j := 0) (i := 0) eL_law_1874 (fun _ => rfl) (by decide) (by decide) (by decide) ?_
  rw [e0]
  refine wg_lload eL_law_1875 rfl ?_
  refine wg_lcmp_same eL_law_1877 ?_
  refine wg_if_eq eL_law_1878 (fun _ => ?_) (fun h => absurd rfl h)
  exact wg_goto eL_law_1883 (wg_widen (by omega) (by omega) (K M3 _ _ _ hK3))
theorem lc_meanAccess {G : bc_G} {b Ls : Nat} {xs : Nat → Int32} {j u v : Nat} {M : bc_M} {y6 y7 y8 : Option Value} (hK : KK M (j : Int)) (hj : 6 * (j : Int) + 5 < (Ls : Int)) (hL : Ls ≤ 3072) (hu : u + 5 ≤ 601024) (hv : v + 40 ≤ 7293034) (K : ∀ (M' : bc_M) (y6 y7 y8 : Option Value), KK M' ((j : Int) + 1) → bg_W G RL cL_law 9 ret room_1 (lw_T G b Ls xs) lw_E (u + 5) (v + 40) 3074 [some (.ref b), some (vR G 1 0), some (vR G 33 0), some (vR G 51 0), some (vR G 52 0), some (vI (6 * (j : Int))), y6, y7, y8] [] M') : bg_W G RL cL_law 9 ret room_1 (lw_T G b Ls xs) lw_E u v 1886 [some (.ref b), some (vR G 1 0), some (vR G 33 0), some (vR G 51 0), some (vR G 52 0), some (vI (6 * (j : Int))), y6, y7, y8] [] M := by
  refine wg_aload_n eL_law_1886 rfl ?_
  refine wg_aload_no eL_law_1887 rfl ?_
  refine wg_iload eL_law_1888 rfl ?_
  refine wg_iconst eL_law_1890 ?_
  refine wg_iadd eL_law_1891 ?_
  refine wg_sld eL_law_1892 ?_
  refine wg_aload eL_law_1893 rfl ?_
  refine bg_callSH (hh := [(0, 8, 11, 13), (0, 8, 14, 19)]) (n := 3) (As := [vR G 1 0, vI (sx xs (6 * (j : Int) + 1)), vR G 52 0]) (st := []) eL_law_1895 mw_1127 mw_1128 mw_104 mw_1129 ⟨by decide, by decide, by decide +kernel⟩ rfl (by decide) ⟨show _ ≤ 2048 by decide, show _ ≤ 84000 by decide⟩ ⟨show u + 2 ≤ 601024 by omega, show v + 8 * 2 ≤ 7293034 by omega⟩ rfl (bh_mono (hp_meanAccess (st_meanAccess sx_rng hK (by omega))) (fun r M2 hr => ?_))
  obtain ⟨k, rfl, hk, hF⟩ := hr
  refine wg_istore eL_law_1898 rfl ?_
  refine wg_aload_n eL_law_1900 rfl ?_
  refine wg_aload_no eL_law_1901 rfl ?_
  refine wg_iload eL_law_1902 rfl ?_
  refine wg_iconst eL_law_1904 ?_
  refine wg_iadd eL_law_1905 ?_
  refine wg_sld eL_law_1906 ?_
  refine bg_callV (k := 33) (j := 0) (ci := 9) (n := 1) (As := [vI (sx xs (6 * (j : Int) + 1))]) (st := []) eL_law_1907 mw_1829 mw_1830 mw_1831 mw_114 mw_1832 ⟨rfl, by decide, by decide, by decide +kernel⟩ rfl rfl (by decide) rfl (by decide) ⟨show _ ≤ 2048 by decide, show _ ≤ 84000 by decide⟩ ⟨show u + 2 + 0 ≤ 601024 by omega, show v + 8 * 2 + 8 * 0 ≤ 7293034 by omega⟩ rfl (bc_mono hF (fun r M3 hr => ?_))
  obtain ⟨z, rfl, h4, ho, hK3⟩ := hr
  refine wg_dstore eL_law_1910 rfl ?_
  refine wg_aload_n eL_law_1912 rfl ?_
  refine bg_callV (k := 33) (j := 0) (ci := 9) (n := 0) (As := []) (st := []) eL_law_1913 mw_1479 mw_1480 mw_1481 mw_114 mw_1482 ⟨rfl, by decide, by decide, by decide +kernel⟩ rfl rfl (by decide) rfl (by decide) ⟨show _ ≤ 2048 by decide, show _ ≤ 84000 by decide⟩ ⟨show u + 2 + 0 + 0 ≤ 601024 by omega, show v + 8 * 2 + 8 * 0 + 8 * 0 ≤ 7293034 by omega⟩ rfl (ct_mThrown ?_)
  rw [h4]
  refine wg_iload eL_law_1916 rfl ?_
  refine wg_icmp_same eL_law_1918 ?_
  refine wg_iload eL_law_1923 rfl ?_
  refine wg_if_ne eL_law_1925 (fun _ => ?_) (fun c0 => ?_)
  · exact wg_goto eL_law_1960 (wg_widen (by omega) (by omega) (K M3 _ _ _ hK3))
  have e0 := ho (by omega)
  refine wg_aload eL_law_1928 rfl ?_
  refine wg_iconst eL_law_1930 ?_
  refine bg_dald (k := 52) (n := 1) (j := 0) (i := 0) eL_law_1931 (fun _ => rfl) (by decide) (by decide) (by decide) ?_
  rw [e0, u64_nat]
  refine wg_dload eL_law_1932 rfl ?_
  refine wg_dcmp eL_law_1934 ?_
  refine wg_zeq eL_law_1935 (fun _ => ?_) (fun d0 => ?_)
  · exact wg_goto eL_law_1960 (wg_widen (by omega) (by omega) (K M3 _ _ _ hK3))
  refine wg_aload eL_law_1938 rfl ?_
  refine wg_iconst eL_law_1940 ?_
  refine bg_dald (k := 52) (n := 1) (j := 0) (i := 0) eL_law_1941 (fun _ => rfl) (by decide) (by decide) (by decide) ?_
  rw [e0, u64_nat]
  refine wg_aload eL_law_1942 rfl ?_
  refine wg_iconst eL_law_1944 ?_
  refine bg_dald (k := 52) (n := 1) (j := 0) (i := 0) eL_law_1945 (fun _ => rfl) (by decide) (by decide) (by decide) ?_
  rw [e0, u64_nat]
  refine wg_dcmp eL_law_1946 ?_
  refine wg_zeq eL_law_1947 (fun h => absurd h d0) (fun _ => ?_)
  refine wg_dload eL_law_1950 rfl ?_
  refine wg_dload eL_law_1952 rfl ?_
  refine wg_dcmp eL_law_1954 ?_
  refine wg_zne eL_law_1955 (fun _ => ?_) (fun h => absurd h d0)
  exact wg_goto eL_law_1960 (wg_widen (by omega) (by omega) (K M3 _ _ _ hK3))
theorem lc_bestSegments {G : bc_G} {b Ls : Nat} {xs : Nat → Int32} {j u v : Nat} {M : bc_M} {y6 y7 y8 : Option Value} (hK : KK M (j : Int)) (hj : 6 * (j : Int) + 5 < (Ls : Int)) (hL : Ls ≤ 3072) (hu : u + 5 ≤ 601024) (hv : v + 40 ≤ 7293034) (K : ∀ (M' : bc_M) (y6 y7 y8 : Option Value), KK M' ((j : Int) + 1) → bg_W G RL cL_law 9 ret room_1 (lw_T G b Ls xs) lw_E (u + 5) (v + 40) 3074 [some (.ref b), some (vR G 1 0), some (vR G 33 0), some (vR G 51 0), some (vR G 52 0), some (vI (6 * (j : Int))), y6, y7, y8] [] M') : bg_W G RL cL_law 9 ret room_1 (lw_T G b Ls xs) lw_E u v 1963 [some (.ref b), some (vR G 1 0), some (vR G 33 0), some (vR G 51 0), some (vR G 52 0), some (vI (6 * (j : Int))), y6, y7, y8] [] M := by
  refine wg_aload_n eL_law_1963 rfl ?_
  refine wg_aload_no eL_law_1964 rfl ?_
  refine wg_iload eL_law_1965 rfl ?_
  refine wg_iconst eL_law_1967 ?_
  refine wg_iadd eL_law_1968 ?_
  refine wg_sld eL_law_1969 ?_
  refine wg_aload_n eL_law_1970 rfl ?_
  refine bg_callSH (hh := [(0, 9, 12, 13), (0, 9, 15, 19)]) (n := 3) (As := [vR G 1 0, vI (sx xs (6 * (j : Int) + 1)), vR G 51 0]) (st := []) eL_law_1971 mw_1135 mw_1136 mw_104 mw_1137 ⟨by decide, by decide, by decide +kernel⟩ rfl (by decide) ⟨show _ ≤ 2048 by decide, show _ ≤ 84000 by decide⟩ ⟨show u + 2 ≤ 601024 by omega, show v + 8 * 2 ≤ 7293034 by omega⟩ rfl (bh_mono (hp_bestSegments (st_bestSegments sx_rng hK (by omega))) (fun r M2 hr => ?_))
  obtain ⟨k, rfl, hk, hF⟩ := hr
  refine wg_istore eL_law_1974 rfl ?_
  refine wg_aload_n eL_law_1976 rfl ?_
  refine wg_aload_no eL_law_1977 rfl ?_
  refine wg_iload eL_law_1978 rfl ?_
  refine wg_iconst eL_law_1980 ?_
  refine wg_iadd eL_law_1981 ?_
  refine wg_sld eL_law_1982 ?_
  refine bg_callV (k := 33) (j := 0) (ci := 9) (n := 1) (As := [vI (sx xs (6 * (j : Int) + 1))]) (st := []) eL_law_1983 mw_1833 mw_1834 mw_1835 mw_114 mw_1836 ⟨rfl, by decide, by decide, by decide +kernel⟩ rfl rfl (by decide) rfl (by decide) ⟨show _ ≤ 2048 by decide, show _ ≤ 84000 by decide⟩ ⟨show u + 2 + 0 ≤ 601024 by omega, show v + 8 * 2 + 8 * 0 ≤ 7293034 by omega⟩ rfl (bc_mono hF (fun r M3 hr => ?_))
  obtain ⟨z, rfl, h4, ho, hK3⟩ := hr
  refine wg_istore eL_law_1986 rfl ?_
  refine wg_aload_n eL_law_1988 rfl ?_
  refine bg_callV (k := 33) (j := 0) (ci := 9) (n := 0) (As := []) (st := []) eL_law_1989 mw_1479 mw_1480 mw_1481 mw_114 mw_1482 ⟨rfl, by decide, by decide, by decide +kernel⟩ rfl rfl (by decide) rfl (by decide) ⟨show _ ≤ 2048 by decide, show _ ≤ 84000 by decide⟩ ⟨show u + 2 + 0 + 0 ≤ 601024 by omega, show v + 8 * 2 + 8 * 0 + 8 * 0 ≤ 7293034 by omega⟩ rfl (ct_mThrown ?_)
  rw [h4]
  refine wg_iload eL_law_1992 rfl ?_
  refine wg_icmp_same eL_law_1994 ?_
  refine wg_iload eL_law_1999 rfl ?_
  refine wg_if_ne eL_law_2001 (fun _ => ?_) (fun c0 => ?_)
  · exact wg_goto eL_law_2016 (wg_widen (by omega) (by omega) (K M3 _ _ _ hK3))
  have e0 := ho (by omega)
  refine wg_aload_n eL_law_2004 rfl ?_
  refine wg_iconst eL_law_2005 ?_
  refine bg_lald (k := 51) (n := 1) (j := 0) (i := 0) eL_law_2006 (fun _ => rfl) (by decide) (by decide) (by decide) ?_
  rw [e0]
  refine wg_iload eL_law_2007 rfl ?_
  refine wg_i2l eL_law_2009 ?_
  refine wg_lcmp_same eL_law_2010 ?_
  refine wg_if_eq eL_law_2011 (fun _ => ?_) (fun h => absurd rfl h)
  exact wg_goto eL_law_2016 (wg_widen (by omega) (by omega) (K M3 _ _ _ hK3))
theorem lc_worstTime {G : bc_G} {b Ls : Nat} {xs : Nat → Int32} {j u v : Nat} {M : bc_M} {y6 y7 y8 : Option Value} (hK : KK M (j : Int)) (hj : 6 * (j : Int) + 5 < (Ls : Int)) (hL : Ls ≤ 3072) (hu : u + 5 ≤ 601024) (hv : v + 40 ≤ 7293034) (K : ∀ (M' : bc_M) (y6 y7 y8 : Option Value), KK M' ((j : Int) + 1) → bg_W G RL cL_law 9 ret room_1 (lw_T G b Ls xs) lw_E (u + 5) (v + 40) 3074 [some (.ref b), some (vR G 1 0), some (vR G 33 0), some (vR G 51 0), some (vR G 52 0), some (vI (6 * (j : Int))), y6, y7, y8] [] M') : bg_W G RL cL_law 9 ret room_1 (lw_T G b Ls xs) lw_E u v 2019 [some (.ref b), some (vR G 1 0), some (vR G 33 0), some (vR G 51 0), some (vR G 52 0), some (vI (6 * (j : Int))), y6, y7, y8] [] M := by
  refine wg_aload_n eL_law_2019 rfl ?_
  refine wg_aload_no eL_law_2020 rfl ?_
  refine wg_iload eL_law_2021 rfl ?_
  refine wg_iconst eL_law_2023 ?_
  refine wg_iadd eL_law_2024 ?_
  refine wg_sld eL_law_2025 ?_
  refine wg_aload_n eL_law_2026 rfl ?_
  refine bg_callSH (hh := [(0, 9, 12, 13), (0, 9, 15, 19)]) (n := 3) (As := [vR G 1 0, vI (sx xs (6 * (j : Int) + 1)), vR G 51 0]) (st := []) eL_law_2027 mw_1142 mw_1143 mw_104 mw_1144 ⟨by decide, by decide, by decide +kernel⟩ rfl (by decide) ⟨show _ ≤ 2048 by decide, show _ ≤ 84000 by decide⟩ ⟨show u + 3 ≤ 601024 by omega, show v + 8 * 3 ≤ 7293034 by omega⟩ rfl (bh_mono (hp_worstTime (st_worstTime sx_rng hK (by omega))) (fun r M2 hr => ?_))
  obtain ⟨k, rfl, hk, hF⟩ := hr
  refine wg_istore eL_law_2030 rfl ?_
  refine wg_aload_n eL_law_2032 rfl ?_
  refine wg_aload_no eL_law_2033 rfl ?_
  refine wg_iload eL_law_2034 rfl ?_
  refine wg_iconst eL_law_2036 ?_
  refine wg_iadd eL_law_2037 ?_
  refine wg_sld eL_law_2038 ?_
  refine bg_callV (k := 33) (j := 0) (ci := 9) (n := 1) (As := [vI (sx xs (6 * (j : Int) + 1))]) (st := []) eL_law_2039 mw_1837 mw_1838 mw_1839 mw_114 mw_1840 ⟨rfl, by decide, by decide, by decide +kernel⟩ rfl rfl (by decide) rfl (by decide) ⟨show _ ≤ 2048 by decide, show _ ≤ 84000 by decide⟩ ⟨show u + 3 + 0 ≤ 601024 by omega, show v + 8 * 3 + 8 * 0 ≤ 7293034 by omega⟩ rfl (bc_mono hF (fun r M3 hr => ?_))
  obtain ⟨z, rfl, h4, ho, hK3⟩ := hr
  refine wg_istore eL_law_2042 rfl ?_
  refine wg_aload_n eL_law_2044 rfl ?_
  refine bg_callV (k := 33) (j := 0) (ci := 9) (n := 0) (As := []) (st := []) eL_law_2045 mw_1479 mw_1480 mw_1481 mw_114 mw_1482 ⟨rfl, by decide, by decide, by decide +kernel⟩ rfl rfl (by decide) rfl (by decide) ⟨show _ ≤ 2048 by decide, show _ ≤ 84000 by decide⟩ ⟨show u + 3 + 0 + 0 ≤ 601024 by omega, show v + 8 * 3 + 8 * 0 + 8 * 0 ≤ 7293034 by omega⟩ rfl (ct_mThrown ?_)
  rw [h4]
  refine wg_iload eL_law_2048 rfl ?_
  refine wg_icmp_same eL_law_2050 ?_
  refine wg_iload eL_law_2055 rfl ?_
  refine wg_if_ne eL_law_2057 (fun _ => ?_) (fun c0 => ?_)
  · exact wg_goto eL_law_2072 (wg_widen (by omega) (by omega) (K M3 _ _ _ hK3))
  have e0 := ho (by omega)
  refine wg_aload_n eL_law_2060 rfl ?_
  refine wg_iconst eL_law_2061 ?_
  refine bg_lald (k := 51) (n := 1) (j := 0) (i := 0) eL_law_2062 (fun _ => rfl) (by decide) (by decide) (by decide) ?_
  rw [e0]
  refine wg_iload eL_law_2063 rfl ?_
  refine wg_i2l eL_law_2065 ?_
  refine wg_lcmp_same eL_law_2066 ?_
  refine wg_if_eq eL_law_2067 (fun _ => ?_) (fun h => absurd rfl h)
  exact wg_goto eL_law_2072 (wg_widen (by omega) (by omega) (K M3 _ _ _ hK3))
theorem lc_leastWorth {G : bc_G} {b Ls : Nat} {xs : Nat → Int32} {j u v : Nat} {M : bc_M} {y6 y7 y8 : Option Value} (hK : KK M (j : Int)) (hj : 6 * (j : Int) + 5 < (Ls : Int)) (hL : Ls ≤ 3072) (hu : u + 5 ≤ 601024) (hv : v + 40 ≤ 7293034) (K : ∀ (M' : bc_M) (y6 y7 y8 : Option Value), KK M' ((j : Int) + 1) → bg_W G RL cL_law 9 ret room_1 (lw_T G b Ls xs) lw_E (u + 5) (v + 40) 3074 [some (.ref b), some (vR G 1 0), some (vR G 33 0), some (vR G 51 0), some (vR G 52 0), some (vI (6 * (j : Int))), y6, y7, y8] [] M') : bg_W G RL cL_law 9 ret room_1 (lw_T G b Ls xs) lw_E u v 2075 [some (.ref b), some (vR G 1 0), some (vR G 33 0), some (vR G 51 0), some (vR G 52 0), some (vI (6 * (j : Int))), y6, y7, y8] [] M := by
  refine wg_aload_n eL_law_2075 rfl ?_
  refine wg_aload_n eL_law_2076 rfl ?_
  refine bg_callSH (hh := [(0, 8, 11, 13)]) (n := 2) (As := [vR G 1 0, vR G 51 0]) (st := []) eL_law_2077 mw_1158 mw_1159 mw_104 mw_1160 ⟨by decide, by decide, by decide +kernel⟩ rfl (by decide) ⟨show _ ≤ 2048 by decide, show _ ≤ 84000 by decide⟩ ⟨show u + 1 ≤ 601024 by omega, show v + 8 * 1 ≤ 7293034 by omega⟩ rfl (bh_mono (hp_leastWorth (st_leastWorth  hK (by omega))) (fun r M2 hr => ?_))
  obtain ⟨k, rfl, hk, hF⟩ := hr
  refine wg_istore eL_law_2080 rfl ?_
  refine wg_aload_n eL_law_2082 rfl ?_
  refine bg_callV (k := 33) (j := 0) (ci := 9) (n := 0) (As := []) (st := []) eL_law_2083 mw_1845 mw_1846 mw_1847 mw_114 mw_1848 ⟨rfl, by decide, by decide, by decide +kernel⟩ rfl rfl (by decide) rfl (by decide) ⟨show _ ≤ 2048 by decide, show _ ≤ 84000 by decide⟩ ⟨show u + 1 + 0 ≤ 601024 by omega, show v + 8 * 1 + 8 * 0 ≤ 7293034 by omega⟩ rfl (bc_mono hF (fun r M3 hr => ?_))
  obtain ⟨z, rfl, h4, ho, hK3⟩ := hr
  refine wg_istore eL_law_2086 rfl ?_
  refine wg_aload_n eL_law_2088 rfl ?_
  refine bg_callV (k := 33) (j := 0) (ci := 9) (n := 0) (As := []) (st := []) eL_law_2089 mw_1479 mw_1480 mw_1481 mw_114 mw_1482 ⟨rfl, by decide, by decide, by decide +kernel⟩ rfl rfl (by decide) rfl (by decide) ⟨show _ ≤ 2048 by decide, show _ ≤ 84000 by decide⟩ ⟨show u + 1 + 0 + 0 ≤ 601024 by omega, show v + 8 * 1 + 8 * 0 + 8 * 0 ≤ 7293034 by omega⟩ rfl (ct_mThrown ?_)
  rw [h4]
  refine wg_iload eL_law_2092 rfl ?_
  refine wg_icmp_same eL_law_2094 ?_
  refine wg_iload eL_law_2099 rfl ?_
  refine wg_if_ne eL_law_2101 (fun _ => ?_) (fun c0 => ?_)
  · exact wg_goto eL_law_2116 (wg_widen (by omega) (by omega) (K M3 _ _ _ hK3))
  have e0 := ho (by omega)
  refine wg_aload_n eL_law_2104 rfl ?_
  refine wg_iconst eL_law_2105 ?_
  refine bg_lald (k := 51) (n := 1) (j := 0) (i := 0) eL_law_2106 (fun _ => rfl) (by decide) (by decide) (by decide) ?_
  rw [e0]
  refine wg_iload eL_law_2107 rfl ?_
  refine wg_i2l eL_law_2109 ?_
  refine wg_lcmp_same eL_law_2110 ?_
  refine wg_if_eq eL_law_2111 (fun _ => ?_) (fun h => absurd rfl h)
  exact wg_goto eL_law_2116 (wg_widen (by omega) (by omega) (K M3 _ _ _ hK3))
theorem lc_itemRank {G : bc_G} {b Ls : Nat} {xs : Nat → Int32} {j u v : Nat} {M : bc_M} {y6 y7 y8 : Option Value} (hK : KK M (j : Int)) (hj : 6 * (j : Int) + 5 < (Ls : Int)) (hL : Ls ≤ 3072) (hu : u + 5 ≤ 601024) (hv : v + 40 ≤ 7293034) (K : ∀ (M' : bc_M) (y6 y7 y8 : Option Value), KK M' ((j : Int) + 1) → bg_W G RL cL_law 9 ret room_1 (lw_T G b Ls xs) lw_E (u + 5) (v + 40) 3074 [some (.ref b), some (vR G 1 0), some (vR G 33 0), some (vR G 51 0), some (vR G 52 0), some (vI (6 * (j : Int))), y6, y7, y8] [] M') : bg_W G RL cL_law 9 ret room_1 (lw_T G b Ls xs) lw_E u v 2119 [some (.ref b), some (vR G 1 0), some (vR G 33 0), some (vR G 51 0), some (vR G 52 0), some (vI (6 * (j : Int))), y6, y7, y8] [] M := by
  refine wg_aload_n eL_law_2119 rfl ?_
  refine wg_aload_no eL_law_2120 rfl ?_
  refine wg_iload eL_law_2121 rfl ?_
  refine wg_iconst eL_law_2123 ?_
  refine wg_iadd eL_law_2124 ?_
  refine wg_sld eL_law_2125 ?_
  refine wg_aload_n eL_law_2126 rfl ?_
  refine bg_callSH (hh := [(0, 9, 12, 13), (0, 9, 15, 19), (0, 9, 18, 112)]) (n := 3) (As := [vR G 1 0, vI (sx xs (6 * (j : Int) + 1)), vR G 51 0]) (st := []) eL_law_2127 mw_1165 mw_1166 mw_104 mw_1167 ⟨by decide, by decide, by decide +kernel⟩ rfl (by decide) ⟨show _ ≤ 2048 by decide, show _ ≤ 84000 by decide⟩ ⟨show u + 3 ≤ 601024 by omega, show v + 8 * 3 ≤ 7293034 by omega⟩ rfl (bh_mono (hp_itemRank (st_itemRank sx_rng hK (by omega))) (fun r M2 hr => ?_))
  obtain ⟨k, rfl, hk, hF⟩ := hr
  refine wg_istore eL_law_2130 rfl ?_
  refine wg_aload_n eL_law_2132 rfl ?_
  refine wg_aload_no eL_law_2133 rfl ?_
  refine wg_iload eL_law_2134 rfl ?_
  refine wg_iconst eL_law_2136 ?_
  refine wg_iadd eL_law_2137 ?_
  refine wg_sld eL_law_2138 ?_
  refine bg_callV (k := 33) (j := 0) (ci := 9) (n := 1) (As := [vI (sx xs (6 * (j : Int) + 1))]) (st := []) eL_law_2139 mw_1849 mw_1850 mw_1851 mw_114 mw_1852 ⟨rfl, by decide, by decide, by decide +kernel⟩ rfl rfl (by decide) rfl (by decide) ⟨show _ ≤ 2048 by decide, show _ ≤ 84000 by decide⟩ ⟨show u + 3 + 0 ≤ 601024 by omega, show v + 8 * 3 + 8 * 0 ≤ 7293034 by omega⟩ rfl (bc_mono hF (fun r M3 hr => ?_))
  obtain ⟨z, rfl, h4, ho, hK3⟩ := hr
  refine wg_istore eL_law_2142 rfl ?_
  refine wg_aload_n eL_law_2144 rfl ?_
  refine bg_callV (k := 33) (j := 0) (ci := 9) (n := 0) (As := []) (st := []) eL_law_2145 mw_1479 mw_1480 mw_1481 mw_114 mw_1482 ⟨rfl, by decide, by decide, by decide +kernel⟩ rfl rfl (by decide) rfl (by decide) ⟨show _ ≤ 2048 by decide, show _ ≤ 84000 by decide⟩ ⟨show u + 3 + 0 + 0 ≤ 601024 by omega, show v + 8 * 3 + 8 * 0 + 8 * 0 ≤ 7293034 by omega⟩ rfl (ct_mThrown ?_)
  rw [h4]
  refine wg_iload eL_law_2148 rfl ?_
  refine wg_icmp_same eL_law_2150 ?_
  refine wg_iload eL_law_2155 rfl ?_
  refine wg_if_ne eL_law_2157 (fun _ => ?_) (fun c0 => ?_)
  · exact wg_goto eL_law_2172 (wg_widen (by omega) (by omega) (K M3 _ _ _ hK3))
  have e0 := ho (by omega)
  refine wg_aload_n eL_law_2160 rfl ?_
  refine wg_iconst eL_law_2161 ?_
  refine bg_lald (k := 51) (n := 1) (j := 0) (i := 0) eL_law_2162 (fun _ => rfl) (by decide) (by decide) (by decide) ?_
  rw [e0]
  refine wg_iload eL_law_2163 rfl ?_
  refine wg_i2l eL_law_2165 ?_
  refine wg_lcmp_same eL_law_2166 ?_
  refine wg_if_eq eL_law_2167 (fun _ => ?_) (fun h => absurd rfl h)
  exact wg_goto eL_law_2172 (wg_widen (by omega) (by omega) (K M3 _ _ _ hK3))
theorem lc_diskRank {G : bc_G} {b Ls : Nat} {xs : Nat → Int32} {j u v : Nat} {M : bc_M} {y6 y7 y8 : Option Value} (hK : KK M (j : Int)) (hj : 6 * (j : Int) + 5 < (Ls : Int)) (hL : Ls ≤ 3072) (hu : u + 5 ≤ 601024) (hv : v + 40 ≤ 7293034) (K : ∀ (M' : bc_M) (y6 y7 y8 : Option Value), KK M' ((j : Int) + 1) → bg_W G RL cL_law 9 ret room_1 (lw_T G b Ls xs) lw_E (u + 5) (v + 40) 3074 [some (.ref b), some (vR G 1 0), some (vR G 33 0), some (vR G 51 0), some (vR G 52 0), some (vI (6 * (j : Int))), y6, y7, y8] [] M') : bg_W G RL cL_law 9 ret room_1 (lw_T G b Ls xs) lw_E u v 2175 [some (.ref b), some (vR G 1 0), some (vR G 33 0), some (vR G 51 0), some (vR G 52 0), some (vI (6 * (j : Int))), y6, y7, y8] [] M := by
  refine wg_aload_n eL_law_2175 rfl ?_
  refine wg_aload_no eL_law_2176 rfl ?_
  refine wg_iload eL_law_2177 rfl ?_
  refine wg_iconst eL_law_2179 ?_
  refine wg_iadd eL_law_2180 ?_
  refine wg_sld eL_law_2181 ?_
  refine wg_aload_n eL_law_2182 rfl ?_
  refine bg_callSH (hh := [(0, 9, 12, 13), (0, 9, 15, 19), (0, 9, 18, 112)]) (n := 3) (As := [vR G 1 0, vI (sx xs (6 * (j : Int) + 1)), vR G 51 0]) (st := []) eL_law_2183 mw_1197 mw_1198 mw_104 mw_1199 ⟨by decide, by decide, by decide +kernel⟩ rfl (by decide) ⟨show _ ≤ 2048 by decide, show _ ≤ 84000 by decide⟩ ⟨show u + 3 ≤ 601024 by omega, show v + 8 * 3 ≤ 7293034 by omega⟩ rfl (bh_mono (hp_diskRank (st_diskRank sx_rng hK (by omega))) (fun r M2 hr => ?_))
  obtain ⟨k, rfl, hk, hF⟩ := hr
  refine wg_istore eL_law_2186 rfl ?_
  refine wg_aload_n eL_law_2188 rfl ?_
  refine wg_aload_no eL_law_2189 rfl ?_
  refine wg_iload eL_law_2190 rfl ?_
  refine wg_iconst eL_law_2192 ?_
  refine wg_iadd eL_law_2193 ?_
  refine wg_sld eL_law_2194 ?_
  refine bg_callV (k := 33) (j := 0) (ci := 9) (n := 1) (As := [vI (sx xs (6 * (j : Int) + 1))]) (st := []) eL_law_2195 mw_1853 mw_1854 mw_1855 mw_114 mw_1856 ⟨rfl, by decide, by decide, by decide +kernel⟩ rfl rfl (by decide) rfl (by decide) ⟨show _ ≤ 2048 by decide, show _ ≤ 84000 by decide⟩ ⟨show u + 3 + 0 ≤ 601024 by omega, show v + 8 * 3 + 8 * 0 ≤ 7293034 by omega⟩ rfl (bc_mono hF (fun r M3 hr => ?_))
  obtain ⟨z, rfl, h4, ho, hK3⟩ := hr
  refine wg_istore eL_law_2198 rfl ?_
  refine wg_aload_n eL_law_2200 rfl ?_
  refine bg_callV (k := 33) (j := 0) (ci := 9) (n := 0) (As := []) (st := []) eL_law_2201 mw_1479 mw_1480 mw_1481 mw_114 mw_1482 ⟨rfl, by decide, by decide, by decide +kernel⟩ rfl rfl (by decide) rfl (by decide) ⟨show _ ≤ 2048 by decide, show _ ≤ 84000 by decide⟩ ⟨show u + 3 + 0 + 0 ≤ 601024 by omega, show v + 8 * 3 + 8 * 0 + 8 * 0 ≤ 7293034 by omega⟩ rfl (ct_mThrown ?_)
  rw [h4]
  refine wg_iload eL_law_2204 rfl ?_
  refine wg_icmp_same eL_law_2206 ?_
  refine wg_iload eL_law_2211 rfl ?_
  refine wg_if_ne eL_law_2213 (fun _ => ?_) (fun c0 => ?_)
  · exact wg_goto eL_law_2228 (wg_widen (by omega) (by omega) (K M3 _ _ _ hK3))
  have e0 := ho (by omega)
  refine wg_aload_n eL_law_2216 rfl ?_
  refine wg_iconst eL_law_2217 ?_
  refine bg_lald (k := 51) (n := 1) (j := 0) (i := 0) eL_law_2218 (fun _ => rfl) (by decide) (by decide) (by decide) ?_
  rw [e0]
  refine wg_iload eL_law_2219 rfl ?_
  refine wg_i2l eL_law_2221 ?_
  refine wg_lcmp_same eL_law_2222 ?_
  refine wg_if_eq eL_law_2223 (fun _ => ?_) (fun h => absurd rfl h)
  exact wg_goto eL_law_2228 (wg_widen (by omega) (by omega) (K M3 _ _ _ hK3))
theorem lc_tierSize {G : bc_G} {b Ls : Nat} {xs : Nat → Int32} {j u v : Nat} {M : bc_M} {y6 y7 y8 : Option Value} (hK : KK M (j : Int)) (hj : 6 * (j : Int) + 5 < (Ls : Int)) (hL : Ls ≤ 3072) (hu : u + 5 ≤ 601024) (hv : v + 40 ≤ 7293034) (K : ∀ (M' : bc_M) (y6 y7 y8 : Option Value), KK M' ((j : Int) + 1) → bg_W G RL cL_law 9 ret room_1 (lw_T G b Ls xs) lw_E (u + 5) (v + 40) 3074 [some (.ref b), some (vR G 1 0), some (vR G 33 0), some (vR G 51 0), some (vR G 52 0), some (vI (6 * (j : Int))), y6, y7, y8] [] M') : bg_W G RL cL_law 9 ret room_1 (lw_T G b Ls xs) lw_E u v 2231 [some (.ref b), some (vR G 1 0), some (vR G 33 0), some (vR G 51 0), some (vR G 52 0), some (vI (6 * (j : Int))), y6, y7, y8] [] M := by
  refine wg_aload_n eL_law_2231 rfl ?_
  refine wg_aload_no eL_law_2232 rfl ?_
  refine wg_iload eL_law_2233 rfl ?_
  refine wg_iconst eL_law_2235 ?_
  refine wg_iadd eL_law_2236 ?_
  refine wg_sld eL_law_2237 ?_
  refine wg_aload_no eL_law_2238 rfl ?_
  refine wg_iload eL_law_2239 rfl ?_
  refine wg_iconst eL_law_2241 ?_
  refine wg_iadd eL_law_2242 ?_
  refine wg_sld eL_law_2243 ?_
  refine wg_aload_n eL_law_2244 rfl ?_
  refine bg_callSH (hh := [(0, 10, 13, 13), (0, 10, 17, 19)]) (n := 4) (As := [vR G 1 0, vI (sx xs (6 * (j : Int) + 1)), vI (sx xs (6 * (j : Int) + 2)), vR G 51 0]) (st := []) eL_law_2245 mw_1204 mw_1205 mw_104 mw_1206 ⟨by decide, by decide, by decide +kernel⟩ rfl (by decide) ⟨show _ ≤ 2048 by decide, show _ ≤ 84000 by decide⟩ ⟨show u + 3 ≤ 601024 by omega, show v + 8 * 3 ≤ 7293034 by omega⟩ rfl (bh_mono (hp_tierSize (st_tierSize sx_rng sx_rng hK (by omega))) (fun r M2 hr => ?_))
  obtain ⟨k, rfl, hk, hF⟩ := hr
  refine wg_istore eL_law_2248 rfl ?_
  refine wg_aload_n eL_law_2250 rfl ?_
  refine wg_aload_no eL_law_2251 rfl ?_
  refine wg_iload eL_law_2252 rfl ?_
  refine wg_iconst eL_law_2254 ?_
  refine wg_iadd eL_law_2255 ?_
  refine wg_sld eL_law_2256 ?_
  refine wg_aload_no eL_law_2257 rfl ?_
  refine wg_iload eL_law_2258 rfl ?_
  refine wg_iconst eL_law_2260 ?_
  refine wg_iadd eL_law_2261 ?_
  refine wg_sld eL_law_2262 ?_
  refine bg_callV (k := 33) (j := 0) (ci := 9) (n := 2) (As := [vI (sx xs (6 * (j : Int) + 1)), vI (sx xs (6 * (j : Int) + 2))]) (st := []) eL_law_2263 mw_1857 mw_1858 mw_1859 mw_114 mw_1860 ⟨rfl, by decide, by decide, by decide +kernel⟩ rfl rfl (by decide) rfl (by decide) ⟨show _ ≤ 2048 by decide, show _ ≤ 84000 by decide⟩ ⟨show u + 3 + 0 ≤ 601024 by omega, show v + 8 * 3 + 8 * 0 ≤ 7293034 by omega⟩ rfl (bc_mono hF (fun r M3 hr => ?_))
  obtain ⟨z, rfl, h4, ho, hK3⟩ := hr
  refine wg_istore eL_law_2266 rfl ?_
  refine wg_aload_n eL_law_2268 rfl ?_
  refine bg_callV (k := 33) (j := 0) (ci := 9) (n := 0) (As := []) (st := []) eL_law_2269 mw_1479 mw_1480 mw_1481 mw_114 mw_1482 ⟨rfl, by decide, by decide, by decide +kernel⟩ rfl rfl (by decide) rfl (by decide) ⟨show _ ≤ 2048 by decide, show _ ≤ 84000 by decide⟩ ⟨show u + 3 + 0 + 0 ≤ 601024 by omega, show v + 8 * 3 + 8 * 0 + 8 * 0 ≤ 7293034 by omega⟩ rfl (ct_mThrown ?_)
  rw [h4]
  refine wg_iload eL_law_2272 rfl ?_
  refine wg_icmp_same eL_law_2274 ?_
  refine wg_iload eL_law_2279 rfl ?_
  refine wg_if_ne eL_law_2281 (fun _ => ?_) (fun c0 => ?_)
  · exact wg_goto eL_law_2296 (wg_widen (by omega) (by omega) (K M3 _ _ _ hK3))
  have e0 := ho (by omega)
  refine wg_aload_n eL_law_2284 rfl ?_
  refine wg_iconst eL_law_2285 ?_
  refine bg_lald (k := 51) (n := 1) (j := 0) (i := 0) eL_law_2286 (fun _ => rfl) (by decide) (by decide) (by decide) ?_
  rw [e0]
  refine wg_iload eL_law_2287 rfl ?_
  refine wg_i2l eL_law_2289 ?_
  refine wg_lcmp_same eL_law_2290 ?_
  refine wg_if_eq eL_law_2291 (fun _ => ?_) (fun h => absurd rfl h)
  exact wg_goto eL_law_2296 (wg_widen (by omega) (by omega) (K M3 _ _ _ hK3))
theorem lc_tierWeight {G : bc_G} {b Ls : Nat} {xs : Nat → Int32} {j u v : Nat} {M : bc_M} {y6 y7 y8 : Option Value} (hK : KK M (j : Int)) (hj : 6 * (j : Int) + 5 < (Ls : Int)) (hL : Ls ≤ 3072) (hu : u + 5 ≤ 601024) (hv : v + 40 ≤ 7293034) (K : ∀ (M' : bc_M) (y6 y7 y8 : Option Value), KK M' ((j : Int) + 1) → bg_W G RL cL_law 9 ret room_1 (lw_T G b Ls xs) lw_E (u + 5) (v + 40) 3074 [some (.ref b), some (vR G 1 0), some (vR G 33 0), some (vR G 51 0), some (vR G 52 0), some (vI (6 * (j : Int))), y6, y7, y8] [] M') : bg_W G RL cL_law 9 ret room_1 (lw_T G b Ls xs) lw_E u v 2299 [some (.ref b), some (vR G 1 0), some (vR G 33 0), some (vR G 51 0), some (vR G 52 0), some (vI (6 * (j : Int))), y6, y7, y8] [] M := by
  refine wg_aload_n eL_law_2299 rfl ?_
  refine wg_aload_no eL_law_2300 rfl ?_
  refine wg_iload eL_law_2301 rfl ?_
  refine wg_iconst eL_law_2303 ?_
  refine wg_iadd eL_law_2304 ?_
  refine wg_sld eL_law_2305 ?_
  refine wg_aload_n eL_law_2306 rfl ?_
  refine bg_callSH (hh := [(0, 8, 11, 13), (0, 8, 14, 19)]) (n := 3) (As := [vR G 1 0, vI (sx xs (6 * (j : Int) + 1)), vR G 51 0]) (st := []) eL_law_2307 mw_1211 mw_1212 mw_104 mw_1213 ⟨by decide, by decide, by decide +kernel⟩ rfl (by decide) ⟨show _ ≤ 2048 by decide, show _ ≤ 84000 by decide⟩ ⟨show u + 2 ≤ 601024 by omega, show v + 8 * 2 ≤ 7293034 by omega⟩ rfl (bh_mono (hp_tierWeight (st_tierWeight sx_rng hK (by omega))) (fun r M2 hr => ?_))
  obtain ⟨k, rfl, hk, hF⟩ := hr
  refine wg_istore eL_law_2310 rfl ?_
  refine wg_aload_n eL_law_2312 rfl ?_
  refine wg_aload_no eL_law_2313 rfl ?_
  refine wg_iload eL_law_2314 rfl ?_
  refine wg_iconst eL_law_2316 ?_
  refine wg_iadd eL_law_2317 ?_
  refine wg_sld eL_law_2318 ?_
  refine bg_callV (k := 33) (j := 0) (ci := 9) (n := 1) (As := [vI (sx xs (6 * (j : Int) + 1))]) (st := []) eL_law_2319 mw_1861 mw_1862 mw_1863 mw_114 mw_1864 ⟨rfl, by decide, by decide, by decide +kernel⟩ rfl rfl (by decide) rfl (by decide) ⟨show _ ≤ 2048 by decide, show _ ≤ 84000 by decide⟩ ⟨show u + 2 + 0 ≤ 601024 by omega, show v + 8 * 2 + 8 * 0 ≤ 7293034 by omega⟩ rfl (bc_mono hF (fun r M3 hr => ?_))
  obtain ⟨z, rfl, h4, ho, hK3⟩ := hr
  refine wg_lstore eL_law_2322 rfl ?_
  refine wg_aload_n eL_law_2324 rfl ?_
  refine bg_callV (k := 33) (j := 0) (ci := 9) (n := 0) (As := []) (st := []) eL_law_2325 mw_1479 mw_1480 mw_1481 mw_114 mw_1482 ⟨rfl, by decide, by decide, by decide +kernel⟩ rfl rfl (by decide) rfl (by decide) ⟨show _ ≤ 2048 by decide, show _ ≤ 84000 by decide⟩ ⟨show u + 2 + 0 + 0 ≤ 601024 by omega, show v + 8 * 2 + 8 * 0 + 8 * 0 ≤ 7293034 by omega⟩ rfl (ct_mThrown ?_)
  rw [h4]
  refine wg_iload eL_law_2328 rfl ?_
  refine wg_icmp_same eL_law_2330 ?_
  refine wg_iload eL_law_2335 rfl ?_
  refine wg_if_ne eL_law_2337 (fun _ => ?_) (fun c0 => ?_)
  · exact wg_goto eL_law_2351 (wg_widen (by omega) (by omega) (K M3 _ _ _ hK3))
  have e0 := ho (by omega)
  refine wg_aload_n eL_law_2340 rfl ?_
  refine wg_iconst eL_law_2341 ?_
  refine bg_lald (k := 51) (n := 1) (j := 0) (i := 0) eL_law_2342 (fun _ => rfl) (by decide) (by decide) (by decide) ?_
  rw [e0]
  refine wg_lload eL_law_2343 rfl ?_
  refine wg_lcmp_same eL_law_2345 ?_
  refine wg_if_eq eL_law_2346 (fun _ => ?_) (fun h => absurd rfl h)
  exact wg_goto eL_law_2351 (wg_widen (by omega) (by omega) (K M3 _ _ _ hK3))
theorem lc_afterRepair {G : bc_G} {b Ls : Nat} {xs : Nat → Int32} {j u v : Nat} {M : bc_M} {y6 y7 y8 : Option Value} (hK : KK M (j : Int)) (hj : 6 * (j : Int) + 5 < (Ls : Int)) (hL : Ls ≤ 3072) (hu : u + 5 ≤ 601024) (hv : v + 40 ≤ 7293034) (K : ∀ (M' : bc_M) (y6 y7 y8 : Option Value), KK M' ((j : Int) + 1) → bg_W G RL cL_law 9 ret room_1 (lw_T G b Ls xs) lw_E (u + 5) (v + 40) 3074 [some (.ref b), some (vR G 1 0), some (vR G 33 0), some (vR G 51 0), some (vR G 52 0), some (vI (6 * (j : Int))), y6, y7, y8] [] M') : bg_W G RL cL_law 9 ret room_1 (lw_T G b Ls xs) lw_E u v 2354 [some (.ref b), some (vR G 1 0), some (vR G 33 0), some (vR G 51 0), some (vR G 52 0), some (vI (6 * (j : Int))), y6, y7, y8] [] M := by
  refine wg_aload_n eL_law_2354 rfl ?_
  refine wg_aload_n eL_law_2355 rfl ?_
  refine bg_callSH (hh := [(0, 8, 11, 13)]) (n := 2) (As := [vR G 1 0, vR G 51 0]) (st := []) eL_law_2356 mw_1219 mw_1220 mw_104 mw_1221 ⟨by decide, by decide, by decide +kernel⟩ rfl (by decide) ⟨show _ ≤ 2048 by decide, show _ ≤ 84000 by decide⟩ ⟨show u + 1 ≤ 601024 by omega, show v + 8 * 1 ≤ 7293034 by omega⟩ rfl (bh_mono (hp_afterRepair (st_afterRepair  hK (by omega))) (fun r M2 hr => ?_))
  obtain ⟨k, rfl, hk, hF⟩ := hr
  refine wg_istore eL_law_2359 rfl ?_
  refine wg_aload_n eL_law_2361 rfl ?_
  refine bg_callV (k := 33) (j := 0) (ci := 9) (n := 0) (As := []) (st := []) eL_law_2362 mw_1866 mw_1867 mw_1868 mw_114 mw_1869 ⟨rfl, by decide, by decide, by decide +kernel⟩ rfl rfl (by decide) rfl (by decide) ⟨show _ ≤ 2048 by decide, show _ ≤ 84000 by decide⟩ ⟨show u + 1 + 0 ≤ 601024 by omega, show v + 8 * 1 + 8 * 0 ≤ 7293034 by omega⟩ rfl (bc_mono hF (fun r M3 hr => ?_))
  obtain ⟨z, rfl, h4, ho, hK3⟩ := hr
  refine wg_istore eL_law_2365 rfl ?_
  refine wg_aload_n eL_law_2367 rfl ?_
  refine bg_callV (k := 33) (j := 0) (ci := 9) (n := 0) (As := []) (st := []) eL_law_2368 mw_1479 mw_1480 mw_1481 mw_114 mw_1482 ⟨rfl, by decide, by decide, by decide +kernel⟩ rfl rfl (by decide) rfl (by decide) ⟨show _ ≤ 2048 by decide, show _ ≤ 84000 by decide⟩ ⟨show u + 1 + 0 + 0 ≤ 601024 by omega, show v + 8 * 1 + 8 * 0 + 8 * 0 ≤ 7293034 by omega⟩ rfl (ct_mThrown ?_)
  rw [h4]
  refine wg_iload eL_law_2371 rfl ?_
  refine wg_icmp_same eL_law_2373 ?_
  refine wg_iload eL_law_2378 rfl ?_
  refine wg_if_ne eL_law_2380 (fun _ => ?_) (fun c0 => ?_)
  · exact wg_goto eL_law_2395 (wg_widen (by omega) (by omega) (K M3 _ _ _ hK3))
  have e0 := ho (by omega)
  refine wg_aload_n eL_law_2383 rfl ?_
  refine wg_iconst eL_law_2384 ?_
  refine bg_lald (k := 51) (n := 1) (j := 0) (i := 0) eL_law_2385 (fun _ => rfl) (by decide) (by decide) (by decide) ?_
  rw [e0]
  refine wg_iload eL_law_2386 rfl ?_
  refine wg_i2l eL_law_2388 ?_
  refine wg_lcmp_same eL_law_2389 ?_
  refine wg_if_eq eL_law_2390 (fun _ => ?_) (fun h => absurd rfl h)
  exact wg_goto eL_law_2395 (wg_widen (by omega) (by omega) (K M3 _ _ _ hK3))
theorem lc_bestDisk {G : bc_G} {b Ls : Nat} {xs : Nat → Int32} {j u v : Nat} {M : bc_M} {y6 y7 y8 : Option Value} (hK : KK M (j : Int)) (hj : 6 * (j : Int) + 5 < (Ls : Int)) (hL : Ls ≤ 3072) (hu : u + 5 ≤ 601024) (hv : v + 40 ≤ 7293034) (K : ∀ (M' : bc_M) (y6 y7 y8 : Option Value), KK M' ((j : Int) + 1) → bg_W G RL cL_law 9 ret room_1 (lw_T G b Ls xs) lw_E (u + 5) (v + 40) 3074 [some (.ref b), some (vR G 1 0), some (vR G 33 0), some (vR G 51 0), some (vR G 52 0), some (vI (6 * (j : Int))), y6, y7, y8] [] M') : bg_W G RL cL_law 9 ret room_1 (lw_T G b Ls xs) lw_E u v 2398 [some (.ref b), some (vR G 1 0), some (vR G 33 0), some (vR G 51 0), some (vR G 52 0), some (vI (6 * (j : Int))), y6, y7, y8] [] M := by
  refine wg_aload_n eL_law_2398 rfl ?_
  refine wg_aload_no eL_law_2399 rfl ?_
  refine wg_iload eL_law_2400 rfl ?_
  refine wg_iconst eL_law_2402 ?_
  refine wg_iadd eL_law_2403 ?_
  refine wg_sld eL_law_2404 ?_
  refine wg_aload_n eL_law_2405 rfl ?_
  refine bg_callSH (hh := [(0, 9, 12, 13), (0, 9, 15, 19)]) (n := 3) (As := [vR G 1 0, vI (sx xs (6 * (j : Int) + 1)), vR G 51 0]) (st := []) eL_law_2406 mw_1226 mw_1227 mw_104 mw_1228 ⟨by decide, by decide, by decide +kernel⟩ rfl (by decide) ⟨show _ ≤ 2048 by decide, show _ ≤ 84000 by decide⟩ ⟨show u + 2 ≤ 601024 by omega, show v + 8 * 2 ≤ 7293034 by omega⟩ rfl (bh_mono (hp_bestDisk (st_bestDisk sx_rng hK (by omega))) (fun r M2 hr => ?_))
  obtain ⟨k, rfl, hk, hF⟩ := hr
  refine wg_istore eL_law_2409 rfl ?_
  refine wg_aload_n eL_law_2411 rfl ?_
  refine wg_aload_no eL_law_2412 rfl ?_
  refine wg_iload eL_law_2413 rfl ?_
  refine wg_iconst eL_law_2415 ?_
  refine wg_iadd eL_law_2416 ?_
  refine wg_sld eL_law_2417 ?_
  refine bg_callV (k := 33) (j := 0) (ci := 9) (n := 1) (As := [vI (sx xs (6 * (j : Int) + 1))]) (st := []) eL_law_2418 mw_1870 mw_1871 mw_1872 mw_114 mw_1873 ⟨rfl, by decide, by decide, by decide +kernel⟩ rfl rfl (by decide) rfl (by decide) ⟨show _ ≤ 2048 by decide, show _ ≤ 84000 by decide⟩ ⟨show u + 2 + 0 ≤ 601024 by omega, show v + 8 * 2 + 8 * 0 ≤ 7293034 by omega⟩ rfl (bc_mono hF (fun r M3 hr => ?_))
  obtain ⟨z, rfl, h4, ho, hK3⟩ := hr
  refine wg_istore eL_law_2421 rfl ?_
  refine wg_aload_n eL_law_2423 rfl ?_
  refine bg_callV (k := 33) (j := 0) (ci := 9) (n := 0) (As := []) (st := []) eL_law_2424 mw_1479 mw_1480 mw_1481 mw_114 mw_1482 ⟨rfl, by decide, by decide, by decide +kernel⟩ rfl rfl (by decide) rfl (by decide) ⟨show _ ≤ 2048 by decide, show _ ≤ 84000 by decide⟩ ⟨show u + 2 + 0 + 0 ≤ 601024 by omega, show v + 8 * 2 + 8 * 0 + 8 * 0 ≤ 7293034 by omega⟩ rfl (ct_mThrown ?_)
  rw [h4]
  refine wg_iload eL_law_2427 rfl ?_
  refine wg_icmp_same eL_law_2429 ?_
  refine wg_iload eL_law_2434 rfl ?_
  refine wg_if_ne eL_law_2436 (fun _ => ?_) (fun c0 => ?_)
  · exact wg_goto eL_law_2451 (wg_widen (by omega) (by omega) (K M3 _ _ _ hK3))
  have e0 := ho (by omega)
  refine wg_aload_n eL_law_2439 rfl ?_
  refine wg_iconst eL_law_2440 ?_
  refine bg_lald (k := 51) (n := 1) (j := 0) (i := 0) eL_law_2441 (fun _ => rfl) (by decide) (by decide) (by decide) ?_
  rw [e0]
  refine wg_iload eL_law_2442 rfl ?_
  refine wg_i2l eL_law_2444 ?_
  refine wg_lcmp_same eL_law_2445 ?_
  refine wg_if_eq eL_law_2446 (fun _ => ?_) (fun h => absurd rfl h)
  exact wg_goto eL_law_2451 (wg_widen (by omega) (by omega) (K M3 _ _ _ hK3))
theorem lc_clientCount {G : bc_G} {b Ls : Nat} {xs : Nat → Int32} {j u v : Nat} {M : bc_M} {y6 y7 y8 : Option Value} (hK : KK M (j : Int)) (hj : 6 * (j : Int) + 5 < (Ls : Int)) (hL : Ls ≤ 3072) (hu : u + 5 ≤ 601024) (hv : v + 40 ≤ 7293034) (K : ∀ (M' : bc_M) (y6 y7 y8 : Option Value), KK M' ((j : Int) + 1) → bg_W G RL cL_law 9 ret room_1 (lw_T G b Ls xs) lw_E (u + 5) (v + 40) 3074 [some (.ref b), some (vR G 1 0), some (vR G 33 0), some (vR G 51 0), some (vR G 52 0), some (vI (6 * (j : Int))), y6, y7, y8] [] M') : bg_W G RL cL_law 9 ret room_1 (lw_T G b Ls xs) lw_E u v 2454 [some (.ref b), some (vR G 1 0), some (vR G 33 0), some (vR G 51 0), some (vR G 52 0), some (vI (6 * (j : Int))), y6, y7, y8] [] M := by
  refine wg_aload_n eL_law_2454 rfl ?_
  refine wg_aload_n eL_law_2455 rfl ?_
  refine bg_callSH (hh := [(0, 8, 11, 13)]) (n := 2) (As := [vR G 1 0, vR G 51 0]) (st := []) eL_law_2456 mw_1233 mw_1234 mw_104 mw_1235 ⟨by decide, by decide, by decide +kernel⟩ rfl (by decide) ⟨show _ ≤ 2048 by decide, show _ ≤ 84000 by decide⟩ ⟨show u + 1 ≤ 601024 by omega, show v + 8 * 1 ≤ 7293034 by omega⟩ rfl (bh_mono (hp_clientCount (st_clientCount  hK (by omega))) (fun r M2 hr => ?_))
  obtain ⟨k, rfl, hk, hF⟩ := hr
  refine wg_istore eL_law_2459 rfl ?_
  refine wg_aload_n eL_law_2461 rfl ?_
  refine bg_callV (k := 33) (j := 0) (ci := 9) (n := 0) (As := []) (st := []) eL_law_2462 mw_1874 mw_1875 mw_1876 mw_114 mw_1877 ⟨rfl, by decide, by decide, by decide +kernel⟩ rfl rfl (by decide) rfl (by decide) ⟨show _ ≤ 2048 by decide, show _ ≤ 84000 by decide⟩ ⟨show u + 1 + 0 ≤ 601024 by omega, show v + 8 * 1 + 8 * 0 ≤ 7293034 by omega⟩ rfl (bc_mono hF (fun r M3 hr => ?_))
  obtain ⟨z, rfl, h4, ho, hK3⟩ := hr
  refine wg_istore eL_law_2465 rfl ?_
  refine wg_aload_n eL_law_2467 rfl ?_
  refine bg_callV (k := 33) (j := 0) (ci := 9) (n := 0) (As := []) (st := []) eL_law_2468 mw_1479 mw_1480 mw_1481 mw_114 mw_1482 ⟨rfl, by decide, by decide, by decide +kernel⟩ rfl rfl (by decide) rfl (by decide) ⟨show _ ≤ 2048 by decide, show _ ≤ 84000 by decide⟩ ⟨show u + 1 + 0 + 0 ≤ 601024 by omega, show v + 8 * 1 + 8 * 0 + 8 * 0 ≤ 7293034 by omega⟩ rfl (ct_mThrown ?_)
  rw [h4]
  refine wg_iload eL_law_2471 rfl ?_
  refine wg_icmp_same eL_law_2473 ?_
  refine wg_iload eL_law_2478 rfl ?_
  refine wg_if_ne eL_law_2480 (fun _ => ?_) (fun c0 => ?_)
  · exact wg_goto eL_law_2495 (wg_widen (by omega) (by omega) (K M3 _ _ _ hK3))
  have e0 := ho (by omega)
  refine wg_aload_n eL_law_2483 rfl ?_
  refine wg_iconst eL_law_2484 ?_
  refine bg_lald (k := 51) (n := 1) (j := 0) (i := 0) eL_law_2485 (fun _ => rfl) (by decide) (by decide) (by decide) ?_
  rw [e0]
  refine wg_iload eL_law_2486 rfl ?_
  refine wg_i2l eL_law_2488 ?_
  refine wg_lcmp_same eL_law_2489 ?_
  refine wg_if_eq eL_law_2490 (fun _ => ?_) (fun h => absurd rfl h)
  exact wg_goto eL_law_2495 (wg_widen (by omega) (by omega) (K M3 _ _ _ hK3))
theorem lc_clientValue {G : bc_G} {b Ls : Nat} {xs : Nat → Int32} {j u v : Nat} {M : bc_M} {y6 y7 y8 : Option Value} (hK : KK M (j : Int)) (hj : 6 * (j : Int) + 5 < (Ls : Int)) (hL : Ls ≤ 3072) (hu : u + 5 ≤ 601024) (hv : v + 40 ≤ 7293034) (K : ∀ (M' : bc_M) (y6 y7 y8 : Option Value), KK M' ((j : Int) + 1) → bg_W G RL cL_law 9 ret room_1 (lw_T G b Ls xs) lw_E (u + 5) (v + 40) 3074 [some (.ref b), some (vR G 1 0), some (vR G 33 0), some (vR G 51 0), some (vR G 52 0), some (vI (6 * (j : Int))), y6, y7, y8] [] M') : bg_W G RL cL_law 9 ret room_1 (lw_T G b Ls xs) lw_E u v 2498 [some (.ref b), some (vR G 1 0), some (vR G 33 0), some (vR G 51 0), some (vR G 52 0), some (vI (6 * (j : Int))), y6, y7, y8] [] M := by
  refine wg_aload_n eL_law_2498 rfl ?_
  refine wg_aload_no eL_law_2499 rfl ?_
  refine wg_iload eL_law_2500 rfl ?_
  refine wg_iconst eL_law_2502 ?_
  refine wg_iadd eL_law_2503 ?_
  refine wg_sld eL_law_2504 ?_
  refine wg_aload_no eL_law_2505 rfl ?_
  refine wg_iload eL_law_2506 rfl ?_
  refine wg_iconst eL_law_2508 ?_
  refine wg_iadd eL_law_2509 ?_
  refine wg_sld eL_law_2510 ?_
  refine wg_aload_n eL_law_2511 rfl ?_
  refine bg_callSH (hh := [(0, 10, 13, 13), (0, 10, 17, 19)]) (n := 4) (As := [vR G 1 0, vI (sx xs (6 * (j : Int) + 1)), vI (sx xs (6 * (j : Int) + 2)), vR G 51 0]) (st := []) eL_law_2512 mw_1240 mw_1241 mw_104 mw_1242 ⟨by decide, by decide, by decide +kernel⟩ rfl (by decide) ⟨show _ ≤ 2048 by decide, show _ ≤ 84000 by decide⟩ ⟨show u + 3 ≤ 601024 by omega, show v + 8 * 3 ≤ 7293034 by omega⟩ rfl (bh_mono (hp_clientValue (st_clientValue sx_rng sx_rng hK (by omega))) (fun r M2 hr => ?_))
  obtain ⟨k, rfl, hk, hF⟩ := hr
  refine wg_istore eL_law_2515 rfl ?_
  refine wg_aload_n eL_law_2517 rfl ?_
  refine wg_aload_no eL_law_2518 rfl ?_
  refine wg_iload eL_law_2519 rfl ?_
  refine wg_iconst eL_law_2521 ?_
  refine wg_iadd eL_law_2522 ?_
  refine wg_sld eL_law_2523 ?_
  refine wg_aload_no eL_law_2524 rfl ?_
  refine wg_iload eL_law_2525 rfl ?_
  refine wg_iconst eL_law_2527 ?_
  refine wg_iadd eL_law_2528 ?_
  refine wg_sld eL_law_2529 ?_
  refine bg_callV (k := 33) (j := 0) (ci := 9) (n := 2) (As := [vI (sx xs (6 * (j : Int) + 1)), vI (sx xs (6 * (j : Int) + 2))]) (st := []) eL_law_2530 mw_1878 mw_1879 mw_1880 mw_114 mw_1881 ⟨rfl, by decide, by decide, by decide +kernel⟩ rfl rfl (by decide) rfl (by decide) ⟨show _ ≤ 2048 by decide, show _ ≤ 84000 by decide⟩ ⟨show u + 3 + 0 ≤ 601024 by omega, show v + 8 * 3 + 8 * 0 ≤ 7293034 by omega⟩ rfl (bc_mono hF (fun r M3 hr => ?_))
  obtain ⟨z, rfl, h4, ho, hK3⟩ := hr
  refine wg_istore eL_law_2533 rfl ?_
  refine wg_aload_n eL_law_2535 rfl ?_
  refine bg_callV (k := 33) (j := 0) (ci := 9) (n := 0) (As := []) (st := []) eL_law_2536 mw_1479 mw_1480 mw_1481 mw_114 mw_1482 ⟨rfl, by decide, by decide, by decide +kernel⟩ rfl rfl (by decide) rfl (by decide) ⟨show _ ≤ 2048 by decide, show _ ≤ 84000 by decide⟩ ⟨show u + 3 + 0 + 0 ≤ 601024 by omega, show v + 8 * 3 + 8 * 0 + 8 * 0 ≤ 7293034 by omega⟩ rfl (ct_mThrown ?_)
  rw [h4]
  refine wg_iload eL_law_2539 rfl ?_
  refine wg_icmp_same eL_law_2541 ?_
  refine wg_iload eL_law_2546 rfl ?_
  refine wg_if_ne eL_law_2548 (fun _ => ?_) (fun c0 => ?_)
  · exact wg_goto eL_law_2563 (wg_widen (by omega) (by omega) (K M3 _ _ _ hK3))
  have e0 := ho (by omega)
  refine wg_aload_n eL_law_2551 rfl ?_
  refine wg_iconst eL_law_2552 ?_
  refine bg_lald (k := 51) (n := 1) (j := 0) (i := 0) eL_law_2553 (fun _ => rfl) (by decide) (by decide) (by decide) ?_
  rw [e0]
  refine wg_iload eL_law_2554 rfl ?_
  refine wg_i2l eL_law_2556 ?_
  refine wg_lcmp_same eL_law_2557 ?_
  refine wg_if_eq eL_law_2558 (fun _ => ?_) (fun h => absurd rfl h)
  exact wg_goto eL_law_2563 (wg_widen (by omega) (by omega) (K M3 _ _ _ hK3))
theorem lc_cache {G : bc_G} {b Ls : Nat} {xs : Nat → Int32} {j u v : Nat} {M : bc_M} {y6 y7 y8 : Option Value} (hK : KK M (j : Int)) (hj : 6 * (j : Int) + 5 < (Ls : Int)) (hL : Ls ≤ 3072) (hu : u + 5 ≤ 601024) (hv : v + 40 ≤ 7293034) (K : ∀ (M' : bc_M) (y6 y7 y8 : Option Value), KK M' ((j : Int) + 1) → bg_W G RL cL_law 9 ret room_1 (lw_T G b Ls xs) lw_E (u + 5) (v + 40) 3074 [some (.ref b), some (vR G 1 0), some (vR G 33 0), some (vR G 51 0), some (vR G 52 0), some (vI (6 * (j : Int))), y6, y7, y8] [] M') : bg_W G RL cL_law 9 ret room_1 (lw_T G b Ls xs) lw_E u v 2566 [some (.ref b), some (vR G 1 0), some (vR G 33 0), some (vR G 51 0), some (vR G 52 0), some (vI (6 * (j : Int))), y6, y7, y8] [] M := by
  refine wg_aload_n eL_law_2566 rfl ?_
  refine wg_aload_no eL_law_2567 rfl ?_
  refine wg_iload eL_law_2568 rfl ?_
  refine wg_iconst eL_law_2570 ?_
  refine wg_iadd eL_law_2571 ?_
  refine wg_sld eL_law_2572 ?_
  refine wg_aload_n eL_law_2573 rfl ?_
  refine bg_callSH (hh := [(0, 9, 12, 13), (0, 9, 15, 19)]) (n := 3) (As := [vR G 1 0, vI (sx xs (6 * (j : Int) + 1)), vR G 51 0]) (st := []) eL_law_2574 mw_1247 mw_1248 mw_104 mw_1249 ⟨by decide, by decide, by decide +kernel⟩ rfl (by decide) ⟨show _ ≤ 2048 by decide, show _ ≤ 84000 by decide⟩ ⟨show u + 2 ≤ 601024 by omega, show v + 8 * 2 ≤ 7293034 by omega⟩ rfl (bh_mono (hp_cache (st_cache sx_rng hK (by omega))) (fun r M2 hr => ?_))
  obtain ⟨k, rfl, hk, hF⟩ := hr
  refine wg_istore eL_law_2577 rfl ?_
  refine wg_aload_n eL_law_2579 rfl ?_
  refine wg_aload_no eL_law_2580 rfl ?_
  refine wg_iload eL_law_2581 rfl ?_
  refine wg_iconst eL_law_2583 ?_
  refine wg_iadd eL_law_2584 ?_
  refine wg_sld eL_law_2585 ?_
  refine bg_callV (k := 33) (j := 0) (ci := 9) (n := 1) (As := [vI (sx xs (6 * (j : Int) + 1))]) (st := []) eL_law_2586 mw_1883 mw_1884 mw_1885 mw_114 mw_1886 ⟨rfl, by decide, by decide, by decide +kernel⟩ rfl rfl (by decide) rfl (by decide) ⟨show _ ≤ 2048 by decide, show _ ≤ 84000 by decide⟩ ⟨show u + 2 + 0 ≤ 601024 by omega, show v + 8 * 2 + 8 * 0 ≤ 7293034 by omega⟩ rfl (bc_mono hF (fun r M3 hr => ?_))
  obtain ⟨z, rfl, h4, ho, hK3⟩ := hr
  refine wg_istore eL_law_2589 rfl ?_
  refine wg_aload_n eL_law_2591 rfl ?_
  refine bg_callV (k := 33) (j := 0) (ci := 9) (n := 0) (As := []) (st := []) eL_law_2592 mw_1479 mw_1480 mw_1481 mw_114 mw_1482 ⟨rfl, by decide, by decide, by decide +kernel⟩ rfl rfl (by decide) rfl (by decide) ⟨show _ ≤ 2048 by decide, show _ ≤ 84000 by decide⟩ ⟨show u + 2 + 0 + 0 ≤ 601024 by omega, show v + 8 * 2 + 8 * 0 + 8 * 0 ≤ 7293034 by omega⟩ rfl (ct_mThrown ?_)
  rw [h4]
  refine wg_iload eL_law_2595 rfl ?_
  refine wg_icmp_same eL_law_2597 ?_
  refine wg_iload eL_law_2602 rfl ?_
  refine wg_if_ne eL_law_2604 (fun _ => ?_) (fun c0 => ?_)
  · exact wg_goto eL_law_2619 (wg_widen (by omega) (by omega) (K M3 _ _ _ hK3))
  have e0 := ho (by omega)
  refine wg_aload_n eL_law_2607 rfl ?_
  refine wg_iconst eL_law_2608 ?_
  refine bg_lald (k := 51) (n := 1) (j := 0) (i := 0) eL_law_2609 (fun _ => rfl) (by decide) (by decide) (by decide) ?_
  rw [e0]
  refine wg_iload eL_law_2610 rfl ?_
  refine wg_i2l eL_law_2612 ?_
  refine wg_lcmp_same eL_law_2613 ?_
  refine wg_if_eq eL_law_2614 (fun _ => ?_) (fun h => absurd rfl h)
  exact wg_goto eL_law_2619 (wg_widen (by omega) (by omega) (K M3 _ _ _ hK3))
theorem lc_requests {G : bc_G} {b Ls : Nat} {xs : Nat → Int32} {j u v : Nat} {M : bc_M} {y6 y7 y8 : Option Value} (hK : KK M (j : Int)) (hj : 6 * (j : Int) + 5 < (Ls : Int)) (hL : Ls ≤ 3072) (hu : u + 5 ≤ 601024) (hv : v + 40 ≤ 7293034) (K : ∀ (M' : bc_M) (y6 y7 y8 : Option Value), KK M' ((j : Int) + 1) → bg_W G RL cL_law 9 ret room_1 (lw_T G b Ls xs) lw_E (u + 5) (v + 40) 3074 [some (.ref b), some (vR G 1 0), some (vR G 33 0), some (vR G 51 0), some (vR G 52 0), some (vI (6 * (j : Int))), y6, y7, y8] [] M') : bg_W G RL cL_law 9 ret room_1 (lw_T G b Ls xs) lw_E u v 2622 [some (.ref b), some (vR G 1 0), some (vR G 33 0), some (vR G 51 0), some (vR G 52 0), some (vI (6 * (j : Int))), y6, y7, y8] [] M := by
  refine wg_aload_n eL_law_2622 rfl ?_
  refine wg_aload_no eL_law_2623 rfl ?_
  refine wg_iload eL_law_2624 rfl ?_
  refine wg_iconst eL_law_2626 ?_
  refine wg_iadd eL_law_2627 ?_
  refine wg_sld eL_law_2628 ?_
  refine wg_aload_no eL_law_2629 rfl ?_
  refine wg_iload eL_law_2630 rfl ?_
  refine wg_iconst eL_law_2632 ?_
  refine wg_iadd eL_law_2633 ?_
  refine wg_sld eL_law_2634 ?_
  refine wg_aload_n eL_law_2635 rfl ?_
  refine bg_callSH (hh := [(0, 10, 13, 13), (0, 10, 17, 19)]) (n := 4) (As := [vR G 1 0, vI (sx xs (6 * (j : Int) + 1)), vI (sx xs (6 * (j : Int) + 2)), vR G 51 0]) (st := []) eL_law_2636 mw_1254 mw_1255 mw_104 mw_1256 ⟨by decide, by decide, by decide +kernel⟩ rfl (by decide) ⟨show _ ≤ 2048 by decide, show _ ≤ 84000 by decide⟩ ⟨show u + 3 ≤ 601024 by omega, show v + 8 * 3 ≤ 7293034 by omega⟩ rfl (bh_mono (hp_requests (st_requests sx_rng sx_rng hK (by omega))) (fun r M2 hr => ?_))
  obtain ⟨k, rfl, hk, hF⟩ := hr
  refine wg_istore eL_law_2639 rfl ?_
  refine wg_aload_n eL_law_2641 rfl ?_
  refine wg_aload_no eL_law_2642 rfl ?_
  refine wg_iload eL_law_2643 rfl ?_
  refine wg_iconst eL_law_2645 ?_
  refine wg_iadd eL_law_2646 ?_
  refine wg_sld eL_law_2647 ?_
  refine wg_aload_no eL_law_2648 rfl ?_
  refine wg_iload eL_law_2649 rfl ?_
  refine wg_iconst eL_law_2651 ?_
  refine wg_iadd eL_law_2652 ?_
  refine wg_sld eL_law_2653 ?_
  refine bg_callV (k := 33) (j := 0) (ci := 9) (n := 2) (As := [vI (sx xs (6 * (j : Int) + 1)), vI (sx xs (6 * (j : Int) + 2))]) (st := []) eL_law_2654 mw_1887 mw_1888 mw_1889 mw_114 mw_1890 ⟨rfl, by decide, by decide, by decide +kernel⟩ rfl rfl (by decide) rfl (by decide) ⟨show _ ≤ 2048 by decide, show _ ≤ 84000 by decide⟩ ⟨show u + 3 + 0 ≤ 601024 by omega, show v + 8 * 3 + 8 * 0 ≤ 7293034 by omega⟩ rfl (bc_mono hF (fun r M3 hr => ?_))
  obtain ⟨z, rfl, h4, ho, hK3⟩ := hr
  refine wg_istore eL_law_2657 rfl ?_
  refine wg_aload_n eL_law_2659 rfl ?_
  refine bg_callV (k := 33) (j := 0) (ci := 9) (n := 0) (As := []) (st := []) eL_law_2660 mw_1479 mw_1480 mw_1481 mw_114 mw_1482 ⟨rfl, by decide, by decide, by decide +kernel⟩ rfl rfl (by decide) rfl (by decide) ⟨show _ ≤ 2048 by decide, show _ ≤ 84000 by decide⟩ ⟨show u + 3 + 0 + 0 ≤ 601024 by omega, show v + 8 * 3 + 8 * 0 + 8 * 0 ≤ 7293034 by omega⟩ rfl (ct_mThrown ?_)
  rw [h4]
  refine wg_iload eL_law_2663 rfl ?_
  refine wg_icmp_same eL_law_2665 ?_
  refine wg_iload eL_law_2670 rfl ?_
  refine wg_if_ne eL_law_2672 (fun _ => ?_) (fun c0 => ?_)
  · exact wg_goto eL_law_2687 (wg_widen (by omega) (by omega) (K M3 _ _ _ hK3))
  have e0 := ho (by omega)
  refine wg_aload_n eL_law_2675 rfl ?_
  refine wg_iconst eL_law_2676 ?_
  refine bg_lald (k := 51) (n := 1) (j := 0) (i := 0) eL_law_2677 (fun _ => rfl) (by decide) (by decide) (by decide) ?_
  rw [e0]
  refine wg_iload eL_law_2678 rfl ?_
  refine wg_i2l eL_law_2680 ?_
  refine wg_lcmp_same eL_law_2681 ?_
  refine wg_if_eq eL_law_2682 (fun _ => ?_) (fun h => absurd rfl h)
  exact wg_goto eL_law_2687 (wg_widen (by omega) (by omega) (K M3 _ _ _ hK3))
theorem lc_victim {G : bc_G} {b Ls : Nat} {xs : Nat → Int32} {j u v : Nat} {M : bc_M} {y6 y7 y8 : Option Value} (hK : KK M (j : Int)) (hj : 6 * (j : Int) + 5 < (Ls : Int)) (hL : Ls ≤ 3072) (hu : u + 5 ≤ 601024) (hv : v + 40 ≤ 7293034) (K : ∀ (M' : bc_M) (y6 y7 y8 : Option Value), KK M' ((j : Int) + 1) → bg_W G RL cL_law 9 ret room_1 (lw_T G b Ls xs) lw_E (u + 5) (v + 40) 3074 [some (.ref b), some (vR G 1 0), some (vR G 33 0), some (vR G 51 0), some (vR G 52 0), some (vI (6 * (j : Int))), y6, y7, y8] [] M') : bg_W G RL cL_law 9 ret room_1 (lw_T G b Ls xs) lw_E u v 2690 [some (.ref b), some (vR G 1 0), some (vR G 33 0), some (vR G 51 0), some (vR G 52 0), some (vI (6 * (j : Int))), y6, y7, y8] [] M := by
  refine wg_aload_n eL_law_2690 rfl ?_
  refine wg_aload_no eL_law_2691 rfl ?_
  refine wg_iload eL_law_2692 rfl ?_
  refine wg_iconst eL_law_2694 ?_
  refine wg_iadd eL_law_2695 ?_
  refine wg_sld eL_law_2696 ?_
  refine wg_aload_no eL_law_2697 rfl ?_
  refine wg_iload eL_law_2698 rfl ?_
  refine wg_iconst eL_law_2700 ?_
  refine wg_iadd eL_law_2701 ?_
  refine wg_sld eL_law_2702 ?_
  refine wg_aload_n eL_law_2703 rfl ?_
  refine bg_callSH (hh := [(0, 10, 13, 13), (0, 10, 17, 19)]) (n := 4) (As := [vR G 1 0, vI (sx xs (6 * (j : Int) + 1)), vI (sx xs (6 * (j : Int) + 2)), vR G 51 0]) (st := []) eL_law_2704 mw_1261 mw_1262 mw_104 mw_1263 ⟨by decide, by decide, by decide +kernel⟩ rfl (by decide) ⟨show _ ≤ 2048 by decide, show _ ≤ 84000 by decide⟩ ⟨show u + 3 ≤ 601024 by omega, show v + 8 * 3 ≤ 7293034 by omega⟩ rfl (bh_mono (hp_victim (st_victim sx_rng sx_rng hK (by omega))) (fun r M2 hr => ?_))
  obtain ⟨k, rfl, hk, hF⟩ := hr
  refine wg_istore eL_law_2707 rfl ?_
  refine wg_aload_n eL_law_2709 rfl ?_
  refine wg_aload_no eL_law_2710 rfl ?_
  refine wg_iload eL_law_2711 rfl ?_
  refine wg_iconst eL_law_2713 ?_
  refine wg_iadd eL_law_2714 ?_
  refine wg_sld eL_law_2715 ?_
  refine wg_aload_no eL_law_2716 rfl ?_
  refine wg_iload eL_law_2717 rfl ?_
  refine wg_iconst eL_law_2719 ?_
  refine wg_iadd eL_law_2720 ?_
  refine wg_sld eL_law_2721 ?_
  refine bg_callV (k := 33) (j := 0) (ci := 9) (n := 2) (As := [vI (sx xs (6 * (j : Int) + 1)), vI (sx xs (6 * (j : Int) + 2))]) (st := []) eL_law_2722 mw_1891 mw_1892 mw_1893 mw_114 mw_1894 ⟨rfl, by decide, by decide, by decide +kernel⟩ rfl rfl (by decide) rfl (by decide) ⟨show _ ≤ 2048 by decide, show _ ≤ 84000 by decide⟩ ⟨show u + 3 + 0 ≤ 601024 by omega, show v + 8 * 3 + 8 * 0 ≤ 7293034 by omega⟩ rfl (bc_mono hF (fun r M3 hr => ?_))
  obtain ⟨z, rfl, h4, ho, hK3⟩ := hr
  refine wg_istore eL_law_2725 rfl ?_
  refine wg_aload_n eL_law_2727 rfl ?_
  refine bg_callV (k := 33) (j := 0) (ci := 9) (n := 0) (As := []) (st := []) eL_law_2728 mw_1479 mw_1480 mw_1481 mw_114 mw_1482 ⟨rfl, by decide, by decide, by decide +kernel⟩ rfl rfl (by decide) rfl (by decide) ⟨show _ ≤ 2048 by decide, show _ ≤ 84000 by decide⟩ ⟨show u + 3 + 0 + 0 ≤ 601024 by omega, show v + 8 * 3 + 8 * 0 + 8 * 0 ≤ 7293034 by omega⟩ rfl (ct_mThrown ?_)
  rw [h4]
  refine wg_iload eL_law_2731 rfl ?_
  refine wg_icmp_same eL_law_2733 ?_
  refine wg_iload eL_law_2738 rfl ?_
  refine wg_if_ne eL_law_2740 (fun _ => ?_) (fun c0 => ?_)
  · exact wg_goto eL_law_2755 (wg_widen (by omega) (by omega) (K M3 _ _ _ hK3))
  have e0 := ho (by omega)
  refine wg_aload_n eL_law_2743 rfl ?_
  refine wg_iconst eL_law_2744 ?_
  refine bg_lald (k := 51) (n := 1) (j := 0) (i := 0) eL_law_2745 (fun _ => rfl) (by decide) (by decide) (by decide) ?_
  rw [e0]
  refine wg_iload eL_law_2746 rfl ?_
  refine wg_i2l eL_law_2748 ?_
  refine wg_lcmp_same eL_law_2749 ?_
  refine wg_if_eq eL_law_2750 (fun _ => ?_) (fun h => absurd rfl h)
  exact wg_goto eL_law_2755 (wg_widen (by omega) (by omega) (K M3 _ _ _ hK3))
theorem lc_soonest {G : bc_G} {b Ls : Nat} {xs : Nat → Int32} {j u v : Nat} {M : bc_M} {y6 y7 y8 : Option Value} (hK : KK M (j : Int)) (hj : 6 * (j : Int) + 5 < (Ls : Int)) (hL : Ls ≤ 3072) (hu : u + 5 ≤ 601024) (hv : v + 40 ≤ 7293034) (K : ∀ (M' : bc_M) (y6 y7 y8 : Option Value), KK M' ((j : Int) + 1) → bg_W G RL cL_law 9 ret room_1 (lw_T G b Ls xs) lw_E (u + 5) (v + 40) 3074 [some (.ref b), some (vR G 1 0), some (vR G 33 0), some (vR G 51 0), some (vR G 52 0), some (vI (6 * (j : Int))), y6, y7, y8] [] M') : bg_W G RL cL_law 9 ret room_1 (lw_T G b Ls xs) lw_E u v 2758 [some (.ref b), some (vR G 1 0), some (vR G 33 0), some (vR G 51 0), some (vR G 52 0), some (vI (6 * (j : Int))), y6, y7, y8] [] M := by
  refine wg_aload_n eL_law_2758 rfl ?_
  refine wg_aload_no eL_law_2759 rfl ?_
  refine wg_iload eL_law_2760 rfl ?_
  refine wg_iconst eL_law_2762 ?_
  refine wg_iadd eL_law_2763 ?_
  refine wg_sld eL_law_2764 ?_
  refine wg_aload_no eL_law_2765 rfl ?_
  refine wg_iload eL_law_2766 rfl ?_
  refine wg_iconst eL_law_2768 ?_
  refine wg_iadd eL_law_2769 ?_
  refine wg_sld eL_law_2770 ?_
  refine wg_aload_n eL_law_2771 rfl ?_
  refine bg_callSH (hh := [(0, 10, 13, 13), (0, 10, 17, 19)]) (n := 4) (As := [vR G 1 0, vI (sx xs (6 * (j : Int) + 1)), vI (sx xs (6 * (j : Int) + 2)), vR G 51 0]) (st := []) eL_law_2772 mw_1271 mw_1272 mw_104 mw_1273 ⟨by decide, by decide, by decide +kernel⟩ rfl (by decide) ⟨show _ ≤ 2048 by decide, show _ ≤ 84000 by decide⟩ ⟨show u + 4 ≤ 601024 by omega, show v + 8 * 4 ≤ 7293034 by omega⟩ rfl (bh_mono (hp_soonest (st_soonest sx_rng sx_rng hK (by omega))) (fun r M2 hr => ?_))
  obtain ⟨k, rfl, hk, hF⟩ := hr
  refine wg_istore eL_law_2775 rfl ?_
  refine wg_aload_n eL_law_2777 rfl ?_
  refine wg_aload_no eL_law_2778 rfl ?_
  refine wg_iload eL_law_2779 rfl ?_
  refine wg_iconst eL_law_2781 ?_
  refine wg_iadd eL_law_2782 ?_
  refine wg_sld eL_law_2783 ?_
  refine wg_aload_no eL_law_2784 rfl ?_
  refine wg_iload eL_law_2785 rfl ?_
  refine wg_iconst eL_law_2787 ?_
  refine wg_iadd eL_law_2788 ?_
  refine wg_sld eL_law_2789 ?_
  refine bg_callV (k := 33) (j := 0) (ci := 9) (n := 2) (As := [vI (sx xs (6 * (j : Int) + 1)), vI (sx xs (6 * (j : Int) + 2))]) (st := []) eL_law_2790 mw_1895 mw_1896 mw_1897 mw_114 mw_1898 ⟨rfl, by decide, by decide, by decide +kernel⟩ rfl rfl (by decide) rfl (by decide) ⟨show _ ≤ 2048 by decide, show _ ≤ 84000 by decide⟩ ⟨show u + 4 + 0 ≤ 601024 by omega, show v + 8 * 4 + 8 * 0 ≤ 7293034 by omega⟩ rfl (bc_mono hF (fun r M3 hr => ?_))
  obtain ⟨z, rfl, h4, ho, hK3⟩ := hr
  refine wg_istore eL_law_2793 rfl ?_
  refine wg_aload_n eL_law_2795 rfl ?_
  refine bg_callV (k := 33) (j := 0) (ci := 9) (n := 0) (As := []) (st := []) eL_law_2796 mw_1479 mw_1480 mw_1481 mw_114 mw_1482 ⟨rfl, by decide, by decide, by decide +kernel⟩ rfl rfl (by decide) rfl (by decide) ⟨show _ ≤ 2048 by decide, show _ ≤ 84000 by decide⟩ ⟨show u + 4 + 0 + 0 ≤ 601024 by omega, show v + 8 * 4 + 8 * 0 + 8 * 0 ≤ 7293034 by omega⟩ rfl (ct_mThrown ?_)
  rw [h4]
  refine wg_iload eL_law_2799 rfl ?_
  refine wg_icmp_same eL_law_2801 ?_
  refine wg_iload eL_law_2806 rfl ?_
  refine wg_if_ne eL_law_2808 (fun _ => ?_) (fun c0 => ?_)
  · exact wg_goto eL_law_2823 (wg_widen (by omega) (by omega) (K M3 _ _ _ hK3))
  have e0 := ho (by omega)
  refine wg_aload_n eL_law_2811 rfl ?_
  refine wg_iconst eL_law_2812 ?_
  refine bg_lald (k := 51) (n := 1) (j := 0) (i := 0) eL_law_2813 (fun _ => rfl) (by decide) (by decide) (by decide) ?_
  rw [e0]
  refine wg_iload eL_law_2814 rfl ?_
  refine wg_i2l eL_law_2816 ?_
  refine wg_lcmp_same eL_law_2817 ?_
  refine wg_if_eq eL_law_2818 (fun _ => ?_) (fun h => absurd rfl h)
  exact wg_goto eL_law_2823 (wg_widen (by omega) (by omega) (K M3 _ _ _ hK3))
theorem lc_hint {G : bc_G} {b Ls : Nat} {xs : Nat → Int32} {j u v : Nat} {M : bc_M} {y6 y7 y8 : Option Value} (hK : KK M (j : Int)) (hj : 6 * (j : Int) + 5 < (Ls : Int)) (hL : Ls ≤ 3072) (hu : u + 5 ≤ 601024) (hv : v + 40 ≤ 7293034) (K : ∀ (M' : bc_M) (y6 y7 y8 : Option Value), KK M' ((j : Int) + 1) → bg_W G RL cL_law 9 ret room_1 (lw_T G b Ls xs) lw_E (u + 5) (v + 40) 3074 [some (.ref b), some (vR G 1 0), some (vR G 33 0), some (vR G 51 0), some (vR G 52 0), some (vI (6 * (j : Int))), y6, y7, y8] [] M') : bg_W G RL cL_law 9 ret room_1 (lw_T G b Ls xs) lw_E u v 2826 [some (.ref b), some (vR G 1 0), some (vR G 33 0), some (vR G 51 0), some (vR G 52 0), some (vI (6 * (j : Int))), y6, y7, y8] [] M := by
  refine wg_aload_n eL_law_2826 rfl ?_
  refine wg_aload_no eL_law_2827 rfl ?_
  refine wg_iload eL_law_2828 rfl ?_
  refine wg_iconst eL_law_2830 ?_
  refine wg_iadd eL_law_2831 ?_
  refine wg_sld eL_law_2832 ?_
  refine wg_aload_n eL_law_2833 rfl ?_
  refine bg_callSH (hh := [(0, 9, 12, 13), (0, 9, 15, 19)]) (n := 3) (As := [vR G 1 0, vI (sx xs (6 * (j : Int) + 1)), vR G 51 0]) (st := []) eL_law_2834 mw_1286 mw_1287 mw_104 mw_1288 ⟨by decide, by decide, by decide +kernel⟩ rfl (by decide) ⟨show _ ≤ 2048 by decide, show _ ≤ 84000 by decide⟩ ⟨show u + 2 ≤ 601024 by omega, show v + 8 * 2 ≤ 7293034 by omega⟩ rfl (bh_mono (hp_hint (st_hint sx_rng hK (by omega))) (fun r M2 hr => ?_))
  obtain ⟨k, rfl, hk, hF⟩ := hr
  refine wg_istore eL_law_2837 rfl ?_
  refine wg_aload_n eL_law_2839 rfl ?_
  refine wg_aload_no eL_law_2840 rfl ?_
  refine wg_iload eL_law_2841 rfl ?_
  refine wg_iconst eL_law_2843 ?_
  refine wg_iadd eL_law_2844 ?_
  refine wg_sld eL_law_2845 ?_
  refine bg_callV (k := 33) (j := 0) (ci := 9) (n := 1) (As := [vI (sx xs (6 * (j : Int) + 1))]) (st := []) eL_law_2846 mw_1907 mw_1908 mw_1909 mw_114 mw_1910 ⟨rfl, by decide, by decide, by decide +kernel⟩ rfl rfl (by decide) rfl (by decide) ⟨show _ ≤ 2048 by decide, show _ ≤ 84000 by decide⟩ ⟨show u + 2 + 0 ≤ 601024 by omega, show v + 8 * 2 + 8 * 0 ≤ 7293034 by omega⟩ rfl (bc_mono hF (fun r M3 hr => ?_))
  obtain ⟨z, rfl, h4, ho, hK3⟩ := hr
  refine wg_istore eL_law_2849 rfl ?_
  refine wg_aload_n eL_law_2851 rfl ?_
  refine bg_callV (k := 33) (j := 0) (ci := 9) (n := 0) (As := []) (st := []) eL_law_2852 mw_1479 mw_1480 mw_1481 mw_114 mw_1482 ⟨rfl, by decide, by decide, by decide +kernel⟩ rfl rfl (by decide) rfl (by decide) ⟨show _ ≤ 2048 by decide, show _ ≤ 84000 by decide⟩ ⟨show u + 2 + 0 + 0 ≤ 601024 by omega, show v + 8 * 2 + 8 * 0 + 8 * 0 ≤ 7293034 by omega⟩ rfl (ct_mThrown ?_)
  rw [h4]
  refine wg_iload eL_law_2855 rfl ?_
  refine wg_icmp_same eL_law_2857 ?_
  refine wg_iload eL_law_2862 rfl ?_
  refine wg_if_ne eL_law_2864 (fun _ => ?_) (fun c0 => ?_)
  · exact wg_goto eL_law_2879 (wg_widen (by omega) (by omega) (K M3 _ _ _ hK3))
  have e0 := ho (by omega)
  refine wg_aload_n eL_law_2867 rfl ?_
  refine wg_iconst eL_law_2868 ?_
  refine bg_lald (k := 51) (n := 1) (j := 0) (i := 0) eL_law_2869 (fun _ => rfl) (by decide) (by decide) (by decide) ?_
  rw [e0]
  refine wg_iload eL_law_2870 rfl ?_
  refine wg_i2l eL_law_2872 ?_
  refine wg_lcmp_same eL_law_2873 ?_
  refine wg_if_eq eL_law_2874 (fun _ => ?_) (fun h => absurd rfl h)
  exact wg_goto eL_law_2879 (wg_widen (by omega) (by omega) (K M3 _ _ _ hK3))
theorem lc_planTime {G : bc_G} {b Ls : Nat} {xs : Nat → Int32} {j u v : Nat} {M : bc_M} {y6 y7 y8 : Option Value} (hK : KK M (j : Int)) (hj : 6 * (j : Int) + 5 < (Ls : Int)) (hL : Ls ≤ 3072) (hu : u + 5 ≤ 601024) (hv : v + 40 ≤ 7293034) (K : ∀ (M' : bc_M) (y6 y7 y8 : Option Value), KK M' ((j : Int) + 1) → bg_W G RL cL_law 9 ret room_1 (lw_T G b Ls xs) lw_E (u + 5) (v + 40) 3074 [some (.ref b), some (vR G 1 0), some (vR G 33 0), some (vR G 51 0), some (vR G 52 0), some (vI (6 * (j : Int))), y6, y7, y8] [] M') : bg_W G RL cL_law 9 ret room_1 (lw_T G b Ls xs) lw_E u v 2882 [some (.ref b), some (vR G 1 0), some (vR G 33 0), some (vR G 51 0), some (vR G 52 0), some (vI (6 * (j : Int))), y6, y7, y8] [] M := by
  refine wg_aload_n eL_law_2882 rfl ?_
  refine wg_aload_no eL_law_2883 rfl ?_
  refine wg_iload eL_law_2884 rfl ?_
  refine wg_iconst eL_law_2886 ?_
  refine wg_iadd eL_law_2887 ?_
  refine wg_sld eL_law_2888 ?_
  refine wg_aload_no eL_law_2889 rfl ?_
  refine wg_iload eL_law_2890 rfl ?_
  refine wg_iconst eL_law_2892 ?_
  refine wg_iadd eL_law_2893 ?_
  refine wg_sld eL_law_2894 ?_
  refine wg_aload_n eL_law_2895 rfl ?_
  refine bg_callSH (hh := [(0, 10, 13, 13), (0, 10, 17, 19)]) (n := 4) (As := [vR G 1 0, vI (sx xs (6 * (j : Int) + 1)), vI (sx xs (6 * (j : Int) + 2)), vR G 51 0]) (st := []) eL_law_2896 mw_1293 mw_1294 mw_104 mw_1295 ⟨by decide, by decide, by decide +kernel⟩ rfl (by decide) ⟨show _ ≤ 2048 by decide, show _ ≤ 84000 by decide⟩ ⟨show u + 4 ≤ 601024 by omega, show v + 8 * 4 ≤ 7293034 by omega⟩ rfl (bh_mono (hp_planTime (st_planTime sx_rng sx_rng hK (by omega))) (fun r M2 hr => ?_))
  obtain ⟨k, rfl, hk, hF⟩ := hr
  refine wg_istore eL_law_2899 rfl ?_
  refine wg_aload_n eL_law_2901 rfl ?_
  refine wg_aload_no eL_law_2902 rfl ?_
  refine wg_iload eL_law_2903 rfl ?_
  refine wg_iconst eL_law_2905 ?_
  refine wg_iadd eL_law_2906 ?_
  refine wg_sld eL_law_2907 ?_
  refine wg_aload_no eL_law_2908 rfl ?_
  refine wg_iload eL_law_2909 rfl ?_
  refine wg_iconst eL_law_2911 ?_
  refine wg_iadd eL_law_2912 ?_
  refine wg_sld eL_law_2913 ?_
  refine bg_callV (k := 33) (j := 0) (ci := 9) (n := 2) (As := [vI (sx xs (6 * (j : Int) + 1)), vI (sx xs (6 * (j : Int) + 2))]) (st := []) eL_law_2914 mw_1911 mw_1912 mw_1913 mw_114 mw_1914 ⟨rfl, by decide, by decide, by decide +kernel⟩ rfl rfl (by decide) rfl (by decide) ⟨show _ ≤ 2048 by decide, show _ ≤ 84000 by decide⟩ ⟨show u + 4 + 0 ≤ 601024 by omega, show v + 8 * 4 + 8 * 0 ≤ 7293034 by omega⟩ rfl (bc_mono hF (fun r M3 hr => ?_))
  obtain ⟨z, rfl, h4, ho, hK3⟩ := hr
  refine wg_istore eL_law_2917 rfl ?_
  refine wg_aload_n eL_law_2919 rfl ?_
  refine bg_callV (k := 33) (j := 0) (ci := 9) (n := 0) (As := []) (st := []) eL_law_2920 mw_1479 mw_1480 mw_1481 mw_114 mw_1482 ⟨rfl, by decide, by decide, by decide +kernel⟩ rfl rfl (by decide) rfl (by decide) ⟨show _ ≤ 2048 by decide, show _ ≤ 84000 by decide⟩ ⟨show u + 4 + 0 + 0 ≤ 601024 by omega, show v + 8 * 4 + 8 * 0 + 8 * 0 ≤ 7293034 by omega⟩ rfl (ct_mThrown ?_)
  rw [h4]
  refine wg_iload eL_law_2923 rfl ?_
  refine wg_icmp_same eL_law_2925 ?_
  refine wg_iload eL_law_2930 rfl ?_
  refine wg_if_ne eL_law_2932 (fun _ => ?_) (fun c0 => ?_)
  · exact wg_goto eL_law_2947 (wg_widen (by omega) (by omega) (K M3 _ _ _ hK3))
  have e0 := ho (by omega)
  refine wg_aload_n eL_law_2935 rfl ?_
  refine wg_iconst eL_law_2936 ?_
  refine bg_lald (k := 51) (n := 1) (j := 0) (i := 0) eL_law_2937 (fun _ => rfl) (by decide) (by decide) (by decide) ?_
  rw [e0]
  refine wg_iload eL_law_2938 rfl ?_
  refine wg_i2l eL_law_2940 ?_
  refine wg_lcmp_same eL_law_2941 ?_
  refine wg_if_eq eL_law_2942 (fun _ => ?_) (fun h => absurd rfl h)
  exact wg_goto eL_law_2947 (wg_widen (by omega) (by omega) (K M3 _ _ _ hK3))
theorem lc_planItem {G : bc_G} {b Ls : Nat} {xs : Nat → Int32} {j u v : Nat} {M : bc_M} {y6 y7 y8 : Option Value} (hK : KK M (j : Int)) (hj : 6 * (j : Int) + 5 < (Ls : Int)) (hL : Ls ≤ 3072) (hu : u + 5 ≤ 601024) (hv : v + 40 ≤ 7293034) (K : ∀ (M' : bc_M) (y6 y7 y8 : Option Value), KK M' ((j : Int) + 1) → bg_W G RL cL_law 9 ret room_1 (lw_T G b Ls xs) lw_E (u + 5) (v + 40) 3074 [some (.ref b), some (vR G 1 0), some (vR G 33 0), some (vR G 51 0), some (vR G 52 0), some (vI (6 * (j : Int))), y6, y7, y8] [] M') : bg_W G RL cL_law 9 ret room_1 (lw_T G b Ls xs) lw_E u v 2950 [some (.ref b), some (vR G 1 0), some (vR G 33 0), some (vR G 51 0), some (vR G 52 0), some (vI (6 * (j : Int))), y6, y7, y8] [] M := by
  refine wg_aload_n eL_law_2950 rfl ?_
  refine wg_aload_no eL_law_2951 rfl ?_
  refine wg_iload eL_law_2952 rfl ?_
  refine wg_iconst eL_law_2954 ?_
  refine wg_iadd eL_law_2955 ?_
  refine wg_sld eL_law_2956 ?_
  refine wg_aload_no eL_law_2957 rfl ?_
  refine wg_iload eL_law_2958 rfl ?_
  refine wg_iconst eL_law_2960 ?_
  refine wg_iadd eL_law_2961 ?_
  refine wg_sld eL_law_2962 ?_
  refine wg_aload_no eL_law_2963 rfl ?_
  refine wg_iload eL_law_2964 rfl ?_
  refine wg_iconst eL_law_2966 ?_
  refine wg_iadd eL_law_2967 ?_
  refine wg_sld eL_law_2968 ?_
  refine wg_aload_n eL_law_2969 rfl ?_
  refine bg_callSH (hh := [(0, 12, 15, 13), (0, 12, 19, 19)]) (n := 5) (As := [vR G 1 0, vI (sx xs (6 * (j : Int) + 1)), vI (sx xs (6 * (j : Int) + 2)), vI (sx xs (6 * (j : Int) + 3)), vR G 51 0]) (st := []) eL_law_2970 mw_1328 mw_1329 mw_104 mw_1330 ⟨by decide, by decide, by decide +kernel⟩ rfl (by decide) ⟨show _ ≤ 2048 by decide, show _ ≤ 84000 by decide⟩ ⟨show u + 5 ≤ 601024 by omega, show v + 8 * 5 ≤ 7293034 by omega⟩ rfl (bh_mono (hp_planItem (st_planItem sx_rng sx_rng sx_rng hK (by omega))) (fun r M2 hr => ?_))
  obtain ⟨k, rfl, hk, hF⟩ := hr
  refine wg_istore eL_law_2973 rfl ?_
  refine wg_aload_n eL_law_2975 rfl ?_
  refine wg_aload_no eL_law_2976 rfl ?_
  refine wg_iload eL_law_2977 rfl ?_
  refine wg_iconst eL_law_2979 ?_
  refine wg_iadd eL_law_2980 ?_
  refine wg_sld eL_law_2981 ?_
  refine wg_aload_no eL_law_2982 rfl ?_
  refine wg_iload eL_law_2983 rfl ?_
  refine wg_iconst eL_law_2985 ?_
  refine wg_iadd eL_law_2986 ?_
  refine wg_sld eL_law_2987 ?_
  refine wg_aload_no eL_law_2988 rfl ?_
  refine wg_iload eL_law_2989 rfl ?_
  refine wg_iconst eL_law_2991 ?_
  refine wg_iadd eL_law_2992 ?_
  refine wg_sld eL_law_2993 ?_
  refine bg_callV (k := 33) (j := 0) (ci := 9) (n := 3) (As := [vI (sx xs (6 * (j : Int) + 1)), vI (sx xs (6 * (j : Int) + 2)), vI (sx xs (6 * (j : Int) + 3))]) (st := []) eL_law_2994 mw_1927 mw_1928 mw_1929 mw_114 mw_1930 ⟨rfl, by decide, by decide, by decide +kernel⟩ rfl rfl (by decide) rfl (by decide) ⟨show _ ≤ 2048 by decide, show _ ≤ 84000 by decide⟩ ⟨show u + 5 + 0 ≤ 601024 by omega, show v + 8 * 5 + 8 * 0 ≤ 7293034 by omega⟩ rfl (bc_mono hF (fun r M3 hr => ?_))
  obtain ⟨z, rfl, h4, ho, hK3⟩ := hr
  refine wg_istore eL_law_2997 rfl ?_
  refine wg_aload_n eL_law_2999 rfl ?_
  refine bg_callV (k := 33) (j := 0) (ci := 9) (n := 0) (As := []) (st := []) eL_law_3000 mw_1479 mw_1480 mw_1481 mw_114 mw_1482 ⟨rfl, by decide, by decide, by decide +kernel⟩ rfl rfl (by decide) rfl (by decide) ⟨show _ ≤ 2048 by decide, show _ ≤ 84000 by decide⟩ ⟨show u + 5 + 0 + 0 ≤ 601024 by omega, show v + 8 * 5 + 8 * 0 + 8 * 0 ≤ 7293034 by omega⟩ rfl (ct_mThrown ?_)
  rw [h4]
  refine wg_iload eL_law_3003 rfl ?_
  refine wg_icmp_same eL_law_3005 ?_
  refine wg_iload eL_law_3010 rfl ?_
  refine wg_if_ne eL_law_3012 (fun _ => ?_) (fun c0 => ?_)
  · exact wg_goto eL_law_3027 (wg_widen (by omega) (by omega) (K M3 _ _ _ hK3))
  have e0 := ho (by omega)
  refine wg_aload_n eL_law_3015 rfl ?_
  refine wg_iconst eL_law_3016 ?_
  refine bg_lald (k := 51) (n := 1) (j := 0) (i := 0) eL_law_3017 (fun _ => rfl) (by decide) (by decide) (by decide) ?_
  rw [e0]
  refine wg_iload eL_law_3018 rfl ?_
  refine wg_i2l eL_law_3020 ?_
  refine wg_lcmp_same eL_law_3021 ?_
  refine wg_if_eq eL_law_3022 (fun _ => ?_) (fun h => absurd rfl h)
  exact wg_goto eL_law_3027 (wg_widen (by omega) (by omega) (K M3 _ _ _ hK3))
theorem lc_undo {G : bc_G} {b Ls : Nat} {xs : Nat → Int32} {j u v : Nat} {M : bc_M} {y6 y7 y8 : Option Value} (hK : KK M (j : Int)) (hj : 6 * (j : Int) + 5 < (Ls : Int)) (hL : Ls ≤ 3072) (hu : u + 5 ≤ 601024) (hv : v + 40 ≤ 7293034) (K : ∀ (M' : bc_M) (y6 y7 y8 : Option Value), KK M' ((j : Int) + 1) → bg_W G RL cL_law 9 ret room_1 (lw_T G b Ls xs) lw_E (u + 5) (v + 40) 3074 [some (.ref b), some (vR G 1 0), some (vR G 33 0), some (vR G 51 0), some (vR G 52 0), some (vI (6 * (j : Int))), y6, y7, y8] [] M') : bg_W G RL cL_law 9 ret room_1 (lw_T G b Ls xs) lw_E u v 3030 [some (.ref b), some (vR G 1 0), some (vR G 33 0), some (vR G 51 0), some (vR G 52 0), some (vI (6 * (j : Int))), y6, y7, y8] [] M := by
  refine wg_aload_n eL_law_3030 rfl ?_
  refine wg_aload_n eL_law_3031 rfl ?_
  refine bg_callSH (hh := [(0, 8, 11, 13)]) (n := 2) (As := [vR G 1 0, vR G 51 0]) (st := []) eL_law_3032 mw_1335 mw_1336 mw_104 mw_1337 ⟨by decide, by decide, by decide +kernel⟩ rfl (by decide) ⟨show _ ≤ 2048 by decide, show _ ≤ 84000 by decide⟩ ⟨show u + 1 ≤ 601024 by omega, show v + 8 * 1 ≤ 7293034 by omega⟩ rfl (bh_mono (hp_undo (st_undo  hK (by omega))) (fun r M2 hr => ?_))
  obtain ⟨k, rfl, hk, hF⟩ := hr
  refine wg_istore eL_law_3035 rfl ?_
  refine wg_aload_n eL_law_3037 rfl ?_
  refine bg_callV (k := 33) (j := 0) (ci := 9) (n := 0) (As := []) (st := []) eL_law_3038 mw_1575 mw_1576 mw_1577 mw_114 mw_1578 ⟨rfl, by decide, by decide, by decide +kernel⟩ rfl rfl (by decide) rfl (by decide) ⟨show _ ≤ 2048 by decide, show _ ≤ 84000 by decide⟩ ⟨show u + 1 + 0 ≤ 601024 by omega, show v + 8 * 1 + 8 * 0 ≤ 7293034 by omega⟩ rfl (bc_mono hF (fun r M3 hr => ?_))
  obtain ⟨z, rfl, h4, ho, hK3⟩ := hr
  refine wg_istore eL_law_3041 rfl ?_
  refine wg_aload_n eL_law_3043 rfl ?_
  refine bg_callV (k := 33) (j := 0) (ci := 9) (n := 0) (As := []) (st := []) eL_law_3044 mw_1479 mw_1480 mw_1481 mw_114 mw_1482 ⟨rfl, by decide, by decide, by decide +kernel⟩ rfl rfl (by decide) rfl (by decide) ⟨show _ ≤ 2048 by decide, show _ ≤ 84000 by decide⟩ ⟨show u + 1 + 0 + 0 ≤ 601024 by omega, show v + 8 * 1 + 8 * 0 + 8 * 0 ≤ 7293034 by omega⟩ rfl (ct_mThrown ?_)
  rw [h4]
  refine wg_iload eL_law_3047 rfl ?_
  refine wg_icmp_same eL_law_3049 ?_
  refine wg_iload eL_law_3054 rfl ?_
  refine wg_if_ne eL_law_3056 (fun _ => ?_) (fun c0 => ?_)
  · exact wg_goto eL_law_3071 (wg_widen (by omega) (by omega) (K M3 _ _ _ hK3))
  have e0 := ho (by omega)
  refine wg_aload_n eL_law_3059 rfl ?_
  refine wg_iconst eL_law_3060 ?_
  refine bg_lald (k := 51) (n := 1) (j := 0) (i := 0) eL_law_3061 (fun _ => rfl) (by decide) (by decide) (by decide) ?_
  rw [e0]
  refine wg_iload eL_law_3062 rfl ?_
  refine wg_i2l eL_law_3064 ?_
  refine wg_lcmp_same eL_law_3065 ?_
  refine wg_if_eq eL_law_3066 (fun _ => ?_) (fun h => absurd rfl h)
  exact wg_goto eL_law_3071 (wg_widen (by omega) (by omega) (K M3 _ _ _ hK3))
