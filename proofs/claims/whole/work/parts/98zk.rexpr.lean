/-! BRACKETS of the reference: ways -/
theorem dc_316_301 : decode (sm_cc 316) 301 = .ok (.goto (8), 3) := by decide +kernel
theorem dc_316_309 : decode (sm_cc 316) 309 = .ok (.aload_n 0, 1) := by decide +kernel
theorem dc_316_310 : decode (sm_cc 316) 310 = .ok (.bipush (40), 2) := by decide +kernel
theorem dc_316_312 : decode (sm_cc 316) 312 = .ok (.invokevirtual 199, 3) := by decide +kernel
theorem kr_316_199 : sm_at mt_k (sm_ow 316) 199 = some (199, 0, 314, 0, 2514) := by decide +kernel
theorem dc_316_315 : decode (sm_cc 316) 315 = .ok (.ifCond .eq (52), 3) := by decide +kernel
theorem dc_316_318 : decode (sm_cc 316) 318 = .ok (.iload_n 1, 1) := by decide +kernel
theorem dc_316_319 : decode (sm_cc 316) 319 = .ok (.bipush (12), 2) := by decide +kernel
theorem dc_316_321 : decode (sm_cc 316) 321 = .ok (.if_icmp .ne (8), 3) := by decide +kernel
theorem dc_316_324 : decode (sm_cc 316) 324 = .ok (.aload_n 0, 1) := by decide +kernel
theorem dc_316_325 : decode (sm_cc 316) 325 = .ok (.invokevirtual 202, 3) := by decide +kernel
theorem dc_316_328 : decode (sm_cc 316) 328 = .ok (.ireturn, 1) := by decide +kernel
theorem dc_316_329 : decode (sm_cc 316) 329 = .ok (.aload_n 0, 1) := by decide +kernel
theorem dc_316_330 : decode (sm_cc 316) 330 = .ok (.dup, 1) := by decide +kernel
theorem dc_316_331 : decode (sm_cc 316) 331 = .ok (.getfield 190, 3) := by decide +kernel
theorem dc_316_334 : decode (sm_cc 316) 334 = .ok (.iconst 1, 1) := by decide +kernel
theorem dc_316_335 : decode (sm_cc 316) 335 = .ok (.iadd, 1) := by decide +kernel
theorem dc_316_336 : decode (sm_cc 316) 336 = .ok (.putfield 190, 3) := by decide +kernel
theorem dc_316_339 : decode (sm_cc 316) 339 = .ok (.aload_n 0, 1) := by decide +kernel
theorem dc_316_340 : decode (sm_cc 316) 340 = .ok (.iload_n 1, 1) := by decide +kernel
theorem dc_316_341 : decode (sm_cc 316) 341 = .ok (.iconst 1, 1) := by decide +kernel
theorem dc_316_342 : decode (sm_cc 316) 342 = .ok (.iadd, 1) := by decide +kernel
theorem dc_316_343 : decode (sm_cc 316) 343 = .ok (.invokevirtual 302, 3) := by decide +kernel
theorem kr_316_302 : sm_at mt_k (sm_ow 316) 302 = some (302, 0, 306, 0, 2482) := by decide +kernel
theorem dc_316_346 : decode (sm_cc 316) 346 = .ok (.ifCond .eq (12), 3) := by decide +kernel
theorem dc_316_358 : decode (sm_cc 316) 358 = .ok (.iconst 0, 1) := by decide +kernel
theorem dc_316_359 : decode (sm_cc 316) 359 = .ok (.ireturn, 1) := by decide +kernel
theorem dc_316_349 : decode (sm_cc 316) 349 = .ok (.aload_n 0, 1) := by decide +kernel
theorem dc_316_350 : decode (sm_cc 316) 350 = .ok (.bipush (41), 2) := by decide +kernel
theorem dc_316_352 : decode (sm_cc 316) 352 = .ok (.invokevirtual 270, 3) := by decide +kernel
theorem kr_316_270 : sm_at mt_k (sm_ow 316) 270 = some (270, 0, 323, 0, 2551) := by decide +kernel
theorem dc_316_355 : decode (sm_cc 316) 355 = .ok (.ifCond .ne (5), 3) := by decide +kernel
theorem dc_316_360 : decode (sm_cc 316) 360 = .ok (.aload_n 0, 1) := by decide +kernel
theorem dc_316_361 : decode (sm_cc 316) 361 = .ok (.iconst 0, 1) := by decide +kernel
theorem dc_316_362 : decode (sm_cc 316) 362 = .ok (.putfield 397, 3) := by decide +kernel
theorem dc_316_365 : decode (sm_cc 316) 365 = .ok (.iconst 1, 1) := by decide +kernel
theorem dc_316_366 : decode (sm_cc 316) 366 = .ok (.ireturn, 1) := by decide +kernel
theorem dc_316_367 : decode (sm_cc 316) 367 = .ok (.aload_n 0, 1) := by decide +kernel
theorem dc_316_368 : decode (sm_cc 316) 368 = .ok (.bipush (123), 2) := by decide +kernel
theorem dc_316_370 : decode (sm_cc 316) 370 = .ok (.invokevirtual 199, 3) := by decide +kernel
theorem dc_316_373 : decode (sm_cc 316) 373 = .ok (.istore_n 2, 1) := by decide +kernel
theorem dc_316_374 : decode (sm_cc 316) 374 = .ok (.iload_n 2, 1) := by decide +kernel
theorem dc_316_375 : decode (sm_cc 316) 375 = .ok (.ifCond .ne (17), 3) := by decide +kernel
theorem dc_316_392 : decode (sm_cc 316) 392 = .ok (.aload_n 0, 1) := by decide +kernel
theorem dc_316_393 : decode (sm_cc 316) 393 = .ok (.iload_n 1, 1) := by decide +kernel
theorem dc_316_394 : decode (sm_cc 316) 394 = .ok (.iload_n 2, 1) := by decide +kernel
theorem dc_316_395 : decode (sm_cc 316) 395 = .ok (.ifCond .eq (8), 3) := by decide +kernel
theorem dc_316_398 : decode (sm_cc 316) 398 = .ok (.bipush (125), 2) := by decide +kernel
theorem dc_316_400 : decode (sm_cc 316) 400 = .ok (.goto (5), 3) := by decide +kernel
theorem dc_316_405 : decode (sm_cc 316) 405 = .ok (.iload_n 2, 1) := by decide +kernel
theorem dc_316_406 : decode (sm_cc 316) 406 = .ok (.ifCond .eq (8), 3) := by decide +kernel
theorem dc_316_409 : decode (sm_cc 316) 409 = .ok (.bipush (20), 2) := by decide +kernel
theorem dc_316_411 : decode (sm_cc 316) 411 = .ok (.goto (5), 3) := by decide +kernel
theorem dc_316_416 : decode (sm_cc 316) 416 = .ok (.iload_n 2, 1) := by decide +kernel
theorem dc_316_417 : decode (sm_cc 316) 417 = .ok (.invokevirtual 421, 3) := by decide +kernel
theorem kr_316_421 : sm_at mt_k (sm_ow 316) 421 = some (421, 0, 324, 0, 2555) := by decide +kernel
theorem dc_316_420 : decode (sm_cc 316) 420 = .ok (.istore_n 3, 1) := by decide +kernel
theorem dc_316_421 : decode (sm_cc 316) 421 = .ok (.iload_n 3, 1) := by decide +kernel
theorem dc_316_422 : decode (sm_cc 316) 422 = .ok (.ifCond .ge (5), 3) := by decide +kernel
theorem dc_316_425 : decode (sm_cc 316) 425 = .ok (.iconst 0, 1) := by decide +kernel
theorem dc_316_426 : decode (sm_cc 316) 426 = .ok (.ireturn, 1) := by decide +kernel
theorem dc_316_427 : decode (sm_cc 316) 427 = .ok (.aload_n 0, 1) := by decide +kernel
theorem dc_316_428 : decode (sm_cc 316) 428 = .ok (.iload_n 2, 1) := by decide +kernel
theorem dc_316_429 : decode (sm_cc 316) 429 = .ok (.ifCond .eq (8), 3) := by decide +kernel
theorem dc_316_432 : decode (sm_cc 316) 432 = .ok (.bipush (19), 2) := by decide +kernel
theorem dc_316_434 : decode (sm_cc 316) 434 = .ok (.goto (5), 3) := by decide +kernel
theorem dc_316_439 : decode (sm_cc 316) 439 = .ok (.iload_n 3, 1) := by decide +kernel
theorem dc_316_440 : decode (sm_cc 316) 440 = .ok (.invokevirtual 216, 3) := by decide +kernel
theorem dc_316_443 : decode (sm_cc 316) 443 = .ok (.aload_n 0, 1) := by decide +kernel
theorem dc_316_444 : decode (sm_cc 316) 444 = .ok (.iconst 0, 1) := by decide +kernel
theorem dc_316_445 : decode (sm_cc 316) 445 = .ok (.putfield 397, 3) := by decide +kernel
theorem dc_316_448 : decode (sm_cc 316) 448 = .ok (.iconst 1, 1) := by decide +kernel
theorem dc_316_449 : decode (sm_cc 316) 449 = .ok (.ireturn, 1) := by decide +kernel
theorem dc_316_378 : decode (sm_cc 316) 378 = .ok (.aload_n 0, 1) := by decide +kernel
theorem dc_316_379 : decode (sm_cc 316) 379 = .ok (.bipush (91), 2) := by decide +kernel
theorem dc_316_381 : decode (sm_cc 316) 381 = .ok (.invokevirtual 199, 3) := by decide +kernel
theorem dc_316_384 : decode (sm_cc 316) 384 = .ok (.ifCond .ne (8), 3) := by decide +kernel
theorem dc_316_403 : decode (sm_cc 316) 403 = .ok (.bipush (93), 2) := by decide +kernel
theorem dc_316_414 : decode (sm_cc 316) 414 = .ok (.bipush (40), 2) := by decide +kernel
theorem dc_316_437 : decode (sm_cc 316) 437 = .ok (.bipush (18), 2) := by decide +kernel
theorem dc_316_387 : decode (sm_cc 316) 387 = .ok (.aload_n 0, 1) := by decide +kernel
theorem dc_316_388 : decode (sm_cc 316) 388 = .ok (.invokevirtual 202, 3) := by decide +kernel
theorem dc_316_391 : decode (sm_cc 316) 391 = .ok (.ireturn, 1) := by decide +kernel
theorem ra_par_deep {d : Nat} {S : cS} {dp : Nat} {j : Nat} {S1 : cS} (hdp : dp ≤ 12) (ha : sI S 6115 = nI j) (hj : j < 6002) (hkd : sA S 67 j = nI 5) (hY40 : Ans (d + 8) 314 [.ref 61, .int (nI 40)] (wI 6131 (nI 0) S) (some (.int (nI 1))) (wI 6131 (nI 0) S)) (hd12 : dp = 12) (hB : Ans (d + 8) 299 [.ref 61] (wI 6131 (nI 0) S) (some (.int (nI 0))) S1) : Ans (d + 9) 316 [.ref 61, .int (nI dp)] S (some (.int 0)) (S1) := by
  refine Ans.of (by rw [ml_316]; exact Nat.le_of_ble_eq_true rfl) ?_
  refine Bod.go dc_316_0 rfl ?_
  refine Bod.ic 0 (by decide) dc_316_1 ?_
  refine Bod.put dc_316_2 fr_316_397 (mk_61 _) (Nat.le_of_ble_eq_true rfl) pf_14_31 (st_6131 _ _) (mu_I _ _ _) ?_
  refine Bod.go dc_316_5 rfl ?_
  refine Bod.get dc_316_6 fr_316_129 (mk_61 _) rfl ?_
  refine Bod.go dc_316_9 rfl ?_
  refine Bod.get dc_316_10 fr_316_190 (mk_61 _) rfl ?_
  refine Bod.eqI (nI j) (by first | (simp (disch := omega) only [rI, rIe, rA, rIA, rLA, rJA, rVI, rQI, rVA, rQA, upd_at,  rAI, rLI, rJI, nI_add, pk_sub, kc_0, kc_1, kc_2, kc_3, kc_4, kc_5, reduceIte, Nat.reduceEqDiff, Nat.add_zero, rI_hold, rI_hold, rL_hold, ha, hkd]; done) | (simp (disch := omega) only [rI, rIe, rA, rIA, rLA, rJA, rVI, rQI, rVA, rQA, upd_at,  rAI, rLI, rJI, nI_add, pk_sub, kc_0, kc_1, kc_2, kc_3, kc_4, kc_5, reduceIte, Nat.reduceEqDiff, Nat.add_zero, rI_hold, rI_hold, rL_hold, ha, hkd]; exact congrArg nI (by omega))) ?_
  refine Bod.ialdN j rfl (by omega) (by omega) dc_316_13 (mk_67 _) ?_
  refine Bod.eqI (nI 5) (by first | (simp (disch := omega) only [rI, rIe, rA, rIA, rLA, rJA, rVI, rQI, rVA, rQA, upd_at,  rAI, rLI, rJI, nI_add, pk_sub, kc_0, kc_1, kc_2, kc_3, kc_4, kc_5, reduceIte, Nat.reduceEqDiff, Nat.add_zero, rI_hold, rI_hold, rL_hold, ha, hkd]; done) | (simp (disch := omega) only [rI, rIe, rA, rIA, rLA, rJA, rVI, rQI, rVA, rQA, upd_at,  rAI, rLI, rJI, nI_add, pk_sub, kc_0, kc_1, kc_2, kc_3, kc_4, kc_5, reduceIte, Nat.reduceEqDiff, Nat.add_zero, rI_hold, rI_hold, rL_hold, ha, hkd]; exact congrArg nI (by omega))) ?_
  refine Bod.sw (t := 301) dc_316_14 rfl rfl (by decide +kernel) ?_
  refine Bod.go dc_316_301 rfl ?_
  refine Bod.go dc_316_309 rfl ?_
  refine Bod.bip 40 (by decide) dc_316_310 ?_
  refine Bod.virt (r := []) dc_316_312 kr_316_199 ⟨Or.inl rfl, ow_314, cl_14⟩ (by rw [np_314]; rfl) (by rw [np_314]; rfl) (ob_of (mk_61 _)) (Nat.le_of_ble_eq_true rfl) (hY40  ) ?_
  show Bod _ _ _ _ [_] _ _ _
  refine Bod.ifF dc_316_315 rfl (k1_eq_F (k_ne 1 0 rfl rfl (by omega) (by omega) (by omega))) ?_
  refine Bod.go dc_316_318 rfl ?_
  refine Bod.bip 12 (by decide) dc_316_319 ?_
  refine Bod.icF dc_316_321 rfl (k2_ne_F (k_eq dp 12 rfl rfl (by omega))) ?_
  refine Bod.go dc_316_324 rfl ?_
  refine Bod.virt (r := []) dc_316_325 kr_316_202 ⟨Or.inl rfl, ow_299, cl_14⟩ (by rw [np_299]; rfl) (by rw [np_299]; rfl) (ob_of (mk_61 _)) (Nat.le_of_ble_eq_true rfl) (hB  ) ?_
  show Bod _ _ _ _ [_] _ _ _
  exact Bod.retZ dc_316_328 rt_316 (Or.inl rfl)
theorem ra_par_bad {d : Nat} {S : cS} {dp : Nat} {j : Nat} {S1 : cS} (hdp : dp ≤ 12) (ha : sI S 6115 = nI j) (hj : j < 6002) (hkd : sA S 67 j = nI 5) (hY40 : Ans (d + 8) 314 [.ref 61, .int (nI 40)] (wI 6131 (nI 0) S) (some (.int (nI 1))) (wI 6131 (nI 0) S)) (hd12 : dp < 12) (hD0 : Ans (d + 8) 306 [.ref 61, .int (nI (dp + 1))] (wI 6115 (nI (j + 1)) (wI 6131 (nI 0) S)) (some (.int (nI 0))) S1) : Ans (d + 9) 316 [.ref 61, .int (nI dp)] S (some (.int 0)) (S1) := by
  refine Ans.of (by rw [ml_316]; exact Nat.le_of_ble_eq_true rfl) ?_
  refine Bod.go dc_316_0 rfl ?_
  refine Bod.ic 0 (by decide) dc_316_1 ?_
  refine Bod.put dc_316_2 fr_316_397 (mk_61 _) (Nat.le_of_ble_eq_true rfl) pf_14_31 (st_6131 _ _) (mu_I _ _ _) ?_
  refine Bod.go dc_316_5 rfl ?_
  refine Bod.get dc_316_6 fr_316_129 (mk_61 _) rfl ?_
  refine Bod.go dc_316_9 rfl ?_
  refine Bod.get dc_316_10 fr_316_190 (mk_61 _) rfl ?_
  refine Bod.eqI (nI j) (by first | (simp (disch := omega) only [rI, rIe, rA, rIA, rLA, rJA, rVI, rQI, rVA, rQA, upd_at,  rAI, rLI, rJI, nI_add, pk_sub, kc_0, kc_1, kc_2, kc_3, kc_4, kc_5, reduceIte, Nat.reduceEqDiff, Nat.add_zero, rI_hold, rI_hold, rL_hold, ha, hkd]; done) | (simp (disch := omega) only [rI, rIe, rA, rIA, rLA, rJA, rVI, rQI, rVA, rQA, upd_at,  rAI, rLI, rJI, nI_add, pk_sub, kc_0, kc_1, kc_2, kc_3, kc_4, kc_5, reduceIte, Nat.reduceEqDiff, Nat.add_zero, rI_hold, rI_hold, rL_hold, ha, hkd]; exact congrArg nI (by omega))) ?_
  refine Bod.ialdN j rfl (by omega) (by omega) dc_316_13 (mk_67 _) ?_
  refine Bod.eqI (nI 5) (by first | (simp (disch := omega) only [rI, rIe, rA, rIA, rLA, rJA, rVI, rQI, rVA, rQA, upd_at,  rAI, rLI, rJI, nI_add, pk_sub, kc_0, kc_1, kc_2, kc_3, kc_4, kc_5, reduceIte, Nat.reduceEqDiff, Nat.add_zero, rI_hold, rI_hold, rL_hold, ha, hkd]; done) | (simp (disch := omega) only [rI, rIe, rA, rIA, rLA, rJA, rVI, rQI, rVA, rQA, upd_at,  rAI, rLI, rJI, nI_add, pk_sub, kc_0, kc_1, kc_2, kc_3, kc_4, kc_5, reduceIte, Nat.reduceEqDiff, Nat.add_zero, rI_hold, rI_hold, rL_hold, ha, hkd]; exact congrArg nI (by omega))) ?_
  refine Bod.sw (t := 301) dc_316_14 rfl rfl (by decide +kernel) ?_
  refine Bod.go dc_316_301 rfl ?_
  refine Bod.go dc_316_309 rfl ?_
  refine Bod.bip 40 (by decide) dc_316_310 ?_
  refine Bod.virt (r := []) dc_316_312 kr_316_199 ⟨Or.inl rfl, ow_314, cl_14⟩ (by rw [np_314]; rfl) (by rw [np_314]; rfl) (ob_of (mk_61 _)) (Nat.le_of_ble_eq_true rfl) (hY40  ) ?_
  show Bod _ _ _ _ [_] _ _ _
  refine Bod.ifF dc_316_315 rfl (k1_eq_F (k_ne 1 0 rfl rfl (by omega) (by omega) (by omega))) ?_
  refine Bod.go dc_316_318 rfl ?_
  refine Bod.bip 12 (by decide) dc_316_319 ?_
  refine Bod.icT dc_316_321 rfl (k2_ne_T (k_ne dp 12 rfl rfl (by omega) (by omega) (by omega))) ?_
  refine Bod.go dc_316_329 rfl ?_
  refine Bod.go dc_316_330 rfl ?_
  refine Bod.get dc_316_331 fr_316_190 (mk_61 _) rfl ?_
  refine Bod.eqI (nI j) (by first | (simp (disch := omega) only [rI, rIe, rA, rIA, rLA, rJA, rVI, rQI, rVA, rQA, upd_at,  rAI, rLI, rJI, nI_add, pk_sub, kc_0, kc_1, kc_2, kc_3, kc_4, kc_5, reduceIte, Nat.reduceEqDiff, Nat.add_zero, rI_hold, rI_hold, rL_hold, ha, hkd]; done) | (simp (disch := omega) only [rI, rIe, rA, rIA, rLA, rJA, rVI, rQI, rVA, rQA, upd_at,  rAI, rLI, rJI, nI_add, pk_sub, kc_0, kc_1, kc_2, kc_3, kc_4, kc_5, reduceIte, Nat.reduceEqDiff, Nat.add_zero, rI_hold, rI_hold, rL_hold, ha, hkd]; exact congrArg nI (by omega))) ?_
  refine Bod.ic 1 (by decide) dc_316_334 ?_
  refine Bod.addN (j + 1) (by omega) dc_316_335 ?_
  refine Bod.put dc_316_336 fr_316_190 (mk_61 _) (Nat.le_of_ble_eq_true rfl) pf_14_15 (st_6115 _ _) (mu_I _ _ _) ?_
  refine Bod.go dc_316_339 rfl ?_
  refine Bod.go dc_316_340 rfl ?_
  refine Bod.ic 1 (by decide) dc_316_341 ?_
  refine Bod.addN (dp + 1) (by omega) dc_316_342 ?_
  refine Bod.virt (r := []) dc_316_343 kr_316_302 ⟨Or.inl rfl, ow_306, cl_14⟩ (by rw [np_306]; rfl) (by rw [np_306]; rfl) (ob_of (mk_61 _)) (Nat.le_of_ble_eq_true rfl) (hD0  ) ?_
  show Bod _ _ _ _ [_] _ _ _
  refine Bod.ifT dc_316_346 rfl (k1_eq_T (k_eq 0 0 rfl rfl (by omega))) ?_
  refine Bod.ic 0 (by decide) dc_316_358 ?_
  exact Bod.retZ dc_316_359 rt_316 (Or.inl rfl)
theorem ra_par_no {d : Nat} {S : cS} {dp : Nat} {j : Nat} {S1 : cS} {S2 : cS} (hdp : dp ≤ 12) (ha : sI S 6115 = nI j) (hj : j < 6002) (hkd : sA S 67 j = nI 5) (hY40 : Ans (d + 8) 314 [.ref 61, .int (nI 40)] (wI 6131 (nI 0) S) (some (.int (nI 1))) (wI 6131 (nI 0) S)) (hd12 : dp < 12) (hD1 : Ans (d + 8) 306 [.ref 61, .int (nI (dp + 1))] (wI 6115 (nI (j + 1)) (wI 6131 (nI 0) S)) (some (.int (nI 1))) S1) (hT0 : Ans (d + 8) 323 [.ref 61, .int (nI 41)] S1 (some (.int (nI 0))) S2) : Ans (d + 9) 316 [.ref 61, .int (nI dp)] S (some (.int 0)) (S2) := by
  refine Ans.of (by rw [ml_316]; exact Nat.le_of_ble_eq_true rfl) ?_
  refine Bod.go dc_316_0 rfl ?_
  refine Bod.ic 0 (by decide) dc_316_1 ?_
  refine Bod.put dc_316_2 fr_316_397 (mk_61 _) (Nat.le_of_ble_eq_true rfl) pf_14_31 (st_6131 _ _) (mu_I _ _ _) ?_
  refine Bod.go dc_316_5 rfl ?_
  refine Bod.get dc_316_6 fr_316_129 (mk_61 _) rfl ?_
  refine Bod.go dc_316_9 rfl ?_
  refine Bod.get dc_316_10 fr_316_190 (mk_61 _) rfl ?_
  refine Bod.eqI (nI j) (by first | (simp (disch := omega) only [rI, rIe, rA, rIA, rLA, rJA, rVI, rQI, rVA, rQA, upd_at,  rAI, rLI, rJI, nI_add, pk_sub, kc_0, kc_1, kc_2, kc_3, kc_4, kc_5, reduceIte, Nat.reduceEqDiff, Nat.add_zero, rI_hold, rI_hold, rL_hold, ha, hkd]; done) | (simp (disch := omega) only [rI, rIe, rA, rIA, rLA, rJA, rVI, rQI, rVA, rQA, upd_at,  rAI, rLI, rJI, nI_add, pk_sub, kc_0, kc_1, kc_2, kc_3, kc_4, kc_5, reduceIte, Nat.reduceEqDiff, Nat.add_zero, rI_hold, rI_hold, rL_hold, ha, hkd]; exact congrArg nI (by omega))) ?_
  refine Bod.ialdN j rfl (by omega) (by omega) dc_316_13 (mk_67 _) ?_
  refine Bod.eqI (nI 5) (by first | (simp (disch := omega) only [rI, rIe, rA, rIA, rLA, rJA, rVI, rQI, rVA, rQA, upd_at,  rAI, rLI, rJI, nI_add, pk_sub, kc_0, kc_1, kc_2, kc_3, kc_4, kc_5, reduceIte, Nat.reduceEqDiff, Nat.add_zero, rI_hold, rI_hold, rL_hold, ha, hkd]; done) | (simp (disch := omega) only [rI, rIe, rA, rIA, rLA, rJA, rVI, rQI, rVA, rQA, upd_at,  rAI, rLI, rJI, nI_add, pk_sub, kc_0, kc_1, kc_2, kc_3, kc_4, kc_5, reduceIte, Nat.reduceEqDiff, Nat.add_zero, rI_hold, rI_hold, rL_hold, ha, hkd]; exact congrArg nI (by omega))) ?_
  refine Bod.sw (t := 301) dc_316_14 rfl rfl (by decide +kernel) ?_
  refine Bod.go dc_316_301 rfl ?_
  refine Bod.go dc_316_309 rfl ?_
  refine Bod.bip 40 (by decide) dc_316_310 ?_
  refine Bod.virt (r := []) dc_316_312 kr_316_199 ⟨Or.inl rfl, ow_314, cl_14⟩ (by rw [np_314]; rfl) (by rw [np_314]; rfl) (ob_of (mk_61 _)) (Nat.le_of_ble_eq_true rfl) (hY40  ) ?_
  show Bod _ _ _ _ [_] _ _ _
  refine Bod.ifF dc_316_315 rfl (k1_eq_F (k_ne 1 0 rfl rfl (by omega) (by omega) (by omega))) ?_
  refine Bod.go dc_316_318 rfl ?_
  refine Bod.bip 12 (by decide) dc_316_319 ?_
  refine Bod.icT dc_316_321 rfl (k2_ne_T (k_ne dp 12 rfl rfl (by omega) (by omega) (by omega))) ?_
  refine Bod.go dc_316_329 rfl ?_
  refine Bod.go dc_316_330 rfl ?_
  refine Bod.get dc_316_331 fr_316_190 (mk_61 _) rfl ?_
  refine Bod.eqI (nI j) (by first | (simp (disch := omega) only [rI, rIe, rA, rIA, rLA, rJA, rVI, rQI, rVA, rQA, upd_at,  rAI, rLI, rJI, nI_add, pk_sub, kc_0, kc_1, kc_2, kc_3, kc_4, kc_5, reduceIte, Nat.reduceEqDiff, Nat.add_zero, rI_hold, rI_hold, rL_hold, ha, hkd]; done) | (simp (disch := omega) only [rI, rIe, rA, rIA, rLA, rJA, rVI, rQI, rVA, rQA, upd_at,  rAI, rLI, rJI, nI_add, pk_sub, kc_0, kc_1, kc_2, kc_3, kc_4, kc_5, reduceIte, Nat.reduceEqDiff, Nat.add_zero, rI_hold, rI_hold, rL_hold, ha, hkd]; exact congrArg nI (by omega))) ?_
  refine Bod.ic 1 (by decide) dc_316_334 ?_
  refine Bod.addN (j + 1) (by omega) dc_316_335 ?_
  refine Bod.put dc_316_336 fr_316_190 (mk_61 _) (Nat.le_of_ble_eq_true rfl) pf_14_15 (st_6115 _ _) (mu_I _ _ _) ?_
  refine Bod.go dc_316_339 rfl ?_
  refine Bod.go dc_316_340 rfl ?_
  refine Bod.ic 1 (by decide) dc_316_341 ?_
  refine Bod.addN (dp + 1) (by omega) dc_316_342 ?_
  refine Bod.virt (r := []) dc_316_343 kr_316_302 ⟨Or.inl rfl, ow_306, cl_14⟩ (by rw [np_306]; rfl) (by rw [np_306]; rfl) (ob_of (mk_61 _)) (Nat.le_of_ble_eq_true rfl) (hD1  ) ?_
  show Bod _ _ _ _ [_] _ _ _
  refine Bod.ifF dc_316_346 rfl (k1_eq_F (k_ne 1 0 rfl rfl (by omega) (by omega) (by omega))) ?_
  refine Bod.go dc_316_349 rfl ?_
  refine Bod.bip 41 (by decide) dc_316_350 ?_
  refine Bod.virt (r := []) dc_316_352 kr_316_270 ⟨Or.inl rfl, ow_323, cl_14⟩ (by rw [np_323]; rfl) (by rw [np_323]; rfl) (ob_of (mk_61 _)) (Nat.le_of_ble_eq_true rfl) (hT0  ) ?_
  show Bod _ _ _ _ [_] _ _ _
  refine Bod.ifF dc_316_355 rfl (k1_ne_F (k_eq 0 0 rfl rfl (by omega))) ?_
  refine Bod.ic 0 (by decide) dc_316_358 ?_
  exact Bod.retZ dc_316_359 rt_316 (Or.inl rfl)
theorem ra_par_T {d : Nat} {S : cS} {dp : Nat} {j : Nat} {S1 : cS} {S2 : cS} (hdp : dp ≤ 12) (ha : sI S 6115 = nI j) (hj : j < 6002) (hkd : sA S 67 j = nI 5) (hY40 : Ans (d + 8) 314 [.ref 61, .int (nI 40)] (wI 6131 (nI 0) S) (some (.int (nI 1))) (wI 6131 (nI 0) S)) (hd12 : dp < 12) (hD1 : Ans (d + 8) 306 [.ref 61, .int (nI (dp + 1))] (wI 6115 (nI (j + 1)) (wI 6131 (nI 0) S)) (some (.int (nI 1))) S1) (hT1 : Ans (d + 8) 323 [.ref 61, .int (nI 41)] S1 (some (.int (nI 1))) S2) : Ans (d + 9) 316 [.ref 61, .int (nI dp)] S (some (.int 1)) (wI 6131 (nI 0) S2) := by
  refine Ans.of (by rw [ml_316]; exact Nat.le_of_ble_eq_true rfl) ?_
  refine Bod.go dc_316_0 rfl ?_
  refine Bod.ic 0 (by decide) dc_316_1 ?_
  refine Bod.put dc_316_2 fr_316_397 (mk_61 _) (Nat.le_of_ble_eq_true rfl) pf_14_31 (st_6131 _ _) (mu_I _ _ _) ?_
  refine Bod.go dc_316_5 rfl ?_
  refine Bod.get dc_316_6 fr_316_129 (mk_61 _) rfl ?_
  refine Bod.go dc_316_9 rfl ?_
  refine Bod.get dc_316_10 fr_316_190 (mk_61 _) rfl ?_
  refine Bod.eqI (nI j) (by first | (simp (disch := omega) only [rI, rIe, rA, rIA, rLA, rJA, rVI, rQI, rVA, rQA, upd_at,  rAI, rLI, rJI, nI_add, pk_sub, kc_0, kc_1, kc_2, kc_3, kc_4, kc_5, reduceIte, Nat.reduceEqDiff, Nat.add_zero, rI_hold, rI_hold, rL_hold, ha, hkd]; done) | (simp (disch := omega) only [rI, rIe, rA, rIA, rLA, rJA, rVI, rQI, rVA, rQA, upd_at,  rAI, rLI, rJI, nI_add, pk_sub, kc_0, kc_1, kc_2, kc_3, kc_4, kc_5, reduceIte, Nat.reduceEqDiff, Nat.add_zero, rI_hold, rI_hold, rL_hold, ha, hkd]; exact congrArg nI (by omega))) ?_
  refine Bod.ialdN j rfl (by omega) (by omega) dc_316_13 (mk_67 _) ?_
  refine Bod.eqI (nI 5) (by first | (simp (disch := omega) only [rI, rIe, rA, rIA, rLA, rJA, rVI, rQI, rVA, rQA, upd_at,  rAI, rLI, rJI, nI_add, pk_sub, kc_0, kc_1, kc_2, kc_3, kc_4, kc_5, reduceIte, Nat.reduceEqDiff, Nat.add_zero, rI_hold, rI_hold, rL_hold, ha, hkd]; done) | (simp (disch := omega) only [rI, rIe, rA, rIA, rLA, rJA, rVI, rQI, rVA, rQA, upd_at,  rAI, rLI, rJI, nI_add, pk_sub, kc_0, kc_1, kc_2, kc_3, kc_4, kc_5, reduceIte, Nat.reduceEqDiff, Nat.add_zero, rI_hold, rI_hold, rL_hold, ha, hkd]; exact congrArg nI (by omega))) ?_
  refine Bod.sw (t := 301) dc_316_14 rfl rfl (by decide +kernel) ?_
  refine Bod.go dc_316_301 rfl ?_
  refine Bod.go dc_316_309 rfl ?_
  refine Bod.bip 40 (by decide) dc_316_310 ?_
  refine Bod.virt (r := []) dc_316_312 kr_316_199 ⟨Or.inl rfl, ow_314, cl_14⟩ (by rw [np_314]; rfl) (by rw [np_314]; rfl) (ob_of (mk_61 _)) (Nat.le_of_ble_eq_true rfl) (hY40  ) ?_
  show Bod _ _ _ _ [_] _ _ _
  refine Bod.ifF dc_316_315 rfl (k1_eq_F (k_ne 1 0 rfl rfl (by omega) (by omega) (by omega))) ?_
  refine Bod.go dc_316_318 rfl ?_
  refine Bod.bip 12 (by decide) dc_316_319 ?_
  refine Bod.icT dc_316_321 rfl (k2_ne_T (k_ne dp 12 rfl rfl (by omega) (by omega) (by omega))) ?_
  refine Bod.go dc_316_329 rfl ?_
  refine Bod.go dc_316_330 rfl ?_
  refine Bod.get dc_316_331 fr_316_190 (mk_61 _) rfl ?_
  refine Bod.eqI (nI j) (by first | (simp (disch := omega) only [rI, rIe, rA, rIA, rLA, rJA, rVI, rQI, rVA, rQA, upd_at,  rAI, rLI, rJI, nI_add, pk_sub, kc_0, kc_1, kc_2, kc_3, kc_4, kc_5, reduceIte, Nat.reduceEqDiff, Nat.add_zero, rI_hold, rI_hold, rL_hold, ha, hkd]; done) | (simp (disch := omega) only [rI, rIe, rA, rIA, rLA, rJA, rVI, rQI, rVA, rQA, upd_at,  rAI, rLI, rJI, nI_add, pk_sub, kc_0, kc_1, kc_2, kc_3, kc_4, kc_5, reduceIte, Nat.reduceEqDiff, Nat.add_zero, rI_hold, rI_hold, rL_hold, ha, hkd]; exact congrArg nI (by omega))) ?_
  refine Bod.ic 1 (by decide) dc_316_334 ?_
  refine Bod.addN (j + 1) (by omega) dc_316_335 ?_
  refine Bod.put dc_316_336 fr_316_190 (mk_61 _) (Nat.le_of_ble_eq_true rfl) pf_14_15 (st_6115 _ _) (mu_I _ _ _) ?_
  refine Bod.go dc_316_339 rfl ?_
  refine Bod.go dc_316_340 rfl ?_
  refine Bod.ic 1 (by decide) dc_316_341 ?_
  refine Bod.addN (dp + 1) (by omega) dc_316_342 ?_
  refine Bod.virt (r := []) dc_316_343 kr_316_302 ⟨Or.inl rfl, ow_306, cl_14⟩ (by rw [np_306]; rfl) (by rw [np_306]; rfl) (ob_of (mk_61 _)) (Nat.le_of_ble_eq_true rfl) (hD1  ) ?_
  show Bod _ _ _ _ [_] _ _ _
  refine Bod.ifF dc_316_346 rfl (k1_eq_F (k_ne 1 0 rfl rfl (by omega) (by omega) (by omega))) ?_
  refine Bod.go dc_316_349 rfl ?_
  refine Bod.bip 41 (by decide) dc_316_350 ?_
  refine Bod.virt (r := []) dc_316_352 kr_316_270 ⟨Or.inl rfl, ow_323, cl_14⟩ (by rw [np_323]; rfl) (by rw [np_323]; rfl) (ob_of (mk_61 _)) (Nat.le_of_ble_eq_true rfl) (hT1  ) ?_
  show Bod _ _ _ _ [_] _ _ _
  refine Bod.ifT dc_316_355 rfl (k1_ne_T (k_ne 1 0 rfl rfl (by omega) (by omega) (by omega))) ?_
  refine Bod.go dc_316_360 rfl ?_
  refine Bod.ic 0 (by decide) dc_316_361 ?_
  refine Bod.put dc_316_362 fr_316_397 (mk_61 _) (Nat.le_of_ble_eq_true rfl) pf_14_31 (st_6131 _ _) (mu_I _ _ _) ?_
  refine Bod.ic 1 (by decide) dc_316_365 ?_
  exact Bod.retZ dc_316_366 rt_316 (Or.inr rfl)
theorem ra_dict_no {d : Nat} {S : cS} {dp : Nat} {j : Nat} {S1 : cS} (hdp : dp ≤ 12) (ha : sI S 6115 = nI j) (hj : j < 6002) (hkd : sA S 67 j = nI 5) (hN40 : Ans (d + 8) 314 [.ref 61, .int (nI 40)] (wI 6131 (nI 0) S) (some (.int (nI 0))) (wI 6131 (nI 0) S)) (hY123 : Ans (d + 8) 314 [.ref 61, .int (nI 123)] (wI 6131 (nI 0) S) (some (.int (nI 1))) (wI 6131 (nI 0) S)) (hLn : Ans (d + 8) 324 [.ref 61, .int (nI dp), .int (nI 125), .int (nI 20), .int (nI 1)] (wI 6131 (nI 0) S) (some (.int (Int32.ofInt (-1)))) S1) : Ans (d + 9) 316 [.ref 61, .int (nI dp)] S (some (.int 0)) (S1) := by
  refine Ans.of (by rw [ml_316]; exact Nat.le_of_ble_eq_true rfl) ?_
  refine Bod.go dc_316_0 rfl ?_
  refine Bod.ic 0 (by decide) dc_316_1 ?_
  refine Bod.put dc_316_2 fr_316_397 (mk_61 _) (Nat.le_of_ble_eq_true rfl) pf_14_31 (st_6131 _ _) (mu_I _ _ _) ?_
  refine Bod.go dc_316_5 rfl ?_
  refine Bod.get dc_316_6 fr_316_129 (mk_61 _) rfl ?_
  refine Bod.go dc_316_9 rfl ?_
  refine Bod.get dc_316_10 fr_316_190 (mk_61 _) rfl ?_
  refine Bod.eqI (nI j) (by first | (simp (disch := omega) only [rI, rIe, rA, rIA, rLA, rJA, rVI, rQI, rVA, rQA, upd_at,  rAI, rLI, rJI, nI_add, pk_sub, kc_0, kc_1, kc_2, kc_3, kc_4, kc_5, reduceIte, Nat.reduceEqDiff, Nat.add_zero, rI_hold, rI_hold, rL_hold, ha, hkd]; done) | (simp (disch := omega) only [rI, rIe, rA, rIA, rLA, rJA, rVI, rQI, rVA, rQA, upd_at,  rAI, rLI, rJI, nI_add, pk_sub, kc_0, kc_1, kc_2, kc_3, kc_4, kc_5, reduceIte, Nat.reduceEqDiff, Nat.add_zero, rI_hold, rI_hold, rL_hold, ha, hkd]; exact congrArg nI (by omega))) ?_
  refine Bod.ialdN j rfl (by omega) (by omega) dc_316_13 (mk_67 _) ?_
  refine Bod.eqI (nI 5) (by first | (simp (disch := omega) only [rI, rIe, rA, rIA, rLA, rJA, rVI, rQI, rVA, rQA, upd_at,  rAI, rLI, rJI, nI_add, pk_sub, kc_0, kc_1, kc_2, kc_3, kc_4, kc_5, reduceIte, Nat.reduceEqDiff, Nat.add_zero, rI_hold, rI_hold, rL_hold, ha, hkd]; done) | (simp (disch := omega) only [rI, rIe, rA, rIA, rLA, rJA, rVI, rQI, rVA, rQA, upd_at,  rAI, rLI, rJI, nI_add, pk_sub, kc_0, kc_1, kc_2, kc_3, kc_4, kc_5, reduceIte, Nat.reduceEqDiff, Nat.add_zero, rI_hold, rI_hold, rL_hold, ha, hkd]; exact congrArg nI (by omega))) ?_
  refine Bod.sw (t := 301) dc_316_14 rfl rfl (by decide +kernel) ?_
  refine Bod.go dc_316_301 rfl ?_
  refine Bod.go dc_316_309 rfl ?_
  refine Bod.bip 40 (by decide) dc_316_310 ?_
  refine Bod.virt (r := []) dc_316_312 kr_316_199 ⟨Or.inl rfl, ow_314, cl_14⟩ (by rw [np_314]; rfl) (by rw [np_314]; rfl) (ob_of (mk_61 _)) (Nat.le_of_ble_eq_true rfl) (hN40  ) ?_
  show Bod _ _ _ _ [_] _ _ _
  refine Bod.ifT dc_316_315 rfl (k1_eq_T (k_eq 0 0 rfl rfl (by omega))) ?_
  refine Bod.go dc_316_367 rfl ?_
  refine Bod.bip 123 (by decide) dc_316_368 ?_
  refine Bod.virt (r := []) dc_316_370 kr_316_199 ⟨Or.inl rfl, ow_314, cl_14⟩ (by rw [np_314]; rfl) (by rw [np_314]; rfl) (ob_of (mk_61 _)) (Nat.le_of_ble_eq_true rfl) (hY123  ) ?_
  show Bod _ _ _ _ [_] _ _ _
  refine Bod.istn dc_316_373 (by rw [ml_316]; exact Nat.le_of_ble_eq_true rfl) ?_
  refine Bod.go dc_316_374 rfl ?_
  refine Bod.ifT dc_316_375 rfl (k1_ne_T (k_ne 1 0 rfl rfl (by omega) (by omega) (by omega))) ?_
  refine Bod.go dc_316_392 rfl ?_
  refine Bod.go dc_316_393 rfl ?_
  refine Bod.go dc_316_394 rfl ?_
  refine Bod.ifF dc_316_395 rfl (k1_eq_F (k_ne 1 0 rfl rfl (by omega) (by omega) (by omega))) ?_
  refine Bod.bip 125 (by decide) dc_316_398 ?_
  refine Bod.go dc_316_400 rfl ?_
  refine Bod.go dc_316_405 rfl ?_
  refine Bod.ifF dc_316_406 rfl (k1_eq_F (k_ne 1 0 rfl rfl (by omega) (by omega) (by omega))) ?_
  refine Bod.bip 20 (by decide) dc_316_409 ?_
  refine Bod.go dc_316_411 rfl ?_
  refine Bod.go dc_316_416 rfl ?_
  refine Bod.virt (r := []) dc_316_417 kr_316_421 ⟨Or.inl rfl, ow_324, cl_14⟩ (by rw [np_324]; rfl) (by rw [np_324]; rfl) (ob_of (mk_61 _)) (Nat.le_of_ble_eq_true rfl) (hLn  ) ?_
  show Bod _ _ _ _ [_] _ _ _
  refine Bod.istn dc_316_420 (by rw [ml_316]; exact Nat.le_of_ble_eq_true rfl) ?_
  refine Bod.go dc_316_421 rfl ?_
  refine Bod.ifF dc_316_422 rfl (by decide) ?_
  refine Bod.ic 0 (by decide) dc_316_425 ?_
  exact Bod.retZ dc_316_426 rt_316 (Or.inl rfl)
theorem ra_dict_T {d : Nat} {S : cS} {dp : Nat} {j : Nat} {q : Nat} {S1 : cS} {S2 : cS} (hdp : dp ≤ 12) (ha : sI S 6115 = nI j) (hj : j < 6002) (hkd : sA S 67 j = nI 5) (hN40 : Ans (d + 8) 314 [.ref 61, .int (nI 40)] (wI 6131 (nI 0) S) (some (.int (nI 0))) (wI 6131 (nI 0) S)) (hY123 : Ans (d + 8) 314 [.ref 61, .int (nI 123)] (wI 6131 (nI 0) S) (some (.int (nI 1))) (wI 6131 (nI 0) S)) (hq : q < 100) (hL : Ans (d + 8) 324 [.ref 61, .int (nI dp), .int (nI 125), .int (nI 20), .int (nI 1)] (wI 6131 (nI 0) S) (some (.int (nI q))) S1) (hP : Ans (d + 8) 302 [.ref 61, .int (nI 19), .int (nI q)] S1 none S2) : Ans (d + 9) 316 [.ref 61, .int (nI dp)] S (some (.int 1)) (wI 6131 (nI 0) S2) := by
  refine Ans.of (by rw [ml_316]; exact Nat.le_of_ble_eq_true rfl) ?_
  refine Bod.go dc_316_0 rfl ?_
  refine Bod.ic 0 (by decide) dc_316_1 ?_
  refine Bod.put dc_316_2 fr_316_397 (mk_61 _) (Nat.le_of_ble_eq_true rfl) pf_14_31 (st_6131 _ _) (mu_I _ _ _) ?_
  refine Bod.go dc_316_5 rfl ?_
  refine Bod.get dc_316_6 fr_316_129 (mk_61 _) rfl ?_
  refine Bod.go dc_316_9 rfl ?_
  refine Bod.get dc_316_10 fr_316_190 (mk_61 _) rfl ?_
  refine Bod.eqI (nI j) (by first | (simp (disch := omega) only [rI, rIe, rA, rIA, rLA, rJA, rVI, rQI, rVA, rQA, upd_at,  rAI, rLI, rJI, nI_add, pk_sub, kc_0, kc_1, kc_2, kc_3, kc_4, kc_5, reduceIte, Nat.reduceEqDiff, Nat.add_zero, rI_hold, rI_hold, rL_hold, ha, hkd]; done) | (simp (disch := omega) only [rI, rIe, rA, rIA, rLA, rJA, rVI, rQI, rVA, rQA, upd_at,  rAI, rLI, rJI, nI_add, pk_sub, kc_0, kc_1, kc_2, kc_3, kc_4, kc_5, reduceIte, Nat.reduceEqDiff, Nat.add_zero, rI_hold, rI_hold, rL_hold, ha, hkd]; exact congrArg nI (by omega))) ?_
  refine Bod.ialdN j rfl (by omega) (by omega) dc_316_13 (mk_67 _) ?_
  refine Bod.eqI (nI 5) (by first | (simp (disch := omega) only [rI, rIe, rA, rIA, rLA, rJA, rVI, rQI, rVA, rQA, upd_at,  rAI, rLI, rJI, nI_add, pk_sub, kc_0, kc_1, kc_2, kc_3, kc_4, kc_5, reduceIte, Nat.reduceEqDiff, Nat.add_zero, rI_hold, rI_hold, rL_hold, ha, hkd]; done) | (simp (disch := omega) only [rI, rIe, rA, rIA, rLA, rJA, rVI, rQI, rVA, rQA, upd_at,  rAI, rLI, rJI, nI_add, pk_sub, kc_0, kc_1, kc_2, kc_3, kc_4, kc_5, reduceIte, Nat.reduceEqDiff, Nat.add_zero, rI_hold, rI_hold, rL_hold, ha, hkd]; exact congrArg nI (by omega))) ?_
  refine Bod.sw (t := 301) dc_316_14 rfl rfl (by decide +kernel) ?_
  refine Bod.go dc_316_301 rfl ?_
  refine Bod.go dc_316_309 rfl ?_
  refine Bod.bip 40 (by decide) dc_316_310 ?_
  refine Bod.virt (r := []) dc_316_312 kr_316_199 ⟨Or.inl rfl, ow_314, cl_14⟩ (by rw [np_314]; rfl) (by rw [np_314]; rfl) (ob_of (mk_61 _)) (Nat.le_of_ble_eq_true rfl) (hN40  ) ?_
  show Bod _ _ _ _ [_] _ _ _
  refine Bod.ifT dc_316_315 rfl (k1_eq_T (k_eq 0 0 rfl rfl (by omega))) ?_
  refine Bod.go dc_316_367 rfl ?_
  refine Bod.bip 123 (by decide) dc_316_368 ?_
  refine Bod.virt (r := []) dc_316_370 kr_316_199 ⟨Or.inl rfl, ow_314, cl_14⟩ (by rw [np_314]; rfl) (by rw [np_314]; rfl) (ob_of (mk_61 _)) (Nat.le_of_ble_eq_true rfl) (hY123  ) ?_
  show Bod _ _ _ _ [_] _ _ _
  refine Bod.istn dc_316_373 (by rw [ml_316]; exact Nat.le_of_ble_eq_true rfl) ?_
  refine Bod.go dc_316_374 rfl ?_
  refine Bod.ifT dc_316_375 rfl (k1_ne_T (k_ne 1 0 rfl rfl (by omega) (by omega) (by omega))) ?_
  refine Bod.go dc_316_392 rfl ?_
  refine Bod.go dc_316_393 rfl ?_
  refine Bod.go dc_316_394 rfl ?_
  refine Bod.ifF dc_316_395 rfl (k1_eq_F (k_ne 1 0 rfl rfl (by omega) (by omega) (by omega))) ?_
  refine Bod.bip 125 (by decide) dc_316_398 ?_
  refine Bod.go dc_316_400 rfl ?_
  refine Bod.go dc_316_405 rfl ?_
  refine Bod.ifF dc_316_406 rfl (k1_eq_F (k_ne 1 0 rfl rfl (by omega) (by omega) (by omega))) ?_
  refine Bod.bip 20 (by decide) dc_316_409 ?_
  refine Bod.go dc_316_411 rfl ?_
  refine Bod.go dc_316_416 rfl ?_
  refine Bod.virt (r := []) dc_316_417 kr_316_421 ⟨Or.inl rfl, ow_324, cl_14⟩ (by rw [np_324]; rfl) (by rw [np_324]; rfl) (ob_of (mk_61 _)) (Nat.le_of_ble_eq_true rfl) (hL  ) ?_
  show Bod _ _ _ _ [_] _ _ _
  refine Bod.istn dc_316_420 (by rw [ml_316]; exact Nat.le_of_ble_eq_true rfl) ?_
  refine Bod.go dc_316_421 rfl ?_
  refine Bod.ifT dc_316_422 rfl (k1_ge_T q rfl (by omega)) ?_
  refine Bod.go dc_316_427 rfl ?_
  refine Bod.go dc_316_428 rfl ?_
  refine Bod.ifF dc_316_429 rfl (k1_eq_F (k_ne 1 0 rfl rfl (by omega) (by omega) (by omega))) ?_
  refine Bod.bip 19 (by decide) dc_316_432 ?_
  refine Bod.go dc_316_434 rfl ?_
  refine Bod.go dc_316_439 rfl ?_
  refine Bod.virt (r := []) dc_316_440 kr_316_216 ⟨Or.inl rfl, ow_302, cl_14⟩ (by rw [np_302]; rfl) (by rw [np_302]; rfl) (ob_of (mk_61 _)) (Nat.le_of_ble_eq_true rfl) (hP  ) ?_
  show Bod _ _ _ _ [] _ _ _
  refine Bod.go dc_316_443 rfl ?_
  refine Bod.ic 0 (by decide) dc_316_444 ?_
  refine Bod.put dc_316_445 fr_316_397 (mk_61 _) (Nat.le_of_ble_eq_true rfl) pf_14_31 (st_6131 _ _) (mu_I _ _ _) ?_
  refine Bod.ic 1 (by decide) dc_316_448 ?_
  exact Bod.retZ dc_316_449 rt_316 (Or.inr rfl)
theorem ra_list_no {d : Nat} {S : cS} {dp : Nat} {j : Nat} {S1 : cS} (hdp : dp ≤ 12) (ha : sI S 6115 = nI j) (hj : j < 6002) (hkd : sA S 67 j = nI 5) (hN40 : Ans (d + 8) 314 [.ref 61, .int (nI 40)] (wI 6131 (nI 0) S) (some (.int (nI 0))) (wI 6131 (nI 0) S)) (hN123 : Ans (d + 8) 314 [.ref 61, .int (nI 123)] (wI 6131 (nI 0) S) (some (.int (nI 0))) (wI 6131 (nI 0) S)) (hY91 : Ans (d + 8) 314 [.ref 61, .int (nI 91)] (wI 6131 (nI 0) S) (some (.int (nI 1))) (wI 6131 (nI 0) S)) (hLn : Ans (d + 8) 324 [.ref 61, .int (nI dp), .int (nI 93), .int (nI 40), .int (nI 0)] (wI 6131 (nI 0) S) (some (.int (Int32.ofInt (-1)))) S1) : Ans (d + 9) 316 [.ref 61, .int (nI dp)] S (some (.int 0)) (S1) := by
  refine Ans.of (by rw [ml_316]; exact Nat.le_of_ble_eq_true rfl) ?_
  refine Bod.go dc_316_0 rfl ?_
  refine Bod.ic 0 (by decide) dc_316_1 ?_
  refine Bod.put dc_316_2 fr_316_397 (mk_61 _) (Nat.le_of_ble_eq_true rfl) pf_14_31 (st_6131 _ _) (mu_I _ _ _) ?_
  refine Bod.go dc_316_5 rfl ?_
  refine Bod.get dc_316_6 fr_316_129 (mk_61 _) rfl ?_
  refine Bod.go dc_316_9 rfl ?_
  refine Bod.get dc_316_10 fr_316_190 (mk_61 _) rfl ?_
  refine Bod.eqI (nI j) (by first | (simp (disch := omega) only [rI, rIe, rA, rIA, rLA, rJA, rVI, rQI, rVA, rQA, upd_at,  rAI, rLI, rJI, nI_add, pk_sub, kc_0, kc_1, kc_2, kc_3, kc_4, kc_5, reduceIte, Nat.reduceEqDiff, Nat.add_zero, rI_hold, rI_hold, rL_hold, ha, hkd]; done) | (simp (disch := omega) only [rI, rIe, rA, rIA, rLA, rJA, rVI, rQI, rVA, rQA, upd_at,  rAI, rLI, rJI, nI_add, pk_sub, kc_0, kc_1, kc_2, kc_3, kc_4, kc_5, reduceIte, Nat.reduceEqDiff, Nat.add_zero, rI_hold, rI_hold, rL_hold, ha, hkd]; exact congrArg nI (by omega))) ?_
  refine Bod.ialdN j rfl (by omega) (by omega) dc_316_13 (mk_67 _) ?_
  refine Bod.eqI (nI 5) (by first | (simp (disch := omega) only [rI, rIe, rA, rIA, rLA, rJA, rVI, rQI, rVA, rQA, upd_at,  rAI, rLI, rJI, nI_add, pk_sub, kc_0, kc_1, kc_2, kc_3, kc_4, kc_5, reduceIte, Nat.reduceEqDiff, Nat.add_zero, rI_hold, rI_hold, rL_hold, ha, hkd]; done) | (simp (disch := omega) only [rI, rIe, rA, rIA, rLA, rJA, rVI, rQI, rVA, rQA, upd_at,  rAI, rLI, rJI, nI_add, pk_sub, kc_0, kc_1, kc_2, kc_3, kc_4, kc_5, reduceIte, Nat.reduceEqDiff, Nat.add_zero, rI_hold, rI_hold, rL_hold, ha, hkd]; exact congrArg nI (by omega))) ?_
  refine Bod.sw (t := 301) dc_316_14 rfl rfl (by decide +kernel) ?_
  refine Bod.go dc_316_301 rfl ?_
  refine Bod.go dc_316_309 rfl ?_
  refine Bod.bip 40 (by decide) dc_316_310 ?_
  refine Bod.virt (r := []) dc_316_312 kr_316_199 ⟨Or.inl rfl, ow_314, cl_14⟩ (by rw [np_314]; rfl) (by rw [np_314]; rfl) (ob_of (mk_61 _)) (Nat.le_of_ble_eq_true rfl) (hN40  ) ?_
  show Bod _ _ _ _ [_] _ _ _
  refine Bod.ifT dc_316_315 rfl (k1_eq_T (k_eq 0 0 rfl rfl (by omega))) ?_
  refine Bod.go dc_316_367 rfl ?_
  refine Bod.bip 123 (by decide) dc_316_368 ?_
  refine Bod.virt (r := []) dc_316_370 kr_316_199 ⟨Or.inl rfl, ow_314, cl_14⟩ (by rw [np_314]; rfl) (by rw [np_314]; rfl) (ob_of (mk_61 _)) (Nat.le_of_ble_eq_true rfl) (hN123  ) ?_
  show Bod _ _ _ _ [_] _ _ _
  refine Bod.istn dc_316_373 (by rw [ml_316]; exact Nat.le_of_ble_eq_true rfl) ?_
  refine Bod.go dc_316_374 rfl ?_
  refine Bod.ifF dc_316_375 rfl (k1_ne_F (k_eq 0 0 rfl rfl (by omega))) ?_
  refine Bod.go dc_316_378 rfl ?_
  refine Bod.bip 91 (by decide) dc_316_379 ?_
  refine Bod.virt (r := []) dc_316_381 kr_316_199 ⟨Or.inl rfl, ow_314, cl_14⟩ (by rw [np_314]; rfl) (by rw [np_314]; rfl) (ob_of (mk_61 _)) (Nat.le_of_ble_eq_true rfl) (hY91  ) ?_
  show Bod _ _ _ _ [_] _ _ _
  refine Bod.ifT dc_316_384 rfl (k1_ne_T (k_ne 1 0 rfl rfl (by omega) (by omega) (by omega))) ?_
  refine Bod.go dc_316_392 rfl ?_
  refine Bod.go dc_316_393 rfl ?_
  refine Bod.go dc_316_394 rfl ?_
  refine Bod.ifT dc_316_395 rfl (k1_eq_T (k_eq 0 0 rfl rfl (by omega))) ?_
  refine Bod.bip 93 (by decide) dc_316_403 ?_
  refine Bod.go dc_316_405 rfl ?_
  refine Bod.ifT dc_316_406 rfl (k1_eq_T (k_eq 0 0 rfl rfl (by omega))) ?_
  refine Bod.bip 40 (by decide) dc_316_414 ?_
  refine Bod.go dc_316_416 rfl ?_
  refine Bod.virt (r := []) dc_316_417 kr_316_421 ⟨Or.inl rfl, ow_324, cl_14⟩ (by rw [np_324]; rfl) (by rw [np_324]; rfl) (ob_of (mk_61 _)) (Nat.le_of_ble_eq_true rfl) (hLn  ) ?_
  show Bod _ _ _ _ [_] _ _ _
  refine Bod.istn dc_316_420 (by rw [ml_316]; exact Nat.le_of_ble_eq_true rfl) ?_
  refine Bod.go dc_316_421 rfl ?_
  refine Bod.ifF dc_316_422 rfl (by decide) ?_
  refine Bod.ic 0 (by decide) dc_316_425 ?_
  exact Bod.retZ dc_316_426 rt_316 (Or.inl rfl)
theorem ra_list_T {d : Nat} {S : cS} {dp : Nat} {j : Nat} {q : Nat} {S1 : cS} {S2 : cS} (hdp : dp ≤ 12) (ha : sI S 6115 = nI j) (hj : j < 6002) (hkd : sA S 67 j = nI 5) (hN40 : Ans (d + 8) 314 [.ref 61, .int (nI 40)] (wI 6131 (nI 0) S) (some (.int (nI 0))) (wI 6131 (nI 0) S)) (hN123 : Ans (d + 8) 314 [.ref 61, .int (nI 123)] (wI 6131 (nI 0) S) (some (.int (nI 0))) (wI 6131 (nI 0) S)) (hY91 : Ans (d + 8) 314 [.ref 61, .int (nI 91)] (wI 6131 (nI 0) S) (some (.int (nI 1))) (wI 6131 (nI 0) S)) (hq : q < 100) (hL : Ans (d + 8) 324 [.ref 61, .int (nI dp), .int (nI 93), .int (nI 40), .int (nI 0)] (wI 6131 (nI 0) S) (some (.int (nI q))) S1) (hP : Ans (d + 8) 302 [.ref 61, .int (nI 18), .int (nI q)] S1 none S2) : Ans (d + 9) 316 [.ref 61, .int (nI dp)] S (some (.int 1)) (wI 6131 (nI 0) S2) := by
  refine Ans.of (by rw [ml_316]; exact Nat.le_of_ble_eq_true rfl) ?_
  refine Bod.go dc_316_0 rfl ?_
  refine Bod.ic 0 (by decide) dc_316_1 ?_
  refine Bod.put dc_316_2 fr_316_397 (mk_61 _) (Nat.le_of_ble_eq_true rfl) pf_14_31 (st_6131 _ _) (mu_I _ _ _) ?_
  refine Bod.go dc_316_5 rfl ?_
  refine Bod.get dc_316_6 fr_316_129 (mk_61 _) rfl ?_
  refine Bod.go dc_316_9 rfl ?_
  refine Bod.get dc_316_10 fr_316_190 (mk_61 _) rfl ?_
  refine Bod.eqI (nI j) (by first | (simp (disch := omega) only [rI, rIe, rA, rIA, rLA, rJA, rVI, rQI, rVA, rQA, upd_at,  rAI, rLI, rJI, nI_add, pk_sub, kc_0, kc_1, kc_2, kc_3, kc_4, kc_5, reduceIte, Nat.reduceEqDiff, Nat.add_zero, rI_hold, rI_hold, rL_hold, ha, hkd]; done) | (simp (disch := omega) only [rI, rIe, rA, rIA, rLA, rJA, rVI, rQI, rVA, rQA, upd_at,  rAI, rLI, rJI, nI_add, pk_sub, kc_0, kc_1, kc_2, kc_3, kc_4, kc_5, reduceIte, Nat.reduceEqDiff, Nat.add_zero, rI_hold, rI_hold, rL_hold, ha, hkd]; exact congrArg nI (by omega))) ?_
  refine Bod.ialdN j rfl (by omega) (by omega) dc_316_13 (mk_67 _) ?_
  refine Bod.eqI (nI 5) (by first | (simp (disch := omega) only [rI, rIe, rA, rIA, rLA, rJA, rVI, rQI, rVA, rQA, upd_at,  rAI, rLI, rJI, nI_add, pk_sub, kc_0, kc_1, kc_2, kc_3, kc_4, kc_5, reduceIte, Nat.reduceEqDiff, Nat.add_zero, rI_hold, rI_hold, rL_hold, ha, hkd]; done) | (simp (disch := omega) only [rI, rIe, rA, rIA, rLA, rJA, rVI, rQI, rVA, rQA, upd_at,  rAI, rLI, rJI, nI_add, pk_sub, kc_0, kc_1, kc_2, kc_3, kc_4, kc_5, reduceIte, Nat.reduceEqDiff, Nat.add_zero, rI_hold, rI_hold, rL_hold, ha, hkd]; exact congrArg nI (by omega))) ?_
  refine Bod.sw (t := 301) dc_316_14 rfl rfl (by decide +kernel) ?_
  refine Bod.go dc_316_301 rfl ?_
  refine Bod.go dc_316_309 rfl ?_
  refine Bod.bip 40 (by decide) dc_316_310 ?_
  refine Bod.virt (r := []) dc_316_312 kr_316_199 ⟨Or.inl rfl, ow_314, cl_14⟩ (by rw [np_314]; rfl) (by rw [np_314]; rfl) (ob_of (mk_61 _)) (Nat.le_of_ble_eq_true rfl) (hN40  ) ?_
  show Bod _ _ _ _ [_] _ _ _
  refine Bod.ifT dc_316_315 rfl (k1_eq_T (k_eq 0 0 rfl rfl (by omega))) ?_
  refine Bod.go dc_316_367 rfl ?_
  refine Bod.bip 123 (by decide) dc_316_368 ?_
  refine Bod.virt (r := []) dc_316_370 kr_316_199 ⟨Or.inl rfl, ow_314, cl_14⟩ (by rw [np_314]; rfl) (by rw [np_314]; rfl) (ob_of (mk_61 _)) (Nat.le_of_ble_eq_true rfl) (hN123  ) ?_
  show Bod _ _ _ _ [_] _ _ _
  refine Bod.istn dc_316_373 (by rw [ml_316]; exact Nat.le_of_ble_eq_true rfl) ?_
  refine Bod.go dc_316_374 rfl ?_
  refine Bod.ifF dc_316_375 rfl (k1_ne_F (k_eq 0 0 rfl rfl (by omega))) ?_
  refine Bod.go dc_316_378 rfl ?_
  refine Bod.bip 91 (by decide) dc_316_379 ?_
  refine Bod.virt (r := []) dc_316_381 kr_316_199 ⟨Or.inl rfl, ow_314, cl_14⟩ (by rw [np_314]; rfl) (by rw [np_314]; rfl) (ob_of (mk_61 _)) (Nat.le_of_ble_eq_true rfl) (hY91  ) ?_
  show Bod _ _ _ _ [_] _ _ _
  refine Bod.ifT dc_316_384 rfl (k1_ne_T (k_ne 1 0 rfl rfl (by omega) (by omega) (by omega))) ?_
  refine Bod.go dc_316_392 rfl ?_
  refine Bod.go dc_316_393 rfl ?_
  refine Bod.go dc_316_394 rfl ?_
  refine Bod.ifT dc_316_395 rfl (k1_eq_T (k_eq 0 0 rfl rfl (by omega))) ?_
  refine Bod.bip 93 (by decide) dc_316_403 ?_
  refine Bod.go dc_316_405 rfl ?_
  refine Bod.ifT dc_316_406 rfl (k1_eq_T (k_eq 0 0 rfl rfl (by omega))) ?_
  refine Bod.bip 40 (by decide) dc_316_414 ?_
  refine Bod.go dc_316_416 rfl ?_
  refine Bod.virt (r := []) dc_316_417 kr_316_421 ⟨Or.inl rfl, ow_324, cl_14⟩ (by rw [np_324]; rfl) (by rw [np_324]; rfl) (ob_of (mk_61 _)) (Nat.le_of_ble_eq_true rfl) (hL  ) ?_
  show Bod _ _ _ _ [_] _ _ _
  refine Bod.istn dc_316_420 (by rw [ml_316]; exact Nat.le_of_ble_eq_true rfl) ?_
  refine Bod.go dc_316_421 rfl ?_
  refine Bod.ifT dc_316_422 rfl (k1_ge_T q rfl (by omega)) ?_
  refine Bod.go dc_316_427 rfl ?_
  refine Bod.go dc_316_428 rfl ?_
  refine Bod.ifT dc_316_429 rfl (k1_eq_T (k_eq 0 0 rfl rfl (by omega))) ?_
  refine Bod.bip 18 (by decide) dc_316_437 ?_
  refine Bod.go dc_316_439 rfl ?_
  refine Bod.virt (r := []) dc_316_440 kr_316_216 ⟨Or.inl rfl, ow_302, cl_14⟩ (by rw [np_302]; rfl) (by rw [np_302]; rfl) (ob_of (mk_61 _)) (Nat.le_of_ble_eq_true rfl) (hP  ) ?_
  show Bod _ _ _ _ [] _ _ _
  refine Bod.go dc_316_443 rfl ?_
  refine Bod.ic 0 (by decide) dc_316_444 ?_
  refine Bod.put dc_316_445 fr_316_397 (mk_61 _) (Nat.le_of_ble_eq_true rfl) pf_14_31 (st_6131 _ _) (mu_I _ _ _) ?_
  refine Bod.ic 1 (by decide) dc_316_448 ?_
  exact Bod.retZ dc_316_449 rt_316 (Or.inr rfl)
theorem ra_sign {d : Nat} {S : cS} {dp : Nat} {j : Nat} {S1 : cS} (hdp : dp ≤ 12) (ha : sI S 6115 = nI j) (hj : j < 6002) (hkd : sA S 67 j = nI 5) (hN40 : Ans (d + 8) 314 [.ref 61, .int (nI 40)] (wI 6131 (nI 0) S) (some (.int (nI 0))) (wI 6131 (nI 0) S)) (hN123 : Ans (d + 8) 314 [.ref 61, .int (nI 123)] (wI 6131 (nI 0) S) (some (.int (nI 0))) (wI 6131 (nI 0) S)) (hN91 : Ans (d + 8) 314 [.ref 61, .int (nI 91)] (wI 6131 (nI 0) S) (some (.int (nI 0))) (wI 6131 (nI 0) S)) (hB : Ans (d + 8) 299 [.ref 61] (wI 6131 (nI 0) S) (some (.int (nI 0))) S1) : Ans (d + 9) 316 [.ref 61, .int (nI dp)] S (some (.int 0)) (S1) := by
  refine Ans.of (by rw [ml_316]; exact Nat.le_of_ble_eq_true rfl) ?_
  refine Bod.go dc_316_0 rfl ?_
  refine Bod.ic 0 (by decide) dc_316_1 ?_
  refine Bod.put dc_316_2 fr_316_397 (mk_61 _) (Nat.le_of_ble_eq_true rfl) pf_14_31 (st_6131 _ _) (mu_I _ _ _) ?_
  refine Bod.go dc_316_5 rfl ?_
  refine Bod.get dc_316_6 fr_316_129 (mk_61 _) rfl ?_
  refine Bod.go dc_316_9 rfl ?_
  refine Bod.get dc_316_10 fr_316_190 (mk_61 _) rfl ?_
  refine Bod.eqI (nI j) (by first | (simp (disch := omega) only [rI, rIe, rA, rIA, rLA, rJA, rVI, rQI, rVA, rQA, upd_at,  rAI, rLI, rJI, nI_add, pk_sub, kc_0, kc_1, kc_2, kc_3, kc_4, kc_5, reduceIte, Nat.reduceEqDiff, Nat.add_zero, rI_hold, rI_hold, rL_hold, ha, hkd]; done) | (simp (disch := omega) only [rI, rIe, rA, rIA, rLA, rJA, rVI, rQI, rVA, rQA, upd_at,  rAI, rLI, rJI, nI_add, pk_sub, kc_0, kc_1, kc_2, kc_3, kc_4, kc_5, reduceIte, Nat.reduceEqDiff, Nat.add_zero, rI_hold, rI_hold, rL_hold, ha, hkd]; exact congrArg nI (by omega))) ?_
  refine Bod.ialdN j rfl (by omega) (by omega) dc_316_13 (mk_67 _) ?_
  refine Bod.eqI (nI 5) (by first | (simp (disch := omega) only [rI, rIe, rA, rIA, rLA, rJA, rVI, rQI, rVA, rQA, upd_at,  rAI, rLI, rJI, nI_add, pk_sub, kc_0, kc_1, kc_2, kc_3, kc_4, kc_5, reduceIte, Nat.reduceEqDiff, Nat.add_zero, rI_hold, rI_hold, rL_hold, ha, hkd]; done) | (simp (disch := omega) only [rI, rIe, rA, rIA, rLA, rJA, rVI, rQI, rVA, rQA, upd_at,  rAI, rLI, rJI, nI_add, pk_sub, kc_0, kc_1, kc_2, kc_3, kc_4, kc_5, reduceIte, Nat.reduceEqDiff, Nat.add_zero, rI_hold, rI_hold, rL_hold, ha, hkd]; exact congrArg nI (by omega))) ?_
  refine Bod.sw (t := 301) dc_316_14 rfl rfl (by decide +kernel) ?_
  refine Bod.go dc_316_301 rfl ?_
  refine Bod.go dc_316_309 rfl ?_
  refine Bod.bip 40 (by decide) dc_316_310 ?_
  refine Bod.virt (r := []) dc_316_312 kr_316_199 ⟨Or.inl rfl, ow_314, cl_14⟩ (by rw [np_314]; rfl) (by rw [np_314]; rfl) (ob_of (mk_61 _)) (Nat.le_of_ble_eq_true rfl) (hN40  ) ?_
  show Bod _ _ _ _ [_] _ _ _
  refine Bod.ifT dc_316_315 rfl (k1_eq_T (k_eq 0 0 rfl rfl (by omega))) ?_
  refine Bod.go dc_316_367 rfl ?_
  refine Bod.bip 123 (by decide) dc_316_368 ?_
  refine Bod.virt (r := []) dc_316_370 kr_316_199 ⟨Or.inl rfl, ow_314, cl_14⟩ (by rw [np_314]; rfl) (by rw [np_314]; rfl) (ob_of (mk_61 _)) (Nat.le_of_ble_eq_true rfl) (hN123  ) ?_
  show Bod _ _ _ _ [_] _ _ _
  refine Bod.istn dc_316_373 (by rw [ml_316]; exact Nat.le_of_ble_eq_true rfl) ?_
  refine Bod.go dc_316_374 rfl ?_
  refine Bod.ifF dc_316_375 rfl (k1_ne_F (k_eq 0 0 rfl rfl (by omega))) ?_
  refine Bod.go dc_316_378 rfl ?_
  refine Bod.bip 91 (by decide) dc_316_379 ?_
  refine Bod.virt (r := []) dc_316_381 kr_316_199 ⟨Or.inl rfl, ow_314, cl_14⟩ (by rw [np_314]; rfl) (by rw [np_314]; rfl) (ob_of (mk_61 _)) (Nat.le_of_ble_eq_true rfl) (hN91  ) ?_
  show Bod _ _ _ _ [_] _ _ _
  refine Bod.ifF dc_316_384 rfl (k1_ne_F (k_eq 0 0 rfl rfl (by omega))) ?_
  refine Bod.go dc_316_387 rfl ?_
  refine Bod.virt (r := []) dc_316_388 kr_316_202 ⟨Or.inl rfl, ow_299, cl_14⟩ (by rw [np_299]; rfl) (by rw [np_299]; rfl) (ob_of (mk_61 _)) (Nat.le_of_ble_eq_true rfl) (hB  ) ?_
  show Bod _ _ _ _ [_] _ _ _
  exact Bod.retZ dc_316_391 rt_316 (Or.inl rfl)
