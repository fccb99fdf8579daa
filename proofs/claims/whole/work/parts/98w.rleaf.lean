/-! LEAVES of the parser of the reference -/
theorem dc_314_0 : decode (sm_cc 314) 0 = .ok (.aload_n 0, 1) := by decide +kernel
theorem dc_314_1 : decode (sm_cc 314) 1 = .ok (.getfield 129, 3) := by decide +kernel
theorem fr_314_129 : sm_at mt_f (sm_ow 314) 129 = some (129, 14, 6, 0, 2079) := by decide +kernel
theorem dc_314_4 : decode (sm_cc 314) 4 = .ok (.aload_n 0, 1) := by decide +kernel
theorem dc_314_5 : decode (sm_cc 314) 5 = .ok (.getfield 190, 3) := by decide +kernel
theorem fr_314_190 : sm_at mt_f (sm_ow 314) 190 = some (190, 14, 15, 0, 2088) := by decide +kernel
theorem dc_314_8 : decode (sm_cc 314) 8 = .ok (.iaload, 1) := by decide +kernel
theorem dc_314_9 : decode (sm_cc 314) 9 = .ok (.iconst 5, 1) := by decide +kernel
theorem dc_314_10 : decode (sm_cc 314) 10 = .ok (.if_icmp .ne (20), 3) := by decide +kernel
theorem dc_314_30 : decode (sm_cc 314) 30 = .ok (.iconst 0, 1) := by decide +kernel
theorem dc_314_31 : decode (sm_cc 314) 31 = .ok (.ireturn, 1) := by decide +kernel
theorem rt_314 : sm_rt 314 = some .boolean := by decide +kernel
theorem ml_314 : sm_ml 314 = 2 := by decide +kernel
theorem dc_314_13 : decode (sm_cc 314) 13 = .ok (.aload_n 0, 1) := by decide +kernel
theorem dc_314_14 : decode (sm_cc 314) 14 = .ok (.getfield 135, 3) := by decide +kernel
theorem fr_314_135 : sm_at mt_f (sm_ow 314) 135 = some (135, 14, 7, 0, 2080) := by decide +kernel
theorem dc_314_17 : decode (sm_cc 314) 17 = .ok (.aload_n 0, 1) := by decide +kernel
theorem dc_314_18 : decode (sm_cc 314) 18 = .ok (.getfield 190, 3) := by decide +kernel
theorem dc_314_21 : decode (sm_cc 314) 21 = .ok (.iaload, 1) := by decide +kernel
theorem dc_314_22 : decode (sm_cc 314) 22 = .ok (.iload_n 1, 1) := by decide +kernel
theorem dc_314_23 : decode (sm_cc 314) 23 = .ok (.if_icmp .ne (7), 3) := by decide +kernel
theorem dc_314_26 : decode (sm_cc 314) 26 = .ok (.iconst 1, 1) := by decide +kernel
theorem dc_314_27 : decode (sm_cc 314) 27 = .ok (.goto (4), 3) := by decide +kernel
theorem dc_309_0 : decode (sm_cc 309) 0 = .ok (.aload_n 0, 1) := by decide +kernel
theorem dc_309_1 : decode (sm_cc 309) 1 = .ok (.getfield 129, 3) := by decide +kernel
theorem fr_309_129 : sm_at mt_f (sm_ow 309) 129 = some (129, 14, 6, 0, 2079) := by decide +kernel
theorem dc_309_4 : decode (sm_cc 309) 4 = .ok (.aload_n 0, 1) := by decide +kernel
theorem dc_309_5 : decode (sm_cc 309) 5 = .ok (.getfield 190, 3) := by decide +kernel
theorem fr_309_190 : sm_at mt_f (sm_ow 309) 190 = some (190, 14, 15, 0, 2088) := by decide +kernel
theorem dc_309_8 : decode (sm_cc 309) 8 = .ok (.iaload, 1) := by decide +kernel
theorem dc_309_9 : decode (sm_cc 309) 9 = .ok (.iconst 2, 1) := by decide +kernel
theorem dc_309_10 : decode (sm_cc 309) 10 = .ok (.if_icmp .ne (20), 3) := by decide +kernel
theorem dc_309_30 : decode (sm_cc 309) 30 = .ok (.iconst 0, 1) := by decide +kernel
theorem dc_309_31 : decode (sm_cc 309) 31 = .ok (.ireturn, 1) := by decide +kernel
theorem rt_309 : sm_rt 309 = some .boolean := by decide +kernel
theorem ml_309 : sm_ml 309 = 2 := by decide +kernel
theorem dc_309_13 : decode (sm_cc 309) 13 = .ok (.aload_n 0, 1) := by decide +kernel
theorem dc_309_14 : decode (sm_cc 309) 14 = .ok (.getfield 135, 3) := by decide +kernel
theorem fr_309_135 : sm_at mt_f (sm_ow 309) 135 = some (135, 14, 7, 0, 2080) := by decide +kernel
theorem dc_309_17 : decode (sm_cc 309) 17 = .ok (.aload_n 0, 1) := by decide +kernel
theorem dc_309_18 : decode (sm_cc 309) 18 = .ok (.getfield 190, 3) := by decide +kernel
theorem dc_309_21 : decode (sm_cc 309) 21 = .ok (.iaload, 1) := by decide +kernel
theorem dc_309_22 : decode (sm_cc 309) 22 = .ok (.iload_n 1, 1) := by decide +kernel
theorem dc_309_23 : decode (sm_cc 309) 23 = .ok (.if_icmp .ne (7), 3) := by decide +kernel
theorem dc_309_26 : decode (sm_cc 309) 26 = .ok (.iconst 1, 1) := by decide +kernel
theorem dc_309_27 : decode (sm_cc 309) 27 = .ok (.goto (4), 3) := by decide +kernel
theorem dc_300_0 : decode (sm_cc 300) 0 = .ok (.iload_n 0, 1) := by decide +kernel
theorem dc_300_1 : decode (sm_cc 300) 1 = .ok (.iload_n 1, 1) := by decide +kernel
theorem dc_300_2 : decode (sm_cc 300) 2 = .ok (.if_icmp .lt (7), 3) := by decide +kernel
theorem dc_300_5 : decode (sm_cc 300) 5 = .ok (.iload_n 0, 1) := by decide +kernel
theorem dc_300_6 : decode (sm_cc 300) 6 = .ok (.goto (4), 3) := by decide +kernel
theorem dc_300_10 : decode (sm_cc 300) 10 = .ok (.ireturn, 1) := by decide +kernel
theorem rt_300 : sm_rt 300 = some .int := by decide +kernel
theorem ml_300 : sm_ml 300 = 2 := by decide +kernel
theorem dc_300_9 : decode (sm_cc 300) 9 = .ok (.iload_n 1, 1) := by decide +kernel
theorem dc_299_0 : decode (sm_cc 299) 0 = .ok (.aload_n 0, 1) := by decide +kernel
theorem dc_299_1 : decode (sm_cc 299) 1 = .ok (.getfield 187, 3) := by decide +kernel
theorem fr_299_187 : sm_at mt_f (sm_ow 299) 187 = some (187, 14, 16, 0, 2089) := by decide +kernel
theorem dc_299_4 : decode (sm_cc 299) 4 = .ok (.ifCond .ne (20), 3) := by decide +kernel
theorem dc_299_7 : decode (sm_cc 299) 7 = .ok (.aload_n 0, 1) := by decide +kernel
theorem dc_299_8 : decode (sm_cc 299) 8 = .ok (.iconst 1, 1) := by decide +kernel
theorem dc_299_9 : decode (sm_cc 299) 9 = .ok (.aload_n 0, 1) := by decide +kernel
theorem dc_299_10 : decode (sm_cc 299) 10 = .ok (.getfield 138, 3) := by decide +kernel
theorem fr_299_138 : sm_at mt_f (sm_ow 299) 138 = some (138, 14, 8, 0, 2081) := by decide +kernel
theorem dc_299_13 : decode (sm_cc 299) 13 = .ok (.aload_n 0, 1) := by decide +kernel
theorem dc_299_14 : decode (sm_cc 299) 14 = .ok (.getfield 190, 3) := by decide +kernel
theorem fr_299_190 : sm_at mt_f (sm_ow 299) 190 = some (190, 14, 15, 0, 2088) := by decide +kernel
theorem dc_299_17 : decode (sm_cc 299) 17 = .ok (.iaload, 1) := by decide +kernel
theorem dc_299_18 : decode (sm_cc 299) 18 = .ok (.invokestatic 193, 3) := by decide +kernel
theorem kr_299_193 : sm_at mt_k (sm_ow 299) 193 = some (193, 2, 300, 0, 2458) := by decide +kernel
theorem np_300 : sm_np 300 = 2 := by decide +kernel
theorem dc_299_21 : decode (sm_cc 299) 21 = .ok (.putfield 187, 3) := by decide +kernel
theorem dc_299_24 : decode (sm_cc 299) 24 = .ok (.iconst 0, 1) := by decide +kernel
theorem dc_299_25 : decode (sm_cc 299) 25 = .ok (.ireturn, 1) := by decide +kernel
theorem rt_299 : sm_rt 299 = some .boolean := by decide +kernel
theorem ml_299 : sm_ml 299 = 1 := by decide +kernel
theorem dc_323_0 : decode (sm_cc 323) 0 = .ok (.aload_n 0, 1) := by decide +kernel
theorem dc_323_1 : decode (sm_cc 323) 1 = .ok (.iload_n 1, 1) := by decide +kernel
theorem dc_323_2 : decode (sm_cc 323) 2 = .ok (.invokevirtual 199, 3) := by decide +kernel
theorem ow_314 : 14 = sm_ow 314 := by decide +kernel
theorem kr_323_199 : sm_at mt_k (sm_ow 323) 199 = some (199, 0, 314, 0, 2514) := by decide +kernel
theorem np_314 : sm_np 314 = 1 := by decide +kernel
theorem dc_323_5 : decode (sm_cc 323) 5 = .ok (.ifCond .ne (8), 3) := by decide +kernel
theorem dc_323_13 : decode (sm_cc 323) 13 = .ok (.aload_n 0, 1) := by decide +kernel
theorem dc_323_14 : decode (sm_cc 323) 14 = .ok (.dup, 1) := by decide +kernel
theorem dc_323_15 : decode (sm_cc 323) 15 = .ok (.getfield 190, 3) := by decide +kernel
theorem fr_323_190 : sm_at mt_f (sm_ow 323) 190 = some (190, 14, 15, 0, 2088) := by decide +kernel
theorem dc_323_18 : decode (sm_cc 323) 18 = .ok (.iconst 1, 1) := by decide +kernel
theorem dc_323_19 : decode (sm_cc 323) 19 = .ok (.iadd, 1) := by decide +kernel
theorem dc_323_20 : decode (sm_cc 323) 20 = .ok (.putfield 190, 3) := by decide +kernel
theorem dc_323_23 : decode (sm_cc 323) 23 = .ok (.iconst 1, 1) := by decide +kernel
theorem dc_323_24 : decode (sm_cc 323) 24 = .ok (.ireturn, 1) := by decide +kernel
theorem rt_323 : sm_rt 323 = some .boolean := by decide +kernel
theorem ml_323 : sm_ml 323 = 2 := by decide +kernel
theorem dc_323_8 : decode (sm_cc 323) 8 = .ok (.aload_n 0, 1) := by decide +kernel
theorem dc_323_9 : decode (sm_cc 323) 9 = .ok (.invokevirtual 202, 3) := by decide +kernel
theorem ow_299 : 14 = sm_ow 299 := by decide +kernel
theorem kr_323_202 : sm_at mt_k (sm_ow 323) 202 = some (202, 0, 299, 0, 2454) := by decide +kernel
theorem np_299 : sm_np 299 = 0 := by decide +kernel
theorem dc_323_12 : decode (sm_cc 323) 12 = .ok (.ireturn, 1) := by decide +kernel
theorem dc_322_0 : decode (sm_cc 322) 0 = .ok (.aload_n 0, 1) := by decide +kernel
theorem dc_322_1 : decode (sm_cc 322) 1 = .ok (.getfield 206, 3) := by decide +kernel
theorem fr_322_206 : sm_at mt_f (sm_ow 322) 206 = some (206, 14, 14, 0, 2087) := by decide +kernel
theorem dc_322_4 : decode (sm_cc 322) 4 = .ok (.iload_n 1, 1) := by decide +kernel
theorem dc_322_5 : decode (sm_cc 322) 5 = .ok (.invokevirtual 210, 3) := by decide +kernel
theorem ow_303 : 12 = sm_ow 303 := by decide +kernel
theorem cl_12 : 12 < mt_cl.length := by decide +kernel
theorem kr_322_210 : sm_at mt_k (sm_ow 322) 210 = some (210, 0, 303, 0, 2469) := by decide +kernel
theorem np_303 : sm_np 303 = 1 := by decide +kernel
theorem dc_322_8 : decode (sm_cc 322) 8 = .ok (.return_, 1) := by decide +kernel
theorem rt_322 : sm_rt 322 = none := by decide +kernel
theorem ml_322 : sm_ml 322 = 2 := by decide +kernel
theorem dc_302_0 : decode (sm_cc 302) 0 = .ok (.aload_n 0, 1) := by decide +kernel
theorem dc_302_1 : decode (sm_cc 302) 1 = .ok (.getfield 206, 3) := by decide +kernel
theorem fr_302_206 : sm_at mt_f (sm_ow 302) 206 = some (206, 14, 14, 0, 2087) := by decide +kernel
theorem dc_302_4 : decode (sm_cc 302) 4 = .ok (.iload_n 1, 1) := by decide +kernel
theorem dc_302_5 : decode (sm_cc 302) 5 = .ok (.invokevirtual 210, 3) := by decide +kernel
theorem kr_302_210 : sm_at mt_k (sm_ow 302) 210 = some (210, 0, 303, 0, 2469) := by decide +kernel
theorem dc_302_8 : decode (sm_cc 302) 8 = .ok (.aload_n 0, 1) := by decide +kernel
theorem dc_302_9 : decode (sm_cc 302) 9 = .ok (.getfield 206, 3) := by decide +kernel
theorem dc_302_12 : decode (sm_cc 302) 12 = .ok (.iload_n 2, 1) := by decide +kernel
theorem dc_302_13 : decode (sm_cc 302) 13 = .ok (.invokevirtual 210, 3) := by decide +kernel
theorem dc_302_16 : decode (sm_cc 302) 16 = .ok (.return_, 1) := by decide +kernel
theorem rt_302 : sm_rt 302 = none := by decide +kernel
theorem ml_302 : sm_ml 302 = 3 := by decide +kernel
theorem dc_325_0 : decode (sm_cc 325) 0 = .ok (.aload_n 0, 1) := by decide +kernel
theorem dc_325_1 : decode (sm_cc 325) 1 = .ok (.iload_n 1, 1) := by decide +kernel
theorem dc_325_2 : decode (sm_cc 325) 2 = .ok (.iconst 0, 1) := by decide +kernel
theorem dc_325_3 : decode (sm_cc 325) 3 = .ok (.invokevirtual 216, 3) := by decide +kernel
theorem ow_302 : 14 = sm_ow 302 := by decide +kernel
theorem kr_325_216 : sm_at mt_k (sm_ow 325) 216 = some (216, 0, 302, 0, 2465) := by decide +kernel
theorem np_302 : sm_np 302 = 2 := by decide +kernel
theorem dc_325_6 : decode (sm_cc 325) 6 = .ok (.aload_n 0, 1) := by decide +kernel
theorem dc_325_7 : decode (sm_cc 325) 7 = .ok (.getfield 206, 3) := by decide +kernel
theorem fr_325_206 : sm_at mt_f (sm_ow 325) 206 = some (206, 14, 14, 0, 2087) := by decide +kernel
theorem dc_325_10 : decode (sm_cc 325) 10 = .ok (.getfield 219, 3) := by decide +kernel
theorem fr_325_219 : sm_at mt_f (sm_ow 325) 219 = some (219, 12, 1, 0, 2411) := by decide +kernel
theorem dc_325_13 : decode (sm_cc 325) 13 = .ok (.iconst 1, 1) := by decide +kernel
theorem dc_325_14 : decode (sm_cc 325) 14 = .ok (.isub, 1) := by decide +kernel
theorem dc_325_15 : decode (sm_cc 325) 15 = .ok (.ireturn, 1) := by decide +kernel
theorem rt_325 : sm_rt 325 = some .int := by decide +kernel
theorem ml_325 : sm_ml 325 = 2 := by decide +kernel
theorem dc_326_0 : decode (sm_cc 326) 0 = .ok (.aload_n 0, 1) := by decide +kernel
theorem dc_326_1 : decode (sm_cc 326) 1 = .ok (.getfield 206, 3) := by decide +kernel
theorem fr_326_206 : sm_at mt_f (sm_ow 326) 206 = some (206, 14, 14, 0, 2087) := by decide +kernel
theorem dc_326_4 : decode (sm_cc 326) 4 = .ok (.getfield 222, 3) := by decide +kernel
theorem fr_326_222 : sm_at mt_f (sm_ow 326) 222 = some (222, 12, 0, 0, 2409) := by decide +kernel
theorem dc_326_7 : decode (sm_cc 326) 7 = .ok (.iload_n 1, 1) := by decide +kernel
theorem dc_326_8 : decode (sm_cc 326) 8 = .ok (.aload_n 0, 1) := by decide +kernel
theorem dc_326_9 : decode (sm_cc 326) 9 = .ok (.getfield 206, 3) := by decide +kernel
theorem dc_326_12 : decode (sm_cc 326) 12 = .ok (.getfield 219, 3) := by decide +kernel
theorem fr_326_219 : sm_at mt_f (sm_ow 326) 219 = some (219, 12, 1, 0, 2411) := by decide +kernel
theorem dc_326_15 : decode (sm_cc 326) 15 = .ok (.iload_n 1, 1) := by decide +kernel
theorem dc_326_16 : decode (sm_cc 326) 16 = .ok (.isub, 1) := by decide +kernel
theorem dc_326_17 : decode (sm_cc 326) 17 = .ok (.iastore, 1) := by decide +kernel
theorem dc_326_18 : decode (sm_cc 326) 18 = .ok (.return_, 1) := by decide +kernel
theorem rt_326 : sm_rt 326 = none := by decide +kernel
theorem ml_326 : sm_ml 326 = 2 := by decide +kernel
theorem dc_327_0 : decode (sm_cc 327) 0 = .ok (.aload_n 0, 1) := by decide +kernel
theorem dc_327_1 : decode (sm_cc 327) 1 = .ok (.getfield 206, 3) := by decide +kernel
theorem fr_327_206 : sm_at mt_f (sm_ow 327) 206 = some (206, 14, 14, 0, 2087) := by decide +kernel
theorem dc_327_4 : decode (sm_cc 327) 4 = .ok (.aload_n 0, 1) := by decide +kernel
theorem dc_327_5 : decode (sm_cc 327) 5 = .ok (.getfield 425, 3) := by decide +kernel
theorem fr_327_425 : sm_at mt_f (sm_ow 327) 425 = some (425, 14, 32, 0, 2105) := by decide +kernel
theorem dc_327_8 : decode (sm_cc 327) 8 = .ok (.putfield 219, 3) := by decide +kernel
theorem fr_327_219 : sm_at mt_f (sm_ow 327) 219 = some (219, 12, 1, 0, 2411) := by decide +kernel
theorem dc_327_11 : decode (sm_cc 327) 11 = .ok (.return_, 1) := by decide +kernel
theorem rt_327 : sm_rt 327 = none := by decide +kernel
theorem ml_327 : sm_ml 327 = 1 := by decide +kernel
theorem rsign_no {d : Nat} {S : cS} {j : Nat} {kd : Nat} {c : Nat} (ha : sI S 6115 = nI j) (hj : j < 6002) (hkd : sA S 67 j = nI kd) (hkM : kd < 100) (hc : c < 20000) (hne : kd ≠ 5) : Ans (d + 1) 314 [.ref 61, .int (nI c)] S (some (.int 0)) (S) := by
  refine Ans.of (by rw [ml_314]; exact Nat.le_of_ble_eq_true rfl) ?_
  refine Bod.go dc_314_0 rfl ?_
  refine Bod.get dc_314_1 fr_314_129 (mk_61 _) rfl ?_
  refine Bod.go dc_314_4 rfl ?_
  refine Bod.get dc_314_5 fr_314_190 (mk_61 _) rfl ?_
  refine Bod.eqI (nI j) (by first | assumption | rfl | exact congrArg nI (by omega) | (simp (disch := omega) only [rI, rIe, rA, rIA, rLA, rJA, rVI, rQI, rVA, rQA, upd_at,  rAI, rLI, rJI, nI_add, pk_sub, kc_0, kc_1, kc_2, kc_3, kc_4, kc_5, reduceIte, Nat.reduceEqDiff, Nat.add_zero, rI_hold, rI_hold, rL_hold, ha, hkd]; done)) ?_
  refine Bod.ialdN j rfl (by omega) (by omega) dc_314_8 (mk_67 _) ?_
  refine Bod.eqI (nI kd) (by first | assumption | rfl | exact congrArg nI (by omega) | (simp (disch := omega) only [rI, rIe, rA, rIA, rLA, rJA, rVI, rQI, rVA, rQA, upd_at,  rAI, rLI, rJI, nI_add, pk_sub, kc_0, kc_1, kc_2, kc_3, kc_4, kc_5, reduceIte, Nat.reduceEqDiff, Nat.add_zero, rI_hold, rI_hold, rL_hold, ha, hkd]; done)) ?_
  refine Bod.ic 5 (by decide) dc_314_9 ?_
  refine Bod.icT dc_314_10 rfl (k2_ne_T (k_ne kd 5 rfl rfl (by omega) (by omega) (by omega))) ?_
  refine Bod.ic 0 (by decide) dc_314_30 ?_
  exact Bod.retZ dc_314_31 rt_314 (Or.inl rfl)
theorem rsign_T {d : Nat} {S : cS} {j : Nat} {kd : Nat} {c : Nat} {vl : Nat} (ha : sI S 6115 = nI j) (hj : j < 6002) (hkd : sA S 67 j = nI kd) (hkM : kd < 100) (hvl : sA S 68 j = nI vl) (hvM : vl < 100000) (hc : c < 20000) (heq : kd = 5) (hv : vl = c) : Ans (d + 1) 314 [.ref 61, .int (nI c)] S (some (.int 1)) (S) := by
  refine Ans.of (by rw [ml_314]; exact Nat.le_of_ble_eq_true rfl) ?_
  refine Bod.go dc_314_0 rfl ?_
  refine Bod.get dc_314_1 fr_314_129 (mk_61 _) rfl ?_
  refine Bod.go dc_314_4 rfl ?_
  refine Bod.get dc_314_5 fr_314_190 (mk_61 _) rfl ?_
  refine Bod.eqI (nI j) (by first | assumption | rfl | exact congrArg nI (by omega) | (simp (disch := omega) only [rI, rIe, rA, rIA, rLA, rJA, rVI, rQI, rVA, rQA, upd_at,  rAI, rLI, rJI, nI_add, pk_sub, kc_0, kc_1, kc_2, kc_3, kc_4, kc_5, reduceIte, Nat.reduceEqDiff, Nat.add_zero, rI_hold, rI_hold, rL_hold, ha, hkd, hvl]; done)) ?_
  refine Bod.ialdN j rfl (by omega) (by omega) dc_314_8 (mk_67 _) ?_
  refine Bod.eqI (nI kd) (by first | assumption | rfl | exact congrArg nI (by omega) | (simp (disch := omega) only [rI, rIe, rA, rIA, rLA, rJA, rVI, rQI, rVA, rQA, upd_at,  rAI, rLI, rJI, nI_add, pk_sub, kc_0, kc_1, kc_2, kc_3, kc_4, kc_5, reduceIte, Nat.reduceEqDiff, Nat.add_zero, rI_hold, rI_hold, rL_hold, ha, hkd, hvl]; done)) ?_
  refine Bod.ic 5 (by decide) dc_314_9 ?_
  refine Bod.icF dc_314_10 rfl (k2_ne_F (k_eq kd 5 rfl rfl (by omega))) ?_
  refine Bod.go dc_314_13 rfl ?_
  refine Bod.get dc_314_14 fr_314_135 (mk_61 _) rfl ?_
  refine Bod.go dc_314_17 rfl ?_
  refine Bod.get dc_314_18 fr_314_190 (mk_61 _) rfl ?_
  refine Bod.eqI (nI j) (by first | assumption | rfl | exact congrArg nI (by omega) | (simp (disch := omega) only [rI, rIe, rA, rIA, rLA, rJA, rVI, rQI, rVA, rQA, upd_at,  rAI, rLI, rJI, nI_add, pk_sub, kc_0, kc_1, kc_2, kc_3, kc_4, kc_5, reduceIte, Nat.reduceEqDiff, Nat.add_zero, rI_hold, rI_hold, rL_hold, ha, hkd, hvl]; done)) ?_
  refine Bod.ialdN j rfl (by omega) (by omega) dc_314_21 (mk_68 _) ?_
  refine Bod.eqI (nI vl) (by first | assumption | rfl | exact congrArg nI (by omega) | (simp (disch := omega) only [rI, rIe, rA, rIA, rLA, rJA, rVI, rQI, rVA, rQA, upd_at,  rAI, rLI, rJI, nI_add, pk_sub, kc_0, kc_1, kc_2, kc_3, kc_4, kc_5, reduceIte, Nat.reduceEqDiff, Nat.add_zero, rI_hold, rI_hold, rL_hold, ha, hkd, hvl]; done)) ?_
  refine Bod.go dc_314_22 rfl ?_
  refine Bod.icF dc_314_23 rfl (k2_ne_F (k_eq vl c rfl rfl (by omega))) ?_
  refine Bod.ic 1 (by decide) dc_314_26 ?_
  refine Bod.go dc_314_27 rfl ?_
  exact Bod.retZ dc_314_31 rt_314 (Or.inr rfl)
theorem rsign_F {d : Nat} {S : cS} {j : Nat} {kd : Nat} {c : Nat} {vl : Nat} (ha : sI S 6115 = nI j) (hj : j < 6002) (hkd : sA S 67 j = nI kd) (hkM : kd < 100) (hvl : sA S 68 j = nI vl) (hvM : vl < 100000) (hc : c < 20000) (heq : kd = 5) (hv : vl ≠ c) : Ans (d + 1) 314 [.ref 61, .int (nI c)] S (some (.int 0)) (S) := by
  refine Ans.of (by rw [ml_314]; exact Nat.le_of_ble_eq_true rfl) ?_
  refine Bod.go dc_314_0 rfl ?_
  refine Bod.get dc_314_1 fr_314_129 (mk_61 _) rfl ?_
  refine Bod.go dc_314_4 rfl ?_
  refine Bod.get dc_314_5 fr_314_190 (mk_61 _) rfl ?_
  refine Bod.eqI (nI j) (by first | assumption | rfl | exact congrArg nI (by omega) | (simp (disch := omega) only [rI, rIe, rA, rIA, rLA, rJA, rVI, rQI, rVA, rQA, upd_at,  rAI, rLI, rJI, nI_add, pk_sub, kc_0, kc_1, kc_2, kc_3, kc_4, kc_5, reduceIte, Nat.reduceEqDiff, Nat.add_zero, rI_hold, rI_hold, rL_hold, ha, hkd, hvl]; done)) ?_
  refine Bod.ialdN j rfl (by omega) (by omega) dc_314_8 (mk_67 _) ?_
  refine Bod.eqI (nI kd) (by first | assumption | rfl | exact congrArg nI (by omega) | (simp (disch := omega) only [rI, rIe, rA, rIA, rLA, rJA, rVI, rQI, rVA, rQA, upd_at,  rAI, rLI, rJI, nI_add, pk_sub, kc_0, kc_1, kc_2, kc_3, kc_4, kc_5, reduceIte, Nat.reduceEqDiff, Nat.add_zero, rI_hold, rI_hold, rL_hold, ha, hkd, hvl]; done)) ?_
  refine Bod.ic 5 (by decide) dc_314_9 ?_
  refine Bod.icF dc_314_10 rfl (k2_ne_F (k_eq kd 5 rfl rfl (by omega))) ?_
  refine Bod.go dc_314_13 rfl ?_
  refine Bod.get dc_314_14 fr_314_135 (mk_61 _) rfl ?_
  refine Bod.go dc_314_17 rfl ?_
  refine Bod.get dc_314_18 fr_314_190 (mk_61 _) rfl ?_
  refine Bod.eqI (nI j) (by first | assumption | rfl | exact congrArg nI (by omega) | (simp (disch := omega) only [rI, rIe, rA, rIA, rLA, rJA, rVI, rQI, rVA, rQA, upd_at,  rAI, rLI, rJI, nI_add, pk_sub, kc_0, kc_1, kc_2, kc_3, kc_4, kc_5, reduceIte, Nat.reduceEqDiff, Nat.add_zero, rI_hold, rI_hold, rL_hold, ha, hkd, hvl]; done)) ?_
  refine Bod.ialdN j rfl (by omega) (by omega) dc_314_21 (mk_68 _) ?_
  refine Bod.eqI (nI vl) (by first | assumption | rfl | exact congrArg nI (by omega) | (simp (disch := omega) only [rI, rIe, rA, rIA, rLA, rJA, rVI, rQI, rVA, rQA, upd_at,  rAI, rLI, rJI, nI_add, pk_sub, kc_0, kc_1, kc_2, kc_3, kc_4, kc_5, reduceIte, Nat.reduceEqDiff, Nat.add_zero, rI_hold, rI_hold, rL_hold, ha, hkd, hvl]; done)) ?_
  refine Bod.go dc_314_22 rfl ?_
  refine Bod.icT dc_314_23 rfl (k2_ne_T (k_ne vl c rfl rfl (by omega) (by omega) (by omega))) ?_
  refine Bod.ic 0 (by decide) dc_314_30 ?_
  exact Bod.retZ dc_314_31 rt_314 (Or.inl rfl)
theorem rword_no {d : Nat} {S : cS} {j : Nat} {kd : Nat} {c : Nat} (ha : sI S 6115 = nI j) (hj : j < 6002) (hkd : sA S 67 j = nI kd) (hkM : kd < 100) (hc : c < 20000) (hne : kd ≠ 2) : Ans (d + 1) 309 [.ref 61, .int (nI c)] S (some (.int 0)) (S) := by
  refine Ans.of (by rw [ml_309]; exact Nat.le_of_ble_eq_true rfl) ?_
  refine Bod.go dc_309_0 rfl ?_
  refine Bod.get dc_309_1 fr_309_129 (mk_61 _) rfl ?_
  refine Bod.go dc_309_4 rfl ?_
  refine Bod.get dc_309_5 fr_309_190 (mk_61 _) rfl ?_
  refine Bod.eqI (nI j) (by first | assumption | rfl | exact congrArg nI (by omega) | (simp (disch := omega) only [rI, rIe, rA, rIA, rLA, rJA, rVI, rQI, rVA, rQA, upd_at,  rAI, rLI, rJI, nI_add, pk_sub, kc_0, kc_1, kc_2, kc_3, kc_4, kc_5, reduceIte, Nat.reduceEqDiff, Nat.add_zero, rI_hold, rI_hold, rL_hold, ha, hkd]; done)) ?_
  refine Bod.ialdN j rfl (by omega) (by omega) dc_309_8 (mk_67 _) ?_
  refine Bod.eqI (nI kd) (by first | assumption | rfl | exact congrArg nI (by omega) | (simp (disch := omega) only [rI, rIe, rA, rIA, rLA, rJA, rVI, rQI, rVA, rQA, upd_at,  rAI, rLI, rJI, nI_add, pk_sub, kc_0, kc_1, kc_2, kc_3, kc_4, kc_5, reduceIte, Nat.reduceEqDiff, Nat.add_zero, rI_hold, rI_hold, rL_hold, ha, hkd]; done)) ?_
  refine Bod.ic 2 (by decide) dc_309_9 ?_
  refine Bod.icT dc_309_10 rfl (k2_ne_T (k_ne kd 2 rfl rfl (by omega) (by omega) (by omega))) ?_
  refine Bod.ic 0 (by decide) dc_309_30 ?_
  exact Bod.retZ dc_309_31 rt_309 (Or.inl rfl)
theorem rword_T {d : Nat} {S : cS} {j : Nat} {kd : Nat} {c : Nat} {vl : Nat} (ha : sI S 6115 = nI j) (hj : j < 6002) (hkd : sA S 67 j = nI kd) (hkM : kd < 100) (hvl : sA S 68 j = nI vl) (hvM : vl < 100000) (hc : c < 20000) (heq : kd = 2) (hv : vl = c) : Ans (d + 1) 309 [.ref 61, .int (nI c)] S (some (.int 1)) (S) := by
  refine Ans.of (by rw [ml_309]; exact Nat.le_of_ble_eq_true rfl) ?_
  refine Bod.go dc_309_0 rfl ?_
  refine Bod.get dc_309_1 fr_309_129 (mk_61 _) rfl ?_
  refine Bod.go dc_309_4 rfl ?_
  refine Bod.get dc_309_5 fr_309_190 (mk_61 _) rfl ?_
  refine Bod.eqI (nI j) (by first | assumption | rfl | exact congrArg nI (by omega) | (simp (disch := omega) only [rI, rIe, rA, rIA, rLA, rJA, rVI, rQI, rVA, rQA, upd_at,  rAI, rLI, rJI, nI_add, pk_sub, kc_0, kc_1, kc_2, kc_3, kc_4, kc_5, reduceIte, Nat.reduceEqDiff, Nat.add_zero, rI_hold, rI_hold, rL_hold, ha, hkd, hvl]; done)) ?_
  refine Bod.ialdN j rfl (by omega) (by omega) dc_309_8 (mk_67 _) ?_
  refine Bod.eqI (nI kd) (by first | assumption | rfl | exact congrArg nI (by omega) | (simp (disch := omega) only [rI, rIe, rA, rIA, rLA, rJA, rVI, rQI, rVA, rQA, upd_at,  rAI, rLI, rJI, nI_add, pk_sub, kc_0, kc_1, kc_2, kc_3, kc_4, kc_5, reduceIte, Nat.reduceEqDiff, Nat.add_zero, rI_hold, rI_hold, rL_hold, ha, hkd, hvl]; done)) ?_
  refine Bod.ic 2 (by decide) dc_309_9 ?_
  refine Bod.icF dc_309_10 rfl (k2_ne_F (k_eq kd 2 rfl rfl (by omega))) ?_
  refine Bod.go dc_309_13 rfl ?_
  refine Bod.get dc_309_14 fr_309_135 (mk_61 _) rfl ?_
  refine Bod.go dc_309_17 rfl ?_
  refine Bod.get dc_309_18 fr_309_190 (mk_61 _) rfl ?_
  refine Bod.eqI (nI j) (by first | assumption | rfl | exact congrArg nI (by omega) | (simp (disch := omega) only [rI, rIe, rA, rIA, rLA, rJA, rVI, rQI, rVA, rQA, upd_at,  rAI, rLI, rJI, nI_add, pk_sub, kc_0, kc_1, kc_2, kc_3, kc_4, kc_5, reduceIte, Nat.reduceEqDiff, Nat.add_zero, rI_hold, rI_hold, rL_hold, ha, hkd, hvl]; done)) ?_
  refine Bod.ialdN j rfl (by omega) (by omega) dc_309_21 (mk_68 _) ?_
  refine Bod.eqI (nI vl) (by first | assumption | rfl | exact congrArg nI (by omega) | (simp (disch := omega) only [rI, rIe, rA, rIA, rLA, rJA, rVI, rQI, rVA, rQA, upd_at,  rAI, rLI, rJI, nI_add, pk_sub, kc_0, kc_1, kc_2, kc_3, kc_4, kc_5, reduceIte, Nat.reduceEqDiff, Nat.add_zero, rI_hold, rI_hold, rL_hold, ha, hkd, hvl]; done)) ?_
  refine Bod.go dc_309_22 rfl ?_
  refine Bod.icF dc_309_23 rfl (k2_ne_F (k_eq vl c rfl rfl (by omega))) ?_
  refine Bod.ic 1 (by decide) dc_309_26 ?_
  refine Bod.go dc_309_27 rfl ?_
  exact Bod.retZ dc_309_31 rt_309 (Or.inr rfl)
theorem rword_F {d : Nat} {S : cS} {j : Nat} {kd : Nat} {c : Nat} {vl : Nat} (ha : sI S 6115 = nI j) (hj : j < 6002) (hkd : sA S 67 j = nI kd) (hkM : kd < 100) (hvl : sA S 68 j = nI vl) (hvM : vl < 100000) (hc : c < 20000) (heq : kd = 2) (hv : vl ≠ c) : Ans (d + 1) 309 [.ref 61, .int (nI c)] S (some (.int 0)) (S) := by
  refine Ans.of (by rw [ml_309]; exact Nat.le_of_ble_eq_true rfl) ?_
  refine Bod.go dc_309_0 rfl ?_
  refine Bod.get dc_309_1 fr_309_129 (mk_61 _) rfl ?_
  refine Bod.go dc_309_4 rfl ?_
  refine Bod.get dc_309_5 fr_309_190 (mk_61 _) rfl ?_
  refine Bod.eqI (nI j) (by first | assumption | rfl | exact congrArg nI (by omega) | (simp (disch := omega) only [rI, rIe, rA, rIA, rLA, rJA, rVI, rQI, rVA, rQA, upd_at,  rAI, rLI, rJI, nI_add, pk_sub, kc_0, kc_1, kc_2, kc_3, kc_4, kc_5, reduceIte, Nat.reduceEqDiff, Nat.add_zero, rI_hold, rI_hold, rL_hold, ha, hkd, hvl]; done)) ?_
  refine Bod.ialdN j rfl (by omega) (by omega) dc_309_8 (mk_67 _) ?_
  refine Bod.eqI (nI kd) (by first | assumption | rfl | exact congrArg nI (by omega) | (simp (disch := omega) only [rI, rIe, rA, rIA, rLA, rJA, rVI, rQI, rVA, rQA, upd_at,  rAI, rLI, rJI, nI_add, pk_sub, kc_0, kc_1, kc_2, kc_3, kc_4, kc_5, reduceIte, Nat.reduceEqDiff, Nat.add_zero, rI_hold, rI_hold, rL_hold, ha, hkd, hvl]; done)) ?_
  refine Bod.ic 2 (by decide) dc_309_9 ?_
  refine Bod.icF dc_309_10 rfl (k2_ne_F (k_eq kd 2 rfl rfl (by omega))) ?_
  refine Bod.go dc_309_13 rfl ?_
  refine Bod.get dc_309_14 fr_309_135 (mk_61 _) rfl ?_
  refine Bod.go dc_309_17 rfl ?_
  refine Bod.get dc_309_18 fr_309_190 (mk_61 _) rfl ?_
  refine Bod.eqI (nI j) (by first | assumption | rfl | exact congrArg nI (by omega) | (simp (disch := omega) only [rI, rIe, rA, rIA, rLA, rJA, rVI, rQI, rVA, rQA, upd_at,  rAI, rLI, rJI, nI_add, pk_sub, kc_0, kc_1, kc_2, kc_3, kc_4, kc_5, reduceIte, Nat.reduceEqDiff, Nat.add_zero, rI_hold, rI_hold, rL_hold, ha, hkd, hvl]; done)) ?_
  refine Bod.ialdN j rfl (by omega) (by omega) dc_309_21 (mk_68 _) ?_
  refine Bod.eqI (nI vl) (by first | assumption | rfl | exact congrArg nI (by omega) | (simp (disch := omega) only [rI, rIe, rA, rIA, rLA, rJA, rVI, rQI, rVA, rQA, upd_at,  rAI, rLI, rJI, nI_add, pk_sub, kc_0, kc_1, kc_2, kc_3, kc_4, kc_5, reduceIte, Nat.reduceEqDiff, Nat.add_zero, rI_hold, rI_hold, rL_hold, ha, hkd, hvl]; done)) ?_
  refine Bod.go dc_309_22 rfl ?_
  refine Bod.icT dc_309_23 rfl (k2_ne_T (k_ne vl c rfl rfl (by omega) (by omega) (by omega))) ?_
  refine Bod.ic 0 (by decide) dc_309_30 ?_
  exact Bod.retZ dc_309_31 rt_309 (Or.inl rfl)
theorem imax_ge {d : Nat} {S : cS} {a : Nat} {b : Nat} (haM : a < 100000) (hbM : b < 100000) (hab : b ≤ a) : Ans (d + 1) 300 [.int (nI a), .int (nI b)] S (some (.int (nI a))) (S) := by
  refine Ans.of (by rw [ml_300]; exact Nat.le_of_ble_eq_true rfl) ?_
  refine Bod.go dc_300_0 rfl ?_
  refine Bod.go dc_300_1 rfl ?_
  refine Bod.icF dc_300_2 rfl (k2_lt_F a b rfl rfl (by omega) (by omega)) ?_
  refine Bod.go dc_300_5 rfl ?_
  refine Bod.go dc_300_6 rfl ?_
  exact Bod.retI dc_300_10 rt_300
theorem imax_lt {d : Nat} {S : cS} {a : Nat} {b : Nat} (haM : a < 100000) (hbM : b < 100000) (hab : a < b) : Ans (d + 1) 300 [.int (nI a), .int (nI b)] S (some (.int (nI b))) (S) := by
  refine Ans.of (by rw [ml_300]; exact Nat.le_of_ble_eq_true rfl) ?_
  refine Bod.go dc_300_0 rfl ?_
  refine Bod.go dc_300_1 rfl ?_
  refine Bod.icT dc_300_2 rfl (k2_lt_T a b rfl rfl (by omega) (by omega)) ?_
  refine Bod.go dc_300_9 rfl ?_
  exact Bod.retI dc_300_10 rt_300
theorem rbad_1 {d : Nat} {S : cS} {j : Nat} {l : Nat} (ha : sI S 6115 = nI j) (hj : j < 6002) (hf : sI S 6116 = nI 0) (hl : sA S 69 j = nI l) (hlM : l < 100000) (hl1 : 1 < l) : Ans (d + 2) 299 [.ref 61] S (some (.int 0)) (wI 6116 (nI l) S) := by
  refine Ans.of (by rw [ml_299]; exact Nat.le_of_ble_eq_true rfl) ?_
  refine Bod.go dc_299_0 rfl ?_
  refine Bod.get dc_299_1 fr_299_187 (mk_61 _) rfl ?_
  refine Bod.eqI (nI 0) (by first | assumption | rfl | exact congrArg nI (by omega) | (simp (disch := omega) only [rI, rIe, rA, rIA, rLA, rJA, rVI, rQI, rVA, rQA, upd_at,  rAI, rLI, rJI, nI_add, pk_sub, kc_0, kc_1, kc_2, kc_3, kc_4, kc_5, reduceIte, Nat.reduceEqDiff, Nat.add_zero, rI_hold, rI_hold, rL_hold, ha, hf, hl]; done)) ?_
  refine Bod.ifF dc_299_4 rfl (k1_ne_F (k_eq 0 0 rfl rfl (by omega))) ?_
  refine Bod.go dc_299_7 rfl ?_
  refine Bod.ic 1 (by decide) dc_299_8 ?_
  refine Bod.go dc_299_9 rfl ?_
  refine Bod.get dc_299_10 fr_299_138 (mk_61 _) rfl ?_
  refine Bod.go dc_299_13 rfl ?_
  refine Bod.get dc_299_14 fr_299_190 (mk_61 _) rfl ?_
  refine Bod.eqI (nI j) (by first | assumption | rfl | exact congrArg nI (by omega) | (simp (disch := omega) only [rI, rIe, rA, rIA, rLA, rJA, rVI, rQI, rVA, rQA, upd_at,  rAI, rLI, rJI, nI_add, pk_sub, kc_0, kc_1, kc_2, kc_3, kc_4, kc_5, reduceIte, Nat.reduceEqDiff, Nat.add_zero, rI_hold, rI_hold, rL_hold, ha, hf, hl]; done)) ?_
  refine Bod.ialdN j rfl (by omega) (by omega) dc_299_17 (mk_69 _) ?_
  refine Bod.eqI (nI l) (by first | assumption | rfl | exact congrArg nI (by omega) | (simp (disch := omega) only [rI, rIe, rA, rIA, rLA, rJA, rVI, rQI, rVA, rQA, upd_at,  rAI, rLI, rJI, nI_add, pk_sub, kc_0, kc_1, kc_2, kc_3, kc_4, kc_5, reduceIte, Nat.reduceEqDiff, Nat.add_zero, rI_hold, rI_hold, rL_hold, ha, hf, hl]; done)) ?_
  refine Bod.stat (r := [_]) dc_299_18 kr_299_193 (Or.inl rfl) (by rw [np_300]; rfl) (by rw [np_300]; rfl) (by rw [np_300]; exact Nat.le_of_ble_eq_true rfl) (Nat.le_of_ble_eq_true rfl) (imax_lt (a := 1) (b := l) (by omega) (by omega) (by omega)) ?_
  show Bod _ _ _ _ [_, _] _ _ _
  refine Bod.put dc_299_21 fr_299_187 (mk_61 _) (Nat.le_of_ble_eq_true rfl) pf_14_16 (st_6116 _ _) (mu_I _ _ _) ?_
  refine Bod.ic 0 (by decide) dc_299_24 ?_
  exact Bod.retZ dc_299_25 rt_299 (Or.inl rfl)
theorem rbad_0 {d : Nat} {S : cS} {j : Nat} {l : Nat} (ha : sI S 6115 = nI j) (hj : j < 6002) (hf : sI S 6116 = nI 0) (hl : sA S 69 j = nI l) (hlM : l < 100000) (hl1 : l ≤ 1) : Ans (d + 2) 299 [.ref 61] S (some (.int 0)) (wI 6116 (nI 1) S) := by
  refine Ans.of (by rw [ml_299]; exact Nat.le_of_ble_eq_true rfl) ?_
  refine Bod.go dc_299_0 rfl ?_
  refine Bod.get dc_299_1 fr_299_187 (mk_61 _) rfl ?_
  refine Bod.eqI (nI 0) (by first | assumption | rfl | exact congrArg nI (by omega) | (simp (disch := omega) only [rI, rIe, rA, rIA, rLA, rJA, rVI, rQI, rVA, rQA, upd_at,  rAI, rLI, rJI, nI_add, pk_sub, kc_0, kc_1, kc_2, kc_3, kc_4, kc_5, reduceIte, Nat.reduceEqDiff, Nat.add_zero, rI_hold, rI_hold, rL_hold, ha, hf, hl]; done)) ?_
  refine Bod.ifF dc_299_4 rfl (k1_ne_F (k_eq 0 0 rfl rfl (by omega))) ?_
  refine Bod.go dc_299_7 rfl ?_
  refine Bod.ic 1 (by decide) dc_299_8 ?_
  refine Bod.go dc_299_9 rfl ?_
  refine Bod.get dc_299_10 fr_299_138 (mk_61 _) rfl ?_
  refine Bod.go dc_299_13 rfl ?_
  refine Bod.get dc_299_14 fr_299_190 (mk_61 _) rfl ?_
  refine Bod.eqI (nI j) (by first | assumption | rfl | exact congrArg nI (by omega) | (simp (disch := omega) only [rI, rIe, rA, rIA, rLA, rJA, rVI, rQI, rVA, rQA, upd_at,  rAI, rLI, rJI, nI_add, pk_sub, kc_0, kc_1, kc_2, kc_3, kc_4, kc_5, reduceIte, Nat.reduceEqDiff, Nat.add_zero, rI_hold, rI_hold, rL_hold, ha, hf, hl]; done)) ?_
  refine Bod.ialdN j rfl (by omega) (by omega) dc_299_17 (mk_69 _) ?_
  refine Bod.eqI (nI l) (by first | assumption | rfl | exact congrArg nI (by omega) | (simp (disch := omega) only [rI, rIe, rA, rIA, rLA, rJA, rVI, rQI, rVA, rQA, upd_at,  rAI, rLI, rJI, nI_add, pk_sub, kc_0, kc_1, kc_2, kc_3, kc_4, kc_5, reduceIte, Nat.reduceEqDiff, Nat.add_zero, rI_hold, rI_hold, rL_hold, ha, hf, hl]; done)) ?_
  refine Bod.stat (r := [_]) dc_299_18 kr_299_193 (Or.inl rfl) (by rw [np_300]; rfl) (by rw [np_300]; rfl) (by rw [np_300]; exact Nat.le_of_ble_eq_true rfl) (Nat.le_of_ble_eq_true rfl) (imax_ge (a := 1) (b := l) (by omega) (by omega) (by omega)) ?_
  show Bod _ _ _ _ [_, _] _ _ _
  refine Bod.put dc_299_21 fr_299_187 (mk_61 _) (Nat.le_of_ble_eq_true rfl) pf_14_16 (st_6116 _ _) (mu_I _ _ _) ?_
  refine Bod.ic 0 (by decide) dc_299_24 ?_
  exact Bod.retZ dc_299_25 rt_299 (Or.inl rfl)
theorem rtake_T {d : Nat} {S : cS} {j : Nat} {c : Nat} (ha : sI S 6115 = nI j) (hj : j < 6002) (hS1 : Ans (d + 2) 314 [.ref 61, .int (nI c)] S (some (.int (nI 1))) S) : Ans (d + 3) 323 [.ref 61, .int (nI c)] S (some (.int 1)) (wI 6115 (nI (j + 1)) S) := by
  refine Ans.of (by rw [ml_323]; exact Nat.le_of_ble_eq_true rfl) ?_
  refine Bod.go dc_323_0 rfl ?_
  refine Bod.go dc_323_1 rfl ?_
  refine Bod.virt (r := []) dc_323_2 kr_323_199 ⟨Or.inl rfl, ow_314, cl_14⟩ (by rw [np_314]; rfl) (by rw [np_314]; rfl) (ob_of (mk_61 _)) (Nat.le_of_ble_eq_true rfl) (hS1  ) ?_
  show Bod _ _ _ _ [_] _ _ _
  refine Bod.ifT dc_323_5 rfl (k1_ne_T (k_ne 1 0 rfl rfl (by omega) (by omega) (by omega))) ?_
  refine Bod.go dc_323_13 rfl ?_
  refine Bod.go dc_323_14 rfl ?_
  refine Bod.get dc_323_15 fr_323_190 (mk_61 _) rfl ?_
  refine Bod.eqI (nI j) (by first | assumption | rfl | exact congrArg nI (by omega) | (simp (disch := omega) only [rI, rIe, rA, rIA, rLA, rJA, rVI, rQI, rVA, rQA, upd_at,  rAI, rLI, rJI, nI_add, pk_sub, kc_0, kc_1, kc_2, kc_3, kc_4, kc_5, reduceIte, Nat.reduceEqDiff, Nat.add_zero, rI_hold, rI_hold, rL_hold, ha]; done)) ?_
  refine Bod.ic 1 (by decide) dc_323_18 ?_
  refine Bod.addN (j + 1) (by omega) dc_323_19 ?_
  refine Bod.put dc_323_20 fr_323_190 (mk_61 _) (Nat.le_of_ble_eq_true rfl) pf_14_15 (st_6115 _ _) (mu_I _ _ _) ?_
  refine Bod.ic 1 (by decide) dc_323_23 ?_
  exact Bod.retZ dc_323_24 rt_323 (Or.inr rfl)
theorem rtake_F {d : Nat} {S : cS} {c : Nat} {S1 : cS} (hS0 : Ans (d + 2) 314 [.ref 61, .int (nI c)] S (some (.int (nI 0))) S) (hB : Ans (d + 2) 299 [.ref 61] S (some (.int (nI 0))) S1) : Ans (d + 3) 323 [.ref 61, .int (nI c)] S (some (.int 0)) (S1) := by
  refine Ans.of (by rw [ml_323]; exact Nat.le_of_ble_eq_true rfl) ?_
  refine Bod.go dc_323_0 rfl ?_
  refine Bod.go dc_323_1 rfl ?_
  refine Bod.virt (r := []) dc_323_2 kr_323_199 ⟨Or.inl rfl, ow_314, cl_14⟩ (by rw [np_314]; rfl) (by rw [np_314]; rfl) (ob_of (mk_61 _)) (Nat.le_of_ble_eq_true rfl) (hS0  ) ?_
  show Bod _ _ _ _ [_] _ _ _
  refine Bod.ifF dc_323_5 rfl (k1_ne_F (k_eq 0 0 rfl rfl (by omega))) ?_
  refine Bod.go dc_323_8 rfl ?_
  refine Bod.virt (r := []) dc_323_9 kr_323_202 ⟨Or.inl rfl, ow_299, cl_14⟩ (by rw [np_299]; rfl) (by rw [np_299]; rfl) (ob_of (mk_61 _)) (Nat.le_of_ble_eq_true rfl) (hB  ) ?_
  show Bod _ _ _ _ [_] _ _ _
  exact Bod.retZ dc_323_12 rt_323 (Or.inl rfl)
theorem rput1 {d : Nat} {S : cS} {m : Nat} {u : Nat} {x : Int32} {S1 : cS} (hm : 108 ≤ m) (hs : (sS S)[m - 108]? = some (12, u)) (hcode : sV S 6114 = .ref m) (hP : Ans (d + 3) 303 [.ref m, .int x] S none S1) : Ans (d + 4) 322 [.ref 61, .int x] S (none) (S1) := by
  refine Ans.of (by rw [ml_322]; exact Nat.le_of_ble_eq_true rfl) ?_
  refine Bod.go dc_322_0 rfl ?_
  refine Bod.get dc_322_1 fr_322_206 (mk_61 _) rfl ?_
  refine Bod.eqV (.ref m) hcode ?_
  refine Bod.go dc_322_4 rfl ?_
  refine Bod.virt (r := []) dc_322_5 kr_322_210 ⟨Or.inl rfl, ow_303, cl_12⟩ (by rw [np_303]; rfl) (by rw [np_303]; rfl) (ob_of (mk_code hm hs)) (Nat.le_of_ble_eq_true rfl) (hP  ) ?_
  show Bod _ _ _ _ [] _ _ _
  exact Bod.retV dc_322_8 rt_322
theorem rput2 {d : Nat} {S : cS} {m : Nat} {u : Nat} {x : Int32} {y : Int32} {S1 : cS} {S2 : cS} (hm : 108 ≤ m) (hs : (sS S)[m - 108]? = some (12, u)) (hcode : sV S 6114 = .ref m) (hcode1 : sV S1 6114 = .ref m) (hs1 : (sS S1)[m - 108]? = some (12, u)) (hP : Ans (d + 3) 303 [.ref m, .int x] S none S1) (hP2 : Ans (d + 3) 303 [.ref m, .int y] S1 none S2) : Ans (d + 4) 302 [.ref 61, .int x, .int y] S (none) (S2) := by
  refine Ans.of (by rw [ml_302]; exact Nat.le_of_ble_eq_true rfl) ?_
  refine Bod.go dc_302_0 rfl ?_
  refine Bod.get dc_302_1 fr_302_206 (mk_61 _) rfl ?_
  refine Bod.eqV (.ref m) (by first | exact hcode | exact hcode1) ?_
  refine Bod.go dc_302_4 rfl ?_
  refine Bod.virt (r := []) dc_302_5 kr_302_210 ⟨Or.inl rfl, ow_303, cl_12⟩ (by rw [np_303]; rfl) (by rw [np_303]; rfl) (ob_of (mk_code hm (by first | exact hs | exact hs1))) (Nat.le_of_ble_eq_true rfl) (hP  ) ?_
  show Bod _ _ _ _ [] _ _ _
  refine Bod.go dc_302_8 rfl ?_
  refine Bod.get dc_302_9 fr_302_206 (mk_61 _) rfl ?_
  refine Bod.eqV (.ref m) (by first | exact (by first | exact hcode | exact hcode1) | (simp only [rIV, rJV, rAV, rLV, rQV]; exact (by first | exact hcode | exact hcode1))) ?_
  refine Bod.go dc_302_12 rfl ?_
  refine Bod.virt (r := []) dc_302_13 kr_302_210 ⟨Or.inl rfl, ow_303, cl_12⟩ (by rw [np_303]; rfl) (by rw [np_303]; rfl) (ob_of (mk_code hm (by first | exact hs | exact hs1))) (Nat.le_of_ble_eq_true rfl) (hP2  ) ?_
  show Bod _ _ _ _ [] _ _ _
  exact Bod.retV dc_302_16 rt_302
theorem rhole {d : Nat} {S : cS} {m : Nat} {u : Nat} {x : Int32} {k : Nat} {S1 : cS} (hm : 108 ≤ m) (hs : (sS S)[m - 108]? = some (12, u)) (hcode : sV S 6114 = .ref m) (hcode1 : sV S1 6114 = .ref m) (hs1 : (sS S1)[m - 108]? = some (12, u)) (hQ : Ans (d + 4) 302 [.ref 61, .int x, .int (nI 0)] S none S1) (hk : sI S1 (100 * m + 1) = nI k) (hk1 : 1 ≤ k) (hkM : k < 2 ^ 20) : Ans (d + 5) 325 [.ref 61, .int x] S (some (.int (nI (k - 1)))) (S1) := by
  refine Ans.of (by rw [ml_325]; exact Nat.le_of_ble_eq_true rfl) ?_
  refine Bod.go dc_325_0 rfl ?_
  refine Bod.go dc_325_1 rfl ?_
  refine Bod.ic 0 (by decide) dc_325_2 ?_
  refine Bod.virt (r := []) dc_325_3 kr_325_216 ⟨Or.inl rfl, ow_302, cl_14⟩ (by rw [np_302]; rfl) (by rw [np_302]; rfl) (ob_of (mk_61 _)) (Nat.le_of_ble_eq_true rfl) (hQ  ) ?_
  show Bod _ _ _ _ [] _ _ _
  refine Bod.go dc_325_6 rfl ?_
  refine Bod.get dc_325_7 fr_325_206 (mk_61 _) rfl ?_
  refine Bod.eqV (.ref m) (by first | exact (by first | exact hcode | exact hcode1) | (simp only [rIV, rJV, rAV, rLV, rQV]; exact (by first | exact hcode | exact hcode1))) ?_
  refine Bod.get dc_325_10 fr_325_219 (mk_code hm (by first | exact hs | exact hs1)) rfl ?_
  refine Bod.eqI (nI k) (by first | (simp (disch := omega) only [rI, rIe, rA, rIA, rLA, rJA, rVI, rQI, rVA, rQA, upd_at,  rAI, rLI, rJI, nI_add, pk_sub, kc_0, kc_1, kc_2, kc_3, kc_4, kc_5, reduceIte, Nat.reduceEqDiff, Nat.add_zero, rI_hold, rI_hold, rL_hold, hk]; done) | (simp (disch := omega) only [rI, rIe, rA, rIA, rLA, rJA, rVI, rQI, rVA, rQA, upd_at,  rAI, rLI, rJI, nI_add, pk_sub, kc_0, kc_1, kc_2, kc_3, kc_4, kc_5, reduceIte, Nat.reduceEqDiff, Nat.add_zero, rI_hold, rI_hold, rL_hold, hk]; exact congrArg nI (by omega))) ?_
  refine Bod.ic 1 (by decide) dc_325_13 ?_
  refine Bod.subN (k - 1) (by omega) (by omega) dc_325_14 ?_
  exact Bod.retI dc_325_15 rt_325
theorem rfill {d : Nat} {S : cS} {m : Nat} {u : Nat} {g : Nat} {N : Nat} {k : Nat} {h : Nat} (hm : 108 ≤ m) (hs : (sS S)[m - 108]? = some (12, u)) (hcode : sV S 6114 = .ref m) (hv : sV S (100 * m + 0) = .ref g) (hg : isK S g 0 N) (hk : sI S (100 * m + 1) = nI k) (hh : h < k) (hkN : k ≤ N) (hN : N < 2 ^ 20) : Ans (d + 1) 326 [.ref 61, .int (nI h)] S (none) (wA g h (nI (k - h)) S) := by
  refine Ans.of (by rw [ml_326]; exact Nat.le_of_ble_eq_true rfl) ?_
  refine Bod.go dc_326_0 rfl ?_
  refine Bod.get dc_326_1 fr_326_206 (mk_61 _) rfl ?_
  refine Bod.eqV (.ref m) hcode ?_
  refine Bod.get dc_326_4 fr_326_222 (mk_code hm hs) rfl ?_
  refine Bod.eqV (.ref g) hv ?_
  refine Bod.go dc_326_7 rfl ?_
  refine Bod.go dc_326_8 rfl ?_
  refine Bod.get dc_326_9 fr_326_206 (mk_61 _) rfl ?_
  refine Bod.eqV (.ref m) hcode ?_
  refine Bod.get dc_326_12 fr_326_219 (mk_code hm hs) rfl ?_
  refine Bod.eqI (nI k) (by first | assumption | rfl | exact congrArg nI (by omega) | (simp (disch := omega) only [rI, rIe, rA, rIA, rLA, rJA, rVI, rQI, rVA, rQA, upd_at,  rAI, rLI, rJI, nI_add, pk_sub, kc_0, kc_1, kc_2, kc_3, kc_4, kc_5, reduceIte, Nat.reduceEqDiff, Nat.add_zero, rI_hold, rI_hold, rL_hold, hk]; done)) ?_
  refine Bod.go dc_326_15 rfl ?_
  refine Bod.subN (k - h) (by omega) (by omega) dc_326_16 ?_
  refine Bod.iastN (N := N) h rfl (by omega) (by omega) dc_326_17 (mk_isI hg) (sa_isI hg) (mu_A _ _ _ _) ?_
  exact Bod.retV dc_326_18 rt_326
theorem rcut {d : Nat} {S : cS} {m : Nat} {u : Nat} {t : Nat} (hm : 108 ≤ m) (hs : (sS S)[m - 108]? = some (12, u)) (hcode : sV S 6114 = .ref m) (ht : sI S 6132 = nI t) (htM : t < 2 ^ 20) : Ans (d + 1) 327 [.ref 61] S (none) (wI (100 * m + 1) (nI t) S) := by
  refine Ans.of (by rw [ml_327]; exact Nat.le_of_ble_eq_true rfl) ?_
  refine Bod.go dc_327_0 rfl ?_
  refine Bod.get dc_327_1 fr_327_206 (mk_61 _) rfl ?_
  refine Bod.eqV (.ref m) hcode ?_
  refine Bod.go dc_327_4 rfl ?_
  refine Bod.get dc_327_5 fr_327_425 (mk_61 _) rfl ?_
  refine Bod.eqI (nI t) (by first | assumption | rfl | exact congrArg nI (by omega) | (simp (disch := omega) only [rI, rIe, rA, rIA, rLA, rJA, rVI, rQI, rVA, rQA, upd_at,  rAI, rLI, rJI, nI_add, pk_sub, kc_0, kc_1, kc_2, kc_3, kc_4, kc_5, reduceIte, Nat.reduceEqDiff, Nat.add_zero, rI_hold, rI_hold, rL_hold, ht]; done)) ?_
  refine Bod.put dc_327_8 fr_327_219 (mk_code hm hs) (Nat.le_of_ble_eq_true rfl) pf_12_1 (st_code_1 hm hs) (mu_I _ _ _) ?_
  exact Bod.retV dc_327_11 rt_327
