/-! CODE of the reference: put -/
theorem dc_303_0 : decode (sm_cc 303) 0 = .ok (.aload_n 0, 1) := by decide +kernel
theorem dc_303_1 : decode (sm_cc 303) 1 = .ok (.getfield 35, 3) := by decide +kernel
theorem fr_303_35 : sm_at mt_f (sm_ow 303) 35 = some (35, 12, 1, 0, 2410) := by decide +kernel
theorem dc_303_4 : decode (sm_cc 303) 4 = .ok (.aload_n 0, 1) := by decide +kernel
theorem dc_303_5 : decode (sm_cc 303) 5 = .ok (.getfield 7, 3) := by decide +kernel
theorem fr_303_7 : sm_at mt_f (sm_ow 303) 7 = some (7, 12, 0, 0, 2408) := by decide +kernel
theorem dc_303_8 : decode (sm_cc 303) 8 = .ok (.arraylength, 1) := by decide +kernel
theorem dc_303_9 : decode (sm_cc 303) 9 = .ok (.if_icmp .ne (20), 3) := by decide +kernel
theorem dc_303_29 : decode (sm_cc 303) 29 = .ok (.aload_n 0, 1) := by decide +kernel
theorem dc_303_30 : decode (sm_cc 303) 30 = .ok (.getfield 7, 3) := by decide +kernel
theorem dc_303_33 : decode (sm_cc 303) 33 = .ok (.aload_n 0, 1) := by decide +kernel
theorem dc_303_34 : decode (sm_cc 303) 34 = .ok (.getfield 35, 3) := by decide +kernel
theorem dc_303_37 : decode (sm_cc 303) 37 = .ok (.iload_n 1, 1) := by decide +kernel
theorem dc_303_38 : decode (sm_cc 303) 38 = .ok (.iastore, 1) := by decide +kernel
theorem dc_303_39 : decode (sm_cc 303) 39 = .ok (.aload_n 0, 1) := by decide +kernel
theorem dc_303_40 : decode (sm_cc 303) 40 = .ok (.dup, 1) := by decide +kernel
theorem dc_303_41 : decode (sm_cc 303) 41 = .ok (.getfield 35, 3) := by decide +kernel
theorem dc_303_44 : decode (sm_cc 303) 44 = .ok (.iconst 1, 1) := by decide +kernel
theorem dc_303_45 : decode (sm_cc 303) 45 = .ok (.iadd, 1) := by decide +kernel
theorem dc_303_46 : decode (sm_cc 303) 46 = .ok (.putfield 35, 3) := by decide +kernel
theorem dc_303_49 : decode (sm_cc 303) 49 = .ok (.return_, 1) := by decide +kernel
theorem rt_303 : sm_rt 303 = none := by decide +kernel
theorem ml_303 : sm_ml 303 = 2 := by decide +kernel
theorem dc_303_12 : decode (sm_cc 303) 12 = .ok (.aload_n 0, 1) := by decide +kernel
theorem dc_303_13 : decode (sm_cc 303) 13 = .ok (.aload_n 0, 1) := by decide +kernel
theorem dc_303_14 : decode (sm_cc 303) 14 = .ok (.getfield 7, 3) := by decide +kernel
theorem dc_303_17 : decode (sm_cc 303) 17 = .ok (.iconst 2, 1) := by decide +kernel
theorem dc_303_18 : decode (sm_cc 303) 18 = .ok (.aload_n 0, 1) := by decide +kernel
theorem dc_303_19 : decode (sm_cc 303) 19 = .ok (.getfield 35, 3) := by decide +kernel
theorem dc_303_22 : decode (sm_cc 303) 22 = .ok (.imul, 1) := by decide +kernel
theorem dc_303_23 : decode (sm_cc 303) 23 = .ok (.invokestatic 39, 3) := by decide +kernel
theorem kr_303_39 : sm_at mt_k (sm_ow 303) 39 = some (39, 2, 296, 0, 2473) := by decide +kernel
theorem dc_303_26 : decode (sm_cc 303) 26 = .ok (.putfield 7, 3) := by decide +kernel
theorem cput_fit {d : Nat} {S : cS} {m : Nat} {u : Nat} {g : Nat} {N : Nat} {k : Nat} {x : Int32} (hm : 108 ≤ m) (hs : (sS S)[m - 108]? = some (12, u)) (hv : sV S (100 * m + 0) = .ref g) (hg : isK S g 0 N) (hk : sI S (100 * m + 1) = nI k) (hkN : k < N) (hN : N < 2 ^ 20) : Ans (d + 1) 303 [.ref m, .int x] S (none) (wI (100 * m + 1) (nI (k + 1)) (wA g k x S)) := by
  refine Ans.of (by rw [ml_303]; exact Nat.le_of_ble_eq_true rfl) ?_
  refine Bod.go dc_303_0 rfl ?_
  refine Bod.get dc_303_1 fr_303_35 (mk_code hm hs) rfl ?_
  refine Bod.eqI (nI k) (by first | assumption | rfl | exact congrArg nI (by omega) | (simp (disch := omega) only [rI, rIe, rA, rIA, rLA, rJA, rVI, rQI, rVA, rQA, upd_at,  rAI, rLI, rJI, nI_add, pk_sub, kc_0, kc_1, kc_2, kc_3, kc_4, kc_5, reduceIte, Nat.reduceEqDiff, Nat.add_zero, rI_hold, rI_hold, rL_hold, hk]; done)) ?_
  refine Bod.go dc_303_4 rfl ?_
  refine Bod.get dc_303_5 fr_303_7 (mk_code hm hs) rfl ?_
  refine Bod.eqV (.ref g) hv ?_
  refine Bod.alenN (N := N) dc_303_8 (mk_isI hg) el_0 ?_
  refine Bod.icT dc_303_9 rfl (k2_ne_T (k_ne k N rfl rfl (by omega) (by omega) (by omega))) ?_
  refine Bod.go dc_303_29 rfl ?_
  refine Bod.get dc_303_30 fr_303_7 (mk_code hm hs) rfl ?_
  refine Bod.eqV (.ref g) hv ?_
  refine Bod.go dc_303_33 rfl ?_
  refine Bod.get dc_303_34 fr_303_35 (mk_code hm hs) rfl ?_
  refine Bod.eqI (nI k) (by first | assumption | rfl | exact congrArg nI (by omega) | (simp (disch := omega) only [rI, rIe, rA, rIA, rLA, rJA, rVI, rQI, rVA, rQA, upd_at,  rAI, rLI, rJI, nI_add, pk_sub, kc_0, kc_1, kc_2, kc_3, kc_4, kc_5, reduceIte, Nat.reduceEqDiff, Nat.add_zero, rI_hold, rI_hold, rL_hold, hk]; done)) ?_
  refine Bod.go dc_303_37 rfl ?_
  refine Bod.iastN (N := N) k rfl (by omega) (by omega) dc_303_38 (mk_isI hg) (sa_isI hg) (mu_A _ _ _ _) ?_
  refine Bod.go dc_303_39 rfl ?_
  refine Bod.go dc_303_40 rfl ?_
  refine Bod.get dc_303_41 fr_303_35 (mk_code hm (by simp only [rIS, rJS, rAS, rLS, rVS, rQS, rS_hold]; exact hs)) rfl ?_
  refine Bod.eqI (nI k) (by first | (simp (disch := omega) only [rI, rIe, rA, rIA, rLA, rJA, rVI, rQI, rVA, rQA, upd_at,  rAI, rLI, rJI, nI_add, pk_sub, kc_0, kc_1, kc_2, kc_3, kc_4, kc_5, reduceIte, Nat.reduceEqDiff, Nat.add_zero, rI_hold, rI_hold, rL_hold, hk]; done) | (simp (disch := omega) only [rI, rIe, rA, rIA, rLA, rJA, rVI, rQI, rVA, rQA, upd_at,  rAI, rLI, rJI, nI_add, pk_sub, kc_0, kc_1, kc_2, kc_3, kc_4, kc_5, reduceIte, Nat.reduceEqDiff, Nat.add_zero, rI_hold, rI_hold, rL_hold, hk]; exact congrArg nI (by omega))) ?_
  refine Bod.ic 1 (by decide) dc_303_44 ?_
  refine Bod.addN (k + 1) (by omega) dc_303_45 ?_
  refine Bod.put dc_303_46 fr_303_35 (mk_code hm (by simp only [rIS, rJS, rAS, rLS, rVS, rQS, rS_hold]; exact hs)) (Nat.le_of_ble_eq_true rfl) pf_12_1 (st_code_1 hm (by simp only [rIS, rJS, rAS, rLS, rVS, rQS, rS_hold]; exact hs)) (mu_I _ _ _) ?_
  exact Bod.retV dc_303_49 rt_303
theorem cput_tail {d m u g N k : Nat} {x : Int32} {S : cS} (hm : 108 ≤ m) (hs : (sS S)[m - 108]? = some (12, u)) (hv : sV S (100 * m + 0) = .ref g) (hg : isK S g 0 N) (hk : sI S (100 * m + 1) = nI k) (hkN : k < N) (hN : N < 2 ^ 20) : Bod d 303 29 (lv_args 0 [.ref m, .int x]) [] S none (wI (100 * m + 1) (nI (k + 1)) (wA g k x S)) := by
  refine Bod.go dc_303_29 rfl ?_
  refine Bod.get dc_303_30 fr_303_7 (mk_code hm hs) rfl ?_
  refine Bod.eqV (.ref g) hv ?_
  refine Bod.go dc_303_33 rfl ?_
  refine Bod.get dc_303_34 fr_303_35 (mk_code hm hs) rfl ?_
  refine Bod.eqI (nI k) (by first | assumption | rfl | exact congrArg nI (by omega) | (simp (disch := omega) only [rI, rIe, rA, rIA, rLA, rJA, rVI, rQI, rVA, rQA, upd_at,  rAI, rLI, rJI, nI_add, pk_sub, kc_0, kc_1, kc_2, kc_3, kc_4, kc_5, reduceIte, Nat.reduceEqDiff, Nat.add_zero, rI_hold, rI_hold, rL_hold, hk]; done)) ?_
  refine Bod.go dc_303_37 rfl ?_
  refine Bod.iastN (N := N) k rfl (by omega) (by omega) dc_303_38 (mk_isI hg) (sa_isI hg) (mu_A _ _ _ _) ?_
  refine Bod.go dc_303_39 rfl ?_
  refine Bod.go dc_303_40 rfl ?_
  refine Bod.get dc_303_41 fr_303_35 (mk_code hm (by simp only [rIS, rJS, rAS, rLS, rVS, rQS, rS_hold]; exact hs)) rfl ?_
  refine Bod.eqI (nI k) (by first | (simp (disch := omega) only [rI, rIe, rA, rIA, rLA, rJA, rVI, rQI, rVA, rQA, upd_at,  rAI, rLI, rJI, nI_add, pk_sub, kc_0, kc_1, kc_2, kc_3, kc_4, kc_5, reduceIte, Nat.reduceEqDiff, Nat.add_zero, rI_hold, rI_hold, rL_hold, hk]; done) | (simp (disch := omega) only [rI, rIe, rA, rIA, rLA, rJA, rVI, rQI, rVA, rQA, upd_at,  rAI, rLI, rJI, nI_add, pk_sub, kc_0, kc_1, kc_2, kc_3, kc_4, kc_5, reduceIte, Nat.reduceEqDiff, Nat.add_zero, rI_hold, rI_hold, rL_hold, hk]; exact congrArg nI (by omega))) ?_
  refine Bod.ic 1 (by decide) dc_303_44 ?_
  refine Bod.addN (k + 1) (by omega) dc_303_45 ?_
  refine Bod.put dc_303_46 fr_303_35 (mk_code hm (by simp only [rIS, rJS, rAS, rLS, rVS, rQS, rS_hold]; exact hs)) (Nat.le_of_ble_eq_true rfl) pf_12_1 (st_code_1 hm (by simp only [rIS, rJS, rAS, rLS, rVS, rQS, rS_hold]; exact hs)) (mu_I _ _ _) ?_
  exact Bod.retV dc_303_49 rt_303
theorem cput_more {d m u g b k : Nat} {x : Int32} {S S1 Sf : cS} {v : Option Value} (hm : 108 ≤ m) (hs : (sS S)[m - 108]? = some (12, u)) (hs1 : (sS S1)[m - 108]? = some (12, u)) (hv : sV S (100 * m + 0) = .ref g) (hg : isK S g 0 k) (hk : sI S (100 * m + 1) = nI k) (hN : k < 2 ^ 20) (hC : Ans (d + 2) 296 [.ref g, .int (nI (2 * k))] S (some (.ref b)) S1) (hB : Bod (d + 2) 303 29 (lv_args 0 [.ref m, .int x]) [] (wV (100 * m + 0) (.ref b) S1) v Sf) : Ans (d + 3) 303 [.ref m, .int x] S v Sf := by
  refine Ans.of (by rw [ml_303]; exact Nat.le_of_ble_eq_true rfl) ?_
  refine Bod.go dc_303_0 rfl ?_
  refine Bod.get dc_303_1 fr_303_35 (mk_code hm hs) rfl ?_
  refine Bod.eqI (nI k) (by first | assumption | rfl | exact congrArg nI (by omega) | (simp (disch := omega) only [rI, rIe, rA, rIA, rLA, rJA, rVI, rQI, rVA, rQA, upd_at,  rAI, rLI, rJI, nI_add, pk_sub, kc_0, kc_1, kc_2, kc_3, kc_4, kc_5, reduceIte, Nat.reduceEqDiff, Nat.add_zero, rI_hold, rI_hold, rL_hold, hk]; done)) ?_
  refine Bod.go dc_303_4 rfl ?_
  refine Bod.get dc_303_5 fr_303_7 (mk_code hm hs) rfl ?_
  refine Bod.eqV (.ref g) hv ?_
  refine Bod.alenN (N := k) dc_303_8 (mk_isI hg) el_0 ?_
  refine Bod.icF dc_303_9 rfl (k2_ne_F (k_eq k k rfl rfl (by omega))) ?_
  refine Bod.go dc_303_12 rfl ?_
  refine Bod.go dc_303_13 rfl ?_
  refine Bod.get dc_303_14 fr_303_7 (mk_code hm hs) rfl ?_
  refine Bod.eqV (.ref g) hv ?_
  refine Bod.ic 2 (by decide) dc_303_17 ?_
  refine Bod.go dc_303_18 rfl ?_
  refine Bod.get dc_303_19 fr_303_35 (mk_code hm hs) rfl ?_
  refine Bod.eqI (nI k) (by first | assumption | rfl | exact congrArg nI (by omega) | (simp (disch := omega) only [rI, rIe, rA, rIA, rLA, rJA, rVI, rQI, rVA, rQA, upd_at,  rAI, rLI, rJI, nI_add, pk_sub, kc_0, kc_1, kc_2, kc_3, kc_4, kc_5, reduceIte, Nat.reduceEqDiff, Nat.add_zero, rI_hold, rI_hold, rL_hold, hk]; done)) ?_
  refine Bod.mulN (2 * k) (by omega) dc_303_22 ?_
  refine Bod.stat (r := [_]) dc_303_23 kr_303_39 (Or.inl rfl) (by rw [np_296]; rfl) (by rw [np_296]; rfl) (by rw [np_296]; exact Nat.le_of_ble_eq_true rfl) (Nat.le_of_ble_eq_true rfl) (hC  ) ?_
  show Bod _ _ _ _ [_, _] _ _ _
  refine Bod.put dc_303_26 fr_303_7 (mk_code hm hs1) (Nat.le_of_ble_eq_true rfl) pr_12_0 (st_code_0 hm hs1) (mu_V _ _ _) ?_
  exact hB
