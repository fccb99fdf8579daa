/-! FEED: the class, and both refusals -/
theorem dc_28_0 : decode (sm_cc 28) 0 = .ok (.bipush (24), 2) := by decide +kernel
theorem dc_28_2 : decode (sm_cc 28) 2 = .ok (.istore_n 2, 1) := by decide +kernel
theorem ml_28 : sm_ml 28 = 3 := by decide +kernel
theorem dc_28_3 : decode (sm_cc 28) 3 = .ok (.iload_n 2, 1) := by decide +kernel
theorem dc_28_4 : decode (sm_cc 28) 4 = .ok (.ifCond .lt (42), 3) := by decide +kernel
theorem dc_28_7 : decode (sm_cc 28) 7 = .ok (.aload_n 0, 1) := by decide +kernel
theorem dc_28_8 : decode (sm_cc 28) 8 = .ok (.getfield 81, 3) := by decide +kernel
theorem fr_28_81 : sm_at mt_f (sm_ow 28) 81 = some (81, 11, 7, 0, 904) := by decide +kernel
theorem dc_28_11 : decode (sm_cc 28) 11 = .ok (.sipush (3000), 3) := by decide +kernel
theorem dc_28_14 : decode (sm_cc 28) 14 = .ok (.if_icmp .ge (32), 3) := by decide +kernel
theorem dc_28_17 : decode (sm_cc 28) 17 = .ok (.aload_n 0, 1) := by decide +kernel
theorem dc_28_18 : decode (sm_cc 28) 18 = .ok (.getfield 9, 3) := by decide +kernel
theorem fr_28_9 : sm_at mt_f (sm_ow 28) 9 = some (9, 11, 0, 0, 897) := by decide +kernel
theorem dc_28_21 : decode (sm_cc 28) 21 = .ok (.aload_n 0, 1) := by decide +kernel
theorem dc_28_22 : decode (sm_cc 28) 22 = .ok (.getfield 81, 3) := by decide +kernel
theorem dc_28_25 : decode (sm_cc 28) 25 = .ok (.iload_n 1, 1) := by decide +kernel
theorem dc_28_26 : decode (sm_cc 28) 26 = .ok (.iload_n 2, 1) := by decide +kernel
theorem dc_28_27 : decode (sm_cc 28) 27 = .ok (.iushr, 1) := by decide +kernel
theorem dc_28_28 : decode (sm_cc 28) 28 = .ok (.i2b, 1) := by decide +kernel
theorem dc_28_29 : decode (sm_cc 28) 29 = .ok (.bastore, 1) := by decide +kernel
theorem dc_28_30 : decode (sm_cc 28) 30 = .ok (.aload_n 0, 1) := by decide +kernel
theorem dc_28_31 : decode (sm_cc 28) 31 = .ok (.dup, 1) := by decide +kernel
theorem dc_28_32 : decode (sm_cc 28) 32 = .ok (.getfield 81, 3) := by decide +kernel
theorem dc_28_35 : decode (sm_cc 28) 35 = .ok (.iconst 1, 1) := by decide +kernel
theorem dc_28_36 : decode (sm_cc 28) 36 = .ok (.iadd, 1) := by decide +kernel
theorem dc_28_37 : decode (sm_cc 28) 37 = .ok (.putfield 81, 3) := by decide +kernel
theorem dc_28_40 : decode (sm_cc 28) 40 = .ok (.iinc 2 (-8), 3) := by decide +kernel
theorem dc_28_43 : decode (sm_cc 28) 43 = .ok (.goto (-40), 3) := by decide +kernel
theorem dc_28_46 : decode (sm_cc 28) 46 = .ok (.return_, 1) := by decide +kernel
theorem rt_28 : sm_rt 28 = none := by decide +kernel
theorem dc_27_0 : decode (sm_cc 27) 0 = .ok (.aload_n 0, 1) := by decide +kernel
theorem dc_27_1 : decode (sm_cc 27) 1 = .ok (.getfield 81, 3) := by decide +kernel
theorem fr_27_81 : sm_at mt_f (sm_ow 27) 81 = some (81, 11, 7, 0, 904) := by decide +kernel
theorem dc_27_4 : decode (sm_cc 27) 4 = .ok (.bipush (20), 2) := by decide +kernel
theorem dc_27_6 : decode (sm_cc 27) 6 = .ok (.iadd, 1) := by decide +kernel
theorem dc_27_7 : decode (sm_cc 27) 7 = .ok (.sipush (3000), 3) := by decide +kernel
theorem dc_27_10 : decode (sm_cc 27) 10 = .ok (.if_icmp .le (5), 3) := by decide +kernel
theorem dc_27_15 : decode (sm_cc 27) 15 = .ok (.aload_n 0, 1) := by decide +kernel
theorem dc_27_16 : decode (sm_cc 27) 16 = .ok (.iload_n 1, 1) := by decide +kernel
theorem dc_27_17 : decode (sm_cc 27) 17 = .ok (.invokevirtual 85, 3) := by decide +kernel
theorem ow_28 : 11 = sm_ow 28 := by decide +kernel
theorem kr_27_85 : sm_at mt_k (sm_ow 27) 85 = some (85, 0, 28, 0, 929) := by decide +kernel
theorem np_28 : sm_np 28 = 1 := by decide +kernel
theorem dc_27_20 : decode (sm_cc 27) 20 = .ok (.aload_n 0, 1) := by decide +kernel
theorem dc_27_21 : decode (sm_cc 27) 21 = .ok (.iload_n 2, 1) := by decide +kernel
theorem dc_27_22 : decode (sm_cc 27) 22 = .ok (.invokevirtual 85, 3) := by decide +kernel
theorem dc_27_25 : decode (sm_cc 27) 25 = .ok (.aload_n 0, 1) := by decide +kernel
theorem dc_27_26 : decode (sm_cc 27) 26 = .ok (.iload_n 3, 1) := by decide +kernel
theorem dc_27_27 : decode (sm_cc 27) 27 = .ok (.invokevirtual 85, 3) := by decide +kernel
theorem dc_27_30 : decode (sm_cc 27) 30 = .ok (.aload_n 0, 1) := by decide +kernel
theorem dc_27_31 : decode (sm_cc 27) 31 = .ok (.iload 4, 2) := by decide +kernel
theorem dc_27_33 : decode (sm_cc 27) 33 = .ok (.invokevirtual 85, 3) := by decide +kernel
theorem dc_27_36 : decode (sm_cc 27) 36 = .ok (.aload_n 0, 1) := by decide +kernel
theorem dc_27_37 : decode (sm_cc 27) 37 = .ok (.iload 5, 2) := by decide +kernel
theorem dc_27_39 : decode (sm_cc 27) 39 = .ok (.invokevirtual 85, 3) := by decide +kernel
theorem dc_27_42 : decode (sm_cc 27) 42 = .ok (.aload_n 0, 1) := by decide +kernel
theorem dc_27_43 : decode (sm_cc 27) 43 = .ok (.getfield 81, 3) := by decide +kernel
theorem dc_27_46 : decode (sm_cc 27) 46 = .ok (.ireturn, 1) := by decide +kernel
theorem rt_27 : sm_rt 27 = some .int := by decide +kernel
theorem ml_27 : sm_ml 27 = 6 := by decide +kernel
theorem dc_27_13 : decode (sm_cc 27) 13 = .ok (.iconst (-1), 1) := by decide +kernel
theorem dc_27_14 : decode (sm_cc 27) 14 = .ok (.ireturn, 1) := by decide +kernel
theorem dc_282_0 : decode (sm_cc 282) 0 = .ok (.aload_n 0, 1) := by decide +kernel
theorem dc_282_1 : decode (sm_cc 282) 1 = .ok (.getfield 854, 3) := by decide +kernel
theorem fr_282_854 : sm_at mt_f (sm_ow 282) 854 = some (854, 14, 75, 0, 2148) := by decide +kernel
theorem dc_282_4 : decode (sm_cc 282) 4 = .ok (.bipush (20), 2) := by decide +kernel
theorem dc_282_6 : decode (sm_cc 282) 6 = .ok (.iadd, 1) := by decide +kernel
theorem dc_282_7 : decode (sm_cc 282) 7 = .ok (.sipush (3000), 3) := by decide +kernel
theorem dc_282_10 : decode (sm_cc 282) 10 = .ok (.if_icmp .le (5), 3) := by decide +kernel
theorem dc_282_13 : decode (sm_cc 282) 13 = .ok (.iconst (-1), 1) := by decide +kernel
theorem dc_282_14 : decode (sm_cc 282) 14 = .ok (.ireturn, 1) := by decide +kernel
theorem rt_282 : sm_rt 282 = some .int := by decide +kernel
theorem ml_282 : sm_ml 282 = 8 := by decide +kernel
theorem putFour_ev {d : Nat} {S : cS} {t : Nat} {x : Int32} (ht : sI S 7 = nI t) (hM : t + 4 ≤ 3000) : Ans (d + 1) 28 [.ref 0, .int x] S (none) (wI 7 (nI (t + 4)) (wA 1 (t + 3) (vp_nar .byte (((x.toUInt32 >>> ((nI 0).toUInt32 &&& Int32.toUInt32 31)).toInt32).toInt8.toInt32)) (wI 7 (nI (t + 3)) (wA 1 (t + 2) (vp_nar .byte (((x.toUInt32 >>> ((nI 8).toUInt32 &&& Int32.toUInt32 31)).toInt32).toInt8.toInt32)) (wI 7 (nI (t + 2)) (wA 1 (t + 1) (vp_nar .byte (((x.toUInt32 >>> ((nI 16).toUInt32 &&& Int32.toUInt32 31)).toInt32).toInt8.toInt32)) (wI 7 (nI (t + 1)) (wA 1 t (vp_nar .byte (((x.toUInt32 >>> ((nI 24).toUInt32 &&& Int32.toUInt32 31)).toInt32).toInt8.toInt32)) S)))))))) := by
  refine Ans.of (by rw [ml_28]; exact Nat.le_of_ble_eq_true rfl) ?_
  refine Bod.bip 24 (by decide) dc_28_0 ?_
  refine Bod.istn dc_28_2 (by rw [ml_28]; exact Nat.le_of_ble_eq_true rfl) ?_
  refine Bod.go dc_28_3 rfl ?_
  refine Bod.ifF dc_28_4 rfl (k1_lt_F 24 rfl (by omega)) ?_
  refine Bod.go dc_28_7 rfl ?_
  refine Bod.get dc_28_8 fr_28_81 (mk_0 _) rfl ?_
  refine Bod.eqI (nI t) (by first | assumption | rfl | exact congrArg nI (by omega) | (simp (disch := omega) only [rI, rIe, rA, rIA, rLA, rJA, rVI, rQI, rVA, rQA, upd_at,  rAI, rLI, rJI, nI_add, pk_sub, kc_0, kc_1, kc_2, kc_3, kc_4, kc_5, reduceIte, Nat.reduceEqDiff, Nat.add_zero, rI_hold, rI_hold, rL_hold, ht]; done)) ?_
  refine Bod.sip 3000 (by decide) dc_28_11 ?_
  refine Bod.icF dc_28_14 rfl (k2_ge_F t 3000 rfl rfl (by omega) (by omega)) ?_
  refine Bod.go dc_28_17 rfl ?_
  refine Bod.get dc_28_18 fr_28_9 (mk_0 _) rfl ?_
  refine Bod.go dc_28_21 rfl ?_
  refine Bod.get dc_28_22 fr_28_81 (mk_0 _) rfl ?_
  refine Bod.eqI (nI t) (by first | assumption | rfl | exact congrArg nI (by omega) | (simp (disch := omega) only [rI, rIe, rA, rIA, rLA, rJA, rVI, rQI, rVA, rQA, upd_at,  rAI, rLI, rJI, nI_add, pk_sub, kc_0, kc_1, kc_2, kc_3, kc_4, kc_5, reduceIte, Nat.reduceEqDiff, Nat.add_zero, rI_hold, rI_hold, rL_hold, ht]; done)) ?_
  refine Bod.go dc_28_25 rfl ?_
  refine Bod.go dc_28_26 rfl ?_
  refine Bod.go dc_28_27 rfl ?_
  refine Bod.go dc_28_28 rfl ?_
  refine Bod.bastN t rfl (by omega) (by omega) dc_28_29 (mk_1 _) (sa_1 _ _ _) (mu_A _ _ _ _) ?_
  refine Bod.go dc_28_30 rfl ?_
  refine Bod.go dc_28_31 rfl ?_
  refine Bod.get dc_28_32 fr_28_81 (mk_0 _) rfl ?_
  refine Bod.eqI (nI t) (by first | (simp (disch := omega) only [rI, rIe, rA, rIA, rLA, rJA, rVI, rQI, rVA, rQA, upd_at,  rAI, rLI, rJI, nI_add, pk_sub, kc_0, kc_1, kc_2, kc_3, kc_4, kc_5, reduceIte, Nat.reduceEqDiff, Nat.add_zero, rI_hold, rI_hold, rL_hold, ht]; done) | (simp (disch := omega) only [rI, rIe, rA, rIA, rLA, rJA, rVI, rQI, rVA, rQA, upd_at,  rAI, rLI, rJI, nI_add, pk_sub, kc_0, kc_1, kc_2, kc_3, kc_4, kc_5, reduceIte, Nat.reduceEqDiff, Nat.add_zero, rI_hold, rI_hold, rL_hold, ht]; exact congrArg nI (by omega))) ?_
  refine Bod.ic 1 (by decide) dc_28_35 ?_
  refine Bod.addN (t + 1) (by omega) dc_28_36 ?_
  refine Bod.put dc_28_37 fr_28_81 (mk_0 _) (Nat.le_of_ble_eq_true rfl) pf_11_7 (st_7 _ _) (mu_I _ _ _) ?_
  refine Bod.incN 16 (by decide) dc_28_40 (by rw [ml_28]; exact Nat.le_of_ble_eq_true rfl) rfl ?_
  refine Bod.go dc_28_43 rfl ?_
  refine Bod.go dc_28_3 rfl ?_
  refine Bod.ifF dc_28_4 rfl (k1_lt_F 16 rfl (by omega)) ?_
  refine Bod.go dc_28_7 rfl ?_
  refine Bod.get dc_28_8 fr_28_81 (mk_0 _) rfl ?_
  refine Bod.eqI (nI (t + 1)) (by first | (simp (disch := omega) only [rI, rIe, rA, rIA, rLA, rJA, rVI, rQI, rVA, rQA, upd_at,  rAI, rLI, rJI, nI_add, pk_sub, kc_0, kc_1, kc_2, kc_3, kc_4, kc_5, reduceIte, Nat.reduceEqDiff, Nat.add_zero, rI_hold, rI_hold, rL_hold, ht]; done) | (simp (disch := omega) only [rI, rIe, rA, rIA, rLA, rJA, rVI, rQI, rVA, rQA, upd_at,  rAI, rLI, rJI, nI_add, pk_sub, kc_0, kc_1, kc_2, kc_3, kc_4, kc_5, reduceIte, Nat.reduceEqDiff, Nat.add_zero, rI_hold, rI_hold, rL_hold, ht]; exact congrArg nI (by omega))) ?_
  refine Bod.sip 3000 (by decide) dc_28_11 ?_
  refine Bod.icF dc_28_14 rfl (k2_ge_F (t + 1) 3000 rfl rfl (by omega) (by omega)) ?_
  refine Bod.go dc_28_17 rfl ?_
  refine Bod.get dc_28_18 fr_28_9 (mk_0 _) rfl ?_
  refine Bod.go dc_28_21 rfl ?_
  refine Bod.get dc_28_22 fr_28_81 (mk_0 _) rfl ?_
  refine Bod.eqI (nI (t + 1)) (by first | (simp (disch := omega) only [rI, rIe, rA, rIA, rLA, rJA, rVI, rQI, rVA, rQA, upd_at,  rAI, rLI, rJI, nI_add, pk_sub, kc_0, kc_1, kc_2, kc_3, kc_4, kc_5, reduceIte, Nat.reduceEqDiff, Nat.add_zero, rI_hold, rI_hold, rL_hold, ht]; done) | (simp (disch := omega) only [rI, rIe, rA, rIA, rLA, rJA, rVI, rQI, rVA, rQA, upd_at,  rAI, rLI, rJI, nI_add, pk_sub, kc_0, kc_1, kc_2, kc_3, kc_4, kc_5, reduceIte, Nat.reduceEqDiff, Nat.add_zero, rI_hold, rI_hold, rL_hold, ht]; exact congrArg nI (by omega))) ?_
  refine Bod.go dc_28_25 rfl ?_
  refine Bod.go dc_28_26 rfl ?_
  refine Bod.go dc_28_27 rfl ?_
  refine Bod.go dc_28_28 rfl ?_
  refine Bod.bastN (t + 1) rfl (by omega) (by omega) dc_28_29 (mk_1 _) (sa_1 _ _ _) (mu_A _ _ _ _) ?_
  refine Bod.go dc_28_30 rfl ?_
  refine Bod.go dc_28_31 rfl ?_
  refine Bod.get dc_28_32 fr_28_81 (mk_0 _) rfl ?_
  refine Bod.eqI (nI (t + 1)) (by first | (simp (disch := omega) only [rI, rIe, rA, rIA, rLA, rJA, rVI, rQI, rVA, rQA, upd_at,  rAI, rLI, rJI, nI_add, pk_sub, kc_0, kc_1, kc_2, kc_3, kc_4, kc_5, reduceIte, Nat.reduceEqDiff, Nat.add_zero, rI_hold, rI_hold, rL_hold, ht]; done) | (simp (disch := omega) only [rI, rIe, rA, rIA, rLA, rJA, rVI, rQI, rVA, rQA, upd_at,  rAI, rLI, rJI, nI_add, pk_sub, kc_0, kc_1, kc_2, kc_3, kc_4, kc_5, reduceIte, Nat.reduceEqDiff, Nat.add_zero, rI_hold, rI_hold, rL_hold, ht]; exact congrArg nI (by omega))) ?_
  refine Bod.ic 1 (by decide) dc_28_35 ?_
  refine Bod.addN (t + 2) (by omega) dc_28_36 ?_
  refine Bod.put dc_28_37 fr_28_81 (mk_0 _) (Nat.le_of_ble_eq_true rfl) pf_11_7 (st_7 _ _) (mu_I _ _ _) ?_
  refine Bod.incN 8 (by decide) dc_28_40 (by rw [ml_28]; exact Nat.le_of_ble_eq_true rfl) rfl ?_
  refine Bod.go dc_28_43 rfl ?_
  refine Bod.go dc_28_3 rfl ?_
  refine Bod.ifF dc_28_4 rfl (k1_lt_F 8 rfl (by omega)) ?_
  refine Bod.go dc_28_7 rfl ?_
  refine Bod.get dc_28_8 fr_28_81 (mk_0 _) rfl ?_
  refine Bod.eqI (nI (t + 2)) (by first | (simp (disch := omega) only [rI, rIe, rA, rIA, rLA, rJA, rVI, rQI, rVA, rQA, upd_at,  rAI, rLI, rJI, nI_add, pk_sub, kc_0, kc_1, kc_2, kc_3, kc_4, kc_5, reduceIte, Nat.reduceEqDiff, Nat.add_zero, rI_hold, rI_hold, rL_hold, ht]; done) | (simp (disch := omega) only [rI, rIe, rA, rIA, rLA, rJA, rVI, rQI, rVA, rQA, upd_at,  rAI, rLI, rJI, nI_add, pk_sub, kc_0, kc_1, kc_2, kc_3, kc_4, kc_5, reduceIte, Nat.reduceEqDiff, Nat.add_zero, rI_hold, rI_hold, rL_hold, ht]; exact congrArg nI (by omega))) ?_
  refine Bod.sip 3000 (by decide) dc_28_11 ?_
  refine Bod.icF dc_28_14 rfl (k2_ge_F (t + 2) 3000 rfl rfl (by omega) (by omega)) ?_
  refine Bod.go dc_28_17 rfl ?_
  refine Bod.get dc_28_18 fr_28_9 (mk_0 _) rfl ?_
  refine Bod.go dc_28_21 rfl ?_
  refine Bod.get dc_28_22 fr_28_81 (mk_0 _) rfl ?_
  refine Bod.eqI (nI (t + 2)) (by first | (simp (disch := omega) only [rI, rIe, rA, rIA, rLA, rJA, rVI, rQI, rVA, rQA, upd_at,  rAI, rLI, rJI, nI_add, pk_sub, kc_0, kc_1, kc_2, kc_3, kc_4, kc_5, reduceIte, Nat.reduceEqDiff, Nat.add_zero, rI_hold, rI_hold, rL_hold, ht]; done) | (simp (disch := omega) only [rI, rIe, rA, rIA, rLA, rJA, rVI, rQI, rVA, rQA, upd_at,  rAI, rLI, rJI, nI_add, pk_sub, kc_0, kc_1, kc_2, kc_3, kc_4, kc_5, reduceIte, Nat.reduceEqDiff, Nat.add_zero, rI_hold, rI_hold, rL_hold, ht]; exact congrArg nI (by omega))) ?_
  refine Bod.go dc_28_25 rfl ?_
  refine Bod.go dc_28_26 rfl ?_
  refine Bod.go dc_28_27 rfl ?_
  refine Bod.go dc_28_28 rfl ?_
  refine Bod.bastN (t + 2) rfl (by omega) (by omega) dc_28_29 (mk_1 _) (sa_1 _ _ _) (mu_A _ _ _ _) ?_
  refine Bod.go dc_28_30 rfl ?_
  refine Bod.go dc_28_31 rfl ?_
  refine Bod.get dc_28_32 fr_28_81 (mk_0 _) rfl ?_
  refine Bod.eqI (nI (t + 2)) (by first | (simp (disch := omega) only [rI, rIe, rA, rIA, rLA, rJA, rVI, rQI, rVA, rQA, upd_at,  rAI, rLI, rJI, nI_add, pk_sub, kc_0, kc_1, kc_2, kc_3, kc_4, kc_5, reduceIte, Nat.reduceEqDiff, Nat.add_zero, rI_hold, rI_hold, rL_hold, ht]; done) | (simp (disch := omega) only [rI, rIe, rA, rIA, rLA, rJA, rVI, rQI, rVA, rQA, upd_at,  rAI, rLI, rJI, nI_add, pk_sub, kc_0, kc_1, kc_2, kc_3, kc_4, kc_5, reduceIte, Nat.reduceEqDiff, Nat.add_zero, rI_hold, rI_hold, rL_hold, ht]; exact congrArg nI (by omega))) ?_
  refine Bod.ic 1 (by decide) dc_28_35 ?_
  refine Bod.addN (t + 3) (by omega) dc_28_36 ?_
  refine Bod.put dc_28_37 fr_28_81 (mk_0 _) (Nat.le_of_ble_eq_true rfl) pf_11_7 (st_7 _ _) (mu_I _ _ _) ?_
  refine Bod.incN 0 (by decide) dc_28_40 (by rw [ml_28]; exact Nat.le_of_ble_eq_true rfl) rfl ?_
  refine Bod.go dc_28_43 rfl ?_
  refine Bod.go dc_28_3 rfl ?_
  refine Bod.ifF dc_28_4 rfl (k1_lt_F 0 rfl (by omega)) ?_
  refine Bod.go dc_28_7 rfl ?_
  refine Bod.get dc_28_8 fr_28_81 (mk_0 _) rfl ?_
  refine Bod.eqI (nI (t + 3)) (by first | (simp (disch := omega) only [rI, rIe, rA, rIA, rLA, rJA, rVI, rQI, rVA, rQA, upd_at,  rAI, rLI, rJI, nI_add, pk_sub, kc_0, kc_1, kc_2, kc_3, kc_4, kc_5, reduceIte, Nat.reduceEqDiff, Nat.add_zero, rI_hold, rI_hold, rL_hold, ht]; done) | (simp (disch := omega) only [rI, rIe, rA, rIA, rLA, rJA, rVI, rQI, rVA, rQA, upd_at,  rAI, rLI, rJI, nI_add, pk_sub, kc_0, kc_1, kc_2, kc_3, kc_4, kc_5, reduceIte, Nat.reduceEqDiff, Nat.add_zero, rI_hold, rI_hold, rL_hold, ht]; exact congrArg nI (by omega))) ?_
  refine Bod.sip 3000 (by decide) dc_28_11 ?_
  refine Bod.icF dc_28_14 rfl (k2_ge_F (t + 3) 3000 rfl rfl (by omega) (by omega)) ?_
  refine Bod.go dc_28_17 rfl ?_
  refine Bod.get dc_28_18 fr_28_9 (mk_0 _) rfl ?_
  refine Bod.go dc_28_21 rfl ?_
  refine Bod.get dc_28_22 fr_28_81 (mk_0 _) rfl ?_
  refine Bod.eqI (nI (t + 3)) (by first | (simp (disch := omega) only [rI, rIe, rA, rIA, rLA, rJA, rVI, rQI, rVA, rQA, upd_at,  rAI, rLI, rJI, nI_add, pk_sub, kc_0, kc_1, kc_2, kc_3, kc_4, kc_5, reduceIte, Nat.reduceEqDiff, Nat.add_zero, rI_hold, rI_hold, rL_hold, ht]; done) | (simp (disch := omega) only [rI, rIe, rA, rIA, rLA, rJA, rVI, rQI, rVA, rQA, upd_at,  rAI, rLI, rJI, nI_add, pk_sub, kc_0, kc_1, kc_2, kc_3, kc_4, kc_5, reduceIte, Nat.reduceEqDiff, Nat.add_zero, rI_hold, rI_hold, rL_hold, ht]; exact congrArg nI (by omega))) ?_
  refine Bod.go dc_28_25 rfl ?_
  refine Bod.go dc_28_26 rfl ?_
  refine Bod.go dc_28_27 rfl ?_
  refine Bod.go dc_28_28 rfl ?_
  refine Bod.bastN (t + 3) rfl (by omega) (by omega) dc_28_29 (mk_1 _) (sa_1 _ _ _) (mu_A _ _ _ _) ?_
  refine Bod.go dc_28_30 rfl ?_
  refine Bod.go dc_28_31 rfl ?_
  refine Bod.get dc_28_32 fr_28_81 (mk_0 _) rfl ?_
  refine Bod.eqI (nI (t + 3)) (by first | (simp (disch := omega) only [rI, rIe, rA, rIA, rLA, rJA, rVI, rQI, rVA, rQA, upd_at,  rAI, rLI, rJI, nI_add, pk_sub, kc_0, kc_1, kc_2, kc_3, kc_4, kc_5, reduceIte, Nat.reduceEqDiff, Nat.add_zero, rI_hold, rI_hold, rL_hold, ht]; done) | (simp (disch := omega) only [rI, rIe, rA, rIA, rLA, rJA, rVI, rQI, rVA, rQA, upd_at,  rAI, rLI, rJI, nI_add, pk_sub, kc_0, kc_1, kc_2, kc_3, kc_4, kc_5, reduceIte, Nat.reduceEqDiff, Nat.add_zero, rI_hold, rI_hold, rL_hold, ht]; exact congrArg nI (by omega))) ?_
  refine Bod.ic 1 (by decide) dc_28_35 ?_
  refine Bod.addN (t + 4) (by omega) dc_28_36 ?_
  refine Bod.put dc_28_37 fr_28_81 (mk_0 _) (Nat.le_of_ble_eq_true rfl) pf_11_7 (st_7 _ _) (mu_I _ _ _) ?_
  refine Bod.inc dc_28_40 (by rw [ml_28]; exact Nat.le_of_ble_eq_true rfl) rfl ?_
  refine Bod.go dc_28_43 rfl ?_
  refine Bod.go dc_28_3 rfl ?_
  refine Bod.ifT dc_28_4 rfl (by decide) ?_
  exact Bod.retV dc_28_46 rt_28
/-- the state when the four bytes of x are put at t -/
def c_put4 (t : Nat) (x : Int32) (S : cS) : cS := wI 7 (nI (t + 4)) (wA 1 (t + 3) (vp_nar .byte (((x.toUInt32 >>> ((nI 0).toUInt32 &&& Int32.toUInt32 31)).toInt32).toInt8.toInt32)) (wI 7 (nI (t + 3)) (wA 1 (t + 2) (vp_nar .byte (((x.toUInt32 >>> ((nI 8).toUInt32 &&& Int32.toUInt32 31)).toInt32).toInt8.toInt32)) (wI 7 (nI (t + 2)) (wA 1 (t + 1) (vp_nar .byte (((x.toUInt32 >>> ((nI 16).toUInt32 &&& Int32.toUInt32 31)).toInt32).toInt8.toInt32)) (wI 7 (nI (t + 1)) (wA 1 t (vp_nar .byte (((x.toUInt32 >>> ((nI 24).toUInt32 &&& Int32.toUInt32 31)).toInt32).toInt8.toInt32)) S)))))))
theorem put4_ev {d : Nat} {S : cS} {t : Nat} {x : Int32} (ht : sI S 7 = nI t) (hM : t + 4 ≤ 3000) : Ans (d + 1) 28 [.ref 0, .int x] S none (c_put4 t x S) := putFour_ev ht hM
theorem put4_7 (t : Nat) (x : Int32) (S : cS) : sI (c_put4 t x S) 7 = nI (t + 4) := rIe _ _ _
theorem put4_I (t : Nat) (x : Int32) (S : cS) {i : Nat} (h : i ≠ 7) : sI (c_put4 t x S) i = sI S i := by
  unfold c_put4
  rw [rIn _ _ h, rAI, rIn _ _ h, rAI, rIn _ _ h, rAI, rIn _ _ h, rAI]
theorem put4_J (t : Nat) (x : Int32) (S : cS) : sJ (c_put4 t x S) = sJ S := rfl
theorem put4_L (t : Nat) (x : Int32) (S : cS) : sL (c_put4 t x S) = sL S := rfl
theorem put4_V (t : Nat) (x : Int32) (S : cS) : sV (c_put4 t x S) = sV S := rfl
theorem put4_Q (t : Nat) (x : Int32) (S : cS) : sQ (c_put4 t x S) = sQ S := rfl
theorem put4_S (t : Nat) (x : Int32) (S : cS) : sS (c_put4 t x S) = sS S := rfl
theorem put4_mu (t : Nat) (x : Int32) (S : cS) : mu (c_put4 t x S) = mu S := by
  unfold c_put4
  rw [mu_I, mu_A, mu_I, mu_A, mu_I, mu_A, mu_I, mu_A]
/-- the i-th byte of a word, from the high one on -/
def c_b4 (x : Int32) (i : Nat) : Int32 := vp_nar .byte (((x.toUInt32 >>> ((nI (24 - 8 * i)).toUInt32 &&& Int32.toUInt32 31)).toInt32).toInt8.toInt32)
theorem put4_A (t : Nat) (x : Int32) (S : cS) (a k : Nat) : sA (c_put4 t x S) a k = if a = 1 ∧ t ≤ k ∧ k < t + 4 then c_b4 x (k - t) else sA S a k := by
  unfold c_put4
  by_cases ha : a = 1
  · subst ha
    simp only [rIA, rAe, upd_at]
    by_cases h3 : k = t + 3
    · rw [if_pos h3, if_pos ⟨trivial, by omega, by omega⟩, show k - t = 3 by omega]; rfl
    · rw [if_neg h3]
      by_cases h2 : k = t + 2
      · rw [if_pos h2, if_pos ⟨trivial, by omega, by omega⟩, show k - t = 2 by omega]; rfl
      · rw [if_neg h2]
        by_cases h1 : k = t + 1
        · rw [if_pos h1, if_pos ⟨trivial, by omega, by omega⟩, show k - t = 1 by omega]; rfl
        · rw [if_neg h1]
          by_cases h0 : k = t
          · rw [if_pos h0, if_pos ⟨trivial, by omega, by omega⟩, show k - t = 0 by omega]; rfl
          · rw [if_neg h0, if_neg (by omega)]
  · rw [if_neg (fun h => ha h.1)]
    simp only [rIA, rAn _ _ _ ha]
theorem feed_c {d : Nat} {S : cS} {t : Nat} {a : Int32} {b : Int32} {x : Int32} {y : Int32} {z : Int32} (ht : sI S 7 = nI t) (hM : t + 20 ≤ 3000) : Ans (d + 2) 27 [.ref 0, .int a, .int b, .int x, .int y, .int z] S (some (.int (nI (t + 20)))) (c_put4 ((t + 16)) (z) ((c_put4 ((t + 12)) (y) ((c_put4 ((t + 8)) (x) ((c_put4 ((t + 4)) (b) ((c_put4 (t) (a) (S)))))))))) := by
  refine Ans.of (by rw [ml_27]; exact Nat.le_of_ble_eq_true rfl) ?_
  refine Bod.go dc_27_0 rfl ?_
  refine Bod.get dc_27_1 fr_27_81 (mk_0 _) rfl ?_
  refine Bod.eqI (nI t) (by first | assumption | rfl | exact congrArg nI (by omega) | (simp (disch := omega) only [rI, rIe, rA, rIA, rLA, rJA, rVI, rQI, rVA, rQA, upd_at,  rAI, rLI, rJI, nI_add, pk_sub, kc_0, kc_1, kc_2, kc_3, kc_4, kc_5, reduceIte, Nat.reduceEqDiff, Nat.add_zero, rI_hold, rI_hold, rL_hold, ht, put4_7]; done)) ?_
  refine Bod.bip 20 (by decide) dc_27_4 ?_
  refine Bod.addN (t + 20) (by omega) dc_27_6 ?_
  refine Bod.sip 3000 (by decide) dc_27_7 ?_
  refine Bod.icT dc_27_10 rfl (k2_le_T (t + 20) 3000 rfl rfl (by omega) (by omega)) ?_
  refine Bod.go dc_27_15 rfl ?_
  refine Bod.go dc_27_16 rfl ?_
  refine Bod.virt (r := []) dc_27_17 kr_27_85 ⟨Or.inl rfl, ow_28, cl_11⟩ (by rw [np_28]; rfl) (by rw [np_28]; rfl) (ob_of (mk_0 _)) (Nat.le_of_ble_eq_true rfl) (put4_ev (t := t) (x := a) (by first | assumption | rfl | exact congrArg nI (by omega) | (simp (disch := omega) only [rI, rIe, rA, rIA, rLA, rJA, rVI, rQI, rVA, rQA, upd_at,  rAI, rLI, rJI, nI_add, pk_sub, kc_0, kc_1, kc_2, kc_3, kc_4, kc_5, reduceIte, Nat.reduceEqDiff, Nat.add_zero, rI_hold, rI_hold, rL_hold, ht, put4_7]; done)) (by omega)) ?_
  show Bod _ _ _ _ [] _ _ _
  refine Bod.go dc_27_20 rfl ?_
  refine Bod.go dc_27_21 rfl ?_
  refine Bod.virt (r := []) dc_27_22 kr_27_85 ⟨Or.inl rfl, ow_28, cl_11⟩ (by rw [np_28]; rfl) (by rw [np_28]; rfl) (ob_of (mk_0 _)) (Nat.le_of_ble_eq_true rfl) (put4_ev (t := t + 4) (x := b) (by first | (simp (disch := omega) only [rI, rIe, rA, rIA, rLA, rJA, rVI, rQI, rVA, rQA, upd_at,  rAI, rLI, rJI, nI_add, pk_sub, kc_0, kc_1, kc_2, kc_3, kc_4, kc_5, reduceIte, Nat.reduceEqDiff, Nat.add_zero, rI_hold, rI_hold, rL_hold, ht, put4_7]; done) | (simp (disch := omega) only [rI, rIe, rA, rIA, rLA, rJA, rVI, rQI, rVA, rQA, upd_at,  rAI, rLI, rJI, nI_add, pk_sub, kc_0, kc_1, kc_2, kc_3, kc_4, kc_5, reduceIte, Nat.reduceEqDiff, Nat.add_zero, rI_hold, rI_hold, rL_hold, ht, put4_7]; exact congrArg nI (by omega))) (by omega)) ?_
  show Bod _ _ _ _ [] _ _ _
  refine Bod.go dc_27_25 rfl ?_
  refine Bod.go dc_27_26 rfl ?_
  refine Bod.virt (r := []) dc_27_27 kr_27_85 ⟨Or.inl rfl, ow_28, cl_11⟩ (by rw [np_28]; rfl) (by rw [np_28]; rfl) (ob_of (mk_0 _)) (Nat.le_of_ble_eq_true rfl) (put4_ev (t := t + 8) (x := x) (by first | (simp (disch := omega) only [rI, rIe, rA, rIA, rLA, rJA, rVI, rQI, rVA, rQA, upd_at,  rAI, rLI, rJI, nI_add, pk_sub, kc_0, kc_1, kc_2, kc_3, kc_4, kc_5, reduceIte, Nat.reduceEqDiff, Nat.add_zero, rI_hold, rI_hold, rL_hold, ht, put4_7]; done) | (simp (disch := omega) only [rI, rIe, rA, rIA, rLA, rJA, rVI, rQI, rVA, rQA, upd_at,  rAI, rLI, rJI, nI_add, pk_sub, kc_0, kc_1, kc_2, kc_3, kc_4, kc_5, reduceIte, Nat.reduceEqDiff, Nat.add_zero, rI_hold, rI_hold, rL_hold, ht, put4_7]; exact congrArg nI (by omega))) (by omega)) ?_
  show Bod _ _ _ _ [] _ _ _
  refine Bod.go dc_27_30 rfl ?_
  refine Bod.go dc_27_31 rfl ?_
  refine Bod.virt (r := []) dc_27_33 kr_27_85 ⟨Or.inl rfl, ow_28, cl_11⟩ (by rw [np_28]; rfl) (by rw [np_28]; rfl) (ob_of (mk_0 _)) (Nat.le_of_ble_eq_true rfl) (put4_ev (t := t + 12) (x := y) (by first | (simp (disch := omega) only [rI, rIe, rA, rIA, rLA, rJA, rVI, rQI, rVA, rQA, upd_at,  rAI, rLI, rJI, nI_add, pk_sub, kc_0, kc_1, kc_2, kc_3, kc_4, kc_5, reduceIte, Nat.reduceEqDiff, Nat.add_zero, rI_hold, rI_hold, rL_hold, ht, put4_7]; done) | (simp (disch := omega) only [rI, rIe, rA, rIA, rLA, rJA, rVI, rQI, rVA, rQA, upd_at,  rAI, rLI, rJI, nI_add, pk_sub, kc_0, kc_1, kc_2, kc_3, kc_4, kc_5, reduceIte, Nat.reduceEqDiff, Nat.add_zero, rI_hold, rI_hold, rL_hold, ht, put4_7]; exact congrArg nI (by omega))) (by omega)) ?_
  show Bod _ _ _ _ [] _ _ _
  refine Bod.go dc_27_36 rfl ?_
  refine Bod.go dc_27_37 rfl ?_
  refine Bod.virt (r := []) dc_27_39 kr_27_85 ⟨Or.inl rfl, ow_28, cl_11⟩ (by rw [np_28]; rfl) (by rw [np_28]; rfl) (ob_of (mk_0 _)) (Nat.le_of_ble_eq_true rfl) (put4_ev (t := t + 16) (x := z) (by first | (simp (disch := omega) only [rI, rIe, rA, rIA, rLA, rJA, rVI, rQI, rVA, rQA, upd_at,  rAI, rLI, rJI, nI_add, pk_sub, kc_0, kc_1, kc_2, kc_3, kc_4, kc_5, reduceIte, Nat.reduceEqDiff, Nat.add_zero, rI_hold, rI_hold, rL_hold, ht, put4_7]; done) | (simp (disch := omega) only [rI, rIe, rA, rIA, rLA, rJA, rVI, rQI, rVA, rQA, upd_at,  rAI, rLI, rJI, nI_add, pk_sub, kc_0, kc_1, kc_2, kc_3, kc_4, kc_5, reduceIte, Nat.reduceEqDiff, Nat.add_zero, rI_hold, rI_hold, rL_hold, ht, put4_7]; exact congrArg nI (by omega))) (by omega)) ?_
  show Bod _ _ _ _ [] _ _ _
  refine Bod.go dc_27_42 rfl ?_
  refine Bod.get dc_27_43 fr_27_81 (mk_0 _) rfl ?_
  refine Bod.eqI (nI (t + 20)) (by first | (simp (disch := omega) only [rI, rIe, rA, rIA, rLA, rJA, rVI, rQI, rVA, rQA, upd_at,  rAI, rLI, rJI, nI_add, pk_sub, kc_0, kc_1, kc_2, kc_3, kc_4, kc_5, reduceIte, Nat.reduceEqDiff, Nat.add_zero, rI_hold, rI_hold, rL_hold, ht, put4_7]; done) | (simp (disch := omega) only [rI, rIe, rA, rIA, rLA, rJA, rVI, rQI, rVA, rQA, upd_at,  rAI, rLI, rJI, nI_add, pk_sub, kc_0, kc_1, kc_2, kc_3, kc_4, kc_5, reduceIte, Nat.reduceEqDiff, Nat.add_zero, rI_hold, rI_hold, rL_hold, ht, put4_7]; exact congrArg nI (by omega))) ?_
  exact Bod.retI dc_27_46 rt_27
theorem feed_cn {d : Nat} {S : cS} {t : Nat} {a : Int32} {b : Int32} {x : Int32} {y : Int32} {z : Int32} (ht : sI S 7 = nI t) (hM : 3000 < t + 20) (hM2 : t ≤ 3000) : Ans (d + 1) 27 [.ref 0, .int a, .int b, .int x, .int y, .int z] S (some (.int (Int32.ofInt (-1)))) (S) := by
  refine Ans.of (by rw [ml_27]; exact Nat.le_of_ble_eq_true rfl) ?_
  refine Bod.go dc_27_0 rfl ?_
  refine Bod.get dc_27_1 fr_27_81 (mk_0 _) rfl ?_
  refine Bod.eqI (nI t) (by first | assumption | rfl | exact congrArg nI (by omega) | (simp (disch := omega) only [rI, rIe, rA, rIA, rLA, rJA, rVI, rQI, rVA, rQA, upd_at,  rAI, rLI, rJI, nI_add, pk_sub, kc_0, kc_1, kc_2, kc_3, kc_4, kc_5, reduceIte, Nat.reduceEqDiff, Nat.add_zero, rI_hold, rI_hold, rL_hold, ht]; done)) ?_
  refine Bod.bip 20 (by decide) dc_27_4 ?_
  refine Bod.addN (t + 20) (by omega) dc_27_6 ?_
  refine Bod.sip 3000 (by decide) dc_27_7 ?_
  refine Bod.icF dc_27_10 rfl (k2_le_F (t + 20) 3000 rfl rfl (by omega) (by omega)) ?_
  refine Bod.go dc_27_13 rfl ?_
  exact Bod.retI dc_27_14 rt_27
theorem feed_rn {d : Nat} {S : cS} {t : Nat} {a : Int32} {b : Int32} {x : Int32} {y : Int32} {z : Int32} (ht : sI S 6175 = nI t) (hM : 3000 < t + 20) (hM2 : t ≤ 3000) : Ans (d + 1) 282 [.ref 61, .int a, .int b, .int x, .int y, .int z] S (some (.int (Int32.ofInt (-1)))) (S) := by
  refine Ans.of (by rw [ml_282]; exact Nat.le_of_ble_eq_true rfl) ?_
  refine Bod.go dc_282_0 rfl ?_
  refine Bod.get dc_282_1 fr_282_854 (mk_61 _) rfl ?_
  refine Bod.eqI (nI t) (by first | assumption | rfl | exact congrArg nI (by omega) | (simp (disch := omega) only [rI, rIe, rA, rIA, rLA, rJA, rVI, rQI, rVA, rQA, upd_at,  rAI, rLI, rJI, nI_add, pk_sub, kc_0, kc_1, kc_2, kc_3, kc_4, kc_5, reduceIte, Nat.reduceEqDiff, Nat.add_zero, rI_hold, rI_hold, rL_hold, ht]; done)) ?_
  refine Bod.bip 20 (by decide) dc_282_4 ?_
  refine Bod.addN (t + 20) (by omega) dc_282_6 ?_
  refine Bod.sip 3000 (by decide) dc_282_7 ?_
  refine Bod.icF dc_282_10 rfl (k2_le_F (t + 20) 3000 rfl rfl (by omega) (by omega)) ?_
  refine Bod.go dc_282_13 rfl ?_
  exact Bod.retI dc_282_14 rt_282
