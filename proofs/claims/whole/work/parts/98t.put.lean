/-! CODE of the reference: put -/
theorem dc_303_0 : decode (sm_cc 303) 0 = .ok (.aload_n 0, 1) := by decide +kernel
theorem dc_303_1 : decode (sm_cc 303) 1 = .ok (.getfield 35, 3) := by decide +kernel
theorem fr_303_35 : sm_at mt_f (sm_ow 303) 35 = some (35, 12, 1, 0, 2410) := by decide +kernel
theorem dc_303_4 : decode (sm_cc 303) 4 = .ok (.aload_n 0, 1) := by decide +kernel
theorem dc_303_5 : decode (sm_cc 303) 5 = .ok (.getfield 7, 3) := by decide +kernel
theorem fr_303_7 : sm_at mt_f (sm_ow 303) 7 = some (7, 12, 0, 0, 2408) := by decide +kernel
theorem dc_303_8 : decode (sm_cc 303) 8 = .ok (.arraylength, 1) := by decide +kernel
theorem dc_303_9 : decode (sm_cc 303) 9 = .ok (.if_icmp .ne (20), 3) := by decide +kernel
theorem dc_303_29 : decode (sm_cc 303) 29 = .ok (.aload_n 0, 1) := by decide +kernel
theorem dc_303_30 : decode (sm_cc 303) 30 = .ok (.getfield 7, 3) := by decide +kernel
theorem dc_303_33 : decode (sm_cc 303) 33 = .ok (.aload_n 0, 1) := by decide +kernel
theorem dc_303_34 : decode (sm_cc 303) 34 = .ok (.getfield 35, 3) := by decide +kernel
theorem dc_303_37 : decode (sm_cc 303) 37 = .ok (.iload_n 1, 1) := by decide +kernel
theorem dc_303_38 : decode (sm_cc 303) 38 = .ok (.iastore, 1) := by decide +kernel
theorem dc_303_39 : decode (sm_cc 303) 39 = .ok (.aload_n 0, 1) := by decide +kernel
theorem dc_303_40 : decode (sm_cc 303) 40 = .ok (.dup, 1) := by decide +kernel
theorem dc_303_41 : decode (sm_cc 303) 41 = .ok (.getfield 35, 3) := by decide +kernel
theorem dc_303_44 : decode (sm_cc 303) 44 = .ok (.iconst 1, 1) := by decide +kernel
theorem dc_303_45 : decode (sm_cc 303) 45 = .ok (.iadd, 1) := by decide +kernel
theorem dc_303_46 : decode (sm_cc 303) 46 = .ok (.putfield 35, 3) := by decide +kernel
theorem dc_303_49 : decode (sm_cc 303) 49 = .ok (.return_, 1) := by decide +kernel
theorem rt_303 : sm_rt 303 = none := by decide +kernel
theorem ml_303 : sm_ml 303 = 2 := by decide +kernel
theorem dc_303_12 : decode (sm_cc 303) 12 = .ok (.aload_n 0, 1) := by decide +kernel
theorem dc_303_13 : decode (sm_cc 303) 13 = .ok (.aload_n 0, 1) := by decide +kernel
theorem dc_303_14 : decode (sm_cc 303) 14 = .ok (.getfield 7, 3) := by decide +kernel
theorem dc_303_17 : decode (sm_cc 303) 17 = .ok (.iconst 2, 1) := by decide +kernel
theorem dc_303_18 : decode (sm_cc 303) 18 = .ok (.aload_n 0, 1) := by decide +kernel
theorem dc_303_19 : decode (sm_cc 303) 19 = .ok (.getfield 35, 3) := by decide +kernel
theorem dc_303_22 : decode (sm_cc 303) 22 = .ok (.imul, 1) := by decide +kernel
theorem dc_303_23 : decode (sm_cc 303) 23 = .ok (.invokestatic 39, 3) := by decide +kernel
theorem kr_303_39 : sm_at mt_k (sm_ow 303) 39 = some (39, 2, 296, 0, 2473) := by decide +kernel
theorem dc_303_26 : decode (sm_cc 303) 26 = .ok (.putfield 7, 3) := by decide +kernel
theorem ml_320 : sm_ml 320 = 3 := by decide +kernel
theorem ml_321 : sm_ml 321 = 5 := by decide +kernel
theorem dc_320_29 : decode (sm_cc 320) 29 = .ok (.aload_n 0, 1) := by decide +kernel
theorem dc_320_30 : decode (sm_cc 320) 30 = .ok (.getfield 13, 3) := by decide +kernel
theorem fr_320_13 : sm_at mt_f (sm_ow 320) 13 = some (13, 12, 2, 0, 2412) := by decide +kernel
theorem dc_320_33 : decode (sm_cc 320) 33 = .ok (.aload_n 0, 1) := by decide +kernel
theorem dc_320_34 : decode (sm_cc 320) 34 = .ok (.getfield 45, 3) := by decide +kernel
theorem fr_320_45 : sm_at mt_f (sm_ow 320) 45 = some (45, 12, 5, 0, 2418) := by decide +kernel
theorem dc_320_37 : decode (sm_cc 320) 37 = .ok (.lload_n 1, 1) := by decide +kernel
theorem dc_320_38 : decode (sm_cc 320) 38 = .ok (.lastore, 1) := by decide +kernel
theorem dc_320_39 : decode (sm_cc 320) 39 = .ok (.aload_n 0, 1) := by decide +kernel
theorem dc_320_40 : decode (sm_cc 320) 40 = .ok (.dup, 1) := by decide +kernel
theorem dc_320_41 : decode (sm_cc 320) 41 = .ok (.getfield 45, 3) := by decide +kernel
theorem dc_320_44 : decode (sm_cc 320) 44 = .ok (.iconst 1, 1) := by decide +kernel
theorem dc_320_45 : decode (sm_cc 320) 45 = .ok (.iadd, 1) := by decide +kernel
theorem dc_320_46 : decode (sm_cc 320) 46 = .ok (.putfield 45, 3) := by decide +kernel
theorem dc_320_49 : decode (sm_cc 320) 49 = .ok (.aload_n 0, 1) := by decide +kernel
theorem dc_320_50 : decode (sm_cc 320) 50 = .ok (.getfield 45, 3) := by decide +kernel
theorem dc_320_53 : decode (sm_cc 320) 53 = .ok (.iconst 1, 1) := by decide +kernel
theorem dc_320_54 : decode (sm_cc 320) 54 = .ok (.isub, 1) := by decide +kernel
theorem dc_320_55 : decode (sm_cc 320) 55 = .ok (.ireturn, 1) := by decide +kernel
theorem rt_320 : sm_rt 320 = some .int := by decide +kernel
theorem dc_320_0 : decode (sm_cc 320) 0 = .ok (.aload_n 0, 1) := by decide +kernel
theorem dc_320_1 : decode (sm_cc 320) 1 = .ok (.getfield 45, 3) := by decide +kernel
theorem dc_320_4 : decode (sm_cc 320) 4 = .ok (.aload_n 0, 1) := by decide +kernel
theorem dc_320_5 : decode (sm_cc 320) 5 = .ok (.getfield 13, 3) := by decide +kernel
theorem dc_320_8 : decode (sm_cc 320) 8 = .ok (.arraylength, 1) := by decide +kernel
theorem dc_320_9 : decode (sm_cc 320) 9 = .ok (.if_icmp .ne (20), 3) := by decide +kernel
theorem dc_320_12 : decode (sm_cc 320) 12 = .ok (.aload_n 0, 1) := by decide +kernel
theorem dc_320_13 : decode (sm_cc 320) 13 = .ok (.aload_n 0, 1) := by decide +kernel
theorem dc_320_14 : decode (sm_cc 320) 14 = .ok (.getfield 13, 3) := by decide +kernel
theorem dc_320_17 : decode (sm_cc 320) 17 = .ok (.iconst 2, 1) := by decide +kernel
theorem dc_320_18 : decode (sm_cc 320) 18 = .ok (.aload_n 0, 1) := by decide +kernel
theorem dc_320_19 : decode (sm_cc 320) 19 = .ok (.getfield 45, 3) := by decide +kernel
theorem dc_320_22 : decode (sm_cc 320) 22 = .ok (.imul, 1) := by decide +kernel
theorem dc_320_23 : decode (sm_cc 320) 23 = .ok (.invokestatic 48, 3) := by decide +kernel
theorem kr_320_48 : sm_at mt_k (sm_ow 320) 48 = some (48, 2, 186, 0, 2542) := by decide +kernel
theorem dc_320_26 : decode (sm_cc 320) 26 = .ok (.putfield 13, 3) := by decide +kernel
theorem dc_321_46 : decode (sm_cc 321) 46 = .ok (.aload_n 0, 1) := by decide +kernel
theorem dc_321_47 : decode (sm_cc 321) 47 = .ok (.getfield 17, 3) := by decide +kernel
theorem fr_321_17 : sm_at mt_f (sm_ow 321) 17 = some (17, 12, 3, 0, 2414) := by decide +kernel
theorem dc_321_50 : decode (sm_cc 321) 50 = .ok (.aload_n 0, 1) := by decide +kernel
theorem dc_321_51 : decode (sm_cc 321) 51 = .ok (.getfield 51, 3) := by decide +kernel
theorem fr_321_51 : sm_at mt_f (sm_ow 321) 51 = some (51, 12, 6, 0, 2419) := by decide +kernel
theorem dc_321_54 : decode (sm_cc 321) 54 = .ok (.lload_n 1, 1) := by decide +kernel
theorem dc_321_55 : decode (sm_cc 321) 55 = .ok (.lastore, 1) := by decide +kernel
theorem dc_321_56 : decode (sm_cc 321) 56 = .ok (.aload_n 0, 1) := by decide +kernel
theorem dc_321_57 : decode (sm_cc 321) 57 = .ok (.getfield 20, 3) := by decide +kernel
theorem fr_321_20 : sm_at mt_f (sm_ow 321) 20 = some (20, 12, 4, 0, 2416) := by decide +kernel
theorem dc_321_60 : decode (sm_cc 321) 60 = .ok (.aload_n 0, 1) := by decide +kernel
theorem dc_321_61 : decode (sm_cc 321) 61 = .ok (.getfield 51, 3) := by decide +kernel
theorem dc_321_64 : decode (sm_cc 321) 64 = .ok (.lload_n 3, 1) := by decide +kernel
theorem dc_321_65 : decode (sm_cc 321) 65 = .ok (.lastore, 1) := by decide +kernel
theorem dc_321_66 : decode (sm_cc 321) 66 = .ok (.aload_n 0, 1) := by decide +kernel
theorem dc_321_67 : decode (sm_cc 321) 67 = .ok (.dup, 1) := by decide +kernel
theorem dc_321_68 : decode (sm_cc 321) 68 = .ok (.getfield 51, 3) := by decide +kernel
theorem dc_321_71 : decode (sm_cc 321) 71 = .ok (.iconst 1, 1) := by decide +kernel
theorem dc_321_72 : decode (sm_cc 321) 72 = .ok (.iadd, 1) := by decide +kernel
theorem dc_321_73 : decode (sm_cc 321) 73 = .ok (.putfield 51, 3) := by decide +kernel
theorem dc_321_76 : decode (sm_cc 321) 76 = .ok (.aload_n 0, 1) := by decide +kernel
theorem dc_321_77 : decode (sm_cc 321) 77 = .ok (.getfield 51, 3) := by decide +kernel
theorem dc_321_80 : decode (sm_cc 321) 80 = .ok (.iconst 1, 1) := by decide +kernel
theorem dc_321_81 : decode (sm_cc 321) 81 = .ok (.isub, 1) := by decide +kernel
theorem dc_321_82 : decode (sm_cc 321) 82 = .ok (.ireturn, 1) := by decide +kernel
theorem rt_321 : sm_rt 321 = some .int := by decide +kernel
theorem dc_321_0 : decode (sm_cc 321) 0 = .ok (.aload_n 0, 1) := by decide +kernel
theorem dc_321_1 : decode (sm_cc 321) 1 = .ok (.getfield 51, 3) := by decide +kernel
theorem dc_321_4 : decode (sm_cc 321) 4 = .ok (.aload_n 0, 1) := by decide +kernel
theorem dc_321_5 : decode (sm_cc 321) 5 = .ok (.getfield 17, 3) := by decide +kernel
theorem dc_321_8 : decode (sm_cc 321) 8 = .ok (.arraylength, 1) := by decide +kernel
theorem dc_321_9 : decode (sm_cc 321) 9 = .ok (.if_icmp .ne (37), 3) := by decide +kernel
theorem dc_321_12 : decode (sm_cc 321) 12 = .ok (.aload_n 0, 1) := by decide +kernel
theorem dc_321_13 : decode (sm_cc 321) 13 = .ok (.aload_n 0, 1) := by decide +kernel
theorem dc_321_14 : decode (sm_cc 321) 14 = .ok (.getfield 17, 3) := by decide +kernel
theorem dc_321_17 : decode (sm_cc 321) 17 = .ok (.iconst 2, 1) := by decide +kernel
theorem dc_321_18 : decode (sm_cc 321) 18 = .ok (.aload_n 0, 1) := by decide +kernel
theorem dc_321_19 : decode (sm_cc 321) 19 = .ok (.getfield 51, 3) := by decide +kernel
theorem dc_321_22 : decode (sm_cc 321) 22 = .ok (.imul, 1) := by decide +kernel
theorem dc_321_23 : decode (sm_cc 321) 23 = .ok (.invokestatic 48, 3) := by decide +kernel
theorem kr_321_48 : sm_at mt_k (sm_ow 321) 48 = some (48, 2, 186, 0, 2542) := by decide +kernel
theorem dc_321_26 : decode (sm_cc 321) 26 = .ok (.putfield 17, 3) := by decide +kernel
theorem dc_321_29 : decode (sm_cc 321) 29 = .ok (.aload_n 0, 1) := by decide +kernel
theorem dc_321_30 : decode (sm_cc 321) 30 = .ok (.aload_n 0, 1) := by decide +kernel
theorem dc_321_31 : decode (sm_cc 321) 31 = .ok (.getfield 20, 3) := by decide +kernel
theorem dc_321_34 : decode (sm_cc 321) 34 = .ok (.iconst 2, 1) := by decide +kernel
theorem dc_321_35 : decode (sm_cc 321) 35 = .ok (.aload_n 0, 1) := by decide +kernel
theorem dc_321_36 : decode (sm_cc 321) 36 = .ok (.getfield 51, 3) := by decide +kernel
theorem dc_321_39 : decode (sm_cc 321) 39 = .ok (.imul, 1) := by decide +kernel
theorem dc_321_40 : decode (sm_cc 321) 40 = .ok (.invokestatic 48, 3) := by decide +kernel
theorem dc_321_43 : decode (sm_cc 321) 43 = .ok (.putfield 20, 3) := by decide +kernel
theorem cput_fit {d : Nat} {S : cS} {m : Nat} {u : Nat} {g : Nat} {N : Nat} {k : Nat} {x : Int32} (hm : 108 ≤ m) (hs : (sS S)[m - 108]? = some (12, u)) (hv : sV S (100 * m + 0) = .ref g) (hg : isK S g 0 N) (hk : sI S (100 * m + 1) = nI k) (hkN : k < N) (hN : N < 2 ^ 20) : Ans (d + 1) 303 [.ref m, .int x] S (none) (wI (100 * m + 1) (nI (k + 1)) (wA g k x S)) := by
  refine Ans.of (by rw [ml_303]; exact Nat.le_of_ble_eq_true rfl) ?_
  refine Bod.go dc_303_0 rfl ?_
  refine Bod.get dc_303_1 fr_303_35 (mk_code hm hs) rfl ?_
  refine Bod.eqI (nI k) (by first | assumption | rfl | exact congrArg nI (by omega) | (simp (disch := omega) only [rI, rIe, rA, rIA, rLA, rJA, rVI, rQI, rVA, rQA, upd_at,  rAI, rLI, rJI, nI_add, pk_sub, kc_0, kc_1, kc_2, kc_3, kc_4, kc_5, reduceIte, Nat.reduceEqDiff, Nat.add_zero, rI_hold, rI_hold, rL_hold, hk]; done)) ?_
  refine Bod.go dc_303_4 rfl ?_
  refine Bod.get dc_303_5 fr_303_7 (mk_code hm hs) rfl ?_
  refine Bod.eqV (.ref g) hv ?_
  refine Bod.alenN (N := N) dc_303_8 (mk_isI hg) el_0 ?_
  refine Bod.icT dc_303_9 rfl (k2_ne_T (k_ne k N rfl rfl (by omega) (by omega) (by omega))) ?_
  refine Bod.go dc_303_29 rfl ?_
  refine Bod.get dc_303_30 fr_303_7 (mk_code hm hs) rfl ?_
  refine Bod.eqV (.ref g) hv ?_
  refine Bod.go dc_303_33 rfl ?_
  refine Bod.get dc_303_34 fr_303_35 (mk_code hm hs) rfl ?_
  refine Bod.eqI (nI k) (by first | assumption | rfl | exact congrArg nI (by omega) | (simp (disch := omega) only [rI, rIe, rA, rIA, rLA, rJA, rVI, rQI, rVA, rQA, upd_at,  rAI, rLI, rJI, nI_add, pk_sub, kc_0, kc_1, kc_2, kc_3, kc_4, kc_5, reduceIte, Nat.reduceEqDiff, Nat.add_zero, rI_hold, rI_hold, rL_hold, hk]; done)) ?_
  refine Bod.go dc_303_37 rfl ?_
  refine Bod.iastN (N := N) k rfl (by omega) (by omega) dc_303_38 (mk_isI hg) (sa_isI hg) (mu_A _ _ _ _) ?_
  refine Bod.go dc_303_39 rfl ?_
  refine Bod.go dc_303_40 rfl ?_
  refine Bod.get dc_303_41 fr_303_35 (mk_code hm (by simp only [rIS, rJS, rAS, rLS, rVS, rQS, rS_hold]; exact hs)) rfl ?_
  refine Bod.eqI (nI k) (by first | (simp (disch := omega) only [rI, rIe, rA, rIA, rLA, rJA, rVI, rQI, rVA, rQA, upd_at,  rAI, rLI, rJI, nI_add, pk_sub, kc_0, kc_1, kc_2, kc_3, kc_4, kc_5, reduceIte, Nat.reduceEqDiff, Nat.add_zero, rI_hold, rI_hold, rL_hold, hk]; done) | (simp (disch := omega) only [rI, rIe, rA, rIA, rLA, rJA, rVI, rQI, rVA, rQA, upd_at,  rAI, rLI, rJI, nI_add, pk_sub, kc_0, kc_1, kc_2, kc_3, kc_4, kc_5, reduceIte, Nat.reduceEqDiff, Nat.add_zero, rI_hold, rI_hold, rL_hold, hk]; exact congrArg nI (by omega))) ?_
  refine Bod.ic 1 (by decide) dc_303_44 ?_
  refine Bod.addN (k + 1) (by omega) dc_303_45 ?_
  refine Bod.put dc_303_46 fr_303_35 (mk_code hm (by simp only [rIS, rJS, rAS, rLS, rVS, rQS, rS_hold]; exact hs)) (Nat.le_of_ble_eq_true rfl) pf_12_1 (st_code_1 hm (by simp only [rIS, rJS, rAS, rLS, rVS, rQS, rS_hold]; exact hs)) (mu_I _ _ _) ?_
  exact Bod.retV dc_303_49 rt_303
theorem cput_tail {d m u g N k : Nat} {x : Int32} {S : cS} (hm : 108 ≤ m) (hs : (sS S)[m - 108]? = some (12, u)) (hv : sV S (100 * m + 0) = .ref g) (hg : isK S g 0 N) (hk : sI S (100 * m + 1) = nI k) (hkN : k < N) (hN : N < 2 ^ 20) : Bod d 303 29 (lv_args 0 [.ref m, .int x]) [] S none (wI (100 * m + 1) (nI (k + 1)) (wA g k x S)) := by
  refine Bod.go dc_303_29 rfl ?_
  refine Bod.get dc_303_30 fr_303_7 (mk_code hm hs) rfl ?_
  refine Bod.eqV (.ref g) hv ?_
  refine Bod.go dc_303_33 rfl ?_
  refine Bod.get dc_303_34 fr_303_35 (mk_code hm hs) rfl ?_
  refine Bod.eqI (nI k) (by first | assumption | rfl | exact congrArg nI (by omega) | (simp (disch := omega) only [rI, rIe, rA, rIA, rLA, rJA, rVI, rQI, rVA, rQA, upd_at,  rAI, rLI, rJI, nI_add, pk_sub, kc_0, kc_1, kc_2, kc_3, kc_4, kc_5, reduceIte, Nat.reduceEqDiff, Nat.add_zero, rI_hold, rI_hold, rL_hold, hk]; done)) ?_
  refine Bod.go dc_303_37 rfl ?_
  refine Bod.iastN (N := N) k rfl (by omega) (by omega) dc_303_38 (mk_isI hg) (sa_isI hg) (mu_A _ _ _ _) ?_
  refine Bod.go dc_303_39 rfl ?_
  refine Bod.go dc_303_40 rfl ?_
  refine Bod.get dc_303_41 fr_303_35 (mk_code hm (by simp only [rIS, rJS, rAS, rLS, rVS, rQS, rS_hold]; exact hs)) rfl ?_
  refine Bod.eqI (nI k) (by first | (simp (disch := omega) only [rI, rIe, rA, rIA, rLA, rJA, rVI, rQI, rVA, rQA, upd_at,  rAI, rLI, rJI, nI_add, pk_sub, kc_0, kc_1, kc_2, kc_3, kc_4, kc_5, reduceIte, Nat.reduceEqDiff, Nat.add_zero, rI_hold, rI_hold, rL_hold, hk]; done) | (simp (disch := omega) only [rI, rIe, rA, rIA, rLA, rJA, rVI, rQI, rVA, rQA, upd_at,  rAI, rLI, rJI, nI_add, pk_sub, kc_0, kc_1, kc_2, kc_3, kc_4, kc_5, reduceIte, Nat.reduceEqDiff, Nat.add_zero, rI_hold, rI_hold, rL_hold, hk]; exact congrArg nI (by omega))) ?_
  refine Bod.ic 1 (by decide) dc_303_44 ?_
  refine Bod.addN (k + 1) (by omega) dc_303_45 ?_
  refine Bod.put dc_303_46 fr_303_35 (mk_code hm (by simp only [rIS, rJS, rAS, rLS, rVS, rQS, rS_hold]; exact hs)) (Nat.le_of_ble_eq_true rfl) pf_12_1 (st_code_1 hm (by simp only [rIS, rJS, rAS, rLS, rVS, rQS, rS_hold]; exact hs)) (mu_I _ _ _) ?_
  exact Bod.retV dc_303_49 rt_303
theorem cput_more {d m u g b k : Nat} {x : Int32} {S S1 Sf : cS} {v : Option Value} (hm : 108 ≤ m) (hs : (sS S)[m - 108]? = some (12, u)) (hs1 : (sS S1)[m - 108]? = some (12, u)) (hv : sV S (100 * m + 0) = .ref g) (hg : isK S g 0 k) (hk : sI S (100 * m + 1) = nI k) (hN : k < 2 ^ 20) (hC : Ans (d + 2) 296 [.ref g, .int (nI (2 * k))] S (some (.ref b)) S1) (hB : Bod (d + 2) 303 29 (lv_args 0 [.ref m, .int x]) [] (wV (100 * m + 0) (.ref b) S1) v Sf) : Ans (d + 3) 303 [.ref m, .int x] S v Sf := by
  refine Ans.of (by rw [ml_303]; exact Nat.le_of_ble_eq_true rfl) ?_
  refine Bod.go dc_303_0 rfl ?_
  refine Bod.get dc_303_1 fr_303_35 (mk_code hm hs) rfl ?_
  refine Bod.eqI (nI k) (by first | assumption | rfl | exact congrArg nI (by omega) | (simp (disch := omega) only [rI, rIe, rA, rIA, rLA, rJA, rVI, rQI, rVA, rQA, upd_at,  rAI, rLI, rJI, nI_add, pk_sub, kc_0, kc_1, kc_2, kc_3, kc_4, kc_5, reduceIte, Nat.reduceEqDiff, Nat.add_zero, rI_hold, rI_hold, rL_hold, hk]; done)) ?_
  refine Bod.go dc_303_4 rfl ?_
  refine Bod.get dc_303_5 fr_303_7 (mk_code hm hs) rfl ?_
  refine Bod.eqV (.ref g) hv ?_
  refine Bod.alenN (N := k) dc_303_8 (mk_isI hg) el_0 ?_
  refine Bod.icF dc_303_9 rfl (k2_ne_F (k_eq k k rfl rfl (by omega))) ?_
  refine Bod.go dc_303_12 rfl ?_
  refine Bod.go dc_303_13 rfl ?_
  refine Bod.get dc_303_14 fr_303_7 (mk_code hm hs) rfl ?_
  refine Bod.eqV (.ref g) hv ?_
  refine Bod.ic 2 (by decide) dc_303_17 ?_
  refine Bod.go dc_303_18 rfl ?_
  refine Bod.get dc_303_19 fr_303_35 (mk_code hm hs) rfl ?_
  refine Bod.eqI (nI k) (by first | assumption | rfl | exact congrArg nI (by omega) | (simp (disch := omega) only [rI, rIe, rA, rIA, rLA, rJA, rVI, rQI, rVA, rQA, upd_at,  rAI, rLI, rJI, nI_add, pk_sub, kc_0, kc_1, kc_2, kc_3, kc_4, kc_5, reduceIte, Nat.reduceEqDiff, Nat.add_zero, rI_hold, rI_hold, rL_hold, hk]; done)) ?_
  refine Bod.mulN (2 * k) (by omega) dc_303_22 ?_
  refine Bod.stat (r := [_]) dc_303_23 kr_303_39 (Or.inl rfl) (by rw [np_296]; rfl) (by rw [np_296]; rfl) (by rw [np_296]; exact Nat.le_of_ble_eq_true rfl) (Nat.le_of_ble_eq_true rfl) (hC  ) ?_
  show Bod _ _ _ _ [_, _] _ _ _
  refine Bod.put dc_303_26 fr_303_7 (mk_code hm hs1) (Nat.le_of_ble_eq_true rfl) pr_12_0 (st_code_0 hm hs1) (mu_V _ _ _) ?_
  exact hB
theorem cwhole_tail {d m u g N k : Nat} {w : Int64} {S : cS} (hm : 108 ≤ m) (hs : (sS S)[m - 108]? = some (12, u)) (hv : sV S (100 * m + 2) = .ref g) (hg : isK S g 1 N) (hk : sI S (100 * m + 5) = nI k) (hkN : k < N) (hN : N < 2 ^ 20) : Bod d 320 29 (lv_args 0 [.ref m, .long w]) [] S (some (.int (nI k))) (wI (100 * m + 5) (nI (k + 1)) (wL g k w S)) := by
  refine Bod.go dc_320_29 rfl ?_
  refine Bod.get dc_320_30 fr_320_13 (mk_code hm hs) rfl ?_
  refine Bod.eqV (.ref g) hv ?_
  refine Bod.go dc_320_33 rfl ?_
  refine Bod.get dc_320_34 fr_320_45 (mk_code hm hs) rfl ?_
  refine Bod.eqI (nI k) (by first | assumption | rfl | exact congrArg nI (by omega) | (simp (disch := omega) only [rI, rIe, rA, rIA, rLA, rJA, rVI, rQI, rVA, rQA, upd_at,  rAI, rLI, rJI, nI_add, pk_sub, kc_0, kc_1, kc_2, kc_3, kc_4, kc_5, reduceIte, Nat.reduceEqDiff, Nat.add_zero, rI_hold, rI_hold, rL_hold, hk]; done)) ?_
  refine Bod.go dc_320_37 rfl ?_
  refine Bod.lastN (N := N) k rfl (by omega) (by omega) dc_320_38 (mk_isL hg) (sa_isL hg) (mu_L _ _ _ _) ?_
  refine Bod.go dc_320_39 rfl ?_
  refine Bod.go dc_320_40 rfl ?_
  refine Bod.get dc_320_41 fr_320_45 (mk_code hm (by simp only [rIS, rJS, rAS, rLS, rVS, rQS, rS_hold]; exact hs)) rfl ?_
  refine Bod.eqI (nI k) (by first | (simp (disch := omega) only [rI, rIe, rA, rIA, rLA, rJA, rVI, rQI, rVA, rQA, upd_at,  rAI, rLI, rJI, nI_add, pk_sub, kc_0, kc_1, kc_2, kc_3, kc_4, kc_5, reduceIte, Nat.reduceEqDiff, Nat.add_zero, rI_hold, rI_hold, rL_hold, hk]; done) | (simp (disch := omega) only [rI, rIe, rA, rIA, rLA, rJA, rVI, rQI, rVA, rQA, upd_at,  rAI, rLI, rJI, nI_add, pk_sub, kc_0, kc_1, kc_2, kc_3, kc_4, kc_5, reduceIte, Nat.reduceEqDiff, Nat.add_zero, rI_hold, rI_hold, rL_hold, hk]; exact congrArg nI (by omega))) ?_
  refine Bod.ic 1 (by decide) dc_320_44 ?_
  refine Bod.addN (k + 1) (by omega) dc_320_45 ?_
  refine Bod.put dc_320_46 fr_320_45 (mk_code hm (by simp only [rIS, rJS, rAS, rLS, rVS, rQS, rS_hold]; exact hs)) (Nat.le_of_ble_eq_true rfl) pf_12_5 (st_code_5 hm (by simp only [rIS, rJS, rAS, rLS, rVS, rQS, rS_hold]; exact hs)) (mu_I _ _ _) ?_
  refine Bod.go dc_320_49 rfl ?_
  refine Bod.get dc_320_50 fr_320_45 (mk_code hm (by simp only [rIS, rJS, rAS, rLS, rVS, rQS, rS_hold]; exact hs)) rfl ?_
  refine Bod.eqI (nI (k + 1)) (by first | (simp (disch := omega) only [rI, rIe, rA, rIA, rLA, rJA, rVI, rQI, rVA, rQA, upd_at,  rAI, rLI, rJI, nI_add, pk_sub, kc_0, kc_1, kc_2, kc_3, kc_4, kc_5, reduceIte, Nat.reduceEqDiff, Nat.add_zero, rI_hold, rI_hold, rL_hold, hk]; done) | (simp (disch := omega) only [rI, rIe, rA, rIA, rLA, rJA, rVI, rQI, rVA, rQA, upd_at,  rAI, rLI, rJI, nI_add, pk_sub, kc_0, kc_1, kc_2, kc_3, kc_4, kc_5, reduceIte, Nat.reduceEqDiff, Nat.add_zero, rI_hold, rI_hold, rL_hold, hk]; exact congrArg nI (by omega))) ?_
  refine Bod.ic 1 (by decide) dc_320_53 ?_
  refine Bod.subN k (by omega) (by omega) dc_320_54 ?_
  exact Bod.retI dc_320_55 rt_320
theorem cwhole_fit {d m u g N k : Nat} {w : Int64} {S Sf : cS} {v : Option Value} (hm : 108 ≤ m) (hs : (sS S)[m - 108]? = some (12, u)) (hv : sV S (100 * m + 2) = .ref g) (hg : isK S g 1 N) (hk : sI S (100 * m + 5) = nI k) (hkN : k < N) (hN : N < 2 ^ 20) (hB : Bod d 320 29 (lv_args 0 [.ref m, .long w]) [] S v Sf) : Ans (d + 1) 320 [.ref m, .long w] S v Sf := by
  refine Ans.of (by rw [ml_320]; exact Nat.le_of_ble_eq_true rfl) ?_
  refine Bod.go dc_320_0 rfl ?_
  refine Bod.get dc_320_1 fr_320_45 (mk_code hm hs) rfl ?_
  refine Bod.eqI (nI k) (by first | assumption | rfl | exact congrArg nI (by omega) | (simp (disch := omega) only [rI, rIe, rA, rIA, rLA, rJA, rVI, rQI, rVA, rQA, upd_at,  rAI, rLI, rJI, nI_add, pk_sub, kc_0, kc_1, kc_2, kc_3, kc_4, kc_5, reduceIte, Nat.reduceEqDiff, Nat.add_zero, rI_hold, rI_hold, rL_hold, hk]; done)) ?_
  refine Bod.go dc_320_4 rfl ?_
  refine Bod.get dc_320_5 fr_320_13 (mk_code hm hs) rfl ?_
  refine Bod.eqV (.ref g) hv ?_
  refine Bod.alenN (N := N) dc_320_8 (mk_isL hg) el_1 ?_
  refine Bod.icT dc_320_9 rfl (k2_ne_T (k_ne k N rfl rfl (by omega) (by omega) (by omega))) ?_
  exact hB
theorem cwhole_more {d m u g b k : Nat} {w : Int64} {S S1 Sf : cS} {v : Option Value} (hm : 108 ≤ m) (hs : (sS S)[m - 108]? = some (12, u)) (hs1 : (sS S1)[m - 108]? = some (12, u)) (hv : sV S (100 * m + 2) = .ref g) (hg : isK S g 1 k) (hk : sI S (100 * m + 5) = nI k) (hN : k < 2 ^ 20) (hC : Ans (d + 2) 186 [.ref g, .int (nI (2 * k))] S (some (.ref b)) S1) (hB : Bod (d + 2) 320 29 (lv_args 0 [.ref m, .long w]) [] (wV (100 * m + 2) (.ref b) S1) v Sf) : Ans (d + 3) 320 [.ref m, .long w] S v Sf := by
  refine Ans.of (by rw [ml_320]; exact Nat.le_of_ble_eq_true rfl) ?_
  refine Bod.go dc_320_0 rfl ?_
  refine Bod.get dc_320_1 fr_320_45 (mk_code hm hs) rfl ?_
  refine Bod.eqI (nI k) (by first | assumption | rfl | exact congrArg nI (by omega) | (simp (disch := omega) only [rI, rIe, rA, rIA, rLA, rJA, rVI, rQI, rVA, rQA, upd_at,  rAI, rLI, rJI, nI_add, pk_sub, kc_0, kc_1, kc_2, kc_3, kc_4, kc_5, reduceIte, Nat.reduceEqDiff, Nat.add_zero, rI_hold, rI_hold, rL_hold, hk]; done)) ?_
  refine Bod.go dc_320_4 rfl ?_
  refine Bod.get dc_320_5 fr_320_13 (mk_code hm hs) rfl ?_
  refine Bod.eqV (.ref g) hv ?_
  refine Bod.alenN (N := k) dc_320_8 (mk_isL hg) el_1 ?_
  refine Bod.icF dc_320_9 rfl (k2_ne_F (k_eq k k rfl rfl (by omega))) ?_
  refine Bod.go dc_320_12 rfl ?_
  refine Bod.go dc_320_13 rfl ?_
  refine Bod.get dc_320_14 fr_320_13 (mk_code hm hs) rfl ?_
  refine Bod.eqV (.ref g) hv ?_
  refine Bod.ic 2 (by decide) dc_320_17 ?_
  refine Bod.go dc_320_18 rfl ?_
  refine Bod.get dc_320_19 fr_320_45 (mk_code hm hs) rfl ?_
  refine Bod.eqI (nI k) (by first | assumption | rfl | exact congrArg nI (by omega) | (simp (disch := omega) only [rI, rIe, rA, rIA, rLA, rJA, rVI, rQI, rVA, rQA, upd_at,  rAI, rLI, rJI, nI_add, pk_sub, kc_0, kc_1, kc_2, kc_3, kc_4, kc_5, reduceIte, Nat.reduceEqDiff, Nat.add_zero, rI_hold, rI_hold, rL_hold, hk]; done)) ?_
  refine Bod.mulN (2 * k) (by omega) dc_320_22 ?_
  refine Bod.stat (r := [_]) dc_320_23 kr_320_48 (Or.inl rfl) (by rw [np_186]; rfl) (by rw [np_186]; rfl) (by rw [np_186]; exact Nat.le_of_ble_eq_true rfl) (Nat.le_of_ble_eq_true rfl) (hC  ) ?_
  show Bod _ _ _ _ [_, _] _ _ _
  refine Bod.put dc_320_26 fr_320_13 (mk_code hm hs1) (Nat.le_of_ble_eq_true rfl) pr_12_2 (st_code_2 hm hs1) (mu_V _ _ _) ?_
  exact hB
theorem cstr_tail {d m u g f N k : Nat} {a b : Int64} {S : cS} (hm : 108 ≤ m) (hs : (sS S)[m - 108]? = some (12, u)) (hv : sV S (100 * m + 3) = .ref g) (hvf : sV S (100 * m + 4) = .ref f) (hg : isK S g 1 N) (hf : isK S f 1 N) (hk : sI S (100 * m + 6) = nI k) (hkN : k < N) (hN : N < 2 ^ 20) : Bod d 321 46 (lv_args 0 [.ref m, .long a, .long b]) [] S (some (.int (nI k))) (wI (100 * m + 6) (nI (k + 1)) (wL f k b (wL g k a S))) := by
  refine Bod.go dc_321_46 rfl ?_
  refine Bod.get dc_321_47 fr_321_17 (mk_code hm hs) rfl ?_
  refine Bod.eqV (.ref g) hv ?_
  refine Bod.go dc_321_50 rfl ?_
  refine Bod.get dc_321_51 fr_321_51 (mk_code hm hs) rfl ?_
  refine Bod.eqI (nI k) (by first | assumption | rfl | exact congrArg nI (by omega) | (simp (disch := omega) only [rI, rIe, rA, rIA, rLA, rJA, rVI, rQI, rVA, rQA, upd_at,  rAI, rLI, rJI, nI_add, pk_sub, kc_0, kc_1, kc_2, kc_3, kc_4, kc_5, reduceIte, Nat.reduceEqDiff, Nat.add_zero, rI_hold, rI_hold, rL_hold, hk]; done)) ?_
  refine Bod.go dc_321_54 rfl ?_
  refine Bod.lastN (N := N) k rfl (by omega) (by omega) dc_321_55 (mk_isL hg) (sa_isL hg) (mu_L _ _ _ _) ?_
  refine Bod.go dc_321_56 rfl ?_
  refine Bod.get dc_321_57 fr_321_20 (mk_code hm (by simp only [rIS, rJS, rAS, rLS, rVS, rQS, rS_hold]; exact hs)) rfl ?_
  refine Bod.eqV (.ref f) (by first | exact hvf | (simp only [rIV, rJV, rAV, rLV, rQV]; exact hvf)) ?_
  refine Bod.go dc_321_60 rfl ?_
  refine Bod.get dc_321_61 fr_321_51 (mk_code hm (by simp only [rIS, rJS, rAS, rLS, rVS, rQS, rS_hold]; exact hs)) rfl ?_
  refine Bod.eqI (nI k) (by first | (simp (disch := omega) only [rI, rIe, rA, rIA, rLA, rJA, rVI, rQI, rVA, rQA, upd_at,  rAI, rLI, rJI, nI_add, pk_sub, kc_0, kc_1, kc_2, kc_3, kc_4, kc_5, reduceIte, Nat.reduceEqDiff, Nat.add_zero, rI_hold, rI_hold, rL_hold, hk]; done) | (simp (disch := omega) only [rI, rIe, rA, rIA, rLA, rJA, rVI, rQI, rVA, rQA, upd_at,  rAI, rLI, rJI, nI_add, pk_sub, kc_0, kc_1, kc_2, kc_3, kc_4, kc_5, reduceIte, Nat.reduceEqDiff, Nat.add_zero, rI_hold, rI_hold, rL_hold, hk]; exact congrArg nI (by omega))) ?_
  refine Bod.go dc_321_64 rfl ?_
  refine Bod.lastN (N := N) k rfl (by omega) (by omega) dc_321_65 (mk_isL (by first | exact hf | exact isK_S (by simp only [rIS, rJS, rAS, rLS, rVS, rQS, rS_hold]) hf)) (sa_isL (by first | exact hf | exact isK_S (by simp only [rIS, rJS, rAS, rLS, rVS, rQS, rS_hold]) hf)) (mu_L _ _ _ _) ?_
  refine Bod.go dc_321_66 rfl ?_
  refine Bod.go dc_321_67 rfl ?_
  refine Bod.get dc_321_68 fr_321_51 (mk_code hm (by simp only [rIS, rJS, rAS, rLS, rVS, rQS, rS_hold]; exact hs)) rfl ?_
  refine Bod.eqI (nI k) (by first | (simp (disch := omega) only [rI, rIe, rA, rIA, rLA, rJA, rVI, rQI, rVA, rQA, upd_at,  rAI, rLI, rJI, nI_add, pk_sub, kc_0, kc_1, kc_2, kc_3, kc_4, kc_5, reduceIte, Nat.reduceEqDiff, Nat.add_zero, rI_hold, rI_hold, rL_hold, hk]; done) | (simp (disch := omega) only [rI, rIe, rA, rIA, rLA, rJA, rVI, rQI, rVA, rQA, upd_at,  rAI, rLI, rJI, nI_add, pk_sub, kc_0, kc_1, kc_2, kc_3, kc_4, kc_5, reduceIte, Nat.reduceEqDiff, Nat.add_zero, rI_hold, rI_hold, rL_hold, hk]; exact congrArg nI (by omega))) ?_
  refine Bod.ic 1 (by decide) dc_321_71 ?_
  refine Bod.addN (k + 1) (by omega) dc_321_72 ?_
  refine Bod.put dc_321_73 fr_321_51 (mk_code hm (by simp only [rIS, rJS, rAS, rLS, rVS, rQS, rS_hold]; exact hs)) (Nat.le_of_ble_eq_true rfl) pf_12_6 (st_code_6 hm (by simp only [rIS, rJS, rAS, rLS, rVS, rQS, rS_hold]; exact hs)) (mu_I _ _ _) ?_
  refine Bod.go dc_321_76 rfl ?_
  refine Bod.get dc_321_77 fr_321_51 (mk_code hm (by simp only [rIS, rJS, rAS, rLS, rVS, rQS, rS_hold]; exact hs)) rfl ?_
  refine Bod.eqI (nI (k + 1)) (by first | (simp (disch := omega) only [rI, rIe, rA, rIA, rLA, rJA, rVI, rQI, rVA, rQA, upd_at,  rAI, rLI, rJI, nI_add, pk_sub, kc_0, kc_1, kc_2, kc_3, kc_4, kc_5, reduceIte, Nat.reduceEqDiff, Nat.add_zero, rI_hold, rI_hold, rL_hold, hk]; done) | (simp (disch := omega) only [rI, rIe, rA, rIA, rLA, rJA, rVI, rQI, rVA, rQA, upd_at,  rAI, rLI, rJI, nI_add, pk_sub, kc_0, kc_1, kc_2, kc_3, kc_4, kc_5, reduceIte, Nat.reduceEqDiff, Nat.add_zero, rI_hold, rI_hold, rL_hold, hk]; exact congrArg nI (by omega))) ?_
  refine Bod.ic 1 (by decide) dc_321_80 ?_
  refine Bod.subN k (by omega) (by omega) dc_321_81 ?_
  exact Bod.retI dc_321_82 rt_321
theorem cstr_fit {d m u g f N k : Nat} {a b : Int64} {S Sf : cS} {v : Option Value} (hm : 108 ≤ m) (hs : (sS S)[m - 108]? = some (12, u)) (hv : sV S (100 * m + 3) = .ref g) (hvf : sV S (100 * m + 4) = .ref f) (hg : isK S g 1 N) (hf : isK S f 1 N) (hk : sI S (100 * m + 6) = nI k) (hkN : k < N) (hN : N < 2 ^ 20) (hB : Bod d 321 46 (lv_args 0 [.ref m, .long a, .long b]) [] S v Sf) : Ans (d + 1) 321 [.ref m, .long a, .long b] S v Sf := by
  refine Ans.of (by rw [ml_321]; exact Nat.le_of_ble_eq_true rfl) ?_
  refine Bod.go dc_321_0 rfl ?_
  refine Bod.get dc_321_1 fr_321_51 (mk_code hm hs) rfl ?_
  refine Bod.eqI (nI k) (by first | assumption | rfl | exact congrArg nI (by omega) | (simp (disch := omega) only [rI, rIe, rA, rIA, rLA, rJA, rVI, rQI, rVA, rQA, upd_at,  rAI, rLI, rJI, nI_add, pk_sub, kc_0, kc_1, kc_2, kc_3, kc_4, kc_5, reduceIte, Nat.reduceEqDiff, Nat.add_zero, rI_hold, rI_hold, rL_hold, hk]; done)) ?_
  refine Bod.go dc_321_4 rfl ?_
  refine Bod.get dc_321_5 fr_321_17 (mk_code hm hs) rfl ?_
  refine Bod.eqV (.ref g) hv ?_
  refine Bod.alenN (N := N) dc_321_8 (mk_isL hg) el_1 ?_
  refine Bod.icT dc_321_9 rfl (k2_ne_T (k_ne k N rfl rfl (by omega) (by omega) (by omega))) ?_
  exact hB
theorem cstr_more {d m u g b1 k : Nat} {a b : Int64} {S S1 Sf : cS} {v : Option Value} (hm : 108 ≤ m) (hs : (sS S)[m - 108]? = some (12, u)) (hs1 : (sS S1)[m - 108]? = some (12, u)) (hv : sV S (100 * m + 3) = .ref g) (hg : isK S g 1 k) (hk : sI S (100 * m + 6) = nI k) (hN : k < 2 ^ 20) (hC : Ans (d + 2) 186 [.ref g, .int (nI (2 * k))] S (some (.ref b1)) S1) (hB : Bod (d + 2) 321 29 (lv_args 0 [.ref m, .long a, .long b]) [] (wV (100 * m + 3) (.ref b1) S1) v Sf) : Ans (d + 3) 321 [.ref m, .long a, .long b] S v Sf := by
  refine Ans.of (by rw [ml_321]; exact Nat.le_of_ble_eq_true rfl) ?_
  refine Bod.go dc_321_0 rfl ?_
  refine Bod.get dc_321_1 fr_321_51 (mk_code hm hs) rfl ?_
  refine Bod.eqI (nI k) (by first | assumption | rfl | exact congrArg nI (by omega) | (simp (disch := omega) only [rI, rIe, rA, rIA, rLA, rJA, rVI, rQI, rVA, rQA, upd_at,  rAI, rLI, rJI, nI_add, pk_sub, kc_0, kc_1, kc_2, kc_3, kc_4, kc_5, reduceIte, Nat.reduceEqDiff, Nat.add_zero, rI_hold, rI_hold, rL_hold, hk]; done)) ?_
  refine Bod.go dc_321_4 rfl ?_
  refine Bod.get dc_321_5 fr_321_17 (mk_code hm hs) rfl ?_
  refine Bod.eqV (.ref g) hv ?_
  refine Bod.alenN (N := k) dc_321_8 (mk_isL hg) el_1 ?_
  refine Bod.icF dc_321_9 rfl (k2_ne_F (k_eq k k rfl rfl (by omega))) ?_
  refine Bod.go dc_321_12 rfl ?_
  refine Bod.go dc_321_13 rfl ?_
  refine Bod.get dc_321_14 fr_321_17 (mk_code hm hs) rfl ?_
  refine Bod.eqV (.ref g) hv ?_
  refine Bod.ic 2 (by decide) dc_321_17 ?_
  refine Bod.go dc_321_18 rfl ?_
  refine Bod.get dc_321_19 fr_321_51 (mk_code hm hs) rfl ?_
  refine Bod.eqI (nI k) (by first | assumption | rfl | exact congrArg nI (by omega) | (simp (disch := omega) only [rI, rIe, rA, rIA, rLA, rJA, rVI, rQI, rVA, rQA, upd_at,  rAI, rLI, rJI, nI_add, pk_sub, kc_0, kc_1, kc_2, kc_3, kc_4, kc_5, reduceIte, Nat.reduceEqDiff, Nat.add_zero, rI_hold, rI_hold, rL_hold, hk]; done)) ?_
  refine Bod.mulN (2 * k) (by omega) dc_321_22 ?_
  refine Bod.stat (r := [_]) dc_321_23 kr_321_48 (Or.inl rfl) (by rw [np_186]; rfl) (by rw [np_186]; rfl) (by rw [np_186]; exact Nat.le_of_ble_eq_true rfl) (Nat.le_of_ble_eq_true rfl) (hC  ) ?_
  show Bod _ _ _ _ [_, _] _ _ _
  refine Bod.put dc_321_26 fr_321_17 (mk_code hm hs1) (Nat.le_of_ble_eq_true rfl) pr_12_3 (st_code_3 hm hs1) (mu_V _ _ _) ?_
  exact hB
theorem cstr_more2 {d m u g b1 k : Nat} {a b : Int64} {S S1 Sf : cS} {v : Option Value} (hm : 108 ≤ m) (hs : (sS S)[m - 108]? = some (12, u)) (hs1 : (sS S1)[m - 108]? = some (12, u)) (hv : sV S (100 * m + 4) = .ref g) (hg : isK S g 1 k) (hk : sI S (100 * m + 6) = nI k) (hN : k < 2 ^ 20) (hC : Ans (d + 2) 186 [.ref g, .int (nI (2 * k))] S (some (.ref b1)) S1) (hB : Bod (d + 2) 321 46 (lv_args 0 [.ref m, .long a, .long b]) [] (wV (100 * m + 4) (.ref b1) S1) v Sf) : Bod (d + 2) 321 29 (lv_args 0 [.ref m, .long a, .long b]) [] S v Sf := by
  refine Bod.go dc_321_29 rfl ?_
  refine Bod.go dc_321_30 rfl ?_
  refine Bod.get dc_321_31 fr_321_20 (mk_code hm hs) rfl ?_
  refine Bod.eqV (.ref g) hv ?_
  refine Bod.ic 2 (by decide) dc_321_34 ?_
  refine Bod.go dc_321_35 rfl ?_
  refine Bod.get dc_321_36 fr_321_51 (mk_code hm hs) rfl ?_
  refine Bod.eqI (nI k) (by first | assumption | rfl | exact congrArg nI (by omega) | (simp (disch := omega) only [rI, rIe, rA, rIA, rLA, rJA, rVI, rQI, rVA, rQA, upd_at,  rAI, rLI, rJI, nI_add, pk_sub, kc_0, kc_1, kc_2, kc_3, kc_4, kc_5, reduceIte, Nat.reduceEqDiff, Nat.add_zero, rI_hold, rI_hold, rL_hold, hk]; done)) ?_
  refine Bod.mulN (2 * k) (by omega) dc_321_39 ?_
  refine Bod.stat (r := [_]) dc_321_40 kr_321_48 (Or.inl rfl) (by rw [np_186]; rfl) (by rw [np_186]; rfl) (by rw [np_186]; exact Nat.le_of_ble_eq_true rfl) (Nat.le_of_ble_eq_true rfl) (hC  ) ?_
  show Bod _ _ _ _ [_, _] _ _ _
  refine Bod.put dc_321_43 fr_321_20 (mk_code hm hs1) (Nat.le_of_ble_eq_true rfl) pr_12_4 (st_code_4 hm hs1) (mu_V _ _ _) ?_
  exact hB
