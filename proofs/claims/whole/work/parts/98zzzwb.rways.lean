/-! WAYS of the reference's statements: every call is a hypothesis -/
theorem ml_330 : sm_ml 330 = 1 := by decide +kernel
theorem dc_330_0 : decode (sm_cc 330) 0 = .ok (.aload_n 0, 1) := by decide +kernel
theorem dc_330_1 : decode (sm_cc 330) 1 = .ok (.getfield 236, 3) := by decide +kernel
theorem fr_330_236 : sm_at mt_f (sm_ow 330) 236 = some (236, 14, 22, 0, 2095) := by decide +kernel
theorem dc_330_4 : decode (sm_cc 330) 4 = .ok (.ifCond .ne (8), 3) := by decide +kernel
theorem dc_330_7 : decode (sm_cc 330) 7 = .ok (.aload_n 0, 1) := by decide +kernel
theorem dc_330_8 : decode (sm_cc 330) 8 = .ok (.invokevirtual 202, 3) := by decide +kernel
theorem kr_330_202 : sm_at mt_k (sm_ow 330) 202 = some (202, 0, 299, 0, 2454) := by decide +kernel
theorem dc_330_11 : decode (sm_cc 330) 11 = .ok (.ireturn, 1) := by decide +kernel
theorem rt_330 : sm_rt 330 = some .boolean := by decide +kernel
theorem dc_330_12 : decode (sm_cc 330) 12 = .ok (.aload_n 0, 1) := by decide +kernel
theorem dc_330_13 : decode (sm_cc 330) 13 = .ok (.dup, 1) := by decide +kernel
theorem dc_330_14 : decode (sm_cc 330) 14 = .ok (.getfield 190, 3) := by decide +kernel
theorem fr_330_190 : sm_at mt_f (sm_ow 330) 190 = some (190, 14, 15, 0, 2088) := by decide +kernel
theorem dc_330_17 : decode (sm_cc 330) 17 = .ok (.iconst 1, 1) := by decide +kernel
theorem dc_330_18 : decode (sm_cc 330) 18 = .ok (.iadd, 1) := by decide +kernel
theorem dc_330_19 : decode (sm_cc 330) 19 = .ok (.putfield 190, 3) := by decide +kernel
theorem dc_330_22 : decode (sm_cc 330) 22 = .ok (.aload_n 0, 1) := by decide +kernel
theorem dc_330_23 : decode (sm_cc 330) 23 = .ok (.getfield 129, 3) := by decide +kernel
theorem fr_330_129 : sm_at mt_f (sm_ow 330) 129 = some (129, 14, 6, 0, 2079) := by decide +kernel
theorem dc_330_26 : decode (sm_cc 330) 26 = .ok (.aload_n 0, 1) := by decide +kernel
theorem dc_330_27 : decode (sm_cc 330) 27 = .ok (.getfield 190, 3) := by decide +kernel
theorem dc_330_30 : decode (sm_cc 330) 30 = .ok (.iaload, 1) := by decide +kernel
theorem dc_330_31 : decode (sm_cc 330) 31 = .ok (.iconst 1, 1) := by decide +kernel
theorem dc_330_32 : decode (sm_cc 330) 32 = .ok (.if_icmp .ne (19), 3) := by decide +kernel
theorem dc_330_51 : decode (sm_cc 330) 51 = .ok (.aload_n 0, 1) := by decide +kernel
theorem dc_330_52 : decode (sm_cc 330) 52 = .ok (.invokevirtual 202, 3) := by decide +kernel
theorem dc_330_55 : decode (sm_cc 330) 55 = .ok (.ireturn, 1) := by decide +kernel
theorem dc_330_35 : decode (sm_cc 330) 35 = .ok (.aload_n 0, 1) := by decide +kernel
theorem dc_330_36 : decode (sm_cc 330) 36 = .ok (.aload_n 0, 1) := by decide +kernel
theorem dc_330_37 : decode (sm_cc 330) 37 = .ok (.getfield 135, 3) := by decide +kernel
theorem fr_330_135 : sm_at mt_f (sm_ow 330) 135 = some (135, 14, 7, 0, 2080) := by decide +kernel
theorem dc_330_40 : decode (sm_cc 330) 40 = .ok (.aload_n 0, 1) := by decide +kernel
theorem dc_330_41 : decode (sm_cc 330) 41 = .ok (.getfield 190, 3) := by decide +kernel
theorem dc_330_44 : decode (sm_cc 330) 44 = .ok (.iaload, 1) := by decide +kernel
theorem dc_330_45 : decode (sm_cc 330) 45 = .ok (.invokevirtual 444, 3) := by decide +kernel
theorem ow_331 : 14 = sm_ow 331 := by decide +kernel
theorem kr_330_444 : sm_at mt_k (sm_ow 330) 444 = some (444, 0, 331, 0, 2583) := by decide +kernel
theorem np_331 : sm_np 331 = 1 := by decide +kernel
theorem dc_330_48 : decode (sm_cc 330) 48 = .ok (.ifCond .eq (8), 3) := by decide +kernel
theorem dc_330_56 : decode (sm_cc 330) 56 = .ok (.aload_n 0, 1) := by decide +kernel
theorem dc_330_57 : decode (sm_cc 330) 57 = .ok (.dup, 1) := by decide +kernel
theorem dc_330_58 : decode (sm_cc 330) 58 = .ok (.getfield 190, 3) := by decide +kernel
theorem dc_330_61 : decode (sm_cc 330) 61 = .ok (.iconst 1, 1) := by decide +kernel
theorem dc_330_62 : decode (sm_cc 330) 62 = .ok (.iadd, 1) := by decide +kernel
theorem dc_330_63 : decode (sm_cc 330) 63 = .ok (.putfield 190, 3) := by decide +kernel
theorem dc_330_66 : decode (sm_cc 330) 66 = .ok (.aload_n 0, 1) := by decide +kernel
theorem dc_330_67 : decode (sm_cc 330) 67 = .ok (.bipush (44), 2) := by decide +kernel
theorem dc_330_69 : decode (sm_cc 330) 69 = .ok (.invokevirtual 199, 3) := by decide +kernel
theorem kr_330_199 : sm_at mt_k (sm_ow 330) 199 = some (199, 0, 314, 0, 2514) := by decide +kernel
theorem dc_330_72 : decode (sm_cc 330) 72 = .ok (.ifCond .ne (-60), 3) := by decide +kernel
theorem dc_330_75 : decode (sm_cc 330) 75 = .ok (.iconst 1, 1) := by decide +kernel
theorem dc_330_76 : decode (sm_cc 330) 76 = .ok (.ireturn, 1) := by decide +kernel
theorem ml_331 : sm_ml 331 = 3 := by decide +kernel
theorem dc_331_0 : decode (sm_cc 331) 0 = .ok (.iconst 0, 1) := by decide +kernel
theorem dc_331_1 : decode (sm_cc 331) 1 = .ok (.istore_n 2, 1) := by decide +kernel
theorem dc_331_2 : decode (sm_cc 331) 2 = .ok (.iload_n 2, 1) := by decide +kernel
theorem dc_331_3 : decode (sm_cc 331) 3 = .ok (.aload_n 0, 1) := by decide +kernel
theorem dc_331_4 : decode (sm_cc 331) 4 = .ok (.getfield 344, 3) := by decide +kernel
theorem fr_331_344 : sm_at mt_f (sm_ow 331) 344 = some (344, 14, 21, 0, 2094) := by decide +kernel
theorem dc_331_7 : decode (sm_cc 331) 7 = .ok (.aload_n 0, 1) := by decide +kernel
theorem dc_331_8 : decode (sm_cc 331) 8 = .ok (.getfield 236, 3) := by decide +kernel
theorem fr_331_236 : sm_at mt_f (sm_ow 331) 236 = some (236, 14, 22, 0, 2095) := by decide +kernel
theorem dc_331_11 : decode (sm_cc 331) 11 = .ok (.iaload, 1) := by decide +kernel
theorem dc_331_12 : decode (sm_cc 331) 12 = .ok (.if_icmp .ge (31), 3) := by decide +kernel
theorem dc_331_43 : decode (sm_cc 331) 43 = .ok (.iconst 0, 1) := by decide +kernel
theorem dc_331_44 : decode (sm_cc 331) 44 = .ok (.ireturn, 1) := by decide +kernel
theorem rt_331 : sm_rt 331 = some .boolean := by decide +kernel
theorem dc_331_15 : decode (sm_cc 331) 15 = .ok (.aload_n 0, 1) := by decide +kernel
theorem dc_331_16 : decode (sm_cc 331) 16 = .ok (.getfield 347, 3) := by decide +kernel
theorem fr_331_347 : sm_at mt_f (sm_ow 331) 347 = some (347, 14, 19, 0, 2092) := by decide +kernel
theorem dc_331_19 : decode (sm_cc 331) 19 = .ok (.aload_n 0, 1) := by decide +kernel
theorem dc_331_20 : decode (sm_cc 331) 20 = .ok (.getfield 350, 3) := by decide +kernel
theorem fr_331_350 : sm_at mt_f (sm_ow 331) 350 = some (350, 14, 20, 0, 2093) := by decide +kernel
theorem dc_331_23 : decode (sm_cc 331) 23 = .ok (.aload_n 0, 1) := by decide +kernel
theorem dc_331_24 : decode (sm_cc 331) 24 = .ok (.getfield 236, 3) := by decide +kernel
theorem dc_331_27 : decode (sm_cc 331) 27 = .ok (.iaload, 1) := by decide +kernel
theorem dc_331_28 : decode (sm_cc 331) 28 = .ok (.iload_n 2, 1) := by decide +kernel
theorem dc_331_29 : decode (sm_cc 331) 29 = .ok (.iadd, 1) := by decide +kernel
theorem dc_331_30 : decode (sm_cc 331) 30 = .ok (.iaload, 1) := by decide +kernel
theorem dc_331_31 : decode (sm_cc 331) 31 = .ok (.iload_n 1, 1) := by decide +kernel
theorem dc_331_32 : decode (sm_cc 331) 32 = .ok (.if_icmp .ne (5), 3) := by decide +kernel
theorem dc_331_35 : decode (sm_cc 331) 35 = .ok (.iconst 1, 1) := by decide +kernel
theorem dc_331_36 : decode (sm_cc 331) 36 = .ok (.ireturn, 1) := by decide +kernel
theorem dc_331_37 : decode (sm_cc 331) 37 = .ok (.iinc 2 (1), 3) := by decide +kernel
theorem dc_331_40 : decode (sm_cc 331) 40 = .ok (.goto (-38), 3) := by decide +kernel
theorem zGl_1 {d : Nat} {S Sf : cS} {v : Option Value} {F : Nat} (hF : sI S 6122 = nI F) (mF : F < 15) (b1 : F ≠ 0) (hB : ∀ lv1 : sm_L, sm_get lv1 0 = some (.ref 61) → Bod (d + 8) 330 12 lv1 [] (S) v Sf) : Bod (d + 8) 330 0 [(0, .ref 61)] [] S v Sf := by
  refine Bod.go dc_330_0 rfl ?_
  refine Bod.get dc_330_1 fr_330_236 (mk_61 _) rfl ?_
  refine Bod.eqI (nI F) (by first | assumption | rfl | exact congrArg nI (by omega) | (simp (disch := omega) only [rI, rIe, rA, rIA, rLA, rJA, rVI, rQI, rVA, rQA, upd_at,  rAI, rLI, rJI, nI_add, pk_sub, kc_0, kc_1, kc_2, kc_3, kc_4, kc_5, reduceIte, Nat.reduceEqDiff, Nat.add_zero, rI_hold, rI_hold, rL_hold, hF]; done)) ?_
  refine Bod.ifT dc_330_4 rfl (k1_ne_T (k_ne F 0 rfl rfl (by omega) (by omega) (by omega))) ?_
  exact hB _ (by first | rfl | exact (by repeat (first | exact rfl | exact sm_get_p1 | exact sm_get_p2e | refine sm_get_p1m (by decide) (by decide) ?_ | refine sm_get_p1n (by decide) rfl ?_ | refine sm_get_p2n (by decide) (by decide) rfl ?_)))
theorem zGl_2 {d : Nat} {S : cS} {F : Nat} {S1 : cS} (hF : sI S 6122 = nI F) (mF : F < 15) (b1 : F = 0) (c1 : Ans (d + 8) 299 [.ref 61] S (some (.int (nI 0))) S1) : Bod (d + 8) 330 0 [(0, .ref 61)] [] S (some (.int 0)) (S1) := by
  refine Bod.go dc_330_0 rfl ?_
  refine Bod.get dc_330_1 fr_330_236 (mk_61 _) rfl ?_
  refine Bod.eqI (nI F) (by first | assumption | rfl | exact congrArg nI (by omega) | (simp (disch := omega) only [rI, rIe, rA, rIA, rLA, rJA, rVI, rQI, rVA, rQA, upd_at,  rAI, rLI, rJI, nI_add, pk_sub, kc_0, kc_1, kc_2, kc_3, kc_4, kc_5, reduceIte, Nat.reduceEqDiff, Nat.add_zero, rI_hold, rI_hold, rL_hold, hF]; done)) ?_
  refine Bod.ifF dc_330_4 rfl (k1_ne_F (k_eq F 0 rfl rfl (by omega))) ?_
  refine Bod.go dc_330_7 rfl ?_
  refine Bod.virt (r := []) dc_330_8 kr_330_202 ⟨Or.inl rfl, ow_299, cl_14⟩ (by rw [np_299]; rfl) (by rw [np_299]; rfl) (ob_of (mk_61 _)) (Nat.le_of_ble_eq_true rfl) (c1  ) ?_
  show Bod _ _ _ _ [_] _ _ _
  exact Bod.retZ dc_330_11 rt_330 (Or.inl rfl)
theorem zGlL_1 {d : Nat} {S : cS} {lv : sm_L} {k : Nat} {e67 : Nat} {S1 : cS} (q0 : sm_get lv 0 = some (.ref 61)) (hk : sI S 6115 = nI k) (mk : k < 6001) (he67 : sA (wI 6115 (nI (k + 1)) S) 67 (k + 1) = nI e67) (me67 : e67 < 2 ^ 20) (b1 : e67 ≠ 1) (c1 : Ans (d + 8) 299 [.ref 61] (wI 6115 (nI (k + 1)) S) (some (.int (nI 0))) S1) : Bod (d + 8) 330 12 lv [] S (some (.int 0)) (S1) := by
  refine Bod.aldnG dc_330_12 (by repeat (first | exact q0 | exact sm_get_p1 | exact sm_get_p2e | refine sm_get_p1m (by decide) (by decide) ?_ | refine sm_get_p1n (by decide) rfl ?_ | refine sm_get_p2n (by decide) (by decide) rfl ?_)) ?_
  refine Bod.go dc_330_13 rfl ?_
  refine Bod.get dc_330_14 fr_330_190 (mk_61 _) rfl ?_
  refine Bod.eqI (nI k) (by first | assumption | rfl | exact congrArg nI (by omega) | (simp (disch := omega) only [rI, rIe, rA, rIA, rLA, rJA, rVI, rQI, rVA, rQA, upd_at,  rAI, rLI, rJI, nI_add, pk_sub, kc_0, kc_1, kc_2, kc_3, kc_4, kc_5, reduceIte, Nat.reduceEqDiff, Nat.add_zero, rI_hold, rI_hold, rL_hold, hk]; done)) ?_
  refine Bod.ic 1 (by decide) dc_330_17 ?_
  refine Bod.addN (k + 1) (by omega) dc_330_18 ?_
  refine Bod.put dc_330_19 fr_330_190 (mk_61 _) (Nat.le_of_ble_eq_true rfl) pf_14_15 (st_6115 _ _) (mu_I _ _ _) ?_
  refine Bod.aldnG dc_330_22 (by repeat (first | exact q0 | exact sm_get_p1 | exact sm_get_p2e | refine sm_get_p1m (by decide) (by decide) ?_ | refine sm_get_p1n (by decide) rfl ?_ | refine sm_get_p2n (by decide) (by decide) rfl ?_)) ?_
  refine Bod.get dc_330_23 fr_330_129 (mk_61 _) rfl ?_
  refine Bod.aldnG dc_330_26 (by repeat (first | exact q0 | exact sm_get_p1 | exact sm_get_p2e | refine sm_get_p1m (by decide) (by decide) ?_ | refine sm_get_p1n (by decide) rfl ?_ | refine sm_get_p2n (by decide) (by decide) rfl ?_)) ?_
  refine Bod.get dc_330_27 fr_330_190 (mk_61 _) rfl ?_
  refine Bod.eqI (nI (k + 1)) (by first | (simp (disch := omega) only [rI, rIe, rA, rIA, rLA, rJA, rVI, rQI, rVA, rQA, upd_at,  rAI, rLI, rJI, nI_add, pk_sub, kc_0, kc_1, kc_2, kc_3, kc_4, kc_5, reduceIte, Nat.reduceEqDiff, Nat.add_zero, rI_hold, rI_hold, rL_hold, hk]; done) | (simp (disch := omega) only [rI, rIe, rA, rIA, rLA, rJA, rVI, rQI, rVA, rQA, upd_at,  rAI, rLI, rJI, nI_add, pk_sub, kc_0, kc_1, kc_2, kc_3, kc_4, kc_5, reduceIte, Nat.reduceEqDiff, Nat.add_zero, rI_hold, rI_hold, rL_hold, hk]; exact congrArg nI (by omega))) ?_
  refine Bod.ialdN (k + 1) rfl (by omega) (by omega) dc_330_30 (mk_67 _) ?_
  refine Bod.eqI (nI e67) (by first | (simp (disch := omega) only [rI, rIe, rA, rIA, rLA, rJA, rVI, rQI, rVA, rQA, upd_at,  rAI, rLI, rJI, nI_add, pk_sub, kc_0, kc_1, kc_2, kc_3, kc_4, kc_5, reduceIte, Nat.reduceEqDiff, Nat.add_zero, rI_hold, rI_hold, rL_hold, hk, he67]; done) | (simp (disch := omega) only [rI, rIe, rA, rIA, rLA, rJA, rVI, rQI, rVA, rQA, upd_at,  rAI, rLI, rJI, nI_add, pk_sub, kc_0, kc_1, kc_2, kc_3, kc_4, kc_5, reduceIte, Nat.reduceEqDiff, Nat.add_zero, rI_hold, rI_hold, rL_hold, hk, he67]; exact congrArg nI (by omega))) ?_
  refine Bod.ic 1 (by decide) dc_330_31 ?_
  refine Bod.icT dc_330_32 rfl (k2_ne_T (k_ne e67 1 rfl rfl (by omega) (by omega) (by omega))) ?_
  refine Bod.aldnG dc_330_51 (by repeat (first | exact q0 | exact sm_get_p1 | exact sm_get_p2e | refine sm_get_p1m (by decide) (by decide) ?_ | refine sm_get_p1n (by decide) rfl ?_ | refine sm_get_p2n (by decide) (by decide) rfl ?_)) ?_
  refine Bod.virt (r := []) dc_330_52 kr_330_202 ⟨Or.inl rfl, ow_299, cl_14⟩ (by rw [np_299]; rfl) (by rw [np_299]; rfl) (ob_of (mk_61 _)) (Nat.le_of_ble_eq_true rfl) (c1  ) ?_
  show Bod _ _ _ _ [_] _ _ _
  exact Bod.retZ dc_330_55 rt_330 (Or.inl rfl)
theorem zGlL_2 {d : Nat} {S : cS} {lv : sm_L} {k : Nat} {e67 : Nat} {e68 : Nat} {S1 : cS} {S2 : cS} (q0 : sm_get lv 0 = some (.ref 61)) (hk : sI S 6115 = nI k) (mk : k < 6001) (he67 : sA (wI 6115 (nI (k + 1)) S) 67 (k + 1) = nI e67) (me67 : e67 < 2 ^ 20) (b1 : e67 = 1) (he68 : sA (wI 6115 (nI (k + 1)) S) 68 (k + 1) = nI e68) (me68 : e68 < 2 ^ 20) (c1 : Ans (d + 8) 331 [.ref 61, .int (nI e68)] (wI 6115 (nI (k + 1)) S) (some (.int (nI 1))) S1) (c2 : Ans (d + 8) 299 [.ref 61] S1 (some (.int (nI 0))) S2) : Bod (d + 8) 330 12 lv [] S (some (.int 0)) (S2) := by
  refine Bod.aldnG dc_330_12 (by repeat (first | exact q0 | exact sm_get_p1 | exact sm_get_p2e | refine sm_get_p1m (by decide) (by decide) ?_ | refine sm_get_p1n (by decide) rfl ?_ | refine sm_get_p2n (by decide) (by decide) rfl ?_)) ?_
  refine Bod.go dc_330_13 rfl ?_
  refine Bod.get dc_330_14 fr_330_190 (mk_61 _) rfl ?_
  refine Bod.eqI (nI k) (by first | assumption | rfl | exact congrArg nI (by omega) | (simp (disch := omega) only [rI, rIe, rA, rIA, rLA, rJA, rVI, rQI, rVA, rQA, upd_at,  rAI, rLI, rJI, nI_add, pk_sub, kc_0, kc_1, kc_2, kc_3, kc_4, kc_5, reduceIte, Nat.reduceEqDiff, Nat.add_zero, rI_hold, rI_hold, rL_hold, hk]; done)) ?_
  refine Bod.ic 1 (by decide) dc_330_17 ?_
  refine Bod.addN (k + 1) (by omega) dc_330_18 ?_
  refine Bod.put dc_330_19 fr_330_190 (mk_61 _) (Nat.le_of_ble_eq_true rfl) pf_14_15 (st_6115 _ _) (mu_I _ _ _) ?_
  refine Bod.aldnG dc_330_22 (by repeat (first | exact q0 | exact sm_get_p1 | exact sm_get_p2e | refine sm_get_p1m (by decide) (by decide) ?_ | refine sm_get_p1n (by decide) rfl ?_ | refine sm_get_p2n (by decide) (by decide) rfl ?_)) ?_
  refine Bod.get dc_330_23 fr_330_129 (mk_61 _) rfl ?_
  refine Bod.aldnG dc_330_26 (by repeat (first | exact q0 | exact sm_get_p1 | exact sm_get_p2e | refine sm_get_p1m (by decide) (by decide) ?_ | refine sm_get_p1n (by decide) rfl ?_ | refine sm_get_p2n (by decide) (by decide) rfl ?_)) ?_
  refine Bod.get dc_330_27 fr_330_190 (mk_61 _) rfl ?_
  refine Bod.eqI (nI (k + 1)) (by first | (simp (disch := omega) only [rI, rIe, rA, rIA, rLA, rJA, rVI, rQI, rVA, rQA, upd_at,  rAI, rLI, rJI, nI_add, pk_sub, kc_0, kc_1, kc_2, kc_3, kc_4, kc_5, reduceIte, Nat.reduceEqDiff, Nat.add_zero, rI_hold, rI_hold, rL_hold, hk]; done) | (simp (disch := omega) only [rI, rIe, rA, rIA, rLA, rJA, rVI, rQI, rVA, rQA, upd_at,  rAI, rLI, rJI, nI_add, pk_sub, kc_0, kc_1, kc_2, kc_3, kc_4, kc_5, reduceIte, Nat.reduceEqDiff, Nat.add_zero, rI_hold, rI_hold, rL_hold, hk]; exact congrArg nI (by omega))) ?_
  refine Bod.ialdN (k + 1) rfl (by omega) (by omega) dc_330_30 (mk_67 _) ?_
  refine Bod.eqI (nI e67) (by first | (simp (disch := omega) only [rI, rIe, rA, rIA, rLA, rJA, rVI, rQI, rVA, rQA, upd_at,  rAI, rLI, rJI, nI_add, pk_sub, kc_0, kc_1, kc_2, kc_3, kc_4, kc_5, reduceIte, Nat.reduceEqDiff, Nat.add_zero, rI_hold, rI_hold, rL_hold, hk, he67]; done) | (simp (disch := omega) only [rI, rIe, rA, rIA, rLA, rJA, rVI, rQI, rVA, rQA, upd_at,  rAI, rLI, rJI, nI_add, pk_sub, kc_0, kc_1, kc_2, kc_3, kc_4, kc_5, reduceIte, Nat.reduceEqDiff, Nat.add_zero, rI_hold, rI_hold, rL_hold, hk, he67]; exact congrArg nI (by omega))) ?_
  refine Bod.ic 1 (by decide) dc_330_31 ?_
  refine Bod.icF dc_330_32 rfl (k2_ne_F (k_eq e67 1 rfl rfl (by omega))) ?_
  refine Bod.aldnG dc_330_35 (by repeat (first | exact q0 | exact sm_get_p1 | exact sm_get_p2e | refine sm_get_p1m (by decide) (by decide) ?_ | refine sm_get_p1n (by decide) rfl ?_ | refine sm_get_p2n (by decide) (by decide) rfl ?_)) ?_
  refine Bod.aldnG dc_330_36 (by repeat (first | exact q0 | exact sm_get_p1 | exact sm_get_p2e | refine sm_get_p1m (by decide) (by decide) ?_ | refine sm_get_p1n (by decide) rfl ?_ | refine sm_get_p2n (by decide) (by decide) rfl ?_)) ?_
  refine Bod.get dc_330_37 fr_330_135 (mk_61 _) rfl ?_
  refine Bod.aldnG dc_330_40 (by repeat (first | exact q0 | exact sm_get_p1 | exact sm_get_p2e | refine sm_get_p1m (by decide) (by decide) ?_ | refine sm_get_p1n (by decide) rfl ?_ | refine sm_get_p2n (by decide) (by decide) rfl ?_)) ?_
  refine Bod.get dc_330_41 fr_330_190 (mk_61 _) rfl ?_
  refine Bod.eqI (nI (k + 1)) (by first | (simp (disch := omega) only [rI, rIe, rA, rIA, rLA, rJA, rVI, rQI, rVA, rQA, upd_at,  rAI, rLI, rJI, nI_add, pk_sub, kc_0, kc_1, kc_2, kc_3, kc_4, kc_5, reduceIte, Nat.reduceEqDiff, Nat.add_zero, rI_hold, rI_hold, rL_hold, hk, he67]; done) | (simp (disch := omega) only [rI, rIe, rA, rIA, rLA, rJA, rVI, rQI, rVA, rQA, upd_at,  rAI, rLI, rJI, nI_add, pk_sub, kc_0, kc_1, kc_2, kc_3, kc_4, kc_5, reduceIte, Nat.reduceEqDiff, Nat.add_zero, rI_hold, rI_hold, rL_hold, hk, he67]; exact congrArg nI (by omega))) ?_
  refine Bod.ialdN (k + 1) rfl (by omega) (by omega) dc_330_44 (mk_68 _) ?_
  refine Bod.eqI (nI e68) (by first | (simp (disch := omega) only [rI, rIe, rA, rIA, rLA, rJA, rVI, rQI, rVA, rQA, upd_at,  rAI, rLI, rJI, nI_add, pk_sub, kc_0, kc_1, kc_2, kc_3, kc_4, kc_5, reduceIte, Nat.reduceEqDiff, Nat.add_zero, rI_hold, rI_hold, rL_hold, hk, he67, he68]; done) | (simp (disch := omega) only [rI, rIe, rA, rIA, rLA, rJA, rVI, rQI, rVA, rQA, upd_at,  rAI, rLI, rJI, nI_add, pk_sub, kc_0, kc_1, kc_2, kc_3, kc_4, kc_5, reduceIte, Nat.reduceEqDiff, Nat.add_zero, rI_hold, rI_hold, rL_hold, hk, he67, he68]; exact congrArg nI (by omega))) ?_
  refine Bod.virt (r := []) dc_330_45 kr_330_444 ⟨Or.inl rfl, ow_331, cl_14⟩ (by rw [np_331]; rfl) (by rw [np_331]; rfl) (ob_of (mk_61 _)) (Nat.le_of_ble_eq_true rfl) (c1  ) ?_
  show Bod _ _ _ _ [_] _ _ _
  refine Bod.ifF dc_330_48 rfl (k1_eq_F (k_ne 1 0 rfl rfl (by omega) (by omega) (by omega))) ?_
  refine Bod.aldnG dc_330_51 (by repeat (first | exact q0 | exact sm_get_p1 | exact sm_get_p2e | refine sm_get_p1m (by decide) (by decide) ?_ | refine sm_get_p1n (by decide) rfl ?_ | refine sm_get_p2n (by decide) (by decide) rfl ?_)) ?_
  refine Bod.virt (r := []) dc_330_52 kr_330_202 ⟨Or.inl rfl, ow_299, cl_14⟩ (by rw [np_299]; rfl) (by rw [np_299]; rfl) (ob_of (mk_61 _)) (Nat.le_of_ble_eq_true rfl) (c2  ) ?_
  show Bod _ _ _ _ [_] _ _ _
  exact Bod.retZ dc_330_55 rt_330 (Or.inl rfl)
theorem zGlL_3 {d : Nat} {S Sf : cS} {v : Option Value} {lv : sm_L} {k : Nat} {e67 : Nat} {e68 : Nat} {S1 : cS} {k1 : Nat} {S2 : cS} (q0 : sm_get lv 0 = some (.ref 61)) (hk : sI S 6115 = nI k) (mk : k < 6001) (he67 : sA (wI 6115 (nI (k + 1)) S) 67 (k + 1) = nI e67) (me67 : e67 < 2 ^ 20) (b1 : e67 = 1) (he68 : sA (wI 6115 (nI (k + 1)) S) 68 (k + 1) = nI e68) (me68 : e68 < 2 ^ 20) (c1 : Ans (d + 8) 331 [.ref 61, .int (nI e68)] (wI 6115 (nI (k + 1)) S) (some (.int (nI 0))) S1) (hk1 : sI S1 6115 = nI k1) (mk1 : k1 < 6001) (c2 : Ans (d + 8) 314 [.ref 61, .int (nI 44)] (wI 6115 (nI (k1 + 1)) S1) (some (.int (nI 1))) S2) (hB : ∀ lv1 : sm_L, sm_get lv1 0 = some (.ref 61) → Bod (d + 8) 330 12 lv1 [] (S2) v Sf) : Bod (d + 8) 330 12 lv [] S v Sf := by
  refine Bod.aldnG dc_330_12 (by repeat (first | exact q0 | exact sm_get_p1 | exact sm_get_p2e | refine sm_get_p1m (by decide) (by decide) ?_ | refine sm_get_p1n (by decide) rfl ?_ | refine sm_get_p2n (by decide) (by decide) rfl ?_)) ?_
  refine Bod.go dc_330_13 rfl ?_
  refine Bod.get dc_330_14 fr_330_190 (mk_61 _) rfl ?_
  refine Bod.eqI (nI k) (by first | assumption | rfl | exact congrArg nI (by omega) | (simp (disch := omega) only [rI, rIe, rA, rIA, rLA, rJA, rVI, rQI, rVA, rQA, upd_at,  rAI, rLI, rJI, nI_add, pk_sub, kc_0, kc_1, kc_2, kc_3, kc_4, kc_5, reduceIte, Nat.reduceEqDiff, Nat.add_zero, rI_hold, rI_hold, rL_hold, hk]; done)) ?_
  refine Bod.ic 1 (by decide) dc_330_17 ?_
  refine Bod.addN (k + 1) (by omega) dc_330_18 ?_
  refine Bod.put dc_330_19 fr_330_190 (mk_61 _) (Nat.le_of_ble_eq_true rfl) pf_14_15 (st_6115 _ _) (mu_I _ _ _) ?_
  refine Bod.aldnG dc_330_22 (by repeat (first | exact q0 | exact sm_get_p1 | exact sm_get_p2e | refine sm_get_p1m (by decide) (by decide) ?_ | refine sm_get_p1n (by decide) rfl ?_ | refine sm_get_p2n (by decide) (by decide) rfl ?_)) ?_
  refine Bod.get dc_330_23 fr_330_129 (mk_61 _) rfl ?_
  refine Bod.aldnG dc_330_26 (by repeat (first | exact q0 | exact sm_get_p1 | exact sm_get_p2e | refine sm_get_p1m (by decide) (by decide) ?_ | refine sm_get_p1n (by decide) rfl ?_ | refine sm_get_p2n (by decide) (by decide) rfl ?_)) ?_
  refine Bod.get dc_330_27 fr_330_190 (mk_61 _) rfl ?_
  refine Bod.eqI (nI (k + 1)) (by first | (simp (disch := omega) only [rI, rIe, rA, rIA, rLA, rJA, rVI, rQI, rVA, rQA, upd_at,  rAI, rLI, rJI, nI_add, pk_sub, kc_0, kc_1, kc_2, kc_3, kc_4, kc_5, reduceIte, Nat.reduceEqDiff, Nat.add_zero, rI_hold, rI_hold, rL_hold, hk]; done) | (simp (disch := omega) only [rI, rIe, rA, rIA, rLA, rJA, rVI, rQI, rVA, rQA, upd_at,  rAI, rLI, rJI, nI_add, pk_sub, kc_0, kc_1, kc_2, kc_3, kc_4, kc_5, reduceIte, Nat.reduceEqDiff, Nat.add_zero, rI_hold, rI_hold, rL_hold, hk]; exact congrArg nI (by omega))) ?_
  refine Bod.ialdN (k + 1) rfl (by omega) (by omega) dc_330_30 (mk_67 _) ?_
  refine Bod.eqI (nI e67) (by first | (simp (disch := omega) only [rI, rIe, rA, rIA, rLA, rJA, rVI, rQI, rVA, rQA, upd_at,  rAI, rLI, rJI, nI_add, pk_sub, kc_0, kc_1, kc_2, kc_3, kc_4, kc_5, reduceIte, Nat.reduceEqDiff, Nat.add_zero, rI_hold, rI_hold, rL_hold, hk, he67]; done) | (simp (disch := omega) only [rI, rIe, rA, rIA, rLA, rJA, rVI, rQI, rVA, rQA, upd_at,  rAI, rLI, rJI, nI_add, pk_sub, kc_0, kc_1, kc_2, kc_3, kc_4, kc_5, reduceIte, Nat.reduceEqDiff, Nat.add_zero, rI_hold, rI_hold, rL_hold, hk, he67]; exact congrArg nI (by omega))) ?_
  refine Bod.ic 1 (by decide) dc_330_31 ?_
  refine Bod.icF dc_330_32 rfl (k2_ne_F (k_eq e67 1 rfl rfl (by omega))) ?_
  refine Bod.aldnG dc_330_35 (by repeat (first | exact q0 | exact sm_get_p1 | exact sm_get_p2e | refine sm_get_p1m (by decide) (by decide) ?_ | refine sm_get_p1n (by decide) rfl ?_ | refine sm_get_p2n (by decide) (by decide) rfl ?_)) ?_
  refine Bod.aldnG dc_330_36 (by repeat (first | exact q0 | exact sm_get_p1 | exact sm_get_p2e | refine sm_get_p1m (by decide) (by decide) ?_ | refine sm_get_p1n (by decide) rfl ?_ | refine sm_get_p2n (by decide) (by decide) rfl ?_)) ?_
  refine Bod.get dc_330_37 fr_330_135 (mk_61 _) rfl ?_
  refine Bod.aldnG dc_330_40 (by repeat (first | exact q0 | exact sm_get_p1 | exact sm_get_p2e | refine sm_get_p1m (by decide) (by decide) ?_ | refine sm_get_p1n (by decide) rfl ?_ | refine sm_get_p2n (by decide) (by decide) rfl ?_)) ?_
  refine Bod.get dc_330_41 fr_330_190 (mk_61 _) rfl ?_
  refine Bod.eqI (nI (k + 1)) (by first | (simp (disch := omega) only [rI, rIe, rA, rIA, rLA, rJA, rVI, rQI, rVA, rQA, upd_at,  rAI, rLI, rJI, nI_add, pk_sub, kc_0, kc_1, kc_2, kc_3, kc_4, kc_5, reduceIte, Nat.reduceEqDiff, Nat.add_zero, rI_hold, rI_hold, rL_hold, hk, he67]; done) | (simp (disch := omega) only [rI, rIe, rA, rIA, rLA, rJA, rVI, rQI, rVA, rQA, upd_at,  rAI, rLI, rJI, nI_add, pk_sub, kc_0, kc_1, kc_2, kc_3, kc_4, kc_5, reduceIte, Nat.reduceEqDiff, Nat.add_zero, rI_hold, rI_hold, rL_hold, hk, he67]; exact congrArg nI (by omega))) ?_
  refine Bod.ialdN (k + 1) rfl (by omega) (by omega) dc_330_44 (mk_68 _) ?_
  refine Bod.eqI (nI e68) (by first | (simp (disch := omega) only [rI, rIe, rA, rIA, rLA, rJA, rVI, rQI, rVA, rQA, upd_at,  rAI, rLI, rJI, nI_add, pk_sub, kc_0, kc_1, kc_2, kc_3, kc_4, kc_5, reduceIte, Nat.reduceEqDiff, Nat.add_zero, rI_hold, rI_hold, rL_hold, hk, he67, he68]; done) | (simp (disch := omega) only [rI, rIe, rA, rIA, rLA, rJA, rVI, rQI, rVA, rQA, upd_at,  rAI, rLI, rJI, nI_add, pk_sub, kc_0, kc_1, kc_2, kc_3, kc_4, kc_5, reduceIte, Nat.reduceEqDiff, Nat.add_zero, rI_hold, rI_hold, rL_hold, hk, he67, he68]; exact congrArg nI (by omega))) ?_
  refine Bod.virt (r := []) dc_330_45 kr_330_444 ⟨Or.inl rfl, ow_331, cl_14⟩ (by rw [np_331]; rfl) (by rw [np_331]; rfl) (ob_of (mk_61 _)) (Nat.le_of_ble_eq_true rfl) (c1  ) ?_
  show Bod _ _ _ _ [_] _ _ _
  refine Bod.ifT dc_330_48 rfl (k1_eq_T (k_eq 0 0 rfl rfl (by omega))) ?_
  refine Bod.aldnG dc_330_56 (by repeat (first | exact q0 | exact sm_get_p1 | exact sm_get_p2e | refine sm_get_p1m (by decide) (by decide) ?_ | refine sm_get_p1n (by decide) rfl ?_ | refine sm_get_p2n (by decide) (by decide) rfl ?_)) ?_
  refine Bod.go dc_330_57 rfl ?_
  refine Bod.get dc_330_58 fr_330_190 (mk_61 _) rfl ?_
  refine Bod.eqI (nI k1) (by first | (simp (disch := omega) only [rI, rIe, rA, rIA, rLA, rJA, rVI, rQI, rVA, rQA, upd_at,  rAI, rLI, rJI, nI_add, pk_sub, kc_0, kc_1, kc_2, kc_3, kc_4, kc_5, reduceIte, Nat.reduceEqDiff, Nat.add_zero, rI_hold, rI_hold, rL_hold, hk, he67, he68, hk1]; done) | (simp (disch := omega) only [rI, rIe, rA, rIA, rLA, rJA, rVI, rQI, rVA, rQA, upd_at,  rAI, rLI, rJI, nI_add, pk_sub, kc_0, kc_1, kc_2, kc_3, kc_4, kc_5, reduceIte, Nat.reduceEqDiff, Nat.add_zero, rI_hold, rI_hold, rL_hold, hk, he67, he68, hk1]; exact congrArg nI (by omega))) ?_
  refine Bod.ic 1 (by decide) dc_330_61 ?_
  refine Bod.addN (k1 + 1) (by omega) dc_330_62 ?_
  refine Bod.put dc_330_63 fr_330_190 (mk_61 _) (Nat.le_of_ble_eq_true rfl) pf_14_15 (st_6115 _ _) (mu_I _ _ _) ?_
  refine Bod.aldnG dc_330_66 (by repeat (first | exact q0 | exact sm_get_p1 | exact sm_get_p2e | refine sm_get_p1m (by decide) (by decide) ?_ | refine sm_get_p1n (by decide) rfl ?_ | refine sm_get_p2n (by decide) (by decide) rfl ?_)) ?_
  refine Bod.bip 44 (by decide) dc_330_67 ?_
  refine Bod.virt (r := []) dc_330_69 kr_330_199 ⟨Or.inl rfl, ow_314, cl_14⟩ (by rw [np_314]; rfl) (by rw [np_314]; rfl) (ob_of (mk_61 _)) (Nat.le_of_ble_eq_true rfl) (c2  ) ?_
  show Bod _ _ _ _ [_] _ _ _
  refine Bod.ifT dc_330_72 rfl (k1_ne_T (k_ne 1 0 rfl rfl (by omega) (by omega) (by omega))) ?_
  exact hB _ (by repeat (first | exact q0 | exact sm_get_p1 | exact sm_get_p2e | refine sm_get_p1m (by decide) (by decide) ?_ | refine sm_get_p1n (by decide) rfl ?_ | refine sm_get_p2n (by decide) (by decide) rfl ?_))
theorem zGlL_4 {d : Nat} {S : cS} {lv : sm_L} {k : Nat} {e67 : Nat} {e68 : Nat} {S1 : cS} {k1 : Nat} {S2 : cS} (q0 : sm_get lv 0 = some (.ref 61)) (hk : sI S 6115 = nI k) (mk : k < 6001) (he67 : sA (wI 6115 (nI (k + 1)) S) 67 (k + 1) = nI e67) (me67 : e67 < 2 ^ 20) (b1 : e67 = 1) (he68 : sA (wI 6115 (nI (k + 1)) S) 68 (k + 1) = nI e68) (me68 : e68 < 2 ^ 20) (c1 : Ans (d + 8) 331 [.ref 61, .int (nI e68)] (wI 6115 (nI (k + 1)) S) (some (.int (nI 0))) S1) (hk1 : sI S1 6115 = nI k1) (mk1 : k1 < 6001) (c2 : Ans (d + 8) 314 [.ref 61, .int (nI 44)] (wI 6115 (nI (k1 + 1)) S1) (some (.int (nI 0))) S2) : Bod (d + 8) 330 12 lv [] S (some (.int 1)) (S2) := by
  refine Bod.aldnG dc_330_12 (by repeat (first | exact q0 | exact sm_get_p1 | exact sm_get_p2e | refine sm_get_p1m (by decide) (by decide) ?_ | refine sm_get_p1n (by decide) rfl ?_ | refine sm_get_p2n (by decide) (by decide) rfl ?_)) ?_
  refine Bod.go dc_330_13 rfl ?_
  refine Bod.get dc_330_14 fr_330_190 (mk_61 _) rfl ?_
  refine Bod.eqI (nI k) (by first | assumption | rfl | exact congrArg nI (by omega) | (simp (disch := omega) only [rI, rIe, rA, rIA, rLA, rJA, rVI, rQI, rVA, rQA, upd_at,  rAI, rLI, rJI, nI_add, pk_sub, kc_0, kc_1, kc_2, kc_3, kc_4, kc_5, reduceIte, Nat.reduceEqDiff, Nat.add_zero, rI_hold, rI_hold, rL_hold, hk]; done)) ?_
  refine Bod.ic 1 (by decide) dc_330_17 ?_
  refine Bod.addN (k + 1) (by omega) dc_330_18 ?_
  refine Bod.put dc_330_19 fr_330_190 (mk_61 _) (Nat.le_of_ble_eq_true rfl) pf_14_15 (st_6115 _ _) (mu_I _ _ _) ?_
  refine Bod.aldnG dc_330_22 (by repeat (first | exact q0 | exact sm_get_p1 | exact sm_get_p2e | refine sm_get_p1m (by decide) (by decide) ?_ | refine sm_get_p1n (by decide) rfl ?_ | refine sm_get_p2n (by decide) (by decide) rfl ?_)) ?_
  refine Bod.get dc_330_23 fr_330_129 (mk_61 _) rfl ?_
  refine Bod.aldnG dc_330_26 (by repeat (first | exact q0 | exact sm_get_p1 | exact sm_get_p2e | refine sm_get_p1m (by decide) (by decide) ?_ | refine sm_get_p1n (by decide) rfl ?_ | refine sm_get_p2n (by decide) (by decide) rfl ?_)) ?_
  refine Bod.get dc_330_27 fr_330_190 (mk_61 _) rfl ?_
  refine Bod.eqI (nI (k + 1)) (by first | (simp (disch := omega) only [rI, rIe, rA, rIA, rLA, rJA, rVI, rQI, rVA, rQA, upd_at,  rAI, rLI, rJI, nI_add, pk_sub, kc_0, kc_1, kc_2, kc_3, kc_4, kc_5, reduceIte, Nat.reduceEqDiff, Nat.add_zero, rI_hold, rI_hold, rL_hold, hk]; done) | (simp (disch := omega) only [rI, rIe, rA, rIA, rLA, rJA, rVI, rQI, rVA, rQA, upd_at,  rAI, rLI, rJI, nI_add, pk_sub, kc_0, kc_1, kc_2, kc_3, kc_4, kc_5, reduceIte, Nat.reduceEqDiff, Nat.add_zero, rI_hold, rI_hold, rL_hold, hk]; exact congrArg nI (by omega))) ?_
  refine Bod.ialdN (k + 1) rfl (by omega) (by omega) dc_330_30 (mk_67 _) ?_
  refine Bod.eqI (nI e67) (by first | (simp (disch := omega) only [rI, rIe, rA, rIA, rLA, rJA, rVI, rQI, rVA, rQA, upd_at,  rAI, rLI, rJI, nI_add, pk_sub, kc_0, kc_1, kc_2, kc_3, kc_4, kc_5, reduceIte, Nat.reduceEqDiff, Nat.add_zero, rI_hold, rI_hold, rL_hold, hk, he67]; done) | (simp (disch := omega) only [rI, rIe, rA, rIA, rLA, rJA, rVI, rQI, rVA, rQA, upd_at,  rAI, rLI, rJI, nI_add, pk_sub, kc_0, kc_1, kc_2, kc_3, kc_4, kc_5, reduceIte, Nat.reduceEqDiff, Nat.add_zero, rI_hold, rI_hold, rL_hold, hk, he67]; exact congrArg nI (by omega))) ?_
  refine Bod.ic 1 (by decide) dc_330_31 ?_
  refine Bod.icF dc_330_32 rfl (k2_ne_F (k_eq e67 1 rfl rfl (by omega))) ?_
  refine Bod.aldnG dc_330_35 (by repeat (first | exact q0 | exact sm_get_p1 | exact sm_get_p2e | refine sm_get_p1m (by decide) (by decide) ?_ | refine sm_get_p1n (by decide) rfl ?_ | refine sm_get_p2n (by decide) (by decide) rfl ?_)) ?_
  refine Bod.aldnG dc_330_36 (by repeat (first | exact q0 | exact sm_get_p1 | exact sm_get_p2e | refine sm_get_p1m (by decide) (by decide) ?_ | refine sm_get_p1n (by decide) rfl ?_ | refine sm_get_p2n (by decide) (by decide) rfl ?_)) ?_
  refine Bod.get dc_330_37 fr_330_135 (mk_61 _) rfl ?_
  refine Bod.aldnG dc_330_40 (by repeat (first | exact q0 | exact sm_get_p1 | exact sm_get_p2e | refine sm_get_p1m (by decide) (by decide) ?_ | refine sm_get_p1n (by decide) rfl ?_ | refine sm_get_p2n (by decide) (by decide) rfl ?_)) ?_
  refine Bod.get dc_330_41 fr_330_190 (mk_61 _) rfl ?_
  refine Bod.eqI (nI (k + 1)) (by first | (simp (disch := omega) only [rI, rIe, rA, rIA, rLA, rJA, rVI, rQI, rVA, rQA, upd_at,  rAI, rLI, rJI, nI_add, pk_sub, kc_0, kc_1, kc_2, kc_3, kc_4, kc_5, reduceIte, Nat.reduceEqDiff, Nat.add_zero, rI_hold, rI_hold, rL_hold, hk, he67]; done) | (simp (disch := omega) only [rI, rIe, rA, rIA, rLA, rJA, rVI, rQI, rVA, rQA, upd_at,  rAI, rLI, rJI, nI_add, pk_sub, kc_0, kc_1, kc_2, kc_3, kc_4, kc_5, reduceIte, Nat.reduceEqDiff, Nat.add_zero, rI_hold, rI_hold, rL_hold, hk, he67]; exact congrArg nI (by omega))) ?_
  refine Bod.ialdN (k + 1) rfl (by omega) (by omega) dc_330_44 (mk_68 _) ?_
  refine Bod.eqI (nI e68) (by first | (simp (disch := omega) only [rI, rIe, rA, rIA, rLA, rJA, rVI, rQI, rVA, rQA, upd_at,  rAI, rLI, rJI, nI_add, pk_sub, kc_0, kc_1, kc_2, kc_3, kc_4, kc_5, reduceIte, Nat.reduceEqDiff, Nat.add_zero, rI_hold, rI_hold, rL_hold, hk, he67, he68]; done) | (simp (disch := omega) only [rI, rIe, rA, rIA, rLA, rJA, rVI, rQI, rVA, rQA, upd_at,  rAI, rLI, rJI, nI_add, pk_sub, kc_0, kc_1, kc_2, kc_3, kc_4, kc_5, reduceIte, Nat.reduceEqDiff, Nat.add_zero, rI_hold, rI_hold, rL_hold, hk, he67, he68]; exact congrArg nI (by omega))) ?_
  refine Bod.virt (r := []) dc_330_45 kr_330_444 ⟨Or.inl rfl, ow_331, cl_14⟩ (by rw [np_331]; rfl) (by rw [np_331]; rfl) (ob_of (mk_61 _)) (Nat.le_of_ble_eq_true rfl) (c1  ) ?_
  show Bod _ _ _ _ [_] _ _ _
  refine Bod.ifT dc_330_48 rfl (k1_eq_T (k_eq 0 0 rfl rfl (by omega))) ?_
  refine Bod.aldnG dc_330_56 (by repeat (first | exact q0 | exact sm_get_p1 | exact sm_get_p2e | refine sm_get_p1m (by decide) (by decide) ?_ | refine sm_get_p1n (by decide) rfl ?_ | refine sm_get_p2n (by decide) (by decide) rfl ?_)) ?_
  refine Bod.go dc_330_57 rfl ?_
  refine Bod.get dc_330_58 fr_330_190 (mk_61 _) rfl ?_
  refine Bod.eqI (nI k1) (by first | (simp (disch := omega) only [rI, rIe, rA, rIA, rLA, rJA, rVI, rQI, rVA, rQA, upd_at,  rAI, rLI, rJI, nI_add, pk_sub, kc_0, kc_1, kc_2, kc_3, kc_4, kc_5, reduceIte, Nat.reduceEqDiff, Nat.add_zero, rI_hold, rI_hold, rL_hold, hk, he67, he68, hk1]; done) | (simp (disch := omega) only [rI, rIe, rA, rIA, rLA, rJA, rVI, rQI, rVA, rQA, upd_at,  rAI, rLI, rJI, nI_add, pk_sub, kc_0, kc_1, kc_2, kc_3, kc_4, kc_5, reduceIte, Nat.reduceEqDiff, Nat.add_zero, rI_hold, rI_hold, rL_hold, hk, he67, he68, hk1]; exact congrArg nI (by omega))) ?_
  refine Bod.ic 1 (by decide) dc_330_61 ?_
  refine Bod.addN (k1 + 1) (by omega) dc_330_62 ?_
  refine Bod.put dc_330_63 fr_330_190 (mk_61 _) (Nat.le_of_ble_eq_true rfl) pf_14_15 (st_6115 _ _) (mu_I _ _ _) ?_
  refine Bod.aldnG dc_330_66 (by repeat (first | exact q0 | exact sm_get_p1 | exact sm_get_p2e | refine sm_get_p1m (by decide) (by decide) ?_ | refine sm_get_p1n (by decide) rfl ?_ | refine sm_get_p2n (by decide) (by decide) rfl ?_)) ?_
  refine Bod.bip 44 (by decide) dc_330_67 ?_
  refine Bod.virt (r := []) dc_330_69 kr_330_199 ⟨Or.inl rfl, ow_314, cl_14⟩ (by rw [np_314]; rfl) (by rw [np_314]; rfl) (ob_of (mk_61 _)) (Nat.le_of_ble_eq_true rfl) (c2  ) ?_
  show Bod _ _ _ _ [_] _ _ _
  refine Bod.ifF dc_330_72 rfl (k1_ne_F (k_eq 0 0 rfl rfl (by omega))) ?_
  refine Bod.ic 1 (by decide) dc_330_75 ?_
  exact Bod.retZ dc_330_76 rt_330 (Or.inr rfl)
theorem zPm_1 {d : Nat} {S Sf : cS} {v : Option Value} {lr : Nat} (mlr : lr < 2 ^ 20) (hB : ∀ lv1 : sm_L, sm_get lv1 0 = some (.ref 61) → sm_get lv1 1 = some (.int (nI lr)) → sm_get lv1 2 = some (.int (nI 0)) → Bod (d + 8) 331 2 lv1 [] (S) v Sf) : Bod (d + 8) 331 0 [(0, .ref 61), (1, .int (nI lr))] [] S v Sf := by
  refine Bod.ic 0 (by decide) dc_331_0 ?_
  refine Bod.istn dc_331_1 (by rw [ml_331]; exact Nat.le_of_ble_eq_true rfl) ?_
  exact hB _ (by first | rfl | exact (by repeat (first | exact rfl | exact sm_get_p1 | exact sm_get_p2e | refine sm_get_p1m (by decide) (by decide) ?_ | refine sm_get_p1n (by decide) rfl ?_ | refine sm_get_p2n (by decide) (by decide) rfl ?_))) (by first | rfl | exact (by repeat (first | exact rfl | exact sm_get_p1 | exact sm_get_p2e | refine sm_get_p1m (by decide) (by decide) ?_ | refine sm_get_p1n (by decide) rfl ?_ | refine sm_get_p2n (by decide) (by decide) rfl ?_))) (by first | rfl | exact (by repeat (first | exact rfl | exact sm_get_p1 | exact sm_get_p2e | refine sm_get_p1m (by decide) (by decide) ?_ | refine sm_get_p1n (by decide) rfl ?_ | refine sm_get_p2n (by decide) (by decide) rfl ?_)))
theorem zPmL_1 {d : Nat} {S : cS} {lv : sm_L} {lr : Nat} {li : Nat} {F : Nat} {e76 : Nat} (q0 : sm_get lv 0 = some (.ref 61)) (q1 : sm_get lv 1 = some (.int (nI lr))) (q2 : sm_get lv 2 = some (.int (nI li))) (mlr : lr < 2 ^ 20) (mli : li < 2 ^ 20) (hF : sI S 6122 = nI F) (mF : F < 15) (he76 : sA S 76 F = nI e76) (me76 : e76 < 2 ^ 20) (b1 : e76 ≤ li) : Bod (d + 8) 331 2 lv [] S (some (.int 0)) (S) := by
  refine Bod.ildnG dc_331_2 (by repeat (first | exact q2 | exact sm_get_p1 | exact sm_get_p2e | refine sm_get_p1m (by decide) (by decide) ?_ | refine sm_get_p1n (by decide) rfl ?_ | refine sm_get_p2n (by decide) (by decide) rfl ?_)) ?_
  refine Bod.aldnG dc_331_3 (by repeat (first | exact q0 | exact sm_get_p1 | exact sm_get_p2e | refine sm_get_p1m (by decide) (by decide) ?_ | refine sm_get_p1n (by decide) rfl ?_ | refine sm_get_p2n (by decide) (by decide) rfl ?_)) ?_
  refine Bod.get dc_331_4 fr_331_344 (mk_61 _) rfl ?_
  refine Bod.aldnG dc_331_7 (by repeat (first | exact q0 | exact sm_get_p1 | exact sm_get_p2e | refine sm_get_p1m (by decide) (by decide) ?_ | refine sm_get_p1n (by decide) rfl ?_ | refine sm_get_p2n (by decide) (by decide) rfl ?_)) ?_
  refine Bod.get dc_331_8 fr_331_236 (mk_61 _) rfl ?_
  refine Bod.eqI (nI F) (by first | assumption | rfl | exact congrArg nI (by omega) | (simp (disch := omega) only [rI, rIe, rA, rIA, rLA, rJA, rVI, rQI, rVA, rQA, upd_at,  rAI, rLI, rJI, nI_add, pk_sub, kc_0, kc_1, kc_2, kc_3, kc_4, kc_5, reduceIte, Nat.reduceEqDiff, Nat.add_zero, rI_hold, rI_hold, rL_hold, hF]; done)) ?_
  refine Bod.ialdN F rfl (by omega) (by omega) dc_331_11 (mk_76 _) ?_
  refine Bod.eqI (nI e76) (by first | assumption | rfl | exact congrArg nI (by omega) | (simp (disch := omega) only [rI, rIe, rA, rIA, rLA, rJA, rVI, rQI, rVA, rQA, upd_at,  rAI, rLI, rJI, nI_add, pk_sub, kc_0, kc_1, kc_2, kc_3, kc_4, kc_5, reduceIte, Nat.reduceEqDiff, Nat.add_zero, rI_hold, rI_hold, rL_hold, hF, he76]; done)) ?_
  refine Bod.icT dc_331_12 rfl (k2_ge_T li e76 rfl rfl (by omega) (by omega)) ?_
  refine Bod.ic 0 (by decide) dc_331_43 ?_
  exact Bod.retZ dc_331_44 rt_331 (Or.inl rfl)
theorem zPmL_2 {d : Nat} {S : cS} {lv : sm_L} {lr : Nat} {li : Nat} {F : Nat} {e76 : Nat} {e75 : Nat} (q0 : sm_get lv 0 = some (.ref 61)) (q1 : sm_get lv 1 = some (.int (nI lr))) (q2 : sm_get lv 2 = some (.int (nI li))) (mlr : lr < 2 ^ 20) (mli : li < 2 ^ 20) (hF : sI S 6122 = nI F) (mF : F < 15) (he76 : sA S 76 F = nI e76) (me76 : e76 < 2 ^ 20) (b1 : li < e76) (he75 : sA S 75 F = nI e75) (me75 : e75 < 2 ^ 20) (b2 : e75 + li < 6000) (w11 : sA S 74 (e75 + li) = nI lr) : Bod (d + 8) 331 2 lv [] S (some (.int 1)) (S) := by
  refine Bod.ildnG dc_331_2 (by repeat (first | exact q2 | exact sm_get_p1 | exact sm_get_p2e | refine sm_get_p1m (by decide) (by decide) ?_ | refine sm_get_p1n (by decide) rfl ?_ | refine sm_get_p2n (by decide) (by decide) rfl ?_)) ?_
  refine Bod.aldnG dc_331_3 (by repeat (first | exact q0 | exact sm_get_p1 | exact sm_get_p2e | refine sm_get_p1m (by decide) (by decide) ?_ | refine sm_get_p1n (by decide) rfl ?_ | refine sm_get_p2n (by decide) (by decide) rfl ?_)) ?_
  refine Bod.get dc_331_4 fr_331_344 (mk_61 _) rfl ?_
  refine Bod.aldnG dc_331_7 (by repeat (first | exact q0 | exact sm_get_p1 | exact sm_get_p2e | refine sm_get_p1m (by decide) (by decide) ?_ | refine sm_get_p1n (by decide) rfl ?_ | refine sm_get_p2n (by decide) (by decide) rfl ?_)) ?_
  refine Bod.get dc_331_8 fr_331_236 (mk_61 _) rfl ?_
  refine Bod.eqI (nI F) (by first | assumption | rfl | exact congrArg nI (by omega) | (simp (disch := omega) only [rI, rIe, rA, rIA, rLA, rJA, rVI, rQI, rVA, rQA, upd_at,  rAI, rLI, rJI, nI_add, pk_sub, kc_0, kc_1, kc_2, kc_3, kc_4, kc_5, reduceIte, Nat.reduceEqDiff, Nat.add_zero, rI_hold, rI_hold, rL_hold, hF]; done)) ?_
  refine Bod.ialdN F rfl (by omega) (by omega) dc_331_11 (mk_76 _) ?_
  refine Bod.eqI (nI e76) (by first | assumption | rfl | exact congrArg nI (by omega) | (simp (disch := omega) only [rI, rIe, rA, rIA, rLA, rJA, rVI, rQI, rVA, rQA, upd_at,  rAI, rLI, rJI, nI_add, pk_sub, kc_0, kc_1, kc_2, kc_3, kc_4, kc_5, reduceIte, Nat.reduceEqDiff, Nat.add_zero, rI_hold, rI_hold, rL_hold, hF, he76]; done)) ?_
  refine Bod.icF dc_331_12 rfl (k2_ge_F li e76 rfl rfl (by omega) (by omega)) ?_
  refine Bod.aldnG dc_331_15 (by repeat (first | exact q0 | exact sm_get_p1 | exact sm_get_p2e | refine sm_get_p1m (by decide) (by decide) ?_ | refine sm_get_p1n (by decide) rfl ?_ | refine sm_get_p2n (by decide) (by decide) rfl ?_)) ?_
  refine Bod.get dc_331_16 fr_331_347 (mk_61 _) rfl ?_
  refine Bod.aldnG dc_331_19 (by repeat (first | exact q0 | exact sm_get_p1 | exact sm_get_p2e | refine sm_get_p1m (by decide) (by decide) ?_ | refine sm_get_p1n (by decide) rfl ?_ | refine sm_get_p2n (by decide) (by decide) rfl ?_)) ?_
  refine Bod.get dc_331_20 fr_331_350 (mk_61 _) rfl ?_
  refine Bod.aldnG dc_331_23 (by repeat (first | exact q0 | exact sm_get_p1 | exact sm_get_p2e | refine sm_get_p1m (by decide) (by decide) ?_ | refine sm_get_p1n (by decide) rfl ?_ | refine sm_get_p2n (by decide) (by decide) rfl ?_)) ?_
  refine Bod.get dc_331_24 fr_331_236 (mk_61 _) rfl ?_
  refine Bod.eqI (nI F) (by first | assumption | rfl | exact congrArg nI (by omega) | (simp (disch := omega) only [rI, rIe, rA, rIA, rLA, rJA, rVI, rQI, rVA, rQA, upd_at,  rAI, rLI, rJI, nI_add, pk_sub, kc_0, kc_1, kc_2, kc_3, kc_4, kc_5, reduceIte, Nat.reduceEqDiff, Nat.add_zero, rI_hold, rI_hold, rL_hold, hF, he76]; done)) ?_
  refine Bod.ialdN F rfl (by omega) (by omega) dc_331_27 (mk_75 _) ?_
  refine Bod.eqI (nI e75) (by first | assumption | rfl | exact congrArg nI (by omega) | (simp (disch := omega) only [rI, rIe, rA, rIA, rLA, rJA, rVI, rQI, rVA, rQA, upd_at,  rAI, rLI, rJI, nI_add, pk_sub, kc_0, kc_1, kc_2, kc_3, kc_4, kc_5, reduceIte, Nat.reduceEqDiff, Nat.add_zero, rI_hold, rI_hold, rL_hold, hF, he76, he75]; done)) ?_
  refine Bod.ildnG dc_331_28 (by repeat (first | exact q2 | exact sm_get_p1 | exact sm_get_p2e | refine sm_get_p1m (by decide) (by decide) ?_ | refine sm_get_p1n (by decide) rfl ?_ | refine sm_get_p2n (by decide) (by decide) rfl ?_)) ?_
  refine Bod.addN (e75 + li) (by omega) dc_331_29 ?_
  refine Bod.ialdN (e75 + li) rfl (by omega) (by omega) dc_331_30 (mk_74 _) ?_
  refine Bod.ildnG dc_331_31 (by repeat (first | exact q1 | exact sm_get_p1 | exact sm_get_p2e | refine sm_get_p1m (by decide) (by decide) ?_ | refine sm_get_p1n (by decide) rfl ?_ | refine sm_get_p2n (by decide) (by decide) rfl ?_)) ?_
  refine Bod.icF dc_331_32 rfl (c2_ne_F w11) ?_
  refine Bod.ic 1 (by decide) dc_331_35 ?_
  exact Bod.retZ dc_331_36 rt_331 (Or.inr rfl)
theorem zPmL_3 {d : Nat} {S Sf : cS} {v : Option Value} {lv : sm_L} {lr : Nat} {li : Nat} {F : Nat} {e76 : Nat} {e75 : Nat} (q0 : sm_get lv 0 = some (.ref 61)) (q1 : sm_get lv 1 = some (.int (nI lr))) (q2 : sm_get lv 2 = some (.int (nI li))) (mlr : lr < 2 ^ 20) (mli : li < 2 ^ 20) (hF : sI S 6122 = nI F) (mF : F < 15) (he76 : sA S 76 F = nI e76) (me76 : e76 < 2 ^ 20) (b1 : li < e76) (he75 : sA S 75 F = nI e75) (me75 : e75 < 2 ^ 20) (b2 : e75 + li < 6000) (w11 : sA S 74 (e75 + li) ≠ nI lr) (hB : ∀ lv1 : sm_L, sm_get lv1 0 = some (.ref 61) → sm_get lv1 1 = some (.int (nI lr)) → sm_get lv1 2 = some (.int (nI (li + 1))) → Bod (d + 8) 331 2 lv1 [] (S) v Sf) : Bod (d + 8) 331 2 lv [] S v Sf := by
  refine Bod.ildnG dc_331_2 (by repeat (first | exact q2 | exact sm_get_p1 | exact sm_get_p2e | refine sm_get_p1m (by decide) (by decide) ?_ | refine sm_get_p1n (by decide) rfl ?_ | refine sm_get_p2n (by decide) (by decide) rfl ?_)) ?_
  refine Bod.aldnG dc_331_3 (by repeat (first | exact q0 | exact sm_get_p1 | exact sm_get_p2e | refine sm_get_p1m (by decide) (by decide) ?_ | refine sm_get_p1n (by decide) rfl ?_ | refine sm_get_p2n (by decide) (by decide) rfl ?_)) ?_
  refine Bod.get dc_331_4 fr_331_344 (mk_61 _) rfl ?_
  refine Bod.aldnG dc_331_7 (by repeat (first | exact q0 | exact sm_get_p1 | exact sm_get_p2e | refine sm_get_p1m (by decide) (by decide) ?_ | refine sm_get_p1n (by decide) rfl ?_ | refine sm_get_p2n (by decide) (by decide) rfl ?_)) ?_
  refine Bod.get dc_331_8 fr_331_236 (mk_61 _) rfl ?_
  refine Bod.eqI (nI F) (by first | assumption | rfl | exact congrArg nI (by omega) | (simp (disch := omega) only [rI, rIe, rA, rIA, rLA, rJA, rVI, rQI, rVA, rQA, upd_at,  rAI, rLI, rJI, nI_add, pk_sub, kc_0, kc_1, kc_2, kc_3, kc_4, kc_5, reduceIte, Nat.reduceEqDiff, Nat.add_zero, rI_hold, rI_hold, rL_hold, hF]; done)) ?_
  refine Bod.ialdN F rfl (by omega) (by omega) dc_331_11 (mk_76 _) ?_
  refine Bod.eqI (nI e76) (by first | assumption | rfl | exact congrArg nI (by omega) | (simp (disch := omega) only [rI, rIe, rA, rIA, rLA, rJA, rVI, rQI, rVA, rQA, upd_at,  rAI, rLI, rJI, nI_add, pk_sub, kc_0, kc_1, kc_2, kc_3, kc_4, kc_5, reduceIte, Nat.reduceEqDiff, Nat.add_zero, rI_hold, rI_hold, rL_hold, hF, he76]; done)) ?_
  refine Bod.icF dc_331_12 rfl (k2_ge_F li e76 rfl rfl (by omega) (by omega)) ?_
  refine Bod.aldnG dc_331_15 (by repeat (first | exact q0 | exact sm_get_p1 | exact sm_get_p2e | refine sm_get_p1m (by decide) (by decide) ?_ | refine sm_get_p1n (by decide) rfl ?_ | refine sm_get_p2n (by decide) (by decide) rfl ?_)) ?_
  refine Bod.get dc_331_16 fr_331_347 (mk_61 _) rfl ?_
  refine Bod.aldnG dc_331_19 (by repeat (first | exact q0 | exact sm_get_p1 | exact sm_get_p2e | refine sm_get_p1m (by decide) (by decide) ?_ | refine sm_get_p1n (by decide) rfl ?_ | refine sm_get_p2n (by decide) (by decide) rfl ?_)) ?_
  refine Bod.get dc_331_20 fr_331_350 (mk_61 _) rfl ?_
  refine Bod.aldnG dc_331_23 (by repeat (first | exact q0 | exact sm_get_p1 | exact sm_get_p2e | refine sm_get_p1m (by decide) (by decide) ?_ | refine sm_get_p1n (by decide) rfl ?_ | refine sm_get_p2n (by decide) (by decide) rfl ?_)) ?_
  refine Bod.get dc_331_24 fr_331_236 (mk_61 _) rfl ?_
  refine Bod.eqI (nI F) (by first | assumption | rfl | exact congrArg nI (by omega) | (simp (disch := omega) only [rI, rIe, rA, rIA, rLA, rJA, rVI, rQI, rVA, rQA, upd_at,  rAI, rLI, rJI, nI_add, pk_sub, kc_0, kc_1, kc_2, kc_3, kc_4, kc_5, reduceIte, Nat.reduceEqDiff, Nat.add_zero, rI_hold, rI_hold, rL_hold, hF, he76]; done)) ?_
  refine Bod.ialdN F rfl (by omega) (by omega) dc_331_27 (mk_75 _) ?_
  refine Bod.eqI (nI e75) (by first | assumption | rfl | exact congrArg nI (by omega) | (simp (disch := omega) only [rI, rIe, rA, rIA, rLA, rJA, rVI, rQI, rVA, rQA, upd_at,  rAI, rLI, rJI, nI_add, pk_sub, kc_0, kc_1, kc_2, kc_3, kc_4, kc_5, reduceIte, Nat.reduceEqDiff, Nat.add_zero, rI_hold, rI_hold, rL_hold, hF, he76, he75]; done)) ?_
  refine Bod.ildnG dc_331_28 (by repeat (first | exact q2 | exact sm_get_p1 | exact sm_get_p2e | refine sm_get_p1m (by decide) (by decide) ?_ | refine sm_get_p1n (by decide) rfl ?_ | refine sm_get_p2n (by decide) (by decide) rfl ?_)) ?_
  refine Bod.addN (e75 + li) (by omega) dc_331_29 ?_
  refine Bod.ialdN (e75 + li) rfl (by omega) (by omega) dc_331_30 (mk_74 _) ?_
  refine Bod.ildnG dc_331_31 (by repeat (first | exact q1 | exact sm_get_p1 | exact sm_get_p2e | refine sm_get_p1m (by decide) (by decide) ?_ | refine sm_get_p1n (by decide) rfl ?_ | refine sm_get_p2n (by decide) (by decide) rfl ?_)) ?_
  refine Bod.icT dc_331_32 rfl (c2_ne_T w11) ?_
  refine Bod.incN (li + 1) (by rw [kc_1, nI_add]) dc_331_37 (by rw [ml_331]; exact Nat.le_of_ble_eq_true rfl) (by repeat (first | exact q2 | exact sm_get_p1 | exact sm_get_p2e | refine sm_get_p1m (by decide) (by decide) ?_ | refine sm_get_p1n (by decide) rfl ?_ | refine sm_get_p2n (by decide) (by decide) rfl ?_)) ?_
  refine Bod.go dc_331_40 rfl ?_
  exact hB _ (by repeat (first | exact q0 | exact sm_get_p1 | exact sm_get_p2e | refine sm_get_p1m (by decide) (by decide) ?_ | refine sm_get_p1n (by decide) rfl ?_ | refine sm_get_p2n (by decide) (by decide) rfl ?_)) (by repeat (first | exact q1 | exact sm_get_p1 | exact sm_get_p2e | refine sm_get_p1m (by decide) (by decide) ?_ | refine sm_get_p1n (by decide) rfl ?_ | refine sm_get_p2n (by decide) (by decide) rfl ?_)) (by repeat (first | exact q0 | exact sm_get_p1 | exact sm_get_p2e | refine sm_get_p1m (by decide) (by decide) ?_ | refine sm_get_p1n (by decide) rfl ?_ | refine sm_get_p2n (by decide) (by decide) rfl ?_))
