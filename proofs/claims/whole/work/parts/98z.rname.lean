/-! NAMES of the parser of the reference: localOf, isOutside -/
theorem dc_319_32 : decode (sm_cc 319) 32 = .ok (.iload 4, 2) := by decide +kernel
theorem dc_319_34 : decode (sm_cc 319) 34 = .ok (.iload_n 3, 1) := by decide +kernel
theorem dc_319_35 : decode (sm_cc 319) 35 = .ok (.if_icmp .ge (30), 3) := by decide +kernel
theorem dc_319_38 : decode (sm_cc 319) 38 = .ok (.aload_n 0, 1) := by decide +kernel
theorem dc_319_39 : decode (sm_cc 319) 39 = .ok (.getfield 347, 3) := by decide +kernel
theorem fr_319_347 : sm_at mt_f (sm_ow 319) 347 = some (347, 14, 19, 0, 2092) := by decide +kernel
theorem dc_319_42 : decode (sm_cc 319) 42 = .ok (.iload 4, 2) := by decide +kernel
theorem dc_319_44 : decode (sm_cc 319) 44 = .ok (.iaload, 1) := by decide +kernel
theorem dc_319_45 : decode (sm_cc 319) 45 = .ok (.iload_n 2, 1) := by decide +kernel
theorem dc_319_46 : decode (sm_cc 319) 46 = .ok (.if_icmp .ne (13), 3) := by decide +kernel
theorem dc_319_59 : decode (sm_cc 319) 59 = .ok (.iinc 4 (1), 3) := by decide +kernel
theorem ml_319 : sm_ml 319 = 5 := by decide +kernel
theorem dc_319_62 : decode (sm_cc 319) 62 = .ok (.goto (-30), 3) := by decide +kernel
theorem dc_319_49 : decode (sm_cc 319) 49 = .ok (.iload 4, 2) := by decide +kernel
theorem dc_319_51 : decode (sm_cc 319) 51 = .ok (.aload_n 0, 1) := by decide +kernel
theorem dc_319_52 : decode (sm_cc 319) 52 = .ok (.getfield 350, 3) := by decide +kernel
theorem fr_319_350 : sm_at mt_f (sm_ow 319) 350 = some (350, 14, 20, 0, 2093) := by decide +kernel
theorem dc_319_55 : decode (sm_cc 319) 55 = .ok (.iload_n 1, 1) := by decide +kernel
theorem dc_319_56 : decode (sm_cc 319) 56 = .ok (.iaload, 1) := by decide +kernel
theorem dc_319_57 : decode (sm_cc 319) 57 = .ok (.isub, 1) := by decide +kernel
theorem dc_319_58 : decode (sm_cc 319) 58 = .ok (.ireturn, 1) := by decide +kernel
theorem rt_319 : sm_rt 319 = some .int := by decide +kernel
theorem dc_319_65 : decode (sm_cc 319) 65 = .ok (.iconst (-1), 1) := by decide +kernel
theorem dc_319_66 : decode (sm_cc 319) 66 = .ok (.ireturn, 1) := by decide +kernel
theorem dc_319_0 : decode (sm_cc 319) 0 = .ok (.iload_n 1, 1) := by decide +kernel
theorem dc_319_1 : decode (sm_cc 319) 1 = .ok (.aload_n 0, 1) := by decide +kernel
theorem dc_319_2 : decode (sm_cc 319) 2 = .ok (.getfield 236, 3) := by decide +kernel
theorem fr_319_236 : sm_at mt_f (sm_ow 319) 236 = some (236, 14, 22, 0, 2095) := by decide +kernel
theorem dc_319_5 : decode (sm_cc 319) 5 = .ok (.if_icmp .ne (10), 3) := by decide +kernel
theorem dc_319_8 : decode (sm_cc 319) 8 = .ok (.aload_n 0, 1) := by decide +kernel
theorem dc_319_9 : decode (sm_cc 319) 9 = .ok (.getfield 239, 3) := by decide +kernel
theorem fr_319_239 : sm_at mt_f (sm_ow 319) 239 = some (239, 14, 23, 0, 2096) := by decide +kernel
theorem dc_319_12 : decode (sm_cc 319) 12 = .ok (.goto (11), 3) := by decide +kernel
theorem dc_319_23 : decode (sm_cc 319) 23 = .ok (.istore_n 3, 1) := by decide +kernel
theorem dc_319_24 : decode (sm_cc 319) 24 = .ok (.aload_n 0, 1) := by decide +kernel
theorem dc_319_25 : decode (sm_cc 319) 25 = .ok (.getfield 350, 3) := by decide +kernel
theorem dc_319_28 : decode (sm_cc 319) 28 = .ok (.iload_n 1, 1) := by decide +kernel
theorem dc_319_29 : decode (sm_cc 319) 29 = .ok (.iaload, 1) := by decide +kernel
theorem dc_319_30 : decode (sm_cc 319) 30 = .ok (.istore 4, 2) := by decide +kernel
theorem dc_319_15 : decode (sm_cc 319) 15 = .ok (.aload_n 0, 1) := by decide +kernel
theorem dc_319_16 : decode (sm_cc 319) 16 = .ok (.getfield 350, 3) := by decide +kernel
theorem dc_319_19 : decode (sm_cc 319) 19 = .ok (.iload_n 1, 1) := by decide +kernel
theorem dc_319_20 : decode (sm_cc 319) 20 = .ok (.iconst 1, 1) := by decide +kernel
theorem dc_319_21 : decode (sm_cc 319) 21 = .ok (.iadd, 1) := by decide +kernel
theorem dc_319_22 : decode (sm_cc 319) 22 = .ok (.iaload, 1) := by decide +kernel
theorem dc_318_10 : decode (sm_cc 318) 10 = .ok (.iload_n 2, 1) := by decide +kernel
theorem dc_318_11 : decode (sm_cc 318) 11 = .ok (.aload_n 0, 1) := by decide +kernel
theorem dc_318_12 : decode (sm_cc 318) 12 = .ok (.getfield 254, 3) := by decide +kernel
theorem fr_318_254 : sm_at mt_f (sm_ow 318) 254 = some (254, 14, 37, 0, 2110) := by decide +kernel
theorem dc_318_15 : decode (sm_cc 318) 15 = .ok (.if_icmp .ge (28), 3) := by decide +kernel
theorem dc_318_43 : decode (sm_cc 318) 43 = .ok (.iconst 0, 1) := by decide +kernel
theorem dc_318_44 : decode (sm_cc 318) 44 = .ok (.ireturn, 1) := by decide +kernel
theorem rt_318 : sm_rt 318 = some .boolean := by decide +kernel
theorem dc_318_18 : decode (sm_cc 318) 18 = .ok (.aload_n 0, 1) := by decide +kernel
theorem dc_318_19 : decode (sm_cc 318) 19 = .ok (.getfield 236, 3) := by decide +kernel
theorem fr_318_236 : sm_at mt_f (sm_ow 318) 236 = some (236, 14, 22, 0, 2095) := by decide +kernel
theorem dc_318_22 : decode (sm_cc 318) 22 = .ok (.ifCond .le (21), 3) := by decide +kernel
theorem dc_318_25 : decode (sm_cc 318) 25 = .ok (.aload_n 0, 1) := by decide +kernel
theorem dc_318_26 : decode (sm_cc 318) 26 = .ok (.getfield 365, 3) := by decide +kernel
theorem fr_318_365 : sm_at mt_f (sm_ow 318) 365 = some (365, 14, 35, 0, 2108) := by decide +kernel
theorem dc_318_29 : decode (sm_cc 318) 29 = .ok (.iload_n 2, 1) := by decide +kernel
theorem dc_318_30 : decode (sm_cc 318) 30 = .ok (.iaload, 1) := by decide +kernel
theorem dc_318_31 : decode (sm_cc 318) 31 = .ok (.iload_n 1, 1) := by decide +kernel
theorem dc_318_32 : decode (sm_cc 318) 32 = .ok (.if_icmp .ne (5), 3) := by decide +kernel
theorem dc_318_35 : decode (sm_cc 318) 35 = .ok (.iconst 1, 1) := by decide +kernel
theorem dc_318_36 : decode (sm_cc 318) 36 = .ok (.ireturn, 1) := by decide +kernel
theorem dc_318_37 : decode (sm_cc 318) 37 = .ok (.iinc 2 (1), 3) := by decide +kernel
theorem ml_318 : sm_ml 318 = 3 := by decide +kernel
theorem dc_318_40 : decode (sm_cc 318) 40 = .ok (.goto (-30), 3) := by decide +kernel
theorem dc_318_0 : decode (sm_cc 318) 0 = .ok (.aload_n 0, 1) := by decide +kernel
theorem dc_318_1 : decode (sm_cc 318) 1 = .ok (.getfield 362, 3) := by decide +kernel
theorem fr_318_362 : sm_at mt_f (sm_ow 318) 362 = some (362, 14, 36, 0, 2109) := by decide +kernel
theorem dc_318_4 : decode (sm_cc 318) 4 = .ok (.aload_n 0, 1) := by decide +kernel
theorem dc_318_5 : decode (sm_cc 318) 5 = .ok (.getfield 236, 3) := by decide +kernel
theorem dc_318_8 : decode (sm_cc 318) 8 = .ok (.iaload, 1) := by decide +kernel
theorem dc_318_9 : decode (sm_cc 318) 9 = .ok (.istore_n 2, 1) := by decide +kernel
theorem lo_in_F {d : Nat} {S Sf : cS} {lv : sm_L} {v : Option Value} {f : Nat} {r : Nat} {e : Nat} {k : Nat}  (h0 : sm_get lv 0 = some (.ref 61)) (h1 : sm_get lv 1 = some (.int (nI f))) (h2 : sm_get lv 2 = some (.int (nI r))) (h3 : sm_get lv 3 = some (.int (nI e))) (h4 : sm_get lv 4 = some (.int (nI k))) (hr : r < 2 ^ 20) (hf : f < 15) (hke : k < e) (he : e ≤ 6000) (hne : sA S 74 k ≠ nI r) (hB : ∀ lv1 : sm_L, sm_get lv1 0 = some (.ref 61) → sm_get lv1 1 = some (.int (nI f)) → sm_get lv1 2 = some (.int (nI r)) → sm_get lv1 3 = some (.int (nI e)) → sm_get lv1 4 = some (.int (nI (k + 1))) → Bod d 319 32 lv1 [] (S) v Sf) : Bod d 319 32 lv [] S v Sf := by
  refine Bod.ildG dc_319_32 (by repeat (first | exact h4 | exact sm_get_p1 | exact sm_get_p2e | refine sm_get_p1m (by decide) (by decide) ?_ | refine sm_get_p1n (by decide) rfl ?_ | refine sm_get_p2n (by decide) (by decide) rfl ?_)) ?_
  refine Bod.ildnG dc_319_34 (by repeat (first | exact h3 | exact sm_get_p1 | exact sm_get_p2e | refine sm_get_p1m (by decide) (by decide) ?_ | refine sm_get_p1n (by decide) rfl ?_ | refine sm_get_p2n (by decide) (by decide) rfl ?_)) ?_
  refine Bod.icF dc_319_35 rfl (k2_ge_F k e rfl rfl (by omega) (by omega)) ?_
  refine Bod.aldnG dc_319_38 (by repeat (first | exact h0 | exact sm_get_p1 | exact sm_get_p2e | refine sm_get_p1m (by decide) (by decide) ?_ | refine sm_get_p1n (by decide) rfl ?_ | refine sm_get_p2n (by decide) (by decide) rfl ?_)) ?_
  refine Bod.get dc_319_39 fr_319_347 (mk_61 _) rfl ?_
  refine Bod.ildG dc_319_42 (by repeat (first | exact h4 | exact sm_get_p1 | exact sm_get_p2e | refine sm_get_p1m (by decide) (by decide) ?_ | refine sm_get_p1n (by decide) rfl ?_ | refine sm_get_p2n (by decide) (by decide) rfl ?_)) ?_
  refine Bod.ialdN k rfl (by omega) (by omega) dc_319_44 (mk_74 _) ?_
  refine Bod.ildnG dc_319_45 (by repeat (first | exact h2 | exact sm_get_p1 | exact sm_get_p2e | refine sm_get_p1m (by decide) (by decide) ?_ | refine sm_get_p1n (by decide) rfl ?_ | refine sm_get_p2n (by decide) (by decide) rfl ?_)) ?_
  refine Bod.icT dc_319_46 rfl (k2_ne_T hne) ?_
  refine Bod.incN (k + 1) (by rw [kc_1, nI_add]) dc_319_59 (by rw [ml_319]; exact Nat.le_of_ble_eq_true rfl) (by repeat (first | exact h4 | exact sm_get_p1 | exact sm_get_p2e | refine sm_get_p1m (by decide) (by decide) ?_ | refine sm_get_p1n (by decide) rfl ?_ | refine sm_get_p2n (by decide) (by decide) rfl ?_)) ?_
  refine Bod.go dc_319_62 rfl ?_
  exact hB _ (by repeat (first | exact h0 | exact sm_get_p1 | exact sm_get_p2e | refine sm_get_p1m (by decide) (by decide) ?_ | refine sm_get_p1n (by decide) rfl ?_ | refine sm_get_p2n (by decide) (by decide) rfl ?_)) (by repeat (first | exact h1 | exact sm_get_p1 | exact sm_get_p2e | refine sm_get_p1m (by decide) (by decide) ?_ | refine sm_get_p1n (by decide) rfl ?_ | refine sm_get_p2n (by decide) (by decide) rfl ?_)) (by repeat (first | exact h2 | exact sm_get_p1 | exact sm_get_p2e | refine sm_get_p1m (by decide) (by decide) ?_ | refine sm_get_p1n (by decide) rfl ?_ | refine sm_get_p2n (by decide) (by decide) rfl ?_)) (by repeat (first | exact h3 | exact sm_get_p1 | exact sm_get_p2e | refine sm_get_p1m (by decide) (by decide) ?_ | refine sm_get_p1n (by decide) rfl ?_ | refine sm_get_p2n (by decide) (by decide) rfl ?_)) (by repeat (first | exact h4 | exact sm_get_p1 | exact sm_get_p2e | refine sm_get_p1m (by decide) (by decide) ?_ | refine sm_get_p1n (by decide) rfl ?_ | refine sm_get_p2n (by decide) (by decide) rfl ?_))
theorem lo_in_T {d : Nat} {S : cS} {lv : sm_L} {f : Nat} {r : Nat} {e : Nat} {k : Nat} {a : Nat} (h0 : sm_get lv 0 = some (.ref 61)) (h1 : sm_get lv 1 = some (.int (nI f))) (h2 : sm_get lv 2 = some (.int (nI r))) (h3 : sm_get lv 3 = some (.int (nI e))) (h4 : sm_get lv 4 = some (.int (nI k))) (hr : r < 2 ^ 20) (hf : f < 15) (hke : k < e) (he : e ≤ 6000) (heq : sA S 74 k = nI r) (hal : sA S 75 f = nI a) (hak : a ≤ k) : Bod d 319 32 lv [] S (some (.int (nI (k - a)))) (S) := by
  refine Bod.ildG dc_319_32 (by repeat (first | exact h4 | exact sm_get_p1 | exact sm_get_p2e | refine sm_get_p1m (by decide) (by decide) ?_ | refine sm_get_p1n (by decide) rfl ?_ | refine sm_get_p2n (by decide) (by decide) rfl ?_)) ?_
  refine Bod.ildnG dc_319_34 (by repeat (first | exact h3 | exact sm_get_p1 | exact sm_get_p2e | refine sm_get_p1m (by decide) (by decide) ?_ | refine sm_get_p1n (by decide) rfl ?_ | refine sm_get_p2n (by decide) (by decide) rfl ?_)) ?_
  refine Bod.icF dc_319_35 rfl (k2_ge_F k e rfl rfl (by omega) (by omega)) ?_
  refine Bod.aldnG dc_319_38 (by repeat (first | exact h0 | exact sm_get_p1 | exact sm_get_p2e | refine sm_get_p1m (by decide) (by decide) ?_ | refine sm_get_p1n (by decide) rfl ?_ | refine sm_get_p2n (by decide) (by decide) rfl ?_)) ?_
  refine Bod.get dc_319_39 fr_319_347 (mk_61 _) rfl ?_
  refine Bod.ildG dc_319_42 (by repeat (first | exact h4 | exact sm_get_p1 | exact sm_get_p2e | refine sm_get_p1m (by decide) (by decide) ?_ | refine sm_get_p1n (by decide) rfl ?_ | refine sm_get_p2n (by decide) (by decide) rfl ?_)) ?_
  refine Bod.ialdN k rfl (by omega) (by omega) dc_319_44 (mk_74 _) ?_
  refine Bod.eqI (nI r) (by first | assumption | rfl | exact congrArg nI (by omega) | (simp (disch := omega) only [rI, rIe, rA, rIA, rLA, rJA, rVI, rQI, rVA, rQA, upd_at,  rAI, rLI, rJI, nI_add, pk_sub, kc_0, kc_1, kc_2, kc_3, kc_4, kc_5, reduceIte, Nat.reduceEqDiff, Nat.add_zero, rI_hold, rI_hold, rL_hold, heq, hal]; done)) ?_
  refine Bod.ildnG dc_319_45 (by repeat (first | exact h2 | exact sm_get_p1 | exact sm_get_p2e | refine sm_get_p1m (by decide) (by decide) ?_ | refine sm_get_p1n (by decide) rfl ?_ | refine sm_get_p2n (by decide) (by decide) rfl ?_)) ?_
  refine Bod.icF dc_319_46 rfl (k2_ne_F (k_eq r r rfl rfl (by omega))) ?_
  refine Bod.ildG dc_319_49 (by repeat (first | exact h4 | exact sm_get_p1 | exact sm_get_p2e | refine sm_get_p1m (by decide) (by decide) ?_ | refine sm_get_p1n (by decide) rfl ?_ | refine sm_get_p2n (by decide) (by decide) rfl ?_)) ?_
  refine Bod.aldnG dc_319_51 (by repeat (first | exact h0 | exact sm_get_p1 | exact sm_get_p2e | refine sm_get_p1m (by decide) (by decide) ?_ | refine sm_get_p1n (by decide) rfl ?_ | refine sm_get_p2n (by decide) (by decide) rfl ?_)) ?_
  refine Bod.get dc_319_52 fr_319_350 (mk_61 _) rfl ?_
  refine Bod.ildnG dc_319_55 (by repeat (first | exact h1 | exact sm_get_p1 | exact sm_get_p2e | refine sm_get_p1m (by decide) (by decide) ?_ | refine sm_get_p1n (by decide) rfl ?_ | refine sm_get_p2n (by decide) (by decide) rfl ?_)) ?_
  refine Bod.ialdN f rfl (by omega) (by omega) dc_319_56 (mk_75 _) ?_
  refine Bod.eqI (nI a) (by first | assumption | rfl | exact congrArg nI (by omega) | (simp (disch := omega) only [rI, rIe, rA, rIA, rLA, rJA, rVI, rQI, rVA, rQA, upd_at,  rAI, rLI, rJI, nI_add, pk_sub, kc_0, kc_1, kc_2, kc_3, kc_4, kc_5, reduceIte, Nat.reduceEqDiff, Nat.add_zero, rI_hold, rI_hold, rL_hold, heq, hal]; done)) ?_
  refine Bod.subN (k - a) (by omega) (by omega) dc_319_57 ?_
  exact Bod.retI dc_319_58 rt_319
theorem lo_end {d : Nat} {S : cS} {lv : sm_L} {f : Nat} {r : Nat} {e : Nat} {k : Nat}  (h0 : sm_get lv 0 = some (.ref 61)) (h1 : sm_get lv 1 = some (.int (nI f))) (h2 : sm_get lv 2 = some (.int (nI r))) (h3 : sm_get lv 3 = some (.int (nI e))) (h4 : sm_get lv 4 = some (.int (nI k))) (hr : r < 2 ^ 20) (hf : f < 15) (hke : e ≤ k) (he : k ≤ 6000) : Bod d 319 32 lv [] S (some (.int (Int32.ofInt (-1)))) (S) := by
  refine Bod.ildG dc_319_32 (by repeat (first | exact h4 | exact sm_get_p1 | exact sm_get_p2e | refine sm_get_p1m (by decide) (by decide) ?_ | refine sm_get_p1n (by decide) rfl ?_ | refine sm_get_p2n (by decide) (by decide) rfl ?_)) ?_
  refine Bod.ildnG dc_319_34 (by repeat (first | exact h3 | exact sm_get_p1 | exact sm_get_p2e | refine sm_get_p1m (by decide) (by decide) ?_ | refine sm_get_p1n (by decide) rfl ?_ | refine sm_get_p2n (by decide) (by decide) rfl ?_)) ?_
  refine Bod.icT dc_319_35 rfl (k2_ge_T k e rfl rfl (by omega) (by omega)) ?_
  refine Bod.go dc_319_65 rfl ?_
  exact Bod.retI dc_319_66 rt_319
theorem lo_go1 {d f r e a F : Nat} {S Sf : cS} {v : Option Value} (hr : r < 2 ^ 20) (hf : f < 15) (haM : a ≤ 6000) (heM : e ≤ 6000) (hF : sI S 6122 = nI F) (hfF : f = F) (heL : sI S 6123 = nI e) (hal : sA S 75 f = nI a) (hB : ∀ lv1 : sm_L, sm_get lv1 0 = some (.ref 61) → sm_get lv1 1 = some (.int (nI f)) → sm_get lv1 2 = some (.int (nI r)) → sm_get lv1 3 = some (.int (nI e)) → sm_get lv1 4 = some (.int (nI a)) → Bod d 319 32 lv1 [] S v Sf) : Ans (d + 1) 319 [.ref 61, .int (nI f), .int (nI r)] S v Sf := by
  refine Ans.of (by rw [ml_319]; exact Nat.le_of_ble_eq_true rfl) ?_
  refine Bod.go dc_319_0 rfl ?_
  refine Bod.go dc_319_1 rfl ?_
  refine Bod.get dc_319_2 fr_319_236 (mk_61 _) rfl ?_
  refine Bod.eqI (nI F) (by first | assumption | rfl | exact congrArg nI (by omega) | (simp (disch := omega) only [rI, rIe, rA, rIA, rLA, rJA, rVI, rQI, rVA, rQA, upd_at,  rAI, rLI, rJI, nI_add, pk_sub, kc_0, kc_1, kc_2, kc_3, kc_4, kc_5, reduceIte, Nat.reduceEqDiff, Nat.add_zero, rI_hold, rI_hold, rL_hold, hF, heL, hal]; done)) ?_
  refine Bod.icF dc_319_5 rfl (k2_ne_F (k_eq f F rfl rfl (by omega))) ?_
  refine Bod.go dc_319_8 rfl ?_
  refine Bod.get dc_319_9 fr_319_239 (mk_61 _) rfl ?_
  refine Bod.eqI (nI e) (by first | assumption | rfl | exact congrArg nI (by omega) | (simp (disch := omega) only [rI, rIe, rA, rIA, rLA, rJA, rVI, rQI, rVA, rQA, upd_at,  rAI, rLI, rJI, nI_add, pk_sub, kc_0, kc_1, kc_2, kc_3, kc_4, kc_5, reduceIte, Nat.reduceEqDiff, Nat.add_zero, rI_hold, rI_hold, rL_hold, hF, heL, hal]; done)) ?_
  refine Bod.go dc_319_12 rfl ?_
  refine Bod.istn dc_319_23 (by rw [ml_319]; exact Nat.le_of_ble_eq_true rfl) ?_
  refine Bod.go dc_319_24 rfl ?_
  refine Bod.get dc_319_25 fr_319_350 (mk_61 _) rfl ?_
  refine Bod.go dc_319_28 rfl ?_
  refine Bod.ialdN f rfl (by omega) (by omega) dc_319_29 (mk_75 _) ?_
  refine Bod.eqI (nI a) (by first | assumption | rfl | exact congrArg nI (by omega) | (simp (disch := omega) only [rI, rIe, rA, rIA, rLA, rJA, rVI, rQI, rVA, rQA, upd_at,  rAI, rLI, rJI, nI_add, pk_sub, kc_0, kc_1, kc_2, kc_3, kc_4, kc_5, reduceIte, Nat.reduceEqDiff, Nat.add_zero, rI_hold, rI_hold, rL_hold, hF, heL, hal]; done)) ?_
  refine Bod.ist dc_319_30 (by rw [ml_319]; exact Nat.le_of_ble_eq_true rfl) ?_
  exact hB _ (by repeat (first | exact sm_get_p1 | exact sm_get_p2e | refine sm_get_p1m (by decide) (by decide) ?_ | refine sm_get_p1n (by decide) rfl ?_ | refine sm_get_p2n (by decide) (by decide) rfl ?_ | rfl)) (by repeat (first | exact sm_get_p1 | exact sm_get_p2e | refine sm_get_p1m (by decide) (by decide) ?_ | refine sm_get_p1n (by decide) rfl ?_ | refine sm_get_p2n (by decide) (by decide) rfl ?_ | rfl)) (by repeat (first | exact sm_get_p1 | exact sm_get_p2e | refine sm_get_p1m (by decide) (by decide) ?_ | refine sm_get_p1n (by decide) rfl ?_ | refine sm_get_p2n (by decide) (by decide) rfl ?_ | rfl)) (by repeat (first | exact sm_get_p1 | exact sm_get_p2e | refine sm_get_p1m (by decide) (by decide) ?_ | refine sm_get_p1n (by decide) rfl ?_ | refine sm_get_p2n (by decide) (by decide) rfl ?_ | rfl)) (by repeat (first | exact sm_get_p1 | exact sm_get_p2e | refine sm_get_p1m (by decide) (by decide) ?_ | refine sm_get_p1n (by decide) rfl ?_ | refine sm_get_p2n (by decide) (by decide) rfl ?_ | rfl))
theorem lo_go2 {d f r e a F : Nat} {S Sf : cS} {v : Option Value} (hr : r < 2 ^ 20) (hf : f < 15) (haM : a ≤ 6000) (heM : e ≤ 6000) (hF : sI S 6122 = nI F) (hfF : f < F) (hFM : F < 16) (heL : sA S 75 (f + 1) = nI e) (hal : sA S 75 f = nI a) (hB : ∀ lv1 : sm_L, sm_get lv1 0 = some (.ref 61) → sm_get lv1 1 = some (.int (nI f)) → sm_get lv1 2 = some (.int (nI r)) → sm_get lv1 3 = some (.int (nI e)) → sm_get lv1 4 = some (.int (nI a)) → Bod d 319 32 lv1 [] S v Sf) : Ans (d + 1) 319 [.ref 61, .int (nI f), .int (nI r)] S v Sf := by
  refine Ans.of (by rw [ml_319]; exact Nat.le_of_ble_eq_true rfl) ?_
  refine Bod.go dc_319_0 rfl ?_
  refine Bod.go dc_319_1 rfl ?_
  refine Bod.get dc_319_2 fr_319_236 (mk_61 _) rfl ?_
  refine Bod.eqI (nI F) (by first | assumption | rfl | exact congrArg nI (by omega) | (simp (disch := omega) only [rI, rIe, rA, rIA, rLA, rJA, rVI, rQI, rVA, rQA, upd_at,  rAI, rLI, rJI, nI_add, pk_sub, kc_0, kc_1, kc_2, kc_3, kc_4, kc_5, reduceIte, Nat.reduceEqDiff, Nat.add_zero, rI_hold, rI_hold, rL_hold, hF, heL, hal]; done)) ?_
  refine Bod.icT dc_319_5 rfl (k2_ne_T (k_ne f F rfl rfl (by omega) (by omega) (by omega))) ?_
  refine Bod.go dc_319_15 rfl ?_
  refine Bod.get dc_319_16 fr_319_350 (mk_61 _) rfl ?_
  refine Bod.go dc_319_19 rfl ?_
  refine Bod.ic 1 (by decide) dc_319_20 ?_
  refine Bod.addN (f + 1) (by omega) dc_319_21 ?_
  refine Bod.ialdN (f + 1) rfl (by omega) (by omega) dc_319_22 (mk_75 _) ?_
  refine Bod.eqI (nI e) (by first | assumption | rfl | exact congrArg nI (by omega) | (simp (disch := omega) only [rI, rIe, rA, rIA, rLA, rJA, rVI, rQI, rVA, rQA, upd_at,  rAI, rLI, rJI, nI_add, pk_sub, kc_0, kc_1, kc_2, kc_3, kc_4, kc_5, reduceIte, Nat.reduceEqDiff, Nat.add_zero, rI_hold, rI_hold, rL_hold, hF, heL, hal]; done)) ?_
  refine Bod.istn dc_319_23 (by rw [ml_319]; exact Nat.le_of_ble_eq_true rfl) ?_
  refine Bod.go dc_319_24 rfl ?_
  refine Bod.get dc_319_25 fr_319_350 (mk_61 _) rfl ?_
  refine Bod.go dc_319_28 rfl ?_
  refine Bod.ialdN f rfl (by omega) (by omega) dc_319_29 (mk_75 _) ?_
  refine Bod.eqI (nI a) (by first | assumption | rfl | exact congrArg nI (by omega) | (simp (disch := omega) only [rI, rIe, rA, rIA, rLA, rJA, rVI, rQI, rVA, rQA, upd_at,  rAI, rLI, rJI, nI_add, pk_sub, kc_0, kc_1, kc_2, kc_3, kc_4, kc_5, reduceIte, Nat.reduceEqDiff, Nat.add_zero, rI_hold, rI_hold, rL_hold, hF, heL, hal]; done)) ?_
  refine Bod.ist dc_319_30 (by rw [ml_319]; exact Nat.le_of_ble_eq_true rfl) ?_
  exact hB _ (by repeat (first | exact sm_get_p1 | exact sm_get_p2e | refine sm_get_p1m (by decide) (by decide) ?_ | refine sm_get_p1n (by decide) rfl ?_ | refine sm_get_p2n (by decide) (by decide) rfl ?_ | rfl)) (by repeat (first | exact sm_get_p1 | exact sm_get_p2e | refine sm_get_p1m (by decide) (by decide) ?_ | refine sm_get_p1n (by decide) rfl ?_ | refine sm_get_p2n (by decide) (by decide) rfl ?_ | rfl)) (by repeat (first | exact sm_get_p1 | exact sm_get_p2e | refine sm_get_p1m (by decide) (by decide) ?_ | refine sm_get_p1n (by decide) rfl ?_ | refine sm_get_p2n (by decide) (by decide) rfl ?_ | rfl)) (by repeat (first | exact sm_get_p1 | exact sm_get_p2e | refine sm_get_p1m (by decide) (by decide) ?_ | refine sm_get_p1n (by decide) rfl ?_ | refine sm_get_p2n (by decide) (by decide) rfl ?_ | rfl)) (by repeat (first | exact sm_get_p1 | exact sm_get_p2e | refine sm_get_p1m (by decide) (by decide) ?_ | refine sm_get_p1n (by decide) rfl ?_ | refine sm_get_p2n (by decide) (by decide) rfl ?_ | rfl))
theorem ou_end {d : Nat} {S : cS} {lv : sm_L} {r : Nat} {k : Nat} {o : Nat} (h0 : sm_get lv 0 = some (.ref 61)) (h1 : sm_get lv 1 = some (.int (nI r))) (h2 : sm_get lv 2 = some (.int (nI k))) (hr : r < 2 ^ 20) (hO : sI S 6137 = nI o) (hoM : o ≤ 6000) (hke : o ≤ k) (hkM : k ≤ 6000) : Bod d 318 10 lv [] S (some (.int (0))) (S) := by
  refine Bod.ildnG dc_318_10 (by repeat (first | exact h2 | exact sm_get_p1 | exact sm_get_p2e | refine sm_get_p1m (by decide) (by decide) ?_ | refine sm_get_p1n (by decide) rfl ?_ | refine sm_get_p2n (by decide) (by decide) rfl ?_)) ?_
  refine Bod.aldnG dc_318_11 (by repeat (first | exact h0 | exact sm_get_p1 | exact sm_get_p2e | refine sm_get_p1m (by decide) (by decide) ?_ | refine sm_get_p1n (by decide) rfl ?_ | refine sm_get_p2n (by decide) (by decide) rfl ?_)) ?_
  refine Bod.get dc_318_12 fr_318_254 (mk_61 _) rfl ?_
  refine Bod.eqI (nI o) (by first | assumption | rfl | exact congrArg nI (by omega) | (simp (disch := omega) only [rI, rIe, rA, rIA, rLA, rJA, rVI, rQI, rVA, rQA, upd_at,  rAI, rLI, rJI, nI_add, pk_sub, kc_0, kc_1, kc_2, kc_3, kc_4, kc_5, reduceIte, Nat.reduceEqDiff, Nat.add_zero, rI_hold, rI_hold, rL_hold, hO]; done)) ?_
  refine Bod.icT dc_318_15 rfl (k2_ge_T k o rfl rfl (by omega) (by omega)) ?_
  refine Bod.ic 0 (by decide) dc_318_43 ?_
  exact Bod.retZ dc_318_44 rt_318 (Or.inl rfl)
theorem ou_0 {d : Nat} {S : cS} {lv : sm_L} {r : Nat} {k : Nat} {o : Nat} {F : Nat} (h0 : sm_get lv 0 = some (.ref 61)) (h1 : sm_get lv 1 = some (.int (nI r))) (h2 : sm_get lv 2 = some (.int (nI k))) (hr : r < 2 ^ 20) (hO : sI S 6137 = nI o) (hoM : o ≤ 6000) (hF : sI S 6122 = nI F) (hFM : F < 16) (hke : k < o) (hF0 : F = 0) : Bod d 318 10 lv [] S (some (.int (0))) (S) := by
  refine Bod.ildnG dc_318_10 (by repeat (first | exact h2 | exact sm_get_p1 | exact sm_get_p2e | refine sm_get_p1m (by decide) (by decide) ?_ | refine sm_get_p1n (by decide) rfl ?_ | refine sm_get_p2n (by decide) (by decide) rfl ?_)) ?_
  refine Bod.aldnG dc_318_11 (by repeat (first | exact h0 | exact sm_get_p1 | exact sm_get_p2e | refine sm_get_p1m (by decide) (by decide) ?_ | refine sm_get_p1n (by decide) rfl ?_ | refine sm_get_p2n (by decide) (by decide) rfl ?_)) ?_
  refine Bod.get dc_318_12 fr_318_254 (mk_61 _) rfl ?_
  refine Bod.eqI (nI o) (by first | assumption | rfl | exact congrArg nI (by omega) | (simp (disch := omega) only [rI, rIe, rA, rIA, rLA, rJA, rVI, rQI, rVA, rQA, upd_at,  rAI, rLI, rJI, nI_add, pk_sub, kc_0, kc_1, kc_2, kc_3, kc_4, kc_5, reduceIte, Nat.reduceEqDiff, Nat.add_zero, rI_hold, rI_hold, rL_hold, hO, hF]; done)) ?_
  refine Bod.icF dc_318_15 rfl (k2_ge_F k o rfl rfl (by omega) (by omega)) ?_
  refine Bod.aldnG dc_318_18 (by repeat (first | exact h0 | exact sm_get_p1 | exact sm_get_p2e | refine sm_get_p1m (by decide) (by decide) ?_ | refine sm_get_p1n (by decide) rfl ?_ | refine sm_get_p2n (by decide) (by decide) rfl ?_)) ?_
  refine Bod.get dc_318_19 fr_318_236 (mk_61 _) rfl ?_
  refine Bod.eqI (nI F) (by first | assumption | rfl | exact congrArg nI (by omega) | (simp (disch := omega) only [rI, rIe, rA, rIA, rLA, rJA, rVI, rQI, rVA, rQA, upd_at,  rAI, rLI, rJI, nI_add, pk_sub, kc_0, kc_1, kc_2, kc_3, kc_4, kc_5, reduceIte, Nat.reduceEqDiff, Nat.add_zero, rI_hold, rI_hold, rL_hold, hO, hF]; done)) ?_
  refine Bod.ifT dc_318_22 rfl (k1_le_T (k_eq F 0 (by first | assumption | rfl | exact congrArg nI (by omega) | (simp (disch := omega) only [rI, rIe, rA, rIA, rLA, rJA, rVI, rQI, rVA, rQA, upd_at,  rAI, rLI, rJI, nI_add, pk_sub, kc_0, kc_1, kc_2, kc_3, kc_4, kc_5, reduceIte, Nat.reduceEqDiff, Nat.add_zero, rI_hold, rI_hold, rL_hold, hO, hF]; done)) rfl (by omega))) ?_
  refine Bod.ic 0 (by decide) dc_318_43 ?_
  exact Bod.retZ dc_318_44 rt_318 (Or.inl rfl)
theorem ou_T {d : Nat} {S : cS} {lv : sm_L} {r : Nat} {k : Nat} {o : Nat} {F : Nat} (h0 : sm_get lv 0 = some (.ref 61)) (h1 : sm_get lv 1 = some (.int (nI r))) (h2 : sm_get lv 2 = some (.int (nI k))) (hr : r < 2 ^ 20) (hO : sI S 6137 = nI o) (hoM : o ≤ 6000) (hF : sI S 6122 = nI F) (hFM : F < 16) (hke : k < o) (hF0 : 0 < F) (heq : sA S 82 k = nI r) : Bod d 318 10 lv [] S (some (.int (1))) (S) := by
  refine Bod.ildnG dc_318_10 (by repeat (first | exact h2 | exact sm_get_p1 | exact sm_get_p2e | refine sm_get_p1m (by decide) (by decide) ?_ | refine sm_get_p1n (by decide) rfl ?_ | refine sm_get_p2n (by decide) (by decide) rfl ?_)) ?_
  refine Bod.aldnG dc_318_11 (by repeat (first | exact h0 | exact sm_get_p1 | exact sm_get_p2e | refine sm_get_p1m (by decide) (by decide) ?_ | refine sm_get_p1n (by decide) rfl ?_ | refine sm_get_p2n (by decide) (by decide) rfl ?_)) ?_
  refine Bod.get dc_318_12 fr_318_254 (mk_61 _) rfl ?_
  refine Bod.eqI (nI o) (by first | assumption | rfl | exact congrArg nI (by omega) | (simp (disch := omega) only [rI, rIe, rA, rIA, rLA, rJA, rVI, rQI, rVA, rQA, upd_at,  rAI, rLI, rJI, nI_add, pk_sub, kc_0, kc_1, kc_2, kc_3, kc_4, kc_5, reduceIte, Nat.reduceEqDiff, Nat.add_zero, rI_hold, rI_hold, rL_hold, hO, hF, heq]; done)) ?_
  refine Bod.icF dc_318_15 rfl (k2_ge_F k o rfl rfl (by omega) (by omega)) ?_
  refine Bod.aldnG dc_318_18 (by repeat (first | exact h0 | exact sm_get_p1 | exact sm_get_p2e | refine sm_get_p1m (by decide) (by decide) ?_ | refine sm_get_p1n (by decide) rfl ?_ | refine sm_get_p2n (by decide) (by decide) rfl ?_)) ?_
  refine Bod.get dc_318_19 fr_318_236 (mk_61 _) rfl ?_
  refine Bod.eqI (nI F) (by first | assumption | rfl | exact congrArg nI (by omega) | (simp (disch := omega) only [rI, rIe, rA, rIA, rLA, rJA, rVI, rQI, rVA, rQA, upd_at,  rAI, rLI, rJI, nI_add, pk_sub, kc_0, kc_1, kc_2, kc_3, kc_4, kc_5, reduceIte, Nat.reduceEqDiff, Nat.add_zero, rI_hold, rI_hold, rL_hold, hO, hF, heq]; done)) ?_
  refine Bod.ifF dc_318_22 rfl (k1_le_F F rfl (by omega) (by omega)) ?_
  refine Bod.aldnG dc_318_25 (by repeat (first | exact h0 | exact sm_get_p1 | exact sm_get_p2e | refine sm_get_p1m (by decide) (by decide) ?_ | refine sm_get_p1n (by decide) rfl ?_ | refine sm_get_p2n (by decide) (by decide) rfl ?_)) ?_
  refine Bod.get dc_318_26 fr_318_365 (mk_61 _) rfl ?_
  refine Bod.ildnG dc_318_29 (by repeat (first | exact h2 | exact sm_get_p1 | exact sm_get_p2e | refine sm_get_p1m (by decide) (by decide) ?_ | refine sm_get_p1n (by decide) rfl ?_ | refine sm_get_p2n (by decide) (by decide) rfl ?_)) ?_
  refine Bod.ialdN k rfl (by omega) (by omega) dc_318_30 (mk_82 _) ?_
  refine Bod.eqI (nI r) (by first | assumption | rfl | exact congrArg nI (by omega) | (simp (disch := omega) only [rI, rIe, rA, rIA, rLA, rJA, rVI, rQI, rVA, rQA, upd_at,  rAI, rLI, rJI, nI_add, pk_sub, kc_0, kc_1, kc_2, kc_3, kc_4, kc_5, reduceIte, Nat.reduceEqDiff, Nat.add_zero, rI_hold, rI_hold, rL_hold, hO, hF, heq]; done)) ?_
  refine Bod.ildnG dc_318_31 (by repeat (first | exact h1 | exact sm_get_p1 | exact sm_get_p2e | refine sm_get_p1m (by decide) (by decide) ?_ | refine sm_get_p1n (by decide) rfl ?_ | refine sm_get_p2n (by decide) (by decide) rfl ?_)) ?_
  refine Bod.icF dc_318_32 rfl (k2_ne_F (k_eq r r rfl rfl (by omega))) ?_
  refine Bod.ic 1 (by decide) dc_318_35 ?_
  exact Bod.retZ dc_318_36 rt_318 (Or.inr rfl)
theorem ou_F {d : Nat} {S Sf : cS} {lv : sm_L} {v : Option Value} {r : Nat} {k : Nat} {o : Nat} {F : Nat} (h0 : sm_get lv 0 = some (.ref 61)) (h1 : sm_get lv 1 = some (.int (nI r))) (h2 : sm_get lv 2 = some (.int (nI k))) (hr : r < 2 ^ 20) (hO : sI S 6137 = nI o) (hoM : o ≤ 6000) (hF : sI S 6122 = nI F) (hFM : F < 16) (hke : k < o) (hF0 : 0 < F) (hne : sA S 82 k ≠ nI r) (hB : ∀ lv1 : sm_L, sm_get lv1 0 = some (.ref 61) → sm_get lv1 1 = some (.int (nI r)) → sm_get lv1 2 = some (.int (nI (k + 1))) → Bod d 318 10 lv1 [] (S) v Sf) : Bod d 318 10 lv [] S v Sf := by
  refine Bod.ildnG dc_318_10 (by repeat (first | exact h2 | exact sm_get_p1 | exact sm_get_p2e | refine sm_get_p1m (by decide) (by decide) ?_ | refine sm_get_p1n (by decide) rfl ?_ | refine sm_get_p2n (by decide) (by decide) rfl ?_)) ?_
  refine Bod.aldnG dc_318_11 (by repeat (first | exact h0 | exact sm_get_p1 | exact sm_get_p2e | refine sm_get_p1m (by decide) (by decide) ?_ | refine sm_get_p1n (by decide) rfl ?_ | refine sm_get_p2n (by decide) (by decide) rfl ?_)) ?_
  refine Bod.get dc_318_12 fr_318_254 (mk_61 _) rfl ?_
  refine Bod.eqI (nI o) (by first | assumption | rfl | exact congrArg nI (by omega) | (simp (disch := omega) only [rI, rIe, rA, rIA, rLA, rJA, rVI, rQI, rVA, rQA, upd_at,  rAI, rLI, rJI, nI_add, pk_sub, kc_0, kc_1, kc_2, kc_3, kc_4, kc_5, reduceIte, Nat.reduceEqDiff, Nat.add_zero, rI_hold, rI_hold, rL_hold, hO, hF]; done)) ?_
  refine Bod.icF dc_318_15 rfl (k2_ge_F k o rfl rfl (by omega) (by omega)) ?_
  refine Bod.aldnG dc_318_18 (by repeat (first | exact h0 | exact sm_get_p1 | exact sm_get_p2e | refine sm_get_p1m (by decide) (by decide) ?_ | refine sm_get_p1n (by decide) rfl ?_ | refine sm_get_p2n (by decide) (by decide) rfl ?_)) ?_
  refine Bod.get dc_318_19 fr_318_236 (mk_61 _) rfl ?_
  refine Bod.eqI (nI F) (by first | assumption | rfl | exact congrArg nI (by omega) | (simp (disch := omega) only [rI, rIe, rA, rIA, rLA, rJA, rVI, rQI, rVA, rQA, upd_at,  rAI, rLI, rJI, nI_add, pk_sub, kc_0, kc_1, kc_2, kc_3, kc_4, kc_5, reduceIte, Nat.reduceEqDiff, Nat.add_zero, rI_hold, rI_hold, rL_hold, hO, hF]; done)) ?_
  refine Bod.ifF dc_318_22 rfl (k1_le_F F rfl (by omega) (by omega)) ?_
  refine Bod.aldnG dc_318_25 (by repeat (first | exact h0 | exact sm_get_p1 | exact sm_get_p2e | refine sm_get_p1m (by decide) (by decide) ?_ | refine sm_get_p1n (by decide) rfl ?_ | refine sm_get_p2n (by decide) (by decide) rfl ?_)) ?_
  refine Bod.get dc_318_26 fr_318_365 (mk_61 _) rfl ?_
  refine Bod.ildnG dc_318_29 (by repeat (first | exact h2 | exact sm_get_p1 | exact sm_get_p2e | refine sm_get_p1m (by decide) (by decide) ?_ | refine sm_get_p1n (by decide) rfl ?_ | refine sm_get_p2n (by decide) (by decide) rfl ?_)) ?_
  refine Bod.ialdN k rfl (by omega) (by omega) dc_318_30 (mk_82 _) ?_
  refine Bod.ildnG dc_318_31 (by repeat (first | exact h1 | exact sm_get_p1 | exact sm_get_p2e | refine sm_get_p1m (by decide) (by decide) ?_ | refine sm_get_p1n (by decide) rfl ?_ | refine sm_get_p2n (by decide) (by decide) rfl ?_)) ?_
  refine Bod.icT dc_318_32 rfl (k2_ne_T hne) ?_
  refine Bod.incN (k + 1) (by rw [kc_1, nI_add]) dc_318_37 (by rw [ml_318]; exact Nat.le_of_ble_eq_true rfl) (by repeat (first | exact h2 | exact sm_get_p1 | exact sm_get_p2e | refine sm_get_p1m (by decide) (by decide) ?_ | refine sm_get_p1n (by decide) rfl ?_ | refine sm_get_p2n (by decide) (by decide) rfl ?_)) ?_
  refine Bod.go dc_318_40 rfl ?_
  exact hB _ (by repeat (first | exact h0 | exact sm_get_p1 | exact sm_get_p2e | refine sm_get_p1m (by decide) (by decide) ?_ | refine sm_get_p1n (by decide) rfl ?_ | refine sm_get_p2n (by decide) (by decide) rfl ?_)) (by repeat (first | exact h1 | exact sm_get_p1 | exact sm_get_p2e | refine sm_get_p1m (by decide) (by decide) ?_ | refine sm_get_p1n (by decide) rfl ?_ | refine sm_get_p2n (by decide) (by decide) rfl ?_)) (by repeat (first | exact h2 | exact sm_get_p1 | exact sm_get_p2e | refine sm_get_p1m (by decide) (by decide) ?_ | refine sm_get_p1n (by decide) rfl ?_ | refine sm_get_p2n (by decide) (by decide) rfl ?_))
theorem ou_go {d r a F : Nat} {S Sf : cS} {v : Option Value} (hr : r < 2 ^ 20) (hFM : F < 16) (haM : a ≤ 6000) (hF : sI S 6122 = nI F) (hal : sA S 83 F = nI a) (hB : ∀ lv1 : sm_L, sm_get lv1 0 = some (.ref 61) → sm_get lv1 1 = some (.int (nI r)) → sm_get lv1 2 = some (.int (nI a)) → Bod d 318 10 lv1 [] S v Sf) : Ans (d + 1) 318 [.ref 61, .int (nI r)] S v Sf := by
  refine Ans.of (by rw [ml_318]; exact Nat.le_of_ble_eq_true rfl) ?_
  refine Bod.go dc_318_0 rfl ?_
  refine Bod.get dc_318_1 fr_318_362 (mk_61 _) rfl ?_
  refine Bod.go dc_318_4 rfl ?_
  refine Bod.get dc_318_5 fr_318_236 (mk_61 _) rfl ?_
  refine Bod.eqI (nI F) (by first | assumption | rfl | exact congrArg nI (by omega) | (simp (disch := omega) only [rI, rIe, rA, rIA, rLA, rJA, rVI, rQI, rVA, rQA, upd_at,  rAI, rLI, rJI, nI_add, pk_sub, kc_0, kc_1, kc_2, kc_3, kc_4, kc_5, reduceIte, Nat.reduceEqDiff, Nat.add_zero, rI_hold, rI_hold, rL_hold, hF, hal]; done)) ?_
  refine Bod.ialdN F rfl (by omega) (by omega) dc_318_8 (mk_83 _) ?_
  refine Bod.eqI (nI a) (by first | assumption | rfl | exact congrArg nI (by omega) | (simp (disch := omega) only [rI, rIe, rA, rIA, rLA, rJA, rVI, rQI, rVA, rQA, upd_at,  rAI, rLI, rJI, nI_add, pk_sub, kc_0, kc_1, kc_2, kc_3, kc_4, kc_5, reduceIte, Nat.reduceEqDiff, Nat.add_zero, rI_hold, rI_hold, rL_hold, hF, hal]; done)) ?_
  refine Bod.istn dc_318_9 (by rw [ml_318]; exact Nat.le_of_ble_eq_true rfl) ?_
  exact hB _ (by repeat (first | exact sm_get_p1 | exact sm_get_p2e | refine sm_get_p1m (by decide) (by decide) ?_ | refine sm_get_p1n (by decide) rfl ?_ | refine sm_get_p2n (by decide) (by decide) rfl ?_ | rfl)) (by repeat (first | exact sm_get_p1 | exact sm_get_p2e | refine sm_get_p1m (by decide) (by decide) ?_ | refine sm_get_p1n (by decide) rfl ?_ | refine sm_get_p2n (by decide) (by decide) rfl ?_ | rfl)) (by repeat (first | exact sm_get_p1 | exact sm_get_p2e | refine sm_get_p1m (by decide) (by decide) ?_ | refine sm_get_p1n (by decide) rfl ?_ | refine sm_get_p2n (by decide) (by decide) rfl ?_ | rfl))
/-- the first place from k on, f at most, where x stands -/
def lf (B : Nat → Int32) (x : Int32) : Nat → Nat → Option Nat
  | 0, _ => none
  | f + 1, k => if B k = x then some k else lf B x f (k + 1)
theorem lf_ge {B : Nat → Int32} {x : Int32} : ∀ (f k q : Nat), lf B x f k = some q → k ≤ q ∧ q < k + f ∧ B q = x := by
  intro f
  induction f with
  | zero => intro k q h; cases h
  | succ f ih =>
    intro k q h
    unfold lf at h
    split at h
    · rename_i h1
      injection h with h
      subst h
      exact ⟨Nat.le_refl _, by omega, h1⟩
    · obtain ⟨h1, h2, h3⟩ := ih (k + 1) q h
      exact ⟨by omega, by omega, h3⟩
def oI (a : Nat) : Option Nat → Int32
  | none => Int32.ofInt (-1)
  | some q => nI (q - a)
/-- localOf: a to e are the names of function f -/
theorem lo_loop {d f r e a : Nat} {S : cS} (hr : r < 2 ^ 20) (hf : f < 15) (heM : e ≤ 6000) (hal : sA S 75 f = nI a) : ∀ (n k : Nat) (lv : sm_L), k + n = e → a ≤ k → sm_get lv 0 = some (.ref 61) → sm_get lv 1 = some (.int (nI f)) → sm_get lv 2 = some (.int (nI r)) → sm_get lv 3 = some (.int (nI e)) → sm_get lv 4 = some (.int (nI k)) → Bod d 319 32 lv [] S (some (.int (oI a (lf (sA S 74) (nI r) n k)))) S := by
  intro n
  induction n with
  | zero =>
    intro k lv hk hak h0 h1 h2 h3 h4
    exact lo_end h0 h1 h2 h3 h4 hr hf (by omega) (by omega)
  | succ n ih =>
    intro k lv hk hak h0 h1 h2 h3 h4
    by_cases hx : sA S 74 k = nI r
    · have e1 : lf (sA S 74) (nI r) (n + 1) k = some k := if_pos hx
      rw [e1]
      exact lo_in_T h0 h1 h2 h3 h4 hr hf (by omega) heM hx hal hak
    · have e1 : lf (sA S 74) (nI r) (n + 1) k = lf (sA S 74) (nI r) n (k + 1) := if_neg hx
      rw [e1]
      exact lo_in_F h0 h1 h2 h3 h4 hr hf (by omega) heM hx (fun lv1 a0 a1 a2 a3 a4 => ih (k + 1) lv1 (by omega) (by omega) a0 a1 a2 a3 a4)
theorem localOf_T {d f r e a F : Nat} {S : cS} (hr : r < 2 ^ 20) (hf : f < 15) (hae : a ≤ e) (heM : e ≤ 6000) (hF : sI S 6122 = nI F) (hFM : F < 16) (hfF : f = F ∧ sI S 6123 = nI e ∨ f < F ∧ sA S 75 (f + 1) = nI e) (hal : sA S 75 f = nI a) : Ans (d + 1) 319 [.ref 61, .int (nI f), .int (nI r)] S (some (.int (oI a (lf (sA S 74) (nI r) (e - a) a)))) S := by
  rcases hfF with ⟨h1, h2⟩ | ⟨h1, h2⟩
  · exact lo_go1 hr hf (by omega) heM hF h1 h2 hal (fun lv1 a0 a1 a2 a3 a4 => lo_loop hr hf heM hal (e - a) a lv1 (by omega) (Nat.le_refl _) a0 a1 a2 a3 a4)
  · exact lo_go2 hr hf (by omega) heM hF h1 hFM h2 hal (fun lv1 a0 a1 a2 a3 a4 => lo_loop hr hf heM hal (e - a) a lv1 (by omega) (Nat.le_refl _) a0 a1 a2 a3 a4)
def bI (b : Bool) : Int32 := if b = true then 1 else 0
/-- isOutside: a to o are the global names of this function -/
theorem ou_loop {d r o F : Nat} {S : cS} (hr : r < 2 ^ 20) (hO : sI S 6137 = nI o) (hoM : o ≤ 6000) (hF : sI S 6122 = nI F) (hFM : F < 16) (hF0 : 0 < F) : ∀ (n k : Nat) (lv : sm_L), k + n = o → sm_get lv 0 = some (.ref 61) → sm_get lv 1 = some (.int (nI r)) → sm_get lv 2 = some (.int (nI k)) → Bod d 318 10 lv [] S (some (.int (bI (lf (sA S 82) (nI r) n k).isSome))) S := by
  intro n
  induction n with
  | zero =>
    intro k lv hk h0 h1 h2
    exact ou_end h0 h1 h2 hr hO hoM (by omega) (by omega)
  | succ n ih =>
    intro k lv hk h0 h1 h2
    by_cases hx : sA S 82 k = nI r
    · have e1 : lf (sA S 82) (nI r) (n + 1) k = some k := if_pos hx
      rw [e1]
      exact ou_T h0 h1 h2 hr hO hoM hF hFM (by omega) hF0 hx
    · have e1 : lf (sA S 82) (nI r) (n + 1) k = lf (sA S 82) (nI r) n (k + 1) := if_neg hx
      rw [e1]
      exact ou_F h0 h1 h2 hr hO hoM hF hFM (by omega) hF0 hx (fun lv1 a0 a1 a2 => ih (k + 1) lv1 (by omega) a0 a1 a2)
theorem isOutside_T {d r a o F : Nat} {S : cS} (hr : r < 2 ^ 20) (hO : sI S 6137 = nI o) (hao : a ≤ o) (hoM : o ≤ 6000) (hF : sI S 6122 = nI F) (hFM : F < 16) (hF0 : 0 < F) (hal : sA S 83 F = nI a) : Ans (d + 1) 318 [.ref 61, .int (nI r)] S (some (.int (bI (lf (sA S 82) (nI r) (o - a) a).isSome))) S :=
  ou_go hr hFM (by omega) hF hal (fun lv1 a0 a1 a2 => ou_loop hr hO hoM hF hFM hF0 (o - a) a lv1 (by omega) a0 a1 a2)

