/-! SETTLE of the reference: its turns -/
theorem dc_366_29 : decode (sm_cc 366) 29 = .ok (.aload_n 0, 1) := by decide +kernel
theorem dc_366_30 : decode (sm_cc 366) 30 = .ok (.getfield 456, 3) := by decide +kernel
theorem fr_366_456 : sm_at mt_f (sm_ow 366) 456 = some (456, 14, 45, 0, 2118) := by decide +kernel
theorem dc_366_33 : decode (sm_cc 366) 33 = .ok (.iload_n 2, 1) := by decide +kernel
theorem dc_366_34 : decode (sm_cc 366) 34 = .ok (.iaload, 1) := by decide +kernel
theorem dc_366_35 : decode (sm_cc 366) 35 = .ok (.ifCond .le (6), 3) := by decide +kernel
theorem dc_366_38 : decode (sm_cc 366) 38 = .ok (.goto (20), 3) := by decide +kernel
theorem dc_366_41 : decode (sm_cc 366) 41 = .ok (.aload_n 0, 1) := by decide +kernel
theorem dc_366_42 : decode (sm_cc 366) 42 = .ok (.getfield 514, 3) := by decide +kernel
theorem fr_366_514 : sm_at mt_f (sm_ow 366) 514 = some (514, 14, 46, 0, 2119) := by decide +kernel
theorem dc_366_45 : decode (sm_cc 366) 45 = .ok (.iload_n 1, 1) := by decide +kernel
theorem dc_366_46 : decode (sm_cc 366) 46 = .ok (.iload_n 2, 1) := by decide +kernel
theorem dc_366_47 : decode (sm_cc 366) 47 = .ok (.iastore, 1) := by decide +kernel
theorem dc_366_48 : decode (sm_cc 366) 48 = .ok (.iinc 1 (1), 3) := by decide +kernel
theorem dc_366_51 : decode (sm_cc 366) 51 = .ok (.aload_n 0, 1) := by decide +kernel
theorem dc_366_52 : decode (sm_cc 366) 52 = .ok (.getfield 481, 3) := by decide +kernel
theorem dc_366_55 : decode (sm_cc 366) 55 = .ok (.iload_n 2, 1) := by decide +kernel
theorem dc_366_56 : decode (sm_cc 366) 56 = .ok (.iconst 0, 1) := by decide +kernel
theorem dc_366_57 : decode (sm_cc 366) 57 = .ok (.bastore, 1) := by decide +kernel
theorem dc_366_68 : decode (sm_cc 366) 68 = .ok (.iinc 1 (-1), 3) := by decide +kernel
theorem dc_366_71 : decode (sm_cc 366) 71 = .ok (.aload_n 0, 1) := by decide +kernel
theorem dc_366_72 : decode (sm_cc 366) 72 = .ok (.getfield 485, 3) := by decide +kernel
theorem fr_366_485 : sm_at mt_f (sm_ow 366) 485 = some (485, 14, 42, 0, 2115) := by decide +kernel
theorem dc_366_75 : decode (sm_cc 366) 75 = .ok (.aload_n 0, 1) := by decide +kernel
theorem dc_366_76 : decode (sm_cc 366) 76 = .ok (.getfield 514, 3) := by decide +kernel
theorem dc_366_79 : decode (sm_cc 366) 79 = .ok (.iload_n 1, 1) := by decide +kernel
theorem dc_366_80 : decode (sm_cc 366) 80 = .ok (.iaload, 1) := by decide +kernel
theorem dc_366_81 : decode (sm_cc 366) 81 = .ok (.aaload, 1) := by decide +kernel
theorem dc_366_82 : decode (sm_cc 366) 82 = .ok (.astore_n 2, 1) := by decide +kernel
theorem dc_366_83 : decode (sm_cc 366) 83 = .ok (.aload_n 0, 1) := by decide +kernel
theorem dc_366_84 : decode (sm_cc 366) 84 = .ok (.aload_n 2, 1) := by decide +kernel
theorem dc_366_85 : decode (sm_cc 366) 85 = .ok (.iconst (-1), 1) := by decide +kernel
theorem dc_366_86 : decode (sm_cc 366) 86 = .ok (.invokevirtual 489, 3) := by decide +kernel
theorem kr_366_489 : sm_at mt_k (sm_ow 366) 489 = some (489, 0, 370, 0, 2749) := by decide +kernel
theorem dc_366_89 : decode (sm_cc 366) 89 = .ok (.aload_n 0, 1) := by decide +kernel
theorem dc_366_90 : decode (sm_cc 366) 90 = .ok (.aload_n 2, 1) := by decide +kernel
theorem dc_366_91 : decode (sm_cc 366) 91 = .ok (.iload_n 1, 1) := by decide +kernel
theorem dc_366_92 : decode (sm_cc 366) 92 = .ok (.invokevirtual 517, 3) := by decide +kernel
theorem ow_372 : 14 = sm_ow 372 := by decide +kernel
theorem kr_366_517 : sm_at mt_k (sm_ow 366) 517 = some (517, 0, 372, 0, 2757) := by decide +kernel
theorem np_372 : sm_np 372 = 2 := by decide +kernel
theorem dc_366_95 : decode (sm_cc 366) 95 = .ok (.istore_n 1, 1) := by decide +kernel
theorem dc_366_96 : decode (sm_cc 366) 96 = .ok (.goto (-32), 3) := by decide +kernel
theorem st_in {d : Nat} {S S1 S2 Sf : cS} (hCN : Ans (d + 3) 367 [.ref 61] S none S1) (hCW : Ans (d + 3) 371 [.ref 61, .int (nI 1)] S1 none S2) (hn : Bod (d + 3) 366 13 (sm_p1 (sm_p1 (lv_args 0 [.ref 61]) 1 (.int (nI 0))) 2 (.int (nI 0))) [] S2 none Sf) : Ans (d + 4) 366 [.ref 61] S none Sf := by
  refine Ans.of (by rw [ml_366]; exact Nat.le_of_ble_eq_true rfl) ?_
  refine Bod.go dc_366_0 rfl ?_
  refine Bod.virt (r := []) dc_366_1 kr_366_508 ⟨Or.inl rfl, ow_367, cl_14⟩ (by rw [np_367]; rfl) (by rw [np_367]; rfl) (ob_of (mk_61 _)) (Nat.le_of_ble_eq_true rfl) (hCN  ) ?_
  show Bod _ _ _ _ [] _ _ _
  refine Bod.go dc_366_4 rfl ?_
  refine Bod.ic 1 (by decide) dc_366_5 ?_
  refine Bod.virt (r := []) dc_366_6 kr_366_511 ⟨Or.inl rfl, ow_371, cl_14⟩ (by rw [np_371]; rfl) (by rw [np_371]; rfl) (ob_of (mk_61 _)) (Nat.le_of_ble_eq_true rfl) (hCW  ) ?_
  show Bod _ _ _ _ [] _ _ _
  refine Bod.ic 0 (by decide) dc_366_9 ?_
  refine Bod.istn dc_366_10 (by rw [ml_366]; exact Nat.le_of_ble_eq_true rfl) ?_
  refine Bod.ic 0 (by decide) dc_366_11 ?_
  refine Bod.istn dc_366_12 (by rw [ml_366]; exact Nat.le_of_ble_eq_true rfl) ?_
  exact hn
theorem st_dead {d m k : Nat} {S Sf : cS} (hk : k < 1500) (he : sA S 87 k = 0) (hn : Bod (d + 3) 366 13 (sm_p1 (sm_p1 (lv_args 0 [.ref 61]) 1 (.int (nI m))) 2 (.int (nI (k + 1)))) [] (S) none Sf) : Bod (d + 3) 366 13 (sm_p1 (sm_p1 (lv_args 0 [.ref 61]) 1 (.int (nI m))) 2 (.int (nI k))) [] S none Sf := by
  refine Bod.go dc_366_13 rfl ?_
  refine Bod.sip 1500 (by decide) dc_366_14 ?_
  refine Bod.icF dc_366_17 rfl (k2_ge_F k 1500 rfl rfl (by omega) (by omega)) ?_
  refine Bod.go dc_366_20 rfl ?_
  refine Bod.get dc_366_21 fr_366_481 (mk_61 _) rfl ?_
  refine Bod.go dc_366_24 rfl ?_
  refine Bod.baldN k rfl (by omega) (by omega) dc_366_25 (mk_87 _) (Or.inr rfl) ?_
  refine Bod.ifT dc_366_26 rfl (k1_eq_T he) ?_
  refine Bod.incN (k + 1) (by rw [kc_1, nI_add]) dc_366_58 (by rw [ml_366]; exact Nat.le_of_ble_eq_true rfl) rfl ?_
  refine Bod.go dc_366_61 rfl ?_
  exact Bod.lv (sm_p1_p1 _ 2 _ _) hn
theorem st_held {d m k : Nat} {S Sf : cS} (hk : k < 1500) (he : sA S 87 k ≠ 0) (hg : 0 < sA S 89 k) (hn : Bod (d + 3) 366 13 (sm_p1 (sm_p1 (lv_args 0 [.ref 61]) 1 (.int (nI m))) 2 (.int (nI (k + 1)))) [] (S) none Sf) : Bod (d + 3) 366 13 (sm_p1 (sm_p1 (lv_args 0 [.ref 61]) 1 (.int (nI m))) 2 (.int (nI k))) [] S none Sf := by
  refine Bod.go dc_366_13 rfl ?_
  refine Bod.sip 1500 (by decide) dc_366_14 ?_
  refine Bod.icF dc_366_17 rfl (k2_ge_F k 1500 rfl rfl (by omega) (by omega)) ?_
  refine Bod.go dc_366_20 rfl ?_
  refine Bod.get dc_366_21 fr_366_481 (mk_61 _) rfl ?_
  refine Bod.go dc_366_24 rfl ?_
  refine Bod.baldN k rfl (by omega) (by omega) dc_366_25 (mk_87 _) (Or.inr rfl) ?_
  refine Bod.ifF dc_366_26 rfl (k1_eq_F he) ?_
  refine Bod.go dc_366_29 rfl ?_
  refine Bod.get dc_366_30 fr_366_456 (mk_61 _) rfl ?_
  refine Bod.go dc_366_33 rfl ?_
  refine Bod.ialdN k rfl (by omega) (by omega) dc_366_34 (mk_89 _) ?_
  refine Bod.ifF dc_366_35 rfl (if_neg (by rw [Int32.not_le]; exact hg)) ?_
  refine Bod.go dc_366_38 rfl ?_
  refine Bod.incN (k + 1) (by rw [kc_1, nI_add]) dc_366_58 (by rw [ml_366]; exact Nat.le_of_ble_eq_true rfl) rfl ?_
  refine Bod.go dc_366_61 rfl ?_
  exact Bod.lv (sm_p1_p1 _ 2 _ _) hn
theorem st_go {d m k : Nat} {S Sf : cS} (hk : k < 1500) (hm : m < 1500) (he : sA S 87 k ≠ 0) (hg : ¬ 0 < sA S 89 k) (hn : Bod (d + 3) 366 13 (sm_p1 (sm_p1 (lv_args 0 [.ref 61]) 1 (.int (nI (m + 1)))) 2 (.int (nI (k + 1)))) [] (wA 87 k (vp_nar .boolean (nI 0)) (wA 90 m (nI k) S)) none Sf) : Bod (d + 3) 366 13 (sm_p1 (sm_p1 (lv_args 0 [.ref 61]) 1 (.int (nI m))) 2 (.int (nI k))) [] S none Sf := by
  refine Bod.go dc_366_13 rfl ?_
  refine Bod.sip 1500 (by decide) dc_366_14 ?_
  refine Bod.icF dc_366_17 rfl (k2_ge_F k 1500 rfl rfl (by omega) (by omega)) ?_
  refine Bod.go dc_366_20 rfl ?_
  refine Bod.get dc_366_21 fr_366_481 (mk_61 _) rfl ?_
  refine Bod.go dc_366_24 rfl ?_
  refine Bod.baldN k rfl (by omega) (by omega) dc_366_25 (mk_87 _) (Or.inr rfl) ?_
  refine Bod.ifF dc_366_26 rfl (k1_eq_F he) ?_
  refine Bod.go dc_366_29 rfl ?_
  refine Bod.get dc_366_30 fr_366_456 (mk_61 _) rfl ?_
  refine Bod.go dc_366_33 rfl ?_
  refine Bod.ialdN k rfl (by omega) (by omega) dc_366_34 (mk_89 _) ?_
  refine Bod.ifT dc_366_35 rfl (if_pos (Int32.not_lt.mp hg)) ?_
  refine Bod.go dc_366_41 rfl ?_
  refine Bod.get dc_366_42 fr_366_514 (mk_61 _) rfl ?_
  refine Bod.go dc_366_45 rfl ?_
  refine Bod.go dc_366_46 rfl ?_
  refine Bod.iastN m rfl (by omega) (by omega) dc_366_47 (mk_90 _) (sa_90 _ _ _) (mu_A _ _ _ _) ?_
  refine Bod.incN (m + 1) (by rw [kc_1, nI_add]) dc_366_48 (by rw [ml_366]; exact Nat.le_of_ble_eq_true rfl) rfl ?_
  refine Bod.go dc_366_51 rfl ?_
  refine Bod.get dc_366_52 fr_366_481 (mk_61 _) rfl ?_
  refine Bod.go dc_366_55 rfl ?_
  refine Bod.ic 0 (by decide) dc_366_56 ?_
  refine Bod.zastN k rfl (by omega) (by omega) dc_366_57 (mk_87 _) (sa_87 _ _ _) (mu_A _ _ _ _) ?_
  refine Bod.incN (k + 1) (by rw [kc_1, nI_add]) dc_366_58 (by rw [ml_366]; exact Nat.le_of_ble_eq_true rfl) rfl ?_
  refine Bod.go dc_366_61 rfl ?_
  exact Bod.lv (sm_p1_4 (p := 1) (q := 2) (by decide) _ rfl rfl) hn
theorem st_mid {d m k : Nat} {S Sf : cS} (hk : k = 1500) (hn : Bod (d + 3) 366 64 (sm_p1 (sm_p1 (lv_args 0 [.ref 61]) 1 (.int (nI m))) 2 (.int (nI k))) [] S none Sf) : Bod (d + 3) 366 13 (sm_p1 (sm_p1 (lv_args 0 [.ref 61]) 1 (.int (nI m))) 2 (.int (nI k))) [] S none Sf := by
  refine Bod.go dc_366_13 rfl ?_
  refine Bod.sip 1500 (by decide) dc_366_14 ?_
  refine Bod.icT dc_366_17 rfl (k2_ge_T k 1500 rfl rfl (by omega) (by omega)) ?_
  exact hn
theorem st_turnA {d m m1 k t x N : Nat} {S S1 S2 Sf : cS} (hm : m < 1500) (hk : sA S 90 m = nI k) (hk2 : k < 1500) (hq : sQ S 86 k = some t) (ht : 108 ≤ t) (hs : (sS S)[t - 108]? = some (13, N)) (hH : Ans (d + 3) 370 [.ref 61, .ref t, .int (Int32.ofInt (-1))] S none S1) (hD : Ans (d + 3) 372 [.ref 61, .ref t, .int (nI m)] S1 (some (.int (nI m1))) S2) (hn : Bod (d + 3) 366 64 (sm_p1 (sm_p1 (lv_args 0 [.ref 61]) 2 (.ref t)) 1 (.int (nI m1))) [] S2 none Sf) : Bod (d + 3) 366 64 (sm_p1 (sm_p1 (lv_args 0 [.ref 61]) 1 (.int (nI (m + 1)))) 2 (.int (nI x))) [] S none Sf := by
  refine Bod.go dc_366_64 rfl ?_
  refine Bod.ifF dc_366_65 rfl (k1_le_F (m + 1) rfl (by omega) (by omega)) ?_
  refine Bod.incN m nI_dec dc_366_68 (by rw [ml_366]; exact Nat.le_of_ble_eq_true rfl) rfl ?_
  refine Bod.go dc_366_71 rfl ?_
  refine Bod.get dc_366_72 fr_366_485 (mk_61 _) rfl ?_
  refine Bod.go dc_366_75 rfl ?_
  refine Bod.get dc_366_76 fr_366_514 (mk_61 _) rfl ?_
  refine Bod.go dc_366_79 rfl ?_
  refine Bod.ialdN m rfl (by omega) (by omega) dc_366_80 (mk_90 _) ?_
  refine Bod.eqI (nI k) (by first | assumption | rfl | exact congrArg nI (by omega) | (simp (disch := omega) only [rI, rIe, rA, rIA, rLA, rJA, rVI, rQI, rVA, rQA, upd_at,  rAI, rLI, rJI, nI_add, pk_sub, kc_0, kc_1, kc_2, kc_3, kc_4, kc_5, reduceIte, Nat.reduceEqDiff, Nat.add_zero, rI_hold, rI_hold, rL_hold, hk]; done)) ?_
  refine Bod.aaldR (N := 1500) (b := t) k rfl (by omega) (by omega) hq dc_366_81 (mk_86 _) ht_5 ?_
  refine Bod.astn dc_366_82 (by rw [ml_366]; exact Nat.le_of_ble_eq_true rfl) ?_
  refine Bod.go dc_366_83 rfl ?_
  refine Bod.go dc_366_84 rfl ?_
  refine Bod.go dc_366_85 rfl ?_
  refine Bod.virt (r := []) dc_366_86 kr_366_489 ⟨Or.inl rfl, ow_370, cl_14⟩ (by rw [np_370]; rfl) (by rw [np_370]; rfl) (ob_of (mk_61 _)) (Nat.le_of_ble_eq_true rfl) (hH  ) ?_
  show Bod _ _ _ _ [] _ _ _
  refine Bod.go dc_366_89 rfl ?_
  refine Bod.go dc_366_90 rfl ?_
  refine Bod.go dc_366_91 rfl ?_
  refine Bod.virt (r := []) dc_366_92 kr_366_517 ⟨Or.inl rfl, ow_372, cl_14⟩ (by rw [np_372]; rfl) (by rw [np_372]; rfl) (ob_of (mk_61 _)) (Nat.le_of_ble_eq_true rfl) (hD  ) ?_
  show Bod _ _ _ _ [_] _ _ _
  refine Bod.istn dc_366_95 (by rw [ml_366]; exact Nat.le_of_ble_eq_true rfl) ?_
  refine Bod.go dc_366_96 rfl ?_
  exact Bod.lv ((congrArg (fun l => sm_p1 l 1 (.int (nI m1))) (sm_p1_4 (p := 1) (q := 2) (by decide) _ rfl rfl)).trans (sm_p1_3 (p := 2) (q := 1) (by decide) _ rfl)) hn
theorem st_outA {d x : Nat} {S : cS} : Bod (d + 3) 366 64 (sm_p1 (sm_p1 (lv_args 0 [.ref 61]) 1 (.int (nI (0)))) 2 (.int (nI x))) [] S none S := by
  refine Bod.go dc_366_64 rfl ?_
  refine Bod.ifT dc_366_65 rfl (k1_le_T (k_eq 0 0 (by first | assumption | rfl | exact congrArg nI (by omega) | (simp (disch := omega) only [rI, rIe, rA, rIA, rLA, rJA, rVI, rQI, rVA, rQA, upd_at,  rAI, rLI, rJI, nI_add, pk_sub, kc_0, kc_1, kc_2, kc_3, kc_4, kc_5, reduceIte, Nat.reduceEqDiff, Nat.add_zero, rI_hold, rI_hold, rL_hold]; done)) rfl (by omega))) ?_
  exact Bod.retV dc_366_99 rt_366
theorem st_turnB {d m m1 k t x N : Nat} {S S1 S2 Sf : cS} (hm : m < 1500) (hk : sA S 90 m = nI k) (hk2 : k < 1500) (hq : sQ S 86 k = some t) (ht : 108 ≤ t) (hs : (sS S)[t - 108]? = some (13, N)) (hH : Ans (d + 3) 370 [.ref 61, .ref t, .int (Int32.ofInt (-1))] S none S1) (hD : Ans (d + 3) 372 [.ref 61, .ref t, .int (nI m)] S1 (some (.int (nI m1))) S2) (hn : Bod (d + 3) 366 64 (sm_p1 (sm_p1 (lv_args 0 [.ref 61]) 2 (.ref t)) 1 (.int (nI m1))) [] S2 none Sf) : Bod (d + 3) 366 64 (sm_p1 (sm_p1 (lv_args 0 [.ref 61]) 2 (.ref x)) 1 (.int (nI (m + 1)))) [] S none Sf := by
  refine Bod.go dc_366_64 rfl ?_
  refine Bod.ifF dc_366_65 rfl (k1_le_F (m + 1) rfl (by omega) (by omega)) ?_
  refine Bod.incN m nI_dec dc_366_68 (by rw [ml_366]; exact Nat.le_of_ble_eq_true rfl) rfl ?_
  refine Bod.go dc_366_71 rfl ?_
  refine Bod.get dc_366_72 fr_366_485 (mk_61 _) rfl ?_
  refine Bod.go dc_366_75 rfl ?_
  refine Bod.get dc_366_76 fr_366_514 (mk_61 _) rfl ?_
  refine Bod.go dc_366_79 rfl ?_
  refine Bod.ialdN m rfl (by omega) (by omega) dc_366_80 (mk_90 _) ?_
  refine Bod.eqI (nI k) (by first | assumption | rfl | exact congrArg nI (by omega) | (simp (disch := omega) only [rI, rIe, rA, rIA, rLA, rJA, rVI, rQI, rVA, rQA, upd_at,  rAI, rLI, rJI, nI_add, pk_sub, kc_0, kc_1, kc_2, kc_3, kc_4, kc_5, reduceIte, Nat.reduceEqDiff, Nat.add_zero, rI_hold, rI_hold, rL_hold, hk]; done)) ?_
  refine Bod.aaldR (N := 1500) (b := t) k rfl (by omega) (by omega) hq dc_366_81 (mk_86 _) ht_5 ?_
  refine Bod.astn dc_366_82 (by rw [ml_366]; exact Nat.le_of_ble_eq_true rfl) ?_
  refine Bod.go dc_366_83 rfl ?_
  refine Bod.go dc_366_84 rfl ?_
  refine Bod.go dc_366_85 rfl ?_
  refine Bod.virt (r := []) dc_366_86 kr_366_489 ⟨Or.inl rfl, ow_370, cl_14⟩ (by rw [np_370]; rfl) (by rw [np_370]; rfl) (ob_of (mk_61 _)) (Nat.le_of_ble_eq_true rfl) (hH  ) ?_
  show Bod _ _ _ _ [] _ _ _
  refine Bod.go dc_366_89 rfl ?_
  refine Bod.go dc_366_90 rfl ?_
  refine Bod.go dc_366_91 rfl ?_
  refine Bod.virt (r := []) dc_366_92 kr_366_517 ⟨Or.inl rfl, ow_372, cl_14⟩ (by rw [np_372]; rfl) (by rw [np_372]; rfl) (ob_of (mk_61 _)) (Nat.le_of_ble_eq_true rfl) (hD  ) ?_
  show Bod _ _ _ _ [_] _ _ _
  refine Bod.istn dc_366_95 (by rw [ml_366]; exact Nat.le_of_ble_eq_true rfl) ?_
  refine Bod.go dc_366_96 rfl ?_
  exact Bod.lv ((congrArg (fun l => sm_p1 (sm_p1 l 2 (.ref t)) 1 (.int (nI m1))) (sm_p1_p1 _ 1 _ _)).trans (sm_p1_4 (p := 2) (q := 1) (by decide) _ rfl rfl)) hn
theorem st_outB {d x : Nat} {S : cS} : Bod (d + 3) 366 64 (sm_p1 (sm_p1 (lv_args 0 [.ref 61]) 2 (.ref x)) 1 (.int (nI (0)))) [] S none S := by
  refine Bod.go dc_366_64 rfl ?_
  refine Bod.ifT dc_366_65 rfl (k1_le_T (k_eq 0 0 (by first | assumption | rfl | exact congrArg nI (by omega) | (simp (disch := omega) only [rI, rIe, rA, rIA, rLA, rJA, rVI, rQI, rVA, rQA, upd_at,  rAI, rLI, rJI, nI_add, pk_sub, kc_0, kc_1, kc_2, kc_3, kc_4, kc_5, reduceIte, Nat.reduceEqDiff, Nat.add_zero, rI_hold, rI_hold, rL_hold]; done)) rfl (by omega))) ?_
  exact Bod.retV dc_366_99 rt_366
