/-! A LONE NAME on the tape -/
theorem dc_279_0 : decode (sm_cc 279) 0 = .ok (.aload_n 0, 1) := by decide +kernel
theorem dc_279_1 : decode (sm_cc 279) 1 = .ok (.iload_n 1, 1) := by decide +kernel
theorem dc_279_2 : decode (sm_cc 279) 2 = .ok (.putfield 19, 3) := by decide +kernel
theorem fr_279_19 : sm_at mt_f (sm_ow 279) 19 = some (19, 3, 2, 0, 592) := by decide +kernel
theorem dc_279_5 : decode (sm_cc 279) 5 = .ok (.aload_n 0, 1) := by decide +kernel
theorem dc_279_6 : decode (sm_cc 279) 6 = .ok (.iconst 0, 1) := by decide +kernel
theorem dc_279_7 : decode (sm_cc 279) 7 = .ok (.putfield 23, 3) := by decide +kernel
theorem fr_279_23 : sm_at mt_f (sm_ow 279) 23 = some (23, 3, 3, 0, 593) := by decide +kernel
theorem dc_279_10 : decode (sm_cc 279) 10 = .ok (.aload_n 0, 1) := by decide +kernel
theorem dc_279_11 : decode (sm_cc 279) 11 = .ok (.iconst 0, 1) := by decide +kernel
theorem dc_279_12 : decode (sm_cc 279) 12 = .ok (.putfield 60, 3) := by decide +kernel
theorem fr_279_60 : sm_at mt_f (sm_ow 279) 60 = some (60, 3, 4, 0, 595) := by decide +kernel
theorem dc_279_15 : decode (sm_cc 279) 15 = .ok (.aload_n 0, 1) := by decide +kernel
theorem dc_279_16 : decode (sm_cc 279) 16 = .ok (.iconst 2, 1) := by decide +kernel
theorem dc_279_17 : decode (sm_cc 279) 17 = .ok (.putfield 38, 3) := by decide +kernel
theorem fr_279_38 : sm_at mt_f (sm_ow 279) 38 = some (38, 3, 5, 0, 597) := by decide +kernel
theorem dc_279_20 : decode (sm_cc 279) 20 = .ok (.iload_n 1, 1) := by decide +kernel
theorem dc_279_21 : decode (sm_cc 279) 21 = .ok (.bipush (12), 2) := by decide +kernel
theorem dc_279_23 : decode (sm_cc 279) 23 = .ok (.if_icmp .gt (14), 3) := by decide +kernel
theorem dc_279_37 : decode (sm_cc 279) 37 = .ok (.iconst (-1), 1) := by decide +kernel
theorem dc_279_38 : decode (sm_cc 279) 38 = .ok (.ireturn, 1) := by decide +kernel
theorem rt_279 : sm_rt 279 = some .int := by decide +kernel
theorem ml_279 : sm_ml 279 = 2 := by decide +kernel
theorem dc_279_26 : decode (sm_cc 279) 26 = .ok (.aload_n 0, 1) := by decide +kernel
theorem dc_279_27 : decode (sm_cc 279) 27 = .ok (.iconst 0, 1) := by decide +kernel
theorem dc_279_28 : decode (sm_cc 279) 28 = .ok (.invokevirtual 50, 3) := by decide +kernel
theorem kr_279_50 : sm_at mt_k (sm_ow 279) 50 = some (50, 0, 38, 0, 969) := by decide +kernel
theorem dc_279_31 : decode (sm_cc 279) 31 = .ok (.invokestatic 63, 3) := by decide +kernel
theorem kr_279_63 : sm_at mt_k (sm_ow 279) 63 = some (63, 3, 41, 1, 981) := by decide +kernel
theorem dc_279_34 : decode (sm_cc 279) 34 = .ok (.ifCond .ne (5), 3) := by decide +kernel
theorem dc_279_39 : decode (sm_cc 279) 39 = .ok (.aload_n 0, 1) := by decide +kernel
theorem dc_279_40 : decode (sm_cc 279) 40 = .ok (.invokevirtual 67, 3) := by decide +kernel
theorem kr_279_67 : sm_at mt_k (sm_ow 279) 67 = some (67, 0, 42, 0, 984) := by decide +kernel
theorem dc_279_43 : decode (sm_cc 279) 43 = .ok (.aload_n 0, 1) := by decide +kernel
theorem dc_279_44 : decode (sm_cc 279) 44 = .ok (.getfield 38, 3) := by decide +kernel
theorem dc_279_47 : decode (sm_cc 279) 47 = .ok (.iconst 3, 1) := by decide +kernel
theorem dc_279_48 : decode (sm_cc 279) 48 = .ok (.if_icmp .ne (21), 3) := by decide +kernel
theorem dc_279_51 : decode (sm_cc 279) 51 = .ok (.aload_n 0, 1) := by decide +kernel
theorem dc_279_52 : decode (sm_cc 279) 52 = .ok (.getfield 23, 3) := by decide +kernel
theorem dc_279_55 : decode (sm_cc 279) 55 = .ok (.aload_n 0, 1) := by decide +kernel
theorem dc_279_56 : decode (sm_cc 279) 56 = .ok (.getfield 19, 3) := by decide +kernel
theorem dc_279_59 : decode (sm_cc 279) 59 = .ok (.if_icmp .ne (10), 3) := by decide +kernel
theorem dc_279_62 : decode (sm_cc 279) 62 = .ok (.aload_n 0, 1) := by decide +kernel
theorem dc_279_63 : decode (sm_cc 279) 63 = .ok (.getfield 99, 3) := by decide +kernel
theorem fr_279_99 : sm_at mt_f (sm_ow 279) 99 = some (99, 3, 9, 0, 605) := by decide +kernel
theorem dc_279_66 : decode (sm_cc 279) 66 = .ok (.goto (4), 3) := by decide +kernel
theorem dc_279_70 : decode (sm_cc 279) 70 = .ok (.ireturn, 1) := by decide +kernel
theorem dc_279_69 : decode (sm_cc 279) 69 = .ok (.iconst (-1), 1) := by decide +kernel
theorem dc_278_0 : decode (sm_cc 278) 0 = .ok (.aload_n 0, 1) := by decide +kernel
theorem dc_278_1 : decode (sm_cc 278) 1 = .ok (.getfield 81, 3) := by decide +kernel
theorem fr_278_81 : sm_at mt_f (sm_ow 278) 81 = some (81, 11, 7, 0, 904) := by decide +kernel
theorem dc_278_4 : decode (sm_cc 278) 4 = .ok (.istore_n 1, 1) := by decide +kernel
theorem ml_278 : sm_ml 278 = 2 := by decide +kernel
theorem dc_278_5 : decode (sm_cc 278) 5 = .ok (.aload_n 0, 1) := by decide +kernel
theorem dc_278_6 : decode (sm_cc 278) 6 = .ok (.iconst 0, 1) := by decide +kernel
theorem dc_278_7 : decode (sm_cc 278) 7 = .ok (.putfield 81, 3) := by decide +kernel
theorem dc_278_10 : decode (sm_cc 278) 10 = .ok (.aload_n 0, 1) := by decide +kernel
theorem dc_278_11 : decode (sm_cc 278) 11 = .ok (.getfield 37, 3) := by decide +kernel
theorem fr_278_37 : sm_at mt_f (sm_ow 278) 37 = some (37, 11, 3, 0, 900) := by decide +kernel
theorem dc_278_14 : decode (sm_cc 278) 14 = .ok (.iload_n 1, 1) := by decide +kernel
theorem dc_278_15 : decode (sm_cc 278) 15 = .ok (.invokevirtual 163, 3) := by decide +kernel
theorem ow_279 : 3 = sm_ow 279 := by decide +kernel
theorem kr_278_163 : sm_at mt_k (sm_ow 278) 163 = some (163, 1, 279, 1, 2049) := by decide +kernel
theorem np_279 : sm_np 279 = 1 := by decide +kernel
theorem dc_278_18 : decode (sm_cc 278) 18 = .ok (.ireturn, 1) := by decide +kernel
theorem rt_278 : sm_rt 278 = some .int := by decide +kernel
/-- the class's state when a lone name is read: n bytes, from the first on -/
def c_only (n : Nat) (S : cS) : cS := wI 3105 (nI 2) (wI 3104 (nI 0) (wI 3103 (nI 0) (wI 3102 (nI n) S)))
theorem onlyName_long {d : Nat} {S : cS} {n : Nat} (h : 12 < n) (hM : n ≤ 3000) : Ans (d + 1) 279 [.ref 31, .int (nI n)] S (some (.int (Int32.ofInt (-1)))) (wI 3105 (nI 2) (wI 3104 (nI 0) (wI 3103 (nI 0) (wI 3102 (nI n) S)))) := by
  refine Ans.of (by rw [ml_279]; exact Nat.le_of_ble_eq_true rfl) ?_
  refine Bod.go dc_279_0 rfl ?_
  refine Bod.go dc_279_1 rfl ?_
  refine Bod.put dc_279_2 fr_279_19 (mk_31 _) (Nat.le_of_ble_eq_true rfl) pf_3_2 (st_3102 _ _) (mu_I _ _ _) ?_
  refine Bod.go dc_279_5 rfl ?_
  refine Bod.ic 0 (by decide) dc_279_6 ?_
  refine Bod.put dc_279_7 fr_279_23 (mk_31 _) (Nat.le_of_ble_eq_true rfl) pf_3_3 (st_3103 _ _) (mu_I _ _ _) ?_
  refine Bod.go dc_279_10 rfl ?_
  refine Bod.ic 0 (by decide) dc_279_11 ?_
  refine Bod.put dc_279_12 fr_279_60 (mk_31 _) (Nat.le_of_ble_eq_true rfl) pf_3_4 (st_3104 _ _) (mu_I _ _ _) ?_
  refine Bod.go dc_279_15 rfl ?_
  refine Bod.ic 2 (by decide) dc_279_16 ?_
  refine Bod.put dc_279_17 fr_279_38 (mk_31 _) (Nat.le_of_ble_eq_true rfl) pf_3_5 (st_3105 _ _) (mu_I _ _ _) ?_
  refine Bod.go dc_279_20 rfl ?_
  refine Bod.bip 12 (by decide) dc_279_21 ?_
  refine Bod.icT dc_279_23 rfl (k2_gt_T n 12 rfl rfl (by omega) (by omega)) ?_
  refine Bod.go dc_279_37 rfl ?_
  exact Bod.retI dc_279_38 rt_279
theorem isLetter_m1 {d : Nat} {S : cS}   : Ans (d + 1) 41 [.int (Int32.ofInt (-1))] S (some (.int 0)) (S) := by
  refine Ans.of (by rw [ml_41]; exact Nat.le_of_ble_eq_true rfl) ?_
  refine Bod.go dc_41_0 rfl ?_
  refine Bod.bip 97 (by decide) dc_41_1 ?_
  refine Bod.icT dc_41_3 rfl (by decide) ?_
  refine Bod.go dc_41_12 rfl ?_
  refine Bod.bip 65 (by decide) dc_41_13 ?_
  refine Bod.icT dc_41_15 rfl (by decide) ?_
  refine Bod.go dc_41_24 rfl ?_
  refine Bod.bip 95 (by decide) dc_41_25 ?_
  refine Bod.icT dc_41_27 rfl (by decide) ?_
  refine Bod.ic 0 (by decide) dc_41_34 ?_
  exact Bod.retZ dc_41_35 rt_41 (Or.inl rfl)
theorem onlyName_none {d : Nat} {S : cS}   : Ans (d + 2) 279 [.ref 31, .int (nI 0)] S (some (.int (Int32.ofInt (-1)))) (wI 3105 (nI 2) (wI 3104 (nI 0) (wI 3103 (nI 0) (wI 3102 (nI 0) S)))) := by
  refine Ans.of (by rw [ml_279]; exact Nat.le_of_ble_eq_true rfl) ?_
  refine Bod.go dc_279_0 rfl ?_
  refine Bod.go dc_279_1 rfl ?_
  refine Bod.put dc_279_2 fr_279_19 (mk_31 _) (Nat.le_of_ble_eq_true rfl) pf_3_2 (st_3102 _ _) (mu_I _ _ _) ?_
  refine Bod.go dc_279_5 rfl ?_
  refine Bod.ic 0 (by decide) dc_279_6 ?_
  refine Bod.put dc_279_7 fr_279_23 (mk_31 _) (Nat.le_of_ble_eq_true rfl) pf_3_3 (st_3103 _ _) (mu_I _ _ _) ?_
  refine Bod.go dc_279_10 rfl ?_
  refine Bod.ic 0 (by decide) dc_279_11 ?_
  refine Bod.put dc_279_12 fr_279_60 (mk_31 _) (Nat.le_of_ble_eq_true rfl) pf_3_4 (st_3104 _ _) (mu_I _ _ _) ?_
  refine Bod.go dc_279_15 rfl ?_
  refine Bod.ic 2 (by decide) dc_279_16 ?_
  refine Bod.put dc_279_17 fr_279_38 (mk_31 _) (Nat.le_of_ble_eq_true rfl) pf_3_5 (st_3105 _ _) (mu_I _ _ _) ?_
  refine Bod.go dc_279_20 rfl ?_
  refine Bod.bip 12 (by decide) dc_279_21 ?_
  refine Bod.icF dc_279_23 rfl (k2_gt_F 0 12 rfl rfl (by omega) (by omega)) ?_
  refine Bod.go dc_279_26 rfl ?_
  refine Bod.ic 0 (by decide) dc_279_27 ?_
  refine Bod.virt (r := []) dc_279_28 kr_279_50 ⟨Or.inl rfl, ow_38, cl_3⟩ (by rw [np_38]; rfl) (by rw [np_38]; rfl) (ob_of (mk_31 _)) (Nat.le_of_ble_eq_true rfl) (byteAt_F (n := 0) (q := 0) (by first | (simp (disch := omega) only [rI, rIe, rA, rIA, rLA, rJA, rVI, rQI, rVA, rQA, upd_at,  rAI, rLI, rJI, nI_add, pk_sub, kc_0, kc_1, kc_2, kc_3, kc_4, kc_5, reduceIte, Nat.reduceEqDiff, Nat.add_zero, rI_hold, rI_hold, rL_hold]; done) | (simp (disch := omega) only [rI, rIe, rA, rIA, rLA, rJA, rVI, rQI, rVA, rQA, upd_at,  rAI, rLI, rJI, nI_add, pk_sub, kc_0, kc_1, kc_2, kc_3, kc_4, kc_5, reduceIte, Nat.reduceEqDiff, Nat.add_zero, rI_hold, rI_hold, rL_hold]; exact congrArg nI (by omega))) (by omega) (by omega)) ?_
  show Bod _ _ _ _ [_] _ _ _
  refine Bod.stat (r := []) dc_279_31 kr_279_63 (Or.inr rfl) (by rw [np_41]; rfl) (by rw [np_41]; rfl) (by rw [np_41]; exact Nat.le_of_ble_eq_true rfl) (Nat.le_of_ble_eq_true rfl) (isLetter_m1  ) ?_
  show Bod _ _ _ _ [_] _ _ _
  refine Bod.ifF dc_279_34 rfl (k1_ne_F (k_eq 0 0 rfl rfl (by omega))) ?_
  refine Bod.go dc_279_37 rfl ?_
  exact Bod.retI dc_279_38 rt_279
theorem onlyName_no {d : Nat} {S : cS} {n : Nat} {b : Nat} (h1 : 1 ≤ n) (h2 : n ≤ 12) (hb : c_byte S 0 = b) (hb2 : b < 256) (hl : c_let b = false) : Ans (d + 2) 279 [.ref 31, .int (nI n)] S (some (.int (Int32.ofInt (-1)))) (wI 3105 (nI 2) (wI 3104 (nI 0) (wI 3103 (nI 0) (wI 3102 (nI n) S)))) := by
  refine Ans.of (by rw [ml_279]; exact Nat.le_of_ble_eq_true rfl) ?_
  refine Bod.go dc_279_0 rfl ?_
  refine Bod.go dc_279_1 rfl ?_
  refine Bod.put dc_279_2 fr_279_19 (mk_31 _) (Nat.le_of_ble_eq_true rfl) pf_3_2 (st_3102 _ _) (mu_I _ _ _) ?_
  refine Bod.go dc_279_5 rfl ?_
  refine Bod.ic 0 (by decide) dc_279_6 ?_
  refine Bod.put dc_279_7 fr_279_23 (mk_31 _) (Nat.le_of_ble_eq_true rfl) pf_3_3 (st_3103 _ _) (mu_I _ _ _) ?_
  refine Bod.go dc_279_10 rfl ?_
  refine Bod.ic 0 (by decide) dc_279_11 ?_
  refine Bod.put dc_279_12 fr_279_60 (mk_31 _) (Nat.le_of_ble_eq_true rfl) pf_3_4 (st_3104 _ _) (mu_I _ _ _) ?_
  refine Bod.go dc_279_15 rfl ?_
  refine Bod.ic 2 (by decide) dc_279_16 ?_
  refine Bod.put dc_279_17 fr_279_38 (mk_31 _) (Nat.le_of_ble_eq_true rfl) pf_3_5 (st_3105 _ _) (mu_I _ _ _) ?_
  refine Bod.go dc_279_20 rfl ?_
  refine Bod.bip 12 (by decide) dc_279_21 ?_
  refine Bod.icF dc_279_23 rfl (k2_gt_F n 12 rfl rfl (by omega) (by omega)) ?_
  refine Bod.go dc_279_26 rfl ?_
  refine Bod.ic 0 (by decide) dc_279_27 ?_
  refine Bod.virt (r := []) dc_279_28 kr_279_50 ⟨Or.inl rfl, ow_38, cl_3⟩ (by rw [np_38]; rfl) (by rw [np_38]; rfl) (ob_of (mk_31 _)) (Nat.le_of_ble_eq_true rfl) (byteAt_n (n := n) (q := 0) (b := b) (by first | (simp (disch := omega) only [rI, rIe, rA, rIA, rLA, rJA, rVI, rQI, rVA, rQA, upd_at,  rAI, rLI, rJI, nI_add, pk_sub, kc_0, kc_1, kc_2, kc_3, kc_4, kc_5, reduceIte, Nat.reduceEqDiff, Nat.add_zero, rI_hold, rI_hold, rL_hold]; done) | (simp (disch := omega) only [rI, rIe, rA, rIA, rLA, rJA, rVI, rQI, rVA, rQA, upd_at,  rAI, rLI, rJI, nI_add, pk_sub, kc_0, kc_1, kc_2, kc_3, kc_4, kc_5, reduceIte, Nat.reduceEqDiff, Nat.add_zero, rI_hold, rI_hold, rL_hold]; exact congrArg nI (by omega))) (by omega) (by omega) hb) ?_
  show Bod _ _ _ _ [_] _ _ _
  refine Bod.stat (r := []) dc_279_31 kr_279_63 (Or.inr rfl) (by rw [np_41]; rfl) (by rw [np_41]; rfl) (by rw [np_41]; exact Nat.le_of_ble_eq_true rfl) (Nat.le_of_ble_eq_true rfl) (isLetter_F (b := b) (by omega) hl) ?_
  show Bod _ _ _ _ [_] _ _ _
  refine Bod.ifF dc_279_34 rfl (k1_ne_F (k_eq 0 0 rfl rfl (by omega))) ?_
  refine Bod.go dc_279_37 rfl ?_
  exact Bod.retI dc_279_38 rt_279
theorem onlyName_yes {d : Nat} {S : cS} {n : Nat} {b : Nat} {q : Nat} {S1 : cS} (h1 : 1 ≤ n) (h2 : n ≤ 12) (hb : c_byte S 0 = b) (hb2 : b < 256) (hl : c_let b = true) (hR : Ans (d + 3) 42 [.ref 31] (c_only n S) none S1) (h5 : sI S1 3105 = nI 3) (h3 : sI S1 3103 = nI n) (h6 : sI S1 3102 = nI n) (h9 : sI S1 3109 = nI q) : Ans (d + 4) 279 [.ref 31, .int (nI n)] S (some (.int (nI q))) (S1) := by
  refine Ans.of (by rw [ml_279]; exact Nat.le_of_ble_eq_true rfl) ?_
  refine Bod.go dc_279_0 rfl ?_
  refine Bod.go dc_279_1 rfl ?_
  refine Bod.put dc_279_2 fr_279_19 (mk_31 _) (Nat.le_of_ble_eq_true rfl) pf_3_2 (st_3102 _ _) (mu_I _ _ _) ?_
  refine Bod.go dc_279_5 rfl ?_
  refine Bod.ic 0 (by decide) dc_279_6 ?_
  refine Bod.put dc_279_7 fr_279_23 (mk_31 _) (Nat.le_of_ble_eq_true rfl) pf_3_3 (st_3103 _ _) (mu_I _ _ _) ?_
  refine Bod.go dc_279_10 rfl ?_
  refine Bod.ic 0 (by decide) dc_279_11 ?_
  refine Bod.put dc_279_12 fr_279_60 (mk_31 _) (Nat.le_of_ble_eq_true rfl) pf_3_4 (st_3104 _ _) (mu_I _ _ _) ?_
  refine Bod.go dc_279_15 rfl ?_
  refine Bod.ic 2 (by decide) dc_279_16 ?_
  refine Bod.put dc_279_17 fr_279_38 (mk_31 _) (Nat.le_of_ble_eq_true rfl) pf_3_5 (st_3105 _ _) (mu_I _ _ _) ?_
  refine Bod.go dc_279_20 rfl ?_
  refine Bod.bip 12 (by decide) dc_279_21 ?_
  refine Bod.icF dc_279_23 rfl (k2_gt_F n 12 rfl rfl (by omega) (by omega)) ?_
  refine Bod.go dc_279_26 rfl ?_
  refine Bod.ic 0 (by decide) dc_279_27 ?_
  refine Bod.virt (r := []) dc_279_28 kr_279_50 ⟨Or.inl rfl, ow_38, cl_3⟩ (by rw [np_38]; rfl) (by rw [np_38]; rfl) (ob_of (mk_31 _)) (Nat.le_of_ble_eq_true rfl) (byteAt_n (n := n) (q := 0) (b := b) (by first | (simp (disch := omega) only [rI, rIe, rA, rIA, rLA, rJA, rVI, rQI, rVA, rQA, upd_at,  rAI, rLI, rJI, nI_add, pk_sub, kc_0, kc_1, kc_2, kc_3, kc_4, kc_5, reduceIte, Nat.reduceEqDiff, Nat.add_zero, rI_hold, rI_hold, rL_hold, h5, h3, h6, h9]; done) | (simp (disch := omega) only [rI, rIe, rA, rIA, rLA, rJA, rVI, rQI, rVA, rQA, upd_at,  rAI, rLI, rJI, nI_add, pk_sub, kc_0, kc_1, kc_2, kc_3, kc_4, kc_5, reduceIte, Nat.reduceEqDiff, Nat.add_zero, rI_hold, rI_hold, rL_hold, h5, h3, h6, h9]; exact congrArg nI (by omega))) (by omega) (by omega) hb) ?_
  show Bod _ _ _ _ [_] _ _ _
  refine Bod.stat (r := []) dc_279_31 kr_279_63 (Or.inr rfl) (by rw [np_41]; rfl) (by rw [np_41]; rfl) (by rw [np_41]; exact Nat.le_of_ble_eq_true rfl) (Nat.le_of_ble_eq_true rfl) (isLetter_T (b := b) hl) ?_
  show Bod _ _ _ _ [_] _ _ _
  refine Bod.ifT dc_279_34 rfl (k1_ne_T (k_ne 1 0 rfl rfl (by omega) (by omega) (by omega))) ?_
  refine Bod.go dc_279_39 rfl ?_
  refine Bod.virt (r := []) dc_279_40 kr_279_67 ⟨Or.inl rfl, ow_42, cl_3⟩ (by rw [np_42]; rfl) (by rw [np_42]; rfl) (ob_of (mk_31 _)) (Nat.le_of_ble_eq_true rfl) (hR  ) ?_
  show Bod _ _ _ _ [] _ _ _
  refine Bod.go dc_279_43 rfl ?_
  refine Bod.get dc_279_44 fr_279_38 (mk_31 _) rfl ?_
  refine Bod.eqI (nI 3) (by first | (simp (disch := omega) only [rI, rIe, rA, rIA, rLA, rJA, rVI, rQI, rVA, rQA, upd_at,  rAI, rLI, rJI, nI_add, pk_sub, kc_0, kc_1, kc_2, kc_3, kc_4, kc_5, reduceIte, Nat.reduceEqDiff, Nat.add_zero, rI_hold, rI_hold, rL_hold, h5, h3, h6, h9]; done) | (simp (disch := omega) only [rI, rIe, rA, rIA, rLA, rJA, rVI, rQI, rVA, rQA, upd_at,  rAI, rLI, rJI, nI_add, pk_sub, kc_0, kc_1, kc_2, kc_3, kc_4, kc_5, reduceIte, Nat.reduceEqDiff, Nat.add_zero, rI_hold, rI_hold, rL_hold, h5, h3, h6, h9]; exact congrArg nI (by omega))) ?_
  refine Bod.ic 3 (by decide) dc_279_47 ?_
  refine Bod.icF dc_279_48 rfl (k2_ne_F (k_eq 3 3 rfl rfl (by omega))) ?_
  refine Bod.go dc_279_51 rfl ?_
  refine Bod.get dc_279_52 fr_279_23 (mk_31 _) rfl ?_
  refine Bod.eqI (nI n) (by first | (simp (disch := omega) only [rI, rIe, rA, rIA, rLA, rJA, rVI, rQI, rVA, rQA, upd_at,  rAI, rLI, rJI, nI_add, pk_sub, kc_0, kc_1, kc_2, kc_3, kc_4, kc_5, reduceIte, Nat.reduceEqDiff, Nat.add_zero, rI_hold, rI_hold, rL_hold, h5, h3, h6, h9]; done) | (simp (disch := omega) only [rI, rIe, rA, rIA, rLA, rJA, rVI, rQI, rVA, rQA, upd_at,  rAI, rLI, rJI, nI_add, pk_sub, kc_0, kc_1, kc_2, kc_3, kc_4, kc_5, reduceIte, Nat.reduceEqDiff, Nat.add_zero, rI_hold, rI_hold, rL_hold, h5, h3, h6, h9]; exact congrArg nI (by omega))) ?_
  refine Bod.go dc_279_55 rfl ?_
  refine Bod.get dc_279_56 fr_279_19 (mk_31 _) rfl ?_
  refine Bod.eqI (nI n) (by first | (simp (disch := omega) only [rI, rIe, rA, rIA, rLA, rJA, rVI, rQI, rVA, rQA, upd_at,  rAI, rLI, rJI, nI_add, pk_sub, kc_0, kc_1, kc_2, kc_3, kc_4, kc_5, reduceIte, Nat.reduceEqDiff, Nat.add_zero, rI_hold, rI_hold, rL_hold, h5, h3, h6, h9]; done) | (simp (disch := omega) only [rI, rIe, rA, rIA, rLA, rJA, rVI, rQI, rVA, rQA, upd_at,  rAI, rLI, rJI, nI_add, pk_sub, kc_0, kc_1, kc_2, kc_3, kc_4, kc_5, reduceIte, Nat.reduceEqDiff, Nat.add_zero, rI_hold, rI_hold, rL_hold, h5, h3, h6, h9]; exact congrArg nI (by omega))) ?_
  refine Bod.icF dc_279_59 rfl (k2_ne_F (k_eq n n rfl rfl (by omega))) ?_
  refine Bod.go dc_279_62 rfl ?_
  refine Bod.get dc_279_63 fr_279_99 (mk_31 _) rfl ?_
  refine Bod.eqI (nI q) (by first | (simp (disch := omega) only [rI, rIe, rA, rIA, rLA, rJA, rVI, rQI, rVA, rQA, upd_at,  rAI, rLI, rJI, nI_add, pk_sub, kc_0, kc_1, kc_2, kc_3, kc_4, kc_5, reduceIte, Nat.reduceEqDiff, Nat.add_zero, rI_hold, rI_hold, rL_hold, h5, h3, h6, h9]; done) | (simp (disch := omega) only [rI, rIe, rA, rIA, rLA, rJA, rVI, rQI, rVA, rQA, upd_at,  rAI, rLI, rJI, nI_add, pk_sub, kc_0, kc_1, kc_2, kc_3, kc_4, kc_5, reduceIte, Nat.reduceEqDiff, Nat.add_zero, rI_hold, rI_hold, rL_hold, h5, h3, h6, h9]; exact congrArg nI (by omega))) ?_
  refine Bod.go dc_279_66 rfl ?_
  exact Bod.retI dc_279_70 rt_279
theorem onlyName_word {d : Nat} {S : cS} {n : Nat} {b : Nat} {q : Nat} {S1 : cS} (h1 : 1 ≤ n) (h2 : n ≤ 12) (hb : c_byte S 0 = b) (hb2 : b < 256) (hl : c_let b = true) (hR : Ans (d + 3) 42 [.ref 31] (c_only n S) none S1) (h5 : sI S1 3105 = nI q) (hq : q ≠ 3) (hq2 : q < 100) : Ans (d + 4) 279 [.ref 31, .int (nI n)] S (some (.int (Int32.ofInt (-1)))) (S1) := by
  refine Ans.of (by rw [ml_279]; exact Nat.le_of_ble_eq_true rfl) ?_
  refine Bod.go dc_279_0 rfl ?_
  refine Bod.go dc_279_1 rfl ?_
  refine Bod.put dc_279_2 fr_279_19 (mk_31 _) (Nat.le_of_ble_eq_true rfl) pf_3_2 (st_3102 _ _) (mu_I _ _ _) ?_
  refine Bod.go dc_279_5 rfl ?_
  refine Bod.ic 0 (by decide) dc_279_6 ?_
  refine Bod.put dc_279_7 fr_279_23 (mk_31 _) (Nat.le_of_ble_eq_true rfl) pf_3_3 (st_3103 _ _) (mu_I _ _ _) ?_
  refine Bod.go dc_279_10 rfl ?_
  refine Bod.ic 0 (by decide) dc_279_11 ?_
  refine Bod.put dc_279_12 fr_279_60 (mk_31 _) (Nat.le_of_ble_eq_true rfl) pf_3_4 (st_3104 _ _) (mu_I _ _ _) ?_
  refine Bod.go dc_279_15 rfl ?_
  refine Bod.ic 2 (by decide) dc_279_16 ?_
  refine Bod.put dc_279_17 fr_279_38 (mk_31 _) (Nat.le_of_ble_eq_true rfl) pf_3_5 (st_3105 _ _) (mu_I _ _ _) ?_
  refine Bod.go dc_279_20 rfl ?_
  refine Bod.bip 12 (by decide) dc_279_21 ?_
  refine Bod.icF dc_279_23 rfl (k2_gt_F n 12 rfl rfl (by omega) (by omega)) ?_
  refine Bod.go dc_279_26 rfl ?_
  refine Bod.ic 0 (by decide) dc_279_27 ?_
  refine Bod.virt (r := []) dc_279_28 kr_279_50 ⟨Or.inl rfl, ow_38, cl_3⟩ (by rw [np_38]; rfl) (by rw [np_38]; rfl) (ob_of (mk_31 _)) (Nat.le_of_ble_eq_true rfl) (byteAt_n (n := n) (q := 0) (b := b) (by first | (simp (disch := omega) only [rI, rIe, rA, rIA, rLA, rJA, rVI, rQI, rVA, rQA, upd_at,  rAI, rLI, rJI, nI_add, pk_sub, kc_0, kc_1, kc_2, kc_3, kc_4, kc_5, reduceIte, Nat.reduceEqDiff, Nat.add_zero, rI_hold, rI_hold, rL_hold, h5]; done) | (simp (disch := omega) only [rI, rIe, rA, rIA, rLA, rJA, rVI, rQI, rVA, rQA, upd_at,  rAI, rLI, rJI, nI_add, pk_sub, kc_0, kc_1, kc_2, kc_3, kc_4, kc_5, reduceIte, Nat.reduceEqDiff, Nat.add_zero, rI_hold, rI_hold, rL_hold, h5]; exact congrArg nI (by omega))) (by omega) (by omega) hb) ?_
  show Bod _ _ _ _ [_] _ _ _
  refine Bod.stat (r := []) dc_279_31 kr_279_63 (Or.inr rfl) (by rw [np_41]; rfl) (by rw [np_41]; rfl) (by rw [np_41]; exact Nat.le_of_ble_eq_true rfl) (Nat.le_of_ble_eq_true rfl) (isLetter_T (b := b) hl) ?_
  show Bod _ _ _ _ [_] _ _ _
  refine Bod.ifT dc_279_34 rfl (k1_ne_T (k_ne 1 0 rfl rfl (by omega) (by omega) (by omega))) ?_
  refine Bod.go dc_279_39 rfl ?_
  refine Bod.virt (r := []) dc_279_40 kr_279_67 ⟨Or.inl rfl, ow_42, cl_3⟩ (by rw [np_42]; rfl) (by rw [np_42]; rfl) (ob_of (mk_31 _)) (Nat.le_of_ble_eq_true rfl) (hR  ) ?_
  show Bod _ _ _ _ [] _ _ _
  refine Bod.go dc_279_43 rfl ?_
  refine Bod.get dc_279_44 fr_279_38 (mk_31 _) rfl ?_
  refine Bod.eqI (nI q) (by first | (simp (disch := omega) only [rI, rIe, rA, rIA, rLA, rJA, rVI, rQI, rVA, rQA, upd_at,  rAI, rLI, rJI, nI_add, pk_sub, kc_0, kc_1, kc_2, kc_3, kc_4, kc_5, reduceIte, Nat.reduceEqDiff, Nat.add_zero, rI_hold, rI_hold, rL_hold, h5]; done) | (simp (disch := omega) only [rI, rIe, rA, rIA, rLA, rJA, rVI, rQI, rVA, rQA, upd_at,  rAI, rLI, rJI, nI_add, pk_sub, kc_0, kc_1, kc_2, kc_3, kc_4, kc_5, reduceIte, Nat.reduceEqDiff, Nat.add_zero, rI_hold, rI_hold, rL_hold, h5]; exact congrArg nI (by omega))) ?_
  refine Bod.ic 3 (by decide) dc_279_47 ?_
  refine Bod.icT dc_279_48 rfl (k2_ne_T (k_ne q 3 rfl rfl (by omega) (by omega) (by omega))) ?_
  refine Bod.go dc_279_69 rfl ?_
  exact Bod.retI dc_279_70 rt_279
theorem onlyName_part {d : Nat} {S : cS} {n : Nat} {b : Nat} {q : Nat} {S1 : cS} (h1 : 1 ≤ n) (h2 : n ≤ 12) (hb : c_byte S 0 = b) (hb2 : b < 256) (hl : c_let b = true) (hR : Ans (d + 3) 42 [.ref 31] (c_only n S) none S1) (h5 : sI S1 3105 = nI 3) (h3 : sI S1 3103 = nI q) (h6 : sI S1 3102 = nI n) (hq : q < n) : Ans (d + 4) 279 [.ref 31, .int (nI n)] S (some (.int (Int32.ofInt (-1)))) (S1) := by
  refine Ans.of (by rw [ml_279]; exact Nat.le_of_ble_eq_true rfl) ?_
  refine Bod.go dc_279_0 rfl ?_
  refine Bod.go dc_279_1 rfl ?_
  refine Bod.put dc_279_2 fr_279_19 (mk_31 _) (Nat.le_of_ble_eq_true rfl) pf_3_2 (st_3102 _ _) (mu_I _ _ _) ?_
  refine Bod.go dc_279_5 rfl ?_
  refine Bod.ic 0 (by decide) dc_279_6 ?_
  refine Bod.put dc_279_7 fr_279_23 (mk_31 _) (Nat.le_of_ble_eq_true rfl) pf_3_3 (st_3103 _ _) (mu_I _ _ _) ?_
  refine Bod.go dc_279_10 rfl ?_
  refine Bod.ic 0 (by decide) dc_279_11 ?_
  refine Bod.put dc_279_12 fr_279_60 (mk_31 _) (Nat.le_of_ble_eq_true rfl) pf_3_4 (st_3104 _ _) (mu_I _ _ _) ?_
  refine Bod.go dc_279_15 rfl ?_
  refine Bod.ic 2 (by decide) dc_279_16 ?_
  refine Bod.put dc_279_17 fr_279_38 (mk_31 _) (Nat.le_of_ble_eq_true rfl) pf_3_5 (st_3105 _ _) (mu_I _ _ _) ?_
  refine Bod.go dc_279_20 rfl ?_
  refine Bod.bip 12 (by decide) dc_279_21 ?_
  refine Bod.icF dc_279_23 rfl (k2_gt_F n 12 rfl rfl (by omega) (by omega)) ?_
  refine Bod.go dc_279_26 rfl ?_
  refine Bod.ic 0 (by decide) dc_279_27 ?_
  refine Bod.virt (r := []) dc_279_28 kr_279_50 ⟨Or.inl rfl, ow_38, cl_3⟩ (by rw [np_38]; rfl) (by rw [np_38]; rfl) (ob_of (mk_31 _)) (Nat.le_of_ble_eq_true rfl) (byteAt_n (n := n) (q := 0) (b := b) (by first | (simp (disch := omega) only [rI, rIe, rA, rIA, rLA, rJA, rVI, rQI, rVA, rQA, upd_at,  rAI, rLI, rJI, nI_add, pk_sub, kc_0, kc_1, kc_2, kc_3, kc_4, kc_5, reduceIte, Nat.reduceEqDiff, Nat.add_zero, rI_hold, rI_hold, rL_hold, h5, h3, h6]; done) | (simp (disch := omega) only [rI, rIe, rA, rIA, rLA, rJA, rVI, rQI, rVA, rQA, upd_at,  rAI, rLI, rJI, nI_add, pk_sub, kc_0, kc_1, kc_2, kc_3, kc_4, kc_5, reduceIte, Nat.reduceEqDiff, Nat.add_zero, rI_hold, rI_hold, rL_hold, h5, h3, h6]; exact congrArg nI (by omega))) (by omega) (by omega) hb) ?_
  show Bod _ _ _ _ [_] _ _ _
  refine Bod.stat (r := []) dc_279_31 kr_279_63 (Or.inr rfl) (by rw [np_41]; rfl) (by rw [np_41]; rfl) (by rw [np_41]; exact Nat.le_of_ble_eq_true rfl) (Nat.le_of_ble_eq_true rfl) (isLetter_T (b := b) hl) ?_
  show Bod _ _ _ _ [_] _ _ _
  refine Bod.ifT dc_279_34 rfl (k1_ne_T (k_ne 1 0 rfl rfl (by omega) (by omega) (by omega))) ?_
  refine Bod.go dc_279_39 rfl ?_
  refine Bod.virt (r := []) dc_279_40 kr_279_67 ⟨Or.inl rfl, ow_42, cl_3⟩ (by rw [np_42]; rfl) (by rw [np_42]; rfl) (ob_of (mk_31 _)) (Nat.le_of_ble_eq_true rfl) (hR  ) ?_
  show Bod _ _ _ _ [] _ _ _
  refine Bod.go dc_279_43 rfl ?_
  refine Bod.get dc_279_44 fr_279_38 (mk_31 _) rfl ?_
  refine Bod.eqI (nI 3) (by first | (simp (disch := omega) only [rI, rIe, rA, rIA, rLA, rJA, rVI, rQI, rVA, rQA, upd_at,  rAI, rLI, rJI, nI_add, pk_sub, kc_0, kc_1, kc_2, kc_3, kc_4, kc_5, reduceIte, Nat.reduceEqDiff, Nat.add_zero, rI_hold, rI_hold, rL_hold, h5, h3, h6]; done) | (simp (disch := omega) only [rI, rIe, rA, rIA, rLA, rJA, rVI, rQI, rVA, rQA, upd_at,  rAI, rLI, rJI, nI_add, pk_sub, kc_0, kc_1, kc_2, kc_3, kc_4, kc_5, reduceIte, Nat.reduceEqDiff, Nat.add_zero, rI_hold, rI_hold, rL_hold, h5, h3, h6]; exact congrArg nI (by omega))) ?_
  refine Bod.ic 3 (by decide) dc_279_47 ?_
  refine Bod.icF dc_279_48 rfl (k2_ne_F (k_eq 3 3 rfl rfl (by omega))) ?_
  refine Bod.go dc_279_51 rfl ?_
  refine Bod.get dc_279_52 fr_279_23 (mk_31 _) rfl ?_
  refine Bod.eqI (nI q) (by first | (simp (disch := omega) only [rI, rIe, rA, rIA, rLA, rJA, rVI, rQI, rVA, rQA, upd_at,  rAI, rLI, rJI, nI_add, pk_sub, kc_0, kc_1, kc_2, kc_3, kc_4, kc_5, reduceIte, Nat.reduceEqDiff, Nat.add_zero, rI_hold, rI_hold, rL_hold, h5, h3, h6]; done) | (simp (disch := omega) only [rI, rIe, rA, rIA, rLA, rJA, rVI, rQI, rVA, rQA, upd_at,  rAI, rLI, rJI, nI_add, pk_sub, kc_0, kc_1, kc_2, kc_3, kc_4, kc_5, reduceIte, Nat.reduceEqDiff, Nat.add_zero, rI_hold, rI_hold, rL_hold, h5, h3, h6]; exact congrArg nI (by omega))) ?_
  refine Bod.go dc_279_55 rfl ?_
  refine Bod.get dc_279_56 fr_279_19 (mk_31 _) rfl ?_
  refine Bod.eqI (nI n) (by first | (simp (disch := omega) only [rI, rIe, rA, rIA, rLA, rJA, rVI, rQI, rVA, rQA, upd_at,  rAI, rLI, rJI, nI_add, pk_sub, kc_0, kc_1, kc_2, kc_3, kc_4, kc_5, reduceIte, Nat.reduceEqDiff, Nat.add_zero, rI_hold, rI_hold, rL_hold, h5, h3, h6]; done) | (simp (disch := omega) only [rI, rIe, rA, rIA, rLA, rJA, rVI, rQI, rVA, rQA, upd_at,  rAI, rLI, rJI, nI_add, pk_sub, kc_0, kc_1, kc_2, kc_3, kc_4, kc_5, reduceIte, Nat.reduceEqDiff, Nat.add_zero, rI_hold, rI_hold, rL_hold, h5, h3, h6]; exact congrArg nI (by omega))) ?_
  refine Bod.icT dc_279_59 rfl (k2_ne_T (k_ne q n rfl rfl (by omega) (by omega) (by omega))) ?_
  refine Bod.go dc_279_69 rfl ?_
  exact Bod.retI dc_279_70 rt_279
theorem tapeName_is {d : Nat} {S : cS} {n : Nat} {q : Nat} {S1 : cS} (hn : sI S 7 = nI n) (hR : Ans (d + 4) 279 [.ref 31, .int (nI n)] (wI 7 (nI 0) S) (some (.int (nI q))) S1) : Ans (d + 5) 278 [.ref 0] S (some (.int (nI q))) (S1) := by
  refine Ans.of (by rw [ml_278]; exact Nat.le_of_ble_eq_true rfl) ?_
  refine Bod.go dc_278_0 rfl ?_
  refine Bod.get dc_278_1 fr_278_81 (mk_0 _) rfl ?_
  refine Bod.eqI (nI n) (by first | assumption | rfl | exact congrArg nI (by omega) | (simp (disch := omega) only [rI, rIe, rA, rIA, rLA, rJA, rVI, rQI, rVA, rQA, upd_at,  rAI, rLI, rJI, nI_add, pk_sub, kc_0, kc_1, kc_2, kc_3, kc_4, kc_5, reduceIte, Nat.reduceEqDiff, Nat.add_zero, rI_hold, rI_hold, rL_hold, hn]; done)) ?_
  refine Bod.istn dc_278_4 (by rw [ml_278]; exact Nat.le_of_ble_eq_true rfl) ?_
  refine Bod.go dc_278_5 rfl ?_
  refine Bod.ic 0 (by decide) dc_278_6 ?_
  refine Bod.put dc_278_7 fr_278_81 (mk_0 _) (Nat.le_of_ble_eq_true rfl) pf_11_7 (st_7 _ _) (mu_I _ _ _) ?_
  refine Bod.go dc_278_10 rfl ?_
  refine Bod.get dc_278_11 fr_278_37 (mk_0 _) rfl ?_
  refine Bod.go dc_278_14 rfl ?_
  refine Bod.virt (r := []) dc_278_15 kr_278_163 ⟨Or.inr rfl, ow_279, cl_3⟩ (by rw [np_279]; rfl) (by rw [np_279]; rfl) (ob_of (mk_31 _)) (Nat.le_of_ble_eq_true rfl) (hR  ) ?_
  show Bod _ _ _ _ [_] _ _ _
  exact Bod.retI dc_278_18 rt_278
theorem tapeName_no {d : Nat} {S : cS} {n : Nat} {S1 : cS} (hn : sI S 7 = nI n) (hR : Ans (d + 4) 279 [.ref 31, .int (nI n)] (wI 7 (nI 0) S) (some (.int (Int32.ofInt (-1)))) S1) : Ans (d + 5) 278 [.ref 0] S (some (.int (Int32.ofInt (-1)))) (S1) := by
  refine Ans.of (by rw [ml_278]; exact Nat.le_of_ble_eq_true rfl) ?_
  refine Bod.go dc_278_0 rfl ?_
  refine Bod.get dc_278_1 fr_278_81 (mk_0 _) rfl ?_
  refine Bod.eqI (nI n) (by first | assumption | rfl | exact congrArg nI (by omega) | (simp (disch := omega) only [rI, rIe, rA, rIA, rLA, rJA, rVI, rQI, rVA, rQA, upd_at,  rAI, rLI, rJI, nI_add, pk_sub, kc_0, kc_1, kc_2, kc_3, kc_4, kc_5, reduceIte, Nat.reduceEqDiff, Nat.add_zero, rI_hold, rI_hold, rL_hold, hn]; done)) ?_
  refine Bod.istn dc_278_4 (by rw [ml_278]; exact Nat.le_of_ble_eq_true rfl) ?_
  refine Bod.go dc_278_5 rfl ?_
  refine Bod.ic 0 (by decide) dc_278_6 ?_
  refine Bod.put dc_278_7 fr_278_81 (mk_0 _) (Nat.le_of_ble_eq_true rfl) pf_11_7 (st_7 _ _) (mu_I _ _ _) ?_
  refine Bod.go dc_278_10 rfl ?_
  refine Bod.get dc_278_11 fr_278_37 (mk_0 _) rfl ?_
  refine Bod.go dc_278_14 rfl ?_
  refine Bod.virt (r := []) dc_278_15 kr_278_163 ⟨Or.inr rfl, ow_279, cl_3⟩ (by rw [np_279]; rfl) (by rw [np_279]; rfl) (ob_of (mk_31 _)) (Nat.le_of_ble_eq_true rfl) (hR  ) ?_
  show Bod _ _ _ _ [_] _ _ _
  exact Bod.retI dc_278_18 rt_278
