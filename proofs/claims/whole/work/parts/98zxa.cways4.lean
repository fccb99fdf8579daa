/-! WAYS of the class's rules of statements where a name may be any int -/

theorem c2_eq_T {x y : Int32} (h : x = y) : sm_c2 .eq x y true false = true := if_pos h
theorem c2_eq_F {x y : Int32} (h : x ≠ y) : sm_c2 .eq x y true false = false := if_neg h
theorem c2_ne_T {x y : Int32} (h : x ≠ y) : sm_c2 .ne x y true false = true := if_neg h
theorem c2_ne_F {x y : Int32} (h : x = y) : sm_c2 .ne x y true false = false := if_pos h
theorem cBnr_1 {d : Nat} {S : cS} {q : Int32} {S1 : cS} {cur : Nat} {S2 : cS} {a : Nat} (c1 : Ans (d + 8) 69 [.ref 32] S (some (.int (nI 1))) S1) (hcur : sI S1 3211 = nI cur) (mcur : cur < 2 ^ 20) (ma : a < 2 ^ 20) (c2 : Ans (d + 8) 95 [.ref 32, .int (nI cur), .int q] S1 (some (.int (nI a))) S2) : Bod (d + 8) 94 0 [(0, .ref 32), (1, .int q)] [] S none (S2) := by
  refine Bod.go dc_94_0 rfl ?_
  refine Bod.virt (r := []) dc_94_1 kr_94_63 ⟨Or.inl rfl, ow_69, cl_8⟩ (by rw [np_69]; rfl) (by rw [np_69]; rfl) (ob_of (mk_32 _)) (Nat.le_of_ble_eq_true rfl) (c1  ) ?_
  show Bod _ _ _ _ [_] _ _ _
  refine Bod.ifF dc_94_4 rfl (k1_eq_F (k_ne 1 0 rfl rfl (by omega) (by omega) (by omega))) ?_
  refine Bod.go dc_94_7 rfl ?_
  refine Bod.go dc_94_8 rfl ?_
  refine Bod.get dc_94_9 fr_94_44 (mk_32 _) rfl ?_
  refine Bod.eqI (nI cur) (by first | (simp (disch := omega) only [rI, rIe, rA, rIA, rLA, rJA, rVI, rQI, rVA, rQA, upd_at,  rAI, rLI, rJI, nI_add, pk_sub, kc_0, kc_1, kc_2, kc_3, kc_4, kc_5, reduceIte, Nat.reduceEqDiff, Nat.add_zero, rI_hold, rI_hold, rL_hold, hcur]; done) | (simp (disch := omega) only [rI, rIe, rA, rIA, rLA, rJA, rVI, rQI, rVA, rQA, upd_at,  rAI, rLI, rJI, nI_add, pk_sub, kc_0, kc_1, kc_2, kc_3, kc_4, kc_5, reduceIte, Nat.reduceEqDiff, Nat.add_zero, rI_hold, rI_hold, rL_hold, hcur]; exact congrArg nI (by omega))) ?_
  refine Bod.go dc_94_12 rfl ?_
  refine Bod.virt (r := []) dc_94_13 kr_94_67 ⟨Or.inl rfl, ow_95, cl_8⟩ (by rw [np_95]; rfl) (by rw [np_95]; rfl) (ob_of (mk_32 _)) (Nat.le_of_ble_eq_true rfl) (c2  ) ?_
  show Bod _ _ _ _ [_] _ _ _
  refine Bod.ifT dc_94_16 rfl (k1_ge_T a rfl (by omega)) ?_
  exact Bod.retV dc_94_25 rt_94
theorem cBnr_2 {d : Nat} {S : cS} {q : Int32} {S1 : cS} {cur : Nat} {S2 : cS} {S3 : cS} (c1 : Ans (d + 8) 69 [.ref 32] S (some (.int (nI 1))) S1) (hcur : sI S1 3211 = nI cur) (mcur : cur < 2 ^ 20) (c2 : Ans (d + 8) 95 [.ref 32, .int (nI cur), .int q] S1 (some (.int (Int32.ofInt (-1)))) S2) (c3 : Ans (d + 8) 96 [.ref 32, .int q, .int (nI 0)] S2 none S3) : Bod (d + 8) 94 0 [(0, .ref 32), (1, .int q)] [] S none (S3) := by
  refine Bod.go dc_94_0 rfl ?_
  refine Bod.virt (r := []) dc_94_1 kr_94_63 ⟨Or.inl rfl, ow_69, cl_8⟩ (by rw [np_69]; rfl) (by rw [np_69]; rfl) (ob_of (mk_32 _)) (Nat.le_of_ble_eq_true rfl) (c1  ) ?_
  show Bod _ _ _ _ [_] _ _ _
  refine Bod.ifF dc_94_4 rfl (k1_eq_F (k_ne 1 0 rfl rfl (by omega) (by omega) (by omega))) ?_
  refine Bod.go dc_94_7 rfl ?_
  refine Bod.go dc_94_8 rfl ?_
  refine Bod.get dc_94_9 fr_94_44 (mk_32 _) rfl ?_
  refine Bod.eqI (nI cur) (by first | (simp (disch := omega) only [rI, rIe, rA, rIA, rLA, rJA, rVI, rQI, rVA, rQA, upd_at,  rAI, rLI, rJI, nI_add, pk_sub, kc_0, kc_1, kc_2, kc_3, kc_4, kc_5, reduceIte, Nat.reduceEqDiff, Nat.add_zero, rI_hold, rI_hold, rL_hold, hcur]; done) | (simp (disch := omega) only [rI, rIe, rA, rIA, rLA, rJA, rVI, rQI, rVA, rQA, upd_at,  rAI, rLI, rJI, nI_add, pk_sub, kc_0, kc_1, kc_2, kc_3, kc_4, kc_5, reduceIte, Nat.reduceEqDiff, Nat.add_zero, rI_hold, rI_hold, rL_hold, hcur]; exact congrArg nI (by omega))) ?_
  refine Bod.go dc_94_12 rfl ?_
  refine Bod.virt (r := []) dc_94_13 kr_94_67 ⟨Or.inl rfl, ow_95, cl_8⟩ (by rw [np_95]; rfl) (by rw [np_95]; rfl) (ob_of (mk_32 _)) (Nat.le_of_ble_eq_true rfl) (c2  ) ?_
  show Bod _ _ _ _ [_] _ _ _
  refine Bod.ifF dc_94_16 rfl (by decide) ?_
  refine Bod.go dc_94_19 rfl ?_
  refine Bod.go dc_94_20 rfl ?_
  refine Bod.ic 0 (by decide) dc_94_21 ?_
  refine Bod.virt (r := []) dc_94_22 kr_94_71 ⟨Or.inl rfl, ow_96, cl_8⟩ (by rw [np_96]; rfl) (by rw [np_96]; rfl) (ob_of (mk_32 _)) (Nat.le_of_ble_eq_true rfl) (c3  ) ?_
  show Bod _ _ _ _ [] _ _ _
  exact Bod.retV dc_94_25 rt_94
theorem cBnr_3 {d : Nat} {S : cS} {q : Int32} {S1 : cS} (c1 : Ans (d + 8) 69 [.ref 32] S (some (.int (nI 0))) S1) : Bod (d + 8) 94 0 [(0, .ref 32), (1, .int q)] [] S none (S1) := by
  refine Bod.go dc_94_0 rfl ?_
  refine Bod.virt (r := []) dc_94_1 kr_94_63 ⟨Or.inl rfl, ow_69, cl_8⟩ (by rw [np_69]; rfl) (by rw [np_69]; rfl) (ob_of (mk_32 _)) (Nat.le_of_ble_eq_true rfl) (c1  ) ?_
  show Bod _ _ _ _ [_] _ _ _
  refine Bod.ifT dc_94_4 rfl (k1_eq_T (k_eq 0 0 rfl rfl (by omega))) ?_
  exact Bod.retV dc_94_25 rt_94
theorem cPrr_1 {d : Nat} {S : cS} {q : Int32} {cur : Nat} {S1 : cS} {a : Nat} (hcur : sI S 3211 = nI cur) (mcur : cur < 2 ^ 20) (ma : a < 2 ^ 20) (c1 : Ans (d + 8) 95 [.ref 32, .int (nI cur), .int q] S (some (.int (nI a))) S1) : Bod (d + 8) 101 0 [(0, .ref 32), (1, .int q)] [] S (some (.int 0)) (S1) := by
  refine Bod.go dc_101_0 rfl ?_
  refine Bod.go dc_101_1 rfl ?_
  refine Bod.get dc_101_2 fr_101_44 (mk_32 _) rfl ?_
  refine Bod.eqI (nI cur) (by first | assumption | rfl | exact congrArg nI (by omega) | (simp (disch := omega) only [rI, rIe, rA, rIA, rLA, rJA, rVI, rQI, rVA, rQA, upd_at,  rAI, rLI, rJI, nI_add, pk_sub, kc_0, kc_1, kc_2, kc_3, kc_4, kc_5, reduceIte, Nat.reduceEqDiff, Nat.add_zero, rI_hold, rI_hold, rL_hold, hcur]; done)) ?_
  refine Bod.go dc_101_5 rfl ?_
  refine Bod.virt (r := []) dc_101_6 kr_101_67 ⟨Or.inl rfl, ow_95, cl_8⟩ (by rw [np_95]; rfl) (by rw [np_95]; rfl) (ob_of (mk_32 _)) (Nat.le_of_ble_eq_true rfl) (c1  ) ?_
  show Bod _ _ _ _ [_] _ _ _
  refine Bod.ifF dc_101_9 rfl (k1_lt_F a rfl (by omega)) ?_
  refine Bod.ic 0 (by decide) dc_101_12 ?_
  exact Bod.retZ dc_101_13 rt_101 (Or.inl rfl)
theorem cPrr_2 {d : Nat} {S : cS} {q : Int32} {cur : Nat} {S1 : cS} {S2 : cS} (hcur : sI S 3211 = nI cur) (mcur : cur < 2 ^ 20) (c1 : Ans (d + 8) 95 [.ref 32, .int (nI cur), .int q] S (some (.int (Int32.ofInt (-1)))) S1) (c2 : Ans (d + 8) 96 [.ref 32, .int q, .int (nI 1)] S1 none S2) : Bod (d + 8) 101 0 [(0, .ref 32), (1, .int q)] [] S (some (.int 1)) (S2) := by
  refine Bod.go dc_101_0 rfl ?_
  refine Bod.go dc_101_1 rfl ?_
  refine Bod.get dc_101_2 fr_101_44 (mk_32 _) rfl ?_
  refine Bod.eqI (nI cur) (by first | assumption | rfl | exact congrArg nI (by omega) | (simp (disch := omega) only [rI, rIe, rA, rIA, rLA, rJA, rVI, rQI, rVA, rQA, upd_at,  rAI, rLI, rJI, nI_add, pk_sub, kc_0, kc_1, kc_2, kc_3, kc_4, kc_5, reduceIte, Nat.reduceEqDiff, Nat.add_zero, rI_hold, rI_hold, rL_hold, hcur]; done)) ?_
  refine Bod.go dc_101_5 rfl ?_
  refine Bod.virt (r := []) dc_101_6 kr_101_67 ⟨Or.inl rfl, ow_95, cl_8⟩ (by rw [np_95]; rfl) (by rw [np_95]; rfl) (ob_of (mk_32 _)) (Nat.le_of_ble_eq_true rfl) (c1  ) ?_
  show Bod _ _ _ _ [_] _ _ _
  refine Bod.ifT dc_101_9 rfl (by decide) ?_
  refine Bod.go dc_101_14 rfl ?_
  refine Bod.go dc_101_15 rfl ?_
  refine Bod.ic 1 (by decide) dc_101_16 ?_
  refine Bod.virt (r := []) dc_101_17 kr_101_71 ⟨Or.inl rfl, ow_96, cl_8⟩ (by rw [np_96]; rfl) (by rw [np_96]; rfl) (ob_of (mk_32 _)) (Nat.le_of_ble_eq_true rfl) (c2  ) ?_
  show Bod _ _ _ _ [] _ _ _
  refine Bod.ic 1 (by decide) dc_101_20 ?_
  exact Bod.retZ dc_101_21 rt_101 (Or.inr rfl)
theorem cGbr_1 {d : Nat} {S : cS} {q : Int32} {cur : Nat} {S1 : cS} {a : Nat} {e38 : Nat} (hcur : sI S 3211 = nI cur) (mcur : cur < 2 ^ 20) (ma : a < 2 ^ 20) (c1 : Ans (d + 8) 95 [.ref 32, .int (nI cur), .int q] S (some (.int (nI a))) S1) (b1 : a < 1600) (he38 : sA S1 38 a = nI e38) (me38 : e38 < 2 ^ 20) (b2 : e38 ≠ 1) : Bod (d + 8) 116 0 [(0, .ref 32), (1, .int q)] [] S (some (.int 1)) (wA 38 a (nI 2) S1) := by
  refine Bod.go dc_116_0 rfl ?_
  refine Bod.go dc_116_1 rfl ?_
  refine Bod.get dc_116_2 fr_116_44 (mk_32 _) rfl ?_
  refine Bod.eqI (nI cur) (by first | assumption | rfl | exact congrArg nI (by omega) | (simp (disch := omega) only [rI, rIe, rA, rIA, rLA, rJA, rVI, rQI, rVA, rQA, upd_at,  rAI, rLI, rJI, nI_add, pk_sub, kc_0, kc_1, kc_2, kc_3, kc_4, kc_5, reduceIte, Nat.reduceEqDiff, Nat.add_zero, rI_hold, rI_hold, rL_hold, hcur]; done)) ?_
  refine Bod.go dc_116_5 rfl ?_
  refine Bod.virt (r := []) dc_116_6 kr_116_67 ⟨Or.inl rfl, ow_95, cl_8⟩ (by rw [np_95]; rfl) (by rw [np_95]; rfl) (ob_of (mk_32 _)) (Nat.le_of_ble_eq_true rfl) (c1  ) ?_
  show Bod _ _ _ _ [_] _ _ _
  refine Bod.istn dc_116_9 (by rw [ml_116]; exact Nat.le_of_ble_eq_true rfl) ?_
  refine Bod.go dc_116_10 rfl ?_
  refine Bod.ifF dc_116_11 rfl (k1_lt_F a rfl (by omega)) ?_
  refine Bod.go dc_116_14 rfl ?_
  refine Bod.sip 1600 (by decide) dc_116_15 ?_
  refine Bod.icT dc_116_18 rfl (k2_lt_T a 1600 rfl rfl (by omega) (by omega)) ?_
  refine Bod.go dc_116_29 rfl ?_
  refine Bod.get dc_116_30 fr_116_29 (mk_32 _) rfl ?_
  refine Bod.go dc_116_33 rfl ?_
  refine Bod.ialdN a rfl (by omega) (by omega) dc_116_34 (mk_38 _) ?_
  refine Bod.eqI (nI e38) (by first | (simp (disch := omega) only [rI, rIe, rA, rIA, rLA, rJA, rVI, rQI, rVA, rQA, upd_at,  rAI, rLI, rJI, nI_add, pk_sub, kc_0, kc_1, kc_2, kc_3, kc_4, kc_5, reduceIte, Nat.reduceEqDiff, Nat.add_zero, rI_hold, rI_hold, rL_hold, hcur, he38]; done) | (simp (disch := omega) only [rI, rIe, rA, rIA, rLA, rJA, rVI, rQI, rVA, rQA, upd_at,  rAI, rLI, rJI, nI_add, pk_sub, kc_0, kc_1, kc_2, kc_3, kc_4, kc_5, reduceIte, Nat.reduceEqDiff, Nat.add_zero, rI_hold, rI_hold, rL_hold, hcur, he38]; exact congrArg nI (by omega))) ?_
  refine Bod.ic 1 (by decide) dc_116_35 ?_
  refine Bod.icT dc_116_36 rfl (k2_ne_T (k_ne e38 1 rfl rfl (by omega) (by omega) (by omega))) ?_
  refine Bod.go dc_116_41 rfl ?_
  refine Bod.get dc_116_42 fr_116_29 (mk_32 _) rfl ?_
  refine Bod.go dc_116_45 rfl ?_
  refine Bod.ic 2 (by decide) dc_116_46 ?_
  refine Bod.iastN a rfl (by omega) (by omega) dc_116_47 (mk_38 _) (sa_38 _ _ _) (mu_A _ _ _ _) ?_
  refine Bod.ic 1 (by decide) dc_116_48 ?_
  exact Bod.retZ dc_116_49 rt_116 (Or.inr rfl)
theorem cGbr_2 {d : Nat} {S : cS} {q : Int32} {cur : Nat} {S1 : cS} {a : Nat} {e38 : Nat} (hcur : sI S 3211 = nI cur) (mcur : cur < 2 ^ 20) (ma : a < 2 ^ 20) (c1 : Ans (d + 8) 95 [.ref 32, .int (nI cur), .int q] S (some (.int (nI a))) S1) (b1 : a < 1600) (he38 : sA S1 38 a = nI e38) (me38 : e38 < 2 ^ 20) (b2 : e38 = 1) : Bod (d + 8) 116 0 [(0, .ref 32), (1, .int q)] [] S (some (.int 0)) (S1) := by
  refine Bod.go dc_116_0 rfl ?_
  refine Bod.go dc_116_1 rfl ?_
  refine Bod.get dc_116_2 fr_116_44 (mk_32 _) rfl ?_
  refine Bod.eqI (nI cur) (by first | assumption | rfl | exact congrArg nI (by omega) | (simp (disch := omega) only [rI, rIe, rA, rIA, rLA, rJA, rVI, rQI, rVA, rQA, upd_at,  rAI, rLI, rJI, nI_add, pk_sub, kc_0, kc_1, kc_2, kc_3, kc_4, kc_5, reduceIte, Nat.reduceEqDiff, Nat.add_zero, rI_hold, rI_hold, rL_hold, hcur]; done)) ?_
  refine Bod.go dc_116_5 rfl ?_
  refine Bod.virt (r := []) dc_116_6 kr_116_67 ⟨Or.inl rfl, ow_95, cl_8⟩ (by rw [np_95]; rfl) (by rw [np_95]; rfl) (ob_of (mk_32 _)) (Nat.le_of_ble_eq_true rfl) (c1  ) ?_
  show Bod _ _ _ _ [_] _ _ _
  refine Bod.istn dc_116_9 (by rw [ml_116]; exact Nat.le_of_ble_eq_true rfl) ?_
  refine Bod.go dc_116_10 rfl ?_
  refine Bod.ifF dc_116_11 rfl (k1_lt_F a rfl (by omega)) ?_
  refine Bod.go dc_116_14 rfl ?_
  refine Bod.sip 1600 (by decide) dc_116_15 ?_
  refine Bod.icT dc_116_18 rfl (k2_lt_T a 1600 rfl rfl (by omega) (by omega)) ?_
  refine Bod.go dc_116_29 rfl ?_
  refine Bod.get dc_116_30 fr_116_29 (mk_32 _) rfl ?_
  refine Bod.go dc_116_33 rfl ?_
  refine Bod.ialdN a rfl (by omega) (by omega) dc_116_34 (mk_38 _) ?_
  refine Bod.eqI (nI e38) (by first | (simp (disch := omega) only [rI, rIe, rA, rIA, rLA, rJA, rVI, rQI, rVA, rQA, upd_at,  rAI, rLI, rJI, nI_add, pk_sub, kc_0, kc_1, kc_2, kc_3, kc_4, kc_5, reduceIte, Nat.reduceEqDiff, Nat.add_zero, rI_hold, rI_hold, rL_hold, hcur, he38]; done) | (simp (disch := omega) only [rI, rIe, rA, rIA, rLA, rJA, rVI, rQI, rVA, rQA, upd_at,  rAI, rLI, rJI, nI_add, pk_sub, kc_0, kc_1, kc_2, kc_3, kc_4, kc_5, reduceIte, Nat.reduceEqDiff, Nat.add_zero, rI_hold, rI_hold, rL_hold, hcur, he38]; exact congrArg nI (by omega))) ?_
  refine Bod.ic 1 (by decide) dc_116_35 ?_
  refine Bod.icF dc_116_36 rfl (k2_ne_F (k_eq e38 1 rfl rfl (by omega))) ?_
  refine Bod.ic 0 (by decide) dc_116_39 ?_
  exact Bod.retZ dc_116_40 rt_116 (Or.inl rfl)
theorem cGbr_3 {d : Nat} {S : cS} {q : Int32} {cur : Nat} {S1 : cS} {a : Nat} {S2 : cS} (hcur : sI S 3211 = nI cur) (mcur : cur < 2 ^ 20) (ma : a < 2 ^ 20) (c1 : Ans (d + 8) 95 [.ref 32, .int (nI cur), .int q] S (some (.int (nI a))) S1) (b1 : 1600 ≤ a) (c2 : Ans (d + 8) 96 [.ref 32, .int q, .int (nI 2)] S1 none S2) : Bod (d + 8) 116 0 [(0, .ref 32), (1, .int q)] [] S (some (.int 1)) (S2) := by
  refine Bod.go dc_116_0 rfl ?_
  refine Bod.go dc_116_1 rfl ?_
  refine Bod.get dc_116_2 fr_116_44 (mk_32 _) rfl ?_
  refine Bod.eqI (nI cur) (by first | assumption | rfl | exact congrArg nI (by omega) | (simp (disch := omega) only [rI, rIe, rA, rIA, rLA, rJA, rVI, rQI, rVA, rQA, upd_at,  rAI, rLI, rJI, nI_add, pk_sub, kc_0, kc_1, kc_2, kc_3, kc_4, kc_5, reduceIte, Nat.reduceEqDiff, Nat.add_zero, rI_hold, rI_hold, rL_hold, hcur]; done)) ?_
  refine Bod.go dc_116_5 rfl ?_
  refine Bod.virt (r := []) dc_116_6 kr_116_67 ⟨Or.inl rfl, ow_95, cl_8⟩ (by rw [np_95]; rfl) (by rw [np_95]; rfl) (ob_of (mk_32 _)) (Nat.le_of_ble_eq_true rfl) (c1  ) ?_
  show Bod _ _ _ _ [_] _ _ _
  refine Bod.istn dc_116_9 (by rw [ml_116]; exact Nat.le_of_ble_eq_true rfl) ?_
  refine Bod.go dc_116_10 rfl ?_
  refine Bod.ifF dc_116_11 rfl (k1_lt_F a rfl (by omega)) ?_
  refine Bod.go dc_116_14 rfl ?_
  refine Bod.sip 1600 (by decide) dc_116_15 ?_
  refine Bod.icF dc_116_18 rfl (k2_lt_F a 1600 rfl rfl (by omega) (by omega)) ?_
  refine Bod.go dc_116_21 rfl ?_
  refine Bod.go dc_116_22 rfl ?_
  refine Bod.ic 2 (by decide) dc_116_23 ?_
  refine Bod.virt (r := []) dc_116_24 kr_116_71 ⟨Or.inl rfl, ow_96, cl_8⟩ (by rw [np_96]; rfl) (by rw [np_96]; rfl) (ob_of (mk_32 _)) (Nat.le_of_ble_eq_true rfl) (c2  ) ?_
  show Bod _ _ _ _ [] _ _ _
  refine Bod.ic 1 (by decide) dc_116_27 ?_
  exact Bod.retZ dc_116_28 rt_116 (Or.inr rfl)
theorem cGbr_4 {d : Nat} {S : cS} {q : Int32} {cur : Nat} {S1 : cS} {S2 : cS} (hcur : sI S 3211 = nI cur) (mcur : cur < 2 ^ 20) (c1 : Ans (d + 8) 95 [.ref 32, .int (nI cur), .int q] S (some (.int (Int32.ofInt (-1)))) S1) (c2 : Ans (d + 8) 96 [.ref 32, .int q, .int (nI 2)] S1 none S2) : Bod (d + 8) 116 0 [(0, .ref 32), (1, .int q)] [] S (some (.int 1)) (S2) := by
  refine Bod.go dc_116_0 rfl ?_
  refine Bod.go dc_116_1 rfl ?_
  refine Bod.get dc_116_2 fr_116_44 (mk_32 _) rfl ?_
  refine Bod.eqI (nI cur) (by first | assumption | rfl | exact congrArg nI (by omega) | (simp (disch := omega) only [rI, rIe, rA, rIA, rLA, rJA, rVI, rQI, rVA, rQA, upd_at,  rAI, rLI, rJI, nI_add, pk_sub, kc_0, kc_1, kc_2, kc_3, kc_4, kc_5, reduceIte, Nat.reduceEqDiff, Nat.add_zero, rI_hold, rI_hold, rL_hold, hcur]; done)) ?_
  refine Bod.go dc_116_5 rfl ?_
  refine Bod.virt (r := []) dc_116_6 kr_116_67 ⟨Or.inl rfl, ow_95, cl_8⟩ (by rw [np_95]; rfl) (by rw [np_95]; rfl) (ob_of (mk_32 _)) (Nat.le_of_ble_eq_true rfl) (c1  ) ?_
  show Bod _ _ _ _ [_] _ _ _
  refine Bod.istn dc_116_9 (by rw [ml_116]; exact Nat.le_of_ble_eq_true rfl) ?_
  refine Bod.go dc_116_10 rfl ?_
  refine Bod.ifT dc_116_11 rfl (by decide) ?_
  refine Bod.go dc_116_21 rfl ?_
  refine Bod.go dc_116_22 rfl ?_
  refine Bod.ic 2 (by decide) dc_116_23 ?_
  refine Bod.virt (r := []) dc_116_24 kr_116_71 ⟨Or.inl rfl, ow_96, cl_8⟩ (by rw [np_96]; rfl) (by rw [np_96]; rfl) (ob_of (mk_32 _)) (Nat.le_of_ble_eq_true rfl) (c2  ) ?_
  show Bod _ _ _ _ [] _ _ _
  refine Bod.ic 1 (by decide) dc_116_27 ?_
  exact Bod.retZ dc_116_28 rt_116 (Or.inr rfl)
theorem cTkr_1 {d : Nat} {S : cS} {S1 : cS} (c1 : Ans (d + 8) 75 [.ref 31, .int (nI 3)] S none S1) : Bod (d + 8) 92 0 [(0, .ref 43)] [] S (some (.int (sI S 3109))) (S1) := by
  refine Bod.go dc_92_0 rfl ?_
  refine Bod.get dc_92_1 fr_92_9 (mk_43 _) rfl ?_
  refine Bod.get dc_92_4 fr_92_159 (mk_31 _) rfl ?_
  refine Bod.istn dc_92_7 (by rw [ml_92]; exact Nat.le_of_ble_eq_true rfl) ?_
  refine Bod.go dc_92_8 rfl ?_
  refine Bod.get dc_92_9 fr_92_9 (mk_43 _) rfl ?_
  refine Bod.ic 3 (by decide) dc_92_12 ?_
  refine Bod.virt (r := []) dc_92_13 kr_92_107 ⟨Or.inr rfl, ow_75, cl_3⟩ (by rw [np_75]; rfl) (by rw [np_75]; rfl) (ob_of (mk_31 _)) (Nat.le_of_ble_eq_true rfl) (c1  ) ?_
  show Bod _ _ _ _ [] _ _ _
  refine Bod.go dc_92_16 rfl ?_
  exact Bod.retI dc_92_17 rt_92
theorem cBdr_1 {d : Nat} {S : cS} {q : Int32} {S1 : cS} {S2 : cS} {a : Nat} (c1 : Ans (d + 8) 94 [.ref 32, .int q] S none S1) (ma : a < 2 ^ 20) (c2 : Ans (d + 8) 67 [.ref 32, .int (nI 19), .int q] S1 (some (.int (nI a))) S2) : Bod (d + 8) 93 0 [(0, .ref 43), (1, .int q)] [] S none (S2) := by
  refine Bod.go dc_93_0 rfl ?_
  refine Bod.get dc_93_1 fr_93_19 (mk_43 _) rfl ?_
  refine Bod.go dc_93_4 rfl ?_
  refine Bod.virt (r := []) dc_93_5 kr_93_162 ⟨Or.inr rfl, ow_94, cl_8⟩ (by rw [np_94]; rfl) (by rw [np_94]; rfl) (ob_of (mk_32 _)) (Nat.le_of_ble_eq_true rfl) (c1  ) ?_
  show Bod _ _ _ _ [] _ _ _
  refine Bod.go dc_93_8 rfl ?_
  refine Bod.get dc_93_9 fr_93_19 (mk_43 _) rfl ?_
  refine Bod.bip 19 (by decide) dc_93_12 ?_
  refine Bod.go dc_93_14 rfl ?_
  refine Bod.virt (r := []) dc_93_15 kr_93_165 ⟨Or.inr rfl, ow_67, cl_8⟩ (by rw [np_67]; rfl) (by rw [np_67]; rfl) (ob_of (mk_32 _)) (Nat.le_of_ble_eq_true rfl) (c2  ) ?_
  show Bod _ _ _ _ [_] _ _ _
  refine Bod.go dc_93_18 rfl ?_
  exact Bod.retV dc_93_19 rt_93
theorem cFrr_1 {d : Nat} {S : cS} {dp : Nat} {ind : Nat} {ln : Nat} {S1 : cS} {S2 : cS} {b : Int32} {S3 : cS} {S4 : cS} {S5 : cS} {a : Nat} {S6 : cS} {a1 : Nat} {S7 : cS} {a2 : Nat} {top : Nat} {S8 : cS} {S9 : cS} {a3 : Nat} {S10 : cS} {S11 : cS} {S12 : cS} {a4 : Nat} (mdp : dp < 2 ^ 20) (hind : sI S 3108 = nI ind) (mind : ind < 2 ^ 20) (hln : sI S 3106 = nI ln) (mln : ln < 2 ^ 20) (c1 : Ans (d + 8) 75 [.ref 31, .int (nI 44)] S none S1) (c2 : Ans (d + 8) 92 [.ref 43] S1 (some (.int b)) S2) (c3 : Ans (d + 8) 75 [.ref 31, .int (nI 45)] S2 none S3) (c4 : Ans (d + 8) 57 [.ref 44, .int (nI 0)] S3 none S4) (ma : a < 2 ^ 20) (c5 : Ans (d + 8) 71 [.ref 23, .int (nI 9)] S4 (some (.int (nI a))) S5) (ma1 : a1 < 2 ^ 20) (c6 : Ans (d + 8) 54 [.ref 23, .int (nI 4), .int (nI 0)] S5 (some (.int (nI a1))) S6) (ma2 : a2 < 2 ^ 20) (c7 : Ans (d + 8) 54 [.ref 23, .int (nI 2), .int (nI ln)] S6 (some (.int (nI a2))) S7) (htop : sI S7 2307 = nI top) (mtop : top < 2 ^ 20) (c8 : Ans (d + 8) 83 [.ref 23, .int (nI (a1 + 1)), .int (nI top)] S7 none S8) (ma3 : a3 < 2 ^ 20) (c9 : Ans (d + 8) 54 [.ref 23, .int (nI 10), .int (Int32.ofInt (-1))] S8 (some (.int (nI a3))) S9) (c10 : Ans (d + 8) 93 [.ref 43, .int b] S9 none S10) (c11 : Ans (d + 8) 90 [.ref 43, .int (nI ind), .int (nI dp), .int (nI a2), .int (nI a3)] S10 none S11) (ma4 : a4 < 2 ^ 20) (c12 : Ans (d + 8) 71 [.ref 23, .int (nI 11)] S11 (some (.int (nI a4))) S12) : Bod (d + 8) 91 0 [(0, .ref 43), (1, .int (nI dp))] [] S none (S12) := by
  refine Bod.go dc_91_0 rfl ?_
  refine Bod.get dc_91_1 fr_91_9 (mk_43 _) rfl ?_
  refine Bod.get dc_91_4 fr_91_96 (mk_31 _) rfl ?_
  refine Bod.eqI (nI ind) (by first | assumption | rfl | exact congrArg nI (by omega) | (simp (disch := omega) only [rI, rIe, rA, rIA, rLA, rJA, rVI, rQI, rVA, rQA, upd_at,  rAI, rLI, rJI, nI_add, pk_sub, kc_0, kc_1, kc_2, kc_3, kc_4, kc_5, reduceIte, Nat.reduceEqDiff, Nat.add_zero, rI_hold, rI_hold, rL_hold, hind]; done)) ?_
  refine Bod.istn dc_91_7 (by rw [ml_91]; exact Nat.le_of_ble_eq_true rfl) ?_
  refine Bod.go dc_91_8 rfl ?_
  refine Bod.get dc_91_9 fr_91_9 (mk_43 _) rfl ?_
  refine Bod.get dc_91_12 fr_91_113 (mk_31 _) rfl ?_
  refine Bod.eqI (nI ln) (by first | assumption | rfl | exact congrArg nI (by omega) | (simp (disch := omega) only [rI, rIe, rA, rIA, rLA, rJA, rVI, rQI, rVA, rQA, upd_at,  rAI, rLI, rJI, nI_add, pk_sub, kc_0, kc_1, kc_2, kc_3, kc_4, kc_5, reduceIte, Nat.reduceEqDiff, Nat.add_zero, rI_hold, rI_hold, rL_hold, hind, hln]; done)) ?_
  refine Bod.istn dc_91_15 (by rw [ml_91]; exact Nat.le_of_ble_eq_true rfl) ?_
  refine Bod.go dc_91_16 rfl ?_
  refine Bod.get dc_91_17 fr_91_9 (mk_43 _) rfl ?_
  refine Bod.bip 44 (by decide) dc_91_20 ?_
  refine Bod.virt (r := []) dc_91_22 kr_91_107 ⟨Or.inr rfl, ow_75, cl_3⟩ (by rw [np_75]; rfl) (by rw [np_75]; rfl) (ob_of (mk_31 _)) (Nat.le_of_ble_eq_true rfl) (c1  ) ?_
  show Bod _ _ _ _ [] _ _ _
  refine Bod.go dc_91_25 rfl ?_
  refine Bod.virt (r := []) dc_91_26 kr_91_220 ⟨Or.inl rfl, ow_92, cl_10⟩ (by rw [np_92]; rfl) (by rw [np_92]; rfl) (ob_of (mk_43 _)) (Nat.le_of_ble_eq_true rfl) (c2  ) ?_
  show Bod _ _ _ _ [_] _ _ _
  refine Bod.ist dc_91_29 (by rw [ml_91]; exact Nat.le_of_ble_eq_true rfl) ?_
  refine Bod.go dc_91_31 rfl ?_
  refine Bod.get dc_91_32 fr_91_9 (mk_43 _) rfl ?_
  refine Bod.bip 45 (by decide) dc_91_35 ?_
  refine Bod.virt (r := []) dc_91_37 kr_91_107 ⟨Or.inr rfl, ow_75, cl_3⟩ (by rw [np_75]; rfl) (by rw [np_75]; rfl) (ob_of (mk_31 _)) (Nat.le_of_ble_eq_true rfl) (c3  ) ?_
  show Bod _ _ _ _ [] _ _ _
  refine Bod.go dc_91_40 rfl ?_
  refine Bod.get dc_91_41 fr_91_23 (mk_43 _) rfl ?_
  refine Bod.ic 0 (by decide) dc_91_44 ?_
  refine Bod.virt (r := []) dc_91_45 kr_91_169 ⟨Or.inr rfl, ow_57, cl_1⟩ (by rw [np_57]; rfl) (by rw [np_57]; rfl) (ob_of (mk_44 _)) (Nat.le_of_ble_eq_true rfl) (c4  ) ?_
  show Bod _ _ _ _ [] _ _ _
  refine Bod.go dc_91_48 rfl ?_
  refine Bod.get dc_91_49 fr_91_15 (mk_43 _) rfl ?_
  refine Bod.bip 9 (by decide) dc_91_52 ?_
  refine Bod.virt (r := []) dc_91_54 kr_91_72 ⟨Or.inr rfl, ow_71, cl_7⟩ (by rw [np_71]; rfl) (by rw [np_71]; rfl) (ob_of (mk_23 _)) (Nat.le_of_ble_eq_true rfl) (c5  ) ?_
  show Bod _ _ _ _ [_] _ _ _
  refine Bod.go dc_91_57 rfl ?_
  refine Bod.go dc_91_58 rfl ?_
  refine Bod.get dc_91_59 fr_91_15 (mk_43 _) rfl ?_
  refine Bod.ic 4 (by decide) dc_91_62 ?_
  refine Bod.ic 0 (by decide) dc_91_63 ?_
  refine Bod.virt (r := []) dc_91_64 kr_91_116 ⟨Or.inr rfl, ow_54, cl_7⟩ (by rw [np_54]; rfl) (by rw [np_54]; rfl) (ob_of (mk_23 _)) (Nat.le_of_ble_eq_true rfl) (c6  ) ?_
  show Bod _ _ _ _ [_] _ _ _
  refine Bod.ist dc_91_67 (by rw [ml_91]; exact Nat.le_of_ble_eq_true rfl) ?_
  refine Bod.go dc_91_69 rfl ?_
  refine Bod.get dc_91_70 fr_91_15 (mk_43 _) rfl ?_
  refine Bod.ic 2 (by decide) dc_91_73 ?_
  refine Bod.go dc_91_74 rfl ?_
  refine Bod.virt (r := []) dc_91_75 kr_91_116 ⟨Or.inr rfl, ow_54, cl_7⟩ (by rw [np_54]; rfl) (by rw [np_54]; rfl) (ob_of (mk_23 _)) (Nat.le_of_ble_eq_true rfl) (c7  ) ?_
  show Bod _ _ _ _ [_] _ _ _
  refine Bod.ist dc_91_78 (by rw [ml_91]; exact Nat.le_of_ble_eq_true rfl) ?_
  refine Bod.go dc_91_80 rfl ?_
  refine Bod.get dc_91_81 fr_91_15 (mk_43 _) rfl ?_
  refine Bod.go dc_91_84 rfl ?_
  refine Bod.ic 1 (by decide) dc_91_86 ?_
  refine Bod.addN (a1 + 1) (by omega) dc_91_87 ?_
  refine Bod.go dc_91_88 rfl ?_
  refine Bod.get dc_91_89 fr_91_15 (mk_43 _) rfl ?_
  refine Bod.get dc_91_92 fr_91_69 (mk_23 _) rfl ?_
  refine Bod.eqI (nI top) (by first | (simp (disch := omega) only [rI, rIe, rA, rIA, rLA, rJA, rVI, rQI, rVA, rQA, upd_at,  rAI, rLI, rJI, nI_add, pk_sub, kc_0, kc_1, kc_2, kc_3, kc_4, kc_5, reduceIte, Nat.reduceEqDiff, Nat.add_zero, rI_hold, rI_hold, rL_hold, hind, hln, htop]; done) | (simp (disch := omega) only [rI, rIe, rA, rIA, rLA, rJA, rVI, rQI, rVA, rQA, upd_at,  rAI, rLI, rJI, nI_add, pk_sub, kc_0, kc_1, kc_2, kc_3, kc_4, kc_5, reduceIte, Nat.reduceEqDiff, Nat.add_zero, rI_hold, rI_hold, rL_hold, hind, hln, htop]; exact congrArg nI (by omega))) ?_
  refine Bod.virt (r := []) dc_91_95 kr_91_201 ⟨Or.inr rfl, ow_83, cl_7⟩ (by rw [np_83]; rfl) (by rw [np_83]; rfl) (ob_of (mk_23 _)) (Nat.le_of_ble_eq_true rfl) (c8  ) ?_
  show Bod _ _ _ _ [] _ _ _
  refine Bod.go dc_91_98 rfl ?_
  refine Bod.get dc_91_99 fr_91_15 (mk_43 _) rfl ?_
  refine Bod.bip 10 (by decide) dc_91_102 ?_
  refine Bod.go dc_91_104 rfl ?_
  refine Bod.virt (r := []) dc_91_105 kr_91_116 ⟨Or.inr rfl, ow_54, cl_7⟩ (by rw [np_54]; rfl) (by rw [np_54]; rfl) (ob_of (mk_23 _)) (Nat.le_of_ble_eq_true rfl) (c9  ) ?_
  show Bod _ _ _ _ [_] _ _ _
  refine Bod.ist dc_91_108 (by rw [ml_91]; exact Nat.le_of_ble_eq_true rfl) ?_
  refine Bod.go dc_91_110 rfl ?_
  refine Bod.go dc_91_111 rfl ?_
  refine Bod.virt (r := []) dc_91_113 kr_91_131 ⟨Or.inl rfl, ow_93, cl_10⟩ (by rw [np_93]; rfl) (by rw [np_93]; rfl) (ob_of (mk_43 _)) (Nat.le_of_ble_eq_true rfl) (c10  ) ?_
  show Bod _ _ _ _ [] _ _ _
  refine Bod.go dc_91_116 rfl ?_
  refine Bod.go dc_91_117 rfl ?_
  refine Bod.go dc_91_118 rfl ?_
  refine Bod.go dc_91_119 rfl ?_
  refine Bod.go dc_91_121 rfl ?_
  refine Bod.virt (r := []) dc_91_123 kr_91_232 ⟨Or.inl rfl, ow_90, cl_10⟩ (by rw [np_90]; rfl) (by rw [np_90]; rfl) (ob_of (mk_43 _)) (Nat.le_of_ble_eq_true rfl) (c11  ) ?_
  show Bod _ _ _ _ [] _ _ _
  refine Bod.go dc_91_126 rfl ?_
  refine Bod.get dc_91_127 fr_91_15 (mk_43 _) rfl ?_
  refine Bod.bip 11 (by decide) dc_91_130 ?_
  refine Bod.virt (r := []) dc_91_132 kr_91_72 ⟨Or.inr rfl, ow_71, cl_7⟩ (by rw [np_71]; rfl) (by rw [np_71]; rfl) (ob_of (mk_23 _)) (Nat.le_of_ble_eq_true rfl) (c12  ) ?_
  show Bod _ _ _ _ [_] _ _ _
  refine Bod.go dc_91_135 rfl ?_
  exact Bod.retV dc_91_136 rt_91
theorem cTrr_1 {d : Nat} {S : cS} {dp : Nat} {ind : Nat} {S1 : cS} {S2 : cS} {a : Nat} {tr : Nat} {S3 : cS} {tr1 : Nat} {S4 : cS} {a1 : Nat} {S5 : cS} {a2 : Nat} {top : Nat} {S6 : cS} {S7 : cS} {S8 : cS} {tk : Nat} {S9 : cS} {a3 : Nat} {S10 : cS} {top1 : Nat} {S11 : cS} (mdp : dp < 2 ^ 20) (hind : sI S 3108 = nI ind) (mind : ind < 2 ^ 20) (c1 : Ans (d + 8) 75 [.ref 31, .int (nI 54)] S none S1) (ma : a < 2 ^ 20) (c2 : Ans (d + 8) 54 [.ref 23, .int (nI 12), .int (nI 0)] S1 (some (.int (nI a))) S2) (htr : sI S2 4308 = nI tr) (mtr : tr < 2 ^ 20) (c3 : Ans (d + 8) 84 [.ref 43, .int (nI ind), .int (nI (dp + 1))] (wI 4308 (nI (tr + 1)) S2) none S3) (htr1 : sI S3 4308 = nI tr1) (mtr1 : tr1 < 2 ^ 20) (b1 : 1 ≤ tr1) (ma1 : a1 < 2 ^ 20) (c4 : Ans (d + 8) 54 [.ref 23, .int (nI 13), .int (nI 1)] (wI 4308 (nI (tr1 - 1)) S3) (some (.int (nI a1))) S4) (ma2 : a2 < 2 ^ 20) (c5 : Ans (d + 8) 54 [.ref 23, .int (nI 4), .int (nI 0)] S4 (some (.int (nI a2))) S5) (htop : sI S5 2307 = nI top) (mtop : top < 2 ^ 20) (c6 : Ans (d + 8) 83 [.ref 23, .int (nI (a + 1)), .int (nI top)] S5 none S6) (c7 : Ans (d + 8) 52 [.ref 43, .int (nI ind)] S6 (some (.int (nI 1))) S7) (c8 : Ans (d + 8) 75 [.ref 31, .int (nI 55)] S7 none S8) (htk : sI S8 3105 = nI tk) (mtk : tk < 2 ^ 20) (b2 : tk ≠ 3) (ma3 : a3 < 2 ^ 20) (c9 : Ans (d + 8) 71 [.ref 23, .int (nI 17)] S8 (some (.int (nI a3))) S9) (c10 : Ans (d + 8) 84 [.ref 43, .int (nI ind), .int (nI (dp + 1))] S9 none S10) (htop1 : sI S10 2307 = nI top1) (mtop1 : top1 < 2 ^ 20) (c11 : Ans (d + 8) 83 [.ref 23, .int (nI (a2 + 1)), .int (nI top1)] S10 none S11) : Bod (d + 8) 108 0 [(0, .ref 43), (1, .int (nI dp))] [] S none (S11) := by
  refine Bod.go dc_108_0 rfl ?_
  refine Bod.get dc_108_1 fr_108_9 (mk_43 _) rfl ?_
  refine Bod.get dc_108_4 fr_108_96 (mk_31 _) rfl ?_
  refine Bod.eqI (nI ind) (by first | assumption | rfl | exact congrArg nI (by omega) | (simp (disch := omega) only [rI, rIe, rA, rIA, rLA, rJA, rVI, rQI, rVA, rQA, upd_at,  rAI, rLI, rJI, nI_add, pk_sub, kc_0, kc_1, kc_2, kc_3, kc_4, kc_5, reduceIte, Nat.reduceEqDiff, Nat.add_zero, rI_hold, rI_hold, rL_hold, hind]; done)) ?_
  refine Bod.istn dc_108_7 (by rw [ml_108]; exact Nat.le_of_ble_eq_true rfl) ?_
  refine Bod.go dc_108_8 rfl ?_
  refine Bod.get dc_108_9 fr_108_9 (mk_43 _) rfl ?_
  refine Bod.bip 54 (by decide) dc_108_12 ?_
  refine Bod.virt (r := []) dc_108_14 kr_108_107 ⟨Or.inr rfl, ow_75, cl_3⟩ (by rw [np_75]; rfl) (by rw [np_75]; rfl) (ob_of (mk_31 _)) (Nat.le_of_ble_eq_true rfl) (c1  ) ?_
  show Bod _ _ _ _ [] _ _ _
  refine Bod.go dc_108_17 rfl ?_
  refine Bod.get dc_108_18 fr_108_15 (mk_43 _) rfl ?_
  refine Bod.bip 12 (by decide) dc_108_21 ?_
  refine Bod.ic 0 (by decide) dc_108_23 ?_
  refine Bod.virt (r := []) dc_108_24 kr_108_116 ⟨Or.inr rfl, ow_54, cl_7⟩ (by rw [np_54]; rfl) (by rw [np_54]; rfl) (ob_of (mk_23 _)) (Nat.le_of_ble_eq_true rfl) (c2  ) ?_
  show Bod _ _ _ _ [_] _ _ _
  refine Bod.istn dc_108_27 (by rw [ml_108]; exact Nat.le_of_ble_eq_true rfl) ?_
  refine Bod.go dc_108_28 rfl ?_
  refine Bod.go dc_108_29 rfl ?_
  refine Bod.get dc_108_30 fr_108_46 (mk_43 _) rfl ?_
  refine Bod.eqI (nI tr) (by first | (simp (disch := omega) only [rI, rIe, rA, rIA, rLA, rJA, rVI, rQI, rVA, rQA, upd_at,  rAI, rLI, rJI, nI_add, pk_sub, kc_0, kc_1, kc_2, kc_3, kc_4, kc_5, reduceIte, Nat.reduceEqDiff, Nat.add_zero, rI_hold, rI_hold, rL_hold, hind, htr]; done) | (simp (disch := omega) only [rI, rIe, rA, rIA, rLA, rJA, rVI, rQI, rVA, rQA, upd_at,  rAI, rLI, rJI, nI_add, pk_sub, kc_0, kc_1, kc_2, kc_3, kc_4, kc_5, reduceIte, Nat.reduceEqDiff, Nat.add_zero, rI_hold, rI_hold, rL_hold, hind, htr]; exact congrArg nI (by omega))) ?_
  refine Bod.ic 1 (by decide) dc_108_33 ?_
  refine Bod.addN (tr + 1) (by omega) dc_108_34 ?_
  refine Bod.put dc_108_35 fr_108_46 (mk_43 _) (Nat.le_of_ble_eq_true rfl) pf_10_8 (st_4308 _ _) (mu_I _ _ _) ?_
  refine Bod.go dc_108_38 rfl ?_
  refine Bod.go dc_108_39 rfl ?_
  refine Bod.go dc_108_40 rfl ?_
  refine Bod.ic 1 (by decide) dc_108_41 ?_
  refine Bod.addN (dp + 1) (by omega) dc_108_42 ?_
  refine Bod.virt (r := []) dc_108_43 kr_108_226 ⟨Or.inl rfl, ow_84, cl_10⟩ (by rw [np_84]; rfl) (by rw [np_84]; rfl) (ob_of (mk_43 _)) (Nat.le_of_ble_eq_true rfl) (c3  ) ?_
  show Bod _ _ _ _ [] _ _ _
  refine Bod.go dc_108_46 rfl ?_
  refine Bod.go dc_108_47 rfl ?_
  refine Bod.get dc_108_48 fr_108_46 (mk_43 _) rfl ?_
  refine Bod.eqI (nI tr1) (by first | (simp (disch := omega) only [rI, rIe, rA, rIA, rLA, rJA, rVI, rQI, rVA, rQA, upd_at,  rAI, rLI, rJI, nI_add, pk_sub, kc_0, kc_1, kc_2, kc_3, kc_4, kc_5, reduceIte, Nat.reduceEqDiff, Nat.add_zero, rI_hold, rI_hold, rL_hold, hind, htr, htr1]; done) | (simp (disch := omega) only [rI, rIe, rA, rIA, rLA, rJA, rVI, rQI, rVA, rQA, upd_at,  rAI, rLI, rJI, nI_add, pk_sub, kc_0, kc_1, kc_2, kc_3, kc_4, kc_5, reduceIte, Nat.reduceEqDiff, Nat.add_zero, rI_hold, rI_hold, rL_hold, hind, htr, htr1]; exact congrArg nI (by omega))) ?_
  refine Bod.ic 1 (by decide) dc_108_51 ?_
  refine Bod.subN (tr1 - 1) (by omega) (by omega) dc_108_52 ?_
  refine Bod.put dc_108_53 fr_108_46 (mk_43 _) (Nat.le_of_ble_eq_true rfl) pf_10_8 (st_4308 _ _) (mu_I _ _ _) ?_
  refine Bod.go dc_108_56 rfl ?_
  refine Bod.get dc_108_57 fr_108_15 (mk_43 _) rfl ?_
  refine Bod.bip 13 (by decide) dc_108_60 ?_
  refine Bod.ic 1 (by decide) dc_108_62 ?_
  refine Bod.virt (r := []) dc_108_63 kr_108_116 ⟨Or.inr rfl, ow_54, cl_7⟩ (by rw [np_54]; rfl) (by rw [np_54]; rfl) (ob_of (mk_23 _)) (Nat.le_of_ble_eq_true rfl) (c4  ) ?_
  show Bod _ _ _ _ [_] _ _ _
  refine Bod.go dc_108_66 rfl ?_
  refine Bod.go dc_108_67 rfl ?_
  refine Bod.get dc_108_68 fr_108_15 (mk_43 _) rfl ?_
  refine Bod.ic 4 (by decide) dc_108_71 ?_
  refine Bod.ic 0 (by decide) dc_108_72 ?_
  refine Bod.virt (r := []) dc_108_73 kr_108_116 ⟨Or.inr rfl, ow_54, cl_7⟩ (by rw [np_54]; rfl) (by rw [np_54]; rfl) (ob_of (mk_23 _)) (Nat.le_of_ble_eq_true rfl) (c5  ) ?_
  show Bod _ _ _ _ [_] _ _ _
  refine Bod.ist dc_108_76 (by rw [ml_108]; exact Nat.le_of_ble_eq_true rfl) ?_
  refine Bod.go dc_108_78 rfl ?_
  refine Bod.get dc_108_79 fr_108_15 (mk_43 _) rfl ?_
  refine Bod.go dc_108_82 rfl ?_
  refine Bod.ic 1 (by decide) dc_108_83 ?_
  refine Bod.addN (a + 1) (by omega) dc_108_84 ?_
  refine Bod.go dc_108_85 rfl ?_
  refine Bod.get dc_108_86 fr_108_15 (mk_43 _) rfl ?_
  refine Bod.get dc_108_89 fr_108_69 (mk_23 _) rfl ?_
  refine Bod.eqI (nI top) (by first | (simp (disch := omega) only [rI, rIe, rA, rIA, rLA, rJA, rVI, rQI, rVA, rQA, upd_at,  rAI, rLI, rJI, nI_add, pk_sub, kc_0, kc_1, kc_2, kc_3, kc_4, kc_5, reduceIte, Nat.reduceEqDiff, Nat.add_zero, rI_hold, rI_hold, rL_hold, hind, htr, htr1, htop]; done) | (simp (disch := omega) only [rI, rIe, rA, rIA, rLA, rJA, rVI, rQI, rVA, rQA, upd_at,  rAI, rLI, rJI, nI_add, pk_sub, kc_0, kc_1, kc_2, kc_3, kc_4, kc_5, reduceIte, Nat.reduceEqDiff, Nat.add_zero, rI_hold, rI_hold, rL_hold, hind, htr, htr1, htop]; exact congrArg nI (by omega))) ?_
  refine Bod.virt (r := []) dc_108_92 kr_108_201 ⟨Or.inr rfl, ow_83, cl_7⟩ (by rw [np_83]; rfl) (by rw [np_83]; rfl) (ob_of (mk_23 _)) (Nat.le_of_ble_eq_true rfl) (c6  ) ?_
  show Bod _ _ _ _ [] _ _ _
  refine Bod.go dc_108_95 rfl ?_
  refine Bod.go dc_108_96 rfl ?_
  refine Bod.virt (r := []) dc_108_97 kr_108_89 ⟨Or.inl rfl, ow_52, cl_10⟩ (by rw [np_52]; rfl) (by rw [np_52]; rfl) (ob_of (mk_43 _)) (Nat.le_of_ble_eq_true rfl) (c7  ) ?_
  show Bod _ _ _ _ [_] _ _ _
  refine Bod.ifT dc_108_100 rfl (k1_ne_T (k_ne 1 0 rfl rfl (by omega) (by omega) (by omega))) ?_
  refine Bod.go dc_108_110 rfl ?_
  refine Bod.get dc_108_111 fr_108_9 (mk_43 _) rfl ?_
  refine Bod.bip 55 (by decide) dc_108_114 ?_
  refine Bod.virt (r := []) dc_108_116 kr_108_107 ⟨Or.inr rfl, ow_75, cl_3⟩ (by rw [np_75]; rfl) (by rw [np_75]; rfl) (ob_of (mk_31 _)) (Nat.le_of_ble_eq_true rfl) (c8  ) ?_
  show Bod _ _ _ _ [] _ _ _
  refine Bod.go dc_108_119 rfl ?_
  refine Bod.get dc_108_120 fr_108_9 (mk_43 _) rfl ?_
  refine Bod.get dc_108_123 fr_108_79 (mk_31 _) rfl ?_
  refine Bod.eqI (nI tk) (by first | (simp (disch := omega) only [rI, rIe, rA, rIA, rLA, rJA, rVI, rQI, rVA, rQA, upd_at,  rAI, rLI, rJI, nI_add, pk_sub, kc_0, kc_1, kc_2, kc_3, kc_4, kc_5, reduceIte, Nat.reduceEqDiff, Nat.add_zero, rI_hold, rI_hold, rL_hold, hind, htr, htr1, htop, htk]; done) | (simp (disch := omega) only [rI, rIe, rA, rIA, rLA, rJA, rVI, rQI, rVA, rQA, upd_at,  rAI, rLI, rJI, nI_add, pk_sub, kc_0, kc_1, kc_2, kc_3, kc_4, kc_5, reduceIte, Nat.reduceEqDiff, Nat.add_zero, rI_hold, rI_hold, rL_hold, hind, htr, htr1, htop, htk]; exact congrArg nI (by omega))) ?_
  refine Bod.ic 3 (by decide) dc_108_126 ?_
  refine Bod.icT dc_108_127 rfl (k2_ne_T (k_ne tk 3 rfl rfl (by omega) (by omega) (by omega))) ?_
  refine Bod.go dc_108_141 rfl ?_
  refine Bod.get dc_108_142 fr_108_15 (mk_43 _) rfl ?_
  refine Bod.bip 17 (by decide) dc_108_145 ?_
  refine Bod.virt (r := []) dc_108_147 kr_108_72 ⟨Or.inr rfl, ow_71, cl_7⟩ (by rw [np_71]; rfl) (by rw [np_71]; rfl) (ob_of (mk_23 _)) (Nat.le_of_ble_eq_true rfl) (c9  ) ?_
  show Bod _ _ _ _ [_] _ _ _
  refine Bod.go dc_108_150 rfl ?_
  refine Bod.go dc_108_151 rfl ?_
  refine Bod.go dc_108_152 rfl ?_
  refine Bod.go dc_108_153 rfl ?_
  refine Bod.ic 1 (by decide) dc_108_154 ?_
  refine Bod.addN (dp + 1) (by omega) dc_108_155 ?_
  refine Bod.virt (r := []) dc_108_156 kr_108_226 ⟨Or.inl rfl, ow_84, cl_10⟩ (by rw [np_84]; rfl) (by rw [np_84]; rfl) (ob_of (mk_43 _)) (Nat.le_of_ble_eq_true rfl) (c10  ) ?_
  show Bod _ _ _ _ [] _ _ _
  refine Bod.go dc_108_159 rfl ?_
  refine Bod.get dc_108_160 fr_108_15 (mk_43 _) rfl ?_
  refine Bod.go dc_108_163 rfl ?_
  refine Bod.ic 1 (by decide) dc_108_165 ?_
  refine Bod.addN (a2 + 1) (by omega) dc_108_166 ?_
  refine Bod.go dc_108_167 rfl ?_
  refine Bod.get dc_108_168 fr_108_15 (mk_43 _) rfl ?_
  refine Bod.get dc_108_171 fr_108_69 (mk_23 _) rfl ?_
  refine Bod.eqI (nI top1) (by first | (simp (disch := omega) only [rI, rIe, rA, rIA, rLA, rJA, rVI, rQI, rVA, rQA, upd_at,  rAI, rLI, rJI, nI_add, pk_sub, kc_0, kc_1, kc_2, kc_3, kc_4, kc_5, reduceIte, Nat.reduceEqDiff, Nat.add_zero, rI_hold, rI_hold, rL_hold, hind, htr, htr1, htop, htk, htop1]; done) | (simp (disch := omega) only [rI, rIe, rA, rIA, rLA, rJA, rVI, rQI, rVA, rQA, upd_at,  rAI, rLI, rJI, nI_add, pk_sub, kc_0, kc_1, kc_2, kc_3, kc_4, kc_5, reduceIte, Nat.reduceEqDiff, Nat.add_zero, rI_hold, rI_hold, rL_hold, hind, htr, htr1, htop, htk, htop1]; exact congrArg nI (by omega))) ?_
  refine Bod.virt (r := []) dc_108_174 kr_108_201 ⟨Or.inr rfl, ow_83, cl_7⟩ (by rw [np_83]; rfl) (by rw [np_83]; rfl) (ob_of (mk_23 _)) (Nat.le_of_ble_eq_true rfl) (c11  ) ?_
  show Bod _ _ _ _ [] _ _ _
  exact Bod.retV dc_108_177 rt_108
theorem cTrr_2 {d : Nat} {S : cS} {dp : Nat} {ind : Nat} {S1 : cS} {S2 : cS} {a : Nat} {tr : Nat} {S3 : cS} {tr1 : Nat} {S4 : cS} {a1 : Nat} {S5 : cS} {a2 : Nat} {top : Nat} {S6 : cS} {S7 : cS} {S8 : cS} {tk : Nat} {S9 : cS} {b : Int32} {S10 : cS} {S11 : cS} {top1 : Nat} {S12 : cS} (mdp : dp < 2 ^ 20) (hind : sI S 3108 = nI ind) (mind : ind < 2 ^ 20) (c1 : Ans (d + 8) 75 [.ref 31, .int (nI 54)] S none S1) (ma : a < 2 ^ 20) (c2 : Ans (d + 8) 54 [.ref 23, .int (nI 12), .int (nI 0)] S1 (some (.int (nI a))) S2) (htr : sI S2 4308 = nI tr) (mtr : tr < 2 ^ 20) (c3 : Ans (d + 8) 84 [.ref 43, .int (nI ind), .int (nI (dp + 1))] (wI 4308 (nI (tr + 1)) S2) none S3) (htr1 : sI S3 4308 = nI tr1) (mtr1 : tr1 < 2 ^ 20) (b1 : 1 ≤ tr1) (ma1 : a1 < 2 ^ 20) (c4 : Ans (d + 8) 54 [.ref 23, .int (nI 13), .int (nI 1)] (wI 4308 (nI (tr1 - 1)) S3) (some (.int (nI a1))) S4) (ma2 : a2 < 2 ^ 20) (c5 : Ans (d + 8) 54 [.ref 23, .int (nI 4), .int (nI 0)] S4 (some (.int (nI a2))) S5) (htop : sI S5 2307 = nI top) (mtop : top < 2 ^ 20) (c6 : Ans (d + 8) 83 [.ref 23, .int (nI (a + 1)), .int (nI top)] S5 none S6) (c7 : Ans (d + 8) 52 [.ref 43, .int (nI ind)] S6 (some (.int (nI 1))) S7) (c8 : Ans (d + 8) 75 [.ref 31, .int (nI 55)] S7 none S8) (htk : sI S8 3105 = nI tk) (mtk : tk < 2 ^ 20) (b2 : tk = 3) (c9 : Ans (d + 8) 92 [.ref 43] S8 (some (.int b)) S9) (c10 : Ans (d + 8) 93 [.ref 43, .int b] S9 none S10) (c11 : Ans (d + 8) 84 [.ref 43, .int (nI ind), .int (nI (dp + 1))] S10 none S11) (htop1 : sI S11 2307 = nI top1) (mtop1 : top1 < 2 ^ 20) (c12 : Ans (d + 8) 83 [.ref 23, .int (nI (a2 + 1)), .int (nI top1)] S11 none S12) : Bod (d + 8) 108 0 [(0, .ref 43), (1, .int (nI dp))] [] S none (S12) := by
  refine Bod.go dc_108_0 rfl ?_
  refine Bod.get dc_108_1 fr_108_9 (mk_43 _) rfl ?_
  refine Bod.get dc_108_4 fr_108_96 (mk_31 _) rfl ?_
  refine Bod.eqI (nI ind) (by first | assumption | rfl | exact congrArg nI (by omega) | (simp (disch := omega) only [rI, rIe, rA, rIA, rLA, rJA, rVI, rQI, rVA, rQA, upd_at,  rAI, rLI, rJI, nI_add, pk_sub, kc_0, kc_1, kc_2, kc_3, kc_4, kc_5, reduceIte, Nat.reduceEqDiff, Nat.add_zero, rI_hold, rI_hold, rL_hold, hind]; done)) ?_
  refine Bod.istn dc_108_7 (by rw [ml_108]; exact Nat.le_of_ble_eq_true rfl) ?_
  refine Bod.go dc_108_8 rfl ?_
  refine Bod.get dc_108_9 fr_108_9 (mk_43 _) rfl ?_
  refine Bod.bip 54 (by decide) dc_108_12 ?_
  refine Bod.virt (r := []) dc_108_14 kr_108_107 ⟨Or.inr rfl, ow_75, cl_3⟩ (by rw [np_75]; rfl) (by rw [np_75]; rfl) (ob_of (mk_31 _)) (Nat.le_of_ble_eq_true rfl) (c1  ) ?_
  show Bod _ _ _ _ [] _ _ _
  refine Bod.go dc_108_17 rfl ?_
  refine Bod.get dc_108_18 fr_108_15 (mk_43 _) rfl ?_
  refine Bod.bip 12 (by decide) dc_108_21 ?_
  refine Bod.ic 0 (by decide) dc_108_23 ?_
  refine Bod.virt (r := []) dc_108_24 kr_108_116 ⟨Or.inr rfl, ow_54, cl_7⟩ (by rw [np_54]; rfl) (by rw [np_54]; rfl) (ob_of (mk_23 _)) (Nat.le_of_ble_eq_true rfl) (c2  ) ?_
  show Bod _ _ _ _ [_] _ _ _
  refine Bod.istn dc_108_27 (by rw [ml_108]; exact Nat.le_of_ble_eq_true rfl) ?_
  refine Bod.go dc_108_28 rfl ?_
  refine Bod.go dc_108_29 rfl ?_
  refine Bod.get dc_108_30 fr_108_46 (mk_43 _) rfl ?_
  refine Bod.eqI (nI tr) (by first | (simp (disch := omega) only [rI, rIe, rA, rIA, rLA, rJA, rVI, rQI, rVA, rQA, upd_at,  rAI, rLI, rJI, nI_add, pk_sub, kc_0, kc_1, kc_2, kc_3, kc_4, kc_5, reduceIte, Nat.reduceEqDiff, Nat.add_zero, rI_hold, rI_hold, rL_hold, hind, htr]; done) | (simp (disch := omega) only [rI, rIe, rA, rIA, rLA, rJA, rVI, rQI, rVA, rQA, upd_at,  rAI, rLI, rJI, nI_add, pk_sub, kc_0, kc_1, kc_2, kc_3, kc_4, kc_5, reduceIte, Nat.reduceEqDiff, Nat.add_zero, rI_hold, rI_hold, rL_hold, hind, htr]; exact congrArg nI (by omega))) ?_
  refine Bod.ic 1 (by decide) dc_108_33 ?_
  refine Bod.addN (tr + 1) (by omega) dc_108_34 ?_
  refine Bod.put dc_108_35 fr_108_46 (mk_43 _) (Nat.le_of_ble_eq_true rfl) pf_10_8 (st_4308 _ _) (mu_I _ _ _) ?_
  refine Bod.go dc_108_38 rfl ?_
  refine Bod.go dc_108_39 rfl ?_
  refine Bod.go dc_108_40 rfl ?_
  refine Bod.ic 1 (by decide) dc_108_41 ?_
  refine Bod.addN (dp + 1) (by omega) dc_108_42 ?_
  refine Bod.virt (r := []) dc_108_43 kr_108_226 ⟨Or.inl rfl, ow_84, cl_10⟩ (by rw [np_84]; rfl) (by rw [np_84]; rfl) (ob_of (mk_43 _)) (Nat.le_of_ble_eq_true rfl) (c3  ) ?_
  show Bod _ _ _ _ [] _ _ _
  refine Bod.go dc_108_46 rfl ?_
  refine Bod.go dc_108_47 rfl ?_
  refine Bod.get dc_108_48 fr_108_46 (mk_43 _) rfl ?_
  refine Bod.eqI (nI tr1) (by first | (simp (disch := omega) only [rI, rIe, rA, rIA, rLA, rJA, rVI, rQI, rVA, rQA, upd_at,  rAI, rLI, rJI, nI_add, pk_sub, kc_0, kc_1, kc_2, kc_3, kc_4, kc_5, reduceIte, Nat.reduceEqDiff, Nat.add_zero, rI_hold, rI_hold, rL_hold, hind, htr, htr1]; done) | (simp (disch := omega) only [rI, rIe, rA, rIA, rLA, rJA, rVI, rQI, rVA, rQA, upd_at,  rAI, rLI, rJI, nI_add, pk_sub, kc_0, kc_1, kc_2, kc_3, kc_4, kc_5, reduceIte, Nat.reduceEqDiff, Nat.add_zero, rI_hold, rI_hold, rL_hold, hind, htr, htr1]; exact congrArg nI (by omega))) ?_
  refine Bod.ic 1 (by decide) dc_108_51 ?_
  refine Bod.subN (tr1 - 1) (by omega) (by omega) dc_108_52 ?_
  refine Bod.put dc_108_53 fr_108_46 (mk_43 _) (Nat.le_of_ble_eq_true rfl) pf_10_8 (st_4308 _ _) (mu_I _ _ _) ?_
  refine Bod.go dc_108_56 rfl ?_
  refine Bod.get dc_108_57 fr_108_15 (mk_43 _) rfl ?_
  refine Bod.bip 13 (by decide) dc_108_60 ?_
  refine Bod.ic 1 (by decide) dc_108_62 ?_
  refine Bod.virt (r := []) dc_108_63 kr_108_116 ⟨Or.inr rfl, ow_54, cl_7⟩ (by rw [np_54]; rfl) (by rw [np_54]; rfl) (ob_of (mk_23 _)) (Nat.le_of_ble_eq_true rfl) (c4  ) ?_
  show Bod _ _ _ _ [_] _ _ _
  refine Bod.go dc_108_66 rfl ?_
  refine Bod.go dc_108_67 rfl ?_
  refine Bod.get dc_108_68 fr_108_15 (mk_43 _) rfl ?_
  refine Bod.ic 4 (by decide) dc_108_71 ?_
  refine Bod.ic 0 (by decide) dc_108_72 ?_
  refine Bod.virt (r := []) dc_108_73 kr_108_116 ⟨Or.inr rfl, ow_54, cl_7⟩ (by rw [np_54]; rfl) (by rw [np_54]; rfl) (ob_of (mk_23 _)) (Nat.le_of_ble_eq_true rfl) (c5  ) ?_
  show Bod _ _ _ _ [_] _ _ _
  refine Bod.ist dc_108_76 (by rw [ml_108]; exact Nat.le_of_ble_eq_true rfl) ?_
  refine Bod.go dc_108_78 rfl ?_
  refine Bod.get dc_108_79 fr_108_15 (mk_43 _) rfl ?_
  refine Bod.go dc_108_82 rfl ?_
  refine Bod.ic 1 (by decide) dc_108_83 ?_
  refine Bod.addN (a + 1) (by omega) dc_108_84 ?_
  refine Bod.go dc_108_85 rfl ?_
  refine Bod.get dc_108_86 fr_108_15 (mk_43 _) rfl ?_
  refine Bod.get dc_108_89 fr_108_69 (mk_23 _) rfl ?_
  refine Bod.eqI (nI top) (by first | (simp (disch := omega) only [rI, rIe, rA, rIA, rLA, rJA, rVI, rQI, rVA, rQA, upd_at,  rAI, rLI, rJI, nI_add, pk_sub, kc_0, kc_1, kc_2, kc_3, kc_4, kc_5, reduceIte, Nat.reduceEqDiff, Nat.add_zero, rI_hold, rI_hold, rL_hold, hind, htr, htr1, htop]; done) | (simp (disch := omega) only [rI, rIe, rA, rIA, rLA, rJA, rVI, rQI, rVA, rQA, upd_at,  rAI, rLI, rJI, nI_add, pk_sub, kc_0, kc_1, kc_2, kc_3, kc_4, kc_5, reduceIte, Nat.reduceEqDiff, Nat.add_zero, rI_hold, rI_hold, rL_hold, hind, htr, htr1, htop]; exact congrArg nI (by omega))) ?_
  refine Bod.virt (r := []) dc_108_92 kr_108_201 ⟨Or.inr rfl, ow_83, cl_7⟩ (by rw [np_83]; rfl) (by rw [np_83]; rfl) (ob_of (mk_23 _)) (Nat.le_of_ble_eq_true rfl) (c6  ) ?_
  show Bod _ _ _ _ [] _ _ _
  refine Bod.go dc_108_95 rfl ?_
  refine Bod.go dc_108_96 rfl ?_
  refine Bod.virt (r := []) dc_108_97 kr_108_89 ⟨Or.inl rfl, ow_52, cl_10⟩ (by rw [np_52]; rfl) (by rw [np_52]; rfl) (ob_of (mk_43 _)) (Nat.le_of_ble_eq_true rfl) (c7  ) ?_
  show Bod _ _ _ _ [_] _ _ _
  refine Bod.ifT dc_108_100 rfl (k1_ne_T (k_ne 1 0 rfl rfl (by omega) (by omega) (by omega))) ?_
  refine Bod.go dc_108_110 rfl ?_
  refine Bod.get dc_108_111 fr_108_9 (mk_43 _) rfl ?_
  refine Bod.bip 55 (by decide) dc_108_114 ?_
  refine Bod.virt (r := []) dc_108_116 kr_108_107 ⟨Or.inr rfl, ow_75, cl_3⟩ (by rw [np_75]; rfl) (by rw [np_75]; rfl) (ob_of (mk_31 _)) (Nat.le_of_ble_eq_true rfl) (c8  ) ?_
  show Bod _ _ _ _ [] _ _ _
  refine Bod.go dc_108_119 rfl ?_
  refine Bod.get dc_108_120 fr_108_9 (mk_43 _) rfl ?_
  refine Bod.get dc_108_123 fr_108_79 (mk_31 _) rfl ?_
  refine Bod.eqI (nI tk) (by first | (simp (disch := omega) only [rI, rIe, rA, rIA, rLA, rJA, rVI, rQI, rVA, rQA, upd_at,  rAI, rLI, rJI, nI_add, pk_sub, kc_0, kc_1, kc_2, kc_3, kc_4, kc_5, reduceIte, Nat.reduceEqDiff, Nat.add_zero, rI_hold, rI_hold, rL_hold, hind, htr, htr1, htop, htk]; done) | (simp (disch := omega) only [rI, rIe, rA, rIA, rLA, rJA, rVI, rQI, rVA, rQA, upd_at,  rAI, rLI, rJI, nI_add, pk_sub, kc_0, kc_1, kc_2, kc_3, kc_4, kc_5, reduceIte, Nat.reduceEqDiff, Nat.add_zero, rI_hold, rI_hold, rL_hold, hind, htr, htr1, htop, htk]; exact congrArg nI (by omega))) ?_
  refine Bod.ic 3 (by decide) dc_108_126 ?_
  refine Bod.icF dc_108_127 rfl (k2_ne_F (k_eq tk 3 rfl rfl (by omega))) ?_
  refine Bod.go dc_108_130 rfl ?_
  refine Bod.go dc_108_131 rfl ?_
  refine Bod.virt (r := [_]) dc_108_132 kr_108_220 ⟨Or.inl rfl, ow_92, cl_10⟩ (by rw [np_92]; rfl) (by rw [np_92]; rfl) (ob_of (mk_43 _)) (Nat.le_of_ble_eq_true rfl) (c9  ) ?_
  show Bod _ _ _ _ [_, _] _ _ _
  refine Bod.virt (r := []) dc_108_135 kr_108_131 ⟨Or.inl rfl, ow_93, cl_10⟩ (by rw [np_93]; rfl) (by rw [np_93]; rfl) (ob_of (mk_43 _)) (Nat.le_of_ble_eq_true rfl) (c10  ) ?_
  show Bod _ _ _ _ [] _ _ _
  refine Bod.go dc_108_138 rfl ?_
  refine Bod.go dc_108_151 rfl ?_
  refine Bod.go dc_108_152 rfl ?_
  refine Bod.go dc_108_153 rfl ?_
  refine Bod.ic 1 (by decide) dc_108_154 ?_
  refine Bod.addN (dp + 1) (by omega) dc_108_155 ?_
  refine Bod.virt (r := []) dc_108_156 kr_108_226 ⟨Or.inl rfl, ow_84, cl_10⟩ (by rw [np_84]; rfl) (by rw [np_84]; rfl) (ob_of (mk_43 _)) (Nat.le_of_ble_eq_true rfl) (c11  ) ?_
  show Bod _ _ _ _ [] _ _ _
  refine Bod.go dc_108_159 rfl ?_
  refine Bod.get dc_108_160 fr_108_15 (mk_43 _) rfl ?_
  refine Bod.go dc_108_163 rfl ?_
  refine Bod.ic 1 (by decide) dc_108_165 ?_
  refine Bod.addN (a2 + 1) (by omega) dc_108_166 ?_
  refine Bod.go dc_108_167 rfl ?_
  refine Bod.get dc_108_168 fr_108_15 (mk_43 _) rfl ?_
  refine Bod.get dc_108_171 fr_108_69 (mk_23 _) rfl ?_
  refine Bod.eqI (nI top1) (by first | (simp (disch := omega) only [rI, rIe, rA, rIA, rLA, rJA, rVI, rQI, rVA, rQA, upd_at,  rAI, rLI, rJI, nI_add, pk_sub, kc_0, kc_1, kc_2, kc_3, kc_4, kc_5, reduceIte, Nat.reduceEqDiff, Nat.add_zero, rI_hold, rI_hold, rL_hold, hind, htr, htr1, htop, htk, htop1]; done) | (simp (disch := omega) only [rI, rIe, rA, rIA, rLA, rJA, rVI, rQI, rVA, rQA, upd_at,  rAI, rLI, rJI, nI_add, pk_sub, kc_0, kc_1, kc_2, kc_3, kc_4, kc_5, reduceIte, Nat.reduceEqDiff, Nat.add_zero, rI_hold, rI_hold, rL_hold, hind, htr, htr1, htop, htk, htop1]; exact congrArg nI (by omega))) ?_
  refine Bod.virt (r := []) dc_108_174 kr_108_201 ⟨Or.inr rfl, ow_83, cl_7⟩ (by rw [np_83]; rfl) (by rw [np_83]; rfl) (ob_of (mk_23 _)) (Nat.le_of_ble_eq_true rfl) (c12  ) ?_
  show Bod _ _ _ _ [] _ _ _
  exact Bod.retV dc_108_177 rt_108
theorem cTrr_3 {d : Nat} {S : cS} {dp : Nat} {ind : Nat} {S1 : cS} {S2 : cS} {a : Nat} {tr : Nat} {S3 : cS} {tr1 : Nat} {S4 : cS} {a1 : Nat} {S5 : cS} {a2 : Nat} {top : Nat} {S6 : cS} {S7 : cS} {S8 : cS} {S9 : cS} {tk : Nat} {S10 : cS} {a3 : Nat} {S11 : cS} {top1 : Nat} {S12 : cS} (mdp : dp < 2 ^ 20) (hind : sI S 3108 = nI ind) (mind : ind < 2 ^ 20) (c1 : Ans (d + 8) 75 [.ref 31, .int (nI 54)] S none S1) (ma : a < 2 ^ 20) (c2 : Ans (d + 8) 54 [.ref 23, .int (nI 12), .int (nI 0)] S1 (some (.int (nI a))) S2) (htr : sI S2 4308 = nI tr) (mtr : tr < 2 ^ 20) (c3 : Ans (d + 8) 84 [.ref 43, .int (nI ind), .int (nI (dp + 1))] (wI 4308 (nI (tr + 1)) S2) none S3) (htr1 : sI S3 4308 = nI tr1) (mtr1 : tr1 < 2 ^ 20) (b1 : 1 ≤ tr1) (ma1 : a1 < 2 ^ 20) (c4 : Ans (d + 8) 54 [.ref 23, .int (nI 13), .int (nI 1)] (wI 4308 (nI (tr1 - 1)) S3) (some (.int (nI a1))) S4) (ma2 : a2 < 2 ^ 20) (c5 : Ans (d + 8) 54 [.ref 23, .int (nI 4), .int (nI 0)] S4 (some (.int (nI a2))) S5) (htop : sI S5 2307 = nI top) (mtop : top < 2 ^ 20) (c6 : Ans (d + 8) 83 [.ref 23, .int (nI (a + 1)), .int (nI top)] S5 none S6) (c7 : Ans (d + 8) 52 [.ref 43, .int (nI ind)] S6 (some (.int (nI 0))) S7) (c8 : Ans (d + 8) 44 [.ref 31] S7 none S8) (c9 : Ans (d + 8) 75 [.ref 31, .int (nI 55)] S8 none S9) (htk : sI S9 3105 = nI tk) (mtk : tk < 2 ^ 20) (b2 : tk ≠ 3) (ma3 : a3 < 2 ^ 20) (c10 : Ans (d + 8) 71 [.ref 23, .int (nI 17)] S9 (some (.int (nI a3))) S10) (c11 : Ans (d + 8) 84 [.ref 43, .int (nI ind), .int (nI (dp + 1))] S10 none S11) (htop1 : sI S11 2307 = nI top1) (mtop1 : top1 < 2 ^ 20) (c12 : Ans (d + 8) 83 [.ref 23, .int (nI (a2 + 1)), .int (nI top1)] S11 none S12) : Bod (d + 8) 108 0 [(0, .ref 43), (1, .int (nI dp))] [] S none (S12) := by
  refine Bod.go dc_108_0 rfl ?_
  refine Bod.get dc_108_1 fr_108_9 (mk_43 _) rfl ?_
  refine Bod.get dc_108_4 fr_108_96 (mk_31 _) rfl ?_
  refine Bod.eqI (nI ind) (by first | assumption | rfl | exact congrArg nI (by omega) | (simp (disch := omega) only [rI, rIe, rA, rIA, rLA, rJA, rVI, rQI, rVA, rQA, upd_at,  rAI, rLI, rJI, nI_add, pk_sub, kc_0, kc_1, kc_2, kc_3, kc_4, kc_5, reduceIte, Nat.reduceEqDiff, Nat.add_zero, rI_hold, rI_hold, rL_hold, hind]; done)) ?_
  refine Bod.istn dc_108_7 (by rw [ml_108]; exact Nat.le_of_ble_eq_true rfl) ?_
  refine Bod.go dc_108_8 rfl ?_
  refine Bod.get dc_108_9 fr_108_9 (mk_43 _) rfl ?_
  refine Bod.bip 54 (by decide) dc_108_12 ?_
  refine Bod.virt (r := []) dc_108_14 kr_108_107 ⟨Or.inr rfl, ow_75, cl_3⟩ (by rw [np_75]; rfl) (by rw [np_75]; rfl) (ob_of (mk_31 _)) (Nat.le_of_ble_eq_true rfl) (c1  ) ?_
  show Bod _ _ _ _ [] _ _ _
  refine Bod.go dc_108_17 rfl ?_
  refine Bod.get dc_108_18 fr_108_15 (mk_43 _) rfl ?_
  refine Bod.bip 12 (by decide) dc_108_21 ?_
  refine Bod.ic 0 (by decide) dc_108_23 ?_
  refine Bod.virt (r := []) dc_108_24 kr_108_116 ⟨Or.inr rfl, ow_54, cl_7⟩ (by rw [np_54]; rfl) (by rw [np_54]; rfl) (ob_of (mk_23 _)) (Nat.le_of_ble_eq_true rfl) (c2  ) ?_
  show Bod _ _ _ _ [_] _ _ _
  refine Bod.istn dc_108_27 (by rw [ml_108]; exact Nat.le_of_ble_eq_true rfl) ?_
  refine Bod.go dc_108_28 rfl ?_
  refine Bod.go dc_108_29 rfl ?_
  refine Bod.get dc_108_30 fr_108_46 (mk_43 _) rfl ?_
  refine Bod.eqI (nI tr) (by first | (simp (disch := omega) only [rI, rIe, rA, rIA, rLA, rJA, rVI, rQI, rVA, rQA, upd_at,  rAI, rLI, rJI, nI_add, pk_sub, kc_0, kc_1, kc_2, kc_3, kc_4, kc_5, reduceIte, Nat.reduceEqDiff, Nat.add_zero, rI_hold, rI_hold, rL_hold, hind, htr]; done) | (simp (disch := omega) only [rI, rIe, rA, rIA, rLA, rJA, rVI, rQI, rVA, rQA, upd_at,  rAI, rLI, rJI, nI_add, pk_sub, kc_0, kc_1, kc_2, kc_3, kc_4, kc_5, reduceIte, Nat.reduceEqDiff, Nat.add_zero, rI_hold, rI_hold, rL_hold, hind, htr]; exact congrArg nI (by omega))) ?_
  refine Bod.ic 1 (by decide) dc_108_33 ?_
  refine Bod.addN (tr + 1) (by omega) dc_108_34 ?_
  refine Bod.put dc_108_35 fr_108_46 (mk_43 _) (Nat.le_of_ble_eq_true rfl) pf_10_8 (st_4308 _ _) (mu_I _ _ _) ?_
  refine Bod.go dc_108_38 rfl ?_
  refine Bod.go dc_108_39 rfl ?_
  refine Bod.go dc_108_40 rfl ?_
  refine Bod.ic 1 (by decide) dc_108_41 ?_
  refine Bod.addN (dp + 1) (by omega) dc_108_42 ?_
  refine Bod.virt (r := []) dc_108_43 kr_108_226 ⟨Or.inl rfl, ow_84, cl_10⟩ (by rw [np_84]; rfl) (by rw [np_84]; rfl) (ob_of (mk_43 _)) (Nat.le_of_ble_eq_true rfl) (c3  ) ?_
  show Bod _ _ _ _ [] _ _ _
  refine Bod.go dc_108_46 rfl ?_
  refine Bod.go dc_108_47 rfl ?_
  refine Bod.get dc_108_48 fr_108_46 (mk_43 _) rfl ?_
  refine Bod.eqI (nI tr1) (by first | (simp (disch := omega) only [rI, rIe, rA, rIA, rLA, rJA, rVI, rQI, rVA, rQA, upd_at,  rAI, rLI, rJI, nI_add, pk_sub, kc_0, kc_1, kc_2, kc_3, kc_4, kc_5, reduceIte, Nat.reduceEqDiff, Nat.add_zero, rI_hold, rI_hold, rL_hold, hind, htr, htr1]; done) | (simp (disch := omega) only [rI, rIe, rA, rIA, rLA, rJA, rVI, rQI, rVA, rQA, upd_at,  rAI, rLI, rJI, nI_add, pk_sub, kc_0, kc_1, kc_2, kc_3, kc_4, kc_5, reduceIte, Nat.reduceEqDiff, Nat.add_zero, rI_hold, rI_hold, rL_hold, hind, htr, htr1]; exact congrArg nI (by omega))) ?_
  refine Bod.ic 1 (by decide) dc_108_51 ?_
  refine Bod.subN (tr1 - 1) (by omega) (by omega) dc_108_52 ?_
  refine Bod.put dc_108_53 fr_108_46 (mk_43 _) (Nat.le_of_ble_eq_true rfl) pf_10_8 (st_4308 _ _) (mu_I _ _ _) ?_
  refine Bod.go dc_108_56 rfl ?_
  refine Bod.get dc_108_57 fr_108_15 (mk_43 _) rfl ?_
  refine Bod.bip 13 (by decide) dc_108_60 ?_
  refine Bod.ic 1 (by decide) dc_108_62 ?_
  refine Bod.virt (r := []) dc_108_63 kr_108_116 ⟨Or.inr rfl, ow_54, cl_7⟩ (by rw [np_54]; rfl) (by rw [np_54]; rfl) (ob_of (mk_23 _)) (Nat.le_of_ble_eq_true rfl) (c4  ) ?_
  show Bod _ _ _ _ [_] _ _ _
  refine Bod.go dc_108_66 rfl ?_
  refine Bod.go dc_108_67 rfl ?_
  refine Bod.get dc_108_68 fr_108_15 (mk_43 _) rfl ?_
  refine Bod.ic 4 (by decide) dc_108_71 ?_
  refine Bod.ic 0 (by decide) dc_108_72 ?_
  refine Bod.virt (r := []) dc_108_73 kr_108_116 ⟨Or.inr rfl, ow_54, cl_7⟩ (by rw [np_54]; rfl) (by rw [np_54]; rfl) (ob_of (mk_23 _)) (Nat.le_of_ble_eq_true rfl) (c5  ) ?_
  show Bod _ _ _ _ [_] _ _ _
  refine Bod.ist dc_108_76 (by rw [ml_108]; exact Nat.le_of_ble_eq_true rfl) ?_
  refine Bod.go dc_108_78 rfl ?_
  refine Bod.get dc_108_79 fr_108_15 (mk_43 _) rfl ?_
  refine Bod.go dc_108_82 rfl ?_
  refine Bod.ic 1 (by decide) dc_108_83 ?_
  refine Bod.addN (a + 1) (by omega) dc_108_84 ?_
  refine Bod.go dc_108_85 rfl ?_
  refine Bod.get dc_108_86 fr_108_15 (mk_43 _) rfl ?_
  refine Bod.get dc_108_89 fr_108_69 (mk_23 _) rfl ?_
  refine Bod.eqI (nI top) (by first | (simp (disch := omega) only [rI, rIe, rA, rIA, rLA, rJA, rVI, rQI, rVA, rQA, upd_at,  rAI, rLI, rJI, nI_add, pk_sub, kc_0, kc_1, kc_2, kc_3, kc_4, kc_5, reduceIte, Nat.reduceEqDiff, Nat.add_zero, rI_hold, rI_hold, rL_hold, hind, htr, htr1, htop]; done) | (simp (disch := omega) only [rI, rIe, rA, rIA, rLA, rJA, rVI, rQI, rVA, rQA, upd_at,  rAI, rLI, rJI, nI_add, pk_sub, kc_0, kc_1, kc_2, kc_3, kc_4, kc_5, reduceIte, Nat.reduceEqDiff, Nat.add_zero, rI_hold, rI_hold, rL_hold, hind, htr, htr1, htop]; exact congrArg nI (by omega))) ?_
  refine Bod.virt (r := []) dc_108_92 kr_108_201 ⟨Or.inr rfl, ow_83, cl_7⟩ (by rw [np_83]; rfl) (by rw [np_83]; rfl) (ob_of (mk_23 _)) (Nat.le_of_ble_eq_true rfl) (c6  ) ?_
  show Bod _ _ _ _ [] _ _ _
  refine Bod.go dc_108_95 rfl ?_
  refine Bod.go dc_108_96 rfl ?_
  refine Bod.virt (r := []) dc_108_97 kr_108_89 ⟨Or.inl rfl, ow_52, cl_10⟩ (by rw [np_52]; rfl) (by rw [np_52]; rfl) (ob_of (mk_43 _)) (Nat.le_of_ble_eq_true rfl) (c7  ) ?_
  show Bod _ _ _ _ [_] _ _ _
  refine Bod.ifF dc_108_100 rfl (k1_ne_F (k_eq 0 0 rfl rfl (by omega))) ?_
  refine Bod.go dc_108_103 rfl ?_
  refine Bod.get dc_108_104 fr_108_9 (mk_43 _) rfl ?_
  refine Bod.virt (r := []) dc_108_107 kr_108_76 ⟨Or.inr rfl, ow_44, cl_3⟩ (by rw [np_44]; rfl) (by rw [np_44]; rfl) (ob_of (mk_31 _)) (Nat.le_of_ble_eq_true rfl) (c8  ) ?_
  show Bod _ _ _ _ [] _ _ _
  refine Bod.go dc_108_110 rfl ?_
  refine Bod.get dc_108_111 fr_108_9 (mk_43 _) rfl ?_
  refine Bod.bip 55 (by decide) dc_108_114 ?_
  refine Bod.virt (r := []) dc_108_116 kr_108_107 ⟨Or.inr rfl, ow_75, cl_3⟩ (by rw [np_75]; rfl) (by rw [np_75]; rfl) (ob_of (mk_31 _)) (Nat.le_of_ble_eq_true rfl) (c9  ) ?_
  show Bod _ _ _ _ [] _ _ _
  refine Bod.go dc_108_119 rfl ?_
  refine Bod.get dc_108_120 fr_108_9 (mk_43 _) rfl ?_
  refine Bod.get dc_108_123 fr_108_79 (mk_31 _) rfl ?_
  refine Bod.eqI (nI tk) (by first | (simp (disch := omega) only [rI, rIe, rA, rIA, rLA, rJA, rVI, rQI, rVA, rQA, upd_at,  rAI, rLI, rJI, nI_add, pk_sub, kc_0, kc_1, kc_2, kc_3, kc_4, kc_5, reduceIte, Nat.reduceEqDiff, Nat.add_zero, rI_hold, rI_hold, rL_hold, hind, htr, htr1, htop, htk]; done) | (simp (disch := omega) only [rI, rIe, rA, rIA, rLA, rJA, rVI, rQI, rVA, rQA, upd_at,  rAI, rLI, rJI, nI_add, pk_sub, kc_0, kc_1, kc_2, kc_3, kc_4, kc_5, reduceIte, Nat.reduceEqDiff, Nat.add_zero, rI_hold, rI_hold, rL_hold, hind, htr, htr1, htop, htk]; exact congrArg nI (by omega))) ?_
  refine Bod.ic 3 (by decide) dc_108_126 ?_
  refine Bod.icT dc_108_127 rfl (k2_ne_T (k_ne tk 3 rfl rfl (by omega) (by omega) (by omega))) ?_
  refine Bod.go dc_108_141 rfl ?_
  refine Bod.get dc_108_142 fr_108_15 (mk_43 _) rfl ?_
  refine Bod.bip 17 (by decide) dc_108_145 ?_
  refine Bod.virt (r := []) dc_108_147 kr_108_72 ⟨Or.inr rfl, ow_71, cl_7⟩ (by rw [np_71]; rfl) (by rw [np_71]; rfl) (ob_of (mk_23 _)) (Nat.le_of_ble_eq_true rfl) (c10  ) ?_
  show Bod _ _ _ _ [_] _ _ _
  refine Bod.go dc_108_150 rfl ?_
  refine Bod.go dc_108_151 rfl ?_
  refine Bod.go dc_108_152 rfl ?_
  refine Bod.go dc_108_153 rfl ?_
  refine Bod.ic 1 (by decide) dc_108_154 ?_
  refine Bod.addN (dp + 1) (by omega) dc_108_155 ?_
  refine Bod.virt (r := []) dc_108_156 kr_108_226 ⟨Or.inl rfl, ow_84, cl_10⟩ (by rw [np_84]; rfl) (by rw [np_84]; rfl) (ob_of (mk_43 _)) (Nat.le_of_ble_eq_true rfl) (c11  ) ?_
  show Bod _ _ _ _ [] _ _ _
  refine Bod.go dc_108_159 rfl ?_
  refine Bod.get dc_108_160 fr_108_15 (mk_43 _) rfl ?_
  refine Bod.go dc_108_163 rfl ?_
  refine Bod.ic 1 (by decide) dc_108_165 ?_
  refine Bod.addN (a2 + 1) (by omega) dc_108_166 ?_
  refine Bod.go dc_108_167 rfl ?_
  refine Bod.get dc_108_168 fr_108_15 (mk_43 _) rfl ?_
  refine Bod.get dc_108_171 fr_108_69 (mk_23 _) rfl ?_
  refine Bod.eqI (nI top1) (by first | (simp (disch := omega) only [rI, rIe, rA, rIA, rLA, rJA, rVI, rQI, rVA, rQA, upd_at,  rAI, rLI, rJI, nI_add, pk_sub, kc_0, kc_1, kc_2, kc_3, kc_4, kc_5, reduceIte, Nat.reduceEqDiff, Nat.add_zero, rI_hold, rI_hold, rL_hold, hind, htr, htr1, htop, htk, htop1]; done) | (simp (disch := omega) only [rI, rIe, rA, rIA, rLA, rJA, rVI, rQI, rVA, rQA, upd_at,  rAI, rLI, rJI, nI_add, pk_sub, kc_0, kc_1, kc_2, kc_3, kc_4, kc_5, reduceIte, Nat.reduceEqDiff, Nat.add_zero, rI_hold, rI_hold, rL_hold, hind, htr, htr1, htop, htk, htop1]; exact congrArg nI (by omega))) ?_
  refine Bod.virt (r := []) dc_108_174 kr_108_201 ⟨Or.inr rfl, ow_83, cl_7⟩ (by rw [np_83]; rfl) (by rw [np_83]; rfl) (ob_of (mk_23 _)) (Nat.le_of_ble_eq_true rfl) (c12  ) ?_
  show Bod _ _ _ _ [] _ _ _
  exact Bod.retV dc_108_177 rt_108
theorem cTrr_4 {d : Nat} {S : cS} {dp : Nat} {ind : Nat} {S1 : cS} {S2 : cS} {a : Nat} {tr : Nat} {S3 : cS} {tr1 : Nat} {S4 : cS} {a1 : Nat} {S5 : cS} {a2 : Nat} {top : Nat} {S6 : cS} {S7 : cS} {S8 : cS} {S9 : cS} {tk : Nat} {S10 : cS} {b : Int32} {S11 : cS} {S12 : cS} {top1 : Nat} {S13 : cS} (mdp : dp < 2 ^ 20) (hind : sI S 3108 = nI ind) (mind : ind < 2 ^ 20) (c1 : Ans (d + 8) 75 [.ref 31, .int (nI 54)] S none S1) (ma : a < 2 ^ 20) (c2 : Ans (d + 8) 54 [.ref 23, .int (nI 12), .int (nI 0)] S1 (some (.int (nI a))) S2) (htr : sI S2 4308 = nI tr) (mtr : tr < 2 ^ 20) (c3 : Ans (d + 8) 84 [.ref 43, .int (nI ind), .int (nI (dp + 1))] (wI 4308 (nI (tr + 1)) S2) none S3) (htr1 : sI S3 4308 = nI tr1) (mtr1 : tr1 < 2 ^ 20) (b1 : 1 ≤ tr1) (ma1 : a1 < 2 ^ 20) (c4 : Ans (d + 8) 54 [.ref 23, .int (nI 13), .int (nI 1)] (wI 4308 (nI (tr1 - 1)) S3) (some (.int (nI a1))) S4) (ma2 : a2 < 2 ^ 20) (c5 : Ans (d + 8) 54 [.ref 23, .int (nI 4), .int (nI 0)] S4 (some (.int (nI a2))) S5) (htop : sI S5 2307 = nI top) (mtop : top < 2 ^ 20) (c6 : Ans (d + 8) 83 [.ref 23, .int (nI (a + 1)), .int (nI top)] S5 none S6) (c7 : Ans (d + 8) 52 [.ref 43, .int (nI ind)] S6 (some (.int (nI 0))) S7) (c8 : Ans (d + 8) 44 [.ref 31] S7 none S8) (c9 : Ans (d + 8) 75 [.ref 31, .int (nI 55)] S8 none S9) (htk : sI S9 3105 = nI tk) (mtk : tk < 2 ^ 20) (b2 : tk = 3) (c10 : Ans (d + 8) 92 [.ref 43] S9 (some (.int b)) S10) (c11 : Ans (d + 8) 93 [.ref 43, .int b] S10 none S11) (c12 : Ans (d + 8) 84 [.ref 43, .int (nI ind), .int (nI (dp + 1))] S11 none S12) (htop1 : sI S12 2307 = nI top1) (mtop1 : top1 < 2 ^ 20) (c13 : Ans (d + 8) 83 [.ref 23, .int (nI (a2 + 1)), .int (nI top1)] S12 none S13) : Bod (d + 8) 108 0 [(0, .ref 43), (1, .int (nI dp))] [] S none (S13) := by
  refine Bod.go dc_108_0 rfl ?_
  refine Bod.get dc_108_1 fr_108_9 (mk_43 _) rfl ?_
  refine Bod.get dc_108_4 fr_108_96 (mk_31 _) rfl ?_
  refine Bod.eqI (nI ind) (by first | assumption | rfl | exact congrArg nI (by omega) | (simp (disch := omega) only [rI, rIe, rA, rIA, rLA, rJA, rVI, rQI, rVA, rQA, upd_at,  rAI, rLI, rJI, nI_add, pk_sub, kc_0, kc_1, kc_2, kc_3, kc_4, kc_5, reduceIte, Nat.reduceEqDiff, Nat.add_zero, rI_hold, rI_hold, rL_hold, hind]; done)) ?_
  refine Bod.istn dc_108_7 (by rw [ml_108]; exact Nat.le_of_ble_eq_true rfl) ?_
  refine Bod.go dc_108_8 rfl ?_
  refine Bod.get dc_108_9 fr_108_9 (mk_43 _) rfl ?_
  refine Bod.bip 54 (by decide) dc_108_12 ?_
  refine Bod.virt (r := []) dc_108_14 kr_108_107 ⟨Or.inr rfl, ow_75, cl_3⟩ (by rw [np_75]; rfl) (by rw [np_75]; rfl) (ob_of (mk_31 _)) (Nat.le_of_ble_eq_true rfl) (c1  ) ?_
  show Bod _ _ _ _ [] _ _ _
  refine Bod.go dc_108_17 rfl ?_
  refine Bod.get dc_108_18 fr_108_15 (mk_43 _) rfl ?_
  refine Bod.bip 12 (by decide) dc_108_21 ?_
  refine Bod.ic 0 (by decide) dc_108_23 ?_
  refine Bod.virt (r := []) dc_108_24 kr_108_116 ⟨Or.inr rfl, ow_54, cl_7⟩ (by rw [np_54]; rfl) (by rw [np_54]; rfl) (ob_of (mk_23 _)) (Nat.le_of_ble_eq_true rfl) (c2  ) ?_
  show Bod _ _ _ _ [_] _ _ _
  refine Bod.istn dc_108_27 (by rw [ml_108]; exact Nat.le_of_ble_eq_true rfl) ?_
  refine Bod.go dc_108_28 rfl ?_
  refine Bod.go dc_108_29 rfl ?_
  refine Bod.get dc_108_30 fr_108_46 (mk_43 _) rfl ?_
  refine Bod.eqI (nI tr) (by first | (simp (disch := omega) only [rI, rIe, rA, rIA, rLA, rJA, rVI, rQI, rVA, rQA, upd_at,  rAI, rLI, rJI, nI_add, pk_sub, kc_0, kc_1, kc_2, kc_3, kc_4, kc_5, reduceIte, Nat.reduceEqDiff, Nat.add_zero, rI_hold, rI_hold, rL_hold, hind, htr]; done) | (simp (disch := omega) only [rI, rIe, rA, rIA, rLA, rJA, rVI, rQI, rVA, rQA, upd_at,  rAI, rLI, rJI, nI_add, pk_sub, kc_0, kc_1, kc_2, kc_3, kc_4, kc_5, reduceIte, Nat.reduceEqDiff, Nat.add_zero, rI_hold, rI_hold, rL_hold, hind, htr]; exact congrArg nI (by omega))) ?_
  refine Bod.ic 1 (by decide) dc_108_33 ?_
  refine Bod.addN (tr + 1) (by omega) dc_108_34 ?_
  refine Bod.put dc_108_35 fr_108_46 (mk_43 _) (Nat.le_of_ble_eq_true rfl) pf_10_8 (st_4308 _ _) (mu_I _ _ _) ?_
  refine Bod.go dc_108_38 rfl ?_
  refine Bod.go dc_108_39 rfl ?_
  refine Bod.go dc_108_40 rfl ?_
  refine Bod.ic 1 (by decide) dc_108_41 ?_
  refine Bod.addN (dp + 1) (by omega) dc_108_42 ?_
  refine Bod.virt (r := []) dc_108_43 kr_108_226 ⟨Or.inl rfl, ow_84, cl_10⟩ (by rw [np_84]; rfl) (by rw [np_84]; rfl) (ob_of (mk_43 _)) (Nat.le_of_ble_eq_true rfl) (c3  ) ?_
  show Bod _ _ _ _ [] _ _ _
  refine Bod.go dc_108_46 rfl ?_
  refine Bod.go dc_108_47 rfl ?_
  refine Bod.get dc_108_48 fr_108_46 (mk_43 _) rfl ?_
  refine Bod.eqI (nI tr1) (by first | (simp (disch := omega) only [rI, rIe, rA, rIA, rLA, rJA, rVI, rQI, rVA, rQA, upd_at,  rAI, rLI, rJI, nI_add, pk_sub, kc_0, kc_1, kc_2, kc_3, kc_4, kc_5, reduceIte, Nat.reduceEqDiff, Nat.add_zero, rI_hold, rI_hold, rL_hold, hind, htr, htr1]; done) | (simp (disch := omega) only [rI, rIe, rA, rIA, rLA, rJA, rVI, rQI, rVA, rQA, upd_at,  rAI, rLI, rJI, nI_add, pk_sub, kc_0, kc_1, kc_2, kc_3, kc_4, kc_5, reduceIte, Nat.reduceEqDiff, Nat.add_zero, rI_hold, rI_hold, rL_hold, hind, htr, htr1]; exact congrArg nI (by omega))) ?_
  refine Bod.ic 1 (by decide) dc_108_51 ?_
  refine Bod.subN (tr1 - 1) (by omega) (by omega) dc_108_52 ?_
  refine Bod.put dc_108_53 fr_108_46 (mk_43 _) (Nat.le_of_ble_eq_true rfl) pf_10_8 (st_4308 _ _) (mu_I _ _ _) ?_
  refine Bod.go dc_108_56 rfl ?_
  refine Bod.get dc_108_57 fr_108_15 (mk_43 _) rfl ?_
  refine Bod.bip 13 (by decide) dc_108_60 ?_
  refine Bod.ic 1 (by decide) dc_108_62 ?_
  refine Bod.virt (r := []) dc_108_63 kr_108_116 ⟨Or.inr rfl, ow_54, cl_7⟩ (by rw [np_54]; rfl) (by rw [np_54]; rfl) (ob_of (mk_23 _)) (Nat.le_of_ble_eq_true rfl) (c4  ) ?_
  show Bod _ _ _ _ [_] _ _ _
  refine Bod.go dc_108_66 rfl ?_
  refine Bod.go dc_108_67 rfl ?_
  refine Bod.get dc_108_68 fr_108_15 (mk_43 _) rfl ?_
  refine Bod.ic 4 (by decide) dc_108_71 ?_
  refine Bod.ic 0 (by decide) dc_108_72 ?_
  refine Bod.virt (r := []) dc_108_73 kr_108_116 ⟨Or.inr rfl, ow_54, cl_7⟩ (by rw [np_54]; rfl) (by rw [np_54]; rfl) (ob_of (mk_23 _)) (Nat.le_of_ble_eq_true rfl) (c5  ) ?_
  show Bod _ _ _ _ [_] _ _ _
  refine Bod.ist dc_108_76 (by rw [ml_108]; exact Nat.le_of_ble_eq_true rfl) ?_
  refine Bod.go dc_108_78 rfl ?_
  refine Bod.get dc_108_79 fr_108_15 (mk_43 _) rfl ?_
  refine Bod.go dc_108_82 rfl ?_
  refine Bod.ic 1 (by decide) dc_108_83 ?_
  refine Bod.addN (a + 1) (by omega) dc_108_84 ?_
  refine Bod.go dc_108_85 rfl ?_
  refine Bod.get dc_108_86 fr_108_15 (mk_43 _) rfl ?_
  refine Bod.get dc_108_89 fr_108_69 (mk_23 _) rfl ?_
  refine Bod.eqI (nI top) (by first | (simp (disch := omega) only [rI, rIe, rA, rIA, rLA, rJA, rVI, rQI, rVA, rQA, upd_at,  rAI, rLI, rJI, nI_add, pk_sub, kc_0, kc_1, kc_2, kc_3, kc_4, kc_5, reduceIte, Nat.reduceEqDiff, Nat.add_zero, rI_hold, rI_hold, rL_hold, hind, htr, htr1, htop]; done) | (simp (disch := omega) only [rI, rIe, rA, rIA, rLA, rJA, rVI, rQI, rVA, rQA, upd_at,  rAI, rLI, rJI, nI_add, pk_sub, kc_0, kc_1, kc_2, kc_3, kc_4, kc_5, reduceIte, Nat.reduceEqDiff, Nat.add_zero, rI_hold, rI_hold, rL_hold, hind, htr, htr1, htop]; exact congrArg nI (by omega))) ?_
  refine Bod.virt (r := []) dc_108_92 kr_108_201 ⟨Or.inr rfl, ow_83, cl_7⟩ (by rw [np_83]; rfl) (by rw [np_83]; rfl) (ob_of (mk_23 _)) (Nat.le_of_ble_eq_true rfl) (c6  ) ?_
  show Bod _ _ _ _ [] _ _ _
  refine Bod.go dc_108_95 rfl ?_
  refine Bod.go dc_108_96 rfl ?_
  refine Bod.virt (r := []) dc_108_97 kr_108_89 ⟨Or.inl rfl, ow_52, cl_10⟩ (by rw [np_52]; rfl) (by rw [np_52]; rfl) (ob_of (mk_43 _)) (Nat.le_of_ble_eq_true rfl) (c7  ) ?_
  show Bod _ _ _ _ [_] _ _ _
  refine Bod.ifF dc_108_100 rfl (k1_ne_F (k_eq 0 0 rfl rfl (by omega))) ?_
  refine Bod.go dc_108_103 rfl ?_
  refine Bod.get dc_108_104 fr_108_9 (mk_43 _) rfl ?_
  refine Bod.virt (r := []) dc_108_107 kr_108_76 ⟨Or.inr rfl, ow_44, cl_3⟩ (by rw [np_44]; rfl) (by rw [np_44]; rfl) (ob_of (mk_31 _)) (Nat.le_of_ble_eq_true rfl) (c8  ) ?_
  show Bod _ _ _ _ [] _ _ _
  refine Bod.go dc_108_110 rfl ?_
  refine Bod.get dc_108_111 fr_108_9 (mk_43 _) rfl ?_
  refine Bod.bip 55 (by decide) dc_108_114 ?_
  refine Bod.virt (r := []) dc_108_116 kr_108_107 ⟨Or.inr rfl, ow_75, cl_3⟩ (by rw [np_75]; rfl) (by rw [np_75]; rfl) (ob_of (mk_31 _)) (Nat.le_of_ble_eq_true rfl) (c9  ) ?_
  show Bod _ _ _ _ [] _ _ _
  refine Bod.go dc_108_119 rfl ?_
  refine Bod.get dc_108_120 fr_108_9 (mk_43 _) rfl ?_
  refine Bod.get dc_108_123 fr_108_79 (mk_31 _) rfl ?_
  refine Bod.eqI (nI tk) (by first | (simp (disch := omega) only [rI, rIe, rA, rIA, rLA, rJA, rVI, rQI, rVA, rQA, upd_at,  rAI, rLI, rJI, nI_add, pk_sub, kc_0, kc_1, kc_2, kc_3, kc_4, kc_5, reduceIte, Nat.reduceEqDiff, Nat.add_zero, rI_hold, rI_hold, rL_hold, hind, htr, htr1, htop, htk]; done) | (simp (disch := omega) only [rI, rIe, rA, rIA, rLA, rJA, rVI, rQI, rVA, rQA, upd_at,  rAI, rLI, rJI, nI_add, pk_sub, kc_0, kc_1, kc_2, kc_3, kc_4, kc_5, reduceIte, Nat.reduceEqDiff, Nat.add_zero, rI_hold, rI_hold, rL_hold, hind, htr, htr1, htop, htk]; exact congrArg nI (by omega))) ?_
  refine Bod.ic 3 (by decide) dc_108_126 ?_
  refine Bod.icF dc_108_127 rfl (k2_ne_F (k_eq tk 3 rfl rfl (by omega))) ?_
  refine Bod.go dc_108_130 rfl ?_
  refine Bod.go dc_108_131 rfl ?_
  refine Bod.virt (r := [_]) dc_108_132 kr_108_220 ⟨Or.inl rfl, ow_92, cl_10⟩ (by rw [np_92]; rfl) (by rw [np_92]; rfl) (ob_of (mk_43 _)) (Nat.le_of_ble_eq_true rfl) (c10  ) ?_
  show Bod _ _ _ _ [_, _] _ _ _
  refine Bod.virt (r := []) dc_108_135 kr_108_131 ⟨Or.inl rfl, ow_93, cl_10⟩ (by rw [np_93]; rfl) (by rw [np_93]; rfl) (ob_of (mk_43 _)) (Nat.le_of_ble_eq_true rfl) (c11  ) ?_
  show Bod _ _ _ _ [] _ _ _
  refine Bod.go dc_108_138 rfl ?_
  refine Bod.go dc_108_151 rfl ?_
  refine Bod.go dc_108_152 rfl ?_
  refine Bod.go dc_108_153 rfl ?_
  refine Bod.ic 1 (by decide) dc_108_154 ?_
  refine Bod.addN (dp + 1) (by omega) dc_108_155 ?_
  refine Bod.virt (r := []) dc_108_156 kr_108_226 ⟨Or.inl rfl, ow_84, cl_10⟩ (by rw [np_84]; rfl) (by rw [np_84]; rfl) (ob_of (mk_43 _)) (Nat.le_of_ble_eq_true rfl) (c12  ) ?_
  show Bod _ _ _ _ [] _ _ _
  refine Bod.go dc_108_159 rfl ?_
  refine Bod.get dc_108_160 fr_108_15 (mk_43 _) rfl ?_
  refine Bod.go dc_108_163 rfl ?_
  refine Bod.ic 1 (by decide) dc_108_165 ?_
  refine Bod.addN (a2 + 1) (by omega) dc_108_166 ?_
  refine Bod.go dc_108_167 rfl ?_
  refine Bod.get dc_108_168 fr_108_15 (mk_43 _) rfl ?_
  refine Bod.get dc_108_171 fr_108_69 (mk_23 _) rfl ?_
  refine Bod.eqI (nI top1) (by first | (simp (disch := omega) only [rI, rIe, rA, rIA, rLA, rJA, rVI, rQI, rVA, rQA, upd_at,  rAI, rLI, rJI, nI_add, pk_sub, kc_0, kc_1, kc_2, kc_3, kc_4, kc_5, reduceIte, Nat.reduceEqDiff, Nat.add_zero, rI_hold, rI_hold, rL_hold, hind, htr, htr1, htop, htk, htop1]; done) | (simp (disch := omega) only [rI, rIe, rA, rIA, rLA, rJA, rVI, rQI, rVA, rQA, upd_at,  rAI, rLI, rJI, nI_add, pk_sub, kc_0, kc_1, kc_2, kc_3, kc_4, kc_5, reduceIte, Nat.reduceEqDiff, Nat.add_zero, rI_hold, rI_hold, rL_hold, hind, htr, htr1, htop, htk, htop1]; exact congrArg nI (by omega))) ?_
  refine Bod.virt (r := []) dc_108_174 kr_108_201 ⟨Or.inr rfl, ow_83, cl_7⟩ (by rw [np_83]; rfl) (by rw [np_83]; rfl) (ob_of (mk_23 _)) (Nat.le_of_ble_eq_true rfl) (c13  ) ?_
  show Bod _ _ _ _ [] _ _ _
  exact Bod.retV dc_108_177 rt_108
theorem cGlr_1 {d : Nat} {S : cS} {lv : sm_L} {m : Nat} {t : Nat} (q1 : sm_get lv 1 = some (.int (nI m))) (q2 : sm_get lv 2 = some (.int (nI t))) (q0 : sm_get lv 0 = some (.ref 43)) (mm : m < 2 ^ 20) (mt : t < 2 ^ 20) (b1 : m = 0) : Bod (d + 8) 115 35 lv [] S none (S) := by
  refine Bod.ildnG dc_115_35 (by repeat (first | exact q1 | exact sm_get_p1 | exact sm_get_p2e | refine sm_get_p1m (by decide) (by decide) ?_ | refine sm_get_p1n (by decide) rfl ?_ | refine sm_get_p2n (by decide) (by decide) rfl ?_)) ?_
  refine Bod.ifT dc_115_36 rfl (k1_eq_T (k_eq m 0 rfl rfl (by omega))) ?_
  exact Bod.retV dc_115_110 rt_115
theorem cGlr_2 {d : Nat} {S : cS} {lv : sm_L} {m : Nat} {t : Nat} (q1 : sm_get lv 1 = some (.int (nI m))) (q2 : sm_get lv 2 = some (.int (nI t))) (q0 : sm_get lv 0 = some (.ref 43)) (mm : m < 2 ^ 20) (mt : t < 2 ^ 20) (b1 : m ≠ 0) (b2 : 3000 ≤ t) : Bod (d + 8) 115 35 lv [] S none (S) := by
  refine Bod.ildnG dc_115_35 (by repeat (first | exact q1 | exact sm_get_p1 | exact sm_get_p2e | refine sm_get_p1m (by decide) (by decide) ?_ | refine sm_get_p1n (by decide) rfl ?_ | refine sm_get_p2n (by decide) (by decide) rfl ?_)) ?_
  refine Bod.ifF dc_115_36 rfl (k1_eq_F (k_ne m 0 rfl rfl (by omega) (by omega) (by omega))) ?_
  refine Bod.ildnG dc_115_39 (by repeat (first | exact q2 | exact sm_get_p1 | exact sm_get_p2e | refine sm_get_p1m (by decide) (by decide) ?_ | refine sm_get_p1n (by decide) rfl ?_ | refine sm_get_p2n (by decide) (by decide) rfl ?_)) ?_
  refine Bod.sip 3000 (by decide) dc_115_40 ?_
  refine Bod.icT dc_115_43 rfl (k2_ge_T t 3000 rfl rfl (by omega) (by omega)) ?_
  exact Bod.retV dc_115_110 rt_115
theorem cGlr_3 {d : Nat} {S Sf : cS} {v : Option Value} {lv : sm_L} {m : Nat} {t : Nat} {S1 : cS} {S2 : cS} {b : Int32} {tk : Nat} (q1 : sm_get lv 1 = some (.int (nI m))) (q2 : sm_get lv 2 = some (.int (nI t))) (q0 : sm_get lv 0 = some (.ref 43)) (mm : m < 2 ^ 20) (mt : t < 2 ^ 20) (b1 : m ≠ 0) (b2 : t < 3000) (c1 : Ans (d + 8) 40 [.ref 31] S none S1) (c2 : Ans (d + 8) 92 [.ref 43] S1 (some (.int b)) S2) (htk : sI S2 3105 = nI tk) (mtk : tk < 2 ^ 20) (b3 : tk = 0) (b4 : tk ≠ 12) (hB : ∀ lv1 : sm_L, sm_get lv1 0 = some (.ref 43) → sm_get lv1 1 = some (.int (nI 0)) → sm_get lv1 2 = some (.int (nI (t + 1))) → Bod (d + 8) 115 35 lv1 [] (S2) v Sf) : Bod (d + 8) 115 35 lv [] S v Sf := by
  refine Bod.ildnG dc_115_35 (by repeat (first | exact q1 | exact sm_get_p1 | exact sm_get_p2e | refine sm_get_p1m (by decide) (by decide) ?_ | refine sm_get_p1n (by decide) rfl ?_ | refine sm_get_p2n (by decide) (by decide) rfl ?_)) ?_
  refine Bod.ifF dc_115_36 rfl (k1_eq_F (k_ne m 0 rfl rfl (by omega) (by omega) (by omega))) ?_
  refine Bod.ildnG dc_115_39 (by repeat (first | exact q2 | exact sm_get_p1 | exact sm_get_p2e | refine sm_get_p1m (by decide) (by decide) ?_ | refine sm_get_p1n (by decide) rfl ?_ | refine sm_get_p2n (by decide) (by decide) rfl ?_)) ?_
  refine Bod.sip 3000 (by decide) dc_115_40 ?_
  refine Bod.icF dc_115_43 rfl (k2_ge_F t 3000 rfl rfl (by omega) (by omega)) ?_
  refine Bod.aldnG dc_115_46 (by repeat (first | exact q0 | exact sm_get_p1 | exact sm_get_p2e | refine sm_get_p1m (by decide) (by decide) ?_ | refine sm_get_p1n (by decide) rfl ?_ | refine sm_get_p2n (by decide) (by decide) rfl ?_)) ?_
  refine Bod.get dc_115_47 fr_115_9 (mk_43 _) rfl ?_
  refine Bod.virt (r := []) dc_115_50 kr_115_192 ⟨Or.inr rfl, ow_40, cl_3⟩ (by rw [np_40]; rfl) (by rw [np_40]; rfl) (ob_of (mk_31 _)) (Nat.le_of_ble_eq_true rfl) (c1  ) ?_
  show Bod _ _ _ _ [] _ _ _
  refine Bod.aldnG dc_115_53 (by repeat (first | exact q0 | exact sm_get_p1 | exact sm_get_p2e | refine sm_get_p1m (by decide) (by decide) ?_ | refine sm_get_p1n (by decide) rfl ?_ | refine sm_get_p2n (by decide) (by decide) rfl ?_)) ?_
  refine Bod.virt (r := []) dc_115_54 kr_115_220 ⟨Or.inl rfl, ow_92, cl_10⟩ (by rw [np_92]; rfl) (by rw [np_92]; rfl) (ob_of (mk_43 _)) (Nat.le_of_ble_eq_true rfl) (c2  ) ?_
  show Bod _ _ _ _ [_] _ _ _
  refine Bod.istn dc_115_57 (by rw [ml_115]; exact Nat.le_of_ble_eq_true rfl) ?_
  refine Bod.aldnG dc_115_58 (by repeat (first | exact q0 | exact sm_get_p1 | exact sm_get_p2e | refine sm_get_p1m (by decide) (by decide) ?_ | refine sm_get_p1n (by decide) rfl ?_ | refine sm_get_p2n (by decide) (by decide) rfl ?_)) ?_
  refine Bod.get dc_115_59 fr_115_9 (mk_43 _) rfl ?_
  refine Bod.get dc_115_62 fr_115_79 (mk_31 _) rfl ?_
  refine Bod.eqI (nI tk) (by first | (simp (disch := omega) only [rI, rIe, rA, rIA, rLA, rJA, rVI, rQI, rVA, rQA, upd_at,  rAI, rLI, rJI, nI_add, pk_sub, kc_0, kc_1, kc_2, kc_3, kc_4, kc_5, reduceIte, Nat.reduceEqDiff, Nat.add_zero, rI_hold, rI_hold, rL_hold, htk]; done) | (simp (disch := omega) only [rI, rIe, rA, rIA, rLA, rJA, rVI, rQI, rVA, rQA, upd_at,  rAI, rLI, rJI, nI_add, pk_sub, kc_0, kc_1, kc_2, kc_3, kc_4, kc_5, reduceIte, Nat.reduceEqDiff, Nat.add_zero, rI_hold, rI_hold, rL_hold, htk]; exact congrArg nI (by omega))) ?_
  refine Bod.ifT dc_115_65 rfl (k1_eq_T (k_eq tk 0 rfl rfl (by omega))) ?_
  refine Bod.aldnG dc_115_86 (by repeat (first | exact q0 | exact sm_get_p1 | exact sm_get_p2e | refine sm_get_p1m (by decide) (by decide) ?_ | refine sm_get_p1n (by decide) rfl ?_ | refine sm_get_p2n (by decide) (by decide) rfl ?_)) ?_
  refine Bod.get dc_115_87 fr_115_9 (mk_43 _) rfl ?_
  refine Bod.get dc_115_90 fr_115_79 (mk_31 _) rfl ?_
  refine Bod.eqI (nI tk) (by first | (simp (disch := omega) only [rI, rIe, rA, rIA, rLA, rJA, rVI, rQI, rVA, rQA, upd_at,  rAI, rLI, rJI, nI_add, pk_sub, kc_0, kc_1, kc_2, kc_3, kc_4, kc_5, reduceIte, Nat.reduceEqDiff, Nat.add_zero, rI_hold, rI_hold, rL_hold, htk]; done) | (simp (disch := omega) only [rI, rIe, rA, rIA, rLA, rJA, rVI, rQI, rVA, rQA, upd_at,  rAI, rLI, rJI, nI_add, pk_sub, kc_0, kc_1, kc_2, kc_3, kc_4, kc_5, reduceIte, Nat.reduceEqDiff, Nat.add_zero, rI_hold, rI_hold, rL_hold, htk]; exact congrArg nI (by omega))) ?_
  refine Bod.bip 12 (by decide) dc_115_93 ?_
  refine Bod.icT dc_115_95 rfl (k2_ne_T (k_ne tk 12 rfl rfl (by omega) (by omega) (by omega))) ?_
  refine Bod.ic 0 (by decide) dc_115_102 ?_
  refine Bod.istn dc_115_103 (by rw [ml_115]; exact Nat.le_of_ble_eq_true rfl) ?_
  refine Bod.incN (t + 1) (by rw [kc_1, nI_add]) dc_115_104 (by rw [ml_115]; exact Nat.le_of_ble_eq_true rfl) (by repeat (first | exact q2 | exact sm_get_p1 | exact sm_get_p2e | refine sm_get_p1m (by decide) (by decide) ?_ | refine sm_get_p1n (by decide) rfl ?_ | refine sm_get_p2n (by decide) (by decide) rfl ?_)) ?_
  refine Bod.go dc_115_107 rfl ?_
  exact hB _ (by repeat (first | exact q0 | exact sm_get_p1 | exact sm_get_p2e | refine sm_get_p1m (by decide) (by decide) ?_ | refine sm_get_p1n (by decide) rfl ?_ | refine sm_get_p2n (by decide) (by decide) rfl ?_)) (by repeat (first | exact q0 | exact sm_get_p1 | exact sm_get_p2e | refine sm_get_p1m (by decide) (by decide) ?_ | refine sm_get_p1n (by decide) rfl ?_ | refine sm_get_p2n (by decide) (by decide) rfl ?_)) (by repeat (first | exact q0 | exact sm_get_p1 | exact sm_get_p2e | refine sm_get_p1m (by decide) (by decide) ?_ | refine sm_get_p1n (by decide) rfl ?_ | refine sm_get_p2n (by decide) (by decide) rfl ?_))
theorem cGlr_4 {d : Nat} {S Sf : cS} {v : Option Value} {lv : sm_L} {m : Nat} {t : Nat} {S1 : cS} {S2 : cS} {b : Int32} {tk : Nat} (q1 : sm_get lv 1 = some (.int (nI m))) (q2 : sm_get lv 2 = some (.int (nI t))) (q0 : sm_get lv 0 = some (.ref 43)) (mm : m < 2 ^ 20) (mt : t < 2 ^ 20) (b1 : m ≠ 0) (b2 : t < 3000) (c1 : Ans (d + 8) 40 [.ref 31] S none S1) (c2 : Ans (d + 8) 92 [.ref 43] S1 (some (.int b)) S2) (htk : sI S2 3105 = nI tk) (mtk : tk < 2 ^ 20) (b3 : tk = 0) (b4 : tk = 12) (hB : ∀ lv1 : sm_L, sm_get lv1 0 = some (.ref 43) → sm_get lv1 1 = some (.int (nI 1)) → sm_get lv1 2 = some (.int (nI (t + 1))) → Bod (d + 8) 115 35 lv1 [] (S2) v Sf) : Bod (d + 8) 115 35 lv [] S v Sf := by
  refine Bod.ildnG dc_115_35 (by repeat (first | exact q1 | exact sm_get_p1 | exact sm_get_p2e | refine sm_get_p1m (by decide) (by decide) ?_ | refine sm_get_p1n (by decide) rfl ?_ | refine sm_get_p2n (by decide) (by decide) rfl ?_)) ?_
  refine Bod.ifF dc_115_36 rfl (k1_eq_F (k_ne m 0 rfl rfl (by omega) (by omega) (by omega))) ?_
  refine Bod.ildnG dc_115_39 (by repeat (first | exact q2 | exact sm_get_p1 | exact sm_get_p2e | refine sm_get_p1m (by decide) (by decide) ?_ | refine sm_get_p1n (by decide) rfl ?_ | refine sm_get_p2n (by decide) (by decide) rfl ?_)) ?_
  refine Bod.sip 3000 (by decide) dc_115_40 ?_
  refine Bod.icF dc_115_43 rfl (k2_ge_F t 3000 rfl rfl (by omega) (by omega)) ?_
  refine Bod.aldnG dc_115_46 (by repeat (first | exact q0 | exact sm_get_p1 | exact sm_get_p2e | refine sm_get_p1m (by decide) (by decide) ?_ | refine sm_get_p1n (by decide) rfl ?_ | refine sm_get_p2n (by decide) (by decide) rfl ?_)) ?_
  refine Bod.get dc_115_47 fr_115_9 (mk_43 _) rfl ?_
  refine Bod.virt (r := []) dc_115_50 kr_115_192 ⟨Or.inr rfl, ow_40, cl_3⟩ (by rw [np_40]; rfl) (by rw [np_40]; rfl) (ob_of (mk_31 _)) (Nat.le_of_ble_eq_true rfl) (c1  ) ?_
  show Bod _ _ _ _ [] _ _ _
  refine Bod.aldnG dc_115_53 (by repeat (first | exact q0 | exact sm_get_p1 | exact sm_get_p2e | refine sm_get_p1m (by decide) (by decide) ?_ | refine sm_get_p1n (by decide) rfl ?_ | refine sm_get_p2n (by decide) (by decide) rfl ?_)) ?_
  refine Bod.virt (r := []) dc_115_54 kr_115_220 ⟨Or.inl rfl, ow_92, cl_10⟩ (by rw [np_92]; rfl) (by rw [np_92]; rfl) (ob_of (mk_43 _)) (Nat.le_of_ble_eq_true rfl) (c2  ) ?_
  show Bod _ _ _ _ [_] _ _ _
  refine Bod.istn dc_115_57 (by rw [ml_115]; exact Nat.le_of_ble_eq_true rfl) ?_
  refine Bod.aldnG dc_115_58 (by repeat (first | exact q0 | exact sm_get_p1 | exact sm_get_p2e | refine sm_get_p1m (by decide) (by decide) ?_ | refine sm_get_p1n (by decide) rfl ?_ | refine sm_get_p2n (by decide) (by decide) rfl ?_)) ?_
  refine Bod.get dc_115_59 fr_115_9 (mk_43 _) rfl ?_
  refine Bod.get dc_115_62 fr_115_79 (mk_31 _) rfl ?_
  refine Bod.eqI (nI tk) (by first | (simp (disch := omega) only [rI, rIe, rA, rIA, rLA, rJA, rVI, rQI, rVA, rQA, upd_at,  rAI, rLI, rJI, nI_add, pk_sub, kc_0, kc_1, kc_2, kc_3, kc_4, kc_5, reduceIte, Nat.reduceEqDiff, Nat.add_zero, rI_hold, rI_hold, rL_hold, htk]; done) | (simp (disch := omega) only [rI, rIe, rA, rIA, rLA, rJA, rVI, rQI, rVA, rQA, upd_at,  rAI, rLI, rJI, nI_add, pk_sub, kc_0, kc_1, kc_2, kc_3, kc_4, kc_5, reduceIte, Nat.reduceEqDiff, Nat.add_zero, rI_hold, rI_hold, rL_hold, htk]; exact congrArg nI (by omega))) ?_
  refine Bod.ifT dc_115_65 rfl (k1_eq_T (k_eq tk 0 rfl rfl (by omega))) ?_
  refine Bod.aldnG dc_115_86 (by repeat (first | exact q0 | exact sm_get_p1 | exact sm_get_p2e | refine sm_get_p1m (by decide) (by decide) ?_ | refine sm_get_p1n (by decide) rfl ?_ | refine sm_get_p2n (by decide) (by decide) rfl ?_)) ?_
  refine Bod.get dc_115_87 fr_115_9 (mk_43 _) rfl ?_
  refine Bod.get dc_115_90 fr_115_79 (mk_31 _) rfl ?_
  refine Bod.eqI (nI tk) (by first | (simp (disch := omega) only [rI, rIe, rA, rIA, rLA, rJA, rVI, rQI, rVA, rQA, upd_at,  rAI, rLI, rJI, nI_add, pk_sub, kc_0, kc_1, kc_2, kc_3, kc_4, kc_5, reduceIte, Nat.reduceEqDiff, Nat.add_zero, rI_hold, rI_hold, rL_hold, htk]; done) | (simp (disch := omega) only [rI, rIe, rA, rIA, rLA, rJA, rVI, rQI, rVA, rQA, upd_at,  rAI, rLI, rJI, nI_add, pk_sub, kc_0, kc_1, kc_2, kc_3, kc_4, kc_5, reduceIte, Nat.reduceEqDiff, Nat.add_zero, rI_hold, rI_hold, rL_hold, htk]; exact congrArg nI (by omega))) ?_
  refine Bod.bip 12 (by decide) dc_115_93 ?_
  refine Bod.icF dc_115_95 rfl (k2_ne_F (k_eq tk 12 rfl rfl (by omega))) ?_
  refine Bod.ic 1 (by decide) dc_115_98 ?_
  refine Bod.go dc_115_99 rfl ?_
  refine Bod.istn dc_115_103 (by rw [ml_115]; exact Nat.le_of_ble_eq_true rfl) ?_
  refine Bod.incN (t + 1) (by rw [kc_1, nI_add]) dc_115_104 (by rw [ml_115]; exact Nat.le_of_ble_eq_true rfl) (by repeat (first | exact q2 | exact sm_get_p1 | exact sm_get_p2e | refine sm_get_p1m (by decide) (by decide) ?_ | refine sm_get_p1n (by decide) rfl ?_ | refine sm_get_p2n (by decide) (by decide) rfl ?_)) ?_
  refine Bod.go dc_115_107 rfl ?_
  exact hB _ (by repeat (first | exact q0 | exact sm_get_p1 | exact sm_get_p2e | refine sm_get_p1m (by decide) (by decide) ?_ | refine sm_get_p1n (by decide) rfl ?_ | refine sm_get_p2n (by decide) (by decide) rfl ?_)) (by repeat (first | exact q0 | exact sm_get_p1 | exact sm_get_p2e | refine sm_get_p1m (by decide) (by decide) ?_ | refine sm_get_p1n (by decide) rfl ?_ | refine sm_get_p2n (by decide) (by decide) rfl ?_)) (by repeat (first | exact q0 | exact sm_get_p1 | exact sm_get_p2e | refine sm_get_p1m (by decide) (by decide) ?_ | refine sm_get_p1n (by decide) rfl ?_ | refine sm_get_p2n (by decide) (by decide) rfl ?_))
theorem cGlr_5 {d : Nat} {S Sf : cS} {v : Option Value} {lv : sm_L} {m : Nat} {t : Nat} {S1 : cS} {S2 : cS} {b : Int32} {tk : Nat} {S3 : cS} {tk1 : Nat} (q1 : sm_get lv 1 = some (.int (nI m))) (q2 : sm_get lv 2 = some (.int (nI t))) (q0 : sm_get lv 0 = some (.ref 43)) (mm : m < 2 ^ 20) (mt : t < 2 ^ 20) (b1 : m ≠ 0) (b2 : t < 3000) (c1 : Ans (d + 8) 40 [.ref 31] S none S1) (c2 : Ans (d + 8) 92 [.ref 43] S1 (some (.int b)) S2) (htk : sI S2 3105 = nI tk) (mtk : tk < 2 ^ 20) (b3 : tk ≠ 0) (c3 : Ans (d + 8) 116 [.ref 32, .int b] S2 (some (.int (nI 1))) S3) (htk1 : sI S3 3105 = nI tk1) (mtk1 : tk1 < 2 ^ 20) (b4 : tk1 ≠ 12) (hB : ∀ lv1 : sm_L, sm_get lv1 0 = some (.ref 43) → sm_get lv1 1 = some (.int (nI 0)) → sm_get lv1 2 = some (.int (nI (t + 1))) → Bod (d + 8) 115 35 lv1 [] (S3) v Sf) : Bod (d + 8) 115 35 lv [] S v Sf := by
  refine Bod.ildnG dc_115_35 (by repeat (first | exact q1 | exact sm_get_p1 | exact sm_get_p2e | refine sm_get_p1m (by decide) (by decide) ?_ | refine sm_get_p1n (by decide) rfl ?_ | refine sm_get_p2n (by decide) (by decide) rfl ?_)) ?_
  refine Bod.ifF dc_115_36 rfl (k1_eq_F (k_ne m 0 rfl rfl (by omega) (by omega) (by omega))) ?_
  refine Bod.ildnG dc_115_39 (by repeat (first | exact q2 | exact sm_get_p1 | exact sm_get_p2e | refine sm_get_p1m (by decide) (by decide) ?_ | refine sm_get_p1n (by decide) rfl ?_ | refine sm_get_p2n (by decide) (by decide) rfl ?_)) ?_
  refine Bod.sip 3000 (by decide) dc_115_40 ?_
  refine Bod.icF dc_115_43 rfl (k2_ge_F t 3000 rfl rfl (by omega) (by omega)) ?_
  refine Bod.aldnG dc_115_46 (by repeat (first | exact q0 | exact sm_get_p1 | exact sm_get_p2e | refine sm_get_p1m (by decide) (by decide) ?_ | refine sm_get_p1n (by decide) rfl ?_ | refine sm_get_p2n (by decide) (by decide) rfl ?_)) ?_
  refine Bod.get dc_115_47 fr_115_9 (mk_43 _) rfl ?_
  refine Bod.virt (r := []) dc_115_50 kr_115_192 ⟨Or.inr rfl, ow_40, cl_3⟩ (by rw [np_40]; rfl) (by rw [np_40]; rfl) (ob_of (mk_31 _)) (Nat.le_of_ble_eq_true rfl) (c1  ) ?_
  show Bod _ _ _ _ [] _ _ _
  refine Bod.aldnG dc_115_53 (by repeat (first | exact q0 | exact sm_get_p1 | exact sm_get_p2e | refine sm_get_p1m (by decide) (by decide) ?_ | refine sm_get_p1n (by decide) rfl ?_ | refine sm_get_p2n (by decide) (by decide) rfl ?_)) ?_
  refine Bod.virt (r := []) dc_115_54 kr_115_220 ⟨Or.inl rfl, ow_92, cl_10⟩ (by rw [np_92]; rfl) (by rw [np_92]; rfl) (ob_of (mk_43 _)) (Nat.le_of_ble_eq_true rfl) (c2  ) ?_
  show Bod _ _ _ _ [_] _ _ _
  refine Bod.istn dc_115_57 (by rw [ml_115]; exact Nat.le_of_ble_eq_true rfl) ?_
  refine Bod.aldnG dc_115_58 (by repeat (first | exact q0 | exact sm_get_p1 | exact sm_get_p2e | refine sm_get_p1m (by decide) (by decide) ?_ | refine sm_get_p1n (by decide) rfl ?_ | refine sm_get_p2n (by decide) (by decide) rfl ?_)) ?_
  refine Bod.get dc_115_59 fr_115_9 (mk_43 _) rfl ?_
  refine Bod.get dc_115_62 fr_115_79 (mk_31 _) rfl ?_
  refine Bod.eqI (nI tk) (by first | (simp (disch := omega) only [rI, rIe, rA, rIA, rLA, rJA, rVI, rQI, rVA, rQA, upd_at,  rAI, rLI, rJI, nI_add, pk_sub, kc_0, kc_1, kc_2, kc_3, kc_4, kc_5, reduceIte, Nat.reduceEqDiff, Nat.add_zero, rI_hold, rI_hold, rL_hold, htk]; done) | (simp (disch := omega) only [rI, rIe, rA, rIA, rLA, rJA, rVI, rQI, rVA, rQA, upd_at,  rAI, rLI, rJI, nI_add, pk_sub, kc_0, kc_1, kc_2, kc_3, kc_4, kc_5, reduceIte, Nat.reduceEqDiff, Nat.add_zero, rI_hold, rI_hold, rL_hold, htk]; exact congrArg nI (by omega))) ?_
  refine Bod.ifF dc_115_65 rfl (k1_eq_F (k_ne tk 0 rfl rfl (by omega) (by omega) (by omega))) ?_
  refine Bod.aldnG dc_115_68 (by repeat (first | exact q0 | exact sm_get_p1 | exact sm_get_p2e | refine sm_get_p1m (by decide) (by decide) ?_ | refine sm_get_p1n (by decide) rfl ?_ | refine sm_get_p2n (by decide) (by decide) rfl ?_)) ?_
  refine Bod.get dc_115_69 fr_115_19 (mk_43 _) rfl ?_
  refine Bod.ildnG dc_115_72 (by repeat (first | exact q0 | exact sm_get_p1 | exact sm_get_p2e | refine sm_get_p1m (by decide) (by decide) ?_ | refine sm_get_p1n (by decide) rfl ?_ | refine sm_get_p2n (by decide) (by decide) rfl ?_)) ?_
  refine Bod.virt (r := []) dc_115_73 kr_115_223 ⟨Or.inr rfl, ow_116, cl_8⟩ (by rw [np_116]; rfl) (by rw [np_116]; rfl) (ob_of (mk_32 _)) (Nat.le_of_ble_eq_true rfl) (c3  ) ?_
  show Bod _ _ _ _ [_] _ _ _
  refine Bod.ifT dc_115_76 rfl (k1_ne_T (k_ne 1 0 rfl rfl (by omega) (by omega) (by omega))) ?_
  refine Bod.aldnG dc_115_86 (by repeat (first | exact q0 | exact sm_get_p1 | exact sm_get_p2e | refine sm_get_p1m (by decide) (by decide) ?_ | refine sm_get_p1n (by decide) rfl ?_ | refine sm_get_p2n (by decide) (by decide) rfl ?_)) ?_
  refine Bod.get dc_115_87 fr_115_9 (mk_43 _) rfl ?_
  refine Bod.get dc_115_90 fr_115_79 (mk_31 _) rfl ?_
  refine Bod.eqI (nI tk1) (by first | (simp (disch := omega) only [rI, rIe, rA, rIA, rLA, rJA, rVI, rQI, rVA, rQA, upd_at,  rAI, rLI, rJI, nI_add, pk_sub, kc_0, kc_1, kc_2, kc_3, kc_4, kc_5, reduceIte, Nat.reduceEqDiff, Nat.add_zero, rI_hold, rI_hold, rL_hold, htk, htk1]; done) | (simp (disch := omega) only [rI, rIe, rA, rIA, rLA, rJA, rVI, rQI, rVA, rQA, upd_at,  rAI, rLI, rJI, nI_add, pk_sub, kc_0, kc_1, kc_2, kc_3, kc_4, kc_5, reduceIte, Nat.reduceEqDiff, Nat.add_zero, rI_hold, rI_hold, rL_hold, htk, htk1]; exact congrArg nI (by omega))) ?_
  refine Bod.bip 12 (by decide) dc_115_93 ?_
  refine Bod.icT dc_115_95 rfl (k2_ne_T (k_ne tk1 12 rfl rfl (by omega) (by omega) (by omega))) ?_
  refine Bod.ic 0 (by decide) dc_115_102 ?_
  refine Bod.istn dc_115_103 (by rw [ml_115]; exact Nat.le_of_ble_eq_true rfl) ?_
  refine Bod.incN (t + 1) (by rw [kc_1, nI_add]) dc_115_104 (by rw [ml_115]; exact Nat.le_of_ble_eq_true rfl) (by repeat (first | exact q2 | exact sm_get_p1 | exact sm_get_p2e | refine sm_get_p1m (by decide) (by decide) ?_ | refine sm_get_p1n (by decide) rfl ?_ | refine sm_get_p2n (by decide) (by decide) rfl ?_)) ?_
  refine Bod.go dc_115_107 rfl ?_
  exact hB _ (by repeat (first | exact q0 | exact sm_get_p1 | exact sm_get_p2e | refine sm_get_p1m (by decide) (by decide) ?_ | refine sm_get_p1n (by decide) rfl ?_ | refine sm_get_p2n (by decide) (by decide) rfl ?_)) (by repeat (first | exact q0 | exact sm_get_p1 | exact sm_get_p2e | refine sm_get_p1m (by decide) (by decide) ?_ | refine sm_get_p1n (by decide) rfl ?_ | refine sm_get_p2n (by decide) (by decide) rfl ?_)) (by repeat (first | exact q0 | exact sm_get_p1 | exact sm_get_p2e | refine sm_get_p1m (by decide) (by decide) ?_ | refine sm_get_p1n (by decide) rfl ?_ | refine sm_get_p2n (by decide) (by decide) rfl ?_))
theorem cGlr_6 {d : Nat} {S Sf : cS} {v : Option Value} {lv : sm_L} {m : Nat} {t : Nat} {S1 : cS} {S2 : cS} {b : Int32} {tk : Nat} {S3 : cS} {tk1 : Nat} (q1 : sm_get lv 1 = some (.int (nI m))) (q2 : sm_get lv 2 = some (.int (nI t))) (q0 : sm_get lv 0 = some (.ref 43)) (mm : m < 2 ^ 20) (mt : t < 2 ^ 20) (b1 : m ≠ 0) (b2 : t < 3000) (c1 : Ans (d + 8) 40 [.ref 31] S none S1) (c2 : Ans (d + 8) 92 [.ref 43] S1 (some (.int b)) S2) (htk : sI S2 3105 = nI tk) (mtk : tk < 2 ^ 20) (b3 : tk ≠ 0) (c3 : Ans (d + 8) 116 [.ref 32, .int b] S2 (some (.int (nI 1))) S3) (htk1 : sI S3 3105 = nI tk1) (mtk1 : tk1 < 2 ^ 20) (b4 : tk1 = 12) (hB : ∀ lv1 : sm_L, sm_get lv1 0 = some (.ref 43) → sm_get lv1 1 = some (.int (nI 1)) → sm_get lv1 2 = some (.int (nI (t + 1))) → Bod (d + 8) 115 35 lv1 [] (S3) v Sf) : Bod (d + 8) 115 35 lv [] S v Sf := by
  refine Bod.ildnG dc_115_35 (by repeat (first | exact q1 | exact sm_get_p1 | exact sm_get_p2e | refine sm_get_p1m (by decide) (by decide) ?_ | refine sm_get_p1n (by decide) rfl ?_ | refine sm_get_p2n (by decide) (by decide) rfl ?_)) ?_
  refine Bod.ifF dc_115_36 rfl (k1_eq_F (k_ne m 0 rfl rfl (by omega) (by omega) (by omega))) ?_
  refine Bod.ildnG dc_115_39 (by repeat (first | exact q2 | exact sm_get_p1 | exact sm_get_p2e | refine sm_get_p1m (by decide) (by decide) ?_ | refine sm_get_p1n (by decide) rfl ?_ | refine sm_get_p2n (by decide) (by decide) rfl ?_)) ?_
  refine Bod.sip 3000 (by decide) dc_115_40 ?_
  refine Bod.icF dc_115_43 rfl (k2_ge_F t 3000 rfl rfl (by omega) (by omega)) ?_
  refine Bod.aldnG dc_115_46 (by repeat (first | exact q0 | exact sm_get_p1 | exact sm_get_p2e | refine sm_get_p1m (by decide) (by decide) ?_ | refine sm_get_p1n (by decide) rfl ?_ | refine sm_get_p2n (by decide) (by decide) rfl ?_)) ?_
  refine Bod.get dc_115_47 fr_115_9 (mk_43 _) rfl ?_
  refine Bod.virt (r := []) dc_115_50 kr_115_192 ⟨Or.inr rfl, ow_40, cl_3⟩ (by rw [np_40]; rfl) (by rw [np_40]; rfl) (ob_of (mk_31 _)) (Nat.le_of_ble_eq_true rfl) (c1  ) ?_
  show Bod _ _ _ _ [] _ _ _
  refine Bod.aldnG dc_115_53 (by repeat (first | exact q0 | exact sm_get_p1 | exact sm_get_p2e | refine sm_get_p1m (by decide) (by decide) ?_ | refine sm_get_p1n (by decide) rfl ?_ | refine sm_get_p2n (by decide) (by decide) rfl ?_)) ?_
  refine Bod.virt (r := []) dc_115_54 kr_115_220 ⟨Or.inl rfl, ow_92, cl_10⟩ (by rw [np_92]; rfl) (by rw [np_92]; rfl) (ob_of (mk_43 _)) (Nat.le_of_ble_eq_true rfl) (c2  ) ?_
  show Bod _ _ _ _ [_] _ _ _
  refine Bod.istn dc_115_57 (by rw [ml_115]; exact Nat.le_of_ble_eq_true rfl) ?_
  refine Bod.aldnG dc_115_58 (by repeat (first | exact q0 | exact sm_get_p1 | exact sm_get_p2e | refine sm_get_p1m (by decide) (by decide) ?_ | refine sm_get_p1n (by decide) rfl ?_ | refine sm_get_p2n (by decide) (by decide) rfl ?_)) ?_
  refine Bod.get dc_115_59 fr_115_9 (mk_43 _) rfl ?_
  refine Bod.get dc_115_62 fr_115_79 (mk_31 _) rfl ?_
  refine Bod.eqI (nI tk) (by first | (simp (disch := omega) only [rI, rIe, rA, rIA, rLA, rJA, rVI, rQI, rVA, rQA, upd_at,  rAI, rLI, rJI, nI_add, pk_sub, kc_0, kc_1, kc_2, kc_3, kc_4, kc_5, reduceIte, Nat.reduceEqDiff, Nat.add_zero, rI_hold, rI_hold, rL_hold, htk]; done) | (simp (disch := omega) only [rI, rIe, rA, rIA, rLA, rJA, rVI, rQI, rVA, rQA, upd_at,  rAI, rLI, rJI, nI_add, pk_sub, kc_0, kc_1, kc_2, kc_3, kc_4, kc_5, reduceIte, Nat.reduceEqDiff, Nat.add_zero, rI_hold, rI_hold, rL_hold, htk]; exact congrArg nI (by omega))) ?_
  refine Bod.ifF dc_115_65 rfl (k1_eq_F (k_ne tk 0 rfl rfl (by omega) (by omega) (by omega))) ?_
  refine Bod.aldnG dc_115_68 (by repeat (first | exact q0 | exact sm_get_p1 | exact sm_get_p2e | refine sm_get_p1m (by decide) (by decide) ?_ | refine sm_get_p1n (by decide) rfl ?_ | refine sm_get_p2n (by decide) (by decide) rfl ?_)) ?_
  refine Bod.get dc_115_69 fr_115_19 (mk_43 _) rfl ?_
  refine Bod.ildnG dc_115_72 (by repeat (first | exact q0 | exact sm_get_p1 | exact sm_get_p2e | refine sm_get_p1m (by decide) (by decide) ?_ | refine sm_get_p1n (by decide) rfl ?_ | refine sm_get_p2n (by decide) (by decide) rfl ?_)) ?_
  refine Bod.virt (r := []) dc_115_73 kr_115_223 ⟨Or.inr rfl, ow_116, cl_8⟩ (by rw [np_116]; rfl) (by rw [np_116]; rfl) (ob_of (mk_32 _)) (Nat.le_of_ble_eq_true rfl) (c3  ) ?_
  show Bod _ _ _ _ [_] _ _ _
  refine Bod.ifT dc_115_76 rfl (k1_ne_T (k_ne 1 0 rfl rfl (by omega) (by omega) (by omega))) ?_
  refine Bod.aldnG dc_115_86 (by repeat (first | exact q0 | exact sm_get_p1 | exact sm_get_p2e | refine sm_get_p1m (by decide) (by decide) ?_ | refine sm_get_p1n (by decide) rfl ?_ | refine sm_get_p2n (by decide) (by decide) rfl ?_)) ?_
  refine Bod.get dc_115_87 fr_115_9 (mk_43 _) rfl ?_
  refine Bod.get dc_115_90 fr_115_79 (mk_31 _) rfl ?_
  refine Bod.eqI (nI tk1) (by first | (simp (disch := omega) only [rI, rIe, rA, rIA, rLA, rJA, rVI, rQI, rVA, rQA, upd_at,  rAI, rLI, rJI, nI_add, pk_sub, kc_0, kc_1, kc_2, kc_3, kc_4, kc_5, reduceIte, Nat.reduceEqDiff, Nat.add_zero, rI_hold, rI_hold, rL_hold, htk, htk1]; done) | (simp (disch := omega) only [rI, rIe, rA, rIA, rLA, rJA, rVI, rQI, rVA, rQA, upd_at,  rAI, rLI, rJI, nI_add, pk_sub, kc_0, kc_1, kc_2, kc_3, kc_4, kc_5, reduceIte, Nat.reduceEqDiff, Nat.add_zero, rI_hold, rI_hold, rL_hold, htk, htk1]; exact congrArg nI (by omega))) ?_
  refine Bod.bip 12 (by decide) dc_115_93 ?_
  refine Bod.icF dc_115_95 rfl (k2_ne_F (k_eq tk1 12 rfl rfl (by omega))) ?_
  refine Bod.ic 1 (by decide) dc_115_98 ?_
  refine Bod.go dc_115_99 rfl ?_
  refine Bod.istn dc_115_103 (by rw [ml_115]; exact Nat.le_of_ble_eq_true rfl) ?_
  refine Bod.incN (t + 1) (by rw [kc_1, nI_add]) dc_115_104 (by rw [ml_115]; exact Nat.le_of_ble_eq_true rfl) (by repeat (first | exact q2 | exact sm_get_p1 | exact sm_get_p2e | refine sm_get_p1m (by decide) (by decide) ?_ | refine sm_get_p1n (by decide) rfl ?_ | refine sm_get_p2n (by decide) (by decide) rfl ?_)) ?_
  refine Bod.go dc_115_107 rfl ?_
  exact hB _ (by repeat (first | exact q0 | exact sm_get_p1 | exact sm_get_p2e | refine sm_get_p1m (by decide) (by decide) ?_ | refine sm_get_p1n (by decide) rfl ?_ | refine sm_get_p2n (by decide) (by decide) rfl ?_)) (by repeat (first | exact q0 | exact sm_get_p1 | exact sm_get_p2e | refine sm_get_p1m (by decide) (by decide) ?_ | refine sm_get_p1n (by decide) rfl ?_ | refine sm_get_p2n (by decide) (by decide) rfl ?_)) (by repeat (first | exact q0 | exact sm_get_p1 | exact sm_get_p2e | refine sm_get_p1m (by decide) (by decide) ?_ | refine sm_get_p1n (by decide) rfl ?_ | refine sm_get_p2n (by decide) (by decide) rfl ?_))
theorem cGlr_7 {d : Nat} {S Sf : cS} {v : Option Value} {lv : sm_L} {m : Nat} {t : Nat} {S1 : cS} {S2 : cS} {b : Int32} {tk : Nat} {S3 : cS} {S4 : cS} {tk1 : Nat} (q1 : sm_get lv 1 = some (.int (nI m))) (q2 : sm_get lv 2 = some (.int (nI t))) (q0 : sm_get lv 0 = some (.ref 43)) (mm : m < 2 ^ 20) (mt : t < 2 ^ 20) (b1 : m ≠ 0) (b2 : t < 3000) (c1 : Ans (d + 8) 40 [.ref 31] S none S1) (c2 : Ans (d + 8) 92 [.ref 43] S1 (some (.int b)) S2) (htk : sI S2 3105 = nI tk) (mtk : tk < 2 ^ 20) (b3 : tk ≠ 0) (c3 : Ans (d + 8) 116 [.ref 32, .int b] S2 (some (.int (nI 0))) S3) (c4 : Ans (d + 8) 44 [.ref 31] S3 none S4) (htk1 : sI S4 3105 = nI tk1) (mtk1 : tk1 < 2 ^ 20) (b4 : tk1 ≠ 12) (hB : ∀ lv1 : sm_L, sm_get lv1 0 = some (.ref 43) → sm_get lv1 1 = some (.int (nI 0)) → sm_get lv1 2 = some (.int (nI (t + 1))) → Bod (d + 8) 115 35 lv1 [] (S4) v Sf) : Bod (d + 8) 115 35 lv [] S v Sf := by
  refine Bod.ildnG dc_115_35 (by repeat (first | exact q1 | exact sm_get_p1 | exact sm_get_p2e | refine sm_get_p1m (by decide) (by decide) ?_ | refine sm_get_p1n (by decide) rfl ?_ | refine sm_get_p2n (by decide) (by decide) rfl ?_)) ?_
  refine Bod.ifF dc_115_36 rfl (k1_eq_F (k_ne m 0 rfl rfl (by omega) (by omega) (by omega))) ?_
  refine Bod.ildnG dc_115_39 (by repeat (first | exact q2 | exact sm_get_p1 | exact sm_get_p2e | refine sm_get_p1m (by decide) (by decide) ?_ | refine sm_get_p1n (by decide) rfl ?_ | refine sm_get_p2n (by decide) (by decide) rfl ?_)) ?_
  refine Bod.sip 3000 (by decide) dc_115_40 ?_
  refine Bod.icF dc_115_43 rfl (k2_ge_F t 3000 rfl rfl (by omega) (by omega)) ?_
  refine Bod.aldnG dc_115_46 (by repeat (first | exact q0 | exact sm_get_p1 | exact sm_get_p2e | refine sm_get_p1m (by decide) (by decide) ?_ | refine sm_get_p1n (by decide) rfl ?_ | refine sm_get_p2n (by decide) (by decide) rfl ?_)) ?_
  refine Bod.get dc_115_47 fr_115_9 (mk_43 _) rfl ?_
  refine Bod.virt (r := []) dc_115_50 kr_115_192 ⟨Or.inr rfl, ow_40, cl_3⟩ (by rw [np_40]; rfl) (by rw [np_40]; rfl) (ob_of (mk_31 _)) (Nat.le_of_ble_eq_true rfl) (c1  ) ?_
  show Bod _ _ _ _ [] _ _ _
  refine Bod.aldnG dc_115_53 (by repeat (first | exact q0 | exact sm_get_p1 | exact sm_get_p2e | refine sm_get_p1m (by decide) (by decide) ?_ | refine sm_get_p1n (by decide) rfl ?_ | refine sm_get_p2n (by decide) (by decide) rfl ?_)) ?_
  refine Bod.virt (r := []) dc_115_54 kr_115_220 ⟨Or.inl rfl, ow_92, cl_10⟩ (by rw [np_92]; rfl) (by rw [np_92]; rfl) (ob_of (mk_43 _)) (Nat.le_of_ble_eq_true rfl) (c2  ) ?_
  show Bod _ _ _ _ [_] _ _ _
  refine Bod.istn dc_115_57 (by rw [ml_115]; exact Nat.le_of_ble_eq_true rfl) ?_
  refine Bod.aldnG dc_115_58 (by repeat (first | exact q0 | exact sm_get_p1 | exact sm_get_p2e | refine sm_get_p1m (by decide) (by decide) ?_ | refine sm_get_p1n (by decide) rfl ?_ | refine sm_get_p2n (by decide) (by decide) rfl ?_)) ?_
  refine Bod.get dc_115_59 fr_115_9 (mk_43 _) rfl ?_
  refine Bod.get dc_115_62 fr_115_79 (mk_31 _) rfl ?_
  refine Bod.eqI (nI tk) (by first | (simp (disch := omega) only [rI, rIe, rA, rIA, rLA, rJA, rVI, rQI, rVA, rQA, upd_at,  rAI, rLI, rJI, nI_add, pk_sub, kc_0, kc_1, kc_2, kc_3, kc_4, kc_5, reduceIte, Nat.reduceEqDiff, Nat.add_zero, rI_hold, rI_hold, rL_hold, htk]; done) | (simp (disch := omega) only [rI, rIe, rA, rIA, rLA, rJA, rVI, rQI, rVA, rQA, upd_at,  rAI, rLI, rJI, nI_add, pk_sub, kc_0, kc_1, kc_2, kc_3, kc_4, kc_5, reduceIte, Nat.reduceEqDiff, Nat.add_zero, rI_hold, rI_hold, rL_hold, htk]; exact congrArg nI (by omega))) ?_
  refine Bod.ifF dc_115_65 rfl (k1_eq_F (k_ne tk 0 rfl rfl (by omega) (by omega) (by omega))) ?_
  refine Bod.aldnG dc_115_68 (by repeat (first | exact q0 | exact sm_get_p1 | exact sm_get_p2e | refine sm_get_p1m (by decide) (by decide) ?_ | refine sm_get_p1n (by decide) rfl ?_ | refine sm_get_p2n (by decide) (by decide) rfl ?_)) ?_
  refine Bod.get dc_115_69 fr_115_19 (mk_43 _) rfl ?_
  refine Bod.ildnG dc_115_72 (by repeat (first | exact q0 | exact sm_get_p1 | exact sm_get_p2e | refine sm_get_p1m (by decide) (by decide) ?_ | refine sm_get_p1n (by decide) rfl ?_ | refine sm_get_p2n (by decide) (by decide) rfl ?_)) ?_
  refine Bod.virt (r := []) dc_115_73 kr_115_223 ⟨Or.inr rfl, ow_116, cl_8⟩ (by rw [np_116]; rfl) (by rw [np_116]; rfl) (ob_of (mk_32 _)) (Nat.le_of_ble_eq_true rfl) (c3  ) ?_
  show Bod _ _ _ _ [_] _ _ _
  refine Bod.ifF dc_115_76 rfl (k1_ne_F (k_eq 0 0 rfl rfl (by omega))) ?_
  refine Bod.aldnG dc_115_79 (by repeat (first | exact q0 | exact sm_get_p1 | exact sm_get_p2e | refine sm_get_p1m (by decide) (by decide) ?_ | refine sm_get_p1n (by decide) rfl ?_ | refine sm_get_p2n (by decide) (by decide) rfl ?_)) ?_
  refine Bod.get dc_115_80 fr_115_9 (mk_43 _) rfl ?_
  refine Bod.virt (r := []) dc_115_83 kr_115_76 ⟨Or.inr rfl, ow_44, cl_3⟩ (by rw [np_44]; rfl) (by rw [np_44]; rfl) (ob_of (mk_31 _)) (Nat.le_of_ble_eq_true rfl) (c4  ) ?_
  show Bod _ _ _ _ [] _ _ _
  refine Bod.aldnG dc_115_86 (by repeat (first | exact q0 | exact sm_get_p1 | exact sm_get_p2e | refine sm_get_p1m (by decide) (by decide) ?_ | refine sm_get_p1n (by decide) rfl ?_ | refine sm_get_p2n (by decide) (by decide) rfl ?_)) ?_
  refine Bod.get dc_115_87 fr_115_9 (mk_43 _) rfl ?_
  refine Bod.get dc_115_90 fr_115_79 (mk_31 _) rfl ?_
  refine Bod.eqI (nI tk1) (by first | (simp (disch := omega) only [rI, rIe, rA, rIA, rLA, rJA, rVI, rQI, rVA, rQA, upd_at,  rAI, rLI, rJI, nI_add, pk_sub, kc_0, kc_1, kc_2, kc_3, kc_4, kc_5, reduceIte, Nat.reduceEqDiff, Nat.add_zero, rI_hold, rI_hold, rL_hold, htk, htk1]; done) | (simp (disch := omega) only [rI, rIe, rA, rIA, rLA, rJA, rVI, rQI, rVA, rQA, upd_at,  rAI, rLI, rJI, nI_add, pk_sub, kc_0, kc_1, kc_2, kc_3, kc_4, kc_5, reduceIte, Nat.reduceEqDiff, Nat.add_zero, rI_hold, rI_hold, rL_hold, htk, htk1]; exact congrArg nI (by omega))) ?_
  refine Bod.bip 12 (by decide) dc_115_93 ?_
  refine Bod.icT dc_115_95 rfl (k2_ne_T (k_ne tk1 12 rfl rfl (by omega) (by omega) (by omega))) ?_
  refine Bod.ic 0 (by decide) dc_115_102 ?_
  refine Bod.istn dc_115_103 (by rw [ml_115]; exact Nat.le_of_ble_eq_true rfl) ?_
  refine Bod.incN (t + 1) (by rw [kc_1, nI_add]) dc_115_104 (by rw [ml_115]; exact Nat.le_of_ble_eq_true rfl) (by repeat (first | exact q2 | exact sm_get_p1 | exact sm_get_p2e | refine sm_get_p1m (by decide) (by decide) ?_ | refine sm_get_p1n (by decide) rfl ?_ | refine sm_get_p2n (by decide) (by decide) rfl ?_)) ?_
  refine Bod.go dc_115_107 rfl ?_
  exact hB _ (by repeat (first | exact q0 | exact sm_get_p1 | exact sm_get_p2e | refine sm_get_p1m (by decide) (by decide) ?_ | refine sm_get_p1n (by decide) rfl ?_ | refine sm_get_p2n (by decide) (by decide) rfl ?_)) (by repeat (first | exact q0 | exact sm_get_p1 | exact sm_get_p2e | refine sm_get_p1m (by decide) (by decide) ?_ | refine sm_get_p1n (by decide) rfl ?_ | refine sm_get_p2n (by decide) (by decide) rfl ?_)) (by repeat (first | exact q0 | exact sm_get_p1 | exact sm_get_p2e | refine sm_get_p1m (by decide) (by decide) ?_ | refine sm_get_p1n (by decide) rfl ?_ | refine sm_get_p2n (by decide) (by decide) rfl ?_))
theorem cGlr_8 {d : Nat} {S Sf : cS} {v : Option Value} {lv : sm_L} {m : Nat} {t : Nat} {S1 : cS} {S2 : cS} {b : Int32} {tk : Nat} {S3 : cS} {S4 : cS} {tk1 : Nat} (q1 : sm_get lv 1 = some (.int (nI m))) (q2 : sm_get lv 2 = some (.int (nI t))) (q0 : sm_get lv 0 = some (.ref 43)) (mm : m < 2 ^ 20) (mt : t < 2 ^ 20) (b1 : m ≠ 0) (b2 : t < 3000) (c1 : Ans (d + 8) 40 [.ref 31] S none S1) (c2 : Ans (d + 8) 92 [.ref 43] S1 (some (.int b)) S2) (htk : sI S2 3105 = nI tk) (mtk : tk < 2 ^ 20) (b3 : tk ≠ 0) (c3 : Ans (d + 8) 116 [.ref 32, .int b] S2 (some (.int (nI 0))) S3) (c4 : Ans (d + 8) 44 [.ref 31] S3 none S4) (htk1 : sI S4 3105 = nI tk1) (mtk1 : tk1 < 2 ^ 20) (b4 : tk1 = 12) (hB : ∀ lv1 : sm_L, sm_get lv1 0 = some (.ref 43) → sm_get lv1 1 = some (.int (nI 1)) → sm_get lv1 2 = some (.int (nI (t + 1))) → Bod (d + 8) 115 35 lv1 [] (S4) v Sf) : Bod (d + 8) 115 35 lv [] S v Sf := by
  refine Bod.ildnG dc_115_35 (by repeat (first | exact q1 | exact sm_get_p1 | exact sm_get_p2e | refine sm_get_p1m (by decide) (by decide) ?_ | refine sm_get_p1n (by decide) rfl ?_ | refine sm_get_p2n (by decide) (by decide) rfl ?_)) ?_
  refine Bod.ifF dc_115_36 rfl (k1_eq_F (k_ne m 0 rfl rfl (by omega) (by omega) (by omega))) ?_
  refine Bod.ildnG dc_115_39 (by repeat (first | exact q2 | exact sm_get_p1 | exact sm_get_p2e | refine sm_get_p1m (by decide) (by decide) ?_ | refine sm_get_p1n (by decide) rfl ?_ | refine sm_get_p2n (by decide) (by decide) rfl ?_)) ?_
  refine Bod.sip 3000 (by decide) dc_115_40 ?_
  refine Bod.icF dc_115_43 rfl (k2_ge_F t 3000 rfl rfl (by omega) (by omega)) ?_
  refine Bod.aldnG dc_115_46 (by repeat (first | exact q0 | exact sm_get_p1 | exact sm_get_p2e | refine sm_get_p1m (by decide) (by decide) ?_ | refine sm_get_p1n (by decide) rfl ?_ | refine sm_get_p2n (by decide) (by decide) rfl ?_)) ?_
  refine Bod.get dc_115_47 fr_115_9 (mk_43 _) rfl ?_
  refine Bod.virt (r := []) dc_115_50 kr_115_192 ⟨Or.inr rfl, ow_40, cl_3⟩ (by rw [np_40]; rfl) (by rw [np_40]; rfl) (ob_of (mk_31 _)) (Nat.le_of_ble_eq_true rfl) (c1  ) ?_
  show Bod _ _ _ _ [] _ _ _
  refine Bod.aldnG dc_115_53 (by repeat (first | exact q0 | exact sm_get_p1 | exact sm_get_p2e | refine sm_get_p1m (by decide) (by decide) ?_ | refine sm_get_p1n (by decide) rfl ?_ | refine sm_get_p2n (by decide) (by decide) rfl ?_)) ?_
  refine Bod.virt (r := []) dc_115_54 kr_115_220 ⟨Or.inl rfl, ow_92, cl_10⟩ (by rw [np_92]; rfl) (by rw [np_92]; rfl) (ob_of (mk_43 _)) (Nat.le_of_ble_eq_true rfl) (c2  ) ?_
  show Bod _ _ _ _ [_] _ _ _
  refine Bod.istn dc_115_57 (by rw [ml_115]; exact Nat.le_of_ble_eq_true rfl) ?_
  refine Bod.aldnG dc_115_58 (by repeat (first | exact q0 | exact sm_get_p1 | exact sm_get_p2e | refine sm_get_p1m (by decide) (by decide) ?_ | refine sm_get_p1n (by decide) rfl ?_ | refine sm_get_p2n (by decide) (by decide) rfl ?_)) ?_
  refine Bod.get dc_115_59 fr_115_9 (mk_43 _) rfl ?_
  refine Bod.get dc_115_62 fr_115_79 (mk_31 _) rfl ?_
  refine Bod.eqI (nI tk) (by first | (simp (disch := omega) only [rI, rIe, rA, rIA, rLA, rJA, rVI, rQI, rVA, rQA, upd_at,  rAI, rLI, rJI, nI_add, pk_sub, kc_0, kc_1, kc_2, kc_3, kc_4, kc_5, reduceIte, Nat.reduceEqDiff, Nat.add_zero, rI_hold, rI_hold, rL_hold, htk]; done) | (simp (disch := omega) only [rI, rIe, rA, rIA, rLA, rJA, rVI, rQI, rVA, rQA, upd_at,  rAI, rLI, rJI, nI_add, pk_sub, kc_0, kc_1, kc_2, kc_3, kc_4, kc_5, reduceIte, Nat.reduceEqDiff, Nat.add_zero, rI_hold, rI_hold, rL_hold, htk]; exact congrArg nI (by omega))) ?_
  refine Bod.ifF dc_115_65 rfl (k1_eq_F (k_ne tk 0 rfl rfl (by omega) (by omega) (by omega))) ?_
  refine Bod.aldnG dc_115_68 (by repeat (first | exact q0 | exact sm_get_p1 | exact sm_get_p2e | refine sm_get_p1m (by decide) (by decide) ?_ | refine sm_get_p1n (by decide) rfl ?_ | refine sm_get_p2n (by decide) (by decide) rfl ?_)) ?_
  refine Bod.get dc_115_69 fr_115_19 (mk_43 _) rfl ?_
  refine Bod.ildnG dc_115_72 (by repeat (first | exact q0 | exact sm_get_p1 | exact sm_get_p2e | refine sm_get_p1m (by decide) (by decide) ?_ | refine sm_get_p1n (by decide) rfl ?_ | refine sm_get_p2n (by decide) (by decide) rfl ?_)) ?_
  refine Bod.virt (r := []) dc_115_73 kr_115_223 ⟨Or.inr rfl, ow_116, cl_8⟩ (by rw [np_116]; rfl) (by rw [np_116]; rfl) (ob_of (mk_32 _)) (Nat.le_of_ble_eq_true rfl) (c3  ) ?_
  show Bod _ _ _ _ [_] _ _ _
  refine Bod.ifF dc_115_76 rfl (k1_ne_F (k_eq 0 0 rfl rfl (by omega))) ?_
  refine Bod.aldnG dc_115_79 (by repeat (first | exact q0 | exact sm_get_p1 | exact sm_get_p2e | refine sm_get_p1m (by decide) (by decide) ?_ | refine sm_get_p1n (by decide) rfl ?_ | refine sm_get_p2n (by decide) (by decide) rfl ?_)) ?_
  refine Bod.get dc_115_80 fr_115_9 (mk_43 _) rfl ?_
  refine Bod.virt (r := []) dc_115_83 kr_115_76 ⟨Or.inr rfl, ow_44, cl_3⟩ (by rw [np_44]; rfl) (by rw [np_44]; rfl) (ob_of (mk_31 _)) (Nat.le_of_ble_eq_true rfl) (c4  ) ?_
  show Bod _ _ _ _ [] _ _ _
  refine Bod.aldnG dc_115_86 (by repeat (first | exact q0 | exact sm_get_p1 | exact sm_get_p2e | refine sm_get_p1m (by decide) (by decide) ?_ | refine sm_get_p1n (by decide) rfl ?_ | refine sm_get_p2n (by decide) (by decide) rfl ?_)) ?_
  refine Bod.get dc_115_87 fr_115_9 (mk_43 _) rfl ?_
  refine Bod.get dc_115_90 fr_115_79 (mk_31 _) rfl ?_
  refine Bod.eqI (nI tk1) (by first | (simp (disch := omega) only [rI, rIe, rA, rIA, rLA, rJA, rVI, rQI, rVA, rQA, upd_at,  rAI, rLI, rJI, nI_add, pk_sub, kc_0, kc_1, kc_2, kc_3, kc_4, kc_5, reduceIte, Nat.reduceEqDiff, Nat.add_zero, rI_hold, rI_hold, rL_hold, htk, htk1]; done) | (simp (disch := omega) only [rI, rIe, rA, rIA, rLA, rJA, rVI, rQI, rVA, rQA, upd_at,  rAI, rLI, rJI, nI_add, pk_sub, kc_0, kc_1, kc_2, kc_3, kc_4, kc_5, reduceIte, Nat.reduceEqDiff, Nat.add_zero, rI_hold, rI_hold, rL_hold, htk, htk1]; exact congrArg nI (by omega))) ?_
  refine Bod.bip 12 (by decide) dc_115_93 ?_
  refine Bod.icF dc_115_95 rfl (k2_ne_F (k_eq tk1 12 rfl rfl (by omega))) ?_
  refine Bod.ic 1 (by decide) dc_115_98 ?_
  refine Bod.go dc_115_99 rfl ?_
  refine Bod.istn dc_115_103 (by rw [ml_115]; exact Nat.le_of_ble_eq_true rfl) ?_
  refine Bod.incN (t + 1) (by rw [kc_1, nI_add]) dc_115_104 (by rw [ml_115]; exact Nat.le_of_ble_eq_true rfl) (by repeat (first | exact q2 | exact sm_get_p1 | exact sm_get_p2e | refine sm_get_p1m (by decide) (by decide) ?_ | refine sm_get_p1n (by decide) rfl ?_ | refine sm_get_p2n (by decide) (by decide) rfl ?_)) ?_
  refine Bod.go dc_115_107 rfl ?_
  exact hB _ (by repeat (first | exact q0 | exact sm_get_p1 | exact sm_get_p2e | refine sm_get_p1m (by decide) (by decide) ?_ | refine sm_get_p1n (by decide) rfl ?_ | refine sm_get_p2n (by decide) (by decide) rfl ?_)) (by repeat (first | exact q0 | exact sm_get_p1 | exact sm_get_p2e | refine sm_get_p1m (by decide) (by decide) ?_ | refine sm_get_p1n (by decide) rfl ?_ | refine sm_get_p2n (by decide) (by decide) rfl ?_)) (by repeat (first | exact q0 | exact sm_get_p1 | exact sm_get_p2e | refine sm_get_p1m (by decide) (by decide) ?_ | refine sm_get_p1n (by decide) rfl ?_ | refine sm_get_p2n (by decide) (by decide) rfl ?_))
theorem cPsr_1 {d : Nat} {S : cS} {lv : sm_L} {fd : Nat} {m : Nat} {nu : Nat} {S1 : cS} (q3 : sm_get lv 3 = some (.int (nI fd))) (q2 : sm_get lv 2 = some (.int (nI m))) (q0 : sm_get lv 0 = some (.ref 43)) (q1 : sm_get lv 1 = some (.int (nI nu))) (mfd : fd < 2 ^ 20) (mm : m < 2 ^ 20) (mnu : nu < 2 ^ 20) (b1 : m = 0) (b2 : fd ≤ 8) (c1 : Ans (d + 8) 75 [.ref 31, .int (nI 7)] S none S1) : Bod (d + 8) 100 29 lv [] S none (S1) := by
  refine Bod.ildnG dc_100_29 (by repeat (first | exact q2 | exact sm_get_p1 | exact sm_get_p2e | refine sm_get_p1m (by decide) (by decide) ?_ | refine sm_get_p1n (by decide) rfl ?_ | refine sm_get_p2n (by decide) (by decide) rfl ?_)) ?_
  refine Bod.ifT dc_100_30 rfl (k1_eq_T (k_eq m 0 rfl rfl (by omega))) ?_
  refine Bod.ildnG dc_100_119 (by repeat (first | exact q3 | exact sm_get_p1 | exact sm_get_p2e | refine sm_get_p1m (by decide) (by decide) ?_ | refine sm_get_p1n (by decide) rfl ?_ | refine sm_get_p2n (by decide) (by decide) rfl ?_)) ?_
  refine Bod.bip 8 (by decide) dc_100_120 ?_
  refine Bod.icT dc_100_122 rfl (k2_le_T fd 8 rfl rfl (by omega) (by omega)) ?_
  refine Bod.aldnG dc_100_132 (by repeat (first | exact q0 | exact sm_get_p1 | exact sm_get_p2e | refine sm_get_p1m (by decide) (by decide) ?_ | refine sm_get_p1n (by decide) rfl ?_ | refine sm_get_p2n (by decide) (by decide) rfl ?_)) ?_
  refine Bod.get dc_100_133 fr_100_9 (mk_43 _) rfl ?_
  refine Bod.bip 7 (by decide) dc_100_136 ?_
  refine Bod.virt (r := []) dc_100_138 kr_100_107 ⟨Or.inr rfl, ow_75, cl_3⟩ (by rw [np_75]; rfl) (by rw [np_75]; rfl) (ob_of (mk_31 _)) (Nat.le_of_ble_eq_true rfl) (c1  ) ?_
  show Bod _ _ _ _ [] _ _ _
  exact Bod.retV dc_100_141 rt_100
theorem cPsr_2 {d : Nat} {S : cS} {lv : sm_L} {fd : Nat} {m : Nat} {nu : Nat} {S1 : cS} {S2 : cS} (q3 : sm_get lv 3 = some (.int (nI fd))) (q2 : sm_get lv 2 = some (.int (nI m))) (q0 : sm_get lv 0 = some (.ref 43)) (q1 : sm_get lv 1 = some (.int (nI nu))) (mfd : fd < 2 ^ 20) (mm : m < 2 ^ 20) (mnu : nu < 2 ^ 20) (b1 : m = 0) (b2 : 8 < fd) (c1 : Ans (d + 8) 44 [.ref 31] S none S1) (c2 : Ans (d + 8) 75 [.ref 31, .int (nI 7)] S1 none S2) : Bod (d + 8) 100 29 lv [] S none (S2) := by
  refine Bod.ildnG dc_100_29 (by repeat (first | exact q2 | exact sm_get_p1 | exact sm_get_p2e | refine sm_get_p1m (by decide) (by decide) ?_ | refine sm_get_p1n (by decide) rfl ?_ | refine sm_get_p2n (by decide) (by decide) rfl ?_)) ?_
  refine Bod.ifT dc_100_30 rfl (k1_eq_T (k_eq m 0 rfl rfl (by omega))) ?_
  refine Bod.ildnG dc_100_119 (by repeat (first | exact q3 | exact sm_get_p1 | exact sm_get_p2e | refine sm_get_p1m (by decide) (by decide) ?_ | refine sm_get_p1n (by decide) rfl ?_ | refine sm_get_p2n (by decide) (by decide) rfl ?_)) ?_
  refine Bod.bip 8 (by decide) dc_100_120 ?_
  refine Bod.icF dc_100_122 rfl (k2_le_F fd 8 rfl rfl (by omega) (by omega)) ?_
  refine Bod.aldnG dc_100_125 (by repeat (first | exact q0 | exact sm_get_p1 | exact sm_get_p2e | refine sm_get_p1m (by decide) (by decide) ?_ | refine sm_get_p1n (by decide) rfl ?_ | refine sm_get_p2n (by decide) (by decide) rfl ?_)) ?_
  refine Bod.get dc_100_126 fr_100_9 (mk_43 _) rfl ?_
  refine Bod.virt (r := []) dc_100_129 kr_100_76 ⟨Or.inr rfl, ow_44, cl_3⟩ (by rw [np_44]; rfl) (by rw [np_44]; rfl) (ob_of (mk_31 _)) (Nat.le_of_ble_eq_true rfl) (c1  ) ?_
  show Bod _ _ _ _ [] _ _ _
  refine Bod.aldnG dc_100_132 (by repeat (first | exact q0 | exact sm_get_p1 | exact sm_get_p2e | refine sm_get_p1m (by decide) (by decide) ?_ | refine sm_get_p1n (by decide) rfl ?_ | refine sm_get_p2n (by decide) (by decide) rfl ?_)) ?_
  refine Bod.get dc_100_133 fr_100_9 (mk_43 _) rfl ?_
  refine Bod.bip 7 (by decide) dc_100_136 ?_
  refine Bod.virt (r := []) dc_100_138 kr_100_107 ⟨Or.inr rfl, ow_75, cl_3⟩ (by rw [np_75]; rfl) (by rw [np_75]; rfl) (ob_of (mk_31 _)) (Nat.le_of_ble_eq_true rfl) (c2  ) ?_
  show Bod _ _ _ _ [] _ _ _
  exact Bod.retV dc_100_141 rt_100
theorem cPsr_3 {d : Nat} {S : cS} {lv : sm_L} {fd : Nat} {m : Nat} {nu : Nat} {S1 : cS} {S2 : cS} (q3 : sm_get lv 3 = some (.int (nI fd))) (q2 : sm_get lv 2 = some (.int (nI m))) (q0 : sm_get lv 0 = some (.ref 43)) (q1 : sm_get lv 1 = some (.int (nI nu))) (mfd : fd < 2 ^ 20) (mm : m < 2 ^ 20) (mnu : nu < 2 ^ 20) (b1 : m ≠ 0) (b2 : 8 < fd) (c1 : Ans (d + 8) 44 [.ref 31] S none S1) (c2 : Ans (d + 8) 75 [.ref 31, .int (nI 7)] S1 none S2) : Bod (d + 8) 100 29 lv [] S none (S2) := by
  refine Bod.ildnG dc_100_29 (by repeat (first | exact q2 | exact sm_get_p1 | exact sm_get_p2e | refine sm_get_p1m (by decide) (by decide) ?_ | refine sm_get_p1n (by decide) rfl ?_ | refine sm_get_p2n (by decide) (by decide) rfl ?_)) ?_
  refine Bod.ifF dc_100_30 rfl (k1_eq_F (k_ne m 0 rfl rfl (by omega) (by omega) (by omega))) ?_
  refine Bod.ildnG dc_100_33 (by repeat (first | exact q3 | exact sm_get_p1 | exact sm_get_p2e | refine sm_get_p1m (by decide) (by decide) ?_ | refine sm_get_p1n (by decide) rfl ?_ | refine sm_get_p2n (by decide) (by decide) rfl ?_)) ?_
  refine Bod.bip 8 (by decide) dc_100_34 ?_
  refine Bod.icT dc_100_36 rfl (k2_gt_T fd 8 rfl rfl (by omega) (by omega)) ?_
  refine Bod.ildnG dc_100_119 (by repeat (first | exact q3 | exact sm_get_p1 | exact sm_get_p2e | refine sm_get_p1m (by decide) (by decide) ?_ | refine sm_get_p1n (by decide) rfl ?_ | refine sm_get_p2n (by decide) (by decide) rfl ?_)) ?_
  refine Bod.bip 8 (by decide) dc_100_120 ?_
  refine Bod.icF dc_100_122 rfl (k2_le_F fd 8 rfl rfl (by omega) (by omega)) ?_
  refine Bod.aldnG dc_100_125 (by repeat (first | exact q0 | exact sm_get_p1 | exact sm_get_p2e | refine sm_get_p1m (by decide) (by decide) ?_ | refine sm_get_p1n (by decide) rfl ?_ | refine sm_get_p2n (by decide) (by decide) rfl ?_)) ?_
  refine Bod.get dc_100_126 fr_100_9 (mk_43 _) rfl ?_
  refine Bod.virt (r := []) dc_100_129 kr_100_76 ⟨Or.inr rfl, ow_44, cl_3⟩ (by rw [np_44]; rfl) (by rw [np_44]; rfl) (ob_of (mk_31 _)) (Nat.le_of_ble_eq_true rfl) (c1  ) ?_
  show Bod _ _ _ _ [] _ _ _
  refine Bod.aldnG dc_100_132 (by repeat (first | exact q0 | exact sm_get_p1 | exact sm_get_p2e | refine sm_get_p1m (by decide) (by decide) ?_ | refine sm_get_p1n (by decide) rfl ?_ | refine sm_get_p2n (by decide) (by decide) rfl ?_)) ?_
  refine Bod.get dc_100_133 fr_100_9 (mk_43 _) rfl ?_
  refine Bod.bip 7 (by decide) dc_100_136 ?_
  refine Bod.virt (r := []) dc_100_138 kr_100_107 ⟨Or.inr rfl, ow_75, cl_3⟩ (by rw [np_75]; rfl) (by rw [np_75]; rfl) (ob_of (mk_31 _)) (Nat.le_of_ble_eq_true rfl) (c2  ) ?_
  show Bod _ _ _ _ [] _ _ _
  exact Bod.retV dc_100_141 rt_100
theorem cPsr_4 {d : Nat} {S Sf : cS} {v : Option Value} {lv : sm_L} {fd : Nat} {m : Nat} {nu : Nat} {S1 : cS} {b : Int32} {tk : Nat} {S2 : cS} {tk1 : Nat} (q3 : sm_get lv 3 = some (.int (nI fd))) (q2 : sm_get lv 2 = some (.int (nI m))) (q0 : sm_get lv 0 = some (.ref 43)) (q1 : sm_get lv 1 = some (.int (nI nu))) (mfd : fd < 2 ^ 20) (mm : m < 2 ^ 20) (mnu : nu < 2 ^ 20) (b1 : m ≠ 0) (b2 : fd ≤ 8) (c1 : Ans (d + 8) 92 [.ref 43] S (some (.int b)) S1) (htk : sI S1 3105 = nI tk) (mtk : tk < 2 ^ 20) (b3 : tk = 0) (c2 : Ans (d + 8) 102 [.ref 23, .int (nI nu)] S1 none S2) (htk1 : sI S2 3105 = nI tk1) (mtk1 : tk1 < 2 ^ 20) (b4 : tk1 ≠ 12) (hB : ∀ lv1 : sm_L, sm_get lv1 0 = some (.ref 43) → sm_get lv1 1 = some (.int (nI nu)) → sm_get lv1 2 = some (.int (nI 0)) → sm_get lv1 3 = some (.int (nI (fd + 1))) → Bod (d + 8) 100 29 lv1 [] (S2) v Sf) : Bod (d + 8) 100 29 lv [] S v Sf := by
  refine Bod.ildnG dc_100_29 (by repeat (first | exact q2 | exact sm_get_p1 | exact sm_get_p2e | refine sm_get_p1m (by decide) (by decide) ?_ | refine sm_get_p1n (by decide) rfl ?_ | refine sm_get_p2n (by decide) (by decide) rfl ?_)) ?_
  refine Bod.ifF dc_100_30 rfl (k1_eq_F (k_ne m 0 rfl rfl (by omega) (by omega) (by omega))) ?_
  refine Bod.ildnG dc_100_33 (by repeat (first | exact q3 | exact sm_get_p1 | exact sm_get_p2e | refine sm_get_p1m (by decide) (by decide) ?_ | refine sm_get_p1n (by decide) rfl ?_ | refine sm_get_p2n (by decide) (by decide) rfl ?_)) ?_
  refine Bod.bip 8 (by decide) dc_100_34 ?_
  refine Bod.icF dc_100_36 rfl (k2_gt_F fd 8 rfl rfl (by omega) (by omega)) ?_
  refine Bod.aldnG dc_100_39 (by repeat (first | exact q0 | exact sm_get_p1 | exact sm_get_p2e | refine sm_get_p1m (by decide) (by decide) ?_ | refine sm_get_p1n (by decide) rfl ?_ | refine sm_get_p2n (by decide) (by decide) rfl ?_)) ?_
  refine Bod.virt (r := []) dc_100_40 kr_100_220 ⟨Or.inl rfl, ow_92, cl_10⟩ (by rw [np_92]; rfl) (by rw [np_92]; rfl) (ob_of (mk_43 _)) (Nat.le_of_ble_eq_true rfl) (c1  ) ?_
  show Bod _ _ _ _ [_] _ _ _
  refine Bod.ist dc_100_43 (by rw [ml_100]; exact Nat.le_of_ble_eq_true rfl) ?_
  refine Bod.aldnG dc_100_45 (by repeat (first | exact q0 | exact sm_get_p1 | exact sm_get_p2e | refine sm_get_p1m (by decide) (by decide) ?_ | refine sm_get_p1n (by decide) rfl ?_ | refine sm_get_p2n (by decide) (by decide) rfl ?_)) ?_
  refine Bod.get dc_100_46 fr_100_9 (mk_43 _) rfl ?_
  refine Bod.get dc_100_49 fr_100_79 (mk_31 _) rfl ?_
  refine Bod.eqI (nI tk) (by first | (simp (disch := omega) only [rI, rIe, rA, rIA, rLA, rJA, rVI, rQI, rVA, rQA, upd_at,  rAI, rLI, rJI, nI_add, pk_sub, kc_0, kc_1, kc_2, kc_3, kc_4, kc_5, reduceIte, Nat.reduceEqDiff, Nat.add_zero, rI_hold, rI_hold, rL_hold, htk]; done) | (simp (disch := omega) only [rI, rIe, rA, rIA, rLA, rJA, rVI, rQI, rVA, rQA, upd_at,  rAI, rLI, rJI, nI_add, pk_sub, kc_0, kc_1, kc_2, kc_3, kc_4, kc_5, reduceIte, Nat.reduceEqDiff, Nat.add_zero, rI_hold, rI_hold, rL_hold, htk]; exact congrArg nI (by omega))) ?_
  refine Bod.ifT dc_100_52 rfl (k1_eq_T (k_eq tk 0 rfl rfl (by omega))) ?_
  refine Bod.aldnG dc_100_74 (by repeat (first | exact q0 | exact sm_get_p1 | exact sm_get_p2e | refine sm_get_p1m (by decide) (by decide) ?_ | refine sm_get_p1n (by decide) rfl ?_ | refine sm_get_p2n (by decide) (by decide) rfl ?_)) ?_
  refine Bod.get dc_100_75 fr_100_15 (mk_43 _) rfl ?_
  refine Bod.ildnG dc_100_78 (by repeat (first | exact q1 | exact sm_get_p1 | exact sm_get_p2e | refine sm_get_p1m (by decide) (by decide) ?_ | refine sm_get_p1n (by decide) rfl ?_ | refine sm_get_p2n (by decide) (by decide) rfl ?_)) ?_
  refine Bod.virt (r := []) dc_100_79 kr_100_251 ⟨Or.inr rfl, ow_102, cl_7⟩ (by rw [np_102]; rfl) (by rw [np_102]; rfl) (ob_of (mk_23 _)) (Nat.le_of_ble_eq_true rfl) (c2  ) ?_
  show Bod _ _ _ _ [] _ _ _
  refine Bod.incN (fd + 1) (by rw [kc_1, nI_add]) dc_100_82 (by rw [ml_100]; exact Nat.le_of_ble_eq_true rfl) (by repeat (first | exact q3 | exact sm_get_p1 | exact sm_get_p2e | refine sm_get_p1m (by decide) (by decide) ?_ | refine sm_get_p1n (by decide) rfl ?_ | refine sm_get_p2n (by decide) (by decide) rfl ?_)) ?_
  refine Bod.aldnG dc_100_85 (by repeat (first | exact q0 | exact sm_get_p1 | exact sm_get_p2e | refine sm_get_p1m (by decide) (by decide) ?_ | refine sm_get_p1n (by decide) rfl ?_ | refine sm_get_p2n (by decide) (by decide) rfl ?_)) ?_
  refine Bod.get dc_100_86 fr_100_9 (mk_43 _) rfl ?_
  refine Bod.get dc_100_89 fr_100_79 (mk_31 _) rfl ?_
  refine Bod.eqI (nI tk1) (by first | (simp (disch := omega) only [rI, rIe, rA, rIA, rLA, rJA, rVI, rQI, rVA, rQA, upd_at,  rAI, rLI, rJI, nI_add, pk_sub, kc_0, kc_1, kc_2, kc_3, kc_4, kc_5, reduceIte, Nat.reduceEqDiff, Nat.add_zero, rI_hold, rI_hold, rL_hold, htk, htk1]; done) | (simp (disch := omega) only [rI, rIe, rA, rIA, rLA, rJA, rVI, rQI, rVA, rQA, upd_at,  rAI, rLI, rJI, nI_add, pk_sub, kc_0, kc_1, kc_2, kc_3, kc_4, kc_5, reduceIte, Nat.reduceEqDiff, Nat.add_zero, rI_hold, rI_hold, rL_hold, htk, htk1]; exact congrArg nI (by omega))) ?_
  refine Bod.bip 12 (by decide) dc_100_92 ?_
  refine Bod.icT dc_100_94 rfl (k2_ne_T (k_ne tk1 12 rfl rfl (by omega) (by omega) (by omega))) ?_
  refine Bod.ic 0 (by decide) dc_100_101 ?_
  refine Bod.istn dc_100_102 (by rw [ml_100]; exact Nat.le_of_ble_eq_true rfl) ?_
  refine Bod.ildnG dc_100_103 (by repeat (first | exact q0 | exact sm_get_p1 | exact sm_get_p2e | refine sm_get_p1m (by decide) (by decide) ?_ | refine sm_get_p1n (by decide) rfl ?_ | refine sm_get_p2n (by decide) (by decide) rfl ?_)) ?_
  refine Bod.ifT dc_100_104 rfl (k1_eq_T (k_eq 0 0 rfl rfl (by omega))) ?_
  refine Bod.go dc_100_116 rfl ?_
  exact hB _ (by repeat (first | exact q0 | exact sm_get_p1 | exact sm_get_p2e | refine sm_get_p1m (by decide) (by decide) ?_ | refine sm_get_p1n (by decide) rfl ?_ | refine sm_get_p2n (by decide) (by decide) rfl ?_)) (by repeat (first | exact q1 | exact sm_get_p1 | exact sm_get_p2e | refine sm_get_p1m (by decide) (by decide) ?_ | refine sm_get_p1n (by decide) rfl ?_ | refine sm_get_p2n (by decide) (by decide) rfl ?_)) (by repeat (first | exact q0 | exact sm_get_p1 | exact sm_get_p2e | refine sm_get_p1m (by decide) (by decide) ?_ | refine sm_get_p1n (by decide) rfl ?_ | refine sm_get_p2n (by decide) (by decide) rfl ?_)) (by repeat (first | exact q0 | exact sm_get_p1 | exact sm_get_p2e | refine sm_get_p1m (by decide) (by decide) ?_ | refine sm_get_p1n (by decide) rfl ?_ | refine sm_get_p2n (by decide) (by decide) rfl ?_))
theorem cPsr_5 {d : Nat} {S Sf : cS} {v : Option Value} {lv : sm_L} {fd : Nat} {m : Nat} {nu : Nat} {S1 : cS} {b : Int32} {tk : Nat} {S2 : cS} {tk1 : Nat} {S3 : cS} (q3 : sm_get lv 3 = some (.int (nI fd))) (q2 : sm_get lv 2 = some (.int (nI m))) (q0 : sm_get lv 0 = some (.ref 43)) (q1 : sm_get lv 1 = some (.int (nI nu))) (mfd : fd < 2 ^ 20) (mm : m < 2 ^ 20) (mnu : nu < 2 ^ 20) (b1 : m ≠ 0) (b2 : fd ≤ 8) (c1 : Ans (d + 8) 92 [.ref 43] S (some (.int b)) S1) (htk : sI S1 3105 = nI tk) (mtk : tk < 2 ^ 20) (b3 : tk = 0) (c2 : Ans (d + 8) 102 [.ref 23, .int (nI nu)] S1 none S2) (htk1 : sI S2 3105 = nI tk1) (mtk1 : tk1 < 2 ^ 20) (b4 : tk1 = 12) (c3 : Ans (d + 8) 75 [.ref 31, .int (nI 12)] S2 none S3) (hB : ∀ lv1 : sm_L, sm_get lv1 0 = some (.ref 43) → sm_get lv1 1 = some (.int (nI nu)) → sm_get lv1 2 = some (.int (nI 1)) → sm_get lv1 3 = some (.int (nI (fd + 1))) → Bod (d + 8) 100 29 lv1 [] (S3) v Sf) : Bod (d + 8) 100 29 lv [] S v Sf := by
  refine Bod.ildnG dc_100_29 (by repeat (first | exact q2 | exact sm_get_p1 | exact sm_get_p2e | refine sm_get_p1m (by decide) (by decide) ?_ | refine sm_get_p1n (by decide) rfl ?_ | refine sm_get_p2n (by decide) (by decide) rfl ?_)) ?_
  refine Bod.ifF dc_100_30 rfl (k1_eq_F (k_ne m 0 rfl rfl (by omega) (by omega) (by omega))) ?_
  refine Bod.ildnG dc_100_33 (by repeat (first | exact q3 | exact sm_get_p1 | exact sm_get_p2e | refine sm_get_p1m (by decide) (by decide) ?_ | refine sm_get_p1n (by decide) rfl ?_ | refine sm_get_p2n (by decide) (by decide) rfl ?_)) ?_
  refine Bod.bip 8 (by decide) dc_100_34 ?_
  refine Bod.icF dc_100_36 rfl (k2_gt_F fd 8 rfl rfl (by omega) (by omega)) ?_
  refine Bod.aldnG dc_100_39 (by repeat (first | exact q0 | exact sm_get_p1 | exact sm_get_p2e | refine sm_get_p1m (by decide) (by decide) ?_ | refine sm_get_p1n (by decide) rfl ?_ | refine sm_get_p2n (by decide) (by decide) rfl ?_)) ?_
  refine Bod.virt (r := []) dc_100_40 kr_100_220 ⟨Or.inl rfl, ow_92, cl_10⟩ (by rw [np_92]; rfl) (by rw [np_92]; rfl) (ob_of (mk_43 _)) (Nat.le_of_ble_eq_true rfl) (c1  ) ?_
  show Bod _ _ _ _ [_] _ _ _
  refine Bod.ist dc_100_43 (by rw [ml_100]; exact Nat.le_of_ble_eq_true rfl) ?_
  refine Bod.aldnG dc_100_45 (by repeat (first | exact q0 | exact sm_get_p1 | exact sm_get_p2e | refine sm_get_p1m (by decide) (by decide) ?_ | refine sm_get_p1n (by decide) rfl ?_ | refine sm_get_p2n (by decide) (by decide) rfl ?_)) ?_
  refine Bod.get dc_100_46 fr_100_9 (mk_43 _) rfl ?_
  refine Bod.get dc_100_49 fr_100_79 (mk_31 _) rfl ?_
  refine Bod.eqI (nI tk) (by first | (simp (disch := omega) only [rI, rIe, rA, rIA, rLA, rJA, rVI, rQI, rVA, rQA, upd_at,  rAI, rLI, rJI, nI_add, pk_sub, kc_0, kc_1, kc_2, kc_3, kc_4, kc_5, reduceIte, Nat.reduceEqDiff, Nat.add_zero, rI_hold, rI_hold, rL_hold, htk]; done) | (simp (disch := omega) only [rI, rIe, rA, rIA, rLA, rJA, rVI, rQI, rVA, rQA, upd_at,  rAI, rLI, rJI, nI_add, pk_sub, kc_0, kc_1, kc_2, kc_3, kc_4, kc_5, reduceIte, Nat.reduceEqDiff, Nat.add_zero, rI_hold, rI_hold, rL_hold, htk]; exact congrArg nI (by omega))) ?_
  refine Bod.ifT dc_100_52 rfl (k1_eq_T (k_eq tk 0 rfl rfl (by omega))) ?_
  refine Bod.aldnG dc_100_74 (by repeat (first | exact q0 | exact sm_get_p1 | exact sm_get_p2e | refine sm_get_p1m (by decide) (by decide) ?_ | refine sm_get_p1n (by decide) rfl ?_ | refine sm_get_p2n (by decide) (by decide) rfl ?_)) ?_
  refine Bod.get dc_100_75 fr_100_15 (mk_43 _) rfl ?_
  refine Bod.ildnG dc_100_78 (by repeat (first | exact q1 | exact sm_get_p1 | exact sm_get_p2e | refine sm_get_p1m (by decide) (by decide) ?_ | refine sm_get_p1n (by decide) rfl ?_ | refine sm_get_p2n (by decide) (by decide) rfl ?_)) ?_
  refine Bod.virt (r := []) dc_100_79 kr_100_251 ⟨Or.inr rfl, ow_102, cl_7⟩ (by rw [np_102]; rfl) (by rw [np_102]; rfl) (ob_of (mk_23 _)) (Nat.le_of_ble_eq_true rfl) (c2  ) ?_
  show Bod _ _ _ _ [] _ _ _
  refine Bod.incN (fd + 1) (by rw [kc_1, nI_add]) dc_100_82 (by rw [ml_100]; exact Nat.le_of_ble_eq_true rfl) (by repeat (first | exact q3 | exact sm_get_p1 | exact sm_get_p2e | refine sm_get_p1m (by decide) (by decide) ?_ | refine sm_get_p1n (by decide) rfl ?_ | refine sm_get_p2n (by decide) (by decide) rfl ?_)) ?_
  refine Bod.aldnG dc_100_85 (by repeat (first | exact q0 | exact sm_get_p1 | exact sm_get_p2e | refine sm_get_p1m (by decide) (by decide) ?_ | refine sm_get_p1n (by decide) rfl ?_ | refine sm_get_p2n (by decide) (by decide) rfl ?_)) ?_
  refine Bod.get dc_100_86 fr_100_9 (mk_43 _) rfl ?_
  refine Bod.get dc_100_89 fr_100_79 (mk_31 _) rfl ?_
  refine Bod.eqI (nI tk1) (by first | (simp (disch := omega) only [rI, rIe, rA, rIA, rLA, rJA, rVI, rQI, rVA, rQA, upd_at,  rAI, rLI, rJI, nI_add, pk_sub, kc_0, kc_1, kc_2, kc_3, kc_4, kc_5, reduceIte, Nat.reduceEqDiff, Nat.add_zero, rI_hold, rI_hold, rL_hold, htk, htk1]; done) | (simp (disch := omega) only [rI, rIe, rA, rIA, rLA, rJA, rVI, rQI, rVA, rQA, upd_at,  rAI, rLI, rJI, nI_add, pk_sub, kc_0, kc_1, kc_2, kc_3, kc_4, kc_5, reduceIte, Nat.reduceEqDiff, Nat.add_zero, rI_hold, rI_hold, rL_hold, htk, htk1]; exact congrArg nI (by omega))) ?_
  refine Bod.bip 12 (by decide) dc_100_92 ?_
  refine Bod.icF dc_100_94 rfl (k2_ne_F (k_eq tk1 12 rfl rfl (by omega))) ?_
  refine Bod.ic 1 (by decide) dc_100_97 ?_
  refine Bod.go dc_100_98 rfl ?_
  refine Bod.istn dc_100_102 (by rw [ml_100]; exact Nat.le_of_ble_eq_true rfl) ?_
  refine Bod.ildnG dc_100_103 (by repeat (first | exact q0 | exact sm_get_p1 | exact sm_get_p2e | refine sm_get_p1m (by decide) (by decide) ?_ | refine sm_get_p1n (by decide) rfl ?_ | refine sm_get_p2n (by decide) (by decide) rfl ?_)) ?_
  refine Bod.ifF dc_100_104 rfl (k1_eq_F (k_ne 1 0 rfl rfl (by omega) (by omega) (by omega))) ?_
  refine Bod.aldnG dc_100_107 (by repeat (first | exact q0 | exact sm_get_p1 | exact sm_get_p2e | refine sm_get_p1m (by decide) (by decide) ?_ | refine sm_get_p1n (by decide) rfl ?_ | refine sm_get_p2n (by decide) (by decide) rfl ?_)) ?_
  refine Bod.get dc_100_108 fr_100_9 (mk_43 _) rfl ?_
  refine Bod.bip 12 (by decide) dc_100_111 ?_
  refine Bod.virt (r := []) dc_100_113 kr_100_107 ⟨Or.inr rfl, ow_75, cl_3⟩ (by rw [np_75]; rfl) (by rw [np_75]; rfl) (ob_of (mk_31 _)) (Nat.le_of_ble_eq_true rfl) (c3  ) ?_
  show Bod _ _ _ _ [] _ _ _
  refine Bod.go dc_100_116 rfl ?_
  exact hB _ (by repeat (first | exact q0 | exact sm_get_p1 | exact sm_get_p2e | refine sm_get_p1m (by decide) (by decide) ?_ | refine sm_get_p1n (by decide) rfl ?_ | refine sm_get_p2n (by decide) (by decide) rfl ?_)) (by repeat (first | exact q1 | exact sm_get_p1 | exact sm_get_p2e | refine sm_get_p1m (by decide) (by decide) ?_ | refine sm_get_p1n (by decide) rfl ?_ | refine sm_get_p2n (by decide) (by decide) rfl ?_)) (by repeat (first | exact q0 | exact sm_get_p1 | exact sm_get_p2e | refine sm_get_p1m (by decide) (by decide) ?_ | refine sm_get_p1n (by decide) rfl ?_ | refine sm_get_p2n (by decide) (by decide) rfl ?_)) (by repeat (first | exact q0 | exact sm_get_p1 | exact sm_get_p2e | refine sm_get_p1m (by decide) (by decide) ?_ | refine sm_get_p1n (by decide) rfl ?_ | refine sm_get_p2n (by decide) (by decide) rfl ?_))
theorem cPsr_6 {d : Nat} {S Sf : cS} {v : Option Value} {lv : sm_L} {fd : Nat} {m : Nat} {nu : Nat} {S1 : cS} {b : Int32} {tk : Nat} {S2 : cS} {S3 : cS} {tk1 : Nat} (q3 : sm_get lv 3 = some (.int (nI fd))) (q2 : sm_get lv 2 = some (.int (nI m))) (q0 : sm_get lv 0 = some (.ref 43)) (q1 : sm_get lv 1 = some (.int (nI nu))) (mfd : fd < 2 ^ 20) (mm : m < 2 ^ 20) (mnu : nu < 2 ^ 20) (b1 : m ≠ 0) (b2 : fd ≤ 8) (c1 : Ans (d + 8) 92 [.ref 43] S (some (.int b)) S1) (htk : sI S1 3105 = nI tk) (mtk : tk < 2 ^ 20) (b3 : tk ≠ 0) (c2 : Ans (d + 8) 101 [.ref 32, .int b] S1 (some (.int (nI 1))) S2) (c3 : Ans (d + 8) 102 [.ref 23, .int (nI nu)] S2 none S3) (htk1 : sI S3 3105 = nI tk1) (mtk1 : tk1 < 2 ^ 20) (b4 : tk1 ≠ 12) (hB : ∀ lv1 : sm_L, sm_get lv1 0 = some (.ref 43) → sm_get lv1 1 = some (.int (nI nu)) → sm_get lv1 2 = some (.int (nI 0)) → sm_get lv1 3 = some (.int (nI (fd + 1))) → Bod (d + 8) 100 29 lv1 [] (S3) v Sf) : Bod (d + 8) 100 29 lv [] S v Sf := by
  refine Bod.ildnG dc_100_29 (by repeat (first | exact q2 | exact sm_get_p1 | exact sm_get_p2e | refine sm_get_p1m (by decide) (by decide) ?_ | refine sm_get_p1n (by decide) rfl ?_ | refine sm_get_p2n (by decide) (by decide) rfl ?_)) ?_
  refine Bod.ifF dc_100_30 rfl (k1_eq_F (k_ne m 0 rfl rfl (by omega) (by omega) (by omega))) ?_
  refine Bod.ildnG dc_100_33 (by repeat (first | exact q3 | exact sm_get_p1 | exact sm_get_p2e | refine sm_get_p1m (by decide) (by decide) ?_ | refine sm_get_p1n (by decide) rfl ?_ | refine sm_get_p2n (by decide) (by decide) rfl ?_)) ?_
  refine Bod.bip 8 (by decide) dc_100_34 ?_
  refine Bod.icF dc_100_36 rfl (k2_gt_F fd 8 rfl rfl (by omega) (by omega)) ?_
  refine Bod.aldnG dc_100_39 (by repeat (first | exact q0 | exact sm_get_p1 | exact sm_get_p2e | refine sm_get_p1m (by decide) (by decide) ?_ | refine sm_get_p1n (by decide) rfl ?_ | refine sm_get_p2n (by decide) (by decide) rfl ?_)) ?_
  refine Bod.virt (r := []) dc_100_40 kr_100_220 ⟨Or.inl rfl, ow_92, cl_10⟩ (by rw [np_92]; rfl) (by rw [np_92]; rfl) (ob_of (mk_43 _)) (Nat.le_of_ble_eq_true rfl) (c1  ) ?_
  show Bod _ _ _ _ [_] _ _ _
  refine Bod.ist dc_100_43 (by rw [ml_100]; exact Nat.le_of_ble_eq_true rfl) ?_
  refine Bod.aldnG dc_100_45 (by repeat (first | exact q0 | exact sm_get_p1 | exact sm_get_p2e | refine sm_get_p1m (by decide) (by decide) ?_ | refine sm_get_p1n (by decide) rfl ?_ | refine sm_get_p2n (by decide) (by decide) rfl ?_)) ?_
  refine Bod.get dc_100_46 fr_100_9 (mk_43 _) rfl ?_
  refine Bod.get dc_100_49 fr_100_79 (mk_31 _) rfl ?_
  refine Bod.eqI (nI tk) (by first | (simp (disch := omega) only [rI, rIe, rA, rIA, rLA, rJA, rVI, rQI, rVA, rQA, upd_at,  rAI, rLI, rJI, nI_add, pk_sub, kc_0, kc_1, kc_2, kc_3, kc_4, kc_5, reduceIte, Nat.reduceEqDiff, Nat.add_zero, rI_hold, rI_hold, rL_hold, htk]; done) | (simp (disch := omega) only [rI, rIe, rA, rIA, rLA, rJA, rVI, rQI, rVA, rQA, upd_at,  rAI, rLI, rJI, nI_add, pk_sub, kc_0, kc_1, kc_2, kc_3, kc_4, kc_5, reduceIte, Nat.reduceEqDiff, Nat.add_zero, rI_hold, rI_hold, rL_hold, htk]; exact congrArg nI (by omega))) ?_
  refine Bod.ifF dc_100_52 rfl (k1_eq_F (k_ne tk 0 rfl rfl (by omega) (by omega) (by omega))) ?_
  refine Bod.aldnG dc_100_55 (by repeat (first | exact q0 | exact sm_get_p1 | exact sm_get_p2e | refine sm_get_p1m (by decide) (by decide) ?_ | refine sm_get_p1n (by decide) rfl ?_ | refine sm_get_p2n (by decide) (by decide) rfl ?_)) ?_
  refine Bod.get dc_100_56 fr_100_19 (mk_43 _) rfl ?_
  refine Bod.ildG dc_100_59 (by repeat (first | exact q0 | exact sm_get_p1 | exact sm_get_p2e | refine sm_get_p1m (by decide) (by decide) ?_ | refine sm_get_p1n (by decide) rfl ?_ | refine sm_get_p2n (by decide) (by decide) rfl ?_)) ?_
  refine Bod.virt (r := []) dc_100_61 kr_100_248 ⟨Or.inr rfl, ow_101, cl_8⟩ (by rw [np_101]; rfl) (by rw [np_101]; rfl) (ob_of (mk_32 _)) (Nat.le_of_ble_eq_true rfl) (c2  ) ?_
  show Bod _ _ _ _ [_] _ _ _
  refine Bod.ifT dc_100_64 rfl (k1_ne_T (k_ne 1 0 rfl rfl (by omega) (by omega) (by omega))) ?_
  refine Bod.aldnG dc_100_74 (by repeat (first | exact q0 | exact sm_get_p1 | exact sm_get_p2e | refine sm_get_p1m (by decide) (by decide) ?_ | refine sm_get_p1n (by decide) rfl ?_ | refine sm_get_p2n (by decide) (by decide) rfl ?_)) ?_
  refine Bod.get dc_100_75 fr_100_15 (mk_43 _) rfl ?_
  refine Bod.ildnG dc_100_78 (by repeat (first | exact q1 | exact sm_get_p1 | exact sm_get_p2e | refine sm_get_p1m (by decide) (by decide) ?_ | refine sm_get_p1n (by decide) rfl ?_ | refine sm_get_p2n (by decide) (by decide) rfl ?_)) ?_
  refine Bod.virt (r := []) dc_100_79 kr_100_251 ⟨Or.inr rfl, ow_102, cl_7⟩ (by rw [np_102]; rfl) (by rw [np_102]; rfl) (ob_of (mk_23 _)) (Nat.le_of_ble_eq_true rfl) (c3  ) ?_
  show Bod _ _ _ _ [] _ _ _
  refine Bod.incN (fd + 1) (by rw [kc_1, nI_add]) dc_100_82 (by rw [ml_100]; exact Nat.le_of_ble_eq_true rfl) (by repeat (first | exact q3 | exact sm_get_p1 | exact sm_get_p2e | refine sm_get_p1m (by decide) (by decide) ?_ | refine sm_get_p1n (by decide) rfl ?_ | refine sm_get_p2n (by decide) (by decide) rfl ?_)) ?_
  refine Bod.aldnG dc_100_85 (by repeat (first | exact q0 | exact sm_get_p1 | exact sm_get_p2e | refine sm_get_p1m (by decide) (by decide) ?_ | refine sm_get_p1n (by decide) rfl ?_ | refine sm_get_p2n (by decide) (by decide) rfl ?_)) ?_
  refine Bod.get dc_100_86 fr_100_9 (mk_43 _) rfl ?_
  refine Bod.get dc_100_89 fr_100_79 (mk_31 _) rfl ?_
  refine Bod.eqI (nI tk1) (by first | (simp (disch := omega) only [rI, rIe, rA, rIA, rLA, rJA, rVI, rQI, rVA, rQA, upd_at,  rAI, rLI, rJI, nI_add, pk_sub, kc_0, kc_1, kc_2, kc_3, kc_4, kc_5, reduceIte, Nat.reduceEqDiff, Nat.add_zero, rI_hold, rI_hold, rL_hold, htk, htk1]; done) | (simp (disch := omega) only [rI, rIe, rA, rIA, rLA, rJA, rVI, rQI, rVA, rQA, upd_at,  rAI, rLI, rJI, nI_add, pk_sub, kc_0, kc_1, kc_2, kc_3, kc_4, kc_5, reduceIte, Nat.reduceEqDiff, Nat.add_zero, rI_hold, rI_hold, rL_hold, htk, htk1]; exact congrArg nI (by omega))) ?_
  refine Bod.bip 12 (by decide) dc_100_92 ?_
  refine Bod.icT dc_100_94 rfl (k2_ne_T (k_ne tk1 12 rfl rfl (by omega) (by omega) (by omega))) ?_
  refine Bod.ic 0 (by decide) dc_100_101 ?_
  refine Bod.istn dc_100_102 (by rw [ml_100]; exact Nat.le_of_ble_eq_true rfl) ?_
  refine Bod.ildnG dc_100_103 (by repeat (first | exact q0 | exact sm_get_p1 | exact sm_get_p2e | refine sm_get_p1m (by decide) (by decide) ?_ | refine sm_get_p1n (by decide) rfl ?_ | refine sm_get_p2n (by decide) (by decide) rfl ?_)) ?_
  refine Bod.ifT dc_100_104 rfl (k1_eq_T (k_eq 0 0 rfl rfl (by omega))) ?_
  refine Bod.go dc_100_116 rfl ?_
  exact hB _ (by repeat (first | exact q0 | exact sm_get_p1 | exact sm_get_p2e | refine sm_get_p1m (by decide) (by decide) ?_ | refine sm_get_p1n (by decide) rfl ?_ | refine sm_get_p2n (by decide) (by decide) rfl ?_)) (by repeat (first | exact q1 | exact sm_get_p1 | exact sm_get_p2e | refine sm_get_p1m (by decide) (by decide) ?_ | refine sm_get_p1n (by decide) rfl ?_ | refine sm_get_p2n (by decide) (by decide) rfl ?_)) (by repeat (first | exact q0 | exact sm_get_p1 | exact sm_get_p2e | refine sm_get_p1m (by decide) (by decide) ?_ | refine sm_get_p1n (by decide) rfl ?_ | refine sm_get_p2n (by decide) (by decide) rfl ?_)) (by repeat (first | exact q0 | exact sm_get_p1 | exact sm_get_p2e | refine sm_get_p1m (by decide) (by decide) ?_ | refine sm_get_p1n (by decide) rfl ?_ | refine sm_get_p2n (by decide) (by decide) rfl ?_))
theorem cPsr_7 {d : Nat} {S Sf : cS} {v : Option Value} {lv : sm_L} {fd : Nat} {m : Nat} {nu : Nat} {S1 : cS} {b : Int32} {tk : Nat} {S2 : cS} {S3 : cS} {tk1 : Nat} {S4 : cS} (q3 : sm_get lv 3 = some (.int (nI fd))) (q2 : sm_get lv 2 = some (.int (nI m))) (q0 : sm_get lv 0 = some (.ref 43)) (q1 : sm_get lv 1 = some (.int (nI nu))) (mfd : fd < 2 ^ 20) (mm : m < 2 ^ 20) (mnu : nu < 2 ^ 20) (b1 : m ≠ 0) (b2 : fd ≤ 8) (c1 : Ans (d + 8) 92 [.ref 43] S (some (.int b)) S1) (htk : sI S1 3105 = nI tk) (mtk : tk < 2 ^ 20) (b3 : tk ≠ 0) (c2 : Ans (d + 8) 101 [.ref 32, .int b] S1 (some (.int (nI 1))) S2) (c3 : Ans (d + 8) 102 [.ref 23, .int (nI nu)] S2 none S3) (htk1 : sI S3 3105 = nI tk1) (mtk1 : tk1 < 2 ^ 20) (b4 : tk1 = 12) (c4 : Ans (d + 8) 75 [.ref 31, .int (nI 12)] S3 none S4) (hB : ∀ lv1 : sm_L, sm_get lv1 0 = some (.ref 43) → sm_get lv1 1 = some (.int (nI nu)) → sm_get lv1 2 = some (.int (nI 1)) → sm_get lv1 3 = some (.int (nI (fd + 1))) → Bod (d + 8) 100 29 lv1 [] (S4) v Sf) : Bod (d + 8) 100 29 lv [] S v Sf := by
  refine Bod.ildnG dc_100_29 (by repeat (first | exact q2 | exact sm_get_p1 | exact sm_get_p2e | refine sm_get_p1m (by decide) (by decide) ?_ | refine sm_get_p1n (by decide) rfl ?_ | refine sm_get_p2n (by decide) (by decide) rfl ?_)) ?_
  refine Bod.ifF dc_100_30 rfl (k1_eq_F (k_ne m 0 rfl rfl (by omega) (by omega) (by omega))) ?_
  refine Bod.ildnG dc_100_33 (by repeat (first | exact q3 | exact sm_get_p1 | exact sm_get_p2e | refine sm_get_p1m (by decide) (by decide) ?_ | refine sm_get_p1n (by decide) rfl ?_ | refine sm_get_p2n (by decide) (by decide) rfl ?_)) ?_
  refine Bod.bip 8 (by decide) dc_100_34 ?_
  refine Bod.icF dc_100_36 rfl (k2_gt_F fd 8 rfl rfl (by omega) (by omega)) ?_
  refine Bod.aldnG dc_100_39 (by repeat (first | exact q0 | exact sm_get_p1 | exact sm_get_p2e | refine sm_get_p1m (by decide) (by decide) ?_ | refine sm_get_p1n (by decide) rfl ?_ | refine sm_get_p2n (by decide) (by decide) rfl ?_)) ?_
  refine Bod.virt (r := []) dc_100_40 kr_100_220 ⟨Or.inl rfl, ow_92, cl_10⟩ (by rw [np_92]; rfl) (by rw [np_92]; rfl) (ob_of (mk_43 _)) (Nat.le_of_ble_eq_true rfl) (c1  ) ?_
  show Bod _ _ _ _ [_] _ _ _
  refine Bod.ist dc_100_43 (by rw [ml_100]; exact Nat.le_of_ble_eq_true rfl) ?_
  refine Bod.aldnG dc_100_45 (by repeat (first | exact q0 | exact sm_get_p1 | exact sm_get_p2e | refine sm_get_p1m (by decide) (by decide) ?_ | refine sm_get_p1n (by decide) rfl ?_ | refine sm_get_p2n (by decide) (by decide) rfl ?_)) ?_
  refine Bod.get dc_100_46 fr_100_9 (mk_43 _) rfl ?_
  refine Bod.get dc_100_49 fr_100_79 (mk_31 _) rfl ?_
  refine Bod.eqI (nI tk) (by first | (simp (disch := omega) only [rI, rIe, rA, rIA, rLA, rJA, rVI, rQI, rVA, rQA, upd_at,  rAI, rLI, rJI, nI_add, pk_sub, kc_0, kc_1, kc_2, kc_3, kc_4, kc_5, reduceIte, Nat.reduceEqDiff, Nat.add_zero, rI_hold, rI_hold, rL_hold, htk]; done) | (simp (disch := omega) only [rI, rIe, rA, rIA, rLA, rJA, rVI, rQI, rVA, rQA, upd_at,  rAI, rLI, rJI, nI_add, pk_sub, kc_0, kc_1, kc_2, kc_3, kc_4, kc_5, reduceIte, Nat.reduceEqDiff, Nat.add_zero, rI_hold, rI_hold, rL_hold, htk]; exact congrArg nI (by omega))) ?_
  refine Bod.ifF dc_100_52 rfl (k1_eq_F (k_ne tk 0 rfl rfl (by omega) (by omega) (by omega))) ?_
  refine Bod.aldnG dc_100_55 (by repeat (first | exact q0 | exact sm_get_p1 | exact sm_get_p2e | refine sm_get_p1m (by decide) (by decide) ?_ | refine sm_get_p1n (by decide) rfl ?_ | refine sm_get_p2n (by decide) (by decide) rfl ?_)) ?_
  refine Bod.get dc_100_56 fr_100_19 (mk_43 _) rfl ?_
  refine Bod.ildG dc_100_59 (by repeat (first | exact q0 | exact sm_get_p1 | exact sm_get_p2e | refine sm_get_p1m (by decide) (by decide) ?_ | refine sm_get_p1n (by decide) rfl ?_ | refine sm_get_p2n (by decide) (by decide) rfl ?_)) ?_
  refine Bod.virt (r := []) dc_100_61 kr_100_248 ⟨Or.inr rfl, ow_101, cl_8⟩ (by rw [np_101]; rfl) (by rw [np_101]; rfl) (ob_of (mk_32 _)) (Nat.le_of_ble_eq_true rfl) (c2  ) ?_
  show Bod _ _ _ _ [_] _ _ _
  refine Bod.ifT dc_100_64 rfl (k1_ne_T (k_ne 1 0 rfl rfl (by omega) (by omega) (by omega))) ?_
  refine Bod.aldnG dc_100_74 (by repeat (first | exact q0 | exact sm_get_p1 | exact sm_get_p2e | refine sm_get_p1m (by decide) (by decide) ?_ | refine sm_get_p1n (by decide) rfl ?_ | refine sm_get_p2n (by decide) (by decide) rfl ?_)) ?_
  refine Bod.get dc_100_75 fr_100_15 (mk_43 _) rfl ?_
  refine Bod.ildnG dc_100_78 (by repeat (first | exact q1 | exact sm_get_p1 | exact sm_get_p2e | refine sm_get_p1m (by decide) (by decide) ?_ | refine sm_get_p1n (by decide) rfl ?_ | refine sm_get_p2n (by decide) (by decide) rfl ?_)) ?_
  refine Bod.virt (r := []) dc_100_79 kr_100_251 ⟨Or.inr rfl, ow_102, cl_7⟩ (by rw [np_102]; rfl) (by rw [np_102]; rfl) (ob_of (mk_23 _)) (Nat.le_of_ble_eq_true rfl) (c3  ) ?_
  show Bod _ _ _ _ [] _ _ _
  refine Bod.incN (fd + 1) (by rw [kc_1, nI_add]) dc_100_82 (by rw [ml_100]; exact Nat.le_of_ble_eq_true rfl) (by repeat (first | exact q3 | exact sm_get_p1 | exact sm_get_p2e | refine sm_get_p1m (by decide) (by decide) ?_ | refine sm_get_p1n (by decide) rfl ?_ | refine sm_get_p2n (by decide) (by decide) rfl ?_)) ?_
  refine Bod.aldnG dc_100_85 (by repeat (first | exact q0 | exact sm_get_p1 | exact sm_get_p2e | refine sm_get_p1m (by decide) (by decide) ?_ | refine sm_get_p1n (by decide) rfl ?_ | refine sm_get_p2n (by decide) (by decide) rfl ?_)) ?_
  refine Bod.get dc_100_86 fr_100_9 (mk_43 _) rfl ?_
  refine Bod.get dc_100_89 fr_100_79 (mk_31 _) rfl ?_
  refine Bod.eqI (nI tk1) (by first | (simp (disch := omega) only [rI, rIe, rA, rIA, rLA, rJA, rVI, rQI, rVA, rQA, upd_at,  rAI, rLI, rJI, nI_add, pk_sub, kc_0, kc_1, kc_2, kc_3, kc_4, kc_5, reduceIte, Nat.reduceEqDiff, Nat.add_zero, rI_hold, rI_hold, rL_hold, htk, htk1]; done) | (simp (disch := omega) only [rI, rIe, rA, rIA, rLA, rJA, rVI, rQI, rVA, rQA, upd_at,  rAI, rLI, rJI, nI_add, pk_sub, kc_0, kc_1, kc_2, kc_3, kc_4, kc_5, reduceIte, Nat.reduceEqDiff, Nat.add_zero, rI_hold, rI_hold, rL_hold, htk, htk1]; exact congrArg nI (by omega))) ?_
  refine Bod.bip 12 (by decide) dc_100_92 ?_
  refine Bod.icF dc_100_94 rfl (k2_ne_F (k_eq tk1 12 rfl rfl (by omega))) ?_
  refine Bod.ic 1 (by decide) dc_100_97 ?_
  refine Bod.go dc_100_98 rfl ?_
  refine Bod.istn dc_100_102 (by rw [ml_100]; exact Nat.le_of_ble_eq_true rfl) ?_
  refine Bod.ildnG dc_100_103 (by repeat (first | exact q0 | exact sm_get_p1 | exact sm_get_p2e | refine sm_get_p1m (by decide) (by decide) ?_ | refine sm_get_p1n (by decide) rfl ?_ | refine sm_get_p2n (by decide) (by decide) rfl ?_)) ?_
  refine Bod.ifF dc_100_104 rfl (k1_eq_F (k_ne 1 0 rfl rfl (by omega) (by omega) (by omega))) ?_
  refine Bod.aldnG dc_100_107 (by repeat (first | exact q0 | exact sm_get_p1 | exact sm_get_p2e | refine sm_get_p1m (by decide) (by decide) ?_ | refine sm_get_p1n (by decide) rfl ?_ | refine sm_get_p2n (by decide) (by decide) rfl ?_)) ?_
  refine Bod.get dc_100_108 fr_100_9 (mk_43 _) rfl ?_
  refine Bod.bip 12 (by decide) dc_100_111 ?_
  refine Bod.virt (r := []) dc_100_113 kr_100_107 ⟨Or.inr rfl, ow_75, cl_3⟩ (by rw [np_75]; rfl) (by rw [np_75]; rfl) (ob_of (mk_31 _)) (Nat.le_of_ble_eq_true rfl) (c4  ) ?_
  show Bod _ _ _ _ [] _ _ _
  refine Bod.go dc_100_116 rfl ?_
  exact hB _ (by repeat (first | exact q0 | exact sm_get_p1 | exact sm_get_p2e | refine sm_get_p1m (by decide) (by decide) ?_ | refine sm_get_p1n (by decide) rfl ?_ | refine sm_get_p2n (by decide) (by decide) rfl ?_)) (by repeat (first | exact q1 | exact sm_get_p1 | exact sm_get_p2e | refine sm_get_p1m (by decide) (by decide) ?_ | refine sm_get_p1n (by decide) rfl ?_ | refine sm_get_p2n (by decide) (by decide) rfl ?_)) (by repeat (first | exact q0 | exact sm_get_p1 | exact sm_get_p2e | refine sm_get_p1m (by decide) (by decide) ?_ | refine sm_get_p1n (by decide) rfl ?_ | refine sm_get_p2n (by decide) (by decide) rfl ?_)) (by repeat (first | exact q0 | exact sm_get_p1 | exact sm_get_p2e | refine sm_get_p1m (by decide) (by decide) ?_ | refine sm_get_p1n (by decide) rfl ?_ | refine sm_get_p2n (by decide) (by decide) rfl ?_))
theorem cPsr_8 {d : Nat} {S Sf : cS} {v : Option Value} {lv : sm_L} {fd : Nat} {m : Nat} {nu : Nat} {S1 : cS} {b : Int32} {tk : Nat} {S2 : cS} {S3 : cS} {S4 : cS} {tk1 : Nat} (q3 : sm_get lv 3 = some (.int (nI fd))) (q2 : sm_get lv 2 = some (.int (nI m))) (q0 : sm_get lv 0 = some (.ref 43)) (q1 : sm_get lv 1 = some (.int (nI nu))) (mfd : fd < 2 ^ 20) (mm : m < 2 ^ 20) (mnu : nu < 2 ^ 20) (b1 : m ≠ 0) (b2 : fd ≤ 8) (c1 : Ans (d + 8) 92 [.ref 43] S (some (.int b)) S1) (htk : sI S1 3105 = nI tk) (mtk : tk < 2 ^ 20) (b3 : tk ≠ 0) (c2 : Ans (d + 8) 101 [.ref 32, .int b] S1 (some (.int (nI 0))) S2) (c3 : Ans (d + 8) 44 [.ref 31] S2 none S3) (c4 : Ans (d + 8) 102 [.ref 23, .int (nI nu)] S3 none S4) (htk1 : sI S4 3105 = nI tk1) (mtk1 : tk1 < 2 ^ 20) (b4 : tk1 ≠ 12) (hB : ∀ lv1 : sm_L, sm_get lv1 0 = some (.ref 43) → sm_get lv1 1 = some (.int (nI nu)) → sm_get lv1 2 = some (.int (nI 0)) → sm_get lv1 3 = some (.int (nI (fd + 1))) → Bod (d + 8) 100 29 lv1 [] (S4) v Sf) : Bod (d + 8) 100 29 lv [] S v Sf := by
  refine Bod.ildnG dc_100_29 (by repeat (first | exact q2 | exact sm_get_p1 | exact sm_get_p2e | refine sm_get_p1m (by decide) (by decide) ?_ | refine sm_get_p1n (by decide) rfl ?_ | refine sm_get_p2n (by decide) (by decide) rfl ?_)) ?_
  refine Bod.ifF dc_100_30 rfl (k1_eq_F (k_ne m 0 rfl rfl (by omega) (by omega) (by omega))) ?_
  refine Bod.ildnG dc_100_33 (by repeat (first | exact q3 | exact sm_get_p1 | exact sm_get_p2e | refine sm_get_p1m (by decide) (by decide) ?_ | refine sm_get_p1n (by decide) rfl ?_ | refine sm_get_p2n (by decide) (by decide) rfl ?_)) ?_
  refine Bod.bip 8 (by decide) dc_100_34 ?_
  refine Bod.icF dc_100_36 rfl (k2_gt_F fd 8 rfl rfl (by omega) (by omega)) ?_
  refine Bod.aldnG dc_100_39 (by repeat (first | exact q0 | exact sm_get_p1 | exact sm_get_p2e | refine sm_get_p1m (by decide) (by decide) ?_ | refine sm_get_p1n (by decide) rfl ?_ | refine sm_get_p2n (by decide) (by decide) rfl ?_)) ?_
  refine Bod.virt (r := []) dc_100_40 kr_100_220 ⟨Or.inl rfl, ow_92, cl_10⟩ (by rw [np_92]; rfl) (by rw [np_92]; rfl) (ob_of (mk_43 _)) (Nat.le_of_ble_eq_true rfl) (c1  ) ?_
  show Bod _ _ _ _ [_] _ _ _
  refine Bod.ist dc_100_43 (by rw [ml_100]; exact Nat.le_of_ble_eq_true rfl) ?_
  refine Bod.aldnG dc_100_45 (by repeat (first | exact q0 | exact sm_get_p1 | exact sm_get_p2e | refine sm_get_p1m (by decide) (by decide) ?_ | refine sm_get_p1n (by decide) rfl ?_ | refine sm_get_p2n (by decide) (by decide) rfl ?_)) ?_
  refine Bod.get dc_100_46 fr_100_9 (mk_43 _) rfl ?_
  refine Bod.get dc_100_49 fr_100_79 (mk_31 _) rfl ?_
  refine Bod.eqI (nI tk) (by first | (simp (disch := omega) only [rI, rIe, rA, rIA, rLA, rJA, rVI, rQI, rVA, rQA, upd_at,  rAI, rLI, rJI, nI_add, pk_sub, kc_0, kc_1, kc_2, kc_3, kc_4, kc_5, reduceIte, Nat.reduceEqDiff, Nat.add_zero, rI_hold, rI_hold, rL_hold, htk]; done) | (simp (disch := omega) only [rI, rIe, rA, rIA, rLA, rJA, rVI, rQI, rVA, rQA, upd_at,  rAI, rLI, rJI, nI_add, pk_sub, kc_0, kc_1, kc_2, kc_3, kc_4, kc_5, reduceIte, Nat.reduceEqDiff, Nat.add_zero, rI_hold, rI_hold, rL_hold, htk]; exact congrArg nI (by omega))) ?_
  refine Bod.ifF dc_100_52 rfl (k1_eq_F (k_ne tk 0 rfl rfl (by omega) (by omega) (by omega))) ?_
  refine Bod.aldnG dc_100_55 (by repeat (first | exact q0 | exact sm_get_p1 | exact sm_get_p2e | refine sm_get_p1m (by decide) (by decide) ?_ | refine sm_get_p1n (by decide) rfl ?_ | refine sm_get_p2n (by decide) (by decide) rfl ?_)) ?_
  refine Bod.get dc_100_56 fr_100_19 (mk_43 _) rfl ?_
  refine Bod.ildG dc_100_59 (by repeat (first | exact q0 | exact sm_get_p1 | exact sm_get_p2e | refine sm_get_p1m (by decide) (by decide) ?_ | refine sm_get_p1n (by decide) rfl ?_ | refine sm_get_p2n (by decide) (by decide) rfl ?_)) ?_
  refine Bod.virt (r := []) dc_100_61 kr_100_248 ⟨Or.inr rfl, ow_101, cl_8⟩ (by rw [np_101]; rfl) (by rw [np_101]; rfl) (ob_of (mk_32 _)) (Nat.le_of_ble_eq_true rfl) (c2  ) ?_
  show Bod _ _ _ _ [_] _ _ _
  refine Bod.ifF dc_100_64 rfl (k1_ne_F (k_eq 0 0 rfl rfl (by omega))) ?_
  refine Bod.aldnG dc_100_67 (by repeat (first | exact q0 | exact sm_get_p1 | exact sm_get_p2e | refine sm_get_p1m (by decide) (by decide) ?_ | refine sm_get_p1n (by decide) rfl ?_ | refine sm_get_p2n (by decide) (by decide) rfl ?_)) ?_
  refine Bod.get dc_100_68 fr_100_9 (mk_43 _) rfl ?_
  refine Bod.virt (r := []) dc_100_71 kr_100_76 ⟨Or.inr rfl, ow_44, cl_3⟩ (by rw [np_44]; rfl) (by rw [np_44]; rfl) (ob_of (mk_31 _)) (Nat.le_of_ble_eq_true rfl) (c3  ) ?_
  show Bod _ _ _ _ [] _ _ _
  refine Bod.aldnG dc_100_74 (by repeat (first | exact q0 | exact sm_get_p1 | exact sm_get_p2e | refine sm_get_p1m (by decide) (by decide) ?_ | refine sm_get_p1n (by decide) rfl ?_ | refine sm_get_p2n (by decide) (by decide) rfl ?_)) ?_
  refine Bod.get dc_100_75 fr_100_15 (mk_43 _) rfl ?_
  refine Bod.ildnG dc_100_78 (by repeat (first | exact q1 | exact sm_get_p1 | exact sm_get_p2e | refine sm_get_p1m (by decide) (by decide) ?_ | refine sm_get_p1n (by decide) rfl ?_ | refine sm_get_p2n (by decide) (by decide) rfl ?_)) ?_
  refine Bod.virt (r := []) dc_100_79 kr_100_251 ⟨Or.inr rfl, ow_102, cl_7⟩ (by rw [np_102]; rfl) (by rw [np_102]; rfl) (ob_of (mk_23 _)) (Nat.le_of_ble_eq_true rfl) (c4  ) ?_
  show Bod _ _ _ _ [] _ _ _
  refine Bod.incN (fd + 1) (by rw [kc_1, nI_add]) dc_100_82 (by rw [ml_100]; exact Nat.le_of_ble_eq_true rfl) (by repeat (first | exact q3 | exact sm_get_p1 | exact sm_get_p2e | refine sm_get_p1m (by decide) (by decide) ?_ | refine sm_get_p1n (by decide) rfl ?_ | refine sm_get_p2n (by decide) (by decide) rfl ?_)) ?_
  refine Bod.aldnG dc_100_85 (by repeat (first | exact q0 | exact sm_get_p1 | exact sm_get_p2e | refine sm_get_p1m (by decide) (by decide) ?_ | refine sm_get_p1n (by decide) rfl ?_ | refine sm_get_p2n (by decide) (by decide) rfl ?_)) ?_
  refine Bod.get dc_100_86 fr_100_9 (mk_43 _) rfl ?_
  refine Bod.get dc_100_89 fr_100_79 (mk_31 _) rfl ?_
  refine Bod.eqI (nI tk1) (by first | (simp (disch := omega) only [rI, rIe, rA, rIA, rLA, rJA, rVI, rQI, rVA, rQA, upd_at,  rAI, rLI, rJI, nI_add, pk_sub, kc_0, kc_1, kc_2, kc_3, kc_4, kc_5, reduceIte, Nat.reduceEqDiff, Nat.add_zero, rI_hold, rI_hold, rL_hold, htk, htk1]; done) | (simp (disch := omega) only [rI, rIe, rA, rIA, rLA, rJA, rVI, rQI, rVA, rQA, upd_at,  rAI, rLI, rJI, nI_add, pk_sub, kc_0, kc_1, kc_2, kc_3, kc_4, kc_5, reduceIte, Nat.reduceEqDiff, Nat.add_zero, rI_hold, rI_hold, rL_hold, htk, htk1]; exact congrArg nI (by omega))) ?_
  refine Bod.bip 12 (by decide) dc_100_92 ?_
  refine Bod.icT dc_100_94 rfl (k2_ne_T (k_ne tk1 12 rfl rfl (by omega) (by omega) (by omega))) ?_
  refine Bod.ic 0 (by decide) dc_100_101 ?_
  refine Bod.istn dc_100_102 (by rw [ml_100]; exact Nat.le_of_ble_eq_true rfl) ?_
  refine Bod.ildnG dc_100_103 (by repeat (first | exact q0 | exact sm_get_p1 | exact sm_get_p2e | refine sm_get_p1m (by decide) (by decide) ?_ | refine sm_get_p1n (by decide) rfl ?_ | refine sm_get_p2n (by decide) (by decide) rfl ?_)) ?_
  refine Bod.ifT dc_100_104 rfl (k1_eq_T (k_eq 0 0 rfl rfl (by omega))) ?_
  refine Bod.go dc_100_116 rfl ?_
  exact hB _ (by repeat (first | exact q0 | exact sm_get_p1 | exact sm_get_p2e | refine sm_get_p1m (by decide) (by decide) ?_ | refine sm_get_p1n (by decide) rfl ?_ | refine sm_get_p2n (by decide) (by decide) rfl ?_)) (by repeat (first | exact q1 | exact sm_get_p1 | exact sm_get_p2e | refine sm_get_p1m (by decide) (by decide) ?_ | refine sm_get_p1n (by decide) rfl ?_ | refine sm_get_p2n (by decide) (by decide) rfl ?_)) (by repeat (first | exact q0 | exact sm_get_p1 | exact sm_get_p2e | refine sm_get_p1m (by decide) (by decide) ?_ | refine sm_get_p1n (by decide) rfl ?_ | refine sm_get_p2n (by decide) (by decide) rfl ?_)) (by repeat (first | exact q0 | exact sm_get_p1 | exact sm_get_p2e | refine sm_get_p1m (by decide) (by decide) ?_ | refine sm_get_p1n (by decide) rfl ?_ | refine sm_get_p2n (by decide) (by decide) rfl ?_))
theorem cPsr_9 {d : Nat} {S Sf : cS} {v : Option Value} {lv : sm_L} {fd : Nat} {m : Nat} {nu : Nat} {S1 : cS} {b : Int32} {tk : Nat} {S2 : cS} {S3 : cS} {S4 : cS} {tk1 : Nat} {S5 : cS} (q3 : sm_get lv 3 = some (.int (nI fd))) (q2 : sm_get lv 2 = some (.int (nI m))) (q0 : sm_get lv 0 = some (.ref 43)) (q1 : sm_get lv 1 = some (.int (nI nu))) (mfd : fd < 2 ^ 20) (mm : m < 2 ^ 20) (mnu : nu < 2 ^ 20) (b1 : m ≠ 0) (b2 : fd ≤ 8) (c1 : Ans (d + 8) 92 [.ref 43] S (some (.int b)) S1) (htk : sI S1 3105 = nI tk) (mtk : tk < 2 ^ 20) (b3 : tk ≠ 0) (c2 : Ans (d + 8) 101 [.ref 32, .int b] S1 (some (.int (nI 0))) S2) (c3 : Ans (d + 8) 44 [.ref 31] S2 none S3) (c4 : Ans (d + 8) 102 [.ref 23, .int (nI nu)] S3 none S4) (htk1 : sI S4 3105 = nI tk1) (mtk1 : tk1 < 2 ^ 20) (b4 : tk1 = 12) (c5 : Ans (d + 8) 75 [.ref 31, .int (nI 12)] S4 none S5) (hB : ∀ lv1 : sm_L, sm_get lv1 0 = some (.ref 43) → sm_get lv1 1 = some (.int (nI nu)) → sm_get lv1 2 = some (.int (nI 1)) → sm_get lv1 3 = some (.int (nI (fd + 1))) → Bod (d + 8) 100 29 lv1 [] (S5) v Sf) : Bod (d + 8) 100 29 lv [] S v Sf := by
  refine Bod.ildnG dc_100_29 (by repeat (first | exact q2 | exact sm_get_p1 | exact sm_get_p2e | refine sm_get_p1m (by decide) (by decide) ?_ | refine sm_get_p1n (by decide) rfl ?_ | refine sm_get_p2n (by decide) (by decide) rfl ?_)) ?_
  refine Bod.ifF dc_100_30 rfl (k1_eq_F (k_ne m 0 rfl rfl (by omega) (by omega) (by omega))) ?_
  refine Bod.ildnG dc_100_33 (by repeat (first | exact q3 | exact sm_get_p1 | exact sm_get_p2e | refine sm_get_p1m (by decide) (by decide) ?_ | refine sm_get_p1n (by decide) rfl ?_ | refine sm_get_p2n (by decide) (by decide) rfl ?_)) ?_
  refine Bod.bip 8 (by decide) dc_100_34 ?_
  refine Bod.icF dc_100_36 rfl (k2_gt_F fd 8 rfl rfl (by omega) (by omega)) ?_
  refine Bod.aldnG dc_100_39 (by repeat (first | exact q0 | exact sm_get_p1 | exact sm_get_p2e | refine sm_get_p1m (by decide) (by decide) ?_ | refine sm_get_p1n (by decide) rfl ?_ | refine sm_get_p2n (by decide) (by decide) rfl ?_)) ?_
  refine Bod.virt (r := []) dc_100_40 kr_100_220 ⟨Or.inl rfl, ow_92, cl_10⟩ (by rw [np_92]; rfl) (by rw [np_92]; rfl) (ob_of (mk_43 _)) (Nat.le_of_ble_eq_true rfl) (c1  ) ?_
  show Bod _ _ _ _ [_] _ _ _
  refine Bod.ist dc_100_43 (by rw [ml_100]; exact Nat.le_of_ble_eq_true rfl) ?_
  refine Bod.aldnG dc_100_45 (by repeat (first | exact q0 | exact sm_get_p1 | exact sm_get_p2e | refine sm_get_p1m (by decide) (by decide) ?_ | refine sm_get_p1n (by decide) rfl ?_ | refine sm_get_p2n (by decide) (by decide) rfl ?_)) ?_
  refine Bod.get dc_100_46 fr_100_9 (mk_43 _) rfl ?_
  refine Bod.get dc_100_49 fr_100_79 (mk_31 _) rfl ?_
  refine Bod.eqI (nI tk) (by first | (simp (disch := omega) only [rI, rIe, rA, rIA, rLA, rJA, rVI, rQI, rVA, rQA, upd_at,  rAI, rLI, rJI, nI_add, pk_sub, kc_0, kc_1, kc_2, kc_3, kc_4, kc_5, reduceIte, Nat.reduceEqDiff, Nat.add_zero, rI_hold, rI_hold, rL_hold, htk]; done) | (simp (disch := omega) only [rI, rIe, rA, rIA, rLA, rJA, rVI, rQI, rVA, rQA, upd_at,  rAI, rLI, rJI, nI_add, pk_sub, kc_0, kc_1, kc_2, kc_3, kc_4, kc_5, reduceIte, Nat.reduceEqDiff, Nat.add_zero, rI_hold, rI_hold, rL_hold, htk]; exact congrArg nI (by omega))) ?_
  refine Bod.ifF dc_100_52 rfl (k1_eq_F (k_ne tk 0 rfl rfl (by omega) (by omega) (by omega))) ?_
  refine Bod.aldnG dc_100_55 (by repeat (first | exact q0 | exact sm_get_p1 | exact sm_get_p2e | refine sm_get_p1m (by decide) (by decide) ?_ | refine sm_get_p1n (by decide) rfl ?_ | refine sm_get_p2n (by decide) (by decide) rfl ?_)) ?_
  refine Bod.get dc_100_56 fr_100_19 (mk_43 _) rfl ?_
  refine Bod.ildG dc_100_59 (by repeat (first | exact q0 | exact sm_get_p1 | exact sm_get_p2e | refine sm_get_p1m (by decide) (by decide) ?_ | refine sm_get_p1n (by decide) rfl ?_ | refine sm_get_p2n (by decide) (by decide) rfl ?_)) ?_
  refine Bod.virt (r := []) dc_100_61 kr_100_248 ⟨Or.inr rfl, ow_101, cl_8⟩ (by rw [np_101]; rfl) (by rw [np_101]; rfl) (ob_of (mk_32 _)) (Nat.le_of_ble_eq_true rfl) (c2  ) ?_
  show Bod _ _ _ _ [_] _ _ _
  refine Bod.ifF dc_100_64 rfl (k1_ne_F (k_eq 0 0 rfl rfl (by omega))) ?_
  refine Bod.aldnG dc_100_67 (by repeat (first | exact q0 | exact sm_get_p1 | exact sm_get_p2e | refine sm_get_p1m (by decide) (by decide) ?_ | refine sm_get_p1n (by decide) rfl ?_ | refine sm_get_p2n (by decide) (by decide) rfl ?_)) ?_
  refine Bod.get dc_100_68 fr_100_9 (mk_43 _) rfl ?_
  refine Bod.virt (r := []) dc_100_71 kr_100_76 ⟨Or.inr rfl, ow_44, cl_3⟩ (by rw [np_44]; rfl) (by rw [np_44]; rfl) (ob_of (mk_31 _)) (Nat.le_of_ble_eq_true rfl) (c3  ) ?_
  show Bod _ _ _ _ [] _ _ _
  refine Bod.aldnG dc_100_74 (by repeat (first | exact q0 | exact sm_get_p1 | exact sm_get_p2e | refine sm_get_p1m (by decide) (by decide) ?_ | refine sm_get_p1n (by decide) rfl ?_ | refine sm_get_p2n (by decide) (by decide) rfl ?_)) ?_
  refine Bod.get dc_100_75 fr_100_15 (mk_43 _) rfl ?_
  refine Bod.ildnG dc_100_78 (by repeat (first | exact q1 | exact sm_get_p1 | exact sm_get_p2e | refine sm_get_p1m (by decide) (by decide) ?_ | refine sm_get_p1n (by decide) rfl ?_ | refine sm_get_p2n (by decide) (by decide) rfl ?_)) ?_
  refine Bod.virt (r := []) dc_100_79 kr_100_251 ⟨Or.inr rfl, ow_102, cl_7⟩ (by rw [np_102]; rfl) (by rw [np_102]; rfl) (ob_of (mk_23 _)) (Nat.le_of_ble_eq_true rfl) (c4  ) ?_
  show Bod _ _ _ _ [] _ _ _
  refine Bod.incN (fd + 1) (by rw [kc_1, nI_add]) dc_100_82 (by rw [ml_100]; exact Nat.le_of_ble_eq_true rfl) (by repeat (first | exact q3 | exact sm_get_p1 | exact sm_get_p2e | refine sm_get_p1m (by decide) (by decide) ?_ | refine sm_get_p1n (by decide) rfl ?_ | refine sm_get_p2n (by decide) (by decide) rfl ?_)) ?_
  refine Bod.aldnG dc_100_85 (by repeat (first | exact q0 | exact sm_get_p1 | exact sm_get_p2e | refine sm_get_p1m (by decide) (by decide) ?_ | refine sm_get_p1n (by decide) rfl ?_ | refine sm_get_p2n (by decide) (by decide) rfl ?_)) ?_
  refine Bod.get dc_100_86 fr_100_9 (mk_43 _) rfl ?_
  refine Bod.get dc_100_89 fr_100_79 (mk_31 _) rfl ?_
  refine Bod.eqI (nI tk1) (by first | (simp (disch := omega) only [rI, rIe, rA, rIA, rLA, rJA, rVI, rQI, rVA, rQA, upd_at,  rAI, rLI, rJI, nI_add, pk_sub, kc_0, kc_1, kc_2, kc_3, kc_4, kc_5, reduceIte, Nat.reduceEqDiff, Nat.add_zero, rI_hold, rI_hold, rL_hold, htk, htk1]; done) | (simp (disch := omega) only [rI, rIe, rA, rIA, rLA, rJA, rVI, rQI, rVA, rQA, upd_at,  rAI, rLI, rJI, nI_add, pk_sub, kc_0, kc_1, kc_2, kc_3, kc_4, kc_5, reduceIte, Nat.reduceEqDiff, Nat.add_zero, rI_hold, rI_hold, rL_hold, htk, htk1]; exact congrArg nI (by omega))) ?_
  refine Bod.bip 12 (by decide) dc_100_92 ?_
  refine Bod.icF dc_100_94 rfl (k2_ne_F (k_eq tk1 12 rfl rfl (by omega))) ?_
  refine Bod.ic 1 (by decide) dc_100_97 ?_
  refine Bod.go dc_100_98 rfl ?_
  refine Bod.istn dc_100_102 (by rw [ml_100]; exact Nat.le_of_ble_eq_true rfl) ?_
  refine Bod.ildnG dc_100_103 (by repeat (first | exact q0 | exact sm_get_p1 | exact sm_get_p2e | refine sm_get_p1m (by decide) (by decide) ?_ | refine sm_get_p1n (by decide) rfl ?_ | refine sm_get_p2n (by decide) (by decide) rfl ?_)) ?_
  refine Bod.ifF dc_100_104 rfl (k1_eq_F (k_ne 1 0 rfl rfl (by omega) (by omega) (by omega))) ?_
  refine Bod.aldnG dc_100_107 (by repeat (first | exact q0 | exact sm_get_p1 | exact sm_get_p2e | refine sm_get_p1m (by decide) (by decide) ?_ | refine sm_get_p1n (by decide) rfl ?_ | refine sm_get_p2n (by decide) (by decide) rfl ?_)) ?_
  refine Bod.get dc_100_108 fr_100_9 (mk_43 _) rfl ?_
  refine Bod.bip 12 (by decide) dc_100_111 ?_
  refine Bod.virt (r := []) dc_100_113 kr_100_107 ⟨Or.inr rfl, ow_75, cl_3⟩ (by rw [np_75]; rfl) (by rw [np_75]; rfl) (ob_of (mk_31 _)) (Nat.le_of_ble_eq_true rfl) (c5  ) ?_
  show Bod _ _ _ _ [] _ _ _
  refine Bod.go dc_100_116 rfl ?_
  exact hB _ (by repeat (first | exact q0 | exact sm_get_p1 | exact sm_get_p2e | refine sm_get_p1m (by decide) (by decide) ?_ | refine sm_get_p1n (by decide) rfl ?_ | refine sm_get_p2n (by decide) (by decide) rfl ?_)) (by repeat (first | exact q1 | exact sm_get_p1 | exact sm_get_p2e | refine sm_get_p1m (by decide) (by decide) ?_ | refine sm_get_p1n (by decide) rfl ?_ | refine sm_get_p2n (by decide) (by decide) rfl ?_)) (by repeat (first | exact q0 | exact sm_get_p1 | exact sm_get_p2e | refine sm_get_p1m (by decide) (by decide) ?_ | refine sm_get_p1n (by decide) rfl ?_ | refine sm_get_p2n (by decide) (by decide) rfl ?_)) (by repeat (first | exact q0 | exact sm_get_p1 | exact sm_get_p2e | refine sm_get_p1m (by decide) (by decide) ?_ | refine sm_get_p1n (by decide) rfl ?_ | refine sm_get_p2n (by decide) (by decide) rfl ?_))
theorem cEnx0_1 {d : Nat} {S Sf : cS} {v : Option Value} {sc : Nat} {q : Int32} (msc : sc < 2 ^ 20) (b1 : sc ≤ 0) (hB : ∀ lv1 : sm_L, sm_get lv1 0 = some (.ref 32) → sm_get lv1 2 = some (.int q) → sm_get lv1 3 = some (.int (Int32.ofInt (-1))) → sm_get lv1 4 = some (.int (nI 0)) → Bod (d + 8) 95 25 lv1 [] (S) v Sf) : Bod (d + 8) 95 0 [(0, .ref 32), (1, .int (nI sc)), (2, .int q)] [] S v Sf := by
  refine Bod.go dc_95_0 rfl ?_
  refine Bod.ifT dc_95_1 rfl (k1_le_T (k_eq sc 0 (by first | assumption | rfl | exact congrArg nI (by omega) | (simp (disch := omega) only [rI, rIe, rA, rIA, rLA, rJA, rVI, rQI, rVA, rQA, upd_at,  rAI, rLI, rJI, nI_add, pk_sub, kc_0, kc_1, kc_2, kc_3, kc_4, kc_5, reduceIte, Nat.reduceEqDiff, Nat.add_zero, rI_hold, rI_hold, rL_hold]; done)) rfl (by omega))) ?_
  refine Bod.go dc_95_20 rfl ?_
  refine Bod.istn dc_95_21 (by rw [ml_95]; exact Nat.le_of_ble_eq_true rfl) ?_
  refine Bod.ic 0 (by decide) dc_95_22 ?_
  refine Bod.ist dc_95_23 (by rw [ml_95]; exact Nat.le_of_ble_eq_true rfl) ?_
  exact hB _ (by first | rfl | exact (by repeat (first | exact rfl | exact sm_get_p1 | exact sm_get_p2e | refine sm_get_p1m (by decide) (by decide) ?_ | refine sm_get_p1n (by decide) rfl ?_ | refine sm_get_p2n (by decide) (by decide) rfl ?_))) (by first | rfl | exact (by repeat (first | exact rfl | exact sm_get_p1 | exact sm_get_p2e | refine sm_get_p1m (by decide) (by decide) ?_ | refine sm_get_p1n (by decide) rfl ?_ | refine sm_get_p2n (by decide) (by decide) rfl ?_))) (by first | rfl | exact (by repeat (first | exact rfl | exact sm_get_p1 | exact sm_get_p2e | refine sm_get_p1m (by decide) (by decide) ?_ | refine sm_get_p1n (by decide) rfl ?_ | refine sm_get_p2n (by decide) (by decide) rfl ?_))) (by first | rfl | exact (by repeat (first | exact rfl | exact sm_get_p1 | exact sm_get_p2e | refine sm_get_p1m (by decide) (by decide) ?_ | refine sm_get_p1n (by decide) rfl ?_ | refine sm_get_p2n (by decide) (by decide) rfl ?_)))
theorem cEnx0_2 {d : Nat} {S Sf : cS} {v : Option Value} {sc : Nat} {q : Int32} (msc : sc < 2 ^ 20) (b1 : 0 < sc) (b2 : 300 ≤ sc) (hB : ∀ lv1 : sm_L, sm_get lv1 0 = some (.ref 32) → sm_get lv1 2 = some (.int q) → sm_get lv1 3 = some (.int (Int32.ofInt (-1))) → sm_get lv1 4 = some (.int (nI 0)) → Bod (d + 8) 95 25 lv1 [] (S) v Sf) : Bod (d + 8) 95 0 [(0, .ref 32), (1, .int (nI sc)), (2, .int q)] [] S v Sf := by
  refine Bod.go dc_95_0 rfl ?_
  refine Bod.ifF dc_95_1 rfl (k1_le_F sc rfl (by omega) (by omega)) ?_
  refine Bod.go dc_95_4 rfl ?_
  refine Bod.sip 300 (by decide) dc_95_5 ?_
  refine Bod.icT dc_95_8 rfl (k2_ge_T sc 300 rfl rfl (by omega) (by omega)) ?_
  refine Bod.go dc_95_20 rfl ?_
  refine Bod.istn dc_95_21 (by rw [ml_95]; exact Nat.le_of_ble_eq_true rfl) ?_
  refine Bod.ic 0 (by decide) dc_95_22 ?_
  refine Bod.ist dc_95_23 (by rw [ml_95]; exact Nat.le_of_ble_eq_true rfl) ?_
  exact hB _ (by first | rfl | exact (by repeat (first | exact rfl | exact sm_get_p1 | exact sm_get_p2e | refine sm_get_p1m (by decide) (by decide) ?_ | refine sm_get_p1n (by decide) rfl ?_ | refine sm_get_p2n (by decide) (by decide) rfl ?_))) (by first | rfl | exact (by repeat (first | exact rfl | exact sm_get_p1 | exact sm_get_p2e | refine sm_get_p1m (by decide) (by decide) ?_ | refine sm_get_p1n (by decide) rfl ?_ | refine sm_get_p2n (by decide) (by decide) rfl ?_))) (by first | rfl | exact (by repeat (first | exact rfl | exact sm_get_p1 | exact sm_get_p2e | refine sm_get_p1m (by decide) (by decide) ?_ | refine sm_get_p1n (by decide) rfl ?_ | refine sm_get_p2n (by decide) (by decide) rfl ?_))) (by first | rfl | exact (by repeat (first | exact rfl | exact sm_get_p1 | exact sm_get_p2e | refine sm_get_p1m (by decide) (by decide) ?_ | refine sm_get_p1n (by decide) rfl ?_ | refine sm_get_p2n (by decide) (by decide) rfl ?_)))
theorem cEnx0_3 {d : Nat} {S Sf : cS} {v : Option Value} {sc : Nat} {q : Int32} (msc : sc < 2 ^ 20) (b1 : 0 < sc) (b2 : sc < 300) (hB : ∀ lv1 : sm_L, sm_get lv1 0 = some (.ref 32) → sm_get lv1 2 = some (.int q) → sm_get lv1 3 = some (.int (sA S 35 sc)) → sm_get lv1 4 = some (.int (nI 0)) → Bod (d + 8) 95 25 lv1 [] (S) v Sf) : Bod (d + 8) 95 0 [(0, .ref 32), (1, .int (nI sc)), (2, .int q)] [] S v Sf := by
  refine Bod.go dc_95_0 rfl ?_
  refine Bod.ifF dc_95_1 rfl (k1_le_F sc rfl (by omega) (by omega)) ?_
  refine Bod.go dc_95_4 rfl ?_
  refine Bod.sip 300 (by decide) dc_95_5 ?_
  refine Bod.icF dc_95_8 rfl (k2_ge_F sc 300 rfl rfl (by omega) (by omega)) ?_
  refine Bod.go dc_95_11 rfl ?_
  refine Bod.get dc_95_12 fr_95_20 (mk_32 _) rfl ?_
  refine Bod.go dc_95_15 rfl ?_
  refine Bod.ialdN sc rfl (by omega) (by omega) dc_95_16 (mk_35 _) ?_
  refine Bod.go dc_95_17 rfl ?_
  refine Bod.istn dc_95_21 (by rw [ml_95]; exact Nat.le_of_ble_eq_true rfl) ?_
  refine Bod.ic 0 (by decide) dc_95_22 ?_
  refine Bod.ist dc_95_23 (by rw [ml_95]; exact Nat.le_of_ble_eq_true rfl) ?_
  exact hB _ (by first | rfl | exact (by repeat (first | exact rfl | exact sm_get_p1 | exact sm_get_p2e | refine sm_get_p1m (by decide) (by decide) ?_ | refine sm_get_p1n (by decide) rfl ?_ | refine sm_get_p2n (by decide) (by decide) rfl ?_))) (by first | rfl | exact (by repeat (first | exact rfl | exact sm_get_p1 | exact sm_get_p2e | refine sm_get_p1m (by decide) (by decide) ?_ | refine sm_get_p1n (by decide) rfl ?_ | refine sm_get_p2n (by decide) (by decide) rfl ?_))) (by first | rfl | exact (by repeat (first | exact rfl | exact sm_get_p1 | exact sm_get_p2e | refine sm_get_p1m (by decide) (by decide) ?_ | refine sm_get_p1n (by decide) rfl ?_ | refine sm_get_p2n (by decide) (by decide) rfl ?_))) (by first | rfl | exact (by repeat (first | exact rfl | exact sm_get_p1 | exact sm_get_p2e | refine sm_get_p1m (by decide) (by decide) ?_ | refine sm_get_p1n (by decide) rfl ?_ | refine sm_get_p2n (by decide) (by decide) rfl ?_)))
theorem cEnxL_1 {d : Nat} {S : cS} {lv : sm_L} {t : Nat} {e : Nat} {q : Int32} (q4 : sm_get lv 4 = some (.int (nI t))) (q3 : sm_get lv 3 = some (.int (nI e))) (q2 : sm_get lv 2 = some (.int q)) (q0 : sm_get lv 0 = some (.ref 32)) (mt : t < 2 ^ 20) (me : e < 2 ^ 20) (b1 : 1600 ≤ t) : Bod (d + 8) 95 25 lv [] S (some (.int (Int32.ofInt (-1)))) (S) := by
  refine Bod.ildG dc_95_25 (by repeat (first | exact q4 | exact sm_get_p1 | exact sm_get_p2e | refine sm_get_p1m (by decide) (by decide) ?_ | refine sm_get_p1n (by decide) rfl ?_ | refine sm_get_p2n (by decide) (by decide) rfl ?_)) ?_
  refine Bod.sip 1600 (by decide) dc_95_27 ?_
  refine Bod.icT dc_95_30 rfl (k2_ge_T t 1600 rfl rfl (by omega) (by omega)) ?_
  refine Bod.go dc_95_69 rfl ?_
  exact Bod.retI dc_95_70 rt_95
theorem cEnxL_2 {d : Nat} {S : cS} {lv : sm_L} {t : Nat} {e : Nat} {q : Int32} (q4 : sm_get lv 4 = some (.int (nI t))) (q3 : sm_get lv 3 = some (.int (nI e))) (q2 : sm_get lv 2 = some (.int q)) (q0 : sm_get lv 0 = some (.ref 32)) (mt : t < 2 ^ 20) (me : e < 2 ^ 20) (b1 : t < 1600) (b2 : 1600 ≤ e) : Bod (d + 8) 95 25 lv [] S (some (.int (Int32.ofInt (-1)))) (S) := by
  refine Bod.ildG dc_95_25 (by repeat (first | exact q4 | exact sm_get_p1 | exact sm_get_p2e | refine sm_get_p1m (by decide) (by decide) ?_ | refine sm_get_p1n (by decide) rfl ?_ | refine sm_get_p2n (by decide) (by decide) rfl ?_)) ?_
  refine Bod.sip 1600 (by decide) dc_95_27 ?_
  refine Bod.icF dc_95_30 rfl (k2_ge_F t 1600 rfl rfl (by omega) (by omega)) ?_
  refine Bod.ildnG dc_95_33 (by repeat (first | exact q3 | exact sm_get_p1 | exact sm_get_p2e | refine sm_get_p1m (by decide) (by decide) ?_ | refine sm_get_p1n (by decide) rfl ?_ | refine sm_get_p2n (by decide) (by decide) rfl ?_)) ?_
  refine Bod.ifF dc_95_34 rfl (k1_lt_F e rfl (by omega)) ?_
  refine Bod.ildnG dc_95_37 (by repeat (first | exact q3 | exact sm_get_p1 | exact sm_get_p2e | refine sm_get_p1m (by decide) (by decide) ?_ | refine sm_get_p1n (by decide) rfl ?_ | refine sm_get_p2n (by decide) (by decide) rfl ?_)) ?_
  refine Bod.sip 1600 (by decide) dc_95_38 ?_
  refine Bod.icT dc_95_41 rfl (k2_ge_T e 1600 rfl rfl (by omega) (by omega)) ?_
  refine Bod.go dc_95_69 rfl ?_
  exact Bod.retI dc_95_70 rt_95
theorem cEnxL_3 {d : Nat} {S : cS} {lv : sm_L} {t : Nat} {e : Nat} {q : Int32} (q4 : sm_get lv 4 = some (.int (nI t))) (q3 : sm_get lv 3 = some (.int (nI e))) (q2 : sm_get lv 2 = some (.int q)) (q0 : sm_get lv 0 = some (.ref 32)) (mt : t < 2 ^ 20) (me : e < 2 ^ 20) (b1 : t < 1600) (b2 : e < 1600) (w5 : sA S 36 e = q) : Bod (d + 8) 95 25 lv [] S (some (.int (nI e))) (S) := by
  refine Bod.ildG dc_95_25 (by repeat (first | exact q4 | exact sm_get_p1 | exact sm_get_p2e | refine sm_get_p1m (by decide) (by decide) ?_ | refine sm_get_p1n (by decide) rfl ?_ | refine sm_get_p2n (by decide) (by decide) rfl ?_)) ?_
  refine Bod.sip 1600 (by decide) dc_95_27 ?_
  refine Bod.icF dc_95_30 rfl (k2_ge_F t 1600 rfl rfl (by omega) (by omega)) ?_
  refine Bod.ildnG dc_95_33 (by repeat (first | exact q3 | exact sm_get_p1 | exact sm_get_p2e | refine sm_get_p1m (by decide) (by decide) ?_ | refine sm_get_p1n (by decide) rfl ?_ | refine sm_get_p2n (by decide) (by decide) rfl ?_)) ?_
  refine Bod.ifF dc_95_34 rfl (k1_lt_F e rfl (by omega)) ?_
  refine Bod.ildnG dc_95_37 (by repeat (first | exact q3 | exact sm_get_p1 | exact sm_get_p2e | refine sm_get_p1m (by decide) (by decide) ?_ | refine sm_get_p1n (by decide) rfl ?_ | refine sm_get_p2n (by decide) (by decide) rfl ?_)) ?_
  refine Bod.sip 1600 (by decide) dc_95_38 ?_
  refine Bod.icF dc_95_41 rfl (k2_ge_F e 1600 rfl rfl (by omega) (by omega)) ?_
  refine Bod.aldnG dc_95_44 (by repeat (first | exact q0 | exact sm_get_p1 | exact sm_get_p2e | refine sm_get_p1m (by decide) (by decide) ?_ | refine sm_get_p1n (by decide) rfl ?_ | refine sm_get_p2n (by decide) (by decide) rfl ?_)) ?_
  refine Bod.get dc_95_45 fr_95_23 (mk_32 _) rfl ?_
  refine Bod.ildnG dc_95_48 (by repeat (first | exact q3 | exact sm_get_p1 | exact sm_get_p2e | refine sm_get_p1m (by decide) (by decide) ?_ | refine sm_get_p1n (by decide) rfl ?_ | refine sm_get_p2n (by decide) (by decide) rfl ?_)) ?_
  refine Bod.ialdN e rfl (by omega) (by omega) dc_95_49 (mk_36 _) ?_
  refine Bod.ildnG dc_95_50 (by repeat (first | exact q2 | exact sm_get_p1 | exact sm_get_p2e | refine sm_get_p1m (by decide) (by decide) ?_ | refine sm_get_p1n (by decide) rfl ?_ | refine sm_get_p2n (by decide) (by decide) rfl ?_)) ?_
  refine Bod.icF dc_95_51 rfl (c2_ne_F w5) ?_
  refine Bod.ildnG dc_95_54 (by repeat (first | exact q3 | exact sm_get_p1 | exact sm_get_p2e | refine sm_get_p1m (by decide) (by decide) ?_ | refine sm_get_p1n (by decide) rfl ?_ | refine sm_get_p2n (by decide) (by decide) rfl ?_)) ?_
  exact Bod.retI dc_95_55 rt_95
theorem cEnxL_4 {d : Nat} {S Sf : cS} {v : Option Value} {lv : sm_L} {t : Nat} {e : Nat} {q : Int32} (q4 : sm_get lv 4 = some (.int (nI t))) (q3 : sm_get lv 3 = some (.int (nI e))) (q2 : sm_get lv 2 = some (.int q)) (q0 : sm_get lv 0 = some (.ref 32)) (mt : t < 2 ^ 20) (me : e < 2 ^ 20) (b1 : t < 1600) (b2 : e < 1600) (w5 : sA S 36 e ≠ q) (hB : ∀ lv1 : sm_L, sm_get lv1 0 = some (.ref 32) → sm_get lv1 2 = some (.int q) → sm_get lv1 3 = some (.int (sA S 40 e)) → sm_get lv1 4 = some (.int (nI (t + 1))) → Bod (d + 8) 95 25 lv1 [] (S) v Sf) : Bod (d + 8) 95 25 lv [] S v Sf := by
  refine Bod.ildG dc_95_25 (by repeat (first | exact q4 | exact sm_get_p1 | exact sm_get_p2e | refine sm_get_p1m (by decide) (by decide) ?_ | refine sm_get_p1n (by decide) rfl ?_ | refine sm_get_p2n (by decide) (by decide) rfl ?_)) ?_
  refine Bod.sip 1600 (by decide) dc_95_27 ?_
  refine Bod.icF dc_95_30 rfl (k2_ge_F t 1600 rfl rfl (by omega) (by omega)) ?_
  refine Bod.ildnG dc_95_33 (by repeat (first | exact q3 | exact sm_get_p1 | exact sm_get_p2e | refine sm_get_p1m (by decide) (by decide) ?_ | refine sm_get_p1n (by decide) rfl ?_ | refine sm_get_p2n (by decide) (by decide) rfl ?_)) ?_
  refine Bod.ifF dc_95_34 rfl (k1_lt_F e rfl (by omega)) ?_
  refine Bod.ildnG dc_95_37 (by repeat (first | exact q3 | exact sm_get_p1 | exact sm_get_p2e | refine sm_get_p1m (by decide) (by decide) ?_ | refine sm_get_p1n (by decide) rfl ?_ | refine sm_get_p2n (by decide) (by decide) rfl ?_)) ?_
  refine Bod.sip 1600 (by decide) dc_95_38 ?_
  refine Bod.icF dc_95_41 rfl (k2_ge_F e 1600 rfl rfl (by omega) (by omega)) ?_
  refine Bod.aldnG dc_95_44 (by repeat (first | exact q0 | exact sm_get_p1 | exact sm_get_p2e | refine sm_get_p1m (by decide) (by decide) ?_ | refine sm_get_p1n (by decide) rfl ?_ | refine sm_get_p2n (by decide) (by decide) rfl ?_)) ?_
  refine Bod.get dc_95_45 fr_95_23 (mk_32 _) rfl ?_
  refine Bod.ildnG dc_95_48 (by repeat (first | exact q3 | exact sm_get_p1 | exact sm_get_p2e | refine sm_get_p1m (by decide) (by decide) ?_ | refine sm_get_p1n (by decide) rfl ?_ | refine sm_get_p2n (by decide) (by decide) rfl ?_)) ?_
  refine Bod.ialdN e rfl (by omega) (by omega) dc_95_49 (mk_36 _) ?_
  refine Bod.ildnG dc_95_50 (by repeat (first | exact q2 | exact sm_get_p1 | exact sm_get_p2e | refine sm_get_p1m (by decide) (by decide) ?_ | refine sm_get_p1n (by decide) rfl ?_ | refine sm_get_p2n (by decide) (by decide) rfl ?_)) ?_
  refine Bod.icT dc_95_51 rfl (c2_ne_T w5) ?_
  refine Bod.aldnG dc_95_56 (by repeat (first | exact q0 | exact sm_get_p1 | exact sm_get_p2e | refine sm_get_p1m (by decide) (by decide) ?_ | refine sm_get_p1n (by decide) rfl ?_ | refine sm_get_p2n (by decide) (by decide) rfl ?_)) ?_
  refine Bod.get dc_95_57 fr_95_35 (mk_32 _) rfl ?_
  refine Bod.ildnG dc_95_60 (by repeat (first | exact q3 | exact sm_get_p1 | exact sm_get_p2e | refine sm_get_p1m (by decide) (by decide) ?_ | refine sm_get_p1n (by decide) rfl ?_ | refine sm_get_p2n (by decide) (by decide) rfl ?_)) ?_
  refine Bod.ialdN e rfl (by omega) (by omega) dc_95_61 (mk_40 _) ?_
  refine Bod.istn dc_95_62 (by rw [ml_95]; exact Nat.le_of_ble_eq_true rfl) ?_
  refine Bod.incN (t + 1) (by rw [kc_1, nI_add]) dc_95_63 (by rw [ml_95]; exact Nat.le_of_ble_eq_true rfl) (by repeat (first | exact q4 | exact sm_get_p1 | exact sm_get_p2e | refine sm_get_p1m (by decide) (by decide) ?_ | refine sm_get_p1n (by decide) rfl ?_ | refine sm_get_p2n (by decide) (by decide) rfl ?_)) ?_
  refine Bod.go dc_95_66 rfl ?_
  exact hB _ (by repeat (first | exact q0 | exact sm_get_p1 | exact sm_get_p2e | refine sm_get_p1m (by decide) (by decide) ?_ | refine sm_get_p1n (by decide) rfl ?_ | refine sm_get_p2n (by decide) (by decide) rfl ?_)) (by repeat (first | exact q2 | exact sm_get_p1 | exact sm_get_p2e | refine sm_get_p1m (by decide) (by decide) ?_ | refine sm_get_p1n (by decide) rfl ?_ | refine sm_get_p2n (by decide) (by decide) rfl ?_)) (by repeat (first | exact q0 | exact sm_get_p1 | exact sm_get_p2e | refine sm_get_p1m (by decide) (by decide) ?_ | refine sm_get_p1n (by decide) rfl ?_ | refine sm_get_p2n (by decide) (by decide) rfl ?_)) (by repeat (first | exact q0 | exact sm_get_p1 | exact sm_get_p2e | refine sm_get_p1m (by decide) (by decide) ?_ | refine sm_get_p1n (by decide) rfl ?_ | refine sm_get_p2n (by decide) (by decide) rfl ?_))
theorem cEnxE_1 {d : Nat} {S : cS} {lv : sm_L} {t : Nat} {q : Int32} (q4 : sm_get lv 4 = some (.int (nI t))) (q3 : sm_get lv 3 = some (.int (Int32.ofInt (-1)))) (q2 : sm_get lv 2 = some (.int q)) (q0 : sm_get lv 0 = some (.ref 32)) (mt : t < 2 ^ 20) (b1 : 1600 ≤ t) : Bod (d + 8) 95 25 lv [] S (some (.int (Int32.ofInt (-1)))) (S) := by
  refine Bod.ildG dc_95_25 (by repeat (first | exact q4 | exact sm_get_p1 | exact sm_get_p2e | refine sm_get_p1m (by decide) (by decide) ?_ | refine sm_get_p1n (by decide) rfl ?_ | refine sm_get_p2n (by decide) (by decide) rfl ?_)) ?_
  refine Bod.sip 1600 (by decide) dc_95_27 ?_
  refine Bod.icT dc_95_30 rfl (k2_ge_T t 1600 rfl rfl (by omega) (by omega)) ?_
  refine Bod.go dc_95_69 rfl ?_
  exact Bod.retI dc_95_70 rt_95
theorem cEnxE_2 {d : Nat} {S : cS} {lv : sm_L} {t : Nat} {q : Int32} (q4 : sm_get lv 4 = some (.int (nI t))) (q3 : sm_get lv 3 = some (.int (Int32.ofInt (-1)))) (q2 : sm_get lv 2 = some (.int q)) (q0 : sm_get lv 0 = some (.ref 32)) (mt : t < 2 ^ 20) (b1 : t < 1600) : Bod (d + 8) 95 25 lv [] S (some (.int (Int32.ofInt (-1)))) (S) := by
  refine Bod.ildG dc_95_25 (by repeat (first | exact q4 | exact sm_get_p1 | exact sm_get_p2e | refine sm_get_p1m (by decide) (by decide) ?_ | refine sm_get_p1n (by decide) rfl ?_ | refine sm_get_p2n (by decide) (by decide) rfl ?_)) ?_
  refine Bod.sip 1600 (by decide) dc_95_27 ?_
  refine Bod.icF dc_95_30 rfl (k2_ge_F t 1600 rfl rfl (by omega) (by omega)) ?_
  refine Bod.ildnG dc_95_33 (by repeat (first | exact q3 | exact sm_get_p1 | exact sm_get_p2e | refine sm_get_p1m (by decide) (by decide) ?_ | refine sm_get_p1n (by decide) rfl ?_ | refine sm_get_p2n (by decide) (by decide) rfl ?_)) ?_
  refine Bod.ifT dc_95_34 rfl (by decide) ?_
  refine Bod.go dc_95_69 rfl ?_
  exact Bod.retI dc_95_70 rt_95
theorem cFnr_1 {d : Nat} {S : cS} {dp : Nat} {ind : Nat} {S1 : cS} {S2 : cS} {b : Int32} {S3 : cS} {a : Nat} {S4 : cS} {a1 : Nat} {S5 : cS} {a2 : Nat} {S6 : cS} {tr : Nat} {S7 : cS} {S8 : cS} {S9 : cS} {a3 : Nat} {S10 : cS} {top : Nat} {S11 : cS} {S12 : cS} {a4 : Nat} (mdp : dp < 2 ^ 20) (hind : sI S 3108 = nI ind) (mind : ind < 2 ^ 20) (c1 : Ans (d + 8) 75 [.ref 31, .int (nI 46)] S none S1) (c2 : Ans (d + 8) 92 [.ref 43] S1 (some (.int b)) S2) (ma : a < 2 ^ 20) (c3 : Ans (d + 8) 54 [.ref 23, .int (nI 4), .int (nI 0)] S2 (some (.int (nI a))) S3) (ma1 : a1 < 2 ^ 20) (c4 : Ans (d + 8) 98 [.ref 23, .int b] S3 (some (.int (nI a1))) S4) (ma2 : a2 < 2 ^ 20) (c5 : Ans (d + 8) 99 [.ref 32, .int (nI a1)] S4 (some (.int (nI a2))) S5) (c6 : Ans (d + 8) 100 [.ref 43, .int (nI a1)] S5 none S6) (htr : sI S6 4308 = nI tr) (mtr : tr < 2 ^ 20) (c7 : Ans (d + 8) 84 [.ref 43, .int (nI ind), .int (nI (dp + 1))] (wI 4308 (nI 0) (wI 4309 (Int32.ofInt (-1)) S6)) none S7) (c8 : Ans (d + 8) 73 [.ref 23, .long ((1152921504606846976)), .long 0] S7 none S8) (ma3 : a3 < 2 ^ 20) (c9 : Ans (d + 8) 71 [.ref 23, .int (nI 8)] S8 (some (.int (nI a3))) S9) (c10 : Ans (d + 8) 104 [.ref 32, .int (nI a2)] (wI 4308 (nI tr) (wI 4309 (sI S6 4309) S9)) none S10) (htop : sI S10 2307 = nI top) (mtop : top < 2 ^ 20) (c11 : Ans (d + 8) 83 [.ref 23, .int (nI (a + 1)), .int (nI top)] S10 none S11) (ma4 : a4 < 2 ^ 20) (c12 : Ans (d + 8) 54 [.ref 23, .int (nI 22), .int (nI a1)] S11 (some (.int (nI a4))) S12) : Bod (d + 8) 97 0 [(0, .ref 43), (1, .int (nI dp))] [] S (some (.int b)) (S12) := by
  refine Bod.go dc_97_0 rfl ?_
  refine Bod.get dc_97_1 fr_97_9 (mk_43 _) rfl ?_
  refine Bod.get dc_97_4 fr_97_96 (mk_31 _) rfl ?_
  refine Bod.eqI (nI ind) (by first | assumption | rfl | exact congrArg nI (by omega) | (simp (disch := omega) only [rI, rIe, rA, rIA, rLA, rJA, rVI, rQI, rVA, rQA, upd_at,  rAI, rLI, rJI, nI_add, pk_sub, kc_0, kc_1, kc_2, kc_3, kc_4, kc_5, reduceIte, Nat.reduceEqDiff, Nat.add_zero, rI_hold, rI_hold, rL_hold, hind]; done)) ?_
  refine Bod.istn dc_97_7 (by rw [ml_97]; exact Nat.le_of_ble_eq_true rfl) ?_
  refine Bod.go dc_97_8 rfl ?_
  refine Bod.get dc_97_9 fr_97_9 (mk_43 _) rfl ?_
  refine Bod.bip 46 (by decide) dc_97_12 ?_
  refine Bod.virt (r := []) dc_97_14 kr_97_107 ⟨Or.inr rfl, ow_75, cl_3⟩ (by rw [np_75]; rfl) (by rw [np_75]; rfl) (ob_of (mk_31 _)) (Nat.le_of_ble_eq_true rfl) (c1  ) ?_
  show Bod _ _ _ _ [] _ _ _
  refine Bod.go dc_97_17 rfl ?_
  refine Bod.virt (r := []) dc_97_18 kr_97_220 ⟨Or.inl rfl, ow_92, cl_10⟩ (by rw [np_92]; rfl) (by rw [np_92]; rfl) (ob_of (mk_43 _)) (Nat.le_of_ble_eq_true rfl) (c2  ) ?_
  show Bod _ _ _ _ [_] _ _ _
  refine Bod.istn dc_97_21 (by rw [ml_97]; exact Nat.le_of_ble_eq_true rfl) ?_
  refine Bod.go dc_97_22 rfl ?_
  refine Bod.get dc_97_23 fr_97_15 (mk_43 _) rfl ?_
  refine Bod.ic 4 (by decide) dc_97_26 ?_
  refine Bod.ic 0 (by decide) dc_97_27 ?_
  refine Bod.virt (r := []) dc_97_28 kr_97_116 ⟨Or.inr rfl, ow_54, cl_7⟩ (by rw [np_54]; rfl) (by rw [np_54]; rfl) (ob_of (mk_23 _)) (Nat.le_of_ble_eq_true rfl) (c3  ) ?_
  show Bod _ _ _ _ [_] _ _ _
  refine Bod.ist dc_97_31 (by rw [ml_97]; exact Nat.le_of_ble_eq_true rfl) ?_
  refine Bod.go dc_97_33 rfl ?_
  refine Bod.get dc_97_34 fr_97_15 (mk_43 _) rfl ?_
  refine Bod.go dc_97_37 rfl ?_
  refine Bod.virt (r := []) dc_97_38 kr_97_236 ⟨Or.inr rfl, ow_98, cl_7⟩ (by rw [np_98]; rfl) (by rw [np_98]; rfl) (ob_of (mk_23 _)) (Nat.le_of_ble_eq_true rfl) (c4  ) ?_
  show Bod _ _ _ _ [_] _ _ _
  refine Bod.ist dc_97_41 (by rw [ml_97]; exact Nat.le_of_ble_eq_true rfl) ?_
  refine Bod.go dc_97_43 rfl ?_
  refine Bod.get dc_97_44 fr_97_19 (mk_43 _) rfl ?_
  refine Bod.go dc_97_47 rfl ?_
  refine Bod.virt (r := []) dc_97_49 kr_97_239 ⟨Or.inr rfl, ow_99, cl_8⟩ (by rw [np_99]; rfl) (by rw [np_99]; rfl) (ob_of (mk_32 _)) (Nat.le_of_ble_eq_true rfl) (c5  ) ?_
  show Bod _ _ _ _ [_] _ _ _
  refine Bod.ist dc_97_52 (by rw [ml_97]; exact Nat.le_of_ble_eq_true rfl) ?_
  refine Bod.go dc_97_54 rfl ?_
  refine Bod.go dc_97_55 rfl ?_
  refine Bod.virt (r := []) dc_97_57 kr_97_242 ⟨Or.inl rfl, ow_100, cl_10⟩ (by rw [np_100]; rfl) (by rw [np_100]; rfl) (ob_of (mk_43 _)) (Nat.le_of_ble_eq_true rfl) (c6  ) ?_
  show Bod _ _ _ _ [] _ _ _
  refine Bod.go dc_97_60 rfl ?_
  refine Bod.get dc_97_61 fr_97_49 (mk_43 _) rfl ?_
  refine Bod.ist dc_97_64 (by rw [ml_97]; exact Nat.le_of_ble_eq_true rfl) ?_
  refine Bod.go dc_97_66 rfl ?_
  refine Bod.get dc_97_67 fr_97_46 (mk_43 _) rfl ?_
  refine Bod.eqI (nI tr) (by first | (simp (disch := omega) only [rI, rIe, rA, rIA, rLA, rJA, rVI, rQI, rVA, rQA, upd_at,  rAI, rLI, rJI, nI_add, pk_sub, kc_0, kc_1, kc_2, kc_3, kc_4, kc_5, reduceIte, Nat.reduceEqDiff, Nat.add_zero, rI_hold, rI_hold, rL_hold, hind, htr]; done) | (simp (disch := omega) only [rI, rIe, rA, rIA, rLA, rJA, rVI, rQI, rVA, rQA, upd_at,  rAI, rLI, rJI, nI_add, pk_sub, kc_0, kc_1, kc_2, kc_3, kc_4, kc_5, reduceIte, Nat.reduceEqDiff, Nat.add_zero, rI_hold, rI_hold, rL_hold, hind, htr]; exact congrArg nI (by omega))) ?_
  refine Bod.ist dc_97_70 (by rw [ml_97]; exact Nat.le_of_ble_eq_true rfl) ?_
  refine Bod.go dc_97_72 rfl ?_
  refine Bod.go dc_97_73 rfl ?_
  refine Bod.put dc_97_74 fr_97_49 (mk_43 _) (Nat.le_of_ble_eq_true rfl) pf_10_9 (st_4309 _ _) (mu_I _ _ _) ?_
  refine Bod.go dc_97_77 rfl ?_
  refine Bod.ic 0 (by decide) dc_97_78 ?_
  refine Bod.put dc_97_79 fr_97_46 (mk_43 _) (Nat.le_of_ble_eq_true rfl) pf_10_8 (st_4308 _ _) (mu_I _ _ _) ?_
  refine Bod.go dc_97_82 rfl ?_
  refine Bod.go dc_97_83 rfl ?_
  refine Bod.go dc_97_84 rfl ?_
  refine Bod.ic 1 (by decide) dc_97_85 ?_
  refine Bod.addN (dp + 1) (by omega) dc_97_86 ?_
  refine Bod.virt (r := []) dc_97_87 kr_97_226 ⟨Or.inl rfl, ow_84, cl_10⟩ (by rw [np_84]; rfl) (by rw [np_84]; rfl) (ob_of (mk_43 _)) (Nat.le_of_ble_eq_true rfl) (c7  ) ?_
  show Bod _ _ _ _ [] _ _ _
  refine Bod.go dc_97_90 rfl ?_
  refine Bod.get dc_97_91 fr_97_15 (mk_43 _) rfl ?_
  refine Bod.ldc2 dc_97_94 cj_97_208 ?_
  refine Bod.go dc_97_97 rfl ?_
  refine Bod.virt (r := []) dc_97_98 kr_97_210 ⟨Or.inr rfl, ow_73, cl_7⟩ (by rw [np_73]; rfl) (by rw [np_73]; rfl) (ob_of (mk_23 _)) (Nat.le_of_ble_eq_true rfl) (c8  ) ?_
  show Bod _ _ _ _ [] _ _ _
  refine Bod.go dc_97_101 rfl ?_
  refine Bod.get dc_97_102 fr_97_15 (mk_43 _) rfl ?_
  refine Bod.bip 8 (by decide) dc_97_105 ?_
  refine Bod.virt (r := []) dc_97_107 kr_97_72 ⟨Or.inr rfl, ow_71, cl_7⟩ (by rw [np_71]; rfl) (by rw [np_71]; rfl) (ob_of (mk_23 _)) (Nat.le_of_ble_eq_true rfl) (c9  ) ?_
  show Bod _ _ _ _ [_] _ _ _
  refine Bod.go dc_97_110 rfl ?_
  refine Bod.go dc_97_111 rfl ?_
  refine Bod.go dc_97_112 rfl ?_
  refine Bod.put dc_97_114 fr_97_49 (mk_43 _) (Nat.le_of_ble_eq_true rfl) pf_10_9 (st_4309 _ _) (mu_I _ _ _) ?_
  refine Bod.go dc_97_117 rfl ?_
  refine Bod.go dc_97_118 rfl ?_
  refine Bod.put dc_97_120 fr_97_46 (mk_43 _) (Nat.le_of_ble_eq_true rfl) pf_10_8 (st_4308 _ _) (mu_I _ _ _) ?_
  refine Bod.go dc_97_123 rfl ?_
  refine Bod.get dc_97_124 fr_97_19 (mk_43 _) rfl ?_
  refine Bod.go dc_97_127 rfl ?_
  refine Bod.virt (r := []) dc_97_129 kr_97_245 ⟨Or.inr rfl, ow_104, cl_8⟩ (by rw [np_104]; rfl) (by rw [np_104]; rfl) (ob_of (mk_32 _)) (Nat.le_of_ble_eq_true rfl) (c10  ) ?_
  show Bod _ _ _ _ [] _ _ _
  refine Bod.go dc_97_132 rfl ?_
  refine Bod.get dc_97_133 fr_97_15 (mk_43 _) rfl ?_
  refine Bod.go dc_97_136 rfl ?_
  refine Bod.ic 1 (by decide) dc_97_138 ?_
  refine Bod.addN (a + 1) (by omega) dc_97_139 ?_
  refine Bod.go dc_97_140 rfl ?_
  refine Bod.get dc_97_141 fr_97_15 (mk_43 _) rfl ?_
  refine Bod.get dc_97_144 fr_97_69 (mk_23 _) rfl ?_
  refine Bod.eqI (nI top) (by first | (simp (disch := omega) only [rI, rIe, rA, rIA, rLA, rJA, rVI, rQI, rVA, rQA, upd_at,  rAI, rLI, rJI, nI_add, pk_sub, kc_0, kc_1, kc_2, kc_3, kc_4, kc_5, reduceIte, Nat.reduceEqDiff, Nat.add_zero, rI_hold, rI_hold, rL_hold, hind, htr, htop]; done) | (simp (disch := omega) only [rI, rIe, rA, rIA, rLA, rJA, rVI, rQI, rVA, rQA, upd_at,  rAI, rLI, rJI, nI_add, pk_sub, kc_0, kc_1, kc_2, kc_3, kc_4, kc_5, reduceIte, Nat.reduceEqDiff, Nat.add_zero, rI_hold, rI_hold, rL_hold, hind, htr, htop]; exact congrArg nI (by omega))) ?_
  refine Bod.virt (r := []) dc_97_147 kr_97_201 ⟨Or.inr rfl, ow_83, cl_7⟩ (by rw [np_83]; rfl) (by rw [np_83]; rfl) (ob_of (mk_23 _)) (Nat.le_of_ble_eq_true rfl) (c11  ) ?_
  show Bod _ _ _ _ [] _ _ _
  refine Bod.go dc_97_150 rfl ?_
  refine Bod.get dc_97_151 fr_97_15 (mk_43 _) rfl ?_
  refine Bod.bip 22 (by decide) dc_97_154 ?_
  refine Bod.go dc_97_156 rfl ?_
  refine Bod.virt (r := []) dc_97_158 kr_97_116 ⟨Or.inr rfl, ow_54, cl_7⟩ (by rw [np_54]; rfl) (by rw [np_54]; rfl) (ob_of (mk_23 _)) (Nat.le_of_ble_eq_true rfl) (c12  ) ?_
  show Bod _ _ _ _ [_] _ _ _
  refine Bod.go dc_97_161 rfl ?_
  refine Bod.go dc_97_162 rfl ?_
  exact Bod.retI dc_97_163 rt_97
