/-! More WAYS of the class's rules of statements -/

theorem cRtz_1 {d : Nat} {S : cS} {x : Nat} {y : Nat} {z : Nat} {S1 : cS} (mx : x < 2 ^ 20) (my : y < 2 ^ 20) (mz : z < 2 ^ 20) (k1 : sI S 4403 = nI 0) (c1 : Ans (d + 8) 44 [.ref 31] S none S1) : Bod (d + 8) 110 0 [(0, .ref 43), (1, .int (nI x)), (2, .int (nI y)), (3, .int (nI z))] [] S none (S1) := by
  refine Bod.go dc_110_0 rfl ?_
  refine Bod.get dc_110_1 fr_110_23 (mk_43 _) rfl ?_
  refine Bod.get dc_110_4 fr_110_195 (mk_44 _) rfl ?_
  refine Bod.ist dc_110_7 (by rw [ml_110]; exact Nat.le_of_ble_eq_true rfl) ?_
  refine Bod.go dc_110_9 rfl ?_
  refine Bod.get dc_110_10 fr_110_23 (mk_43 _) rfl ?_
  refine Bod.get dc_110_13 fr_110_173 (mk_44 _) rfl ?_
  refine Bod.eqI (nI 0) (by first | assumption | rfl | exact congrArg nI (by omega) | (simp (disch := omega) only [rI, rIe, rA, rIA, rLA, rJA, rVI, rQI, rVA, rQA, upd_at,  rAI, rLI, rJI, nI_add, pk_sub, kc_0, kc_1, kc_2, kc_3, kc_4, kc_5, reduceIte, Nat.reduceEqDiff, Nat.add_zero, rI_hold, rI_hold, rL_hold, k1]; done)) ?_
  refine Bod.sw (t := 94) dc_110_16 rfl rfl (by decide +kernel) ?_
  refine Bod.go dc_110_94 rfl ?_
  refine Bod.get dc_110_95 fr_110_9 (mk_43 _) rfl ?_
  refine Bod.virt (r := []) dc_110_98 kr_110_76 ⟨Or.inr rfl, ow_44, cl_3⟩ (by rw [np_44]; rfl) (by rw [np_44]; rfl) (ob_of (mk_31 _)) (Nat.le_of_ble_eq_true rfl) (c1  ) ?_
  show Bod _ _ _ _ [] _ _ _
  exact Bod.retV dc_110_101 rt_110
theorem cLxT_1 {d : Nat} {S : cS} {lb : Nat} {S1 : cS} {tr : Nat} {lt : Nat} {S2 : cS} {a : Nat} (hlb : sI S 4309 = nI lb) (mlb : lb < 2 ^ 20) (c1 : Ans (d + 8) 40 [.ref 31] S none S1) (htr : sI S1 4308 = nI tr) (mtr : tr < 2 ^ 20) (hlt : sI S1 4311 = nI lt) (mlt : lt < 2 ^ 20) (b1 : tr ≤ lt) (ma : a < 2 ^ 20) (c2 : Ans (d + 8) 54 [.ref 23, .int (nI 4), .int (sI S1 4310)] S1 (some (.int (nI a))) S2) : Bod (d + 8) 114 0 [(0, .ref 43), (1, .int (nI 1))] [] S none (wI 4310 (nI a) S2) := by
  refine Bod.go dc_114_0 rfl ?_
  refine Bod.get dc_114_1 fr_114_49 (mk_43 _) rfl ?_
  refine Bod.eqI (nI lb) (by first | assumption | rfl | exact congrArg nI (by omega) | (simp (disch := omega) only [rI, rIe, rA, rIA, rLA, rJA, rVI, rQI, rVA, rQA, upd_at,  rAI, rLI, rJI, nI_add, pk_sub, kc_0, kc_1, kc_2, kc_3, kc_4, kc_5, reduceIte, Nat.reduceEqDiff, Nat.add_zero, rI_hold, rI_hold, rL_hold, hlb]; done)) ?_
  refine Bod.go dc_114_4 rfl ?_
  refine Bod.icT dc_114_5 rfl (mr_ne (by omega)) ?_
  refine Bod.go dc_114_15 rfl ?_
  refine Bod.get dc_114_16 fr_114_9 (mk_43 _) rfl ?_
  refine Bod.virt (r := []) dc_114_19 kr_114_192 ⟨Or.inr rfl, ow_40, cl_3⟩ (by rw [np_40]; rfl) (by rw [np_40]; rfl) (ob_of (mk_31 _)) (Nat.le_of_ble_eq_true rfl) (c1  ) ?_
  show Bod _ _ _ _ [] _ _ _
  refine Bod.go dc_114_22 rfl ?_
  refine Bod.get dc_114_23 fr_114_46 (mk_43 _) rfl ?_
  refine Bod.eqI (nI tr) (by first | (simp (disch := omega) only [rI, rIe, rA, rIA, rLA, rJA, rVI, rQI, rVA, rQA, upd_at,  rAI, rLI, rJI, nI_add, pk_sub, kc_0, kc_1, kc_2, kc_3, kc_4, kc_5, reduceIte, Nat.reduceEqDiff, Nat.add_zero, rI_hold, rI_hold, rL_hold, hlb, htr]; done) | (simp (disch := omega) only [rI, rIe, rA, rIA, rLA, rJA, rVI, rQI, rVA, rQA, upd_at,  rAI, rLI, rJI, nI_add, pk_sub, kc_0, kc_1, kc_2, kc_3, kc_4, kc_5, reduceIte, Nat.reduceEqDiff, Nat.add_zero, rI_hold, rI_hold, rL_hold, hlb, htr]; exact congrArg nI (by omega))) ?_
  refine Bod.go dc_114_26 rfl ?_
  refine Bod.get dc_114_27 fr_114_214 (mk_43 _) rfl ?_
  refine Bod.eqI (nI lt) (by first | (simp (disch := omega) only [rI, rIe, rA, rIA, rLA, rJA, rVI, rQI, rVA, rQA, upd_at,  rAI, rLI, rJI, nI_add, pk_sub, kc_0, kc_1, kc_2, kc_3, kc_4, kc_5, reduceIte, Nat.reduceEqDiff, Nat.add_zero, rI_hold, rI_hold, rL_hold, hlb, htr, hlt]; done) | (simp (disch := omega) only [rI, rIe, rA, rIA, rLA, rJA, rVI, rQI, rVA, rQA, upd_at,  rAI, rLI, rJI, nI_add, pk_sub, kc_0, kc_1, kc_2, kc_3, kc_4, kc_5, reduceIte, Nat.reduceEqDiff, Nat.add_zero, rI_hold, rI_hold, rL_hold, hlb, htr, hlt]; exact congrArg nI (by omega))) ?_
  refine Bod.icT dc_114_30 rfl (k2_le_T tr lt rfl rfl (by omega) (by omega)) ?_
  refine Bod.go dc_114_52 rfl ?_
  refine Bod.ifF dc_114_53 rfl (k1_eq_F (k_ne 1 0 rfl rfl (by omega) (by omega) (by omega))) ?_
  refine Bod.go dc_114_56 rfl ?_
  refine Bod.go dc_114_57 rfl ?_
  refine Bod.get dc_114_58 fr_114_15 (mk_43 _) rfl ?_
  refine Bod.ic 4 (by decide) dc_114_61 ?_
  refine Bod.go dc_114_62 rfl ?_
  refine Bod.get dc_114_63 fr_114_217 (mk_43 _) rfl ?_
  refine Bod.virt (r := [_]) dc_114_66 kr_114_116 ⟨Or.inr rfl, ow_54, cl_7⟩ (by rw [np_54]; rfl) (by rw [np_54]; rfl) (ob_of (mk_23 _)) (Nat.le_of_ble_eq_true rfl) (c2  ) ?_
  show Bod _ _ _ _ [_, _] _ _ _
  refine Bod.put dc_114_69 fr_114_217 (mk_43 _) (Nat.le_of_ble_eq_true rfl) pf_10_10 (st_4310 _ _) (mu_I _ _ _) ?_
  refine Bod.go dc_114_72 rfl ?_
  exact Bod.retV dc_114_88 rt_114
theorem cLxT_2 {d : Nat} {S : cS} {lb : Nat} {S1 : cS} {tr : Nat} {lt : Nat} {S2 : cS} {a : Nat} {S3 : cS} {a1 : Nat} (hlb : sI S 4309 = nI lb) (mlb : lb < 2 ^ 20) (c1 : Ans (d + 8) 40 [.ref 31] S none S1) (htr : sI S1 4308 = nI tr) (mtr : tr < 2 ^ 20) (hlt : sI S1 4311 = nI lt) (mlt : lt < 2 ^ 20) (b1 : lt < tr) (b2 : lt ≤ tr) (ma : a < 2 ^ 20) (c2 : Ans (d + 8) 54 [.ref 23, .int (nI 13), .int (nI (tr - lt))] S1 (some (.int (nI a))) S2) (ma1 : a1 < 2 ^ 20) (c3 : Ans (d + 8) 54 [.ref 23, .int (nI 4), .int (sI S2 4310)] S2 (some (.int (nI a1))) S3) : Bod (d + 8) 114 0 [(0, .ref 43), (1, .int (nI 1))] [] S none (wI 4310 (nI a1) S3) := by
  refine Bod.go dc_114_0 rfl ?_
  refine Bod.get dc_114_1 fr_114_49 (mk_43 _) rfl ?_
  refine Bod.eqI (nI lb) (by first | assumption | rfl | exact congrArg nI (by omega) | (simp (disch := omega) only [rI, rIe, rA, rIA, rLA, rJA, rVI, rQI, rVA, rQA, upd_at,  rAI, rLI, rJI, nI_add, pk_sub, kc_0, kc_1, kc_2, kc_3, kc_4, kc_5, reduceIte, Nat.reduceEqDiff, Nat.add_zero, rI_hold, rI_hold, rL_hold, hlb]; done)) ?_
  refine Bod.go dc_114_4 rfl ?_
  refine Bod.icT dc_114_5 rfl (mr_ne (by omega)) ?_
  refine Bod.go dc_114_15 rfl ?_
  refine Bod.get dc_114_16 fr_114_9 (mk_43 _) rfl ?_
  refine Bod.virt (r := []) dc_114_19 kr_114_192 ⟨Or.inr rfl, ow_40, cl_3⟩ (by rw [np_40]; rfl) (by rw [np_40]; rfl) (ob_of (mk_31 _)) (Nat.le_of_ble_eq_true rfl) (c1  ) ?_
  show Bod _ _ _ _ [] _ _ _
  refine Bod.go dc_114_22 rfl ?_
  refine Bod.get dc_114_23 fr_114_46 (mk_43 _) rfl ?_
  refine Bod.eqI (nI tr) (by first | (simp (disch := omega) only [rI, rIe, rA, rIA, rLA, rJA, rVI, rQI, rVA, rQA, upd_at,  rAI, rLI, rJI, nI_add, pk_sub, kc_0, kc_1, kc_2, kc_3, kc_4, kc_5, reduceIte, Nat.reduceEqDiff, Nat.add_zero, rI_hold, rI_hold, rL_hold, hlb, htr]; done) | (simp (disch := omega) only [rI, rIe, rA, rIA, rLA, rJA, rVI, rQI, rVA, rQA, upd_at,  rAI, rLI, rJI, nI_add, pk_sub, kc_0, kc_1, kc_2, kc_3, kc_4, kc_5, reduceIte, Nat.reduceEqDiff, Nat.add_zero, rI_hold, rI_hold, rL_hold, hlb, htr]; exact congrArg nI (by omega))) ?_
  refine Bod.go dc_114_26 rfl ?_
  refine Bod.get dc_114_27 fr_114_214 (mk_43 _) rfl ?_
  refine Bod.eqI (nI lt) (by first | (simp (disch := omega) only [rI, rIe, rA, rIA, rLA, rJA, rVI, rQI, rVA, rQA, upd_at,  rAI, rLI, rJI, nI_add, pk_sub, kc_0, kc_1, kc_2, kc_3, kc_4, kc_5, reduceIte, Nat.reduceEqDiff, Nat.add_zero, rI_hold, rI_hold, rL_hold, hlb, htr, hlt]; done) | (simp (disch := omega) only [rI, rIe, rA, rIA, rLA, rJA, rVI, rQI, rVA, rQA, upd_at,  rAI, rLI, rJI, nI_add, pk_sub, kc_0, kc_1, kc_2, kc_3, kc_4, kc_5, reduceIte, Nat.reduceEqDiff, Nat.add_zero, rI_hold, rI_hold, rL_hold, hlb, htr, hlt]; exact congrArg nI (by omega))) ?_
  refine Bod.icF dc_114_30 rfl (k2_le_F tr lt rfl rfl (by omega) (by omega)) ?_
  refine Bod.go dc_114_33 rfl ?_
  refine Bod.get dc_114_34 fr_114_15 (mk_43 _) rfl ?_
  refine Bod.bip 13 (by decide) dc_114_37 ?_
  refine Bod.go dc_114_39 rfl ?_
  refine Bod.get dc_114_40 fr_114_46 (mk_43 _) rfl ?_
  refine Bod.eqI (nI tr) (by first | (simp (disch := omega) only [rI, rIe, rA, rIA, rLA, rJA, rVI, rQI, rVA, rQA, upd_at,  rAI, rLI, rJI, nI_add, pk_sub, kc_0, kc_1, kc_2, kc_3, kc_4, kc_5, reduceIte, Nat.reduceEqDiff, Nat.add_zero, rI_hold, rI_hold, rL_hold, hlb, htr, hlt]; done) | (simp (disch := omega) only [rI, rIe, rA, rIA, rLA, rJA, rVI, rQI, rVA, rQA, upd_at,  rAI, rLI, rJI, nI_add, pk_sub, kc_0, kc_1, kc_2, kc_3, kc_4, kc_5, reduceIte, Nat.reduceEqDiff, Nat.add_zero, rI_hold, rI_hold, rL_hold, hlb, htr, hlt]; exact congrArg nI (by omega))) ?_
  refine Bod.go dc_114_43 rfl ?_
  refine Bod.get dc_114_44 fr_114_214 (mk_43 _) rfl ?_
  refine Bod.eqI (nI lt) (by first | (simp (disch := omega) only [rI, rIe, rA, rIA, rLA, rJA, rVI, rQI, rVA, rQA, upd_at,  rAI, rLI, rJI, nI_add, pk_sub, kc_0, kc_1, kc_2, kc_3, kc_4, kc_5, reduceIte, Nat.reduceEqDiff, Nat.add_zero, rI_hold, rI_hold, rL_hold, hlb, htr, hlt]; done) | (simp (disch := omega) only [rI, rIe, rA, rIA, rLA, rJA, rVI, rQI, rVA, rQA, upd_at,  rAI, rLI, rJI, nI_add, pk_sub, kc_0, kc_1, kc_2, kc_3, kc_4, kc_5, reduceIte, Nat.reduceEqDiff, Nat.add_zero, rI_hold, rI_hold, rL_hold, hlb, htr, hlt]; exact congrArg nI (by omega))) ?_
  refine Bod.subN (tr - lt) (by omega) (by omega) dc_114_47 ?_
  refine Bod.virt (r := []) dc_114_48 kr_114_116 ⟨Or.inr rfl, ow_54, cl_7⟩ (by rw [np_54]; rfl) (by rw [np_54]; rfl) (ob_of (mk_23 _)) (Nat.le_of_ble_eq_true rfl) (c2  ) ?_
  show Bod _ _ _ _ [_] _ _ _
  refine Bod.go dc_114_51 rfl ?_
  refine Bod.go dc_114_52 rfl ?_
  refine Bod.ifF dc_114_53 rfl (k1_eq_F (k_ne 1 0 rfl rfl (by omega) (by omega) (by omega))) ?_
  refine Bod.go dc_114_56 rfl ?_
  refine Bod.go dc_114_57 rfl ?_
  refine Bod.get dc_114_58 fr_114_15 (mk_43 _) rfl ?_
  refine Bod.ic 4 (by decide) dc_114_61 ?_
  refine Bod.go dc_114_62 rfl ?_
  refine Bod.get dc_114_63 fr_114_217 (mk_43 _) rfl ?_
  refine Bod.virt (r := [_]) dc_114_66 kr_114_116 ⟨Or.inr rfl, ow_54, cl_7⟩ (by rw [np_54]; rfl) (by rw [np_54]; rfl) (ob_of (mk_23 _)) (Nat.le_of_ble_eq_true rfl) (c3  ) ?_
  show Bod _ _ _ _ [_, _] _ _ _
  refine Bod.put dc_114_69 fr_114_217 (mk_43 _) (Nat.le_of_ble_eq_true rfl) pf_10_10 (st_4310 _ _) (mu_I _ _ _) ?_
  refine Bod.go dc_114_72 rfl ?_
  exact Bod.retV dc_114_88 rt_114
theorem cLxT_3 {d : Nat} {S : cS} {S1 : cS} {S2 : cS} {tr : Nat} {lt : Nat} {S3 : cS} {a : Nat} (n1 : sI S 4309 = Int32.ofInt (-1)) (c1 : Ans (d + 8) 44 [.ref 31] S none S1) (c2 : Ans (d + 8) 40 [.ref 31] S1 none S2) (htr : sI S2 4308 = nI tr) (mtr : tr < 2 ^ 20) (hlt : sI S2 4311 = nI lt) (mlt : lt < 2 ^ 20) (b2 : tr ≤ lt) (ma : a < 2 ^ 20) (c3 : Ans (d + 8) 54 [.ref 23, .int (nI 4), .int (sI S2 4310)] S2 (some (.int (nI a))) S3) : Bod (d + 8) 114 0 [(0, .ref 43), (1, .int (nI 1))] [] S none (wI 4310 (nI a) S3) := by
  refine Bod.go dc_114_0 rfl ?_
  refine Bod.get dc_114_1 fr_114_49 (mk_43 _) rfl ?_
  refine Bod.eqI (Int32.ofInt (-1)) (by first | assumption | rfl | exact congrArg nI (by omega) | (simp (disch := omega) only [rI, rIe, rA, rIA, rLA, rJA, rVI, rQI, rVA, rQA, upd_at,  rAI, rLI, rJI, nI_add, pk_sub, kc_0, kc_1, kc_2, kc_3, kc_4, kc_5, reduceIte, Nat.reduceEqDiff, Nat.add_zero, rI_hold, rI_hold, rL_hold, n1]; done)) ?_
  refine Bod.go dc_114_4 rfl ?_
  refine Bod.icF dc_114_5 rfl (by decide) ?_
  refine Bod.go dc_114_8 rfl ?_
  refine Bod.get dc_114_9 fr_114_9 (mk_43 _) rfl ?_
  refine Bod.virt (r := []) dc_114_12 kr_114_76 ⟨Or.inr rfl, ow_44, cl_3⟩ (by rw [np_44]; rfl) (by rw [np_44]; rfl) (ob_of (mk_31 _)) (Nat.le_of_ble_eq_true rfl) (c1  ) ?_
  show Bod _ _ _ _ [] _ _ _
  refine Bod.go dc_114_15 rfl ?_
  refine Bod.get dc_114_16 fr_114_9 (mk_43 _) rfl ?_
  refine Bod.virt (r := []) dc_114_19 kr_114_192 ⟨Or.inr rfl, ow_40, cl_3⟩ (by rw [np_40]; rfl) (by rw [np_40]; rfl) (ob_of (mk_31 _)) (Nat.le_of_ble_eq_true rfl) (c2  ) ?_
  show Bod _ _ _ _ [] _ _ _
  refine Bod.go dc_114_22 rfl ?_
  refine Bod.get dc_114_23 fr_114_46 (mk_43 _) rfl ?_
  refine Bod.eqI (nI tr) (by first | (simp (disch := omega) only [rI, rIe, rA, rIA, rLA, rJA, rVI, rQI, rVA, rQA, upd_at,  rAI, rLI, rJI, nI_add, pk_sub, kc_0, kc_1, kc_2, kc_3, kc_4, kc_5, reduceIte, Nat.reduceEqDiff, Nat.add_zero, rI_hold, rI_hold, rL_hold, n1, htr]; done) | (simp (disch := omega) only [rI, rIe, rA, rIA, rLA, rJA, rVI, rQI, rVA, rQA, upd_at,  rAI, rLI, rJI, nI_add, pk_sub, kc_0, kc_1, kc_2, kc_3, kc_4, kc_5, reduceIte, Nat.reduceEqDiff, Nat.add_zero, rI_hold, rI_hold, rL_hold, n1, htr]; exact congrArg nI (by omega))) ?_
  refine Bod.go dc_114_26 rfl ?_
  refine Bod.get dc_114_27 fr_114_214 (mk_43 _) rfl ?_
  refine Bod.eqI (nI lt) (by first | (simp (disch := omega) only [rI, rIe, rA, rIA, rLA, rJA, rVI, rQI, rVA, rQA, upd_at,  rAI, rLI, rJI, nI_add, pk_sub, kc_0, kc_1, kc_2, kc_3, kc_4, kc_5, reduceIte, Nat.reduceEqDiff, Nat.add_zero, rI_hold, rI_hold, rL_hold, n1, htr, hlt]; done) | (simp (disch := omega) only [rI, rIe, rA, rIA, rLA, rJA, rVI, rQI, rVA, rQA, upd_at,  rAI, rLI, rJI, nI_add, pk_sub, kc_0, kc_1, kc_2, kc_3, kc_4, kc_5, reduceIte, Nat.reduceEqDiff, Nat.add_zero, rI_hold, rI_hold, rL_hold, n1, htr, hlt]; exact congrArg nI (by omega))) ?_
  refine Bod.icT dc_114_30 rfl (k2_le_T tr lt rfl rfl (by omega) (by omega)) ?_
  refine Bod.go dc_114_52 rfl ?_
  refine Bod.ifF dc_114_53 rfl (k1_eq_F (k_ne 1 0 rfl rfl (by omega) (by omega) (by omega))) ?_
  refine Bod.go dc_114_56 rfl ?_
  refine Bod.go dc_114_57 rfl ?_
  refine Bod.get dc_114_58 fr_114_15 (mk_43 _) rfl ?_
  refine Bod.ic 4 (by decide) dc_114_61 ?_
  refine Bod.go dc_114_62 rfl ?_
  refine Bod.get dc_114_63 fr_114_217 (mk_43 _) rfl ?_
  refine Bod.virt (r := [_]) dc_114_66 kr_114_116 ⟨Or.inr rfl, ow_54, cl_7⟩ (by rw [np_54]; rfl) (by rw [np_54]; rfl) (ob_of (mk_23 _)) (Nat.le_of_ble_eq_true rfl) (c3  ) ?_
  show Bod _ _ _ _ [_, _] _ _ _
  refine Bod.put dc_114_69 fr_114_217 (mk_43 _) (Nat.le_of_ble_eq_true rfl) pf_10_10 (st_4310 _ _) (mu_I _ _ _) ?_
  refine Bod.go dc_114_72 rfl ?_
  exact Bod.retV dc_114_88 rt_114
theorem cLxT_4 {d : Nat} {S : cS} {S1 : cS} {S2 : cS} {tr : Nat} {lt : Nat} {S3 : cS} {a : Nat} {S4 : cS} {a1 : Nat} (n1 : sI S 4309 = Int32.ofInt (-1)) (c1 : Ans (d + 8) 44 [.ref 31] S none S1) (c2 : Ans (d + 8) 40 [.ref 31] S1 none S2) (htr : sI S2 4308 = nI tr) (mtr : tr < 2 ^ 20) (hlt : sI S2 4311 = nI lt) (mlt : lt < 2 ^ 20) (b2 : lt < tr) (b3 : lt ≤ tr) (ma : a < 2 ^ 20) (c3 : Ans (d + 8) 54 [.ref 23, .int (nI 13), .int (nI (tr - lt))] S2 (some (.int (nI a))) S3) (ma1 : a1 < 2 ^ 20) (c4 : Ans (d + 8) 54 [.ref 23, .int (nI 4), .int (sI S3 4310)] S3 (some (.int (nI a1))) S4) : Bod (d + 8) 114 0 [(0, .ref 43), (1, .int (nI 1))] [] S none (wI 4310 (nI a1) S4) := by
  refine Bod.go dc_114_0 rfl ?_
  refine Bod.get dc_114_1 fr_114_49 (mk_43 _) rfl ?_
  refine Bod.eqI (Int32.ofInt (-1)) (by first | assumption | rfl | exact congrArg nI (by omega) | (simp (disch := omega) only [rI, rIe, rA, rIA, rLA, rJA, rVI, rQI, rVA, rQA, upd_at,  rAI, rLI, rJI, nI_add, pk_sub, kc_0, kc_1, kc_2, kc_3, kc_4, kc_5, reduceIte, Nat.reduceEqDiff, Nat.add_zero, rI_hold, rI_hold, rL_hold, n1]; done)) ?_
  refine Bod.go dc_114_4 rfl ?_
  refine Bod.icF dc_114_5 rfl (by decide) ?_
  refine Bod.go dc_114_8 rfl ?_
  refine Bod.get dc_114_9 fr_114_9 (mk_43 _) rfl ?_
  refine Bod.virt (r := []) dc_114_12 kr_114_76 ⟨Or.inr rfl, ow_44, cl_3⟩ (by rw [np_44]; rfl) (by rw [np_44]; rfl) (ob_of (mk_31 _)) (Nat.le_of_ble_eq_true rfl) (c1  ) ?_
  show Bod _ _ _ _ [] _ _ _
  refine Bod.go dc_114_15 rfl ?_
  refine Bod.get dc_114_16 fr_114_9 (mk_43 _) rfl ?_
  refine Bod.virt (r := []) dc_114_19 kr_114_192 ⟨Or.inr rfl, ow_40, cl_3⟩ (by rw [np_40]; rfl) (by rw [np_40]; rfl) (ob_of (mk_31 _)) (Nat.le_of_ble_eq_true rfl) (c2  ) ?_
  show Bod _ _ _ _ [] _ _ _
  refine Bod.go dc_114_22 rfl ?_
  refine Bod.get dc_114_23 fr_114_46 (mk_43 _) rfl ?_
  refine Bod.eqI (nI tr) (by first | (simp (disch := omega) only [rI, rIe, rA, rIA, rLA, rJA, rVI, rQI, rVA, rQA, upd_at,  rAI, rLI, rJI, nI_add, pk_sub, kc_0, kc_1, kc_2, kc_3, kc_4, kc_5, reduceIte, Nat.reduceEqDiff, Nat.add_zero, rI_hold, rI_hold, rL_hold, n1, htr]; done) | (simp (disch := omega) only [rI, rIe, rA, rIA, rLA, rJA, rVI, rQI, rVA, rQA, upd_at,  rAI, rLI, rJI, nI_add, pk_sub, kc_0, kc_1, kc_2, kc_3, kc_4, kc_5, reduceIte, Nat.reduceEqDiff, Nat.add_zero, rI_hold, rI_hold, rL_hold, n1, htr]; exact congrArg nI (by omega))) ?_
  refine Bod.go dc_114_26 rfl ?_
  refine Bod.get dc_114_27 fr_114_214 (mk_43 _) rfl ?_
  refine Bod.eqI (nI lt) (by first | (simp (disch := omega) only [rI, rIe, rA, rIA, rLA, rJA, rVI, rQI, rVA, rQA, upd_at,  rAI, rLI, rJI, nI_add, pk_sub, kc_0, kc_1, kc_2, kc_3, kc_4, kc_5, reduceIte, Nat.reduceEqDiff, Nat.add_zero, rI_hold, rI_hold, rL_hold, n1, htr, hlt]; done) | (simp (disch := omega) only [rI, rIe, rA, rIA, rLA, rJA, rVI, rQI, rVA, rQA, upd_at,  rAI, rLI, rJI, nI_add, pk_sub, kc_0, kc_1, kc_2, kc_3, kc_4, kc_5, reduceIte, Nat.reduceEqDiff, Nat.add_zero, rI_hold, rI_hold, rL_hold, n1, htr, hlt]; exact congrArg nI (by omega))) ?_
  refine Bod.icF dc_114_30 rfl (k2_le_F tr lt rfl rfl (by omega) (by omega)) ?_
  refine Bod.go dc_114_33 rfl ?_
  refine Bod.get dc_114_34 fr_114_15 (mk_43 _) rfl ?_
  refine Bod.bip 13 (by decide) dc_114_37 ?_
  refine Bod.go dc_114_39 rfl ?_
  refine Bod.get dc_114_40 fr_114_46 (mk_43 _) rfl ?_
  refine Bod.eqI (nI tr) (by first | (simp (disch := omega) only [rI, rIe, rA, rIA, rLA, rJA, rVI, rQI, rVA, rQA, upd_at,  rAI, rLI, rJI, nI_add, pk_sub, kc_0, kc_1, kc_2, kc_3, kc_4, kc_5, reduceIte, Nat.reduceEqDiff, Nat.add_zero, rI_hold, rI_hold, rL_hold, n1, htr, hlt]; done) | (simp (disch := omega) only [rI, rIe, rA, rIA, rLA, rJA, rVI, rQI, rVA, rQA, upd_at,  rAI, rLI, rJI, nI_add, pk_sub, kc_0, kc_1, kc_2, kc_3, kc_4, kc_5, reduceIte, Nat.reduceEqDiff, Nat.add_zero, rI_hold, rI_hold, rL_hold, n1, htr, hlt]; exact congrArg nI (by omega))) ?_
  refine Bod.go dc_114_43 rfl ?_
  refine Bod.get dc_114_44 fr_114_214 (mk_43 _) rfl ?_
  refine Bod.eqI (nI lt) (by first | (simp (disch := omega) only [rI, rIe, rA, rIA, rLA, rJA, rVI, rQI, rVA, rQA, upd_at,  rAI, rLI, rJI, nI_add, pk_sub, kc_0, kc_1, kc_2, kc_3, kc_4, kc_5, reduceIte, Nat.reduceEqDiff, Nat.add_zero, rI_hold, rI_hold, rL_hold, n1, htr, hlt]; done) | (simp (disch := omega) only [rI, rIe, rA, rIA, rLA, rJA, rVI, rQI, rVA, rQA, upd_at,  rAI, rLI, rJI, nI_add, pk_sub, kc_0, kc_1, kc_2, kc_3, kc_4, kc_5, reduceIte, Nat.reduceEqDiff, Nat.add_zero, rI_hold, rI_hold, rL_hold, n1, htr, hlt]; exact congrArg nI (by omega))) ?_
  refine Bod.subN (tr - lt) (by omega) (by omega) dc_114_47 ?_
  refine Bod.virt (r := []) dc_114_48 kr_114_116 ⟨Or.inr rfl, ow_54, cl_7⟩ (by rw [np_54]; rfl) (by rw [np_54]; rfl) (ob_of (mk_23 _)) (Nat.le_of_ble_eq_true rfl) (c3  ) ?_
  show Bod _ _ _ _ [_] _ _ _
  refine Bod.go dc_114_51 rfl ?_
  refine Bod.go dc_114_52 rfl ?_
  refine Bod.ifF dc_114_53 rfl (k1_eq_F (k_ne 1 0 rfl rfl (by omega) (by omega) (by omega))) ?_
  refine Bod.go dc_114_56 rfl ?_
  refine Bod.go dc_114_57 rfl ?_
  refine Bod.get dc_114_58 fr_114_15 (mk_43 _) rfl ?_
  refine Bod.ic 4 (by decide) dc_114_61 ?_
  refine Bod.go dc_114_62 rfl ?_
  refine Bod.get dc_114_63 fr_114_217 (mk_43 _) rfl ?_
  refine Bod.virt (r := [_]) dc_114_66 kr_114_116 ⟨Or.inr rfl, ow_54, cl_7⟩ (by rw [np_54]; rfl) (by rw [np_54]; rfl) (ob_of (mk_23 _)) (Nat.le_of_ble_eq_true rfl) (c4  ) ?_
  show Bod _ _ _ _ [_, _] _ _ _
  refine Bod.put dc_114_69 fr_114_217 (mk_43 _) (Nat.le_of_ble_eq_true rfl) pf_10_10 (st_4310 _ _) (mu_I _ _ _) ?_
  refine Bod.go dc_114_72 rfl ?_
  exact Bod.retV dc_114_88 rt_114
