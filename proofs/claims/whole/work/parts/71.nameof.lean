/-! NAMEOF of the reference: the search -/
theorem dc_294_3 : decode (sm_cc 294) 3 = .ok (.iload 4, 2) := by decide +kernel
theorem dc_294_5 : decode (sm_cc 294) 5 = .ok (.aload_n 0, 1) := by decide +kernel
theorem dc_294_6 : decode (sm_cc 294) 6 = .ok (.getfield 1, 3) := by decide +kernel
theorem fr_294_1 : sm_at mt_f (sm_ow 294) 1 = some (1, 14, 2, 0, 2075) := by decide +kernel
theorem dc_294_9 : decode (sm_cc 294) 9 = .ok (.if_icmp .ge (84), 3) := by decide +kernel
theorem dc_294_12 : decode (sm_cc 294) 12 = .ok (.aload_n 0, 1) := by decide +kernel
theorem dc_294_13 : decode (sm_cc 294) 13 = .ok (.getfield 7, 3) := by decide +kernel
theorem fr_294_7 : sm_at mt_f (sm_ow 294) 7 = some (7, 14, 1, 0, 2074) := by decide +kernel
theorem dc_294_16 : decode (sm_cc 294) 16 = .ok (.iload 4, 2) := by decide +kernel
theorem dc_294_18 : decode (sm_cc 294) 18 = .ok (.iaload, 1) := by decide +kernel
theorem dc_294_19 : decode (sm_cc 294) 19 = .ok (.iload_n 3, 1) := by decide +kernel
theorem dc_294_20 : decode (sm_cc 294) 20 = .ok (.if_icmp .ne (7), 3) := by decide +kernel
theorem dc_294_27 : decode (sm_cc 294) 27 = .ok (.iconst 0, 1) := by decide +kernel
theorem dc_294_28 : decode (sm_cc 294) 28 = .ok (.istore 5, 2) := by decide +kernel
theorem ml_294 : sm_ml 294 = 7 := by decide +kernel
theorem dc_294_30 : decode (sm_cc 294) 30 = .ok (.iconst 0, 1) := by decide +kernel
theorem dc_294_31 : decode (sm_cc 294) 31 = .ok (.istore 6, 2) := by decide +kernel
theorem dc_294_33 : decode (sm_cc 294) 33 = .ok (.iload 6, 2) := by decide +kernel
theorem dc_294_35 : decode (sm_cc 294) 35 = .ok (.iload_n 3, 1) := by decide +kernel
theorem dc_294_36 : decode (sm_cc 294) 36 = .ok (.if_icmp .ge (43), 3) := by decide +kernel
theorem dc_294_39 : decode (sm_cc 294) 39 = .ok (.iload 5, 2) := by decide +kernel
theorem dc_294_41 : decode (sm_cc 294) 41 = .ok (.ifCond .eq (38), 3) := by decide +kernel
theorem dc_294_79 : decode (sm_cc 294) 79 = .ok (.iload 5, 2) := by decide +kernel
theorem dc_294_81 : decode (sm_cc 294) 81 = .ok (.ifCond .eq (6), 3) := by decide +kernel
theorem dc_294_87 : decode (sm_cc 294) 87 = .ok (.iinc 4 (1), 3) := by decide +kernel
theorem dc_294_90 : decode (sm_cc 294) 90 = .ok (.goto (-87), 3) := by decide +kernel
theorem dc_294_23 : decode (sm_cc 294) 23 = .ok (.iconst 1, 1) := by decide +kernel
theorem dc_294_24 : decode (sm_cc 294) 24 = .ok (.goto (4), 3) := by decide +kernel
theorem dc_294_44 : decode (sm_cc 294) 44 = .ok (.aload_n 0, 1) := by decide +kernel
theorem dc_294_45 : decode (sm_cc 294) 45 = .ok (.getfield 11, 3) := by decide +kernel
theorem fr_294_11 : sm_at mt_f (sm_ow 294) 11 = some (11, 14, 0, 0, 2073) := by decide +kernel
theorem dc_294_48 : decode (sm_cc 294) 48 = .ok (.bipush (12), 2) := by decide +kernel
theorem dc_294_50 : decode (sm_cc 294) 50 = .ok (.iload 4, 2) := by decide +kernel
theorem dc_294_52 : decode (sm_cc 294) 52 = .ok (.imul, 1) := by decide +kernel
theorem dc_294_53 : decode (sm_cc 294) 53 = .ok (.iload 6, 2) := by decide +kernel
theorem dc_294_55 : decode (sm_cc 294) 55 = .ok (.iadd, 1) := by decide +kernel
theorem dc_294_56 : decode (sm_cc 294) 56 = .ok (.baload, 1) := by decide +kernel
theorem dc_294_57 : decode (sm_cc 294) 57 = .ok (.aload_n 1, 1) := by decide +kernel
theorem dc_294_58 : decode (sm_cc 294) 58 = .ok (.iload_n 2, 1) := by decide +kernel
theorem dc_294_59 : decode (sm_cc 294) 59 = .ok (.iload 6, 2) := by decide +kernel
theorem dc_294_61 : decode (sm_cc 294) 61 = .ok (.iadd, 1) := by decide +kernel
theorem dc_294_62 : decode (sm_cc 294) 62 = .ok (.baload, 1) := by decide +kernel
theorem dc_294_63 : decode (sm_cc 294) 63 = .ok (.if_icmp .ne (7), 3) := by decide +kernel
theorem dc_294_66 : decode (sm_cc 294) 66 = .ok (.iconst 1, 1) := by decide +kernel
theorem dc_294_67 : decode (sm_cc 294) 67 = .ok (.goto (4), 3) := by decide +kernel
theorem dc_294_71 : decode (sm_cc 294) 71 = .ok (.istore 5, 2) := by decide +kernel
theorem dc_294_73 : decode (sm_cc 294) 73 = .ok (.iinc 6 (1), 3) := by decide +kernel
theorem dc_294_76 : decode (sm_cc 294) 76 = .ok (.goto (-43), 3) := by decide +kernel
theorem dc_294_70 : decode (sm_cc 294) 70 = .ok (.iconst 0, 1) := by decide +kernel
theorem dc_294_84 : decode (sm_cc 294) 84 = .ok (.iload 4, 2) := by decide +kernel
theorem dc_294_86 : decode (sm_cc 294) 86 = .ok (.ireturn, 1) := by decide +kernel
theorem rt_294 : sm_rt 294 = some .int := by decide +kernel
theorem dc_294_0 : decode (sm_cc 294) 0 = .ok (.iconst 0, 1) := by decide +kernel
theorem dc_294_1 : decode (sm_cc 294) 1 = .ok (.istore 4, 2) := by decide +kernel
theorem nm_lenF {d nn g0 g1 gn ab NB fr n : Nat} {S : cS} {k : Nat} {w z : Int32} {v : Option Value} {Sf : cS} (hnn : sI S 6102 = nI nn) (hv0 : sV S 6100 = .ref g0) (hv1 : sV S 6101 = .ref g1) (hg0 : isK S g0 2 (12 * gn)) (hg1 : isK S g1 0 gn) (hgn : gn < 2 ^ 20) (hnl : nn ≤ gn) (hab : (mk S)[ab]? = some (.inl (2, NB, .inl (sA S ab)))) (hNB : NB < 2 ^ 30) (hfr : fr + n ≤ NB) (hn1 : 1 ≤ n) (hn12 : n ≤ 12) (hk : 0 < nn) (hc : sA S g1 0 ≠ nI n) (hx : Bod d 294 3 (sm_p1 (sm_p1 (sm_p1 (lv_args 0 [.ref 61, .ref ab, .int (nI fr), .int (nI n)]) 5 (.int (nI 0))) 6 (.int (nI 0))) 4 (.int (nI (0 + 1)))) [] S v Sf) : Bod d 294 3 (sm_p1 (lv_args 0 [.ref 61, .ref ab, .int (nI fr), .int (nI n)]) 4 (.int (nI 0))) [] S v Sf := by
  refine Bod.go dc_294_3 rfl ?_
  refine Bod.go dc_294_5 rfl ?_
  refine Bod.get dc_294_6 fr_294_1 (mk_61 _) rfl ?_
  refine Bod.eqI (nI nn) (by first | assumption | rfl | exact congrArg nI (by omega) | (simp (disch := omega) only [rI, rIe, rA, rIA, rLA, rJA, rVI, rQI, rVA, rQA, upd_at,  rAI, rLI, rJI, nI_add, pk_sub, kc_0, kc_1, kc_2, kc_3, kc_4, kc_5, reduceIte, Nat.reduceEqDiff, Nat.add_zero, rI_hold, rI_hold, rL_hold, hnn]; done)) ?_
  refine Bod.icF dc_294_9 rfl (k2_ge_F 0 nn rfl rfl (by omega) (by omega)) ?_
  refine Bod.go dc_294_12 rfl ?_
  refine Bod.get dc_294_13 fr_294_7 (mk_61 _) rfl ?_
  refine Bod.eqV (.ref g1) hv1 ?_
  refine Bod.go dc_294_16 rfl ?_
  refine Bod.ialdN (N := gn) 0 rfl (by omega) (by omega) dc_294_18 (mk_isI hg1) ?_
  refine Bod.go dc_294_19 rfl ?_
  refine Bod.icT dc_294_20 rfl (k2_ne_T hc) ?_
  refine Bod.ic 0 (by decide) dc_294_27 ?_
  refine Bod.ist dc_294_28 (by rw [ml_294]; exact Nat.le_of_ble_eq_true rfl) ?_
  refine Bod.ic 0 (by decide) dc_294_30 ?_
  refine Bod.ist dc_294_31 (by rw [ml_294]; exact Nat.le_of_ble_eq_true rfl) ?_
  refine Bod.go dc_294_33 rfl ?_
  refine Bod.go dc_294_35 rfl ?_
  refine Bod.icF dc_294_36 rfl (k2_ge_F 0 n rfl rfl (by omega) (by omega)) ?_
  refine Bod.go dc_294_39 rfl ?_
  refine Bod.ifT dc_294_41 rfl (k1_eq_T (k_eq 0 0 rfl rfl (by omega))) ?_
  refine Bod.go dc_294_79 rfl ?_
  refine Bod.ifT dc_294_81 rfl (k1_eq_T (k_eq 0 0 rfl rfl (by omega))) ?_
  refine Bod.incN 1 (by rw [kc_1, nI_add]) dc_294_87 (by rw [ml_294]; exact Nat.le_of_ble_eq_true rfl) rfl ?_
  refine Bod.go dc_294_90 rfl ?_
  exact Bod.lv rfl hx
theorem nm_inF {d nn g0 g1 gn ab NB fr n : Nat} {S : cS} {k : Nat} {w z : Int32} {v : Option Value} {Sf : cS} (hnn : sI S 6102 = nI nn) (hv0 : sV S 6100 = .ref g0) (hv1 : sV S 6101 = .ref g1) (hg0 : isK S g0 2 (12 * gn)) (hg1 : isK S g1 0 gn) (hgn : gn < 2 ^ 20) (hnl : nn ≤ gn) (hab : (mk S)[ab]? = some (.inl (2, NB, .inl (sA S ab)))) (hNB : NB < 2 ^ 30) (hfr : fr + n ≤ NB) (hn1 : 1 ≤ n) (hn12 : n ≤ 12) (hk : 0 < nn) (hc : sA S g1 0 = nI n) (hx : Bod d 294 33 (sm_p1 (sm_p1 (sm_p1 (lv_args 0 [.ref 61, .ref ab, .int (nI fr), .int (nI n)]) 4 (.int (nI 0))) 5 (.int (nI 1))) 6 (.int (nI 0))) [] S v Sf) : Bod d 294 3 (sm_p1 (lv_args 0 [.ref 61, .ref ab, .int (nI fr), .int (nI n)]) 4 (.int (nI 0))) [] S v Sf := by
  refine Bod.go dc_294_3 rfl ?_
  refine Bod.go dc_294_5 rfl ?_
  refine Bod.get dc_294_6 fr_294_1 (mk_61 _) rfl ?_
  refine Bod.eqI (nI nn) (by first | assumption | rfl | exact congrArg nI (by omega) | (simp (disch := omega) only [rI, rIe, rA, rIA, rLA, rJA, rVI, rQI, rVA, rQA, upd_at,  rAI, rLI, rJI, nI_add, pk_sub, kc_0, kc_1, kc_2, kc_3, kc_4, kc_5, reduceIte, Nat.reduceEqDiff, Nat.add_zero, rI_hold, rI_hold, rL_hold, hnn]; done)) ?_
  refine Bod.icF dc_294_9 rfl (k2_ge_F 0 nn rfl rfl (by omega) (by omega)) ?_
  refine Bod.go dc_294_12 rfl ?_
  refine Bod.get dc_294_13 fr_294_7 (mk_61 _) rfl ?_
  refine Bod.eqV (.ref g1) hv1 ?_
  refine Bod.go dc_294_16 rfl ?_
  refine Bod.ialdN (N := gn) 0 rfl (by omega) (by omega) dc_294_18 (mk_isI hg1) ?_
  refine Bod.go dc_294_19 rfl ?_
  refine Bod.icF dc_294_20 rfl (k2_ne_F hc) ?_
  refine Bod.ic 1 (by decide) dc_294_23 ?_
  refine Bod.go dc_294_24 rfl ?_
  refine Bod.ist dc_294_28 (by rw [ml_294]; exact Nat.le_of_ble_eq_true rfl) ?_
  refine Bod.ic 0 (by decide) dc_294_30 ?_
  refine Bod.ist dc_294_31 (by rw [ml_294]; exact Nat.le_of_ble_eq_true rfl) ?_
  exact Bod.lv rfl hx
theorem nm_lenN {d nn g0 g1 gn ab NB fr n : Nat} {S : cS} {k : Nat} {w z : Int32} {v : Option Value} {Sf : cS} (hnn : sI S 6102 = nI nn) (hv0 : sV S 6100 = .ref g0) (hv1 : sV S 6101 = .ref g1) (hg0 : isK S g0 2 (12 * gn)) (hg1 : isK S g1 0 gn) (hgn : gn < 2 ^ 20) (hnl : nn ≤ gn) (hab : (mk S)[ab]? = some (.inl (2, NB, .inl (sA S ab)))) (hNB : NB < 2 ^ 30) (hfr : fr + n ≤ NB) (hn1 : 1 ≤ n) (hn12 : n ≤ 12) (hk : k < nn) (hc : sA S g1 k ≠ nI n) (hx : Bod d 294 3 (sm_p1 (sm_p1 (sm_p1 (lv_args 0 [.ref 61, .ref ab, .int (nI fr), .int (nI n)]) 5 (.int (nI 0))) 6 (.int (nI 0))) 4 (.int (nI (k + 1)))) [] S v Sf) : Bod d 294 3 (sm_p1 (sm_p1 (sm_p1 (lv_args 0 [.ref 61, .ref ab, .int (nI fr), .int (nI n)]) 5 (.int w)) 6 (.int z)) 4 (.int (nI k))) [] S v Sf := by
  refine Bod.go dc_294_3 rfl ?_
  refine Bod.go dc_294_5 rfl ?_
  refine Bod.get dc_294_6 fr_294_1 (mk_61 _) rfl ?_
  refine Bod.eqI (nI nn) (by first | assumption | rfl | exact congrArg nI (by omega) | (simp (disch := omega) only [rI, rIe, rA, rIA, rLA, rJA, rVI, rQI, rVA, rQA, upd_at,  rAI, rLI, rJI, nI_add, pk_sub, kc_0, kc_1, kc_2, kc_3, kc_4, kc_5, reduceIte, Nat.reduceEqDiff, Nat.add_zero, rI_hold, rI_hold, rL_hold, hnn]; done)) ?_
  refine Bod.icF dc_294_9 rfl (k2_ge_F k nn rfl rfl (by omega) (by omega)) ?_
  refine Bod.go dc_294_12 rfl ?_
  refine Bod.get dc_294_13 fr_294_7 (mk_61 _) rfl ?_
  refine Bod.eqV (.ref g1) hv1 ?_
  refine Bod.go dc_294_16 rfl ?_
  refine Bod.ialdN (N := gn) k rfl (by omega) (by omega) dc_294_18 (mk_isI hg1) ?_
  refine Bod.go dc_294_19 rfl ?_
  refine Bod.icT dc_294_20 rfl (k2_ne_T hc) ?_
  refine Bod.ic 0 (by decide) dc_294_27 ?_
  refine Bod.ist dc_294_28 (by rw [ml_294]; exact Nat.le_of_ble_eq_true rfl) ?_
  refine Bod.ic 0 (by decide) dc_294_30 ?_
  refine Bod.ist dc_294_31 (by rw [ml_294]; exact Nat.le_of_ble_eq_true rfl) ?_
  refine Bod.go dc_294_33 rfl ?_
  refine Bod.go dc_294_35 rfl ?_
  refine Bod.icF dc_294_36 rfl (k2_ge_F 0 n rfl rfl (by omega) (by omega)) ?_
  refine Bod.go dc_294_39 rfl ?_
  refine Bod.ifT dc_294_41 rfl (k1_eq_T (k_eq 0 0 rfl rfl (by omega))) ?_
  refine Bod.go dc_294_79 rfl ?_
  refine Bod.ifT dc_294_81 rfl (k1_eq_T (k_eq 0 0 rfl rfl (by omega))) ?_
  refine Bod.incN (k + 1) (by rw [kc_1, nI_add]) dc_294_87 (by rw [ml_294]; exact Nat.le_of_ble_eq_true rfl) rfl ?_
  refine Bod.go dc_294_90 rfl ?_
  exact Bod.lv rfl hx
theorem nm_inN {d nn g0 g1 gn ab NB fr n : Nat} {S : cS} {k : Nat} {w z : Int32} {v : Option Value} {Sf : cS} (hnn : sI S 6102 = nI nn) (hv0 : sV S 6100 = .ref g0) (hv1 : sV S 6101 = .ref g1) (hg0 : isK S g0 2 (12 * gn)) (hg1 : isK S g1 0 gn) (hgn : gn < 2 ^ 20) (hnl : nn ≤ gn) (hab : (mk S)[ab]? = some (.inl (2, NB, .inl (sA S ab)))) (hNB : NB < 2 ^ 30) (hfr : fr + n ≤ NB) (hn1 : 1 ≤ n) (hn12 : n ≤ 12) (hk : k < nn) (hc : sA S g1 k = nI n) (hx : Bod d 294 33 (sm_p1 (sm_p1 (sm_p1 (lv_args 0 [.ref 61, .ref ab, .int (nI fr), .int (nI n)]) 4 (.int (nI k))) 5 (.int (nI 1))) 6 (.int (nI 0))) [] S v Sf) : Bod d 294 3 (sm_p1 (sm_p1 (sm_p1 (lv_args 0 [.ref 61, .ref ab, .int (nI fr), .int (nI n)]) 5 (.int w)) 6 (.int z)) 4 (.int (nI k))) [] S v Sf := by
  refine Bod.go dc_294_3 rfl ?_
  refine Bod.go dc_294_5 rfl ?_
  refine Bod.get dc_294_6 fr_294_1 (mk_61 _) rfl ?_
  refine Bod.eqI (nI nn) (by first | assumption | rfl | exact congrArg nI (by omega) | (simp (disch := omega) only [rI, rIe, rA, rIA, rLA, rJA, rVI, rQI, rVA, rQA, upd_at,  rAI, rLI, rJI, nI_add, pk_sub, kc_0, kc_1, kc_2, kc_3, kc_4, kc_5, reduceIte, Nat.reduceEqDiff, Nat.add_zero, rI_hold, rI_hold, rL_hold, hnn]; done)) ?_
  refine Bod.icF dc_294_9 rfl (k2_ge_F k nn rfl rfl (by omega) (by omega)) ?_
  refine Bod.go dc_294_12 rfl ?_
  refine Bod.get dc_294_13 fr_294_7 (mk_61 _) rfl ?_
  refine Bod.eqV (.ref g1) hv1 ?_
  refine Bod.go dc_294_16 rfl ?_
  refine Bod.ialdN (N := gn) k rfl (by omega) (by omega) dc_294_18 (mk_isI hg1) ?_
  refine Bod.go dc_294_19 rfl ?_
  refine Bod.icF dc_294_20 rfl (k2_ne_F hc) ?_
  refine Bod.ic 1 (by decide) dc_294_23 ?_
  refine Bod.go dc_294_24 rfl ?_
  refine Bod.ist dc_294_28 (by rw [ml_294]; exact Nat.le_of_ble_eq_true rfl) ?_
  refine Bod.ic 0 (by decide) dc_294_30 ?_
  refine Bod.ist dc_294_31 (by rw [ml_294]; exact Nat.le_of_ble_eq_true rfl) ?_
  exact Bod.lv rfl hx
theorem nm_next {d nn g0 g1 gn ab NB fr n : Nat} {S : cS} {k i : Nat} {v : Option Value} {Sf : cS} (hnn : sI S 6102 = nI nn) (hv0 : sV S 6100 = .ref g0) (hv1 : sV S 6101 = .ref g1) (hg0 : isK S g0 2 (12 * gn)) (hg1 : isK S g1 0 gn) (hgn : gn < 2 ^ 20) (hnl : nn ≤ gn) (hab : (mk S)[ab]? = some (.inl (2, NB, .inl (sA S ab)))) (hNB : NB < 2 ^ 30) (hfr : fr + n ≤ NB) (hn1 : 1 ≤ n) (hn12 : n ≤ 12) (hk : k < nn) (hi : i < n) (hc : sA S g0 (12 * k + i) = sA S ab (fr + i)) (hx : Bod d 294 33 (sm_p1 (sm_p1 (sm_p1 (lv_args 0 [.ref 61, .ref ab, .int (nI fr), .int (nI n)]) 4 (.int (nI k))) 5 (.int (nI 1))) 6 (.int (nI (i + 1)))) [] S v Sf) : Bod d 294 33 (sm_p1 (sm_p1 (sm_p1 (lv_args 0 [.ref 61, .ref ab, .int (nI fr), .int (nI n)]) 4 (.int (nI k))) 5 (.int (nI 1))) 6 (.int (nI i))) [] S v Sf := by
  refine Bod.go dc_294_33 rfl ?_
  refine Bod.go dc_294_35 rfl ?_
  refine Bod.icF dc_294_36 rfl (k2_ge_F i n rfl rfl (by omega) (by omega)) ?_
  refine Bod.go dc_294_39 rfl ?_
  refine Bod.ifF dc_294_41 rfl (k1_eq_F (k_ne 1 0 rfl rfl (by omega) (by omega) (by omega))) ?_
  refine Bod.go dc_294_44 rfl ?_
  refine Bod.get dc_294_45 fr_294_11 (mk_61 _) rfl ?_
  refine Bod.eqV (.ref g0) hv0 ?_
  refine Bod.bip 12 (by decide) dc_294_48 ?_
  refine Bod.go dc_294_50 rfl ?_
  refine Bod.mulN (12 * k) (by omega) dc_294_52 ?_
  refine Bod.go dc_294_53 rfl ?_
  refine Bod.addN (12 * k + i) (by omega) dc_294_55 ?_
  refine Bod.baldN (N := ((12 * gn))) (12 * k + i) rfl (by omega) (by omega) dc_294_56 (mk_isB hg0) (Or.inl rfl) ?_
  refine Bod.go dc_294_57 rfl ?_
  refine Bod.go dc_294_58 rfl ?_
  refine Bod.go dc_294_59 rfl ?_
  refine Bod.addN (fr + i) (by omega) dc_294_61 ?_
  refine Bod.baldN (N := NB) (fr + i) rfl (by omega) (by omega) dc_294_62 hab (Or.inl rfl) ?_
  refine Bod.icF dc_294_63 rfl (k2_ne_F hc) ?_
  refine Bod.ic 1 (by decide) dc_294_66 ?_
  refine Bod.go dc_294_67 rfl ?_
  refine Bod.ist dc_294_71 (by rw [ml_294]; exact Nat.le_of_ble_eq_true rfl) ?_
  refine Bod.incN (i + 1) (by rw [kc_1, nI_add]) dc_294_73 (by rw [ml_294]; exact Nat.le_of_ble_eq_true rfl) rfl ?_
  refine Bod.go dc_294_76 rfl ?_
  exact Bod.lv rfl hx
theorem nm_diff {d nn g0 g1 gn ab NB fr n : Nat} {S : cS} {k i : Nat} {v : Option Value} {Sf : cS} (hnn : sI S 6102 = nI nn) (hv0 : sV S 6100 = .ref g0) (hv1 : sV S 6101 = .ref g1) (hg0 : isK S g0 2 (12 * gn)) (hg1 : isK S g1 0 gn) (hgn : gn < 2 ^ 20) (hnl : nn ≤ gn) (hab : (mk S)[ab]? = some (.inl (2, NB, .inl (sA S ab)))) (hNB : NB < 2 ^ 30) (hfr : fr + n ≤ NB) (hn1 : 1 ≤ n) (hn12 : n ≤ 12) (hk : k < nn) (hi : i < n) (hc : sA S g0 (12 * k + i) ≠ sA S ab (fr + i)) (hx : Bod d 294 33 (sm_p1 (sm_p1 (sm_p1 (lv_args 0 [.ref 61, .ref ab, .int (nI fr), .int (nI n)]) 4 (.int (nI k))) 5 (.int (nI 0))) 6 (.int (nI (i + 1)))) [] S v Sf) : Bod d 294 33 (sm_p1 (sm_p1 (sm_p1 (lv_args 0 [.ref 61, .ref ab, .int (nI fr), .int (nI n)]) 4 (.int (nI k))) 5 (.int (nI 1))) 6 (.int (nI i))) [] S v Sf := by
  refine Bod.go dc_294_33 rfl ?_
  refine Bod.go dc_294_35 rfl ?_
  refine Bod.icF dc_294_36 rfl (k2_ge_F i n rfl rfl (by omega) (by omega)) ?_
  refine Bod.go dc_294_39 rfl ?_
  refine Bod.ifF dc_294_41 rfl (k1_eq_F (k_ne 1 0 rfl rfl (by omega) (by omega) (by omega))) ?_
  refine Bod.go dc_294_44 rfl ?_
  refine Bod.get dc_294_45 fr_294_11 (mk_61 _) rfl ?_
  refine Bod.eqV (.ref g0) hv0 ?_
  refine Bod.bip 12 (by decide) dc_294_48 ?_
  refine Bod.go dc_294_50 rfl ?_
  refine Bod.mulN (12 * k) (by omega) dc_294_52 ?_
  refine Bod.go dc_294_53 rfl ?_
  refine Bod.addN (12 * k + i) (by omega) dc_294_55 ?_
  refine Bod.baldN (N := ((12 * gn))) (12 * k + i) rfl (by omega) (by omega) dc_294_56 (mk_isB hg0) (Or.inl rfl) ?_
  refine Bod.go dc_294_57 rfl ?_
  refine Bod.go dc_294_58 rfl ?_
  refine Bod.go dc_294_59 rfl ?_
  refine Bod.addN (fr + i) (by omega) dc_294_61 ?_
  refine Bod.baldN (N := NB) (fr + i) rfl (by omega) (by omega) dc_294_62 hab (Or.inl rfl) ?_
  refine Bod.icT dc_294_63 rfl (k2_ne_T hc) ?_
  refine Bod.ic 0 (by decide) dc_294_70 ?_
  refine Bod.ist dc_294_71 (by rw [ml_294]; exact Nat.le_of_ble_eq_true rfl) ?_
  refine Bod.incN (i + 1) (by rw [kc_1, nI_add]) dc_294_73 (by rw [ml_294]; exact Nat.le_of_ble_eq_true rfl) rfl ?_
  refine Bod.go dc_294_76 rfl ?_
  exact Bod.lv rfl hx
theorem nm_noa {d nn g0 g1 gn ab NB fr n : Nat} {S : cS} {k i : Nat} {v : Option Value} {Sf : cS} (hnn : sI S 6102 = nI nn) (hv0 : sV S 6100 = .ref g0) (hv1 : sV S 6101 = .ref g1) (hg0 : isK S g0 2 (12 * gn)) (hg1 : isK S g1 0 gn) (hgn : gn < 2 ^ 20) (hnl : nn ≤ gn) (hab : (mk S)[ab]? = some (.inl (2, NB, .inl (sA S ab)))) (hNB : NB < 2 ^ 30) (hfr : fr + n ≤ NB) (hn1 : 1 ≤ n) (hn12 : n ≤ 12) (hk : k < nn) (hi : i = n) (hx : Bod d 294 3 (sm_p1 (sm_p1 (sm_p1 (lv_args 0 [.ref 61, .ref ab, .int (nI fr), .int (nI n)]) 5 (.int (nI 0))) 6 (.int (nI i))) 4 (.int (nI (k + 1)))) [] S v Sf) : Bod d 294 33 (sm_p1 (sm_p1 (sm_p1 (lv_args 0 [.ref 61, .ref ab, .int (nI fr), .int (nI n)]) 4 (.int (nI k))) 5 (.int (nI 0))) 6 (.int (nI i))) [] S v Sf := by
  refine Bod.go dc_294_33 rfl ?_
  refine Bod.go dc_294_35 rfl ?_
  refine Bod.icT dc_294_36 rfl (k2_ge_T i n rfl rfl (by omega) (by omega)) ?_
  refine Bod.go dc_294_79 rfl ?_
  refine Bod.ifT dc_294_81 rfl (k1_eq_T (k_eq 0 0 rfl rfl (by omega))) ?_
  refine Bod.incN (k + 1) (by rw [kc_1, nI_add]) dc_294_87 (by rw [ml_294]; exact Nat.le_of_ble_eq_true rfl) rfl ?_
  refine Bod.go dc_294_90 rfl ?_
  exact Bod.lv rfl hx
theorem nm_nob {d nn g0 g1 gn ab NB fr n : Nat} {S : cS} {k i : Nat} {v : Option Value} {Sf : cS} (hnn : sI S 6102 = nI nn) (hv0 : sV S 6100 = .ref g0) (hv1 : sV S 6101 = .ref g1) (hg0 : isK S g0 2 (12 * gn)) (hg1 : isK S g1 0 gn) (hgn : gn < 2 ^ 20) (hnl : nn ≤ gn) (hab : (mk S)[ab]? = some (.inl (2, NB, .inl (sA S ab)))) (hNB : NB < 2 ^ 30) (hfr : fr + n ≤ NB) (hn1 : 1 ≤ n) (hn12 : n ≤ 12) (hk : k < nn) (hi : i < n) (hx : Bod d 294 3 (sm_p1 (sm_p1 (sm_p1 (lv_args 0 [.ref 61, .ref ab, .int (nI fr), .int (nI n)]) 5 (.int (nI 0))) 6 (.int (nI i))) 4 (.int (nI (k + 1)))) [] S v Sf) : Bod d 294 33 (sm_p1 (sm_p1 (sm_p1 (lv_args 0 [.ref 61, .ref ab, .int (nI fr), .int (nI n)]) 4 (.int (nI k))) 5 (.int (nI 0))) 6 (.int (nI i))) [] S v Sf := by
  refine Bod.go dc_294_33 rfl ?_
  refine Bod.go dc_294_35 rfl ?_
  refine Bod.icF dc_294_36 rfl (k2_ge_F i n rfl rfl (by omega) (by omega)) ?_
  refine Bod.go dc_294_39 rfl ?_
  refine Bod.ifT dc_294_41 rfl (k1_eq_T (k_eq 0 0 rfl rfl (by omega))) ?_
  refine Bod.go dc_294_79 rfl ?_
  refine Bod.ifT dc_294_81 rfl (k1_eq_T (k_eq 0 0 rfl rfl (by omega))) ?_
  refine Bod.incN (k + 1) (by rw [kc_1, nI_add]) dc_294_87 (by rw [ml_294]; exact Nat.le_of_ble_eq_true rfl) rfl ?_
  refine Bod.go dc_294_90 rfl ?_
  exact Bod.lv rfl hx
theorem nm_yes {d nn g0 g1 gn ab NB fr n : Nat} {S : cS} {k i : Nat} (hnn : sI S 6102 = nI nn) (hv0 : sV S 6100 = .ref g0) (hv1 : sV S 6101 = .ref g1) (hg0 : isK S g0 2 (12 * gn)) (hg1 : isK S g1 0 gn) (hgn : gn < 2 ^ 20) (hnl : nn ≤ gn) (hab : (mk S)[ab]? = some (.inl (2, NB, .inl (sA S ab)))) (hNB : NB < 2 ^ 30) (hfr : fr + n ≤ NB) (hn1 : 1 ≤ n) (hn12 : n ≤ 12) (hk : k < nn) (hi : i = n) : Bod d 294 33 (sm_p1 (sm_p1 (sm_p1 (lv_args 0 [.ref 61, .ref ab, .int (nI fr), .int (nI n)]) 4 (.int (nI k))) 5 (.int (nI 1))) 6 (.int (nI i))) [] S (some (.int (nI k))) S := by
  refine Bod.go dc_294_33 rfl ?_
  refine Bod.go dc_294_35 rfl ?_
  refine Bod.icT dc_294_36 rfl (k2_ge_T i n rfl rfl (by omega) (by omega)) ?_
  refine Bod.go dc_294_79 rfl ?_
  refine Bod.ifF dc_294_81 rfl (k1_eq_F (k_ne 1 0 rfl rfl (by omega) (by omega) (by omega))) ?_
  refine Bod.go dc_294_84 rfl ?_
  exact Bod.retI dc_294_86 rt_294
theorem nm_go {d ab fr n : Nat} {S Sf : cS} {v : Option Value} (hx : Bod d 294 3 (sm_p1 (lv_args 0 [.ref 61, .ref ab, .int (nI fr), .int (nI n)]) 4 (.int (nI 0))) [] S v Sf) : Ans (d + 1) 294 [.ref 61, .ref ab, .int (nI fr), .int (nI n)] S v Sf := by
  refine Ans.of (by rw [ml_294]; exact Nat.le_of_ble_eq_true rfl) ?_
  refine Bod.ic 0 (by decide) dc_294_0 ?_
  refine Bod.ist dc_294_1 (by rw [ml_294]; exact Nat.le_of_ble_eq_true rfl) ?_
  exact hx
theorem nm_outF {d nn g0 g1 gn ab NB fr n : Nat} {S : cS} {k : Nat} {w z : Int32} {v : Option Value} {Sf : cS} (hnn : sI S 6102 = nI nn) (hv0 : sV S 6100 = .ref g0) (hv1 : sV S 6101 = .ref g1) (hg0 : isK S g0 2 (12 * gn)) (hg1 : isK S g1 0 gn) (hgn : gn < 2 ^ 20) (hnl : nn ≤ gn) (hab : (mk S)[ab]? = some (.inl (2, NB, .inl (sA S ab)))) (hNB : NB < 2 ^ 30) (hfr : fr + n ≤ NB) (hn1 : 1 ≤ n) (hn12 : n ≤ 12) (hk : 0 = nn) (hx : Bod d 294 93 (sm_p1 (lv_args 0 [.ref 61, .ref ab, .int (nI fr), .int (nI n)]) 4 (.int (nI 0))) [] S v Sf) : Bod d 294 3 (sm_p1 (lv_args 0 [.ref 61, .ref ab, .int (nI fr), .int (nI n)]) 4 (.int (nI 0))) [] S v Sf := by
  refine Bod.go dc_294_3 rfl ?_
  refine Bod.go dc_294_5 rfl ?_
  refine Bod.get dc_294_6 fr_294_1 (mk_61 _) rfl ?_
  refine Bod.eqI (nI nn) (by first | assumption | rfl | exact congrArg nI (by omega) | (simp (disch := omega) only [rI, rIe, rA, rIA, rLA, rJA, rVI, rQI, rVA, rQA, upd_at,  rAI, rLI, rJI, nI_add, pk_sub, kc_0, kc_1, kc_2, kc_3, kc_4, kc_5, reduceIte, Nat.reduceEqDiff, Nat.add_zero, rI_hold, rI_hold, rL_hold, hnn]; done)) ?_
  refine Bod.icT dc_294_9 rfl (k2_ge_T 0 nn rfl rfl (by omega) (by omega)) ?_
  exact hx
theorem nm_outN {d nn g0 g1 gn ab NB fr n : Nat} {S : cS} {k : Nat} {w z : Int32} {v : Option Value} {Sf : cS} (hnn : sI S 6102 = nI nn) (hv0 : sV S 6100 = .ref g0) (hv1 : sV S 6101 = .ref g1) (hg0 : isK S g0 2 (12 * gn)) (hg1 : isK S g1 0 gn) (hgn : gn < 2 ^ 20) (hnl : nn ≤ gn) (hab : (mk S)[ab]? = some (.inl (2, NB, .inl (sA S ab)))) (hNB : NB < 2 ^ 30) (hfr : fr + n ≤ NB) (hn1 : 1 ≤ n) (hn12 : n ≤ 12) (hk : k = nn) (hx : Bod d 294 93 (sm_p1 (sm_p1 (sm_p1 (lv_args 0 [.ref 61, .ref ab, .int (nI fr), .int (nI n)]) 5 (.int w)) 6 (.int z)) 4 (.int (nI k))) [] S v Sf) : Bod d 294 3 (sm_p1 (sm_p1 (sm_p1 (lv_args 0 [.ref 61, .ref ab, .int (nI fr), .int (nI n)]) 5 (.int w)) 6 (.int z)) 4 (.int (nI k))) [] S v Sf := by
  refine Bod.go dc_294_3 rfl ?_
  refine Bod.go dc_294_5 rfl ?_
  refine Bod.get dc_294_6 fr_294_1 (mk_61 _) rfl ?_
  refine Bod.eqI (nI nn) (by first | assumption | rfl | exact congrArg nI (by omega) | (simp (disch := omega) only [rI, rIe, rA, rIA, rLA, rJA, rVI, rQI, rVA, rQA, upd_at,  rAI, rLI, rJI, nI_add, pk_sub, kc_0, kc_1, kc_2, kc_3, kc_4, kc_5, reduceIte, Nat.reduceEqDiff, Nat.add_zero, rI_hold, rI_hold, rL_hold, hnn]; done)) ?_
  refine Bod.icT dc_294_9 rfl (k2_ge_T k nn rfl rfl (by omega) (by omega)) ?_
  exact hx
/-- the k-th name of the reference is these bytes -/
def r_same (S : cS) (g0 g1 ab fr n k : Nat) : Prop := sA S g1 k = nI n ∧ ∀ i, i < n → sA S g0 (12 * k + i) = sA S ab (fr + i)
theorem nm_loop {d nn g0 g1 gn ab NB fr n : Nat} {S : cS} {v : Option Value} {Sf : cS} (hnn : sI S 6102 = nI nn) (hv0 : sV S 6100 = .ref g0) (hv1 : sV S 6101 = .ref g1) (hg0 : isK S g0 2 (12 * gn)) (hg1 : isK S g1 0 gn) (hgn : gn < 2 ^ 20) (hnl : nn ≤ gn) (hab : (mk S)[ab]? = some (.inl (2, NB, .inl (sA S ab)))) (hNB : NB < 2 ^ 30) (hfr : fr + n ≤ NB) (hn1 : 1 ≤ n) (hn12 : n ≤ 12) {k : Nat} (hk : k < nn) (hl : sA S g1 k = nI n) (hno : ¬ r_same S g0 g1 ab fr n k) (hx : ∀ w z, Bod d 294 3 (sm_p1 (sm_p1 (sm_p1 (lv_args 0 [.ref 61, .ref ab, .int (nI fr), .int (nI n)]) 5 (.int w)) 6 (.int z)) 4 (.int (nI (k + 1)))) [] S v Sf) : ∀ (r i : Nat), i + r = n → (∀ q, q < i → sA S g0 (12 * k + q) = sA S ab (fr + q)) → Bod d 294 33 (sm_p1 (sm_p1 (sm_p1 (lv_args 0 [.ref 61, .ref ab, .int (nI fr), .int (nI n)]) 4 (.int (nI k))) 5 (.int (nI 1))) 6 (.int (nI i))) [] S v Sf := by
  intro r
  induction r with
  | zero =>
    intro i hi h
    exact absurd ⟨hl, fun q hq => h q (by omega)⟩ hno
  | succ r ih =>
    intro i hi h
    by_cases hc : sA S g0 (12 * k + i) = sA S ab (fr + i)
    · refine nm_next hnn hv0 hv1 hg0 hg1 hgn hnl hab hNB hfr hn1 hn12 hk (by omega) hc (ih (i + 1) (by omega) (fun q hq => ?_))
      by_cases e : q = i
      · rw [e]; exact hc
      · exact h q (by omega)
    · refine nm_diff hnn hv0 hv1 hg0 hg1 hgn hnl hab hNB hfr hn1 hn12 hk (by omega) hc ?_
      by_cases e : i + 1 = n
      · exact nm_noa hnn hv0 hv1 hg0 hg1 hgn hnl hab hNB hfr hn1 hn12 hk e (hx _ _)
      · exact nm_nob hnn hv0 hv1 hg0 hg1 hgn hnl hab hNB hfr hn1 hn12 hk (by omega) (hx _ _)
theorem nm_hit {d nn g0 g1 gn ab NB fr n : Nat} {S : cS} (hnn : sI S 6102 = nI nn) (hv0 : sV S 6100 = .ref g0) (hv1 : sV S 6101 = .ref g1) (hg0 : isK S g0 2 (12 * gn)) (hg1 : isK S g1 0 gn) (hgn : gn < 2 ^ 20) (hnl : nn ≤ gn) (hab : (mk S)[ab]? = some (.inl (2, NB, .inl (sA S ab)))) (hNB : NB < 2 ^ 30) (hfr : fr + n ≤ NB) (hn1 : 1 ≤ n) (hn12 : n ≤ 12) {k : Nat} (hk : k < nn) (hs : r_same S g0 g1 ab fr n k) : ∀ (r i : Nat), i + r = n → Bod d 294 33 (sm_p1 (sm_p1 (sm_p1 (lv_args 0 [.ref 61, .ref ab, .int (nI fr), .int (nI n)]) 4 (.int (nI k))) 5 (.int (nI 1))) 6 (.int (nI i))) [] S (some (.int (nI k))) S := by
  intro r
  induction r with
  | zero => intro i hi; exact nm_yes hnn hv0 hv1 hg0 hg1 hgn hnl hab hNB hfr hn1 hn12 hk (by omega)
  | succ r ih => intro i hi; exact nm_next hnn hv0 hv1 hg0 hg1 hgn hnl hab hNB hfr hn1 hn12 hk (by omega) (hs.2 i (by omega)) (ih (i + 1) (by omega))
/-- over names that are others -/
theorem nm_others {d nn g0 g1 gn ab NB fr n : Nat} {S : cS} {v : Option Value} {Sf : cS} (hnn : sI S 6102 = nI nn) (hv0 : sV S 6100 = .ref g0) (hv1 : sV S 6101 = .ref g1) (hg0 : isK S g0 2 (12 * gn)) (hg1 : isK S g1 0 gn) (hgn : gn < 2 ^ 20) (hnl : nn ≤ gn) (hab : (mk S)[ab]? = some (.inl (2, NB, .inl (sA S ab)))) (hNB : NB < 2 ^ 30) (hfr : fr + n ≤ NB) (hn1 : 1 ≤ n) (hn12 : n ≤ 12) {q : Nat} (hq : q ≤ nn) (hx : ∀ w z, Bod d 294 3 (sm_p1 (sm_p1 (sm_p1 (lv_args 0 [.ref 61, .ref ab, .int (nI fr), .int (nI n)]) 5 (.int w)) 6 (.int z)) 4 (.int (nI q))) [] S v Sf) : ∀ (r k : Nat) (w z : Int32), k + r = q → (∀ p, p < q → ¬ r_same S g0 g1 ab fr n p) → Bod d 294 3 (sm_p1 (sm_p1 (sm_p1 (lv_args 0 [.ref 61, .ref ab, .int (nI fr), .int (nI n)]) 5 (.int w)) 6 (.int z)) 4 (.int (nI k))) [] S v Sf := by
  intro r
  induction r with
  | zero => intro k w z hk _; obtain rfl : k = q := by omega
            exact hx w z
  | succ r ih =>
    intro k w z hk h
    by_cases hl : sA S g1 k = nI n
    · exact nm_inN hnn hv0 hv1 hg0 hg1 hgn hnl hab hNB hfr hn1 hn12 (by omega) hl (nm_loop hnn hv0 hv1 hg0 hg1 hgn hnl hab hNB hfr hn1 hn12 (by omega) hl (h k (by omega)) (fun w z => ih (k + 1) w z (by omega) h) n 0 (by omega) (fun q hq => by omega))
    · exact nm_lenN hnn hv0 hv1 hg0 hg1 hgn hnl hab hNB hfr hn1 hn12 (by omega) hl (ih (k + 1) _ _ (by omega) h)
/-- a name that is known -/
theorem nameOf_old {d nn g0 g1 gn ab NB fr n : Nat} {S : cS} (hnn : sI S 6102 = nI nn) (hv0 : sV S 6100 = .ref g0) (hv1 : sV S 6101 = .ref g1) (hg0 : isK S g0 2 (12 * gn)) (hg1 : isK S g1 0 gn) (hgn : gn < 2 ^ 20) (hnl : nn ≤ gn) (hab : (mk S)[ab]? = some (.inl (2, NB, .inl (sA S ab)))) (hNB : NB < 2 ^ 30) (hfr : fr + n ≤ NB) (hn1 : 1 ≤ n) (hn12 : n ≤ 12) {q : Nat} (hq : q < nn) (hs : r_same S g0 g1 ab fr n q) (hno : ∀ p, p < q → ¬ r_same S g0 g1 ab fr n p) : Ans (d + 1) 294 [.ref 61, .ref ab, .int (nI fr), .int (nI n)] S (some (.int (nI q))) S := by
  refine nm_go ?_
  have hit : ∀ w z, Bod d 294 3 (sm_p1 (sm_p1 (sm_p1 (lv_args 0 [.ref 61, .ref ab, .int (nI fr), .int (nI n)]) 5 (.int w)) 6 (.int z)) 4 (.int (nI q))) [] S (some (.int (nI q))) S := fun w z => nm_inN hnn hv0 hv1 hg0 hg1 hgn hnl hab hNB hfr hn1 hn12 hq hs.1 (nm_hit hnn hv0 hv1 hg0 hg1 hgn hnl hab hNB hfr hn1 hn12 hq hs n 0 (by omega))
  by_cases h0 : q = 0
  · subst h0
    exact nm_inF (k := 0) (w := 0) (z := 0) hnn hv0 hv1 hg0 hg1 hgn hnl hab hNB hfr hn1 hn12 hq hs.1 (nm_hit hnn hv0 hv1 hg0 hg1 hgn hnl hab hNB hfr hn1 hn12 hq hs n 0 (by omega))
  · have rest : ∀ w z, Bod d 294 3 (sm_p1 (sm_p1 (sm_p1 (lv_args 0 [.ref 61, .ref ab, .int (nI fr), .int (nI n)]) 5 (.int w)) 6 (.int z)) 4 (.int (nI 1))) [] S (some (.int (nI q))) S := fun w z => nm_others hnn hv0 hv1 hg0 hg1 hgn hnl hab hNB hfr hn1 hn12 (q := q) (by omega) hit (q - 1) 1 w z (by omega) hno
    by_cases hl : sA S g1 0 = nI n
    · exact nm_inF (k := 0) (w := 0) (z := 0) hnn hv0 hv1 hg0 hg1 hgn hnl hab hNB hfr hn1 hn12 (by omega) hl (nm_loop (k := 0) hnn hv0 hv1 hg0 hg1 hgn hnl hab hNB hfr hn1 hn12 (by omega) hl (hno 0 (by omega)) rest n 0 (by omega) (fun q hq => by omega))
    · exact nm_lenF (k := 0) (w := 0) (z := 0) hnn hv0 hv1 hg0 hg1 hgn hnl hab hNB hfr hn1 hn12 (by omega) hl (rest _ _)
/-- a name that is new: on to where it is learnt -/
theorem nameOf_none {d nn g0 g1 gn ab NB fr n : Nat} {S : cS} {v : Option Value} {Sf : cS} (hnn : sI S 6102 = nI nn) (hv0 : sV S 6100 = .ref g0) (hv1 : sV S 6101 = .ref g1) (hg0 : isK S g0 2 (12 * gn)) (hg1 : isK S g1 0 gn) (hgn : gn < 2 ^ 20) (hnl : nn ≤ gn) (hab : (mk S)[ab]? = some (.inl (2, NB, .inl (sA S ab)))) (hNB : NB < 2 ^ 30) (hfr : fr + n ≤ NB) (hn1 : 1 ≤ n) (hn12 : n ≤ 12) (hno : ∀ p, p < nn → ¬ r_same S g0 g1 ab fr n p) (hF : nn = 0 → Bod d 294 93 (sm_p1 (lv_args 0 [.ref 61, .ref ab, .int (nI fr), .int (nI n)]) 4 (.int (nI 0))) [] S v Sf) (hx : ∀ w z, Bod d 294 93 (sm_p1 (sm_p1 (sm_p1 (lv_args 0 [.ref 61, .ref ab, .int (nI fr), .int (nI n)]) 5 (.int w)) 6 (.int z)) 4 (.int (nI nn))) [] S v Sf) : Ans (d + 1) 294 [.ref 61, .ref ab, .int (nI fr), .int (nI n)] S v Sf := by
  refine nm_go ?_
  by_cases h0 : nn = 0
  · exact nm_outF (k := 0) (w := 0) (z := 0) hnn hv0 hv1 hg0 hg1 hgn hnl hab hNB hfr hn1 hn12 h0.symm (hF h0)
  · have rest : ∀ w z, Bod d 294 3 (sm_p1 (sm_p1 (sm_p1 (lv_args 0 [.ref 61, .ref ab, .int (nI fr), .int (nI n)]) 5 (.int w)) 6 (.int z)) 4 (.int (nI 1))) [] S v Sf := fun w z => nm_others hnn hv0 hv1 hg0 hg1 hgn hnl hab hNB hfr hn1 hn12 (q := nn) (Nat.le_refl _) (fun w z => nm_outN hnn hv0 hv1 hg0 hg1 hgn hnl hab hNB hfr hn1 hn12 rfl (hx w z)) (nn - 1) 1 w z (by omega) hno
    by_cases hl : sA S g1 0 = nI n
    · exact nm_inF (k := 0) (w := 0) (z := 0) hnn hv0 hv1 hg0 hg1 hgn hnl hab hNB hfr hn1 hn12 (by omega) hl (nm_loop (k := 0) hnn hv0 hv1 hg0 hg1 hgn hnl hab hNB hfr hn1 hn12 (by omega) hl (hno 0 (by omega)) rest n 0 (by omega) (fun q hq => by omega))
    · exact nm_lenF (k := 0) (w := 0) (z := 0) hnn hv0 hv1 hg0 hg1 hgn hnl hab hNB hfr hn1 hn12 (by omega) hl (rest _ _)
