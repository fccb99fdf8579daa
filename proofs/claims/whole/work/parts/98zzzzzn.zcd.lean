/-! STATEMENTS OF THE REFERENCE: ways of a code's new function (337) -/
theorem ml_337 : sm_ml 337 = 2 := by decide +kernel
theorem dc_337_0 : decode (sm_cc 337) 0 = .ok (.aload_n 0, 1) := by decide +kernel
theorem dc_337_1 : decode (sm_cc 337) 1 = .ok (.getfield 54, 3) := by decide +kernel
theorem fr_337_54 : sm_at mt_f (sm_ow 337) 54 = some (54, 12, 11, 0, 2428) := by decide +kernel
theorem dc_337_4 : decode (sm_cc 337) 4 = .ok (.aload_n 0, 1) := by decide +kernel
theorem dc_337_5 : decode (sm_cc 337) 5 = .ok (.getfield 23, 3) := by decide +kernel
theorem fr_337_23 : sm_at mt_f (sm_ow 337) 23 = some (23, 12, 7, 0, 2420) := by decide +kernel
theorem dc_337_8 : decode (sm_cc 337) 8 = .ok (.arraylength, 1) := by decide +kernel
theorem dc_337_9 : decode (sm_cc 337) 9 = .ok (.if_icmp .ne (71), 3) := by decide +kernel
theorem dc_337_12 : decode (sm_cc 337) 12 = .ok (.aload_n 0, 1) := by decide +kernel
theorem dc_337_13 : decode (sm_cc 337) 13 = .ok (.aload_n 0, 1) := by decide +kernel
theorem dc_337_14 : decode (sm_cc 337) 14 = .ok (.getfield 23, 3) := by decide +kernel
theorem dc_337_17 : decode (sm_cc 337) 17 = .ok (.iconst 2, 1) := by decide +kernel
theorem dc_337_18 : decode (sm_cc 337) 18 = .ok (.aload_n 0, 1) := by decide +kernel
theorem dc_337_19 : decode (sm_cc 337) 19 = .ok (.getfield 54, 3) := by decide +kernel
theorem dc_337_22 : decode (sm_cc 337) 22 = .ok (.imul, 1) := by decide +kernel
theorem dc_337_23 : decode (sm_cc 337) 23 = .ok (.invokestatic 39, 3) := by decide +kernel
theorem kr_337_39 : sm_at mt_k (sm_ow 337) 39 = some (39, 2, 296, 0, 2473) := by decide +kernel
theorem dc_337_26 : decode (sm_cc 337) 26 = .ok (.putfield 23, 3) := by decide +kernel
theorem dc_337_29 : decode (sm_cc 337) 29 = .ok (.aload_n 0, 1) := by decide +kernel
theorem dc_337_30 : decode (sm_cc 337) 30 = .ok (.aload_n 0, 1) := by decide +kernel
theorem dc_337_31 : decode (sm_cc 337) 31 = .ok (.getfield 26, 3) := by decide +kernel
theorem fr_337_26 : sm_at mt_f (sm_ow 337) 26 = some (26, 12, 8, 0, 2422) := by decide +kernel
theorem dc_337_34 : decode (sm_cc 337) 34 = .ok (.iconst 2, 1) := by decide +kernel
theorem dc_337_35 : decode (sm_cc 337) 35 = .ok (.aload_n 0, 1) := by decide +kernel
theorem dc_337_36 : decode (sm_cc 337) 36 = .ok (.getfield 54, 3) := by decide +kernel
theorem dc_337_39 : decode (sm_cc 337) 39 = .ok (.imul, 1) := by decide +kernel
theorem dc_337_40 : decode (sm_cc 337) 40 = .ok (.invokestatic 39, 3) := by decide +kernel
theorem dc_337_43 : decode (sm_cc 337) 43 = .ok (.putfield 26, 3) := by decide +kernel
theorem dc_337_46 : decode (sm_cc 337) 46 = .ok (.aload_n 0, 1) := by decide +kernel
theorem dc_337_47 : decode (sm_cc 337) 47 = .ok (.aload_n 0, 1) := by decide +kernel
theorem dc_337_48 : decode (sm_cc 337) 48 = .ok (.getfield 29, 3) := by decide +kernel
theorem fr_337_29 : sm_at mt_f (sm_ow 337) 29 = some (29, 12, 9, 0, 2424) := by decide +kernel
theorem dc_337_51 : decode (sm_cc 337) 51 = .ok (.iconst 2, 1) := by decide +kernel
theorem dc_337_52 : decode (sm_cc 337) 52 = .ok (.aload_n 0, 1) := by decide +kernel
theorem dc_337_53 : decode (sm_cc 337) 53 = .ok (.getfield 54, 3) := by decide +kernel
theorem dc_337_56 : decode (sm_cc 337) 56 = .ok (.imul, 1) := by decide +kernel
theorem dc_337_57 : decode (sm_cc 337) 57 = .ok (.invokestatic 39, 3) := by decide +kernel
theorem dc_337_60 : decode (sm_cc 337) 60 = .ok (.putfield 29, 3) := by decide +kernel
theorem dc_337_63 : decode (sm_cc 337) 63 = .ok (.aload_n 0, 1) := by decide +kernel
theorem dc_337_64 : decode (sm_cc 337) 64 = .ok (.aload_n 0, 1) := by decide +kernel
theorem dc_337_65 : decode (sm_cc 337) 65 = .ok (.getfield 32, 3) := by decide +kernel
theorem fr_337_32 : sm_at mt_f (sm_ow 337) 32 = some (32, 12, 10, 0, 2426) := by decide +kernel
theorem dc_337_68 : decode (sm_cc 337) 68 = .ok (.iconst 2, 1) := by decide +kernel
theorem dc_337_69 : decode (sm_cc 337) 69 = .ok (.aload_n 0, 1) := by decide +kernel
theorem dc_337_70 : decode (sm_cc 337) 70 = .ok (.getfield 54, 3) := by decide +kernel
theorem dc_337_73 : decode (sm_cc 337) 73 = .ok (.imul, 1) := by decide +kernel
theorem dc_337_74 : decode (sm_cc 337) 74 = .ok (.invokestatic 39, 3) := by decide +kernel
theorem dc_337_77 : decode (sm_cc 337) 77 = .ok (.putfield 32, 3) := by decide +kernel
theorem dc_337_80 : decode (sm_cc 337) 80 = .ok (.aload_n 0, 1) := by decide +kernel
theorem dc_337_81 : decode (sm_cc 337) 81 = .ok (.getfield 23, 3) := by decide +kernel
theorem dc_337_84 : decode (sm_cc 337) 84 = .ok (.aload_n 0, 1) := by decide +kernel
theorem dc_337_85 : decode (sm_cc 337) 85 = .ok (.getfield 54, 3) := by decide +kernel
theorem dc_337_88 : decode (sm_cc 337) 88 = .ok (.iload_n 1, 1) := by decide +kernel
theorem dc_337_89 : decode (sm_cc 337) 89 = .ok (.iastore, 1) := by decide +kernel
theorem dc_337_90 : decode (sm_cc 337) 90 = .ok (.aload_n 0, 1) := by decide +kernel
theorem dc_337_91 : decode (sm_cc 337) 91 = .ok (.dup, 1) := by decide +kernel
theorem dc_337_92 : decode (sm_cc 337) 92 = .ok (.getfield 54, 3) := by decide +kernel
theorem dc_337_95 : decode (sm_cc 337) 95 = .ok (.iconst 1, 1) := by decide +kernel
theorem dc_337_96 : decode (sm_cc 337) 96 = .ok (.iadd, 1) := by decide +kernel
theorem dc_337_97 : decode (sm_cc 337) 97 = .ok (.putfield 54, 3) := by decide +kernel
theorem dc_337_100 : decode (sm_cc 337) 100 = .ok (.aload_n 0, 1) := by decide +kernel
theorem dc_337_101 : decode (sm_cc 337) 101 = .ok (.getfield 54, 3) := by decide +kernel
theorem dc_337_104 : decode (sm_cc 337) 104 = .ok (.iconst 1, 1) := by decide +kernel
theorem dc_337_105 : decode (sm_cc 337) 105 = .ok (.isub, 1) := by decide +kernel
theorem dc_337_106 : decode (sm_cc 337) 106 = .ok (.ireturn, 1) := by decide +kernel
theorem rt_337 : sm_rt 337 = some .int := by decide +kernel
theorem zCd_1 {d m u : Nat} (hm : 108 ≤ m) {S Sf : cS} {v : Option Value} {lx : Int32} {n11 : Nat} {g : Nat} {N : Nat} (hz1 : (sS S)[m - 108]? = some (12, u)) (hn11 : sI S (100 * m + 11) = nI n11) (mn11 : n11 < 2 ^ 20) (hv2 : sV S (100 * m + 7) = .ref g) (hg2 : isK S g 0 N) (mN : N < 2 ^ 20) (b1 : n11 ≠ N) (hB : ∀ lv1 : sm_L, sm_get lv1 0 = some (.ref m) → sm_get lv1 1 = some (.int lx) → Bod (d + 8) 337 80 lv1 [] (S) v Sf) : Bod (d + 8) 337 0 [(0, .ref m), (1, .int lx)] [] S v Sf := by
  refine Bod.go dc_337_0 rfl ?_
  refine Bod.get dc_337_1 fr_337_54 (mk_code hm (by first | exact hz1 | (simp only [rIS, rJS, rAS, rLS, rVS, rQS, rS_hold]; exact hz1))) rfl ?_
  refine Bod.eqI (nI n11) (by first | assumption | rfl | exact congrArg nI (by omega) | (simp (disch := omega) only [rI, rIe, rA, rIA, rLA, rJA, rVI, rQI, rVA, rQA, upd_at,  rAI, rLI, rJI, nI_add, pk_sub, kc_0, kc_1, kc_2, kc_3, kc_4, kc_5, reduceIte, Nat.reduceEqDiff, Nat.add_zero, rI_hold, rI_hold, rL_hold, hn11]; done)) ?_
  refine Bod.go dc_337_4 rfl ?_
  refine Bod.get dc_337_5 fr_337_23 (mk_code hm (by first | exact hz1 | (simp only [rIS, rJS, rAS, rLS, rVS, rQS, rS_hold]; exact hz1))) rfl ?_
  refine Bod.eqV (.ref g) (by first | exact hv2 | exact (if_neg (by omega)).trans hv2 | (simp only [rIV, rJV, rAV, rLV, rQV, rV, reduceIte, Nat.reduceEqDiff]; exact hv2)) ?_
  refine Bod.alenN (N := N) dc_337_8 (mk_isI (by first | exact hg2 | exact isK_S (by simp only [rIS, rJS, rAS, rLS, rVS, rQS, rS_hold]) hg2)) el_0 ?_
  refine Bod.icT dc_337_9 rfl (k2_ne_T (k_ne n11 N rfl rfl (by omega) (by omega) (by omega))) ?_
  exact hB _ (by first | rfl | exact (by repeat (first | exact rfl | exact sm_get_p1 | exact sm_get_p2e | refine sm_get_p1m (by decide) (by decide) ?_ | refine sm_get_p1n (by decide) rfl ?_ | refine sm_get_p2n (by decide) (by decide) rfl ?_))) (by first | rfl | exact (by repeat (first | exact rfl | exact sm_get_p1 | exact sm_get_p2e | refine sm_get_p1m (by decide) (by decide) ?_ | refine sm_get_p1n (by decide) rfl ?_ | refine sm_get_p2n (by decide) (by decide) rfl ?_)))
theorem zCd_2 {d m u : Nat} (hm : 108 ≤ m) {S Sf : cS} {v : Option Value} {lx : Int32} {n11 : Nat} {g : Nat} {N : Nat} {S1 : cS} {z : Nat} {g1 : Nat} {N1 : Nat} {n111 : Nat} {S2 : cS} {z1 : Nat} {g2 : Nat} {N2 : Nat} {n112 : Nat} {S3 : cS} {z2 : Nat} {g3 : Nat} {N3 : Nat} {n113 : Nat} {S4 : cS} {z3 : Nat} (hz1 : (sS S)[m - 108]? = some (12, u)) (hn11 : sI S (100 * m + 11) = nI n11) (mn11 : n11 < 2 ^ 20) (hv2 : sV S (100 * m + 7) = .ref g) (hg2 : isK S g 0 N) (mN : N < 2 ^ 20) (b1 : n11 = N) (c1 : Ans (d + 8) 296 [.ref g, .int (nI (2 * n11))] S (some (.ref z)) S1) (hz3 : (sS S1)[m - 108]? = some (12, u)) (hv4 : sV S1 (100 * m + 8) = .ref g1) (hg4 : isK S1 g1 0 N1) (mN1 : N1 < 2 ^ 20) (hn111 : sI (wV (100 * m + 7) (.ref z) S1) (100 * m + 11) = nI n111) (mn111 : n111 < 2 ^ 20) (c2 : Ans (d + 8) 296 [.ref g1, .int (nI (2 * n111))] (wV (100 * m + 7) (.ref z) S1) (some (.ref z1)) S2) (hz5 : (sS S2)[m - 108]? = some (12, u)) (hv6 : sV S2 (100 * m + 9) = .ref g2) (hg6 : isK S2 g2 0 N2) (mN2 : N2 < 2 ^ 20) (hn112 : sI (wV (100 * m + 8) (.ref z1) S2) (100 * m + 11) = nI n112) (mn112 : n112 < 2 ^ 20) (c3 : Ans (d + 8) 296 [.ref g2, .int (nI (2 * n112))] (wV (100 * m + 8) (.ref z1) S2) (some (.ref z2)) S3) (hz7 : (sS S3)[m - 108]? = some (12, u)) (hv8 : sV S3 (100 * m + 10) = .ref g3) (hg8 : isK S3 g3 0 N3) (mN3 : N3 < 2 ^ 20) (hn113 : sI (wV (100 * m + 9) (.ref z2) S3) (100 * m + 11) = nI n113) (mn113 : n113 < 2 ^ 20) (c4 : Ans (d + 8) 296 [.ref g3, .int (nI (2 * n113))] (wV (100 * m + 9) (.ref z2) S3) (some (.ref z3)) S4) (hz9 : (sS S4)[m - 108]? = some (12, u)) (hB : ∀ lv1 : sm_L, sm_get lv1 0 = some (.ref m) → sm_get lv1 1 = some (.int lx) → Bod (d + 8) 337 80 lv1 [] (wV (100 * m + 10) (.ref z3) S4) v Sf) : Bod (d + 8) 337 0 [(0, .ref m), (1, .int lx)] [] S v Sf := by
  refine Bod.go dc_337_0 rfl ?_
  refine Bod.get dc_337_1 fr_337_54 (mk_code hm (by first | exact hz1 | (simp only [rIS, rJS, rAS, rLS, rVS, rQS, rS_hold]; exact hz1))) rfl ?_
  refine Bod.eqI (nI n11) (by first | assumption | rfl | exact congrArg nI (by omega) | (simp (disch := omega) only [rI, rIe, rA, rIA, rLA, rJA, rVI, rQI, rVA, rQA, upd_at,  rAI, rLI, rJI, nI_add, pk_sub, kc_0, kc_1, kc_2, kc_3, kc_4, kc_5, reduceIte, Nat.reduceEqDiff, Nat.add_zero, rI_hold, rI_hold, rL_hold, hn11]; done)) ?_
  refine Bod.go dc_337_4 rfl ?_
  refine Bod.get dc_337_5 fr_337_23 (mk_code hm (by first | exact hz1 | (simp only [rIS, rJS, rAS, rLS, rVS, rQS, rS_hold]; exact hz1))) rfl ?_
  refine Bod.eqV (.ref g) (by first | exact hv2 | exact (if_neg (by omega)).trans hv2 | (simp only [rIV, rJV, rAV, rLV, rQV, rV, reduceIte, Nat.reduceEqDiff]; exact hv2)) ?_
  refine Bod.alenN (N := N) dc_337_8 (mk_isI (by first | exact hg2 | exact isK_S (by simp only [rIS, rJS, rAS, rLS, rVS, rQS, rS_hold]) hg2)) el_0 ?_
  refine Bod.icF dc_337_9 rfl (k2_ne_F (k_eq n11 N rfl rfl (by omega))) ?_
  refine Bod.go dc_337_12 rfl ?_
  refine Bod.go dc_337_13 rfl ?_
  refine Bod.get dc_337_14 fr_337_23 (mk_code hm (by first | exact hz1 | (simp only [rIS, rJS, rAS, rLS, rVS, rQS, rS_hold]; exact hz1))) rfl ?_
  refine Bod.eqV (.ref g) (by first | exact hv2 | exact (if_neg (by omega)).trans hv2 | (simp only [rIV, rJV, rAV, rLV, rQV, rV, reduceIte, Nat.reduceEqDiff]; exact hv2)) ?_
  refine Bod.ic 2 (by decide) dc_337_17 ?_
  refine Bod.go dc_337_18 rfl ?_
  refine Bod.get dc_337_19 fr_337_54 (mk_code hm (by first | exact hz1 | (simp only [rIS, rJS, rAS, rLS, rVS, rQS, rS_hold]; exact hz1))) rfl ?_
  refine Bod.eqI (nI n11) (by first | assumption | rfl | exact congrArg nI (by omega) | (simp (disch := omega) only [rI, rIe, rA, rIA, rLA, rJA, rVI, rQI, rVA, rQA, upd_at,  rAI, rLI, rJI, nI_add, pk_sub, kc_0, kc_1, kc_2, kc_3, kc_4, kc_5, reduceIte, Nat.reduceEqDiff, Nat.add_zero, rI_hold, rI_hold, rL_hold, hn11]; done)) ?_
  refine Bod.mulN (2 * n11) (by omega) dc_337_22 ?_
  refine Bod.stat (r := [_]) dc_337_23 kr_337_39 (Or.inl rfl) (by rw [np_296]; rfl) (by rw [np_296]; rfl) (by rw [np_296]; exact Nat.le_of_ble_eq_true rfl) (Nat.le_of_ble_eq_true rfl) (c1  ) ?_
  show Bod _ _ _ _ [_, _] _ _ _
  refine Bod.put dc_337_26 fr_337_23 (mk_code hm (by first | exact hz3 | (simp only [rIS, rJS, rAS, rLS, rVS, rQS, rS_hold]; exact hz3))) (Nat.le_of_ble_eq_true rfl) pr_12_7 (st_code_7 hm (by first | exact hz3 | (simp only [rIS, rJS, rAS, rLS, rVS, rQS, rS_hold]; exact hz3))) (mu_V _ _ _) ?_
  refine Bod.go dc_337_29 rfl ?_
  refine Bod.go dc_337_30 rfl ?_
  refine Bod.get dc_337_31 fr_337_26 (mk_code hm (by first | exact hz3 | (simp only [rIS, rJS, rAS, rLS, rVS, rQS, rS_hold]; exact hz3))) rfl ?_
  refine Bod.eqV (.ref g1) (by first | exact hv4 | exact (if_neg (by omega)).trans hv4 | (simp only [rIV, rJV, rAV, rLV, rQV, rV, reduceIte, Nat.reduceEqDiff]; exact hv4)) ?_
  refine Bod.ic 2 (by decide) dc_337_34 ?_
  refine Bod.go dc_337_35 rfl ?_
  refine Bod.get dc_337_36 fr_337_54 (mk_code hm (by first | exact hz3 | (simp only [rIS, rJS, rAS, rLS, rVS, rQS, rS_hold]; exact hz3))) rfl ?_
  refine Bod.eqI (nI n111) (by first | (simp (disch := omega) only [rI, rIe, rA, rIA, rLA, rJA, rVI, rQI, rVA, rQA, upd_at,  rAI, rLI, rJI, nI_add, pk_sub, kc_0, kc_1, kc_2, kc_3, kc_4, kc_5, reduceIte, Nat.reduceEqDiff, Nat.add_zero, rI_hold, rI_hold, rL_hold, hn11, hn111]; done) | (simp (disch := omega) only [rI, rIe, rA, rIA, rLA, rJA, rVI, rQI, rVA, rQA, upd_at,  rAI, rLI, rJI, nI_add, pk_sub, kc_0, kc_1, kc_2, kc_3, kc_4, kc_5, reduceIte, Nat.reduceEqDiff, Nat.add_zero, rI_hold, rI_hold, rL_hold, hn11, hn111]; exact congrArg nI (by omega))) ?_
  refine Bod.mulN (2 * n111) (by omega) dc_337_39 ?_
  refine Bod.stat (r := [_]) dc_337_40 kr_337_39 (Or.inl rfl) (by rw [np_296]; rfl) (by rw [np_296]; rfl) (by rw [np_296]; exact Nat.le_of_ble_eq_true rfl) (Nat.le_of_ble_eq_true rfl) (c2  ) ?_
  show Bod _ _ _ _ [_, _] _ _ _
  refine Bod.put dc_337_43 fr_337_26 (mk_code hm (by first | exact hz5 | (simp only [rIS, rJS, rAS, rLS, rVS, rQS, rS_hold]; exact hz5))) (Nat.le_of_ble_eq_true rfl) pr_12_8 (st_code_8 hm (by first | exact hz5 | (simp only [rIS, rJS, rAS, rLS, rVS, rQS, rS_hold]; exact hz5))) (mu_V _ _ _) ?_
  refine Bod.go dc_337_46 rfl ?_
  refine Bod.go dc_337_47 rfl ?_
  refine Bod.get dc_337_48 fr_337_29 (mk_code hm (by first | exact hz5 | (simp only [rIS, rJS, rAS, rLS, rVS, rQS, rS_hold]; exact hz5))) rfl ?_
  refine Bod.eqV (.ref g2) (by first | exact hv6 | exact (if_neg (by omega)).trans hv6 | (simp only [rIV, rJV, rAV, rLV, rQV, rV, reduceIte, Nat.reduceEqDiff]; exact hv6)) ?_
  refine Bod.ic 2 (by decide) dc_337_51 ?_
  refine Bod.go dc_337_52 rfl ?_
  refine Bod.get dc_337_53 fr_337_54 (mk_code hm (by first | exact hz5 | (simp only [rIS, rJS, rAS, rLS, rVS, rQS, rS_hold]; exact hz5))) rfl ?_
  refine Bod.eqI (nI n112) (by first | (simp (disch := omega) only [rI, rIe, rA, rIA, rLA, rJA, rVI, rQI, rVA, rQA, upd_at,  rAI, rLI, rJI, nI_add, pk_sub, kc_0, kc_1, kc_2, kc_3, kc_4, kc_5, reduceIte, Nat.reduceEqDiff, Nat.add_zero, rI_hold, rI_hold, rL_hold, hn11, hn111, hn112]; done) | (simp (disch := omega) only [rI, rIe, rA, rIA, rLA, rJA, rVI, rQI, rVA, rQA, upd_at,  rAI, rLI, rJI, nI_add, pk_sub, kc_0, kc_1, kc_2, kc_3, kc_4, kc_5, reduceIte, Nat.reduceEqDiff, Nat.add_zero, rI_hold, rI_hold, rL_hold, hn11, hn111, hn112]; exact congrArg nI (by omega))) ?_
  refine Bod.mulN (2 * n112) (by omega) dc_337_56 ?_
  refine Bod.stat (r := [_]) dc_337_57 kr_337_39 (Or.inl rfl) (by rw [np_296]; rfl) (by rw [np_296]; rfl) (by rw [np_296]; exact Nat.le_of_ble_eq_true rfl) (Nat.le_of_ble_eq_true rfl) (c3  ) ?_
  show Bod _ _ _ _ [_, _] _ _ _
  refine Bod.put dc_337_60 fr_337_29 (mk_code hm (by first | exact hz7 | (simp only [rIS, rJS, rAS, rLS, rVS, rQS, rS_hold]; exact hz7))) (Nat.le_of_ble_eq_true rfl) pr_12_9 (st_code_9 hm (by first | exact hz7 | (simp only [rIS, rJS, rAS, rLS, rVS, rQS, rS_hold]; exact hz7))) (mu_V _ _ _) ?_
  refine Bod.go dc_337_63 rfl ?_
  refine Bod.go dc_337_64 rfl ?_
  refine Bod.get dc_337_65 fr_337_32 (mk_code hm (by first | exact hz7 | (simp only [rIS, rJS, rAS, rLS, rVS, rQS, rS_hold]; exact hz7))) rfl ?_
  refine Bod.eqV (.ref g3) (by first | exact hv8 | exact (if_neg (by omega)).trans hv8 | (simp only [rIV, rJV, rAV, rLV, rQV, rV, reduceIte, Nat.reduceEqDiff]; exact hv8)) ?_
  refine Bod.ic 2 (by decide) dc_337_68 ?_
  refine Bod.go dc_337_69 rfl ?_
  refine Bod.get dc_337_70 fr_337_54 (mk_code hm (by first | exact hz7 | (simp only [rIS, rJS, rAS, rLS, rVS, rQS, rS_hold]; exact hz7))) rfl ?_
  refine Bod.eqI (nI n113) (by first | (simp (disch := omega) only [rI, rIe, rA, rIA, rLA, rJA, rVI, rQI, rVA, rQA, upd_at,  rAI, rLI, rJI, nI_add, pk_sub, kc_0, kc_1, kc_2, kc_3, kc_4, kc_5, reduceIte, Nat.reduceEqDiff, Nat.add_zero, rI_hold, rI_hold, rL_hold, hn11, hn111, hn112, hn113]; done) | (simp (disch := omega) only [rI, rIe, rA, rIA, rLA, rJA, rVI, rQI, rVA, rQA, upd_at,  rAI, rLI, rJI, nI_add, pk_sub, kc_0, kc_1, kc_2, kc_3, kc_4, kc_5, reduceIte, Nat.reduceEqDiff, Nat.add_zero, rI_hold, rI_hold, rL_hold, hn11, hn111, hn112, hn113]; exact congrArg nI (by omega))) ?_
  refine Bod.mulN (2 * n113) (by omega) dc_337_73 ?_
  refine Bod.stat (r := [_]) dc_337_74 kr_337_39 (Or.inl rfl) (by rw [np_296]; rfl) (by rw [np_296]; rfl) (by rw [np_296]; exact Nat.le_of_ble_eq_true rfl) (Nat.le_of_ble_eq_true rfl) (c4  ) ?_
  show Bod _ _ _ _ [_, _] _ _ _
  refine Bod.put dc_337_77 fr_337_32 (mk_code hm (by first | exact hz9 | (simp only [rIS, rJS, rAS, rLS, rVS, rQS, rS_hold]; exact hz9))) (Nat.le_of_ble_eq_true rfl) pr_12_10 (st_code_10 hm (by first | exact hz9 | (simp only [rIS, rJS, rAS, rLS, rVS, rQS, rS_hold]; exact hz9))) (mu_V _ _ _) ?_
  exact hB _ (by first | rfl | exact (by repeat (first | exact rfl | exact sm_get_p1 | exact sm_get_p2e | refine sm_get_p1m (by decide) (by decide) ?_ | refine sm_get_p1n (by decide) rfl ?_ | refine sm_get_p2n (by decide) (by decide) rfl ?_))) (by first | rfl | exact (by repeat (first | exact rfl | exact sm_get_p1 | exact sm_get_p2e | refine sm_get_p1m (by decide) (by decide) ?_ | refine sm_get_p1n (by decide) rfl ?_ | refine sm_get_p2n (by decide) (by decide) rfl ?_)))
theorem zCe_1 {d m u : Nat} (hm : 108 ≤ m) {S : cS} {lv : sm_L} {lx : Int32} {g : Nat} {N : Nat} {n11 : Nat} (q0 : sm_get lv 0 = some (.ref m)) (q1 : sm_get lv 1 = some (.int lx)) (hz1 : (sS S)[m - 108]? = some (12, u)) (hv2 : sV S (100 * m + 7) = .ref g) (hg2 : isK S g 0 N) (mN : N < 2 ^ 20) (hn11 : sI S (100 * m + 11) = nI n11) (mn11 : n11 < 2 ^ 20) (b1 : n11 < N) (b2 : 1 ≤ n11 + 1) : Bod (d + 8) 337 80 lv [] S (some (.int (nI n11))) (wI (100 * m + 11) (nI (n11 + 1)) (wA g n11 lx S)) := by
  refine Bod.aldnG dc_337_80 (by repeat (first | exact q0 | exact sm_get_p1 | exact sm_get_p2e | refine sm_get_p1m (by decide) (by decide) ?_ | refine sm_get_p1n (by decide) rfl ?_ | refine sm_get_p2n (by decide) (by decide) rfl ?_)) ?_
  refine Bod.get dc_337_81 fr_337_23 (mk_code hm (by first | exact hz1 | (simp only [rIS, rJS, rAS, rLS, rVS, rQS, rS_hold]; exact hz1))) rfl ?_
  refine Bod.eqV (.ref g) (by first | exact hv2 | exact (if_neg (by omega)).trans hv2 | (simp only [rIV, rJV, rAV, rLV, rQV, rV, reduceIte, Nat.reduceEqDiff]; exact hv2)) ?_
  refine Bod.aldnG dc_337_84 (by repeat (first | exact q0 | exact sm_get_p1 | exact sm_get_p2e | refine sm_get_p1m (by decide) (by decide) ?_ | refine sm_get_p1n (by decide) rfl ?_ | refine sm_get_p2n (by decide) (by decide) rfl ?_)) ?_
  refine Bod.get dc_337_85 fr_337_54 (mk_code hm (by first | exact hz1 | (simp only [rIS, rJS, rAS, rLS, rVS, rQS, rS_hold]; exact hz1))) rfl ?_
  refine Bod.eqI (nI n11) (by first | assumption | rfl | exact congrArg nI (by omega) | (simp (disch := omega) only [rI, rIe, rA, rIA, rLA, rJA, rVI, rQI, rVA, rQA, upd_at,  rAI, rLI, rJI, nI_add, pk_sub, kc_0, kc_1, kc_2, kc_3, kc_4, kc_5, reduceIte, Nat.reduceEqDiff, Nat.add_zero, rI_hold, rI_hold, rL_hold, hn11]; done)) ?_
  refine Bod.ildnG dc_337_88 (by repeat (first | exact q1 | exact sm_get_p1 | exact sm_get_p2e | refine sm_get_p1m (by decide) (by decide) ?_ | refine sm_get_p1n (by decide) rfl ?_ | refine sm_get_p2n (by decide) (by decide) rfl ?_)) ?_
  refine Bod.iastN (N := N) n11 rfl (by omega) (by omega) dc_337_89 (mk_isI (by first | exact hg2 | exact isK_S (by simp only [rIS, rJS, rAS, rLS, rVS, rQS, rS_hold]) hg2)) (sa_isI (by first | exact hg2 | exact isK_S (by simp only [rIS, rJS, rAS, rLS, rVS, rQS, rS_hold]) hg2)) (mu_A _ _ _ _) ?_
  refine Bod.aldnG dc_337_90 (by repeat (first | exact q0 | exact sm_get_p1 | exact sm_get_p2e | refine sm_get_p1m (by decide) (by decide) ?_ | refine sm_get_p1n (by decide) rfl ?_ | refine sm_get_p2n (by decide) (by decide) rfl ?_)) ?_
  refine Bod.go dc_337_91 rfl ?_
  refine Bod.get dc_337_92 fr_337_54 (mk_code hm (by first | exact hz1 | (simp only [rIS, rJS, rAS, rLS, rVS, rQS, rS_hold]; exact hz1))) rfl ?_
  refine Bod.eqI (nI n11) (by first | (simp (disch := omega) only [rI, rIe, rA, rIA, rLA, rJA, rVI, rQI, rVA, rQA, upd_at,  rAI, rLI, rJI, nI_add, pk_sub, kc_0, kc_1, kc_2, kc_3, kc_4, kc_5, reduceIte, Nat.reduceEqDiff, Nat.add_zero, rI_hold, rI_hold, rL_hold, hn11]; done) | (simp (disch := omega) only [rI, rIe, rA, rIA, rLA, rJA, rVI, rQI, rVA, rQA, upd_at,  rAI, rLI, rJI, nI_add, pk_sub, kc_0, kc_1, kc_2, kc_3, kc_4, kc_5, reduceIte, Nat.reduceEqDiff, Nat.add_zero, rI_hold, rI_hold, rL_hold, hn11]; exact congrArg nI (by omega))) ?_
  refine Bod.ic 1 (by decide) dc_337_95 ?_
  refine Bod.addN (n11 + 1) (by omega) dc_337_96 ?_
  refine Bod.put dc_337_97 fr_337_54 (mk_code hm (by first | exact hz1 | (simp only [rIS, rJS, rAS, rLS, rVS, rQS, rS_hold]; exact hz1))) (Nat.le_of_ble_eq_true rfl) pf_12_11 (st_code_11 hm (by first | exact hz1 | (simp only [rIS, rJS, rAS, rLS, rVS, rQS, rS_hold]; exact hz1))) (mu_I _ _ _) ?_
  refine Bod.aldnG dc_337_100 (by repeat (first | exact q0 | exact sm_get_p1 | exact sm_get_p2e | refine sm_get_p1m (by decide) (by decide) ?_ | refine sm_get_p1n (by decide) rfl ?_ | refine sm_get_p2n (by decide) (by decide) rfl ?_)) ?_
  refine Bod.get dc_337_101 fr_337_54 (mk_code hm (by first | exact hz1 | (simp only [rIS, rJS, rAS, rLS, rVS, rQS, rS_hold]; exact hz1))) rfl ?_
  refine Bod.eqI (nI (n11 + 1)) (by first | (simp (disch := omega) only [rI, rIe, rA, rIA, rLA, rJA, rVI, rQI, rVA, rQA, upd_at,  rAI, rLI, rJI, nI_add, pk_sub, kc_0, kc_1, kc_2, kc_3, kc_4, kc_5, reduceIte, Nat.reduceEqDiff, Nat.add_zero, rI_hold, rI_hold, rL_hold, hn11]; done) | (simp (disch := omega) only [rI, rIe, rA, rIA, rLA, rJA, rVI, rQI, rVA, rQA, upd_at,  rAI, rLI, rJI, nI_add, pk_sub, kc_0, kc_1, kc_2, kc_3, kc_4, kc_5, reduceIte, Nat.reduceEqDiff, Nat.add_zero, rI_hold, rI_hold, rL_hold, hn11]; exact congrArg nI (by omega))) ?_
  refine Bod.ic 1 (by decide) dc_337_104 ?_
  refine Bod.subN n11 (by omega) (by omega) dc_337_105 ?_
  exact Bod.retI dc_337_106 rt_337
