/-! WAYS of the reference's machine: every call is a hypothesis -/
theorem ml_376 : sm_ml 376 = 3 := by decide +kernel
theorem dc_376_0 : decode (sm_cc 376) 0 = .ok (.iload_n 1, 1) := by decide +kernel
theorem dc_376_1 : decode (sm_cc 376) 1 = .ok (.aload_n 0, 1) := by decide +kernel
theorem dc_376_2 : decode (sm_cc 376) 2 = .ok (.getfield 7, 3) := by decide +kernel
theorem fr_376_7 : sm_at mt_f (sm_ow 376) 7 = some (7, 13, 2, 0, 2773) := by decide +kernel
theorem dc_376_5 : decode (sm_cc 376) 5 = .ok (.arraylength, 1) := by decide +kernel
theorem dc_376_6 : decode (sm_cc 376) 6 = .ok (.if_icmp .gt (4), 3) := by decide +kernel
theorem dc_376_10 : decode (sm_cc 376) 10 = .ok (.iload_n 1, 1) := by decide +kernel
theorem dc_376_11 : decode (sm_cc 376) 11 = .ok (.bipush (32), 2) := by decide +kernel
theorem dc_376_13 : decode (sm_cc 376) 13 = .ok (.if_icmp .gt (8), 3) := by decide +kernel
theorem dc_376_21 : decode (sm_cc 376) 21 = .ok (.iload_n 1, 1) := by decide +kernel
theorem dc_376_22 : decode (sm_cc 376) 22 = .ok (.sipush (304), 3) := by decide +kernel
theorem dc_376_25 : decode (sm_cc 376) 25 = .ok (.if_icmp .gt (9), 3) := by decide +kernel
theorem dc_376_34 : decode (sm_cc 376) 34 = .ok (.iconst 2, 1) := by decide +kernel
theorem dc_376_35 : decode (sm_cc 376) 35 = .ok (.iload_n 1, 1) := by decide +kernel
theorem dc_376_36 : decode (sm_cc 376) 36 = .ok (.imul, 1) := by decide +kernel
theorem dc_376_37 : decode (sm_cc 376) 37 = .ok (.istore_n 2, 1) := by decide +kernel
theorem dc_376_38 : decode (sm_cc 376) 38 = .ok (.aload_n 0, 1) := by decide +kernel
theorem dc_376_39 : decode (sm_cc 376) 39 = .ok (.aload_n 0, 1) := by decide +kernel
theorem dc_376_40 : decode (sm_cc 376) 40 = .ok (.getfield 7, 3) := by decide +kernel
theorem dc_376_43 : decode (sm_cc 376) 43 = .ok (.iload_n 2, 1) := by decide +kernel
theorem dc_376_44 : decode (sm_cc 376) 44 = .ok (.invokestatic 29, 3) := by decide +kernel
theorem kr_376_29 : sm_at mt_k (sm_ow 376) 29 = some (29, 2, 296, 0, 2825) := by decide +kernel
theorem dc_376_47 : decode (sm_cc 376) 47 = .ok (.putfield 7, 3) := by decide +kernel
theorem dc_376_50 : decode (sm_cc 376) 50 = .ok (.aload_n 0, 1) := by decide +kernel
theorem dc_376_51 : decode (sm_cc 376) 51 = .ok (.aload_n 0, 1) := by decide +kernel
theorem dc_376_52 : decode (sm_cc 376) 52 = .ok (.getfield 16, 3) := by decide +kernel
theorem fr_376_16 : sm_at mt_f (sm_ow 376) 16 = some (16, 13, 4, 0, 2777) := by decide +kernel
theorem dc_376_55 : decode (sm_cc 376) 55 = .ok (.iload_n 2, 1) := by decide +kernel
theorem dc_376_56 : decode (sm_cc 376) 56 = .ok (.invokestatic 35, 3) := by decide +kernel
theorem kr_376_35 : sm_at mt_k (sm_ow 376) 35 = some (35, 2, 186, 0, 2826) := by decide +kernel
theorem dc_376_59 : decode (sm_cc 376) 59 = .ok (.putfield 16, 3) := by decide +kernel
theorem dc_376_62 : decode (sm_cc 376) 62 = .ok (.aload_n 0, 1) := by decide +kernel
theorem dc_376_63 : decode (sm_cc 376) 63 = .ok (.aload_n 0, 1) := by decide +kernel
theorem dc_376_64 : decode (sm_cc 376) 64 = .ok (.getfield 20, 3) := by decide +kernel
theorem fr_376_20 : sm_at mt_f (sm_ow 376) 20 = some (20, 13, 5, 0, 2779) := by decide +kernel
theorem dc_376_67 : decode (sm_cc 376) 67 = .ok (.iload_n 2, 1) := by decide +kernel
theorem dc_376_68 : decode (sm_cc 376) 68 = .ok (.invokestatic 35, 3) := by decide +kernel
theorem dc_376_71 : decode (sm_cc 376) 71 = .ok (.putfield 20, 3) := by decide +kernel
theorem dc_376_74 : decode (sm_cc 376) 74 = .ok (.return_, 1) := by decide +kernel
theorem rt_376 : sm_rt 376 = none := by decide +kernel
theorem dc_376_28 : decode (sm_cc 376) 28 = .ok (.sipush (304), 3) := by decide +kernel
theorem dc_376_31 : decode (sm_cc 376) 31 = .ok (.goto (6), 3) := by decide +kernel
theorem dc_376_16 : decode (sm_cc 376) 16 = .ok (.bipush (32), 2) := by decide +kernel
theorem dc_376_18 : decode (sm_cc 376) 18 = .ok (.goto (19), 3) := by decide +kernel
theorem dc_376_9 : decode (sm_cc 376) 9 = .ok (.return_, 1) := by decide +kernel
theorem ml_378 : sm_ml 378 = 3 := by decide +kernel
theorem dc_378_0 : decode (sm_cc 378) 0 = .ok (.iload_n 1, 1) := by decide +kernel
theorem dc_378_1 : decode (sm_cc 378) 1 = .ok (.aload_n 0, 1) := by decide +kernel
theorem dc_378_2 : decode (sm_cc 378) 2 = .ok (.getfield 13, 3) := by decide +kernel
theorem fr_378_13 : sm_at mt_f (sm_ow 378) 13 = some (13, 13, 3, 0, 2775) := by decide +kernel
theorem dc_378_5 : decode (sm_cc 378) 5 = .ok (.arraylength, 1) := by decide +kernel
theorem dc_378_6 : decode (sm_cc 378) 6 = .ok (.if_icmp .gt (4), 3) := by decide +kernel
theorem dc_378_10 : decode (sm_cc 378) 10 = .ok (.iload_n 1, 1) := by decide +kernel
theorem dc_378_11 : decode (sm_cc 378) 11 = .ok (.bipush (32), 2) := by decide +kernel
theorem dc_378_13 : decode (sm_cc 378) 13 = .ok (.if_icmp .gt (8), 3) := by decide +kernel
theorem dc_378_21 : decode (sm_cc 378) 21 = .ok (.iload_n 1, 1) := by decide +kernel
theorem dc_378_22 : decode (sm_cc 378) 22 = .ok (.bipush (104), 2) := by decide +kernel
theorem dc_378_24 : decode (sm_cc 378) 24 = .ok (.if_icmp .gt (8), 3) := by decide +kernel
theorem dc_378_32 : decode (sm_cc 378) 32 = .ok (.iconst 2, 1) := by decide +kernel
theorem dc_378_33 : decode (sm_cc 378) 33 = .ok (.iload_n 1, 1) := by decide +kernel
theorem dc_378_34 : decode (sm_cc 378) 34 = .ok (.imul, 1) := by decide +kernel
theorem dc_378_35 : decode (sm_cc 378) 35 = .ok (.istore_n 2, 1) := by decide +kernel
theorem dc_378_36 : decode (sm_cc 378) 36 = .ok (.aload_n 0, 1) := by decide +kernel
theorem dc_378_37 : decode (sm_cc 378) 37 = .ok (.aload_n 0, 1) := by decide +kernel
theorem dc_378_38 : decode (sm_cc 378) 38 = .ok (.getfield 13, 3) := by decide +kernel
theorem dc_378_41 : decode (sm_cc 378) 41 = .ok (.iload_n 2, 1) := by decide +kernel
theorem dc_378_42 : decode (sm_cc 378) 42 = .ok (.invokestatic 29, 3) := by decide +kernel
theorem kr_378_29 : sm_at mt_k (sm_ow 378) 29 = some (29, 2, 296, 0, 2825) := by decide +kernel
theorem dc_378_45 : decode (sm_cc 378) 45 = .ok (.putfield 13, 3) := by decide +kernel
theorem dc_378_48 : decode (sm_cc 378) 48 = .ok (.aload_n 0, 1) := by decide +kernel
theorem dc_378_49 : decode (sm_cc 378) 49 = .ok (.aload_n 0, 1) := by decide +kernel
theorem dc_378_50 : decode (sm_cc 378) 50 = .ok (.getfield 23, 3) := by decide +kernel
theorem fr_378_23 : sm_at mt_f (sm_ow 378) 23 = some (23, 13, 6, 0, 2781) := by decide +kernel
theorem dc_378_53 : decode (sm_cc 378) 53 = .ok (.iload_n 2, 1) := by decide +kernel
theorem dc_378_54 : decode (sm_cc 378) 54 = .ok (.invokestatic 35, 3) := by decide +kernel
theorem kr_378_35 : sm_at mt_k (sm_ow 378) 35 = some (35, 2, 186, 0, 2826) := by decide +kernel
theorem dc_378_57 : decode (sm_cc 378) 57 = .ok (.putfield 23, 3) := by decide +kernel
theorem dc_378_60 : decode (sm_cc 378) 60 = .ok (.aload_n 0, 1) := by decide +kernel
theorem dc_378_61 : decode (sm_cc 378) 61 = .ok (.aload_n 0, 1) := by decide +kernel
theorem dc_378_62 : decode (sm_cc 378) 62 = .ok (.getfield 26, 3) := by decide +kernel
theorem fr_378_26 : sm_at mt_f (sm_ow 378) 26 = some (26, 13, 7, 0, 2783) := by decide +kernel
theorem dc_378_65 : decode (sm_cc 378) 65 = .ok (.iload_n 2, 1) := by decide +kernel
theorem dc_378_66 : decode (sm_cc 378) 66 = .ok (.invokestatic 35, 3) := by decide +kernel
theorem dc_378_69 : decode (sm_cc 378) 69 = .ok (.putfield 26, 3) := by decide +kernel
theorem dc_378_72 : decode (sm_cc 378) 72 = .ok (.return_, 1) := by decide +kernel
theorem rt_378 : sm_rt 378 = none := by decide +kernel
theorem dc_378_27 : decode (sm_cc 378) 27 = .ok (.bipush (104), 2) := by decide +kernel
theorem dc_378_29 : decode (sm_cc 378) 29 = .ok (.goto (6), 3) := by decide +kernel
theorem dc_378_16 : decode (sm_cc 378) 16 = .ok (.bipush (32), 2) := by decide +kernel
theorem dc_378_18 : decode (sm_cc 378) 18 = .ok (.goto (17), 3) := by decide +kernel
theorem dc_378_9 : decode (sm_cc 378) 9 = .ok (.return_, 1) := by decide +kernel
theorem ml_394 : sm_ml 394 = 4 := by decide +kernel
theorem dc_394_0 : decode (sm_cc 394) 0 = .ok (.iconst 0, 1) := by decide +kernel
theorem dc_394_1 : decode (sm_cc 394) 1 = .ok (.istore_n 2, 1) := by decide +kernel
theorem dc_394_2 : decode (sm_cc 394) 2 = .ok (.aload_n 0, 1) := by decide +kernel
theorem dc_394_3 : decode (sm_cc 394) 3 = .ok (.arraylength, 1) := by decide +kernel
theorem dc_394_4 : decode (sm_cc 394) 4 = .ok (.istore_n 3, 1) := by decide +kernel
theorem dc_394_5 : decode (sm_cc 394) 5 = .ok (.iload_n 2, 1) := by decide +kernel
theorem dc_394_6 : decode (sm_cc 394) 6 = .ok (.iload_n 3, 1) := by decide +kernel
theorem dc_394_7 : decode (sm_cc 394) 7 = .ok (.if_icmp .ge (13), 3) := by decide +kernel
theorem dc_394_20 : decode (sm_cc 394) 20 = .ok (.return_, 1) := by decide +kernel
theorem rt_394 : sm_rt 394 = none := by decide +kernel
theorem dc_394_10 : decode (sm_cc 394) 10 = .ok (.aload_n 0, 1) := by decide +kernel
theorem dc_394_11 : decode (sm_cc 394) 11 = .ok (.iload_n 2, 1) := by decide +kernel
theorem dc_394_12 : decode (sm_cc 394) 12 = .ok (.iload_n 1, 1) := by decide +kernel
theorem dc_394_13 : decode (sm_cc 394) 13 = .ok (.bastore, 1) := by decide +kernel
theorem dc_394_14 : decode (sm_cc 394) 14 = .ok (.iinc 2 (1), 3) := by decide +kernel
theorem dc_394_17 : decode (sm_cc 394) 17 = .ok (.goto (-12), 3) := by decide +kernel
theorem rRm_1 {d : Nat} {S : cS} {g : Nat} {zg : Nat} {q : Nat} {r : Nat} {N : Nat} {S1 : cS} {z : Nat} {r1 : Nat} {N1 : Nat} {S2 : cS} {z1 : Nat} {r2 : Nat} {N2 : Nat} {S3 : cS} {z2 : Nat} (mq : q < 2 ^ 20) (ag : 108 ≤ g) (hz1 : (sS S)[g - 108]? = some (13, zg)) (hv1 : sV S (100 * g + 2) = .ref r) (hg1 : isK S r 0 N) (mN : N < 2 ^ 20) (b1 : N < q) (b2 : 32 < q) (b3 : 304 < q) (c1 : Ans (d + 8) 296 [.ref r, .int (nI (2 * q))] S (some (.ref z)) S1) (hz2 : (sS S1)[g - 108]? = some (13, zg)) (hv2 : sV S1 (100 * g + 4) = .ref r1) (hg2 : isK S1 r1 1 N1) (mN1 : N1 < 2 ^ 20) (c2 : Ans (d + 8) 186 [.ref r1, .int (nI (2 * q))] (wV (100 * g + 2) (.ref z) S1) (some (.ref z1)) S2) (hz3 : (sS S2)[g - 108]? = some (13, zg)) (hv3 : sV S2 (100 * g + 5) = .ref r2) (hg3 : isK S2 r2 1 N2) (mN2 : N2 < 2 ^ 20) (c3 : Ans (d + 8) 186 [.ref r2, .int (nI (2 * q))] (wV (100 * g + 4) (.ref z1) S2) (some (.ref z2)) S3) (hz4 : (sS S3)[g - 108]? = some (13, zg)) : Bod (d + 8) 376 0 [(0, .ref g), (1, .int (nI q))] [] S none (wV (100 * g + 5) (.ref z2) S3) := by
  refine Bod.go dc_376_0 rfl ?_
  refine Bod.go dc_376_1 rfl ?_
  refine Bod.get dc_376_2 fr_376_7 (mk_thing ag (by first | exact hz1 | (simp only [rIS, rJS, rAS, rLS, rVS, rQS, rS_hold]; exact hz1))) rfl ?_
  refine Bod.eqV (.ref r) (by first | exact hv1 | (simp only [rIV, rJV, rAV, rLV, rQV, rV, reduceIte, Nat.reduceEqDiff]; exact hv1) | (simp only [rIV, rJV, rAV, rLV, rQV, rV]; repeat rw [if_neg (by omega)]; exact hv1)) ?_
  refine Bod.alenN (N := N) dc_376_5 (mk_isI (by first | exact hg1 | exact isK_S (by simp only [rIS, rJS, rAS, rLS, rVS, rQS, rS_hold]) hg1)) el_0 ?_
  refine Bod.icT dc_376_6 rfl (k2_gt_T q N rfl rfl (by omega) (by omega)) ?_
  refine Bod.go dc_376_10 rfl ?_
  refine Bod.bip 32 (by decide) dc_376_11 ?_
  refine Bod.icT dc_376_13 rfl (k2_gt_T q 32 rfl rfl (by omega) (by omega)) ?_
  refine Bod.go dc_376_21 rfl ?_
  refine Bod.sip 304 (by decide) dc_376_22 ?_
  refine Bod.icT dc_376_25 rfl (k2_gt_T q 304 rfl rfl (by omega) (by omega)) ?_
  refine Bod.ic 2 (by decide) dc_376_34 ?_
  refine Bod.go dc_376_35 rfl ?_
  refine Bod.mulN (2 * q) (by omega) dc_376_36 ?_
  refine Bod.istn dc_376_37 (by rw [ml_376]; exact Nat.le_of_ble_eq_true rfl) ?_
  refine Bod.go dc_376_38 rfl ?_
  refine Bod.go dc_376_39 rfl ?_
  refine Bod.get dc_376_40 fr_376_7 (mk_thing ag (by first | exact hz1 | (simp only [rIS, rJS, rAS, rLS, rVS, rQS, rS_hold]; exact hz1))) rfl ?_
  refine Bod.eqV (.ref r) (by first | exact hv1 | (simp only [rIV, rJV, rAV, rLV, rQV, rV, reduceIte, Nat.reduceEqDiff]; exact hv1) | (simp only [rIV, rJV, rAV, rLV, rQV, rV]; repeat rw [if_neg (by omega)]; exact hv1)) ?_
  refine Bod.go dc_376_43 rfl ?_
  refine Bod.stat (r := [_]) dc_376_44 kr_376_29 (Or.inl rfl) (by rw [np_296]; rfl) (by rw [np_296]; rfl) (by rw [np_296]; exact Nat.le_of_ble_eq_true rfl) (Nat.le_of_ble_eq_true rfl) (c1  ) ?_
  show Bod _ _ _ _ [_, _] _ _ _
  refine Bod.put dc_376_47 fr_376_7 (mk_thing ag (by first | exact hz2 | (simp only [rIS, rJS, rAS, rLS, rVS, rQS, rS_hold]; exact hz2))) (Nat.le_of_ble_eq_true rfl) pr_13_2 (st_thing_2 ag (by first | exact hz2 | (simp only [rIS, rJS, rAS, rLS, rVS, rQS, rS_hold]; exact hz2))) (mu_V _ _ _) ?_
  refine Bod.go dc_376_50 rfl ?_
  refine Bod.go dc_376_51 rfl ?_
  refine Bod.get dc_376_52 fr_376_16 (mk_thing ag (by first | exact hz2 | (simp only [rIS, rJS, rAS, rLS, rVS, rQS, rS_hold]; exact hz2))) rfl ?_
  refine Bod.eqV (.ref r1) (by first | exact hv2 | (simp only [rIV, rJV, rAV, rLV, rQV, rV, reduceIte, Nat.reduceEqDiff]; exact hv2) | (simp only [rIV, rJV, rAV, rLV, rQV, rV]; repeat rw [if_neg (by omega)]; exact hv2)) ?_
  refine Bod.go dc_376_55 rfl ?_
  refine Bod.stat (r := [_]) dc_376_56 kr_376_35 (Or.inl rfl) (by rw [np_186]; rfl) (by rw [np_186]; rfl) (by rw [np_186]; exact Nat.le_of_ble_eq_true rfl) (Nat.le_of_ble_eq_true rfl) (c2  ) ?_
  show Bod _ _ _ _ [_, _] _ _ _
  refine Bod.put dc_376_59 fr_376_16 (mk_thing ag (by first | exact hz3 | (simp only [rIS, rJS, rAS, rLS, rVS, rQS, rS_hold]; exact hz3))) (Nat.le_of_ble_eq_true rfl) pr_13_4 (st_thing_4 ag (by first | exact hz3 | (simp only [rIS, rJS, rAS, rLS, rVS, rQS, rS_hold]; exact hz3))) (mu_V _ _ _) ?_
  refine Bod.go dc_376_62 rfl ?_
  refine Bod.go dc_376_63 rfl ?_
  refine Bod.get dc_376_64 fr_376_20 (mk_thing ag (by first | exact hz3 | (simp only [rIS, rJS, rAS, rLS, rVS, rQS, rS_hold]; exact hz3))) rfl ?_
  refine Bod.eqV (.ref r2) (by first | exact hv3 | (simp only [rIV, rJV, rAV, rLV, rQV, rV, reduceIte, Nat.reduceEqDiff]; exact hv3) | (simp only [rIV, rJV, rAV, rLV, rQV, rV]; repeat rw [if_neg (by omega)]; exact hv3)) ?_
  refine Bod.go dc_376_67 rfl ?_
  refine Bod.stat (r := [_]) dc_376_68 kr_376_35 (Or.inl rfl) (by rw [np_186]; rfl) (by rw [np_186]; rfl) (by rw [np_186]; exact Nat.le_of_ble_eq_true rfl) (Nat.le_of_ble_eq_true rfl) (c3  ) ?_
  show Bod _ _ _ _ [_, _] _ _ _
  refine Bod.put dc_376_71 fr_376_20 (mk_thing ag (by first | exact hz4 | (simp only [rIS, rJS, rAS, rLS, rVS, rQS, rS_hold]; exact hz4))) (Nat.le_of_ble_eq_true rfl) pr_13_5 (st_thing_5 ag (by first | exact hz4 | (simp only [rIS, rJS, rAS, rLS, rVS, rQS, rS_hold]; exact hz4))) (mu_V _ _ _) ?_
  exact Bod.retV dc_376_74 rt_376
theorem rRm_2 {d : Nat} {S : cS} {g : Nat} {zg : Nat} {q : Nat} {r : Nat} {N : Nat} {S1 : cS} {z : Nat} {r1 : Nat} {N1 : Nat} {S2 : cS} {z1 : Nat} {r2 : Nat} {N2 : Nat} {S3 : cS} {z2 : Nat} (mq : q < 2 ^ 20) (ag : 108 ≤ g) (hz1 : (sS S)[g - 108]? = some (13, zg)) (hv1 : sV S (100 * g + 2) = .ref r) (hg1 : isK S r 0 N) (mN : N < 2 ^ 20) (b1 : N < q) (b2 : 32 < q) (b3 : q ≤ 304) (c1 : Ans (d + 8) 296 [.ref r, .int (nI 304)] S (some (.ref z)) S1) (hz2 : (sS S1)[g - 108]? = some (13, zg)) (hv2 : sV S1 (100 * g + 4) = .ref r1) (hg2 : isK S1 r1 1 N1) (mN1 : N1 < 2 ^ 20) (c2 : Ans (d + 8) 186 [.ref r1, .int (nI 304)] (wV (100 * g + 2) (.ref z) S1) (some (.ref z1)) S2) (hz3 : (sS S2)[g - 108]? = some (13, zg)) (hv3 : sV S2 (100 * g + 5) = .ref r2) (hg3 : isK S2 r2 1 N2) (mN2 : N2 < 2 ^ 20) (c3 : Ans (d + 8) 186 [.ref r2, .int (nI 304)] (wV (100 * g + 4) (.ref z1) S2) (some (.ref z2)) S3) (hz4 : (sS S3)[g - 108]? = some (13, zg)) : Bod (d + 8) 376 0 [(0, .ref g), (1, .int (nI q))] [] S none (wV (100 * g + 5) (.ref z2) S3) := by
  refine Bod.go dc_376_0 rfl ?_
  refine Bod.go dc_376_1 rfl ?_
  refine Bod.get dc_376_2 fr_376_7 (mk_thing ag (by first | exact hz1 | (simp only [rIS, rJS, rAS, rLS, rVS, rQS, rS_hold]; exact hz1))) rfl ?_
  refine Bod.eqV (.ref r) (by first | exact hv1 | (simp only [rIV, rJV, rAV, rLV, rQV, rV, reduceIte, Nat.reduceEqDiff]; exact hv1) | (simp only [rIV, rJV, rAV, rLV, rQV, rV]; repeat rw [if_neg (by omega)]; exact hv1)) ?_
  refine Bod.alenN (N := N) dc_376_5 (mk_isI (by first | exact hg1 | exact isK_S (by simp only [rIS, rJS, rAS, rLS, rVS, rQS, rS_hold]) hg1)) el_0 ?_
  refine Bod.icT dc_376_6 rfl (k2_gt_T q N rfl rfl (by omega) (by omega)) ?_
  refine Bod.go dc_376_10 rfl ?_
  refine Bod.bip 32 (by decide) dc_376_11 ?_
  refine Bod.icT dc_376_13 rfl (k2_gt_T q 32 rfl rfl (by omega) (by omega)) ?_
  refine Bod.go dc_376_21 rfl ?_
  refine Bod.sip 304 (by decide) dc_376_22 ?_
  refine Bod.icF dc_376_25 rfl (k2_gt_F q 304 rfl rfl (by omega) (by omega)) ?_
  refine Bod.sip 304 (by decide) dc_376_28 ?_
  refine Bod.go dc_376_31 rfl ?_
  refine Bod.istn dc_376_37 (by rw [ml_376]; exact Nat.le_of_ble_eq_true rfl) ?_
  refine Bod.go dc_376_38 rfl ?_
  refine Bod.go dc_376_39 rfl ?_
  refine Bod.get dc_376_40 fr_376_7 (mk_thing ag (by first | exact hz1 | (simp only [rIS, rJS, rAS, rLS, rVS, rQS, rS_hold]; exact hz1))) rfl ?_
  refine Bod.eqV (.ref r) (by first | exact hv1 | (simp only [rIV, rJV, rAV, rLV, rQV, rV, reduceIte, Nat.reduceEqDiff]; exact hv1) | (simp only [rIV, rJV, rAV, rLV, rQV, rV]; repeat rw [if_neg (by omega)]; exact hv1)) ?_
  refine Bod.go dc_376_43 rfl ?_
  refine Bod.stat (r := [_]) dc_376_44 kr_376_29 (Or.inl rfl) (by rw [np_296]; rfl) (by rw [np_296]; rfl) (by rw [np_296]; exact Nat.le_of_ble_eq_true rfl) (Nat.le_of_ble_eq_true rfl) (c1  ) ?_
  show Bod _ _ _ _ [_, _] _ _ _
  refine Bod.put dc_376_47 fr_376_7 (mk_thing ag (by first | exact hz2 | (simp only [rIS, rJS, rAS, rLS, rVS, rQS, rS_hold]; exact hz2))) (Nat.le_of_ble_eq_true rfl) pr_13_2 (st_thing_2 ag (by first | exact hz2 | (simp only [rIS, rJS, rAS, rLS, rVS, rQS, rS_hold]; exact hz2))) (mu_V _ _ _) ?_
  refine Bod.go dc_376_50 rfl ?_
  refine Bod.go dc_376_51 rfl ?_
  refine Bod.get dc_376_52 fr_376_16 (mk_thing ag (by first | exact hz2 | (simp only [rIS, rJS, rAS, rLS, rVS, rQS, rS_hold]; exact hz2))) rfl ?_
  refine Bod.eqV (.ref r1) (by first | exact hv2 | (simp only [rIV, rJV, rAV, rLV, rQV, rV, reduceIte, Nat.reduceEqDiff]; exact hv2) | (simp only [rIV, rJV, rAV, rLV, rQV, rV]; repeat rw [if_neg (by omega)]; exact hv2)) ?_
  refine Bod.go dc_376_55 rfl ?_
  refine Bod.stat (r := [_]) dc_376_56 kr_376_35 (Or.inl rfl) (by rw [np_186]; rfl) (by rw [np_186]; rfl) (by rw [np_186]; exact Nat.le_of_ble_eq_true rfl) (Nat.le_of_ble_eq_true rfl) (c2  ) ?_
  show Bod _ _ _ _ [_, _] _ _ _
  refine Bod.put dc_376_59 fr_376_16 (mk_thing ag (by first | exact hz3 | (simp only [rIS, rJS, rAS, rLS, rVS, rQS, rS_hold]; exact hz3))) (Nat.le_of_ble_eq_true rfl) pr_13_4 (st_thing_4 ag (by first | exact hz3 | (simp only [rIS, rJS, rAS, rLS, rVS, rQS, rS_hold]; exact hz3))) (mu_V _ _ _) ?_
  refine Bod.go dc_376_62 rfl ?_
  refine Bod.go dc_376_63 rfl ?_
  refine Bod.get dc_376_64 fr_376_20 (mk_thing ag (by first | exact hz3 | (simp only [rIS, rJS, rAS, rLS, rVS, rQS, rS_hold]; exact hz3))) rfl ?_
  refine Bod.eqV (.ref r2) (by first | exact hv3 | (simp only [rIV, rJV, rAV, rLV, rQV, rV, reduceIte, Nat.reduceEqDiff]; exact hv3) | (simp only [rIV, rJV, rAV, rLV, rQV, rV]; repeat rw [if_neg (by omega)]; exact hv3)) ?_
  refine Bod.go dc_376_67 rfl ?_
  refine Bod.stat (r := [_]) dc_376_68 kr_376_35 (Or.inl rfl) (by rw [np_186]; rfl) (by rw [np_186]; rfl) (by rw [np_186]; exact Nat.le_of_ble_eq_true rfl) (Nat.le_of_ble_eq_true rfl) (c3  ) ?_
  show Bod _ _ _ _ [_, _] _ _ _
  refine Bod.put dc_376_71 fr_376_20 (mk_thing ag (by first | exact hz4 | (simp only [rIS, rJS, rAS, rLS, rVS, rQS, rS_hold]; exact hz4))) (Nat.le_of_ble_eq_true rfl) pr_13_5 (st_thing_5 ag (by first | exact hz4 | (simp only [rIS, rJS, rAS, rLS, rVS, rQS, rS_hold]; exact hz4))) (mu_V _ _ _) ?_
  exact Bod.retV dc_376_74 rt_376
theorem rRm_3 {d : Nat} {S : cS} {g : Nat} {zg : Nat} {q : Nat} {r : Nat} {N : Nat} {S1 : cS} {z : Nat} {r1 : Nat} {N1 : Nat} {S2 : cS} {z1 : Nat} {r2 : Nat} {N2 : Nat} {S3 : cS} {z2 : Nat} (mq : q < 2 ^ 20) (ag : 108 ≤ g) (hz1 : (sS S)[g - 108]? = some (13, zg)) (hv1 : sV S (100 * g + 2) = .ref r) (hg1 : isK S r 0 N) (mN : N < 2 ^ 20) (b1 : N < q) (b2 : q ≤ 32) (c1 : Ans (d + 8) 296 [.ref r, .int (nI 32)] S (some (.ref z)) S1) (hz2 : (sS S1)[g - 108]? = some (13, zg)) (hv2 : sV S1 (100 * g + 4) = .ref r1) (hg2 : isK S1 r1 1 N1) (mN1 : N1 < 2 ^ 20) (c2 : Ans (d + 8) 186 [.ref r1, .int (nI 32)] (wV (100 * g + 2) (.ref z) S1) (some (.ref z1)) S2) (hz3 : (sS S2)[g - 108]? = some (13, zg)) (hv3 : sV S2 (100 * g + 5) = .ref r2) (hg3 : isK S2 r2 1 N2) (mN2 : N2 < 2 ^ 20) (c3 : Ans (d + 8) 186 [.ref r2, .int (nI 32)] (wV (100 * g + 4) (.ref z1) S2) (some (.ref z2)) S3) (hz4 : (sS S3)[g - 108]? = some (13, zg)) : Bod (d + 8) 376 0 [(0, .ref g), (1, .int (nI q))] [] S none (wV (100 * g + 5) (.ref z2) S3) := by
  refine Bod.go dc_376_0 rfl ?_
  refine Bod.go dc_376_1 rfl ?_
  refine Bod.get dc_376_2 fr_376_7 (mk_thing ag (by first | exact hz1 | (simp only [rIS, rJS, rAS, rLS, rVS, rQS, rS_hold]; exact hz1))) rfl ?_
  refine Bod.eqV (.ref r) (by first | exact hv1 | (simp only [rIV, rJV, rAV, rLV, rQV, rV, reduceIte, Nat.reduceEqDiff]; exact hv1) | (simp only [rIV, rJV, rAV, rLV, rQV, rV]; repeat rw [if_neg (by omega)]; exact hv1)) ?_
  refine Bod.alenN (N := N) dc_376_5 (mk_isI (by first | exact hg1 | exact isK_S (by simp only [rIS, rJS, rAS, rLS, rVS, rQS, rS_hold]) hg1)) el_0 ?_
  refine Bod.icT dc_376_6 rfl (k2_gt_T q N rfl rfl (by omega) (by omega)) ?_
  refine Bod.go dc_376_10 rfl ?_
  refine Bod.bip 32 (by decide) dc_376_11 ?_
  refine Bod.icF dc_376_13 rfl (k2_gt_F q 32 rfl rfl (by omega) (by omega)) ?_
  refine Bod.bip 32 (by decide) dc_376_16 ?_
  refine Bod.go dc_376_18 rfl ?_
  refine Bod.istn dc_376_37 (by rw [ml_376]; exact Nat.le_of_ble_eq_true rfl) ?_
  refine Bod.go dc_376_38 rfl ?_
  refine Bod.go dc_376_39 rfl ?_
  refine Bod.get dc_376_40 fr_376_7 (mk_thing ag (by first | exact hz1 | (simp only [rIS, rJS, rAS, rLS, rVS, rQS, rS_hold]; exact hz1))) rfl ?_
  refine Bod.eqV (.ref r) (by first | exact hv1 | (simp only [rIV, rJV, rAV, rLV, rQV, rV, reduceIte, Nat.reduceEqDiff]; exact hv1) | (simp only [rIV, rJV, rAV, rLV, rQV, rV]; repeat rw [if_neg (by omega)]; exact hv1)) ?_
  refine Bod.go dc_376_43 rfl ?_
  refine Bod.stat (r := [_]) dc_376_44 kr_376_29 (Or.inl rfl) (by rw [np_296]; rfl) (by rw [np_296]; rfl) (by rw [np_296]; exact Nat.le_of_ble_eq_true rfl) (Nat.le_of_ble_eq_true rfl) (c1  ) ?_
  show Bod _ _ _ _ [_, _] _ _ _
  refine Bod.put dc_376_47 fr_376_7 (mk_thing ag (by first | exact hz2 | (simp only [rIS, rJS, rAS, rLS, rVS, rQS, rS_hold]; exact hz2))) (Nat.le_of_ble_eq_true rfl) pr_13_2 (st_thing_2 ag (by first | exact hz2 | (simp only [rIS, rJS, rAS, rLS, rVS, rQS, rS_hold]; exact hz2))) (mu_V _ _ _) ?_
  refine Bod.go dc_376_50 rfl ?_
  refine Bod.go dc_376_51 rfl ?_
  refine Bod.get dc_376_52 fr_376_16 (mk_thing ag (by first | exact hz2 | (simp only [rIS, rJS, rAS, rLS, rVS, rQS, rS_hold]; exact hz2))) rfl ?_
  refine Bod.eqV (.ref r1) (by first | exact hv2 | (simp only [rIV, rJV, rAV, rLV, rQV, rV, reduceIte, Nat.reduceEqDiff]; exact hv2) | (simp only [rIV, rJV, rAV, rLV, rQV, rV]; repeat rw [if_neg (by omega)]; exact hv2)) ?_
  refine Bod.go dc_376_55 rfl ?_
  refine Bod.stat (r := [_]) dc_376_56 kr_376_35 (Or.inl rfl) (by rw [np_186]; rfl) (by rw [np_186]; rfl) (by rw [np_186]; exact Nat.le_of_ble_eq_true rfl) (Nat.le_of_ble_eq_true rfl) (c2  ) ?_
  show Bod _ _ _ _ [_, _] _ _ _
  refine Bod.put dc_376_59 fr_376_16 (mk_thing ag (by first | exact hz3 | (simp only [rIS, rJS, rAS, rLS, rVS, rQS, rS_hold]; exact hz3))) (Nat.le_of_ble_eq_true rfl) pr_13_4 (st_thing_4 ag (by first | exact hz3 | (simp only [rIS, rJS, rAS, rLS, rVS, rQS, rS_hold]; exact hz3))) (mu_V _ _ _) ?_
  refine Bod.go dc_376_62 rfl ?_
  refine Bod.go dc_376_63 rfl ?_
  refine Bod.get dc_376_64 fr_376_20 (mk_thing ag (by first | exact hz3 | (simp only [rIS, rJS, rAS, rLS, rVS, rQS, rS_hold]; exact hz3))) rfl ?_
  refine Bod.eqV (.ref r2) (by first | exact hv3 | (simp only [rIV, rJV, rAV, rLV, rQV, rV, reduceIte, Nat.reduceEqDiff]; exact hv3) | (simp only [rIV, rJV, rAV, rLV, rQV, rV]; repeat rw [if_neg (by omega)]; exact hv3)) ?_
  refine Bod.go dc_376_67 rfl ?_
  refine Bod.stat (r := [_]) dc_376_68 kr_376_35 (Or.inl rfl) (by rw [np_186]; rfl) (by rw [np_186]; rfl) (by rw [np_186]; exact Nat.le_of_ble_eq_true rfl) (Nat.le_of_ble_eq_true rfl) (c3  ) ?_
  show Bod _ _ _ _ [_, _] _ _ _
  refine Bod.put dc_376_71 fr_376_20 (mk_thing ag (by first | exact hz4 | (simp only [rIS, rJS, rAS, rLS, rVS, rQS, rS_hold]; exact hz4))) (Nat.le_of_ble_eq_true rfl) pr_13_5 (st_thing_5 ag (by first | exact hz4 | (simp only [rIS, rJS, rAS, rLS, rVS, rQS, rS_hold]; exact hz4))) (mu_V _ _ _) ?_
  exact Bod.retV dc_376_74 rt_376
theorem rRm_4 {d : Nat} {S : cS} {g : Nat} {zg : Nat} {q : Nat} {r : Nat} {N : Nat} (mq : q < 2 ^ 20) (ag : 108 ≤ g) (hz1 : (sS S)[g - 108]? = some (13, zg)) (hv1 : sV S (100 * g + 2) = .ref r) (hg1 : isK S r 0 N) (mN : N < 2 ^ 20) (b1 : q ≤ N) : Bod (d + 8) 376 0 [(0, .ref g), (1, .int (nI q))] [] S none (S) := by
  refine Bod.go dc_376_0 rfl ?_
  refine Bod.go dc_376_1 rfl ?_
  refine Bod.get dc_376_2 fr_376_7 (mk_thing ag (by first | exact hz1 | (simp only [rIS, rJS, rAS, rLS, rVS, rQS, rS_hold]; exact hz1))) rfl ?_
  refine Bod.eqV (.ref r) (by first | exact hv1 | (simp only [rIV, rJV, rAV, rLV, rQV, rV, reduceIte, Nat.reduceEqDiff]; exact hv1) | (simp only [rIV, rJV, rAV, rLV, rQV, rV]; repeat rw [if_neg (by omega)]; exact hv1)) ?_
  refine Bod.alenN (N := N) dc_376_5 (mk_isI (by first | exact hg1 | exact isK_S (by simp only [rIS, rJS, rAS, rLS, rVS, rQS, rS_hold]) hg1)) el_0 ?_
  refine Bod.icF dc_376_6 rfl (k2_gt_F q N rfl rfl (by omega) (by omega)) ?_
  exact Bod.retV dc_376_9 rt_376
theorem rKr_1 {d : Nat} {S : cS} {g : Nat} {zg : Nat} {q : Nat} {r : Nat} {N : Nat} {S1 : cS} {z : Nat} {r1 : Nat} {N1 : Nat} {S2 : cS} {z1 : Nat} {r2 : Nat} {N2 : Nat} {S3 : cS} {z2 : Nat} (mq : q < 2 ^ 20) (ag : 108 ≤ g) (hz1 : (sS S)[g - 108]? = some (13, zg)) (hv1 : sV S (100 * g + 3) = .ref r) (hg1 : isK S r 0 N) (mN : N < 2 ^ 20) (b1 : N < q) (b2 : 32 < q) (b3 : 104 < q) (c1 : Ans (d + 8) 296 [.ref r, .int (nI (2 * q))] S (some (.ref z)) S1) (hz2 : (sS S1)[g - 108]? = some (13, zg)) (hv2 : sV S1 (100 * g + 6) = .ref r1) (hg2 : isK S1 r1 1 N1) (mN1 : N1 < 2 ^ 20) (c2 : Ans (d + 8) 186 [.ref r1, .int (nI (2 * q))] (wV (100 * g + 3) (.ref z) S1) (some (.ref z1)) S2) (hz3 : (sS S2)[g - 108]? = some (13, zg)) (hv3 : sV S2 (100 * g + 7) = .ref r2) (hg3 : isK S2 r2 1 N2) (mN2 : N2 < 2 ^ 20) (c3 : Ans (d + 8) 186 [.ref r2, .int (nI (2 * q))] (wV (100 * g + 6) (.ref z1) S2) (some (.ref z2)) S3) (hz4 : (sS S3)[g - 108]? = some (13, zg)) : Bod (d + 8) 378 0 [(0, .ref g), (1, .int (nI q))] [] S none (wV (100 * g + 7) (.ref z2) S3) := by
  refine Bod.go dc_378_0 rfl ?_
  refine Bod.go dc_378_1 rfl ?_
  refine Bod.get dc_378_2 fr_378_13 (mk_thing ag (by first | exact hz1 | (simp only [rIS, rJS, rAS, rLS, rVS, rQS, rS_hold]; exact hz1))) rfl ?_
  refine Bod.eqV (.ref r) (by first | exact hv1 | (simp only [rIV, rJV, rAV, rLV, rQV, rV, reduceIte, Nat.reduceEqDiff]; exact hv1) | (simp only [rIV, rJV, rAV, rLV, rQV, rV]; repeat rw [if_neg (by omega)]; exact hv1)) ?_
  refine Bod.alenN (N := N) dc_378_5 (mk_isI (by first | exact hg1 | exact isK_S (by simp only [rIS, rJS, rAS, rLS, rVS, rQS, rS_hold]) hg1)) el_0 ?_
  refine Bod.icT dc_378_6 rfl (k2_gt_T q N rfl rfl (by omega) (by omega)) ?_
  refine Bod.go dc_378_10 rfl ?_
  refine Bod.bip 32 (by decide) dc_378_11 ?_
  refine Bod.icT dc_378_13 rfl (k2_gt_T q 32 rfl rfl (by omega) (by omega)) ?_
  refine Bod.go dc_378_21 rfl ?_
  refine Bod.bip 104 (by decide) dc_378_22 ?_
  refine Bod.icT dc_378_24 rfl (k2_gt_T q 104 rfl rfl (by omega) (by omega)) ?_
  refine Bod.ic 2 (by decide) dc_378_32 ?_
  refine Bod.go dc_378_33 rfl ?_
  refine Bod.mulN (2 * q) (by omega) dc_378_34 ?_
  refine Bod.istn dc_378_35 (by rw [ml_378]; exact Nat.le_of_ble_eq_true rfl) ?_
  refine Bod.go dc_378_36 rfl ?_
  refine Bod.go dc_378_37 rfl ?_
  refine Bod.get dc_378_38 fr_378_13 (mk_thing ag (by first | exact hz1 | (simp only [rIS, rJS, rAS, rLS, rVS, rQS, rS_hold]; exact hz1))) rfl ?_
  refine Bod.eqV (.ref r) (by first | exact hv1 | (simp only [rIV, rJV, rAV, rLV, rQV, rV, reduceIte, Nat.reduceEqDiff]; exact hv1) | (simp only [rIV, rJV, rAV, rLV, rQV, rV]; repeat rw [if_neg (by omega)]; exact hv1)) ?_
  refine Bod.go dc_378_41 rfl ?_
  refine Bod.stat (r := [_]) dc_378_42 kr_378_29 (Or.inl rfl) (by rw [np_296]; rfl) (by rw [np_296]; rfl) (by rw [np_296]; exact Nat.le_of_ble_eq_true rfl) (Nat.le_of_ble_eq_true rfl) (c1  ) ?_
  show Bod _ _ _ _ [_, _] _ _ _
  refine Bod.put dc_378_45 fr_378_13 (mk_thing ag (by first | exact hz2 | (simp only [rIS, rJS, rAS, rLS, rVS, rQS, rS_hold]; exact hz2))) (Nat.le_of_ble_eq_true rfl) pr_13_3 (st_thing_3 ag (by first | exact hz2 | (simp only [rIS, rJS, rAS, rLS, rVS, rQS, rS_hold]; exact hz2))) (mu_V _ _ _) ?_
  refine Bod.go dc_378_48 rfl ?_
  refine Bod.go dc_378_49 rfl ?_
  refine Bod.get dc_378_50 fr_378_23 (mk_thing ag (by first | exact hz2 | (simp only [rIS, rJS, rAS, rLS, rVS, rQS, rS_hold]; exact hz2))) rfl ?_
  refine Bod.eqV (.ref r1) (by first | exact hv2 | (simp only [rIV, rJV, rAV, rLV, rQV, rV, reduceIte, Nat.reduceEqDiff]; exact hv2) | (simp only [rIV, rJV, rAV, rLV, rQV, rV]; repeat rw [if_neg (by omega)]; exact hv2)) ?_
  refine Bod.go dc_378_53 rfl ?_
  refine Bod.stat (r := [_]) dc_378_54 kr_378_35 (Or.inl rfl) (by rw [np_186]; rfl) (by rw [np_186]; rfl) (by rw [np_186]; exact Nat.le_of_ble_eq_true rfl) (Nat.le_of_ble_eq_true rfl) (c2  ) ?_
  show Bod _ _ _ _ [_, _] _ _ _
  refine Bod.put dc_378_57 fr_378_23 (mk_thing ag (by first | exact hz3 | (simp only [rIS, rJS, rAS, rLS, rVS, rQS, rS_hold]; exact hz3))) (Nat.le_of_ble_eq_true rfl) pr_13_6 (st_thing_6 ag (by first | exact hz3 | (simp only [rIS, rJS, rAS, rLS, rVS, rQS, rS_hold]; exact hz3))) (mu_V _ _ _) ?_
  refine Bod.go dc_378_60 rfl ?_
  refine Bod.go dc_378_61 rfl ?_
  refine Bod.get dc_378_62 fr_378_26 (mk_thing ag (by first | exact hz3 | (simp only [rIS, rJS, rAS, rLS, rVS, rQS, rS_hold]; exact hz3))) rfl ?_
  refine Bod.eqV (.ref r2) (by first | exact hv3 | (simp only [rIV, rJV, rAV, rLV, rQV, rV, reduceIte, Nat.reduceEqDiff]; exact hv3) | (simp only [rIV, rJV, rAV, rLV, rQV, rV]; repeat rw [if_neg (by omega)]; exact hv3)) ?_
  refine Bod.go dc_378_65 rfl ?_
  refine Bod.stat (r := [_]) dc_378_66 kr_378_35 (Or.inl rfl) (by rw [np_186]; rfl) (by rw [np_186]; rfl) (by rw [np_186]; exact Nat.le_of_ble_eq_true rfl) (Nat.le_of_ble_eq_true rfl) (c3  ) ?_
  show Bod _ _ _ _ [_, _] _ _ _
  refine Bod.put dc_378_69 fr_378_26 (mk_thing ag (by first | exact hz4 | (simp only [rIS, rJS, rAS, rLS, rVS, rQS, rS_hold]; exact hz4))) (Nat.le_of_ble_eq_true rfl) pr_13_7 (st_thing_7 ag (by first | exact hz4 | (simp only [rIS, rJS, rAS, rLS, rVS, rQS, rS_hold]; exact hz4))) (mu_V _ _ _) ?_
  exact Bod.retV dc_378_72 rt_378
theorem rKr_2 {d : Nat} {S : cS} {g : Nat} {zg : Nat} {q : Nat} {r : Nat} {N : Nat} {S1 : cS} {z : Nat} {r1 : Nat} {N1 : Nat} {S2 : cS} {z1 : Nat} {r2 : Nat} {N2 : Nat} {S3 : cS} {z2 : Nat} (mq : q < 2 ^ 20) (ag : 108 ≤ g) (hz1 : (sS S)[g - 108]? = some (13, zg)) (hv1 : sV S (100 * g + 3) = .ref r) (hg1 : isK S r 0 N) (mN : N < 2 ^ 20) (b1 : N < q) (b2 : 32 < q) (b3 : q ≤ 104) (c1 : Ans (d + 8) 296 [.ref r, .int (nI 104)] S (some (.ref z)) S1) (hz2 : (sS S1)[g - 108]? = some (13, zg)) (hv2 : sV S1 (100 * g + 6) = .ref r1) (hg2 : isK S1 r1 1 N1) (mN1 : N1 < 2 ^ 20) (c2 : Ans (d + 8) 186 [.ref r1, .int (nI 104)] (wV (100 * g + 3) (.ref z) S1) (some (.ref z1)) S2) (hz3 : (sS S2)[g - 108]? = some (13, zg)) (hv3 : sV S2 (100 * g + 7) = .ref r2) (hg3 : isK S2 r2 1 N2) (mN2 : N2 < 2 ^ 20) (c3 : Ans (d + 8) 186 [.ref r2, .int (nI 104)] (wV (100 * g + 6) (.ref z1) S2) (some (.ref z2)) S3) (hz4 : (sS S3)[g - 108]? = some (13, zg)) : Bod (d + 8) 378 0 [(0, .ref g), (1, .int (nI q))] [] S none (wV (100 * g + 7) (.ref z2) S3) := by
  refine Bod.go dc_378_0 rfl ?_
  refine Bod.go dc_378_1 rfl ?_
  refine Bod.get dc_378_2 fr_378_13 (mk_thing ag (by first | exact hz1 | (simp only [rIS, rJS, rAS, rLS, rVS, rQS, rS_hold]; exact hz1))) rfl ?_
  refine Bod.eqV (.ref r) (by first | exact hv1 | (simp only [rIV, rJV, rAV, rLV, rQV, rV, reduceIte, Nat.reduceEqDiff]; exact hv1) | (simp only [rIV, rJV, rAV, rLV, rQV, rV]; repeat rw [if_neg (by omega)]; exact hv1)) ?_
  refine Bod.alenN (N := N) dc_378_5 (mk_isI (by first | exact hg1 | exact isK_S (by simp only [rIS, rJS, rAS, rLS, rVS, rQS, rS_hold]) hg1)) el_0 ?_
  refine Bod.icT dc_378_6 rfl (k2_gt_T q N rfl rfl (by omega) (by omega)) ?_
  refine Bod.go dc_378_10 rfl ?_
  refine Bod.bip 32 (by decide) dc_378_11 ?_
  refine Bod.icT dc_378_13 rfl (k2_gt_T q 32 rfl rfl (by omega) (by omega)) ?_
  refine Bod.go dc_378_21 rfl ?_
  refine Bod.bip 104 (by decide) dc_378_22 ?_
  refine Bod.icF dc_378_24 rfl (k2_gt_F q 104 rfl rfl (by omega) (by omega)) ?_
  refine Bod.bip 104 (by decide) dc_378_27 ?_
  refine Bod.go dc_378_29 rfl ?_
  refine Bod.istn dc_378_35 (by rw [ml_378]; exact Nat.le_of_ble_eq_true rfl) ?_
  refine Bod.go dc_378_36 rfl ?_
  refine Bod.go dc_378_37 rfl ?_
  refine Bod.get dc_378_38 fr_378_13 (mk_thing ag (by first | exact hz1 | (simp only [rIS, rJS, rAS, rLS, rVS, rQS, rS_hold]; exact hz1))) rfl ?_
  refine Bod.eqV (.ref r) (by first | exact hv1 | (simp only [rIV, rJV, rAV, rLV, rQV, rV, reduceIte, Nat.reduceEqDiff]; exact hv1) | (simp only [rIV, rJV, rAV, rLV, rQV, rV]; repeat rw [if_neg (by omega)]; exact hv1)) ?_
  refine Bod.go dc_378_41 rfl ?_
  refine Bod.stat (r := [_]) dc_378_42 kr_378_29 (Or.inl rfl) (by rw [np_296]; rfl) (by rw [np_296]; rfl) (by rw [np_296]; exact Nat.le_of_ble_eq_true rfl) (Nat.le_of_ble_eq_true rfl) (c1  ) ?_
  show Bod _ _ _ _ [_, _] _ _ _
  refine Bod.put dc_378_45 fr_378_13 (mk_thing ag (by first | exact hz2 | (simp only [rIS, rJS, rAS, rLS, rVS, rQS, rS_hold]; exact hz2))) (Nat.le_of_ble_eq_true rfl) pr_13_3 (st_thing_3 ag (by first | exact hz2 | (simp only [rIS, rJS, rAS, rLS, rVS, rQS, rS_hold]; exact hz2))) (mu_V _ _ _) ?_
  refine Bod.go dc_378_48 rfl ?_
  refine Bod.go dc_378_49 rfl ?_
  refine Bod.get dc_378_50 fr_378_23 (mk_thing ag (by first | exact hz2 | (simp only [rIS, rJS, rAS, rLS, rVS, rQS, rS_hold]; exact hz2))) rfl ?_
  refine Bod.eqV (.ref r1) (by first | exact hv2 | (simp only [rIV, rJV, rAV, rLV, rQV, rV, reduceIte, Nat.reduceEqDiff]; exact hv2) | (simp only [rIV, rJV, rAV, rLV, rQV, rV]; repeat rw [if_neg (by omega)]; exact hv2)) ?_
  refine Bod.go dc_378_53 rfl ?_
  refine Bod.stat (r := [_]) dc_378_54 kr_378_35 (Or.inl rfl) (by rw [np_186]; rfl) (by rw [np_186]; rfl) (by rw [np_186]; exact Nat.le_of_ble_eq_true rfl) (Nat.le_of_ble_eq_true rfl) (c2  ) ?_
  show Bod _ _ _ _ [_, _] _ _ _
  refine Bod.put dc_378_57 fr_378_23 (mk_thing ag (by first | exact hz3 | (simp only [rIS, rJS, rAS, rLS, rVS, rQS, rS_hold]; exact hz3))) (Nat.le_of_ble_eq_true rfl) pr_13_6 (st_thing_6 ag (by first | exact hz3 | (simp only [rIS, rJS, rAS, rLS, rVS, rQS, rS_hold]; exact hz3))) (mu_V _ _ _) ?_
  refine Bod.go dc_378_60 rfl ?_
  refine Bod.go dc_378_61 rfl ?_
  refine Bod.get dc_378_62 fr_378_26 (mk_thing ag (by first | exact hz3 | (simp only [rIS, rJS, rAS, rLS, rVS, rQS, rS_hold]; exact hz3))) rfl ?_
  refine Bod.eqV (.ref r2) (by first | exact hv3 | (simp only [rIV, rJV, rAV, rLV, rQV, rV, reduceIte, Nat.reduceEqDiff]; exact hv3) | (simp only [rIV, rJV, rAV, rLV, rQV, rV]; repeat rw [if_neg (by omega)]; exact hv3)) ?_
  refine Bod.go dc_378_65 rfl ?_
  refine Bod.stat (r := [_]) dc_378_66 kr_378_35 (Or.inl rfl) (by rw [np_186]; rfl) (by rw [np_186]; rfl) (by rw [np_186]; exact Nat.le_of_ble_eq_true rfl) (Nat.le_of_ble_eq_true rfl) (c3  ) ?_
  show Bod _ _ _ _ [_, _] _ _ _
  refine Bod.put dc_378_69 fr_378_26 (mk_thing ag (by first | exact hz4 | (simp only [rIS, rJS, rAS, rLS, rVS, rQS, rS_hold]; exact hz4))) (Nat.le_of_ble_eq_true rfl) pr_13_7 (st_thing_7 ag (by first | exact hz4 | (simp only [rIS, rJS, rAS, rLS, rVS, rQS, rS_hold]; exact hz4))) (mu_V _ _ _) ?_
  exact Bod.retV dc_378_72 rt_378
theorem rKr_3 {d : Nat} {S : cS} {g : Nat} {zg : Nat} {q : Nat} {r : Nat} {N : Nat} {S1 : cS} {z : Nat} {r1 : Nat} {N1 : Nat} {S2 : cS} {z1 : Nat} {r2 : Nat} {N2 : Nat} {S3 : cS} {z2 : Nat} (mq : q < 2 ^ 20) (ag : 108 ≤ g) (hz1 : (sS S)[g - 108]? = some (13, zg)) (hv1 : sV S (100 * g + 3) = .ref r) (hg1 : isK S r 0 N) (mN : N < 2 ^ 20) (b1 : N < q) (b2 : q ≤ 32) (c1 : Ans (d + 8) 296 [.ref r, .int (nI 32)] S (some (.ref z)) S1) (hz2 : (sS S1)[g - 108]? = some (13, zg)) (hv2 : sV S1 (100 * g + 6) = .ref r1) (hg2 : isK S1 r1 1 N1) (mN1 : N1 < 2 ^ 20) (c2 : Ans (d + 8) 186 [.ref r1, .int (nI 32)] (wV (100 * g + 3) (.ref z) S1) (some (.ref z1)) S2) (hz3 : (sS S2)[g - 108]? = some (13, zg)) (hv3 : sV S2 (100 * g + 7) = .ref r2) (hg3 : isK S2 r2 1 N2) (mN2 : N2 < 2 ^ 20) (c3 : Ans (d + 8) 186 [.ref r2, .int (nI 32)] (wV (100 * g + 6) (.ref z1) S2) (some (.ref z2)) S3) (hz4 : (sS S3)[g - 108]? = some (13, zg)) : Bod (d + 8) 378 0 [(0, .ref g), (1, .int (nI q))] [] S none (wV (100 * g + 7) (.ref z2) S3) := by
  refine Bod.go dc_378_0 rfl ?_
  refine Bod.go dc_378_1 rfl ?_
  refine Bod.get dc_378_2 fr_378_13 (mk_thing ag (by first | exact hz1 | (simp only [rIS, rJS, rAS, rLS, rVS, rQS, rS_hold]; exact hz1))) rfl ?_
  refine Bod.eqV (.ref r) (by first | exact hv1 | (simp only [rIV, rJV, rAV, rLV, rQV, rV, reduceIte, Nat.reduceEqDiff]; exact hv1) | (simp only [rIV, rJV, rAV, rLV, rQV, rV]; repeat rw [if_neg (by omega)]; exact hv1)) ?_
  refine Bod.alenN (N := N) dc_378_5 (mk_isI (by first | exact hg1 | exact isK_S (by simp only [rIS, rJS, rAS, rLS, rVS, rQS, rS_hold]) hg1)) el_0 ?_
  refine Bod.icT dc_378_6 rfl (k2_gt_T q N rfl rfl (by omega) (by omega)) ?_
  refine Bod.go dc_378_10 rfl ?_
  refine Bod.bip 32 (by decide) dc_378_11 ?_
  refine Bod.icF dc_378_13 rfl (k2_gt_F q 32 rfl rfl (by omega) (by omega)) ?_
  refine Bod.bip 32 (by decide) dc_378_16 ?_
  refine Bod.go dc_378_18 rfl ?_
  refine Bod.istn dc_378_35 (by rw [ml_378]; exact Nat.le_of_ble_eq_true rfl) ?_
  refine Bod.go dc_378_36 rfl ?_
  refine Bod.go dc_378_37 rfl ?_
  refine Bod.get dc_378_38 fr_378_13 (mk_thing ag (by first | exact hz1 | (simp only [rIS, rJS, rAS, rLS, rVS, rQS, rS_hold]; exact hz1))) rfl ?_
  refine Bod.eqV (.ref r) (by first | exact hv1 | (simp only [rIV, rJV, rAV, rLV, rQV, rV, reduceIte, Nat.reduceEqDiff]; exact hv1) | (simp only [rIV, rJV, rAV, rLV, rQV, rV]; repeat rw [if_neg (by omega)]; exact hv1)) ?_
  refine Bod.go dc_378_41 rfl ?_
  refine Bod.stat (r := [_]) dc_378_42 kr_378_29 (Or.inl rfl) (by rw [np_296]; rfl) (by rw [np_296]; rfl) (by rw [np_296]; exact Nat.le_of_ble_eq_true rfl) (Nat.le_of_ble_eq_true rfl) (c1  ) ?_
  show Bod _ _ _ _ [_, _] _ _ _
  refine Bod.put dc_378_45 fr_378_13 (mk_thing ag (by first | exact hz2 | (simp only [rIS, rJS, rAS, rLS, rVS, rQS, rS_hold]; exact hz2))) (Nat.le_of_ble_eq_true rfl) pr_13_3 (st_thing_3 ag (by first | exact hz2 | (simp only [rIS, rJS, rAS, rLS, rVS, rQS, rS_hold]; exact hz2))) (mu_V _ _ _) ?_
  refine Bod.go dc_378_48 rfl ?_
  refine Bod.go dc_378_49 rfl ?_
  refine Bod.get dc_378_50 fr_378_23 (mk_thing ag (by first | exact hz2 | (simp only [rIS, rJS, rAS, rLS, rVS, rQS, rS_hold]; exact hz2))) rfl ?_
  refine Bod.eqV (.ref r1) (by first | exact hv2 | (simp only [rIV, rJV, rAV, rLV, rQV, rV, reduceIte, Nat.reduceEqDiff]; exact hv2) | (simp only [rIV, rJV, rAV, rLV, rQV, rV]; repeat rw [if_neg (by omega)]; exact hv2)) ?_
  refine Bod.go dc_378_53 rfl ?_
  refine Bod.stat (r := [_]) dc_378_54 kr_378_35 (Or.inl rfl) (by rw [np_186]; rfl) (by rw [np_186]; rfl) (by rw [np_186]; exact Nat.le_of_ble_eq_true rfl) (Nat.le_of_ble_eq_true rfl) (c2  ) ?_
  show Bod _ _ _ _ [_, _] _ _ _
  refine Bod.put dc_378_57 fr_378_23 (mk_thing ag (by first | exact hz3 | (simp only [rIS, rJS, rAS, rLS, rVS, rQS, rS_hold]; exact hz3))) (Nat.le_of_ble_eq_true rfl) pr_13_6 (st_thing_6 ag (by first | exact hz3 | (simp only [rIS, rJS, rAS, rLS, rVS, rQS, rS_hold]; exact hz3))) (mu_V _ _ _) ?_
  refine Bod.go dc_378_60 rfl ?_
  refine Bod.go dc_378_61 rfl ?_
  refine Bod.get dc_378_62 fr_378_26 (mk_thing ag (by first | exact hz3 | (simp only [rIS, rJS, rAS, rLS, rVS, rQS, rS_hold]; exact hz3))) rfl ?_
  refine Bod.eqV (.ref r2) (by first | exact hv3 | (simp only [rIV, rJV, rAV, rLV, rQV, rV, reduceIte, Nat.reduceEqDiff]; exact hv3) | (simp only [rIV, rJV, rAV, rLV, rQV, rV]; repeat rw [if_neg (by omega)]; exact hv3)) ?_
  refine Bod.go dc_378_65 rfl ?_
  refine Bod.stat (r := [_]) dc_378_66 kr_378_35 (Or.inl rfl) (by rw [np_186]; rfl) (by rw [np_186]; rfl) (by rw [np_186]; exact Nat.le_of_ble_eq_true rfl) (Nat.le_of_ble_eq_true rfl) (c3  ) ?_
  show Bod _ _ _ _ [_, _] _ _ _
  refine Bod.put dc_378_69 fr_378_26 (mk_thing ag (by first | exact hz4 | (simp only [rIS, rJS, rAS, rLS, rVS, rQS, rS_hold]; exact hz4))) (Nat.le_of_ble_eq_true rfl) pr_13_7 (st_thing_7 ag (by first | exact hz4 | (simp only [rIS, rJS, rAS, rLS, rVS, rQS, rS_hold]; exact hz4))) (mu_V _ _ _) ?_
  exact Bod.retV dc_378_72 rt_378
theorem rKr_4 {d : Nat} {S : cS} {g : Nat} {zg : Nat} {q : Nat} {r : Nat} {N : Nat} (mq : q < 2 ^ 20) (ag : 108 ≤ g) (hz1 : (sS S)[g - 108]? = some (13, zg)) (hv1 : sV S (100 * g + 3) = .ref r) (hg1 : isK S r 0 N) (mN : N < 2 ^ 20) (b1 : q ≤ N) : Bod (d + 8) 378 0 [(0, .ref g), (1, .int (nI q))] [] S none (S) := by
  refine Bod.go dc_378_0 rfl ?_
  refine Bod.go dc_378_1 rfl ?_
  refine Bod.get dc_378_2 fr_378_13 (mk_thing ag (by first | exact hz1 | (simp only [rIS, rJS, rAS, rLS, rVS, rQS, rS_hold]; exact hz1))) rfl ?_
  refine Bod.eqV (.ref r) (by first | exact hv1 | (simp only [rIV, rJV, rAV, rLV, rQV, rV, reduceIte, Nat.reduceEqDiff]; exact hv1) | (simp only [rIV, rJV, rAV, rLV, rQV, rV]; repeat rw [if_neg (by omega)]; exact hv1)) ?_
  refine Bod.alenN (N := N) dc_378_5 (mk_isI (by first | exact hg1 | exact isK_S (by simp only [rIS, rJS, rAS, rLS, rVS, rQS, rS_hold]) hg1)) el_0 ?_
  refine Bod.icF dc_378_6 rfl (k2_gt_F q N rfl rfl (by omega) (by omega)) ?_
  exact Bod.retV dc_378_9 rt_378
theorem rFb_1 {d : Nat} {S Sf : cS} {v : Option Value}   (hB : ∀ lv1 : sm_L, sm_get lv1 0 = some (.ref 88) → sm_get lv1 1 = some (.int (nI 0)) → sm_get lv1 2 = some (.int (nI 0)) → sm_get lv1 3 = some (.int (nI 1500)) → Bod (d + 8) 394 5 lv1 [] (S) v Sf) : Bod (d + 8) 394 0 [(0, .ref 88), (1, .int (nI 0))] [] S v Sf := by
  refine Bod.ic 0 (by decide) dc_394_0 ?_
  refine Bod.istn dc_394_1 (by rw [ml_394]; exact Nat.le_of_ble_eq_true rfl) ?_
  refine Bod.go dc_394_2 rfl ?_
  refine Bod.alenN dc_394_3 (mk_88 _) (by decide +kernel) ?_
  refine Bod.istn dc_394_4 (by rw [ml_394]; exact Nat.le_of_ble_eq_true rfl) ?_
  exact hB _ (by first | rfl | exact (by repeat (first | exact rfl | exact sm_get_p1 | exact sm_get_p2e | refine sm_get_p1m (by decide) (by decide) ?_ | refine sm_get_p1n (by decide) rfl ?_ | refine sm_get_p2n (by decide) (by decide) rfl ?_ | refine sm_get_p2m (by decide) (by decide) (by decide) ?_))) (by first | rfl | exact (by repeat (first | exact rfl | exact sm_get_p1 | exact sm_get_p2e | refine sm_get_p1m (by decide) (by decide) ?_ | refine sm_get_p1n (by decide) rfl ?_ | refine sm_get_p2n (by decide) (by decide) rfl ?_ | refine sm_get_p2m (by decide) (by decide) (by decide) ?_))) (by first | rfl | exact (by repeat (first | exact rfl | exact sm_get_p1 | exact sm_get_p2e | refine sm_get_p1m (by decide) (by decide) ?_ | refine sm_get_p1n (by decide) rfl ?_ | refine sm_get_p2n (by decide) (by decide) rfl ?_ | refine sm_get_p2m (by decide) (by decide) (by decide) ?_))) (by first | rfl | exact (by repeat (first | exact rfl | exact sm_get_p1 | exact sm_get_p2e | refine sm_get_p1m (by decide) (by decide) ?_ | refine sm_get_p1n (by decide) rfl ?_ | refine sm_get_p2n (by decide) (by decide) rfl ?_ | refine sm_get_p2m (by decide) (by decide) (by decide) ?_)))
theorem rFbL_1 {d : Nat} {S : cS} {lv : sm_L} {ni : Nat} (q0 : sm_get lv 0 = some (.ref 88)) (q1 : sm_get lv 1 = some (.int (nI 0))) (q2 : sm_get lv 2 = some (.int (nI ni))) (q3 : sm_get lv 3 = some (.int (nI 1500))) (mni : ni < 2 ^ 20) (b1 : 1500 ≤ ni) : Bod (d + 8) 394 5 lv [] S none (S) := by
  refine Bod.ildnG dc_394_5 (by repeat (first | exact q2 | exact sm_get_p1 | exact sm_get_p2e | refine sm_get_p1m (by decide) (by decide) ?_ | refine sm_get_p1n (by decide) rfl ?_ | refine sm_get_p2n (by decide) (by decide) rfl ?_ | refine sm_get_p2m (by decide) (by decide) (by decide) ?_)) ?_
  refine Bod.ildnG dc_394_6 (by repeat (first | exact q3 | exact sm_get_p1 | exact sm_get_p2e | refine sm_get_p1m (by decide) (by decide) ?_ | refine sm_get_p1n (by decide) rfl ?_ | refine sm_get_p2n (by decide) (by decide) rfl ?_ | refine sm_get_p2m (by decide) (by decide) (by decide) ?_)) ?_
  refine Bod.icT dc_394_7 rfl (k2_ge_T ni 1500 rfl rfl (by omega) (by omega)) ?_
  exact Bod.retV dc_394_20 rt_394
theorem rFbL_2 {d : Nat} {S Sf : cS} {v : Option Value} {lv : sm_L} {ni : Nat} (q0 : sm_get lv 0 = some (.ref 88)) (q1 : sm_get lv 1 = some (.int (nI 0))) (q2 : sm_get lv 2 = some (.int (nI ni))) (q3 : sm_get lv 3 = some (.int (nI 1500))) (mni : ni < 2 ^ 20) (b1 : ni < 1500) (hB : ∀ lv1 : sm_L, sm_get lv1 0 = some (.ref 88) → sm_get lv1 1 = some (.int (nI 0)) → sm_get lv1 2 = some (.int (nI (ni + 1))) → sm_get lv1 3 = some (.int (nI 1500)) → Bod (d + 8) 394 5 lv1 [] (wA 88 ni (vp_nar .boolean (nI 0)) S) v Sf) : Bod (d + 8) 394 5 lv [] S v Sf := by
  refine Bod.ildnG dc_394_5 (by repeat (first | exact q2 | exact sm_get_p1 | exact sm_get_p2e | refine sm_get_p1m (by decide) (by decide) ?_ | refine sm_get_p1n (by decide) rfl ?_ | refine sm_get_p2n (by decide) (by decide) rfl ?_ | refine sm_get_p2m (by decide) (by decide) (by decide) ?_)) ?_
  refine Bod.ildnG dc_394_6 (by repeat (first | exact q3 | exact sm_get_p1 | exact sm_get_p2e | refine sm_get_p1m (by decide) (by decide) ?_ | refine sm_get_p1n (by decide) rfl ?_ | refine sm_get_p2n (by decide) (by decide) rfl ?_ | refine sm_get_p2m (by decide) (by decide) (by decide) ?_)) ?_
  refine Bod.icF dc_394_7 rfl (k2_ge_F ni 1500 rfl rfl (by omega) (by omega)) ?_
  refine Bod.aldnG dc_394_10 (by repeat (first | exact q0 | exact sm_get_p1 | exact sm_get_p2e | refine sm_get_p1m (by decide) (by decide) ?_ | refine sm_get_p1n (by decide) rfl ?_ | refine sm_get_p2n (by decide) (by decide) rfl ?_ | refine sm_get_p2m (by decide) (by decide) (by decide) ?_)) ?_
  refine Bod.ildnG dc_394_11 (by repeat (first | exact q2 | exact sm_get_p1 | exact sm_get_p2e | refine sm_get_p1m (by decide) (by decide) ?_ | refine sm_get_p1n (by decide) rfl ?_ | refine sm_get_p2n (by decide) (by decide) rfl ?_ | refine sm_get_p2m (by decide) (by decide) (by decide) ?_)) ?_
  refine Bod.ildnG dc_394_12 (by repeat (first | exact q1 | exact sm_get_p1 | exact sm_get_p2e | refine sm_get_p1m (by decide) (by decide) ?_ | refine sm_get_p1n (by decide) rfl ?_ | refine sm_get_p2n (by decide) (by decide) rfl ?_ | refine sm_get_p2m (by decide) (by decide) (by decide) ?_)) ?_
  refine Bod.zastN ni rfl (by omega) (by omega) dc_394_13 (mk_88 _) (sa_88 _ _ _) (mu_A _ _ _ _) ?_
  refine Bod.incN (ni + 1) (by rw [kc_1, nI_add]) dc_394_14 (by rw [ml_394]; exact Nat.le_of_ble_eq_true rfl) (by repeat (first | exact q2 | exact sm_get_p1 | exact sm_get_p2e | refine sm_get_p1m (by decide) (by decide) ?_ | refine sm_get_p1n (by decide) rfl ?_ | refine sm_get_p2n (by decide) (by decide) rfl ?_ | refine sm_get_p2m (by decide) (by decide) (by decide) ?_)) ?_
  refine Bod.go dc_394_17 rfl ?_
  exact hB _ (by repeat (first | exact q0 | exact sm_get_p1 | exact sm_get_p2e | refine sm_get_p1m (by decide) (by decide) ?_ | refine sm_get_p1n (by decide) rfl ?_ | refine sm_get_p2n (by decide) (by decide) rfl ?_ | refine sm_get_p2m (by decide) (by decide) (by decide) ?_)) (by repeat (first | exact q1 | exact sm_get_p1 | exact sm_get_p2e | refine sm_get_p1m (by decide) (by decide) ?_ | refine sm_get_p1n (by decide) rfl ?_ | refine sm_get_p2n (by decide) (by decide) rfl ?_ | refine sm_get_p2m (by decide) (by decide) (by decide) ?_)) (by repeat (first | exact q0 | exact sm_get_p1 | exact sm_get_p2e | refine sm_get_p1m (by decide) (by decide) ?_ | refine sm_get_p1n (by decide) rfl ?_ | refine sm_get_p2n (by decide) (by decide) rfl ?_ | refine sm_get_p2m (by decide) (by decide) (by decide) ?_)) (by repeat (first | exact q3 | exact sm_get_p1 | exact sm_get_p2e | refine sm_get_p1m (by decide) (by decide) ?_ | refine sm_get_p1n (by decide) rfl ?_ | refine sm_get_p2n (by decide) (by decide) rfl ?_ | refine sm_get_p2m (by decide) (by decide) (by decide) ?_))
