/-! ASSIGN where no object goes; BIND -/
theorem dc_142_0 : decode (sm_cc 142) 0 = .ok (.iload_n 2, 1) := by decide +kernel
theorem dc_142_1 : decode (sm_cc 142) 1 = .ok (.invokestatic 65, 3) := by decide +kernel
theorem kr_142_65 : sm_at mt_k (sm_ow 142) 65 = some (65, 2, 139, 0, 1392) := by decide +kernel
theorem dc_142_4 : decode (sm_cc 142) 4 = .ok (.ifCond .eq (9), 3) := by decide +kernel
theorem dc_142_13 : decode (sm_cc 142) 13 = .ok (.return_, 1) := by decide +kernel
theorem rt_142 : sm_rt 142 = none := by decide +kernel
theorem ml_142 : sm_ml 142 = 5 := by decide +kernel
theorem dc_173_0 : decode (sm_cc 173) 0 = .ok (.aload_n 0, 1) := by decide +kernel
theorem dc_173_1 : decode (sm_cc 173) 1 = .ok (.iload_n 1, 1) := by decide +kernel
theorem dc_173_2 : decode (sm_cc 173) 2 = .ok (.invokevirtual 81, 3) := by decide +kernel
theorem kr_173_81 : sm_at mt_k (sm_ow 173) 81 = some (81, 0, 170, 0, 1525) := by decide +kernel
theorem dc_173_5 : decode (sm_cc 173) 5 = .ok (.ifCond .ne (4), 3) := by decide +kernel
theorem dc_173_9 : decode (sm_cc 173) 9 = .ok (.aload_n 0, 1) := by decide +kernel
theorem dc_173_10 : decode (sm_cc 173) 10 = .ok (.getfield 29, 3) := by decide +kernel
theorem fr_173_29 : sm_at mt_f (sm_ow 173) 29 = some (29, 5, 5, 0, 513) := by decide +kernel
theorem dc_173_13 : decode (sm_cc 173) 13 = .ok (.iload_n 1, 1) := by decide +kernel
theorem dc_173_14 : decode (sm_cc 173) 14 = .ok (.laload, 1) := by decide +kernel
theorem dc_173_15 : decode (sm_cc 173) 15 = .ok (.lstore 6, 2) := by decide +kernel
theorem ml_173 : sm_ml 173 = 10 := by decide +kernel
theorem dc_173_17 : decode (sm_cc 173) 17 = .ok (.aload_n 0, 1) := by decide +kernel
theorem dc_173_18 : decode (sm_cc 173) 18 = .ok (.getfield 32, 3) := by decide +kernel
theorem fr_173_32 : sm_at mt_f (sm_ow 173) 32 = some (32, 5, 6, 0, 514) := by decide +kernel
theorem dc_173_21 : decode (sm_cc 173) 21 = .ok (.iload_n 1, 1) := by decide +kernel
theorem dc_173_22 : decode (sm_cc 173) 22 = .ok (.laload, 1) := by decide +kernel
theorem dc_173_23 : decode (sm_cc 173) 23 = .ok (.lstore 8, 2) := by decide +kernel
theorem dc_173_25 : decode (sm_cc 173) 25 = .ok (.lload 6, 2) := by decide +kernel
theorem dc_173_27 : decode (sm_cc 173) 27 = .ok (.invokestatic 88, 3) := by decide +kernel
theorem kr_173_88 : sm_at mt_k (sm_ow 173) 88 = some (88, 3, 134, 1, 1541) := by decide +kernel
theorem dc_173_30 : decode (sm_cc 173) 30 = .ok (.ifCond .eq (13), 3) := by decide +kernel
theorem dc_173_43 : decode (sm_cc 173) 43 = .ok (.lload_n 2, 1) := by decide +kernel
theorem dc_173_44 : decode (sm_cc 173) 44 = .ok (.invokestatic 88, 3) := by decide +kernel
theorem dc_173_47 : decode (sm_cc 173) 47 = .ok (.ifCond .eq (13), 3) := by decide +kernel
theorem dc_173_50 : decode (sm_cc 173) 50 = .ok (.aload_n 0, 1) := by decide +kernel
theorem dc_173_51 : decode (sm_cc 173) 51 = .ok (.dup, 1) := by decide +kernel
theorem dc_173_52 : decode (sm_cc 173) 52 = .ok (.getfield 85, 3) := by decide +kernel
theorem fr_173_85 : sm_at mt_f (sm_ow 173) 85 = some (85, 5, 8, 0, 516) := by decide +kernel
theorem dc_173_55 : decode (sm_cc 173) 55 = .ok (.iconst 1, 1) := by decide +kernel
theorem dc_173_56 : decode (sm_cc 173) 56 = .ok (.iadd, 1) := by decide +kernel
theorem dc_173_57 : decode (sm_cc 173) 57 = .ok (.putfield 85, 3) := by decide +kernel
theorem dc_173_60 : decode (sm_cc 173) 60 = .ok (.aload_n 0, 1) := by decide +kernel
theorem dc_173_61 : decode (sm_cc 173) 61 = .ok (.getfield 29, 3) := by decide +kernel
theorem dc_173_64 : decode (sm_cc 173) 64 = .ok (.iload_n 1, 1) := by decide +kernel
theorem dc_173_65 : decode (sm_cc 173) 65 = .ok (.lload_n 2, 1) := by decide +kernel
theorem dc_173_66 : decode (sm_cc 173) 66 = .ok (.lastore, 1) := by decide +kernel
theorem dc_173_67 : decode (sm_cc 173) 67 = .ok (.aload_n 0, 1) := by decide +kernel
theorem dc_173_68 : decode (sm_cc 173) 68 = .ok (.getfield 32, 3) := by decide +kernel
theorem dc_173_71 : decode (sm_cc 173) 71 = .ok (.iload_n 1, 1) := by decide +kernel
theorem dc_173_72 : decode (sm_cc 173) 72 = .ok (.lload 4, 2) := by decide +kernel
theorem dc_173_74 : decode (sm_cc 173) 74 = .ok (.lastore, 1) := by decide +kernel
theorem dc_173_75 : decode (sm_cc 173) 75 = .ok (.aload_n 0, 1) := by decide +kernel
theorem dc_173_76 : decode (sm_cc 173) 76 = .ok (.getfield 11, 3) := by decide +kernel
theorem fr_173_11 : sm_at mt_f (sm_ow 173) 11 = some (11, 5, 0, 0, 508) := by decide +kernel
theorem dc_173_79 : decode (sm_cc 173) 79 = .ok (.aload_n 0, 1) := by decide +kernel
theorem dc_173_80 : decode (sm_cc 173) 80 = .ok (.getfield 11, 3) := by decide +kernel
theorem dc_173_83 : decode (sm_cc 173) 83 = .ok (.getfield 92, 3) := by decide +kernel
theorem fr_173_92 : sm_at mt_f (sm_ow 173) 92 = some (92, 2, 2, 1, 376) := by decide +kernel
theorem dc_173_86 : decode (sm_cc 173) 86 = .ok (.lload_n 2, 1) := by decide +kernel
theorem dc_173_87 : decode (sm_cc 173) 87 = .ok (.lload 4, 2) := by decide +kernel
theorem dc_173_89 : decode (sm_cc 173) 89 = .ok (.invokestatic 97, 3) := by decide +kernel
theorem kr_173_97 : sm_at mt_k (sm_ow 173) 97 = some (97, 3, 137, 1, 1542) := by decide +kernel
theorem dc_173_92 : decode (sm_cc 173) 92 = .ok (.invokevirtual 100, 3) := by decide +kernel
theorem kr_173_100 : sm_at mt_k (sm_ow 173) 100 = some (100, 1, 149, 1, 1543) := by decide +kernel
theorem dc_173_95 : decode (sm_cc 173) 95 = .ok (.aload_n 0, 1) := by decide +kernel
theorem dc_173_96 : decode (sm_cc 173) 96 = .ok (.getfield 11, 3) := by decide +kernel
theorem dc_173_99 : decode (sm_cc 173) 99 = .ok (.aload_n 0, 1) := by decide +kernel
theorem dc_173_100 : decode (sm_cc 173) 100 = .ok (.getfield 11, 3) := by decide +kernel
theorem dc_173_103 : decode (sm_cc 173) 103 = .ok (.getfield 92, 3) := by decide +kernel
theorem dc_173_106 : decode (sm_cc 173) 106 = .ok (.lload 6, 2) := by decide +kernel
theorem dc_173_108 : decode (sm_cc 173) 108 = .ok (.lload 8, 2) := by decide +kernel
theorem dc_173_110 : decode (sm_cc 173) 110 = .ok (.invokestatic 97, 3) := by decide +kernel
theorem dc_173_113 : decode (sm_cc 173) 113 = .ok (.invokevirtual 104, 3) := by decide +kernel
theorem ow_142 : 2 = sm_ow 142 := by decide +kernel
theorem kr_173_104 : sm_at mt_k (sm_ow 173) 104 = some (104, 1, 142, 1, 1544) := by decide +kernel
theorem np_142 : sm_np 142 = 2 := by decide +kernel
theorem dc_173_116 : decode (sm_cc 173) 116 = .ok (.return_, 1) := by decide +kernel
theorem rt_173 : sm_rt 173 = none := by decide +kernel
theorem dc_173_33 : decode (sm_cc 173) 33 = .ok (.aload_n 0, 1) := by decide +kernel
theorem dc_173_34 : decode (sm_cc 173) 34 = .ok (.dup, 1) := by decide +kernel
theorem dc_173_35 : decode (sm_cc 173) 35 = .ok (.getfield 85, 3) := by decide +kernel
theorem dc_173_38 : decode (sm_cc 173) 38 = .ok (.iconst 1, 1) := by decide +kernel
theorem dc_173_39 : decode (sm_cc 173) 39 = .ok (.isub, 1) := by decide +kernel
theorem dc_173_40 : decode (sm_cc 173) 40 = .ok (.putfield 85, 3) := by decide +kernel
theorem dc_277_11 : decode (sm_cc 277) 11 = .ok (.aload_n 0, 1) := by decide +kernel
theorem dc_277_12 : decode (sm_cc 277) 12 = .ok (.getfield 25, 3) := by decide +kernel
theorem fr_277_25 : sm_at mt_f (sm_ow 277) 25 = some (25, 11, 1, 0, 898) := by decide +kernel
theorem dc_277_15 : decode (sm_cc 277) 15 = .ok (.iload_n 3, 1) := by decide +kernel
theorem dc_277_16 : decode (sm_cc 277) 16 = .ok (.ldc2_w 142, 3) := by decide +kernel
theorem cj_277_142 : sm_at mt_cj (sm_ow 277) 142 = some (142, (2305843009213693952), 2053) := by decide +kernel
theorem dc_277_19 : decode (sm_cc 277) 19 = .ok (.lload_n 1, 1) := by decide +kernel
theorem dc_277_20 : decode (sm_cc 277) 20 = .ok (.invokevirtual 144, 3) := by decide +kernel
theorem ow_173 : 5 = sm_ow 173 := by decide +kernel
theorem kr_277_144 : sm_at mt_k (sm_ow 277) 144 = some (144, 1, 173, 1, 2054) := by decide +kernel
theorem np_173 : sm_np 173 = 3 := by decide +kernel
theorem dc_277_23 : decode (sm_cc 277) 23 = .ok (.iconst 0, 1) := by decide +kernel
theorem dc_277_24 : decode (sm_cc 277) 24 = .ok (.ireturn, 1) := by decide +kernel
theorem release_05 {d : Nat} {S : cS}   : Ans (d + 2) 142 [.ref 2, .ref 5, .int (nI 0)] S (none) (S) := by
  refine Ans.of (by rw [ml_142]; exact Nat.le_of_ble_eq_true rfl) ?_
  refine Bod.go dc_142_0 rfl ?_
  refine Bod.stat (r := []) dc_142_1 kr_142_65 (Or.inl rfl) (by rw [np_139]; rfl) (by rw [np_139]; rfl) (by rw [np_139]; exact Nat.le_of_ble_eq_true rfl) (Nat.le_of_ble_eq_true rfl) (isId_0  ) ?_
  show Bod _ _ _ _ [_] _ _ _
  refine Bod.ifT dc_142_4 rfl (k1_eq_T (k_eq 0 0 rfl rfl (by omega))) ?_
  exact Bod.retV dc_142_13 rt_142
theorem assign_new {d : Nat} {S : cS} {k : Nat} {b : Nat} {lo : Int64} (hk : k < 4096) (hb : sI S 1608 = nI b) (hbM : b ≤ 4096) (ho : c_kd (sL S 21 k) ≠ 4) (h0 : c_kind (sL S 21 k) = 0) : Ans (d + 3) 173 [.ref 16, .int (nI k), .long 2305843009213693952, .long lo] S (none) (wL 22 k lo (wL 21 k 2305843009213693952 (wI 1608 (nI (b + 1)) S))) := by
  refine Ans.of (by rw [ml_173]; exact Nat.le_of_ble_eq_true rfl) ?_
  refine Bod.go dc_173_0 rfl ?_
  refine Bod.go dc_173_1 rfl ?_
  refine Bod.virt (r := []) dc_173_2 kr_173_81 ⟨Or.inl rfl, ow_170, cl_5⟩ (by rw [np_170]; rfl) (by rw [np_170]; rfl) (ob_of (mk_16 _)) (Nat.le_of_ble_eq_true rfl) (known_T (k := k) (by omega)) ?_
  show Bod _ _ _ _ [_] _ _ _
  refine Bod.ifT dc_173_5 rfl (k1_ne_T (k_ne 1 0 rfl rfl (by omega) (by omega) (by omega))) ?_
  refine Bod.go dc_173_9 rfl ?_
  refine Bod.get dc_173_10 fr_173_29 (mk_16 _) rfl ?_
  refine Bod.go dc_173_13 rfl ?_
  refine Bod.laldN k rfl (by omega) (by omega) dc_173_14 (mk_21 _) ?_
  refine Bod.lst dc_173_15 (by rw [ml_173]; exact Nat.le_of_ble_eq_true rfl) ?_
  refine Bod.go dc_173_17 rfl ?_
  refine Bod.get dc_173_18 fr_173_32 (mk_16 _) rfl ?_
  refine Bod.go dc_173_21 rfl ?_
  refine Bod.laldN k rfl (by omega) (by omega) dc_173_22 (mk_22 _) ?_
  refine Bod.lst dc_173_23 (by rw [ml_173]; exact Nat.le_of_ble_eq_true rfl) ?_
  refine Bod.go dc_173_25 rfl ?_
  refine Bod.stat (r := []) dc_173_27 kr_173_88 (Or.inr rfl) (by rw [np_134]; rfl) (by rw [np_134]; rfl) (by rw [np_134]; exact Nat.le_of_ble_eq_true rfl) (Nat.le_of_ble_eq_true rfl) (kindOf_ev (hi := (sL S 21 k)) ) ?_
  show Bod _ _ _ _ [_] _ _ _
  refine Bod.ifT dc_173_30 rfl (k1_eq_T h0) ?_
  refine Bod.go dc_173_43 rfl ?_
  refine Bod.stat (r := []) dc_173_44 kr_173_88 (Or.inr rfl) (by rw [np_134]; rfl) (by rw [np_134]; rfl) (by rw [np_134]; exact Nat.le_of_ble_eq_true rfl) (Nat.le_of_ble_eq_true rfl) (kindOf_ev (hi := 2305843009213693952) ) ?_
  show Bod _ _ _ _ [_] _ _ _
  refine Bod.ifF dc_173_47 rfl (by decide +kernel) ?_
  refine Bod.go dc_173_50 rfl ?_
  refine Bod.go dc_173_51 rfl ?_
  refine Bod.get dc_173_52 fr_173_85 (mk_16 _) rfl ?_
  refine Bod.eqI (nI b) (by first | assumption | rfl | exact congrArg nI (by omega) | (simp (disch := omega) only [rI, rIe, rA, rIA, rLA, rJA, rVI, rQI, rVA, rQA, upd_at,  rAI, rLI, rJI, nI_add, pk_sub, kc_0, kc_1, kc_2, kc_3, kc_4, kc_5, reduceIte, Nat.reduceEqDiff, Nat.add_zero, rI_hold, rI_hold, rL_hold, hb]; done)) ?_
  refine Bod.ic 1 (by decide) dc_173_55 ?_
  refine Bod.addN (b + 1) (by omega) dc_173_56 ?_
  refine Bod.put dc_173_57 fr_173_85 (mk_16 _) (Nat.le_of_ble_eq_true rfl) pf_5_8 (st_1608 _ _) (mu_I _ _ _) ?_
  refine Bod.go dc_173_60 rfl ?_
  refine Bod.get dc_173_61 fr_173_29 (mk_16 _) rfl ?_
  refine Bod.go dc_173_64 rfl ?_
  refine Bod.go dc_173_65 rfl ?_
  refine Bod.lastN k rfl (by omega) (by omega) dc_173_66 (mk_21 _) (sa_21 _ _ _) (mu_L _ _ _ _) ?_
  refine Bod.go dc_173_67 rfl ?_
  refine Bod.get dc_173_68 fr_173_32 (mk_16 _) rfl ?_
  refine Bod.go dc_173_71 rfl ?_
  refine Bod.go dc_173_72 rfl ?_
  refine Bod.lastN k rfl (by omega) (by omega) dc_173_74 (mk_22 _) (sa_22 _ _ _) (mu_L _ _ _ _) ?_
  refine Bod.go dc_173_75 rfl ?_
  refine Bod.get dc_173_76 fr_173_11 (mk_16 _) rfl ?_
  refine Bod.go dc_173_79 rfl ?_
  refine Bod.get dc_173_80 fr_173_11 (mk_16 _) rfl ?_
  refine Bod.get dc_173_83 fr_173_92 (mk_2 _) rfl ?_
  refine Bod.go dc_173_86 rfl ?_
  refine Bod.go dc_173_87 rfl ?_
  refine Bod.stat (r := [_, _]) dc_173_89 kr_173_97 (Or.inr rfl) (by rw [np_137]; rfl) (by rw [np_137]; rfl) (by rw [np_137]; exact Nat.le_of_ble_eq_true rfl) (Nat.le_of_ble_eq_true rfl) (objectOf_F (hi := 2305843009213693952) (lo := lo) (by decide +kernel)) ?_
  show Bod _ _ _ _ [_, _, _] _ _ _
  refine Bod.virt (r := []) dc_173_92 kr_173_100 ⟨Or.inr rfl, ow_149, cl_2⟩ (by rw [np_149]; rfl) (by rw [np_149]; rfl) (ob_of (mk_2 _)) (Nat.le_of_ble_eq_true rfl) (hold_05  ) ?_
  show Bod _ _ _ _ [] _ _ _
  refine Bod.go dc_173_95 rfl ?_
  refine Bod.get dc_173_96 fr_173_11 (mk_16 _) rfl ?_
  refine Bod.go dc_173_99 rfl ?_
  refine Bod.get dc_173_100 fr_173_11 (mk_16 _) rfl ?_
  refine Bod.get dc_173_103 fr_173_92 (mk_2 _) rfl ?_
  refine Bod.go dc_173_106 rfl ?_
  refine Bod.go dc_173_108 rfl ?_
  refine Bod.stat (r := [_, _]) dc_173_110 kr_173_97 (Or.inr rfl) (by rw [np_137]; rfl) (by rw [np_137]; rfl) (by rw [np_137]; exact Nat.le_of_ble_eq_true rfl) (Nat.le_of_ble_eq_true rfl) (objectOf_F (hi := (sL S 21 k)) (lo := (sL S 22 k)) ho) ?_
  show Bod _ _ _ _ [_, _, _] _ _ _
  refine Bod.virt (r := []) dc_173_113 kr_173_104 ⟨Or.inr rfl, ow_142, cl_2⟩ (by rw [np_142]; rfl) (by rw [np_142]; rfl) (ob_of (mk_2 _)) (Nat.le_of_ble_eq_true rfl) (release_05  ) ?_
  show Bod _ _ _ _ [] _ _ _
  exact Bod.retV dc_173_116 rt_173
theorem assign_old {d : Nat} {S : cS} {k : Nat} {b : Nat} {lo : Int64} (hk : k < 4096) (hb : sI S 1608 = nI b) (hbM : b ≤ 4096) (ho : c_kd (sL S 21 k) ≠ 4) (h0 : c_kind (sL S 21 k) ≠ 0) (hb1 : 1 ≤ b) : Ans (d + 3) 173 [.ref 16, .int (nI k), .long 2305843009213693952, .long lo] S (none) (wL 22 k lo (wL 21 k 2305843009213693952 (wI 1608 (nI b) (wI 1608 (nI (b - 1)) S)))) := by
  refine Ans.of (by rw [ml_173]; exact Nat.le_of_ble_eq_true rfl) ?_
  refine Bod.go dc_173_0 rfl ?_
  refine Bod.go dc_173_1 rfl ?_
  refine Bod.virt (r := []) dc_173_2 kr_173_81 ⟨Or.inl rfl, ow_170, cl_5⟩ (by rw [np_170]; rfl) (by rw [np_170]; rfl) (ob_of (mk_16 _)) (Nat.le_of_ble_eq_true rfl) (known_T (k := k) (by omega)) ?_
  show Bod _ _ _ _ [_] _ _ _
  refine Bod.ifT dc_173_5 rfl (k1_ne_T (k_ne 1 0 rfl rfl (by omega) (by omega) (by omega))) ?_
  refine Bod.go dc_173_9 rfl ?_
  refine Bod.get dc_173_10 fr_173_29 (mk_16 _) rfl ?_
  refine Bod.go dc_173_13 rfl ?_
  refine Bod.laldN k rfl (by omega) (by omega) dc_173_14 (mk_21 _) ?_
  refine Bod.lst dc_173_15 (by rw [ml_173]; exact Nat.le_of_ble_eq_true rfl) ?_
  refine Bod.go dc_173_17 rfl ?_
  refine Bod.get dc_173_18 fr_173_32 (mk_16 _) rfl ?_
  refine Bod.go dc_173_21 rfl ?_
  refine Bod.laldN k rfl (by omega) (by omega) dc_173_22 (mk_22 _) ?_
  refine Bod.lst dc_173_23 (by rw [ml_173]; exact Nat.le_of_ble_eq_true rfl) ?_
  refine Bod.go dc_173_25 rfl ?_
  refine Bod.stat (r := []) dc_173_27 kr_173_88 (Or.inr rfl) (by rw [np_134]; rfl) (by rw [np_134]; rfl) (by rw [np_134]; exact Nat.le_of_ble_eq_true rfl) (Nat.le_of_ble_eq_true rfl) (kindOf_ev (hi := (sL S 21 k)) ) ?_
  show Bod _ _ _ _ [_] _ _ _
  refine Bod.ifF dc_173_30 rfl (k1_eq_F h0) ?_
  refine Bod.go dc_173_33 rfl ?_
  refine Bod.go dc_173_34 rfl ?_
  refine Bod.get dc_173_35 fr_173_85 (mk_16 _) rfl ?_
  refine Bod.eqI (nI b) (by first | assumption | rfl | exact congrArg nI (by omega) | (simp (disch := omega) only [rI, rIe, rA, rIA, rLA, rJA, rVI, rQI, rVA, rQA, upd_at,  rAI, rLI, rJI, nI_add, pk_sub, kc_0, kc_1, kc_2, kc_3, kc_4, kc_5, reduceIte, Nat.reduceEqDiff, Nat.add_zero, rI_hold, rI_hold, rL_hold, hb]; done)) ?_
  refine Bod.ic 1 (by decide) dc_173_38 ?_
  refine Bod.subN (b - 1) (by omega) (by omega) dc_173_39 ?_
  refine Bod.put dc_173_40 fr_173_85 (mk_16 _) (Nat.le_of_ble_eq_true rfl) pf_5_8 (st_1608 _ _) (mu_I _ _ _) ?_
  refine Bod.go dc_173_43 rfl ?_
  refine Bod.stat (r := []) dc_173_44 kr_173_88 (Or.inr rfl) (by rw [np_134]; rfl) (by rw [np_134]; rfl) (by rw [np_134]; exact Nat.le_of_ble_eq_true rfl) (Nat.le_of_ble_eq_true rfl) (kindOf_ev (hi := 2305843009213693952) ) ?_
  show Bod _ _ _ _ [_] _ _ _
  refine Bod.ifF dc_173_47 rfl (by decide +kernel) ?_
  refine Bod.go dc_173_50 rfl ?_
  refine Bod.go dc_173_51 rfl ?_
  refine Bod.get dc_173_52 fr_173_85 (mk_16 _) rfl ?_
  refine Bod.eqI (nI (b - 1)) (by first | (simp (disch := omega) only [rI, rIe, rA, rIA, rLA, rJA, rVI, rQI, rVA, rQA, upd_at,  rAI, rLI, rJI, nI_add, pk_sub, kc_0, kc_1, kc_2, kc_3, kc_4, kc_5, reduceIte, Nat.reduceEqDiff, Nat.add_zero, rI_hold, rI_hold, rL_hold, hb]; done) | (simp (disch := omega) only [rI, rIe, rA, rIA, rLA, rJA, rVI, rQI, rVA, rQA, upd_at,  rAI, rLI, rJI, nI_add, pk_sub, kc_0, kc_1, kc_2, kc_3, kc_4, kc_5, reduceIte, Nat.reduceEqDiff, Nat.add_zero, rI_hold, rI_hold, rL_hold, hb]; exact congrArg nI (by omega))) ?_
  refine Bod.ic 1 (by decide) dc_173_55 ?_
  refine Bod.addN b (by omega) dc_173_56 ?_
  refine Bod.put dc_173_57 fr_173_85 (mk_16 _) (Nat.le_of_ble_eq_true rfl) pf_5_8 (st_1608 _ _) (mu_I _ _ _) ?_
  refine Bod.go dc_173_60 rfl ?_
  refine Bod.get dc_173_61 fr_173_29 (mk_16 _) rfl ?_
  refine Bod.go dc_173_64 rfl ?_
  refine Bod.go dc_173_65 rfl ?_
  refine Bod.lastN k rfl (by omega) (by omega) dc_173_66 (mk_21 _) (sa_21 _ _ _) (mu_L _ _ _ _) ?_
  refine Bod.go dc_173_67 rfl ?_
  refine Bod.get dc_173_68 fr_173_32 (mk_16 _) rfl ?_
  refine Bod.go dc_173_71 rfl ?_
  refine Bod.go dc_173_72 rfl ?_
  refine Bod.lastN k rfl (by omega) (by omega) dc_173_74 (mk_22 _) (sa_22 _ _ _) (mu_L _ _ _ _) ?_
  refine Bod.go dc_173_75 rfl ?_
  refine Bod.get dc_173_76 fr_173_11 (mk_16 _) rfl ?_
  refine Bod.go dc_173_79 rfl ?_
  refine Bod.get dc_173_80 fr_173_11 (mk_16 _) rfl ?_
  refine Bod.get dc_173_83 fr_173_92 (mk_2 _) rfl ?_
  refine Bod.go dc_173_86 rfl ?_
  refine Bod.go dc_173_87 rfl ?_
  refine Bod.stat (r := [_, _]) dc_173_89 kr_173_97 (Or.inr rfl) (by rw [np_137]; rfl) (by rw [np_137]; rfl) (by rw [np_137]; exact Nat.le_of_ble_eq_true rfl) (Nat.le_of_ble_eq_true rfl) (objectOf_F (hi := 2305843009213693952) (lo := lo) (by decide +kernel)) ?_
  show Bod _ _ _ _ [_, _, _] _ _ _
  refine Bod.virt (r := []) dc_173_92 kr_173_100 ⟨Or.inr rfl, ow_149, cl_2⟩ (by rw [np_149]; rfl) (by rw [np_149]; rfl) (ob_of (mk_2 _)) (Nat.le_of_ble_eq_true rfl) (hold_05  ) ?_
  show Bod _ _ _ _ [] _ _ _
  refine Bod.go dc_173_95 rfl ?_
  refine Bod.get dc_173_96 fr_173_11 (mk_16 _) rfl ?_
  refine Bod.go dc_173_99 rfl ?_
  refine Bod.get dc_173_100 fr_173_11 (mk_16 _) rfl ?_
  refine Bod.get dc_173_103 fr_173_92 (mk_2 _) rfl ?_
  refine Bod.go dc_173_106 rfl ?_
  refine Bod.go dc_173_108 rfl ?_
  refine Bod.stat (r := [_, _]) dc_173_110 kr_173_97 (Or.inr rfl) (by rw [np_137]; rfl) (by rw [np_137]; rfl) (by rw [np_137]; exact Nat.le_of_ble_eq_true rfl) (Nat.le_of_ble_eq_true rfl) (objectOf_F (hi := (sL S 21 k)) (lo := (sL S 22 k)) ho) ?_
  show Bod _ _ _ _ [_, _, _] _ _ _
  refine Bod.virt (r := []) dc_173_113 kr_173_104 ⟨Or.inr rfl, ow_142, cl_2⟩ (by rw [np_142]; rfl) (by rw [np_142]; rfl) (ob_of (mk_2 _)) (Nat.le_of_ble_eq_true rfl) (release_05  ) ?_
  show Bod _ _ _ _ [] _ _ _
  exact Bod.retV dc_173_116 rt_173
theorem bind_new {d : Nat} {S : cS} {q : Nat} {b : Nat} {v : Int64} {S1 : cS} (hR : Ans (d + 5) 278 [.ref 0] S (some (.int (nI q))) S1) (hk : q < 4096) (hb : sI S1 1608 = nI b) (hbM : b ≤ 4096) (ho : c_kd (sL S1 21 q) ≠ 4) (h0 : c_kind (sL S1 21 q) = 0) : Ans (d + 6) 277 [.ref 0, .long v] S (some (.int (nI 0))) (wL 22 q v (wL 21 q 2305843009213693952 (wI 1608 (nI (b + 1)) S1))) := by
  refine Ans.of (by rw [ml_277]; exact Nat.le_of_ble_eq_true rfl) ?_
  refine Bod.go dc_277_0 rfl ?_
  refine Bod.virt (r := []) dc_277_1 kr_277_139 ⟨Or.inl rfl, ow_278, cl_11⟩ (by rw [np_278]; rfl) (by rw [np_278]; rfl) (ob_of (mk_0 _)) (Nat.le_of_ble_eq_true rfl) (hR  ) ?_
  show Bod _ _ _ _ [_] _ _ _
  refine Bod.istn dc_277_4 (by rw [ml_277]; exact Nat.le_of_ble_eq_true rfl) ?_
  refine Bod.go dc_277_5 rfl ?_
  refine Bod.ifT dc_277_6 rfl (k1_ge_T q rfl (by omega)) ?_
  refine Bod.go dc_277_11 rfl ?_
  refine Bod.get dc_277_12 fr_277_25 (mk_0 _) rfl ?_
  refine Bod.go dc_277_15 rfl ?_
  refine Bod.ldc2 dc_277_16 cj_277_142 ?_
  refine Bod.go dc_277_19 rfl ?_
  refine Bod.virt (r := []) dc_277_20 kr_277_144 ⟨Or.inr rfl, ow_173, cl_5⟩ (by rw [np_173]; rfl) (by rw [np_173]; rfl) (ob_of (mk_16 _)) (Nat.le_of_ble_eq_true rfl) (assign_new (k := q) (b := b) (lo := v) (by omega) (by first | (simp (disch := omega) only [rI, rIe, rA, rIA, rLA, rJA, rVI, rQI, rVA, rQA, upd_at,  rAI, rLI, rJI, nI_add, pk_sub, kc_0, kc_1, kc_2, kc_3, kc_4, kc_5, reduceIte, Nat.reduceEqDiff, Nat.add_zero, rI_hold, rI_hold, rL_hold, hb]; done) | (simp (disch := omega) only [rI, rIe, rA, rIA, rLA, rJA, rVI, rQI, rVA, rQA, upd_at,  rAI, rLI, rJI, nI_add, pk_sub, kc_0, kc_1, kc_2, kc_3, kc_4, kc_5, reduceIte, Nat.reduceEqDiff, Nat.add_zero, rI_hold, rI_hold, rL_hold, hb]; exact congrArg nI (by omega))) (by omega) ho h0) ?_
  show Bod _ _ _ _ [] _ _ _
  refine Bod.ic 0 (by decide) dc_277_23 ?_
  exact Bod.retI dc_277_24 rt_277
theorem bind_old {d : Nat} {S : cS} {q : Nat} {b : Nat} {v : Int64} {S1 : cS} (hR : Ans (d + 5) 278 [.ref 0] S (some (.int (nI q))) S1) (hk : q < 4096) (hb : sI S1 1608 = nI b) (hbM : b ≤ 4096) (ho : c_kd (sL S1 21 q) ≠ 4) (h0 : c_kind (sL S1 21 q) ≠ 0) (hb1 : 1 ≤ b) : Ans (d + 6) 277 [.ref 0, .long v] S (some (.int (nI 0))) (wL 22 q v (wL 21 q 2305843009213693952 (wI 1608 (nI b) (wI 1608 (nI (b - 1)) S1)))) := by
  refine Ans.of (by rw [ml_277]; exact Nat.le_of_ble_eq_true rfl) ?_
  refine Bod.go dc_277_0 rfl ?_
  refine Bod.virt (r := []) dc_277_1 kr_277_139 ⟨Or.inl rfl, ow_278, cl_11⟩ (by rw [np_278]; rfl) (by rw [np_278]; rfl) (ob_of (mk_0 _)) (Nat.le_of_ble_eq_true rfl) (hR  ) ?_
  show Bod _ _ _ _ [_] _ _ _
  refine Bod.istn dc_277_4 (by rw [ml_277]; exact Nat.le_of_ble_eq_true rfl) ?_
  refine Bod.go dc_277_5 rfl ?_
  refine Bod.ifT dc_277_6 rfl (k1_ge_T q rfl (by omega)) ?_
  refine Bod.go dc_277_11 rfl ?_
  refine Bod.get dc_277_12 fr_277_25 (mk_0 _) rfl ?_
  refine Bod.go dc_277_15 rfl ?_
  refine Bod.ldc2 dc_277_16 cj_277_142 ?_
  refine Bod.go dc_277_19 rfl ?_
  refine Bod.virt (r := []) dc_277_20 kr_277_144 ⟨Or.inr rfl, ow_173, cl_5⟩ (by rw [np_173]; rfl) (by rw [np_173]; rfl) (ob_of (mk_16 _)) (Nat.le_of_ble_eq_true rfl) (assign_old (k := q) (b := b) (lo := v) (by omega) (by first | (simp (disch := omega) only [rI, rIe, rA, rIA, rLA, rJA, rVI, rQI, rVA, rQA, upd_at,  rAI, rLI, rJI, nI_add, pk_sub, kc_0, kc_1, kc_2, kc_3, kc_4, kc_5, reduceIte, Nat.reduceEqDiff, Nat.add_zero, rI_hold, rI_hold, rL_hold, hb]; done) | (simp (disch := omega) only [rI, rIe, rA, rIA, rLA, rJA, rVI, rQI, rVA, rQA, upd_at,  rAI, rLI, rJI, nI_add, pk_sub, kc_0, kc_1, kc_2, kc_3, kc_4, kc_5, reduceIte, Nat.reduceEqDiff, Nat.add_zero, rI_hold, rI_hold, rL_hold, hb]; exact congrArg nI (by omega))) (by omega) ho h0 (by omega)) ?_
  show Bod _ _ _ _ [] _ _ _
  refine Bod.ic 0 (by decide) dc_277_23 ?_
  exact Bod.retI dc_277_24 rt_277
