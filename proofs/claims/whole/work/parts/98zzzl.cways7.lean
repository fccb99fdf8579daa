/-! WAYS of the end of a text: scopes begin, names get their places -/
theorem dc_123_0 : decode (sm_cc 123) 0 = .ok (.iconst 0, 1) := by decide +kernel
theorem dc_123_1 : decode (sm_cc 123) 1 = .ok (.istore_n 1, 1) := by decide +kernel
theorem dc_123_2 : decode (sm_cc 123) 2 = .ok (.iload_n 1, 1) := by decide +kernel
theorem dc_123_3 : decode (sm_cc 123) 3 = .ok (.aload_n 0, 1) := by decide +kernel
theorem dc_123_4 : decode (sm_cc 123) 4 = .ok (.getfield 51, 3) := by decide +kernel
theorem fr_123_51 : sm_at mt_f (sm_ow 123) 51 = some (51, 8, 13, 0, 663) := by decide +kernel
theorem dc_123_7 : decode (sm_cc 123) 7 = .ok (.if_icmp .ge (63), 3) := by decide +kernel
theorem dc_123_70 : decode (sm_cc 123) 70 = .ok (.iconst 0, 1) := by decide +kernel
theorem dc_123_71 : decode (sm_cc 123) 71 = .ok (.istore_n 1, 1) := by decide +kernel
theorem dc_123_10 : decode (sm_cc 123) 10 = .ok (.iload_n 1, 1) := by decide +kernel
theorem dc_123_11 : decode (sm_cc 123) 11 = .ok (.sipush (1600), 3) := by decide +kernel
theorem dc_123_14 : decode (sm_cc 123) 14 = .ok (.if_icmp .ge (56), 3) := by decide +kernel
theorem dc_123_17 : decode (sm_cc 123) 17 = .ok (.aload_n 0, 1) := by decide +kernel
theorem dc_123_18 : decode (sm_cc 123) 18 = .ok (.getfield 26, 3) := by decide +kernel
theorem fr_123_26 : sm_at mt_f (sm_ow 123) 26 = some (26, 8, 5, 0, 655) := by decide +kernel
theorem dc_123_21 : decode (sm_cc 123) 21 = .ok (.iload_n 1, 1) := by decide +kernel
theorem dc_123_22 : decode (sm_cc 123) 22 = .ok (.iaload, 1) := by decide +kernel
theorem dc_123_23 : decode (sm_cc 123) 23 = .ok (.istore_n 2, 1) := by decide +kernel
theorem dc_123_24 : decode (sm_cc 123) 24 = .ok (.aload_n 0, 1) := by decide +kernel
theorem dc_123_25 : decode (sm_cc 123) 25 = .ok (.getfield 29, 3) := by decide +kernel
theorem fr_123_29 : sm_at mt_f (sm_ow 123) 29 = some (29, 8, 6, 0, 656) := by decide +kernel
theorem dc_123_28 : decode (sm_cc 123) 28 = .ok (.iload_n 1, 1) := by decide +kernel
theorem dc_123_29 : decode (sm_cc 123) 29 = .ok (.iaload, 1) := by decide +kernel
theorem dc_123_30 : decode (sm_cc 123) 30 = .ok (.iconst 2, 1) := by decide +kernel
theorem dc_123_31 : decode (sm_cc 123) 31 = .ok (.if_icmp .eq (33), 3) := by decide +kernel
theorem dc_123_64 : decode (sm_cc 123) 64 = .ok (.iinc 1 (1), 3) := by decide +kernel
theorem dc_123_67 : decode (sm_cc 123) 67 = .ok (.goto (-65), 3) := by decide +kernel
theorem dc_123_34 : decode (sm_cc 123) 34 = .ok (.iload_n 2, 1) := by decide +kernel
theorem dc_123_35 : decode (sm_cc 123) 35 = .ok (.ifCond .lt (29), 3) := by decide +kernel
theorem dc_123_38 : decode (sm_cc 123) 38 = .ok (.iload_n 2, 1) := by decide +kernel
theorem dc_123_39 : decode (sm_cc 123) 39 = .ok (.sipush (300), 3) := by decide +kernel
theorem dc_123_42 : decode (sm_cc 123) 42 = .ok (.if_icmp .ge (22), 3) := by decide +kernel
theorem dc_123_45 : decode (sm_cc 123) 45 = .ok (.aload_n 0, 1) := by decide +kernel
theorem dc_123_46 : decode (sm_cc 123) 46 = .ok (.getfield 32, 3) := by decide +kernel
theorem fr_123_32 : sm_at mt_f (sm_ow 123) 32 = some (32, 8, 7, 0, 657) := by decide +kernel
theorem dc_123_49 : decode (sm_cc 123) 49 = .ok (.iload_n 1, 1) := by decide +kernel
theorem dc_123_50 : decode (sm_cc 123) 50 = .ok (.aload_n 0, 1) := by decide +kernel
theorem dc_123_51 : decode (sm_cc 123) 51 = .ok (.getfield 7, 3) := by decide +kernel
theorem fr_123_7 : sm_at mt_f (sm_ow 123) 7 = some (7, 8, 0, 0, 650) := by decide +kernel
theorem dc_123_54 : decode (sm_cc 123) 54 = .ok (.aload_n 0, 1) := by decide +kernel
theorem dc_123_55 : decode (sm_cc 123) 55 = .ok (.getfield 17, 3) := by decide +kernel
theorem fr_123_17 : sm_at mt_f (sm_ow 123) 17 = some (17, 8, 2, 0, 652) := by decide +kernel
theorem dc_123_58 : decode (sm_cc 123) 58 = .ok (.iload_n 2, 1) := by decide +kernel
theorem dc_123_59 : decode (sm_cc 123) 59 = .ok (.iaload, 1) := by decide +kernel
theorem dc_123_60 : decode (sm_cc 123) 60 = .ok (.invokevirtual 79, 3) := by decide +kernel
theorem ow_124 : 7 = sm_ow 124 := by decide +kernel
theorem kr_123_79 : sm_at mt_k (sm_ow 123) 79 = some (79, 1, 124, 1, 1328) := by decide +kernel
theorem np_124 : sm_np 124 = 1 := by decide +kernel
theorem dc_123_63 : decode (sm_cc 123) 63 = .ok (.iastore, 1) := by decide +kernel
theorem dc_123_72 : decode (sm_cc 123) 72 = .ok (.iload_n 1, 1) := by decide +kernel
theorem dc_123_73 : decode (sm_cc 123) 73 = .ok (.aload_n 0, 1) := by decide +kernel
theorem dc_123_74 : decode (sm_cc 123) 74 = .ok (.getfield 54, 3) := by decide +kernel
theorem fr_123_54 : sm_at mt_f (sm_ow 123) 54 = some (54, 8, 14, 0, 664) := by decide +kernel
theorem dc_123_77 : decode (sm_cc 123) 77 = .ok (.if_icmp .ge (32), 3) := by decide +kernel
theorem dc_123_109 : decode (sm_cc 123) 109 = .ok (.return_, 1) := by decide +kernel
theorem rt_123 : sm_rt 123 = none := by decide +kernel
theorem dc_123_80 : decode (sm_cc 123) 80 = .ok (.iload_n 1, 1) := by decide +kernel
theorem dc_123_81 : decode (sm_cc 123) 81 = .ok (.sipush (1600), 3) := by decide +kernel
theorem dc_123_84 : decode (sm_cc 123) 84 = .ok (.if_icmp .ge (25), 3) := by decide +kernel
theorem dc_123_87 : decode (sm_cc 123) 87 = .ok (.aload_n 0, 1) := by decide +kernel
theorem dc_123_88 : decode (sm_cc 123) 88 = .ok (.aload_n 0, 1) := by decide +kernel
theorem dc_123_89 : decode (sm_cc 123) 89 = .ok (.getfield 38, 3) := by decide +kernel
theorem fr_123_38 : sm_at mt_f (sm_ow 123) 38 = some (38, 8, 9, 0, 659) := by decide +kernel
theorem dc_123_92 : decode (sm_cc 123) 92 = .ok (.iload_n 1, 1) := by decide +kernel
theorem dc_123_93 : decode (sm_cc 123) 93 = .ok (.iaload, 1) := by decide +kernel
theorem dc_123_94 : decode (sm_cc 123) 94 = .ok (.aload_n 0, 1) := by decide +kernel
theorem dc_123_95 : decode (sm_cc 123) 95 = .ok (.getfield 41, 3) := by decide +kernel
theorem fr_123_41 : sm_at mt_f (sm_ow 123) 41 = some (41, 8, 10, 0, 660) := by decide +kernel
theorem dc_123_98 : decode (sm_cc 123) 98 = .ok (.iload_n 1, 1) := by decide +kernel
theorem dc_123_99 : decode (sm_cc 123) 99 = .ok (.iaload, 1) := by decide +kernel
theorem dc_123_100 : decode (sm_cc 123) 100 = .ok (.invokevirtual 83, 3) := by decide +kernel
theorem ow_125 : 8 = sm_ow 125 := by decide +kernel
theorem kr_123_83 : sm_at mt_k (sm_ow 123) 83 = some (83, 0, 125, 0, 1332) := by decide +kernel
theorem np_125 : sm_np 125 = 2 := by decide +kernel
theorem dc_123_103 : decode (sm_cc 123) 103 = .ok (.iinc 1 (1), 3) := by decide +kernel
theorem dc_123_106 : decode (sm_cc 123) 106 = .ok (.goto (-34), 3) := by decide +kernel
theorem dc_124_8 : decode (sm_cc 124) 8 = .ok (.iconst 0, 1) := by decide +kernel
theorem dc_124_9 : decode (sm_cc 124) 9 = .ok (.ireturn, 1) := by decide +kernel
theorem dc_125_0 : decode (sm_cc 125) 0 = .ok (.aload_n 0, 1) := by decide +kernel
theorem dc_125_1 : decode (sm_cc 125) 1 = .ok (.getfield 7, 3) := by decide +kernel
theorem fr_125_7 : sm_at mt_f (sm_ow 125) 7 = some (7, 8, 0, 0, 650) := by decide +kernel
theorem dc_125_4 : decode (sm_cc 125) 4 = .ok (.iload_n 1, 1) := by decide +kernel
theorem dc_125_5 : decode (sm_cc 125) 5 = .ok (.iconst 2, 1) := by decide +kernel
theorem dc_125_6 : decode (sm_cc 125) 6 = .ok (.iadd, 1) := by decide +kernel
theorem dc_125_7 : decode (sm_cc 125) 7 = .ok (.invokevirtual 86, 3) := by decide +kernel
theorem kr_125_86 : sm_at mt_k (sm_ow 125) 86 = some (86, 1, 88, 1, 1336) := by decide +kernel
theorem dc_125_10 : decode (sm_cc 125) 10 = .ok (.istore_n 3, 1) := by decide +kernel
theorem dc_125_11 : decode (sm_cc 125) 11 = .ok (.iload_n 2, 1) := by decide +kernel
theorem dc_125_12 : decode (sm_cc 125) 12 = .ok (.istore 4, 2) := by decide +kernel
theorem dc_125_14 : decode (sm_cc 125) 14 = .ok (.iconst 0, 1) := by decide +kernel
theorem dc_125_15 : decode (sm_cc 125) 15 = .ok (.istore 5, 2) := by decide +kernel
theorem dc_125_17 : decode (sm_cc 125) 17 = .ok (.iload 5, 2) := by decide +kernel
theorem dc_125_19 : decode (sm_cc 125) 19 = .ok (.sipush (300), 3) := by decide +kernel
theorem dc_125_22 : decode (sm_cc 125) 22 = .ok (.if_icmp .ge (101), 3) := by decide +kernel
theorem dc_125_123 : decode (sm_cc 125) 123 = .ok (.return_, 1) := by decide +kernel
theorem rt_125 : sm_rt 125 = none := by decide +kernel
theorem dc_125_25 : decode (sm_cc 125) 25 = .ok (.iload 4, 2) := by decide +kernel
theorem dc_125_27 : decode (sm_cc 125) 27 = .ok (.ifCond .le (96), 3) := by decide +kernel
theorem dc_125_30 : decode (sm_cc 125) 30 = .ok (.iload 4, 2) := by decide +kernel
theorem dc_125_32 : decode (sm_cc 125) 32 = .ok (.sipush (300), 3) := by decide +kernel
theorem dc_125_35 : decode (sm_cc 125) 35 = .ok (.if_icmp .ge (88), 3) := by decide +kernel
theorem dc_125_38 : decode (sm_cc 125) 38 = .ok (.aload_n 0, 1) := by decide +kernel
theorem dc_125_39 : decode (sm_cc 125) 39 = .ok (.iload 4, 2) := by decide +kernel
theorem dc_125_41 : decode (sm_cc 125) 41 = .ok (.iload_n 3, 1) := by decide +kernel
theorem dc_125_42 : decode (sm_cc 125) 42 = .ok (.invokevirtual 67, 3) := by decide +kernel
theorem kr_125_67 : sm_at mt_k (sm_ow 125) 67 = some (67, 0, 95, 0, 1208) := by decide +kernel
theorem dc_125_45 : decode (sm_cc 125) 45 = .ok (.istore 6, 2) := by decide +kernel
theorem dc_125_47 : decode (sm_cc 125) 47 = .ok (.iload 6, 2) := by decide +kernel
theorem dc_125_49 : decode (sm_cc 125) 49 = .ok (.ifCond .lt (59), 3) := by decide +kernel
theorem dc_125_52 : decode (sm_cc 125) 52 = .ok (.iload 6, 2) := by decide +kernel
theorem dc_125_54 : decode (sm_cc 125) 54 = .ok (.sipush (1600), 3) := by decide +kernel
theorem dc_125_57 : decode (sm_cc 125) 57 = .ok (.if_icmp .ge (51), 3) := by decide +kernel
theorem dc_125_108 : decode (sm_cc 125) 108 = .ok (.aload_n 0, 1) := by decide +kernel
theorem dc_125_109 : decode (sm_cc 125) 109 = .ok (.getfield 13, 3) := by decide +kernel
theorem fr_125_13 : sm_at mt_f (sm_ow 125) 13 = some (13, 8, 1, 0, 651) := by decide +kernel
theorem dc_125_112 : decode (sm_cc 125) 112 = .ok (.iload 4, 2) := by decide +kernel
theorem dc_125_114 : decode (sm_cc 125) 114 = .ok (.iaload, 1) := by decide +kernel
theorem dc_125_115 : decode (sm_cc 125) 115 = .ok (.istore 4, 2) := by decide +kernel
theorem dc_125_117 : decode (sm_cc 125) 117 = .ok (.iinc 5 (1), 3) := by decide +kernel
theorem dc_125_120 : decode (sm_cc 125) 120 = .ok (.goto (-103), 3) := by decide +kernel
theorem dc_125_60 : decode (sm_cc 125) 60 = .ok (.aload_n 0, 1) := by decide +kernel
theorem dc_125_61 : decode (sm_cc 125) 61 = .ok (.getfield 29, 3) := by decide +kernel
theorem fr_125_29 : sm_at mt_f (sm_ow 125) 29 = some (29, 8, 6, 0, 656) := by decide +kernel
theorem dc_125_64 : decode (sm_cc 125) 64 = .ok (.iload 6, 2) := by decide +kernel
theorem dc_125_66 : decode (sm_cc 125) 66 = .ok (.iaload, 1) := by decide +kernel
theorem dc_125_67 : decode (sm_cc 125) 67 = .ok (.iconst 2, 1) := by decide +kernel
theorem dc_125_68 : decode (sm_cc 125) 68 = .ok (.if_icmp .eq (33), 3) := by decide +kernel
theorem dc_125_101 : decode (sm_cc 125) 101 = .ok (.iload 4, 2) := by decide +kernel
theorem dc_125_103 : decode (sm_cc 125) 103 = .ok (.iload_n 2, 1) := by decide +kernel
theorem dc_125_104 : decode (sm_cc 125) 104 = .ok (.if_icmp .ne (4), 3) := by decide +kernel
theorem dc_125_107 : decode (sm_cc 125) 107 = .ok (.return_, 1) := by decide +kernel
theorem dc_125_71 : decode (sm_cc 125) 71 = .ok (.aload_n 0, 1) := by decide +kernel
theorem dc_125_72 : decode (sm_cc 125) 72 = .ok (.getfield 7, 3) := by decide +kernel
theorem dc_125_75 : decode (sm_cc 125) 75 = .ok (.iload_n 1, 1) := by decide +kernel
theorem dc_125_76 : decode (sm_cc 125) 76 = .ok (.iconst 1, 1) := by decide +kernel
theorem dc_125_77 : decode (sm_cc 125) 77 = .ok (.iadd, 1) := by decide +kernel
theorem dc_125_78 : decode (sm_cc 125) 78 = .ok (.iload 5, 2) := by decide +kernel
theorem dc_125_80 : decode (sm_cc 125) 80 = .ok (.invokevirtual 89, 3) := by decide +kernel
theorem kr_125_89 : sm_at mt_k (sm_ow 125) 89 = some (89, 1, 83, 1, 1337) := by decide +kernel
theorem dc_125_83 : decode (sm_cc 125) 83 = .ok (.aload_n 0, 1) := by decide +kernel
theorem dc_125_84 : decode (sm_cc 125) 84 = .ok (.getfield 7, 3) := by decide +kernel
theorem dc_125_87 : decode (sm_cc 125) 87 = .ok (.iload_n 1, 1) := by decide +kernel
theorem dc_125_88 : decode (sm_cc 125) 88 = .ok (.iconst 2, 1) := by decide +kernel
theorem dc_125_89 : decode (sm_cc 125) 89 = .ok (.iadd, 1) := by decide +kernel
theorem dc_125_90 : decode (sm_cc 125) 90 = .ok (.aload_n 0, 1) := by decide +kernel
theorem dc_125_91 : decode (sm_cc 125) 91 = .ok (.getfield 32, 3) := by decide +kernel
theorem fr_125_32 : sm_at mt_f (sm_ow 125) 32 = some (32, 8, 7, 0, 657) := by decide +kernel
theorem dc_125_94 : decode (sm_cc 125) 94 = .ok (.iload 6, 2) := by decide +kernel
theorem dc_125_96 : decode (sm_cc 125) 96 = .ok (.iaload, 1) := by decide +kernel
theorem dc_125_97 : decode (sm_cc 125) 97 = .ok (.invokevirtual 89, 3) := by decide +kernel
theorem dc_125_100 : decode (sm_cc 125) 100 = .ok (.return_, 1) := by decide +kernel
theorem cScb_1 {d : Nat} {S : cS}   : Bod (d + 8) 34 0 [(0, .ref 32)] [] S none (wI 3214 (nI 0) (wI 3213 (nI 0) (wI 3212 (nI 1) (wI 3211 (nI 0) S)))) := by
  refine Bod.go dc_34_0 rfl ?_
  refine Bod.ic 0 (by decide) dc_34_1 ?_
  refine Bod.put dc_34_2 fr_34_44 (mk_32 _) (Nat.le_of_ble_eq_true rfl) pf_8_11 (st_3211 _ _) (mu_I _ _ _) ?_
  refine Bod.go dc_34_5 rfl ?_
  refine Bod.ic 1 (by decide) dc_34_6 ?_
  refine Bod.put dc_34_7 fr_34_48 (mk_32 _) (Nat.le_of_ble_eq_true rfl) pf_8_12 (st_3212 _ _) (mu_I _ _ _) ?_
  refine Bod.go dc_34_10 rfl ?_
  refine Bod.ic 0 (by decide) dc_34_11 ?_
  refine Bod.put dc_34_12 fr_34_51 (mk_32 _) (Nat.le_of_ble_eq_true rfl) pf_8_13 (st_3213 _ _) (mu_I _ _ _) ?_
  refine Bod.go dc_34_15 rfl ?_
  refine Bod.ic 0 (by decide) dc_34_16 ?_
  refine Bod.put dc_34_17 fr_34_54 (mk_32 _) (Nat.le_of_ble_eq_true rfl) pf_8_14 (st_3214 _ _) (mu_I _ _ _) ?_
  exact Bod.retV dc_34_20 rt_34
theorem cSe0_1 {d : Nat} {S Sf : cS} {v : Option Value}   (hB : ∀ lv1 : sm_L, sm_get lv1 0 = some (.ref 32) → sm_get lv1 1 = some (.int (nI 0)) → Bod (d + 8) 123 2 lv1 [] (S) v Sf) : Bod (d + 8) 123 0 [(0, .ref 32)] [] S v Sf := by
  refine Bod.ic 0 (by decide) dc_123_0 ?_
  refine Bod.istn dc_123_1 (by rw [ml_123]; exact Nat.le_of_ble_eq_true rfl) ?_
  exact hB _ (by first | rfl | exact (by repeat (first | exact rfl | exact sm_get_p1 | exact sm_get_p2e | refine sm_get_p1m (by decide) (by decide) ?_ | refine sm_get_p1n (by decide) rfl ?_ | refine sm_get_p2n (by decide) (by decide) rfl ?_))) (by first | rfl | exact (by repeat (first | exact rfl | exact sm_get_p1 | exact sm_get_p2e | refine sm_get_p1m (by decide) (by decide) ?_ | refine sm_get_p1n (by decide) rfl ?_ | refine sm_get_p2n (by decide) (by decide) rfl ?_)))
theorem cSeA_1 {d : Nat} {S Sf : cS} {v : Option Value} {lv : sm_L} {i : Nat} {en : Nat} (q0 : sm_get lv 0 = some (.ref 32)) (q1 : sm_get lv 1 = some (.int (nI i))) (mi : i < 2 ^ 20) (hen : sI S 3213 = nI en) (men : en < 2 ^ 20) (b1 : en ≤ i) (hB : ∀ lv1 : sm_L, sm_get lv1 0 = some (.ref 32) → sm_get lv1 1 = some (.int (nI 0)) → Bod (d + 8) 123 72 lv1 [] (S) v Sf) : Bod (d + 8) 123 2 lv [] S v Sf := by
  refine Bod.ildnG dc_123_2 (by repeat (first | exact q1 | exact sm_get_p1 | exact sm_get_p2e | refine sm_get_p1m (by decide) (by decide) ?_ | refine sm_get_p1n (by decide) rfl ?_ | refine sm_get_p2n (by decide) (by decide) rfl ?_)) ?_
  refine Bod.aldnG dc_123_3 (by repeat (first | exact q0 | exact sm_get_p1 | exact sm_get_p2e | refine sm_get_p1m (by decide) (by decide) ?_ | refine sm_get_p1n (by decide) rfl ?_ | refine sm_get_p2n (by decide) (by decide) rfl ?_)) ?_
  refine Bod.get dc_123_4 fr_123_51 (mk_32 _) rfl ?_
  refine Bod.eqI (nI en) (by first | assumption | rfl | exact congrArg nI (by omega) | (simp (disch := omega) only [rI, rIe, rA, rIA, rLA, rJA, rVI, rQI, rVA, rQA, upd_at,  rAI, rLI, rJI, nI_add, pk_sub, kc_0, kc_1, kc_2, kc_3, kc_4, kc_5, reduceIte, Nat.reduceEqDiff, Nat.add_zero, rI_hold, rI_hold, rL_hold, hen]; done)) ?_
  refine Bod.icT dc_123_7 rfl (k2_ge_T i en rfl rfl (by omega) (by omega)) ?_
  refine Bod.ic 0 (by decide) dc_123_70 ?_
  refine Bod.istn dc_123_71 (by rw [ml_123]; exact Nat.le_of_ble_eq_true rfl) ?_
  exact hB _ (by repeat (first | exact q0 | exact sm_get_p1 | exact sm_get_p2e | refine sm_get_p1m (by decide) (by decide) ?_ | refine sm_get_p1n (by decide) rfl ?_ | refine sm_get_p2n (by decide) (by decide) rfl ?_)) (by repeat (first | exact q0 | exact sm_get_p1 | exact sm_get_p2e | refine sm_get_p1m (by decide) (by decide) ?_ | refine sm_get_p1n (by decide) rfl ?_ | refine sm_get_p2n (by decide) (by decide) rfl ?_))
theorem cSeA_2 {d : Nat} {S Sf : cS} {v : Option Value} {lv : sm_L} {i : Nat} {en : Nat} (q0 : sm_get lv 0 = some (.ref 32)) (q1 : sm_get lv 1 = some (.int (nI i))) (mi : i < 2 ^ 20) (hen : sI S 3213 = nI en) (men : en < 2 ^ 20) (b1 : i < en) (b2 : 1600 ≤ i) (hB : ∀ lv1 : sm_L, sm_get lv1 0 = some (.ref 32) → sm_get lv1 1 = some (.int (nI 0)) → Bod (d + 8) 123 72 lv1 [] (S) v Sf) : Bod (d + 8) 123 2 lv [] S v Sf := by
  refine Bod.ildnG dc_123_2 (by repeat (first | exact q1 | exact sm_get_p1 | exact sm_get_p2e | refine sm_get_p1m (by decide) (by decide) ?_ | refine sm_get_p1n (by decide) rfl ?_ | refine sm_get_p2n (by decide) (by decide) rfl ?_)) ?_
  refine Bod.aldnG dc_123_3 (by repeat (first | exact q0 | exact sm_get_p1 | exact sm_get_p2e | refine sm_get_p1m (by decide) (by decide) ?_ | refine sm_get_p1n (by decide) rfl ?_ | refine sm_get_p2n (by decide) (by decide) rfl ?_)) ?_
  refine Bod.get dc_123_4 fr_123_51 (mk_32 _) rfl ?_
  refine Bod.eqI (nI en) (by first | assumption | rfl | exact congrArg nI (by omega) | (simp (disch := omega) only [rI, rIe, rA, rIA, rLA, rJA, rVI, rQI, rVA, rQA, upd_at,  rAI, rLI, rJI, nI_add, pk_sub, kc_0, kc_1, kc_2, kc_3, kc_4, kc_5, reduceIte, Nat.reduceEqDiff, Nat.add_zero, rI_hold, rI_hold, rL_hold, hen]; done)) ?_
  refine Bod.icF dc_123_7 rfl (k2_ge_F i en rfl rfl (by omega) (by omega)) ?_
  refine Bod.ildnG dc_123_10 (by repeat (first | exact q1 | exact sm_get_p1 | exact sm_get_p2e | refine sm_get_p1m (by decide) (by decide) ?_ | refine sm_get_p1n (by decide) rfl ?_ | refine sm_get_p2n (by decide) (by decide) rfl ?_)) ?_
  refine Bod.sip 1600 (by decide) dc_123_11 ?_
  refine Bod.icT dc_123_14 rfl (k2_ge_T i 1600 rfl rfl (by omega) (by omega)) ?_
  refine Bod.ic 0 (by decide) dc_123_70 ?_
  refine Bod.istn dc_123_71 (by rw [ml_123]; exact Nat.le_of_ble_eq_true rfl) ?_
  exact hB _ (by repeat (first | exact q0 | exact sm_get_p1 | exact sm_get_p2e | refine sm_get_p1m (by decide) (by decide) ?_ | refine sm_get_p1n (by decide) rfl ?_ | refine sm_get_p2n (by decide) (by decide) rfl ?_)) (by repeat (first | exact q0 | exact sm_get_p1 | exact sm_get_p2e | refine sm_get_p1m (by decide) (by decide) ?_ | refine sm_get_p1n (by decide) rfl ?_ | refine sm_get_p2n (by decide) (by decide) rfl ?_))
theorem cSeA_3 {d : Nat} {S Sf : cS} {v : Option Value} {lv : sm_L} {i : Nat} {en : Nat} {e37 : Nat} {e38 : Nat} (q0 : sm_get lv 0 = some (.ref 32)) (q1 : sm_get lv 1 = some (.int (nI i))) (mi : i < 2 ^ 20) (hen : sI S 3213 = nI en) (men : en < 2 ^ 20) (b1 : i < en) (b2 : i < 1600) (he37 : sA S 37 i = nI e37) (me37 : e37 < 2 ^ 20) (he38 : sA S 38 i = nI e38) (me38 : e38 < 2 ^ 20) (b3 : e38 = 2) (hB : ∀ lv1 : sm_L, sm_get lv1 0 = some (.ref 32) → sm_get lv1 1 = some (.int (nI (i + 1))) → Bod (d + 8) 123 2 lv1 [] (S) v Sf) : Bod (d + 8) 123 2 lv [] S v Sf := by
  refine Bod.ildnG dc_123_2 (by repeat (first | exact q1 | exact sm_get_p1 | exact sm_get_p2e | refine sm_get_p1m (by decide) (by decide) ?_ | refine sm_get_p1n (by decide) rfl ?_ | refine sm_get_p2n (by decide) (by decide) rfl ?_)) ?_
  refine Bod.aldnG dc_123_3 (by repeat (first | exact q0 | exact sm_get_p1 | exact sm_get_p2e | refine sm_get_p1m (by decide) (by decide) ?_ | refine sm_get_p1n (by decide) rfl ?_ | refine sm_get_p2n (by decide) (by decide) rfl ?_)) ?_
  refine Bod.get dc_123_4 fr_123_51 (mk_32 _) rfl ?_
  refine Bod.eqI (nI en) (by first | assumption | rfl | exact congrArg nI (by omega) | (simp (disch := omega) only [rI, rIe, rA, rIA, rLA, rJA, rVI, rQI, rVA, rQA, upd_at,  rAI, rLI, rJI, nI_add, pk_sub, kc_0, kc_1, kc_2, kc_3, kc_4, kc_5, reduceIte, Nat.reduceEqDiff, Nat.add_zero, rI_hold, rI_hold, rL_hold, hen]; done)) ?_
  refine Bod.icF dc_123_7 rfl (k2_ge_F i en rfl rfl (by omega) (by omega)) ?_
  refine Bod.ildnG dc_123_10 (by repeat (first | exact q1 | exact sm_get_p1 | exact sm_get_p2e | refine sm_get_p1m (by decide) (by decide) ?_ | refine sm_get_p1n (by decide) rfl ?_ | refine sm_get_p2n (by decide) (by decide) rfl ?_)) ?_
  refine Bod.sip 1600 (by decide) dc_123_11 ?_
  refine Bod.icF dc_123_14 rfl (k2_ge_F i 1600 rfl rfl (by omega) (by omega)) ?_
  refine Bod.aldnG dc_123_17 (by repeat (first | exact q0 | exact sm_get_p1 | exact sm_get_p2e | refine sm_get_p1m (by decide) (by decide) ?_ | refine sm_get_p1n (by decide) rfl ?_ | refine sm_get_p2n (by decide) (by decide) rfl ?_)) ?_
  refine Bod.get dc_123_18 fr_123_26 (mk_32 _) rfl ?_
  refine Bod.ildnG dc_123_21 (by repeat (first | exact q1 | exact sm_get_p1 | exact sm_get_p2e | refine sm_get_p1m (by decide) (by decide) ?_ | refine sm_get_p1n (by decide) rfl ?_ | refine sm_get_p2n (by decide) (by decide) rfl ?_)) ?_
  refine Bod.ialdN i rfl (by omega) (by omega) dc_123_22 (mk_37 _) ?_
  refine Bod.eqI (nI e37) (by first | assumption | rfl | exact congrArg nI (by omega) | (simp (disch := omega) only [rI, rIe, rA, rIA, rLA, rJA, rVI, rQI, rVA, rQA, upd_at,  rAI, rLI, rJI, nI_add, pk_sub, kc_0, kc_1, kc_2, kc_3, kc_4, kc_5, reduceIte, Nat.reduceEqDiff, Nat.add_zero, rI_hold, rI_hold, rL_hold, hen, he37]; done)) ?_
  refine Bod.istn dc_123_23 (by rw [ml_123]; exact Nat.le_of_ble_eq_true rfl) ?_
  refine Bod.aldnG dc_123_24 (by repeat (first | exact q0 | exact sm_get_p1 | exact sm_get_p2e | refine sm_get_p1m (by decide) (by decide) ?_ | refine sm_get_p1n (by decide) rfl ?_ | refine sm_get_p2n (by decide) (by decide) rfl ?_)) ?_
  refine Bod.get dc_123_25 fr_123_29 (mk_32 _) rfl ?_
  refine Bod.ildnG dc_123_28 (by repeat (first | exact q1 | exact sm_get_p1 | exact sm_get_p2e | refine sm_get_p1m (by decide) (by decide) ?_ | refine sm_get_p1n (by decide) rfl ?_ | refine sm_get_p2n (by decide) (by decide) rfl ?_)) ?_
  refine Bod.ialdN i rfl (by omega) (by omega) dc_123_29 (mk_38 _) ?_
  refine Bod.eqI (nI e38) (by first | assumption | rfl | exact congrArg nI (by omega) | (simp (disch := omega) only [rI, rIe, rA, rIA, rLA, rJA, rVI, rQI, rVA, rQA, upd_at,  rAI, rLI, rJI, nI_add, pk_sub, kc_0, kc_1, kc_2, kc_3, kc_4, kc_5, reduceIte, Nat.reduceEqDiff, Nat.add_zero, rI_hold, rI_hold, rL_hold, hen, he37, he38]; done)) ?_
  refine Bod.ic 2 (by decide) dc_123_30 ?_
  refine Bod.icT dc_123_31 rfl (k2_eq_T (k_eq e38 2 rfl rfl (by omega))) ?_
  refine Bod.incN (i + 1) (by rw [kc_1, nI_add]) dc_123_64 (by rw [ml_123]; exact Nat.le_of_ble_eq_true rfl) (by repeat (first | exact q1 | exact sm_get_p1 | exact sm_get_p2e | refine sm_get_p1m (by decide) (by decide) ?_ | refine sm_get_p1n (by decide) rfl ?_ | refine sm_get_p2n (by decide) (by decide) rfl ?_)) ?_
  refine Bod.go dc_123_67 rfl ?_
  exact hB _ (by repeat (first | exact q0 | exact sm_get_p1 | exact sm_get_p2e | refine sm_get_p1m (by decide) (by decide) ?_ | refine sm_get_p1n (by decide) rfl ?_ | refine sm_get_p2n (by decide) (by decide) rfl ?_)) (by repeat (first | exact q0 | exact sm_get_p1 | exact sm_get_p2e | refine sm_get_p1m (by decide) (by decide) ?_ | refine sm_get_p1n (by decide) rfl ?_ | refine sm_get_p2n (by decide) (by decide) rfl ?_))
theorem cSeA_4 {d : Nat} {S Sf : cS} {v : Option Value} {lv : sm_L} {i : Nat} {en : Nat} {e37 : Nat} {e38 : Nat} (q0 : sm_get lv 0 = some (.ref 32)) (q1 : sm_get lv 1 = some (.int (nI i))) (mi : i < 2 ^ 20) (hen : sI S 3213 = nI en) (men : en < 2 ^ 20) (b1 : i < en) (b2 : i < 1600) (he37 : sA S 37 i = nI e37) (me37 : e37 < 2 ^ 20) (he38 : sA S 38 i = nI e38) (me38 : e38 < 2 ^ 20) (b3 : e38 ≠ 2) (b4 : 300 ≤ e37) (hB : ∀ lv1 : sm_L, sm_get lv1 0 = some (.ref 32) → sm_get lv1 1 = some (.int (nI (i + 1))) → Bod (d + 8) 123 2 lv1 [] (S) v Sf) : Bod (d + 8) 123 2 lv [] S v Sf := by
  refine Bod.ildnG dc_123_2 (by repeat (first | exact q1 | exact sm_get_p1 | exact sm_get_p2e | refine sm_get_p1m (by decide) (by decide) ?_ | refine sm_get_p1n (by decide) rfl ?_ | refine sm_get_p2n (by decide) (by decide) rfl ?_)) ?_
  refine Bod.aldnG dc_123_3 (by repeat (first | exact q0 | exact sm_get_p1 | exact sm_get_p2e | refine sm_get_p1m (by decide) (by decide) ?_ | refine sm_get_p1n (by decide) rfl ?_ | refine sm_get_p2n (by decide) (by decide) rfl ?_)) ?_
  refine Bod.get dc_123_4 fr_123_51 (mk_32 _) rfl ?_
  refine Bod.eqI (nI en) (by first | assumption | rfl | exact congrArg nI (by omega) | (simp (disch := omega) only [rI, rIe, rA, rIA, rLA, rJA, rVI, rQI, rVA, rQA, upd_at,  rAI, rLI, rJI, nI_add, pk_sub, kc_0, kc_1, kc_2, kc_3, kc_4, kc_5, reduceIte, Nat.reduceEqDiff, Nat.add_zero, rI_hold, rI_hold, rL_hold, hen]; done)) ?_
  refine Bod.icF dc_123_7 rfl (k2_ge_F i en rfl rfl (by omega) (by omega)) ?_
  refine Bod.ildnG dc_123_10 (by repeat (first | exact q1 | exact sm_get_p1 | exact sm_get_p2e | refine sm_get_p1m (by decide) (by decide) ?_ | refine sm_get_p1n (by decide) rfl ?_ | refine sm_get_p2n (by decide) (by decide) rfl ?_)) ?_
  refine Bod.sip 1600 (by decide) dc_123_11 ?_
  refine Bod.icF dc_123_14 rfl (k2_ge_F i 1600 rfl rfl (by omega) (by omega)) ?_
  refine Bod.aldnG dc_123_17 (by repeat (first | exact q0 | exact sm_get_p1 | exact sm_get_p2e | refine sm_get_p1m (by decide) (by decide) ?_ | refine sm_get_p1n (by decide) rfl ?_ | refine sm_get_p2n (by decide) (by decide) rfl ?_)) ?_
  refine Bod.get dc_123_18 fr_123_26 (mk_32 _) rfl ?_
  refine Bod.ildnG dc_123_21 (by repeat (first | exact q1 | exact sm_get_p1 | exact sm_get_p2e | refine sm_get_p1m (by decide) (by decide) ?_ | refine sm_get_p1n (by decide) rfl ?_ | refine sm_get_p2n (by decide) (by decide) rfl ?_)) ?_
  refine Bod.ialdN i rfl (by omega) (by omega) dc_123_22 (mk_37 _) ?_
  refine Bod.eqI (nI e37) (by first | assumption | rfl | exact congrArg nI (by omega) | (simp (disch := omega) only [rI, rIe, rA, rIA, rLA, rJA, rVI, rQI, rVA, rQA, upd_at,  rAI, rLI, rJI, nI_add, pk_sub, kc_0, kc_1, kc_2, kc_3, kc_4, kc_5, reduceIte, Nat.reduceEqDiff, Nat.add_zero, rI_hold, rI_hold, rL_hold, hen, he37]; done)) ?_
  refine Bod.istn dc_123_23 (by rw [ml_123]; exact Nat.le_of_ble_eq_true rfl) ?_
  refine Bod.aldnG dc_123_24 (by repeat (first | exact q0 | exact sm_get_p1 | exact sm_get_p2e | refine sm_get_p1m (by decide) (by decide) ?_ | refine sm_get_p1n (by decide) rfl ?_ | refine sm_get_p2n (by decide) (by decide) rfl ?_)) ?_
  refine Bod.get dc_123_25 fr_123_29 (mk_32 _) rfl ?_
  refine Bod.ildnG dc_123_28 (by repeat (first | exact q1 | exact sm_get_p1 | exact sm_get_p2e | refine sm_get_p1m (by decide) (by decide) ?_ | refine sm_get_p1n (by decide) rfl ?_ | refine sm_get_p2n (by decide) (by decide) rfl ?_)) ?_
  refine Bod.ialdN i rfl (by omega) (by omega) dc_123_29 (mk_38 _) ?_
  refine Bod.eqI (nI e38) (by first | assumption | rfl | exact congrArg nI (by omega) | (simp (disch := omega) only [rI, rIe, rA, rIA, rLA, rJA, rVI, rQI, rVA, rQA, upd_at,  rAI, rLI, rJI, nI_add, pk_sub, kc_0, kc_1, kc_2, kc_3, kc_4, kc_5, reduceIte, Nat.reduceEqDiff, Nat.add_zero, rI_hold, rI_hold, rL_hold, hen, he37, he38]; done)) ?_
  refine Bod.ic 2 (by decide) dc_123_30 ?_
  refine Bod.icF dc_123_31 rfl (k2_eq_F (k_ne e38 2 rfl rfl (by omega) (by omega) (by omega))) ?_
  refine Bod.ildnG dc_123_34 (by repeat (first | exact q0 | exact sm_get_p1 | exact sm_get_p2e | refine sm_get_p1m (by decide) (by decide) ?_ | refine sm_get_p1n (by decide) rfl ?_ | refine sm_get_p2n (by decide) (by decide) rfl ?_)) ?_
  refine Bod.ifF dc_123_35 rfl (k1_lt_F e37 rfl (by omega)) ?_
  refine Bod.ildnG dc_123_38 (by repeat (first | exact q0 | exact sm_get_p1 | exact sm_get_p2e | refine sm_get_p1m (by decide) (by decide) ?_ | refine sm_get_p1n (by decide) rfl ?_ | refine sm_get_p2n (by decide) (by decide) rfl ?_)) ?_
  refine Bod.sip 300 (by decide) dc_123_39 ?_
  refine Bod.icT dc_123_42 rfl (k2_ge_T e37 300 rfl rfl (by omega) (by omega)) ?_
  refine Bod.incN (i + 1) (by rw [kc_1, nI_add]) dc_123_64 (by rw [ml_123]; exact Nat.le_of_ble_eq_true rfl) (by repeat (first | exact q1 | exact sm_get_p1 | exact sm_get_p2e | refine sm_get_p1m (by decide) (by decide) ?_ | refine sm_get_p1n (by decide) rfl ?_ | refine sm_get_p2n (by decide) (by decide) rfl ?_)) ?_
  refine Bod.go dc_123_67 rfl ?_
  exact hB _ (by repeat (first | exact q0 | exact sm_get_p1 | exact sm_get_p2e | refine sm_get_p1m (by decide) (by decide) ?_ | refine sm_get_p1n (by decide) rfl ?_ | refine sm_get_p2n (by decide) (by decide) rfl ?_)) (by repeat (first | exact q0 | exact sm_get_p1 | exact sm_get_p2e | refine sm_get_p1m (by decide) (by decide) ?_ | refine sm_get_p1n (by decide) rfl ?_ | refine sm_get_p2n (by decide) (by decide) rfl ?_))
theorem cSeA_5 {d : Nat} {S Sf : cS} {v : Option Value} {lv : sm_L} {i : Nat} {en : Nat} {e37 : Nat} {e38 : Nat} {e34 : Nat} {S1 : cS} {a : Nat} (q0 : sm_get lv 0 = some (.ref 32)) (q1 : sm_get lv 1 = some (.int (nI i))) (mi : i < 2 ^ 20) (hen : sI S 3213 = nI en) (men : en < 2 ^ 20) (b1 : i < en) (b2 : i < 1600) (he37 : sA S 37 i = nI e37) (me37 : e37 < 2 ^ 20) (he38 : sA S 38 i = nI e38) (me38 : e38 < 2 ^ 20) (b3 : e38 ≠ 2) (b4 : e37 < 300) (he34 : sA S 34 e37 = nI e34) (me34 : e34 < 2 ^ 20) (ma : a < 2 ^ 20) (c1 : Ans (d + 8) 124 [.ref 23, .int (nI e34)] S (some (.int (nI a))) S1) (hB : ∀ lv1 : sm_L, sm_get lv1 0 = some (.ref 32) → sm_get lv1 1 = some (.int (nI (i + 1))) → Bod (d + 8) 123 2 lv1 [] (wA 39 i (nI a) S1) v Sf) : Bod (d + 8) 123 2 lv [] S v Sf := by
  refine Bod.ildnG dc_123_2 (by repeat (first | exact q1 | exact sm_get_p1 | exact sm_get_p2e | refine sm_get_p1m (by decide) (by decide) ?_ | refine sm_get_p1n (by decide) rfl ?_ | refine sm_get_p2n (by decide) (by decide) rfl ?_)) ?_
  refine Bod.aldnG dc_123_3 (by repeat (first | exact q0 | exact sm_get_p1 | exact sm_get_p2e | refine sm_get_p1m (by decide) (by decide) ?_ | refine sm_get_p1n (by decide) rfl ?_ | refine sm_get_p2n (by decide) (by decide) rfl ?_)) ?_
  refine Bod.get dc_123_4 fr_123_51 (mk_32 _) rfl ?_
  refine Bod.eqI (nI en) (by first | assumption | rfl | exact congrArg nI (by omega) | (simp (disch := omega) only [rI, rIe, rA, rIA, rLA, rJA, rVI, rQI, rVA, rQA, upd_at,  rAI, rLI, rJI, nI_add, pk_sub, kc_0, kc_1, kc_2, kc_3, kc_4, kc_5, reduceIte, Nat.reduceEqDiff, Nat.add_zero, rI_hold, rI_hold, rL_hold, hen]; done)) ?_
  refine Bod.icF dc_123_7 rfl (k2_ge_F i en rfl rfl (by omega) (by omega)) ?_
  refine Bod.ildnG dc_123_10 (by repeat (first | exact q1 | exact sm_get_p1 | exact sm_get_p2e | refine sm_get_p1m (by decide) (by decide) ?_ | refine sm_get_p1n (by decide) rfl ?_ | refine sm_get_p2n (by decide) (by decide) rfl ?_)) ?_
  refine Bod.sip 1600 (by decide) dc_123_11 ?_
  refine Bod.icF dc_123_14 rfl (k2_ge_F i 1600 rfl rfl (by omega) (by omega)) ?_
  refine Bod.aldnG dc_123_17 (by repeat (first | exact q0 | exact sm_get_p1 | exact sm_get_p2e | refine sm_get_p1m (by decide) (by decide) ?_ | refine sm_get_p1n (by decide) rfl ?_ | refine sm_get_p2n (by decide) (by decide) rfl ?_)) ?_
  refine Bod.get dc_123_18 fr_123_26 (mk_32 _) rfl ?_
  refine Bod.ildnG dc_123_21 (by repeat (first | exact q1 | exact sm_get_p1 | exact sm_get_p2e | refine sm_get_p1m (by decide) (by decide) ?_ | refine sm_get_p1n (by decide) rfl ?_ | refine sm_get_p2n (by decide) (by decide) rfl ?_)) ?_
  refine Bod.ialdN i rfl (by omega) (by omega) dc_123_22 (mk_37 _) ?_
  refine Bod.eqI (nI e37) (by first | assumption | rfl | exact congrArg nI (by omega) | (simp (disch := omega) only [rI, rIe, rA, rIA, rLA, rJA, rVI, rQI, rVA, rQA, upd_at,  rAI, rLI, rJI, nI_add, pk_sub, kc_0, kc_1, kc_2, kc_3, kc_4, kc_5, reduceIte, Nat.reduceEqDiff, Nat.add_zero, rI_hold, rI_hold, rL_hold, hen, he37]; done)) ?_
  refine Bod.istn dc_123_23 (by rw [ml_123]; exact Nat.le_of_ble_eq_true rfl) ?_
  refine Bod.aldnG dc_123_24 (by repeat (first | exact q0 | exact sm_get_p1 | exact sm_get_p2e | refine sm_get_p1m (by decide) (by decide) ?_ | refine sm_get_p1n (by decide) rfl ?_ | refine sm_get_p2n (by decide) (by decide) rfl ?_)) ?_
  refine Bod.get dc_123_25 fr_123_29 (mk_32 _) rfl ?_
  refine Bod.ildnG dc_123_28 (by repeat (first | exact q1 | exact sm_get_p1 | exact sm_get_p2e | refine sm_get_p1m (by decide) (by decide) ?_ | refine sm_get_p1n (by decide) rfl ?_ | refine sm_get_p2n (by decide) (by decide) rfl ?_)) ?_
  refine Bod.ialdN i rfl (by omega) (by omega) dc_123_29 (mk_38 _) ?_
  refine Bod.eqI (nI e38) (by first | assumption | rfl | exact congrArg nI (by omega) | (simp (disch := omega) only [rI, rIe, rA, rIA, rLA, rJA, rVI, rQI, rVA, rQA, upd_at,  rAI, rLI, rJI, nI_add, pk_sub, kc_0, kc_1, kc_2, kc_3, kc_4, kc_5, reduceIte, Nat.reduceEqDiff, Nat.add_zero, rI_hold, rI_hold, rL_hold, hen, he37, he38]; done)) ?_
  refine Bod.ic 2 (by decide) dc_123_30 ?_
  refine Bod.icF dc_123_31 rfl (k2_eq_F (k_ne e38 2 rfl rfl (by omega) (by omega) (by omega))) ?_
  refine Bod.ildnG dc_123_34 (by repeat (first | exact q0 | exact sm_get_p1 | exact sm_get_p2e | refine sm_get_p1m (by decide) (by decide) ?_ | refine sm_get_p1n (by decide) rfl ?_ | refine sm_get_p2n (by decide) (by decide) rfl ?_)) ?_
  refine Bod.ifF dc_123_35 rfl (k1_lt_F e37 rfl (by omega)) ?_
  refine Bod.ildnG dc_123_38 (by repeat (first | exact q0 | exact sm_get_p1 | exact sm_get_p2e | refine sm_get_p1m (by decide) (by decide) ?_ | refine sm_get_p1n (by decide) rfl ?_ | refine sm_get_p2n (by decide) (by decide) rfl ?_)) ?_
  refine Bod.sip 300 (by decide) dc_123_39 ?_
  refine Bod.icF dc_123_42 rfl (k2_ge_F e37 300 rfl rfl (by omega) (by omega)) ?_
  refine Bod.aldnG dc_123_45 (by repeat (first | exact q0 | exact sm_get_p1 | exact sm_get_p2e | refine sm_get_p1m (by decide) (by decide) ?_ | refine sm_get_p1n (by decide) rfl ?_ | refine sm_get_p2n (by decide) (by decide) rfl ?_)) ?_
  refine Bod.get dc_123_46 fr_123_32 (mk_32 _) rfl ?_
  refine Bod.ildnG dc_123_49 (by repeat (first | exact q1 | exact sm_get_p1 | exact sm_get_p2e | refine sm_get_p1m (by decide) (by decide) ?_ | refine sm_get_p1n (by decide) rfl ?_ | refine sm_get_p2n (by decide) (by decide) rfl ?_)) ?_
  refine Bod.aldnG dc_123_50 (by repeat (first | exact q0 | exact sm_get_p1 | exact sm_get_p2e | refine sm_get_p1m (by decide) (by decide) ?_ | refine sm_get_p1n (by decide) rfl ?_ | refine sm_get_p2n (by decide) (by decide) rfl ?_)) ?_
  refine Bod.get dc_123_51 fr_123_7 (mk_32 _) rfl ?_
  refine Bod.aldnG dc_123_54 (by repeat (first | exact q0 | exact sm_get_p1 | exact sm_get_p2e | refine sm_get_p1m (by decide) (by decide) ?_ | refine sm_get_p1n (by decide) rfl ?_ | refine sm_get_p2n (by decide) (by decide) rfl ?_)) ?_
  refine Bod.get dc_123_55 fr_123_17 (mk_32 _) rfl ?_
  refine Bod.ildnG dc_123_58 (by repeat (first | exact q0 | exact sm_get_p1 | exact sm_get_p2e | refine sm_get_p1m (by decide) (by decide) ?_ | refine sm_get_p1n (by decide) rfl ?_ | refine sm_get_p2n (by decide) (by decide) rfl ?_)) ?_
  refine Bod.ialdN e37 rfl (by omega) (by omega) dc_123_59 (mk_34 _) ?_
  refine Bod.eqI (nI e34) (by first | assumption | rfl | exact congrArg nI (by omega) | (simp (disch := omega) only [rI, rIe, rA, rIA, rLA, rJA, rVI, rQI, rVA, rQA, upd_at,  rAI, rLI, rJI, nI_add, pk_sub, kc_0, kc_1, kc_2, kc_3, kc_4, kc_5, reduceIte, Nat.reduceEqDiff, Nat.add_zero, rI_hold, rI_hold, rL_hold, hen, he37, he38, he34]; done)) ?_
  refine Bod.virt (r := [_, _]) dc_123_60 kr_123_79 ⟨Or.inr rfl, ow_124, cl_7⟩ (by rw [np_124]; rfl) (by rw [np_124]; rfl) (ob_of (mk_23 _)) (Nat.le_of_ble_eq_true rfl) (c1  ) ?_
  show Bod _ _ _ _ [_, _, _] _ _ _
  refine Bod.iastN i rfl (by omega) (by omega) dc_123_63 (mk_39 _) (sa_39 _ _ _) (mu_A _ _ _ _) ?_
  refine Bod.incN (i + 1) (by rw [kc_1, nI_add]) dc_123_64 (by rw [ml_123]; exact Nat.le_of_ble_eq_true rfl) (by repeat (first | exact q1 | exact sm_get_p1 | exact sm_get_p2e | refine sm_get_p1m (by decide) (by decide) ?_ | refine sm_get_p1n (by decide) rfl ?_ | refine sm_get_p2n (by decide) (by decide) rfl ?_)) ?_
  refine Bod.go dc_123_67 rfl ?_
  exact hB _ (by repeat (first | exact q0 | exact sm_get_p1 | exact sm_get_p2e | refine sm_get_p1m (by decide) (by decide) ?_ | refine sm_get_p1n (by decide) rfl ?_ | refine sm_get_p2n (by decide) (by decide) rfl ?_)) (by repeat (first | exact q0 | exact sm_get_p1 | exact sm_get_p2e | refine sm_get_p1m (by decide) (by decide) ?_ | refine sm_get_p1n (by decide) rfl ?_ | refine sm_get_p2n (by decide) (by decide) rfl ?_))
theorem cSeB_1 {d : Nat} {S : cS} {lv : sm_L} {i : Nat} {fx : Nat} (q0 : sm_get lv 0 = some (.ref 32)) (q1 : sm_get lv 1 = some (.int (nI i))) (mi : i < 2 ^ 20) (hfx : sI S 3214 = nI fx) (mfx : fx < 2 ^ 20) (b1 : fx ≤ i) : Bod (d + 8) 123 72 lv [] S none (S) := by
  refine Bod.ildnG dc_123_72 (by repeat (first | exact q1 | exact sm_get_p1 | exact sm_get_p2e | refine sm_get_p1m (by decide) (by decide) ?_ | refine sm_get_p1n (by decide) rfl ?_ | refine sm_get_p2n (by decide) (by decide) rfl ?_)) ?_
  refine Bod.aldnG dc_123_73 (by repeat (first | exact q0 | exact sm_get_p1 | exact sm_get_p2e | refine sm_get_p1m (by decide) (by decide) ?_ | refine sm_get_p1n (by decide) rfl ?_ | refine sm_get_p2n (by decide) (by decide) rfl ?_)) ?_
  refine Bod.get dc_123_74 fr_123_54 (mk_32 _) rfl ?_
  refine Bod.eqI (nI fx) (by first | assumption | rfl | exact congrArg nI (by omega) | (simp (disch := omega) only [rI, rIe, rA, rIA, rLA, rJA, rVI, rQI, rVA, rQA, upd_at,  rAI, rLI, rJI, nI_add, pk_sub, kc_0, kc_1, kc_2, kc_3, kc_4, kc_5, reduceIte, Nat.reduceEqDiff, Nat.add_zero, rI_hold, rI_hold, rL_hold, hfx]; done)) ?_
  refine Bod.icT dc_123_77 rfl (k2_ge_T i fx rfl rfl (by omega) (by omega)) ?_
  exact Bod.retV dc_123_109 rt_123
theorem cSeB_2 {d : Nat} {S : cS} {lv : sm_L} {i : Nat} {fx : Nat} (q0 : sm_get lv 0 = some (.ref 32)) (q1 : sm_get lv 1 = some (.int (nI i))) (mi : i < 2 ^ 20) (hfx : sI S 3214 = nI fx) (mfx : fx < 2 ^ 20) (b1 : i < fx) (b2 : 1600 ≤ i) : Bod (d + 8) 123 72 lv [] S none (S) := by
  refine Bod.ildnG dc_123_72 (by repeat (first | exact q1 | exact sm_get_p1 | exact sm_get_p2e | refine sm_get_p1m (by decide) (by decide) ?_ | refine sm_get_p1n (by decide) rfl ?_ | refine sm_get_p2n (by decide) (by decide) rfl ?_)) ?_
  refine Bod.aldnG dc_123_73 (by repeat (first | exact q0 | exact sm_get_p1 | exact sm_get_p2e | refine sm_get_p1m (by decide) (by decide) ?_ | refine sm_get_p1n (by decide) rfl ?_ | refine sm_get_p2n (by decide) (by decide) rfl ?_)) ?_
  refine Bod.get dc_123_74 fr_123_54 (mk_32 _) rfl ?_
  refine Bod.eqI (nI fx) (by first | assumption | rfl | exact congrArg nI (by omega) | (simp (disch := omega) only [rI, rIe, rA, rIA, rLA, rJA, rVI, rQI, rVA, rQA, upd_at,  rAI, rLI, rJI, nI_add, pk_sub, kc_0, kc_1, kc_2, kc_3, kc_4, kc_5, reduceIte, Nat.reduceEqDiff, Nat.add_zero, rI_hold, rI_hold, rL_hold, hfx]; done)) ?_
  refine Bod.icF dc_123_77 rfl (k2_ge_F i fx rfl rfl (by omega) (by omega)) ?_
  refine Bod.ildnG dc_123_80 (by repeat (first | exact q1 | exact sm_get_p1 | exact sm_get_p2e | refine sm_get_p1m (by decide) (by decide) ?_ | refine sm_get_p1n (by decide) rfl ?_ | refine sm_get_p2n (by decide) (by decide) rfl ?_)) ?_
  refine Bod.sip 1600 (by decide) dc_123_81 ?_
  refine Bod.icT dc_123_84 rfl (k2_ge_T i 1600 rfl rfl (by omega) (by omega)) ?_
  exact Bod.retV dc_123_109 rt_123
theorem cSeB_3 {d : Nat} {S Sf : cS} {v : Option Value} {lv : sm_L} {i : Nat} {fx : Nat} {e41 : Nat} {e42 : Nat} {S1 : cS} (q0 : sm_get lv 0 = some (.ref 32)) (q1 : sm_get lv 1 = some (.int (nI i))) (mi : i < 2 ^ 20) (hfx : sI S 3214 = nI fx) (mfx : fx < 2 ^ 20) (b1 : i < fx) (b2 : i < 1600) (he41 : sA S 41 i = nI e41) (me41 : e41 < 2 ^ 20) (he42 : sA S 42 i = nI e42) (me42 : e42 < 2 ^ 20) (c1 : Ans (d + 8) 125 [.ref 32, .int (nI e41), .int (nI e42)] S none S1) (hB : ∀ lv1 : sm_L, sm_get lv1 0 = some (.ref 32) → sm_get lv1 1 = some (.int (nI (i + 1))) → Bod (d + 8) 123 72 lv1 [] (S1) v Sf) : Bod (d + 8) 123 72 lv [] S v Sf := by
  refine Bod.ildnG dc_123_72 (by repeat (first | exact q1 | exact sm_get_p1 | exact sm_get_p2e | refine sm_get_p1m (by decide) (by decide) ?_ | refine sm_get_p1n (by decide) rfl ?_ | refine sm_get_p2n (by decide) (by decide) rfl ?_)) ?_
  refine Bod.aldnG dc_123_73 (by repeat (first | exact q0 | exact sm_get_p1 | exact sm_get_p2e | refine sm_get_p1m (by decide) (by decide) ?_ | refine sm_get_p1n (by decide) rfl ?_ | refine sm_get_p2n (by decide) (by decide) rfl ?_)) ?_
  refine Bod.get dc_123_74 fr_123_54 (mk_32 _) rfl ?_
  refine Bod.eqI (nI fx) (by first | assumption | rfl | exact congrArg nI (by omega) | (simp (disch := omega) only [rI, rIe, rA, rIA, rLA, rJA, rVI, rQI, rVA, rQA, upd_at,  rAI, rLI, rJI, nI_add, pk_sub, kc_0, kc_1, kc_2, kc_3, kc_4, kc_5, reduceIte, Nat.reduceEqDiff, Nat.add_zero, rI_hold, rI_hold, rL_hold, hfx]; done)) ?_
  refine Bod.icF dc_123_77 rfl (k2_ge_F i fx rfl rfl (by omega) (by omega)) ?_
  refine Bod.ildnG dc_123_80 (by repeat (first | exact q1 | exact sm_get_p1 | exact sm_get_p2e | refine sm_get_p1m (by decide) (by decide) ?_ | refine sm_get_p1n (by decide) rfl ?_ | refine sm_get_p2n (by decide) (by decide) rfl ?_)) ?_
  refine Bod.sip 1600 (by decide) dc_123_81 ?_
  refine Bod.icF dc_123_84 rfl (k2_ge_F i 1600 rfl rfl (by omega) (by omega)) ?_
  refine Bod.aldnG dc_123_87 (by repeat (first | exact q0 | exact sm_get_p1 | exact sm_get_p2e | refine sm_get_p1m (by decide) (by decide) ?_ | refine sm_get_p1n (by decide) rfl ?_ | refine sm_get_p2n (by decide) (by decide) rfl ?_)) ?_
  refine Bod.aldnG dc_123_88 (by repeat (first | exact q0 | exact sm_get_p1 | exact sm_get_p2e | refine sm_get_p1m (by decide) (by decide) ?_ | refine sm_get_p1n (by decide) rfl ?_ | refine sm_get_p2n (by decide) (by decide) rfl ?_)) ?_
  refine Bod.get dc_123_89 fr_123_38 (mk_32 _) rfl ?_
  refine Bod.ildnG dc_123_92 (by repeat (first | exact q1 | exact sm_get_p1 | exact sm_get_p2e | refine sm_get_p1m (by decide) (by decide) ?_ | refine sm_get_p1n (by decide) rfl ?_ | refine sm_get_p2n (by decide) (by decide) rfl ?_)) ?_
  refine Bod.ialdN i rfl (by omega) (by omega) dc_123_93 (mk_41 _) ?_
  refine Bod.eqI (nI e41) (by first | assumption | rfl | exact congrArg nI (by omega) | (simp (disch := omega) only [rI, rIe, rA, rIA, rLA, rJA, rVI, rQI, rVA, rQA, upd_at,  rAI, rLI, rJI, nI_add, pk_sub, kc_0, kc_1, kc_2, kc_3, kc_4, kc_5, reduceIte, Nat.reduceEqDiff, Nat.add_zero, rI_hold, rI_hold, rL_hold, hfx, he41]; done)) ?_
  refine Bod.aldnG dc_123_94 (by repeat (first | exact q0 | exact sm_get_p1 | exact sm_get_p2e | refine sm_get_p1m (by decide) (by decide) ?_ | refine sm_get_p1n (by decide) rfl ?_ | refine sm_get_p2n (by decide) (by decide) rfl ?_)) ?_
  refine Bod.get dc_123_95 fr_123_41 (mk_32 _) rfl ?_
  refine Bod.ildnG dc_123_98 (by repeat (first | exact q1 | exact sm_get_p1 | exact sm_get_p2e | refine sm_get_p1m (by decide) (by decide) ?_ | refine sm_get_p1n (by decide) rfl ?_ | refine sm_get_p2n (by decide) (by decide) rfl ?_)) ?_
  refine Bod.ialdN i rfl (by omega) (by omega) dc_123_99 (mk_42 _) ?_
  refine Bod.eqI (nI e42) (by first | assumption | rfl | exact congrArg nI (by omega) | (simp (disch := omega) only [rI, rIe, rA, rIA, rLA, rJA, rVI, rQI, rVA, rQA, upd_at,  rAI, rLI, rJI, nI_add, pk_sub, kc_0, kc_1, kc_2, kc_3, kc_4, kc_5, reduceIte, Nat.reduceEqDiff, Nat.add_zero, rI_hold, rI_hold, rL_hold, hfx, he41, he42]; done)) ?_
  refine Bod.virt (r := []) dc_123_100 kr_123_83 ⟨Or.inl rfl, ow_125, cl_8⟩ (by rw [np_125]; rfl) (by rw [np_125]; rfl) (ob_of (mk_32 _)) (Nat.le_of_ble_eq_true rfl) (c1  ) ?_
  show Bod _ _ _ _ [] _ _ _
  refine Bod.incN (i + 1) (by rw [kc_1, nI_add]) dc_123_103 (by rw [ml_123]; exact Nat.le_of_ble_eq_true rfl) (by repeat (first | exact q1 | exact sm_get_p1 | exact sm_get_p2e | refine sm_get_p1m (by decide) (by decide) ?_ | refine sm_get_p1n (by decide) rfl ?_ | refine sm_get_p2n (by decide) (by decide) rfl ?_)) ?_
  refine Bod.go dc_123_106 rfl ?_
  exact hB _ (by repeat (first | exact q0 | exact sm_get_p1 | exact sm_get_p2e | refine sm_get_p1m (by decide) (by decide) ?_ | refine sm_get_p1n (by decide) rfl ?_ | refine sm_get_p2n (by decide) (by decide) rfl ?_)) (by repeat (first | exact q0 | exact sm_get_p1 | exact sm_get_p2e | refine sm_get_p1m (by decide) (by decide) ?_ | refine sm_get_p1n (by decide) rfl ?_ | refine sm_get_p2n (by decide) (by decide) rfl ?_))
theorem cAdl_1 {d : Nat} {S : cS} {i : Nat} {S1 : cS} {e29 : Nat} (mi : i < 2 ^ 20) (hi : i < 900) (c1 : Ans (d + 8) 103 [.ref 23, .int (nI i)] S (some (.int (nI 1))) S1) (he29 : sA S1 29 i = nI e29) (me29 : e29 < 2 ^ 20) (b1 : 1 ≤ e29 + 1) : Bod (d + 8) 124 0 [(0, .ref 23), (1, .int (nI i))] [] S (some (.int (nI e29))) (wA 29 i (nI (e29 + 1)) S1) := by
  refine Bod.go dc_124_0 rfl ?_
  refine Bod.go dc_124_1 rfl ?_
  refine Bod.virt (r := []) dc_124_2 kr_124_62 ⟨Or.inl rfl, ow_103, cl_7⟩ (by rw [np_103]; rfl) (by rw [np_103]; rfl) (ob_of (mk_23 _)) (Nat.le_of_ble_eq_true rfl) (c1  ) ?_
  show Bod _ _ _ _ [_] _ _ _
  refine Bod.ifT dc_124_5 rfl (k1_ne_T (k_ne 1 0 rfl rfl (by omega) (by omega) (by omega))) ?_
  refine Bod.go dc_124_10 rfl ?_
  refine Bod.get dc_124_11 fr_124_29 (mk_23 _) rfl ?_
  refine Bod.go dc_124_14 rfl ?_
  refine Bod.go dc_124_15 rfl ?_
  refine Bod.ialdN i rfl (by omega) (by omega) dc_124_16 (mk_29 _) ?_
  refine Bod.eqI (nI e29) (by first | (simp (disch := omega) only [rI, rIe, rA, rIA, rLA, rJA, rVI, rQI, rVA, rQA, upd_at,  rAI, rLI, rJI, nI_add, pk_sub, kc_0, kc_1, kc_2, kc_3, kc_4, kc_5, reduceIte, Nat.reduceEqDiff, Nat.add_zero, rI_hold, rI_hold, rL_hold, he29]; done) | (simp (disch := omega) only [rI, rIe, rA, rIA, rLA, rJA, rVI, rQI, rVA, rQA, upd_at,  rAI, rLI, rJI, nI_add, pk_sub, kc_0, kc_1, kc_2, kc_3, kc_4, kc_5, reduceIte, Nat.reduceEqDiff, Nat.add_zero, rI_hold, rI_hold, rL_hold, he29]; exact congrArg nI (by omega))) ?_
  refine Bod.ic 1 (by decide) dc_124_17 ?_
  refine Bod.addN (e29 + 1) (by omega) dc_124_18 ?_
  refine Bod.iastN i rfl (by omega) (by omega) dc_124_19 (mk_29 _) (sa_29 _ _ _) (mu_A _ _ _ _) ?_
  refine Bod.go dc_124_20 rfl ?_
  refine Bod.get dc_124_21 fr_124_29 (mk_23 _) rfl ?_
  refine Bod.go dc_124_24 rfl ?_
  refine Bod.ialdN i rfl (by omega) (by omega) dc_124_25 (mk_29 _) ?_
  refine Bod.eqI (nI (e29 + 1)) (by first | (simp (disch := omega) only [rI, rIe, rA, rIA, rLA, rJA, rVI, rQI, rVA, rQA, upd_at,  rAI, rLI, rJI, nI_add, pk_sub, kc_0, kc_1, kc_2, kc_3, kc_4, kc_5, reduceIte, Nat.reduceEqDiff, Nat.add_zero, rI_hold, rI_hold, rL_hold, he29]; done) | (simp (disch := omega) only [rI, rIe, rA, rIA, rLA, rJA, rVI, rQI, rVA, rQA, upd_at,  rAI, rLI, rJI, nI_add, pk_sub, kc_0, kc_1, kc_2, kc_3, kc_4, kc_5, reduceIte, Nat.reduceEqDiff, Nat.add_zero, rI_hold, rI_hold, rL_hold, he29]; exact congrArg nI (by omega))) ?_
  refine Bod.ic 1 (by decide) dc_124_26 ?_
  refine Bod.subN e29 (by omega) (by omega) dc_124_27 ?_
  exact Bod.retI dc_124_28 rt_124
theorem cAdl_2 {d : Nat} {S : cS} {i : Nat} {S1 : cS} (mi : i < 2 ^ 20) (hi : i < 900) (c1 : Ans (d + 8) 103 [.ref 23, .int (nI i)] S (some (.int (nI 0))) S1) : Bod (d + 8) 124 0 [(0, .ref 23), (1, .int (nI i))] [] S (some (.int (nI 0))) (S1) := by
  refine Bod.go dc_124_0 rfl ?_
  refine Bod.go dc_124_1 rfl ?_
  refine Bod.virt (r := []) dc_124_2 kr_124_62 ⟨Or.inl rfl, ow_103, cl_7⟩ (by rw [np_103]; rfl) (by rw [np_103]; rfl) (ob_of (mk_23 _)) (Nat.le_of_ble_eq_true rfl) (c1  ) ?_
  show Bod _ _ _ _ [_] _ _ _
  refine Bod.ifF dc_124_5 rfl (k1_ne_F (k_eq 0 0 rfl rfl (by omega))) ?_
  refine Bod.ic 0 (by decide) dc_124_8 ?_
  exact Bod.retI dc_124_9 rt_124
theorem cFx0_1 {d : Nat} {S Sf : cS} {v : Option Value} {p : Nat} {sc : Nat} {S1 : cS} {a : Nat} (mp : p < 2 ^ 20) (msc : sc < 2 ^ 20) (ma : a < 2 ^ 20) (c1 : Ans (d + 8) 88 [.ref 23, .int (nI (p + 2))] S (some (.int (nI a))) S1) (hB : ∀ lv1 : sm_L, sm_get lv1 0 = some (.ref 32) → sm_get lv1 1 = some (.int (nI p)) → sm_get lv1 2 = some (.int (nI sc)) → sm_get lv1 3 = some (.int (nI a)) → sm_get lv1 4 = some (.int (nI sc)) → sm_get lv1 5 = some (.int (nI 0)) → Bod (d + 8) 125 17 lv1 [] (S1) v Sf) : Bod (d + 8) 125 0 [(0, .ref 32), (1, .int (nI p)), (2, .int (nI sc))] [] S v Sf := by
  refine Bod.go dc_125_0 rfl ?_
  refine Bod.get dc_125_1 fr_125_7 (mk_32 _) rfl ?_
  refine Bod.go dc_125_4 rfl ?_
  refine Bod.ic 2 (by decide) dc_125_5 ?_
  refine Bod.addN (p + 2) (by omega) dc_125_6 ?_
  refine Bod.virt (r := []) dc_125_7 kr_125_86 ⟨Or.inr rfl, ow_88, cl_7⟩ (by rw [np_88]; rfl) (by rw [np_88]; rfl) (ob_of (mk_23 _)) (Nat.le_of_ble_eq_true rfl) (c1  ) ?_
  show Bod _ _ _ _ [_] _ _ _
  refine Bod.istn dc_125_10 (by rw [ml_125]; exact Nat.le_of_ble_eq_true rfl) ?_
  refine Bod.go dc_125_11 rfl ?_
  refine Bod.ist dc_125_12 (by rw [ml_125]; exact Nat.le_of_ble_eq_true rfl) ?_
  refine Bod.ic 0 (by decide) dc_125_14 ?_
  refine Bod.ist dc_125_15 (by rw [ml_125]; exact Nat.le_of_ble_eq_true rfl) ?_
  exact hB _ (by first | rfl | exact (by repeat (first | exact rfl | exact sm_get_p1 | exact sm_get_p2e | refine sm_get_p1m (by decide) (by decide) ?_ | refine sm_get_p1n (by decide) rfl ?_ | refine sm_get_p2n (by decide) (by decide) rfl ?_))) (by first | rfl | exact (by repeat (first | exact rfl | exact sm_get_p1 | exact sm_get_p2e | refine sm_get_p1m (by decide) (by decide) ?_ | refine sm_get_p1n (by decide) rfl ?_ | refine sm_get_p2n (by decide) (by decide) rfl ?_))) (by first | rfl | exact (by repeat (first | exact rfl | exact sm_get_p1 | exact sm_get_p2e | refine sm_get_p1m (by decide) (by decide) ?_ | refine sm_get_p1n (by decide) rfl ?_ | refine sm_get_p2n (by decide) (by decide) rfl ?_))) (by first | rfl | exact (by repeat (first | exact rfl | exact sm_get_p1 | exact sm_get_p2e | refine sm_get_p1m (by decide) (by decide) ?_ | refine sm_get_p1n (by decide) rfl ?_ | refine sm_get_p2n (by decide) (by decide) rfl ?_))) (by first | rfl | exact (by repeat (first | exact rfl | exact sm_get_p1 | exact sm_get_p2e | refine sm_get_p1m (by decide) (by decide) ?_ | refine sm_get_p1n (by decide) rfl ?_ | refine sm_get_p2n (by decide) (by decide) rfl ?_))) (by first | rfl | exact (by repeat (first | exact rfl | exact sm_get_p1 | exact sm_get_p2e | refine sm_get_p1m (by decide) (by decide) ?_ | refine sm_get_p1n (by decide) rfl ?_ | refine sm_get_p2n (by decide) (by decide) rfl ?_)))
theorem cFxL_1 {d : Nat} {S : cS} {lv : sm_L} {p : Nat} {sc : Nat} {q : Nat} {u : Nat} {t : Nat} (q0 : sm_get lv 0 = some (.ref 32)) (q1 : sm_get lv 1 = some (.int (nI p))) (q2 : sm_get lv 2 = some (.int (nI sc))) (q3 : sm_get lv 3 = some (.int (nI q))) (q4 : sm_get lv 4 = some (.int (nI u))) (q5 : sm_get lv 5 = some (.int (nI t))) (mp : p < 2 ^ 20) (msc : sc < 2 ^ 20) (mq : q < 2 ^ 20) (mu : u < 2 ^ 20) (mt : t < 2 ^ 20) (b1 : 300 ≤ t) : Bod (d + 8) 125 17 lv [] S none (S) := by
  refine Bod.ildG dc_125_17 (by repeat (first | exact q5 | exact sm_get_p1 | exact sm_get_p2e | refine sm_get_p1m (by decide) (by decide) ?_ | refine sm_get_p1n (by decide) rfl ?_ | refine sm_get_p2n (by decide) (by decide) rfl ?_)) ?_
  refine Bod.sip 300 (by decide) dc_125_19 ?_
  refine Bod.icT dc_125_22 rfl (k2_ge_T t 300 rfl rfl (by omega) (by omega)) ?_
  exact Bod.retV dc_125_123 rt_125
theorem cFxL_2 {d : Nat} {S : cS} {lv : sm_L} {p : Nat} {sc : Nat} {q : Nat} {u : Nat} {t : Nat} (q0 : sm_get lv 0 = some (.ref 32)) (q1 : sm_get lv 1 = some (.int (nI p))) (q2 : sm_get lv 2 = some (.int (nI sc))) (q3 : sm_get lv 3 = some (.int (nI q))) (q4 : sm_get lv 4 = some (.int (nI u))) (q5 : sm_get lv 5 = some (.int (nI t))) (mp : p < 2 ^ 20) (msc : sc < 2 ^ 20) (mq : q < 2 ^ 20) (mu : u < 2 ^ 20) (mt : t < 2 ^ 20) (b1 : t < 300) (b2 : u ≤ 0) : Bod (d + 8) 125 17 lv [] S none (S) := by
  refine Bod.ildG dc_125_17 (by repeat (first | exact q5 | exact sm_get_p1 | exact sm_get_p2e | refine sm_get_p1m (by decide) (by decide) ?_ | refine sm_get_p1n (by decide) rfl ?_ | refine sm_get_p2n (by decide) (by decide) rfl ?_)) ?_
  refine Bod.sip 300 (by decide) dc_125_19 ?_
  refine Bod.icF dc_125_22 rfl (k2_ge_F t 300 rfl rfl (by omega) (by omega)) ?_
  refine Bod.ildG dc_125_25 (by repeat (first | exact q4 | exact sm_get_p1 | exact sm_get_p2e | refine sm_get_p1m (by decide) (by decide) ?_ | refine sm_get_p1n (by decide) rfl ?_ | refine sm_get_p2n (by decide) (by decide) rfl ?_)) ?_
  refine Bod.ifT dc_125_27 rfl (k1_le_T (k_eq u 0 (by first | assumption | rfl | exact congrArg nI (by omega) | (simp (disch := omega) only [rI, rIe, rA, rIA, rLA, rJA, rVI, rQI, rVA, rQA, upd_at,  rAI, rLI, rJI, nI_add, pk_sub, kc_0, kc_1, kc_2, kc_3, kc_4, kc_5, reduceIte, Nat.reduceEqDiff, Nat.add_zero, rI_hold, rI_hold, rL_hold]; done)) rfl (by omega))) ?_
  exact Bod.retV dc_125_123 rt_125
theorem cFxL_3 {d : Nat} {S : cS} {lv : sm_L} {p : Nat} {sc : Nat} {q : Nat} {u : Nat} {t : Nat} (q0 : sm_get lv 0 = some (.ref 32)) (q1 : sm_get lv 1 = some (.int (nI p))) (q2 : sm_get lv 2 = some (.int (nI sc))) (q3 : sm_get lv 3 = some (.int (nI q))) (q4 : sm_get lv 4 = some (.int (nI u))) (q5 : sm_get lv 5 = some (.int (nI t))) (mp : p < 2 ^ 20) (msc : sc < 2 ^ 20) (mq : q < 2 ^ 20) (mu : u < 2 ^ 20) (mt : t < 2 ^ 20) (b1 : t < 300) (b2 : 0 < u) (b3 : 300 ≤ u) : Bod (d + 8) 125 17 lv [] S none (S) := by
  refine Bod.ildG dc_125_17 (by repeat (first | exact q5 | exact sm_get_p1 | exact sm_get_p2e | refine sm_get_p1m (by decide) (by decide) ?_ | refine sm_get_p1n (by decide) rfl ?_ | refine sm_get_p2n (by decide) (by decide) rfl ?_)) ?_
  refine Bod.sip 300 (by decide) dc_125_19 ?_
  refine Bod.icF dc_125_22 rfl (k2_ge_F t 300 rfl rfl (by omega) (by omega)) ?_
  refine Bod.ildG dc_125_25 (by repeat (first | exact q4 | exact sm_get_p1 | exact sm_get_p2e | refine sm_get_p1m (by decide) (by decide) ?_ | refine sm_get_p1n (by decide) rfl ?_ | refine sm_get_p2n (by decide) (by decide) rfl ?_)) ?_
  refine Bod.ifF dc_125_27 rfl (k1_le_F u rfl (by omega) (by omega)) ?_
  refine Bod.ildG dc_125_30 (by repeat (first | exact q4 | exact sm_get_p1 | exact sm_get_p2e | refine sm_get_p1m (by decide) (by decide) ?_ | refine sm_get_p1n (by decide) rfl ?_ | refine sm_get_p2n (by decide) (by decide) rfl ?_)) ?_
  refine Bod.sip 300 (by decide) dc_125_32 ?_
  refine Bod.icT dc_125_35 rfl (k2_ge_T u 300 rfl rfl (by omega) (by omega)) ?_
  exact Bod.retV dc_125_123 rt_125
theorem cFxL_4 {d : Nat} {S Sf : cS} {v : Option Value} {lv : sm_L} {p : Nat} {sc : Nat} {q : Nat} {u : Nat} {t : Nat} {S1 : cS} {a : Nat} {e33 : Nat} (q0 : sm_get lv 0 = some (.ref 32)) (q1 : sm_get lv 1 = some (.int (nI p))) (q2 : sm_get lv 2 = some (.int (nI sc))) (q3 : sm_get lv 3 = some (.int (nI q))) (q4 : sm_get lv 4 = some (.int (nI u))) (q5 : sm_get lv 5 = some (.int (nI t))) (mp : p < 2 ^ 20) (msc : sc < 2 ^ 20) (mq : q < 2 ^ 20) (mu : u < 2 ^ 20) (mt : t < 2 ^ 20) (b1 : t < 300) (b2 : 0 < u) (b3 : u < 300) (ma : a < 2 ^ 20) (c1 : Ans (d + 8) 95 [.ref 32, .int (nI u), .int (nI q)] S (some (.int (nI a))) S1) (b4 : 1600 ≤ a) (he33 : sA S1 33 u = nI e33) (me33 : e33 < 2 ^ 20) (hB : ∀ lv1 : sm_L, sm_get lv1 0 = some (.ref 32) → sm_get lv1 1 = some (.int (nI p)) → sm_get lv1 2 = some (.int (nI sc)) → sm_get lv1 3 = some (.int (nI q)) → sm_get lv1 4 = some (.int (nI e33)) → sm_get lv1 5 = some (.int (nI (t + 1))) → Bod (d + 8) 125 17 lv1 [] (S1) v Sf) : Bod (d + 8) 125 17 lv [] S v Sf := by
  refine Bod.ildG dc_125_17 (by repeat (first | exact q5 | exact sm_get_p1 | exact sm_get_p2e | refine sm_get_p1m (by decide) (by decide) ?_ | refine sm_get_p1n (by decide) rfl ?_ | refine sm_get_p2n (by decide) (by decide) rfl ?_)) ?_
  refine Bod.sip 300 (by decide) dc_125_19 ?_
  refine Bod.icF dc_125_22 rfl (k2_ge_F t 300 rfl rfl (by omega) (by omega)) ?_
  refine Bod.ildG dc_125_25 (by repeat (first | exact q4 | exact sm_get_p1 | exact sm_get_p2e | refine sm_get_p1m (by decide) (by decide) ?_ | refine sm_get_p1n (by decide) rfl ?_ | refine sm_get_p2n (by decide) (by decide) rfl ?_)) ?_
  refine Bod.ifF dc_125_27 rfl (k1_le_F u rfl (by omega) (by omega)) ?_
  refine Bod.ildG dc_125_30 (by repeat (first | exact q4 | exact sm_get_p1 | exact sm_get_p2e | refine sm_get_p1m (by decide) (by decide) ?_ | refine sm_get_p1n (by decide) rfl ?_ | refine sm_get_p2n (by decide) (by decide) rfl ?_)) ?_
  refine Bod.sip 300 (by decide) dc_125_32 ?_
  refine Bod.icF dc_125_35 rfl (k2_ge_F u 300 rfl rfl (by omega) (by omega)) ?_
  refine Bod.aldnG dc_125_38 (by repeat (first | exact q0 | exact sm_get_p1 | exact sm_get_p2e | refine sm_get_p1m (by decide) (by decide) ?_ | refine sm_get_p1n (by decide) rfl ?_ | refine sm_get_p2n (by decide) (by decide) rfl ?_)) ?_
  refine Bod.ildG dc_125_39 (by repeat (first | exact q4 | exact sm_get_p1 | exact sm_get_p2e | refine sm_get_p1m (by decide) (by decide) ?_ | refine sm_get_p1n (by decide) rfl ?_ | refine sm_get_p2n (by decide) (by decide) rfl ?_)) ?_
  refine Bod.ildnG dc_125_41 (by repeat (first | exact q3 | exact sm_get_p1 | exact sm_get_p2e | refine sm_get_p1m (by decide) (by decide) ?_ | refine sm_get_p1n (by decide) rfl ?_ | refine sm_get_p2n (by decide) (by decide) rfl ?_)) ?_
  refine Bod.virt (r := []) dc_125_42 kr_125_67 ⟨Or.inl rfl, ow_95, cl_8⟩ (by rw [np_95]; rfl) (by rw [np_95]; rfl) (ob_of (mk_32 _)) (Nat.le_of_ble_eq_true rfl) (c1  ) ?_
  show Bod _ _ _ _ [_] _ _ _
  refine Bod.ist dc_125_45 (by rw [ml_125]; exact Nat.le_of_ble_eq_true rfl) ?_
  refine Bod.ildG dc_125_47 (by repeat (first | exact q0 | exact sm_get_p1 | exact sm_get_p2e | refine sm_get_p1m (by decide) (by decide) ?_ | refine sm_get_p1n (by decide) rfl ?_ | refine sm_get_p2n (by decide) (by decide) rfl ?_)) ?_
  refine Bod.ifF dc_125_49 rfl (k1_lt_F a rfl (by omega)) ?_
  refine Bod.ildG dc_125_52 (by repeat (first | exact q0 | exact sm_get_p1 | exact sm_get_p2e | refine sm_get_p1m (by decide) (by decide) ?_ | refine sm_get_p1n (by decide) rfl ?_ | refine sm_get_p2n (by decide) (by decide) rfl ?_)) ?_
  refine Bod.sip 1600 (by decide) dc_125_54 ?_
  refine Bod.icT dc_125_57 rfl (k2_ge_T a 1600 rfl rfl (by omega) (by omega)) ?_
  refine Bod.aldnG dc_125_108 (by repeat (first | exact q0 | exact sm_get_p1 | exact sm_get_p2e | refine sm_get_p1m (by decide) (by decide) ?_ | refine sm_get_p1n (by decide) rfl ?_ | refine sm_get_p2n (by decide) (by decide) rfl ?_)) ?_
  refine Bod.get dc_125_109 fr_125_13 (mk_32 _) rfl ?_
  refine Bod.ildG dc_125_112 (by repeat (first | exact q4 | exact sm_get_p1 | exact sm_get_p2e | refine sm_get_p1m (by decide) (by decide) ?_ | refine sm_get_p1n (by decide) rfl ?_ | refine sm_get_p2n (by decide) (by decide) rfl ?_)) ?_
  refine Bod.ialdN u rfl (by omega) (by omega) dc_125_114 (mk_33 _) ?_
  refine Bod.eqI (nI e33) (by first | (simp (disch := omega) only [rI, rIe, rA, rIA, rLA, rJA, rVI, rQI, rVA, rQA, upd_at,  rAI, rLI, rJI, nI_add, pk_sub, kc_0, kc_1, kc_2, kc_3, kc_4, kc_5, reduceIte, Nat.reduceEqDiff, Nat.add_zero, rI_hold, rI_hold, rL_hold, he33]; done) | (simp (disch := omega) only [rI, rIe, rA, rIA, rLA, rJA, rVI, rQI, rVA, rQA, upd_at,  rAI, rLI, rJI, nI_add, pk_sub, kc_0, kc_1, kc_2, kc_3, kc_4, kc_5, reduceIte, Nat.reduceEqDiff, Nat.add_zero, rI_hold, rI_hold, rL_hold, he33]; exact congrArg nI (by omega))) ?_
  refine Bod.ist dc_125_115 (by rw [ml_125]; exact Nat.le_of_ble_eq_true rfl) ?_
  refine Bod.incN (t + 1) (by rw [kc_1, nI_add]) dc_125_117 (by rw [ml_125]; exact Nat.le_of_ble_eq_true rfl) (by repeat (first | exact q5 | exact sm_get_p1 | exact sm_get_p2e | refine sm_get_p1m (by decide) (by decide) ?_ | refine sm_get_p1n (by decide) rfl ?_ | refine sm_get_p2n (by decide) (by decide) rfl ?_)) ?_
  refine Bod.go dc_125_120 rfl ?_
  exact hB _ (by repeat (first | exact q0 | exact sm_get_p1 | exact sm_get_p2e | refine sm_get_p1m (by decide) (by decide) ?_ | refine sm_get_p1n (by decide) rfl ?_ | refine sm_get_p2n (by decide) (by decide) rfl ?_)) (by repeat (first | exact q1 | exact sm_get_p1 | exact sm_get_p2e | refine sm_get_p1m (by decide) (by decide) ?_ | refine sm_get_p1n (by decide) rfl ?_ | refine sm_get_p2n (by decide) (by decide) rfl ?_)) (by repeat (first | exact q2 | exact sm_get_p1 | exact sm_get_p2e | refine sm_get_p1m (by decide) (by decide) ?_ | refine sm_get_p1n (by decide) rfl ?_ | refine sm_get_p2n (by decide) (by decide) rfl ?_)) (by repeat (first | exact q3 | exact sm_get_p1 | exact sm_get_p2e | refine sm_get_p1m (by decide) (by decide) ?_ | refine sm_get_p1n (by decide) rfl ?_ | refine sm_get_p2n (by decide) (by decide) rfl ?_)) (by repeat (first | exact q0 | exact sm_get_p1 | exact sm_get_p2e | refine sm_get_p1m (by decide) (by decide) ?_ | refine sm_get_p1n (by decide) rfl ?_ | refine sm_get_p2n (by decide) (by decide) rfl ?_)) (by repeat (first | exact q0 | exact sm_get_p1 | exact sm_get_p2e | refine sm_get_p1m (by decide) (by decide) ?_ | refine sm_get_p1n (by decide) rfl ?_ | refine sm_get_p2n (by decide) (by decide) rfl ?_))
theorem cFxL_5 {d : Nat} {S Sf : cS} {v : Option Value} {lv : sm_L} {p : Nat} {sc : Nat} {q : Nat} {u : Nat} {t : Nat} {S1 : cS} {a : Nat} {e38 : Nat} {e33 : Nat} (q0 : sm_get lv 0 = some (.ref 32)) (q1 : sm_get lv 1 = some (.int (nI p))) (q2 : sm_get lv 2 = some (.int (nI sc))) (q3 : sm_get lv 3 = some (.int (nI q))) (q4 : sm_get lv 4 = some (.int (nI u))) (q5 : sm_get lv 5 = some (.int (nI t))) (mp : p < 2 ^ 20) (msc : sc < 2 ^ 20) (mq : q < 2 ^ 20) (mu : u < 2 ^ 20) (mt : t < 2 ^ 20) (b1 : t < 300) (b2 : 0 < u) (b3 : u < 300) (ma : a < 2 ^ 20) (c1 : Ans (d + 8) 95 [.ref 32, .int (nI u), .int (nI q)] S (some (.int (nI a))) S1) (b4 : a < 1600) (he38 : sA S1 38 a = nI e38) (me38 : e38 < 2 ^ 20) (b5 : e38 = 2) (b6 : u ≠ sc) (he33 : sA S1 33 u = nI e33) (me33 : e33 < 2 ^ 20) (hB : ∀ lv1 : sm_L, sm_get lv1 0 = some (.ref 32) → sm_get lv1 1 = some (.int (nI p)) → sm_get lv1 2 = some (.int (nI sc)) → sm_get lv1 3 = some (.int (nI q)) → sm_get lv1 4 = some (.int (nI e33)) → sm_get lv1 5 = some (.int (nI (t + 1))) → Bod (d + 8) 125 17 lv1 [] (S1) v Sf) : Bod (d + 8) 125 17 lv [] S v Sf := by
  refine Bod.ildG dc_125_17 (by repeat (first | exact q5 | exact sm_get_p1 | exact sm_get_p2e | refine sm_get_p1m (by decide) (by decide) ?_ | refine sm_get_p1n (by decide) rfl ?_ | refine sm_get_p2n (by decide) (by decide) rfl ?_)) ?_
  refine Bod.sip 300 (by decide) dc_125_19 ?_
  refine Bod.icF dc_125_22 rfl (k2_ge_F t 300 rfl rfl (by omega) (by omega)) ?_
  refine Bod.ildG dc_125_25 (by repeat (first | exact q4 | exact sm_get_p1 | exact sm_get_p2e | refine sm_get_p1m (by decide) (by decide) ?_ | refine sm_get_p1n (by decide) rfl ?_ | refine sm_get_p2n (by decide) (by decide) rfl ?_)) ?_
  refine Bod.ifF dc_125_27 rfl (k1_le_F u rfl (by omega) (by omega)) ?_
  refine Bod.ildG dc_125_30 (by repeat (first | exact q4 | exact sm_get_p1 | exact sm_get_p2e | refine sm_get_p1m (by decide) (by decide) ?_ | refine sm_get_p1n (by decide) rfl ?_ | refine sm_get_p2n (by decide) (by decide) rfl ?_)) ?_
  refine Bod.sip 300 (by decide) dc_125_32 ?_
  refine Bod.icF dc_125_35 rfl (k2_ge_F u 300 rfl rfl (by omega) (by omega)) ?_
  refine Bod.aldnG dc_125_38 (by repeat (first | exact q0 | exact sm_get_p1 | exact sm_get_p2e | refine sm_get_p1m (by decide) (by decide) ?_ | refine sm_get_p1n (by decide) rfl ?_ | refine sm_get_p2n (by decide) (by decide) rfl ?_)) ?_
  refine Bod.ildG dc_125_39 (by repeat (first | exact q4 | exact sm_get_p1 | exact sm_get_p2e | refine sm_get_p1m (by decide) (by decide) ?_ | refine sm_get_p1n (by decide) rfl ?_ | refine sm_get_p2n (by decide) (by decide) rfl ?_)) ?_
  refine Bod.ildnG dc_125_41 (by repeat (first | exact q3 | exact sm_get_p1 | exact sm_get_p2e | refine sm_get_p1m (by decide) (by decide) ?_ | refine sm_get_p1n (by decide) rfl ?_ | refine sm_get_p2n (by decide) (by decide) rfl ?_)) ?_
  refine Bod.virt (r := []) dc_125_42 kr_125_67 ⟨Or.inl rfl, ow_95, cl_8⟩ (by rw [np_95]; rfl) (by rw [np_95]; rfl) (ob_of (mk_32 _)) (Nat.le_of_ble_eq_true rfl) (c1  ) ?_
  show Bod _ _ _ _ [_] _ _ _
  refine Bod.ist dc_125_45 (by rw [ml_125]; exact Nat.le_of_ble_eq_true rfl) ?_
  refine Bod.ildG dc_125_47 (by repeat (first | exact q0 | exact sm_get_p1 | exact sm_get_p2e | refine sm_get_p1m (by decide) (by decide) ?_ | refine sm_get_p1n (by decide) rfl ?_ | refine sm_get_p2n (by decide) (by decide) rfl ?_)) ?_
  refine Bod.ifF dc_125_49 rfl (k1_lt_F a rfl (by omega)) ?_
  refine Bod.ildG dc_125_52 (by repeat (first | exact q0 | exact sm_get_p1 | exact sm_get_p2e | refine sm_get_p1m (by decide) (by decide) ?_ | refine sm_get_p1n (by decide) rfl ?_ | refine sm_get_p2n (by decide) (by decide) rfl ?_)) ?_
  refine Bod.sip 1600 (by decide) dc_125_54 ?_
  refine Bod.icF dc_125_57 rfl (k2_ge_F a 1600 rfl rfl (by omega) (by omega)) ?_
  refine Bod.aldnG dc_125_60 (by repeat (first | exact q0 | exact sm_get_p1 | exact sm_get_p2e | refine sm_get_p1m (by decide) (by decide) ?_ | refine sm_get_p1n (by decide) rfl ?_ | refine sm_get_p2n (by decide) (by decide) rfl ?_)) ?_
  refine Bod.get dc_125_61 fr_125_29 (mk_32 _) rfl ?_
  refine Bod.ildG dc_125_64 (by repeat (first | exact q0 | exact sm_get_p1 | exact sm_get_p2e | refine sm_get_p1m (by decide) (by decide) ?_ | refine sm_get_p1n (by decide) rfl ?_ | refine sm_get_p2n (by decide) (by decide) rfl ?_)) ?_
  refine Bod.ialdN a rfl (by omega) (by omega) dc_125_66 (mk_38 _) ?_
  refine Bod.eqI (nI e38) (by first | (simp (disch := omega) only [rI, rIe, rA, rIA, rLA, rJA, rVI, rQI, rVA, rQA, upd_at,  rAI, rLI, rJI, nI_add, pk_sub, kc_0, kc_1, kc_2, kc_3, kc_4, kc_5, reduceIte, Nat.reduceEqDiff, Nat.add_zero, rI_hold, rI_hold, rL_hold, he38]; done) | (simp (disch := omega) only [rI, rIe, rA, rIA, rLA, rJA, rVI, rQI, rVA, rQA, upd_at,  rAI, rLI, rJI, nI_add, pk_sub, kc_0, kc_1, kc_2, kc_3, kc_4, kc_5, reduceIte, Nat.reduceEqDiff, Nat.add_zero, rI_hold, rI_hold, rL_hold, he38]; exact congrArg nI (by omega))) ?_
  refine Bod.ic 2 (by decide) dc_125_67 ?_
  refine Bod.icT dc_125_68 rfl (k2_eq_T (k_eq e38 2 rfl rfl (by omega))) ?_
  refine Bod.ildG dc_125_101 (by repeat (first | exact q4 | exact sm_get_p1 | exact sm_get_p2e | refine sm_get_p1m (by decide) (by decide) ?_ | refine sm_get_p1n (by decide) rfl ?_ | refine sm_get_p2n (by decide) (by decide) rfl ?_)) ?_
  refine Bod.ildnG dc_125_103 (by repeat (first | exact q2 | exact sm_get_p1 | exact sm_get_p2e | refine sm_get_p1m (by decide) (by decide) ?_ | refine sm_get_p1n (by decide) rfl ?_ | refine sm_get_p2n (by decide) (by decide) rfl ?_)) ?_
  refine Bod.icT dc_125_104 rfl (k2_ne_T (k_ne u sc rfl rfl (by omega) (by omega) (by omega))) ?_
  refine Bod.aldnG dc_125_108 (by repeat (first | exact q0 | exact sm_get_p1 | exact sm_get_p2e | refine sm_get_p1m (by decide) (by decide) ?_ | refine sm_get_p1n (by decide) rfl ?_ | refine sm_get_p2n (by decide) (by decide) rfl ?_)) ?_
  refine Bod.get dc_125_109 fr_125_13 (mk_32 _) rfl ?_
  refine Bod.ildG dc_125_112 (by repeat (first | exact q4 | exact sm_get_p1 | exact sm_get_p2e | refine sm_get_p1m (by decide) (by decide) ?_ | refine sm_get_p1n (by decide) rfl ?_ | refine sm_get_p2n (by decide) (by decide) rfl ?_)) ?_
  refine Bod.ialdN u rfl (by omega) (by omega) dc_125_114 (mk_33 _) ?_
  refine Bod.eqI (nI e33) (by first | (simp (disch := omega) only [rI, rIe, rA, rIA, rLA, rJA, rVI, rQI, rVA, rQA, upd_at,  rAI, rLI, rJI, nI_add, pk_sub, kc_0, kc_1, kc_2, kc_3, kc_4, kc_5, reduceIte, Nat.reduceEqDiff, Nat.add_zero, rI_hold, rI_hold, rL_hold, he38, he33]; done) | (simp (disch := omega) only [rI, rIe, rA, rIA, rLA, rJA, rVI, rQI, rVA, rQA, upd_at,  rAI, rLI, rJI, nI_add, pk_sub, kc_0, kc_1, kc_2, kc_3, kc_4, kc_5, reduceIte, Nat.reduceEqDiff, Nat.add_zero, rI_hold, rI_hold, rL_hold, he38, he33]; exact congrArg nI (by omega))) ?_
  refine Bod.ist dc_125_115 (by rw [ml_125]; exact Nat.le_of_ble_eq_true rfl) ?_
  refine Bod.incN (t + 1) (by rw [kc_1, nI_add]) dc_125_117 (by rw [ml_125]; exact Nat.le_of_ble_eq_true rfl) (by repeat (first | exact q5 | exact sm_get_p1 | exact sm_get_p2e | refine sm_get_p1m (by decide) (by decide) ?_ | refine sm_get_p1n (by decide) rfl ?_ | refine sm_get_p2n (by decide) (by decide) rfl ?_)) ?_
  refine Bod.go dc_125_120 rfl ?_
  exact hB _ (by repeat (first | exact q0 | exact sm_get_p1 | exact sm_get_p2e | refine sm_get_p1m (by decide) (by decide) ?_ | refine sm_get_p1n (by decide) rfl ?_ | refine sm_get_p2n (by decide) (by decide) rfl ?_)) (by repeat (first | exact q1 | exact sm_get_p1 | exact sm_get_p2e | refine sm_get_p1m (by decide) (by decide) ?_ | refine sm_get_p1n (by decide) rfl ?_ | refine sm_get_p2n (by decide) (by decide) rfl ?_)) (by repeat (first | exact q2 | exact sm_get_p1 | exact sm_get_p2e | refine sm_get_p1m (by decide) (by decide) ?_ | refine sm_get_p1n (by decide) rfl ?_ | refine sm_get_p2n (by decide) (by decide) rfl ?_)) (by repeat (first | exact q3 | exact sm_get_p1 | exact sm_get_p2e | refine sm_get_p1m (by decide) (by decide) ?_ | refine sm_get_p1n (by decide) rfl ?_ | refine sm_get_p2n (by decide) (by decide) rfl ?_)) (by repeat (first | exact q0 | exact sm_get_p1 | exact sm_get_p2e | refine sm_get_p1m (by decide) (by decide) ?_ | refine sm_get_p1n (by decide) rfl ?_ | refine sm_get_p2n (by decide) (by decide) rfl ?_)) (by repeat (first | exact q0 | exact sm_get_p1 | exact sm_get_p2e | refine sm_get_p1m (by decide) (by decide) ?_ | refine sm_get_p1n (by decide) rfl ?_ | refine sm_get_p2n (by decide) (by decide) rfl ?_))
theorem cFxL_6 {d : Nat} {S : cS} {lv : sm_L} {p : Nat} {sc : Nat} {q : Nat} {u : Nat} {t : Nat} {S1 : cS} {a : Nat} {e38 : Nat} (q0 : sm_get lv 0 = some (.ref 32)) (q1 : sm_get lv 1 = some (.int (nI p))) (q2 : sm_get lv 2 = some (.int (nI sc))) (q3 : sm_get lv 3 = some (.int (nI q))) (q4 : sm_get lv 4 = some (.int (nI u))) (q5 : sm_get lv 5 = some (.int (nI t))) (mp : p < 2 ^ 20) (msc : sc < 2 ^ 20) (mq : q < 2 ^ 20) (mu : u < 2 ^ 20) (mt : t < 2 ^ 20) (b1 : t < 300) (b2 : 0 < u) (b3 : u < 300) (ma : a < 2 ^ 20) (c1 : Ans (d + 8) 95 [.ref 32, .int (nI u), .int (nI q)] S (some (.int (nI a))) S1) (b4 : a < 1600) (he38 : sA S1 38 a = nI e38) (me38 : e38 < 2 ^ 20) (b5 : e38 = 2) (b6 : u = sc) : Bod (d + 8) 125 17 lv [] S none (S1) := by
  refine Bod.ildG dc_125_17 (by repeat (first | exact q5 | exact sm_get_p1 | exact sm_get_p2e | refine sm_get_p1m (by decide) (by decide) ?_ | refine sm_get_p1n (by decide) rfl ?_ | refine sm_get_p2n (by decide) (by decide) rfl ?_)) ?_
  refine Bod.sip 300 (by decide) dc_125_19 ?_
  refine Bod.icF dc_125_22 rfl (k2_ge_F t 300 rfl rfl (by omega) (by omega)) ?_
  refine Bod.ildG dc_125_25 (by repeat (first | exact q4 | exact sm_get_p1 | exact sm_get_p2e | refine sm_get_p1m (by decide) (by decide) ?_ | refine sm_get_p1n (by decide) rfl ?_ | refine sm_get_p2n (by decide) (by decide) rfl ?_)) ?_
  refine Bod.ifF dc_125_27 rfl (k1_le_F u rfl (by omega) (by omega)) ?_
  refine Bod.ildG dc_125_30 (by repeat (first | exact q4 | exact sm_get_p1 | exact sm_get_p2e | refine sm_get_p1m (by decide) (by decide) ?_ | refine sm_get_p1n (by decide) rfl ?_ | refine sm_get_p2n (by decide) (by decide) rfl ?_)) ?_
  refine Bod.sip 300 (by decide) dc_125_32 ?_
  refine Bod.icF dc_125_35 rfl (k2_ge_F u 300 rfl rfl (by omega) (by omega)) ?_
  refine Bod.aldnG dc_125_38 (by repeat (first | exact q0 | exact sm_get_p1 | exact sm_get_p2e | refine sm_get_p1m (by decide) (by decide) ?_ | refine sm_get_p1n (by decide) rfl ?_ | refine sm_get_p2n (by decide) (by decide) rfl ?_)) ?_
  refine Bod.ildG dc_125_39 (by repeat (first | exact q4 | exact sm_get_p1 | exact sm_get_p2e | refine sm_get_p1m (by decide) (by decide) ?_ | refine sm_get_p1n (by decide) rfl ?_ | refine sm_get_p2n (by decide) (by decide) rfl ?_)) ?_
  refine Bod.ildnG dc_125_41 (by repeat (first | exact q3 | exact sm_get_p1 | exact sm_get_p2e | refine sm_get_p1m (by decide) (by decide) ?_ | refine sm_get_p1n (by decide) rfl ?_ | refine sm_get_p2n (by decide) (by decide) rfl ?_)) ?_
  refine Bod.virt (r := []) dc_125_42 kr_125_67 ⟨Or.inl rfl, ow_95, cl_8⟩ (by rw [np_95]; rfl) (by rw [np_95]; rfl) (ob_of (mk_32 _)) (Nat.le_of_ble_eq_true rfl) (c1  ) ?_
  show Bod _ _ _ _ [_] _ _ _
  refine Bod.ist dc_125_45 (by rw [ml_125]; exact Nat.le_of_ble_eq_true rfl) ?_
  refine Bod.ildG dc_125_47 (by repeat (first | exact q0 | exact sm_get_p1 | exact sm_get_p2e | refine sm_get_p1m (by decide) (by decide) ?_ | refine sm_get_p1n (by decide) rfl ?_ | refine sm_get_p2n (by decide) (by decide) rfl ?_)) ?_
  refine Bod.ifF dc_125_49 rfl (k1_lt_F a rfl (by omega)) ?_
  refine Bod.ildG dc_125_52 (by repeat (first | exact q0 | exact sm_get_p1 | exact sm_get_p2e | refine sm_get_p1m (by decide) (by decide) ?_ | refine sm_get_p1n (by decide) rfl ?_ | refine sm_get_p2n (by decide) (by decide) rfl ?_)) ?_
  refine Bod.sip 1600 (by decide) dc_125_54 ?_
  refine Bod.icF dc_125_57 rfl (k2_ge_F a 1600 rfl rfl (by omega) (by omega)) ?_
  refine Bod.aldnG dc_125_60 (by repeat (first | exact q0 | exact sm_get_p1 | exact sm_get_p2e | refine sm_get_p1m (by decide) (by decide) ?_ | refine sm_get_p1n (by decide) rfl ?_ | refine sm_get_p2n (by decide) (by decide) rfl ?_)) ?_
  refine Bod.get dc_125_61 fr_125_29 (mk_32 _) rfl ?_
  refine Bod.ildG dc_125_64 (by repeat (first | exact q0 | exact sm_get_p1 | exact sm_get_p2e | refine sm_get_p1m (by decide) (by decide) ?_ | refine sm_get_p1n (by decide) rfl ?_ | refine sm_get_p2n (by decide) (by decide) rfl ?_)) ?_
  refine Bod.ialdN a rfl (by omega) (by omega) dc_125_66 (mk_38 _) ?_
  refine Bod.eqI (nI e38) (by first | (simp (disch := omega) only [rI, rIe, rA, rIA, rLA, rJA, rVI, rQI, rVA, rQA, upd_at,  rAI, rLI, rJI, nI_add, pk_sub, kc_0, kc_1, kc_2, kc_3, kc_4, kc_5, reduceIte, Nat.reduceEqDiff, Nat.add_zero, rI_hold, rI_hold, rL_hold, he38]; done) | (simp (disch := omega) only [rI, rIe, rA, rIA, rLA, rJA, rVI, rQI, rVA, rQA, upd_at,  rAI, rLI, rJI, nI_add, pk_sub, kc_0, kc_1, kc_2, kc_3, kc_4, kc_5, reduceIte, Nat.reduceEqDiff, Nat.add_zero, rI_hold, rI_hold, rL_hold, he38]; exact congrArg nI (by omega))) ?_
  refine Bod.ic 2 (by decide) dc_125_67 ?_
  refine Bod.icT dc_125_68 rfl (k2_eq_T (k_eq e38 2 rfl rfl (by omega))) ?_
  refine Bod.ildG dc_125_101 (by repeat (first | exact q4 | exact sm_get_p1 | exact sm_get_p2e | refine sm_get_p1m (by decide) (by decide) ?_ | refine sm_get_p1n (by decide) rfl ?_ | refine sm_get_p2n (by decide) (by decide) rfl ?_)) ?_
  refine Bod.ildnG dc_125_103 (by repeat (first | exact q2 | exact sm_get_p1 | exact sm_get_p2e | refine sm_get_p1m (by decide) (by decide) ?_ | refine sm_get_p1n (by decide) rfl ?_ | refine sm_get_p2n (by decide) (by decide) rfl ?_)) ?_
  refine Bod.icF dc_125_104 rfl (k2_ne_F (k_eq u sc rfl rfl (by omega))) ?_
  exact Bod.retV dc_125_107 rt_125
theorem cFxL_7 {d : Nat} {S : cS} {lv : sm_L} {p : Nat} {sc : Nat} {q : Nat} {u : Nat} {t : Nat} {S1 : cS} {a : Nat} {e38 : Nat} {S2 : cS} {e39 : Nat} {S3 : cS} (q0 : sm_get lv 0 = some (.ref 32)) (q1 : sm_get lv 1 = some (.int (nI p))) (q2 : sm_get lv 2 = some (.int (nI sc))) (q3 : sm_get lv 3 = some (.int (nI q))) (q4 : sm_get lv 4 = some (.int (nI u))) (q5 : sm_get lv 5 = some (.int (nI t))) (mp : p < 2 ^ 20) (msc : sc < 2 ^ 20) (mq : q < 2 ^ 20) (mu : u < 2 ^ 20) (mt : t < 2 ^ 20) (b1 : t < 300) (b2 : 0 < u) (b3 : u < 300) (ma : a < 2 ^ 20) (c1 : Ans (d + 8) 95 [.ref 32, .int (nI u), .int (nI q)] S (some (.int (nI a))) S1) (b4 : a < 1600) (he38 : sA S1 38 a = nI e38) (me38 : e38 < 2 ^ 20) (b5 : e38 ≠ 2) (c2 : Ans (d + 8) 83 [.ref 23, .int (nI (p + 1)), .int (nI t)] S1 none S2) (he39 : sA S2 39 a = nI e39) (me39 : e39 < 2 ^ 20) (c3 : Ans (d + 8) 83 [.ref 23, .int (nI (p + 2)), .int (nI e39)] S2 none S3) : Bod (d + 8) 125 17 lv [] S none (S3) := by
  refine Bod.ildG dc_125_17 (by repeat (first | exact q5 | exact sm_get_p1 | exact sm_get_p2e | refine sm_get_p1m (by decide) (by decide) ?_ | refine sm_get_p1n (by decide) rfl ?_ | refine sm_get_p2n (by decide) (by decide) rfl ?_)) ?_
  refine Bod.sip 300 (by decide) dc_125_19 ?_
  refine Bod.icF dc_125_22 rfl (k2_ge_F t 300 rfl rfl (by omega) (by omega)) ?_
  refine Bod.ildG dc_125_25 (by repeat (first | exact q4 | exact sm_get_p1 | exact sm_get_p2e | refine sm_get_p1m (by decide) (by decide) ?_ | refine sm_get_p1n (by decide) rfl ?_ | refine sm_get_p2n (by decide) (by decide) rfl ?_)) ?_
  refine Bod.ifF dc_125_27 rfl (k1_le_F u rfl (by omega) (by omega)) ?_
  refine Bod.ildG dc_125_30 (by repeat (first | exact q4 | exact sm_get_p1 | exact sm_get_p2e | refine sm_get_p1m (by decide) (by decide) ?_ | refine sm_get_p1n (by decide) rfl ?_ | refine sm_get_p2n (by decide) (by decide) rfl ?_)) ?_
  refine Bod.sip 300 (by decide) dc_125_32 ?_
  refine Bod.icF dc_125_35 rfl (k2_ge_F u 300 rfl rfl (by omega) (by omega)) ?_
  refine Bod.aldnG dc_125_38 (by repeat (first | exact q0 | exact sm_get_p1 | exact sm_get_p2e | refine sm_get_p1m (by decide) (by decide) ?_ | refine sm_get_p1n (by decide) rfl ?_ | refine sm_get_p2n (by decide) (by decide) rfl ?_)) ?_
  refine Bod.ildG dc_125_39 (by repeat (first | exact q4 | exact sm_get_p1 | exact sm_get_p2e | refine sm_get_p1m (by decide) (by decide) ?_ | refine sm_get_p1n (by decide) rfl ?_ | refine sm_get_p2n (by decide) (by decide) rfl ?_)) ?_
  refine Bod.ildnG dc_125_41 (by repeat (first | exact q3 | exact sm_get_p1 | exact sm_get_p2e | refine sm_get_p1m (by decide) (by decide) ?_ | refine sm_get_p1n (by decide) rfl ?_ | refine sm_get_p2n (by decide) (by decide) rfl ?_)) ?_
  refine Bod.virt (r := []) dc_125_42 kr_125_67 ⟨Or.inl rfl, ow_95, cl_8⟩ (by rw [np_95]; rfl) (by rw [np_95]; rfl) (ob_of (mk_32 _)) (Nat.le_of_ble_eq_true rfl) (c1  ) ?_
  show Bod _ _ _ _ [_] _ _ _
  refine Bod.ist dc_125_45 (by rw [ml_125]; exact Nat.le_of_ble_eq_true rfl) ?_
  refine Bod.ildG dc_125_47 (by repeat (first | exact q0 | exact sm_get_p1 | exact sm_get_p2e | refine sm_get_p1m (by decide) (by decide) ?_ | refine sm_get_p1n (by decide) rfl ?_ | refine sm_get_p2n (by decide) (by decide) rfl ?_)) ?_
  refine Bod.ifF dc_125_49 rfl (k1_lt_F a rfl (by omega)) ?_
  refine Bod.ildG dc_125_52 (by repeat (first | exact q0 | exact sm_get_p1 | exact sm_get_p2e | refine sm_get_p1m (by decide) (by decide) ?_ | refine sm_get_p1n (by decide) rfl ?_ | refine sm_get_p2n (by decide) (by decide) rfl ?_)) ?_
  refine Bod.sip 1600 (by decide) dc_125_54 ?_
  refine Bod.icF dc_125_57 rfl (k2_ge_F a 1600 rfl rfl (by omega) (by omega)) ?_
  refine Bod.aldnG dc_125_60 (by repeat (first | exact q0 | exact sm_get_p1 | exact sm_get_p2e | refine sm_get_p1m (by decide) (by decide) ?_ | refine sm_get_p1n (by decide) rfl ?_ | refine sm_get_p2n (by decide) (by decide) rfl ?_)) ?_
  refine Bod.get dc_125_61 fr_125_29 (mk_32 _) rfl ?_
  refine Bod.ildG dc_125_64 (by repeat (first | exact q0 | exact sm_get_p1 | exact sm_get_p2e | refine sm_get_p1m (by decide) (by decide) ?_ | refine sm_get_p1n (by decide) rfl ?_ | refine sm_get_p2n (by decide) (by decide) rfl ?_)) ?_
  refine Bod.ialdN a rfl (by omega) (by omega) dc_125_66 (mk_38 _) ?_
  refine Bod.eqI (nI e38) (by first | (simp (disch := omega) only [rI, rIe, rA, rIA, rLA, rJA, rVI, rQI, rVA, rQA, upd_at,  rAI, rLI, rJI, nI_add, pk_sub, kc_0, kc_1, kc_2, kc_3, kc_4, kc_5, reduceIte, Nat.reduceEqDiff, Nat.add_zero, rI_hold, rI_hold, rL_hold, he38]; done) | (simp (disch := omega) only [rI, rIe, rA, rIA, rLA, rJA, rVI, rQI, rVA, rQA, upd_at,  rAI, rLI, rJI, nI_add, pk_sub, kc_0, kc_1, kc_2, kc_3, kc_4, kc_5, reduceIte, Nat.reduceEqDiff, Nat.add_zero, rI_hold, rI_hold, rL_hold, he38]; exact congrArg nI (by omega))) ?_
  refine Bod.ic 2 (by decide) dc_125_67 ?_
  refine Bod.icF dc_125_68 rfl (k2_eq_F (k_ne e38 2 rfl rfl (by omega) (by omega) (by omega))) ?_
  refine Bod.aldnG dc_125_71 (by repeat (first | exact q0 | exact sm_get_p1 | exact sm_get_p2e | refine sm_get_p1m (by decide) (by decide) ?_ | refine sm_get_p1n (by decide) rfl ?_ | refine sm_get_p2n (by decide) (by decide) rfl ?_)) ?_
  refine Bod.get dc_125_72 fr_125_7 (mk_32 _) rfl ?_
  refine Bod.ildnG dc_125_75 (by repeat (first | exact q1 | exact sm_get_p1 | exact sm_get_p2e | refine sm_get_p1m (by decide) (by decide) ?_ | refine sm_get_p1n (by decide) rfl ?_ | refine sm_get_p2n (by decide) (by decide) rfl ?_)) ?_
  refine Bod.ic 1 (by decide) dc_125_76 ?_
  refine Bod.addN (p + 1) (by omega) dc_125_77 ?_
  refine Bod.ildG dc_125_78 (by repeat (first | exact q5 | exact sm_get_p1 | exact sm_get_p2e | refine sm_get_p1m (by decide) (by decide) ?_ | refine sm_get_p1n (by decide) rfl ?_ | refine sm_get_p2n (by decide) (by decide) rfl ?_)) ?_
  refine Bod.virt (r := []) dc_125_80 kr_125_89 ⟨Or.inr rfl, ow_83, cl_7⟩ (by rw [np_83]; rfl) (by rw [np_83]; rfl) (ob_of (mk_23 _)) (Nat.le_of_ble_eq_true rfl) (c2  ) ?_
  show Bod _ _ _ _ [] _ _ _
  refine Bod.aldnG dc_125_83 (by repeat (first | exact q0 | exact sm_get_p1 | exact sm_get_p2e | refine sm_get_p1m (by decide) (by decide) ?_ | refine sm_get_p1n (by decide) rfl ?_ | refine sm_get_p2n (by decide) (by decide) rfl ?_)) ?_
  refine Bod.get dc_125_84 fr_125_7 (mk_32 _) rfl ?_
  refine Bod.ildnG dc_125_87 (by repeat (first | exact q1 | exact sm_get_p1 | exact sm_get_p2e | refine sm_get_p1m (by decide) (by decide) ?_ | refine sm_get_p1n (by decide) rfl ?_ | refine sm_get_p2n (by decide) (by decide) rfl ?_)) ?_
  refine Bod.ic 2 (by decide) dc_125_88 ?_
  refine Bod.addN (p + 2) (by omega) dc_125_89 ?_
  refine Bod.aldnG dc_125_90 (by repeat (first | exact q0 | exact sm_get_p1 | exact sm_get_p2e | refine sm_get_p1m (by decide) (by decide) ?_ | refine sm_get_p1n (by decide) rfl ?_ | refine sm_get_p2n (by decide) (by decide) rfl ?_)) ?_
  refine Bod.get dc_125_91 fr_125_32 (mk_32 _) rfl ?_
  refine Bod.ildG dc_125_94 (by repeat (first | exact q0 | exact sm_get_p1 | exact sm_get_p2e | refine sm_get_p1m (by decide) (by decide) ?_ | refine sm_get_p1n (by decide) rfl ?_ | refine sm_get_p2n (by decide) (by decide) rfl ?_)) ?_
  refine Bod.ialdN a rfl (by omega) (by omega) dc_125_96 (mk_39 _) ?_
  refine Bod.eqI (nI e39) (by first | (simp (disch := omega) only [rI, rIe, rA, rIA, rLA, rJA, rVI, rQI, rVA, rQA, upd_at,  rAI, rLI, rJI, nI_add, pk_sub, kc_0, kc_1, kc_2, kc_3, kc_4, kc_5, reduceIte, Nat.reduceEqDiff, Nat.add_zero, rI_hold, rI_hold, rL_hold, he38, he39]; done) | (simp (disch := omega) only [rI, rIe, rA, rIA, rLA, rJA, rVI, rQI, rVA, rQA, upd_at,  rAI, rLI, rJI, nI_add, pk_sub, kc_0, kc_1, kc_2, kc_3, kc_4, kc_5, reduceIte, Nat.reduceEqDiff, Nat.add_zero, rI_hold, rI_hold, rL_hold, he38, he39]; exact congrArg nI (by omega))) ?_
  refine Bod.virt (r := []) dc_125_97 kr_125_89 ⟨Or.inr rfl, ow_83, cl_7⟩ (by rw [np_83]; rfl) (by rw [np_83]; rfl) (ob_of (mk_23 _)) (Nat.le_of_ble_eq_true rfl) (c3  ) ?_
  show Bod _ _ _ _ [] _ _ _
  exact Bod.retV dc_125_100 rt_125
theorem cFxL_8 {d : Nat} {S Sf : cS} {v : Option Value} {lv : sm_L} {p : Nat} {sc : Nat} {q : Nat} {u : Nat} {t : Nat} {S1 : cS} {e33 : Nat} (q0 : sm_get lv 0 = some (.ref 32)) (q1 : sm_get lv 1 = some (.int (nI p))) (q2 : sm_get lv 2 = some (.int (nI sc))) (q3 : sm_get lv 3 = some (.int (nI q))) (q4 : sm_get lv 4 = some (.int (nI u))) (q5 : sm_get lv 5 = some (.int (nI t))) (mp : p < 2 ^ 20) (msc : sc < 2 ^ 20) (mq : q < 2 ^ 20) (mu : u < 2 ^ 20) (mt : t < 2 ^ 20) (b1 : t < 300) (b2 : 0 < u) (b3 : u < 300) (c1 : Ans (d + 8) 95 [.ref 32, .int (nI u), .int (nI q)] S (some (.int (Int32.ofInt (-1)))) S1) (he33 : sA S1 33 u = nI e33) (me33 : e33 < 2 ^ 20) (hB : ∀ lv1 : sm_L, sm_get lv1 0 = some (.ref 32) → sm_get lv1 1 = some (.int (nI p)) → sm_get lv1 2 = some (.int (nI sc)) → sm_get lv1 3 = some (.int (nI q)) → sm_get lv1 4 = some (.int (nI e33)) → sm_get lv1 5 = some (.int (nI (t + 1))) → Bod (d + 8) 125 17 lv1 [] (S1) v Sf) : Bod (d + 8) 125 17 lv [] S v Sf := by
  refine Bod.ildG dc_125_17 (by repeat (first | exact q5 | exact sm_get_p1 | exact sm_get_p2e | refine sm_get_p1m (by decide) (by decide) ?_ | refine sm_get_p1n (by decide) rfl ?_ | refine sm_get_p2n (by decide) (by decide) rfl ?_)) ?_
  refine Bod.sip 300 (by decide) dc_125_19 ?_
  refine Bod.icF dc_125_22 rfl (k2_ge_F t 300 rfl rfl (by omega) (by omega)) ?_
  refine Bod.ildG dc_125_25 (by repeat (first | exact q4 | exact sm_get_p1 | exact sm_get_p2e | refine sm_get_p1m (by decide) (by decide) ?_ | refine sm_get_p1n (by decide) rfl ?_ | refine sm_get_p2n (by decide) (by decide) rfl ?_)) ?_
  refine Bod.ifF dc_125_27 rfl (k1_le_F u rfl (by omega) (by omega)) ?_
  refine Bod.ildG dc_125_30 (by repeat (first | exact q4 | exact sm_get_p1 | exact sm_get_p2e | refine sm_get_p1m (by decide) (by decide) ?_ | refine sm_get_p1n (by decide) rfl ?_ | refine sm_get_p2n (by decide) (by decide) rfl ?_)) ?_
  refine Bod.sip 300 (by decide) dc_125_32 ?_
  refine Bod.icF dc_125_35 rfl (k2_ge_F u 300 rfl rfl (by omega) (by omega)) ?_
  refine Bod.aldnG dc_125_38 (by repeat (first | exact q0 | exact sm_get_p1 | exact sm_get_p2e | refine sm_get_p1m (by decide) (by decide) ?_ | refine sm_get_p1n (by decide) rfl ?_ | refine sm_get_p2n (by decide) (by decide) rfl ?_)) ?_
  refine Bod.ildG dc_125_39 (by repeat (first | exact q4 | exact sm_get_p1 | exact sm_get_p2e | refine sm_get_p1m (by decide) (by decide) ?_ | refine sm_get_p1n (by decide) rfl ?_ | refine sm_get_p2n (by decide) (by decide) rfl ?_)) ?_
  refine Bod.ildnG dc_125_41 (by repeat (first | exact q3 | exact sm_get_p1 | exact sm_get_p2e | refine sm_get_p1m (by decide) (by decide) ?_ | refine sm_get_p1n (by decide) rfl ?_ | refine sm_get_p2n (by decide) (by decide) rfl ?_)) ?_
  refine Bod.virt (r := []) dc_125_42 kr_125_67 ⟨Or.inl rfl, ow_95, cl_8⟩ (by rw [np_95]; rfl) (by rw [np_95]; rfl) (ob_of (mk_32 _)) (Nat.le_of_ble_eq_true rfl) (c1  ) ?_
  show Bod _ _ _ _ [_] _ _ _
  refine Bod.ist dc_125_45 (by rw [ml_125]; exact Nat.le_of_ble_eq_true rfl) ?_
  refine Bod.ildG dc_125_47 (by repeat (first | exact q0 | exact sm_get_p1 | exact sm_get_p2e | refine sm_get_p1m (by decide) (by decide) ?_ | refine sm_get_p1n (by decide) rfl ?_ | refine sm_get_p2n (by decide) (by decide) rfl ?_)) ?_
  refine Bod.ifT dc_125_49 rfl (by decide) ?_
  refine Bod.aldnG dc_125_108 (by repeat (first | exact q0 | exact sm_get_p1 | exact sm_get_p2e | refine sm_get_p1m (by decide) (by decide) ?_ | refine sm_get_p1n (by decide) rfl ?_ | refine sm_get_p2n (by decide) (by decide) rfl ?_)) ?_
  refine Bod.get dc_125_109 fr_125_13 (mk_32 _) rfl ?_
  refine Bod.ildG dc_125_112 (by repeat (first | exact q4 | exact sm_get_p1 | exact sm_get_p2e | refine sm_get_p1m (by decide) (by decide) ?_ | refine sm_get_p1n (by decide) rfl ?_ | refine sm_get_p2n (by decide) (by decide) rfl ?_)) ?_
  refine Bod.ialdN u rfl (by omega) (by omega) dc_125_114 (mk_33 _) ?_
  refine Bod.eqI (nI e33) (by first | (simp (disch := omega) only [rI, rIe, rA, rIA, rLA, rJA, rVI, rQI, rVA, rQA, upd_at,  rAI, rLI, rJI, nI_add, pk_sub, kc_0, kc_1, kc_2, kc_3, kc_4, kc_5, reduceIte, Nat.reduceEqDiff, Nat.add_zero, rI_hold, rI_hold, rL_hold, he33]; done) | (simp (disch := omega) only [rI, rIe, rA, rIA, rLA, rJA, rVI, rQI, rVA, rQA, upd_at,  rAI, rLI, rJI, nI_add, pk_sub, kc_0, kc_1, kc_2, kc_3, kc_4, kc_5, reduceIte, Nat.reduceEqDiff, Nat.add_zero, rI_hold, rI_hold, rL_hold, he33]; exact congrArg nI (by omega))) ?_
  refine Bod.ist dc_125_115 (by rw [ml_125]; exact Nat.le_of_ble_eq_true rfl) ?_
  refine Bod.incN (t + 1) (by rw [kc_1, nI_add]) dc_125_117 (by rw [ml_125]; exact Nat.le_of_ble_eq_true rfl) (by repeat (first | exact q5 | exact sm_get_p1 | exact sm_get_p2e | refine sm_get_p1m (by decide) (by decide) ?_ | refine sm_get_p1n (by decide) rfl ?_ | refine sm_get_p2n (by decide) (by decide) rfl ?_)) ?_
  refine Bod.go dc_125_120 rfl ?_
  exact hB _ (by repeat (first | exact q0 | exact sm_get_p1 | exact sm_get_p2e | refine sm_get_p1m (by decide) (by decide) ?_ | refine sm_get_p1n (by decide) rfl ?_ | refine sm_get_p2n (by decide) (by decide) rfl ?_)) (by repeat (first | exact q1 | exact sm_get_p1 | exact sm_get_p2e | refine sm_get_p1m (by decide) (by decide) ?_ | refine sm_get_p1n (by decide) rfl ?_ | refine sm_get_p2n (by decide) (by decide) rfl ?_)) (by repeat (first | exact q2 | exact sm_get_p1 | exact sm_get_p2e | refine sm_get_p1m (by decide) (by decide) ?_ | refine sm_get_p1n (by decide) rfl ?_ | refine sm_get_p2n (by decide) (by decide) rfl ?_)) (by repeat (first | exact q3 | exact sm_get_p1 | exact sm_get_p2e | refine sm_get_p1m (by decide) (by decide) ?_ | refine sm_get_p1n (by decide) rfl ?_ | refine sm_get_p2n (by decide) (by decide) rfl ?_)) (by repeat (first | exact q0 | exact sm_get_p1 | exact sm_get_p2e | refine sm_get_p1m (by decide) (by decide) ?_ | refine sm_get_p1n (by decide) rfl ?_ | refine sm_get_p2n (by decide) (by decide) rfl ?_)) (by repeat (first | exact q0 | exact sm_get_p1 | exact sm_get_p2e | refine sm_get_p1m (by decide) (by decide) ?_ | refine sm_get_p1n (by decide) rfl ?_ | refine sm_get_p2n (by decide) (by decide) rfl ?_))
