/-! More WAYS of the class's rules of statements -/
theorem dc_87_0 : decode (sm_cc 87) 0 = .ok (.iload_n 1, 1) := by decide +kernel
theorem dc_87_1 : decode (sm_cc 87) 1 = .ok (.istore_n 2, 1) := by decide +kernel
theorem dc_87_2 : decode (sm_cc 87) 2 = .ok (.iconst 0, 1) := by decide +kernel
theorem dc_87_3 : decode (sm_cc 87) 3 = .ok (.istore_n 3, 1) := by decide +kernel
theorem dc_30_15 : decode (sm_cc 30) 15 = .ok (.aload_n 0, 1) := by decide +kernel
theorem dc_30_16 : decode (sm_cc 30) 16 = .ok (.getfield 68, 3) := by decide +kernel
theorem fr_30_68 : sm_at mt_f (sm_ow 30) 68 = some (68, 11, 5, 0, 902) := by decide +kernel
theorem dc_30_19 : decode (sm_cc 30) 19 = .ok (.invokevirtual 89, 3) := by decide +kernel
theorem ow_31 : 0 = sm_ow 31 := by decide +kernel
theorem kr_30_89 : sm_at mt_k (sm_ow 30) 89 = some (89, 1, 31, 1, 941) := by decide +kernel
theorem np_31 : sm_np 31 = 0 := by decide +kernel
theorem dc_30_22 : decode (sm_cc 30) 22 = .ok (.aload_n 0, 1) := by decide +kernel
theorem dc_30_23 : decode (sm_cc 30) 23 = .ok (.getfield 77, 3) := by decide +kernel
theorem fr_30_77 : sm_at mt_f (sm_ow 30) 77 = some (77, 11, 6, 0, 903) := by decide +kernel
theorem dc_30_26 : decode (sm_cc 30) 26 = .ok (.invokevirtual 92, 3) := by decide +kernel
theorem ow_32 : 4 = sm_ow 32 := by decide +kernel
theorem kr_30_92 : sm_at mt_k (sm_ow 30) 92 = some (92, 1, 32, 1, 945) := by decide +kernel
theorem np_32 : sm_np 32 = 0 := by decide +kernel
theorem dc_30_29 : decode (sm_cc 30) 29 = .ok (.aload_n 0, 1) := by decide +kernel
theorem dc_30_30 : decode (sm_cc 30) 30 = .ok (.getfield 56, 3) := by decide +kernel
theorem fr_30_56 : sm_at mt_f (sm_ow 30) 56 = some (56, 11, 4, 0, 901) := by decide +kernel
theorem dc_30_33 : decode (sm_cc 30) 33 = .ok (.aload_n 0, 1) := by decide +kernel
theorem dc_30_34 : decode (sm_cc 30) 34 = .ok (.getfield 81, 3) := by decide +kernel
theorem fr_30_81 : sm_at mt_f (sm_ow 30) 81 = some (81, 11, 7, 0, 904) := by decide +kernel
theorem dc_30_37 : decode (sm_cc 30) 37 = .ok (.invokevirtual 95, 3) := by decide +kernel
theorem ow_33 : 10 = sm_ow 33 := by decide +kernel
theorem kr_30_95 : sm_at mt_k (sm_ow 30) 95 = some (95, 1, 33, 1, 949) := by decide +kernel
theorem np_33 : sm_np 33 = 1 := by decide +kernel
theorem dc_30_40 : decode (sm_cc 30) 40 = .ok (.istore_n 2, 1) := by decide +kernel
theorem dc_30_41 : decode (sm_cc 30) 41 = .ok (.aload_n 0, 1) := by decide +kernel
theorem dc_30_42 : decode (sm_cc 30) 42 = .ok (.iconst 0, 1) := by decide +kernel
theorem dc_30_43 : decode (sm_cc 30) 43 = .ok (.putfield 81, 3) := by decide +kernel
theorem dc_30_46 : decode (sm_cc 30) 46 = .ok (.aload_n 0, 1) := by decide +kernel
theorem dc_30_47 : decode (sm_cc 30) 47 = .ok (.getfield 56, 3) := by decide +kernel
theorem dc_30_50 : decode (sm_cc 30) 50 = .ok (.iconst 0, 1) := by decide +kernel
theorem dc_30_51 : decode (sm_cc 30) 51 = .ok (.iconst 0, 1) := by decide +kernel
theorem dc_30_52 : decode (sm_cc 30) 52 = .ok (.invokevirtual 99, 3) := by decide +kernel
theorem kr_30_99 : sm_at mt_k (sm_ow 30) 99 = some (99, 1, 51, 1, 1022) := by decide +kernel
theorem dc_30_55 : decode (sm_cc 30) 55 = .ok (.aload_n 0, 1) := by decide +kernel
theorem dc_30_56 : decode (sm_cc 30) 56 = .ok (.getfield 56, 3) := by decide +kernel
theorem dc_30_59 : decode (sm_cc 30) 59 = .ok (.iload_n 2, 1) := by decide +kernel
theorem dc_30_60 : decode (sm_cc 30) 60 = .ok (.invokevirtual 103, 3) := by decide +kernel
theorem ow_122 : 10 = sm_ow 122 := by decide +kernel
theorem kr_30_103 : sm_at mt_k (sm_ow 30) 103 = some (103, 1, 122, 1, 1320) := by decide +kernel
theorem np_122 : sm_np 122 = 1 := by decide +kernel
theorem dc_30_63 : decode (sm_cc 30) 63 = .ok (.ifCond .ne (16), 3) := by decide +kernel
theorem dc_30_79 : decode (sm_cc 30) 79 = .ok (.aload_n 0, 1) := by decide +kernel
theorem dc_30_80 : decode (sm_cc 30) 80 = .ok (.getfield 77, 3) := by decide +kernel
theorem dc_30_83 : decode (sm_cc 30) 83 = .ok (.iload_n 2, 1) := by decide +kernel
theorem dc_30_84 : decode (sm_cc 30) 84 = .ok (.iload_n 1, 1) := by decide +kernel
theorem dc_30_85 : decode (sm_cc 30) 85 = .ok (.invokevirtual 113, 3) := by decide +kernel
theorem ow_126 : 4 = sm_ow 126 := by decide +kernel
theorem kr_30_113 : sm_at mt_k (sm_ow 30) 113 = some (113, 1, 126, 1, 1338) := by decide +kernel
theorem np_126 : sm_np 126 = 2 := by decide +kernel
theorem dc_30_88 : decode (sm_cc 30) 88 = .ok (.istore_n 3, 1) := by decide +kernel
theorem dc_30_89 : decode (sm_cc 30) 89 = .ok (.aload_n 0, 1) := by decide +kernel
theorem dc_30_90 : decode (sm_cc 30) 90 = .ok (.iload_n 3, 1) := by decide +kernel
theorem dc_30_91 : decode (sm_cc 30) 91 = .ok (.ifCond .ne (7), 3) := by decide +kernel
theorem dc_30_98 : decode (sm_cc 30) 98 = .ok (.aload_n 0, 1) := by decide +kernel
theorem dc_30_99 : decode (sm_cc 30) 99 = .ok (.getfield 77, 3) := by decide +kernel
theorem dc_30_102 : decode (sm_cc 30) 102 = .ok (.invokevirtual 117, 3) := by decide +kernel
theorem ow_268 : 4 = sm_ow 268 := by decide +kernel
theorem kr_30_117 : sm_at mt_k (sm_ow 30) 117 = some (117, 1, 268, 1, 2004) := by decide +kernel
theorem np_268 : sm_np 268 = 0 := by decide +kernel
theorem dc_30_105 : decode (sm_cc 30) 105 = .ok (.putfield 110, 3) := by decide +kernel
theorem fr_30_110 : sm_at mt_f (sm_ow 30) 110 = some (110, 11, 8, 0, 905) := by decide +kernel
theorem dc_30_108 : decode (sm_cc 30) 108 = .ok (.iload_n 3, 1) := by decide +kernel
theorem dc_30_109 : decode (sm_cc 30) 109 = .ok (.ireturn, 1) := by decide +kernel
theorem dc_30_94 : decode (sm_cc 30) 94 = .ok (.iconst 0, 1) := by decide +kernel
theorem dc_30_95 : decode (sm_cc 30) 95 = .ok (.goto (10), 3) := by decide +kernel
theorem dc_30_66 : decode (sm_cc 30) 66 = .ok (.aload_n 0, 1) := by decide +kernel
theorem dc_30_67 : decode (sm_cc 30) 67 = .ok (.aload_n 0, 1) := by decide +kernel
theorem dc_30_68 : decode (sm_cc 30) 68 = .ok (.getfield 37, 3) := by decide +kernel
theorem fr_30_37 : sm_at mt_f (sm_ow 30) 37 = some (37, 11, 3, 0, 900) := by decide +kernel
theorem dc_30_71 : decode (sm_cc 30) 71 = .ok (.getfield 107, 3) := by decide +kernel
theorem fr_30_107 : sm_at mt_f (sm_ow 30) 107 = some (107, 3, 13, 1, 614) := by decide +kernel
theorem dc_30_74 : decode (sm_cc 30) 74 = .ok (.putfield 110, 3) := by decide +kernel
theorem dc_30_77 : decode (sm_cc 30) 77 = .ok (.iconst (-1), 1) := by decide +kernel
theorem dc_30_78 : decode (sm_cc 30) 78 = .ok (.ireturn, 1) := by decide +kernel
theorem cCh0_1 {d : Nat} {S Sf : cS} {v : Option Value} {y : Int32}  (hB : ∀ lv1 : sm_L, sm_get lv1 0 = some (.ref 43) → sm_get lv1 2 = some (.int y) → sm_get lv1 3 = some (.int (nI 0)) → Bod (d + 8) 87 4 lv1 [] (S) v Sf) : Bod (d + 8) 87 0 [(0, .ref 43), (1, .int y)] [] S v Sf := by
  refine Bod.go dc_87_0 rfl ?_
  refine Bod.istn dc_87_1 (by rw [ml_87]; exact Nat.le_of_ble_eq_true rfl) ?_
  refine Bod.ic 0 (by decide) dc_87_2 ?_
  refine Bod.istn dc_87_3 (by rw [ml_87]; exact Nat.le_of_ble_eq_true rfl) ?_
  exact hB _ (by first | rfl | exact (by repeat (first | exact rfl | exact sm_get_p1 | exact sm_get_p2e | refine sm_get_p1m (by decide) (by decide) ?_ | refine sm_get_p1n (by decide) rfl ?_ | refine sm_get_p2n (by decide) (by decide) rfl ?_))) (by first | rfl | exact (by repeat (first | exact rfl | exact sm_get_p1 | exact sm_get_p2e | refine sm_get_p1m (by decide) (by decide) ?_ | refine sm_get_p1n (by decide) rfl ?_ | refine sm_get_p2n (by decide) (by decide) rfl ?_))) (by first | rfl | exact (by repeat (first | exact rfl | exact sm_get_p1 | exact sm_get_p2e | refine sm_get_p1m (by decide) (by decide) ?_ | refine sm_get_p1n (by decide) rfl ?_ | refine sm_get_p2n (by decide) (by decide) rfl ?_)))
theorem cApw_1 {d : Nat} {S : cS} {x : Nat} {S1 : cS} (mx : x < 2 ^ 20) (hx : x < 900) (c1 : Ans (d + 8) 103 [.ref 23, .int (nI x)] S (some (.int (nI 1))) S1) : Bod (d + 8) 102 0 [(0, .ref 23), (1, .int (nI x))] [] S none (wA 28 x ((sA S1 28 x) + (nI 1)) S1) := by
  refine Bod.go dc_102_0 rfl ?_
  refine Bod.go dc_102_1 rfl ?_
  refine Bod.virt (r := []) dc_102_2 kr_102_62 ⟨Or.inl rfl, ow_103, cl_7⟩ (by rw [np_103]; rfl) (by rw [np_103]; rfl) (ob_of (mk_23 _)) (Nat.le_of_ble_eq_true rfl) (c1  ) ?_
  show Bod _ _ _ _ [_] _ _ _
  refine Bod.ifF dc_102_5 rfl (k1_eq_F (k_ne 1 0 rfl rfl (by omega) (by omega) (by omega))) ?_
  refine Bod.go dc_102_8 rfl ?_
  refine Bod.get dc_102_9 fr_102_26 (mk_23 _) rfl ?_
  refine Bod.go dc_102_12 rfl ?_
  refine Bod.go dc_102_13 rfl ?_
  refine Bod.ialdN x rfl (by omega) (by omega) dc_102_14 (mk_28 _) ?_
  refine Bod.ic 1 (by decide) dc_102_15 ?_
  refine Bod.go dc_102_16 rfl ?_
  refine Bod.iastN x rfl (by omega) (by omega) dc_102_17 (mk_28 _) (sa_28 _ _ _) (mu_A _ _ _ _) ?_
  exact Bod.retV dc_102_18 rt_102
theorem cApw_2 {d : Nat} {S : cS} {x : Nat} {S1 : cS} (mx : x < 2 ^ 20) (hx : x < 900) (c1 : Ans (d + 8) 103 [.ref 23, .int (nI x)] S (some (.int (nI 0))) S1) : Bod (d + 8) 102 0 [(0, .ref 23), (1, .int (nI x))] [] S none (S1) := by
  refine Bod.go dc_102_0 rfl ?_
  refine Bod.go dc_102_1 rfl ?_
  refine Bod.virt (r := []) dc_102_2 kr_102_62 ⟨Or.inl rfl, ow_103, cl_7⟩ (by rw [np_103]; rfl) (by rw [np_103]; rfl) (ob_of (mk_23 _)) (Nat.le_of_ble_eq_true rfl) (c1  ) ?_
  show Bod _ _ _ _ [_] _ _ _
  refine Bod.ifT dc_102_5 rfl (k1_eq_T (k_eq 0 0 rfl rfl (by omega))) ?_
  exact Bod.retV dc_102_18 rt_102
theorem cEnr0_1 {d : Nat} {S Sf : cS} {v : Option Value} {sc : Nat} {q : Nat} (msc : sc < 2 ^ 20) (mq : q < 2 ^ 20) (b1 : sc ≤ 0) (hB : ∀ lv1 : sm_L, sm_get lv1 0 = some (.ref 32) → sm_get lv1 2 = some (.int (nI q)) → sm_get lv1 3 = some (.int (Int32.ofInt (-1))) → sm_get lv1 4 = some (.int (nI 0)) → Bod (d + 8) 95 25 lv1 [] (S) v Sf) : Bod (d + 8) 95 0 [(0, .ref 32), (1, .int (nI sc)), (2, .int (nI q))] [] S v Sf := by
  refine Bod.go dc_95_0 rfl ?_
  refine Bod.ifT dc_95_1 rfl (k1_le_T (k_eq sc 0 (by first | assumption | rfl | exact congrArg nI (by omega) | (simp (disch := omega) only [rI, rIe, rA, rIA, rLA, rJA, rVI, rQI, rVA, rQA, upd_at,  rAI, rLI, rJI, nI_add, pk_sub, kc_0, kc_1, kc_2, kc_3, kc_4, kc_5, reduceIte, Nat.reduceEqDiff, Nat.add_zero, rI_hold, rI_hold, rL_hold]; done)) rfl (by omega))) ?_
  refine Bod.go dc_95_20 rfl ?_
  refine Bod.istn dc_95_21 (by rw [ml_95]; exact Nat.le_of_ble_eq_true rfl) ?_
  refine Bod.ic 0 (by decide) dc_95_22 ?_
  refine Bod.ist dc_95_23 (by rw [ml_95]; exact Nat.le_of_ble_eq_true rfl) ?_
  exact hB _ (by first | rfl | exact (by repeat (first | exact rfl | exact sm_get_p1 | exact sm_get_p2e | refine sm_get_p1m (by decide) (by decide) ?_ | refine sm_get_p1n (by decide) rfl ?_ | refine sm_get_p2n (by decide) (by decide) rfl ?_))) (by first | rfl | exact (by repeat (first | exact rfl | exact sm_get_p1 | exact sm_get_p2e | refine sm_get_p1m (by decide) (by decide) ?_ | refine sm_get_p1n (by decide) rfl ?_ | refine sm_get_p2n (by decide) (by decide) rfl ?_))) (by first | rfl | exact (by repeat (first | exact rfl | exact sm_get_p1 | exact sm_get_p2e | refine sm_get_p1m (by decide) (by decide) ?_ | refine sm_get_p1n (by decide) rfl ?_ | refine sm_get_p2n (by decide) (by decide) rfl ?_))) (by first | rfl | exact (by repeat (first | exact rfl | exact sm_get_p1 | exact sm_get_p2e | refine sm_get_p1m (by decide) (by decide) ?_ | refine sm_get_p1n (by decide) rfl ?_ | refine sm_get_p2n (by decide) (by decide) rfl ?_)))
theorem cEnr0_2 {d : Nat} {S Sf : cS} {v : Option Value} {sc : Nat} {q : Nat} (msc : sc < 2 ^ 20) (mq : q < 2 ^ 20) (b1 : 0 < sc) (b2 : 300 ≤ sc) (hB : ∀ lv1 : sm_L, sm_get lv1 0 = some (.ref 32) → sm_get lv1 2 = some (.int (nI q)) → sm_get lv1 3 = some (.int (Int32.ofInt (-1))) → sm_get lv1 4 = some (.int (nI 0)) → Bod (d + 8) 95 25 lv1 [] (S) v Sf) : Bod (d + 8) 95 0 [(0, .ref 32), (1, .int (nI sc)), (2, .int (nI q))] [] S v Sf := by
  refine Bod.go dc_95_0 rfl ?_
  refine Bod.ifF dc_95_1 rfl (k1_le_F sc rfl (by omega) (by omega)) ?_
  refine Bod.go dc_95_4 rfl ?_
  refine Bod.sip 300 (by decide) dc_95_5 ?_
  refine Bod.icT dc_95_8 rfl (k2_ge_T sc 300 rfl rfl (by omega) (by omega)) ?_
  refine Bod.go dc_95_20 rfl ?_
  refine Bod.istn dc_95_21 (by rw [ml_95]; exact Nat.le_of_ble_eq_true rfl) ?_
  refine Bod.ic 0 (by decide) dc_95_22 ?_
  refine Bod.ist dc_95_23 (by rw [ml_95]; exact Nat.le_of_ble_eq_true rfl) ?_
  exact hB _ (by first | rfl | exact (by repeat (first | exact rfl | exact sm_get_p1 | exact sm_get_p2e | refine sm_get_p1m (by decide) (by decide) ?_ | refine sm_get_p1n (by decide) rfl ?_ | refine sm_get_p2n (by decide) (by decide) rfl ?_))) (by first | rfl | exact (by repeat (first | exact rfl | exact sm_get_p1 | exact sm_get_p2e | refine sm_get_p1m (by decide) (by decide) ?_ | refine sm_get_p1n (by decide) rfl ?_ | refine sm_get_p2n (by decide) (by decide) rfl ?_))) (by first | rfl | exact (by repeat (first | exact rfl | exact sm_get_p1 | exact sm_get_p2e | refine sm_get_p1m (by decide) (by decide) ?_ | refine sm_get_p1n (by decide) rfl ?_ | refine sm_get_p2n (by decide) (by decide) rfl ?_))) (by first | rfl | exact (by repeat (first | exact rfl | exact sm_get_p1 | exact sm_get_p2e | refine sm_get_p1m (by decide) (by decide) ?_ | refine sm_get_p1n (by decide) rfl ?_ | refine sm_get_p2n (by decide) (by decide) rfl ?_)))
theorem cEnr0_3 {d : Nat} {S Sf : cS} {v : Option Value} {sc : Nat} {q : Nat} (msc : sc < 2 ^ 20) (mq : q < 2 ^ 20) (b1 : 0 < sc) (b2 : sc < 300) (hB : ∀ lv1 : sm_L, sm_get lv1 0 = some (.ref 32) → sm_get lv1 2 = some (.int (nI q)) → sm_get lv1 3 = some (.int (sA S 35 sc)) → sm_get lv1 4 = some (.int (nI 0)) → Bod (d + 8) 95 25 lv1 [] (S) v Sf) : Bod (d + 8) 95 0 [(0, .ref 32), (1, .int (nI sc)), (2, .int (nI q))] [] S v Sf := by
  refine Bod.go dc_95_0 rfl ?_
  refine Bod.ifF dc_95_1 rfl (k1_le_F sc rfl (by omega) (by omega)) ?_
  refine Bod.go dc_95_4 rfl ?_
  refine Bod.sip 300 (by decide) dc_95_5 ?_
  refine Bod.icF dc_95_8 rfl (k2_ge_F sc 300 rfl rfl (by omega) (by omega)) ?_
  refine Bod.go dc_95_11 rfl ?_
  refine Bod.get dc_95_12 fr_95_20 (mk_32 _) rfl ?_
  refine Bod.go dc_95_15 rfl ?_
  refine Bod.ialdN sc rfl (by omega) (by omega) dc_95_16 (mk_35 _) ?_
  refine Bod.go dc_95_17 rfl ?_
  refine Bod.istn dc_95_21 (by rw [ml_95]; exact Nat.le_of_ble_eq_true rfl) ?_
  refine Bod.ic 0 (by decide) dc_95_22 ?_
  refine Bod.ist dc_95_23 (by rw [ml_95]; exact Nat.le_of_ble_eq_true rfl) ?_
  exact hB _ (by first | rfl | exact (by repeat (first | exact rfl | exact sm_get_p1 | exact sm_get_p2e | refine sm_get_p1m (by decide) (by decide) ?_ | refine sm_get_p1n (by decide) rfl ?_ | refine sm_get_p2n (by decide) (by decide) rfl ?_))) (by first | rfl | exact (by repeat (first | exact rfl | exact sm_get_p1 | exact sm_get_p2e | refine sm_get_p1m (by decide) (by decide) ?_ | refine sm_get_p1n (by decide) rfl ?_ | refine sm_get_p2n (by decide) (by decide) rfl ?_))) (by first | rfl | exact (by repeat (first | exact rfl | exact sm_get_p1 | exact sm_get_p2e | refine sm_get_p1m (by decide) (by decide) ?_ | refine sm_get_p1n (by decide) rfl ?_ | refine sm_get_p2n (by decide) (by decide) rfl ?_))) (by first | rfl | exact (by repeat (first | exact rfl | exact sm_get_p1 | exact sm_get_p2e | refine sm_get_p1m (by decide) (by decide) ?_ | refine sm_get_p1n (by decide) rfl ?_ | refine sm_get_p2n (by decide) (by decide) rfl ?_)))
theorem cEnrL_1 {d : Nat} {S : cS} {lv : sm_L} {t : Nat} {e : Nat} {q : Nat} (q4 : sm_get lv 4 = some (.int (nI t))) (q3 : sm_get lv 3 = some (.int (nI e))) (q2 : sm_get lv 2 = some (.int (nI q))) (q0 : sm_get lv 0 = some (.ref 32)) (mt : t < 2 ^ 20) (me : e < 2 ^ 20) (mq : q < 2 ^ 20) (b1 : 1600 ≤ t) : Bod (d + 8) 95 25 lv [] S (some (.int (Int32.ofInt (-1)))) (S) := by
  refine Bod.ildG dc_95_25 (by repeat (first | exact q4 | exact sm_get_p1 | exact sm_get_p2e | refine sm_get_p1m (by decide) (by decide) ?_ | refine sm_get_p1n (by decide) rfl ?_ | refine sm_get_p2n (by decide) (by decide) rfl ?_)) ?_
  refine Bod.sip 1600 (by decide) dc_95_27 ?_
  refine Bod.icT dc_95_30 rfl (k2_ge_T t 1600 rfl rfl (by omega) (by omega)) ?_
  refine Bod.go dc_95_69 rfl ?_
  exact Bod.retI dc_95_70 rt_95
theorem cEnrL_2 {d : Nat} {S : cS} {lv : sm_L} {t : Nat} {e : Nat} {q : Nat} (q4 : sm_get lv 4 = some (.int (nI t))) (q3 : sm_get lv 3 = some (.int (nI e))) (q2 : sm_get lv 2 = some (.int (nI q))) (q0 : sm_get lv 0 = some (.ref 32)) (mt : t < 2 ^ 20) (me : e < 2 ^ 20) (mq : q < 2 ^ 20) (b1 : t < 1600) (b2 : 1600 ≤ e) : Bod (d + 8) 95 25 lv [] S (some (.int (Int32.ofInt (-1)))) (S) := by
  refine Bod.ildG dc_95_25 (by repeat (first | exact q4 | exact sm_get_p1 | exact sm_get_p2e | refine sm_get_p1m (by decide) (by decide) ?_ | refine sm_get_p1n (by decide) rfl ?_ | refine sm_get_p2n (by decide) (by decide) rfl ?_)) ?_
  refine Bod.sip 1600 (by decide) dc_95_27 ?_
  refine Bod.icF dc_95_30 rfl (k2_ge_F t 1600 rfl rfl (by omega) (by omega)) ?_
  refine Bod.ildnG dc_95_33 (by repeat (first | exact q3 | exact sm_get_p1 | exact sm_get_p2e | refine sm_get_p1m (by decide) (by decide) ?_ | refine sm_get_p1n (by decide) rfl ?_ | refine sm_get_p2n (by decide) (by decide) rfl ?_)) ?_
  refine Bod.ifF dc_95_34 rfl (k1_lt_F e rfl (by omega)) ?_
  refine Bod.ildnG dc_95_37 (by repeat (first | exact q3 | exact sm_get_p1 | exact sm_get_p2e | refine sm_get_p1m (by decide) (by decide) ?_ | refine sm_get_p1n (by decide) rfl ?_ | refine sm_get_p2n (by decide) (by decide) rfl ?_)) ?_
  refine Bod.sip 1600 (by decide) dc_95_38 ?_
  refine Bod.icT dc_95_41 rfl (k2_ge_T e 1600 rfl rfl (by omega) (by omega)) ?_
  refine Bod.go dc_95_69 rfl ?_
  exact Bod.retI dc_95_70 rt_95
theorem cEnrL_3 {d : Nat} {S Sf : cS} {v : Option Value} {lv : sm_L} {t : Nat} {e : Nat} {q : Nat} {e36 : Nat} (q4 : sm_get lv 4 = some (.int (nI t))) (q3 : sm_get lv 3 = some (.int (nI e))) (q2 : sm_get lv 2 = some (.int (nI q))) (q0 : sm_get lv 0 = some (.ref 32)) (mt : t < 2 ^ 20) (me : e < 2 ^ 20) (mq : q < 2 ^ 20) (b1 : t < 1600) (b2 : e < 1600) (he36 : sA S 36 e = nI e36) (me36 : e36 < 2 ^ 20) (b3 : e36 ≠ q) (hB : ∀ lv1 : sm_L, sm_get lv1 0 = some (.ref 32) → sm_get lv1 2 = some (.int (nI q)) → sm_get lv1 3 = some (.int (sA S 40 e)) → sm_get lv1 4 = some (.int (nI (t + 1))) → Bod (d + 8) 95 25 lv1 [] (S) v Sf) : Bod (d + 8) 95 25 lv [] S v Sf := by
  refine Bod.ildG dc_95_25 (by repeat (first | exact q4 | exact sm_get_p1 | exact sm_get_p2e | refine sm_get_p1m (by decide) (by decide) ?_ | refine sm_get_p1n (by decide) rfl ?_ | refine sm_get_p2n (by decide) (by decide) rfl ?_)) ?_
  refine Bod.sip 1600 (by decide) dc_95_27 ?_
  refine Bod.icF dc_95_30 rfl (k2_ge_F t 1600 rfl rfl (by omega) (by omega)) ?_
  refine Bod.ildnG dc_95_33 (by repeat (first | exact q3 | exact sm_get_p1 | exact sm_get_p2e | refine sm_get_p1m (by decide) (by decide) ?_ | refine sm_get_p1n (by decide) rfl ?_ | refine sm_get_p2n (by decide) (by decide) rfl ?_)) ?_
  refine Bod.ifF dc_95_34 rfl (k1_lt_F e rfl (by omega)) ?_
  refine Bod.ildnG dc_95_37 (by repeat (first | exact q3 | exact sm_get_p1 | exact sm_get_p2e | refine sm_get_p1m (by decide) (by decide) ?_ | refine sm_get_p1n (by decide) rfl ?_ | refine sm_get_p2n (by decide) (by decide) rfl ?_)) ?_
  refine Bod.sip 1600 (by decide) dc_95_38 ?_
  refine Bod.icF dc_95_41 rfl (k2_ge_F e 1600 rfl rfl (by omega) (by omega)) ?_
  refine Bod.aldnG dc_95_44 (by repeat (first | exact q0 | exact sm_get_p1 | exact sm_get_p2e | refine sm_get_p1m (by decide) (by decide) ?_ | refine sm_get_p1n (by decide) rfl ?_ | refine sm_get_p2n (by decide) (by decide) rfl ?_)) ?_
  refine Bod.get dc_95_45 fr_95_23 (mk_32 _) rfl ?_
  refine Bod.ildnG dc_95_48 (by repeat (first | exact q3 | exact sm_get_p1 | exact sm_get_p2e | refine sm_get_p1m (by decide) (by decide) ?_ | refine sm_get_p1n (by decide) rfl ?_ | refine sm_get_p2n (by decide) (by decide) rfl ?_)) ?_
  refine Bod.ialdN e rfl (by omega) (by omega) dc_95_49 (mk_36 _) ?_
  refine Bod.eqI (nI e36) (by first | assumption | rfl | exact congrArg nI (by omega) | (simp (disch := omega) only [rI, rIe, rA, rIA, rLA, rJA, rVI, rQI, rVA, rQA, upd_at,  rAI, rLI, rJI, nI_add, pk_sub, kc_0, kc_1, kc_2, kc_3, kc_4, kc_5, reduceIte, Nat.reduceEqDiff, Nat.add_zero, rI_hold, rI_hold, rL_hold, he36]; done)) ?_
  refine Bod.ildnG dc_95_50 (by repeat (first | exact q2 | exact sm_get_p1 | exact sm_get_p2e | refine sm_get_p1m (by decide) (by decide) ?_ | refine sm_get_p1n (by decide) rfl ?_ | refine sm_get_p2n (by decide) (by decide) rfl ?_)) ?_
  refine Bod.icT dc_95_51 rfl (k2_ne_T (k_ne e36 q rfl rfl (by omega) (by omega) (by omega))) ?_
  refine Bod.aldnG dc_95_56 (by repeat (first | exact q0 | exact sm_get_p1 | exact sm_get_p2e | refine sm_get_p1m (by decide) (by decide) ?_ | refine sm_get_p1n (by decide) rfl ?_ | refine sm_get_p2n (by decide) (by decide) rfl ?_)) ?_
  refine Bod.get dc_95_57 fr_95_35 (mk_32 _) rfl ?_
  refine Bod.ildnG dc_95_60 (by repeat (first | exact q3 | exact sm_get_p1 | exact sm_get_p2e | refine sm_get_p1m (by decide) (by decide) ?_ | refine sm_get_p1n (by decide) rfl ?_ | refine sm_get_p2n (by decide) (by decide) rfl ?_)) ?_
  refine Bod.ialdN e rfl (by omega) (by omega) dc_95_61 (mk_40 _) ?_
  refine Bod.istn dc_95_62 (by rw [ml_95]; exact Nat.le_of_ble_eq_true rfl) ?_
  refine Bod.incN (t + 1) (by rw [kc_1, nI_add]) dc_95_63 (by rw [ml_95]; exact Nat.le_of_ble_eq_true rfl) (by repeat (first | exact q4 | exact sm_get_p1 | exact sm_get_p2e | refine sm_get_p1m (by decide) (by decide) ?_ | refine sm_get_p1n (by decide) rfl ?_ | refine sm_get_p2n (by decide) (by decide) rfl ?_)) ?_
  refine Bod.go dc_95_66 rfl ?_
  exact hB _ (by repeat (first | exact q0 | exact sm_get_p1 | exact sm_get_p2e | refine sm_get_p1m (by decide) (by decide) ?_ | refine sm_get_p1n (by decide) rfl ?_ | refine sm_get_p2n (by decide) (by decide) rfl ?_)) (by repeat (first | exact q2 | exact sm_get_p1 | exact sm_get_p2e | refine sm_get_p1m (by decide) (by decide) ?_ | refine sm_get_p1n (by decide) rfl ?_ | refine sm_get_p2n (by decide) (by decide) rfl ?_)) (by repeat (first | exact q0 | exact sm_get_p1 | exact sm_get_p2e | refine sm_get_p1m (by decide) (by decide) ?_ | refine sm_get_p1n (by decide) rfl ?_ | refine sm_get_p2n (by decide) (by decide) rfl ?_)) (by repeat (first | exact q0 | exact sm_get_p1 | exact sm_get_p2e | refine sm_get_p1m (by decide) (by decide) ?_ | refine sm_get_p1n (by decide) rfl ?_ | refine sm_get_p2n (by decide) (by decide) rfl ?_))
theorem cEnrL_4 {d : Nat} {S : cS} {lv : sm_L} {t : Nat} {e : Nat} {q : Nat} {e36 : Nat} (q4 : sm_get lv 4 = some (.int (nI t))) (q3 : sm_get lv 3 = some (.int (nI e))) (q2 : sm_get lv 2 = some (.int (nI q))) (q0 : sm_get lv 0 = some (.ref 32)) (mt : t < 2 ^ 20) (me : e < 2 ^ 20) (mq : q < 2 ^ 20) (b1 : t < 1600) (b2 : e < 1600) (he36 : sA S 36 e = nI e36) (me36 : e36 < 2 ^ 20) (b3 : e36 = q) : Bod (d + 8) 95 25 lv [] S (some (.int (nI e))) (S) := by
  refine Bod.ildG dc_95_25 (by repeat (first | exact q4 | exact sm_get_p1 | exact sm_get_p2e | refine sm_get_p1m (by decide) (by decide) ?_ | refine sm_get_p1n (by decide) rfl ?_ | refine sm_get_p2n (by decide) (by decide) rfl ?_)) ?_
  refine Bod.sip 1600 (by decide) dc_95_27 ?_
  refine Bod.icF dc_95_30 rfl (k2_ge_F t 1600 rfl rfl (by omega) (by omega)) ?_
  refine Bod.ildnG dc_95_33 (by repeat (first | exact q3 | exact sm_get_p1 | exact sm_get_p2e | refine sm_get_p1m (by decide) (by decide) ?_ | refine sm_get_p1n (by decide) rfl ?_ | refine sm_get_p2n (by decide) (by decide) rfl ?_)) ?_
  refine Bod.ifF dc_95_34 rfl (k1_lt_F e rfl (by omega)) ?_
  refine Bod.ildnG dc_95_37 (by repeat (first | exact q3 | exact sm_get_p1 | exact sm_get_p2e | refine sm_get_p1m (by decide) (by decide) ?_ | refine sm_get_p1n (by decide) rfl ?_ | refine sm_get_p2n (by decide) (by decide) rfl ?_)) ?_
  refine Bod.sip 1600 (by decide) dc_95_38 ?_
  refine Bod.icF dc_95_41 rfl (k2_ge_F e 1600 rfl rfl (by omega) (by omega)) ?_
  refine Bod.aldnG dc_95_44 (by repeat (first | exact q0 | exact sm_get_p1 | exact sm_get_p2e | refine sm_get_p1m (by decide) (by decide) ?_ | refine sm_get_p1n (by decide) rfl ?_ | refine sm_get_p2n (by decide) (by decide) rfl ?_)) ?_
  refine Bod.get dc_95_45 fr_95_23 (mk_32 _) rfl ?_
  refine Bod.ildnG dc_95_48 (by repeat (first | exact q3 | exact sm_get_p1 | exact sm_get_p2e | refine sm_get_p1m (by decide) (by decide) ?_ | refine sm_get_p1n (by decide) rfl ?_ | refine sm_get_p2n (by decide) (by decide) rfl ?_)) ?_
  refine Bod.ialdN e rfl (by omega) (by omega) dc_95_49 (mk_36 _) ?_
  refine Bod.eqI (nI e36) (by first | assumption | rfl | exact congrArg nI (by omega) | (simp (disch := omega) only [rI, rIe, rA, rIA, rLA, rJA, rVI, rQI, rVA, rQA, upd_at,  rAI, rLI, rJI, nI_add, pk_sub, kc_0, kc_1, kc_2, kc_3, kc_4, kc_5, reduceIte, Nat.reduceEqDiff, Nat.add_zero, rI_hold, rI_hold, rL_hold, he36]; done)) ?_
  refine Bod.ildnG dc_95_50 (by repeat (first | exact q2 | exact sm_get_p1 | exact sm_get_p2e | refine sm_get_p1m (by decide) (by decide) ?_ | refine sm_get_p1n (by decide) rfl ?_ | refine sm_get_p2n (by decide) (by decide) rfl ?_)) ?_
  refine Bod.icF dc_95_51 rfl (k2_ne_F (k_eq e36 q rfl rfl (by omega))) ?_
  refine Bod.ildnG dc_95_54 (by repeat (first | exact q3 | exact sm_get_p1 | exact sm_get_p2e | refine sm_get_p1m (by decide) (by decide) ?_ | refine sm_get_p1n (by decide) rfl ?_ | refine sm_get_p2n (by decide) (by decide) rfl ?_)) ?_
  exact Bod.retI dc_95_55 rt_95
theorem cBjn_1 {d : Nat} {S : cS} {top : Nat} {cs : Nat} {S1 : cS} {tk : Nat} {S2 : cS} {a : Nat} {tk1 : Nat} {S3 : cS} {a1 : Nat} {tg : Nat} {S4 : cS} {a2 : Nat} {S5 : cS} {S6 : cS} {S7 : cS} {S8 : cS} {a3 : Nat} {S9 : cS} {a4 : Nat} (htop : sI S 2307 = nI top) (mtop : top < 2 ^ 20) (hcs : sI S 2308 = nI cs) (mcs : cs < 2 ^ 20) (c1 : Ans (d + 8) 57 [.ref 44, .int (nI 0)] S none S1) (htk : sI S1 3105 = nI tk) (mtk : tk < 2 ^ 20) (b1 : tk ≠ 19) (ma : a < 2 ^ 20) (c2 : Ans (d + 8) 121 [.int (nI tk)] S1 (some (.int (nI a))) S2) (b2 : a ≠ 0) (htk1 : sI S2 3105 = nI tk1) (mtk1 : tk1 < 2 ^ 20) (ma1 : a1 < 2 ^ 20) (c3 : Ans (d + 8) 121 [.int (nI tk1)] S2 (some (.int (nI a1))) S3) (htg : sI S3 4403 = nI tg) (mtg : tg < 2 ^ 20) (ma2 : a2 < 2 ^ 20) (c4 : Ans (d + 8) 111 [.ref 43] S3 (some (.int (nI a2))) S4) (c5 : Ans (d + 8) 110 [.ref 43, .int (nI 18), .int (nI 40), .int (nI 45)] S4 none S5) (c6 : Ans (d + 8) 40 [.ref 31] S5 none S6) (c7 : Ans (d + 8) 57 [.ref 44, .int (nI 0)] S6 none S7) (ma3 : a3 < 2 ^ 20) (c8 : Ans (d + 8) 71 [.ref 23, .int (nI a1)] S7 (some (.int (nI a3))) S8) (b3 : tg ≠ 1) (b4 : tg ≠ 2) (ma4 : a4 < 2 ^ 20) (c9 : Ans (d + 8) 54 [.ref 23, .int (nI 47), .int (nI a2)] S8 (some (.int (nI a4))) S9) : Bod (d + 8) 117 0 [(0, .ref 43)] [] S none (S9) := by
  refine Bod.go dc_117_0 rfl ?_
  refine Bod.get dc_117_1 fr_117_9 (mk_43 _) rfl ?_
  refine Bod.get dc_117_4 fr_117_166 (mk_31 _) rfl ?_
  refine Bod.istn dc_117_7 (by rw [ml_117]; exact Nat.le_of_ble_eq_true rfl) ?_
  refine Bod.go dc_117_8 rfl ?_
  refine Bod.get dc_117_9 fr_117_15 (mk_43 _) rfl ?_
  refine Bod.get dc_117_12 fr_117_69 (mk_23 _) rfl ?_
  refine Bod.eqI (nI top) (by first | assumption | rfl | exact congrArg nI (by omega) | (simp (disch := omega) only [rI, rIe, rA, rIA, rLA, rJA, rVI, rQI, rVA, rQA, upd_at,  rAI, rLI, rJI, nI_add, pk_sub, kc_0, kc_1, kc_2, kc_3, kc_4, kc_5, reduceIte, Nat.reduceEqDiff, Nat.add_zero, rI_hold, rI_hold, rL_hold, htop]; done)) ?_
  refine Bod.istn dc_117_15 (by rw [ml_117]; exact Nat.le_of_ble_eq_true rfl) ?_
  refine Bod.go dc_117_16 rfl ?_
  refine Bod.get dc_117_17 fr_117_15 (mk_43 _) rfl ?_
  refine Bod.get dc_117_20 fr_117_52 (mk_23 _) rfl ?_
  refine Bod.eqI (nI cs) (by first | assumption | rfl | exact congrArg nI (by omega) | (simp (disch := omega) only [rI, rIe, rA, rIA, rLA, rJA, rVI, rQI, rVA, rQA, upd_at,  rAI, rLI, rJI, nI_add, pk_sub, kc_0, kc_1, kc_2, kc_3, kc_4, kc_5, reduceIte, Nat.reduceEqDiff, Nat.add_zero, rI_hold, rI_hold, rL_hold, htop, hcs]; done)) ?_
  refine Bod.istn dc_117_23 (by rw [ml_117]; exact Nat.le_of_ble_eq_true rfl) ?_
  refine Bod.go dc_117_24 rfl ?_
  refine Bod.get dc_117_25 fr_117_23 (mk_43 _) rfl ?_
  refine Bod.ic 0 (by decide) dc_117_28 ?_
  refine Bod.virt (r := []) dc_117_29 kr_117_169 ⟨Or.inr rfl, ow_57, cl_1⟩ (by rw [np_57]; rfl) (by rw [np_57]; rfl) (ob_of (mk_44 _)) (Nat.le_of_ble_eq_true rfl) (c1  ) ?_
  show Bod _ _ _ _ [] _ _ _
  refine Bod.go dc_117_32 rfl ?_
  refine Bod.get dc_117_33 fr_117_9 (mk_43 _) rfl ?_
  refine Bod.get dc_117_36 fr_117_79 (mk_31 _) rfl ?_
  refine Bod.eqI (nI tk) (by first | (simp (disch := omega) only [rI, rIe, rA, rIA, rLA, rJA, rVI, rQI, rVA, rQA, upd_at,  rAI, rLI, rJI, nI_add, pk_sub, kc_0, kc_1, kc_2, kc_3, kc_4, kc_5, reduceIte, Nat.reduceEqDiff, Nat.add_zero, rI_hold, rI_hold, rL_hold, htop, hcs, htk]; done) | (simp (disch := omega) only [rI, rIe, rA, rIA, rLA, rJA, rVI, rQI, rVA, rQA, upd_at,  rAI, rLI, rJI, nI_add, pk_sub, kc_0, kc_1, kc_2, kc_3, kc_4, kc_5, reduceIte, Nat.reduceEqDiff, Nat.add_zero, rI_hold, rI_hold, rL_hold, htop, hcs, htk]; exact congrArg nI (by omega))) ?_
  refine Bod.bip 19 (by decide) dc_117_39 ?_
  refine Bod.icT dc_117_41 rfl (k2_ne_T (k_ne tk 19 rfl rfl (by omega) (by omega) (by omega))) ?_
  refine Bod.go dc_117_167 rfl ?_
  refine Bod.get dc_117_168 fr_117_9 (mk_43 _) rfl ?_
  refine Bod.get dc_117_171 fr_117_79 (mk_31 _) rfl ?_
  refine Bod.eqI (nI tk) (by first | (simp (disch := omega) only [rI, rIe, rA, rIA, rLA, rJA, rVI, rQI, rVA, rQA, upd_at,  rAI, rLI, rJI, nI_add, pk_sub, kc_0, kc_1, kc_2, kc_3, kc_4, kc_5, reduceIte, Nat.reduceEqDiff, Nat.add_zero, rI_hold, rI_hold, rL_hold, htop, hcs, htk]; done) | (simp (disch := omega) only [rI, rIe, rA, rIA, rLA, rJA, rVI, rQI, rVA, rQA, upd_at,  rAI, rLI, rJI, nI_add, pk_sub, kc_0, kc_1, kc_2, kc_3, kc_4, kc_5, reduceIte, Nat.reduceEqDiff, Nat.add_zero, rI_hold, rI_hold, rL_hold, htop, hcs, htk]; exact congrArg nI (by omega))) ?_
  refine Bod.stat (r := []) dc_117_174 kr_117_185 (Or.inl rfl) (by rw [np_121]; rfl) (by rw [np_121]; rfl) (by rw [np_121]; exact Nat.le_of_ble_eq_true rfl) (Nat.le_of_ble_eq_true rfl) (c2  ) ?_
  show Bod _ _ _ _ [_] _ _ _
  refine Bod.ifT dc_117_177 rfl (k1_ne_T (k_ne a 0 rfl rfl (by omega) (by omega) (by omega))) ?_
  refine Bod.go dc_117_193 rfl ?_
  refine Bod.get dc_117_194 fr_117_9 (mk_43 _) rfl ?_
  refine Bod.get dc_117_197 fr_117_79 (mk_31 _) rfl ?_
  refine Bod.eqI (nI tk1) (by first | (simp (disch := omega) only [rI, rIe, rA, rIA, rLA, rJA, rVI, rQI, rVA, rQA, upd_at,  rAI, rLI, rJI, nI_add, pk_sub, kc_0, kc_1, kc_2, kc_3, kc_4, kc_5, reduceIte, Nat.reduceEqDiff, Nat.add_zero, rI_hold, rI_hold, rL_hold, htop, hcs, htk, htk1]; done) | (simp (disch := omega) only [rI, rIe, rA, rIA, rLA, rJA, rVI, rQI, rVA, rQA, upd_at,  rAI, rLI, rJI, nI_add, pk_sub, kc_0, kc_1, kc_2, kc_3, kc_4, kc_5, reduceIte, Nat.reduceEqDiff, Nat.add_zero, rI_hold, rI_hold, rL_hold, htop, hcs, htk, htk1]; exact congrArg nI (by omega))) ?_
  refine Bod.stat (r := []) dc_117_200 kr_117_185 (Or.inl rfl) (by rw [np_121]; rfl) (by rw [np_121]; rfl) (by rw [np_121]; exact Nat.le_of_ble_eq_true rfl) (Nat.le_of_ble_eq_true rfl) (c3  ) ?_
  show Bod _ _ _ _ [_] _ _ _
  refine Bod.ist dc_117_203 (by rw [ml_117]; exact Nat.le_of_ble_eq_true rfl) ?_
  refine Bod.go dc_117_205 rfl ?_
  refine Bod.get dc_117_206 fr_117_23 (mk_43 _) rfl ?_
  refine Bod.get dc_117_209 fr_117_173 (mk_44 _) rfl ?_
  refine Bod.eqI (nI tg) (by first | (simp (disch := omega) only [rI, rIe, rA, rIA, rLA, rJA, rVI, rQI, rVA, rQA, upd_at,  rAI, rLI, rJI, nI_add, pk_sub, kc_0, kc_1, kc_2, kc_3, kc_4, kc_5, reduceIte, Nat.reduceEqDiff, Nat.add_zero, rI_hold, rI_hold, rL_hold, htop, hcs, htk, htk1, htg]; done) | (simp (disch := omega) only [rI, rIe, rA, rIA, rLA, rJA, rVI, rQI, rVA, rQA, upd_at,  rAI, rLI, rJI, nI_add, pk_sub, kc_0, kc_1, kc_2, kc_3, kc_4, kc_5, reduceIte, Nat.reduceEqDiff, Nat.add_zero, rI_hold, rI_hold, rL_hold, htop, hcs, htk, htk1, htg]; exact congrArg nI (by omega))) ?_
  refine Bod.ist dc_117_212 (by rw [ml_117]; exact Nat.le_of_ble_eq_true rfl) ?_
  refine Bod.go dc_117_214 rfl ?_
  refine Bod.virt (r := []) dc_117_215 kr_117_188 ⟨Or.inl rfl, ow_111, cl_10⟩ (by rw [np_111]; rfl) (by rw [np_111]; rfl) (ob_of (mk_43 _)) (Nat.le_of_ble_eq_true rfl) (c4  ) ?_
  show Bod _ _ _ _ [_] _ _ _
  refine Bod.ist dc_117_218 (by rw [ml_117]; exact Nat.le_of_ble_eq_true rfl) ?_
  refine Bod.go dc_117_220 rfl ?_
  refine Bod.bip 18 (by decide) dc_117_221 ?_
  refine Bod.bip 40 (by decide) dc_117_223 ?_
  refine Bod.bip 45 (by decide) dc_117_225 ?_
  refine Bod.virt (r := []) dc_117_227 kr_117_182 ⟨Or.inl rfl, ow_110, cl_10⟩ (by rw [np_110]; rfl) (by rw [np_110]; rfl) (ob_of (mk_43 _)) (Nat.le_of_ble_eq_true rfl) (c5  ) ?_
  show Bod _ _ _ _ [] _ _ _
  refine Bod.go dc_117_230 rfl ?_
  refine Bod.get dc_117_231 fr_117_9 (mk_43 _) rfl ?_
  refine Bod.virt (r := []) dc_117_234 kr_117_192 ⟨Or.inr rfl, ow_40, cl_3⟩ (by rw [np_40]; rfl) (by rw [np_40]; rfl) (ob_of (mk_31 _)) (Nat.le_of_ble_eq_true rfl) (c6  ) ?_
  show Bod _ _ _ _ [] _ _ _
  refine Bod.go dc_117_237 rfl ?_
  refine Bod.get dc_117_238 fr_117_23 (mk_43 _) rfl ?_
  refine Bod.ic 0 (by decide) dc_117_241 ?_
  refine Bod.virt (r := []) dc_117_242 kr_117_169 ⟨Or.inr rfl, ow_57, cl_1⟩ (by rw [np_57]; rfl) (by rw [np_57]; rfl) (ob_of (mk_44 _)) (Nat.le_of_ble_eq_true rfl) (c7  ) ?_
  show Bod _ _ _ _ [] _ _ _
  refine Bod.go dc_117_245 rfl ?_
  refine Bod.get dc_117_246 fr_117_15 (mk_43 _) rfl ?_
  refine Bod.go dc_117_249 rfl ?_
  refine Bod.virt (r := []) dc_117_251 kr_117_72 ⟨Or.inr rfl, ow_71, cl_7⟩ (by rw [np_71]; rfl) (by rw [np_71]; rfl) (ob_of (mk_23 _)) (Nat.le_of_ble_eq_true rfl) (c8  ) ?_
  show Bod _ _ _ _ [_] _ _ _
  refine Bod.go dc_117_254 rfl ?_
  refine Bod.go dc_117_255 rfl ?_
  refine Bod.ic 1 (by decide) dc_117_257 ?_
  refine Bod.icT dc_117_258 rfl (k2_ne_T (k_ne tg 1 rfl rfl (by omega) (by omega) (by omega))) ?_
  refine Bod.go dc_117_270 rfl ?_
  refine Bod.ic 2 (by decide) dc_117_272 ?_
  refine Bod.icT dc_117_273 rfl (k2_ne_T (k_ne tg 2 rfl rfl (by omega) (by omega) (by omega))) ?_
  refine Bod.go dc_117_289 rfl ?_
  refine Bod.get dc_117_290 fr_117_15 (mk_43 _) rfl ?_
  refine Bod.bip 47 (by decide) dc_117_293 ?_
  refine Bod.go dc_117_295 rfl ?_
  refine Bod.virt (r := []) dc_117_297 kr_117_116 ⟨Or.inr rfl, ow_54, cl_7⟩ (by rw [np_54]; rfl) (by rw [np_54]; rfl) (ob_of (mk_23 _)) (Nat.le_of_ble_eq_true rfl) (c9  ) ?_
  show Bod _ _ _ _ [_] _ _ _
  refine Bod.go dc_117_300 rfl ?_
  exact Bod.retV dc_117_301 rt_117
theorem cBjn_2 {d : Nat} {S : cS} {top : Nat} {cs : Nat} {S1 : cS} {tk : Nat} {S2 : cS} {a : Nat} {tk1 : Nat} {S3 : cS} {a1 : Nat} {tg : Nat} {S4 : cS} {a2 : Nat} {S5 : cS} {S6 : cS} {S7 : cS} {S8 : cS} {a3 : Nat} {S9 : cS} {a4 : Nat} (htop : sI S 2307 = nI top) (mtop : top < 2 ^ 20) (hcs : sI S 2308 = nI cs) (mcs : cs < 2 ^ 20) (c1 : Ans (d + 8) 57 [.ref 44, .int (nI 0)] S none S1) (htk : sI S1 3105 = nI tk) (mtk : tk < 2 ^ 20) (b1 : tk ≠ 19) (ma : a < 2 ^ 20) (c2 : Ans (d + 8) 121 [.int (nI tk)] S1 (some (.int (nI a))) S2) (b2 : a ≠ 0) (htk1 : sI S2 3105 = nI tk1) (mtk1 : tk1 < 2 ^ 20) (ma1 : a1 < 2 ^ 20) (c3 : Ans (d + 8) 121 [.int (nI tk1)] S2 (some (.int (nI a1))) S3) (htg : sI S3 4403 = nI tg) (mtg : tg < 2 ^ 20) (ma2 : a2 < 2 ^ 20) (c4 : Ans (d + 8) 111 [.ref 43] S3 (some (.int (nI a2))) S4) (c5 : Ans (d + 8) 110 [.ref 43, .int (nI 18), .int (nI 40), .int (nI 45)] S4 none S5) (c6 : Ans (d + 8) 40 [.ref 31] S5 none S6) (c7 : Ans (d + 8) 57 [.ref 44, .int (nI 0)] S6 none S7) (ma3 : a3 < 2 ^ 20) (c8 : Ans (d + 8) 71 [.ref 23, .int (nI a1)] S7 (some (.int (nI a3))) S8) (b3 : tg ≠ 1) (b4 : tg = 2) (ma4 : a4 < 2 ^ 20) (c9 : Ans (d + 8) 71 [.ref 23, .int (nI 42)] S8 (some (.int (nI a4))) S9) : Bod (d + 8) 117 0 [(0, .ref 43)] [] S none (S9) := by
  refine Bod.go dc_117_0 rfl ?_
  refine Bod.get dc_117_1 fr_117_9 (mk_43 _) rfl ?_
  refine Bod.get dc_117_4 fr_117_166 (mk_31 _) rfl ?_
  refine Bod.istn dc_117_7 (by rw [ml_117]; exact Nat.le_of_ble_eq_true rfl) ?_
  refine Bod.go dc_117_8 rfl ?_
  refine Bod.get dc_117_9 fr_117_15 (mk_43 _) rfl ?_
  refine Bod.get dc_117_12 fr_117_69 (mk_23 _) rfl ?_
  refine Bod.eqI (nI top) (by first | assumption | rfl | exact congrArg nI (by omega) | (simp (disch := omega) only [rI, rIe, rA, rIA, rLA, rJA, rVI, rQI, rVA, rQA, upd_at,  rAI, rLI, rJI, nI_add, pk_sub, kc_0, kc_1, kc_2, kc_3, kc_4, kc_5, reduceIte, Nat.reduceEqDiff, Nat.add_zero, rI_hold, rI_hold, rL_hold, htop]; done)) ?_
  refine Bod.istn dc_117_15 (by rw [ml_117]; exact Nat.le_of_ble_eq_true rfl) ?_
  refine Bod.go dc_117_16 rfl ?_
  refine Bod.get dc_117_17 fr_117_15 (mk_43 _) rfl ?_
  refine Bod.get dc_117_20 fr_117_52 (mk_23 _) rfl ?_
  refine Bod.eqI (nI cs) (by first | assumption | rfl | exact congrArg nI (by omega) | (simp (disch := omega) only [rI, rIe, rA, rIA, rLA, rJA, rVI, rQI, rVA, rQA, upd_at,  rAI, rLI, rJI, nI_add, pk_sub, kc_0, kc_1, kc_2, kc_3, kc_4, kc_5, reduceIte, Nat.reduceEqDiff, Nat.add_zero, rI_hold, rI_hold, rL_hold, htop, hcs]; done)) ?_
  refine Bod.istn dc_117_23 (by rw [ml_117]; exact Nat.le_of_ble_eq_true rfl) ?_
  refine Bod.go dc_117_24 rfl ?_
  refine Bod.get dc_117_25 fr_117_23 (mk_43 _) rfl ?_
  refine Bod.ic 0 (by decide) dc_117_28 ?_
  refine Bod.virt (r := []) dc_117_29 kr_117_169 ⟨Or.inr rfl, ow_57, cl_1⟩ (by rw [np_57]; rfl) (by rw [np_57]; rfl) (ob_of (mk_44 _)) (Nat.le_of_ble_eq_true rfl) (c1  ) ?_
  show Bod _ _ _ _ [] _ _ _
  refine Bod.go dc_117_32 rfl ?_
  refine Bod.get dc_117_33 fr_117_9 (mk_43 _) rfl ?_
  refine Bod.get dc_117_36 fr_117_79 (mk_31 _) rfl ?_
  refine Bod.eqI (nI tk) (by first | (simp (disch := omega) only [rI, rIe, rA, rIA, rLA, rJA, rVI, rQI, rVA, rQA, upd_at,  rAI, rLI, rJI, nI_add, pk_sub, kc_0, kc_1, kc_2, kc_3, kc_4, kc_5, reduceIte, Nat.reduceEqDiff, Nat.add_zero, rI_hold, rI_hold, rL_hold, htop, hcs, htk]; done) | (simp (disch := omega) only [rI, rIe, rA, rIA, rLA, rJA, rVI, rQI, rVA, rQA, upd_at,  rAI, rLI, rJI, nI_add, pk_sub, kc_0, kc_1, kc_2, kc_3, kc_4, kc_5, reduceIte, Nat.reduceEqDiff, Nat.add_zero, rI_hold, rI_hold, rL_hold, htop, hcs, htk]; exact congrArg nI (by omega))) ?_
  refine Bod.bip 19 (by decide) dc_117_39 ?_
  refine Bod.icT dc_117_41 rfl (k2_ne_T (k_ne tk 19 rfl rfl (by omega) (by omega) (by omega))) ?_
  refine Bod.go dc_117_167 rfl ?_
  refine Bod.get dc_117_168 fr_117_9 (mk_43 _) rfl ?_
  refine Bod.get dc_117_171 fr_117_79 (mk_31 _) rfl ?_
  refine Bod.eqI (nI tk) (by first | (simp (disch := omega) only [rI, rIe, rA, rIA, rLA, rJA, rVI, rQI, rVA, rQA, upd_at,  rAI, rLI, rJI, nI_add, pk_sub, kc_0, kc_1, kc_2, kc_3, kc_4, kc_5, reduceIte, Nat.reduceEqDiff, Nat.add_zero, rI_hold, rI_hold, rL_hold, htop, hcs, htk]; done) | (simp (disch := omega) only [rI, rIe, rA, rIA, rLA, rJA, rVI, rQI, rVA, rQA, upd_at,  rAI, rLI, rJI, nI_add, pk_sub, kc_0, kc_1, kc_2, kc_3, kc_4, kc_5, reduceIte, Nat.reduceEqDiff, Nat.add_zero, rI_hold, rI_hold, rL_hold, htop, hcs, htk]; exact congrArg nI (by omega))) ?_
  refine Bod.stat (r := []) dc_117_174 kr_117_185 (Or.inl rfl) (by rw [np_121]; rfl) (by rw [np_121]; rfl) (by rw [np_121]; exact Nat.le_of_ble_eq_true rfl) (Nat.le_of_ble_eq_true rfl) (c2  ) ?_
  show Bod _ _ _ _ [_] _ _ _
  refine Bod.ifT dc_117_177 rfl (k1_ne_T (k_ne a 0 rfl rfl (by omega) (by omega) (by omega))) ?_
  refine Bod.go dc_117_193 rfl ?_
  refine Bod.get dc_117_194 fr_117_9 (mk_43 _) rfl ?_
  refine Bod.get dc_117_197 fr_117_79 (mk_31 _) rfl ?_
  refine Bod.eqI (nI tk1) (by first | (simp (disch := omega) only [rI, rIe, rA, rIA, rLA, rJA, rVI, rQI, rVA, rQA, upd_at,  rAI, rLI, rJI, nI_add, pk_sub, kc_0, kc_1, kc_2, kc_3, kc_4, kc_5, reduceIte, Nat.reduceEqDiff, Nat.add_zero, rI_hold, rI_hold, rL_hold, htop, hcs, htk, htk1]; done) | (simp (disch := omega) only [rI, rIe, rA, rIA, rLA, rJA, rVI, rQI, rVA, rQA, upd_at,  rAI, rLI, rJI, nI_add, pk_sub, kc_0, kc_1, kc_2, kc_3, kc_4, kc_5, reduceIte, Nat.reduceEqDiff, Nat.add_zero, rI_hold, rI_hold, rL_hold, htop, hcs, htk, htk1]; exact congrArg nI (by omega))) ?_
  refine Bod.stat (r := []) dc_117_200 kr_117_185 (Or.inl rfl) (by rw [np_121]; rfl) (by rw [np_121]; rfl) (by rw [np_121]; exact Nat.le_of_ble_eq_true rfl) (Nat.le_of_ble_eq_true rfl) (c3  ) ?_
  show Bod _ _ _ _ [_] _ _ _
  refine Bod.ist dc_117_203 (by rw [ml_117]; exact Nat.le_of_ble_eq_true rfl) ?_
  refine Bod.go dc_117_205 rfl ?_
  refine Bod.get dc_117_206 fr_117_23 (mk_43 _) rfl ?_
  refine Bod.get dc_117_209 fr_117_173 (mk_44 _) rfl ?_
  refine Bod.eqI (nI tg) (by first | (simp (disch := omega) only [rI, rIe, rA, rIA, rLA, rJA, rVI, rQI, rVA, rQA, upd_at,  rAI, rLI, rJI, nI_add, pk_sub, kc_0, kc_1, kc_2, kc_3, kc_4, kc_5, reduceIte, Nat.reduceEqDiff, Nat.add_zero, rI_hold, rI_hold, rL_hold, htop, hcs, htk, htk1, htg]; done) | (simp (disch := omega) only [rI, rIe, rA, rIA, rLA, rJA, rVI, rQI, rVA, rQA, upd_at,  rAI, rLI, rJI, nI_add, pk_sub, kc_0, kc_1, kc_2, kc_3, kc_4, kc_5, reduceIte, Nat.reduceEqDiff, Nat.add_zero, rI_hold, rI_hold, rL_hold, htop, hcs, htk, htk1, htg]; exact congrArg nI (by omega))) ?_
  refine Bod.ist dc_117_212 (by rw [ml_117]; exact Nat.le_of_ble_eq_true rfl) ?_
  refine Bod.go dc_117_214 rfl ?_
  refine Bod.virt (r := []) dc_117_215 kr_117_188 ⟨Or.inl rfl, ow_111, cl_10⟩ (by rw [np_111]; rfl) (by rw [np_111]; rfl) (ob_of (mk_43 _)) (Nat.le_of_ble_eq_true rfl) (c4  ) ?_
  show Bod _ _ _ _ [_] _ _ _
  refine Bod.ist dc_117_218 (by rw [ml_117]; exact Nat.le_of_ble_eq_true rfl) ?_
  refine Bod.go dc_117_220 rfl ?_
  refine Bod.bip 18 (by decide) dc_117_221 ?_
  refine Bod.bip 40 (by decide) dc_117_223 ?_
  refine Bod.bip 45 (by decide) dc_117_225 ?_
  refine Bod.virt (r := []) dc_117_227 kr_117_182 ⟨Or.inl rfl, ow_110, cl_10⟩ (by rw [np_110]; rfl) (by rw [np_110]; rfl) (ob_of (mk_43 _)) (Nat.le_of_ble_eq_true rfl) (c5  ) ?_
  show Bod _ _ _ _ [] _ _ _
  refine Bod.go dc_117_230 rfl ?_
  refine Bod.get dc_117_231 fr_117_9 (mk_43 _) rfl ?_
  refine Bod.virt (r := []) dc_117_234 kr_117_192 ⟨Or.inr rfl, ow_40, cl_3⟩ (by rw [np_40]; rfl) (by rw [np_40]; rfl) (ob_of (mk_31 _)) (Nat.le_of_ble_eq_true rfl) (c6  ) ?_
  show Bod _ _ _ _ [] _ _ _
  refine Bod.go dc_117_237 rfl ?_
  refine Bod.get dc_117_238 fr_117_23 (mk_43 _) rfl ?_
  refine Bod.ic 0 (by decide) dc_117_241 ?_
  refine Bod.virt (r := []) dc_117_242 kr_117_169 ⟨Or.inr rfl, ow_57, cl_1⟩ (by rw [np_57]; rfl) (by rw [np_57]; rfl) (ob_of (mk_44 _)) (Nat.le_of_ble_eq_true rfl) (c7  ) ?_
  show Bod _ _ _ _ [] _ _ _
  refine Bod.go dc_117_245 rfl ?_
  refine Bod.get dc_117_246 fr_117_15 (mk_43 _) rfl ?_
  refine Bod.go dc_117_249 rfl ?_
  refine Bod.virt (r := []) dc_117_251 kr_117_72 ⟨Or.inr rfl, ow_71, cl_7⟩ (by rw [np_71]; rfl) (by rw [np_71]; rfl) (ob_of (mk_23 _)) (Nat.le_of_ble_eq_true rfl) (c8  ) ?_
  show Bod _ _ _ _ [_] _ _ _
  refine Bod.go dc_117_254 rfl ?_
  refine Bod.go dc_117_255 rfl ?_
  refine Bod.ic 1 (by decide) dc_117_257 ?_
  refine Bod.icT dc_117_258 rfl (k2_ne_T (k_ne tg 1 rfl rfl (by omega) (by omega) (by omega))) ?_
  refine Bod.go dc_117_270 rfl ?_
  refine Bod.ic 2 (by decide) dc_117_272 ?_
  refine Bod.icF dc_117_273 rfl (k2_ne_F (k_eq tg 2 rfl rfl (by omega))) ?_
  refine Bod.go dc_117_276 rfl ?_
  refine Bod.get dc_117_277 fr_117_15 (mk_43 _) rfl ?_
  refine Bod.bip 42 (by decide) dc_117_280 ?_
  refine Bod.virt (r := []) dc_117_282 kr_117_72 ⟨Or.inr rfl, ow_71, cl_7⟩ (by rw [np_71]; rfl) (by rw [np_71]; rfl) (ob_of (mk_23 _)) (Nat.le_of_ble_eq_true rfl) (c9  ) ?_
  show Bod _ _ _ _ [_] _ _ _
  refine Bod.go dc_117_285 rfl ?_
  refine Bod.go dc_117_286 rfl ?_
  exact Bod.retV dc_117_301 rt_117
theorem cBjn_3 {d : Nat} {S : cS} {top : Nat} {cs : Nat} {S1 : cS} {tk : Nat} {S2 : cS} {a : Nat} {tk1 : Nat} {S3 : cS} {a1 : Nat} {tg : Nat} {S4 : cS} {a2 : Nat} {S5 : cS} {S6 : cS} {S7 : cS} {S8 : cS} {a3 : Nat} {S9 : cS} (htop : sI S 2307 = nI top) (mtop : top < 2 ^ 20) (hcs : sI S 2308 = nI cs) (mcs : cs < 2 ^ 20) (c1 : Ans (d + 8) 57 [.ref 44, .int (nI 0)] S none S1) (htk : sI S1 3105 = nI tk) (mtk : tk < 2 ^ 20) (b1 : tk ≠ 19) (ma : a < 2 ^ 20) (c2 : Ans (d + 8) 121 [.int (nI tk)] S1 (some (.int (nI a))) S2) (b2 : a ≠ 0) (htk1 : sI S2 3105 = nI tk1) (mtk1 : tk1 < 2 ^ 20) (ma1 : a1 < 2 ^ 20) (c3 : Ans (d + 8) 121 [.int (nI tk1)] S2 (some (.int (nI a1))) S3) (htg : sI S3 4403 = nI tg) (mtg : tg < 2 ^ 20) (ma2 : a2 < 2 ^ 20) (c4 : Ans (d + 8) 111 [.ref 43] S3 (some (.int (nI a2))) S4) (c5 : Ans (d + 8) 110 [.ref 43, .int (nI 18), .int (nI 40), .int (nI 45)] S4 none S5) (c6 : Ans (d + 8) 40 [.ref 31] S5 none S6) (c7 : Ans (d + 8) 57 [.ref 44, .int (nI 0)] S6 none S7) (ma3 : a3 < 2 ^ 20) (c8 : Ans (d + 8) 71 [.ref 23, .int (nI a1)] S7 (some (.int (nI a3))) S8) (b3 : tg = 1) (c9 : Ans (d + 8) 93 [.ref 43, .int (nI a2)] S8 none S9) : Bod (d + 8) 117 0 [(0, .ref 43)] [] S none (S9) := by
  refine Bod.go dc_117_0 rfl ?_
  refine Bod.get dc_117_1 fr_117_9 (mk_43 _) rfl ?_
  refine Bod.get dc_117_4 fr_117_166 (mk_31 _) rfl ?_
  refine Bod.istn dc_117_7 (by rw [ml_117]; exact Nat.le_of_ble_eq_true rfl) ?_
  refine Bod.go dc_117_8 rfl ?_
  refine Bod.get dc_117_9 fr_117_15 (mk_43 _) rfl ?_
  refine Bod.get dc_117_12 fr_117_69 (mk_23 _) rfl ?_
  refine Bod.eqI (nI top) (by first | assumption | rfl | exact congrArg nI (by omega) | (simp (disch := omega) only [rI, rIe, rA, rIA, rLA, rJA, rVI, rQI, rVA, rQA, upd_at,  rAI, rLI, rJI, nI_add, pk_sub, kc_0, kc_1, kc_2, kc_3, kc_4, kc_5, reduceIte, Nat.reduceEqDiff, Nat.add_zero, rI_hold, rI_hold, rL_hold, htop]; done)) ?_
  refine Bod.istn dc_117_15 (by rw [ml_117]; exact Nat.le_of_ble_eq_true rfl) ?_
  refine Bod.go dc_117_16 rfl ?_
  refine Bod.get dc_117_17 fr_117_15 (mk_43 _) rfl ?_
  refine Bod.get dc_117_20 fr_117_52 (mk_23 _) rfl ?_
  refine Bod.eqI (nI cs) (by first | assumption | rfl | exact congrArg nI (by omega) | (simp (disch := omega) only [rI, rIe, rA, rIA, rLA, rJA, rVI, rQI, rVA, rQA, upd_at,  rAI, rLI, rJI, nI_add, pk_sub, kc_0, kc_1, kc_2, kc_3, kc_4, kc_5, reduceIte, Nat.reduceEqDiff, Nat.add_zero, rI_hold, rI_hold, rL_hold, htop, hcs]; done)) ?_
  refine Bod.istn dc_117_23 (by rw [ml_117]; exact Nat.le_of_ble_eq_true rfl) ?_
  refine Bod.go dc_117_24 rfl ?_
  refine Bod.get dc_117_25 fr_117_23 (mk_43 _) rfl ?_
  refine Bod.ic 0 (by decide) dc_117_28 ?_
  refine Bod.virt (r := []) dc_117_29 kr_117_169 ⟨Or.inr rfl, ow_57, cl_1⟩ (by rw [np_57]; rfl) (by rw [np_57]; rfl) (ob_of (mk_44 _)) (Nat.le_of_ble_eq_true rfl) (c1  ) ?_
  show Bod _ _ _ _ [] _ _ _
  refine Bod.go dc_117_32 rfl ?_
  refine Bod.get dc_117_33 fr_117_9 (mk_43 _) rfl ?_
  refine Bod.get dc_117_36 fr_117_79 (mk_31 _) rfl ?_
  refine Bod.eqI (nI tk) (by first | (simp (disch := omega) only [rI, rIe, rA, rIA, rLA, rJA, rVI, rQI, rVA, rQA, upd_at,  rAI, rLI, rJI, nI_add, pk_sub, kc_0, kc_1, kc_2, kc_3, kc_4, kc_5, reduceIte, Nat.reduceEqDiff, Nat.add_zero, rI_hold, rI_hold, rL_hold, htop, hcs, htk]; done) | (simp (disch := omega) only [rI, rIe, rA, rIA, rLA, rJA, rVI, rQI, rVA, rQA, upd_at,  rAI, rLI, rJI, nI_add, pk_sub, kc_0, kc_1, kc_2, kc_3, kc_4, kc_5, reduceIte, Nat.reduceEqDiff, Nat.add_zero, rI_hold, rI_hold, rL_hold, htop, hcs, htk]; exact congrArg nI (by omega))) ?_
  refine Bod.bip 19 (by decide) dc_117_39 ?_
  refine Bod.icT dc_117_41 rfl (k2_ne_T (k_ne tk 19 rfl rfl (by omega) (by omega) (by omega))) ?_
  refine Bod.go dc_117_167 rfl ?_
  refine Bod.get dc_117_168 fr_117_9 (mk_43 _) rfl ?_
  refine Bod.get dc_117_171 fr_117_79 (mk_31 _) rfl ?_
  refine Bod.eqI (nI tk) (by first | (simp (disch := omega) only [rI, rIe, rA, rIA, rLA, rJA, rVI, rQI, rVA, rQA, upd_at,  rAI, rLI, rJI, nI_add, pk_sub, kc_0, kc_1, kc_2, kc_3, kc_4, kc_5, reduceIte, Nat.reduceEqDiff, Nat.add_zero, rI_hold, rI_hold, rL_hold, htop, hcs, htk]; done) | (simp (disch := omega) only [rI, rIe, rA, rIA, rLA, rJA, rVI, rQI, rVA, rQA, upd_at,  rAI, rLI, rJI, nI_add, pk_sub, kc_0, kc_1, kc_2, kc_3, kc_4, kc_5, reduceIte, Nat.reduceEqDiff, Nat.add_zero, rI_hold, rI_hold, rL_hold, htop, hcs, htk]; exact congrArg nI (by omega))) ?_
  refine Bod.stat (r := []) dc_117_174 kr_117_185 (Or.inl rfl) (by rw [np_121]; rfl) (by rw [np_121]; rfl) (by rw [np_121]; exact Nat.le_of_ble_eq_true rfl) (Nat.le_of_ble_eq_true rfl) (c2  ) ?_
  show Bod _ _ _ _ [_] _ _ _
  refine Bod.ifT dc_117_177 rfl (k1_ne_T (k_ne a 0 rfl rfl (by omega) (by omega) (by omega))) ?_
  refine Bod.go dc_117_193 rfl ?_
  refine Bod.get dc_117_194 fr_117_9 (mk_43 _) rfl ?_
  refine Bod.get dc_117_197 fr_117_79 (mk_31 _) rfl ?_
  refine Bod.eqI (nI tk1) (by first | (simp (disch := omega) only [rI, rIe, rA, rIA, rLA, rJA, rVI, rQI, rVA, rQA, upd_at,  rAI, rLI, rJI, nI_add, pk_sub, kc_0, kc_1, kc_2, kc_3, kc_4, kc_5, reduceIte, Nat.reduceEqDiff, Nat.add_zero, rI_hold, rI_hold, rL_hold, htop, hcs, htk, htk1]; done) | (simp (disch := omega) only [rI, rIe, rA, rIA, rLA, rJA, rVI, rQI, rVA, rQA, upd_at,  rAI, rLI, rJI, nI_add, pk_sub, kc_0, kc_1, kc_2, kc_3, kc_4, kc_5, reduceIte, Nat.reduceEqDiff, Nat.add_zero, rI_hold, rI_hold, rL_hold, htop, hcs, htk, htk1]; exact congrArg nI (by omega))) ?_
  refine Bod.stat (r := []) dc_117_200 kr_117_185 (Or.inl rfl) (by rw [np_121]; rfl) (by rw [np_121]; rfl) (by rw [np_121]; exact Nat.le_of_ble_eq_true rfl) (Nat.le_of_ble_eq_true rfl) (c3  ) ?_
  show Bod _ _ _ _ [_] _ _ _
  refine Bod.ist dc_117_203 (by rw [ml_117]; exact Nat.le_of_ble_eq_true rfl) ?_
  refine Bod.go dc_117_205 rfl ?_
  refine Bod.get dc_117_206 fr_117_23 (mk_43 _) rfl ?_
  refine Bod.get dc_117_209 fr_117_173 (mk_44 _) rfl ?_
  refine Bod.eqI (nI tg) (by first | (simp (disch := omega) only [rI, rIe, rA, rIA, rLA, rJA, rVI, rQI, rVA, rQA, upd_at,  rAI, rLI, rJI, nI_add, pk_sub, kc_0, kc_1, kc_2, kc_3, kc_4, kc_5, reduceIte, Nat.reduceEqDiff, Nat.add_zero, rI_hold, rI_hold, rL_hold, htop, hcs, htk, htk1, htg]; done) | (simp (disch := omega) only [rI, rIe, rA, rIA, rLA, rJA, rVI, rQI, rVA, rQA, upd_at,  rAI, rLI, rJI, nI_add, pk_sub, kc_0, kc_1, kc_2, kc_3, kc_4, kc_5, reduceIte, Nat.reduceEqDiff, Nat.add_zero, rI_hold, rI_hold, rL_hold, htop, hcs, htk, htk1, htg]; exact congrArg nI (by omega))) ?_
  refine Bod.ist dc_117_212 (by rw [ml_117]; exact Nat.le_of_ble_eq_true rfl) ?_
  refine Bod.go dc_117_214 rfl ?_
  refine Bod.virt (r := []) dc_117_215 kr_117_188 ⟨Or.inl rfl, ow_111, cl_10⟩ (by rw [np_111]; rfl) (by rw [np_111]; rfl) (ob_of (mk_43 _)) (Nat.le_of_ble_eq_true rfl) (c4  ) ?_
  show Bod _ _ _ _ [_] _ _ _
  refine Bod.ist dc_117_218 (by rw [ml_117]; exact Nat.le_of_ble_eq_true rfl) ?_
  refine Bod.go dc_117_220 rfl ?_
  refine Bod.bip 18 (by decide) dc_117_221 ?_
  refine Bod.bip 40 (by decide) dc_117_223 ?_
  refine Bod.bip 45 (by decide) dc_117_225 ?_
  refine Bod.virt (r := []) dc_117_227 kr_117_182 ⟨Or.inl rfl, ow_110, cl_10⟩ (by rw [np_110]; rfl) (by rw [np_110]; rfl) (ob_of (mk_43 _)) (Nat.le_of_ble_eq_true rfl) (c5  ) ?_
  show Bod _ _ _ _ [] _ _ _
  refine Bod.go dc_117_230 rfl ?_
  refine Bod.get dc_117_231 fr_117_9 (mk_43 _) rfl ?_
  refine Bod.virt (r := []) dc_117_234 kr_117_192 ⟨Or.inr rfl, ow_40, cl_3⟩ (by rw [np_40]; rfl) (by rw [np_40]; rfl) (ob_of (mk_31 _)) (Nat.le_of_ble_eq_true rfl) (c6  ) ?_
  show Bod _ _ _ _ [] _ _ _
  refine Bod.go dc_117_237 rfl ?_
  refine Bod.get dc_117_238 fr_117_23 (mk_43 _) rfl ?_
  refine Bod.ic 0 (by decide) dc_117_241 ?_
  refine Bod.virt (r := []) dc_117_242 kr_117_169 ⟨Or.inr rfl, ow_57, cl_1⟩ (by rw [np_57]; rfl) (by rw [np_57]; rfl) (ob_of (mk_44 _)) (Nat.le_of_ble_eq_true rfl) (c7  ) ?_
  show Bod _ _ _ _ [] _ _ _
  refine Bod.go dc_117_245 rfl ?_
  refine Bod.get dc_117_246 fr_117_15 (mk_43 _) rfl ?_
  refine Bod.go dc_117_249 rfl ?_
  refine Bod.virt (r := []) dc_117_251 kr_117_72 ⟨Or.inr rfl, ow_71, cl_7⟩ (by rw [np_71]; rfl) (by rw [np_71]; rfl) (ob_of (mk_23 _)) (Nat.le_of_ble_eq_true rfl) (c8  ) ?_
  show Bod _ _ _ _ [_] _ _ _
  refine Bod.go dc_117_254 rfl ?_
  refine Bod.go dc_117_255 rfl ?_
  refine Bod.ic 1 (by decide) dc_117_257 ?_
  refine Bod.icF dc_117_258 rfl (k2_ne_F (k_eq tg 1 rfl rfl (by omega))) ?_
  refine Bod.go dc_117_261 rfl ?_
  refine Bod.go dc_117_262 rfl ?_
  refine Bod.virt (r := []) dc_117_264 kr_117_131 ⟨Or.inl rfl, ow_93, cl_10⟩ (by rw [np_93]; rfl) (by rw [np_93]; rfl) (ob_of (mk_43 _)) (Nat.le_of_ble_eq_true rfl) (c9  ) ?_
  show Bod _ _ _ _ [] _ _ _
  refine Bod.go dc_117_267 rfl ?_
  exact Bod.retV dc_117_301 rt_117
theorem cBjn_4 {d : Nat} {S : cS} {top : Nat} {cs : Nat} {S1 : cS} {tk : Nat} {S2 : cS} {a : Nat} {S3 : cS} {a1 : Nat} (htop : sI S 2307 = nI top) (mtop : top < 2 ^ 20) (hcs : sI S 2308 = nI cs) (mcs : cs < 2 ^ 20) (c1 : Ans (d + 8) 57 [.ref 44, .int (nI 0)] S none S1) (htk : sI S1 3105 = nI tk) (mtk : tk < 2 ^ 20) (b1 : tk ≠ 19) (ma : a < 2 ^ 20) (c2 : Ans (d + 8) 121 [.int (nI tk)] S1 (some (.int (nI a))) S2) (b2 : a = 0) (ma1 : a1 < 2 ^ 20) (c3 : Ans (d + 8) 71 [.ref 23, .int (nI 17)] S2 (some (.int (nI a1))) S3) : Bod (d + 8) 117 0 [(0, .ref 43)] [] S none (S3) := by
  refine Bod.go dc_117_0 rfl ?_
  refine Bod.get dc_117_1 fr_117_9 (mk_43 _) rfl ?_
  refine Bod.get dc_117_4 fr_117_166 (mk_31 _) rfl ?_
  refine Bod.istn dc_117_7 (by rw [ml_117]; exact Nat.le_of_ble_eq_true rfl) ?_
  refine Bod.go dc_117_8 rfl ?_
  refine Bod.get dc_117_9 fr_117_15 (mk_43 _) rfl ?_
  refine Bod.get dc_117_12 fr_117_69 (mk_23 _) rfl ?_
  refine Bod.eqI (nI top) (by first | assumption | rfl | exact congrArg nI (by omega) | (simp (disch := omega) only [rI, rIe, rA, rIA, rLA, rJA, rVI, rQI, rVA, rQA, upd_at,  rAI, rLI, rJI, nI_add, pk_sub, kc_0, kc_1, kc_2, kc_3, kc_4, kc_5, reduceIte, Nat.reduceEqDiff, Nat.add_zero, rI_hold, rI_hold, rL_hold, htop]; done)) ?_
  refine Bod.istn dc_117_15 (by rw [ml_117]; exact Nat.le_of_ble_eq_true rfl) ?_
  refine Bod.go dc_117_16 rfl ?_
  refine Bod.get dc_117_17 fr_117_15 (mk_43 _) rfl ?_
  refine Bod.get dc_117_20 fr_117_52 (mk_23 _) rfl ?_
  refine Bod.eqI (nI cs) (by first | assumption | rfl | exact congrArg nI (by omega) | (simp (disch := omega) only [rI, rIe, rA, rIA, rLA, rJA, rVI, rQI, rVA, rQA, upd_at,  rAI, rLI, rJI, nI_add, pk_sub, kc_0, kc_1, kc_2, kc_3, kc_4, kc_5, reduceIte, Nat.reduceEqDiff, Nat.add_zero, rI_hold, rI_hold, rL_hold, htop, hcs]; done)) ?_
  refine Bod.istn dc_117_23 (by rw [ml_117]; exact Nat.le_of_ble_eq_true rfl) ?_
  refine Bod.go dc_117_24 rfl ?_
  refine Bod.get dc_117_25 fr_117_23 (mk_43 _) rfl ?_
  refine Bod.ic 0 (by decide) dc_117_28 ?_
  refine Bod.virt (r := []) dc_117_29 kr_117_169 ⟨Or.inr rfl, ow_57, cl_1⟩ (by rw [np_57]; rfl) (by rw [np_57]; rfl) (ob_of (mk_44 _)) (Nat.le_of_ble_eq_true rfl) (c1  ) ?_
  show Bod _ _ _ _ [] _ _ _
  refine Bod.go dc_117_32 rfl ?_
  refine Bod.get dc_117_33 fr_117_9 (mk_43 _) rfl ?_
  refine Bod.get dc_117_36 fr_117_79 (mk_31 _) rfl ?_
  refine Bod.eqI (nI tk) (by first | (simp (disch := omega) only [rI, rIe, rA, rIA, rLA, rJA, rVI, rQI, rVA, rQA, upd_at,  rAI, rLI, rJI, nI_add, pk_sub, kc_0, kc_1, kc_2, kc_3, kc_4, kc_5, reduceIte, Nat.reduceEqDiff, Nat.add_zero, rI_hold, rI_hold, rL_hold, htop, hcs, htk]; done) | (simp (disch := omega) only [rI, rIe, rA, rIA, rLA, rJA, rVI, rQI, rVA, rQA, upd_at,  rAI, rLI, rJI, nI_add, pk_sub, kc_0, kc_1, kc_2, kc_3, kc_4, kc_5, reduceIte, Nat.reduceEqDiff, Nat.add_zero, rI_hold, rI_hold, rL_hold, htop, hcs, htk]; exact congrArg nI (by omega))) ?_
  refine Bod.bip 19 (by decide) dc_117_39 ?_
  refine Bod.icT dc_117_41 rfl (k2_ne_T (k_ne tk 19 rfl rfl (by omega) (by omega) (by omega))) ?_
  refine Bod.go dc_117_167 rfl ?_
  refine Bod.get dc_117_168 fr_117_9 (mk_43 _) rfl ?_
  refine Bod.get dc_117_171 fr_117_79 (mk_31 _) rfl ?_
  refine Bod.eqI (nI tk) (by first | (simp (disch := omega) only [rI, rIe, rA, rIA, rLA, rJA, rVI, rQI, rVA, rQA, upd_at,  rAI, rLI, rJI, nI_add, pk_sub, kc_0, kc_1, kc_2, kc_3, kc_4, kc_5, reduceIte, Nat.reduceEqDiff, Nat.add_zero, rI_hold, rI_hold, rL_hold, htop, hcs, htk]; done) | (simp (disch := omega) only [rI, rIe, rA, rIA, rLA, rJA, rVI, rQI, rVA, rQA, upd_at,  rAI, rLI, rJI, nI_add, pk_sub, kc_0, kc_1, kc_2, kc_3, kc_4, kc_5, reduceIte, Nat.reduceEqDiff, Nat.add_zero, rI_hold, rI_hold, rL_hold, htop, hcs, htk]; exact congrArg nI (by omega))) ?_
  refine Bod.stat (r := []) dc_117_174 kr_117_185 (Or.inl rfl) (by rw [np_121]; rfl) (by rw [np_121]; rfl) (by rw [np_121]; exact Nat.le_of_ble_eq_true rfl) (Nat.le_of_ble_eq_true rfl) (c2  ) ?_
  show Bod _ _ _ _ [_] _ _ _
  refine Bod.ifF dc_117_177 rfl (k1_ne_F (k_eq a 0 rfl rfl (by omega))) ?_
  refine Bod.go dc_117_180 rfl ?_
  refine Bod.get dc_117_181 fr_117_15 (mk_43 _) rfl ?_
  refine Bod.bip 17 (by decide) dc_117_184 ?_
  refine Bod.virt (r := []) dc_117_186 kr_117_72 ⟨Or.inr rfl, ow_71, cl_7⟩ (by rw [np_71]; rfl) (by rw [np_71]; rfl) (ob_of (mk_23 _)) (Nat.le_of_ble_eq_true rfl) (c3  ) ?_
  show Bod _ _ _ _ [_] _ _ _
  refine Bod.go dc_117_189 rfl ?_
  refine Bod.go dc_117_190 rfl ?_
  exact Bod.retV dc_117_301 rt_117
theorem cBjn_5 {d : Nat} {S : cS} {top : Nat} {cs : Nat} {S1 : cS} {tk : Nat} {tg : Nat} {fs : Nat} {S2 : cS} {S3 : cS} {S4 : cS} {S5 : cS} {tk1 : Nat} {S6 : cS} {S7 : cS} {S8 : cS} {S9 : cS} (htop : sI S 2307 = nI top) (mtop : top < 2 ^ 20) (hcs : sI S 2308 = nI cs) (mcs : cs < 2 ^ 20) (c1 : Ans (d + 8) 57 [.ref 44, .int (nI 0)] S none S1) (htk : sI S1 3105 = nI tk) (mtk : tk < 2 ^ 20) (b1 : tk = 19) (htg : sI S1 4403 = nI tg) (mtg : tg < 2 ^ 20) (b2 : tg ≠ 0) (hfs : sI S1 2309 = nI fs) (mfs : fs < 2 ^ 20) (c2 : Ans (d + 8) 118 [.ref 23, .int (nI top), .int (nI cs), .int (nI fs)] S1 none S2) (c3 : Ans (d + 8) 119 [.ref 32, .int (nI top)] S2 none S3) (c4 : Ans (d + 8) 75 [.ref 31, .int (nI 19)] S3 none S4) (c5 : Ans (d + 8) 57 [.ref 44, .int (nI 0)] S4 none S5) (htk1 : sI S5 3105 = nI tk1) (mtk1 : tk1 < 2 ^ 20) (b3 : tk1 = 2) (c6 : Ans (d + 8) 120 [.ref 31, .int (sI S 3104)] S5 none S6) (c7 : Ans (d + 8) 57 [.ref 44, .int (nI 0)] S6 none S7) (c8 : Ans (d + 8) 110 [.ref 43, .int (nI 19), .int (nI 41), .int (nI 46)] S7 none S8) (c9 : Ans (d + 8) 120 [.ref 31, .int (sI S5 3104)] S8 none S9) : Bod (d + 8) 117 0 [(0, .ref 43)] [] S none (S9) := by
  refine Bod.go dc_117_0 rfl ?_
  refine Bod.get dc_117_1 fr_117_9 (mk_43 _) rfl ?_
  refine Bod.get dc_117_4 fr_117_166 (mk_31 _) rfl ?_
  refine Bod.istn dc_117_7 (by rw [ml_117]; exact Nat.le_of_ble_eq_true rfl) ?_
  refine Bod.go dc_117_8 rfl ?_
  refine Bod.get dc_117_9 fr_117_15 (mk_43 _) rfl ?_
  refine Bod.get dc_117_12 fr_117_69 (mk_23 _) rfl ?_
  refine Bod.eqI (nI top) (by first | assumption | rfl | exact congrArg nI (by omega) | (simp (disch := omega) only [rI, rIe, rA, rIA, rLA, rJA, rVI, rQI, rVA, rQA, upd_at,  rAI, rLI, rJI, nI_add, pk_sub, kc_0, kc_1, kc_2, kc_3, kc_4, kc_5, reduceIte, Nat.reduceEqDiff, Nat.add_zero, rI_hold, rI_hold, rL_hold, htop]; done)) ?_
  refine Bod.istn dc_117_15 (by rw [ml_117]; exact Nat.le_of_ble_eq_true rfl) ?_
  refine Bod.go dc_117_16 rfl ?_
  refine Bod.get dc_117_17 fr_117_15 (mk_43 _) rfl ?_
  refine Bod.get dc_117_20 fr_117_52 (mk_23 _) rfl ?_
  refine Bod.eqI (nI cs) (by first | assumption | rfl | exact congrArg nI (by omega) | (simp (disch := omega) only [rI, rIe, rA, rIA, rLA, rJA, rVI, rQI, rVA, rQA, upd_at,  rAI, rLI, rJI, nI_add, pk_sub, kc_0, kc_1, kc_2, kc_3, kc_4, kc_5, reduceIte, Nat.reduceEqDiff, Nat.add_zero, rI_hold, rI_hold, rL_hold, htop, hcs]; done)) ?_
  refine Bod.istn dc_117_23 (by rw [ml_117]; exact Nat.le_of_ble_eq_true rfl) ?_
  refine Bod.go dc_117_24 rfl ?_
  refine Bod.get dc_117_25 fr_117_23 (mk_43 _) rfl ?_
  refine Bod.ic 0 (by decide) dc_117_28 ?_
  refine Bod.virt (r := []) dc_117_29 kr_117_169 ⟨Or.inr rfl, ow_57, cl_1⟩ (by rw [np_57]; rfl) (by rw [np_57]; rfl) (ob_of (mk_44 _)) (Nat.le_of_ble_eq_true rfl) (c1  ) ?_
  show Bod _ _ _ _ [] _ _ _
  refine Bod.go dc_117_32 rfl ?_
  refine Bod.get dc_117_33 fr_117_9 (mk_43 _) rfl ?_
  refine Bod.get dc_117_36 fr_117_79 (mk_31 _) rfl ?_
  refine Bod.eqI (nI tk) (by first | (simp (disch := omega) only [rI, rIe, rA, rIA, rLA, rJA, rVI, rQI, rVA, rQA, upd_at,  rAI, rLI, rJI, nI_add, pk_sub, kc_0, kc_1, kc_2, kc_3, kc_4, kc_5, reduceIte, Nat.reduceEqDiff, Nat.add_zero, rI_hold, rI_hold, rL_hold, htop, hcs, htk]; done) | (simp (disch := omega) only [rI, rIe, rA, rIA, rLA, rJA, rVI, rQI, rVA, rQA, upd_at,  rAI, rLI, rJI, nI_add, pk_sub, kc_0, kc_1, kc_2, kc_3, kc_4, kc_5, reduceIte, Nat.reduceEqDiff, Nat.add_zero, rI_hold, rI_hold, rL_hold, htop, hcs, htk]; exact congrArg nI (by omega))) ?_
  refine Bod.bip 19 (by decide) dc_117_39 ?_
  refine Bod.icF dc_117_41 rfl (k2_ne_F (k_eq tk 19 rfl rfl (by omega))) ?_
  refine Bod.go dc_117_44 rfl ?_
  refine Bod.get dc_117_45 fr_117_23 (mk_43 _) rfl ?_
  refine Bod.get dc_117_48 fr_117_173 (mk_44 _) rfl ?_
  refine Bod.eqI (nI tg) (by first | (simp (disch := omega) only [rI, rIe, rA, rIA, rLA, rJA, rVI, rQI, rVA, rQA, upd_at,  rAI, rLI, rJI, nI_add, pk_sub, kc_0, kc_1, kc_2, kc_3, kc_4, kc_5, reduceIte, Nat.reduceEqDiff, Nat.add_zero, rI_hold, rI_hold, rL_hold, htop, hcs, htk, htg]; done) | (simp (disch := omega) only [rI, rIe, rA, rIA, rLA, rJA, rVI, rQI, rVA, rQA, upd_at,  rAI, rLI, rJI, nI_add, pk_sub, kc_0, kc_1, kc_2, kc_3, kc_4, kc_5, reduceIte, Nat.reduceEqDiff, Nat.add_zero, rI_hold, rI_hold, rL_hold, htop, hcs, htk, htg]; exact congrArg nI (by omega))) ?_
  refine Bod.ifT dc_117_51 rfl (k1_ne_T (k_ne tg 0 rfl rfl (by omega) (by omega) (by omega))) ?_
  refine Bod.go dc_117_61 rfl ?_
  refine Bod.get dc_117_62 fr_117_15 (mk_43 _) rfl ?_
  refine Bod.go dc_117_65 rfl ?_
  refine Bod.go dc_117_66 rfl ?_
  refine Bod.go dc_117_67 rfl ?_
  refine Bod.get dc_117_68 fr_117_15 (mk_43 _) rfl ?_
  refine Bod.get dc_117_71 fr_117_58 (mk_23 _) rfl ?_
  refine Bod.eqI (nI fs) (by first | (simp (disch := omega) only [rI, rIe, rA, rIA, rLA, rJA, rVI, rQI, rVA, rQA, upd_at,  rAI, rLI, rJI, nI_add, pk_sub, kc_0, kc_1, kc_2, kc_3, kc_4, kc_5, reduceIte, Nat.reduceEqDiff, Nat.add_zero, rI_hold, rI_hold, rL_hold, htop, hcs, htk, htg, hfs]; done) | (simp (disch := omega) only [rI, rIe, rA, rIA, rLA, rJA, rVI, rQI, rVA, rQA, upd_at,  rAI, rLI, rJI, nI_add, pk_sub, kc_0, kc_1, kc_2, kc_3, kc_4, kc_5, reduceIte, Nat.reduceEqDiff, Nat.add_zero, rI_hold, rI_hold, rL_hold, htop, hcs, htk, htg, hfs]; exact congrArg nI (by omega))) ?_
  refine Bod.virt (r := []) dc_117_74 kr_117_85 ⟨Or.inr rfl, ow_118, cl_7⟩ (by rw [np_118]; rfl) (by rw [np_118]; rfl) (ob_of (mk_23 _)) (Nat.le_of_ble_eq_true rfl) (c2  ) ?_
  show Bod _ _ _ _ [] _ _ _
  refine Bod.go dc_117_77 rfl ?_
  refine Bod.get dc_117_78 fr_117_19 (mk_43 _) rfl ?_
  refine Bod.go dc_117_81 rfl ?_
  refine Bod.virt (r := []) dc_117_82 kr_117_176 ⟨Or.inr rfl, ow_119, cl_8⟩ (by rw [np_119]; rfl) (by rw [np_119]; rfl) (ob_of (mk_32 _)) (Nat.le_of_ble_eq_true rfl) (c3  ) ?_
  show Bod _ _ _ _ [] _ _ _
  refine Bod.go dc_117_85 rfl ?_
  refine Bod.get dc_117_86 fr_117_9 (mk_43 _) rfl ?_
  refine Bod.bip 19 (by decide) dc_117_89 ?_
  refine Bod.virt (r := []) dc_117_91 kr_117_107 ⟨Or.inr rfl, ow_75, cl_3⟩ (by rw [np_75]; rfl) (by rw [np_75]; rfl) (ob_of (mk_31 _)) (Nat.le_of_ble_eq_true rfl) (c4  ) ?_
  show Bod _ _ _ _ [] _ _ _
  refine Bod.go dc_117_94 rfl ?_
  refine Bod.get dc_117_95 fr_117_23 (mk_43 _) rfl ?_
  refine Bod.ic 0 (by decide) dc_117_98 ?_
  refine Bod.virt (r := []) dc_117_99 kr_117_169 ⟨Or.inr rfl, ow_57, cl_1⟩ (by rw [np_57]; rfl) (by rw [np_57]; rfl) (ob_of (mk_44 _)) (Nat.le_of_ble_eq_true rfl) (c5  ) ?_
  show Bod _ _ _ _ [] _ _ _
  refine Bod.go dc_117_102 rfl ?_
  refine Bod.get dc_117_103 fr_117_9 (mk_43 _) rfl ?_
  refine Bod.get dc_117_106 fr_117_79 (mk_31 _) rfl ?_
  refine Bod.eqI (nI tk1) (by first | (simp (disch := omega) only [rI, rIe, rA, rIA, rLA, rJA, rVI, rQI, rVA, rQA, upd_at,  rAI, rLI, rJI, nI_add, pk_sub, kc_0, kc_1, kc_2, kc_3, kc_4, kc_5, reduceIte, Nat.reduceEqDiff, Nat.add_zero, rI_hold, rI_hold, rL_hold, htop, hcs, htk, htg, hfs, htk1]; done) | (simp (disch := omega) only [rI, rIe, rA, rIA, rLA, rJA, rVI, rQI, rVA, rQA, upd_at,  rAI, rLI, rJI, nI_add, pk_sub, kc_0, kc_1, kc_2, kc_3, kc_4, kc_5, reduceIte, Nat.reduceEqDiff, Nat.add_zero, rI_hold, rI_hold, rL_hold, htop, hcs, htk, htg, hfs, htk1]; exact congrArg nI (by omega))) ?_
  refine Bod.ic 2 (by decide) dc_117_109 ?_
  refine Bod.icT dc_117_110 rfl (k2_eq_T (k_eq tk1 2 rfl rfl (by omega))) ?_
  refine Bod.go dc_117_120 rfl ?_
  refine Bod.get dc_117_121 fr_117_9 (mk_43 _) rfl ?_
  refine Bod.get dc_117_124 fr_117_166 (mk_31 _) rfl ?_
  refine Bod.ist dc_117_127 (by rw [ml_117]; exact Nat.le_of_ble_eq_true rfl) ?_
  refine Bod.go dc_117_129 rfl ?_
  refine Bod.get dc_117_130 fr_117_9 (mk_43 _) rfl ?_
  refine Bod.go dc_117_133 rfl ?_
  refine Bod.virt (r := []) dc_117_134 kr_117_179 ⟨Or.inr rfl, ow_120, cl_3⟩ (by rw [np_120]; rfl) (by rw [np_120]; rfl) (ob_of (mk_31 _)) (Nat.le_of_ble_eq_true rfl) (c6  ) ?_
  show Bod _ _ _ _ [] _ _ _
  refine Bod.go dc_117_137 rfl ?_
  refine Bod.get dc_117_138 fr_117_23 (mk_43 _) rfl ?_
  refine Bod.ic 0 (by decide) dc_117_141 ?_
  refine Bod.virt (r := []) dc_117_142 kr_117_169 ⟨Or.inr rfl, ow_57, cl_1⟩ (by rw [np_57]; rfl) (by rw [np_57]; rfl) (ob_of (mk_44 _)) (Nat.le_of_ble_eq_true rfl) (c7  ) ?_
  show Bod _ _ _ _ [] _ _ _
  refine Bod.go dc_117_145 rfl ?_
  refine Bod.bip 19 (by decide) dc_117_146 ?_
  refine Bod.bip 41 (by decide) dc_117_148 ?_
  refine Bod.bip 46 (by decide) dc_117_150 ?_
  refine Bod.virt (r := []) dc_117_152 kr_117_182 ⟨Or.inl rfl, ow_110, cl_10⟩ (by rw [np_110]; rfl) (by rw [np_110]; rfl) (ob_of (mk_43 _)) (Nat.le_of_ble_eq_true rfl) (c8  ) ?_
  show Bod _ _ _ _ [] _ _ _
  refine Bod.go dc_117_155 rfl ?_
  refine Bod.get dc_117_156 fr_117_9 (mk_43 _) rfl ?_
  refine Bod.go dc_117_159 rfl ?_
  refine Bod.virt (r := []) dc_117_161 kr_117_179 ⟨Or.inr rfl, ow_120, cl_3⟩ (by rw [np_120]; rfl) (by rw [np_120]; rfl) (ob_of (mk_31 _)) (Nat.le_of_ble_eq_true rfl) (c9  ) ?_
  show Bod _ _ _ _ [] _ _ _
  refine Bod.go dc_117_164 rfl ?_
  exact Bod.retV dc_117_301 rt_117
theorem cBjn_6 {d : Nat} {S : cS} {top : Nat} {cs : Nat} {S1 : cS} {tk : Nat} {tg : Nat} {fs : Nat} {S2 : cS} {S3 : cS} {S4 : cS} {S5 : cS} {tk1 : Nat} {S6 : cS} {S7 : cS} {S8 : cS} {S9 : cS} {S10 : cS} (htop : sI S 2307 = nI top) (mtop : top < 2 ^ 20) (hcs : sI S 2308 = nI cs) (mcs : cs < 2 ^ 20) (c1 : Ans (d + 8) 57 [.ref 44, .int (nI 0)] S none S1) (htk : sI S1 3105 = nI tk) (mtk : tk < 2 ^ 20) (b1 : tk = 19) (htg : sI S1 4403 = nI tg) (mtg : tg < 2 ^ 20) (b2 : tg ≠ 0) (hfs : sI S1 2309 = nI fs) (mfs : fs < 2 ^ 20) (c2 : Ans (d + 8) 118 [.ref 23, .int (nI top), .int (nI cs), .int (nI fs)] S1 none S2) (c3 : Ans (d + 8) 119 [.ref 32, .int (nI top)] S2 none S3) (c4 : Ans (d + 8) 75 [.ref 31, .int (nI 19)] S3 none S4) (c5 : Ans (d + 8) 57 [.ref 44, .int (nI 0)] S4 none S5) (htk1 : sI S5 3105 = nI tk1) (mtk1 : tk1 < 2 ^ 20) (b3 : tk1 ≠ 2) (c6 : Ans (d + 8) 44 [.ref 31] S5 none S6) (c7 : Ans (d + 8) 120 [.ref 31, .int (sI S 3104)] S6 none S7) (c8 : Ans (d + 8) 57 [.ref 44, .int (nI 0)] S7 none S8) (c9 : Ans (d + 8) 110 [.ref 43, .int (nI 19), .int (nI 41), .int (nI 46)] S8 none S9) (c10 : Ans (d + 8) 120 [.ref 31, .int (sI S6 3104)] S9 none S10) : Bod (d + 8) 117 0 [(0, .ref 43)] [] S none (S10) := by
  refine Bod.go dc_117_0 rfl ?_
  refine Bod.get dc_117_1 fr_117_9 (mk_43 _) rfl ?_
  refine Bod.get dc_117_4 fr_117_166 (mk_31 _) rfl ?_
  refine Bod.istn dc_117_7 (by rw [ml_117]; exact Nat.le_of_ble_eq_true rfl) ?_
  refine Bod.go dc_117_8 rfl ?_
  refine Bod.get dc_117_9 fr_117_15 (mk_43 _) rfl ?_
  refine Bod.get dc_117_12 fr_117_69 (mk_23 _) rfl ?_
  refine Bod.eqI (nI top) (by first | assumption | rfl | exact congrArg nI (by omega) | (simp (disch := omega) only [rI, rIe, rA, rIA, rLA, rJA, rVI, rQI, rVA, rQA, upd_at,  rAI, rLI, rJI, nI_add, pk_sub, kc_0, kc_1, kc_2, kc_3, kc_4, kc_5, reduceIte, Nat.reduceEqDiff, Nat.add_zero, rI_hold, rI_hold, rL_hold, htop]; done)) ?_
  refine Bod.istn dc_117_15 (by rw [ml_117]; exact Nat.le_of_ble_eq_true rfl) ?_
  refine Bod.go dc_117_16 rfl ?_
  refine Bod.get dc_117_17 fr_117_15 (mk_43 _) rfl ?_
  refine Bod.get dc_117_20 fr_117_52 (mk_23 _) rfl ?_
  refine Bod.eqI (nI cs) (by first | assumption | rfl | exact congrArg nI (by omega) | (simp (disch := omega) only [rI, rIe, rA, rIA, rLA, rJA, rVI, rQI, rVA, rQA, upd_at,  rAI, rLI, rJI, nI_add, pk_sub, kc_0, kc_1, kc_2, kc_3, kc_4, kc_5, reduceIte, Nat.reduceEqDiff, Nat.add_zero, rI_hold, rI_hold, rL_hold, htop, hcs]; done)) ?_
  refine Bod.istn dc_117_23 (by rw [ml_117]; exact Nat.le_of_ble_eq_true rfl) ?_
  refine Bod.go dc_117_24 rfl ?_
  refine Bod.get dc_117_25 fr_117_23 (mk_43 _) rfl ?_
  refine Bod.ic 0 (by decide) dc_117_28 ?_
  refine Bod.virt (r := []) dc_117_29 kr_117_169 ⟨Or.inr rfl, ow_57, cl_1⟩ (by rw [np_57]; rfl) (by rw [np_57]; rfl) (ob_of (mk_44 _)) (Nat.le_of_ble_eq_true rfl) (c1  ) ?_
  show Bod _ _ _ _ [] _ _ _
  refine Bod.go dc_117_32 rfl ?_
  refine Bod.get dc_117_33 fr_117_9 (mk_43 _) rfl ?_
  refine Bod.get dc_117_36 fr_117_79 (mk_31 _) rfl ?_
  refine Bod.eqI (nI tk) (by first | (simp (disch := omega) only [rI, rIe, rA, rIA, rLA, rJA, rVI, rQI, rVA, rQA, upd_at,  rAI, rLI, rJI, nI_add, pk_sub, kc_0, kc_1, kc_2, kc_3, kc_4, kc_5, reduceIte, Nat.reduceEqDiff, Nat.add_zero, rI_hold, rI_hold, rL_hold, htop, hcs, htk]; done) | (simp (disch := omega) only [rI, rIe, rA, rIA, rLA, rJA, rVI, rQI, rVA, rQA, upd_at,  rAI, rLI, rJI, nI_add, pk_sub, kc_0, kc_1, kc_2, kc_3, kc_4, kc_5, reduceIte, Nat.reduceEqDiff, Nat.add_zero, rI_hold, rI_hold, rL_hold, htop, hcs, htk]; exact congrArg nI (by omega))) ?_
  refine Bod.bip 19 (by decide) dc_117_39 ?_
  refine Bod.icF dc_117_41 rfl (k2_ne_F (k_eq tk 19 rfl rfl (by omega))) ?_
  refine Bod.go dc_117_44 rfl ?_
  refine Bod.get dc_117_45 fr_117_23 (mk_43 _) rfl ?_
  refine Bod.get dc_117_48 fr_117_173 (mk_44 _) rfl ?_
  refine Bod.eqI (nI tg) (by first | (simp (disch := omega) only [rI, rIe, rA, rIA, rLA, rJA, rVI, rQI, rVA, rQA, upd_at,  rAI, rLI, rJI, nI_add, pk_sub, kc_0, kc_1, kc_2, kc_3, kc_4, kc_5, reduceIte, Nat.reduceEqDiff, Nat.add_zero, rI_hold, rI_hold, rL_hold, htop, hcs, htk, htg]; done) | (simp (disch := omega) only [rI, rIe, rA, rIA, rLA, rJA, rVI, rQI, rVA, rQA, upd_at,  rAI, rLI, rJI, nI_add, pk_sub, kc_0, kc_1, kc_2, kc_3, kc_4, kc_5, reduceIte, Nat.reduceEqDiff, Nat.add_zero, rI_hold, rI_hold, rL_hold, htop, hcs, htk, htg]; exact congrArg nI (by omega))) ?_
  refine Bod.ifT dc_117_51 rfl (k1_ne_T (k_ne tg 0 rfl rfl (by omega) (by omega) (by omega))) ?_
  refine Bod.go dc_117_61 rfl ?_
  refine Bod.get dc_117_62 fr_117_15 (mk_43 _) rfl ?_
  refine Bod.go dc_117_65 rfl ?_
  refine Bod.go dc_117_66 rfl ?_
  refine Bod.go dc_117_67 rfl ?_
  refine Bod.get dc_117_68 fr_117_15 (mk_43 _) rfl ?_
  refine Bod.get dc_117_71 fr_117_58 (mk_23 _) rfl ?_
  refine Bod.eqI (nI fs) (by first | (simp (disch := omega) only [rI, rIe, rA, rIA, rLA, rJA, rVI, rQI, rVA, rQA, upd_at,  rAI, rLI, rJI, nI_add, pk_sub, kc_0, kc_1, kc_2, kc_3, kc_4, kc_5, reduceIte, Nat.reduceEqDiff, Nat.add_zero, rI_hold, rI_hold, rL_hold, htop, hcs, htk, htg, hfs]; done) | (simp (disch := omega) only [rI, rIe, rA, rIA, rLA, rJA, rVI, rQI, rVA, rQA, upd_at,  rAI, rLI, rJI, nI_add, pk_sub, kc_0, kc_1, kc_2, kc_3, kc_4, kc_5, reduceIte, Nat.reduceEqDiff, Nat.add_zero, rI_hold, rI_hold, rL_hold, htop, hcs, htk, htg, hfs]; exact congrArg nI (by omega))) ?_
  refine Bod.virt (r := []) dc_117_74 kr_117_85 ⟨Or.inr rfl, ow_118, cl_7⟩ (by rw [np_118]; rfl) (by rw [np_118]; rfl) (ob_of (mk_23 _)) (Nat.le_of_ble_eq_true rfl) (c2  ) ?_
  show Bod _ _ _ _ [] _ _ _
  refine Bod.go dc_117_77 rfl ?_
  refine Bod.get dc_117_78 fr_117_19 (mk_43 _) rfl ?_
  refine Bod.go dc_117_81 rfl ?_
  refine Bod.virt (r := []) dc_117_82 kr_117_176 ⟨Or.inr rfl, ow_119, cl_8⟩ (by rw [np_119]; rfl) (by rw [np_119]; rfl) (ob_of (mk_32 _)) (Nat.le_of_ble_eq_true rfl) (c3  ) ?_
  show Bod _ _ _ _ [] _ _ _
  refine Bod.go dc_117_85 rfl ?_
  refine Bod.get dc_117_86 fr_117_9 (mk_43 _) rfl ?_
  refine Bod.bip 19 (by decide) dc_117_89 ?_
  refine Bod.virt (r := []) dc_117_91 kr_117_107 ⟨Or.inr rfl, ow_75, cl_3⟩ (by rw [np_75]; rfl) (by rw [np_75]; rfl) (ob_of (mk_31 _)) (Nat.le_of_ble_eq_true rfl) (c4  ) ?_
  show Bod _ _ _ _ [] _ _ _
  refine Bod.go dc_117_94 rfl ?_
  refine Bod.get dc_117_95 fr_117_23 (mk_43 _) rfl ?_
  refine Bod.ic 0 (by decide) dc_117_98 ?_
  refine Bod.virt (r := []) dc_117_99 kr_117_169 ⟨Or.inr rfl, ow_57, cl_1⟩ (by rw [np_57]; rfl) (by rw [np_57]; rfl) (ob_of (mk_44 _)) (Nat.le_of_ble_eq_true rfl) (c5  ) ?_
  show Bod _ _ _ _ [] _ _ _
  refine Bod.go dc_117_102 rfl ?_
  refine Bod.get dc_117_103 fr_117_9 (mk_43 _) rfl ?_
  refine Bod.get dc_117_106 fr_117_79 (mk_31 _) rfl ?_
  refine Bod.eqI (nI tk1) (by first | (simp (disch := omega) only [rI, rIe, rA, rIA, rLA, rJA, rVI, rQI, rVA, rQA, upd_at,  rAI, rLI, rJI, nI_add, pk_sub, kc_0, kc_1, kc_2, kc_3, kc_4, kc_5, reduceIte, Nat.reduceEqDiff, Nat.add_zero, rI_hold, rI_hold, rL_hold, htop, hcs, htk, htg, hfs, htk1]; done) | (simp (disch := omega) only [rI, rIe, rA, rIA, rLA, rJA, rVI, rQI, rVA, rQA, upd_at,  rAI, rLI, rJI, nI_add, pk_sub, kc_0, kc_1, kc_2, kc_3, kc_4, kc_5, reduceIte, Nat.reduceEqDiff, Nat.add_zero, rI_hold, rI_hold, rL_hold, htop, hcs, htk, htg, hfs, htk1]; exact congrArg nI (by omega))) ?_
  refine Bod.ic 2 (by decide) dc_117_109 ?_
  refine Bod.icF dc_117_110 rfl (k2_eq_F (k_ne tk1 2 rfl rfl (by omega) (by omega) (by omega))) ?_
  refine Bod.go dc_117_113 rfl ?_
  refine Bod.get dc_117_114 fr_117_9 (mk_43 _) rfl ?_
  refine Bod.virt (r := []) dc_117_117 kr_117_76 ⟨Or.inr rfl, ow_44, cl_3⟩ (by rw [np_44]; rfl) (by rw [np_44]; rfl) (ob_of (mk_31 _)) (Nat.le_of_ble_eq_true rfl) (c6  ) ?_
  show Bod _ _ _ _ [] _ _ _
  refine Bod.go dc_117_120 rfl ?_
  refine Bod.get dc_117_121 fr_117_9 (mk_43 _) rfl ?_
  refine Bod.get dc_117_124 fr_117_166 (mk_31 _) rfl ?_
  refine Bod.ist dc_117_127 (by rw [ml_117]; exact Nat.le_of_ble_eq_true rfl) ?_
  refine Bod.go dc_117_129 rfl ?_
  refine Bod.get dc_117_130 fr_117_9 (mk_43 _) rfl ?_
  refine Bod.go dc_117_133 rfl ?_
  refine Bod.virt (r := []) dc_117_134 kr_117_179 ⟨Or.inr rfl, ow_120, cl_3⟩ (by rw [np_120]; rfl) (by rw [np_120]; rfl) (ob_of (mk_31 _)) (Nat.le_of_ble_eq_true rfl) (c7  ) ?_
  show Bod _ _ _ _ [] _ _ _
  refine Bod.go dc_117_137 rfl ?_
  refine Bod.get dc_117_138 fr_117_23 (mk_43 _) rfl ?_
  refine Bod.ic 0 (by decide) dc_117_141 ?_
  refine Bod.virt (r := []) dc_117_142 kr_117_169 ⟨Or.inr rfl, ow_57, cl_1⟩ (by rw [np_57]; rfl) (by rw [np_57]; rfl) (ob_of (mk_44 _)) (Nat.le_of_ble_eq_true rfl) (c8  ) ?_
  show Bod _ _ _ _ [] _ _ _
  refine Bod.go dc_117_145 rfl ?_
  refine Bod.bip 19 (by decide) dc_117_146 ?_
  refine Bod.bip 41 (by decide) dc_117_148 ?_
  refine Bod.bip 46 (by decide) dc_117_150 ?_
  refine Bod.virt (r := []) dc_117_152 kr_117_182 ⟨Or.inl rfl, ow_110, cl_10⟩ (by rw [np_110]; rfl) (by rw [np_110]; rfl) (ob_of (mk_43 _)) (Nat.le_of_ble_eq_true rfl) (c9  ) ?_
  show Bod _ _ _ _ [] _ _ _
  refine Bod.go dc_117_155 rfl ?_
  refine Bod.get dc_117_156 fr_117_9 (mk_43 _) rfl ?_
  refine Bod.go dc_117_159 rfl ?_
  refine Bod.virt (r := []) dc_117_161 kr_117_179 ⟨Or.inr rfl, ow_120, cl_3⟩ (by rw [np_120]; rfl) (by rw [np_120]; rfl) (ob_of (mk_31 _)) (Nat.le_of_ble_eq_true rfl) (c10  ) ?_
  show Bod _ _ _ _ [] _ _ _
  refine Bod.go dc_117_164 rfl ?_
  exact Bod.retV dc_117_301 rt_117
theorem cBjn_7 {d : Nat} {S : cS} {top : Nat} {cs : Nat} {S1 : cS} {tk : Nat} {tg : Nat} {S2 : cS} {fs : Nat} {S3 : cS} {S4 : cS} {S5 : cS} {S6 : cS} {tk1 : Nat} {S7 : cS} {S8 : cS} {S9 : cS} {S10 : cS} (htop : sI S 2307 = nI top) (mtop : top < 2 ^ 20) (hcs : sI S 2308 = nI cs) (mcs : cs < 2 ^ 20) (c1 : Ans (d + 8) 57 [.ref 44, .int (nI 0)] S none S1) (htk : sI S1 3105 = nI tk) (mtk : tk < 2 ^ 20) (b1 : tk = 19) (htg : sI S1 4403 = nI tg) (mtg : tg < 2 ^ 20) (b2 : tg = 0) (c2 : Ans (d + 8) 44 [.ref 31] S1 none S2) (hfs : sI S2 2309 = nI fs) (mfs : fs < 2 ^ 20) (c3 : Ans (d + 8) 118 [.ref 23, .int (nI top), .int (nI cs), .int (nI fs)] S2 none S3) (c4 : Ans (d + 8) 119 [.ref 32, .int (nI top)] S3 none S4) (c5 : Ans (d + 8) 75 [.ref 31, .int (nI 19)] S4 none S5) (c6 : Ans (d + 8) 57 [.ref 44, .int (nI 0)] S5 none S6) (htk1 : sI S6 3105 = nI tk1) (mtk1 : tk1 < 2 ^ 20) (b3 : tk1 = 2) (c7 : Ans (d + 8) 120 [.ref 31, .int (sI S 3104)] S6 none S7) (c8 : Ans (d + 8) 57 [.ref 44, .int (nI 0)] S7 none S8) (c9 : Ans (d + 8) 110 [.ref 43, .int (nI 19), .int (nI 41), .int (nI 46)] S8 none S9) (c10 : Ans (d + 8) 120 [.ref 31, .int (sI S6 3104)] S9 none S10) : Bod (d + 8) 117 0 [(0, .ref 43)] [] S none (S10) := by
  refine Bod.go dc_117_0 rfl ?_
  refine Bod.get dc_117_1 fr_117_9 (mk_43 _) rfl ?_
  refine Bod.get dc_117_4 fr_117_166 (mk_31 _) rfl ?_
  refine Bod.istn dc_117_7 (by rw [ml_117]; exact Nat.le_of_ble_eq_true rfl) ?_
  refine Bod.go dc_117_8 rfl ?_
  refine Bod.get dc_117_9 fr_117_15 (mk_43 _) rfl ?_
  refine Bod.get dc_117_12 fr_117_69 (mk_23 _) rfl ?_
  refine Bod.eqI (nI top) (by first | assumption | rfl | exact congrArg nI (by omega) | (simp (disch := omega) only [rI, rIe, rA, rIA, rLA, rJA, rVI, rQI, rVA, rQA, upd_at,  rAI, rLI, rJI, nI_add, pk_sub, kc_0, kc_1, kc_2, kc_3, kc_4, kc_5, reduceIte, Nat.reduceEqDiff, Nat.add_zero, rI_hold, rI_hold, rL_hold, htop]; done)) ?_
  refine Bod.istn dc_117_15 (by rw [ml_117]; exact Nat.le_of_ble_eq_true rfl) ?_
  refine Bod.go dc_117_16 rfl ?_
  refine Bod.get dc_117_17 fr_117_15 (mk_43 _) rfl ?_
  refine Bod.get dc_117_20 fr_117_52 (mk_23 _) rfl ?_
  refine Bod.eqI (nI cs) (by first | assumption | rfl | exact congrArg nI (by omega) | (simp (disch := omega) only [rI, rIe, rA, rIA, rLA, rJA, rVI, rQI, rVA, rQA, upd_at,  rAI, rLI, rJI, nI_add, pk_sub, kc_0, kc_1, kc_2, kc_3, kc_4, kc_5, reduceIte, Nat.reduceEqDiff, Nat.add_zero, rI_hold, rI_hold, rL_hold, htop, hcs]; done)) ?_
  refine Bod.istn dc_117_23 (by rw [ml_117]; exact Nat.le_of_ble_eq_true rfl) ?_
  refine Bod.go dc_117_24 rfl ?_
  refine Bod.get dc_117_25 fr_117_23 (mk_43 _) rfl ?_
  refine Bod.ic 0 (by decide) dc_117_28 ?_
  refine Bod.virt (r := []) dc_117_29 kr_117_169 ⟨Or.inr rfl, ow_57, cl_1⟩ (by rw [np_57]; rfl) (by rw [np_57]; rfl) (ob_of (mk_44 _)) (Nat.le_of_ble_eq_true rfl) (c1  ) ?_
  show Bod _ _ _ _ [] _ _ _
  refine Bod.go dc_117_32 rfl ?_
  refine Bod.get dc_117_33 fr_117_9 (mk_43 _) rfl ?_
  refine Bod.get dc_117_36 fr_117_79 (mk_31 _) rfl ?_
  refine Bod.eqI (nI tk) (by first | (simp (disch := omega) only [rI, rIe, rA, rIA, rLA, rJA, rVI, rQI, rVA, rQA, upd_at,  rAI, rLI, rJI, nI_add, pk_sub, kc_0, kc_1, kc_2, kc_3, kc_4, kc_5, reduceIte, Nat.reduceEqDiff, Nat.add_zero, rI_hold, rI_hold, rL_hold, htop, hcs, htk]; done) | (simp (disch := omega) only [rI, rIe, rA, rIA, rLA, rJA, rVI, rQI, rVA, rQA, upd_at,  rAI, rLI, rJI, nI_add, pk_sub, kc_0, kc_1, kc_2, kc_3, kc_4, kc_5, reduceIte, Nat.reduceEqDiff, Nat.add_zero, rI_hold, rI_hold, rL_hold, htop, hcs, htk]; exact congrArg nI (by omega))) ?_
  refine Bod.bip 19 (by decide) dc_117_39 ?_
  refine Bod.icF dc_117_41 rfl (k2_ne_F (k_eq tk 19 rfl rfl (by omega))) ?_
  refine Bod.go dc_117_44 rfl ?_
  refine Bod.get dc_117_45 fr_117_23 (mk_43 _) rfl ?_
  refine Bod.get dc_117_48 fr_117_173 (mk_44 _) rfl ?_
  refine Bod.eqI (nI tg) (by first | (simp (disch := omega) only [rI, rIe, rA, rIA, rLA, rJA, rVI, rQI, rVA, rQA, upd_at,  rAI, rLI, rJI, nI_add, pk_sub, kc_0, kc_1, kc_2, kc_3, kc_4, kc_5, reduceIte, Nat.reduceEqDiff, Nat.add_zero, rI_hold, rI_hold, rL_hold, htop, hcs, htk, htg]; done) | (simp (disch := omega) only [rI, rIe, rA, rIA, rLA, rJA, rVI, rQI, rVA, rQA, upd_at,  rAI, rLI, rJI, nI_add, pk_sub, kc_0, kc_1, kc_2, kc_3, kc_4, kc_5, reduceIte, Nat.reduceEqDiff, Nat.add_zero, rI_hold, rI_hold, rL_hold, htop, hcs, htk, htg]; exact congrArg nI (by omega))) ?_
  refine Bod.ifF dc_117_51 rfl (k1_ne_F (k_eq tg 0 rfl rfl (by omega))) ?_
  refine Bod.go dc_117_54 rfl ?_
  refine Bod.get dc_117_55 fr_117_9 (mk_43 _) rfl ?_
  refine Bod.virt (r := []) dc_117_58 kr_117_76 ⟨Or.inr rfl, ow_44, cl_3⟩ (by rw [np_44]; rfl) (by rw [np_44]; rfl) (ob_of (mk_31 _)) (Nat.le_of_ble_eq_true rfl) (c2  ) ?_
  show Bod _ _ _ _ [] _ _ _
  refine Bod.go dc_117_61 rfl ?_
  refine Bod.get dc_117_62 fr_117_15 (mk_43 _) rfl ?_
  refine Bod.go dc_117_65 rfl ?_
  refine Bod.go dc_117_66 rfl ?_
  refine Bod.go dc_117_67 rfl ?_
  refine Bod.get dc_117_68 fr_117_15 (mk_43 _) rfl ?_
  refine Bod.get dc_117_71 fr_117_58 (mk_23 _) rfl ?_
  refine Bod.eqI (nI fs) (by first | (simp (disch := omega) only [rI, rIe, rA, rIA, rLA, rJA, rVI, rQI, rVA, rQA, upd_at,  rAI, rLI, rJI, nI_add, pk_sub, kc_0, kc_1, kc_2, kc_3, kc_4, kc_5, reduceIte, Nat.reduceEqDiff, Nat.add_zero, rI_hold, rI_hold, rL_hold, htop, hcs, htk, htg, hfs]; done) | (simp (disch := omega) only [rI, rIe, rA, rIA, rLA, rJA, rVI, rQI, rVA, rQA, upd_at,  rAI, rLI, rJI, nI_add, pk_sub, kc_0, kc_1, kc_2, kc_3, kc_4, kc_5, reduceIte, Nat.reduceEqDiff, Nat.add_zero, rI_hold, rI_hold, rL_hold, htop, hcs, htk, htg, hfs]; exact congrArg nI (by omega))) ?_
  refine Bod.virt (r := []) dc_117_74 kr_117_85 ⟨Or.inr rfl, ow_118, cl_7⟩ (by rw [np_118]; rfl) (by rw [np_118]; rfl) (ob_of (mk_23 _)) (Nat.le_of_ble_eq_true rfl) (c3  ) ?_
  show Bod _ _ _ _ [] _ _ _
  refine Bod.go dc_117_77 rfl ?_
  refine Bod.get dc_117_78 fr_117_19 (mk_43 _) rfl ?_
  refine Bod.go dc_117_81 rfl ?_
  refine Bod.virt (r := []) dc_117_82 kr_117_176 ⟨Or.inr rfl, ow_119, cl_8⟩ (by rw [np_119]; rfl) (by rw [np_119]; rfl) (ob_of (mk_32 _)) (Nat.le_of_ble_eq_true rfl) (c4  ) ?_
  show Bod _ _ _ _ [] _ _ _
  refine Bod.go dc_117_85 rfl ?_
  refine Bod.get dc_117_86 fr_117_9 (mk_43 _) rfl ?_
  refine Bod.bip 19 (by decide) dc_117_89 ?_
  refine Bod.virt (r := []) dc_117_91 kr_117_107 ⟨Or.inr rfl, ow_75, cl_3⟩ (by rw [np_75]; rfl) (by rw [np_75]; rfl) (ob_of (mk_31 _)) (Nat.le_of_ble_eq_true rfl) (c5  ) ?_
  show Bod _ _ _ _ [] _ _ _
  refine Bod.go dc_117_94 rfl ?_
  refine Bod.get dc_117_95 fr_117_23 (mk_43 _) rfl ?_
  refine Bod.ic 0 (by decide) dc_117_98 ?_
  refine Bod.virt (r := []) dc_117_99 kr_117_169 ⟨Or.inr rfl, ow_57, cl_1⟩ (by rw [np_57]; rfl) (by rw [np_57]; rfl) (ob_of (mk_44 _)) (Nat.le_of_ble_eq_true rfl) (c6  ) ?_
  show Bod _ _ _ _ [] _ _ _
  refine Bod.go dc_117_102 rfl ?_
  refine Bod.get dc_117_103 fr_117_9 (mk_43 _) rfl ?_
  refine Bod.get dc_117_106 fr_117_79 (mk_31 _) rfl ?_
  refine Bod.eqI (nI tk1) (by first | (simp (disch := omega) only [rI, rIe, rA, rIA, rLA, rJA, rVI, rQI, rVA, rQA, upd_at,  rAI, rLI, rJI, nI_add, pk_sub, kc_0, kc_1, kc_2, kc_3, kc_4, kc_5, reduceIte, Nat.reduceEqDiff, Nat.add_zero, rI_hold, rI_hold, rL_hold, htop, hcs, htk, htg, hfs, htk1]; done) | (simp (disch := omega) only [rI, rIe, rA, rIA, rLA, rJA, rVI, rQI, rVA, rQA, upd_at,  rAI, rLI, rJI, nI_add, pk_sub, kc_0, kc_1, kc_2, kc_3, kc_4, kc_5, reduceIte, Nat.reduceEqDiff, Nat.add_zero, rI_hold, rI_hold, rL_hold, htop, hcs, htk, htg, hfs, htk1]; exact congrArg nI (by omega))) ?_
  refine Bod.ic 2 (by decide) dc_117_109 ?_
  refine Bod.icT dc_117_110 rfl (k2_eq_T (k_eq tk1 2 rfl rfl (by omega))) ?_
  refine Bod.go dc_117_120 rfl ?_
  refine Bod.get dc_117_121 fr_117_9 (mk_43 _) rfl ?_
  refine Bod.get dc_117_124 fr_117_166 (mk_31 _) rfl ?_
  refine Bod.ist dc_117_127 (by rw [ml_117]; exact Nat.le_of_ble_eq_true rfl) ?_
  refine Bod.go dc_117_129 rfl ?_
  refine Bod.get dc_117_130 fr_117_9 (mk_43 _) rfl ?_
  refine Bod.go dc_117_133 rfl ?_
  refine Bod.virt (r := []) dc_117_134 kr_117_179 ⟨Or.inr rfl, ow_120, cl_3⟩ (by rw [np_120]; rfl) (by rw [np_120]; rfl) (ob_of (mk_31 _)) (Nat.le_of_ble_eq_true rfl) (c7  ) ?_
  show Bod _ _ _ _ [] _ _ _
  refine Bod.go dc_117_137 rfl ?_
  refine Bod.get dc_117_138 fr_117_23 (mk_43 _) rfl ?_
  refine Bod.ic 0 (by decide) dc_117_141 ?_
  refine Bod.virt (r := []) dc_117_142 kr_117_169 ⟨Or.inr rfl, ow_57, cl_1⟩ (by rw [np_57]; rfl) (by rw [np_57]; rfl) (ob_of (mk_44 _)) (Nat.le_of_ble_eq_true rfl) (c8  ) ?_
  show Bod _ _ _ _ [] _ _ _
  refine Bod.go dc_117_145 rfl ?_
  refine Bod.bip 19 (by decide) dc_117_146 ?_
  refine Bod.bip 41 (by decide) dc_117_148 ?_
  refine Bod.bip 46 (by decide) dc_117_150 ?_
  refine Bod.virt (r := []) dc_117_152 kr_117_182 ⟨Or.inl rfl, ow_110, cl_10⟩ (by rw [np_110]; rfl) (by rw [np_110]; rfl) (ob_of (mk_43 _)) (Nat.le_of_ble_eq_true rfl) (c9  ) ?_
  show Bod _ _ _ _ [] _ _ _
  refine Bod.go dc_117_155 rfl ?_
  refine Bod.get dc_117_156 fr_117_9 (mk_43 _) rfl ?_
  refine Bod.go dc_117_159 rfl ?_
  refine Bod.virt (r := []) dc_117_161 kr_117_179 ⟨Or.inr rfl, ow_120, cl_3⟩ (by rw [np_120]; rfl) (by rw [np_120]; rfl) (ob_of (mk_31 _)) (Nat.le_of_ble_eq_true rfl) (c10  ) ?_
  show Bod _ _ _ _ [] _ _ _
  refine Bod.go dc_117_164 rfl ?_
  exact Bod.retV dc_117_301 rt_117
theorem cBjn_8 {d : Nat} {S : cS} {top : Nat} {cs : Nat} {S1 : cS} {tk : Nat} {tg : Nat} {S2 : cS} {fs : Nat} {S3 : cS} {S4 : cS} {S5 : cS} {S6 : cS} {tk1 : Nat} {S7 : cS} {S8 : cS} {S9 : cS} {S10 : cS} {S11 : cS} (htop : sI S 2307 = nI top) (mtop : top < 2 ^ 20) (hcs : sI S 2308 = nI cs) (mcs : cs < 2 ^ 20) (c1 : Ans (d + 8) 57 [.ref 44, .int (nI 0)] S none S1) (htk : sI S1 3105 = nI tk) (mtk : tk < 2 ^ 20) (b1 : tk = 19) (htg : sI S1 4403 = nI tg) (mtg : tg < 2 ^ 20) (b2 : tg = 0) (c2 : Ans (d + 8) 44 [.ref 31] S1 none S2) (hfs : sI S2 2309 = nI fs) (mfs : fs < 2 ^ 20) (c3 : Ans (d + 8) 118 [.ref 23, .int (nI top), .int (nI cs), .int (nI fs)] S2 none S3) (c4 : Ans (d + 8) 119 [.ref 32, .int (nI top)] S3 none S4) (c5 : Ans (d + 8) 75 [.ref 31, .int (nI 19)] S4 none S5) (c6 : Ans (d + 8) 57 [.ref 44, .int (nI 0)] S5 none S6) (htk1 : sI S6 3105 = nI tk1) (mtk1 : tk1 < 2 ^ 20) (b3 : tk1 ≠ 2) (c7 : Ans (d + 8) 44 [.ref 31] S6 none S7) (c8 : Ans (d + 8) 120 [.ref 31, .int (sI S 3104)] S7 none S8) (c9 : Ans (d + 8) 57 [.ref 44, .int (nI 0)] S8 none S9) (c10 : Ans (d + 8) 110 [.ref 43, .int (nI 19), .int (nI 41), .int (nI 46)] S9 none S10) (c11 : Ans (d + 8) 120 [.ref 31, .int (sI S7 3104)] S10 none S11) : Bod (d + 8) 117 0 [(0, .ref 43)] [] S none (S11) := by
  refine Bod.go dc_117_0 rfl ?_
  refine Bod.get dc_117_1 fr_117_9 (mk_43 _) rfl ?_
  refine Bod.get dc_117_4 fr_117_166 (mk_31 _) rfl ?_
  refine Bod.istn dc_117_7 (by rw [ml_117]; exact Nat.le_of_ble_eq_true rfl) ?_
  refine Bod.go dc_117_8 rfl ?_
  refine Bod.get dc_117_9 fr_117_15 (mk_43 _) rfl ?_
  refine Bod.get dc_117_12 fr_117_69 (mk_23 _) rfl ?_
  refine Bod.eqI (nI top) (by first | assumption | rfl | exact congrArg nI (by omega) | (simp (disch := omega) only [rI, rIe, rA, rIA, rLA, rJA, rVI, rQI, rVA, rQA, upd_at,  rAI, rLI, rJI, nI_add, pk_sub, kc_0, kc_1, kc_2, kc_3, kc_4, kc_5, reduceIte, Nat.reduceEqDiff, Nat.add_zero, rI_hold, rI_hold, rL_hold, htop]; done)) ?_
  refine Bod.istn dc_117_15 (by rw [ml_117]; exact Nat.le_of_ble_eq_true rfl) ?_
  refine Bod.go dc_117_16 rfl ?_
  refine Bod.get dc_117_17 fr_117_15 (mk_43 _) rfl ?_
  refine Bod.get dc_117_20 fr_117_52 (mk_23 _) rfl ?_
  refine Bod.eqI (nI cs) (by first | assumption | rfl | exact congrArg nI (by omega) | (simp (disch := omega) only [rI, rIe, rA, rIA, rLA, rJA, rVI, rQI, rVA, rQA, upd_at,  rAI, rLI, rJI, nI_add, pk_sub, kc_0, kc_1, kc_2, kc_3, kc_4, kc_5, reduceIte, Nat.reduceEqDiff, Nat.add_zero, rI_hold, rI_hold, rL_hold, htop, hcs]; done)) ?_
  refine Bod.istn dc_117_23 (by rw [ml_117]; exact Nat.le_of_ble_eq_true rfl) ?_
  refine Bod.go dc_117_24 rfl ?_
  refine Bod.get dc_117_25 fr_117_23 (mk_43 _) rfl ?_
  refine Bod.ic 0 (by decide) dc_117_28 ?_
  refine Bod.virt (r := []) dc_117_29 kr_117_169 ⟨Or.inr rfl, ow_57, cl_1⟩ (by rw [np_57]; rfl) (by rw [np_57]; rfl) (ob_of (mk_44 _)) (Nat.le_of_ble_eq_true rfl) (c1  ) ?_
  show Bod _ _ _ _ [] _ _ _
  refine Bod.go dc_117_32 rfl ?_
  refine Bod.get dc_117_33 fr_117_9 (mk_43 _) rfl ?_
  refine Bod.get dc_117_36 fr_117_79 (mk_31 _) rfl ?_
  refine Bod.eqI (nI tk) (by first | (simp (disch := omega) only [rI, rIe, rA, rIA, rLA, rJA, rVI, rQI, rVA, rQA, upd_at,  rAI, rLI, rJI, nI_add, pk_sub, kc_0, kc_1, kc_2, kc_3, kc_4, kc_5, reduceIte, Nat.reduceEqDiff, Nat.add_zero, rI_hold, rI_hold, rL_hold, htop, hcs, htk]; done) | (simp (disch := omega) only [rI, rIe, rA, rIA, rLA, rJA, rVI, rQI, rVA, rQA, upd_at,  rAI, rLI, rJI, nI_add, pk_sub, kc_0, kc_1, kc_2, kc_3, kc_4, kc_5, reduceIte, Nat.reduceEqDiff, Nat.add_zero, rI_hold, rI_hold, rL_hold, htop, hcs, htk]; exact congrArg nI (by omega))) ?_
  refine Bod.bip 19 (by decide) dc_117_39 ?_
  refine Bod.icF dc_117_41 rfl (k2_ne_F (k_eq tk 19 rfl rfl (by omega))) ?_
  refine Bod.go dc_117_44 rfl ?_
  refine Bod.get dc_117_45 fr_117_23 (mk_43 _) rfl ?_
  refine Bod.get dc_117_48 fr_117_173 (mk_44 _) rfl ?_
  refine Bod.eqI (nI tg) (by first | (simp (disch := omega) only [rI, rIe, rA, rIA, rLA, rJA, rVI, rQI, rVA, rQA, upd_at,  rAI, rLI, rJI, nI_add, pk_sub, kc_0, kc_1, kc_2, kc_3, kc_4, kc_5, reduceIte, Nat.reduceEqDiff, Nat.add_zero, rI_hold, rI_hold, rL_hold, htop, hcs, htk, htg]; done) | (simp (disch := omega) only [rI, rIe, rA, rIA, rLA, rJA, rVI, rQI, rVA, rQA, upd_at,  rAI, rLI, rJI, nI_add, pk_sub, kc_0, kc_1, kc_2, kc_3, kc_4, kc_5, reduceIte, Nat.reduceEqDiff, Nat.add_zero, rI_hold, rI_hold, rL_hold, htop, hcs, htk, htg]; exact congrArg nI (by omega))) ?_
  refine Bod.ifF dc_117_51 rfl (k1_ne_F (k_eq tg 0 rfl rfl (by omega))) ?_
  refine Bod.go dc_117_54 rfl ?_
  refine Bod.get dc_117_55 fr_117_9 (mk_43 _) rfl ?_
  refine Bod.virt (r := []) dc_117_58 kr_117_76 ⟨Or.inr rfl, ow_44, cl_3⟩ (by rw [np_44]; rfl) (by rw [np_44]; rfl) (ob_of (mk_31 _)) (Nat.le_of_ble_eq_true rfl) (c2  ) ?_
  show Bod _ _ _ _ [] _ _ _
  refine Bod.go dc_117_61 rfl ?_
  refine Bod.get dc_117_62 fr_117_15 (mk_43 _) rfl ?_
  refine Bod.go dc_117_65 rfl ?_
  refine Bod.go dc_117_66 rfl ?_
  refine Bod.go dc_117_67 rfl ?_
  refine Bod.get dc_117_68 fr_117_15 (mk_43 _) rfl ?_
  refine Bod.get dc_117_71 fr_117_58 (mk_23 _) rfl ?_
  refine Bod.eqI (nI fs) (by first | (simp (disch := omega) only [rI, rIe, rA, rIA, rLA, rJA, rVI, rQI, rVA, rQA, upd_at,  rAI, rLI, rJI, nI_add, pk_sub, kc_0, kc_1, kc_2, kc_3, kc_4, kc_5, reduceIte, Nat.reduceEqDiff, Nat.add_zero, rI_hold, rI_hold, rL_hold, htop, hcs, htk, htg, hfs]; done) | (simp (disch := omega) only [rI, rIe, rA, rIA, rLA, rJA, rVI, rQI, rVA, rQA, upd_at,  rAI, rLI, rJI, nI_add, pk_sub, kc_0, kc_1, kc_2, kc_3, kc_4, kc_5, reduceIte, Nat.reduceEqDiff, Nat.add_zero, rI_hold, rI_hold, rL_hold, htop, hcs, htk, htg, hfs]; exact congrArg nI (by omega))) ?_
  refine Bod.virt (r := []) dc_117_74 kr_117_85 ⟨Or.inr rfl, ow_118, cl_7⟩ (by rw [np_118]; rfl) (by rw [np_118]; rfl) (ob_of (mk_23 _)) (Nat.le_of_ble_eq_true rfl) (c3  ) ?_
  show Bod _ _ _ _ [] _ _ _
  refine Bod.go dc_117_77 rfl ?_
  refine Bod.get dc_117_78 fr_117_19 (mk_43 _) rfl ?_
  refine Bod.go dc_117_81 rfl ?_
  refine Bod.virt (r := []) dc_117_82 kr_117_176 ⟨Or.inr rfl, ow_119, cl_8⟩ (by rw [np_119]; rfl) (by rw [np_119]; rfl) (ob_of (mk_32 _)) (Nat.le_of_ble_eq_true rfl) (c4  ) ?_
  show Bod _ _ _ _ [] _ _ _
  refine Bod.go dc_117_85 rfl ?_
  refine Bod.get dc_117_86 fr_117_9 (mk_43 _) rfl ?_
  refine Bod.bip 19 (by decide) dc_117_89 ?_
  refine Bod.virt (r := []) dc_117_91 kr_117_107 ⟨Or.inr rfl, ow_75, cl_3⟩ (by rw [np_75]; rfl) (by rw [np_75]; rfl) (ob_of (mk_31 _)) (Nat.le_of_ble_eq_true rfl) (c5  ) ?_
  show Bod _ _ _ _ [] _ _ _
  refine Bod.go dc_117_94 rfl ?_
  refine Bod.get dc_117_95 fr_117_23 (mk_43 _) rfl ?_
  refine Bod.ic 0 (by decide) dc_117_98 ?_
  refine Bod.virt (r := []) dc_117_99 kr_117_169 ⟨Or.inr rfl, ow_57, cl_1⟩ (by rw [np_57]; rfl) (by rw [np_57]; rfl) (ob_of (mk_44 _)) (Nat.le_of_ble_eq_true rfl) (c6  ) ?_
  show Bod _ _ _ _ [] _ _ _
  refine Bod.go dc_117_102 rfl ?_
  refine Bod.get dc_117_103 fr_117_9 (mk_43 _) rfl ?_
  refine Bod.get dc_117_106 fr_117_79 (mk_31 _) rfl ?_
  refine Bod.eqI (nI tk1) (by first | (simp (disch := omega) only [rI, rIe, rA, rIA, rLA, rJA, rVI, rQI, rVA, rQA, upd_at,  rAI, rLI, rJI, nI_add, pk_sub, kc_0, kc_1, kc_2, kc_3, kc_4, kc_5, reduceIte, Nat.reduceEqDiff, Nat.add_zero, rI_hold, rI_hold, rL_hold, htop, hcs, htk, htg, hfs, htk1]; done) | (simp (disch := omega) only [rI, rIe, rA, rIA, rLA, rJA, rVI, rQI, rVA, rQA, upd_at,  rAI, rLI, rJI, nI_add, pk_sub, kc_0, kc_1, kc_2, kc_3, kc_4, kc_5, reduceIte, Nat.reduceEqDiff, Nat.add_zero, rI_hold, rI_hold, rL_hold, htop, hcs, htk, htg, hfs, htk1]; exact congrArg nI (by omega))) ?_
  refine Bod.ic 2 (by decide) dc_117_109 ?_
  refine Bod.icF dc_117_110 rfl (k2_eq_F (k_ne tk1 2 rfl rfl (by omega) (by omega) (by omega))) ?_
  refine Bod.go dc_117_113 rfl ?_
  refine Bod.get dc_117_114 fr_117_9 (mk_43 _) rfl ?_
  refine Bod.virt (r := []) dc_117_117 kr_117_76 ⟨Or.inr rfl, ow_44, cl_3⟩ (by rw [np_44]; rfl) (by rw [np_44]; rfl) (ob_of (mk_31 _)) (Nat.le_of_ble_eq_true rfl) (c7  ) ?_
  show Bod _ _ _ _ [] _ _ _
  refine Bod.go dc_117_120 rfl ?_
  refine Bod.get dc_117_121 fr_117_9 (mk_43 _) rfl ?_
  refine Bod.get dc_117_124 fr_117_166 (mk_31 _) rfl ?_
  refine Bod.ist dc_117_127 (by rw [ml_117]; exact Nat.le_of_ble_eq_true rfl) ?_
  refine Bod.go dc_117_129 rfl ?_
  refine Bod.get dc_117_130 fr_117_9 (mk_43 _) rfl ?_
  refine Bod.go dc_117_133 rfl ?_
  refine Bod.virt (r := []) dc_117_134 kr_117_179 ⟨Or.inr rfl, ow_120, cl_3⟩ (by rw [np_120]; rfl) (by rw [np_120]; rfl) (ob_of (mk_31 _)) (Nat.le_of_ble_eq_true rfl) (c8  ) ?_
  show Bod _ _ _ _ [] _ _ _
  refine Bod.go dc_117_137 rfl ?_
  refine Bod.get dc_117_138 fr_117_23 (mk_43 _) rfl ?_
  refine Bod.ic 0 (by decide) dc_117_141 ?_
  refine Bod.virt (r := []) dc_117_142 kr_117_169 ⟨Or.inr rfl, ow_57, cl_1⟩ (by rw [np_57]; rfl) (by rw [np_57]; rfl) (ob_of (mk_44 _)) (Nat.le_of_ble_eq_true rfl) (c9  ) ?_
  show Bod _ _ _ _ [] _ _ _
  refine Bod.go dc_117_145 rfl ?_
  refine Bod.bip 19 (by decide) dc_117_146 ?_
  refine Bod.bip 41 (by decide) dc_117_148 ?_
  refine Bod.bip 46 (by decide) dc_117_150 ?_
  refine Bod.virt (r := []) dc_117_152 kr_117_182 ⟨Or.inl rfl, ow_110, cl_10⟩ (by rw [np_110]; rfl) (by rw [np_110]; rfl) (ob_of (mk_43 _)) (Nat.le_of_ble_eq_true rfl) (c10  ) ?_
  show Bod _ _ _ _ [] _ _ _
  refine Bod.go dc_117_155 rfl ?_
  refine Bod.get dc_117_156 fr_117_9 (mk_43 _) rfl ?_
  refine Bod.go dc_117_159 rfl ?_
  refine Bod.virt (r := []) dc_117_161 kr_117_179 ⟨Or.inr rfl, ow_120, cl_3⟩ (by rw [np_120]; rfl) (by rw [np_120]; rfl) (ob_of (mk_31 _)) (Nat.le_of_ble_eq_true rfl) (c11  ) ?_
  show Bod _ _ _ _ [] _ _ _
  refine Bod.go dc_117_164 rfl ?_
  exact Bod.retV dc_117_301 rt_117
theorem cRun_1 {d : Nat} {S : cS} {q : Nat} (mq : q < 2 ^ 20) (b1 : q < 1) : Bod (d + 8) 30 0 [(0, .ref 0), (1, .int (nI q))] [] S (some (.int ((Int8.ofInt (-2)).toInt32))) (S) := by
  refine Bod.go dc_30_0 rfl ?_
  refine Bod.ic 1 (by decide) dc_30_1 ?_
  refine Bod.icT dc_30_2 rfl (k2_lt_T q 1 rfl rfl (by omega) (by omega)) ?_
  refine Bod.go dc_30_12 rfl ?_
  exact Bod.retI dc_30_14 rt_30
theorem cRun_2 {d : Nat} {S : cS} {q : Nat} {S1 : cS} {S2 : cS} {f7 : Nat} {S3 : cS} {a : Nat} {S4 : cS} {S5 : cS} {S6 : cS} {a1 : Nat} {S7 : cS} {a2 : Nat} (mq : q < 2 ^ 20) (b1 : 1 ≤ q) (b2 : q ≤ 20000) (c1 : Ans (d + 8) 31 [.ref 49] S none S1) (c2 : Ans (d + 8) 32 [.ref 52] S1 none S2) (hf7 : sI S2 7 = nI f7) (mf7 : f7 < 2 ^ 20) (ma : a < 2 ^ 20) (c3 : Ans (d + 8) 33 [.ref 43, .int (nI f7)] S2 (some (.int (nI a))) S3) (c4 : Ans (d + 8) 51 [.ref 43, .int (nI 0), .int (nI 0)] (wI 7 (nI 0) S3) none S4) (c5 : Ans (d + 8) 122 [.ref 43, .int (nI a)] S4 (some (.int (nI 1))) S5) (ma1 : a1 < 2 ^ 20) (c6 : Ans (d + 8) 126 [.ref 52, .int (nI a), .int (nI q)] S5 (some (.int (nI a1))) S6) (b3 : a1 ≠ 0) (ma2 : a2 < 2 ^ 20) (c7 : Ans (d + 8) 268 [.ref 52] S6 (some (.int (nI a2))) S7) : Bod (d + 8) 30 0 [(0, .ref 0), (1, .int (nI q))] [] S (some (.int (nI a1))) (wI 8 (nI a2) S7) := by
  refine Bod.go dc_30_0 rfl ?_
  refine Bod.ic 1 (by decide) dc_30_1 ?_
  refine Bod.icF dc_30_2 rfl (k2_lt_F q 1 rfl rfl (by omega) (by omega)) ?_
  refine Bod.go dc_30_5 rfl ?_
  refine Bod.sip 20000 (by decide) dc_30_6 ?_
  refine Bod.icT dc_30_9 rfl (k2_le_T q 20000 rfl rfl (by omega) (by omega)) ?_
  refine Bod.go dc_30_15 rfl ?_
  refine Bod.get dc_30_16 fr_30_68 (mk_0 _) rfl ?_
  refine Bod.virt (r := []) dc_30_19 kr_30_89 ⟨Or.inr rfl, ow_31, cl_0⟩ (by rw [np_31]; rfl) (by rw [np_31]; rfl) (ob_of (mk_49 _)) (Nat.le_of_ble_eq_true rfl) (c1  ) ?_
  show Bod _ _ _ _ [] _ _ _
  refine Bod.go dc_30_22 rfl ?_
  refine Bod.get dc_30_23 fr_30_77 (mk_0 _) rfl ?_
  refine Bod.virt (r := []) dc_30_26 kr_30_92 ⟨Or.inr rfl, ow_32, cl_4⟩ (by rw [np_32]; rfl) (by rw [np_32]; rfl) (ob_of (mk_52 _)) (Nat.le_of_ble_eq_true rfl) (c2  ) ?_
  show Bod _ _ _ _ [] _ _ _
  refine Bod.go dc_30_29 rfl ?_
  refine Bod.get dc_30_30 fr_30_56 (mk_0 _) rfl ?_
  refine Bod.go dc_30_33 rfl ?_
  refine Bod.get dc_30_34 fr_30_81 (mk_0 _) rfl ?_
  refine Bod.eqI (nI f7) (by first | (simp (disch := omega) only [rI, rIe, rA, rIA, rLA, rJA, rVI, rQI, rVA, rQA, upd_at,  rAI, rLI, rJI, nI_add, pk_sub, kc_0, kc_1, kc_2, kc_3, kc_4, kc_5, reduceIte, Nat.reduceEqDiff, Nat.add_zero, rI_hold, rI_hold, rL_hold, hf7]; done) | (simp (disch := omega) only [rI, rIe, rA, rIA, rLA, rJA, rVI, rQI, rVA, rQA, upd_at,  rAI, rLI, rJI, nI_add, pk_sub, kc_0, kc_1, kc_2, kc_3, kc_4, kc_5, reduceIte, Nat.reduceEqDiff, Nat.add_zero, rI_hold, rI_hold, rL_hold, hf7]; exact congrArg nI (by omega))) ?_
  refine Bod.virt (r := []) dc_30_37 kr_30_95 ⟨Or.inr rfl, ow_33, cl_10⟩ (by rw [np_33]; rfl) (by rw [np_33]; rfl) (ob_of (mk_43 _)) (Nat.le_of_ble_eq_true rfl) (c3  ) ?_
  show Bod _ _ _ _ [_] _ _ _
  refine Bod.istn dc_30_40 (by rw [ml_30]; exact Nat.le_of_ble_eq_true rfl) ?_
  refine Bod.go dc_30_41 rfl ?_
  refine Bod.ic 0 (by decide) dc_30_42 ?_
  refine Bod.put dc_30_43 fr_30_81 (mk_0 _) (Nat.le_of_ble_eq_true rfl) pf_11_7 (st_7 _ _) (mu_I _ _ _) ?_
  refine Bod.go dc_30_46 rfl ?_
  refine Bod.get dc_30_47 fr_30_56 (mk_0 _) rfl ?_
  refine Bod.ic 0 (by decide) dc_30_50 ?_
  refine Bod.ic 0 (by decide) dc_30_51 ?_
  refine Bod.virt (r := []) dc_30_52 kr_30_99 ⟨Or.inr rfl, ow_51, cl_10⟩ (by rw [np_51]; rfl) (by rw [np_51]; rfl) (ob_of (mk_43 _)) (Nat.le_of_ble_eq_true rfl) (c4  ) ?_
  show Bod _ _ _ _ [] _ _ _
  refine Bod.go dc_30_55 rfl ?_
  refine Bod.get dc_30_56 fr_30_56 (mk_0 _) rfl ?_
  refine Bod.go dc_30_59 rfl ?_
  refine Bod.virt (r := []) dc_30_60 kr_30_103 ⟨Or.inr rfl, ow_122, cl_10⟩ (by rw [np_122]; rfl) (by rw [np_122]; rfl) (ob_of (mk_43 _)) (Nat.le_of_ble_eq_true rfl) (c5  ) ?_
  show Bod _ _ _ _ [_] _ _ _
  refine Bod.ifT dc_30_63 rfl (k1_ne_T (k_ne 1 0 rfl rfl (by omega) (by omega) (by omega))) ?_
  refine Bod.go dc_30_79 rfl ?_
  refine Bod.get dc_30_80 fr_30_77 (mk_0 _) rfl ?_
  refine Bod.go dc_30_83 rfl ?_
  refine Bod.go dc_30_84 rfl ?_
  refine Bod.virt (r := []) dc_30_85 kr_30_113 ⟨Or.inr rfl, ow_126, cl_4⟩ (by rw [np_126]; rfl) (by rw [np_126]; rfl) (ob_of (mk_52 _)) (Nat.le_of_ble_eq_true rfl) (c6  ) ?_
  show Bod _ _ _ _ [_] _ _ _
  refine Bod.istn dc_30_88 (by rw [ml_30]; exact Nat.le_of_ble_eq_true rfl) ?_
  refine Bod.go dc_30_89 rfl ?_
  refine Bod.go dc_30_90 rfl ?_
  refine Bod.ifT dc_30_91 rfl (k1_ne_T (k_ne a1 0 rfl rfl (by omega) (by omega) (by omega))) ?_
  refine Bod.go dc_30_98 rfl ?_
  refine Bod.get dc_30_99 fr_30_77 (mk_0 _) rfl ?_
  refine Bod.virt (r := [_]) dc_30_102 kr_30_117 ⟨Or.inr rfl, ow_268, cl_4⟩ (by rw [np_268]; rfl) (by rw [np_268]; rfl) (ob_of (mk_52 _)) (Nat.le_of_ble_eq_true rfl) (c7  ) ?_
  show Bod _ _ _ _ [_, _] _ _ _
  refine Bod.put dc_30_105 fr_30_110 (mk_0 _) (Nat.le_of_ble_eq_true rfl) pf_11_8 (st_8 _ _) (mu_I _ _ _) ?_
  refine Bod.go dc_30_108 rfl ?_
  exact Bod.retI dc_30_109 rt_30
theorem cRun_3 {d : Nat} {S : cS} {q : Nat} {S1 : cS} {S2 : cS} {f7 : Nat} {S3 : cS} {a : Nat} {S4 : cS} {S5 : cS} {S6 : cS} {a1 : Nat} (mq : q < 2 ^ 20) (b1 : 1 ≤ q) (b2 : q ≤ 20000) (c1 : Ans (d + 8) 31 [.ref 49] S none S1) (c2 : Ans (d + 8) 32 [.ref 52] S1 none S2) (hf7 : sI S2 7 = nI f7) (mf7 : f7 < 2 ^ 20) (ma : a < 2 ^ 20) (c3 : Ans (d + 8) 33 [.ref 43, .int (nI f7)] S2 (some (.int (nI a))) S3) (c4 : Ans (d + 8) 51 [.ref 43, .int (nI 0), .int (nI 0)] (wI 7 (nI 0) S3) none S4) (c5 : Ans (d + 8) 122 [.ref 43, .int (nI a)] S4 (some (.int (nI 1))) S5) (ma1 : a1 < 2 ^ 20) (c6 : Ans (d + 8) 126 [.ref 52, .int (nI a), .int (nI q)] S5 (some (.int (nI a1))) S6) (b3 : a1 = 0) : Bod (d + 8) 30 0 [(0, .ref 0), (1, .int (nI q))] [] S (some (.int (nI a1))) (wI 8 (nI 0) S6) := by
  refine Bod.go dc_30_0 rfl ?_
  refine Bod.ic 1 (by decide) dc_30_1 ?_
  refine Bod.icF dc_30_2 rfl (k2_lt_F q 1 rfl rfl (by omega) (by omega)) ?_
  refine Bod.go dc_30_5 rfl ?_
  refine Bod.sip 20000 (by decide) dc_30_6 ?_
  refine Bod.icT dc_30_9 rfl (k2_le_T q 20000 rfl rfl (by omega) (by omega)) ?_
  refine Bod.go dc_30_15 rfl ?_
  refine Bod.get dc_30_16 fr_30_68 (mk_0 _) rfl ?_
  refine Bod.virt (r := []) dc_30_19 kr_30_89 ⟨Or.inr rfl, ow_31, cl_0⟩ (by rw [np_31]; rfl) (by rw [np_31]; rfl) (ob_of (mk_49 _)) (Nat.le_of_ble_eq_true rfl) (c1  ) ?_
  show Bod _ _ _ _ [] _ _ _
  refine Bod.go dc_30_22 rfl ?_
  refine Bod.get dc_30_23 fr_30_77 (mk_0 _) rfl ?_
  refine Bod.virt (r := []) dc_30_26 kr_30_92 ⟨Or.inr rfl, ow_32, cl_4⟩ (by rw [np_32]; rfl) (by rw [np_32]; rfl) (ob_of (mk_52 _)) (Nat.le_of_ble_eq_true rfl) (c2  ) ?_
  show Bod _ _ _ _ [] _ _ _
  refine Bod.go dc_30_29 rfl ?_
  refine Bod.get dc_30_30 fr_30_56 (mk_0 _) rfl ?_
  refine Bod.go dc_30_33 rfl ?_
  refine Bod.get dc_30_34 fr_30_81 (mk_0 _) rfl ?_
  refine Bod.eqI (nI f7) (by first | (simp (disch := omega) only [rI, rIe, rA, rIA, rLA, rJA, rVI, rQI, rVA, rQA, upd_at,  rAI, rLI, rJI, nI_add, pk_sub, kc_0, kc_1, kc_2, kc_3, kc_4, kc_5, reduceIte, Nat.reduceEqDiff, Nat.add_zero, rI_hold, rI_hold, rL_hold, hf7]; done) | (simp (disch := omega) only [rI, rIe, rA, rIA, rLA, rJA, rVI, rQI, rVA, rQA, upd_at,  rAI, rLI, rJI, nI_add, pk_sub, kc_0, kc_1, kc_2, kc_3, kc_4, kc_5, reduceIte, Nat.reduceEqDiff, Nat.add_zero, rI_hold, rI_hold, rL_hold, hf7]; exact congrArg nI (by omega))) ?_
  refine Bod.virt (r := []) dc_30_37 kr_30_95 ⟨Or.inr rfl, ow_33, cl_10⟩ (by rw [np_33]; rfl) (by rw [np_33]; rfl) (ob_of (mk_43 _)) (Nat.le_of_ble_eq_true rfl) (c3  ) ?_
  show Bod _ _ _ _ [_] _ _ _
  refine Bod.istn dc_30_40 (by rw [ml_30]; exact Nat.le_of_ble_eq_true rfl) ?_
  refine Bod.go dc_30_41 rfl ?_
  refine Bod.ic 0 (by decide) dc_30_42 ?_
  refine Bod.put dc_30_43 fr_30_81 (mk_0 _) (Nat.le_of_ble_eq_true rfl) pf_11_7 (st_7 _ _) (mu_I _ _ _) ?_
  refine Bod.go dc_30_46 rfl ?_
  refine Bod.get dc_30_47 fr_30_56 (mk_0 _) rfl ?_
  refine Bod.ic 0 (by decide) dc_30_50 ?_
  refine Bod.ic 0 (by decide) dc_30_51 ?_
  refine Bod.virt (r := []) dc_30_52 kr_30_99 ⟨Or.inr rfl, ow_51, cl_10⟩ (by rw [np_51]; rfl) (by rw [np_51]; rfl) (ob_of (mk_43 _)) (Nat.le_of_ble_eq_true rfl) (c4  ) ?_
  show Bod _ _ _ _ [] _ _ _
  refine Bod.go dc_30_55 rfl ?_
  refine Bod.get dc_30_56 fr_30_56 (mk_0 _) rfl ?_
  refine Bod.go dc_30_59 rfl ?_
  refine Bod.virt (r := []) dc_30_60 kr_30_103 ⟨Or.inr rfl, ow_122, cl_10⟩ (by rw [np_122]; rfl) (by rw [np_122]; rfl) (ob_of (mk_43 _)) (Nat.le_of_ble_eq_true rfl) (c5  ) ?_
  show Bod _ _ _ _ [_] _ _ _
  refine Bod.ifT dc_30_63 rfl (k1_ne_T (k_ne 1 0 rfl rfl (by omega) (by omega) (by omega))) ?_
  refine Bod.go dc_30_79 rfl ?_
  refine Bod.get dc_30_80 fr_30_77 (mk_0 _) rfl ?_
  refine Bod.go dc_30_83 rfl ?_
  refine Bod.go dc_30_84 rfl ?_
  refine Bod.virt (r := []) dc_30_85 kr_30_113 ⟨Or.inr rfl, ow_126, cl_4⟩ (by rw [np_126]; rfl) (by rw [np_126]; rfl) (ob_of (mk_52 _)) (Nat.le_of_ble_eq_true rfl) (c6  ) ?_
  show Bod _ _ _ _ [_] _ _ _
  refine Bod.istn dc_30_88 (by rw [ml_30]; exact Nat.le_of_ble_eq_true rfl) ?_
  refine Bod.go dc_30_89 rfl ?_
  refine Bod.go dc_30_90 rfl ?_
  refine Bod.ifF dc_30_91 rfl (k1_ne_F (k_eq a1 0 rfl rfl (by omega))) ?_
  refine Bod.ic 0 (by decide) dc_30_94 ?_
  refine Bod.go dc_30_95 rfl ?_
  refine Bod.put dc_30_105 fr_30_110 (mk_0 _) (Nat.le_of_ble_eq_true rfl) pf_11_8 (st_8 _ _) (mu_I _ _ _) ?_
  refine Bod.go dc_30_108 rfl ?_
  exact Bod.retI dc_30_109 rt_30
theorem cRun_4 {d : Nat} {S : cS} {q : Nat} {S1 : cS} {S2 : cS} {f7 : Nat} {S3 : cS} {a : Nat} {S4 : cS} {S5 : cS} {ft : Nat} (mq : q < 2 ^ 20) (b1 : 1 ≤ q) (b2 : q ≤ 20000) (c1 : Ans (d + 8) 31 [.ref 49] S none S1) (c2 : Ans (d + 8) 32 [.ref 52] S1 none S2) (hf7 : sI S2 7 = nI f7) (mf7 : f7 < 2 ^ 20) (ma : a < 2 ^ 20) (c3 : Ans (d + 8) 33 [.ref 43, .int (nI f7)] S2 (some (.int (nI a))) S3) (c4 : Ans (d + 8) 51 [.ref 43, .int (nI 0), .int (nI 0)] (wI 7 (nI 0) S3) none S4) (c5 : Ans (d + 8) 122 [.ref 43, .int (nI a)] S4 (some (.int (nI 0))) S5) (hft : sI S5 3113 = nI ft) (mft : ft < 2 ^ 20) : Bod (d + 8) 30 0 [(0, .ref 0), (1, .int (nI q))] [] S (some (.int (Int32.ofInt (-1)))) (wI 8 (nI ft) S5) := by
  refine Bod.go dc_30_0 rfl ?_
  refine Bod.ic 1 (by decide) dc_30_1 ?_
  refine Bod.icF dc_30_2 rfl (k2_lt_F q 1 rfl rfl (by omega) (by omega)) ?_
  refine Bod.go dc_30_5 rfl ?_
  refine Bod.sip 20000 (by decide) dc_30_6 ?_
  refine Bod.icT dc_30_9 rfl (k2_le_T q 20000 rfl rfl (by omega) (by omega)) ?_
  refine Bod.go dc_30_15 rfl ?_
  refine Bod.get dc_30_16 fr_30_68 (mk_0 _) rfl ?_
  refine Bod.virt (r := []) dc_30_19 kr_30_89 ⟨Or.inr rfl, ow_31, cl_0⟩ (by rw [np_31]; rfl) (by rw [np_31]; rfl) (ob_of (mk_49 _)) (Nat.le_of_ble_eq_true rfl) (c1  ) ?_
  show Bod _ _ _ _ [] _ _ _
  refine Bod.go dc_30_22 rfl ?_
  refine Bod.get dc_30_23 fr_30_77 (mk_0 _) rfl ?_
  refine Bod.virt (r := []) dc_30_26 kr_30_92 ⟨Or.inr rfl, ow_32, cl_4⟩ (by rw [np_32]; rfl) (by rw [np_32]; rfl) (ob_of (mk_52 _)) (Nat.le_of_ble_eq_true rfl) (c2  ) ?_
  show Bod _ _ _ _ [] _ _ _
  refine Bod.go dc_30_29 rfl ?_
  refine Bod.get dc_30_30 fr_30_56 (mk_0 _) rfl ?_
  refine Bod.go dc_30_33 rfl ?_
  refine Bod.get dc_30_34 fr_30_81 (mk_0 _) rfl ?_
  refine Bod.eqI (nI f7) (by first | (simp (disch := omega) only [rI, rIe, rA, rIA, rLA, rJA, rVI, rQI, rVA, rQA, upd_at,  rAI, rLI, rJI, nI_add, pk_sub, kc_0, kc_1, kc_2, kc_3, kc_4, kc_5, reduceIte, Nat.reduceEqDiff, Nat.add_zero, rI_hold, rI_hold, rL_hold, hf7]; done) | (simp (disch := omega) only [rI, rIe, rA, rIA, rLA, rJA, rVI, rQI, rVA, rQA, upd_at,  rAI, rLI, rJI, nI_add, pk_sub, kc_0, kc_1, kc_2, kc_3, kc_4, kc_5, reduceIte, Nat.reduceEqDiff, Nat.add_zero, rI_hold, rI_hold, rL_hold, hf7]; exact congrArg nI (by omega))) ?_
  refine Bod.virt (r := []) dc_30_37 kr_30_95 ⟨Or.inr rfl, ow_33, cl_10⟩ (by rw [np_33]; rfl) (by rw [np_33]; rfl) (ob_of (mk_43 _)) (Nat.le_of_ble_eq_true rfl) (c3  ) ?_
  show Bod _ _ _ _ [_] _ _ _
  refine Bod.istn dc_30_40 (by rw [ml_30]; exact Nat.le_of_ble_eq_true rfl) ?_
  refine Bod.go dc_30_41 rfl ?_
  refine Bod.ic 0 (by decide) dc_30_42 ?_
  refine Bod.put dc_30_43 fr_30_81 (mk_0 _) (Nat.le_of_ble_eq_true rfl) pf_11_7 (st_7 _ _) (mu_I _ _ _) ?_
  refine Bod.go dc_30_46 rfl ?_
  refine Bod.get dc_30_47 fr_30_56 (mk_0 _) rfl ?_
  refine Bod.ic 0 (by decide) dc_30_50 ?_
  refine Bod.ic 0 (by decide) dc_30_51 ?_
  refine Bod.virt (r := []) dc_30_52 kr_30_99 ⟨Or.inr rfl, ow_51, cl_10⟩ (by rw [np_51]; rfl) (by rw [np_51]; rfl) (ob_of (mk_43 _)) (Nat.le_of_ble_eq_true rfl) (c4  ) ?_
  show Bod _ _ _ _ [] _ _ _
  refine Bod.go dc_30_55 rfl ?_
  refine Bod.get dc_30_56 fr_30_56 (mk_0 _) rfl ?_
  refine Bod.go dc_30_59 rfl ?_
  refine Bod.virt (r := []) dc_30_60 kr_30_103 ⟨Or.inr rfl, ow_122, cl_10⟩ (by rw [np_122]; rfl) (by rw [np_122]; rfl) (ob_of (mk_43 _)) (Nat.le_of_ble_eq_true rfl) (c5  ) ?_
  show Bod _ _ _ _ [_] _ _ _
  refine Bod.ifF dc_30_63 rfl (k1_ne_F (k_eq 0 0 rfl rfl (by omega))) ?_
  refine Bod.go dc_30_66 rfl ?_
  refine Bod.go dc_30_67 rfl ?_
  refine Bod.get dc_30_68 fr_30_37 (mk_0 _) rfl ?_
  refine Bod.get dc_30_71 fr_30_107 (mk_31 _) rfl ?_
  refine Bod.eqI (nI ft) (by first | (simp (disch := omega) only [rI, rIe, rA, rIA, rLA, rJA, rVI, rQI, rVA, rQA, upd_at,  rAI, rLI, rJI, nI_add, pk_sub, kc_0, kc_1, kc_2, kc_3, kc_4, kc_5, reduceIte, Nat.reduceEqDiff, Nat.add_zero, rI_hold, rI_hold, rL_hold, hf7, hft]; done) | (simp (disch := omega) only [rI, rIe, rA, rIA, rLA, rJA, rVI, rQI, rVA, rQA, upd_at,  rAI, rLI, rJI, nI_add, pk_sub, kc_0, kc_1, kc_2, kc_3, kc_4, kc_5, reduceIte, Nat.reduceEqDiff, Nat.add_zero, rI_hold, rI_hold, rL_hold, hf7, hft]; exact congrArg nI (by omega))) ?_
  refine Bod.put dc_30_74 fr_30_110 (mk_0 _) (Nat.le_of_ble_eq_true rfl) pf_11_8 (st_8 _ _) (mu_I _ _ _) ?_
  refine Bod.go dc_30_77 rfl ?_
  exact Bod.retI dc_30_78 rt_30
theorem cRun_5 {d : Nat} {S : cS} {q : Nat} (mq : q < 2 ^ 20) (b1 : 1 ≤ q) (b2 : 20000 < q) : Bod (d + 8) 30 0 [(0, .ref 0), (1, .int (nI q))] [] S (some (.int ((Int8.ofInt (-2)).toInt32))) (S) := by
  refine Bod.go dc_30_0 rfl ?_
  refine Bod.ic 1 (by decide) dc_30_1 ?_
  refine Bod.icF dc_30_2 rfl (k2_lt_F q 1 rfl rfl (by omega) (by omega)) ?_
  refine Bod.go dc_30_5 rfl ?_
  refine Bod.sip 20000 (by decide) dc_30_6 ?_
  refine Bod.icF dc_30_9 rfl (k2_le_F q 20000 rfl rfl (by omega) (by omega)) ?_
  refine Bod.go dc_30_12 rfl ?_
  exact Bod.retI dc_30_14 rt_30
