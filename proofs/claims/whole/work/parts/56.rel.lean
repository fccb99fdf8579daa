/-! RELEASE, its pieces -/
theorem dc_142_59 : decode (sm_cc 142) 59 = .ok (.iload_n 3, 1) := by decide +kernel
theorem dc_142_60 : decode (sm_cc 142) 60 = .ok (.sipush (1500), 3) := by decide +kernel
theorem dc_142_63 : decode (sm_cc 142) 63 = .ok (.if_icmp .gt (60), 3) := by decide +kernel
theorem dc_142_66 : decode (sm_cc 142) 66 = .ok (.aload_n 0, 1) := by decide +kernel
theorem dc_142_67 : decode (sm_cc 142) 67 = .ok (.getfield 73, 3) := by decide +kernel
theorem fr_142_73 : sm_at mt_f (sm_ow 142) 73 = some (73, 2, 16, 0, 392) := by decide +kernel
theorem dc_142_70 : decode (sm_cc 142) 70 = .ok (.ifCond .le (53), 3) := by decide +kernel
theorem dc_142_73 : decode (sm_cc 142) 73 = .ok (.aload_n 0, 1) := by decide +kernel
theorem dc_142_74 : decode (sm_cc 142) 74 = .ok (.getfield 73, 3) := by decide +kernel
theorem dc_142_77 : decode (sm_cc 142) 77 = .ok (.sipush (1500), 3) := by decide +kernel
theorem dc_142_80 : decode (sm_cc 142) 80 = .ok (.if_icmp .gt (43), 3) := by decide +kernel
theorem dc_142_83 : decode (sm_cc 142) 83 = .ok (.aload_n 0, 1) := by decide +kernel
theorem dc_142_84 : decode (sm_cc 142) 84 = .ok (.dup, 1) := by decide +kernel
theorem dc_142_85 : decode (sm_cc 142) 85 = .ok (.getfield 73, 3) := by decide +kernel
theorem dc_142_88 : decode (sm_cc 142) 88 = .ok (.iconst 1, 1) := by decide +kernel
theorem dc_142_89 : decode (sm_cc 142) 89 = .ok (.isub, 1) := by decide +kernel
theorem dc_142_90 : decode (sm_cc 142) 90 = .ok (.putfield 73, 3) := by decide +kernel
theorem dc_142_93 : decode (sm_cc 142) 93 = .ok (.aload_n 0, 1) := by decide +kernel
theorem dc_142_94 : decode (sm_cc 142) 94 = .ok (.getfield 48, 3) := by decide +kernel
theorem fr_142_48 : sm_at mt_f (sm_ow 142) 48 = some (48, 2, 11, 0, 387) := by decide +kernel
theorem dc_142_97 : decode (sm_cc 142) 97 = .ok (.aload_n 0, 1) := by decide +kernel
theorem dc_142_98 : decode (sm_cc 142) 98 = .ok (.getfield 73, 3) := by decide +kernel
theorem dc_142_101 : decode (sm_cc 142) 101 = .ok (.iaload, 1) := by decide +kernel
theorem dc_142_102 : decode (sm_cc 142) 102 = .ok (.istore 4, 2) := by decide +kernel
theorem dc_142_104 : decode (sm_cc 142) 104 = .ok (.aload_n 0, 1) := by decide +kernel
theorem dc_142_105 : decode (sm_cc 142) 105 = .ok (.iload 4, 2) := by decide +kernel
theorem dc_142_107 : decode (sm_cc 142) 107 = .ok (.iconst 0, 1) := by decide +kernel
theorem dc_142_108 : decode (sm_cc 142) 108 = .ok (.invokevirtual 76, 3) := by decide +kernel
theorem ow_143 : 2 = sm_ow 143 := by decide +kernel
theorem kr_142_76 : sm_at mt_k (sm_ow 142) 76 = some (76, 0, 143, 0, 1407) := by decide +kernel
theorem np_143 : sm_np 143 = 2 := by decide +kernel
theorem dc_142_111 : decode (sm_cc 142) 111 = .ok (.aload_n 0, 1) := by decide +kernel
theorem dc_142_112 : decode (sm_cc 142) 112 = .ok (.iload 4, 2) := by decide +kernel
theorem dc_142_114 : decode (sm_cc 142) 114 = .ok (.invokevirtual 80, 3) := by decide +kernel
theorem ow_146 : 2 = sm_ow 146 := by decide +kernel
theorem kr_142_80 : sm_at mt_k (sm_ow 142) 80 = some (80, 0, 146, 0, 1419) := by decide +kernel
theorem np_146 : sm_np 146 = 1 := by decide +kernel
theorem dc_142_117 : decode (sm_cc 142) 117 = .ok (.iinc 3 (1), 3) := by decide +kernel
theorem dc_142_120 : decode (sm_cc 142) 120 = .ok (.goto (-61), 3) := by decide +kernel
theorem dc_142_123 : decode (sm_cc 142) 123 = .ok (.return_, 1) := by decide +kernel
theorem dc_142_7 : decode (sm_cc 142) 7 = .ok (.iload_n 2, 1) := by decide +kernel
theorem dc_142_8 : decode (sm_cc 142) 8 = .ok (.aload_n 1, 1) := by decide +kernel
theorem dc_142_9 : decode (sm_cc 142) 9 = .ok (.arraylength, 1) := by decide +kernel
theorem dc_142_10 : decode (sm_cc 142) 10 = .ok (.if_icmp .lt (4), 3) := by decide +kernel
theorem dc_142_14 : decode (sm_cc 142) 14 = .ok (.aload_n 1, 1) := by decide +kernel
theorem dc_142_15 : decode (sm_cc 142) 15 = .ok (.iload_n 2, 1) := by decide +kernel
theorem dc_142_16 : decode (sm_cc 142) 16 = .ok (.dup2, 1) := by decide +kernel
theorem dc_142_17 : decode (sm_cc 142) 17 = .ok (.iaload, 1) := by decide +kernel
theorem dc_142_18 : decode (sm_cc 142) 18 = .ok (.iconst 1, 1) := by decide +kernel
theorem dc_142_19 : decode (sm_cc 142) 19 = .ok (.isub, 1) := by decide +kernel
theorem dc_142_20 : decode (sm_cc 142) 20 = .ok (.iastore, 1) := by decide +kernel
theorem dc_142_21 : decode (sm_cc 142) 21 = .ok (.aload_n 0, 1) := by decide +kernel
theorem dc_142_22 : decode (sm_cc 142) 22 = .ok (.getfield 15, 3) := by decide +kernel
theorem fr_142_15 : sm_at mt_f (sm_ow 142) 15 = some (15, 2, 1, 0, 374) := by decide +kernel
theorem dc_142_25 : decode (sm_cc 142) 25 = .ok (.iload_n 2, 1) := by decide +kernel
theorem dc_142_26 : decode (sm_cc 142) 26 = .ok (.iaload, 1) := by decide +kernel
theorem dc_142_27 : decode (sm_cc 142) 27 = .ok (.aload_n 0, 1) := by decide +kernel
theorem dc_142_28 : decode (sm_cc 142) 28 = .ok (.getfield 18, 3) := by decide +kernel
theorem fr_142_18 : sm_at mt_f (sm_ow 142) 18 = some (18, 2, 2, 0, 375) := by decide +kernel
theorem dc_142_31 : decode (sm_cc 142) 31 = .ok (.iload_n 2, 1) := by decide +kernel
theorem dc_142_32 : decode (sm_cc 142) 32 = .ok (.iaload, 1) := by decide +kernel
theorem dc_142_33 : decode (sm_cc 142) 33 = .ok (.iadd, 1) := by decide +kernel
theorem dc_142_34 : decode (sm_cc 142) 34 = .ok (.aload_n 0, 1) := by decide +kernel
theorem dc_142_35 : decode (sm_cc 142) 35 = .ok (.getfield 21, 3) := by decide +kernel
theorem fr_142_21 : sm_at mt_f (sm_ow 142) 21 = some (21, 2, 3, 0, 377) := by decide +kernel
theorem dc_142_38 : decode (sm_cc 142) 38 = .ok (.iload_n 2, 1) := by decide +kernel
theorem dc_142_39 : decode (sm_cc 142) 39 = .ok (.iaload, 1) := by decide +kernel
theorem dc_142_40 : decode (sm_cc 142) 40 = .ok (.iadd, 1) := by decide +kernel
theorem dc_142_41 : decode (sm_cc 142) 41 = .ok (.ifCond .le (4), 3) := by decide +kernel
theorem dc_142_44 : decode (sm_cc 142) 44 = .ok (.return_, 1) := by decide +kernel
theorem dc_142_45 : decode (sm_cc 142) 45 = .ok (.aload_n 0, 1) := by decide +kernel
theorem dc_142_46 : decode (sm_cc 142) 46 = .ok (.getfield 48, 3) := by decide +kernel
theorem dc_142_49 : decode (sm_cc 142) 49 = .ok (.iconst 0, 1) := by decide +kernel
theorem dc_142_50 : decode (sm_cc 142) 50 = .ok (.iload_n 2, 1) := by decide +kernel
theorem dc_142_51 : decode (sm_cc 142) 51 = .ok (.iastore, 1) := by decide +kernel
theorem dc_142_52 : decode (sm_cc 142) 52 = .ok (.aload_n 0, 1) := by decide +kernel
theorem dc_142_53 : decode (sm_cc 142) 53 = .ok (.iconst 1, 1) := by decide +kernel
theorem dc_142_54 : decode (sm_cc 142) 54 = .ok (.putfield 73, 3) := by decide +kernel
theorem dc_142_57 : decode (sm_cc 142) 57 = .ok (.iconst 0, 1) := by decide +kernel
theorem dc_142_58 : decode (sm_cc 142) 58 = .ok (.istore_n 3, 1) := by decide +kernel
theorem sm_p1_3 {p q : Nat} (h : p ≠ q) (lv : sm_L) {t y z : Value} (hy : y.category = 1) : sm_p1 (sm_p1 (sm_p1 lv q t) p y) q z = sm_p1 (sm_p1 lv p y) q z := by
  have e1 : ∀ v : Value, v.category = 1 → (!((p, v).1 == q) && !((p, v).1 + 1 == q && (p, v).2.category == 2)) = true := fun v hv => by
    simp [h, hv]
  have e2 : ∀ v : Value, (!((q, v).1 == q) && !((q, v).1 + 1 == q && (q, v).2.category == 2)) = false := fun v => by simp
  unfold sm_p1
  rw [List.filter_cons, e1 y hy]
  simp only [if_true]
  congr 1
  rw [List.filter_cons (x := (p, y)), e1 y hy]
  simp only [if_true]
  congr 1
  rw [List.filter_cons (x := (q, t))]
  split
  · rw [List.filter_cons (x := (q, t)), e2 t]
    simp only [Bool.false_eq_true, if_false, List.filter_filter]
    congr 1
    funext u
    cases (!(u.1 == q) && !(u.1 + 1 == q && u.2.category == 2)) <;> simp
  · simp only [List.filter_filter]
    congr 1
    funext u
    cases (!(u.1 == q) && !(u.1 + 1 == q && u.2.category == 2)) <;> simp
theorem rel_itA {d k a0 turn m g : Nat} {x : Int32} {S S1 S2 Sf : cS} (ht : turn ≤ 1500) (hm : sI S 216 = nI (m + 1)) (hg : sA S 14 m = nI g) (hm2 : m < 1500) (hV : Ans (d + 2) 143 [.ref 2, .int (nI g), .int (nI 0)] (wI 216 (nI m) S) none S1) (hR : Ans (d + 2) 146 [.ref 2, .int (nI g)] S1 none S2) (hn : Bod (d + 2) 142 59 (sm_p1 (sm_p1 (lv_args 0 [.ref 2, .ref a0, .int (nI k)]) 4 (.int (nI g))) 3 (.int (nI (turn + 1)))) [] S2 none Sf) : Bod (d + 2) 142 59 (sm_p1 (lv_args 0 [.ref 2, .ref a0, .int (nI k)]) 3 (.int (nI turn))) [] S none Sf := by
  refine Bod.go dc_142_59 rfl ?_
  refine Bod.sip 1500 (by decide) dc_142_60 ?_
  refine Bod.icF dc_142_63 rfl (k2_gt_F turn 1500 rfl rfl (by omega) (by omega)) ?_
  refine Bod.go dc_142_66 rfl ?_
  refine Bod.get dc_142_67 fr_142_73 (mk_2 _) rfl ?_
  refine Bod.eqI (nI (m + 1)) (by first | assumption | rfl | exact congrArg nI (by omega) | (simp (disch := omega) only [rI, rIe, rA, rIA, rLA, rJA, rVI, rQI, rVA, rQA, upd_at,  rAI, rLI, rJI, nI_add, pk_sub, kc_0, kc_1, kc_2, kc_3, kc_4, kc_5, reduceIte, Nat.reduceEqDiff, Nat.add_zero, rI_hold, rI_hold, rL_hold, hm, hg]; done)) ?_
  refine Bod.ifF dc_142_70 rfl (k1_le_F (m + 1) rfl (by omega) (by omega)) ?_
  refine Bod.go dc_142_73 rfl ?_
  refine Bod.get dc_142_74 fr_142_73 (mk_2 _) rfl ?_
  refine Bod.eqI (nI (m + 1)) (by first | assumption | rfl | exact congrArg nI (by omega) | (simp (disch := omega) only [rI, rIe, rA, rIA, rLA, rJA, rVI, rQI, rVA, rQA, upd_at,  rAI, rLI, rJI, nI_add, pk_sub, kc_0, kc_1, kc_2, kc_3, kc_4, kc_5, reduceIte, Nat.reduceEqDiff, Nat.add_zero, rI_hold, rI_hold, rL_hold, hm, hg]; done)) ?_
  refine Bod.sip 1500 (by decide) dc_142_77 ?_
  refine Bod.icF dc_142_80 rfl (k2_gt_F (m + 1) 1500 rfl rfl (by omega) (by omega)) ?_
  refine Bod.go dc_142_83 rfl ?_
  refine Bod.go dc_142_84 rfl ?_
  refine Bod.get dc_142_85 fr_142_73 (mk_2 _) rfl ?_
  refine Bod.eqI (nI (m + 1)) (by first | assumption | rfl | exact congrArg nI (by omega) | (simp (disch := omega) only [rI, rIe, rA, rIA, rLA, rJA, rVI, rQI, rVA, rQA, upd_at,  rAI, rLI, rJI, nI_add, pk_sub, kc_0, kc_1, kc_2, kc_3, kc_4, kc_5, reduceIte, Nat.reduceEqDiff, Nat.add_zero, rI_hold, rI_hold, rL_hold, hm, hg]; done)) ?_
  refine Bod.ic 1 (by decide) dc_142_88 ?_
  refine Bod.subN m (by omega) (by omega) dc_142_89 ?_
  refine Bod.put dc_142_90 fr_142_73 (mk_2 _) (Nat.le_of_ble_eq_true rfl) pf_2_16 (st_216 _ _) (mu_I _ _ _) ?_
  refine Bod.go dc_142_93 rfl ?_
  refine Bod.get dc_142_94 fr_142_48 (mk_2 _) rfl ?_
  refine Bod.go dc_142_97 rfl ?_
  refine Bod.get dc_142_98 fr_142_73 (mk_2 _) rfl ?_
  refine Bod.eqI (nI m) (by first | (simp (disch := omega) only [rI, rIe, rA, rIA, rLA, rJA, rVI, rQI, rVA, rQA, upd_at,  rAI, rLI, rJI, nI_add, pk_sub, kc_0, kc_1, kc_2, kc_3, kc_4, kc_5, reduceIte, Nat.reduceEqDiff, Nat.add_zero, rI_hold, rI_hold, rL_hold, hm, hg]; done) | (simp (disch := omega) only [rI, rIe, rA, rIA, rLA, rJA, rVI, rQI, rVA, rQA, upd_at,  rAI, rLI, rJI, nI_add, pk_sub, kc_0, kc_1, kc_2, kc_3, kc_4, kc_5, reduceIte, Nat.reduceEqDiff, Nat.add_zero, rI_hold, rI_hold, rL_hold, hm, hg]; exact congrArg nI (by omega))) ?_
  refine Bod.ialdN m rfl (by omega) (by omega) dc_142_101 (mk_14 _) ?_
  refine Bod.eqI (nI g) (by first | (simp (disch := omega) only [rI, rIe, rA, rIA, rLA, rJA, rVI, rQI, rVA, rQA, upd_at,  rAI, rLI, rJI, nI_add, pk_sub, kc_0, kc_1, kc_2, kc_3, kc_4, kc_5, reduceIte, Nat.reduceEqDiff, Nat.add_zero, rI_hold, rI_hold, rL_hold, hm, hg]; done) | (simp (disch := omega) only [rI, rIe, rA, rIA, rLA, rJA, rVI, rQI, rVA, rQA, upd_at,  rAI, rLI, rJI, nI_add, pk_sub, kc_0, kc_1, kc_2, kc_3, kc_4, kc_5, reduceIte, Nat.reduceEqDiff, Nat.add_zero, rI_hold, rI_hold, rL_hold, hm, hg]; exact congrArg nI (by omega))) ?_
  refine Bod.ist dc_142_102 (by rw [ml_142]; exact Nat.le_of_ble_eq_true rfl) ?_
  refine Bod.go dc_142_104 rfl ?_
  refine Bod.go dc_142_105 rfl ?_
  refine Bod.ic 0 (by decide) dc_142_107 ?_
  refine Bod.virt (r := []) dc_142_108 kr_142_76 ⟨Or.inl rfl, ow_143, cl_2⟩ (by rw [np_143]; rfl) (by rw [np_143]; rfl) (ob_of (mk_2 _)) (Nat.le_of_ble_eq_true rfl) (hV  ) ?_
  show Bod _ _ _ _ [] _ _ _
  refine Bod.go dc_142_111 rfl ?_
  refine Bod.go dc_142_112 rfl ?_
  refine Bod.virt (r := []) dc_142_114 kr_142_80 ⟨Or.inl rfl, ow_146, cl_2⟩ (by rw [np_146]; rfl) (by rw [np_146]; rfl) (ob_of (mk_2 _)) (Nat.le_of_ble_eq_true rfl) (hR  ) ?_
  show Bod _ _ _ _ [] _ _ _
  refine Bod.incN (turn + 1) (by rw [kc_1, nI_add]) dc_142_117 (by rw [ml_142]; exact Nat.le_of_ble_eq_true rfl) rfl ?_
  refine Bod.go dc_142_120 rfl ?_
  rw [sm_p1_3 (by decide) _ rfl]
  exact hn
theorem rel_itB {d k a0 turn m g : Nat} {x : Int32} {S S1 S2 Sf : cS} (ht : turn ≤ 1500) (hm : sI S 216 = nI (m + 1)) (hg : sA S 14 m = nI g) (hm2 : m < 1500) (hV : Ans (d + 2) 143 [.ref 2, .int (nI g), .int (nI 0)] (wI 216 (nI m) S) none S1) (hR : Ans (d + 2) 146 [.ref 2, .int (nI g)] S1 none S2) (hn : Bod (d + 2) 142 59 (sm_p1 (sm_p1 (lv_args 0 [.ref 2, .ref a0, .int (nI k)]) 4 (.int (nI g))) 3 (.int (nI (turn + 1)))) [] S2 none Sf) : Bod (d + 2) 142 59 (sm_p1 (sm_p1 (lv_args 0 [.ref 2, .ref a0, .int (nI k)]) 4 (.int x)) 3 (.int (nI turn))) [] S none Sf := by
  refine Bod.go dc_142_59 rfl ?_
  refine Bod.sip 1500 (by decide) dc_142_60 ?_
  refine Bod.icF dc_142_63 rfl (k2_gt_F turn 1500 rfl rfl (by omega) (by omega)) ?_
  refine Bod.go dc_142_66 rfl ?_
  refine Bod.get dc_142_67 fr_142_73 (mk_2 _) rfl ?_
  refine Bod.eqI (nI (m + 1)) (by first | assumption | rfl | exact congrArg nI (by omega) | (simp (disch := omega) only [rI, rIe, rA, rIA, rLA, rJA, rVI, rQI, rVA, rQA, upd_at,  rAI, rLI, rJI, nI_add, pk_sub, kc_0, kc_1, kc_2, kc_3, kc_4, kc_5, reduceIte, Nat.reduceEqDiff, Nat.add_zero, rI_hold, rI_hold, rL_hold, hm, hg]; done)) ?_
  refine Bod.ifF dc_142_70 rfl (k1_le_F (m + 1) rfl (by omega) (by omega)) ?_
  refine Bod.go dc_142_73 rfl ?_
  refine Bod.get dc_142_74 fr_142_73 (mk_2 _) rfl ?_
  refine Bod.eqI (nI (m + 1)) (by first | assumption | rfl | exact congrArg nI (by omega) | (simp (disch := omega) only [rI, rIe, rA, rIA, rLA, rJA, rVI, rQI, rVA, rQA, upd_at,  rAI, rLI, rJI, nI_add, pk_sub, kc_0, kc_1, kc_2, kc_3, kc_4, kc_5, reduceIte, Nat.reduceEqDiff, Nat.add_zero, rI_hold, rI_hold, rL_hold, hm, hg]; done)) ?_
  refine Bod.sip 1500 (by decide) dc_142_77 ?_
  refine Bod.icF dc_142_80 rfl (k2_gt_F (m + 1) 1500 rfl rfl (by omega) (by omega)) ?_
  refine Bod.go dc_142_83 rfl ?_
  refine Bod.go dc_142_84 rfl ?_
  refine Bod.get dc_142_85 fr_142_73 (mk_2 _) rfl ?_
  refine Bod.eqI (nI (m + 1)) (by first | assumption | rfl | exact congrArg nI (by omega) | (simp (disch := omega) only [rI, rIe, rA, rIA, rLA, rJA, rVI, rQI, rVA, rQA, upd_at,  rAI, rLI, rJI, nI_add, pk_sub, kc_0, kc_1, kc_2, kc_3, kc_4, kc_5, reduceIte, Nat.reduceEqDiff, Nat.add_zero, rI_hold, rI_hold, rL_hold, hm, hg]; done)) ?_
  refine Bod.ic 1 (by decide) dc_142_88 ?_
  refine Bod.subN m (by omega) (by omega) dc_142_89 ?_
  refine Bod.put dc_142_90 fr_142_73 (mk_2 _) (Nat.le_of_ble_eq_true rfl) pf_2_16 (st_216 _ _) (mu_I _ _ _) ?_
  refine Bod.go dc_142_93 rfl ?_
  refine Bod.get dc_142_94 fr_142_48 (mk_2 _) rfl ?_
  refine Bod.go dc_142_97 rfl ?_
  refine Bod.get dc_142_98 fr_142_73 (mk_2 _) rfl ?_
  refine Bod.eqI (nI m) (by first | (simp (disch := omega) only [rI, rIe, rA, rIA, rLA, rJA, rVI, rQI, rVA, rQA, upd_at,  rAI, rLI, rJI, nI_add, pk_sub, kc_0, kc_1, kc_2, kc_3, kc_4, kc_5, reduceIte, Nat.reduceEqDiff, Nat.add_zero, rI_hold, rI_hold, rL_hold, hm, hg]; done) | (simp (disch := omega) only [rI, rIe, rA, rIA, rLA, rJA, rVI, rQI, rVA, rQA, upd_at,  rAI, rLI, rJI, nI_add, pk_sub, kc_0, kc_1, kc_2, kc_3, kc_4, kc_5, reduceIte, Nat.reduceEqDiff, Nat.add_zero, rI_hold, rI_hold, rL_hold, hm, hg]; exact congrArg nI (by omega))) ?_
  refine Bod.ialdN m rfl (by omega) (by omega) dc_142_101 (mk_14 _) ?_
  refine Bod.eqI (nI g) (by first | (simp (disch := omega) only [rI, rIe, rA, rIA, rLA, rJA, rVI, rQI, rVA, rQA, upd_at,  rAI, rLI, rJI, nI_add, pk_sub, kc_0, kc_1, kc_2, kc_3, kc_4, kc_5, reduceIte, Nat.reduceEqDiff, Nat.add_zero, rI_hold, rI_hold, rL_hold, hm, hg]; done) | (simp (disch := omega) only [rI, rIe, rA, rIA, rLA, rJA, rVI, rQI, rVA, rQA, upd_at,  rAI, rLI, rJI, nI_add, pk_sub, kc_0, kc_1, kc_2, kc_3, kc_4, kc_5, reduceIte, Nat.reduceEqDiff, Nat.add_zero, rI_hold, rI_hold, rL_hold, hm, hg]; exact congrArg nI (by omega))) ?_
  refine Bod.ist dc_142_102 (by rw [ml_142]; exact Nat.le_of_ble_eq_true rfl) ?_
  refine Bod.go dc_142_104 rfl ?_
  refine Bod.go dc_142_105 rfl ?_
  refine Bod.ic 0 (by decide) dc_142_107 ?_
  refine Bod.virt (r := []) dc_142_108 kr_142_76 ⟨Or.inl rfl, ow_143, cl_2⟩ (by rw [np_143]; rfl) (by rw [np_143]; rfl) (ob_of (mk_2 _)) (Nat.le_of_ble_eq_true rfl) (hV  ) ?_
  show Bod _ _ _ _ [] _ _ _
  refine Bod.go dc_142_111 rfl ?_
  refine Bod.go dc_142_112 rfl ?_
  refine Bod.virt (r := []) dc_142_114 kr_142_80 ⟨Or.inl rfl, ow_146, cl_2⟩ (by rw [np_146]; rfl) (by rw [np_146]; rfl) (ob_of (mk_2 _)) (Nat.le_of_ble_eq_true rfl) (hR  ) ?_
  show Bod _ _ _ _ [] _ _ _
  refine Bod.incN (turn + 1) (by rw [kc_1, nI_add]) dc_142_117 (by rw [ml_142]; exact Nat.le_of_ble_eq_true rfl) rfl ?_
  refine Bod.go dc_142_120 rfl ?_
  rw [sm_p1_4 (by decide) _ rfl rfl]
  exact hn
theorem rel_out {d k a0 turn : Nat} {x : Int32} {S : cS} (ht : turn ≤ 1500) (hm : sI S 216 = nI 0) : Bod (d + 2) 142 59 (sm_p1 (sm_p1 (lv_args 0 [.ref 2, .ref a0, .int (nI k)]) 4 (.int x)) 3 (.int (nI turn))) [] S none S := by
  refine Bod.go dc_142_59 rfl ?_
  refine Bod.sip 1500 (by decide) dc_142_60 ?_
  refine Bod.icF dc_142_63 rfl (k2_gt_F turn 1500 rfl rfl (by omega) (by omega)) ?_
  refine Bod.go dc_142_66 rfl ?_
  refine Bod.get dc_142_67 fr_142_73 (mk_2 _) rfl ?_
  refine Bod.eqI (nI 0) (by first | assumption | rfl | exact congrArg nI (by omega) | (simp (disch := omega) only [rI, rIe, rA, rIA, rLA, rJA, rVI, rQI, rVA, rQA, upd_at,  rAI, rLI, rJI, nI_add, pk_sub, kc_0, kc_1, kc_2, kc_3, kc_4, kc_5, reduceIte, Nat.reduceEqDiff, Nat.add_zero, rI_hold, rI_hold, rL_hold, hm]; done)) ?_
  refine Bod.ifT dc_142_70 rfl (k1_le_T (k_eq 0 0 (by first | assumption | rfl | exact congrArg nI (by omega) | (simp (disch := omega) only [rI, rIe, rA, rIA, rLA, rJA, rVI, rQI, rVA, rQA, upd_at,  rAI, rLI, rJI, nI_add, pk_sub, kc_0, kc_1, kc_2, kc_3, kc_4, kc_5, reduceIte, Nat.reduceEqDiff, Nat.add_zero, rI_hold, rI_hold, rL_hold, hm]; done)) rfl (by omega))) ?_
  exact Bod.retV dc_142_123 rt_142
theorem rel_stay4 {d : Nat} {S : cS} {k : Nat} {h : Nat} {m : Nat} {p : Nat} (h0 : 1 ≤ k) (hk : k ≤ 1500) (h_4 : sA S 4 k = nI (h + 1)) (h_5 : sA S 5 k = nI (m)) (h_6 : sA S 6 k = nI (p)) (hb : h + m + p < 2 ^ 30) (hs : 0 < h + m + p) : Ans (d + 2) 142 [.ref 2, .ref 4, .int (nI k)] S (none) (wA 4 k (nI h) S) := by
  refine Ans.of (by rw [ml_142]; exact Nat.le_of_ble_eq_true rfl) ?_
  refine Bod.go dc_142_0 rfl ?_
  refine Bod.stat (r := []) dc_142_1 kr_142_65 (Or.inl rfl) (by rw [np_139]; rfl) (by rw [np_139]; rfl) (by rw [np_139]; exact Nat.le_of_ble_eq_true rfl) (Nat.le_of_ble_eq_true rfl) (isId_T (k := k) (by omega) (by omega)) ?_
  show Bod _ _ _ _ [_] _ _ _
  refine Bod.ifF dc_142_4 rfl (k1_eq_F (k_ne 1 0 rfl rfl (by omega) (by omega) (by omega))) ?_
  refine Bod.go dc_142_7 rfl ?_
  refine Bod.go dc_142_8 rfl ?_
  refine Bod.alenN dc_142_9 (mk_4 _) (by decide +kernel) ?_
  refine Bod.icT dc_142_10 rfl (k2_lt_T k 1501 rfl rfl (by omega) (by omega)) ?_
  refine Bod.go dc_142_14 rfl ?_
  refine Bod.go dc_142_15 rfl ?_
  refine Bod.go dc_142_16 rfl ?_
  refine Bod.ialdN k rfl (by omega) (by omega) dc_142_17 (mk_4 _) ?_
  refine Bod.eqI (nI (h + 1)) (by first | assumption | rfl | exact congrArg nI (by omega) | (simp (disch := omega) only [rI, rIe, rA, rIA, rLA, rJA, rVI, rQI, rVA, rQA, upd_at,  rAI, rLI, rJI, nI_add, pk_sub, kc_0, kc_1, kc_2, kc_3, kc_4, kc_5, reduceIte, Nat.reduceEqDiff, Nat.add_zero, rI_hold, rI_hold, rL_hold, h_4, h_5, h_6]; done)) ?_
  refine Bod.ic 1 (by decide) dc_142_18 ?_
  refine Bod.subN h (by omega) (by omega) dc_142_19 ?_
  refine Bod.iastN k rfl (by omega) (by omega) dc_142_20 (mk_4 _) (sa_4 _ _ _) (mu_A _ _ _ _) ?_
  refine Bod.go dc_142_21 rfl ?_
  refine Bod.get dc_142_22 fr_142_15 (mk_2 _) rfl ?_
  refine Bod.go dc_142_25 rfl ?_
  refine Bod.ialdN k rfl (by omega) (by omega) dc_142_26 (mk_4 _) ?_
  refine Bod.eqI (nI h) (by first | (simp (disch := omega) only [rI, rIe, rA, rIA, rLA, rJA, rVI, rQI, rVA, rQA, upd_at,  rAI, rLI, rJI, nI_add, pk_sub, kc_0, kc_1, kc_2, kc_3, kc_4, kc_5, reduceIte, Nat.reduceEqDiff, Nat.add_zero, rI_hold, rI_hold, rL_hold, h_4, h_5, h_6]; done) | (simp (disch := omega) only [rI, rIe, rA, rIA, rLA, rJA, rVI, rQI, rVA, rQA, upd_at,  rAI, rLI, rJI, nI_add, pk_sub, kc_0, kc_1, kc_2, kc_3, kc_4, kc_5, reduceIte, Nat.reduceEqDiff, Nat.add_zero, rI_hold, rI_hold, rL_hold, h_4, h_5, h_6]; exact congrArg nI (by omega))) ?_
  refine Bod.go dc_142_27 rfl ?_
  refine Bod.get dc_142_28 fr_142_18 (mk_2 _) rfl ?_
  refine Bod.go dc_142_31 rfl ?_
  refine Bod.ialdN k rfl (by omega) (by omega) dc_142_32 (mk_5 _) ?_
  refine Bod.eqI (nI m) (by first | (simp (disch := omega) only [rI, rIe, rA, rIA, rLA, rJA, rVI, rQI, rVA, rQA, upd_at,  rAI, rLI, rJI, nI_add, pk_sub, kc_0, kc_1, kc_2, kc_3, kc_4, kc_5, reduceIte, Nat.reduceEqDiff, Nat.add_zero, rI_hold, rI_hold, rL_hold, h_4, h_5, h_6]; done) | (simp (disch := omega) only [rI, rIe, rA, rIA, rLA, rJA, rVI, rQI, rVA, rQA, upd_at,  rAI, rLI, rJI, nI_add, pk_sub, kc_0, kc_1, kc_2, kc_3, kc_4, kc_5, reduceIte, Nat.reduceEqDiff, Nat.add_zero, rI_hold, rI_hold, rL_hold, h_4, h_5, h_6]; exact congrArg nI (by omega))) ?_
  refine Bod.addN (h + m) (by omega) dc_142_33 ?_
  refine Bod.go dc_142_34 rfl ?_
  refine Bod.get dc_142_35 fr_142_21 (mk_2 _) rfl ?_
  refine Bod.go dc_142_38 rfl ?_
  refine Bod.ialdN k rfl (by omega) (by omega) dc_142_39 (mk_6 _) ?_
  refine Bod.eqI (nI p) (by first | (simp (disch := omega) only [rI, rIe, rA, rIA, rLA, rJA, rVI, rQI, rVA, rQA, upd_at,  rAI, rLI, rJI, nI_add, pk_sub, kc_0, kc_1, kc_2, kc_3, kc_4, kc_5, reduceIte, Nat.reduceEqDiff, Nat.add_zero, rI_hold, rI_hold, rL_hold, h_4, h_5, h_6]; done) | (simp (disch := omega) only [rI, rIe, rA, rIA, rLA, rJA, rVI, rQI, rVA, rQA, upd_at,  rAI, rLI, rJI, nI_add, pk_sub, kc_0, kc_1, kc_2, kc_3, kc_4, kc_5, reduceIte, Nat.reduceEqDiff, Nat.add_zero, rI_hold, rI_hold, rL_hold, h_4, h_5, h_6]; exact congrArg nI (by omega))) ?_
  refine Bod.addN (h + m + p) (by omega) dc_142_40 ?_
  refine Bod.ifF dc_142_41 rfl (k1_le_F (h + m + p) rfl (by omega) (by omega)) ?_
  exact Bod.retV dc_142_44 rt_142
theorem rel_04 {d : Nat} {S : cS}   : Ans (d + 2) 142 [.ref 2, .ref 4, .int (nI 0)] S (none) (S) := by
  refine Ans.of (by rw [ml_142]; exact Nat.le_of_ble_eq_true rfl) ?_
  refine Bod.go dc_142_0 rfl ?_
  refine Bod.stat (r := []) dc_142_1 kr_142_65 (Or.inl rfl) (by rw [np_139]; rfl) (by rw [np_139]; rfl) (by rw [np_139]; exact Nat.le_of_ble_eq_true rfl) (Nat.le_of_ble_eq_true rfl) (isId_0  ) ?_
  show Bod _ _ _ _ [_] _ _ _
  refine Bod.ifT dc_142_4 rfl (k1_eq_T (k_eq 0 0 rfl rfl (by omega))) ?_
  exact Bod.retV dc_142_13 rt_142
theorem rel_go4 {d k h m p : Nat} {S Sf : cS} (h0 : 1 ≤ k) (hk : k ≤ 1500) (h_4 : sA S 4 k = nI (h + 1)) (h_5 : sA S 5 k = nI (m)) (h_6 : sA S 6 k = nI (p)) (hb : h + m + p < 2 ^ 30) (hs : h + m + p = 0) (hn : Bod (d + 2) 142 59 (sm_p1 (lv_args 0 [.ref 2, .ref 4, .int (nI k)]) 3 (.int (nI 0))) [] (wI 216 (nI 1) (wA 14 0 (nI k) (wA 4 k (nI h) S))) none Sf) : Ans (d + 3) 142 [.ref 2, .ref 4, .int (nI k)] S none Sf := by
  refine Ans.of (by rw [ml_142]; exact Nat.le_of_ble_eq_true rfl) ?_
  refine Bod.go dc_142_0 rfl ?_
  refine Bod.stat (r := []) dc_142_1 kr_142_65 (Or.inl rfl) (by rw [np_139]; rfl) (by rw [np_139]; rfl) (by rw [np_139]; exact Nat.le_of_ble_eq_true rfl) (Nat.le_of_ble_eq_true rfl) (isId_T (k := k) (by omega) (by omega)) ?_
  show Bod _ _ _ _ [_] _ _ _
  refine Bod.ifF dc_142_4 rfl (k1_eq_F (k_ne 1 0 rfl rfl (by omega) (by omega) (by omega))) ?_
  refine Bod.go dc_142_7 rfl ?_
  refine Bod.go dc_142_8 rfl ?_
  refine Bod.alenN dc_142_9 (mk_4 _) (by decide +kernel) ?_
  refine Bod.icT dc_142_10 rfl (k2_lt_T k 1501 rfl rfl (by omega) (by omega)) ?_
  refine Bod.go dc_142_14 rfl ?_
  refine Bod.go dc_142_15 rfl ?_
  refine Bod.go dc_142_16 rfl ?_
  refine Bod.ialdN k rfl (by omega) (by omega) dc_142_17 (mk_4 _) ?_
  refine Bod.eqI (nI (h + 1)) (by first | assumption | rfl | exact congrArg nI (by omega) | (simp (disch := omega) only [rI, rIe, rA, rIA, rLA, rJA, rVI, rQI, rVA, rQA, upd_at,  rAI, rLI, rJI, nI_add, pk_sub, kc_0, kc_1, kc_2, kc_3, kc_4, kc_5, reduceIte, Nat.reduceEqDiff, Nat.add_zero, rI_hold, rI_hold, rL_hold, h_4, h_5, h_6]; done)) ?_
  refine Bod.ic 1 (by decide) dc_142_18 ?_
  refine Bod.subN h (by omega) (by omega) dc_142_19 ?_
  refine Bod.iastN k rfl (by omega) (by omega) dc_142_20 (mk_4 _) (sa_4 _ _ _) (mu_A _ _ _ _) ?_
  refine Bod.go dc_142_21 rfl ?_
  refine Bod.get dc_142_22 fr_142_15 (mk_2 _) rfl ?_
  refine Bod.go dc_142_25 rfl ?_
  refine Bod.ialdN k rfl (by omega) (by omega) dc_142_26 (mk_4 _) ?_
  refine Bod.eqI (nI h) (by first | (simp (disch := omega) only [rI, rIe, rA, rIA, rLA, rJA, rVI, rQI, rVA, rQA, upd_at,  rAI, rLI, rJI, nI_add, pk_sub, kc_0, kc_1, kc_2, kc_3, kc_4, kc_5, reduceIte, Nat.reduceEqDiff, Nat.add_zero, rI_hold, rI_hold, rL_hold, h_4, h_5, h_6]; done) | (simp (disch := omega) only [rI, rIe, rA, rIA, rLA, rJA, rVI, rQI, rVA, rQA, upd_at,  rAI, rLI, rJI, nI_add, pk_sub, kc_0, kc_1, kc_2, kc_3, kc_4, kc_5, reduceIte, Nat.reduceEqDiff, Nat.add_zero, rI_hold, rI_hold, rL_hold, h_4, h_5, h_6]; exact congrArg nI (by omega))) ?_
  refine Bod.go dc_142_27 rfl ?_
  refine Bod.get dc_142_28 fr_142_18 (mk_2 _) rfl ?_
  refine Bod.go dc_142_31 rfl ?_
  refine Bod.ialdN k rfl (by omega) (by omega) dc_142_32 (mk_5 _) ?_
  refine Bod.eqI (nI m) (by first | (simp (disch := omega) only [rI, rIe, rA, rIA, rLA, rJA, rVI, rQI, rVA, rQA, upd_at,  rAI, rLI, rJI, nI_add, pk_sub, kc_0, kc_1, kc_2, kc_3, kc_4, kc_5, reduceIte, Nat.reduceEqDiff, Nat.add_zero, rI_hold, rI_hold, rL_hold, h_4, h_5, h_6]; done) | (simp (disch := omega) only [rI, rIe, rA, rIA, rLA, rJA, rVI, rQI, rVA, rQA, upd_at,  rAI, rLI, rJI, nI_add, pk_sub, kc_0, kc_1, kc_2, kc_3, kc_4, kc_5, reduceIte, Nat.reduceEqDiff, Nat.add_zero, rI_hold, rI_hold, rL_hold, h_4, h_5, h_6]; exact congrArg nI (by omega))) ?_
  refine Bod.addN (h + m) (by omega) dc_142_33 ?_
  refine Bod.go dc_142_34 rfl ?_
  refine Bod.get dc_142_35 fr_142_21 (mk_2 _) rfl ?_
  refine Bod.go dc_142_38 rfl ?_
  refine Bod.ialdN k rfl (by omega) (by omega) dc_142_39 (mk_6 _) ?_
  refine Bod.eqI (nI p) (by first | (simp (disch := omega) only [rI, rIe, rA, rIA, rLA, rJA, rVI, rQI, rVA, rQA, upd_at,  rAI, rLI, rJI, nI_add, pk_sub, kc_0, kc_1, kc_2, kc_3, kc_4, kc_5, reduceIte, Nat.reduceEqDiff, Nat.add_zero, rI_hold, rI_hold, rL_hold, h_4, h_5, h_6]; done) | (simp (disch := omega) only [rI, rIe, rA, rIA, rLA, rJA, rVI, rQI, rVA, rQA, upd_at,  rAI, rLI, rJI, nI_add, pk_sub, kc_0, kc_1, kc_2, kc_3, kc_4, kc_5, reduceIte, Nat.reduceEqDiff, Nat.add_zero, rI_hold, rI_hold, rL_hold, h_4, h_5, h_6]; exact congrArg nI (by omega))) ?_
  refine Bod.addN (h + m + p) (by omega) dc_142_40 ?_
  refine Bod.ifT dc_142_41 rfl (k1_le_T (k_eq (h + m + p) 0 (by first | (simp (disch := omega) only [rI, rIe, rA, rIA, rLA, rJA, rVI, rQI, rVA, rQA, upd_at,  rAI, rLI, rJI, nI_add, pk_sub, kc_0, kc_1, kc_2, kc_3, kc_4, kc_5, reduceIte, Nat.reduceEqDiff, Nat.add_zero, rI_hold, rI_hold, rL_hold, h_4, h_5, h_6]; done) | (simp (disch := omega) only [rI, rIe, rA, rIA, rLA, rJA, rVI, rQI, rVA, rQA, upd_at,  rAI, rLI, rJI, nI_add, pk_sub, kc_0, kc_1, kc_2, kc_3, kc_4, kc_5, reduceIte, Nat.reduceEqDiff, Nat.add_zero, rI_hold, rI_hold, rL_hold, h_4, h_5, h_6]; exact congrArg nI (by omega))) rfl (by omega))) ?_
  refine Bod.go dc_142_45 rfl ?_
  refine Bod.get dc_142_46 fr_142_48 (mk_2 _) rfl ?_
  refine Bod.ic 0 (by decide) dc_142_49 ?_
  refine Bod.go dc_142_50 rfl ?_
  refine Bod.iastN 0 rfl (by omega) (by omega) dc_142_51 (mk_14 _) (sa_14 _ _ _) (mu_A _ _ _ _) ?_
  refine Bod.go dc_142_52 rfl ?_
  refine Bod.ic 1 (by decide) dc_142_53 ?_
  refine Bod.put dc_142_54 fr_142_73 (mk_2 _) (Nat.le_of_ble_eq_true rfl) pf_2_16 (st_216 _ _) (mu_I _ _ _) ?_
  refine Bod.ic 0 (by decide) dc_142_57 ?_
  refine Bod.istn dc_142_58 (by rw [ml_142]; exact Nat.le_of_ble_eq_true rfl) ?_
  exact hn
theorem rel_stay5 {d : Nat} {S : cS} {k : Nat} {h : Nat} {m : Nat} {p : Nat} (h0 : 1 ≤ k) (hk : k ≤ 1500) (h_4 : sA S 4 k = nI (h)) (h_5 : sA S 5 k = nI (m + 1)) (h_6 : sA S 6 k = nI (p)) (hb : h + m + p < 2 ^ 30) (hs : 0 < h + m + p) : Ans (d + 2) 142 [.ref 2, .ref 5, .int (nI k)] S (none) (wA 5 k (nI m) S) := by
  refine Ans.of (by rw [ml_142]; exact Nat.le_of_ble_eq_true rfl) ?_
  refine Bod.go dc_142_0 rfl ?_
  refine Bod.stat (r := []) dc_142_1 kr_142_65 (Or.inl rfl) (by rw [np_139]; rfl) (by rw [np_139]; rfl) (by rw [np_139]; exact Nat.le_of_ble_eq_true rfl) (Nat.le_of_ble_eq_true rfl) (isId_T (k := k) (by omega) (by omega)) ?_
  show Bod _ _ _ _ [_] _ _ _
  refine Bod.ifF dc_142_4 rfl (k1_eq_F (k_ne 1 0 rfl rfl (by omega) (by omega) (by omega))) ?_
  refine Bod.go dc_142_7 rfl ?_
  refine Bod.go dc_142_8 rfl ?_
  refine Bod.alenN dc_142_9 (mk_5 _) (by decide +kernel) ?_
  refine Bod.icT dc_142_10 rfl (k2_lt_T k 1501 rfl rfl (by omega) (by omega)) ?_
  refine Bod.go dc_142_14 rfl ?_
  refine Bod.go dc_142_15 rfl ?_
  refine Bod.go dc_142_16 rfl ?_
  refine Bod.ialdN k rfl (by omega) (by omega) dc_142_17 (mk_5 _) ?_
  refine Bod.eqI (nI (m + 1)) (by first | assumption | rfl | exact congrArg nI (by omega) | (simp (disch := omega) only [rI, rIe, rA, rIA, rLA, rJA, rVI, rQI, rVA, rQA, upd_at,  rAI, rLI, rJI, nI_add, pk_sub, kc_0, kc_1, kc_2, kc_3, kc_4, kc_5, reduceIte, Nat.reduceEqDiff, Nat.add_zero, rI_hold, rI_hold, rL_hold, h_4, h_5, h_6]; done)) ?_
  refine Bod.ic 1 (by decide) dc_142_18 ?_
  refine Bod.subN m (by omega) (by omega) dc_142_19 ?_
  refine Bod.iastN k rfl (by omega) (by omega) dc_142_20 (mk_5 _) (sa_5 _ _ _) (mu_A _ _ _ _) ?_
  refine Bod.go dc_142_21 rfl ?_
  refine Bod.get dc_142_22 fr_142_15 (mk_2 _) rfl ?_
  refine Bod.go dc_142_25 rfl ?_
  refine Bod.ialdN k rfl (by omega) (by omega) dc_142_26 (mk_4 _) ?_
  refine Bod.eqI (nI h) (by first | (simp (disch := omega) only [rI, rIe, rA, rIA, rLA, rJA, rVI, rQI, rVA, rQA, upd_at,  rAI, rLI, rJI, nI_add, pk_sub, kc_0, kc_1, kc_2, kc_3, kc_4, kc_5, reduceIte, Nat.reduceEqDiff, Nat.add_zero, rI_hold, rI_hold, rL_hold, h_4, h_5, h_6]; done) | (simp (disch := omega) only [rI, rIe, rA, rIA, rLA, rJA, rVI, rQI, rVA, rQA, upd_at,  rAI, rLI, rJI, nI_add, pk_sub, kc_0, kc_1, kc_2, kc_3, kc_4, kc_5, reduceIte, Nat.reduceEqDiff, Nat.add_zero, rI_hold, rI_hold, rL_hold, h_4, h_5, h_6]; exact congrArg nI (by omega))) ?_
  refine Bod.go dc_142_27 rfl ?_
  refine Bod.get dc_142_28 fr_142_18 (mk_2 _) rfl ?_
  refine Bod.go dc_142_31 rfl ?_
  refine Bod.ialdN k rfl (by omega) (by omega) dc_142_32 (mk_5 _) ?_
  refine Bod.eqI (nI m) (by first | (simp (disch := omega) only [rI, rIe, rA, rIA, rLA, rJA, rVI, rQI, rVA, rQA, upd_at,  rAI, rLI, rJI, nI_add, pk_sub, kc_0, kc_1, kc_2, kc_3, kc_4, kc_5, reduceIte, Nat.reduceEqDiff, Nat.add_zero, rI_hold, rI_hold, rL_hold, h_4, h_5, h_6]; done) | (simp (disch := omega) only [rI, rIe, rA, rIA, rLA, rJA, rVI, rQI, rVA, rQA, upd_at,  rAI, rLI, rJI, nI_add, pk_sub, kc_0, kc_1, kc_2, kc_3, kc_4, kc_5, reduceIte, Nat.reduceEqDiff, Nat.add_zero, rI_hold, rI_hold, rL_hold, h_4, h_5, h_6]; exact congrArg nI (by omega))) ?_
  refine Bod.addN (h + m) (by omega) dc_142_33 ?_
  refine Bod.go dc_142_34 rfl ?_
  refine Bod.get dc_142_35 fr_142_21 (mk_2 _) rfl ?_
  refine Bod.go dc_142_38 rfl ?_
  refine Bod.ialdN k rfl (by omega) (by omega) dc_142_39 (mk_6 _) ?_
  refine Bod.eqI (nI p) (by first | (simp (disch := omega) only [rI, rIe, rA, rIA, rLA, rJA, rVI, rQI, rVA, rQA, upd_at,  rAI, rLI, rJI, nI_add, pk_sub, kc_0, kc_1, kc_2, kc_3, kc_4, kc_5, reduceIte, Nat.reduceEqDiff, Nat.add_zero, rI_hold, rI_hold, rL_hold, h_4, h_5, h_6]; done) | (simp (disch := omega) only [rI, rIe, rA, rIA, rLA, rJA, rVI, rQI, rVA, rQA, upd_at,  rAI, rLI, rJI, nI_add, pk_sub, kc_0, kc_1, kc_2, kc_3, kc_4, kc_5, reduceIte, Nat.reduceEqDiff, Nat.add_zero, rI_hold, rI_hold, rL_hold, h_4, h_5, h_6]; exact congrArg nI (by omega))) ?_
  refine Bod.addN (h + m + p) (by omega) dc_142_40 ?_
  refine Bod.ifF dc_142_41 rfl (k1_le_F (h + m + p) rfl (by omega) (by omega)) ?_
  exact Bod.retV dc_142_44 rt_142
theorem rel_05 {d : Nat} {S : cS}   : Ans (d + 2) 142 [.ref 2, .ref 5, .int (nI 0)] S (none) (S) := by
  refine Ans.of (by rw [ml_142]; exact Nat.le_of_ble_eq_true rfl) ?_
  refine Bod.go dc_142_0 rfl ?_
  refine Bod.stat (r := []) dc_142_1 kr_142_65 (Or.inl rfl) (by rw [np_139]; rfl) (by rw [np_139]; rfl) (by rw [np_139]; exact Nat.le_of_ble_eq_true rfl) (Nat.le_of_ble_eq_true rfl) (isId_0  ) ?_
  show Bod _ _ _ _ [_] _ _ _
  refine Bod.ifT dc_142_4 rfl (k1_eq_T (k_eq 0 0 rfl rfl (by omega))) ?_
  exact Bod.retV dc_142_13 rt_142
theorem rel_go5 {d k h m p : Nat} {S Sf : cS} (h0 : 1 ≤ k) (hk : k ≤ 1500) (h_4 : sA S 4 k = nI (h)) (h_5 : sA S 5 k = nI (m + 1)) (h_6 : sA S 6 k = nI (p)) (hb : h + m + p < 2 ^ 30) (hs : h + m + p = 0) (hn : Bod (d + 2) 142 59 (sm_p1 (lv_args 0 [.ref 2, .ref 5, .int (nI k)]) 3 (.int (nI 0))) [] (wI 216 (nI 1) (wA 14 0 (nI k) (wA 5 k (nI m) S))) none Sf) : Ans (d + 3) 142 [.ref 2, .ref 5, .int (nI k)] S none Sf := by
  refine Ans.of (by rw [ml_142]; exact Nat.le_of_ble_eq_true rfl) ?_
  refine Bod.go dc_142_0 rfl ?_
  refine Bod.stat (r := []) dc_142_1 kr_142_65 (Or.inl rfl) (by rw [np_139]; rfl) (by rw [np_139]; rfl) (by rw [np_139]; exact Nat.le_of_ble_eq_true rfl) (Nat.le_of_ble_eq_true rfl) (isId_T (k := k) (by omega) (by omega)) ?_
  show Bod _ _ _ _ [_] _ _ _
  refine Bod.ifF dc_142_4 rfl (k1_eq_F (k_ne 1 0 rfl rfl (by omega) (by omega) (by omega))) ?_
  refine Bod.go dc_142_7 rfl ?_
  refine Bod.go dc_142_8 rfl ?_
  refine Bod.alenN dc_142_9 (mk_5 _) (by decide +kernel) ?_
  refine Bod.icT dc_142_10 rfl (k2_lt_T k 1501 rfl rfl (by omega) (by omega)) ?_
  refine Bod.go dc_142_14 rfl ?_
  refine Bod.go dc_142_15 rfl ?_
  refine Bod.go dc_142_16 rfl ?_
  refine Bod.ialdN k rfl (by omega) (by omega) dc_142_17 (mk_5 _) ?_
  refine Bod.eqI (nI (m + 1)) (by first | assumption | rfl | exact congrArg nI (by omega) | (simp (disch := omega) only [rI, rIe, rA, rIA, rLA, rJA, rVI, rQI, rVA, rQA, upd_at,  rAI, rLI, rJI, nI_add, pk_sub, kc_0, kc_1, kc_2, kc_3, kc_4, kc_5, reduceIte, Nat.reduceEqDiff, Nat.add_zero, rI_hold, rI_hold, rL_hold, h_4, h_5, h_6]; done)) ?_
  refine Bod.ic 1 (by decide) dc_142_18 ?_
  refine Bod.subN m (by omega) (by omega) dc_142_19 ?_
  refine Bod.iastN k rfl (by omega) (by omega) dc_142_20 (mk_5 _) (sa_5 _ _ _) (mu_A _ _ _ _) ?_
  refine Bod.go dc_142_21 rfl ?_
  refine Bod.get dc_142_22 fr_142_15 (mk_2 _) rfl ?_
  refine Bod.go dc_142_25 rfl ?_
  refine Bod.ialdN k rfl (by omega) (by omega) dc_142_26 (mk_4 _) ?_
  refine Bod.eqI (nI h) (by first | (simp (disch := omega) only [rI, rIe, rA, rIA, rLA, rJA, rVI, rQI, rVA, rQA, upd_at,  rAI, rLI, rJI, nI_add, pk_sub, kc_0, kc_1, kc_2, kc_3, kc_4, kc_5, reduceIte, Nat.reduceEqDiff, Nat.add_zero, rI_hold, rI_hold, rL_hold, h_4, h_5, h_6]; done) | (simp (disch := omega) only [rI, rIe, rA, rIA, rLA, rJA, rVI, rQI, rVA, rQA, upd_at,  rAI, rLI, rJI, nI_add, pk_sub, kc_0, kc_1, kc_2, kc_3, kc_4, kc_5, reduceIte, Nat.reduceEqDiff, Nat.add_zero, rI_hold, rI_hold, rL_hold, h_4, h_5, h_6]; exact congrArg nI (by omega))) ?_
  refine Bod.go dc_142_27 rfl ?_
  refine Bod.get dc_142_28 fr_142_18 (mk_2 _) rfl ?_
  refine Bod.go dc_142_31 rfl ?_
  refine Bod.ialdN k rfl (by omega) (by omega) dc_142_32 (mk_5 _) ?_
  refine Bod.eqI (nI m) (by first | (simp (disch := omega) only [rI, rIe, rA, rIA, rLA, rJA, rVI, rQI, rVA, rQA, upd_at,  rAI, rLI, rJI, nI_add, pk_sub, kc_0, kc_1, kc_2, kc_3, kc_4, kc_5, reduceIte, Nat.reduceEqDiff, Nat.add_zero, rI_hold, rI_hold, rL_hold, h_4, h_5, h_6]; done) | (simp (disch := omega) only [rI, rIe, rA, rIA, rLA, rJA, rVI, rQI, rVA, rQA, upd_at,  rAI, rLI, rJI, nI_add, pk_sub, kc_0, kc_1, kc_2, kc_3, kc_4, kc_5, reduceIte, Nat.reduceEqDiff, Nat.add_zero, rI_hold, rI_hold, rL_hold, h_4, h_5, h_6]; exact congrArg nI (by omega))) ?_
  refine Bod.addN (h + m) (by omega) dc_142_33 ?_
  refine Bod.go dc_142_34 rfl ?_
  refine Bod.get dc_142_35 fr_142_21 (mk_2 _) rfl ?_
  refine Bod.go dc_142_38 rfl ?_
  refine Bod.ialdN k rfl (by omega) (by omega) dc_142_39 (mk_6 _) ?_
  refine Bod.eqI (nI p) (by first | (simp (disch := omega) only [rI, rIe, rA, rIA, rLA, rJA, rVI, rQI, rVA, rQA, upd_at,  rAI, rLI, rJI, nI_add, pk_sub, kc_0, kc_1, kc_2, kc_3, kc_4, kc_5, reduceIte, Nat.reduceEqDiff, Nat.add_zero, rI_hold, rI_hold, rL_hold, h_4, h_5, h_6]; done) | (simp (disch := omega) only [rI, rIe, rA, rIA, rLA, rJA, rVI, rQI, rVA, rQA, upd_at,  rAI, rLI, rJI, nI_add, pk_sub, kc_0, kc_1, kc_2, kc_3, kc_4, kc_5, reduceIte, Nat.reduceEqDiff, Nat.add_zero, rI_hold, rI_hold, rL_hold, h_4, h_5, h_6]; exact congrArg nI (by omega))) ?_
  refine Bod.addN (h + m + p) (by omega) dc_142_40 ?_
  refine Bod.ifT dc_142_41 rfl (k1_le_T (k_eq (h + m + p) 0 (by first | (simp (disch := omega) only [rI, rIe, rA, rIA, rLA, rJA, rVI, rQI, rVA, rQA, upd_at,  rAI, rLI, rJI, nI_add, pk_sub, kc_0, kc_1, kc_2, kc_3, kc_4, kc_5, reduceIte, Nat.reduceEqDiff, Nat.add_zero, rI_hold, rI_hold, rL_hold, h_4, h_5, h_6]; done) | (simp (disch := omega) only [rI, rIe, rA, rIA, rLA, rJA, rVI, rQI, rVA, rQA, upd_at,  rAI, rLI, rJI, nI_add, pk_sub, kc_0, kc_1, kc_2, kc_3, kc_4, kc_5, reduceIte, Nat.reduceEqDiff, Nat.add_zero, rI_hold, rI_hold, rL_hold, h_4, h_5, h_6]; exact congrArg nI (by omega))) rfl (by omega))) ?_
  refine Bod.go dc_142_45 rfl ?_
  refine Bod.get dc_142_46 fr_142_48 (mk_2 _) rfl ?_
  refine Bod.ic 0 (by decide) dc_142_49 ?_
  refine Bod.go dc_142_50 rfl ?_
  refine Bod.iastN 0 rfl (by omega) (by omega) dc_142_51 (mk_14 _) (sa_14 _ _ _) (mu_A _ _ _ _) ?_
  refine Bod.go dc_142_52 rfl ?_
  refine Bod.ic 1 (by decide) dc_142_53 ?_
  refine Bod.put dc_142_54 fr_142_73 (mk_2 _) (Nat.le_of_ble_eq_true rfl) pf_2_16 (st_216 _ _) (mu_I _ _ _) ?_
  refine Bod.ic 0 (by decide) dc_142_57 ?_
  refine Bod.istn dc_142_58 (by rw [ml_142]; exact Nat.le_of_ble_eq_true rfl) ?_
  exact hn
theorem rel_stay6 {d : Nat} {S : cS} {k : Nat} {h : Nat} {m : Nat} {p : Nat} (h0 : 1 ≤ k) (hk : k ≤ 1500) (h_4 : sA S 4 k = nI (h)) (h_5 : sA S 5 k = nI (m)) (h_6 : sA S 6 k = nI (p + 1)) (hb : h + m + p < 2 ^ 30) (hs : 0 < h + m + p) : Ans (d + 2) 142 [.ref 2, .ref 6, .int (nI k)] S (none) (wA 6 k (nI p) S) := by
  refine Ans.of (by rw [ml_142]; exact Nat.le_of_ble_eq_true rfl) ?_
  refine Bod.go dc_142_0 rfl ?_
  refine Bod.stat (r := []) dc_142_1 kr_142_65 (Or.inl rfl) (by rw [np_139]; rfl) (by rw [np_139]; rfl) (by rw [np_139]; exact Nat.le_of_ble_eq_true rfl) (Nat.le_of_ble_eq_true rfl) (isId_T (k := k) (by omega) (by omega)) ?_
  show Bod _ _ _ _ [_] _ _ _
  refine Bod.ifF dc_142_4 rfl (k1_eq_F (k_ne 1 0 rfl rfl (by omega) (by omega) (by omega))) ?_
  refine Bod.go dc_142_7 rfl ?_
  refine Bod.go dc_142_8 rfl ?_
  refine Bod.alenN dc_142_9 (mk_6 _) (by decide +kernel) ?_
  refine Bod.icT dc_142_10 rfl (k2_lt_T k 1501 rfl rfl (by omega) (by omega)) ?_
  refine Bod.go dc_142_14 rfl ?_
  refine Bod.go dc_142_15 rfl ?_
  refine Bod.go dc_142_16 rfl ?_
  refine Bod.ialdN k rfl (by omega) (by omega) dc_142_17 (mk_6 _) ?_
  refine Bod.eqI (nI (p + 1)) (by first | assumption | rfl | exact congrArg nI (by omega) | (simp (disch := omega) only [rI, rIe, rA, rIA, rLA, rJA, rVI, rQI, rVA, rQA, upd_at,  rAI, rLI, rJI, nI_add, pk_sub, kc_0, kc_1, kc_2, kc_3, kc_4, kc_5, reduceIte, Nat.reduceEqDiff, Nat.add_zero, rI_hold, rI_hold, rL_hold, h_4, h_5, h_6]; done)) ?_
  refine Bod.ic 1 (by decide) dc_142_18 ?_
  refine Bod.subN p (by omega) (by omega) dc_142_19 ?_
  refine Bod.iastN k rfl (by omega) (by omega) dc_142_20 (mk_6 _) (sa_6 _ _ _) (mu_A _ _ _ _) ?_
  refine Bod.go dc_142_21 rfl ?_
  refine Bod.get dc_142_22 fr_142_15 (mk_2 _) rfl ?_
  refine Bod.go dc_142_25 rfl ?_
  refine Bod.ialdN k rfl (by omega) (by omega) dc_142_26 (mk_4 _) ?_
  refine Bod.eqI (nI h) (by first | (simp (disch := omega) only [rI, rIe, rA, rIA, rLA, rJA, rVI, rQI, rVA, rQA, upd_at,  rAI, rLI, rJI, nI_add, pk_sub, kc_0, kc_1, kc_2, kc_3, kc_4, kc_5, reduceIte, Nat.reduceEqDiff, Nat.add_zero, rI_hold, rI_hold, rL_hold, h_4, h_5, h_6]; done) | (simp (disch := omega) only [rI, rIe, rA, rIA, rLA, rJA, rVI, rQI, rVA, rQA, upd_at,  rAI, rLI, rJI, nI_add, pk_sub, kc_0, kc_1, kc_2, kc_3, kc_4, kc_5, reduceIte, Nat.reduceEqDiff, Nat.add_zero, rI_hold, rI_hold, rL_hold, h_4, h_5, h_6]; exact congrArg nI (by omega))) ?_
  refine Bod.go dc_142_27 rfl ?_
  refine Bod.get dc_142_28 fr_142_18 (mk_2 _) rfl ?_
  refine Bod.go dc_142_31 rfl ?_
  refine Bod.ialdN k rfl (by omega) (by omega) dc_142_32 (mk_5 _) ?_
  refine Bod.eqI (nI m) (by first | (simp (disch := omega) only [rI, rIe, rA, rIA, rLA, rJA, rVI, rQI, rVA, rQA, upd_at,  rAI, rLI, rJI, nI_add, pk_sub, kc_0, kc_1, kc_2, kc_3, kc_4, kc_5, reduceIte, Nat.reduceEqDiff, Nat.add_zero, rI_hold, rI_hold, rL_hold, h_4, h_5, h_6]; done) | (simp (disch := omega) only [rI, rIe, rA, rIA, rLA, rJA, rVI, rQI, rVA, rQA, upd_at,  rAI, rLI, rJI, nI_add, pk_sub, kc_0, kc_1, kc_2, kc_3, kc_4, kc_5, reduceIte, Nat.reduceEqDiff, Nat.add_zero, rI_hold, rI_hold, rL_hold, h_4, h_5, h_6]; exact congrArg nI (by omega))) ?_
  refine Bod.addN (h + m) (by omega) dc_142_33 ?_
  refine Bod.go dc_142_34 rfl ?_
  refine Bod.get dc_142_35 fr_142_21 (mk_2 _) rfl ?_
  refine Bod.go dc_142_38 rfl ?_
  refine Bod.ialdN k rfl (by omega) (by omega) dc_142_39 (mk_6 _) ?_
  refine Bod.eqI (nI p) (by first | (simp (disch := omega) only [rI, rIe, rA, rIA, rLA, rJA, rVI, rQI, rVA, rQA, upd_at,  rAI, rLI, rJI, nI_add, pk_sub, kc_0, kc_1, kc_2, kc_3, kc_4, kc_5, reduceIte, Nat.reduceEqDiff, Nat.add_zero, rI_hold, rI_hold, rL_hold, h_4, h_5, h_6]; done) | (simp (disch := omega) only [rI, rIe, rA, rIA, rLA, rJA, rVI, rQI, rVA, rQA, upd_at,  rAI, rLI, rJI, nI_add, pk_sub, kc_0, kc_1, kc_2, kc_3, kc_4, kc_5, reduceIte, Nat.reduceEqDiff, Nat.add_zero, rI_hold, rI_hold, rL_hold, h_4, h_5, h_6]; exact congrArg nI (by omega))) ?_
  refine Bod.addN (h + m + p) (by omega) dc_142_40 ?_
  refine Bod.ifF dc_142_41 rfl (k1_le_F (h + m + p) rfl (by omega) (by omega)) ?_
  exact Bod.retV dc_142_44 rt_142
theorem rel_06 {d : Nat} {S : cS}   : Ans (d + 2) 142 [.ref 2, .ref 6, .int (nI 0)] S (none) (S) := by
  refine Ans.of (by rw [ml_142]; exact Nat.le_of_ble_eq_true rfl) ?_
  refine Bod.go dc_142_0 rfl ?_
  refine Bod.stat (r := []) dc_142_1 kr_142_65 (Or.inl rfl) (by rw [np_139]; rfl) (by rw [np_139]; rfl) (by rw [np_139]; exact Nat.le_of_ble_eq_true rfl) (Nat.le_of_ble_eq_true rfl) (isId_0  ) ?_
  show Bod _ _ _ _ [_] _ _ _
  refine Bod.ifT dc_142_4 rfl (k1_eq_T (k_eq 0 0 rfl rfl (by omega))) ?_
  exact Bod.retV dc_142_13 rt_142
theorem rel_go6 {d k h m p : Nat} {S Sf : cS} (h0 : 1 ≤ k) (hk : k ≤ 1500) (h_4 : sA S 4 k = nI (h)) (h_5 : sA S 5 k = nI (m)) (h_6 : sA S 6 k = nI (p + 1)) (hb : h + m + p < 2 ^ 30) (hs : h + m + p = 0) (hn : Bod (d + 2) 142 59 (sm_p1 (lv_args 0 [.ref 2, .ref 6, .int (nI k)]) 3 (.int (nI 0))) [] (wI 216 (nI 1) (wA 14 0 (nI k) (wA 6 k (nI p) S))) none Sf) : Ans (d + 3) 142 [.ref 2, .ref 6, .int (nI k)] S none Sf := by
  refine Ans.of (by rw [ml_142]; exact Nat.le_of_ble_eq_true rfl) ?_
  refine Bod.go dc_142_0 rfl ?_
  refine Bod.stat (r := []) dc_142_1 kr_142_65 (Or.inl rfl) (by rw [np_139]; rfl) (by rw [np_139]; rfl) (by rw [np_139]; exact Nat.le_of_ble_eq_true rfl) (Nat.le_of_ble_eq_true rfl) (isId_T (k := k) (by omega) (by omega)) ?_
  show Bod _ _ _ _ [_] _ _ _
  refine Bod.ifF dc_142_4 rfl (k1_eq_F (k_ne 1 0 rfl rfl (by omega) (by omega) (by omega))) ?_
  refine Bod.go dc_142_7 rfl ?_
  refine Bod.go dc_142_8 rfl ?_
  refine Bod.alenN dc_142_9 (mk_6 _) (by decide +kernel) ?_
  refine Bod.icT dc_142_10 rfl (k2_lt_T k 1501 rfl rfl (by omega) (by omega)) ?_
  refine Bod.go dc_142_14 rfl ?_
  refine Bod.go dc_142_15 rfl ?_
  refine Bod.go dc_142_16 rfl ?_
  refine Bod.ialdN k rfl (by omega) (by omega) dc_142_17 (mk_6 _) ?_
  refine Bod.eqI (nI (p + 1)) (by first | assumption | rfl | exact congrArg nI (by omega) | (simp (disch := omega) only [rI, rIe, rA, rIA, rLA, rJA, rVI, rQI, rVA, rQA, upd_at,  rAI, rLI, rJI, nI_add, pk_sub, kc_0, kc_1, kc_2, kc_3, kc_4, kc_5, reduceIte, Nat.reduceEqDiff, Nat.add_zero, rI_hold, rI_hold, rL_hold, h_4, h_5, h_6]; done)) ?_
  refine Bod.ic 1 (by decide) dc_142_18 ?_
  refine Bod.subN p (by omega) (by omega) dc_142_19 ?_
  refine Bod.iastN k rfl (by omega) (by omega) dc_142_20 (mk_6 _) (sa_6 _ _ _) (mu_A _ _ _ _) ?_
  refine Bod.go dc_142_21 rfl ?_
  refine Bod.get dc_142_22 fr_142_15 (mk_2 _) rfl ?_
  refine Bod.go dc_142_25 rfl ?_
  refine Bod.ialdN k rfl (by omega) (by omega) dc_142_26 (mk_4 _) ?_
  refine Bod.eqI (nI h) (by first | (simp (disch := omega) only [rI, rIe, rA, rIA, rLA, rJA, rVI, rQI, rVA, rQA, upd_at,  rAI, rLI, rJI, nI_add, pk_sub, kc_0, kc_1, kc_2, kc_3, kc_4, kc_5, reduceIte, Nat.reduceEqDiff, Nat.add_zero, rI_hold, rI_hold, rL_hold, h_4, h_5, h_6]; done) | (simp (disch := omega) only [rI, rIe, rA, rIA, rLA, rJA, rVI, rQI, rVA, rQA, upd_at,  rAI, rLI, rJI, nI_add, pk_sub, kc_0, kc_1, kc_2, kc_3, kc_4, kc_5, reduceIte, Nat.reduceEqDiff, Nat.add_zero, rI_hold, rI_hold, rL_hold, h_4, h_5, h_6]; exact congrArg nI (by omega))) ?_
  refine Bod.go dc_142_27 rfl ?_
  refine Bod.get dc_142_28 fr_142_18 (mk_2 _) rfl ?_
  refine Bod.go dc_142_31 rfl ?_
  refine Bod.ialdN k rfl (by omega) (by omega) dc_142_32 (mk_5 _) ?_
  refine Bod.eqI (nI m) (by first | (simp (disch := omega) only [rI, rIe, rA, rIA, rLA, rJA, rVI, rQI, rVA, rQA, upd_at,  rAI, rLI, rJI, nI_add, pk_sub, kc_0, kc_1, kc_2, kc_3, kc_4, kc_5, reduceIte, Nat.reduceEqDiff, Nat.add_zero, rI_hold, rI_hold, rL_hold, h_4, h_5, h_6]; done) | (simp (disch := omega) only [rI, rIe, rA, rIA, rLA, rJA, rVI, rQI, rVA, rQA, upd_at,  rAI, rLI, rJI, nI_add, pk_sub, kc_0, kc_1, kc_2, kc_3, kc_4, kc_5, reduceIte, Nat.reduceEqDiff, Nat.add_zero, rI_hold, rI_hold, rL_hold, h_4, h_5, h_6]; exact congrArg nI (by omega))) ?_
  refine Bod.addN (h + m) (by omega) dc_142_33 ?_
  refine Bod.go dc_142_34 rfl ?_
  refine Bod.get dc_142_35 fr_142_21 (mk_2 _) rfl ?_
  refine Bod.go dc_142_38 rfl ?_
  refine Bod.ialdN k rfl (by omega) (by omega) dc_142_39 (mk_6 _) ?_
  refine Bod.eqI (nI p) (by first | (simp (disch := omega) only [rI, rIe, rA, rIA, rLA, rJA, rVI, rQI, rVA, rQA, upd_at,  rAI, rLI, rJI, nI_add, pk_sub, kc_0, kc_1, kc_2, kc_3, kc_4, kc_5, reduceIte, Nat.reduceEqDiff, Nat.add_zero, rI_hold, rI_hold, rL_hold, h_4, h_5, h_6]; done) | (simp (disch := omega) only [rI, rIe, rA, rIA, rLA, rJA, rVI, rQI, rVA, rQA, upd_at,  rAI, rLI, rJI, nI_add, pk_sub, kc_0, kc_1, kc_2, kc_3, kc_4, kc_5, reduceIte, Nat.reduceEqDiff, Nat.add_zero, rI_hold, rI_hold, rL_hold, h_4, h_5, h_6]; exact congrArg nI (by omega))) ?_
  refine Bod.addN (h + m + p) (by omega) dc_142_40 ?_
  refine Bod.ifT dc_142_41 rfl (k1_le_T (k_eq (h + m + p) 0 (by first | (simp (disch := omega) only [rI, rIe, rA, rIA, rLA, rJA, rVI, rQI, rVA, rQA, upd_at,  rAI, rLI, rJI, nI_add, pk_sub, kc_0, kc_1, kc_2, kc_3, kc_4, kc_5, reduceIte, Nat.reduceEqDiff, Nat.add_zero, rI_hold, rI_hold, rL_hold, h_4, h_5, h_6]; done) | (simp (disch := omega) only [rI, rIe, rA, rIA, rLA, rJA, rVI, rQI, rVA, rQA, upd_at,  rAI, rLI, rJI, nI_add, pk_sub, kc_0, kc_1, kc_2, kc_3, kc_4, kc_5, reduceIte, Nat.reduceEqDiff, Nat.add_zero, rI_hold, rI_hold, rL_hold, h_4, h_5, h_6]; exact congrArg nI (by omega))) rfl (by omega))) ?_
  refine Bod.go dc_142_45 rfl ?_
  refine Bod.get dc_142_46 fr_142_48 (mk_2 _) rfl ?_
  refine Bod.ic 0 (by decide) dc_142_49 ?_
  refine Bod.go dc_142_50 rfl ?_
  refine Bod.iastN 0 rfl (by omega) (by omega) dc_142_51 (mk_14 _) (sa_14 _ _ _) (mu_A _ _ _ _) ?_
  refine Bod.go dc_142_52 rfl ?_
  refine Bod.ic 1 (by decide) dc_142_53 ?_
  refine Bod.put dc_142_54 fr_142_73 (mk_2 _) (Nat.le_of_ble_eq_true rfl) pf_2_16 (st_216 _ _) (mu_I _ _ _) ?_
  refine Bod.ic 0 (by decide) dc_142_57 ?_
  refine Bod.istn dc_142_58 (by rw [ml_142]; exact Nat.le_of_ble_eq_true rfl) ?_
  exact hn
