/-! DROP of the reference -/
theorem dc_372_5 : decode (sm_cc 372) 5 = .ok (.iload 4, 2) := by decide +kernel
theorem dc_372_7 : decode (sm_cc 372) 7 = .ok (.aload_n 1, 1) := by decide +kernel
theorem dc_372_8 : decode (sm_cc 372) 8 = .ok (.getfield 459, 3) := by decide +kernel
theorem fr_372_459 : sm_at mt_f (sm_ow 372) 459 = some (459, 13, 1, 0, 2772) := by decide +kernel
theorem dc_372_11 : decode (sm_cc 372) 11 = .ok (.if_icmp .ge (34), 3) := by decide +kernel
theorem dc_372_14 : decode (sm_cc 372) 14 = .ok (.aload_n 1, 1) := by decide +kernel
theorem dc_372_15 : decode (sm_cc 372) 15 = .ok (.getfield 462, 3) := by decide +kernel
theorem fr_372_462 : sm_at mt_f (sm_ow 372) 462 = some (462, 13, 2, 0, 2774) := by decide +kernel
theorem dc_372_18 : decode (sm_cc 372) 18 = .ok (.iload 4, 2) := by decide +kernel
theorem dc_372_20 : decode (sm_cc 372) 20 = .ok (.iaload, 1) := by decide +kernel
theorem dc_372_21 : decode (sm_cc 372) 21 = .ok (.iconst 3, 1) := by decide +kernel
theorem dc_372_22 : decode (sm_cc 372) 22 = .ok (.if_icmp .ne (17), 3) := by decide +kernel
theorem dc_372_39 : decode (sm_cc 372) 39 = .ok (.iinc 4 (1), 3) := by decide +kernel
theorem ml_372 : sm_ml 372 = 5 := by decide +kernel
theorem dc_372_42 : decode (sm_cc 372) 42 = .ok (.goto (-37), 3) := by decide +kernel
theorem dc_372_25 : decode (sm_cc 372) 25 = .ok (.aload_n 0, 1) := by decide +kernel
theorem dc_372_26 : decode (sm_cc 372) 26 = .ok (.aload_n 1, 1) := by decide +kernel
theorem dc_372_27 : decode (sm_cc 372) 27 = .ok (.getfield 465, 3) := by decide +kernel
theorem fr_372_465 : sm_at mt_f (sm_ow 372) 465 = some (465, 13, 4, 0, 2778) := by decide +kernel
theorem dc_372_30 : decode (sm_cc 372) 30 = .ok (.iload 4, 2) := by decide +kernel
theorem dc_372_32 : decode (sm_cc 372) 32 = .ok (.laload, 1) := by decide +kernel
theorem dc_372_33 : decode (sm_cc 372) 33 = .ok (.l2i, 1) := by decide +kernel
theorem dc_372_34 : decode (sm_cc 372) 34 = .ok (.iload_n 3, 1) := by decide +kernel
theorem dc_372_35 : decode (sm_cc 372) 35 = .ok (.invokevirtual 521, 3) := by decide +kernel
theorem ow_373 : 14 = sm_ow 373 := by decide +kernel
theorem kr_372_521 : sm_at mt_k (sm_ow 372) 521 = some (521, 0, 373, 0, 2761) := by decide +kernel
theorem np_373 : sm_np 373 = 2 := by decide +kernel
theorem dc_372_38 : decode (sm_cc 372) 38 = .ok (.istore_n 3, 1) := by decide +kernel
theorem dc_372_45 : decode (sm_cc 372) 45 = .ok (.aload_n 1, 1) := by decide +kernel
theorem dc_372_46 : decode (sm_cc 372) 46 = .ok (.getfield 472, 3) := by decide +kernel
theorem fr_372_472 : sm_at mt_f (sm_ow 372) 472 = some (472, 13, 11, 0, 2788) := by decide +kernel
theorem dc_372_49 : decode (sm_cc 372) 49 = .ok (.ifCond .lt (13), 3) := by decide +kernel
theorem dc_372_62 : decode (sm_cc 372) 62 = .ok (.aload_n 1, 1) := by decide +kernel
theorem dc_372_63 : decode (sm_cc 372) 63 = .ok (.getfield 475, 3) := by decide +kernel
theorem fr_372_475 : sm_at mt_f (sm_ow 372) 475 = some (475, 13, 12, 0, 2789) := by decide +kernel
theorem dc_372_66 : decode (sm_cc 372) 66 = .ok (.ifCond .lt (15), 3) := by decide +kernel
theorem dc_372_81 : decode (sm_cc 372) 81 = .ok (.iload_n 3, 1) := by decide +kernel
theorem dc_372_82 : decode (sm_cc 372) 82 = .ok (.ireturn, 1) := by decide +kernel
theorem rt_372 : sm_rt 372 = some .int := by decide +kernel
theorem dc_372_69 : decode (sm_cc 372) 69 = .ok (.aload_n 0, 1) := by decide +kernel
theorem dc_372_70 : decode (sm_cc 372) 70 = .ok (.aload_n 1, 1) := by decide +kernel
theorem dc_372_71 : decode (sm_cc 372) 71 = .ok (.getfield 475, 3) := by decide +kernel
theorem dc_372_74 : decode (sm_cc 372) 74 = .ok (.iload_n 3, 1) := by decide +kernel
theorem dc_372_75 : decode (sm_cc 372) 75 = .ok (.invokevirtual 521, 3) := by decide +kernel
theorem dc_372_78 : decode (sm_cc 372) 78 = .ok (.goto (4), 3) := by decide +kernel
theorem dc_372_52 : decode (sm_cc 372) 52 = .ok (.aload_n 0, 1) := by decide +kernel
theorem dc_372_53 : decode (sm_cc 372) 53 = .ok (.aload_n 1, 1) := by decide +kernel
theorem dc_372_54 : decode (sm_cc 372) 54 = .ok (.getfield 472, 3) := by decide +kernel
theorem dc_372_57 : decode (sm_cc 372) 57 = .ok (.iload_n 3, 1) := by decide +kernel
theorem dc_372_58 : decode (sm_cc 372) 58 = .ok (.invokevirtual 521, 3) := by decide +kernel
theorem dc_372_61 : decode (sm_cc 372) 61 = .ok (.istore_n 3, 1) := by decide +kernel
theorem dc_372_0 : decode (sm_cc 372) 0 = .ok (.iload_n 2, 1) := by decide +kernel
theorem dc_372_1 : decode (sm_cc 372) 1 = .ok (.istore_n 3, 1) := by decide +kernel
theorem dc_372_2 : decode (sm_cc 372) 2 = .ok (.iconst 0, 1) := by decide +kernel
theorem dc_372_3 : decode (sm_cc 372) 3 = .ok (.istore 4, 2) := by decide +kernel
theorem dO_0 (p : cS × Nat) : dO p 0 = p := if_pos rfl
theorem dO_ev {d o n : Nat} {S : cS} (ho : o < 1500) (hn : sA S 87 o ≠ 0 → n < 1500) : Ans (d + 1) 373 [.ref 61, .int (nI o), .int (nI n)] S (some (.int (nI (dO (S, n) (o + 1)).2))) (dO (S, n) (o + 1)).1 := by
  unfold dO
  rw [if_neg (show ¬ o + 1 = 0 by omega), Nat.add_sub_cancel]
  by_cases he : sA S 87 o = 0
  · rw [if_pos (Or.inl he)]
    exact dropOne_dead ho he
  · by_cases hg : 0 < sA S 89 o
    · rw [if_pos (Or.inr hg)]
      exact dropOne_held ho he hg
    · rw [if_neg (fun c => c.elim he hg)]
      exact dropOne_go ho (hn he) he hg
theorem drop_skip {d t z v2 v4 n N n0 m i : Nat} {S Sf : cS} {v : Option Value} (ht : 108 ≤ t) (hs : (sS S)[t - 108]? = some (13, N)) (hz : sI S (100 * t + 1) = nI z) (hv2 : sV S (100 * t + 2) = .ref v2) (hv4 : sV S (100 * t + 4) = .ref v4) (hk2 : isK S v2 0 n) (hk4 : isK S v4 1 n) (hzn : z ≤ n) (hn0 : n < 2 ^ 20) (hi : i < z) (hc : sA S v2 i ≠ nI 3) (hn : Bod (d + 1) 372 5 (sm_p1 (sm_p1 (lv_args 0 [.ref 61, .ref t, .int (nI n0)]) 3 (.int (nI m))) 4 (.int (nI (i + 1)))) [] S v Sf) : Bod (d + 1) 372 5 (sm_p1 (sm_p1 (lv_args 0 [.ref 61, .ref t, .int (nI n0)]) 3 (.int (nI m))) 4 (.int (nI i))) [] S v Sf := by
  refine Bod.go dc_372_5 rfl ?_
  refine Bod.go dc_372_7 rfl ?_
  refine Bod.get dc_372_8 fr_372_459 (mk_thing ht hs) rfl ?_
  refine Bod.eqI (nI z) (by first | assumption | rfl | exact congrArg nI (by omega) | (simp (disch := omega) only [rI, rIe, rA, rIA, rLA, rJA, rVI, rQI, rVA, rQA, upd_at,  rAI, rLI, rJI, nI_add, pk_sub, kc_0, kc_1, kc_2, kc_3, kc_4, kc_5, reduceIte, Nat.reduceEqDiff, Nat.add_zero, rI_hold, rI_hold, rL_hold, hz]; done)) ?_
  refine Bod.icF dc_372_11 rfl (k2_ge_F i z rfl rfl (by omega) (by omega)) ?_
  refine Bod.go dc_372_14 rfl ?_
  refine Bod.get dc_372_15 fr_372_462 (mk_thing ht hs) rfl ?_
  refine Bod.eqV (.ref v2) hv2 ?_
  refine Bod.go dc_372_18 rfl ?_
  refine Bod.ialdN (N := n) i rfl (by omega) (by omega) dc_372_20 (mk_isI hk2) ?_
  refine Bod.ic 3 (by decide) dc_372_21 ?_
  refine Bod.icT dc_372_22 rfl (k2_ne_T hc) ?_
  refine Bod.incN (i + 1) (by rw [kc_1, nI_add]) dc_372_39 (by rw [ml_372]; exact Nat.le_of_ble_eq_true rfl) rfl ?_
  refine Bod.go dc_372_42 rfl ?_
  rw [sm_p1_p1]
  exact hn
theorem drop_take {d t z v2 v4 n N n0 m m1 i o : Nat} {S S1 Sf : cS} {v : Option Value} (ht : 108 ≤ t) (hs : (sS S)[t - 108]? = some (13, N)) (hz : sI S (100 * t + 1) = nI z) (hv2 : sV S (100 * t + 2) = .ref v2) (hv4 : sV S (100 * t + 4) = .ref v4) (hk2 : isK S v2 0 n) (hk4 : isK S v4 1 n) (hzn : z ≤ n) (hn0 : n < 2 ^ 20) (hi : i < z) (hc : sA S v2 i = nI 3) (hx : (sL S v4 i).toInt32 = nI o) (hD : Ans (d + 1) 373 [.ref 61, .int (nI o), .int (nI m)] S (some (.int (nI m1))) S1) (hn : Bod (d + 1) 372 5 (sm_p1 (sm_p1 (lv_args 0 [.ref 61, .ref t, .int (nI n0)]) 3 (.int (nI m1))) 4 (.int (nI (i + 1)))) [] S1 v Sf) : Bod (d + 1) 372 5 (sm_p1 (sm_p1 (lv_args 0 [.ref 61, .ref t, .int (nI n0)]) 3 (.int (nI m))) 4 (.int (nI i))) [] S v Sf := by
  refine Bod.go dc_372_5 rfl ?_
  refine Bod.go dc_372_7 rfl ?_
  refine Bod.get dc_372_8 fr_372_459 (mk_thing ht hs) rfl ?_
  refine Bod.eqI (nI z) (by first | assumption | rfl | exact congrArg nI (by omega) | (simp (disch := omega) only [rI, rIe, rA, rIA, rLA, rJA, rVI, rQI, rVA, rQA, upd_at,  rAI, rLI, rJI, nI_add, pk_sub, kc_0, kc_1, kc_2, kc_3, kc_4, kc_5, reduceIte, Nat.reduceEqDiff, Nat.add_zero, rI_hold, rI_hold, rL_hold, hz]; done)) ?_
  refine Bod.icF dc_372_11 rfl (k2_ge_F i z rfl rfl (by omega) (by omega)) ?_
  refine Bod.go dc_372_14 rfl ?_
  refine Bod.get dc_372_15 fr_372_462 (mk_thing ht hs) rfl ?_
  refine Bod.eqV (.ref v2) hv2 ?_
  refine Bod.go dc_372_18 rfl ?_
  refine Bod.ialdN (N := n) i rfl (by omega) (by omega) dc_372_20 (mk_isI hk2) ?_
  refine Bod.ic 3 (by decide) dc_372_21 ?_
  refine Bod.icF dc_372_22 rfl (k2_ne_F hc) ?_
  refine Bod.go dc_372_25 rfl ?_
  refine Bod.go dc_372_26 rfl ?_
  refine Bod.get dc_372_27 fr_372_465 (mk_thing ht hs) rfl ?_
  refine Bod.eqV (.ref v4) hv4 ?_
  refine Bod.go dc_372_30 rfl ?_
  refine Bod.laldN (N := n) i rfl (by omega) (by omega) dc_372_32 (mk_isL hk4) ?_
  refine Bod.go dc_372_33 rfl ?_
  refine Bod.eqI (nI o) hx ?_
  refine Bod.go dc_372_34 rfl ?_
  refine Bod.virt (r := []) dc_372_35 kr_372_521 ⟨Or.inl rfl, ow_373, cl_14⟩ (by rw [np_373]; rfl) (by rw [np_373]; rfl) (ob_of (mk_61 _)) (Nat.le_of_ble_eq_true rfl) (hD  ) ?_
  show Bod _ _ _ _ [_] _ _ _
  refine Bod.istn dc_372_38 (by rw [ml_372]; exact Nat.le_of_ble_eq_true rfl) ?_
  refine Bod.incN (i + 1) (by rw [kc_1, nI_add]) dc_372_39 (by rw [ml_372]; exact Nat.le_of_ble_eq_true rfl) rfl ?_
  refine Bod.go dc_372_42 rfl ?_
  exact Eq.mpr (congrArg (fun l => Bod (d + 1) 372 5 l [] S1 v Sf) (sm_p1_4 (p := 3) (q := 4) (by decide) (lv_args 0 [.ref 61, .ref t, .int (nI n0)]) (x := .int (nI m)) (t := .int (nI i)) (y := .int (nI m1)) (z := .int (nI (i + 1))) rfl rfl)) hn
theorem drop_exit {d t z v2 v4 n N n0 m i : Nat} {S Sf : cS} {v : Option Value} (ht : 108 ≤ t) (hs : (sS S)[t - 108]? = some (13, N)) (hz : sI S (100 * t + 1) = nI z) (hv2 : sV S (100 * t + 2) = .ref v2) (hv4 : sV S (100 * t + 4) = .ref v4) (hk2 : isK S v2 0 n) (hk4 : isK S v4 1 n) (hzn : z ≤ n) (hn0 : n < 2 ^ 20) (hi : i = z) (hn : Bod (d + 1) 372 45 (sm_p1 (sm_p1 (lv_args 0 [.ref 61, .ref t, .int (nI n0)]) 3 (.int (nI m))) 4 (.int (nI i))) [] S v Sf) : Bod (d + 1) 372 5 (sm_p1 (sm_p1 (lv_args 0 [.ref 61, .ref t, .int (nI n0)]) 3 (.int (nI m))) 4 (.int (nI i))) [] S v Sf := by
  refine Bod.go dc_372_5 rfl ?_
  refine Bod.go dc_372_7 rfl ?_
  refine Bod.get dc_372_8 fr_372_459 (mk_thing ht hs) rfl ?_
  refine Bod.eqI (nI z) (by first | assumption | rfl | exact congrArg nI (by omega) | (simp (disch := omega) only [rI, rIe, rA, rIA, rLA, rJA, rVI, rQI, rVA, rQA, upd_at,  rAI, rLI, rJI, nI_add, pk_sub, kc_0, kc_1, kc_2, kc_3, kc_4, kc_5, reduceIte, Nat.reduceEqDiff, Nat.add_zero, rI_hold, rI_hold, rL_hold, hz]; done)) ?_
  refine Bod.icT dc_372_11 rfl (k2_ge_T i z rfl rfl (by omega) (by omega)) ?_
  exact hn
theorem drop_end00 {d t N n0 m m1 m2 i h q : Nat} {S S1 S2 : cS} (ht : 108 ≤ t) (hs : (sS S)[t - 108]? = some (13, N)) (hh : sI S (100 * t + 11) = Int32.ofInt (-1)) (hm : sI S (100 * t + 12) = Int32.ofInt (-1)) (hb : h < 1500) (hb2 : q < 1500) : Bod (d + 1) 372 45 (sm_p1 (sm_p1 (lv_args 0 [.ref 61, .ref t, .int (nI n0)]) 3 (.int (nI m))) 4 (.int (nI i))) [] S (some (.int (nI m))) S := by
  refine Bod.go dc_372_45 rfl ?_
  refine Bod.get dc_372_46 fr_372_472 (mk_thing ht hs) rfl ?_
  refine Bod.eqI (Int32.ofInt (-1)) hh ?_
  refine Bod.ifT dc_372_49 rfl (by decide) ?_
  refine Bod.go dc_372_62 rfl ?_
  refine Bod.get dc_372_63 fr_372_475 (mk_thing ht hs) rfl ?_
  refine Bod.eqI (Int32.ofInt (-1)) hm ?_
  refine Bod.ifT dc_372_66 rfl (by decide) ?_
  refine Bod.go dc_372_81 rfl ?_
  exact Bod.retI dc_372_82 rt_372
theorem drop_end01 {d t N n0 m m1 m2 i h q : Nat} {S S1 S2 : cS} (ht : 108 ≤ t) (hs : (sS S)[t - 108]? = some (13, N)) (hh : sI S (100 * t + 11) = Int32.ofInt (-1)) (hm : sI S (100 * t + 12) = nI q) (hb : h < 1500) (hb2 : q < 1500) (hD : Ans (d + 1) 373 [.ref 61, .int (nI q), .int (nI m)] S (some (.int (nI m1))) S1) : Bod (d + 1) 372 45 (sm_p1 (sm_p1 (lv_args 0 [.ref 61, .ref t, .int (nI n0)]) 3 (.int (nI m))) 4 (.int (nI i))) [] S (some (.int (nI m1))) S1 := by
  refine Bod.go dc_372_45 rfl ?_
  refine Bod.get dc_372_46 fr_372_472 (mk_thing ht hs) rfl ?_
  refine Bod.eqI (Int32.ofInt (-1)) hh ?_
  refine Bod.ifT dc_372_49 rfl (by decide) ?_
  refine Bod.go dc_372_62 rfl ?_
  refine Bod.get dc_372_63 fr_372_475 (mk_thing ht hs) rfl ?_
  refine Bod.eqI (nI q) (by first | assumption | rfl | exact congrArg nI (by omega) | (simp (disch := omega) only [rI, rIe, rA, rIA, rLA, rJA, rVI, rQI, rVA, rQA, upd_at,  rAI, rLI, rJI, nI_add, pk_sub, kc_0, kc_1, kc_2, kc_3, kc_4, kc_5, reduceIte, Nat.reduceEqDiff, Nat.add_zero, rI_hold, rI_hold, rL_hold, hm]; done)) ?_
  refine Bod.ifF dc_372_66 rfl (k1_lt_F q rfl (by omega)) ?_
  refine Bod.go dc_372_69 rfl ?_
  refine Bod.go dc_372_70 rfl ?_
  refine Bod.get dc_372_71 fr_372_475 (mk_thing ht hs) rfl ?_
  refine Bod.eqI (nI q) (by first | assumption | rfl | exact congrArg nI (by omega) | (simp (disch := omega) only [rI, rIe, rA, rIA, rLA, rJA, rVI, rQI, rVA, rQA, upd_at,  rAI, rLI, rJI, nI_add, pk_sub, kc_0, kc_1, kc_2, kc_3, kc_4, kc_5, reduceIte, Nat.reduceEqDiff, Nat.add_zero, rI_hold, rI_hold, rL_hold, hm]; done)) ?_
  refine Bod.go dc_372_74 rfl ?_
  refine Bod.virt (r := []) dc_372_75 kr_372_521 ⟨Or.inl rfl, ow_373, cl_14⟩ (by rw [np_373]; rfl) (by rw [np_373]; rfl) (ob_of (mk_61 _)) (Nat.le_of_ble_eq_true rfl) (hD  ) ?_
  show Bod _ _ _ _ [_] _ _ _
  refine Bod.go dc_372_78 rfl ?_
  exact Bod.retI dc_372_82 rt_372
theorem drop_end10 {d t N n0 m m1 m2 i h q : Nat} {S S1 S2 : cS} (ht : 108 ≤ t) (hs : (sS S)[t - 108]? = some (13, N)) (hh : sI S (100 * t + 11) = nI h) (hm : sI S1 (100 * t + 12) = Int32.ofInt (-1)) (hb : h < 1500) (hb2 : q < 1500) (hD : Ans (d + 1) 373 [.ref 61, .int (nI h), .int (nI m)] S (some (.int (nI m1))) S1) (hS1 : sS S1 = sS S) (hI1 : sI S1 = sI S) : Bod (d + 1) 372 45 (sm_p1 (sm_p1 (lv_args 0 [.ref 61, .ref t, .int (nI n0)]) 3 (.int (nI m))) 4 (.int (nI i))) [] S (some (.int (nI m1))) S1 := by
  refine Bod.go dc_372_45 rfl ?_
  refine Bod.get dc_372_46 fr_372_472 (mk_thing ht hs) rfl ?_
  refine Bod.eqI (nI h) (by first | assumption | rfl | exact congrArg nI (by omega) | (simp (disch := omega) only [rI, rIe, rA, rIA, rLA, rJA, rVI, rQI, rVA, rQA, upd_at,  rAI, rLI, rJI, nI_add, pk_sub, kc_0, kc_1, kc_2, kc_3, kc_4, kc_5, reduceIte, Nat.reduceEqDiff, Nat.add_zero, rI_hold, rI_hold, rL_hold, hh, hI1]; done)) ?_
  refine Bod.ifF dc_372_49 rfl (k1_lt_F h rfl (by omega)) ?_
  refine Bod.go dc_372_52 rfl ?_
  refine Bod.go dc_372_53 rfl ?_
  refine Bod.get dc_372_54 fr_372_472 (mk_thing ht hs) rfl ?_
  refine Bod.eqI (nI h) (by first | assumption | rfl | exact congrArg nI (by omega) | (simp (disch := omega) only [rI, rIe, rA, rIA, rLA, rJA, rVI, rQI, rVA, rQA, upd_at,  rAI, rLI, rJI, nI_add, pk_sub, kc_0, kc_1, kc_2, kc_3, kc_4, kc_5, reduceIte, Nat.reduceEqDiff, Nat.add_zero, rI_hold, rI_hold, rL_hold, hh, hI1]; done)) ?_
  refine Bod.go dc_372_57 rfl ?_
  refine Bod.virt (r := []) dc_372_58 kr_372_521 ⟨Or.inl rfl, ow_373, cl_14⟩ (by rw [np_373]; rfl) (by rw [np_373]; rfl) (ob_of (mk_61 _)) (Nat.le_of_ble_eq_true rfl) (hD  ) ?_
  show Bod _ _ _ _ [_] _ _ _
  refine Bod.istn dc_372_61 (by rw [ml_372]; exact Nat.le_of_ble_eq_true rfl) ?_
  refine Bod.go dc_372_62 rfl ?_
  refine Bod.get dc_372_63 fr_372_475 (mk_thing ht (by simp only [rIS, rJS, rAS, rLS, rVS, rQS, rS_hold, hS1]; exact hs)) rfl ?_
  refine Bod.eqI (Int32.ofInt (-1)) hm ?_
  refine Bod.ifT dc_372_66 rfl (by decide) ?_
  refine Bod.go dc_372_81 rfl ?_
  exact Bod.retI dc_372_82 rt_372
theorem drop_end11 {d t N n0 m m1 m2 i h q : Nat} {S S1 S2 : cS} (ht : 108 ≤ t) (hs : (sS S)[t - 108]? = some (13, N)) (hh : sI S (100 * t + 11) = nI h) (hm : sI S1 (100 * t + 12) = nI q) (hb : h < 1500) (hb2 : q < 1500) (hD : Ans (d + 1) 373 [.ref 61, .int (nI h), .int (nI m)] S (some (.int (nI m1))) S1) (hS1 : sS S1 = sS S) (hI1 : sI S1 = sI S) (hD2 : Ans (d + 1) 373 [.ref 61, .int (nI q), .int (nI m1)] S1 (some (.int (nI m2))) S2) : Bod (d + 1) 372 45 (sm_p1 (sm_p1 (lv_args 0 [.ref 61, .ref t, .int (nI n0)]) 3 (.int (nI m))) 4 (.int (nI i))) [] S (some (.int (nI m2))) S2 := by
  refine Bod.go dc_372_45 rfl ?_
  refine Bod.get dc_372_46 fr_372_472 (mk_thing ht hs) rfl ?_
  refine Bod.eqI (nI h) (by first | assumption | rfl | exact congrArg nI (by omega) | (simp (disch := omega) only [rI, rIe, rA, rIA, rLA, rJA, rVI, rQI, rVA, rQA, upd_at,  rAI, rLI, rJI, nI_add, pk_sub, kc_0, kc_1, kc_2, kc_3, kc_4, kc_5, reduceIte, Nat.reduceEqDiff, Nat.add_zero, rI_hold, rI_hold, rL_hold, hh, hm, hI1]; done)) ?_
  refine Bod.ifF dc_372_49 rfl (k1_lt_F h rfl (by omega)) ?_
  refine Bod.go dc_372_52 rfl ?_
  refine Bod.go dc_372_53 rfl ?_
  refine Bod.get dc_372_54 fr_372_472 (mk_thing ht hs) rfl ?_
  refine Bod.eqI (nI h) (by first | assumption | rfl | exact congrArg nI (by omega) | (simp (disch := omega) only [rI, rIe, rA, rIA, rLA, rJA, rVI, rQI, rVA, rQA, upd_at,  rAI, rLI, rJI, nI_add, pk_sub, kc_0, kc_1, kc_2, kc_3, kc_4, kc_5, reduceIte, Nat.reduceEqDiff, Nat.add_zero, rI_hold, rI_hold, rL_hold, hh, hm, hI1]; done)) ?_
  refine Bod.go dc_372_57 rfl ?_
  refine Bod.virt (r := []) dc_372_58 kr_372_521 ⟨Or.inl rfl, ow_373, cl_14⟩ (by rw [np_373]; rfl) (by rw [np_373]; rfl) (ob_of (mk_61 _)) (Nat.le_of_ble_eq_true rfl) (hD  ) ?_
  show Bod _ _ _ _ [_] _ _ _
  refine Bod.istn dc_372_61 (by rw [ml_372]; exact Nat.le_of_ble_eq_true rfl) ?_
  refine Bod.go dc_372_62 rfl ?_
  refine Bod.get dc_372_63 fr_372_475 (mk_thing ht (by simp only [rIS, rJS, rAS, rLS, rVS, rQS, rS_hold, hS1]; exact hs)) rfl ?_
  refine Bod.eqI (nI q) (by first | (simp (disch := omega) only [rI, rIe, rA, rIA, rLA, rJA, rVI, rQI, rVA, rQA, upd_at,  rAI, rLI, rJI, nI_add, pk_sub, kc_0, kc_1, kc_2, kc_3, kc_4, kc_5, reduceIte, Nat.reduceEqDiff, Nat.add_zero, rI_hold, rI_hold, rL_hold, hh, hm, hI1]; done) | (simp (disch := omega) only [rI, rIe, rA, rIA, rLA, rJA, rVI, rQI, rVA, rQA, upd_at,  rAI, rLI, rJI, nI_add, pk_sub, kc_0, kc_1, kc_2, kc_3, kc_4, kc_5, reduceIte, Nat.reduceEqDiff, Nat.add_zero, rI_hold, rI_hold, rL_hold, hh, hm, hI1]; exact congrArg nI (by omega))) ?_
  refine Bod.ifF dc_372_66 rfl (k1_lt_F q rfl (by omega)) ?_
  refine Bod.go dc_372_69 rfl ?_
  refine Bod.go dc_372_70 rfl ?_
  refine Bod.get dc_372_71 fr_372_475 (mk_thing ht (by simp only [rIS, rJS, rAS, rLS, rVS, rQS, rS_hold, hS1]; exact hs)) rfl ?_
  refine Bod.eqI (nI q) (by first | (simp (disch := omega) only [rI, rIe, rA, rIA, rLA, rJA, rVI, rQI, rVA, rQA, upd_at,  rAI, rLI, rJI, nI_add, pk_sub, kc_0, kc_1, kc_2, kc_3, kc_4, kc_5, reduceIte, Nat.reduceEqDiff, Nat.add_zero, rI_hold, rI_hold, rL_hold, hh, hm, hI1]; done) | (simp (disch := omega) only [rI, rIe, rA, rIA, rLA, rJA, rVI, rQI, rVA, rQA, upd_at,  rAI, rLI, rJI, nI_add, pk_sub, kc_0, kc_1, kc_2, kc_3, kc_4, kc_5, reduceIte, Nat.reduceEqDiff, Nat.add_zero, rI_hold, rI_hold, rL_hold, hh, hm, hI1]; exact congrArg nI (by omega))) ?_
  refine Bod.go dc_372_74 rfl ?_
  refine Bod.virt (r := []) dc_372_75 kr_372_521 ⟨Or.inl rfl, ow_373, cl_14⟩ (by rw [np_373]; rfl) (by rw [np_373]; rfl) (ob_of (mk_61 _)) (Nat.le_of_ble_eq_true rfl) (hD2  ) ?_
  show Bod _ _ _ _ [_] _ _ _
  refine Bod.go dc_372_78 rfl ?_
  exact Bod.retI dc_372_82 rt_372
theorem drop_in {d t n0 : Nat} {S Sf : cS} {v : Option Value} (hn : Bod (d + 1) 372 5 (sm_p1 (sm_p1 (lv_args 0 [.ref 61, .ref t, .int (nI n0)]) 3 (.int (nI n0))) 4 (.int (nI 0))) [] S v Sf) : Ans (d + 2) 372 [.ref 61, .ref t, .int (nI n0)] S v Sf := by
  refine Ans.of (by rw [ml_372]; exact Nat.le_of_ble_eq_true rfl) ?_
  refine Bod.go dc_372_0 rfl ?_
  refine Bod.istn dc_372_1 (by rw [ml_372]; exact Nat.le_of_ble_eq_true rfl) ?_
  refine Bod.ic 0 (by decide) dc_372_2 ?_
  refine Bod.ist dc_372_3 (by rw [ml_372]; exact Nat.le_of_ble_eq_true rfl) ?_
  exact hn
theorem drop_end {d t N n0 i : Nat} {p : cS × Nat} {P : List Nat → cS × Nat → Prop} (hP1 : ∀ (o : Nat) (l : List Nat) (p : cS × Nat), P (o :: l) p → o ≠ 0 → sA p.1 87 (o - 1) ≠ 0 → p.2 < 1500) (hP2 : ∀ (o : Nat) (l : List Nat) (p : cS × Nat), P (o :: l) p → P l (dO p o)) (ht : 108 ≤ t) (hs : (sS p.1)[t - 108]? = some (13, N)) (hh : r_lk (sI p.1 (100 * t + 11))) (hm : r_lk (sI p.1 (100 * t + 12))) (hp : P [r_opt (sI p.1 (100 * t + 11)), r_opt (sI p.1 (100 * t + 12))] p) : Bod (d + 1) 372 45 (sm_p1 (sm_p1 (lv_args 0 [.ref 61, .ref t, .int (nI n0)]) 3 (.int (nI p.2))) 4 (.int (nI i))) [] p.1 (some (.int (nI ([r_opt (sI p.1 (100 * t + 11)), r_opt (sI p.1 (100 * t + 12))].foldl dO p).2))) ([r_opt (sI p.1 (100 * t + 11)), r_opt (sI p.1 (100 * t + 12))].foldl dO p).1 := by
  show Bod _ _ _ _ _ _ (some (.int (nI (dO (dO p (r_opt (sI p.1 (100 * t + 11)))) (r_opt (sI p.1 (100 * t + 12)))).2))) (dO (dO p (r_opt (sI p.1 (100 * t + 11)))) (r_opt (sI p.1 (100 * t + 12)))).1
  rcases hh with hh | ⟨h, hb, hh⟩ <;> rcases hm with hm | ⟨m, hb2, hm⟩
  · rw [hh, hm, r_opt_n, dO_0, dO_0]
    exact drop_end00 (h := 0) (q := 0) (m1 := 0) (m2 := 0) (S1 := p.1) (S2 := p.1) ht hs hh hm (by omega) (by omega)
  · rw [hh, hm, r_opt_n, r_opt_y hb2] at hp
    have h1 := hP2 _ _ _ hp
    rw [dO_0] at h1
    rw [hh, hm, r_opt_n, r_opt_y hb2, dO_0]
    exact drop_end01 (h := 0) (m2 := 0) (S2 := p.1) ht hs hh hm (by omega) hb2 (dO_ev hb2 (hP1 _ _ _ h1 (by omega)))
  · rw [hh, hm, r_opt_n, r_opt_y hb] at hp
    rw [hh, hm, r_opt_n, r_opt_y hb, dO_0]
    have hF := dO_Fr p (h + 1)
    exact drop_end10 (q := 0) (m2 := 0) (S2 := p.1) ht hs hh (by rw [hF.I List.not_mem_nil]; exact hm) hb (by omega) (dO_ev hb (hP1 _ _ _ hp (by omega))) hF.2.2.2.2.1 (funext fun i => hF.I List.not_mem_nil)
  · rw [hh, hm, r_opt_y hb2, r_opt_y hb] at hp
    rw [hh, hm, r_opt_y hb2, r_opt_y hb]
    have hF := dO_Fr p (h + 1)
    exact drop_end11 ht hs hh (by rw [hF.I List.not_mem_nil]; exact hm) hb hb2 (dO_ev hb (hP1 _ _ _ hp (by omega))) hF.2.2.2.2.1 (funext fun i => hF.I List.not_mem_nil) (dO_ev hb2 (hP1 _ _ _ (hP2 _ _ _ hp) (by omega)))
theorem drop_loop {d t z v2 v4 n N n0 : Nat} {S0 : cS} {f : Nat → Nat} {P : List Nat → cS × Nat → Prop} (hP1 : ∀ (o : Nat) (l : List Nat) (p : cS × Nat), P (o :: l) p → o ≠ 0 → sA p.1 87 (o - 1) ≠ 0 → p.2 < 1500) (hP2 : ∀ (o : Nat) (l : List Nat) (p : cS × Nat), P (o :: l) p → P l (dO p o)) (ht : 108 ≤ t) (hs : (sS S0)[t - 108]? = some (13, N)) (hz : sI S0 (100 * t + 1) = nI z) (hv2 : sV S0 (100 * t + 2) = .ref v2) (hv4 : sV S0 (100 * t + 4) = .ref v4) (hk2 : isK S0 v2 0 n) (hk4 : isK S0 v4 1 n) (hzn : z ≤ n) (hn : n < 2 ^ 20) (hf : ∀ i, i < z → f i = r_o (sA S0 v2 i) (sL S0 v4 i)) (ho : ∀ i, i < z → sA S0 v2 i = nI 3 → ∃ o, o < 1500 ∧ (sL S0 v4 i).toInt32 = nI o) (hne : v2 ∉ [87, 90]) (hh : r_lk (sI S0 (100 * t + 11))) (hm : r_lk (sI S0 (100 * t + 12))) : ∀ (r i : Nat) (p : cS × Nat), i + r = z → Fr [] [87, 90] S0 p.1 → P (seqN f i r ++ [r_opt (sI S0 (100 * t + 11)), r_opt (sI S0 (100 * t + 12))]) p → Bod (d + 1) 372 5 (sm_p1 (sm_p1 (lv_args 0 [.ref 61, .ref t, .int (nI n0)]) 3 (.int (nI p.2))) 4 (.int (nI i))) [] p.1 (some (.int (nI ((seqN f i r ++ [r_opt (sI S0 (100 * t + 11)), r_opt (sI S0 (100 * t + 12))]).foldl dO p).2))) ((seqN f i r ++ [r_opt (sI S0 (100 * t + 11)), r_opt (sI S0 (100 * t + 12))]).foldl dO p).1 := by
  intro r
  induction r with
  | zero =>
    intro i p hi hF hp
    have hs : (sS p.1)[t - 108]? = some (13, N) := by rw [hF.2.2.2.2.1]; exact hs
    have hI : sI p.1 = sI S0 := funext (fun i => hF.I (List.not_mem_nil))
    have hz : sI p.1 (100 * t + 1) = nI z := by rw [hI]; exact hz
    have hv2 : sV p.1 (100 * t + 2) = .ref v2 := by rw [hF.2.2.1]; exact hv2
    have hv4 : sV p.1 (100 * t + 4) = .ref v4 := by rw [hF.2.2.1]; exact hv4
    have hk2 : isK p.1 v2 0 n := isK_S hF.2.2.2.2.1 hk2
    have hk4 : isK p.1 v4 1 n := isK_S hF.2.2.2.2.1 hk4
    have hA2 : sA p.1 v2 = sA S0 v2 := hF.A hne
    have hL4 : sL p.1 = sL S0 := hF.2.1
    refine drop_exit ht hs hz hv2 hv4 hk2 hk4 hzn hn (by omega) ?_
    rw [← hI] at hh hm hp ⊢
    exact drop_end hP1 hP2 ht hs hh hm hp
  | succ r ih =>
    intro i p hi hF hp
    have hnext := ih (i + 1) (dO p (f i)) (by omega) (hF.trans (dO_Fr p (f i))) (hP2 _ _ _ hp)
    have hs : (sS p.1)[t - 108]? = some (13, N) := by rw [hF.2.2.2.2.1]; exact hs
    have hI : sI p.1 = sI S0 := funext (fun i => hF.I (List.not_mem_nil))
    have hz : sI p.1 (100 * t + 1) = nI z := by rw [hI]; exact hz
    have hv2 : sV p.1 (100 * t + 2) = .ref v2 := by rw [hF.2.2.1]; exact hv2
    have hv4 : sV p.1 (100 * t + 4) = .ref v4 := by rw [hF.2.2.1]; exact hv4
    have hk2 : isK p.1 v2 0 n := isK_S hF.2.2.2.2.1 hk2
    have hk4 : isK p.1 v4 1 n := isK_S hF.2.2.2.2.1 hk4
    have hA2 : sA p.1 v2 = sA S0 v2 := hF.A hne
    have hL4 : sL p.1 = sL S0 := hF.2.1
    show Bod _ _ _ _ _ _ (some (.int (nI ((seqN f (i + 1) r ++ [r_opt (sI S0 (100 * t + 11)), r_opt (sI S0 (100 * t + 12))]).foldl dO (dO p (f i))).2))) ((seqN f (i + 1) r ++ [r_opt (sI S0 (100 * t + 11)), r_opt (sI S0 (100 * t + 12))]).foldl dO (dO p (f i))).1
    have e := hf i (by omega)
    by_cases hc : sA S0 v2 i = nI 3
    · obtain ⟨o, ho1, ho2⟩ := ho i (by omega) hc
      have e2 : f i = o + 1 := by
        rw [e]
        unfold r_o
        rw [if_pos hc, ho2, gN_nI (by omega)]
      have hq : P ((o + 1) :: (seqN f (i + 1) r ++ [r_opt (sI S0 (100 * t + 11)), r_opt (sI S0 (100 * t + 12))])) p := e2 ▸ hp
      rw [e2] at hnext ⊢
      exact drop_take ht hs hz hv2 hv4 hk2 hk4 hzn hn (by omega) (by rw [hA2]; exact hc) (by rw [hL4]; exact ho2) (dO_ev ho1 (hP1 _ _ _ hq (by omega))) hnext
    · have e2 : f i = 0 := by
        rw [e]
        unfold r_o
        rw [if_neg hc]
      rw [e2, dO_0] at hnext ⊢
      exact drop_skip ht hs hz hv2 hv4 hk2 hk4 hzn hn (by omega) (by rw [hA2]; exact hc) hnext
theorem drop_ev {d t z v2 v4 n N n0 : Nat} {S0 : cS} {f : Nat → Nat} {P : List Nat → cS × Nat → Prop} (hP1 : ∀ (o : Nat) (l : List Nat) (p : cS × Nat), P (o :: l) p → o ≠ 0 → sA p.1 87 (o - 1) ≠ 0 → p.2 < 1500) (hP2 : ∀ (o : Nat) (l : List Nat) (p : cS × Nat), P (o :: l) p → P l (dO p o)) (ht : 108 ≤ t) (hs : (sS S0)[t - 108]? = some (13, N)) (hz : sI S0 (100 * t + 1) = nI z) (hv2 : sV S0 (100 * t + 2) = .ref v2) (hv4 : sV S0 (100 * t + 4) = .ref v4) (hk2 : isK S0 v2 0 n) (hk4 : isK S0 v4 1 n) (hzn : z ≤ n) (hn : n < 2 ^ 20) (hf : ∀ i, i < z → f i = r_o (sA S0 v2 i) (sL S0 v4 i)) (ho : ∀ i, i < z → sA S0 v2 i = nI 3 → ∃ o, o < 1500 ∧ (sL S0 v4 i).toInt32 = nI o) (hne : v2 ∉ [87, 90]) (hh : r_lk (sI S0 (100 * t + 11))) (hm : r_lk (sI S0 (100 * t + 12))) (hp : P (seqN f 0 z ++ [r_opt (sI S0 (100 * t + 11)), r_opt (sI S0 (100 * t + 12))]) (S0, n0)) : Ans (d + 2) 372 [.ref 61, .ref t, .int (nI n0)] S0 (some (.int (nI ((seqN f 0 z ++ [r_opt (sI S0 (100 * t + 11)), r_opt (sI S0 (100 * t + 12))]).foldl dO (S0, n0)).2))) ((seqN f 0 z ++ [r_opt (sI S0 (100 * t + 11)), r_opt (sI S0 (100 * t + 12))]).foldl dO (S0, n0)).1 :=
  drop_in (drop_loop hP1 hP2 ht hs hz hv2 hv4 hk2 hk4 hzn hn hf ho hne hh hm z 0 (S0, n0) (by omega) (Fr.refl _ _ _) hp)
