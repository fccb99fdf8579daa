/-! COUNT of the reference -/
theorem dc_423_47 : decode (sm_cc 423) 47 = .ok (.aload_n 0, 1) := by decide +kernel
theorem dc_423_48 : decode (sm_cc 423) 48 = .ok (.getfield 24, 3) := by decide +kernel
theorem fr_423_24 : sm_at mt_f (sm_ow 423) 24 = some (24, 14, 3, 0, 2076) := by decide +kernel
theorem dc_423_51 : decode (sm_cc 423) 51 = .ok (.iload_n 3, 1) := by decide +kernel
theorem dc_423_52 : decode (sm_cc 423) 52 = .ok (.iaload, 1) := by decide +kernel
theorem dc_423_53 : decode (sm_cc 423) 53 = .ok (.iconst (-1), 1) := by decide +kernel
theorem dc_423_54 : decode (sm_cc 423) 54 = .ok (.if_icmp .eq (6), 3) := by decide +kernel
theorem dc_423_60 : decode (sm_cc 423) 60 = .ok (.iinc 3 (1), 3) := by decide +kernel
theorem dc_423_63 : decode (sm_cc 423) 63 = .ok (.goto (-24), 3) := by decide +kernel
theorem dc_423_57 : decode (sm_cc 423) 57 = .ok (.iinc 2 (1), 3) := by decide +kernel
theorem dc_423_86 : decode (sm_cc 423) 86 = .ok (.iload_n 1, 1) := by decide +kernel
theorem dc_423_87 : decode (sm_cc 423) 87 = .ok (.ifCond .eq (16), 3) := by decide +kernel
theorem dc_423_103 : decode (sm_cc 423) 103 = .ok (.iinc 2 (1), 3) := by decide +kernel
theorem dc_423_90 : decode (sm_cc 423) 90 = .ok (.aload_n 0, 1) := by decide +kernel
theorem dc_423_91 : decode (sm_cc 423) 91 = .ok (.getfield 485, 3) := by decide +kernel
theorem fr_423_485 : sm_at mt_f (sm_ow 423) 485 = some (485, 14, 42, 0, 2115) := by decide +kernel
theorem dc_423_94 : decode (sm_cc 423) 94 = .ok (.iload_n 3, 1) := by decide +kernel
theorem dc_423_95 : decode (sm_cc 423) 95 = .ok (.aaload, 1) := by decide +kernel
theorem dc_423_96 : decode (sm_cc 423) 96 = .ok (.getfield 531, 3) := by decide +kernel
theorem fr_423_531 : sm_at mt_f (sm_ow 423) 531 = some (531, 13, 0, 0, 2770) := by decide +kernel
theorem dc_423_99 : decode (sm_cc 423) 99 = .ok (.iload_n 1, 1) := by decide +kernel
theorem dc_423_100 : decode (sm_cc 423) 100 = .ok (.if_icmp .ne (6), 3) := by decide +kernel
theorem q9_0 : ∀ q, q < 10 → ¬ (nI q).toInt64 < 0 := by decide
theorem q9_9 : ∀ q, q < 10 → ¬ (9 : Int64) < (nI q).toInt64 := by decide
theorem count_r9 {d q : Nat} {S S1 : cS} (hq : q ≤ 9) (hS : Ans (d + 4) 366 [.ref 61] S none S1) (h9 : q = 9) : Ans (d + 5) 423 [.ref 61, .int (nI q)] S (some (.int (sI S1 6166))) S1 := by
  refine Ans.of (by rw [ml_423]; exact Nat.le_of_ble_eq_true rfl) ?_
  refine Bod.go dc_423_0 rfl ?_
  refine Bod.go dc_423_1 rfl ?_
  refine Bod.go dc_423_2 rfl ?_
  refine Bod.ldc2 dc_423_3 cj_423_869 ?_
  refine Bod.stat (r := []) dc_423_6 kr_423_680 (Or.inl rfl) (by rw [np_284]; rfl) (by rw [np_284]; rfl) (by rw [np_284]; exact Nat.le_of_ble_eq_true rfl) (Nat.le_of_ble_eq_true rfl) (in_yesA  (q9_0 q (by omega)) (q9_9 q (by omega))) ?_
  show Bod _ _ _ _ [_] _ _ _
  refine Bod.ifT dc_423_9 rfl (k1_ne_T (by decide)) ?_
  refine Bod.go dc_423_14 rfl ?_
  refine Bod.virt (r := []) dc_423_15 kr_423_527 ⟨Or.inl rfl, ow_366, cl_14⟩ (by rw [np_366]; rfl) (by rw [np_366]; rfl) (ob_of (mk_61 _)) (Nat.le_of_ble_eq_true rfl) (hS  ) ?_
  show Bod _ _ _ _ [] _ _ _
  refine Bod.ic 0 (by decide) dc_423_18 ?_
  refine Bod.istn dc_423_19 (by rw [ml_423]; exact Nat.le_of_ble_eq_true rfl) ?_
  refine Bod.go dc_423_20 rfl ?_
  refine Bod.bip 9 (by decide) dc_423_21 ?_
  refine Bod.icF dc_423_23 rfl (k2_ne_F (k_eq q 9 rfl rfl (by omega))) ?_
  refine Bod.go dc_423_26 rfl ?_
  refine Bod.get dc_423_27 fr_423_561 (mk_61 _) rfl ?_
  exact Bod.retI dc_423_30 rt_423
theorem count_in8 {d q : Nat} {S S1 Sf : cS} {v : Option Value} (hq : q ≤ 9) (hS : Ans (d + 4) 366 [.ref 61] S none S1) (h8 : q = 8) (hn : Bod (d + 4) 423 39 (sm_p1 (sm_p1 (lv_args 0 [.ref 61, .int (nI q)]) 2 (.int (nI 0))) 3 (.int (nI 0))) [] S1 v Sf) : Ans (d + 5) 423 [.ref 61, .int (nI q)] S v Sf := by
  refine Ans.of (by rw [ml_423]; exact Nat.le_of_ble_eq_true rfl) ?_
  refine Bod.go dc_423_0 rfl ?_
  refine Bod.go dc_423_1 rfl ?_
  refine Bod.go dc_423_2 rfl ?_
  refine Bod.ldc2 dc_423_3 cj_423_869 ?_
  refine Bod.stat (r := []) dc_423_6 kr_423_680 (Or.inl rfl) (by rw [np_284]; rfl) (by rw [np_284]; rfl) (by rw [np_284]; exact Nat.le_of_ble_eq_true rfl) (Nat.le_of_ble_eq_true rfl) (in_yesA  (q9_0 q (by omega)) (q9_9 q (by omega))) ?_
  show Bod _ _ _ _ [_] _ _ _
  refine Bod.ifT dc_423_9 rfl (k1_ne_T (by decide)) ?_
  refine Bod.go dc_423_14 rfl ?_
  refine Bod.virt (r := []) dc_423_15 kr_423_527 ⟨Or.inl rfl, ow_366, cl_14⟩ (by rw [np_366]; rfl) (by rw [np_366]; rfl) (ob_of (mk_61 _)) (Nat.le_of_ble_eq_true rfl) (hS  ) ?_
  show Bod _ _ _ _ [] _ _ _
  refine Bod.ic 0 (by decide) dc_423_18 ?_
  refine Bod.istn dc_423_19 (by rw [ml_423]; exact Nat.le_of_ble_eq_true rfl) ?_
  refine Bod.go dc_423_20 rfl ?_
  refine Bod.bip 9 (by decide) dc_423_21 ?_
  refine Bod.icT dc_423_23 rfl (k2_ne_T (k_ne q 9 rfl rfl (by omega) (by omega) (by omega))) ?_
  refine Bod.go dc_423_31 rfl ?_
  refine Bod.bip 8 (by decide) dc_423_32 ?_
  refine Bod.icF dc_423_34 rfl (k2_ne_F (k_eq q 8 rfl rfl (by omega))) ?_
  refine Bod.ic 0 (by decide) dc_423_37 ?_
  refine Bod.istn dc_423_38 (by rw [ml_423]; exact Nat.le_of_ble_eq_true rfl) ?_
  exact hn
theorem count_in7 {d q : Nat} {S S1 Sf : cS} {v : Option Value} (hq : q ≤ 9) (hS : Ans (d + 4) 366 [.ref 61] S none S1) (h7 : q ≤ 7) (hn : Bod (d + 4) 423 70 (sm_p1 (sm_p1 (lv_args 0 [.ref 61, .int (nI q)]) 2 (.int (nI 0))) 3 (.int (nI 0))) [] S1 v Sf) : Ans (d + 5) 423 [.ref 61, .int (nI q)] S v Sf := by
  refine Ans.of (by rw [ml_423]; exact Nat.le_of_ble_eq_true rfl) ?_
  refine Bod.go dc_423_0 rfl ?_
  refine Bod.go dc_423_1 rfl ?_
  refine Bod.go dc_423_2 rfl ?_
  refine Bod.ldc2 dc_423_3 cj_423_869 ?_
  refine Bod.stat (r := []) dc_423_6 kr_423_680 (Or.inl rfl) (by rw [np_284]; rfl) (by rw [np_284]; rfl) (by rw [np_284]; exact Nat.le_of_ble_eq_true rfl) (Nat.le_of_ble_eq_true rfl) (in_yesA  (q9_0 q (by omega)) (q9_9 q (by omega))) ?_
  show Bod _ _ _ _ [_] _ _ _
  refine Bod.ifT dc_423_9 rfl (k1_ne_T (by decide)) ?_
  refine Bod.go dc_423_14 rfl ?_
  refine Bod.virt (r := []) dc_423_15 kr_423_527 ⟨Or.inl rfl, ow_366, cl_14⟩ (by rw [np_366]; rfl) (by rw [np_366]; rfl) (ob_of (mk_61 _)) (Nat.le_of_ble_eq_true rfl) (hS  ) ?_
  show Bod _ _ _ _ [] _ _ _
  refine Bod.ic 0 (by decide) dc_423_18 ?_
  refine Bod.istn dc_423_19 (by rw [ml_423]; exact Nat.le_of_ble_eq_true rfl) ?_
  refine Bod.go dc_423_20 rfl ?_
  refine Bod.bip 9 (by decide) dc_423_21 ?_
  refine Bod.icT dc_423_23 rfl (k2_ne_T (k_ne q 9 rfl rfl (by omega) (by omega) (by omega))) ?_
  refine Bod.go dc_423_31 rfl ?_
  refine Bod.bip 8 (by decide) dc_423_32 ?_
  refine Bod.icT dc_423_34 rfl (k2_ne_T (k_ne q 8 rfl rfl (by omega) (by omega) (by omega))) ?_
  refine Bod.ic 0 (by decide) dc_423_68 ?_
  refine Bod.istn dc_423_69 (by rw [ml_423]; exact Nat.le_of_ble_eq_true rfl) ?_
  exact hn
def rBound (S : cS) (g3 nn : Nat) : Nat := sumN (fun i => if sA S g3 i = Int32.ofInt (-1) then 0 else 1) nn
theorem count_l8 {d q nn g3 gn : Nat} {S : cS} (hnn : sI S 6102 = nI nn) (hv3 : sV S 6103 = .ref g3) (hg3 : isK S g3 0 gn) (hnl : nn ≤ gn) (hgn : gn < 2 ^ 20) : ∀ (r k n : Nat), k + r = nn → n = rBound S g3 k → Bod d 423 39 (sm_p1 (sm_p1 (lv_args 0 [.ref 61, .int (nI q)]) 2 (.int (nI n))) 3 (.int (nI k))) [] S (some (.int (nI (rBound S g3 nn)))) S := by
  intro r
  induction r with
  | zero =>
    intro k n hk hn
    have e : rBound S g3 nn = n := by rw [hn, show k = nn by omega]
    rw [e]
    refine Bod.go dc_423_39 rfl ?_
    refine Bod.go dc_423_40 rfl ?_
    refine Bod.get dc_423_41 fr_423_1 (mk_61 _) rfl ?_
    refine Bod.eqI (nI nn) (by first | assumption | rfl | exact congrArg nI (by omega) | (simp (disch := omega) only [rI, rIe, rA, rIA, rLA, rJA, rVI, rQI, rVA, rQA, upd_at,  rAI, rLI, rJI, nI_add, pk_sub, kc_0, kc_1, kc_2, kc_3, kc_4, kc_5, reduceIte, Nat.reduceEqDiff, Nat.add_zero, rI_hold, rI_hold, rL_hold, hnn]; done)) ?_
    refine Bod.icT dc_423_44 rfl (k2_ge_T k nn rfl rfl (by omega) (by omega)) ?_
    refine Bod.go dc_423_66 rfl ?_
    exact Bod.retI dc_423_67 rt_423
  | succ r ih =>
    intro k n hk hn
    by_cases hc : sA S g3 k = Int32.ofInt (-1)
    · have hx := ih (k + 1) n (by omega) (by
        show n = rBound S g3 k + (if sA S g3 k = Int32.ofInt (-1) then 0 else 1)
        rw [if_pos hc]; omega)
      refine Bod.go dc_423_39 rfl ?_
      refine Bod.go dc_423_40 rfl ?_
      refine Bod.get dc_423_41 fr_423_1 (mk_61 _) rfl ?_
      refine Bod.eqI (nI nn) (by first | assumption | rfl | exact congrArg nI (by omega) | (simp (disch := omega) only [rI, rIe, rA, rIA, rLA, rJA, rVI, rQI, rVA, rQA, upd_at,  rAI, rLI, rJI, nI_add, pk_sub, kc_0, kc_1, kc_2, kc_3, kc_4, kc_5, reduceIte, Nat.reduceEqDiff, Nat.add_zero, rI_hold, rI_hold, rL_hold, hnn]; done)) ?_
      refine Bod.icF dc_423_44 rfl (k2_ge_F k nn rfl rfl (by omega) (by omega)) ?_
      refine Bod.go dc_423_47 rfl ?_
      refine Bod.get dc_423_48 fr_423_24 (mk_61 _) rfl ?_
      refine Bod.eqV (.ref g3) hv3 ?_
      refine Bod.go dc_423_51 rfl ?_
      refine Bod.ialdN (N := gn) k rfl (by omega) (by omega) dc_423_52 (mk_isI hg3) ?_
      refine Bod.go dc_423_53 rfl ?_
      refine Bod.icT dc_423_54 rfl (k2_eq_T hc) ?_
      refine Bod.incN (k + 1) (by rw [kc_1, nI_add]) dc_423_60 (by rw [ml_423]; exact Nat.le_of_ble_eq_true rfl) rfl ?_
      refine Bod.go dc_423_63 rfl ?_
      exact Bod.lv (sm_p1_p1 _ 3 _ _) hx
    · have hx := ih (k + 1) (n + 1) (by omega) (by
        show n + 1 = rBound S g3 k + (if sA S g3 k = Int32.ofInt (-1) then 0 else 1)
        rw [if_neg hc]; omega)
      refine Bod.go dc_423_39 rfl ?_
      refine Bod.go dc_423_40 rfl ?_
      refine Bod.get dc_423_41 fr_423_1 (mk_61 _) rfl ?_
      refine Bod.eqI (nI nn) (by first | assumption | rfl | exact congrArg nI (by omega) | (simp (disch := omega) only [rI, rIe, rA, rIA, rLA, rJA, rVI, rQI, rVA, rQA, upd_at,  rAI, rLI, rJI, nI_add, pk_sub, kc_0, kc_1, kc_2, kc_3, kc_4, kc_5, reduceIte, Nat.reduceEqDiff, Nat.add_zero, rI_hold, rI_hold, rL_hold, hnn]; done)) ?_
      refine Bod.icF dc_423_44 rfl (k2_ge_F k nn rfl rfl (by omega) (by omega)) ?_
      refine Bod.go dc_423_47 rfl ?_
      refine Bod.get dc_423_48 fr_423_24 (mk_61 _) rfl ?_
      refine Bod.eqV (.ref g3) hv3 ?_
      refine Bod.go dc_423_51 rfl ?_
      refine Bod.ialdN (N := gn) k rfl (by omega) (by omega) dc_423_52 (mk_isI hg3) ?_
      refine Bod.go dc_423_53 rfl ?_
      refine Bod.icF dc_423_54 rfl (k2_eq_F hc) ?_
      refine Bod.incN (n + 1) (by rw [kc_1, nI_add]) dc_423_57 (by rw [ml_423]; exact Nat.le_of_ble_eq_true rfl) rfl ?_
      refine Bod.incN (k + 1) (by rw [kc_1, nI_add]) dc_423_60 (by rw [ml_423]; exact Nat.le_of_ble_eq_true rfl) rfl ?_
      refine Bod.go dc_423_63 rfl ?_
      exact Bod.lv (sm_p1_4 (p := 2) (q := 3) (by decide) _ rfl rfl) hx
theorem count_dead {d q k n : Nat} {S Sf : cS} {v : Option Value} (hq9 : q ≤ 9) (hk : k < 1500) (he : sA S 87 k = 0) (hn : Bod d 423 70 (sm_p1 (sm_p1 (lv_args 0 [.ref 61, .int (nI q)]) 2 (.int (nI n))) 3 (.int (nI (k + 1)))) [] S v Sf) : Bod d 423 70 (sm_p1 (sm_p1 (lv_args 0 [.ref 61, .int (nI q)]) 2 (.int (nI n))) 3 (.int (nI k))) [] S v Sf := by
  refine Bod.go dc_423_70 rfl ?_
  refine Bod.sip 1500 (by decide) dc_423_71 ?_
  refine Bod.icF dc_423_74 rfl (k2_ge_F k 1500 rfl rfl (by omega) (by omega)) ?_
  refine Bod.go dc_423_77 rfl ?_
  refine Bod.get dc_423_78 fr_423_481 (mk_61 _) rfl ?_
  refine Bod.go dc_423_81 rfl ?_
  refine Bod.baldN k rfl (by omega) (by omega) dc_423_82 (mk_87 _) (Or.inr rfl) ?_
  refine Bod.ifT dc_423_83 rfl (k1_eq_T he) ?_
  refine Bod.incN (k + 1) (by rw [kc_1, nI_add]) dc_423_106 (by rw [ml_423]; exact Nat.le_of_ble_eq_true rfl) rfl ?_
  refine Bod.go dc_423_109 rfl ?_
  exact Bod.lv (sm_p1_p1 _ 3 _ _) hn
theorem count_all {d q k n : Nat} {S Sf : cS} {v : Option Value} (hq9 : q ≤ 9) (hk : k < 1500) (he : sA S 87 k ≠ 0) (hq0 : q = 0) (hn : Bod d 423 70 (sm_p1 (sm_p1 (lv_args 0 [.ref 61, .int (nI q)]) 2 (.int (nI (n + 1)))) 3 (.int (nI (k + 1)))) [] S v Sf) : Bod d 423 70 (sm_p1 (sm_p1 (lv_args 0 [.ref 61, .int (nI q)]) 2 (.int (nI n))) 3 (.int (nI k))) [] S v Sf := by
  refine Bod.go dc_423_70 rfl ?_
  refine Bod.sip 1500 (by decide) dc_423_71 ?_
  refine Bod.icF dc_423_74 rfl (k2_ge_F k 1500 rfl rfl (by omega) (by omega)) ?_
  refine Bod.go dc_423_77 rfl ?_
  refine Bod.get dc_423_78 fr_423_481 (mk_61 _) rfl ?_
  refine Bod.go dc_423_81 rfl ?_
  refine Bod.baldN k rfl (by omega) (by omega) dc_423_82 (mk_87 _) (Or.inr rfl) ?_
  refine Bod.ifF dc_423_83 rfl (k1_eq_F he) ?_
  refine Bod.go dc_423_86 rfl ?_
  refine Bod.ifT dc_423_87 rfl (k1_eq_T (k_eq q 0 rfl rfl (by omega))) ?_
  refine Bod.incN (n + 1) (by rw [kc_1, nI_add]) dc_423_103 (by rw [ml_423]; exact Nat.le_of_ble_eq_true rfl) rfl ?_
  refine Bod.incN (k + 1) (by rw [kc_1, nI_add]) dc_423_106 (by rw [ml_423]; exact Nat.le_of_ble_eq_true rfl) rfl ?_
  refine Bod.go dc_423_109 rfl ?_
  exact Bod.lv (sm_p1_4 (p := 2) (q := 3) (by decide) _ rfl rfl) hn
theorem count_same {d q k n t N : Nat} {S Sf : cS} {v : Option Value} (hq9 : q ≤ 9) (hk : k < 1500) (he : sA S 87 k ≠ 0) (hq0 : 1 ≤ q) (hq : sQ S 86 k = some t) (ht : 108 ≤ t) (hs : (sS S)[t - 108]? = some (13, N)) (hc : sI S (100 * t + 0) = nI q) (hn : Bod d 423 70 (sm_p1 (sm_p1 (lv_args 0 [.ref 61, .int (nI q)]) 2 (.int (nI (n + 1)))) 3 (.int (nI (k + 1)))) [] S v Sf) : Bod d 423 70 (sm_p1 (sm_p1 (lv_args 0 [.ref 61, .int (nI q)]) 2 (.int (nI n))) 3 (.int (nI k))) [] S v Sf := by
  refine Bod.go dc_423_70 rfl ?_
  refine Bod.sip 1500 (by decide) dc_423_71 ?_
  refine Bod.icF dc_423_74 rfl (k2_ge_F k 1500 rfl rfl (by omega) (by omega)) ?_
  refine Bod.go dc_423_77 rfl ?_
  refine Bod.get dc_423_78 fr_423_481 (mk_61 _) rfl ?_
  refine Bod.go dc_423_81 rfl ?_
  refine Bod.baldN k rfl (by omega) (by omega) dc_423_82 (mk_87 _) (Or.inr rfl) ?_
  refine Bod.ifF dc_423_83 rfl (k1_eq_F he) ?_
  refine Bod.go dc_423_86 rfl ?_
  refine Bod.ifF dc_423_87 rfl (k1_eq_F (k_ne q 0 rfl rfl (by omega) (by omega) (by omega))) ?_
  refine Bod.go dc_423_90 rfl ?_
  refine Bod.get dc_423_91 fr_423_485 (mk_61 _) rfl ?_
  refine Bod.go dc_423_94 rfl ?_
  refine Bod.aaldR (N := 1500) (b := t) k rfl (by omega) (by omega) hq dc_423_95 (mk_86 _) ht_5 ?_
  refine Bod.get dc_423_96 fr_423_531 (mk_thing ht hs) rfl ?_
  refine Bod.go dc_423_99 rfl ?_
  refine Bod.icF dc_423_100 rfl (k2_ne_F hc) ?_
  refine Bod.incN (n + 1) (by rw [kc_1, nI_add]) dc_423_103 (by rw [ml_423]; exact Nat.le_of_ble_eq_true rfl) rfl ?_
  refine Bod.incN (k + 1) (by rw [kc_1, nI_add]) dc_423_106 (by rw [ml_423]; exact Nat.le_of_ble_eq_true rfl) rfl ?_
  refine Bod.go dc_423_109 rfl ?_
  exact Bod.lv (sm_p1_4 (p := 2) (q := 3) (by decide) _ rfl rfl) hn
theorem count_othr {d q k n t N : Nat} {S Sf : cS} {v : Option Value} (hq9 : q ≤ 9) (hk : k < 1500) (he : sA S 87 k ≠ 0) (hq0 : 1 ≤ q) (hq : sQ S 86 k = some t) (ht : 108 ≤ t) (hs : (sS S)[t - 108]? = some (13, N)) (hc : sI S (100 * t + 0) ≠ nI q) (hn : Bod d 423 70 (sm_p1 (sm_p1 (lv_args 0 [.ref 61, .int (nI q)]) 2 (.int (nI n))) 3 (.int (nI (k + 1)))) [] S v Sf) : Bod d 423 70 (sm_p1 (sm_p1 (lv_args 0 [.ref 61, .int (nI q)]) 2 (.int (nI n))) 3 (.int (nI k))) [] S v Sf := by
  refine Bod.go dc_423_70 rfl ?_
  refine Bod.sip 1500 (by decide) dc_423_71 ?_
  refine Bod.icF dc_423_74 rfl (k2_ge_F k 1500 rfl rfl (by omega) (by omega)) ?_
  refine Bod.go dc_423_77 rfl ?_
  refine Bod.get dc_423_78 fr_423_481 (mk_61 _) rfl ?_
  refine Bod.go dc_423_81 rfl ?_
  refine Bod.baldN k rfl (by omega) (by omega) dc_423_82 (mk_87 _) (Or.inr rfl) ?_
  refine Bod.ifF dc_423_83 rfl (k1_eq_F he) ?_
  refine Bod.go dc_423_86 rfl ?_
  refine Bod.ifF dc_423_87 rfl (k1_eq_F (k_ne q 0 rfl rfl (by omega) (by omega) (by omega))) ?_
  refine Bod.go dc_423_90 rfl ?_
  refine Bod.get dc_423_91 fr_423_485 (mk_61 _) rfl ?_
  refine Bod.go dc_423_94 rfl ?_
  refine Bod.aaldR (N := 1500) (b := t) k rfl (by omega) (by omega) hq dc_423_95 (mk_86 _) ht_5 ?_
  refine Bod.get dc_423_96 fr_423_531 (mk_thing ht hs) rfl ?_
  refine Bod.go dc_423_99 rfl ?_
  refine Bod.icT dc_423_100 rfl (k2_ne_T hc) ?_
  refine Bod.incN (k + 1) (by rw [kc_1, nI_add]) dc_423_106 (by rw [ml_423]; exact Nat.le_of_ble_eq_true rfl) rfl ?_
  refine Bod.go dc_423_109 rfl ?_
  exact Bod.lv (sm_p1_p1 _ 3 _ _) hn
theorem count_e7 {d q k n : Nat} {S : cS} (hk : k = 1500) : Bod d 423 70 (sm_p1 (sm_p1 (lv_args 0 [.ref 61, .int (nI q)]) 2 (.int (nI n))) 3 (.int (nI k))) [] S (some (.int (nI n))) S := by
  refine Bod.go dc_423_70 rfl ?_
  refine Bod.sip 1500 (by decide) dc_423_71 ?_
  refine Bod.icT dc_423_74 rfl (k2_ge_T k 1500 rfl rfl (by omega) (by omega)) ?_
  refine Bod.go dc_423_112 rfl ?_
  exact Bod.retI dc_423_113 rt_423
theorem count_l7 {d q : Nat} {S : cS} (hq9 : q ≤ 9) (hW : ∀ k, k < 1500 → sA S 87 k ≠ 0 → r_ok S k) : ∀ (r k n : Nat), k + r = 1500 → n = sumN (fun p => if sA S 87 p ≠ 0 ∧ (q = 0 ∨ sI S (100 * r_t S p + 0) = nI q) then 1 else 0) k → Bod d 423 70 (sm_p1 (sm_p1 (lv_args 0 [.ref 61, .int (nI q)]) 2 (.int (nI n))) 3 (.int (nI k))) [] S (some (.int (nI (rKind S q)))) S := by
  intro r
  induction r with
  | zero =>
    intro k n hk hn
    obtain rfl : k = 1500 := by omega
    rw [hn]
    exact count_e7 rfl
  | succ r ih =>
    intro k n hk hn
    have step : ∀ m, (n + m = sumN (fun p => if sA S 87 p ≠ 0 ∧ (q = 0 ∨ sI S (100 * r_t S p + 0) = nI q) then 1 else 0) k + (if sA S 87 k ≠ 0 ∧ (q = 0 ∨ sI S (100 * r_t S k + 0) = nI q) then 1 else 0)) → Bod d 423 70 (sm_p1 (sm_p1 (lv_args 0 [.ref 61, .int (nI q)]) 2 (.int (nI (n + m)))) 3 (.int (nI (k + 1)))) [] S (some (.int (nI (rKind S q)))) S := fun m hm => ih (k + 1) (n + m) (by omega) hm
    by_cases he : sA S 87 k = 0
    · exact count_dead hq9 (by omega) he (step 0 (by rw [if_neg (fun c => c.1 he)]; omega))
    · by_cases h0 : q = 0
      · exact count_all hq9 (by omega) he h0 (step 1 (by rw [if_pos ⟨he, Or.inl h0⟩]; omega))
      · obtain ⟨N, t1, t2, t3⟩ := r_ok_t (hW k (by omega) he)
        by_cases hc : sI S (100 * r_t S k + 0) = nI q
        · exact count_same hq9 (by omega) he (by omega) t1 t2 t3 hc (step 1 (by rw [if_pos ⟨he, Or.inr hc⟩]; omega))
        · exact count_othr hq9 (by omega) he (by omega) t1 t2 t3 hc (step 0 (by rw [if_neg (fun c => c.2.elim h0 hc)]; omega))
