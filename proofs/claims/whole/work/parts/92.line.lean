/-! LINES of the class: a turn of findLine over a line without tokens; nextLine, begin -/
theorem dc_36_83 : decode (sm_cc 36) 83 = .ok (.aload_n 0, 1) := by decide +kernel
theorem dc_36_84 : decode (sm_cc 36) 84 = .ok (.invokevirtual 47, 3) := by decide +kernel
theorem ow_39 : 3 = sm_ow 39 := by decide +kernel
theorem kr_36_47 : sm_at mt_k (sm_ow 36) 47 = some (47, 0, 39, 0, 973) := by decide +kernel
theorem np_39 : sm_np 39 = 0 := by decide +kernel
theorem dc_36_87 : decode (sm_cc 36) 87 = .ok (.iinc 1 (1), 3) := by decide +kernel
theorem dc_36_90 : decode (sm_cc 36) 90 = .ok (.goto (-88), 3) := by decide +kernel
theorem dc_86_13 : decode (sm_cc 86) 13 = .ok (.aload_n 0, 1) := by decide +kernel
theorem dc_86_14 : decode (sm_cc 86) 14 = .ok (.invokevirtual 47, 3) := by decide +kernel
theorem kr_86_47 : sm_at mt_k (sm_ow 86) 47 = some (47, 0, 39, 0, 973) := by decide +kernel
theorem dc_86_17 : decode (sm_cc 86) 17 = .ok (.aload_n 0, 1) := by decide +kernel
theorem dc_86_18 : decode (sm_cc 86) 18 = .ok (.invokevirtual 35, 3) := by decide +kernel
theorem ow_36 : 3 = sm_ow 36 := by decide +kernel
theorem kr_86_35 : sm_at mt_k (sm_ow 86) 35 = some (35, 0, 36, 0, 961) := by decide +kernel
theorem np_36 : sm_np 36 = 0 := by decide +kernel
theorem dc_86_21 : decode (sm_cc 86) 21 = .ok (.aload_n 0, 1) := by decide +kernel
theorem dc_86_22 : decode (sm_cc 86) 22 = .ok (.getfield 38, 3) := by decide +kernel
theorem dc_86_25 : decode (sm_cc 86) 25 = .ok (.iconst 2, 1) := by decide +kernel
theorem dc_86_26 : decode (sm_cc 86) 26 = .ok (.if_icmp .ne (7), 3) := by decide +kernel
theorem dc_86_33 : decode (sm_cc 86) 33 = .ok (.return_, 1) := by decide +kernel
theorem dc_86_29 : decode (sm_cc 86) 29 = .ok (.aload_n 0, 1) := by decide +kernel
theorem dc_86_30 : decode (sm_cc 86) 30 = .ok (.invokevirtual 41, 3) := by decide +kernel
theorem kr_86_41 : sm_at mt_k (sm_ow 86) 41 = some (41, 0, 40, 0, 977) := by decide +kernel
theorem dc_35_0 : decode (sm_cc 35) 0 = .ok (.aload_n 0, 1) := by decide +kernel
theorem dc_35_1 : decode (sm_cc 35) 1 = .ok (.iload_n 1, 1) := by decide +kernel
theorem dc_35_2 : decode (sm_cc 35) 2 = .ok (.putfield 19, 3) := by decide +kernel
theorem fr_35_19 : sm_at mt_f (sm_ow 35) 19 = some (19, 3, 2, 0, 592) := by decide +kernel
theorem dc_35_5 : decode (sm_cc 35) 5 = .ok (.aload_n 0, 1) := by decide +kernel
theorem dc_35_6 : decode (sm_cc 35) 6 = .ok (.iconst 0, 1) := by decide +kernel
theorem dc_35_7 : decode (sm_cc 35) 7 = .ok (.putfield 23, 3) := by decide +kernel
theorem fr_35_23 : sm_at mt_f (sm_ow 35) 23 = some (23, 3, 3, 0, 593) := by decide +kernel
theorem dc_35_10 : decode (sm_cc 35) 10 = .ok (.aload_n 0, 1) := by decide +kernel
theorem dc_35_11 : decode (sm_cc 35) 11 = .ok (.iconst 0, 1) := by decide +kernel
theorem dc_35_12 : decode (sm_cc 35) 12 = .ok (.putfield 26, 3) := by decide +kernel
theorem fr_35_26 : sm_at mt_f (sm_ow 35) 26 = some (26, 3, 13, 0, 613) := by decide +kernel
theorem dc_35_15 : decode (sm_cc 35) 15 = .ok (.aload_n 0, 1) := by decide +kernel
theorem dc_35_16 : decode (sm_cc 35) 16 = .ok (.iconst 0, 1) := by decide +kernel
theorem dc_35_17 : decode (sm_cc 35) 17 = .ok (.putfield 29, 3) := by decide +kernel
theorem fr_35_29 : sm_at mt_f (sm_ow 35) 29 = some (29, 3, 6, 0, 599) := by decide +kernel
theorem dc_35_20 : decode (sm_cc 35) 20 = .ok (.aload_n 0, 1) := by decide +kernel
theorem dc_35_21 : decode (sm_cc 35) 21 = .ok (.iconst 1, 1) := by decide +kernel
theorem dc_35_22 : decode (sm_cc 35) 22 = .ok (.putfield 32, 3) := by decide +kernel
theorem fr_35_32 : sm_at mt_f (sm_ow 35) 32 = some (32, 3, 7, 0, 601) := by decide +kernel
theorem dc_35_25 : decode (sm_cc 35) 25 = .ok (.aload_n 0, 1) := by decide +kernel
theorem dc_35_26 : decode (sm_cc 35) 26 = .ok (.invokevirtual 35, 3) := by decide +kernel
theorem kr_35_35 : sm_at mt_k (sm_ow 35) 35 = some (35, 0, 36, 0, 961) := by decide +kernel
theorem dc_35_29 : decode (sm_cc 35) 29 = .ok (.aload_n 0, 1) := by decide +kernel
theorem dc_35_30 : decode (sm_cc 35) 30 = .ok (.getfield 38, 3) := by decide +kernel
theorem fr_35_38 : sm_at mt_f (sm_ow 35) 38 = some (38, 3, 5, 0, 597) := by decide +kernel
theorem dc_35_33 : decode (sm_cc 35) 33 = .ok (.iconst 2, 1) := by decide +kernel
theorem dc_35_34 : decode (sm_cc 35) 34 = .ok (.if_icmp .ne (7), 3) := by decide +kernel
theorem dc_35_41 : decode (sm_cc 35) 41 = .ok (.return_, 1) := by decide +kernel
theorem rt_35 : sm_rt 35 = none := by decide +kernel
theorem ml_35 : sm_ml 35 = 2 := by decide +kernel
theorem dc_35_37 : decode (sm_cc 35) 37 = .ok (.aload_n 0, 1) := by decide +kernel
theorem dc_35_38 : decode (sm_cc 35) 38 = .ok (.invokevirtual 41, 3) := by decide +kernel
theorem kr_35_41 : sm_at mt_k (sm_ow 35) 41 = some (41, 0, 40, 0, 977) := by decide +kernel
theorem findLine_nl10 {d n p q e t l : Nat} {S : cS} (hM : n ≤ 3000) (hn : sI S 3102 = nI n) (hp : sI S 3103 = nI p) (hl : sI S 3107 = nI l) (ht : t ≤ n) (hpq : p ≤ q) (hb : ∀ x, p ≤ x → x < q → c_byte S x = 32) (hq : q < n) (he : q = n ∨ c_byte S q ≠ 32) {b : Nat} (hbq : c_byte S q = b) (hqe : q ≤ e) (hx : ∀ x, q ≤ x → x < e → c_byte S x ≠ 10) {Sf : cS} (h10 : b = 10) (hen : e < n) (hey : c_byte S e = 10) (hB : Bod (d + 3) 36 2 [(1, .int (nI (t + 1))), (2, .int (nI p)), (0, .ref 31)] [] (wI 3107 (nI (l + 1)) (wI 3103 (nI (e + 1)) (wI 3103 (nI e) (wI 3103 (nI q) S)))) none Sf) : Bod (d + 3) 36 2 [(1, .int (nI t)), (0, .ref 31)] [] S none Sf := by
  have hbq2 : b < 256 := by rw [← hbq]; exact (c_byte_eq S q).2
  refine Bod.go dc_36_2 rfl ?_
  refine Bod.go dc_36_3 rfl ?_
  refine Bod.get dc_36_4 fr_36_19 (mk_31 _) rfl ?_
  refine Bod.eqI (nI n) (by first | assumption | rfl | exact congrArg nI (by omega) | (simp (disch := omega) only [rI, rIe, rA, rIA, rLA, rJA, rVI, rQI, rVA, rQA, upd_at,  rAI, rLI, rJI, nI_add, pk_sub, kc_0, kc_1, kc_2, kc_3, kc_4, kc_5, reduceIte, Nat.reduceEqDiff, Nat.add_zero, rI_hold, rI_hold, rL_hold, hn, hp, hl]; done)) ?_
  refine Bod.icF dc_36_7 rfl (k2_gt_F t n rfl rfl (by omega) (by omega)) ?_
  refine Bod.go dc_36_10 rfl ?_
  refine Bod.get dc_36_11 fr_36_23 (mk_31 _) rfl ?_
  refine Bod.eqI (nI p) (by first | assumption | rfl | exact congrArg nI (by omega) | (simp (disch := omega) only [rI, rIe, rA, rIA, rLA, rJA, rVI, rQI, rVA, rQA, upd_at,  rAI, rLI, rJI, nI_add, pk_sub, kc_0, kc_1, kc_2, kc_3, kc_4, kc_5, reduceIte, Nat.reduceEqDiff, Nat.add_zero, rI_hold, rI_hold, rL_hold, hn, hp, hl]; done)) ?_
  refine Bod.istn dc_36_14 (by rw [ml_36]; exact Nat.le_of_ble_eq_true rfl) ?_
  refine Bod.go dc_36_15 rfl ?_
  refine Bod.virt (r := []) dc_36_16 kr_36_54 ⟨Or.inl rfl, ow_37, cl_3⟩ (by rw [np_37]; rfl) (by rw [np_37]; rfl) (ob_of (mk_31 _)) (Nat.le_of_ble_eq_true rfl) (skipBlanks_ev (n := n) (p := p) (q := q) (by first | assumption | rfl | exact congrArg nI (by omega) | (simp (disch := omega) only [rI, rIe, rA, rIA, rLA, rJA, rVI, rQI, rVA, rQA, upd_at,  rAI, rLI, rJI, nI_add, pk_sub, kc_0, kc_1, kc_2, kc_3, kc_4, kc_5, reduceIte, Nat.reduceEqDiff, Nat.add_zero, rI_hold, rI_hold, rL_hold, hn, hp, hl]; done)) (by first | assumption | rfl | exact congrArg nI (by omega) | (simp (disch := omega) only [rI, rIe, rA, rIA, rLA, rJA, rVI, rQI, rVA, rQA, upd_at,  rAI, rLI, rJI, nI_add, pk_sub, kc_0, kc_1, kc_2, kc_3, kc_4, kc_5, reduceIte, Nat.reduceEqDiff, Nat.add_zero, rI_hold, rI_hold, rL_hold, hn, hp, hl]; done)) (by omega) (by omega) (by omega) hb he) ?_
  show Bod _ _ _ _ [] _ _ _
  refine Bod.go dc_36_19 rfl ?_
  refine Bod.get dc_36_20 fr_36_23 (mk_31 _) rfl ?_
  refine Bod.eqI (nI q) (by first | (simp (disch := omega) only [rI, rIe, rA, rIA, rLA, rJA, rVI, rQI, rVA, rQA, upd_at,  rAI, rLI, rJI, nI_add, pk_sub, kc_0, kc_1, kc_2, kc_3, kc_4, kc_5, reduceIte, Nat.reduceEqDiff, Nat.add_zero, rI_hold, rI_hold, rL_hold, hn, hp, hl]; done) | (simp (disch := omega) only [rI, rIe, rA, rIA, rLA, rJA, rVI, rQI, rVA, rQA, upd_at,  rAI, rLI, rJI, nI_add, pk_sub, kc_0, kc_1, kc_2, kc_3, kc_4, kc_5, reduceIte, Nat.reduceEqDiff, Nat.add_zero, rI_hold, rI_hold, rL_hold, hn, hp, hl]; exact congrArg nI (by omega))) ?_
  refine Bod.go dc_36_23 rfl ?_
  refine Bod.get dc_36_24 fr_36_19 (mk_31 _) rfl ?_
  refine Bod.eqI (nI n) (by first | (simp (disch := omega) only [rI, rIe, rA, rIA, rLA, rJA, rVI, rQI, rVA, rQA, upd_at,  rAI, rLI, rJI, nI_add, pk_sub, kc_0, kc_1, kc_2, kc_3, kc_4, kc_5, reduceIte, Nat.reduceEqDiff, Nat.add_zero, rI_hold, rI_hold, rL_hold, hn, hp, hl]; done) | (simp (disch := omega) only [rI, rIe, rA, rIA, rLA, rJA, rVI, rQI, rVA, rQA, upd_at,  rAI, rLI, rJI, nI_add, pk_sub, kc_0, kc_1, kc_2, kc_3, kc_4, kc_5, reduceIte, Nat.reduceEqDiff, Nat.add_zero, rI_hold, rI_hold, rL_hold, hn, hp, hl]; exact congrArg nI (by omega))) ?_
  refine Bod.icT dc_36_27 rfl (k2_lt_T q n rfl rfl (by omega) (by omega)) ?_
  refine Bod.go dc_36_33 rfl ?_
  refine Bod.go dc_36_34 rfl ?_
  refine Bod.get dc_36_35 fr_36_23 (mk_31 _) rfl ?_
  refine Bod.eqI (nI q) (by first | (simp (disch := omega) only [rI, rIe, rA, rIA, rLA, rJA, rVI, rQI, rVA, rQA, upd_at,  rAI, rLI, rJI, nI_add, pk_sub, kc_0, kc_1, kc_2, kc_3, kc_4, kc_5, reduceIte, Nat.reduceEqDiff, Nat.add_zero, rI_hold, rI_hold, rL_hold, hn, hp, hl]; done) | (simp (disch := omega) only [rI, rIe, rA, rIA, rLA, rJA, rVI, rQI, rVA, rQA, upd_at,  rAI, rLI, rJI, nI_add, pk_sub, kc_0, kc_1, kc_2, kc_3, kc_4, kc_5, reduceIte, Nat.reduceEqDiff, Nat.add_zero, rI_hold, rI_hold, rL_hold, hn, hp, hl]; exact congrArg nI (by omega))) ?_
  refine Bod.virt (r := []) dc_36_38 kr_36_50 ⟨Or.inl rfl, ow_38, cl_3⟩ (by rw [np_38]; rfl) (by rw [np_38]; rfl) (ob_of (mk_31 _)) (Nat.le_of_ble_eq_true rfl) (byteAt_n (n := n) (q := q) (b := b) (by first | (simp (disch := omega) only [rI, rIe, rA, rIA, rLA, rJA, rVI, rQI, rVA, rQA, upd_at,  rAI, rLI, rJI, nI_add, pk_sub, kc_0, kc_1, kc_2, kc_3, kc_4, kc_5, reduceIte, Nat.reduceEqDiff, Nat.add_zero, rI_hold, rI_hold, rL_hold, hn, hp, hl]; done) | (simp (disch := omega) only [rI, rIe, rA, rIA, rLA, rJA, rVI, rQI, rVA, rQA, upd_at,  rAI, rLI, rJI, nI_add, pk_sub, kc_0, kc_1, kc_2, kc_3, kc_4, kc_5, reduceIte, Nat.reduceEqDiff, Nat.add_zero, rI_hold, rI_hold, rL_hold, hn, hp, hl]; exact congrArg nI (by omega))) (by omega) (by omega) hbq) ?_
  show Bod _ _ _ _ [_] _ _ _
  refine Bod.bip 10 (by decide) dc_36_41 ?_
  refine Bod.icT dc_36_43 rfl (k2_eq_T (k_eq b 10 rfl rfl (by omega))) ?_
  refine Bod.go dc_36_83 rfl ?_
  refine Bod.virt (r := []) dc_36_84 kr_36_47 ⟨Or.inl rfl, ow_39, cl_3⟩ (by rw [np_39]; rfl) (by rw [np_39]; rfl) (ob_of (mk_31 _)) (Nat.le_of_ble_eq_true rfl) (skipLine_nl (n := n) (p := q) (q := e) (l := l) (by first | (simp (disch := omega) only [rI, rIe, rA, rIA, rLA, rJA, rVI, rQI, rVA, rQA, upd_at,  rAI, rLI, rJI, nI_add, pk_sub, kc_0, kc_1, kc_2, kc_3, kc_4, kc_5, reduceIte, Nat.reduceEqDiff, Nat.add_zero, rI_hold, rI_hold, rL_hold, hn, hp, hl]; done) | (simp (disch := omega) only [rI, rIe, rA, rIA, rLA, rJA, rVI, rQI, rVA, rQA, upd_at,  rAI, rLI, rJI, nI_add, pk_sub, kc_0, kc_1, kc_2, kc_3, kc_4, kc_5, reduceIte, Nat.reduceEqDiff, Nat.add_zero, rI_hold, rI_hold, rL_hold, hn, hp, hl]; exact congrArg nI (by omega))) (by first | (simp (disch := omega) only [rI, rIe, rA, rIA, rLA, rJA, rVI, rQI, rVA, rQA, upd_at,  rAI, rLI, rJI, nI_add, pk_sub, kc_0, kc_1, kc_2, kc_3, kc_4, kc_5, reduceIte, Nat.reduceEqDiff, Nat.add_zero, rI_hold, rI_hold, rL_hold, hn, hp, hl]; done) | (simp (disch := omega) only [rI, rIe, rA, rIA, rLA, rJA, rVI, rQI, rVA, rQA, upd_at,  rAI, rLI, rJI, nI_add, pk_sub, kc_0, kc_1, kc_2, kc_3, kc_4, kc_5, reduceIte, Nat.reduceEqDiff, Nat.add_zero, rI_hold, rI_hold, rL_hold, hn, hp, hl]; exact congrArg nI (by omega))) (by omega) (by omega) (by first | (simp (disch := omega) only [rI, rIe, rA, rIA, rLA, rJA, rVI, rQI, rVA, rQA, upd_at,  rAI, rLI, rJI, nI_add, pk_sub, kc_0, kc_1, kc_2, kc_3, kc_4, kc_5, reduceIte, Nat.reduceEqDiff, Nat.add_zero, rI_hold, rI_hold, rL_hold, hn, hp, hl]; done) | (simp (disch := omega) only [rI, rIe, rA, rIA, rLA, rJA, rVI, rQI, rVA, rQA, upd_at,  rAI, rLI, rJI, nI_add, pk_sub, kc_0, kc_1, kc_2, kc_3, kc_4, kc_5, reduceIte, Nat.reduceEqDiff, Nat.add_zero, rI_hold, rI_hold, rL_hold, hn, hp, hl]; exact congrArg nI (by omega))) (by omega) hx hey) ?_
  show Bod _ _ _ _ [] _ _ _
  refine Bod.incN (t + 1) (by rw [kc_1, nI_add]) dc_36_87 (by rw [ml_36]; exact Nat.le_of_ble_eq_true rfl) rfl ?_
  refine Bod.go dc_36_90 rfl ?_
  exact Bod.lv (by rfl) hB
theorem findLine_nl35 {d n p q e t l : Nat} {S : cS} (hM : n ≤ 3000) (hn : sI S 3102 = nI n) (hp : sI S 3103 = nI p) (hl : sI S 3107 = nI l) (ht : t ≤ n) (hpq : p ≤ q) (hb : ∀ x, p ≤ x → x < q → c_byte S x = 32) (hq : q < n) (he : q = n ∨ c_byte S q ≠ 32) {b : Nat} (hbq : c_byte S q = b) (hqe : q ≤ e) (hx : ∀ x, q ≤ x → x < e → c_byte S x ≠ 10) {Sf : cS} (h10 : b = 35) (hen : e < n) (hey : c_byte S e = 10) (hB : Bod (d + 3) 36 2 [(1, .int (nI (t + 1))), (2, .int (nI p)), (0, .ref 31)] [] (wI 3107 (nI (l + 1)) (wI 3103 (nI (e + 1)) (wI 3103 (nI e) (wI 3103 (nI q) S)))) none Sf) : Bod (d + 3) 36 2 [(1, .int (nI t)), (0, .ref 31)] [] S none Sf := by
  have hbq2 : b < 256 := by rw [← hbq]; exact (c_byte_eq S q).2
  refine Bod.go dc_36_2 rfl ?_
  refine Bod.go dc_36_3 rfl ?_
  refine Bod.get dc_36_4 fr_36_19 (mk_31 _) rfl ?_
  refine Bod.eqI (nI n) (by first | assumption | rfl | exact congrArg nI (by omega) | (simp (disch := omega) only [rI, rIe, rA, rIA, rLA, rJA, rVI, rQI, rVA, rQA, upd_at,  rAI, rLI, rJI, nI_add, pk_sub, kc_0, kc_1, kc_2, kc_3, kc_4, kc_5, reduceIte, Nat.reduceEqDiff, Nat.add_zero, rI_hold, rI_hold, rL_hold, hn, hp, hl]; done)) ?_
  refine Bod.icF dc_36_7 rfl (k2_gt_F t n rfl rfl (by omega) (by omega)) ?_
  refine Bod.go dc_36_10 rfl ?_
  refine Bod.get dc_36_11 fr_36_23 (mk_31 _) rfl ?_
  refine Bod.eqI (nI p) (by first | assumption | rfl | exact congrArg nI (by omega) | (simp (disch := omega) only [rI, rIe, rA, rIA, rLA, rJA, rVI, rQI, rVA, rQA, upd_at,  rAI, rLI, rJI, nI_add, pk_sub, kc_0, kc_1, kc_2, kc_3, kc_4, kc_5, reduceIte, Nat.reduceEqDiff, Nat.add_zero, rI_hold, rI_hold, rL_hold, hn, hp, hl]; done)) ?_
  refine Bod.istn dc_36_14 (by rw [ml_36]; exact Nat.le_of_ble_eq_true rfl) ?_
  refine Bod.go dc_36_15 rfl ?_
  refine Bod.virt (r := []) dc_36_16 kr_36_54 ⟨Or.inl rfl, ow_37, cl_3⟩ (by rw [np_37]; rfl) (by rw [np_37]; rfl) (ob_of (mk_31 _)) (Nat.le_of_ble_eq_true rfl) (skipBlanks_ev (n := n) (p := p) (q := q) (by first | assumption | rfl | exact congrArg nI (by omega) | (simp (disch := omega) only [rI, rIe, rA, rIA, rLA, rJA, rVI, rQI, rVA, rQA, upd_at,  rAI, rLI, rJI, nI_add, pk_sub, kc_0, kc_1, kc_2, kc_3, kc_4, kc_5, reduceIte, Nat.reduceEqDiff, Nat.add_zero, rI_hold, rI_hold, rL_hold, hn, hp, hl]; done)) (by first | assumption | rfl | exact congrArg nI (by omega) | (simp (disch := omega) only [rI, rIe, rA, rIA, rLA, rJA, rVI, rQI, rVA, rQA, upd_at,  rAI, rLI, rJI, nI_add, pk_sub, kc_0, kc_1, kc_2, kc_3, kc_4, kc_5, reduceIte, Nat.reduceEqDiff, Nat.add_zero, rI_hold, rI_hold, rL_hold, hn, hp, hl]; done)) (by omega) (by omega) (by omega) hb he) ?_
  show Bod _ _ _ _ [] _ _ _
  refine Bod.go dc_36_19 rfl ?_
  refine Bod.get dc_36_20 fr_36_23 (mk_31 _) rfl ?_
  refine Bod.eqI (nI q) (by first | (simp (disch := omega) only [rI, rIe, rA, rIA, rLA, rJA, rVI, rQI, rVA, rQA, upd_at,  rAI, rLI, rJI, nI_add, pk_sub, kc_0, kc_1, kc_2, kc_3, kc_4, kc_5, reduceIte, Nat.reduceEqDiff, Nat.add_zero, rI_hold, rI_hold, rL_hold, hn, hp, hl]; done) | (simp (disch := omega) only [rI, rIe, rA, rIA, rLA, rJA, rVI, rQI, rVA, rQA, upd_at,  rAI, rLI, rJI, nI_add, pk_sub, kc_0, kc_1, kc_2, kc_3, kc_4, kc_5, reduceIte, Nat.reduceEqDiff, Nat.add_zero, rI_hold, rI_hold, rL_hold, hn, hp, hl]; exact congrArg nI (by omega))) ?_
  refine Bod.go dc_36_23 rfl ?_
  refine Bod.get dc_36_24 fr_36_19 (mk_31 _) rfl ?_
  refine Bod.eqI (nI n) (by first | (simp (disch := omega) only [rI, rIe, rA, rIA, rLA, rJA, rVI, rQI, rVA, rQA, upd_at,  rAI, rLI, rJI, nI_add, pk_sub, kc_0, kc_1, kc_2, kc_3, kc_4, kc_5, reduceIte, Nat.reduceEqDiff, Nat.add_zero, rI_hold, rI_hold, rL_hold, hn, hp, hl]; done) | (simp (disch := omega) only [rI, rIe, rA, rIA, rLA, rJA, rVI, rQI, rVA, rQA, upd_at,  rAI, rLI, rJI, nI_add, pk_sub, kc_0, kc_1, kc_2, kc_3, kc_4, kc_5, reduceIte, Nat.reduceEqDiff, Nat.add_zero, rI_hold, rI_hold, rL_hold, hn, hp, hl]; exact congrArg nI (by omega))) ?_
  refine Bod.icT dc_36_27 rfl (k2_lt_T q n rfl rfl (by omega) (by omega)) ?_
  refine Bod.go dc_36_33 rfl ?_
  refine Bod.go dc_36_34 rfl ?_
  refine Bod.get dc_36_35 fr_36_23 (mk_31 _) rfl ?_
  refine Bod.eqI (nI q) (by first | (simp (disch := omega) only [rI, rIe, rA, rIA, rLA, rJA, rVI, rQI, rVA, rQA, upd_at,  rAI, rLI, rJI, nI_add, pk_sub, kc_0, kc_1, kc_2, kc_3, kc_4, kc_5, reduceIte, Nat.reduceEqDiff, Nat.add_zero, rI_hold, rI_hold, rL_hold, hn, hp, hl]; done) | (simp (disch := omega) only [rI, rIe, rA, rIA, rLA, rJA, rVI, rQI, rVA, rQA, upd_at,  rAI, rLI, rJI, nI_add, pk_sub, kc_0, kc_1, kc_2, kc_3, kc_4, kc_5, reduceIte, Nat.reduceEqDiff, Nat.add_zero, rI_hold, rI_hold, rL_hold, hn, hp, hl]; exact congrArg nI (by omega))) ?_
  refine Bod.virt (r := []) dc_36_38 kr_36_50 ⟨Or.inl rfl, ow_38, cl_3⟩ (by rw [np_38]; rfl) (by rw [np_38]; rfl) (ob_of (mk_31 _)) (Nat.le_of_ble_eq_true rfl) (byteAt_n (n := n) (q := q) (b := b) (by first | (simp (disch := omega) only [rI, rIe, rA, rIA, rLA, rJA, rVI, rQI, rVA, rQA, upd_at,  rAI, rLI, rJI, nI_add, pk_sub, kc_0, kc_1, kc_2, kc_3, kc_4, kc_5, reduceIte, Nat.reduceEqDiff, Nat.add_zero, rI_hold, rI_hold, rL_hold, hn, hp, hl]; done) | (simp (disch := omega) only [rI, rIe, rA, rIA, rLA, rJA, rVI, rQI, rVA, rQA, upd_at,  rAI, rLI, rJI, nI_add, pk_sub, kc_0, kc_1, kc_2, kc_3, kc_4, kc_5, reduceIte, Nat.reduceEqDiff, Nat.add_zero, rI_hold, rI_hold, rL_hold, hn, hp, hl]; exact congrArg nI (by omega))) (by omega) (by omega) hbq) ?_
  show Bod _ _ _ _ [_] _ _ _
  refine Bod.bip 10 (by decide) dc_36_41 ?_
  refine Bod.icF dc_36_43 rfl (k2_eq_F (k_ne b 10 rfl rfl (by omega) (by omega) (by omega))) ?_
  refine Bod.go dc_36_46 rfl ?_
  refine Bod.go dc_36_47 rfl ?_
  refine Bod.get dc_36_48 fr_36_23 (mk_31 _) rfl ?_
  refine Bod.eqI (nI q) (by first | (simp (disch := omega) only [rI, rIe, rA, rIA, rLA, rJA, rVI, rQI, rVA, rQA, upd_at,  rAI, rLI, rJI, nI_add, pk_sub, kc_0, kc_1, kc_2, kc_3, kc_4, kc_5, reduceIte, Nat.reduceEqDiff, Nat.add_zero, rI_hold, rI_hold, rL_hold, hn, hp, hl]; done) | (simp (disch := omega) only [rI, rIe, rA, rIA, rLA, rJA, rVI, rQI, rVA, rQA, upd_at,  rAI, rLI, rJI, nI_add, pk_sub, kc_0, kc_1, kc_2, kc_3, kc_4, kc_5, reduceIte, Nat.reduceEqDiff, Nat.add_zero, rI_hold, rI_hold, rL_hold, hn, hp, hl]; exact congrArg nI (by omega))) ?_
  refine Bod.virt (r := []) dc_36_51 kr_36_50 ⟨Or.inl rfl, ow_38, cl_3⟩ (by rw [np_38]; rfl) (by rw [np_38]; rfl) (ob_of (mk_31 _)) (Nat.le_of_ble_eq_true rfl) (byteAt_n (n := n) (q := q) (b := b) (by first | (simp (disch := omega) only [rI, rIe, rA, rIA, rLA, rJA, rVI, rQI, rVA, rQA, upd_at,  rAI, rLI, rJI, nI_add, pk_sub, kc_0, kc_1, kc_2, kc_3, kc_4, kc_5, reduceIte, Nat.reduceEqDiff, Nat.add_zero, rI_hold, rI_hold, rL_hold, hn, hp, hl]; done) | (simp (disch := omega) only [rI, rIe, rA, rIA, rLA, rJA, rVI, rQI, rVA, rQA, upd_at,  rAI, rLI, rJI, nI_add, pk_sub, kc_0, kc_1, kc_2, kc_3, kc_4, kc_5, reduceIte, Nat.reduceEqDiff, Nat.add_zero, rI_hold, rI_hold, rL_hold, hn, hp, hl]; exact congrArg nI (by omega))) (by omega) (by omega) hbq) ?_
  show Bod _ _ _ _ [_] _ _ _
  refine Bod.bip 35 (by decide) dc_36_54 ?_
  refine Bod.icT dc_36_56 rfl (k2_eq_T (k_eq b 35 rfl rfl (by omega))) ?_
  refine Bod.go dc_36_83 rfl ?_
  refine Bod.virt (r := []) dc_36_84 kr_36_47 ⟨Or.inl rfl, ow_39, cl_3⟩ (by rw [np_39]; rfl) (by rw [np_39]; rfl) (ob_of (mk_31 _)) (Nat.le_of_ble_eq_true rfl) (skipLine_nl (n := n) (p := q) (q := e) (l := l) (by first | (simp (disch := omega) only [rI, rIe, rA, rIA, rLA, rJA, rVI, rQI, rVA, rQA, upd_at,  rAI, rLI, rJI, nI_add, pk_sub, kc_0, kc_1, kc_2, kc_3, kc_4, kc_5, reduceIte, Nat.reduceEqDiff, Nat.add_zero, rI_hold, rI_hold, rL_hold, hn, hp, hl]; done) | (simp (disch := omega) only [rI, rIe, rA, rIA, rLA, rJA, rVI, rQI, rVA, rQA, upd_at,  rAI, rLI, rJI, nI_add, pk_sub, kc_0, kc_1, kc_2, kc_3, kc_4, kc_5, reduceIte, Nat.reduceEqDiff, Nat.add_zero, rI_hold, rI_hold, rL_hold, hn, hp, hl]; exact congrArg nI (by omega))) (by first | (simp (disch := omega) only [rI, rIe, rA, rIA, rLA, rJA, rVI, rQI, rVA, rQA, upd_at,  rAI, rLI, rJI, nI_add, pk_sub, kc_0, kc_1, kc_2, kc_3, kc_4, kc_5, reduceIte, Nat.reduceEqDiff, Nat.add_zero, rI_hold, rI_hold, rL_hold, hn, hp, hl]; done) | (simp (disch := omega) only [rI, rIe, rA, rIA, rLA, rJA, rVI, rQI, rVA, rQA, upd_at,  rAI, rLI, rJI, nI_add, pk_sub, kc_0, kc_1, kc_2, kc_3, kc_4, kc_5, reduceIte, Nat.reduceEqDiff, Nat.add_zero, rI_hold, rI_hold, rL_hold, hn, hp, hl]; exact congrArg nI (by omega))) (by omega) (by omega) (by first | (simp (disch := omega) only [rI, rIe, rA, rIA, rLA, rJA, rVI, rQI, rVA, rQA, upd_at,  rAI, rLI, rJI, nI_add, pk_sub, kc_0, kc_1, kc_2, kc_3, kc_4, kc_5, reduceIte, Nat.reduceEqDiff, Nat.add_zero, rI_hold, rI_hold, rL_hold, hn, hp, hl]; done) | (simp (disch := omega) only [rI, rIe, rA, rIA, rLA, rJA, rVI, rQI, rVA, rQA, upd_at,  rAI, rLI, rJI, nI_add, pk_sub, kc_0, kc_1, kc_2, kc_3, kc_4, kc_5, reduceIte, Nat.reduceEqDiff, Nat.add_zero, rI_hold, rI_hold, rL_hold, hn, hp, hl]; exact congrArg nI (by omega))) (by omega) hx hey) ?_
  show Bod _ _ _ _ [] _ _ _
  refine Bod.incN (t + 1) (by rw [kc_1, nI_add]) dc_36_87 (by rw [ml_36]; exact Nat.le_of_ble_eq_true rfl) rfl ?_
  refine Bod.go dc_36_90 rfl ?_
  exact Bod.lv (by rfl) hB
theorem findLine_en35 {d n p q e t l : Nat} {S : cS} (hM : n ≤ 3000) (hn : sI S 3102 = nI n) (hp : sI S 3103 = nI p) (hl : sI S 3107 = nI l) (ht : t ≤ n) (hpq : p ≤ q) (hb : ∀ x, p ≤ x → x < q → c_byte S x = 32) (hq : q < n) (he : q = n ∨ c_byte S q ≠ 32) {b : Nat} (hbq : c_byte S q = b) (hqe : q ≤ e) (hx : ∀ x, q ≤ x → x < e → c_byte S x ≠ 10) {Sf : cS} (h10 : b = 35) (hen : e = n) (hB : Bod (d + 3) 36 2 [(1, .int (nI (t + 1))), (2, .int (nI p)), (0, .ref 31)] [] (wI 3103 (nI e) (wI 3103 (nI q) S)) none Sf) : Bod (d + 3) 36 2 [(1, .int (nI t)), (0, .ref 31)] [] S none Sf := by
  have hbq2 : b < 256 := by rw [← hbq]; exact (c_byte_eq S q).2
  refine Bod.go dc_36_2 rfl ?_
  refine Bod.go dc_36_3 rfl ?_
  refine Bod.get dc_36_4 fr_36_19 (mk_31 _) rfl ?_
  refine Bod.eqI (nI n) (by first | assumption | rfl | exact congrArg nI (by omega) | (simp (disch := omega) only [rI, rIe, rA, rIA, rLA, rJA, rVI, rQI, rVA, rQA, upd_at,  rAI, rLI, rJI, nI_add, pk_sub, kc_0, kc_1, kc_2, kc_3, kc_4, kc_5, reduceIte, Nat.reduceEqDiff, Nat.add_zero, rI_hold, rI_hold, rL_hold, hn, hp, hl]; done)) ?_
  refine Bod.icF dc_36_7 rfl (k2_gt_F t n rfl rfl (by omega) (by omega)) ?_
  refine Bod.go dc_36_10 rfl ?_
  refine Bod.get dc_36_11 fr_36_23 (mk_31 _) rfl ?_
  refine Bod.eqI (nI p) (by first | assumption | rfl | exact congrArg nI (by omega) | (simp (disch := omega) only [rI, rIe, rA, rIA, rLA, rJA, rVI, rQI, rVA, rQA, upd_at,  rAI, rLI, rJI, nI_add, pk_sub, kc_0, kc_1, kc_2, kc_3, kc_4, kc_5, reduceIte, Nat.reduceEqDiff, Nat.add_zero, rI_hold, rI_hold, rL_hold, hn, hp, hl]; done)) ?_
  refine Bod.istn dc_36_14 (by rw [ml_36]; exact Nat.le_of_ble_eq_true rfl) ?_
  refine Bod.go dc_36_15 rfl ?_
  refine Bod.virt (r := []) dc_36_16 kr_36_54 ⟨Or.inl rfl, ow_37, cl_3⟩ (by rw [np_37]; rfl) (by rw [np_37]; rfl) (ob_of (mk_31 _)) (Nat.le_of_ble_eq_true rfl) (skipBlanks_ev (n := n) (p := p) (q := q) (by first | assumption | rfl | exact congrArg nI (by omega) | (simp (disch := omega) only [rI, rIe, rA, rIA, rLA, rJA, rVI, rQI, rVA, rQA, upd_at,  rAI, rLI, rJI, nI_add, pk_sub, kc_0, kc_1, kc_2, kc_3, kc_4, kc_5, reduceIte, Nat.reduceEqDiff, Nat.add_zero, rI_hold, rI_hold, rL_hold, hn, hp, hl]; done)) (by first | assumption | rfl | exact congrArg nI (by omega) | (simp (disch := omega) only [rI, rIe, rA, rIA, rLA, rJA, rVI, rQI, rVA, rQA, upd_at,  rAI, rLI, rJI, nI_add, pk_sub, kc_0, kc_1, kc_2, kc_3, kc_4, kc_5, reduceIte, Nat.reduceEqDiff, Nat.add_zero, rI_hold, rI_hold, rL_hold, hn, hp, hl]; done)) (by omega) (by omega) (by omega) hb he) ?_
  show Bod _ _ _ _ [] _ _ _
  refine Bod.go dc_36_19 rfl ?_
  refine Bod.get dc_36_20 fr_36_23 (mk_31 _) rfl ?_
  refine Bod.eqI (nI q) (by first | (simp (disch := omega) only [rI, rIe, rA, rIA, rLA, rJA, rVI, rQI, rVA, rQA, upd_at,  rAI, rLI, rJI, nI_add, pk_sub, kc_0, kc_1, kc_2, kc_3, kc_4, kc_5, reduceIte, Nat.reduceEqDiff, Nat.add_zero, rI_hold, rI_hold, rL_hold, hn, hp, hl]; done) | (simp (disch := omega) only [rI, rIe, rA, rIA, rLA, rJA, rVI, rQI, rVA, rQA, upd_at,  rAI, rLI, rJI, nI_add, pk_sub, kc_0, kc_1, kc_2, kc_3, kc_4, kc_5, reduceIte, Nat.reduceEqDiff, Nat.add_zero, rI_hold, rI_hold, rL_hold, hn, hp, hl]; exact congrArg nI (by omega))) ?_
  refine Bod.go dc_36_23 rfl ?_
  refine Bod.get dc_36_24 fr_36_19 (mk_31 _) rfl ?_
  refine Bod.eqI (nI n) (by first | (simp (disch := omega) only [rI, rIe, rA, rIA, rLA, rJA, rVI, rQI, rVA, rQA, upd_at,  rAI, rLI, rJI, nI_add, pk_sub, kc_0, kc_1, kc_2, kc_3, kc_4, kc_5, reduceIte, Nat.reduceEqDiff, Nat.add_zero, rI_hold, rI_hold, rL_hold, hn, hp, hl]; done) | (simp (disch := omega) only [rI, rIe, rA, rIA, rLA, rJA, rVI, rQI, rVA, rQA, upd_at,  rAI, rLI, rJI, nI_add, pk_sub, kc_0, kc_1, kc_2, kc_3, kc_4, kc_5, reduceIte, Nat.reduceEqDiff, Nat.add_zero, rI_hold, rI_hold, rL_hold, hn, hp, hl]; exact congrArg nI (by omega))) ?_
  refine Bod.icT dc_36_27 rfl (k2_lt_T q n rfl rfl (by omega) (by omega)) ?_
  refine Bod.go dc_36_33 rfl ?_
  refine Bod.go dc_36_34 rfl ?_
  refine Bod.get dc_36_35 fr_36_23 (mk_31 _) rfl ?_
  refine Bod.eqI (nI q) (by first | (simp (disch := omega) only [rI, rIe, rA, rIA, rLA, rJA, rVI, rQI, rVA, rQA, upd_at,  rAI, rLI, rJI, nI_add, pk_sub, kc_0, kc_1, kc_2, kc_3, kc_4, kc_5, reduceIte, Nat.reduceEqDiff, Nat.add_zero, rI_hold, rI_hold, rL_hold, hn, hp, hl]; done) | (simp (disch := omega) only [rI, rIe, rA, rIA, rLA, rJA, rVI, rQI, rVA, rQA, upd_at,  rAI, rLI, rJI, nI_add, pk_sub, kc_0, kc_1, kc_2, kc_3, kc_4, kc_5, reduceIte, Nat.reduceEqDiff, Nat.add_zero, rI_hold, rI_hold, rL_hold, hn, hp, hl]; exact congrArg nI (by omega))) ?_
  refine Bod.virt (r := []) dc_36_38 kr_36_50 ⟨Or.inl rfl, ow_38, cl_3⟩ (by rw [np_38]; rfl) (by rw [np_38]; rfl) (ob_of (mk_31 _)) (Nat.le_of_ble_eq_true rfl) (byteAt_n (n := n) (q := q) (b := b) (by first | (simp (disch := omega) only [rI, rIe, rA, rIA, rLA, rJA, rVI, rQI, rVA, rQA, upd_at,  rAI, rLI, rJI, nI_add, pk_sub, kc_0, kc_1, kc_2, kc_3, kc_4, kc_5, reduceIte, Nat.reduceEqDiff, Nat.add_zero, rI_hold, rI_hold, rL_hold, hn, hp, hl]; done) | (simp (disch := omega) only [rI, rIe, rA, rIA, rLA, rJA, rVI, rQI, rVA, rQA, upd_at,  rAI, rLI, rJI, nI_add, pk_sub, kc_0, kc_1, kc_2, kc_3, kc_4, kc_5, reduceIte, Nat.reduceEqDiff, Nat.add_zero, rI_hold, rI_hold, rL_hold, hn, hp, hl]; exact congrArg nI (by omega))) (by omega) (by omega) hbq) ?_
  show Bod _ _ _ _ [_] _ _ _
  refine Bod.bip 10 (by decide) dc_36_41 ?_
  refine Bod.icF dc_36_43 rfl (k2_eq_F (k_ne b 10 rfl rfl (by omega) (by omega) (by omega))) ?_
  refine Bod.go dc_36_46 rfl ?_
  refine Bod.go dc_36_47 rfl ?_
  refine Bod.get dc_36_48 fr_36_23 (mk_31 _) rfl ?_
  refine Bod.eqI (nI q) (by first | (simp (disch := omega) only [rI, rIe, rA, rIA, rLA, rJA, rVI, rQI, rVA, rQA, upd_at,  rAI, rLI, rJI, nI_add, pk_sub, kc_0, kc_1, kc_2, kc_3, kc_4, kc_5, reduceIte, Nat.reduceEqDiff, Nat.add_zero, rI_hold, rI_hold, rL_hold, hn, hp, hl]; done) | (simp (disch := omega) only [rI, rIe, rA, rIA, rLA, rJA, rVI, rQI, rVA, rQA, upd_at,  rAI, rLI, rJI, nI_add, pk_sub, kc_0, kc_1, kc_2, kc_3, kc_4, kc_5, reduceIte, Nat.reduceEqDiff, Nat.add_zero, rI_hold, rI_hold, rL_hold, hn, hp, hl]; exact congrArg nI (by omega))) ?_
  refine Bod.virt (r := []) dc_36_51 kr_36_50 ⟨Or.inl rfl, ow_38, cl_3⟩ (by rw [np_38]; rfl) (by rw [np_38]; rfl) (ob_of (mk_31 _)) (Nat.le_of_ble_eq_true rfl) (byteAt_n (n := n) (q := q) (b := b) (by first | (simp (disch := omega) only [rI, rIe, rA, rIA, rLA, rJA, rVI, rQI, rVA, rQA, upd_at,  rAI, rLI, rJI, nI_add, pk_sub, kc_0, kc_1, kc_2, kc_3, kc_4, kc_5, reduceIte, Nat.reduceEqDiff, Nat.add_zero, rI_hold, rI_hold, rL_hold, hn, hp, hl]; done) | (simp (disch := omega) only [rI, rIe, rA, rIA, rLA, rJA, rVI, rQI, rVA, rQA, upd_at,  rAI, rLI, rJI, nI_add, pk_sub, kc_0, kc_1, kc_2, kc_3, kc_4, kc_5, reduceIte, Nat.reduceEqDiff, Nat.add_zero, rI_hold, rI_hold, rL_hold, hn, hp, hl]; exact congrArg nI (by omega))) (by omega) (by omega) hbq) ?_
  show Bod _ _ _ _ [_] _ _ _
  refine Bod.bip 35 (by decide) dc_36_54 ?_
  refine Bod.icT dc_36_56 rfl (k2_eq_T (k_eq b 35 rfl rfl (by omega))) ?_
  refine Bod.go dc_36_83 rfl ?_
  refine Bod.virt (r := []) dc_36_84 kr_36_47 ⟨Or.inl rfl, ow_39, cl_3⟩ (by rw [np_39]; rfl) (by rw [np_39]; rfl) (ob_of (mk_31 _)) (Nat.le_of_ble_eq_true rfl) (skipLine_end (n := n) (p := q) (q := e) (by first | (simp (disch := omega) only [rI, rIe, rA, rIA, rLA, rJA, rVI, rQI, rVA, rQA, upd_at,  rAI, rLI, rJI, nI_add, pk_sub, kc_0, kc_1, kc_2, kc_3, kc_4, kc_5, reduceIte, Nat.reduceEqDiff, Nat.add_zero, rI_hold, rI_hold, rL_hold, hn, hp, hl]; done) | (simp (disch := omega) only [rI, rIe, rA, rIA, rLA, rJA, rVI, rQI, rVA, rQA, upd_at,  rAI, rLI, rJI, nI_add, pk_sub, kc_0, kc_1, kc_2, kc_3, kc_4, kc_5, reduceIte, Nat.reduceEqDiff, Nat.add_zero, rI_hold, rI_hold, rL_hold, hn, hp, hl]; exact congrArg nI (by omega))) (by first | (simp (disch := omega) only [rI, rIe, rA, rIA, rLA, rJA, rVI, rQI, rVA, rQA, upd_at,  rAI, rLI, rJI, nI_add, pk_sub, kc_0, kc_1, kc_2, kc_3, kc_4, kc_5, reduceIte, Nat.reduceEqDiff, Nat.add_zero, rI_hold, rI_hold, rL_hold, hn, hp, hl]; done) | (simp (disch := omega) only [rI, rIe, rA, rIA, rLA, rJA, rVI, rQI, rVA, rQA, upd_at,  rAI, rLI, rJI, nI_add, pk_sub, kc_0, kc_1, kc_2, kc_3, kc_4, kc_5, reduceIte, Nat.reduceEqDiff, Nat.add_zero, rI_hold, rI_hold, rL_hold, hn, hp, hl]; exact congrArg nI (by omega))) (by omega) (by omega) (by omega) hx) ?_
  show Bod _ _ _ _ [] _ _ _
  refine Bod.incN (t + 1) (by rw [kc_1, nI_add]) dc_36_87 (by rw [ml_36]; exact Nat.le_of_ble_eq_true rfl) rfl ?_
  refine Bod.go dc_36_90 rfl ?_
  exact Bod.lv (by rfl) hB
theorem findLine_nl102 {d n p q e t l : Nat} {S : cS} (hM : n ≤ 3000) (hn : sI S 3102 = nI n) (hp : sI S 3103 = nI p) (hl : sI S 3107 = nI l) (ht : t ≤ n) (hpq : p ≤ q) (hb : ∀ x, p ≤ x → x < q → c_byte S x = 32) (hq : q < n) (he : q = n ∨ c_byte S q ≠ 32) {b : Nat} (hbq : c_byte S q = b) (hqe : q ≤ e) (hx : ∀ x, q ≤ x → x < e → c_byte S x ≠ 10) {z : Int32} {Sf : cS} (h10 : b = 10) (hen : e < n) (hey : c_byte S e = 10) (hB : Bod (d + 3) 36 2 [(1, .int (nI (t + 1))), (2, .int (nI p)), (0, .ref 31)] [] (wI 3107 (nI (l + 1)) (wI 3103 (nI (e + 1)) (wI 3103 (nI e) (wI 3103 (nI q) S)))) none Sf) : Bod (d + 3) 36 2 [(1, .int (nI t)), (2, .int z), (0, .ref 31)] [] S none Sf := by
  have hbq2 : b < 256 := by rw [← hbq]; exact (c_byte_eq S q).2
  refine Bod.go dc_36_2 rfl ?_
  refine Bod.go dc_36_3 rfl ?_
  refine Bod.get dc_36_4 fr_36_19 (mk_31 _) rfl ?_
  refine Bod.eqI (nI n) (by first | assumption | rfl | exact congrArg nI (by omega) | (simp (disch := omega) only [rI, rIe, rA, rIA, rLA, rJA, rVI, rQI, rVA, rQA, upd_at,  rAI, rLI, rJI, nI_add, pk_sub, kc_0, kc_1, kc_2, kc_3, kc_4, kc_5, reduceIte, Nat.reduceEqDiff, Nat.add_zero, rI_hold, rI_hold, rL_hold, hn, hp, hl]; done)) ?_
  refine Bod.icF dc_36_7 rfl (k2_gt_F t n rfl rfl (by omega) (by omega)) ?_
  refine Bod.go dc_36_10 rfl ?_
  refine Bod.get dc_36_11 fr_36_23 (mk_31 _) rfl ?_
  refine Bod.eqI (nI p) (by first | assumption | rfl | exact congrArg nI (by omega) | (simp (disch := omega) only [rI, rIe, rA, rIA, rLA, rJA, rVI, rQI, rVA, rQA, upd_at,  rAI, rLI, rJI, nI_add, pk_sub, kc_0, kc_1, kc_2, kc_3, kc_4, kc_5, reduceIte, Nat.reduceEqDiff, Nat.add_zero, rI_hold, rI_hold, rL_hold, hn, hp, hl]; done)) ?_
  refine Bod.istn dc_36_14 (by rw [ml_36]; exact Nat.le_of_ble_eq_true rfl) ?_
  refine Bod.go dc_36_15 rfl ?_
  refine Bod.virt (r := []) dc_36_16 kr_36_54 ⟨Or.inl rfl, ow_37, cl_3⟩ (by rw [np_37]; rfl) (by rw [np_37]; rfl) (ob_of (mk_31 _)) (Nat.le_of_ble_eq_true rfl) (skipBlanks_ev (n := n) (p := p) (q := q) (by first | assumption | rfl | exact congrArg nI (by omega) | (simp (disch := omega) only [rI, rIe, rA, rIA, rLA, rJA, rVI, rQI, rVA, rQA, upd_at,  rAI, rLI, rJI, nI_add, pk_sub, kc_0, kc_1, kc_2, kc_3, kc_4, kc_5, reduceIte, Nat.reduceEqDiff, Nat.add_zero, rI_hold, rI_hold, rL_hold, hn, hp, hl]; done)) (by first | assumption | rfl | exact congrArg nI (by omega) | (simp (disch := omega) only [rI, rIe, rA, rIA, rLA, rJA, rVI, rQI, rVA, rQA, upd_at,  rAI, rLI, rJI, nI_add, pk_sub, kc_0, kc_1, kc_2, kc_3, kc_4, kc_5, reduceIte, Nat.reduceEqDiff, Nat.add_zero, rI_hold, rI_hold, rL_hold, hn, hp, hl]; done)) (by omega) (by omega) (by omega) hb he) ?_
  show Bod _ _ _ _ [] _ _ _
  refine Bod.go dc_36_19 rfl ?_
  refine Bod.get dc_36_20 fr_36_23 (mk_31 _) rfl ?_
  refine Bod.eqI (nI q) (by first | (simp (disch := omega) only [rI, rIe, rA, rIA, rLA, rJA, rVI, rQI, rVA, rQA, upd_at,  rAI, rLI, rJI, nI_add, pk_sub, kc_0, kc_1, kc_2, kc_3, kc_4, kc_5, reduceIte, Nat.reduceEqDiff, Nat.add_zero, rI_hold, rI_hold, rL_hold, hn, hp, hl]; done) | (simp (disch := omega) only [rI, rIe, rA, rIA, rLA, rJA, rVI, rQI, rVA, rQA, upd_at,  rAI, rLI, rJI, nI_add, pk_sub, kc_0, kc_1, kc_2, kc_3, kc_4, kc_5, reduceIte, Nat.reduceEqDiff, Nat.add_zero, rI_hold, rI_hold, rL_hold, hn, hp, hl]; exact congrArg nI (by omega))) ?_
  refine Bod.go dc_36_23 rfl ?_
  refine Bod.get dc_36_24 fr_36_19 (mk_31 _) rfl ?_
  refine Bod.eqI (nI n) (by first | (simp (disch := omega) only [rI, rIe, rA, rIA, rLA, rJA, rVI, rQI, rVA, rQA, upd_at,  rAI, rLI, rJI, nI_add, pk_sub, kc_0, kc_1, kc_2, kc_3, kc_4, kc_5, reduceIte, Nat.reduceEqDiff, Nat.add_zero, rI_hold, rI_hold, rL_hold, hn, hp, hl]; done) | (simp (disch := omega) only [rI, rIe, rA, rIA, rLA, rJA, rVI, rQI, rVA, rQA, upd_at,  rAI, rLI, rJI, nI_add, pk_sub, kc_0, kc_1, kc_2, kc_3, kc_4, kc_5, reduceIte, Nat.reduceEqDiff, Nat.add_zero, rI_hold, rI_hold, rL_hold, hn, hp, hl]; exact congrArg nI (by omega))) ?_
  refine Bod.icT dc_36_27 rfl (k2_lt_T q n rfl rfl (by omega) (by omega)) ?_
  refine Bod.go dc_36_33 rfl ?_
  refine Bod.go dc_36_34 rfl ?_
  refine Bod.get dc_36_35 fr_36_23 (mk_31 _) rfl ?_
  refine Bod.eqI (nI q) (by first | (simp (disch := omega) only [rI, rIe, rA, rIA, rLA, rJA, rVI, rQI, rVA, rQA, upd_at,  rAI, rLI, rJI, nI_add, pk_sub, kc_0, kc_1, kc_2, kc_3, kc_4, kc_5, reduceIte, Nat.reduceEqDiff, Nat.add_zero, rI_hold, rI_hold, rL_hold, hn, hp, hl]; done) | (simp (disch := omega) only [rI, rIe, rA, rIA, rLA, rJA, rVI, rQI, rVA, rQA, upd_at,  rAI, rLI, rJI, nI_add, pk_sub, kc_0, kc_1, kc_2, kc_3, kc_4, kc_5, reduceIte, Nat.reduceEqDiff, Nat.add_zero, rI_hold, rI_hold, rL_hold, hn, hp, hl]; exact congrArg nI (by omega))) ?_
  refine Bod.virt (r := []) dc_36_38 kr_36_50 ⟨Or.inl rfl, ow_38, cl_3⟩ (by rw [np_38]; rfl) (by rw [np_38]; rfl) (ob_of (mk_31 _)) (Nat.le_of_ble_eq_true rfl) (byteAt_n (n := n) (q := q) (b := b) (by first | (simp (disch := omega) only [rI, rIe, rA, rIA, rLA, rJA, rVI, rQI, rVA, rQA, upd_at,  rAI, rLI, rJI, nI_add, pk_sub, kc_0, kc_1, kc_2, kc_3, kc_4, kc_5, reduceIte, Nat.reduceEqDiff, Nat.add_zero, rI_hold, rI_hold, rL_hold, hn, hp, hl]; done) | (simp (disch := omega) only [rI, rIe, rA, rIA, rLA, rJA, rVI, rQI, rVA, rQA, upd_at,  rAI, rLI, rJI, nI_add, pk_sub, kc_0, kc_1, kc_2, kc_3, kc_4, kc_5, reduceIte, Nat.reduceEqDiff, Nat.add_zero, rI_hold, rI_hold, rL_hold, hn, hp, hl]; exact congrArg nI (by omega))) (by omega) (by omega) hbq) ?_
  show Bod _ _ _ _ [_] _ _ _
  refine Bod.bip 10 (by decide) dc_36_41 ?_
  refine Bod.icT dc_36_43 rfl (k2_eq_T (k_eq b 10 rfl rfl (by omega))) ?_
  refine Bod.go dc_36_83 rfl ?_
  refine Bod.virt (r := []) dc_36_84 kr_36_47 ⟨Or.inl rfl, ow_39, cl_3⟩ (by rw [np_39]; rfl) (by rw [np_39]; rfl) (ob_of (mk_31 _)) (Nat.le_of_ble_eq_true rfl) (skipLine_nl (n := n) (p := q) (q := e) (l := l) (by first | (simp (disch := omega) only [rI, rIe, rA, rIA, rLA, rJA, rVI, rQI, rVA, rQA, upd_at,  rAI, rLI, rJI, nI_add, pk_sub, kc_0, kc_1, kc_2, kc_3, kc_4, kc_5, reduceIte, Nat.reduceEqDiff, Nat.add_zero, rI_hold, rI_hold, rL_hold, hn, hp, hl]; done) | (simp (disch := omega) only [rI, rIe, rA, rIA, rLA, rJA, rVI, rQI, rVA, rQA, upd_at,  rAI, rLI, rJI, nI_add, pk_sub, kc_0, kc_1, kc_2, kc_3, kc_4, kc_5, reduceIte, Nat.reduceEqDiff, Nat.add_zero, rI_hold, rI_hold, rL_hold, hn, hp, hl]; exact congrArg nI (by omega))) (by first | (simp (disch := omega) only [rI, rIe, rA, rIA, rLA, rJA, rVI, rQI, rVA, rQA, upd_at,  rAI, rLI, rJI, nI_add, pk_sub, kc_0, kc_1, kc_2, kc_3, kc_4, kc_5, reduceIte, Nat.reduceEqDiff, Nat.add_zero, rI_hold, rI_hold, rL_hold, hn, hp, hl]; done) | (simp (disch := omega) only [rI, rIe, rA, rIA, rLA, rJA, rVI, rQI, rVA, rQA, upd_at,  rAI, rLI, rJI, nI_add, pk_sub, kc_0, kc_1, kc_2, kc_3, kc_4, kc_5, reduceIte, Nat.reduceEqDiff, Nat.add_zero, rI_hold, rI_hold, rL_hold, hn, hp, hl]; exact congrArg nI (by omega))) (by omega) (by omega) (by first | (simp (disch := omega) only [rI, rIe, rA, rIA, rLA, rJA, rVI, rQI, rVA, rQA, upd_at,  rAI, rLI, rJI, nI_add, pk_sub, kc_0, kc_1, kc_2, kc_3, kc_4, kc_5, reduceIte, Nat.reduceEqDiff, Nat.add_zero, rI_hold, rI_hold, rL_hold, hn, hp, hl]; done) | (simp (disch := omega) only [rI, rIe, rA, rIA, rLA, rJA, rVI, rQI, rVA, rQA, upd_at,  rAI, rLI, rJI, nI_add, pk_sub, kc_0, kc_1, kc_2, kc_3, kc_4, kc_5, reduceIte, Nat.reduceEqDiff, Nat.add_zero, rI_hold, rI_hold, rL_hold, hn, hp, hl]; exact congrArg nI (by omega))) (by omega) hx hey) ?_
  show Bod _ _ _ _ [] _ _ _
  refine Bod.incN (t + 1) (by rw [kc_1, nI_add]) dc_36_87 (by rw [ml_36]; exact Nat.le_of_ble_eq_true rfl) rfl ?_
  refine Bod.go dc_36_90 rfl ?_
  exact Bod.lv (by rfl) hB
theorem findLine_nl352 {d n p q e t l : Nat} {S : cS} (hM : n ≤ 3000) (hn : sI S 3102 = nI n) (hp : sI S 3103 = nI p) (hl : sI S 3107 = nI l) (ht : t ≤ n) (hpq : p ≤ q) (hb : ∀ x, p ≤ x → x < q → c_byte S x = 32) (hq : q < n) (he : q = n ∨ c_byte S q ≠ 32) {b : Nat} (hbq : c_byte S q = b) (hqe : q ≤ e) (hx : ∀ x, q ≤ x → x < e → c_byte S x ≠ 10) {z : Int32} {Sf : cS} (h10 : b = 35) (hen : e < n) (hey : c_byte S e = 10) (hB : Bod (d + 3) 36 2 [(1, .int (nI (t + 1))), (2, .int (nI p)), (0, .ref 31)] [] (wI 3107 (nI (l + 1)) (wI 3103 (nI (e + 1)) (wI 3103 (nI e) (wI 3103 (nI q) S)))) none Sf) : Bod (d + 3) 36 2 [(1, .int (nI t)), (2, .int z), (0, .ref 31)] [] S none Sf := by
  have hbq2 : b < 256 := by rw [← hbq]; exact (c_byte_eq S q).2
  refine Bod.go dc_36_2 rfl ?_
  refine Bod.go dc_36_3 rfl ?_
  refine Bod.get dc_36_4 fr_36_19 (mk_31 _) rfl ?_
  refine Bod.eqI (nI n) (by first | assumption | rfl | exact congrArg nI (by omega) | (simp (disch := omega) only [rI, rIe, rA, rIA, rLA, rJA, rVI, rQI, rVA, rQA, upd_at,  rAI, rLI, rJI, nI_add, pk_sub, kc_0, kc_1, kc_2, kc_3, kc_4, kc_5, reduceIte, Nat.reduceEqDiff, Nat.add_zero, rI_hold, rI_hold, rL_hold, hn, hp, hl]; done)) ?_
  refine Bod.icF dc_36_7 rfl (k2_gt_F t n rfl rfl (by omega) (by omega)) ?_
  refine Bod.go dc_36_10 rfl ?_
  refine Bod.get dc_36_11 fr_36_23 (mk_31 _) rfl ?_
  refine Bod.eqI (nI p) (by first | assumption | rfl | exact congrArg nI (by omega) | (simp (disch := omega) only [rI, rIe, rA, rIA, rLA, rJA, rVI, rQI, rVA, rQA, upd_at,  rAI, rLI, rJI, nI_add, pk_sub, kc_0, kc_1, kc_2, kc_3, kc_4, kc_5, reduceIte, Nat.reduceEqDiff, Nat.add_zero, rI_hold, rI_hold, rL_hold, hn, hp, hl]; done)) ?_
  refine Bod.istn dc_36_14 (by rw [ml_36]; exact Nat.le_of_ble_eq_true rfl) ?_
  refine Bod.go dc_36_15 rfl ?_
  refine Bod.virt (r := []) dc_36_16 kr_36_54 ⟨Or.inl rfl, ow_37, cl_3⟩ (by rw [np_37]; rfl) (by rw [np_37]; rfl) (ob_of (mk_31 _)) (Nat.le_of_ble_eq_true rfl) (skipBlanks_ev (n := n) (p := p) (q := q) (by first | assumption | rfl | exact congrArg nI (by omega) | (simp (disch := omega) only [rI, rIe, rA, rIA, rLA, rJA, rVI, rQI, rVA, rQA, upd_at,  rAI, rLI, rJI, nI_add, pk_sub, kc_0, kc_1, kc_2, kc_3, kc_4, kc_5, reduceIte, Nat.reduceEqDiff, Nat.add_zero, rI_hold, rI_hold, rL_hold, hn, hp, hl]; done)) (by first | assumption | rfl | exact congrArg nI (by omega) | (simp (disch := omega) only [rI, rIe, rA, rIA, rLA, rJA, rVI, rQI, rVA, rQA, upd_at,  rAI, rLI, rJI, nI_add, pk_sub, kc_0, kc_1, kc_2, kc_3, kc_4, kc_5, reduceIte, Nat.reduceEqDiff, Nat.add_zero, rI_hold, rI_hold, rL_hold, hn, hp, hl]; done)) (by omega) (by omega) (by omega) hb he) ?_
  show Bod _ _ _ _ [] _ _ _
  refine Bod.go dc_36_19 rfl ?_
  refine Bod.get dc_36_20 fr_36_23 (mk_31 _) rfl ?_
  refine Bod.eqI (nI q) (by first | (simp (disch := omega) only [rI, rIe, rA, rIA, rLA, rJA, rVI, rQI, rVA, rQA, upd_at,  rAI, rLI, rJI, nI_add, pk_sub, kc_0, kc_1, kc_2, kc_3, kc_4, kc_5, reduceIte, Nat.reduceEqDiff, Nat.add_zero, rI_hold, rI_hold, rL_hold, hn, hp, hl]; done) | (simp (disch := omega) only [rI, rIe, rA, rIA, rLA, rJA, rVI, rQI, rVA, rQA, upd_at,  rAI, rLI, rJI, nI_add, pk_sub, kc_0, kc_1, kc_2, kc_3, kc_4, kc_5, reduceIte, Nat.reduceEqDiff, Nat.add_zero, rI_hold, rI_hold, rL_hold, hn, hp, hl]; exact congrArg nI (by omega))) ?_
  refine Bod.go dc_36_23 rfl ?_
  refine Bod.get dc_36_24 fr_36_19 (mk_31 _) rfl ?_
  refine Bod.eqI (nI n) (by first | (simp (disch := omega) only [rI, rIe, rA, rIA, rLA, rJA, rVI, rQI, rVA, rQA, upd_at,  rAI, rLI, rJI, nI_add, pk_sub, kc_0, kc_1, kc_2, kc_3, kc_4, kc_5, reduceIte, Nat.reduceEqDiff, Nat.add_zero, rI_hold, rI_hold, rL_hold, hn, hp, hl]; done) | (simp (disch := omega) only [rI, rIe, rA, rIA, rLA, rJA, rVI, rQI, rVA, rQA, upd_at,  rAI, rLI, rJI, nI_add, pk_sub, kc_0, kc_1, kc_2, kc_3, kc_4, kc_5, reduceIte, Nat.reduceEqDiff, Nat.add_zero, rI_hold, rI_hold, rL_hold, hn, hp, hl]; exact congrArg nI (by omega))) ?_
  refine Bod.icT dc_36_27 rfl (k2_lt_T q n rfl rfl (by omega) (by omega)) ?_
  refine Bod.go dc_36_33 rfl ?_
  refine Bod.go dc_36_34 rfl ?_
  refine Bod.get dc_36_35 fr_36_23 (mk_31 _) rfl ?_
  refine Bod.eqI (nI q) (by first | (simp (disch := omega) only [rI, rIe, rA, rIA, rLA, rJA, rVI, rQI, rVA, rQA, upd_at,  rAI, rLI, rJI, nI_add, pk_sub, kc_0, kc_1, kc_2, kc_3, kc_4, kc_5, reduceIte, Nat.reduceEqDiff, Nat.add_zero, rI_hold, rI_hold, rL_hold, hn, hp, hl]; done) | (simp (disch := omega) only [rI, rIe, rA, rIA, rLA, rJA, rVI, rQI, rVA, rQA, upd_at,  rAI, rLI, rJI, nI_add, pk_sub, kc_0, kc_1, kc_2, kc_3, kc_4, kc_5, reduceIte, Nat.reduceEqDiff, Nat.add_zero, rI_hold, rI_hold, rL_hold, hn, hp, hl]; exact congrArg nI (by omega))) ?_
  refine Bod.virt (r := []) dc_36_38 kr_36_50 ⟨Or.inl rfl, ow_38, cl_3⟩ (by rw [np_38]; rfl) (by rw [np_38]; rfl) (ob_of (mk_31 _)) (Nat.le_of_ble_eq_true rfl) (byteAt_n (n := n) (q := q) (b := b) (by first | (simp (disch := omega) only [rI, rIe, rA, rIA, rLA, rJA, rVI, rQI, rVA, rQA, upd_at,  rAI, rLI, rJI, nI_add, pk_sub, kc_0, kc_1, kc_2, kc_3, kc_4, kc_5, reduceIte, Nat.reduceEqDiff, Nat.add_zero, rI_hold, rI_hold, rL_hold, hn, hp, hl]; done) | (simp (disch := omega) only [rI, rIe, rA, rIA, rLA, rJA, rVI, rQI, rVA, rQA, upd_at,  rAI, rLI, rJI, nI_add, pk_sub, kc_0, kc_1, kc_2, kc_3, kc_4, kc_5, reduceIte, Nat.reduceEqDiff, Nat.add_zero, rI_hold, rI_hold, rL_hold, hn, hp, hl]; exact congrArg nI (by omega))) (by omega) (by omega) hbq) ?_
  show Bod _ _ _ _ [_] _ _ _
  refine Bod.bip 10 (by decide) dc_36_41 ?_
  refine Bod.icF dc_36_43 rfl (k2_eq_F (k_ne b 10 rfl rfl (by omega) (by omega) (by omega))) ?_
  refine Bod.go dc_36_46 rfl ?_
  refine Bod.go dc_36_47 rfl ?_
  refine Bod.get dc_36_48 fr_36_23 (mk_31 _) rfl ?_
  refine Bod.eqI (nI q) (by first | (simp (disch := omega) only [rI, rIe, rA, rIA, rLA, rJA, rVI, rQI, rVA, rQA, upd_at,  rAI, rLI, rJI, nI_add, pk_sub, kc_0, kc_1, kc_2, kc_3, kc_4, kc_5, reduceIte, Nat.reduceEqDiff, Nat.add_zero, rI_hold, rI_hold, rL_hold, hn, hp, hl]; done) | (simp (disch := omega) only [rI, rIe, rA, rIA, rLA, rJA, rVI, rQI, rVA, rQA, upd_at,  rAI, rLI, rJI, nI_add, pk_sub, kc_0, kc_1, kc_2, kc_3, kc_4, kc_5, reduceIte, Nat.reduceEqDiff, Nat.add_zero, rI_hold, rI_hold, rL_hold, hn, hp, hl]; exact congrArg nI (by omega))) ?_
  refine Bod.virt (r := []) dc_36_51 kr_36_50 ⟨Or.inl rfl, ow_38, cl_3⟩ (by rw [np_38]; rfl) (by rw [np_38]; rfl) (ob_of (mk_31 _)) (Nat.le_of_ble_eq_true rfl) (byteAt_n (n := n) (q := q) (b := b) (by first | (simp (disch := omega) only [rI, rIe, rA, rIA, rLA, rJA, rVI, rQI, rVA, rQA, upd_at,  rAI, rLI, rJI, nI_add, pk_sub, kc_0, kc_1, kc_2, kc_3, kc_4, kc_5, reduceIte, Nat.reduceEqDiff, Nat.add_zero, rI_hold, rI_hold, rL_hold, hn, hp, hl]; done) | (simp (disch := omega) only [rI, rIe, rA, rIA, rLA, rJA, rVI, rQI, rVA, rQA, upd_at,  rAI, rLI, rJI, nI_add, pk_sub, kc_0, kc_1, kc_2, kc_3, kc_4, kc_5, reduceIte, Nat.reduceEqDiff, Nat.add_zero, rI_hold, rI_hold, rL_hold, hn, hp, hl]; exact congrArg nI (by omega))) (by omega) (by omega) hbq) ?_
  show Bod _ _ _ _ [_] _ _ _
  refine Bod.bip 35 (by decide) dc_36_54 ?_
  refine Bod.icT dc_36_56 rfl (k2_eq_T (k_eq b 35 rfl rfl (by omega))) ?_
  refine Bod.go dc_36_83 rfl ?_
  refine Bod.virt (r := []) dc_36_84 kr_36_47 ⟨Or.inl rfl, ow_39, cl_3⟩ (by rw [np_39]; rfl) (by rw [np_39]; rfl) (ob_of (mk_31 _)) (Nat.le_of_ble_eq_true rfl) (skipLine_nl (n := n) (p := q) (q := e) (l := l) (by first | (simp (disch := omega) only [rI, rIe, rA, rIA, rLA, rJA, rVI, rQI, rVA, rQA, upd_at,  rAI, rLI, rJI, nI_add, pk_sub, kc_0, kc_1, kc_2, kc_3, kc_4, kc_5, reduceIte, Nat.reduceEqDiff, Nat.add_zero, rI_hold, rI_hold, rL_hold, hn, hp, hl]; done) | (simp (disch := omega) only [rI, rIe, rA, rIA, rLA, rJA, rVI, rQI, rVA, rQA, upd_at,  rAI, rLI, rJI, nI_add, pk_sub, kc_0, kc_1, kc_2, kc_3, kc_4, kc_5, reduceIte, Nat.reduceEqDiff, Nat.add_zero, rI_hold, rI_hold, rL_hold, hn, hp, hl]; exact congrArg nI (by omega))) (by first | (simp (disch := omega) only [rI, rIe, rA, rIA, rLA, rJA, rVI, rQI, rVA, rQA, upd_at,  rAI, rLI, rJI, nI_add, pk_sub, kc_0, kc_1, kc_2, kc_3, kc_4, kc_5, reduceIte, Nat.reduceEqDiff, Nat.add_zero, rI_hold, rI_hold, rL_hold, hn, hp, hl]; done) | (simp (disch := omega) only [rI, rIe, rA, rIA, rLA, rJA, rVI, rQI, rVA, rQA, upd_at,  rAI, rLI, rJI, nI_add, pk_sub, kc_0, kc_1, kc_2, kc_3, kc_4, kc_5, reduceIte, Nat.reduceEqDiff, Nat.add_zero, rI_hold, rI_hold, rL_hold, hn, hp, hl]; exact congrArg nI (by omega))) (by omega) (by omega) (by first | (simp (disch := omega) only [rI, rIe, rA, rIA, rLA, rJA, rVI, rQI, rVA, rQA, upd_at,  rAI, rLI, rJI, nI_add, pk_sub, kc_0, kc_1, kc_2, kc_3, kc_4, kc_5, reduceIte, Nat.reduceEqDiff, Nat.add_zero, rI_hold, rI_hold, rL_hold, hn, hp, hl]; done) | (simp (disch := omega) only [rI, rIe, rA, rIA, rLA, rJA, rVI, rQI, rVA, rQA, upd_at,  rAI, rLI, rJI, nI_add, pk_sub, kc_0, kc_1, kc_2, kc_3, kc_4, kc_5, reduceIte, Nat.reduceEqDiff, Nat.add_zero, rI_hold, rI_hold, rL_hold, hn, hp, hl]; exact congrArg nI (by omega))) (by omega) hx hey) ?_
  show Bod _ _ _ _ [] _ _ _
  refine Bod.incN (t + 1) (by rw [kc_1, nI_add]) dc_36_87 (by rw [ml_36]; exact Nat.le_of_ble_eq_true rfl) rfl ?_
  refine Bod.go dc_36_90 rfl ?_
  exact Bod.lv (by rfl) hB
theorem findLine_en352 {d n p q e t l : Nat} {S : cS} (hM : n ≤ 3000) (hn : sI S 3102 = nI n) (hp : sI S 3103 = nI p) (hl : sI S 3107 = nI l) (ht : t ≤ n) (hpq : p ≤ q) (hb : ∀ x, p ≤ x → x < q → c_byte S x = 32) (hq : q < n) (he : q = n ∨ c_byte S q ≠ 32) {b : Nat} (hbq : c_byte S q = b) (hqe : q ≤ e) (hx : ∀ x, q ≤ x → x < e → c_byte S x ≠ 10) {z : Int32} {Sf : cS} (h10 : b = 35) (hen : e = n) (hB : Bod (d + 3) 36 2 [(1, .int (nI (t + 1))), (2, .int (nI p)), (0, .ref 31)] [] (wI 3103 (nI e) (wI 3103 (nI q) S)) none Sf) : Bod (d + 3) 36 2 [(1, .int (nI t)), (2, .int z), (0, .ref 31)] [] S none Sf := by
  have hbq2 : b < 256 := by rw [← hbq]; exact (c_byte_eq S q).2
  refine Bod.go dc_36_2 rfl ?_
  refine Bod.go dc_36_3 rfl ?_
  refine Bod.get dc_36_4 fr_36_19 (mk_31 _) rfl ?_
  refine Bod.eqI (nI n) (by first | assumption | rfl | exact congrArg nI (by omega) | (simp (disch := omega) only [rI, rIe, rA, rIA, rLA, rJA, rVI, rQI, rVA, rQA, upd_at,  rAI, rLI, rJI, nI_add, pk_sub, kc_0, kc_1, kc_2, kc_3, kc_4, kc_5, reduceIte, Nat.reduceEqDiff, Nat.add_zero, rI_hold, rI_hold, rL_hold, hn, hp, hl]; done)) ?_
  refine Bod.icF dc_36_7 rfl (k2_gt_F t n rfl rfl (by omega) (by omega)) ?_
  refine Bod.go dc_36_10 rfl ?_
  refine Bod.get dc_36_11 fr_36_23 (mk_31 _) rfl ?_
  refine Bod.eqI (nI p) (by first | assumption | rfl | exact congrArg nI (by omega) | (simp (disch := omega) only [rI, rIe, rA, rIA, rLA, rJA, rVI, rQI, rVA, rQA, upd_at,  rAI, rLI, rJI, nI_add, pk_sub, kc_0, kc_1, kc_2, kc_3, kc_4, kc_5, reduceIte, Nat.reduceEqDiff, Nat.add_zero, rI_hold, rI_hold, rL_hold, hn, hp, hl]; done)) ?_
  refine Bod.istn dc_36_14 (by rw [ml_36]; exact Nat.le_of_ble_eq_true rfl) ?_
  refine Bod.go dc_36_15 rfl ?_
  refine Bod.virt (r := []) dc_36_16 kr_36_54 ⟨Or.inl rfl, ow_37, cl_3⟩ (by rw [np_37]; rfl) (by rw [np_37]; rfl) (ob_of (mk_31 _)) (Nat.le_of_ble_eq_true rfl) (skipBlanks_ev (n := n) (p := p) (q := q) (by first | assumption | rfl | exact congrArg nI (by omega) | (simp (disch := omega) only [rI, rIe, rA, rIA, rLA, rJA, rVI, rQI, rVA, rQA, upd_at,  rAI, rLI, rJI, nI_add, pk_sub, kc_0, kc_1, kc_2, kc_3, kc_4, kc_5, reduceIte, Nat.reduceEqDiff, Nat.add_zero, rI_hold, rI_hold, rL_hold, hn, hp, hl]; done)) (by first | assumption | rfl | exact congrArg nI (by omega) | (simp (disch := omega) only [rI, rIe, rA, rIA, rLA, rJA, rVI, rQI, rVA, rQA, upd_at,  rAI, rLI, rJI, nI_add, pk_sub, kc_0, kc_1, kc_2, kc_3, kc_4, kc_5, reduceIte, Nat.reduceEqDiff, Nat.add_zero, rI_hold, rI_hold, rL_hold, hn, hp, hl]; done)) (by omega) (by omega) (by omega) hb he) ?_
  show Bod _ _ _ _ [] _ _ _
  refine Bod.go dc_36_19 rfl ?_
  refine Bod.get dc_36_20 fr_36_23 (mk_31 _) rfl ?_
  refine Bod.eqI (nI q) (by first | (simp (disch := omega) only [rI, rIe, rA, rIA, rLA, rJA, rVI, rQI, rVA, rQA, upd_at,  rAI, rLI, rJI, nI_add, pk_sub, kc_0, kc_1, kc_2, kc_3, kc_4, kc_5, reduceIte, Nat.reduceEqDiff, Nat.add_zero, rI_hold, rI_hold, rL_hold, hn, hp, hl]; done) | (simp (disch := omega) only [rI, rIe, rA, rIA, rLA, rJA, rVI, rQI, rVA, rQA, upd_at,  rAI, rLI, rJI, nI_add, pk_sub, kc_0, kc_1, kc_2, kc_3, kc_4, kc_5, reduceIte, Nat.reduceEqDiff, Nat.add_zero, rI_hold, rI_hold, rL_hold, hn, hp, hl]; exact congrArg nI (by omega))) ?_
  refine Bod.go dc_36_23 rfl ?_
  refine Bod.get dc_36_24 fr_36_19 (mk_31 _) rfl ?_
  refine Bod.eqI (nI n) (by first | (simp (disch := omega) only [rI, rIe, rA, rIA, rLA, rJA, rVI, rQI, rVA, rQA, upd_at,  rAI, rLI, rJI, nI_add, pk_sub, kc_0, kc_1, kc_2, kc_3, kc_4, kc_5, reduceIte, Nat.reduceEqDiff, Nat.add_zero, rI_hold, rI_hold, rL_hold, hn, hp, hl]; done) | (simp (disch := omega) only [rI, rIe, rA, rIA, rLA, rJA, rVI, rQI, rVA, rQA, upd_at,  rAI, rLI, rJI, nI_add, pk_sub, kc_0, kc_1, kc_2, kc_3, kc_4, kc_5, reduceIte, Nat.reduceEqDiff, Nat.add_zero, rI_hold, rI_hold, rL_hold, hn, hp, hl]; exact congrArg nI (by omega))) ?_
  refine Bod.icT dc_36_27 rfl (k2_lt_T q n rfl rfl (by omega) (by omega)) ?_
  refine Bod.go dc_36_33 rfl ?_
  refine Bod.go dc_36_34 rfl ?_
  refine Bod.get dc_36_35 fr_36_23 (mk_31 _) rfl ?_
  refine Bod.eqI (nI q) (by first | (simp (disch := omega) only [rI, rIe, rA, rIA, rLA, rJA, rVI, rQI, rVA, rQA, upd_at,  rAI, rLI, rJI, nI_add, pk_sub, kc_0, kc_1, kc_2, kc_3, kc_4, kc_5, reduceIte, Nat.reduceEqDiff, Nat.add_zero, rI_hold, rI_hold, rL_hold, hn, hp, hl]; done) | (simp (disch := omega) only [rI, rIe, rA, rIA, rLA, rJA, rVI, rQI, rVA, rQA, upd_at,  rAI, rLI, rJI, nI_add, pk_sub, kc_0, kc_1, kc_2, kc_3, kc_4, kc_5, reduceIte, Nat.reduceEqDiff, Nat.add_zero, rI_hold, rI_hold, rL_hold, hn, hp, hl]; exact congrArg nI (by omega))) ?_
  refine Bod.virt (r := []) dc_36_38 kr_36_50 ⟨Or.inl rfl, ow_38, cl_3⟩ (by rw [np_38]; rfl) (by rw [np_38]; rfl) (ob_of (mk_31 _)) (Nat.le_of_ble_eq_true rfl) (byteAt_n (n := n) (q := q) (b := b) (by first | (simp (disch := omega) only [rI, rIe, rA, rIA, rLA, rJA, rVI, rQI, rVA, rQA, upd_at,  rAI, rLI, rJI, nI_add, pk_sub, kc_0, kc_1, kc_2, kc_3, kc_4, kc_5, reduceIte, Nat.reduceEqDiff, Nat.add_zero, rI_hold, rI_hold, rL_hold, hn, hp, hl]; done) | (simp (disch := omega) only [rI, rIe, rA, rIA, rLA, rJA, rVI, rQI, rVA, rQA, upd_at,  rAI, rLI, rJI, nI_add, pk_sub, kc_0, kc_1, kc_2, kc_3, kc_4, kc_5, reduceIte, Nat.reduceEqDiff, Nat.add_zero, rI_hold, rI_hold, rL_hold, hn, hp, hl]; exact congrArg nI (by omega))) (by omega) (by omega) hbq) ?_
  show Bod _ _ _ _ [_] _ _ _
  refine Bod.bip 10 (by decide) dc_36_41 ?_
  refine Bod.icF dc_36_43 rfl (k2_eq_F (k_ne b 10 rfl rfl (by omega) (by omega) (by omega))) ?_
  refine Bod.go dc_36_46 rfl ?_
  refine Bod.go dc_36_47 rfl ?_
  refine Bod.get dc_36_48 fr_36_23 (mk_31 _) rfl ?_
  refine Bod.eqI (nI q) (by first | (simp (disch := omega) only [rI, rIe, rA, rIA, rLA, rJA, rVI, rQI, rVA, rQA, upd_at,  rAI, rLI, rJI, nI_add, pk_sub, kc_0, kc_1, kc_2, kc_3, kc_4, kc_5, reduceIte, Nat.reduceEqDiff, Nat.add_zero, rI_hold, rI_hold, rL_hold, hn, hp, hl]; done) | (simp (disch := omega) only [rI, rIe, rA, rIA, rLA, rJA, rVI, rQI, rVA, rQA, upd_at,  rAI, rLI, rJI, nI_add, pk_sub, kc_0, kc_1, kc_2, kc_3, kc_4, kc_5, reduceIte, Nat.reduceEqDiff, Nat.add_zero, rI_hold, rI_hold, rL_hold, hn, hp, hl]; exact congrArg nI (by omega))) ?_
  refine Bod.virt (r := []) dc_36_51 kr_36_50 ⟨Or.inl rfl, ow_38, cl_3⟩ (by rw [np_38]; rfl) (by rw [np_38]; rfl) (ob_of (mk_31 _)) (Nat.le_of_ble_eq_true rfl) (byteAt_n (n := n) (q := q) (b := b) (by first | (simp (disch := omega) only [rI, rIe, rA, rIA, rLA, rJA, rVI, rQI, rVA, rQA, upd_at,  rAI, rLI, rJI, nI_add, pk_sub, kc_0, kc_1, kc_2, kc_3, kc_4, kc_5, reduceIte, Nat.reduceEqDiff, Nat.add_zero, rI_hold, rI_hold, rL_hold, hn, hp, hl]; done) | (simp (disch := omega) only [rI, rIe, rA, rIA, rLA, rJA, rVI, rQI, rVA, rQA, upd_at,  rAI, rLI, rJI, nI_add, pk_sub, kc_0, kc_1, kc_2, kc_3, kc_4, kc_5, reduceIte, Nat.reduceEqDiff, Nat.add_zero, rI_hold, rI_hold, rL_hold, hn, hp, hl]; exact congrArg nI (by omega))) (by omega) (by omega) hbq) ?_
  show Bod _ _ _ _ [_] _ _ _
  refine Bod.bip 35 (by decide) dc_36_54 ?_
  refine Bod.icT dc_36_56 rfl (k2_eq_T (k_eq b 35 rfl rfl (by omega))) ?_
  refine Bod.go dc_36_83 rfl ?_
  refine Bod.virt (r := []) dc_36_84 kr_36_47 ⟨Or.inl rfl, ow_39, cl_3⟩ (by rw [np_39]; rfl) (by rw [np_39]; rfl) (ob_of (mk_31 _)) (Nat.le_of_ble_eq_true rfl) (skipLine_end (n := n) (p := q) (q := e) (by first | (simp (disch := omega) only [rI, rIe, rA, rIA, rLA, rJA, rVI, rQI, rVA, rQA, upd_at,  rAI, rLI, rJI, nI_add, pk_sub, kc_0, kc_1, kc_2, kc_3, kc_4, kc_5, reduceIte, Nat.reduceEqDiff, Nat.add_zero, rI_hold, rI_hold, rL_hold, hn, hp, hl]; done) | (simp (disch := omega) only [rI, rIe, rA, rIA, rLA, rJA, rVI, rQI, rVA, rQA, upd_at,  rAI, rLI, rJI, nI_add, pk_sub, kc_0, kc_1, kc_2, kc_3, kc_4, kc_5, reduceIte, Nat.reduceEqDiff, Nat.add_zero, rI_hold, rI_hold, rL_hold, hn, hp, hl]; exact congrArg nI (by omega))) (by first | (simp (disch := omega) only [rI, rIe, rA, rIA, rLA, rJA, rVI, rQI, rVA, rQA, upd_at,  rAI, rLI, rJI, nI_add, pk_sub, kc_0, kc_1, kc_2, kc_3, kc_4, kc_5, reduceIte, Nat.reduceEqDiff, Nat.add_zero, rI_hold, rI_hold, rL_hold, hn, hp, hl]; done) | (simp (disch := omega) only [rI, rIe, rA, rIA, rLA, rJA, rVI, rQI, rVA, rQA, upd_at,  rAI, rLI, rJI, nI_add, pk_sub, kc_0, kc_1, kc_2, kc_3, kc_4, kc_5, reduceIte, Nat.reduceEqDiff, Nat.add_zero, rI_hold, rI_hold, rL_hold, hn, hp, hl]; exact congrArg nI (by omega))) (by omega) (by omega) (by omega) hx) ?_
  show Bod _ _ _ _ [] _ _ _
  refine Bod.incN (t + 1) (by rw [kc_1, nI_add]) dc_36_87 (by rw [ml_36]; exact Nat.le_of_ble_eq_true rfl) rfl ?_
  refine Bod.go dc_36_90 rfl ?_
  exact Bod.lv (by rfl) hB
theorem findLine_end3 {d n p q t l : Nat} {S : cS} (hM : n ≤ 3000) (hn : sI S 3102 = nI n) (hp : sI S 3103 = nI p) (hl : sI S 3107 = nI l) (ht : t ≤ n) (hpq : p ≤ q) (hb : ∀ x, p ≤ x → x < q → c_byte S x = 32) {z : Int32} (hq : q = n) (he : q = n ∨ c_byte S q ≠ 32) : Bod (d + 3) 36 2 [(1, .int (nI t)), (2, .int z), (0, .ref 31)] [] S none (wI 3108 (Int32.ofInt (-1)) (wI 3105 (nI 1) (wI 3103 (nI q) S))) := by
  refine Bod.go dc_36_2 rfl ?_
  refine Bod.go dc_36_3 rfl ?_
  refine Bod.get dc_36_4 fr_36_19 (mk_31 _) rfl ?_
  refine Bod.eqI (nI n) (by first | assumption | rfl | exact congrArg nI (by omega) | (simp (disch := omega) only [rI, rIe, rA, rIA, rLA, rJA, rVI, rQI, rVA, rQA, upd_at,  rAI, rLI, rJI, nI_add, pk_sub, kc_0, kc_1, kc_2, kc_3, kc_4, kc_5, reduceIte, Nat.reduceEqDiff, Nat.add_zero, rI_hold, rI_hold, rL_hold, hn, hp, hl]; done)) ?_
  refine Bod.icF dc_36_7 rfl (k2_gt_F t n rfl rfl (by omega) (by omega)) ?_
  refine Bod.go dc_36_10 rfl ?_
  refine Bod.get dc_36_11 fr_36_23 (mk_31 _) rfl ?_
  refine Bod.eqI (nI p) (by first | assumption | rfl | exact congrArg nI (by omega) | (simp (disch := omega) only [rI, rIe, rA, rIA, rLA, rJA, rVI, rQI, rVA, rQA, upd_at,  rAI, rLI, rJI, nI_add, pk_sub, kc_0, kc_1, kc_2, kc_3, kc_4, kc_5, reduceIte, Nat.reduceEqDiff, Nat.add_zero, rI_hold, rI_hold, rL_hold, hn, hp, hl]; done)) ?_
  refine Bod.istn dc_36_14 (by rw [ml_36]; exact Nat.le_of_ble_eq_true rfl) ?_
  refine Bod.go dc_36_15 rfl ?_
  refine Bod.virt (r := []) dc_36_16 kr_36_54 ⟨Or.inl rfl, ow_37, cl_3⟩ (by rw [np_37]; rfl) (by rw [np_37]; rfl) (ob_of (mk_31 _)) (Nat.le_of_ble_eq_true rfl) (skipBlanks_ev (n := n) (p := p) (q := q) (by first | assumption | rfl | exact congrArg nI (by omega) | (simp (disch := omega) only [rI, rIe, rA, rIA, rLA, rJA, rVI, rQI, rVA, rQA, upd_at,  rAI, rLI, rJI, nI_add, pk_sub, kc_0, kc_1, kc_2, kc_3, kc_4, kc_5, reduceIte, Nat.reduceEqDiff, Nat.add_zero, rI_hold, rI_hold, rL_hold, hn, hp, hl]; done)) (by first | assumption | rfl | exact congrArg nI (by omega) | (simp (disch := omega) only [rI, rIe, rA, rIA, rLA, rJA, rVI, rQI, rVA, rQA, upd_at,  rAI, rLI, rJI, nI_add, pk_sub, kc_0, kc_1, kc_2, kc_3, kc_4, kc_5, reduceIte, Nat.reduceEqDiff, Nat.add_zero, rI_hold, rI_hold, rL_hold, hn, hp, hl]; done)) (by omega) (by omega) (by omega) hb he) ?_
  show Bod _ _ _ _ [] _ _ _
  refine Bod.go dc_36_19 rfl ?_
  refine Bod.get dc_36_20 fr_36_23 (mk_31 _) rfl ?_
  refine Bod.eqI (nI q) (by first | (simp (disch := omega) only [rI, rIe, rA, rIA, rLA, rJA, rVI, rQI, rVA, rQA, upd_at,  rAI, rLI, rJI, nI_add, pk_sub, kc_0, kc_1, kc_2, kc_3, kc_4, kc_5, reduceIte, Nat.reduceEqDiff, Nat.add_zero, rI_hold, rI_hold, rL_hold, hn, hp, hl]; done) | (simp (disch := omega) only [rI, rIe, rA, rIA, rLA, rJA, rVI, rQI, rVA, rQA, upd_at,  rAI, rLI, rJI, nI_add, pk_sub, kc_0, kc_1, kc_2, kc_3, kc_4, kc_5, reduceIte, Nat.reduceEqDiff, Nat.add_zero, rI_hold, rI_hold, rL_hold, hn, hp, hl]; exact congrArg nI (by omega))) ?_
  refine Bod.go dc_36_23 rfl ?_
  refine Bod.get dc_36_24 fr_36_19 (mk_31 _) rfl ?_
  refine Bod.eqI (nI n) (by first | (simp (disch := omega) only [rI, rIe, rA, rIA, rLA, rJA, rVI, rQI, rVA, rQA, upd_at,  rAI, rLI, rJI, nI_add, pk_sub, kc_0, kc_1, kc_2, kc_3, kc_4, kc_5, reduceIte, Nat.reduceEqDiff, Nat.add_zero, rI_hold, rI_hold, rL_hold, hn, hp, hl]; done) | (simp (disch := omega) only [rI, rIe, rA, rIA, rLA, rJA, rVI, rQI, rVA, rQA, upd_at,  rAI, rLI, rJI, nI_add, pk_sub, kc_0, kc_1, kc_2, kc_3, kc_4, kc_5, reduceIte, Nat.reduceEqDiff, Nat.add_zero, rI_hold, rI_hold, rL_hold, hn, hp, hl]; exact congrArg nI (by omega))) ?_
  refine Bod.icF dc_36_27 rfl (k2_lt_F q n rfl rfl (by omega) (by omega)) ?_
  refine Bod.go dc_36_30 rfl ?_
  refine Bod.go dc_36_93 rfl ?_
  refine Bod.ic 1 (by decide) dc_36_94 ?_
  refine Bod.put dc_36_95 fr_36_38 (mk_31 _) (Nat.le_of_ble_eq_true rfl) pf_3_5 (st_3105 _ _) (mu_I _ _ _) ?_
  refine Bod.go dc_36_98 rfl ?_
  refine Bod.go dc_36_99 rfl ?_
  refine Bod.put dc_36_100 fr_36_57 (mk_31 _) (Nat.le_of_ble_eq_true rfl) pf_3_8 (st_3108 _ _) (mu_I _ _ _) ?_
  exact Bod.retV dc_36_103 rt_36
theorem findLine_tok3 {d n p q t l : Nat} {S : cS} (hM : n ≤ 3000) (hn : sI S 3102 = nI n) (hp : sI S 3103 = nI p) (hl : sI S 3107 = nI l) (ht : t ≤ n) (hpq : p ≤ q) (hb : ∀ x, p ≤ x → x < q → c_byte S x = 32) {z : Int32} {b : Nat} (hq : q < n) (he : q = n ∨ c_byte S q ≠ 32) (hbq : c_byte S q = b) (h10 : b ≠ 10) (h35 : b ≠ 35) : Bod (d + 3) 36 2 [(1, .int (nI t)), (2, .int z), (0, .ref 31)] [] S none (wI 3105 (nI 2) (wI 3108 (nI (q - p)) (wI 3106 (nI l) (wI 3103 (nI q) S)))) := by
  have hbq2 : b < 256 := by rw [← hbq]; exact (c_byte_eq S q).2
  refine Bod.go dc_36_2 rfl ?_
  refine Bod.go dc_36_3 rfl ?_
  refine Bod.get dc_36_4 fr_36_19 (mk_31 _) rfl ?_
  refine Bod.eqI (nI n) (by first | assumption | rfl | exact congrArg nI (by omega) | (simp (disch := omega) only [rI, rIe, rA, rIA, rLA, rJA, rVI, rQI, rVA, rQA, upd_at,  rAI, rLI, rJI, nI_add, pk_sub, kc_0, kc_1, kc_2, kc_3, kc_4, kc_5, reduceIte, Nat.reduceEqDiff, Nat.add_zero, rI_hold, rI_hold, rL_hold, hn, hp, hl]; done)) ?_
  refine Bod.icF dc_36_7 rfl (k2_gt_F t n rfl rfl (by omega) (by omega)) ?_
  refine Bod.go dc_36_10 rfl ?_
  refine Bod.get dc_36_11 fr_36_23 (mk_31 _) rfl ?_
  refine Bod.eqI (nI p) (by first | assumption | rfl | exact congrArg nI (by omega) | (simp (disch := omega) only [rI, rIe, rA, rIA, rLA, rJA, rVI, rQI, rVA, rQA, upd_at,  rAI, rLI, rJI, nI_add, pk_sub, kc_0, kc_1, kc_2, kc_3, kc_4, kc_5, reduceIte, Nat.reduceEqDiff, Nat.add_zero, rI_hold, rI_hold, rL_hold, hn, hp, hl]; done)) ?_
  refine Bod.istn dc_36_14 (by rw [ml_36]; exact Nat.le_of_ble_eq_true rfl) ?_
  refine Bod.go dc_36_15 rfl ?_
  refine Bod.virt (r := []) dc_36_16 kr_36_54 ⟨Or.inl rfl, ow_37, cl_3⟩ (by rw [np_37]; rfl) (by rw [np_37]; rfl) (ob_of (mk_31 _)) (Nat.le_of_ble_eq_true rfl) (skipBlanks_ev (n := n) (p := p) (q := q) (by first | assumption | rfl | exact congrArg nI (by omega) | (simp (disch := omega) only [rI, rIe, rA, rIA, rLA, rJA, rVI, rQI, rVA, rQA, upd_at,  rAI, rLI, rJI, nI_add, pk_sub, kc_0, kc_1, kc_2, kc_3, kc_4, kc_5, reduceIte, Nat.reduceEqDiff, Nat.add_zero, rI_hold, rI_hold, rL_hold, hn, hp, hl]; done)) (by first | assumption | rfl | exact congrArg nI (by omega) | (simp (disch := omega) only [rI, rIe, rA, rIA, rLA, rJA, rVI, rQI, rVA, rQA, upd_at,  rAI, rLI, rJI, nI_add, pk_sub, kc_0, kc_1, kc_2, kc_3, kc_4, kc_5, reduceIte, Nat.reduceEqDiff, Nat.add_zero, rI_hold, rI_hold, rL_hold, hn, hp, hl]; done)) (by omega) (by omega) (by omega) hb he) ?_
  show Bod _ _ _ _ [] _ _ _
  refine Bod.go dc_36_19 rfl ?_
  refine Bod.get dc_36_20 fr_36_23 (mk_31 _) rfl ?_
  refine Bod.eqI (nI q) (by first | (simp (disch := omega) only [rI, rIe, rA, rIA, rLA, rJA, rVI, rQI, rVA, rQA, upd_at,  rAI, rLI, rJI, nI_add, pk_sub, kc_0, kc_1, kc_2, kc_3, kc_4, kc_5, reduceIte, Nat.reduceEqDiff, Nat.add_zero, rI_hold, rI_hold, rL_hold, hn, hp, hl]; done) | (simp (disch := omega) only [rI, rIe, rA, rIA, rLA, rJA, rVI, rQI, rVA, rQA, upd_at,  rAI, rLI, rJI, nI_add, pk_sub, kc_0, kc_1, kc_2, kc_3, kc_4, kc_5, reduceIte, Nat.reduceEqDiff, Nat.add_zero, rI_hold, rI_hold, rL_hold, hn, hp, hl]; exact congrArg nI (by omega))) ?_
  refine Bod.go dc_36_23 rfl ?_
  refine Bod.get dc_36_24 fr_36_19 (mk_31 _) rfl ?_
  refine Bod.eqI (nI n) (by first | (simp (disch := omega) only [rI, rIe, rA, rIA, rLA, rJA, rVI, rQI, rVA, rQA, upd_at,  rAI, rLI, rJI, nI_add, pk_sub, kc_0, kc_1, kc_2, kc_3, kc_4, kc_5, reduceIte, Nat.reduceEqDiff, Nat.add_zero, rI_hold, rI_hold, rL_hold, hn, hp, hl]; done) | (simp (disch := omega) only [rI, rIe, rA, rIA, rLA, rJA, rVI, rQI, rVA, rQA, upd_at,  rAI, rLI, rJI, nI_add, pk_sub, kc_0, kc_1, kc_2, kc_3, kc_4, kc_5, reduceIte, Nat.reduceEqDiff, Nat.add_zero, rI_hold, rI_hold, rL_hold, hn, hp, hl]; exact congrArg nI (by omega))) ?_
  refine Bod.icT dc_36_27 rfl (k2_lt_T q n rfl rfl (by omega) (by omega)) ?_
  refine Bod.go dc_36_33 rfl ?_
  refine Bod.go dc_36_34 rfl ?_
  refine Bod.get dc_36_35 fr_36_23 (mk_31 _) rfl ?_
  refine Bod.eqI (nI q) (by first | (simp (disch := omega) only [rI, rIe, rA, rIA, rLA, rJA, rVI, rQI, rVA, rQA, upd_at,  rAI, rLI, rJI, nI_add, pk_sub, kc_0, kc_1, kc_2, kc_3, kc_4, kc_5, reduceIte, Nat.reduceEqDiff, Nat.add_zero, rI_hold, rI_hold, rL_hold, hn, hp, hl]; done) | (simp (disch := omega) only [rI, rIe, rA, rIA, rLA, rJA, rVI, rQI, rVA, rQA, upd_at,  rAI, rLI, rJI, nI_add, pk_sub, kc_0, kc_1, kc_2, kc_3, kc_4, kc_5, reduceIte, Nat.reduceEqDiff, Nat.add_zero, rI_hold, rI_hold, rL_hold, hn, hp, hl]; exact congrArg nI (by omega))) ?_
  refine Bod.virt (r := []) dc_36_38 kr_36_50 ⟨Or.inl rfl, ow_38, cl_3⟩ (by rw [np_38]; rfl) (by rw [np_38]; rfl) (ob_of (mk_31 _)) (Nat.le_of_ble_eq_true rfl) (byteAt_n (n := n) (q := q) (b := b) (by first | (simp (disch := omega) only [rI, rIe, rA, rIA, rLA, rJA, rVI, rQI, rVA, rQA, upd_at,  rAI, rLI, rJI, nI_add, pk_sub, kc_0, kc_1, kc_2, kc_3, kc_4, kc_5, reduceIte, Nat.reduceEqDiff, Nat.add_zero, rI_hold, rI_hold, rL_hold, hn, hp, hl]; done) | (simp (disch := omega) only [rI, rIe, rA, rIA, rLA, rJA, rVI, rQI, rVA, rQA, upd_at,  rAI, rLI, rJI, nI_add, pk_sub, kc_0, kc_1, kc_2, kc_3, kc_4, kc_5, reduceIte, Nat.reduceEqDiff, Nat.add_zero, rI_hold, rI_hold, rL_hold, hn, hp, hl]; exact congrArg nI (by omega))) (by omega) (by omega) hbq) ?_
  show Bod _ _ _ _ [_] _ _ _
  refine Bod.bip 10 (by decide) dc_36_41 ?_
  refine Bod.icF dc_36_43 rfl (k2_eq_F (k_ne b 10 rfl rfl (by omega) (by omega) (by omega))) ?_
  refine Bod.go dc_36_46 rfl ?_
  refine Bod.go dc_36_47 rfl ?_
  refine Bod.get dc_36_48 fr_36_23 (mk_31 _) rfl ?_
  refine Bod.eqI (nI q) (by first | (simp (disch := omega) only [rI, rIe, rA, rIA, rLA, rJA, rVI, rQI, rVA, rQA, upd_at,  rAI, rLI, rJI, nI_add, pk_sub, kc_0, kc_1, kc_2, kc_3, kc_4, kc_5, reduceIte, Nat.reduceEqDiff, Nat.add_zero, rI_hold, rI_hold, rL_hold, hn, hp, hl]; done) | (simp (disch := omega) only [rI, rIe, rA, rIA, rLA, rJA, rVI, rQI, rVA, rQA, upd_at,  rAI, rLI, rJI, nI_add, pk_sub, kc_0, kc_1, kc_2, kc_3, kc_4, kc_5, reduceIte, Nat.reduceEqDiff, Nat.add_zero, rI_hold, rI_hold, rL_hold, hn, hp, hl]; exact congrArg nI (by omega))) ?_
  refine Bod.virt (r := []) dc_36_51 kr_36_50 ⟨Or.inl rfl, ow_38, cl_3⟩ (by rw [np_38]; rfl) (by rw [np_38]; rfl) (ob_of (mk_31 _)) (Nat.le_of_ble_eq_true rfl) (byteAt_n (n := n) (q := q) (b := b) (by first | (simp (disch := omega) only [rI, rIe, rA, rIA, rLA, rJA, rVI, rQI, rVA, rQA, upd_at,  rAI, rLI, rJI, nI_add, pk_sub, kc_0, kc_1, kc_2, kc_3, kc_4, kc_5, reduceIte, Nat.reduceEqDiff, Nat.add_zero, rI_hold, rI_hold, rL_hold, hn, hp, hl]; done) | (simp (disch := omega) only [rI, rIe, rA, rIA, rLA, rJA, rVI, rQI, rVA, rQA, upd_at,  rAI, rLI, rJI, nI_add, pk_sub, kc_0, kc_1, kc_2, kc_3, kc_4, kc_5, reduceIte, Nat.reduceEqDiff, Nat.add_zero, rI_hold, rI_hold, rL_hold, hn, hp, hl]; exact congrArg nI (by omega))) (by omega) (by omega) hbq) ?_
  show Bod _ _ _ _ [_] _ _ _
  refine Bod.bip 35 (by decide) dc_36_54 ?_
  refine Bod.icF dc_36_56 rfl (k2_eq_F (k_ne b 35 rfl rfl (by omega) (by omega) (by omega))) ?_
  refine Bod.go dc_36_59 rfl ?_
  refine Bod.go dc_36_60 rfl ?_
  refine Bod.get dc_36_61 fr_36_32 (mk_31 _) rfl ?_
  refine Bod.eqI (nI l) (by first | (simp (disch := omega) only [rI, rIe, rA, rIA, rLA, rJA, rVI, rQI, rVA, rQA, upd_at,  rAI, rLI, rJI, nI_add, pk_sub, kc_0, kc_1, kc_2, kc_3, kc_4, kc_5, reduceIte, Nat.reduceEqDiff, Nat.add_zero, rI_hold, rI_hold, rL_hold, hn, hp, hl]; done) | (simp (disch := omega) only [rI, rIe, rA, rIA, rLA, rJA, rVI, rQI, rVA, rQA, upd_at,  rAI, rLI, rJI, nI_add, pk_sub, kc_0, kc_1, kc_2, kc_3, kc_4, kc_5, reduceIte, Nat.reduceEqDiff, Nat.add_zero, rI_hold, rI_hold, rL_hold, hn, hp, hl]; exact congrArg nI (by omega))) ?_
  refine Bod.put dc_36_64 fr_36_29 (mk_31 _) (Nat.le_of_ble_eq_true rfl) pf_3_6 (st_3106 _ _) (mu_I _ _ _) ?_
  refine Bod.go dc_36_67 rfl ?_
  refine Bod.go dc_36_68 rfl ?_
  refine Bod.get dc_36_69 fr_36_23 (mk_31 _) rfl ?_
  refine Bod.eqI (nI q) (by first | (simp (disch := omega) only [rI, rIe, rA, rIA, rLA, rJA, rVI, rQI, rVA, rQA, upd_at,  rAI, rLI, rJI, nI_add, pk_sub, kc_0, kc_1, kc_2, kc_3, kc_4, kc_5, reduceIte, Nat.reduceEqDiff, Nat.add_zero, rI_hold, rI_hold, rL_hold, hn, hp, hl]; done) | (simp (disch := omega) only [rI, rIe, rA, rIA, rLA, rJA, rVI, rQI, rVA, rQA, upd_at,  rAI, rLI, rJI, nI_add, pk_sub, kc_0, kc_1, kc_2, kc_3, kc_4, kc_5, reduceIte, Nat.reduceEqDiff, Nat.add_zero, rI_hold, rI_hold, rL_hold, hn, hp, hl]; exact congrArg nI (by omega))) ?_
  refine Bod.go dc_36_72 rfl ?_
  refine Bod.subN (q - p) (by omega) (by omega) dc_36_73 ?_
  refine Bod.put dc_36_74 fr_36_57 (mk_31 _) (Nat.le_of_ble_eq_true rfl) pf_3_8 (st_3108 _ _) (mu_I _ _ _) ?_
  refine Bod.go dc_36_77 rfl ?_
  refine Bod.ic 2 (by decide) dc_36_78 ?_
  refine Bod.put dc_36_79 fr_36_38 (mk_31 _) (Nat.le_of_ble_eq_true rfl) pf_3_5 (st_3105 _ _) (mu_I _ _ _) ?_
  exact Bod.retV dc_36_82 rt_36
theorem nextLine_nl_end {d : Nat} {S : cS} {n : Nat} {p : Nat} {l : Nat} {e : Nat} {k : Nat} {S2 : cS} (hn : sI S 3102 = nI n) (hp : sI S 3103 = nI p) (hM : n ≤ 3000) (hl : sI S 3107 = nI l) (ht : sI S 3105 = nI 2) (hpe : p ≤ e) (hx : ∀ x, p ≤ x → x < e → c_byte S x ≠ 10) (hen : e < n) (hey : c_byte S e = 10) (hF : Ans (d + 5) 36 [.ref 31] (wI 3107 (nI (l + 1)) (wI 3103 (nI (e + 1)) (wI 3103 (nI e) S))) none S2) (h5 : sI S2 3105 = nI k) (hk : k = 1) : Ans (d + 6) 86 [.ref 31] S (none) (S2) := by
  refine Ans.of (by rw [ml_86]; exact Nat.le_of_ble_eq_true rfl) ?_
  refine Bod.go dc_86_0 rfl ?_
  refine Bod.get dc_86_1 fr_86_38 (mk_31 _) rfl ?_
  refine Bod.eqI (nI 2) (by first | assumption | rfl | exact congrArg nI (by omega) | (simp (disch := omega) only [rI, rIe, rA, rIA, rLA, rJA, rVI, rQI, rVA, rQA, upd_at,  rAI, rLI, rJI, nI_add, pk_sub, kc_0, kc_1, kc_2, kc_3, kc_4, kc_5, reduceIte, Nat.reduceEqDiff, Nat.add_zero, rI_hold, rI_hold, rL_hold, hn, hp, hl, ht, h5]; done)) ?_
  refine Bod.ic 2 (by decide) dc_86_4 ?_
  refine Bod.icT dc_86_5 rfl (k2_eq_T (k_eq 2 2 rfl rfl (by omega))) ?_
  refine Bod.go dc_86_13 rfl ?_
  refine Bod.virt (r := []) dc_86_14 kr_86_47 ⟨Or.inl rfl, ow_39, cl_3⟩ (by rw [np_39]; rfl) (by rw [np_39]; rfl) (ob_of (mk_31 _)) (Nat.le_of_ble_eq_true rfl) (skipLine_nl (n := n) (p := p) (q := e) (l := l) (by first | assumption | rfl | exact congrArg nI (by omega) | (simp (disch := omega) only [rI, rIe, rA, rIA, rLA, rJA, rVI, rQI, rVA, rQA, upd_at,  rAI, rLI, rJI, nI_add, pk_sub, kc_0, kc_1, kc_2, kc_3, kc_4, kc_5, reduceIte, Nat.reduceEqDiff, Nat.add_zero, rI_hold, rI_hold, rL_hold, hn, hp, hl, ht, h5]; done)) (by first | assumption | rfl | exact congrArg nI (by omega) | (simp (disch := omega) only [rI, rIe, rA, rIA, rLA, rJA, rVI, rQI, rVA, rQA, upd_at,  rAI, rLI, rJI, nI_add, pk_sub, kc_0, kc_1, kc_2, kc_3, kc_4, kc_5, reduceIte, Nat.reduceEqDiff, Nat.add_zero, rI_hold, rI_hold, rL_hold, hn, hp, hl, ht, h5]; done)) (by omega) (by omega) (by first | assumption | rfl | exact congrArg nI (by omega) | (simp (disch := omega) only [rI, rIe, rA, rIA, rLA, rJA, rVI, rQI, rVA, rQA, upd_at,  rAI, rLI, rJI, nI_add, pk_sub, kc_0, kc_1, kc_2, kc_3, kc_4, kc_5, reduceIte, Nat.reduceEqDiff, Nat.add_zero, rI_hold, rI_hold, rL_hold, hn, hp, hl, ht, h5]; done)) (by omega) hx hey) ?_
  show Bod _ _ _ _ [] _ _ _
  refine Bod.go dc_86_17 rfl ?_
  refine Bod.virt (r := []) dc_86_18 kr_86_35 ⟨Or.inl rfl, ow_36, cl_3⟩ (by rw [np_36]; rfl) (by rw [np_36]; rfl) (ob_of (mk_31 _)) (Nat.le_of_ble_eq_true rfl) (hF  ) ?_
  show Bod _ _ _ _ [] _ _ _
  refine Bod.go dc_86_21 rfl ?_
  refine Bod.get dc_86_22 fr_86_38 (mk_31 _) rfl ?_
  refine Bod.eqI (nI k) (by first | (simp (disch := omega) only [rI, rIe, rA, rIA, rLA, rJA, rVI, rQI, rVA, rQA, upd_at,  rAI, rLI, rJI, nI_add, pk_sub, kc_0, kc_1, kc_2, kc_3, kc_4, kc_5, reduceIte, Nat.reduceEqDiff, Nat.add_zero, rI_hold, rI_hold, rL_hold, hn, hp, hl, ht, h5]; done) | (simp (disch := omega) only [rI, rIe, rA, rIA, rLA, rJA, rVI, rQI, rVA, rQA, upd_at,  rAI, rLI, rJI, nI_add, pk_sub, kc_0, kc_1, kc_2, kc_3, kc_4, kc_5, reduceIte, Nat.reduceEqDiff, Nat.add_zero, rI_hold, rI_hold, rL_hold, hn, hp, hl, ht, h5]; exact congrArg nI (by omega))) ?_
  refine Bod.ic 2 (by decide) dc_86_25 ?_
  refine Bod.icT dc_86_26 rfl (k2_ne_T (k_ne k 2 rfl rfl (by omega) (by omega) (by omega))) ?_
  exact Bod.retV dc_86_33 rt_86
theorem nextLine_nl_tok {d : Nat} {S : cS} {n : Nat} {p : Nat} {l : Nat} {e : Nat} {k : Nat} {S2 : cS} {S3 : cS} (hn : sI S 3102 = nI n) (hp : sI S 3103 = nI p) (hM : n ≤ 3000) (hl : sI S 3107 = nI l) (ht : sI S 3105 = nI 2) (hpe : p ≤ e) (hx : ∀ x, p ≤ x → x < e → c_byte S x ≠ 10) (hen : e < n) (hey : c_byte S e = 10) (hF : Ans (d + 5) 36 [.ref 31] (wI 3107 (nI (l + 1)) (wI 3103 (nI (e + 1)) (wI 3103 (nI e) S))) none S2) (h5 : sI S2 3105 = nI k) (hk : k = 2) (hR : Ans (d + 5) 40 [.ref 31] S2 none S3) : Ans (d + 6) 86 [.ref 31] S (none) (S3) := by
  refine Ans.of (by rw [ml_86]; exact Nat.le_of_ble_eq_true rfl) ?_
  refine Bod.go dc_86_0 rfl ?_
  refine Bod.get dc_86_1 fr_86_38 (mk_31 _) rfl ?_
  refine Bod.eqI (nI 2) (by first | assumption | rfl | exact congrArg nI (by omega) | (simp (disch := omega) only [rI, rIe, rA, rIA, rLA, rJA, rVI, rQI, rVA, rQA, upd_at,  rAI, rLI, rJI, nI_add, pk_sub, kc_0, kc_1, kc_2, kc_3, kc_4, kc_5, reduceIte, Nat.reduceEqDiff, Nat.add_zero, rI_hold, rI_hold, rL_hold, hn, hp, hl, ht, h5]; done)) ?_
  refine Bod.ic 2 (by decide) dc_86_4 ?_
  refine Bod.icT dc_86_5 rfl (k2_eq_T (k_eq 2 2 rfl rfl (by omega))) ?_
  refine Bod.go dc_86_13 rfl ?_
  refine Bod.virt (r := []) dc_86_14 kr_86_47 ⟨Or.inl rfl, ow_39, cl_3⟩ (by rw [np_39]; rfl) (by rw [np_39]; rfl) (ob_of (mk_31 _)) (Nat.le_of_ble_eq_true rfl) (skipLine_nl (n := n) (p := p) (q := e) (l := l) (by first | assumption | rfl | exact congrArg nI (by omega) | (simp (disch := omega) only [rI, rIe, rA, rIA, rLA, rJA, rVI, rQI, rVA, rQA, upd_at,  rAI, rLI, rJI, nI_add, pk_sub, kc_0, kc_1, kc_2, kc_3, kc_4, kc_5, reduceIte, Nat.reduceEqDiff, Nat.add_zero, rI_hold, rI_hold, rL_hold, hn, hp, hl, ht, h5]; done)) (by first | assumption | rfl | exact congrArg nI (by omega) | (simp (disch := omega) only [rI, rIe, rA, rIA, rLA, rJA, rVI, rQI, rVA, rQA, upd_at,  rAI, rLI, rJI, nI_add, pk_sub, kc_0, kc_1, kc_2, kc_3, kc_4, kc_5, reduceIte, Nat.reduceEqDiff, Nat.add_zero, rI_hold, rI_hold, rL_hold, hn, hp, hl, ht, h5]; done)) (by omega) (by omega) (by first | assumption | rfl | exact congrArg nI (by omega) | (simp (disch := omega) only [rI, rIe, rA, rIA, rLA, rJA, rVI, rQI, rVA, rQA, upd_at,  rAI, rLI, rJI, nI_add, pk_sub, kc_0, kc_1, kc_2, kc_3, kc_4, kc_5, reduceIte, Nat.reduceEqDiff, Nat.add_zero, rI_hold, rI_hold, rL_hold, hn, hp, hl, ht, h5]; done)) (by omega) hx hey) ?_
  show Bod _ _ _ _ [] _ _ _
  refine Bod.go dc_86_17 rfl ?_
  refine Bod.virt (r := []) dc_86_18 kr_86_35 ⟨Or.inl rfl, ow_36, cl_3⟩ (by rw [np_36]; rfl) (by rw [np_36]; rfl) (ob_of (mk_31 _)) (Nat.le_of_ble_eq_true rfl) (hF  ) ?_
  show Bod _ _ _ _ [] _ _ _
  refine Bod.go dc_86_21 rfl ?_
  refine Bod.get dc_86_22 fr_86_38 (mk_31 _) rfl ?_
  refine Bod.eqI (nI k) (by first | (simp (disch := omega) only [rI, rIe, rA, rIA, rLA, rJA, rVI, rQI, rVA, rQA, upd_at,  rAI, rLI, rJI, nI_add, pk_sub, kc_0, kc_1, kc_2, kc_3, kc_4, kc_5, reduceIte, Nat.reduceEqDiff, Nat.add_zero, rI_hold, rI_hold, rL_hold, hn, hp, hl, ht, h5]; done) | (simp (disch := omega) only [rI, rIe, rA, rIA, rLA, rJA, rVI, rQI, rVA, rQA, upd_at,  rAI, rLI, rJI, nI_add, pk_sub, kc_0, kc_1, kc_2, kc_3, kc_4, kc_5, reduceIte, Nat.reduceEqDiff, Nat.add_zero, rI_hold, rI_hold, rL_hold, hn, hp, hl, ht, h5]; exact congrArg nI (by omega))) ?_
  refine Bod.ic 2 (by decide) dc_86_25 ?_
  refine Bod.icF dc_86_26 rfl (k2_ne_F (k_eq k 2 rfl rfl (by omega))) ?_
  refine Bod.go dc_86_29 rfl ?_
  refine Bod.virt (r := []) dc_86_30 kr_86_41 ⟨Or.inl rfl, ow_40, cl_3⟩ (by rw [np_40]; rfl) (by rw [np_40]; rfl) (ob_of (mk_31 _)) (Nat.le_of_ble_eq_true rfl) (hR  ) ?_
  show Bod _ _ _ _ [] _ _ _
  exact Bod.retV dc_86_33 rt_86
theorem nextLine_en_end {d : Nat} {S : cS} {n : Nat} {p : Nat} {l : Nat} {e : Nat} {k : Nat} {S2 : cS} (hn : sI S 3102 = nI n) (hp : sI S 3103 = nI p) (hM : n ≤ 3000) (hl : sI S 3107 = nI l) (ht : sI S 3105 = nI 2) (hpe : p ≤ e) (hx : ∀ x, p ≤ x → x < e → c_byte S x ≠ 10) (hen : e = n) (hF : Ans (d + 5) 36 [.ref 31] (wI 3103 (nI e) S) none S2) (h5 : sI S2 3105 = nI k) (hk : k = 1) : Ans (d + 6) 86 [.ref 31] S (none) (S2) := by
  refine Ans.of (by rw [ml_86]; exact Nat.le_of_ble_eq_true rfl) ?_
  refine Bod.go dc_86_0 rfl ?_
  refine Bod.get dc_86_1 fr_86_38 (mk_31 _) rfl ?_
  refine Bod.eqI (nI 2) (by first | assumption | rfl | exact congrArg nI (by omega) | (simp (disch := omega) only [rI, rIe, rA, rIA, rLA, rJA, rVI, rQI, rVA, rQA, upd_at,  rAI, rLI, rJI, nI_add, pk_sub, kc_0, kc_1, kc_2, kc_3, kc_4, kc_5, reduceIte, Nat.reduceEqDiff, Nat.add_zero, rI_hold, rI_hold, rL_hold, hn, hp, hl, ht, h5]; done)) ?_
  refine Bod.ic 2 (by decide) dc_86_4 ?_
  refine Bod.icT dc_86_5 rfl (k2_eq_T (k_eq 2 2 rfl rfl (by omega))) ?_
  refine Bod.go dc_86_13 rfl ?_
  refine Bod.virt (r := []) dc_86_14 kr_86_47 ⟨Or.inl rfl, ow_39, cl_3⟩ (by rw [np_39]; rfl) (by rw [np_39]; rfl) (ob_of (mk_31 _)) (Nat.le_of_ble_eq_true rfl) (skipLine_end (n := n) (p := p) (q := e) (by first | assumption | rfl | exact congrArg nI (by omega) | (simp (disch := omega) only [rI, rIe, rA, rIA, rLA, rJA, rVI, rQI, rVA, rQA, upd_at,  rAI, rLI, rJI, nI_add, pk_sub, kc_0, kc_1, kc_2, kc_3, kc_4, kc_5, reduceIte, Nat.reduceEqDiff, Nat.add_zero, rI_hold, rI_hold, rL_hold, hn, hp, hl, ht, h5]; done)) (by first | assumption | rfl | exact congrArg nI (by omega) | (simp (disch := omega) only [rI, rIe, rA, rIA, rLA, rJA, rVI, rQI, rVA, rQA, upd_at,  rAI, rLI, rJI, nI_add, pk_sub, kc_0, kc_1, kc_2, kc_3, kc_4, kc_5, reduceIte, Nat.reduceEqDiff, Nat.add_zero, rI_hold, rI_hold, rL_hold, hn, hp, hl, ht, h5]; done)) (by omega) (by omega) (by omega) hx) ?_
  show Bod _ _ _ _ [] _ _ _
  refine Bod.go dc_86_17 rfl ?_
  refine Bod.virt (r := []) dc_86_18 kr_86_35 ⟨Or.inl rfl, ow_36, cl_3⟩ (by rw [np_36]; rfl) (by rw [np_36]; rfl) (ob_of (mk_31 _)) (Nat.le_of_ble_eq_true rfl) (hF  ) ?_
  show Bod _ _ _ _ [] _ _ _
  refine Bod.go dc_86_21 rfl ?_
  refine Bod.get dc_86_22 fr_86_38 (mk_31 _) rfl ?_
  refine Bod.eqI (nI k) (by first | (simp (disch := omega) only [rI, rIe, rA, rIA, rLA, rJA, rVI, rQI, rVA, rQA, upd_at,  rAI, rLI, rJI, nI_add, pk_sub, kc_0, kc_1, kc_2, kc_3, kc_4, kc_5, reduceIte, Nat.reduceEqDiff, Nat.add_zero, rI_hold, rI_hold, rL_hold, hn, hp, hl, ht, h5]; done) | (simp (disch := omega) only [rI, rIe, rA, rIA, rLA, rJA, rVI, rQI, rVA, rQA, upd_at,  rAI, rLI, rJI, nI_add, pk_sub, kc_0, kc_1, kc_2, kc_3, kc_4, kc_5, reduceIte, Nat.reduceEqDiff, Nat.add_zero, rI_hold, rI_hold, rL_hold, hn, hp, hl, ht, h5]; exact congrArg nI (by omega))) ?_
  refine Bod.ic 2 (by decide) dc_86_25 ?_
  refine Bod.icT dc_86_26 rfl (k2_ne_T (k_ne k 2 rfl rfl (by omega) (by omega) (by omega))) ?_
  exact Bod.retV dc_86_33 rt_86
theorem begin_end {d : Nat} {S : cS} {n : Nat} {k : Nat} {S2 : cS} (hF : Ans (d + 5) 36 [.ref 31] (wI 3107 (nI 1) (wI 3106 (nI 0) (wI 3113 (nI 0) (wI 3103 (nI 0) (wI 3102 (nI n) S))))) none S2) (h5 : sI S2 3105 = nI k) (hk : k = 1) : Ans (d + 6) 35 [.ref 31, .int (nI n)] S (none) (S2) := by
  refine Ans.of (by rw [ml_35]; exact Nat.le_of_ble_eq_true rfl) ?_
  refine Bod.go dc_35_0 rfl ?_
  refine Bod.go dc_35_1 rfl ?_
  refine Bod.put dc_35_2 fr_35_19 (mk_31 _) (Nat.le_of_ble_eq_true rfl) pf_3_2 (st_3102 _ _) (mu_I _ _ _) ?_
  refine Bod.go dc_35_5 rfl ?_
  refine Bod.ic 0 (by decide) dc_35_6 ?_
  refine Bod.put dc_35_7 fr_35_23 (mk_31 _) (Nat.le_of_ble_eq_true rfl) pf_3_3 (st_3103 _ _) (mu_I _ _ _) ?_
  refine Bod.go dc_35_10 rfl ?_
  refine Bod.ic 0 (by decide) dc_35_11 ?_
  refine Bod.put dc_35_12 fr_35_26 (mk_31 _) (Nat.le_of_ble_eq_true rfl) pf_3_13 (st_3113 _ _) (mu_I _ _ _) ?_
  refine Bod.go dc_35_15 rfl ?_
  refine Bod.ic 0 (by decide) dc_35_16 ?_
  refine Bod.put dc_35_17 fr_35_29 (mk_31 _) (Nat.le_of_ble_eq_true rfl) pf_3_6 (st_3106 _ _) (mu_I _ _ _) ?_
  refine Bod.go dc_35_20 rfl ?_
  refine Bod.ic 1 (by decide) dc_35_21 ?_
  refine Bod.put dc_35_22 fr_35_32 (mk_31 _) (Nat.le_of_ble_eq_true rfl) pf_3_7 (st_3107 _ _) (mu_I _ _ _) ?_
  refine Bod.go dc_35_25 rfl ?_
  refine Bod.virt (r := []) dc_35_26 kr_35_35 ⟨Or.inl rfl, ow_36, cl_3⟩ (by rw [np_36]; rfl) (by rw [np_36]; rfl) (ob_of (mk_31 _)) (Nat.le_of_ble_eq_true rfl) (hF  ) ?_
  show Bod _ _ _ _ [] _ _ _
  refine Bod.go dc_35_29 rfl ?_
  refine Bod.get dc_35_30 fr_35_38 (mk_31 _) rfl ?_
  refine Bod.eqI (nI k) (by first | (simp (disch := omega) only [rI, rIe, rA, rIA, rLA, rJA, rVI, rQI, rVA, rQA, upd_at,  rAI, rLI, rJI, nI_add, pk_sub, kc_0, kc_1, kc_2, kc_3, kc_4, kc_5, reduceIte, Nat.reduceEqDiff, Nat.add_zero, rI_hold, rI_hold, rL_hold, h5]; done) | (simp (disch := omega) only [rI, rIe, rA, rIA, rLA, rJA, rVI, rQI, rVA, rQA, upd_at,  rAI, rLI, rJI, nI_add, pk_sub, kc_0, kc_1, kc_2, kc_3, kc_4, kc_5, reduceIte, Nat.reduceEqDiff, Nat.add_zero, rI_hold, rI_hold, rL_hold, h5]; exact congrArg nI (by omega))) ?_
  refine Bod.ic 2 (by decide) dc_35_33 ?_
  refine Bod.icT dc_35_34 rfl (k2_ne_T (k_ne k 2 rfl rfl (by omega) (by omega) (by omega))) ?_
  exact Bod.retV dc_35_41 rt_35
theorem begin_tok {d : Nat} {S : cS} {n : Nat} {k : Nat} {S2 : cS} {S3 : cS} (hF : Ans (d + 5) 36 [.ref 31] (wI 3107 (nI 1) (wI 3106 (nI 0) (wI 3113 (nI 0) (wI 3103 (nI 0) (wI 3102 (nI n) S))))) none S2) (h5 : sI S2 3105 = nI k) (hk : k = 2) (hR : Ans (d + 5) 40 [.ref 31] S2 none S3) : Ans (d + 6) 35 [.ref 31, .int (nI n)] S (none) (S3) := by
  refine Ans.of (by rw [ml_35]; exact Nat.le_of_ble_eq_true rfl) ?_
  refine Bod.go dc_35_0 rfl ?_
  refine Bod.go dc_35_1 rfl ?_
  refine Bod.put dc_35_2 fr_35_19 (mk_31 _) (Nat.le_of_ble_eq_true rfl) pf_3_2 (st_3102 _ _) (mu_I _ _ _) ?_
  refine Bod.go dc_35_5 rfl ?_
  refine Bod.ic 0 (by decide) dc_35_6 ?_
  refine Bod.put dc_35_7 fr_35_23 (mk_31 _) (Nat.le_of_ble_eq_true rfl) pf_3_3 (st_3103 _ _) (mu_I _ _ _) ?_
  refine Bod.go dc_35_10 rfl ?_
  refine Bod.ic 0 (by decide) dc_35_11 ?_
  refine Bod.put dc_35_12 fr_35_26 (mk_31 _) (Nat.le_of_ble_eq_true rfl) pf_3_13 (st_3113 _ _) (mu_I _ _ _) ?_
  refine Bod.go dc_35_15 rfl ?_
  refine Bod.ic 0 (by decide) dc_35_16 ?_
  refine Bod.put dc_35_17 fr_35_29 (mk_31 _) (Nat.le_of_ble_eq_true rfl) pf_3_6 (st_3106 _ _) (mu_I _ _ _) ?_
  refine Bod.go dc_35_20 rfl ?_
  refine Bod.ic 1 (by decide) dc_35_21 ?_
  refine Bod.put dc_35_22 fr_35_32 (mk_31 _) (Nat.le_of_ble_eq_true rfl) pf_3_7 (st_3107 _ _) (mu_I _ _ _) ?_
  refine Bod.go dc_35_25 rfl ?_
  refine Bod.virt (r := []) dc_35_26 kr_35_35 ⟨Or.inl rfl, ow_36, cl_3⟩ (by rw [np_36]; rfl) (by rw [np_36]; rfl) (ob_of (mk_31 _)) (Nat.le_of_ble_eq_true rfl) (hF  ) ?_
  show Bod _ _ _ _ [] _ _ _
  refine Bod.go dc_35_29 rfl ?_
  refine Bod.get dc_35_30 fr_35_38 (mk_31 _) rfl ?_
  refine Bod.eqI (nI k) (by first | (simp (disch := omega) only [rI, rIe, rA, rIA, rLA, rJA, rVI, rQI, rVA, rQA, upd_at,  rAI, rLI, rJI, nI_add, pk_sub, kc_0, kc_1, kc_2, kc_3, kc_4, kc_5, reduceIte, Nat.reduceEqDiff, Nat.add_zero, rI_hold, rI_hold, rL_hold, h5]; done) | (simp (disch := omega) only [rI, rIe, rA, rIA, rLA, rJA, rVI, rQI, rVA, rQA, upd_at,  rAI, rLI, rJI, nI_add, pk_sub, kc_0, kc_1, kc_2, kc_3, kc_4, kc_5, reduceIte, Nat.reduceEqDiff, Nat.add_zero, rI_hold, rI_hold, rL_hold, h5]; exact congrArg nI (by omega))) ?_
  refine Bod.ic 2 (by decide) dc_35_33 ?_
  refine Bod.icF dc_35_34 rfl (k2_ne_F (k_eq k 2 rfl rfl (by omega))) ?_
  refine Bod.go dc_35_37 rfl ?_
  refine Bod.virt (r := []) dc_35_38 kr_35_41 ⟨Or.inl rfl, ow_40, cl_3⟩ (by rw [np_40]; rfl) (by rw [np_40]; rfl) (ob_of (mk_31 _)) (Nat.le_of_ble_eq_true rfl) (hR  ) ?_
  show Bod _ _ _ _ [] _ _ _
  exact Bod.retV dc_35_41 rt_35
