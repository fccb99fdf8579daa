/-! WAYS of the class's machine: every call is a hypothesis -/
theorem ml_231 : sm_ml 231 = 3 := by decide +kernel
theorem dc_231_0 : decode (sm_cc 231) 0 = .ok (.iconst 0, 1) := by decide +kernel
theorem dc_231_1 : decode (sm_cc 231) 1 = .ok (.istore_n 2, 1) := by decide +kernel
theorem dc_231_2 : decode (sm_cc 231) 2 = .ok (.iload_n 2, 1) := by decide +kernel
theorem dc_231_3 : decode (sm_cc 231) 3 = .ok (.aload_n 1, 1) := by decide +kernel
theorem dc_231_4 : decode (sm_cc 231) 4 = .ok (.invokevirtual 174, 3) := by decide +kernel
theorem kr_231_174 : sm_at mt_k (sm_ow 231) 174 = some (174, 0, 4, 0, 1822) := by decide +kernel
theorem dc_231_7 : decode (sm_cc 231) 7 = .ok (.if_icmp .ge (18), 3) := by decide +kernel
theorem dc_231_25 : decode (sm_cc 231) 25 = .ok (.return_, 1) := by decide +kernel
theorem rt_231 : sm_rt 231 = none := by decide +kernel
theorem dc_231_10 : decode (sm_cc 231) 10 = .ok (.aload_n 0, 1) := by decide +kernel
theorem dc_231_11 : decode (sm_cc 231) 11 = .ok (.aload_n 1, 1) := by decide +kernel
theorem dc_231_12 : decode (sm_cc 231) 12 = .ok (.iload_n 2, 1) := by decide +kernel
theorem dc_231_13 : decode (sm_cc 231) 13 = .ok (.invokevirtual 179, 3) := by decide +kernel
theorem kr_231_179 : sm_at mt_k (sm_ow 231) 179 = some (179, 0, 6, 0, 1823) := by decide +kernel
theorem dc_231_16 : decode (sm_cc 231) 16 = .ok (.invokevirtual 171, 3) := by decide +kernel
theorem kr_231_171 : sm_at mt_k (sm_ow 231) 171 = some (171, 0, 230, 0, 1813) := by decide +kernel
theorem dc_231_19 : decode (sm_cc 231) 19 = .ok (.iinc 2 (1), 3) := by decide +kernel
theorem dc_231_22 : decode (sm_cc 231) 22 = .ok (.goto (-20), 3) := by decide +kernel
theorem mPw_1 {d t : Nat} {S Sf : cS} {v : Option Value} (ht : t < 51)   (hB : ∀ lv1 : sm_L, sm_get lv1 0 = some (.ref 49) → sm_get lv1 1 = some (.retAddr (2 * t)) → sm_get lv1 2 = some (.int (nI 0)) → Bod (d + 8) 231 2 lv1 [] (S) v Sf) : Bod (d + 8) 231 0 [(0, .ref 49), (1, .retAddr (2 * t))] [] S v Sf := by
  refine Bod.ic 0 (by decide) dc_231_0 ?_
  refine Bod.istn dc_231_1 (by rw [ml_231]; exact Nat.le_of_ble_eq_true rfl) ?_
  exact hB _ (by first | rfl | exact (by repeat (first | exact rfl | exact sm_get_p1 | exact sm_get_p2e | refine sm_get_p1m (by decide) (by decide) ?_ | refine sm_get_p1n (by decide) rfl ?_ | refine sm_get_p2n (by decide) (by decide) rfl ?_ | refine sm_get_p2m (by decide) (by decide) (by decide) ?_))) (by first | rfl | exact (by repeat (first | exact rfl | exact sm_get_p1 | exact sm_get_p2e | refine sm_get_p1m (by decide) (by decide) ?_ | refine sm_get_p1n (by decide) rfl ?_ | refine sm_get_p2n (by decide) (by decide) rfl ?_ | refine sm_get_p2m (by decide) (by decide) (by decide) ?_))) (by first | rfl | exact (by repeat (first | exact rfl | exact sm_get_p1 | exact sm_get_p2e | refine sm_get_p1m (by decide) (by decide) ?_ | refine sm_get_p1n (by decide) rfl ?_ | refine sm_get_p2n (by decide) (by decide) rfl ?_ | refine sm_get_p2m (by decide) (by decide) (by decide) ?_)))
theorem mPwL_1 {d t : Nat} {S : cS} {lv : sm_L} {ni : Nat} {S1 : cS} {a : Nat} (ht : t < 51) (q0 : sm_get lv 0 = some (.ref 49)) (q1 : sm_get lv 1 = some (.retAddr (2 * t))) (q2 : sm_get lv 2 = some (.int (nI ni))) (mni : ni < 2 ^ 20) (ma : a < 2 ^ 20) (c1 : Ans (d + 8) 4 [.retAddr (2 * t)] S (some (.int (nI a))) S1) (b1 : a ≤ ni) : Bod (d + 8) 231 2 lv [] S none (S1) := by
  refine Bod.ildnG dc_231_2 (by repeat (first | exact q2 | exact sm_get_p1 | exact sm_get_p2e | refine sm_get_p1m (by decide) (by decide) ?_ | refine sm_get_p1n (by decide) rfl ?_ | refine sm_get_p2n (by decide) (by decide) rfl ?_ | refine sm_get_p2m (by decide) (by decide) (by decide) ?_)) ?_
  refine Bod.aldnT dc_231_3 (by repeat (first | exact q1 | exact sm_get_p1 | exact sm_get_p2e | refine sm_get_p1m (by decide) (by decide) ?_ | refine sm_get_p1n (by decide) rfl ?_ | refine sm_get_p2n (by decide) (by decide) rfl ?_ | refine sm_get_p2m (by decide) (by decide) (by decide) ?_)) (by omega) ?_
  refine Bod.virtT (r := [_]) dc_231_4 kr_231_174 (Or.inl rfl) (by rw [np_4]; rfl) (by rw [np_4]; rfl) ht so_4 (Nat.le_of_ble_eq_true rfl) (c1  ) ?_
  show Bod _ _ _ _ [_, _] _ _ _
  refine Bod.icT dc_231_7 rfl (k2_ge_T ni a rfl rfl (by omega) (by omega)) ?_
  exact Bod.retV dc_231_25 rt_231
theorem mPwL_2 {d t : Nat} {S Sf : cS} {v : Option Value} {lv : sm_L} {ni : Nat} {S1 : cS} {a : Nat} {S2 : cS} {a1 : Nat} {S3 : cS} (ht : t < 51) (q0 : sm_get lv 0 = some (.ref 49)) (q1 : sm_get lv 1 = some (.retAddr (2 * t))) (q2 : sm_get lv 2 = some (.int (nI ni))) (mni : ni < 2 ^ 20) (ma : a < 2 ^ 20) (c1 : Ans (d + 8) 4 [.retAddr (2 * t)] S (some (.int (nI a))) S1) (b1 : ni < a) (ma1 : a1 < 2 ^ 20) (c2 : Ans (d + 8) 6 [.retAddr (2 * t), .int (nI ni)] S1 (some (.int (nI a1))) S2) (c3 : Ans (d + 8) 230 [.ref 49, .int (nI a1)] S2 none S3) (hB : ∀ lv1 : sm_L, sm_get lv1 0 = some (.ref 49) → sm_get lv1 1 = some (.retAddr (2 * t)) → sm_get lv1 2 = some (.int (nI (ni + 1))) → Bod (d + 8) 231 2 lv1 [] (S3) v Sf) : Bod (d + 8) 231 2 lv [] S v Sf := by
  refine Bod.ildnG dc_231_2 (by repeat (first | exact q2 | exact sm_get_p1 | exact sm_get_p2e | refine sm_get_p1m (by decide) (by decide) ?_ | refine sm_get_p1n (by decide) rfl ?_ | refine sm_get_p2n (by decide) (by decide) rfl ?_ | refine sm_get_p2m (by decide) (by decide) (by decide) ?_)) ?_
  refine Bod.aldnT dc_231_3 (by repeat (first | exact q1 | exact sm_get_p1 | exact sm_get_p2e | refine sm_get_p1m (by decide) (by decide) ?_ | refine sm_get_p1n (by decide) rfl ?_ | refine sm_get_p2n (by decide) (by decide) rfl ?_ | refine sm_get_p2m (by decide) (by decide) (by decide) ?_)) (by omega) ?_
  refine Bod.virtT (r := [_]) dc_231_4 kr_231_174 (Or.inl rfl) (by rw [np_4]; rfl) (by rw [np_4]; rfl) ht so_4 (Nat.le_of_ble_eq_true rfl) (c1  ) ?_
  show Bod _ _ _ _ [_, _] _ _ _
  refine Bod.icF dc_231_7 rfl (k2_ge_F ni a rfl rfl (by omega) (by omega)) ?_
  refine Bod.aldnG dc_231_10 (by repeat (first | exact q0 | exact sm_get_p1 | exact sm_get_p2e | refine sm_get_p1m (by decide) (by decide) ?_ | refine sm_get_p1n (by decide) rfl ?_ | refine sm_get_p2n (by decide) (by decide) rfl ?_ | refine sm_get_p2m (by decide) (by decide) (by decide) ?_)) ?_
  refine Bod.aldnT dc_231_11 (by repeat (first | exact q1 | exact sm_get_p1 | exact sm_get_p2e | refine sm_get_p1m (by decide) (by decide) ?_ | refine sm_get_p1n (by decide) rfl ?_ | refine sm_get_p2n (by decide) (by decide) rfl ?_ | refine sm_get_p2m (by decide) (by decide) (by decide) ?_)) (by omega) ?_
  refine Bod.ildnG dc_231_12 (by repeat (first | exact q2 | exact sm_get_p1 | exact sm_get_p2e | refine sm_get_p1m (by decide) (by decide) ?_ | refine sm_get_p1n (by decide) rfl ?_ | refine sm_get_p2n (by decide) (by decide) rfl ?_ | refine sm_get_p2m (by decide) (by decide) (by decide) ?_)) ?_
  refine Bod.virtT (r := [_]) dc_231_13 kr_231_179 (Or.inl rfl) (by rw [np_6]; rfl) (by rw [np_6]; rfl) ht so_6 (Nat.le_of_ble_eq_true rfl) (c2  ) ?_
  show Bod _ _ _ _ [_, _] _ _ _
  refine Bod.virt (r := []) dc_231_16 kr_231_171 ⟨Or.inl rfl, ow_230, cl_0⟩ (by rw [np_230]; rfl) (by rw [np_230]; rfl) (ob_of (mk_49 _)) (Nat.le_of_ble_eq_true rfl) (c3  ) ?_
  show Bod _ _ _ _ [] _ _ _
  refine Bod.incN (ni + 1) (by rw [kc_1, nI_add]) dc_231_19 (by rw [ml_231]; exact Nat.le_of_ble_eq_true rfl) (by repeat (first | exact q2 | exact sm_get_p1 | exact sm_get_p2e | refine sm_get_p1m (by decide) (by decide) ?_ | refine sm_get_p1n (by decide) rfl ?_ | refine sm_get_p2n (by decide) (by decide) rfl ?_ | refine sm_get_p2m (by decide) (by decide) (by decide) ?_)) ?_
  refine Bod.go dc_231_22 rfl ?_
  exact hB _ (by repeat (first | exact q0 | exact sm_get_p1 | exact sm_get_p2e | refine sm_get_p1m (by decide) (by decide) ?_ | refine sm_get_p1n (by decide) rfl ?_ | refine sm_get_p2n (by decide) (by decide) rfl ?_ | refine sm_get_p2m (by decide) (by decide) (by decide) ?_)) (by repeat (first | exact q1 | exact sm_get_p1 | exact sm_get_p2e | refine sm_get_p1m (by decide) (by decide) ?_ | refine sm_get_p1n (by decide) rfl ?_ | refine sm_get_p2n (by decide) (by decide) rfl ?_ | refine sm_get_p2m (by decide) (by decide) (by decide) ?_)) (by repeat (first | exact q0 | exact sm_get_p1 | exact sm_get_p2e | refine sm_get_p1m (by decide) (by decide) ?_ | refine sm_get_p1n (by decide) rfl ?_ | refine sm_get_p2n (by decide) (by decide) rfl ?_ | refine sm_get_p2m (by decide) (by decide) (by decide) ?_))
