/-! A STEP ON A NAME of the reference -/
theorem dc_317_11 : decode (sm_cc 317) 11 = .ok (.iload_n 3, 1) := by decide +kernel
theorem dc_317_12 : decode (sm_cc 317) 12 = .ok (.ifCond .le (56), 3) := by decide +kernel
theorem dc_317_15 : decode (sm_cc 317) 15 = .ok (.aload_n 0, 1) := by decide +kernel
theorem dc_317_16 : decode (sm_cc 317) 16 = .ok (.iload_n 2, 1) := by decide +kernel
theorem dc_317_17 : decode (sm_cc 317) 17 = .ok (.invokevirtual 391, 3) := by decide +kernel
theorem ow_318 : 14 = sm_ow 318 := by decide +kernel
theorem kr_317_391 : sm_at mt_k (sm_ow 317) 391 = some (391, 0, 318, 0, 2530) := by decide +kernel
theorem np_318 : sm_np 318 = 1 := by decide +kernel
theorem dc_317_20 : decode (sm_cc 317) 20 = .ok (.ifCond .ne (48), 3) := by decide +kernel
theorem dc_317_23 : decode (sm_cc 317) 23 = .ok (.aload_n 0, 1) := by decide +kernel
theorem dc_317_24 : decode (sm_cc 317) 24 = .ok (.iload_n 3, 1) := by decide +kernel
theorem dc_317_25 : decode (sm_cc 317) 25 = .ok (.iload_n 2, 1) := by decide +kernel
theorem dc_317_26 : decode (sm_cc 317) 26 = .ok (.invokevirtual 353, 3) := by decide +kernel
theorem ow_319 : 14 = sm_ow 319 := by decide +kernel
theorem kr_317_353 : sm_at mt_k (sm_ow 317) 353 = some (353, 0, 319, 0, 2534) := by decide +kernel
theorem np_319 : sm_np 319 = 2 := by decide +kernel
theorem dc_317_29 : decode (sm_cc 317) 29 = .ok (.istore 4, 2) := by decide +kernel
theorem ml_317 : sm_ml 317 = 5 := by decide +kernel
theorem dc_317_31 : decode (sm_cc 317) 31 = .ok (.iload 4, 2) := by decide +kernel
theorem dc_317_33 : decode (sm_cc 317) 33 = .ok (.ifCond .ge (6), 3) := by decide +kernel
theorem dc_317_36 : decode (sm_cc 317) 36 = .ok (.goto (26), 3) := by decide +kernel
theorem dc_317_62 : decode (sm_cc 317) 62 = .ok (.iinc 3 (-1), 3) := by decide +kernel
theorem dc_317_65 : decode (sm_cc 317) 65 = .ok (.goto (-54), 3) := by decide +kernel
theorem dc_317_39 : decode (sm_cc 317) 39 = .ok (.aload_n 0, 1) := by decide +kernel
theorem dc_317_40 : decode (sm_cc 317) 40 = .ok (.getfield 206, 3) := by decide +kernel
theorem fr_317_206 : sm_at mt_f (sm_ow 317) 206 = some (206, 14, 14, 0, 2087) := by decide +kernel
theorem dc_317_43 : decode (sm_cc 317) 43 = .ok (.aload_n 0, 1) := by decide +kernel
theorem dc_317_44 : decode (sm_cc 317) 44 = .ok (.getfield 236, 3) := by decide +kernel
theorem fr_317_236 : sm_at mt_f (sm_ow 317) 236 = some (236, 14, 22, 0, 2095) := by decide +kernel
theorem dc_317_47 : decode (sm_cc 317) 47 = .ok (.iload_n 3, 1) := by decide +kernel
theorem dc_317_48 : decode (sm_cc 317) 48 = .ok (.isub, 1) := by decide +kernel
theorem dc_317_49 : decode (sm_cc 317) 49 = .ok (.invokevirtual 210, 3) := by decide +kernel
theorem kr_317_210 : sm_at mt_k (sm_ow 317) 210 = some (210, 0, 303, 0, 2469) := by decide +kernel
theorem dc_317_52 : decode (sm_cc 317) 52 = .ok (.aload_n 0, 1) := by decide +kernel
theorem dc_317_53 : decode (sm_cc 317) 53 = .ok (.getfield 206, 3) := by decide +kernel
theorem dc_317_56 : decode (sm_cc 317) 56 = .ok (.iload 4, 2) := by decide +kernel
theorem dc_317_58 : decode (sm_cc 317) 58 = .ok (.invokevirtual 210, 3) := by decide +kernel
theorem dc_317_61 : decode (sm_cc 317) 61 = .ok (.return_, 1) := by decide +kernel
theorem rt_317 : sm_rt 317 = none := by decide +kernel
theorem dc_317_68 : decode (sm_cc 317) 68 = .ok (.aload_n 0, 1) := by decide +kernel
theorem dc_317_69 : decode (sm_cc 317) 69 = .ok (.getfield 206, 3) := by decide +kernel
theorem dc_317_72 : decode (sm_cc 317) 72 = .ok (.iconst (-1), 1) := by decide +kernel
theorem dc_317_73 : decode (sm_cc 317) 73 = .ok (.invokevirtual 210, 3) := by decide +kernel
theorem dc_317_76 : decode (sm_cc 317) 76 = .ok (.aload_n 0, 1) := by decide +kernel
theorem dc_317_77 : decode (sm_cc 317) 77 = .ok (.getfield 206, 3) := by decide +kernel
theorem dc_317_80 : decode (sm_cc 317) 80 = .ok (.iconst 0, 1) := by decide +kernel
theorem dc_317_81 : decode (sm_cc 317) 81 = .ok (.invokevirtual 210, 3) := by decide +kernel
theorem dc_317_84 : decode (sm_cc 317) 84 = .ok (.return_, 1) := by decide +kernel
theorem dc_317_0 : decode (sm_cc 317) 0 = .ok (.aload_n 0, 1) := by decide +kernel
theorem dc_317_1 : decode (sm_cc 317) 1 = .ok (.iload_n 1, 1) := by decide +kernel
theorem dc_317_2 : decode (sm_cc 317) 2 = .ok (.iload_n 2, 1) := by decide +kernel
theorem dc_317_3 : decode (sm_cc 317) 3 = .ok (.invokevirtual 216, 3) := by decide +kernel
theorem kr_317_216 : sm_at mt_k (sm_ow 317) 216 = some (216, 0, 302, 0, 2465) := by decide +kernel
theorem dc_317_6 : decode (sm_cc 317) 6 = .ok (.aload_n 0, 1) := by decide +kernel
theorem dc_317_7 : decode (sm_cc 317) 7 = .ok (.getfield 236, 3) := by decide +kernel
theorem dc_317_10 : decode (sm_cc 317) 10 = .ok (.istore_n 3, 1) := by decide +kernel
theorem na_0 {d : Nat} {S Sf : cS} {lv : sm_L} {v : Option Value} {r : Nat} {f : Nat}  (h0 : sm_get lv 0 = some (.ref 61)) (h2 : sm_get lv 2 = some (.int (nI r))) (h3 : sm_get lv 3 = some (.int (nI f))) (hf : f < 16) (hf0 : f = 0) (hB : ∀ lv1 : sm_L, sm_get lv1 0 = some (.ref 61) → sm_get lv1 2 = some (.int (nI r)) → sm_get lv1 3 = some (.int (nI f)) → Bod (d + 4) 317 68 lv1 [] (S) v Sf) : Bod (d + 4) 317 11 lv [] S v Sf := by
  refine Bod.ildnG dc_317_11 (by repeat (first | exact h3 | exact sm_get_p1 | exact sm_get_p2e | refine sm_get_p1m (by decide) (by decide) ?_ | refine sm_get_p1n (by decide) rfl ?_ | refine sm_get_p2n (by decide) (by decide) rfl ?_)) ?_
  refine Bod.ifT dc_317_12 rfl (k1_le_T (k_eq f 0 (by first | assumption | rfl | exact congrArg nI (by omega) | (simp (disch := omega) only [rI, rIe, rA, rIA, rLA, rJA, rVI, rQI, rVA, rQA, upd_at,  rAI, rLI, rJI, nI_add, pk_sub, kc_0, kc_1, kc_2, kc_3, kc_4, kc_5, reduceIte, Nat.reduceEqDiff, Nat.add_zero, rI_hold, rI_hold, rL_hold]; done)) rfl (by omega))) ?_
  exact hB _ (by repeat (first | exact h0 | exact sm_get_p1 | exact sm_get_p2e | refine sm_get_p1m (by decide) (by decide) ?_ | refine sm_get_p1n (by decide) rfl ?_ | refine sm_get_p2n (by decide) (by decide) rfl ?_)) (by repeat (first | exact h2 | exact sm_get_p1 | exact sm_get_p2e | refine sm_get_p1m (by decide) (by decide) ?_ | refine sm_get_p1n (by decide) rfl ?_ | refine sm_get_p2n (by decide) (by decide) rfl ?_)) (by repeat (first | exact h3 | exact sm_get_p1 | exact sm_get_p2e | refine sm_get_p1m (by decide) (by decide) ?_ | refine sm_get_p1n (by decide) rfl ?_ | refine sm_get_p2n (by decide) (by decide) rfl ?_))
theorem na_1 {d : Nat} {S Sf : cS} {lv : sm_L} {v : Option Value} {r : Nat} {f : Nat}  (h0 : sm_get lv 0 = some (.ref 61)) (h2 : sm_get lv 2 = some (.int (nI r))) (h3 : sm_get lv 3 = some (.int (nI f))) (hf : f < 16) (hf0 : 0 < f) (hU1 : Ans (d + 4) 318 [.ref 61, .int (nI r)] S (some (.int (nI 1))) S) (hB : ∀ lv1 : sm_L, sm_get lv1 0 = some (.ref 61) → sm_get lv1 2 = some (.int (nI r)) → sm_get lv1 3 = some (.int (nI f)) → Bod (d + 4) 317 68 lv1 [] (S) v Sf) : Bod (d + 4) 317 11 lv [] S v Sf := by
  refine Bod.ildnG dc_317_11 (by repeat (first | exact h3 | exact sm_get_p1 | exact sm_get_p2e | refine sm_get_p1m (by decide) (by decide) ?_ | refine sm_get_p1n (by decide) rfl ?_ | refine sm_get_p2n (by decide) (by decide) rfl ?_)) ?_
  refine Bod.ifF dc_317_12 rfl (k1_le_F f rfl (by omega) (by omega)) ?_
  refine Bod.aldnG dc_317_15 (by repeat (first | exact h0 | exact sm_get_p1 | exact sm_get_p2e | refine sm_get_p1m (by decide) (by decide) ?_ | refine sm_get_p1n (by decide) rfl ?_ | refine sm_get_p2n (by decide) (by decide) rfl ?_)) ?_
  refine Bod.ildnG dc_317_16 (by repeat (first | exact h2 | exact sm_get_p1 | exact sm_get_p2e | refine sm_get_p1m (by decide) (by decide) ?_ | refine sm_get_p1n (by decide) rfl ?_ | refine sm_get_p2n (by decide) (by decide) rfl ?_)) ?_
  refine Bod.virt (r := []) dc_317_17 kr_317_391 ⟨Or.inl rfl, ow_318, cl_14⟩ (by rw [np_318]; rfl) (by rw [np_318]; rfl) (ob_of (mk_61 _)) (Nat.le_of_ble_eq_true rfl) (hU1  ) ?_
  show Bod _ _ _ _ [_] _ _ _
  refine Bod.ifT dc_317_20 rfl (k1_ne_T (k_ne 1 0 rfl rfl (by omega) (by omega) (by omega))) ?_
  exact hB _ (by repeat (first | exact h0 | exact sm_get_p1 | exact sm_get_p2e | refine sm_get_p1m (by decide) (by decide) ?_ | refine sm_get_p1n (by decide) rfl ?_ | refine sm_get_p2n (by decide) (by decide) rfl ?_)) (by repeat (first | exact h2 | exact sm_get_p1 | exact sm_get_p2e | refine sm_get_p1m (by decide) (by decide) ?_ | refine sm_get_p1n (by decide) rfl ?_ | refine sm_get_p2n (by decide) (by decide) rfl ?_)) (by repeat (first | exact h3 | exact sm_get_p1 | exact sm_get_p2e | refine sm_get_p1m (by decide) (by decide) ?_ | refine sm_get_p1n (by decide) rfl ?_ | refine sm_get_p2n (by decide) (by decide) rfl ?_))
theorem na_n {d : Nat} {S Sf : cS} {lv : sm_L} {v : Option Value} {r : Nat} {j : Nat}  (h0 : sm_get lv 0 = some (.ref 61)) (h2 : sm_get lv 2 = some (.int (nI r))) (h3 : sm_get lv 3 = some (.int (nI (j + 1)))) (hf : j + 1 < 16) (hU0 : Ans (d + 4) 318 [.ref 61, .int (nI r)] S (some (.int (nI 0))) S) (hLn : Ans (d + 4) 319 [.ref 61, .int (nI (j + 1)), .int (nI r)] S (some (.int (Int32.ofInt (-1)))) S) (hB : ∀ lv1 : sm_L, sm_get lv1 0 = some (.ref 61) → sm_get lv1 2 = some (.int (nI r)) → sm_get lv1 3 = some (.int (nI j)) → Bod (d + 4) 317 11 lv1 [] (S) v Sf) : Bod (d + 4) 317 11 lv [] S v Sf := by
  refine Bod.ildnG dc_317_11 (by repeat (first | exact h3 | exact sm_get_p1 | exact sm_get_p2e | refine sm_get_p1m (by decide) (by decide) ?_ | refine sm_get_p1n (by decide) rfl ?_ | refine sm_get_p2n (by decide) (by decide) rfl ?_)) ?_
  refine Bod.ifF dc_317_12 rfl (k1_le_F (j + 1) rfl (by omega) (by omega)) ?_
  refine Bod.aldnG dc_317_15 (by repeat (first | exact h0 | exact sm_get_p1 | exact sm_get_p2e | refine sm_get_p1m (by decide) (by decide) ?_ | refine sm_get_p1n (by decide) rfl ?_ | refine sm_get_p2n (by decide) (by decide) rfl ?_)) ?_
  refine Bod.ildnG dc_317_16 (by repeat (first | exact h2 | exact sm_get_p1 | exact sm_get_p2e | refine sm_get_p1m (by decide) (by decide) ?_ | refine sm_get_p1n (by decide) rfl ?_ | refine sm_get_p2n (by decide) (by decide) rfl ?_)) ?_
  refine Bod.virt (r := []) dc_317_17 kr_317_391 ⟨Or.inl rfl, ow_318, cl_14⟩ (by rw [np_318]; rfl) (by rw [np_318]; rfl) (ob_of (mk_61 _)) (Nat.le_of_ble_eq_true rfl) (hU0  ) ?_
  show Bod _ _ _ _ [_] _ _ _
  refine Bod.ifF dc_317_20 rfl (k1_ne_F (k_eq 0 0 rfl rfl (by omega))) ?_
  refine Bod.aldnG dc_317_23 (by repeat (first | exact h0 | exact sm_get_p1 | exact sm_get_p2e | refine sm_get_p1m (by decide) (by decide) ?_ | refine sm_get_p1n (by decide) rfl ?_ | refine sm_get_p2n (by decide) (by decide) rfl ?_)) ?_
  refine Bod.ildnG dc_317_24 (by repeat (first | exact h3 | exact sm_get_p1 | exact sm_get_p2e | refine sm_get_p1m (by decide) (by decide) ?_ | refine sm_get_p1n (by decide) rfl ?_ | refine sm_get_p2n (by decide) (by decide) rfl ?_)) ?_
  refine Bod.ildnG dc_317_25 (by repeat (first | exact h2 | exact sm_get_p1 | exact sm_get_p2e | refine sm_get_p1m (by decide) (by decide) ?_ | refine sm_get_p1n (by decide) rfl ?_ | refine sm_get_p2n (by decide) (by decide) rfl ?_)) ?_
  refine Bod.virt (r := []) dc_317_26 kr_317_353 ⟨Or.inl rfl, ow_319, cl_14⟩ (by rw [np_319]; rfl) (by rw [np_319]; rfl) (ob_of (mk_61 _)) (Nat.le_of_ble_eq_true rfl) (hLn  ) ?_
  show Bod _ _ _ _ [_] _ _ _
  refine Bod.ist dc_317_29 (by rw [ml_317]; exact Nat.le_of_ble_eq_true rfl) ?_
  refine Bod.go dc_317_31 rfl ?_
  refine Bod.ifF dc_317_33 rfl (by decide) ?_
  refine Bod.go dc_317_36 rfl ?_
  refine Bod.incN j nI_dec dc_317_62 (by rw [ml_317]; exact Nat.le_of_ble_eq_true rfl) (by repeat (first | exact h3 | exact sm_get_p1 | exact sm_get_p2e | refine sm_get_p1m (by decide) (by decide) ?_ | refine sm_get_p1n (by decide) rfl ?_ | refine sm_get_p2n (by decide) (by decide) rfl ?_)) ?_
  refine Bod.go dc_317_65 rfl ?_
  exact hB _ (by repeat (first | exact h0 | exact sm_get_p1 | exact sm_get_p2e | refine sm_get_p1m (by decide) (by decide) ?_ | refine sm_get_p1n (by decide) rfl ?_ | refine sm_get_p2n (by decide) (by decide) rfl ?_)) (by repeat (first | exact h2 | exact sm_get_p1 | exact sm_get_p2e | refine sm_get_p1m (by decide) (by decide) ?_ | refine sm_get_p1n (by decide) rfl ?_ | refine sm_get_p2n (by decide) (by decide) rfl ?_)) (by repeat (first | exact sm_get_p1 | exact sm_get_p2e | refine sm_get_p1m (by decide) (by decide) ?_ | refine sm_get_p1n (by decide) rfl ?_ | refine sm_get_p2n (by decide) (by decide) rfl ?_ | rfl))
theorem na_q {d : Nat} {S Sf : cS} {lv : sm_L} {v : Option Value} {r : Nat} {f : Nat} {q : Nat} (h0 : sm_get lv 0 = some (.ref 61)) (h2 : sm_get lv 2 = some (.int (nI r))) (h3 : sm_get lv 3 = some (.int (nI f))) (hf : f < 16) (hf0 : 0 < f) (hq : q < 6001) (hU0 : Ans (d + 4) 318 [.ref 61, .int (nI r)] S (some (.int (nI 0))) S) (hLq : Ans (d + 4) 319 [.ref 61, .int (nI f), .int (nI r)] S (some (.int (nI q))) S) (hB : ∀ lv1 : sm_L, sm_get lv1 0 = some (.ref 61) → sm_get lv1 2 = some (.int (nI r)) → sm_get lv1 3 = some (.int (nI f)) → sm_get lv1 4 = some (.int (nI q)) → Bod (d + 4) 317 39 lv1 [] (S) v Sf) : Bod (d + 4) 317 11 lv [] S v Sf := by
  refine Bod.ildnG dc_317_11 (by repeat (first | exact h3 | exact sm_get_p1 | exact sm_get_p2e | refine sm_get_p1m (by decide) (by decide) ?_ | refine sm_get_p1n (by decide) rfl ?_ | refine sm_get_p2n (by decide) (by decide) rfl ?_)) ?_
  refine Bod.ifF dc_317_12 rfl (k1_le_F f rfl (by omega) (by omega)) ?_
  refine Bod.aldnG dc_317_15 (by repeat (first | exact h0 | exact sm_get_p1 | exact sm_get_p2e | refine sm_get_p1m (by decide) (by decide) ?_ | refine sm_get_p1n (by decide) rfl ?_ | refine sm_get_p2n (by decide) (by decide) rfl ?_)) ?_
  refine Bod.ildnG dc_317_16 (by repeat (first | exact h2 | exact sm_get_p1 | exact sm_get_p2e | refine sm_get_p1m (by decide) (by decide) ?_ | refine sm_get_p1n (by decide) rfl ?_ | refine sm_get_p2n (by decide) (by decide) rfl ?_)) ?_
  refine Bod.virt (r := []) dc_317_17 kr_317_391 ⟨Or.inl rfl, ow_318, cl_14⟩ (by rw [np_318]; rfl) (by rw [np_318]; rfl) (ob_of (mk_61 _)) (Nat.le_of_ble_eq_true rfl) (hU0  ) ?_
  show Bod _ _ _ _ [_] _ _ _
  refine Bod.ifF dc_317_20 rfl (k1_ne_F (k_eq 0 0 rfl rfl (by omega))) ?_
  refine Bod.aldnG dc_317_23 (by repeat (first | exact h0 | exact sm_get_p1 | exact sm_get_p2e | refine sm_get_p1m (by decide) (by decide) ?_ | refine sm_get_p1n (by decide) rfl ?_ | refine sm_get_p2n (by decide) (by decide) rfl ?_)) ?_
  refine Bod.ildnG dc_317_24 (by repeat (first | exact h3 | exact sm_get_p1 | exact sm_get_p2e | refine sm_get_p1m (by decide) (by decide) ?_ | refine sm_get_p1n (by decide) rfl ?_ | refine sm_get_p2n (by decide) (by decide) rfl ?_)) ?_
  refine Bod.ildnG dc_317_25 (by repeat (first | exact h2 | exact sm_get_p1 | exact sm_get_p2e | refine sm_get_p1m (by decide) (by decide) ?_ | refine sm_get_p1n (by decide) rfl ?_ | refine sm_get_p2n (by decide) (by decide) rfl ?_)) ?_
  refine Bod.virt (r := []) dc_317_26 kr_317_353 ⟨Or.inl rfl, ow_319, cl_14⟩ (by rw [np_319]; rfl) (by rw [np_319]; rfl) (ob_of (mk_61 _)) (Nat.le_of_ble_eq_true rfl) (hLq  ) ?_
  show Bod _ _ _ _ [_] _ _ _
  refine Bod.ist dc_317_29 (by rw [ml_317]; exact Nat.le_of_ble_eq_true rfl) ?_
  refine Bod.go dc_317_31 rfl ?_
  refine Bod.ifT dc_317_33 rfl (k1_ge_T q rfl (by omega)) ?_
  exact hB _ (by repeat (first | exact h0 | exact sm_get_p1 | exact sm_get_p2e | refine sm_get_p1m (by decide) (by decide) ?_ | refine sm_get_p1n (by decide) rfl ?_ | refine sm_get_p2n (by decide) (by decide) rfl ?_)) (by repeat (first | exact h2 | exact sm_get_p1 | exact sm_get_p2e | refine sm_get_p1m (by decide) (by decide) ?_ | refine sm_get_p1n (by decide) rfl ?_ | refine sm_get_p2n (by decide) (by decide) rfl ?_)) (by repeat (first | exact h3 | exact sm_get_p1 | exact sm_get_p2e | refine sm_get_p1m (by decide) (by decide) ?_ | refine sm_get_p1n (by decide) rfl ?_ | refine sm_get_p2n (by decide) (by decide) rfl ?_)) (by repeat (first | exact sm_get_p1 | exact sm_get_p2e | refine sm_get_p1m (by decide) (by decide) ?_ | refine sm_get_p1n (by decide) rfl ?_ | refine sm_get_p2n (by decide) (by decide) rfl ?_ | rfl))
theorem nb_q {d : Nat} {S : cS} {lv : sm_L} {f : Nat} {q : Nat} {m : Nat} {u : Nat} {F : Nat} {S1 : cS} {S2 : cS} (h0 : sm_get lv 0 = some (.ref 61)) (h3 : sm_get lv 3 = some (.int (nI f))) (h4 : sm_get lv 4 = some (.int (nI q))) (hm : 108 ≤ m) (hs : (sS S)[m - 108]? = some (12, u)) (hcode : sV S 6114 = .ref m) (hcode1 : sV S1 6114 = .ref m) (hs1 : (sS S1)[m - 108]? = some (12, u)) (hF : sI S 6122 = nI F) (hFM : F < 16) (hfF : f ≤ F) (hq : q < 6001) (hP : Ans (d + 4) 303 [.ref m, .int (nI (F - f))] S none S1) (hP2 : Ans (d + 4) 303 [.ref m, .int (nI q)] S1 none S2) : Bod (d + 4) 317 39 lv [] S none (S2) := by
  refine Bod.aldnG dc_317_39 (by repeat (first | exact h0 | exact sm_get_p1 | exact sm_get_p2e | refine sm_get_p1m (by decide) (by decide) ?_ | refine sm_get_p1n (by decide) rfl ?_ | refine sm_get_p2n (by decide) (by decide) rfl ?_)) ?_
  refine Bod.get dc_317_40 fr_317_206 (mk_61 _) rfl ?_
  refine Bod.eqV (.ref m) (by first | exact hcode | exact hcode1) ?_
  refine Bod.aldnG dc_317_43 (by repeat (first | exact h0 | exact sm_get_p1 | exact sm_get_p2e | refine sm_get_p1m (by decide) (by decide) ?_ | refine sm_get_p1n (by decide) rfl ?_ | refine sm_get_p2n (by decide) (by decide) rfl ?_)) ?_
  refine Bod.get dc_317_44 fr_317_236 (mk_61 _) rfl ?_
  refine Bod.eqI (nI F) (by first | assumption | rfl | exact congrArg nI (by omega) | (simp (disch := omega) only [rI, rIe, rA, rIA, rLA, rJA, rVI, rQI, rVA, rQA, upd_at,  rAI, rLI, rJI, nI_add, pk_sub, kc_0, kc_1, kc_2, kc_3, kc_4, kc_5, reduceIte, Nat.reduceEqDiff, Nat.add_zero, rI_hold, rI_hold, rL_hold, hF]; done)) ?_
  refine Bod.ildnG dc_317_47 (by repeat (first | exact h3 | exact sm_get_p1 | exact sm_get_p2e | refine sm_get_p1m (by decide) (by decide) ?_ | refine sm_get_p1n (by decide) rfl ?_ | refine sm_get_p2n (by decide) (by decide) rfl ?_)) ?_
  refine Bod.subN (F - f) (by omega) (by omega) dc_317_48 ?_
  refine Bod.virt (r := []) dc_317_49 kr_317_210 ⟨Or.inl rfl, ow_303, cl_12⟩ (by rw [np_303]; rfl) (by rw [np_303]; rfl) (ob_of (mk_code hm (by first | exact hs | exact hs1))) (Nat.le_of_ble_eq_true rfl) (hP  ) ?_
  show Bod _ _ _ _ [] _ _ _
  refine Bod.aldnG dc_317_52 (by repeat (first | exact h0 | exact sm_get_p1 | exact sm_get_p2e | refine sm_get_p1m (by decide) (by decide) ?_ | refine sm_get_p1n (by decide) rfl ?_ | refine sm_get_p2n (by decide) (by decide) rfl ?_)) ?_
  refine Bod.get dc_317_53 fr_317_206 (mk_61 _) rfl ?_
  refine Bod.eqV (.ref m) (by first | exact (by first | exact hcode | exact hcode1) | (simp only [rIV, rJV, rAV, rLV, rQV]; exact (by first | exact hcode | exact hcode1))) ?_
  refine Bod.ildG dc_317_56 (by repeat (first | exact h4 | exact sm_get_p1 | exact sm_get_p2e | refine sm_get_p1m (by decide) (by decide) ?_ | refine sm_get_p1n (by decide) rfl ?_ | refine sm_get_p2n (by decide) (by decide) rfl ?_)) ?_
  refine Bod.virt (r := []) dc_317_58 kr_317_210 ⟨Or.inl rfl, ow_303, cl_12⟩ (by rw [np_303]; rfl) (by rw [np_303]; rfl) (ob_of (mk_code hm (by first | exact hs | exact hs1))) (Nat.le_of_ble_eq_true rfl) (hP2  ) ?_
  show Bod _ _ _ _ [] _ _ _
  exact Bod.retV dc_317_61 rt_317
theorem nb_n {d : Nat} {S : cS} {lv : sm_L}  {m : Nat} {u : Nat} {S1 : cS} {S2 : cS} (h0 : sm_get lv 0 = some (.ref 61)) (hm : 108 ≤ m) (hs : (sS S)[m - 108]? = some (12, u)) (hcode : sV S 6114 = .ref m) (hcode1 : sV S1 6114 = .ref m) (hs1 : (sS S1)[m - 108]? = some (12, u)) (hP : Ans (d + 4) 303 [.ref m, .int (Int32.ofInt (-1))] S none S1) (hP2 : Ans (d + 4) 303 [.ref m, .int (nI 0)] S1 none S2) : Bod (d + 4) 317 68 lv [] S none (S2) := by
  refine Bod.aldnG dc_317_68 (by repeat (first | exact h0 | exact sm_get_p1 | exact sm_get_p2e | refine sm_get_p1m (by decide) (by decide) ?_ | refine sm_get_p1n (by decide) rfl ?_ | refine sm_get_p2n (by decide) (by decide) rfl ?_)) ?_
  refine Bod.get dc_317_69 fr_317_206 (mk_61 _) rfl ?_
  refine Bod.eqV (.ref m) (by first | exact hcode | exact hcode1) ?_
  refine Bod.go dc_317_72 rfl ?_
  refine Bod.virt (r := []) dc_317_73 kr_317_210 ⟨Or.inl rfl, ow_303, cl_12⟩ (by rw [np_303]; rfl) (by rw [np_303]; rfl) (ob_of (mk_code hm (by first | exact hs | exact hs1))) (Nat.le_of_ble_eq_true rfl) (hP  ) ?_
  show Bod _ _ _ _ [] _ _ _
  refine Bod.aldnG dc_317_76 (by repeat (first | exact h0 | exact sm_get_p1 | exact sm_get_p2e | refine sm_get_p1m (by decide) (by decide) ?_ | refine sm_get_p1n (by decide) rfl ?_ | refine sm_get_p2n (by decide) (by decide) rfl ?_)) ?_
  refine Bod.get dc_317_77 fr_317_206 (mk_61 _) rfl ?_
  refine Bod.eqV (.ref m) (by first | exact (by first | exact hcode | exact hcode1) | (simp only [rIV, rJV, rAV, rLV, rQV]; exact (by first | exact hcode | exact hcode1))) ?_
  refine Bod.ic 0 (by decide) dc_317_80 ?_
  refine Bod.virt (r := []) dc_317_81 kr_317_210 ⟨Or.inl rfl, ow_303, cl_12⟩ (by rw [np_303]; rfl) (by rw [np_303]; rfl) (ob_of (mk_code hm (by first | exact hs | exact hs1))) (Nat.le_of_ble_eq_true rfl) (hP2  ) ?_
  show Bod _ _ _ _ [] _ _ _
  exact Bod.retV dc_317_84 rt_317
theorem na_go {d r F : Nat} {x : Int32} {S S1 Sf : cS} {v : Option Value} (hr : r < 2 ^ 20) (hFM : F < 16) (hQ : Ans (d + 4) 302 [.ref 61, .int x, .int (nI r)] S none S1) (hF : sI S1 6122 = nI F) (hB : ∀ lv1 : sm_L, sm_get lv1 0 = some (.ref 61) → sm_get lv1 2 = some (.int (nI r)) → sm_get lv1 3 = some (.int (nI F)) → Bod (d + 4) 317 11 lv1 [] S1 v Sf) : Ans (d + 5) 317 [.ref 61, .int x, .int (nI r)] S v Sf := by
  refine Ans.of (by rw [ml_317]; exact Nat.le_of_ble_eq_true rfl) ?_
  refine Bod.go dc_317_0 rfl ?_
  refine Bod.go dc_317_1 rfl ?_
  refine Bod.go dc_317_2 rfl ?_
  refine Bod.virt (r := []) dc_317_3 kr_317_216 ⟨Or.inl rfl, ow_302, cl_14⟩ (by rw [np_302]; rfl) (by rw [np_302]; rfl) (ob_of (mk_61 _)) (Nat.le_of_ble_eq_true rfl) (hQ  ) ?_
  show Bod _ _ _ _ [] _ _ _
  refine Bod.go dc_317_6 rfl ?_
  refine Bod.get dc_317_7 fr_317_236 (mk_61 _) rfl ?_
  refine Bod.eqI (nI F) (by first | (simp (disch := omega) only [rI, rIe, rA, rIA, rLA, rJA, rVI, rQI, rVA, rQA, upd_at,  rAI, rLI, rJI, nI_add, pk_sub, kc_0, kc_1, kc_2, kc_3, kc_4, kc_5, reduceIte, Nat.reduceEqDiff, Nat.add_zero, rI_hold, rI_hold, rL_hold, hF]; done) | (simp (disch := omega) only [rI, rIe, rA, rIA, rLA, rJA, rVI, rQI, rVA, rQA, upd_at,  rAI, rLI, rJI, nI_add, pk_sub, kc_0, kc_1, kc_2, kc_3, kc_4, kc_5, reduceIte, Nat.reduceEqDiff, Nat.add_zero, rI_hold, rI_hold, rL_hold, hF]; exact congrArg nI (by omega))) ?_
  refine Bod.istn dc_317_10 (by rw [ml_317]; exact Nat.le_of_ble_eq_true rfl) ?_
  exact hB _ (by repeat (first | exact sm_get_p1 | exact sm_get_p2e | refine sm_get_p1m (by decide) (by decide) ?_ | refine sm_get_p1n (by decide) rfl ?_ | refine sm_get_p2n (by decide) (by decide) rfl ?_ | rfl)) (by repeat (first | exact sm_get_p1 | exact sm_get_p2e | refine sm_get_p1m (by decide) (by decide) ?_ | refine sm_get_p1n (by decide) rfl ?_ | refine sm_get_p2n (by decide) (by decide) rfl ?_ | rfl)) (by repeat (first | exact sm_get_p1 | exact sm_get_p2e | refine sm_get_p1m (by decide) (by decide) ?_ | refine sm_get_p1n (by decide) rfl ?_ | refine sm_get_p2n (by decide) (by decide) rfl ?_ | rfl))
/-- the scopes of the reference: F functions open, the names of function f from a f to en f, global ones of the last from oa to o -/
def scR (S : cS) (F : Nat) (a en : Nat → Nat) (oa o : Nat) : Prop := sI S 6122 = nI F ∧ F < 15 ∧ (∀ f, 1 ≤ f → f ≤ F → sA S 75 f = nI (a f) ∧ a f ≤ en f ∧ en f ≤ 6000 ∧ (f = F ∧ sI S 6123 = nI (en f) ∨ f < F ∧ sA S 75 (f + 1) = nI (en f))) ∧ (1 ≤ F → sI S 6137 = nI o ∧ oa ≤ o ∧ o ≤ 6000 ∧ sA S 83 F = nI oa)
/-- where a name is: how many functions out, at which place; -1, 0 if it is global -/
def nres (B : Nat → Int32) (a en : Nat → Nat) (F : Nat) (x : Int32) : Nat → Int32 × Int32
  | 0 => (Int32.ofInt (-1), nI 0)
  | f + 1 => match lf B x (en (f + 1) - a (f + 1)) (a (f + 1)) with
    | some q => (nI (F - (f + 1)), nI (q - a (f + 1)))
    | none => nres B a en F x f
def nplc (S : cS) (F : Nat) (a en : Nat → Nat) (oa o : Nat) (x : Int32) : Int32 × Int32 := if 1 ≤ F ∧ (lf (sA S 82) x (o - oa) oa).isSome = true then (Int32.ofInt (-1), nI 0) else nres (sA S 74) a en F x F
section
variable {own0 : Nat → Nat × Nat} {d m u k w t : Nat} {S0 S : cS}
theorem rE_q (h : rE own0 m u S0 k w t S) (hk : k < 2 ^ 17) (h86 : ∀ p t, p < 1500 → sQ S0 86 p = some t → t ≠ m) (x y : Int32) : ∃ S1 S2, Ans (d + 4) 303 [.ref m, .int x] S none S1 ∧ Ans (d + 4) 303 [.ref m, .int y] S1 none S2 ∧ rE own0 m u S0 (k + 1) w t S1 ∧ rE own0 m u S0 (k + 2) w t S2 ∧ kR m k w t S S2 ∧ cw S2 m k = x ∧ cw S2 m (k + 1) = y ∧ (∀ i, i ≠ 100 * m + 1 → sI S2 i = sI S i) := by
  obtain ⟨S1, hA, h1, h2, h3, h4⟩ := rE_put (d := d + 1) h (by omega) h86 x
  obtain ⟨S2, hA2, g1, g2, g3, g4⟩ := rE_put (d := d + 1) h1 (by omega) h86 y
  exact ⟨S1, S2, hA, hA2, h1, g1, kR_trans h2 g2 (by omega) (Nat.le_refl _) (Nat.le_refl _), (g2.1 k (by omega)).trans h3, g3, fun i hi => (g4 i hi).trans (h4 i hi)⟩
theorem na_end {lv : sm_L} (h : rE own0 m u S0 k w t S) (hk : k < 2 ^ 17) (h86 : ∀ p t, p < 1500 → sQ S0 86 p = some t → t ≠ m) (h0 : sm_get lv 0 = some (.ref 61)) : ∃ S2, (∀ lv, sm_get lv 0 = some (.ref 61) → Bod (d + 4) 317 68 lv [] S none S2) ∧ rE own0 m u S0 (k + 2) w t S2 ∧ kR m k w t S S2 ∧ cw S2 m k = Int32.ofInt (-1) ∧ cw S2 m (k + 1) = nI 0 ∧ (∀ i, i ≠ 100 * m + 1 → sI S2 i = sI S i) := by
  obtain ⟨S1, S2, hA, hA2, h1, h2, h3, h4, h5, h6⟩ := rE_q (d := d) h hk h86 (Int32.ofInt (-1)) (nI 0)
  obtain ⟨m1, m2, m3, m4, m5⟩ := rE_m h
  obtain ⟨n1, n2, n3, n4, n5⟩ := rE_m h1
  exact ⟨S2, fun lv h0 => nb_n h0 m1 m2 m3 n3 n2 hA hA2, h2, h3, h4, h5, h6⟩
/-- from function f on outwards -/
theorem na_loop {F r oa o : Nat} {a en : Nat → Nat} (h : rE own0 m u S0 k w t S) (hk : k < 2 ^ 17) (h86 : ∀ p t, p < 1500 → sQ S0 86 p = some t → t ≠ m) (hr : r < 2 ^ 20) (hsc : scR S F a en oa o) (hU : 1 ≤ F → (lf (sA S 82) (nI r) (o - oa) oa).isSome = false) : ∀ f, f ≤ F → ∃ S2, (∀ lv, sm_get lv 0 = some (.ref 61) → sm_get lv 2 = some (.int (nI r)) → sm_get lv 3 = some (.int (nI f)) → Bod (d + 4) 317 11 lv [] S none S2) ∧ rE own0 m u S0 (k + 2) w t S2 ∧ kR m k w t S S2 ∧ cw S2 m k = (nres (sA S 74) a en F (nI r) f).1 ∧ cw S2 m (k + 1) = (nres (sA S 74) a en F (nI r) f).2 ∧ (∀ i, i ≠ 100 * m + 1 → sI S2 i = sI S i) := by
  obtain ⟨s1, s2, s3, s4⟩ := hsc
  intro f
  induction f with
  | zero =>
    intro _
    obtain ⟨S2, hB, rest⟩ := na_end (d := d) (lv := [(0, .ref 61)]) h hk h86 rfl
    exact ⟨S2, fun lv h0 h2 h3 => na_0 h0 h2 h3 (by omega) rfl (fun lv1 a0 _ _ => hB lv1 a0), rest⟩
  | succ f ih =>
    intro hf
    obtain ⟨c1, c2, c3, c4⟩ := s3 (f + 1) (by omega) hf
    obtain ⟨o1, o2, o3, o4⟩ := s4 (by omega)
    have hU0 : Ans (d + 4) 318 [.ref 61, .int (nI r)] S (some (.int (nI 0))) S := by
      have h1 := isOutside_T (d := d + 3) hr o1 o2 o3 s1 (by omega) (by omega) o4
      rw [hU (by omega)] at h1
      exact h1
    have hL := localOf_T (d := d + 3) hr (show f + 1 < 15 by omega) c2 c3 s1 (by omega) c4 c1
    cases hlf : lf (sA S 74) (nI r) (en (f + 1) - a (f + 1)) (a (f + 1)) with
    | none =>
      rw [hlf] at hL
      obtain ⟨S2, hB, h1, h2, h3, h4, h5⟩ := ih (by omega)
      have e : nres (sA S 74) a en F (nI r) (f + 1) = nres (sA S 74) a en F (nI r) f := by
        show (match lf (sA S 74) (nI r) (en (f + 1) - a (f + 1)) (a (f + 1)) with
          | some q => (nI (F - (f + 1)), nI (q - a (f + 1)))
          | none => nres (sA S 74) a en F (nI r) f) = _
        rw [hlf]
      exact ⟨S2, fun lv b0 b2 b3 => na_n b0 b2 b3 (by omega) hU0 hL (fun lv1 a0 a2 a3 => hB lv1 a0 a2 a3), h1, h2, by rw [e]; exact h3, by rw [e]; exact h4, h5⟩
    | some q =>
      rw [hlf] at hL
      obtain ⟨q1, q2, q3⟩ := lf_ge _ _ _ hlf
      have e : nres (sA S 74) a en F (nI r) (f + 1) = (nI (F - (f + 1)), nI (q - a (f + 1))) := by
        show (match lf (sA S 74) (nI r) (en (f + 1) - a (f + 1)) (a (f + 1)) with
          | some q => (nI (F - (f + 1)), nI (q - a (f + 1)))
          | none => nres (sA S 74) a en F (nI r) f) = _
        rw [hlf]
      obtain ⟨S1, S2, hA, hA2, h1, h2, h3, h4, h5, h6⟩ := rE_q (d := d) h hk h86 (nI (F - (f + 1))) (nI (q - a (f + 1)))
      obtain ⟨m1, m2, m3, m4, m5⟩ := rE_m h
      obtain ⟨n1, n2, n3, n4, n5⟩ := rE_m h1
      exact ⟨S2, fun lv b0 b2 b3 => na_q (q := q - a (f + 1)) b0 b2 b3 (by omega) (by omega) (by omega) hU0 hL (fun lv1 a0 a2 a3 a4 => nb_q a0 a3 a4 m1 m2 m3 n3 n2 s1 (by omega) (by omega) (by omega) hA hA2), h2, h3, by rw [e]; exact h4, by rw [e]; exact h5, h6⟩
end

