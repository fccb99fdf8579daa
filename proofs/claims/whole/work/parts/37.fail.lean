/-! WHAT CAN'T BE READ; runs of bytes -/
theorem dc_42_57 : decode (sm_cc 42) 57 = .ok (.aload_n 0, 1) := by decide +kernel
theorem dc_42_58 : decode (sm_cc 42) 58 = .ok (.invokevirtual 44, 3) := by decide +kernel
theorem kr_42_44 : sm_at mt_k (sm_ow 42) 44 = some (44, 0, 44, 0, 992) := by decide +kernel
theorem dc_42_61 : decode (sm_cc 42) 61 = .ok (.return_, 1) := by decide +kernel
theorem dc_45_53 : decode (sm_cc 45) 53 = .ok (.aload_n 0, 1) := by decide +kernel
theorem dc_45_54 : decode (sm_cc 45) 54 = .ok (.invokevirtual 44, 3) := by decide +kernel
theorem kr_45_44 : sm_at mt_k (sm_ow 45) 44 = some (44, 0, 44, 0, 992) := by decide +kernel
theorem dc_45_57 : decode (sm_cc 45) 57 = .ok (.return_, 1) := by decide +kernel
theorem dc_48_61 : decode (sm_cc 48) 61 = .ok (.aload_n 0, 1) := by decide +kernel
theorem dc_48_62 : decode (sm_cc 48) 62 = .ok (.invokevirtual 44, 3) := by decide +kernel
theorem kr_48_44 : sm_at mt_k (sm_ow 48) 44 = some (44, 0, 44, 0, 992) := by decide +kernel
theorem dc_48_65 : decode (sm_cc 48) 65 = .ok (.return_, 1) := by decide +kernel
theorem readName_long {d n p m : Nat} {S : cS} {hi lo : Int64} (hM : n ≤ 3000) (hn : sI S 3102 = nI n) (hs : sI S 3104 = nI p) (hp : sI S 3103 = nI (p + m)) (hm : m = 12) (hal : c_al S n (p + m)) : Bod (d + 2) 42 16 [(5, .int (c_b S n (p + m))), (1, .long hi), (3, .long lo), (0, .ref 31)] [] S none (c_fail S) := by
  obtain ⟨hin, hLD⟩ := hal
  obtain ⟨b, hb⟩ : ∃ b, c_byte S (p + m) = b := ⟨_, rfl⟩
  have hb2 : b < 256 := by rw [← hb]; exact (c_byte_eq S (p + m)).2
  have hb5 : c_b S n (p + m) = nI b := by
    unfold c_b
    rw [if_pos hin, hb]
  rw [hb] at hLD
  cases hL : c_let b with
  | true =>
    refine Bod.go dc_42_16 rfl ?_
    refine Bod.get dc_42_17 fr_42_23 (mk_31 _) rfl ?_
    refine Bod.eqI (nI (p + m)) (by first | assumption | rfl | exact congrArg nI (by omega) | (simp (disch := omega) only [rI, rIe, rA, rIA, rLA, rJA, rVI, rQI, rVA, rQA, upd_at,  rAI, rLI, rJI, nI_add, pk_sub, kc_0, kc_1, kc_2, kc_3, kc_4, kc_5, reduceIte, Nat.reduceEqDiff, Nat.add_zero, rI_hold, rI_hold, rL_hold, hn, hs, hp]; done)) ?_
    refine Bod.go dc_42_20 rfl ?_
    refine Bod.get dc_42_21 fr_42_19 (mk_31 _) rfl ?_
    refine Bod.eqI (nI n) (by first | assumption | rfl | exact congrArg nI (by omega) | (simp (disch := omega) only [rI, rIe, rA, rIA, rLA, rJA, rVI, rQI, rVA, rQA, upd_at,  rAI, rLI, rJI, nI_add, pk_sub, kc_0, kc_1, kc_2, kc_3, kc_4, kc_5, reduceIte, Nat.reduceEqDiff, Nat.add_zero, rI_hold, rI_hold, rL_hold, hn, hs, hp]; done)) ?_
    refine Bod.icF dc_42_24 rfl (k2_ge_F (p + m) n rfl rfl (by omega) (by omega)) ?_
    refine Bod.go dc_42_27 rfl ?_
    refine Bod.eqI (nI b) hb5 ?_
    refine Bod.stat (r := []) dc_42_29 kr_42_63 (Or.inr rfl) (by rw [np_41]; rfl) (by rw [np_41]; rfl) (by rw [np_41]; exact Nat.le_of_ble_eq_true rfl) (Nat.le_of_ble_eq_true rfl) (isLetter_T (b := b) hL) ?_
    show Bod _ _ _ _ [_] _ _ _
    refine Bod.ifT dc_42_32 rfl (k1_ne_T (k_ne 1 0 rfl rfl (by omega) (by omega) (by omega))) ?_
    refine Bod.go dc_42_43 rfl ?_
    refine Bod.get dc_42_44 fr_42_23 (mk_31 _) rfl ?_
    refine Bod.eqI (nI (p + m)) (by first | assumption | rfl | exact congrArg nI (by omega) | (simp (disch := omega) only [rI, rIe, rA, rIA, rLA, rJA, rVI, rQI, rVA, rQA, upd_at,  rAI, rLI, rJI, nI_add, pk_sub, kc_0, kc_1, kc_2, kc_3, kc_4, kc_5, reduceIte, Nat.reduceEqDiff, Nat.add_zero, rI_hold, rI_hold, rL_hold, hn, hs, hp]; done)) ?_
    refine Bod.go dc_42_47 rfl ?_
    refine Bod.get dc_42_48 fr_42_60 (mk_31 _) rfl ?_
    refine Bod.eqI (nI p) (by first | assumption | rfl | exact congrArg nI (by omega) | (simp (disch := omega) only [rI, rIe, rA, rIA, rLA, rJA, rVI, rQI, rVA, rQA, upd_at,  rAI, rLI, rJI, nI_add, pk_sub, kc_0, kc_1, kc_2, kc_3, kc_4, kc_5, reduceIte, Nat.reduceEqDiff, Nat.add_zero, rI_hold, rI_hold, rL_hold, hn, hs, hp]; done)) ?_
    refine Bod.subN m (by omega) (by omega) dc_42_51 ?_
    refine Bod.bip 12 (by decide) dc_42_52 ?_
    refine Bod.icF dc_42_54 rfl (k2_lt_F m 12 rfl rfl (by omega) (by omega)) ?_
    refine Bod.go dc_42_57 rfl ?_
    refine Bod.virt (r := []) dc_42_58 kr_42_44 ⟨Or.inl rfl, ow_44, cl_3⟩ (by rw [np_44]; rfl) (by rw [np_44]; rfl) (ob_of (mk_31 _)) (Nat.le_of_ble_eq_true rfl) (fail_ev  ) ?_
    show Bod _ _ _ _ [] _ _ _
    exact Bod.retV dc_42_61 rt_42
  | false =>
    have hD : c_dig b = true := hLD.resolve_left (by rw [hL]; decide)
    refine Bod.go dc_42_16 rfl ?_
    refine Bod.get dc_42_17 fr_42_23 (mk_31 _) rfl ?_
    refine Bod.eqI (nI (p + m)) (by first | assumption | rfl | exact congrArg nI (by omega) | (simp (disch := omega) only [rI, rIe, rA, rIA, rLA, rJA, rVI, rQI, rVA, rQA, upd_at,  rAI, rLI, rJI, nI_add, pk_sub, kc_0, kc_1, kc_2, kc_3, kc_4, kc_5, reduceIte, Nat.reduceEqDiff, Nat.add_zero, rI_hold, rI_hold, rL_hold, hn, hs, hp]; done)) ?_
    refine Bod.go dc_42_20 rfl ?_
    refine Bod.get dc_42_21 fr_42_19 (mk_31 _) rfl ?_
    refine Bod.eqI (nI n) (by first | assumption | rfl | exact congrArg nI (by omega) | (simp (disch := omega) only [rI, rIe, rA, rIA, rLA, rJA, rVI, rQI, rVA, rQA, upd_at,  rAI, rLI, rJI, nI_add, pk_sub, kc_0, kc_1, kc_2, kc_3, kc_4, kc_5, reduceIte, Nat.reduceEqDiff, Nat.add_zero, rI_hold, rI_hold, rL_hold, hn, hs, hp]; done)) ?_
    refine Bod.icF dc_42_24 rfl (k2_ge_F (p + m) n rfl rfl (by omega) (by omega)) ?_
    refine Bod.go dc_42_27 rfl ?_
    refine Bod.eqI (nI b) hb5 ?_
    refine Bod.stat (r := []) dc_42_29 kr_42_63 (Or.inr rfl) (by rw [np_41]; rfl) (by rw [np_41]; rfl) (by rw [np_41]; exact Nat.le_of_ble_eq_true rfl) (Nat.le_of_ble_eq_true rfl) (isLetter_F (b := b) (by omega) hL) ?_
    show Bod _ _ _ _ [_] _ _ _
    refine Bod.ifF dc_42_32 rfl (k1_ne_F (k_eq 0 0 rfl rfl (by omega))) ?_
    refine Bod.go dc_42_35 rfl ?_
    refine Bod.eqI (nI b) hb5 ?_
    refine Bod.stat (r := []) dc_42_37 kr_42_70 (Or.inr rfl) (by rw [np_43]; rfl) (by rw [np_43]; rfl) (by rw [np_43]; exact Nat.le_of_ble_eq_true rfl) (Nat.le_of_ble_eq_true rfl) (isDigit_T (b := b) hD) ?_
    show Bod _ _ _ _ [_] _ _ _
    refine Bod.ifF dc_42_40 rfl (k1_eq_F (k_ne 1 0 rfl rfl (by omega) (by omega) (by omega))) ?_
    refine Bod.go dc_42_43 rfl ?_
    refine Bod.get dc_42_44 fr_42_23 (mk_31 _) rfl ?_
    refine Bod.eqI (nI (p + m)) (by first | assumption | rfl | exact congrArg nI (by omega) | (simp (disch := omega) only [rI, rIe, rA, rIA, rLA, rJA, rVI, rQI, rVA, rQA, upd_at,  rAI, rLI, rJI, nI_add, pk_sub, kc_0, kc_1, kc_2, kc_3, kc_4, kc_5, reduceIte, Nat.reduceEqDiff, Nat.add_zero, rI_hold, rI_hold, rL_hold, hn, hs, hp]; done)) ?_
    refine Bod.go dc_42_47 rfl ?_
    refine Bod.get dc_42_48 fr_42_60 (mk_31 _) rfl ?_
    refine Bod.eqI (nI p) (by first | assumption | rfl | exact congrArg nI (by omega) | (simp (disch := omega) only [rI, rIe, rA, rIA, rLA, rJA, rVI, rQI, rVA, rQA, upd_at,  rAI, rLI, rJI, nI_add, pk_sub, kc_0, kc_1, kc_2, kc_3, kc_4, kc_5, reduceIte, Nat.reduceEqDiff, Nat.add_zero, rI_hold, rI_hold, rL_hold, hn, hs, hp]; done)) ?_
    refine Bod.subN m (by omega) (by omega) dc_42_51 ?_
    refine Bod.bip 12 (by decide) dc_42_52 ?_
    refine Bod.icF dc_42_54 rfl (k2_lt_F m 12 rfl rfl (by omega) (by omega)) ?_
    refine Bod.go dc_42_57 rfl ?_
    refine Bod.virt (r := []) dc_42_58 kr_42_44 ⟨Or.inl rfl, ow_44, cl_3⟩ (by rw [np_44]; rfl) (by rw [np_44]; rfl) (ob_of (mk_31 _)) (Nat.le_of_ble_eq_true rfl) (fail_ev  ) ?_
    show Bod _ _ _ _ [] _ _ _
    exact Bod.retV dc_42_61 rt_42
theorem readNumber_great {d n p m v : Nat} {S : cS} (hM : n ≤ 3000) (hn : sI S 3102 = nI n) (hp : sI S 3103 = nI (p + m)) (hv : sJ S 3110 = lN v) (hv2 : v ≤ 9223372036854775807) (hin : p + m < n) (hdg : c_dig (c_byte S (p + m)) = true) (hgt : (9223372036854775855 - c_byte S (p + m)) / 10 < v) : Bod (d + 2) 45 14 [(1, .int (c_b S n (p + m))), (0, .ref 31)] [] S none (c_fail S) := by
  obtain ⟨b, hb⟩ : ∃ b, c_byte S (p + m) = b := ⟨_, rfl⟩
  have hb2 : b < 256 := by rw [← hb]; exact (c_byte_eq S (p + m)).2
  have hb5 : c_b S n (p + m) = nI b := by
    unfold c_b
    rw [if_pos hin, hb]
  rw [hb] at hdg hgt
  have hD := hdg
  have hbl := c_dig_le hdg
  refine Bod.go dc_45_14 rfl ?_
  refine Bod.get dc_45_15 fr_45_23 (mk_31 _) rfl ?_
  refine Bod.eqI (nI (p + m)) (by first | assumption | rfl | exact congrArg nI (by omega) | (simp (disch := omega) only [rI, rIe, rA, rIA, rLA, rJA, rVI, rQI, rVA, rQA, upd_at,  rAI, rLI, rJI, nI_add, pk_sub, kc_0, kc_1, kc_2, kc_3, kc_4, kc_5, reduceIte, Nat.reduceEqDiff, Nat.add_zero, rI_hold, rI_hold, rL_hold, hn, hp]; done)) ?_
  refine Bod.go dc_45_18 rfl ?_
  refine Bod.get dc_45_19 fr_45_19 (mk_31 _) rfl ?_
  refine Bod.eqI (nI n) (by first | assumption | rfl | exact congrArg nI (by omega) | (simp (disch := omega) only [rI, rIe, rA, rIA, rLA, rJA, rVI, rQI, rVA, rQA, upd_at,  rAI, rLI, rJI, nI_add, pk_sub, kc_0, kc_1, kc_2, kc_3, kc_4, kc_5, reduceIte, Nat.reduceEqDiff, Nat.add_zero, rI_hold, rI_hold, rL_hold, hn, hp]; done)) ?_
  refine Bod.icF dc_45_22 rfl (k2_ge_F (p + m) n rfl rfl (by omega) (by omega)) ?_
  refine Bod.go dc_45_25 rfl ?_
  refine Bod.eqI (nI b) hb5 ?_
  refine Bod.stat (r := []) dc_45_26 kr_45_70 (Or.inr rfl) (by rw [np_43]; rfl) (by rw [np_43]; rfl) (by rw [np_43]; exact Nat.le_of_ble_eq_true rfl) (Nat.le_of_ble_eq_true rfl) (isDigit_T (b := b) hD) ?_
  show Bod _ _ _ _ [_] _ _ _
  refine Bod.ifF dc_45_29 rfl (k1_eq_F (k_ne 1 0 rfl rfl (by omega) (by omega) (by omega))) ?_
  refine Bod.go dc_45_32 rfl ?_
  refine Bod.get dc_45_33 fr_45_102 (mk_31 _) rfl ?_
  refine Bod.eqJ (lN v) hv ?_
  refine Bod.ldc2N 9223372036854775807 rfl dc_45_36 cj_45_106 ?_
  refine Bod.go dc_45_39 rfl ?_
  refine Bod.eqI (nI b) hb5 ?_
  refine Bod.bip 48 (by decide) dc_45_40 ?_
  refine Bod.subN (b - 48) (by omega) (by omega) dc_45_42 ?_
  refine Bod.i2lN (by omega) dc_45_43 ?_
  refine Bod.lsubN (9223372036854775855 - b) (by omega) (by omega) dc_45_44 ?_
  refine Bod.ldc2N 10 rfl dc_45_45 cj_45_108 ?_
  refine Bod.ldivN ((9223372036854775855 - b) / 10) (by omega) (by omega) (by omega) (by omega) dc_45_48 ?_
  refine Bod.go dc_45_49 rfl ?_
  refine Bod.ifF dc_45_50 rfl (cmpN_gt hgt (by omega)) ?_
  refine Bod.go dc_45_53 rfl ?_
  refine Bod.virt (r := []) dc_45_54 kr_45_44 ⟨Or.inl rfl, ow_44, cl_3⟩ (by rw [np_44]; rfl) (by rw [np_44]; rfl) (ob_of (mk_31 _)) (Nat.le_of_ble_eq_true rfl) (fail_ev  ) ?_
  show Bod _ _ _ _ [] _ _ _
  exact Bod.retV dc_45_57 rt_45
theorem readSign_no {d : Nat} {S : cS} {b : Nat} {n : Nat} {p : Nat} (hb : b < 256) (hn : sI S 3102 = nI n) (hp : sI S 3103 = nI p) (hpn : p < n) (hM : n ≤ 3000) (h61 : c_b S n (p + 1) ≠ nI 61) (hc : c_signOne b = 0) (h47 : b ≠ 47) : Ans (d + 2) 48 [.ref 31, .int (nI b)] S (none) (c_fail S) := by
  refine Ans.of (by rw [ml_48]; exact Nat.le_of_ble_eq_true rfl) ?_
  refine Bod.go dc_48_0 rfl ?_
  refine Bod.go dc_48_1 rfl ?_
  refine Bod.get dc_48_2 fr_48_23 (mk_31 _) rfl ?_
  refine Bod.eqI (nI p) (by first | assumption | rfl | exact congrArg nI (by omega) | (simp (disch := omega) only [rI, rIe, rA, rIA, rLA, rJA, rVI, rQI, rVA, rQA, upd_at,  rAI, rLI, rJI, nI_add, pk_sub, kc_0, kc_1, kc_2, kc_3, kc_4, kc_5, reduceIte, Nat.reduceEqDiff, Nat.add_zero, rI_hold, rI_hold, rL_hold, hn, hp]; done)) ?_
  refine Bod.ic 1 (by decide) dc_48_5 ?_
  refine Bod.addN (p + 1) (by omega) dc_48_6 ?_
  refine Bod.virt (r := []) dc_48_7 kr_48_50 ⟨Or.inl rfl, ow_38, cl_3⟩ (by rw [np_38]; rfl) (by rw [np_38]; rfl) (ob_of (mk_31 _)) (Nat.le_of_ble_eq_true rfl) (byteAt_b (n := n) (i := p + 1) (by first | assumption | rfl | exact congrArg nI (by omega) | (simp (disch := omega) only [rI, rIe, rA, rIA, rLA, rJA, rVI, rQI, rVA, rQA, upd_at,  rAI, rLI, rJI, nI_add, pk_sub, kc_0, kc_1, kc_2, kc_3, kc_4, kc_5, reduceIte, Nat.reduceEqDiff, Nat.add_zero, rI_hold, rI_hold, rL_hold, hn, hp]; done)) (by omega) (by omega)) ?_
  show Bod _ _ _ _ [_] _ _ _
  refine Bod.bip 61 (by decide) dc_48_10 ?_
  refine Bod.icT dc_48_12 rfl (k2_ne_T h61) ?_
  refine Bod.ic 0 (by decide) dc_48_22 ?_
  refine Bod.istn dc_48_23 (by rw [ml_48]; exact Nat.le_of_ble_eq_true rfl) ?_
  refine Bod.go dc_48_24 rfl ?_
  refine Bod.bip 47 (by decide) dc_48_25 ?_
  refine Bod.icT dc_48_27 rfl (k2_ne_T (k_ne b 47 rfl rfl (by omega) (by omega) (by omega))) ?_
  refine Bod.go dc_48_48 rfl ?_
  refine Bod.ifF dc_48_49 rfl (k1_ne_F (k_eq 0 0 rfl rfl (by omega))) ?_
  refine Bod.go dc_48_52 rfl ?_
  refine Bod.stat (r := []) dc_48_53 kr_48_123 (Or.inl rfl) (by rw [np_50]; rfl) (by rw [np_50]; rfl) (by rw [np_50]; exact Nat.le_of_ble_eq_true rfl) (Nat.le_of_ble_eq_true rfl) (signOne_ev (b := b) (by omega)) ?_
  show Bod _ _ _ _ [_] _ _ _
  refine Bod.eqI (nI 0) (congrArg nI hc) ?_
  refine Bod.istn dc_48_56 (by rw [ml_48]; exact Nat.le_of_ble_eq_true rfl) ?_
  refine Bod.go dc_48_57 rfl ?_
  refine Bod.ifF dc_48_58 rfl (k1_ne_F (k_eq 0 0 rfl rfl (by omega))) ?_
  refine Bod.go dc_48_61 rfl ?_
  refine Bod.virt (r := []) dc_48_62 kr_48_44 ⟨Or.inl rfl, ow_44, cl_3⟩ (by rw [np_44]; rfl) (by rw [np_44]; rfl) (ob_of (mk_31 _)) (Nat.le_of_ble_eq_true rfl) (fail_ev  ) ?_
  show Bod _ _ _ _ [] _ _ _
  exact Bod.retV dc_48_65 rt_48
theorem readSign_eno {d : Nat} {S : cS} {b : Nat} {n : Nat} {p : Nat} (hb : b < 256) (hn : sI S 3102 = nI n) (hp : sI S 3103 = nI p) (hpn : p < n) (hM : n ≤ 3000) (h61 : c_b S n (p + 1) = nI 61) (hc0 : c_signEq b = 0) (hc : c_signOne b = 0) (h47 : b ≠ 47) : Ans (d + 2) 48 [.ref 31, .int (nI b)] S (none) (c_fail S) := by
  refine Ans.of (by rw [ml_48]; exact Nat.le_of_ble_eq_true rfl) ?_
  refine Bod.go dc_48_0 rfl ?_
  refine Bod.go dc_48_1 rfl ?_
  refine Bod.get dc_48_2 fr_48_23 (mk_31 _) rfl ?_
  refine Bod.eqI (nI p) (by first | assumption | rfl | exact congrArg nI (by omega) | (simp (disch := omega) only [rI, rIe, rA, rIA, rLA, rJA, rVI, rQI, rVA, rQA, upd_at,  rAI, rLI, rJI, nI_add, pk_sub, kc_0, kc_1, kc_2, kc_3, kc_4, kc_5, reduceIte, Nat.reduceEqDiff, Nat.add_zero, rI_hold, rI_hold, rL_hold, hn, hp]; done)) ?_
  refine Bod.ic 1 (by decide) dc_48_5 ?_
  refine Bod.addN (p + 1) (by omega) dc_48_6 ?_
  refine Bod.virt (r := []) dc_48_7 kr_48_50 ⟨Or.inl rfl, ow_38, cl_3⟩ (by rw [np_38]; rfl) (by rw [np_38]; rfl) (ob_of (mk_31 _)) (Nat.le_of_ble_eq_true rfl) (byteAt_b (n := n) (i := p + 1) (by first | assumption | rfl | exact congrArg nI (by omega) | (simp (disch := omega) only [rI, rIe, rA, rIA, rLA, rJA, rVI, rQI, rVA, rQA, upd_at,  rAI, rLI, rJI, nI_add, pk_sub, kc_0, kc_1, kc_2, kc_3, kc_4, kc_5, reduceIte, Nat.reduceEqDiff, Nat.add_zero, rI_hold, rI_hold, rL_hold, hn, hp]; done)) (by omega) (by omega)) ?_
  show Bod _ _ _ _ [_] _ _ _
  refine Bod.eqI (nI 61) h61 ?_
  refine Bod.bip 61 (by decide) dc_48_10 ?_
  refine Bod.icF dc_48_12 rfl (k2_ne_F (k_eq 61 61 rfl rfl (by omega))) ?_
  refine Bod.go dc_48_15 rfl ?_
  refine Bod.stat (r := []) dc_48_16 kr_48_120 (Or.inl rfl) (by rw [np_49]; rfl) (by rw [np_49]; rfl) (by rw [np_49]; exact Nat.le_of_ble_eq_true rfl) (Nat.le_of_ble_eq_true rfl) (signEq_ev (b := b) (by omega)) ?_
  show Bod _ _ _ _ [_] _ _ _
  refine Bod.eqI (nI 0) (congrArg nI hc0) ?_
  refine Bod.go dc_48_19 rfl ?_
  refine Bod.istn dc_48_23 (by rw [ml_48]; exact Nat.le_of_ble_eq_true rfl) ?_
  refine Bod.go dc_48_24 rfl ?_
  refine Bod.bip 47 (by decide) dc_48_25 ?_
  refine Bod.icT dc_48_27 rfl (k2_ne_T (k_ne b 47 rfl rfl (by omega) (by omega) (by omega))) ?_
  refine Bod.go dc_48_48 rfl ?_
  refine Bod.ifF dc_48_49 rfl (k1_ne_F (k_eq 0 0 rfl rfl (by omega))) ?_
  refine Bod.go dc_48_52 rfl ?_
  refine Bod.stat (r := []) dc_48_53 kr_48_123 (Or.inl rfl) (by rw [np_50]; rfl) (by rw [np_50]; rfl) (by rw [np_50]; exact Nat.le_of_ble_eq_true rfl) (Nat.le_of_ble_eq_true rfl) (signOne_ev (b := b) (by omega)) ?_
  show Bod _ _ _ _ [_] _ _ _
  refine Bod.eqI (nI 0) (congrArg nI hc) ?_
  refine Bod.istn dc_48_56 (by rw [ml_48]; exact Nat.le_of_ble_eq_true rfl) ?_
  refine Bod.go dc_48_57 rfl ?_
  refine Bod.ifF dc_48_58 rfl (k1_ne_F (k_eq 0 0 rfl rfl (by omega))) ?_
  refine Bod.go dc_48_61 rfl ?_
  refine Bod.virt (r := []) dc_48_62 kr_48_44 ⟨Or.inl rfl, ow_44, cl_3⟩ (by rw [np_44]; rfl) (by rw [np_44]; rfl) (ob_of (mk_31 _)) (Nat.le_of_ble_eq_true rfl) (fail_ev  ) ?_
  show Bod _ _ _ _ [] _ _ _
  exact Bod.retV dc_48_65 rt_48
theorem readSign_sno {d : Nat} {S : cS} {b : Nat} {n : Nat} {p : Nat} (hb : b < 256) (hn : sI S 3102 = nI n) (hp : sI S 3103 = nI p) (hpn : p < n) (hM : n ≤ 3000) (h47 : b = 47) (h61 : c_b S n (p + 1) ≠ nI 61) (h2 : c_b S n (p + 1) ≠ nI 47) (hc : c_signOne b = 0) : Ans (d + 2) 48 [.ref 31, .int (nI b)] S (none) (c_fail S) := by
  refine Ans.of (by rw [ml_48]; exact Nat.le_of_ble_eq_true rfl) ?_
  refine Bod.go dc_48_0 rfl ?_
  refine Bod.go dc_48_1 rfl ?_
  refine Bod.get dc_48_2 fr_48_23 (mk_31 _) rfl ?_
  refine Bod.eqI (nI p) (by first | assumption | rfl | exact congrArg nI (by omega) | (simp (disch := omega) only [rI, rIe, rA, rIA, rLA, rJA, rVI, rQI, rVA, rQA, upd_at,  rAI, rLI, rJI, nI_add, pk_sub, kc_0, kc_1, kc_2, kc_3, kc_4, kc_5, reduceIte, Nat.reduceEqDiff, Nat.add_zero, rI_hold, rI_hold, rL_hold, hn, hp]; done)) ?_
  refine Bod.ic 1 (by decide) dc_48_5 ?_
  refine Bod.addN (p + 1) (by omega) dc_48_6 ?_
  refine Bod.virt (r := []) dc_48_7 kr_48_50 ⟨Or.inl rfl, ow_38, cl_3⟩ (by rw [np_38]; rfl) (by rw [np_38]; rfl) (ob_of (mk_31 _)) (Nat.le_of_ble_eq_true rfl) (byteAt_b (n := n) (i := p + 1) (by first | assumption | rfl | exact congrArg nI (by omega) | (simp (disch := omega) only [rI, rIe, rA, rIA, rLA, rJA, rVI, rQI, rVA, rQA, upd_at,  rAI, rLI, rJI, nI_add, pk_sub, kc_0, kc_1, kc_2, kc_3, kc_4, kc_5, reduceIte, Nat.reduceEqDiff, Nat.add_zero, rI_hold, rI_hold, rL_hold, hn, hp]; done)) (by omega) (by omega)) ?_
  show Bod _ _ _ _ [_] _ _ _
  refine Bod.bip 61 (by decide) dc_48_10 ?_
  refine Bod.icT dc_48_12 rfl (k2_ne_T h61) ?_
  refine Bod.ic 0 (by decide) dc_48_22 ?_
  refine Bod.istn dc_48_23 (by rw [ml_48]; exact Nat.le_of_ble_eq_true rfl) ?_
  refine Bod.go dc_48_24 rfl ?_
  refine Bod.bip 47 (by decide) dc_48_25 ?_
  refine Bod.icF dc_48_27 rfl (k2_ne_F (k_eq b 47 rfl rfl (by omega))) ?_
  refine Bod.go dc_48_30 rfl ?_
  refine Bod.go dc_48_31 rfl ?_
  refine Bod.get dc_48_32 fr_48_23 (mk_31 _) rfl ?_
  refine Bod.eqI (nI p) (by first | assumption | rfl | exact congrArg nI (by omega) | (simp (disch := omega) only [rI, rIe, rA, rIA, rLA, rJA, rVI, rQI, rVA, rQA, upd_at,  rAI, rLI, rJI, nI_add, pk_sub, kc_0, kc_1, kc_2, kc_3, kc_4, kc_5, reduceIte, Nat.reduceEqDiff, Nat.add_zero, rI_hold, rI_hold, rL_hold, hn, hp]; done)) ?_
  refine Bod.ic 1 (by decide) dc_48_35 ?_
  refine Bod.addN (p + 1) (by omega) dc_48_36 ?_
  refine Bod.virt (r := []) dc_48_37 kr_48_50 ⟨Or.inl rfl, ow_38, cl_3⟩ (by rw [np_38]; rfl) (by rw [np_38]; rfl) (ob_of (mk_31 _)) (Nat.le_of_ble_eq_true rfl) (byteAt_b (n := n) (i := p + 1) (by first | assumption | rfl | exact congrArg nI (by omega) | (simp (disch := omega) only [rI, rIe, rA, rIA, rLA, rJA, rVI, rQI, rVA, rQA, upd_at,  rAI, rLI, rJI, nI_add, pk_sub, kc_0, kc_1, kc_2, kc_3, kc_4, kc_5, reduceIte, Nat.reduceEqDiff, Nat.add_zero, rI_hold, rI_hold, rL_hold, hn, hp]; done)) (by omega) (by omega)) ?_
  show Bod _ _ _ _ [_] _ _ _
  refine Bod.bip 47 (by decide) dc_48_40 ?_
  refine Bod.icT dc_48_42 rfl (k2_ne_T h2) ?_
  refine Bod.go dc_48_48 rfl ?_
  refine Bod.ifF dc_48_49 rfl (k1_ne_F (k_eq 0 0 rfl rfl (by omega))) ?_
  refine Bod.go dc_48_52 rfl ?_
  refine Bod.stat (r := []) dc_48_53 kr_48_123 (Or.inl rfl) (by rw [np_50]; rfl) (by rw [np_50]; rfl) (by rw [np_50]; exact Nat.le_of_ble_eq_true rfl) (Nat.le_of_ble_eq_true rfl) (signOne_ev (b := b) (by omega)) ?_
  show Bod _ _ _ _ [_] _ _ _
  refine Bod.eqI (nI 0) (congrArg nI hc) ?_
  refine Bod.istn dc_48_56 (by rw [ml_48]; exact Nat.le_of_ble_eq_true rfl) ?_
  refine Bod.go dc_48_57 rfl ?_
  refine Bod.ifF dc_48_58 rfl (k1_ne_F (k_eq 0 0 rfl rfl (by omega))) ?_
  refine Bod.go dc_48_61 rfl ?_
  refine Bod.virt (r := []) dc_48_62 kr_48_44 ⟨Or.inl rfl, ow_44, cl_3⟩ (by rw [np_44]; rfl) (by rw [np_44]; rfl) (ob_of (mk_31 _)) (Nat.le_of_ble_eq_true rfl) (fail_ev  ) ?_
  show Bod _ _ _ _ [] _ _ _
  exact Bod.retV dc_48_65 rt_48
theorem readSign_esno {d : Nat} {S : cS} {b : Nat} {n : Nat} {p : Nat} (hb : b < 256) (hn : sI S 3102 = nI n) (hp : sI S 3103 = nI p) (hpn : p < n) (hM : n ≤ 3000) (h47 : b = 47) (h61 : c_b S n (p + 1) = nI 61) (hc0 : c_signEq b = 0) (hc : c_signOne b = 0) : Ans (d + 2) 48 [.ref 31, .int (nI b)] S (none) (c_fail S) := by
  refine Ans.of (by rw [ml_48]; exact Nat.le_of_ble_eq_true rfl) ?_
  refine Bod.go dc_48_0 rfl ?_
  refine Bod.go dc_48_1 rfl ?_
  refine Bod.get dc_48_2 fr_48_23 (mk_31 _) rfl ?_
  refine Bod.eqI (nI p) (by first | assumption | rfl | exact congrArg nI (by omega) | (simp (disch := omega) only [rI, rIe, rA, rIA, rLA, rJA, rVI, rQI, rVA, rQA, upd_at,  rAI, rLI, rJI, nI_add, pk_sub, kc_0, kc_1, kc_2, kc_3, kc_4, kc_5, reduceIte, Nat.reduceEqDiff, Nat.add_zero, rI_hold, rI_hold, rL_hold, hn, hp]; done)) ?_
  refine Bod.ic 1 (by decide) dc_48_5 ?_
  refine Bod.addN (p + 1) (by omega) dc_48_6 ?_
  refine Bod.virt (r := []) dc_48_7 kr_48_50 ⟨Or.inl rfl, ow_38, cl_3⟩ (by rw [np_38]; rfl) (by rw [np_38]; rfl) (ob_of (mk_31 _)) (Nat.le_of_ble_eq_true rfl) (byteAt_b (n := n) (i := p + 1) (by first | assumption | rfl | exact congrArg nI (by omega) | (simp (disch := omega) only [rI, rIe, rA, rIA, rLA, rJA, rVI, rQI, rVA, rQA, upd_at,  rAI, rLI, rJI, nI_add, pk_sub, kc_0, kc_1, kc_2, kc_3, kc_4, kc_5, reduceIte, Nat.reduceEqDiff, Nat.add_zero, rI_hold, rI_hold, rL_hold, hn, hp]; done)) (by omega) (by omega)) ?_
  show Bod _ _ _ _ [_] _ _ _
  refine Bod.eqI (nI 61) h61 ?_
  refine Bod.bip 61 (by decide) dc_48_10 ?_
  refine Bod.icF dc_48_12 rfl (k2_ne_F (k_eq 61 61 rfl rfl (by omega))) ?_
  refine Bod.go dc_48_15 rfl ?_
  refine Bod.stat (r := []) dc_48_16 kr_48_120 (Or.inl rfl) (by rw [np_49]; rfl) (by rw [np_49]; rfl) (by rw [np_49]; exact Nat.le_of_ble_eq_true rfl) (Nat.le_of_ble_eq_true rfl) (signEq_ev (b := b) (by omega)) ?_
  show Bod _ _ _ _ [_] _ _ _
  refine Bod.eqI (nI 0) (congrArg nI hc0) ?_
  refine Bod.go dc_48_19 rfl ?_
  refine Bod.istn dc_48_23 (by rw [ml_48]; exact Nat.le_of_ble_eq_true rfl) ?_
  refine Bod.go dc_48_24 rfl ?_
  refine Bod.bip 47 (by decide) dc_48_25 ?_
  refine Bod.icF dc_48_27 rfl (k2_ne_F (k_eq b 47 rfl rfl (by omega))) ?_
  refine Bod.go dc_48_30 rfl ?_
  refine Bod.go dc_48_31 rfl ?_
  refine Bod.get dc_48_32 fr_48_23 (mk_31 _) rfl ?_
  refine Bod.eqI (nI p) (by first | assumption | rfl | exact congrArg nI (by omega) | (simp (disch := omega) only [rI, rIe, rA, rIA, rLA, rJA, rVI, rQI, rVA, rQA, upd_at,  rAI, rLI, rJI, nI_add, pk_sub, kc_0, kc_1, kc_2, kc_3, kc_4, kc_5, reduceIte, Nat.reduceEqDiff, Nat.add_zero, rI_hold, rI_hold, rL_hold, hn, hp]; done)) ?_
  refine Bod.ic 1 (by decide) dc_48_35 ?_
  refine Bod.addN (p + 1) (by omega) dc_48_36 ?_
  refine Bod.virt (r := []) dc_48_37 kr_48_50 ⟨Or.inl rfl, ow_38, cl_3⟩ (by rw [np_38]; rfl) (by rw [np_38]; rfl) (ob_of (mk_31 _)) (Nat.le_of_ble_eq_true rfl) (byteAt_b (n := n) (i := p + 1) (by first | assumption | rfl | exact congrArg nI (by omega) | (simp (disch := omega) only [rI, rIe, rA, rIA, rLA, rJA, rVI, rQI, rVA, rQA, upd_at,  rAI, rLI, rJI, nI_add, pk_sub, kc_0, kc_1, kc_2, kc_3, kc_4, kc_5, reduceIte, Nat.reduceEqDiff, Nat.add_zero, rI_hold, rI_hold, rL_hold, hn, hp]; done)) (by omega) (by omega)) ?_
  show Bod _ _ _ _ [_] _ _ _
  refine Bod.eqI (nI 61) h61 ?_
  refine Bod.bip 47 (by decide) dc_48_40 ?_
  refine Bod.icT dc_48_42 rfl (k2_ne_T (k_ne 61 47 rfl rfl (by omega) (by omega) (by omega))) ?_
  refine Bod.go dc_48_48 rfl ?_
  refine Bod.ifF dc_48_49 rfl (k1_ne_F (k_eq 0 0 rfl rfl (by omega))) ?_
  refine Bod.go dc_48_52 rfl ?_
  refine Bod.stat (r := []) dc_48_53 kr_48_123 (Or.inl rfl) (by rw [np_50]; rfl) (by rw [np_50]; rfl) (by rw [np_50]; exact Nat.le_of_ble_eq_true rfl) (Nat.le_of_ble_eq_true rfl) (signOne_ev (b := b) (by omega)) ?_
  show Bod _ _ _ _ [_] _ _ _
  refine Bod.eqI (nI 0) (congrArg nI hc) ?_
  refine Bod.istn dc_48_56 (by rw [ml_48]; exact Nat.le_of_ble_eq_true rfl) ?_
  refine Bod.go dc_48_57 rfl ?_
  refine Bod.ifF dc_48_58 rfl (k1_ne_F (k_eq 0 0 rfl rfl (by omega))) ?_
  refine Bod.go dc_48_61 rfl ?_
  refine Bod.virt (r := []) dc_48_62 kr_48_44 ⟨Or.inl rfl, ow_44, cl_3⟩ (by rw [np_44]; rfl) (by rw [np_44]; rfl) (ob_of (mk_31 _)) (Nat.le_of_ble_eq_true rfl) (fail_ev  ) ?_
  show Bod _ _ _ _ [] _ _ _
  exact Bod.retV dc_48_65 rt_48
/-! tokens as pure functions of bytes β, n of them -/
/-- where the first byte from p on is that is no blank, or the end -/
def t_skip (β : Nat → Nat) (n : Nat) : Nat → Nat → Nat
  | 0, p => p
  | f + 1, p => if p < n ∧ β p = 32 then t_skip β n f (p + 1) else p
theorem t_skip_ok (β : Nat → Nat) (n : Nat) : ∀ (f p : Nat), p ≤ n → n ≤ p + f → p ≤ t_skip β n f p ∧ t_skip β n f p ≤ n ∧ (∀ x, p ≤ x → x < t_skip β n f p → β x = 32) ∧ (t_skip β n f p = n ∨ β (t_skip β n f p) ≠ 32) := by
  intro f
  induction f with
  | zero =>
    intro p h1 h2
    show p ≤ p ∧ p ≤ n ∧ (∀ x, p ≤ x → x < p → β x = 32) ∧ (p = n ∨ β p ≠ 32)
    exact ⟨Nat.le_refl _, h1, fun x h3 h4 => by omega, Or.inl (by omega)⟩
  | succ f ih =>
    intro p h1 h2
    unfold t_skip
    by_cases h : p < n ∧ β p = 32
    · rw [if_pos h]
      obtain ⟨a1, a2, a3, a4⟩ := ih (p + 1) (by omega) (by omega)
      refine ⟨by omega, a2, fun x h3 h4 => ?_, a4⟩
      by_cases hx : x = p
      · rw [hx]
        exact h.2
      · exact a3 x (by omega) h4
    · rw [if_neg h]
      refine ⟨Nat.le_refl _, h1, fun x h3 h4 => by omega, ?_⟩
      by_cases hp : p = n
      · exact Or.inl hp
      · exact Or.inr (fun e => h ⟨by omega, e⟩)
/-- how many bytes from p on are such, f at most -/
def t_run (P : Nat → Bool) (β : Nat → Nat) (n : Nat) : Nat → Nat → Nat
  | 0, _ => 0
  | f + 1, p => if p < n ∧ P (β p) = true then t_run P β n f (p + 1) + 1 else 0
theorem t_run_ok (P : Nat → Bool) (β : Nat → Nat) (n : Nat) : ∀ (f p : Nat), t_run P β n f p ≤ f ∧ (∀ x, x < t_run P β n f p → p + x < n ∧ P (β (p + x)) = true) ∧ (t_run P β n f p = f ∨ ¬ (p + t_run P β n f p < n ∧ P (β (p + t_run P β n f p)) = true)) := by
  intro f
  induction f with
  | zero =>
    intro p
    exact ⟨Nat.le_refl _, fun x h => absurd h (Nat.not_lt_zero _), Or.inl rfl⟩
  | succ f ih =>
    intro p
    unfold t_run
    by_cases h : p < n ∧ P (β p) = true
    · rw [if_pos h]
      obtain ⟨a1, a2, a3⟩ := ih (p + 1)
      refine ⟨by omega, fun x hx => ?_, ?_⟩
      · cases x with
        | zero => exact h
        | succ x =>
          have h1 := a2 x (by omega)
          rw [show p + 1 + x = p + (x + 1) by omega] at h1
          exact h1
      · rcases a3 with a3 | a3
        · exact Or.inl (by omega)
        · refine Or.inr (fun h1 => a3 ?_)
          rw [show p + (t_run P β n f (p + 1) + 1) = p + 1 + t_run P β n f (p + 1) by omega] at h1
          exact h1
    · rw [if_neg h]
      exact ⟨by omega, fun x hx => absurd hx (Nat.not_lt_zero _), Or.inr h⟩
