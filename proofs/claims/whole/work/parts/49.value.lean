/-! VALUE of the class -/
theorem dc_170_15 : decode (sm_cc 170) 15 = .ok (.iconst 0, 1) := by decide +kernel
theorem dc_169_17 : decode (sm_cc 169) 17 = .ok (.lconst 0, 1) := by decide +kernel
theorem dc_280_0 : decode (sm_cc 280) 0 = .ok (.aload_n 0, 1) := by decide +kernel
theorem dc_280_1 : decode (sm_cc 280) 1 = .ok (.invokevirtual 139, 3) := by decide +kernel
theorem ow_278 : 11 = sm_ow 278 := by decide +kernel
theorem kr_280_139 : sm_at mt_k (sm_ow 280) 139 = some (139, 0, 278, 0, 2045) := by decide +kernel
theorem np_278 : sm_np 278 = 0 := by decide +kernel
theorem dc_280_4 : decode (sm_cc 280) 4 = .ok (.istore_n 1, 1) := by decide +kernel
theorem ml_280 : sm_ml 280 = 3 := by decide +kernel
theorem dc_280_5 : decode (sm_cc 280) 5 = .ok (.aload_n 0, 1) := by decide +kernel
theorem dc_280_6 : decode (sm_cc 280) 6 = .ok (.getfield 25, 3) := by decide +kernel
theorem fr_280_25 : sm_at mt_f (sm_ow 280) 25 = some (25, 11, 1, 0, 898) := by decide +kernel
theorem dc_280_9 : decode (sm_cc 280) 9 = .ok (.iload_n 1, 1) := by decide +kernel
theorem dc_280_10 : decode (sm_cc 280) 10 = .ok (.invokevirtual 148, 3) := by decide +kernel
theorem ow_169 : 5 = sm_ow 169 := by decide +kernel
theorem kr_280_148 : sm_at mt_k (sm_ow 280) 148 = some (148, 1, 169, 1, 2059) := by decide +kernel
theorem np_169 : sm_np 169 = 1 := by decide +kernel
theorem dc_280_13 : decode (sm_cc 280) 13 = .ok (.invokestatic 152, 3) := by decide +kernel
theorem kr_280_152 : sm_at mt_k (sm_ow 280) 152 = some (152, 2, 134, 0, 1700) := by decide +kernel
theorem np_134 : sm_np 134 = 1 := by decide +kernel
theorem dc_280_16 : decode (sm_cc 280) 16 = .ok (.istore_n 2, 1) := by decide +kernel
theorem dc_280_17 : decode (sm_cc 280) 17 = .ok (.iload_n 2, 1) := by decide +kernel
theorem dc_280_18 : decode (sm_cc 280) 18 = .ok (.ifCond .ne (7), 3) := by decide +kernel
theorem dc_280_21 : decode (sm_cc 280) 21 = .ok (.ldc2_w 156, 3) := by decide +kernel
theorem cj_280_156 : sm_at mt_cj (sm_ow 280) 156 = some (156, (4611686018427387905), 2060) := by decide +kernel
theorem dc_280_24 : decode (sm_cc 280) 24 = .ok (.lreturn, 1) := by decide +kernel
theorem rt_280 : sm_rt 280 = some .long := by decide +kernel
theorem dc_280_25 : decode (sm_cc 280) 25 = .ok (.iload_n 2, 1) := by decide +kernel
theorem dc_280_26 : decode (sm_cc 280) 26 = .ok (.iconst 2, 1) := by decide +kernel
theorem dc_280_27 : decode (sm_cc 280) 27 = .ok (.if_icmp .ne (14), 3) := by decide +kernel
theorem dc_280_30 : decode (sm_cc 280) 30 = .ok (.aload_n 0, 1) := by decide +kernel
theorem dc_280_31 : decode (sm_cc 280) 31 = .ok (.getfield 25, 3) := by decide +kernel
theorem dc_280_34 : decode (sm_cc 280) 34 = .ok (.iload_n 1, 1) := by decide +kernel
theorem dc_280_35 : decode (sm_cc 280) 35 = .ok (.invokevirtual 158, 3) := by decide +kernel
theorem ow_171 : 5 = sm_ow 171 := by decide +kernel
theorem kr_280_158 : sm_at mt_k (sm_ow 280) 158 = some (158, 1, 171, 1, 2061) := by decide +kernel
theorem np_171 : sm_np 171 = 1 := by decide +kernel
theorem dc_280_38 : decode (sm_cc 280) 38 = .ok (.goto (6), 3) := by decide +kernel
theorem dc_280_44 : decode (sm_cc 280) 44 = .ok (.lreturn, 1) := by decide +kernel
theorem dc_280_41 : decode (sm_cc 280) 41 = .ok (.ldc2_w 161, 3) := by decide +kernel
theorem cj_280_161 : sm_at mt_cj (sm_ow 280) 161 = some (161, (4611686018427387904), 2062) := by decide +kernel
theorem dc_277_0 : decode (sm_cc 277) 0 = .ok (.aload_n 0, 1) := by decide +kernel
theorem dc_277_1 : decode (sm_cc 277) 1 = .ok (.invokevirtual 139, 3) := by decide +kernel
theorem kr_277_139 : sm_at mt_k (sm_ow 277) 139 = some (139, 0, 278, 0, 2045) := by decide +kernel
theorem dc_277_4 : decode (sm_cc 277) 4 = .ok (.istore_n 3, 1) := by decide +kernel
theorem ml_277 : sm_ml 277 = 4 := by decide +kernel
theorem dc_277_5 : decode (sm_cc 277) 5 = .ok (.iload_n 3, 1) := by decide +kernel
theorem dc_277_6 : decode (sm_cc 277) 6 = .ok (.ifCond .ge (5), 3) := by decide +kernel
theorem dc_277_9 : decode (sm_cc 277) 9 = .ok (.iconst (-1), 1) := by decide +kernel
theorem dc_277_10 : decode (sm_cc 277) 10 = .ok (.ireturn, 1) := by decide +kernel
theorem rt_277 : sm_rt 277 = some .int := by decide +kernel
theorem known_m1 {d : Nat} {S : cS}   : Ans (d + 1) 170 [.ref 16, .int (Int32.ofInt (-1))] S (some (.int 0)) (S) := by
  refine Ans.of (by rw [ml_170]; exact Nat.le_of_ble_eq_true rfl) ?_
  refine Bod.go dc_170_0 rfl ?_
  refine Bod.ifT dc_170_1 rfl (by decide) ?_
  refine Bod.ic 0 (by decide) dc_170_15 ?_
  exact Bod.retZ dc_170_16 rt_170 (Or.inl rfl)
theorem nHiOf_m1 {d : Nat} {S : cS}   : Ans (d + 2) 169 [.ref 16, .int (Int32.ofInt (-1))] S (some (.long 0)) (S) := by
  refine Ans.of (by rw [ml_169]; exact Nat.le_of_ble_eq_true rfl) ?_
  refine Bod.go dc_169_0 rfl ?_
  refine Bod.go dc_169_1 rfl ?_
  refine Bod.virt (r := []) dc_169_2 kr_169_81 ⟨Or.inl rfl, ow_170, cl_5⟩ (by rw [np_170]; rfl) (by rw [np_170]; rfl) (ob_of (mk_16 _)) (Nat.le_of_ble_eq_true rfl) (known_m1  ) ?_
  show Bod _ _ _ _ [_] _ _ _
  refine Bod.ifT dc_169_5 rfl (k1_eq_T (k_eq 0 0 rfl rfl (by omega))) ?_
  refine Bod.go dc_169_17 rfl ?_
  exact Bod.retJ dc_169_18 rt_169
theorem value_c0 {d : Nat} {S : cS} {q : Nat} {S1 : cS} (hq : q < 4096) (hR : Ans (d + 5) 278 [.ref 0] S (some (.int (nI q))) S1) (hk : c_kind (sL S1 21 q) = 0) : Ans (d + 6) 280 [.ref 0] S (some (.long ((4611686018427387905)))) (S1) := by
  refine Ans.of (by rw [ml_280]; exact Nat.le_of_ble_eq_true rfl) ?_
  refine Bod.go dc_280_0 rfl ?_
  refine Bod.virt (r := []) dc_280_1 kr_280_139 ⟨Or.inl rfl, ow_278, cl_11⟩ (by rw [np_278]; rfl) (by rw [np_278]; rfl) (ob_of (mk_0 _)) (Nat.le_of_ble_eq_true rfl) (hR  ) ?_
  show Bod _ _ _ _ [_] _ _ _
  refine Bod.istn dc_280_4 (by rw [ml_280]; exact Nat.le_of_ble_eq_true rfl) ?_
  refine Bod.go dc_280_5 rfl ?_
  refine Bod.get dc_280_6 fr_280_25 (mk_0 _) rfl ?_
  refine Bod.go dc_280_9 rfl ?_
  refine Bod.virt (r := []) dc_280_10 kr_280_148 ⟨Or.inr rfl, ow_169, cl_5⟩ (by rw [np_169]; rfl) (by rw [np_169]; rfl) (ob_of (mk_16 _)) (Nat.le_of_ble_eq_true rfl) (nHiOf_T (k := q) (by omega)) ?_
  show Bod _ _ _ _ [_] _ _ _
  refine Bod.stat (r := []) dc_280_13 kr_280_152 (Or.inl rfl) (by rw [np_134]; rfl) (by rw [np_134]; rfl) (by rw [np_134]; exact Nat.le_of_ble_eq_true rfl) (Nat.le_of_ble_eq_true rfl) (kindOf_ev (hi := (sL S1 21 q)) ) ?_
  show Bod _ _ _ _ [_] _ _ _
  refine Bod.istn dc_280_16 (by rw [ml_280]; exact Nat.le_of_ble_eq_true rfl) ?_
  refine Bod.go dc_280_17 rfl ?_
  refine Bod.ifF dc_280_18 rfl (k1_ne_F hk) ?_
  refine Bod.ldc2 dc_280_21 cj_280_156 ?_
  exact Bod.retJ dc_280_24 rt_280
theorem value_ci {d : Nat} {S : cS} {q : Nat} {S1 : cS} (hq : q < 4096) (hR : Ans (d + 5) 278 [.ref 0] S (some (.int (nI q))) S1) (hk : c_kind (sL S1 21 q) = nI 2) : Ans (d + 6) 280 [.ref 0] S (some (.long (sL S1 22 q))) (S1) := by
  refine Ans.of (by rw [ml_280]; exact Nat.le_of_ble_eq_true rfl) ?_
  refine Bod.go dc_280_0 rfl ?_
  refine Bod.virt (r := []) dc_280_1 kr_280_139 ⟨Or.inl rfl, ow_278, cl_11⟩ (by rw [np_278]; rfl) (by rw [np_278]; rfl) (ob_of (mk_0 _)) (Nat.le_of_ble_eq_true rfl) (hR  ) ?_
  show Bod _ _ _ _ [_] _ _ _
  refine Bod.istn dc_280_4 (by rw [ml_280]; exact Nat.le_of_ble_eq_true rfl) ?_
  refine Bod.go dc_280_5 rfl ?_
  refine Bod.get dc_280_6 fr_280_25 (mk_0 _) rfl ?_
  refine Bod.go dc_280_9 rfl ?_
  refine Bod.virt (r := []) dc_280_10 kr_280_148 ⟨Or.inr rfl, ow_169, cl_5⟩ (by rw [np_169]; rfl) (by rw [np_169]; rfl) (ob_of (mk_16 _)) (Nat.le_of_ble_eq_true rfl) (nHiOf_T (k := q) (by omega)) ?_
  show Bod _ _ _ _ [_] _ _ _
  refine Bod.stat (r := []) dc_280_13 kr_280_152 (Or.inl rfl) (by rw [np_134]; rfl) (by rw [np_134]; rfl) (by rw [np_134]; exact Nat.le_of_ble_eq_true rfl) (Nat.le_of_ble_eq_true rfl) (kindOf_ev (hi := (sL S1 21 q)) ) ?_
  show Bod _ _ _ _ [_] _ _ _
  refine Bod.istn dc_280_16 (by rw [ml_280]; exact Nat.le_of_ble_eq_true rfl) ?_
  refine Bod.go dc_280_17 rfl ?_
  refine Bod.ifT dc_280_18 rfl (k1_ne_T (by rw [hk]; decide)) ?_
  refine Bod.go dc_280_25 rfl ?_
  refine Bod.ic 2 (by decide) dc_280_26 ?_
  refine Bod.icF dc_280_27 rfl (k2_ne_F hk) ?_
  refine Bod.go dc_280_30 rfl ?_
  refine Bod.get dc_280_31 fr_280_25 (mk_0 _) rfl ?_
  refine Bod.go dc_280_34 rfl ?_
  refine Bod.virt (r := []) dc_280_35 kr_280_158 ⟨Or.inr rfl, ow_171, cl_5⟩ (by rw [np_171]; rfl) (by rw [np_171]; rfl) (ob_of (mk_16 _)) (Nat.le_of_ble_eq_true rfl) (nLoOf_T (k := q) (by omega)) ?_
  show Bod _ _ _ _ [_] _ _ _
  refine Bod.go dc_280_38 rfl ?_
  exact Bod.retJ dc_280_44 rt_280
theorem value_co {d : Nat} {S : cS} {q : Nat} {S1 : cS} (hq : q < 4096) (hR : Ans (d + 5) 278 [.ref 0] S (some (.int (nI q))) S1) (hk : c_kind (sL S1 21 q) ≠ 0) (hk2 : c_kind (sL S1 21 q) ≠ nI 2) : Ans (d + 6) 280 [.ref 0] S (some (.long ((4611686018427387904)))) (S1) := by
  refine Ans.of (by rw [ml_280]; exact Nat.le_of_ble_eq_true rfl) ?_
  refine Bod.go dc_280_0 rfl ?_
  refine Bod.virt (r := []) dc_280_1 kr_280_139 ⟨Or.inl rfl, ow_278, cl_11⟩ (by rw [np_278]; rfl) (by rw [np_278]; rfl) (ob_of (mk_0 _)) (Nat.le_of_ble_eq_true rfl) (hR  ) ?_
  show Bod _ _ _ _ [_] _ _ _
  refine Bod.istn dc_280_4 (by rw [ml_280]; exact Nat.le_of_ble_eq_true rfl) ?_
  refine Bod.go dc_280_5 rfl ?_
  refine Bod.get dc_280_6 fr_280_25 (mk_0 _) rfl ?_
  refine Bod.go dc_280_9 rfl ?_
  refine Bod.virt (r := []) dc_280_10 kr_280_148 ⟨Or.inr rfl, ow_169, cl_5⟩ (by rw [np_169]; rfl) (by rw [np_169]; rfl) (ob_of (mk_16 _)) (Nat.le_of_ble_eq_true rfl) (nHiOf_T (k := q) (by omega)) ?_
  show Bod _ _ _ _ [_] _ _ _
  refine Bod.stat (r := []) dc_280_13 kr_280_152 (Or.inl rfl) (by rw [np_134]; rfl) (by rw [np_134]; rfl) (by rw [np_134]; exact Nat.le_of_ble_eq_true rfl) (Nat.le_of_ble_eq_true rfl) (kindOf_ev (hi := (sL S1 21 q)) ) ?_
  show Bod _ _ _ _ [_] _ _ _
  refine Bod.istn dc_280_16 (by rw [ml_280]; exact Nat.le_of_ble_eq_true rfl) ?_
  refine Bod.go dc_280_17 rfl ?_
  refine Bod.ifT dc_280_18 rfl (k1_ne_T hk) ?_
  refine Bod.go dc_280_25 rfl ?_
  refine Bod.ic 2 (by decide) dc_280_26 ?_
  refine Bod.icT dc_280_27 rfl (k2_ne_T hk2) ?_
  refine Bod.ldc2 dc_280_41 cj_280_161 ?_
  exact Bod.retJ dc_280_44 rt_280
theorem value_cn {d : Nat} {S : cS} {S1 : cS} (hR : Ans (d + 5) 278 [.ref 0] S (some (.int (Int32.ofInt (-1)))) S1) : Ans (d + 6) 280 [.ref 0] S (some (.long ((4611686018427387905)))) (S1) := by
  refine Ans.of (by rw [ml_280]; exact Nat.le_of_ble_eq_true rfl) ?_
  refine Bod.go dc_280_0 rfl ?_
  refine Bod.virt (r := []) dc_280_1 kr_280_139 ⟨Or.inl rfl, ow_278, cl_11⟩ (by rw [np_278]; rfl) (by rw [np_278]; rfl) (ob_of (mk_0 _)) (Nat.le_of_ble_eq_true rfl) (hR  ) ?_
  show Bod _ _ _ _ [_] _ _ _
  refine Bod.istn dc_280_4 (by rw [ml_280]; exact Nat.le_of_ble_eq_true rfl) ?_
  refine Bod.go dc_280_5 rfl ?_
  refine Bod.get dc_280_6 fr_280_25 (mk_0 _) rfl ?_
  refine Bod.go dc_280_9 rfl ?_
  refine Bod.virt (r := []) dc_280_10 kr_280_148 ⟨Or.inr rfl, ow_169, cl_5⟩ (by rw [np_169]; rfl) (by rw [np_169]; rfl) (ob_of (mk_16 _)) (Nat.le_of_ble_eq_true rfl) (nHiOf_m1  ) ?_
  show Bod _ _ _ _ [_] _ _ _
  refine Bod.stat (r := []) dc_280_13 kr_280_152 (Or.inl rfl) (by rw [np_134]; rfl) (by rw [np_134]; rfl) (by rw [np_134]; exact Nat.le_of_ble_eq_true rfl) (Nat.le_of_ble_eq_true rfl) (kindOf_ev (hi := 0) ) ?_
  show Bod _ _ _ _ [_] _ _ _
  refine Bod.istn dc_280_16 (by rw [ml_280]; exact Nat.le_of_ble_eq_true rfl) ?_
  refine Bod.go dc_280_17 rfl ?_
  refine Bod.ifF dc_280_18 rfl (by decide) ?_
  refine Bod.ldc2 dc_280_21 cj_280_156 ?_
  exact Bod.retJ dc_280_24 rt_280
theorem bind_cn {d : Nat} {S : cS} {v : Int64} {S1 : cS} (hR : Ans (d + 5) 278 [.ref 0] S (some (.int (Int32.ofInt (-1)))) S1) : Ans (d + 6) 277 [.ref 0, .long v] S (some (.int (Int32.ofInt (-1)))) (S1) := by
  refine Ans.of (by rw [ml_277]; exact Nat.le_of_ble_eq_true rfl) ?_
  refine Bod.go dc_277_0 rfl ?_
  refine Bod.virt (r := []) dc_277_1 kr_277_139 ⟨Or.inl rfl, ow_278, cl_11⟩ (by rw [np_278]; rfl) (by rw [np_278]; rfl) (ob_of (mk_0 _)) (Nat.le_of_ble_eq_true rfl) (hR  ) ?_
  show Bod _ _ _ _ [_] _ _ _
  refine Bod.istn dc_277_4 (by rw [ml_277]; exact Nat.le_of_ble_eq_true rfl) ?_
  refine Bod.go dc_277_5 rfl ?_
  refine Bod.ifF dc_277_6 rfl (by decide) ?_
  refine Bod.go dc_277_9 rfl ?_
  exact Bod.retI dc_277_10 rt_277
