/-! WHAT THE CLASS REFUSES, the rest -/
theorem dc_272_0 : decode (sm_cc 272) 0 = .ok (.iload_n 1, 1) := by decide +kernel
theorem dc_272_1 : decode (sm_cc 272) 1 = .ok (.ifCond .lt (31), 3) := by decide +kernel
theorem dc_272_32 : decode (sm_cc 272) 32 = .ok (.iconst (-1), 1) := by decide +kernel
theorem dc_272_33 : decode (sm_cc 272) 33 = .ok (.ireturn, 1) := by decide +kernel
theorem rt_272 : sm_rt 272 = some .int := by decide +kernel
theorem fr_272_34 : sm_at mt_f (sm_ow 272) 34 = some (34, 0, 6, 0, 795) := by decide +kernel
theorem dc_272_4 : decode (sm_cc 272) 4 = .ok (.iload_n 1, 1) := by decide +kernel
theorem dc_272_5 : decode (sm_cc 272) 5 = .ok (.aload_n 0, 1) := by decide +kernel
theorem dc_272_6 : decode (sm_cc 272) 6 = .ok (.getfield 34, 3) := by decide +kernel
theorem dc_272_9 : decode (sm_cc 272) 9 = .ok (.if_icmp .ge (23), 3) := by decide +kernel
theorem ml_272 : sm_ml 272 = 2 := by decide +kernel
theorem ow_272 : 0 = sm_ow 272 := by decide +kernel
theorem cl_0 : 0 < mt_cl.length := by decide +kernel
theorem fr_270_68 : sm_at mt_f (sm_ow 270) 68 = some (68, 11, 5, 0, 902) := by decide +kernel
theorem kr_270_124 : sm_at mt_k (sm_ow 270) 124 = some (124, 1, 272, 1, 2020) := by decide +kernel
theorem np_272 : sm_np 272 = 1 := by decide +kernel
theorem dc_270_0 : decode (sm_cc 270) 0 = .ok (.iload_n 1, 1) := by decide +kernel
theorem dc_270_1 : decode (sm_cc 270) 1 = .ok (.iconst (-1), 1) := by decide +kernel
theorem dc_270_2 : decode (sm_cc 270) 2 = .ok (.if_icmp .ne (13), 3) := by decide +kernel
theorem dc_270_15 : decode (sm_cc 270) 15 = .ok (.aload_n 0, 1) := by decide +kernel
theorem dc_270_16 : decode (sm_cc 270) 16 = .ok (.getfield 68, 3) := by decide +kernel
theorem dc_270_19 : decode (sm_cc 270) 19 = .ok (.iload_n 1, 1) := by decide +kernel
theorem dc_270_20 : decode (sm_cc 270) 20 = .ok (.invokevirtual 124, 3) := by decide +kernel
theorem dc_270_23 : decode (sm_cc 270) 23 = .ok (.ireturn, 1) := by decide +kernel
theorem rt_270 : sm_rt 270 = some .int := by decide +kernel
theorem ml_270 : sm_ml 270 = 2 := by decide +kernel
theorem dc_273_0 : decode (sm_cc 273) 0 = .ok (.iload_n 1, 1) := by decide +kernel
theorem dc_273_1 : decode (sm_cc 273) 1 = .ok (.ifCond .ne (11), 3) := by decide +kernel
theorem dc_273_12 : decode (sm_cc 273) 12 = .ok (.iload_n 1, 1) := by decide +kernel
theorem dc_273_13 : decode (sm_cc 273) 13 = .ok (.iconst 1, 1) := by decide +kernel
theorem dc_273_14 : decode (sm_cc 273) 14 = .ok (.if_icmp .lt (18), 3) := by decide +kernel
theorem dc_273_32 : decode (sm_cc 273) 32 = .ok (.iload_n 1, 1) := by decide +kernel
theorem dc_273_33 : decode (sm_cc 273) 33 = .ok (.bipush (8), 2) := by decide +kernel
theorem dc_273_35 : decode (sm_cc 273) 35 = .ok (.if_icmp .ne (11), 3) := by decide +kernel
theorem dc_273_46 : decode (sm_cc 273) 46 = .ok (.iload_n 1, 1) := by decide +kernel
theorem dc_273_47 : decode (sm_cc 273) 47 = .ok (.bipush (9), 2) := by decide +kernel
theorem dc_273_49 : decode (sm_cc 273) 49 = .ok (.if_icmp .ne (13), 3) := by decide +kernel
theorem dc_273_62 : decode (sm_cc 273) 62 = .ok (.iconst (-1), 1) := by decide +kernel
theorem dc_273_63 : decode (sm_cc 273) 63 = .ok (.ireturn, 1) := by decide +kernel
theorem rt_273 : sm_rt 273 = some .int := by decide +kernel
theorem dc_273_17 : decode (sm_cc 273) 17 = .ok (.iload_n 1, 1) := by decide +kernel
theorem dc_273_18 : decode (sm_cc 273) 18 = .ok (.bipush (7), 2) := by decide +kernel
theorem dc_273_20 : decode (sm_cc 273) 20 = .ok (.if_icmp .gt (12), 3) := by decide +kernel
theorem ml_273 : sm_ml 273 = 2 := by decide +kernel
theorem ob_no {X : Option (Nat × (Nat → Int32))} {d n u : Nat} {σ : sm_H} {v : Int32} {a : Nat} {t : Int32} (hf : sx_fd σ a 0 6 = some (.int t)) (h : v < 0 ∨ t ≤ v) : sm_ev X (d + 1) (n + 20) 272 [.ref a, .int v] σ u = some (some (.int (-1)), σ, u) := by
  rw [sx_ev (by rw [ml_272]; exact Nat.le_of_ble_eq_true rfl)]
  by_cases h1 : v < 0
  ·
    refine (sx_go dc_272_0 rfl).trans ?_
    refine (sx_if_t dc_272_1 rfl (if_pos h1)).trans ?_
    refine (sx_go dc_272_32 rfl).trans ?_
    exact sx_ret_int dc_272_33 rt_272
  · have h2 : t ≤ v := h.resolve_left h1
    refine (sx_go dc_272_0 rfl).trans ?_
    refine (sx_if_f dc_272_1 rfl (if_neg h1)).trans ?_
    refine (sx_go dc_272_4 rfl).trans ?_
    refine (sx_go dc_272_5 rfl).trans ?_
    refine (sx_getfield dc_272_6 fr_272_34 hf).trans ?_
    refine (sx_ic_t dc_272_9 rfl (if_pos h2)).trans ?_
    refine (sx_go dc_272_32 rfl).trans ?_
    exact sx_ret_int dc_272_33 rt_272
theorem co_no {X : Option (Nat × (Nat → Int32))} {d n u : Nat} {σ : sm_H} {v : Int32} {a b : Nat} {t : Int32} (hb : sx_fd σ a 11 5 = some (.ref b)) (ho : sx_ob σ b = some 0) (hf : sx_fd σ b 0 6 = some (.int t)) (h0 : v ≠ -1) (h : v < 0 ∨ t ≤ v) : sm_ev X (d + 2) (n + 20) 270 [.ref a, .int v] σ u = some (some (.int (-1)), σ, u) := by
  rw [sx_ev (by rw [ml_270]; exact Nat.le_of_ble_eq_true rfl)]
  refine (sx_go dc_270_0 rfl).trans ?_
  refine (sx_go dc_270_1 rfl).trans ?_
  refine (sx_ic_t dc_270_2 rfl (if_neg h0)).trans ?_
  refine (sx_go dc_270_15 rfl).trans ?_
  refine (sx_getfield dc_270_16 fr_270_68 hb).trans ?_
  refine (sx_go dc_270_19 rfl).trans ?_
  refine (sx_virt (r := []) (st := [.int v, .ref b]) (v := some (.int (-1))) (σ2 := σ) (u2 := u) dc_270_20 kr_270_124 ⟨Or.inr rfl, ow_272, cl_0⟩ (by rw [np_272]; rfl) ho (Nat.le_of_ble_eq_true rfl) (by rw [np_272]; exact ob_no hf h)).trans ?_
  show sm_run _ _ _ _ (_, _, [Value.int (-1)], _, _) = _
  exact sx_ret_int dc_270_23 rt_270
theorem cc_no {X : Option (Nat × (Nat → Int32))} {d n u : Nat} {σ : sm_H} {v : Int32} {a : Nat} (h0 : v ≠ 0) (h8 : v ≠ 8) (h9 : v ≠ 9) (h : v < 1 ∨ 7 < v) : sm_ev X (d + 1) (n + 20) 273 [.ref a, .int v] σ u = some (some (.int (-1)), σ, u) := by
  rw [sx_ev (by rw [ml_273]; exact Nat.le_of_ble_eq_true rfl)]
  by_cases h1 : v < 1
  ·
    refine (sx_go dc_273_0 rfl).trans ?_
    refine (sx_if_t dc_273_1 rfl (if_neg h0)).trans ?_
    refine (sx_go dc_273_12 rfl).trans ?_
    refine (sx_go dc_273_13 rfl).trans ?_
    refine (sx_ic_t dc_273_14 rfl (if_pos h1)).trans ?_
    refine (sx_go dc_273_32 rfl).trans ?_
    refine (sx_go dc_273_33 rfl).trans ?_
    refine (sx_ic_t dc_273_35 rfl (if_neg h8)).trans ?_
    refine (sx_go dc_273_46 rfl).trans ?_
    refine (sx_go dc_273_47 rfl).trans ?_
    refine (sx_ic_t dc_273_49 rfl (if_neg h9)).trans ?_
    refine (sx_go dc_273_62 rfl).trans ?_
    exact sx_ret_int dc_273_63 rt_273
  · have h2 : 7 < v := h.resolve_left h1
    refine (sx_go dc_273_0 rfl).trans ?_
    refine (sx_if_t dc_273_1 rfl (if_neg h0)).trans ?_
    refine (sx_go dc_273_12 rfl).trans ?_
    refine (sx_go dc_273_13 rfl).trans ?_
    refine (sx_ic_f dc_273_14 rfl (if_neg h1)).trans ?_
    refine (sx_go dc_273_17 rfl).trans ?_
    refine (sx_go dc_273_18 rfl).trans ?_
    refine (sx_ic_t dc_273_20 rfl (if_pos h2)).trans ?_
    refine (sx_go dc_273_32 rfl).trans ?_
    refine (sx_go dc_273_33 rfl).trans ?_
    refine (sx_ic_t dc_273_35 rfl (if_neg h8)).trans ?_
    refine (sx_go dc_273_46 rfl).trans ?_
    refine (sx_go dc_273_47 rfl).trans ?_
    refine (sx_ic_t dc_273_49 rfl (if_neg h9)).trans ?_
    refine (sx_go dc_273_62 rfl).trans ?_
    exact sx_ret_int dc_273_63 rt_273
