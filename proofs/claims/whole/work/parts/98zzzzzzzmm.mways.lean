/-! WAYS of the class's machine: every call is a hypothesis -/
theorem ml_215 : sm_ml 215 = 4 := by decide +kernel
theorem dc_215_0 : decode (sm_cc 215) 0 = .ok (.lload_n 0, 1) := by decide +kernel
theorem dc_215_1 : decode (sm_cc 215) 1 = .ok (.lload_n 2, 1) := by decide +kernel
theorem dc_215_2 : decode (sm_cc 215) 2 = .ok (.lcmp, 1) := by decide +kernel
theorem dc_215_3 : decode (sm_cc 215) 3 = .ok (.ifCond .ge (7), 3) := by decide +kernel
theorem dc_215_10 : decode (sm_cc 215) 10 = .ok (.lload_n 0, 1) := by decide +kernel
theorem dc_215_11 : decode (sm_cc 215) 11 = .ok (.lload_n 2, 1) := by decide +kernel
theorem dc_215_12 : decode (sm_cc 215) 12 = .ok (.lcmp, 1) := by decide +kernel
theorem dc_215_13 : decode (sm_cc 215) 13 = .ok (.ifCond .ne (7), 3) := by decide +kernel
theorem dc_215_20 : decode (sm_cc 215) 20 = .ok (.iconst 1, 1) := by decide +kernel
theorem dc_215_21 : decode (sm_cc 215) 21 = .ok (.ireturn, 1) := by decide +kernel
theorem rt_215 : sm_rt 215 = some .int := by decide +kernel
theorem dc_215_16 : decode (sm_cc 215) 16 = .ok (.iconst 0, 1) := by decide +kernel
theorem dc_215_17 : decode (sm_cc 215) 17 = .ok (.goto (4), 3) := by decide +kernel
theorem dc_215_6 : decode (sm_cc 215) 6 = .ok (.iconst (-1), 1) := by decide +kernel
theorem dc_215_7 : decode (sm_cc 215) 7 = .ok (.goto (14), 3) := by decide +kernel
theorem ml_389 : sm_ml 389 = 4 := by decide +kernel
theorem dc_389_0 : decode (sm_cc 389) 0 = .ok (.lload_n 0, 1) := by decide +kernel
theorem dc_389_1 : decode (sm_cc 389) 1 = .ok (.ldc2_w 168, 3) := by decide +kernel
theorem cj_389_168 : sm_at mt_cj (sm_ow 389) 168 = some (168, (-9223372036854775808), 2887) := by decide +kernel
theorem dc_389_4 : decode (sm_cc 389) 4 = .ok (.ladd, 1) := by decide +kernel
theorem dc_389_5 : decode (sm_cc 389) 5 = .ok (.lload_n 2, 1) := by decide +kernel
theorem dc_389_6 : decode (sm_cc 389) 6 = .ok (.ldc2_w 168, 3) := by decide +kernel
theorem dc_389_9 : decode (sm_cc 389) 9 = .ok (.ladd, 1) := by decide +kernel
theorem dc_389_10 : decode (sm_cc 389) 10 = .ok (.invokestatic 302, 3) := by decide +kernel
theorem kr_389_302 : sm_at mt_k (sm_ow 389) 302 = some (302, 2, 215, 0, 2888) := by decide +kernel
theorem dc_389_13 : decode (sm_cc 389) 13 = .ok (.ireturn, 1) := by decide +kernel
theorem rt_389 : sm_rt 389 = some .int := by decide +kernel
theorem jCl_1 {d : Nat} {S : cS} {u : Int64} {u1 : Int64} (w1 : sm_c1 .ge (lg_cmp u u1) true false = true) (w2 : sm_c1 .ne (lg_cmp u u1) true false = true) : Bod (d + 8) 215 0 [(0, .long u), (2, .long u1)] [] S (some (.int (nI 1))) (S) := by
  refine Bod.go dc_215_0 rfl ?_
  refine Bod.go dc_215_1 rfl ?_
  refine Bod.go dc_215_2 rfl ?_
  refine Bod.ifT dc_215_3 rfl w1 ?_
  refine Bod.go dc_215_10 rfl ?_
  refine Bod.go dc_215_11 rfl ?_
  refine Bod.go dc_215_12 rfl ?_
  refine Bod.ifT dc_215_13 rfl w2 ?_
  refine Bod.ic 1 (by decide) dc_215_20 ?_
  exact Bod.retI dc_215_21 rt_215
theorem jCl_2 {d : Nat} {S : cS} {u : Int64} {u1 : Int64} (w1 : sm_c1 .ge (lg_cmp u u1) true false = true) (w2 : sm_c1 .ne (lg_cmp u u1) true false = false) : Bod (d + 8) 215 0 [(0, .long u), (2, .long u1)] [] S (some (.int (nI 0))) (S) := by
  refine Bod.go dc_215_0 rfl ?_
  refine Bod.go dc_215_1 rfl ?_
  refine Bod.go dc_215_2 rfl ?_
  refine Bod.ifT dc_215_3 rfl w1 ?_
  refine Bod.go dc_215_10 rfl ?_
  refine Bod.go dc_215_11 rfl ?_
  refine Bod.go dc_215_12 rfl ?_
  refine Bod.ifF dc_215_13 rfl w2 ?_
  refine Bod.ic 0 (by decide) dc_215_16 ?_
  refine Bod.go dc_215_17 rfl ?_
  exact Bod.retI dc_215_21 rt_215
theorem jCl_3 {d : Nat} {S : cS} {u : Int64} {u1 : Int64} (w1 : sm_c1 .ge (lg_cmp u u1) true false = false) : Bod (d + 8) 215 0 [(0, .long u), (2, .long u1)] [] S (some (.int (Int32.ofInt (-1)))) (S) := by
  refine Bod.go dc_215_0 rfl ?_
  refine Bod.go dc_215_1 rfl ?_
  refine Bod.go dc_215_2 rfl ?_
  refine Bod.ifF dc_215_3 rfl w1 ?_
  refine Bod.go dc_215_6 rfl ?_
  refine Bod.go dc_215_7 rfl ?_
  exact Bod.retI dc_215_21 rt_215
theorem jCu_1 {d : Nat} {S : cS} {u : Int64} {u1 : Int64} {S1 : cS} {rb : Int32} (c1 : Ans (d + 8) 215 [.long (u + ((-9223372036854775808))), .long (u1 + ((-9223372036854775808)))] S (some (.int rb)) S1) : Bod (d + 8) 389 0 [(0, .long u), (2, .long u1)] [] S (some (.int rb)) (S1) := by
  refine Bod.go dc_389_0 rfl ?_
  refine Bod.ldc2 dc_389_1 cj_389_168 ?_
  refine Bod.go dc_389_4 rfl ?_
  refine Bod.go dc_389_5 rfl ?_
  refine Bod.ldc2 dc_389_6 cj_389_168 ?_
  refine Bod.go dc_389_9 rfl ?_
  refine Bod.stat (r := []) dc_389_10 kr_389_302 (Or.inl rfl) (by rw [np_215]; rfl) (by rw [np_215]; rfl) (by rw [np_215]; exact Nat.le_of_ble_eq_true rfl) (Nat.le_of_ble_eq_true rfl) (c1  ) ?_
  show Bod _ _ _ _ [_] _ _ _
  exact Bod.retI dc_389_13 rt_389
