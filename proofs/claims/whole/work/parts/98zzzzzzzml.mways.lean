/-! WAYS of the class's machine: every call is a hypothesis -/
theorem ml_360 : sm_ml 360 = 2 := by decide +kernel
theorem dc_360_0 : decode (sm_cc 360) 0 = .ok (.lload_n 0, 1) := by decide +kernel
theorem dc_360_1 : decode (sm_cc 360) 1 = .ok (.ldc2_w 185, 3) := by decide +kernel
theorem cj_360_185 : sm_at mt_cj (sm_ow 360) 185 = some (185, (255), 2713) := by decide +kernel
theorem dc_360_4 : decode (sm_cc 360) 4 = .ok (.land, 1) := by decide +kernel
theorem dc_360_5 : decode (sm_cc 360) 5 = .ok (.l2i, 1) := by decide +kernel
theorem dc_360_6 : decode (sm_cc 360) 6 = .ok (.ireturn, 1) := by decide +kernel
theorem rt_360 : sm_rt 360 = some .int := by decide +kernel
theorem jMy_1 {d : Nat} {S : cS} {u : Int64}  : Bod (d + 8) 360 0 [(0, .long u)] [] S (some (.int ((u &&& ((255))).toInt32))) (S) := by
  refine Bod.go dc_360_0 rfl ?_
  refine Bod.ldc2 dc_360_1 cj_360_185 ?_
  refine Bod.go dc_360_4 rfl ?_
  refine Bod.go dc_360_5 rfl ?_
  exact Bod.retI dc_360_6 rt_360
