/-! CONTRACTS of the class's leaves -/
theorem dc_133_0 : decode (sm_cc 133) 0 = .ok (.iload_n 1, 1) := by decide +kernel
theorem dc_133_1 : decode (sm_cc 133) 1 = .ok (.ifCond .lt (25), 3) := by decide +kernel
theorem dc_133_4 : decode (sm_cc 133) 4 = .ok (.iload_n 1, 1) := by decide +kernel
theorem dc_133_5 : decode (sm_cc 133) 5 = .ok (.aload_n 0, 1) := by decide +kernel
theorem dc_133_6 : decode (sm_cc 133) 6 = .ok (.getfield 22, 3) := by decide +kernel
theorem fr_133_22 : sm_at mt_f (sm_ow 133) 22 = some (22, 9, 3, 0, 772) := by decide +kernel
theorem dc_133_9 : decode (sm_cc 133) 9 = .ok (.if_icmp .ge (17), 3) := by decide +kernel
theorem dc_133_12 : decode (sm_cc 133) 12 = .ok (.aload_n 0, 1) := by decide +kernel
theorem dc_133_13 : decode (sm_cc 133) 13 = .ok (.getfield 22, 3) := by decide +kernel
theorem dc_133_16 : decode (sm_cc 133) 16 = .ok (.sipush (20480), 3) := by decide +kernel
theorem dc_133_19 : decode (sm_cc 133) 19 = .ok (.if_icmp .gt (7), 3) := by decide +kernel
theorem dc_133_22 : decode (sm_cc 133) 22 = .ok (.iconst 1, 1) := by decide +kernel
theorem dc_133_23 : decode (sm_cc 133) 23 = .ok (.goto (4), 3) := by decide +kernel
theorem dc_133_27 : decode (sm_cc 133) 27 = .ok (.ireturn, 1) := by decide +kernel
theorem rt_133 : sm_rt 133 = some .boolean := by decide +kernel
theorem ml_133 : sm_ml 133 = 2 := by decide +kernel
theorem dc_133_26 : decode (sm_cc 133) 26 = .ok (.iconst 0, 1) := by decide +kernel
theorem dc_132_0 : decode (sm_cc 132) 0 = .ok (.aload_n 0, 1) := by decide +kernel
theorem dc_132_1 : decode (sm_cc 132) 1 = .ok (.iload_n 1, 1) := by decide +kernel
theorem dc_132_2 : decode (sm_cc 132) 2 = .ok (.invokevirtual 26, 3) := by decide +kernel
theorem ow_133 : 9 = sm_ow 133 := by decide +kernel
theorem cl_9 : 9 < mt_cl.length := by decide +kernel
theorem kr_132_26 : sm_at mt_k (sm_ow 132) 26 = some (26, 0, 133, 0, 1368) := by decide +kernel
theorem np_133 : sm_np 133 = 1 := by decide +kernel
theorem dc_132_5 : decode (sm_cc 132) 5 = .ok (.ifCond .eq (19), 3) := by decide +kernel
theorem dc_132_8 : decode (sm_cc 132) 8 = .ok (.aload_n 0, 1) := by decide +kernel
theorem dc_132_9 : decode (sm_cc 132) 9 = .ok (.getfield 15, 3) := by decide +kernel
theorem fr_132_15 : sm_at mt_f (sm_ow 132) 15 = some (15, 9, 1, 0, 770) := by decide +kernel
theorem dc_132_12 : decode (sm_cc 132) 12 = .ok (.aload_n 0, 1) := by decide +kernel
theorem dc_132_13 : decode (sm_cc 132) 13 = .ok (.getfield 22, 3) := by decide +kernel
theorem fr_132_22 : sm_at mt_f (sm_ow 132) 22 = some (22, 9, 3, 0, 772) := by decide +kernel
theorem dc_132_16 : decode (sm_cc 132) 16 = .ok (.iconst 1, 1) := by decide +kernel
theorem dc_132_17 : decode (sm_cc 132) 17 = .ok (.isub, 1) := by decide +kernel
theorem dc_132_18 : decode (sm_cc 132) 18 = .ok (.iload_n 1, 1) := by decide +kernel
theorem dc_132_19 : decode (sm_cc 132) 19 = .ok (.isub, 1) := by decide +kernel
theorem dc_132_20 : decode (sm_cc 132) 20 = .ok (.laload, 1) := by decide +kernel
theorem dc_132_21 : decode (sm_cc 132) 21 = .ok (.goto (4), 3) := by decide +kernel
theorem dc_132_25 : decode (sm_cc 132) 25 = .ok (.lreturn, 1) := by decide +kernel
theorem rt_132 : sm_rt 132 = some .long := by decide +kernel
theorem ml_132 : sm_ml 132 = 2 := by decide +kernel
theorem dc_135_0 : decode (sm_cc 135) 0 = .ok (.aload_n 0, 1) := by decide +kernel
theorem dc_135_1 : decode (sm_cc 135) 1 = .ok (.iload_n 1, 1) := by decide +kernel
theorem dc_135_2 : decode (sm_cc 135) 2 = .ok (.invokevirtual 26, 3) := by decide +kernel
theorem kr_135_26 : sm_at mt_k (sm_ow 135) 26 = some (26, 0, 133, 0, 1368) := by decide +kernel
theorem dc_135_5 : decode (sm_cc 135) 5 = .ok (.ifCond .eq (19), 3) := by decide +kernel
theorem dc_135_8 : decode (sm_cc 135) 8 = .ok (.aload_n 0, 1) := by decide +kernel
theorem dc_135_9 : decode (sm_cc 135) 9 = .ok (.getfield 19, 3) := by decide +kernel
theorem fr_135_19 : sm_at mt_f (sm_ow 135) 19 = some (19, 9, 2, 0, 771) := by decide +kernel
theorem dc_135_12 : decode (sm_cc 135) 12 = .ok (.aload_n 0, 1) := by decide +kernel
theorem dc_135_13 : decode (sm_cc 135) 13 = .ok (.getfield 22, 3) := by decide +kernel
theorem fr_135_22 : sm_at mt_f (sm_ow 135) 22 = some (22, 9, 3, 0, 772) := by decide +kernel
theorem dc_135_16 : decode (sm_cc 135) 16 = .ok (.iconst 1, 1) := by decide +kernel
theorem dc_135_17 : decode (sm_cc 135) 17 = .ok (.isub, 1) := by decide +kernel
theorem dc_135_18 : decode (sm_cc 135) 18 = .ok (.iload_n 1, 1) := by decide +kernel
theorem dc_135_19 : decode (sm_cc 135) 19 = .ok (.isub, 1) := by decide +kernel
theorem dc_135_20 : decode (sm_cc 135) 20 = .ok (.laload, 1) := by decide +kernel
theorem dc_135_21 : decode (sm_cc 135) 21 = .ok (.goto (4), 3) := by decide +kernel
theorem dc_135_25 : decode (sm_cc 135) 25 = .ok (.lreturn, 1) := by decide +kernel
theorem rt_135 : sm_rt 135 = some .long := by decide +kernel
theorem ml_135 : sm_ml 135 = 2 := by decide +kernel
theorem dc_134_0 : decode (sm_cc 134) 0 = .ok (.lload_n 0, 1) := by decide +kernel
theorem dc_134_1 : decode (sm_cc 134) 1 = .ok (.bipush (60), 2) := by decide +kernel
theorem dc_134_3 : decode (sm_cc 134) 3 = .ok (.lushr, 1) := by decide +kernel
theorem dc_134_4 : decode (sm_cc 134) 4 = .ok (.l2i, 1) := by decide +kernel
theorem dc_134_5 : decode (sm_cc 134) 5 = .ok (.ireturn, 1) := by decide +kernel
theorem rt_134 : sm_rt 134 = some .int := by decide +kernel
theorem ml_134 : sm_ml 134 = 2 := by decide +kernel
theorem dc_137_0 : decode (sm_cc 137) 0 = .ok (.lload_n 0, 1) := by decide +kernel
theorem dc_137_1 : decode (sm_cc 137) 1 = .ok (.bipush (60), 2) := by decide +kernel
theorem dc_137_3 : decode (sm_cc 137) 3 = .ok (.lushr, 1) := by decide +kernel
theorem dc_137_4 : decode (sm_cc 137) 4 = .ok (.ldc2_w 168, 3) := by decide +kernel
theorem cj_137_168 : sm_at mt_cj (sm_ow 137) 168 = some (168, (4), 1387) := by decide +kernel
theorem dc_137_7 : decode (sm_cc 137) 7 = .ok (.lcmp, 1) := by decide +kernel
theorem dc_137_8 : decode (sm_cc 137) 8 = .ok (.ifCond .ne (8), 3) := by decide +kernel
theorem dc_137_11 : decode (sm_cc 137) 11 = .ok (.lload_n 2, 1) := by decide +kernel
theorem dc_137_12 : decode (sm_cc 137) 12 = .ok (.l2i, 1) := by decide +kernel
theorem dc_137_13 : decode (sm_cc 137) 13 = .ok (.goto (4), 3) := by decide +kernel
theorem dc_137_17 : decode (sm_cc 137) 17 = .ok (.ireturn, 1) := by decide +kernel
theorem rt_137 : sm_rt 137 = some .int := by decide +kernel
theorem ml_137 : sm_ml 137 = 4 := by decide +kernel
theorem dc_137_16 : decode (sm_cc 137) 16 = .ok (.iconst 0, 1) := by decide +kernel
theorem dc_136_0 : decode (sm_cc 136) 0 = .ok (.aload_n 0, 1) := by decide +kernel
theorem dc_136_1 : decode (sm_cc 136) 1 = .ok (.iload_n 1, 1) := by decide +kernel
theorem dc_136_2 : decode (sm_cc 136) 2 = .ok (.invokevirtual 30, 3) := by decide +kernel
theorem ow_132 : 9 = sm_ow 132 := by decide +kernel
theorem kr_136_30 : sm_at mt_k (sm_ow 136) 30 = some (30, 0, 132, 0, 1364) := by decide +kernel
theorem np_132 : sm_np 132 = 1 := by decide +kernel
theorem dc_136_5 : decode (sm_cc 136) 5 = .ok (.aload_n 0, 1) := by decide +kernel
theorem dc_136_6 : decode (sm_cc 136) 6 = .ok (.iload_n 1, 1) := by decide +kernel
theorem dc_136_7 : decode (sm_cc 136) 7 = .ok (.invokevirtual 34, 3) := by decide +kernel
theorem ow_135 : 9 = sm_ow 135 := by decide +kernel
theorem kr_136_34 : sm_at mt_k (sm_ow 136) 34 = some (34, 0, 135, 0, 1375) := by decide +kernel
theorem np_135 : sm_np 135 = 1 := by decide +kernel
theorem dc_136_10 : decode (sm_cc 136) 10 = .ok (.invokestatic 37, 3) := by decide +kernel
theorem kr_136_37 : sm_at mt_k (sm_ow 136) 37 = some (37, 3, 137, 1, 1384) := by decide +kernel
theorem np_137 : sm_np 137 = 2 := by decide +kernel
theorem dc_136_13 : decode (sm_cc 136) 13 = .ok (.ireturn, 1) := by decide +kernel
theorem rt_136 : sm_rt 136 = some .int := by decide +kernel
theorem ml_136 : sm_ml 136 = 2 := by decide +kernel
theorem dc_155_0 : decode (sm_cc 155) 0 = .ok (.aload_n 0, 1) := by decide +kernel
theorem dc_155_1 : decode (sm_cc 155) 1 = .ok (.iload_n 1, 1) := by decide +kernel
theorem dc_155_2 : decode (sm_cc 155) 2 = .ok (.invokevirtual 26, 3) := by decide +kernel
theorem kr_155_26 : sm_at mt_k (sm_ow 155) 26 = some (26, 0, 133, 0, 1368) := by decide +kernel
theorem dc_155_5 : decode (sm_cc 155) 5 = .ok (.ifCond .eq (17), 3) := by decide +kernel
theorem dc_155_8 : decode (sm_cc 155) 8 = .ok (.aload_n 0, 1) := by decide +kernel
theorem dc_155_9 : decode (sm_cc 155) 9 = .ok (.getfield 19, 3) := by decide +kernel
theorem fr_155_19 : sm_at mt_f (sm_ow 155) 19 = some (19, 9, 2, 0, 771) := by decide +kernel
theorem dc_155_12 : decode (sm_cc 155) 12 = .ok (.aload_n 0, 1) := by decide +kernel
theorem dc_155_13 : decode (sm_cc 155) 13 = .ok (.getfield 22, 3) := by decide +kernel
theorem fr_155_22 : sm_at mt_f (sm_ow 155) 22 = some (22, 9, 3, 0, 772) := by decide +kernel
theorem dc_155_16 : decode (sm_cc 155) 16 = .ok (.iconst 1, 1) := by decide +kernel
theorem dc_155_17 : decode (sm_cc 155) 17 = .ok (.isub, 1) := by decide +kernel
theorem dc_155_18 : decode (sm_cc 155) 18 = .ok (.iload_n 1, 1) := by decide +kernel
theorem dc_155_19 : decode (sm_cc 155) 19 = .ok (.isub, 1) := by decide +kernel
theorem dc_155_20 : decode (sm_cc 155) 20 = .ok (.lload_n 2, 1) := by decide +kernel
theorem dc_155_21 : decode (sm_cc 155) 21 = .ok (.lastore, 1) := by decide +kernel
theorem dc_155_22 : decode (sm_cc 155) 22 = .ok (.return_, 1) := by decide +kernel
theorem rt_155 : sm_rt 155 = none := by decide +kernel
theorem ml_155 : sm_ml 155 = 4 := by decide +kernel
theorem dc_139_0 : decode (sm_cc 139) 0 = .ok (.iload_n 0, 1) := by decide +kernel
theorem dc_139_1 : decode (sm_cc 139) 1 = .ok (.iconst 1, 1) := by decide +kernel
theorem dc_139_2 : decode (sm_cc 139) 2 = .ok (.if_icmp .lt (14), 3) := by decide +kernel
theorem dc_139_5 : decode (sm_cc 139) 5 = .ok (.iload_n 0, 1) := by decide +kernel
theorem dc_139_6 : decode (sm_cc 139) 6 = .ok (.sipush (1500), 3) := by decide +kernel
theorem dc_139_9 : decode (sm_cc 139) 9 = .ok (.if_icmp .gt (7), 3) := by decide +kernel
theorem dc_139_12 : decode (sm_cc 139) 12 = .ok (.iconst 1, 1) := by decide +kernel
theorem dc_139_13 : decode (sm_cc 139) 13 = .ok (.goto (4), 3) := by decide +kernel
theorem dc_139_17 : decode (sm_cc 139) 17 = .ok (.ireturn, 1) := by decide +kernel
theorem rt_139 : sm_rt 139 = some .boolean := by decide +kernel
theorem ml_139 : sm_ml 139 = 1 := by decide +kernel
theorem dc_139_16 : decode (sm_cc 139) 16 = .ok (.iconst 0, 1) := by decide +kernel
theorem dc_138_0 : decode (sm_cc 138) 0 = .ok (.iload_n 1, 1) := by decide +kernel
theorem dc_138_1 : decode (sm_cc 138) 1 = .ok (.invokestatic 65, 3) := by decide +kernel
theorem kr_138_65 : sm_at mt_k (sm_ow 138) 65 = some (65, 2, 139, 0, 1392) := by decide +kernel
theorem np_139 : sm_np 139 = 1 := by decide +kernel
theorem dc_138_4 : decode (sm_cc 138) 4 = .ok (.ifCond .eq (12), 3) := by decide +kernel
theorem dc_138_7 : decode (sm_cc 138) 7 = .ok (.aload_n 0, 1) := by decide +kernel
theorem dc_138_8 : decode (sm_cc 138) 8 = .ok (.getfield 11, 3) := by decide +kernel
theorem fr_138_11 : sm_at mt_f (sm_ow 138) 11 = some (11, 2, 0, 0, 373) := by decide +kernel
theorem dc_138_11 : decode (sm_cc 138) 11 = .ok (.iload_n 1, 1) := by decide +kernel
theorem dc_138_12 : decode (sm_cc 138) 12 = .ok (.iaload, 1) := by decide +kernel
theorem dc_138_13 : decode (sm_cc 138) 13 = .ok (.goto (4), 3) := by decide +kernel
theorem dc_138_17 : decode (sm_cc 138) 17 = .ok (.ireturn, 1) := by decide +kernel
theorem rt_138 : sm_rt 138 = some .int := by decide +kernel
theorem ml_138 : sm_ml 138 = 2 := by decide +kernel
theorem dc_138_16 : decode (sm_cc 138) 16 = .ok (.iconst 0, 1) := by decide +kernel
theorem dc_140_0 : decode (sm_cc 140) 0 = .ok (.iload_n 1, 1) := by decide +kernel
theorem dc_140_1 : decode (sm_cc 140) 1 = .ok (.invokestatic 65, 3) := by decide +kernel
theorem kr_140_65 : sm_at mt_k (sm_ow 140) 65 = some (65, 2, 139, 0, 1392) := by decide +kernel
theorem dc_140_4 : decode (sm_cc 140) 4 = .ok (.ifCond .eq (12), 3) := by decide +kernel
theorem dc_140_7 : decode (sm_cc 140) 7 = .ok (.aload_n 0, 1) := by decide +kernel
theorem dc_140_8 : decode (sm_cc 140) 8 = .ok (.getfield 33, 3) := by decide +kernel
theorem fr_140_33 : sm_at mt_f (sm_ow 140) 33 = some (33, 2, 7, 0, 383) := by decide +kernel
theorem dc_140_11 : decode (sm_cc 140) 11 = .ok (.iload_n 1, 1) := by decide +kernel
theorem dc_140_12 : decode (sm_cc 140) 12 = .ok (.iaload, 1) := by decide +kernel
theorem dc_140_13 : decode (sm_cc 140) 13 = .ok (.goto (4), 3) := by decide +kernel
theorem dc_140_17 : decode (sm_cc 140) 17 = .ok (.ireturn, 1) := by decide +kernel
theorem rt_140 : sm_rt 140 = some .int := by decide +kernel
theorem ml_140 : sm_ml 140 = 2 := by decide +kernel
theorem dc_140_16 : decode (sm_cc 140) 16 = .ok (.iconst 0, 1) := by decide +kernel
theorem dc_168_0 : decode (sm_cc 168) 0 = .ok (.iload_n 1, 1) := by decide +kernel
theorem dc_168_1 : decode (sm_cc 168) 1 = .ok (.invokestatic 65, 3) := by decide +kernel
theorem kr_168_65 : sm_at mt_k (sm_ow 168) 65 = some (65, 2, 139, 0, 1392) := by decide +kernel
theorem dc_168_4 : decode (sm_cc 168) 4 = .ok (.ifCond .eq (12), 3) := by decide +kernel
theorem dc_168_7 : decode (sm_cc 168) 7 = .ok (.aload_n 0, 1) := by decide +kernel
theorem dc_168_8 : decode (sm_cc 168) 8 = .ok (.getfield 24, 3) := by decide +kernel
theorem fr_168_24 : sm_at mt_f (sm_ow 168) 24 = some (24, 2, 4, 0, 380) := by decide +kernel
theorem dc_168_11 : decode (sm_cc 168) 11 = .ok (.iload_n 1, 1) := by decide +kernel
theorem dc_168_12 : decode (sm_cc 168) 12 = .ok (.iaload, 1) := by decide +kernel
theorem dc_168_13 : decode (sm_cc 168) 13 = .ok (.goto (4), 3) := by decide +kernel
theorem dc_168_17 : decode (sm_cc 168) 17 = .ok (.ireturn, 1) := by decide +kernel
theorem rt_168 : sm_rt 168 = some .int := by decide +kernel
theorem ml_168 : sm_ml 168 = 2 := by decide +kernel
theorem dc_168_16 : decode (sm_cc 168) 16 = .ok (.iconst 0, 1) := by decide +kernel
theorem dc_264_0 : decode (sm_cc 264) 0 = .ok (.iload_n 1, 1) := by decide +kernel
theorem dc_264_1 : decode (sm_cc 264) 1 = .ok (.invokestatic 65, 3) := by decide +kernel
theorem kr_264_65 : sm_at mt_k (sm_ow 264) 65 = some (65, 2, 139, 0, 1392) := by decide +kernel
theorem dc_264_4 : decode (sm_cc 264) 4 = .ok (.ifCond .eq (12), 3) := by decide +kernel
theorem dc_264_7 : decode (sm_cc 264) 7 = .ok (.aload_n 0, 1) := by decide +kernel
theorem dc_264_8 : decode (sm_cc 264) 8 = .ok (.getfield 27, 3) := by decide +kernel
theorem fr_264_27 : sm_at mt_f (sm_ow 264) 27 = some (27, 2, 5, 0, 381) := by decide +kernel
theorem dc_264_11 : decode (sm_cc 264) 11 = .ok (.iload_n 1, 1) := by decide +kernel
theorem dc_264_12 : decode (sm_cc 264) 12 = .ok (.iaload, 1) := by decide +kernel
theorem dc_264_13 : decode (sm_cc 264) 13 = .ok (.goto (4), 3) := by decide +kernel
theorem dc_264_17 : decode (sm_cc 264) 17 = .ok (.ireturn, 1) := by decide +kernel
theorem rt_264 : sm_rt 264 = some .int := by decide +kernel
theorem ml_264 : sm_ml 264 = 2 := by decide +kernel
theorem dc_264_16 : decode (sm_cc 264) 16 = .ok (.iconst 0, 1) := by decide +kernel
theorem dc_241_0 : decode (sm_cc 241) 0 = .ok (.iload_n 1, 1) := by decide +kernel
theorem dc_241_1 : decode (sm_cc 241) 1 = .ok (.invokestatic 65, 3) := by decide +kernel
theorem kr_241_65 : sm_at mt_k (sm_ow 241) 65 = some (65, 2, 139, 0, 1392) := by decide +kernel
theorem dc_241_4 : decode (sm_cc 241) 4 = .ok (.ifCond .eq (12), 3) := by decide +kernel
theorem dc_241_7 : decode (sm_cc 241) 7 = .ok (.aload_n 0, 1) := by decide +kernel
theorem dc_241_8 : decode (sm_cc 241) 8 = .ok (.getfield 30, 3) := by decide +kernel
theorem fr_241_30 : sm_at mt_f (sm_ow 241) 30 = some (30, 2, 6, 0, 382) := by decide +kernel
theorem dc_241_11 : decode (sm_cc 241) 11 = .ok (.iload_n 1, 1) := by decide +kernel
theorem dc_241_12 : decode (sm_cc 241) 12 = .ok (.iaload, 1) := by decide +kernel
theorem dc_241_13 : decode (sm_cc 241) 13 = .ok (.goto (4), 3) := by decide +kernel
theorem dc_241_17 : decode (sm_cc 241) 17 = .ok (.ireturn, 1) := by decide +kernel
theorem rt_241 : sm_rt 241 = some .int := by decide +kernel
theorem ml_241 : sm_ml 241 = 2 := by decide +kernel
theorem dc_241_16 : decode (sm_cc 241) 16 = .ok (.iconst 0, 1) := by decide +kernel
theorem dc_251_0 : decode (sm_cc 251) 0 = .ok (.aload_n 0, 1) := by decide +kernel
theorem dc_251_1 : decode (sm_cc 251) 1 = .ok (.getfield 55, 3) := by decide +kernel
theorem fr_251_55 : sm_at mt_f (sm_ow 251) 55 = some (55, 2, 13, 0, 389) := by decide +kernel
theorem dc_251_4 : decode (sm_cc 251) 4 = .ok (.ireturn, 1) := by decide +kernel
theorem rt_251 : sm_rt 251 = some .int := by decide +kernel
theorem ml_251 : sm_ml 251 = 1 := by decide +kernel
theorem dc_274_0 : decode (sm_cc 274) 0 = .ok (.iload_n 1, 1) := by decide +kernel
theorem dc_274_1 : decode (sm_cc 274) 1 = .ok (.iconst 1, 1) := by decide +kernel
theorem dc_274_2 : decode (sm_cc 274) 2 = .ok (.if_icmp .lt (18), 3) := by decide +kernel
theorem dc_274_5 : decode (sm_cc 274) 5 = .ok (.iload_n 1, 1) := by decide +kernel
theorem dc_274_6 : decode (sm_cc 274) 6 = .ok (.bipush (7), 2) := by decide +kernel
theorem dc_274_8 : decode (sm_cc 274) 8 = .ok (.if_icmp .gt (12), 3) := by decide +kernel
theorem dc_274_11 : decode (sm_cc 274) 11 = .ok (.aload_n 0, 1) := by decide +kernel
theorem dc_274_12 : decode (sm_cc 274) 12 = .ok (.getfield 42, 3) := by decide +kernel
theorem fr_274_42 : sm_at mt_f (sm_ow 274) 42 = some (42, 2, 9, 0, 385) := by decide +kernel
theorem dc_274_15 : decode (sm_cc 274) 15 = .ok (.iload_n 1, 1) := by decide +kernel
theorem dc_274_16 : decode (sm_cc 274) 16 = .ok (.iaload, 1) := by decide +kernel
theorem dc_274_17 : decode (sm_cc 274) 17 = .ok (.goto (4), 3) := by decide +kernel
theorem dc_274_21 : decode (sm_cc 274) 21 = .ok (.ireturn, 1) := by decide +kernel
theorem rt_274 : sm_rt 274 = some .int := by decide +kernel
theorem ml_274 : sm_ml 274 = 2 := by decide +kernel
theorem dc_149_0 : decode (sm_cc 149) 0 = .ok (.iload_n 2, 1) := by decide +kernel
theorem dc_149_1 : decode (sm_cc 149) 1 = .ok (.iconst 1, 1) := by decide +kernel
theorem dc_149_2 : decode (sm_cc 149) 2 = .ok (.if_icmp .lt (16), 3) := by decide +kernel
theorem dc_149_5 : decode (sm_cc 149) 5 = .ok (.iload_n 2, 1) := by decide +kernel
theorem dc_149_6 : decode (sm_cc 149) 6 = .ok (.aload_n 1, 1) := by decide +kernel
theorem dc_149_7 : decode (sm_cc 149) 7 = .ok (.arraylength, 1) := by decide +kernel
theorem dc_149_8 : decode (sm_cc 149) 8 = .ok (.if_icmp .ge (10), 3) := by decide +kernel
theorem dc_149_11 : decode (sm_cc 149) 11 = .ok (.aload_n 1, 1) := by decide +kernel
theorem dc_149_12 : decode (sm_cc 149) 12 = .ok (.iload_n 2, 1) := by decide +kernel
theorem dc_149_13 : decode (sm_cc 149) 13 = .ok (.dup2, 1) := by decide +kernel
theorem dc_149_14 : decode (sm_cc 149) 14 = .ok (.iaload, 1) := by decide +kernel
theorem dc_149_15 : decode (sm_cc 149) 15 = .ok (.iconst 1, 1) := by decide +kernel
theorem dc_149_16 : decode (sm_cc 149) 16 = .ok (.iadd, 1) := by decide +kernel
theorem dc_149_17 : decode (sm_cc 149) 17 = .ok (.iastore, 1) := by decide +kernel
theorem dc_149_18 : decode (sm_cc 149) 18 = .ok (.return_, 1) := by decide +kernel
theorem rt_149 : sm_rt 149 = none := by decide +kernel
theorem ml_149 : sm_ml 149 = 3 := by decide +kernel
theorem dc_262_0 : decode (sm_cc 262) 0 = .ok (.iload_n 1, 1) := by decide +kernel
theorem dc_262_1 : decode (sm_cc 262) 1 = .ok (.invokestatic 65, 3) := by decide +kernel
theorem kr_262_65 : sm_at mt_k (sm_ow 262) 65 = some (65, 2, 139, 0, 1392) := by decide +kernel
theorem dc_262_4 : decode (sm_cc 262) 4 = .ok (.ifCond .eq (13), 3) := by decide +kernel
theorem dc_262_7 : decode (sm_cc 262) 7 = .ok (.aload_n 0, 1) := by decide +kernel
theorem dc_262_8 : decode (sm_cc 262) 8 = .ok (.getfield 21, 3) := by decide +kernel
theorem fr_262_21 : sm_at mt_f (sm_ow 262) 21 = some (21, 2, 3, 0, 377) := by decide +kernel
theorem dc_262_11 : decode (sm_cc 262) 11 = .ok (.iload_n 1, 1) := by decide +kernel
theorem dc_262_12 : decode (sm_cc 262) 12 = .ok (.dup2, 1) := by decide +kernel
theorem dc_262_13 : decode (sm_cc 262) 13 = .ok (.iaload, 1) := by decide +kernel
theorem dc_262_14 : decode (sm_cc 262) 14 = .ok (.iconst 1, 1) := by decide +kernel
theorem dc_262_15 : decode (sm_cc 262) 15 = .ok (.isub, 1) := by decide +kernel
theorem dc_262_16 : decode (sm_cc 262) 16 = .ok (.iastore, 1) := by decide +kernel
theorem dc_262_17 : decode (sm_cc 262) 17 = .ok (.return_, 1) := by decide +kernel
theorem rt_262 : sm_rt 262 = none := by decide +kernel
theorem ml_262 : sm_ml 262 = 2 := by decide +kernel
theorem dc_153_0 : decode (sm_cc 153) 0 = .ok (.aload_n 0, 1) := by decide +kernel
theorem dc_153_1 : decode (sm_cc 153) 1 = .ok (.getfield 22, 3) := by decide +kernel
theorem fr_153_22 : sm_at mt_f (sm_ow 153) 22 = some (22, 9, 3, 0, 772) := by decide +kernel
theorem dc_153_4 : decode (sm_cc 153) 4 = .ok (.ifCond .lt (13), 3) := by decide +kernel
theorem dc_153_7 : decode (sm_cc 153) 7 = .ok (.aload_n 0, 1) := by decide +kernel
theorem dc_153_8 : decode (sm_cc 153) 8 = .ok (.getfield 22, 3) := by decide +kernel
theorem dc_153_11 : decode (sm_cc 153) 11 = .ok (.sipush (20480), 3) := by decide +kernel
theorem dc_153_14 : decode (sm_cc 153) 14 = .ok (.if_icmp .lt (4), 3) := by decide +kernel
theorem dc_153_18 : decode (sm_cc 153) 18 = .ok (.aload_n 0, 1) := by decide +kernel
theorem dc_153_19 : decode (sm_cc 153) 19 = .ok (.getfield 15, 3) := by decide +kernel
theorem fr_153_15 : sm_at mt_f (sm_ow 153) 15 = some (15, 9, 1, 0, 770) := by decide +kernel
theorem dc_153_22 : decode (sm_cc 153) 22 = .ok (.aload_n 0, 1) := by decide +kernel
theorem dc_153_23 : decode (sm_cc 153) 23 = .ok (.getfield 22, 3) := by decide +kernel
theorem dc_153_26 : decode (sm_cc 153) 26 = .ok (.lload_n 1, 1) := by decide +kernel
theorem dc_153_27 : decode (sm_cc 153) 27 = .ok (.lastore, 1) := by decide +kernel
theorem dc_153_28 : decode (sm_cc 153) 28 = .ok (.aload_n 0, 1) := by decide +kernel
theorem dc_153_29 : decode (sm_cc 153) 29 = .ok (.getfield 19, 3) := by decide +kernel
theorem fr_153_19 : sm_at mt_f (sm_ow 153) 19 = some (19, 9, 2, 0, 771) := by decide +kernel
theorem dc_153_32 : decode (sm_cc 153) 32 = .ok (.aload_n 0, 1) := by decide +kernel
theorem dc_153_33 : decode (sm_cc 153) 33 = .ok (.getfield 22, 3) := by decide +kernel
theorem dc_153_36 : decode (sm_cc 153) 36 = .ok (.lload_n 3, 1) := by decide +kernel
theorem dc_153_37 : decode (sm_cc 153) 37 = .ok (.lastore, 1) := by decide +kernel
theorem dc_153_38 : decode (sm_cc 153) 38 = .ok (.aload_n 0, 1) := by decide +kernel
theorem dc_153_39 : decode (sm_cc 153) 39 = .ok (.dup, 1) := by decide +kernel
theorem dc_153_40 : decode (sm_cc 153) 40 = .ok (.getfield 22, 3) := by decide +kernel
theorem dc_153_43 : decode (sm_cc 153) 43 = .ok (.iconst 1, 1) := by decide +kernel
theorem dc_153_44 : decode (sm_cc 153) 44 = .ok (.iadd, 1) := by decide +kernel
theorem dc_153_45 : decode (sm_cc 153) 45 = .ok (.putfield 22, 3) := by decide +kernel
theorem dc_153_48 : decode (sm_cc 153) 48 = .ok (.aload_n 0, 1) := by decide +kernel
theorem dc_153_49 : decode (sm_cc 153) 49 = .ok (.getfield 9, 3) := by decide +kernel
theorem fr_153_9 : sm_at mt_f (sm_ow 153) 9 = some (9, 9, 0, 0, 769) := by decide +kernel
theorem dc_153_52 : decode (sm_cc 153) 52 = .ok (.aload_n 0, 1) := by decide +kernel
theorem dc_153_53 : decode (sm_cc 153) 53 = .ok (.getfield 9, 3) := by decide +kernel
theorem dc_153_56 : decode (sm_cc 153) 56 = .ok (.getfield 50, 3) := by decide +kernel
theorem fr_153_50 : sm_at mt_f (sm_ow 153) 50 = some (50, 2, 3, 1, 378) := by decide +kernel
theorem dc_153_59 : decode (sm_cc 153) 59 = .ok (.lload_n 1, 1) := by decide +kernel
theorem dc_153_60 : decode (sm_cc 153) 60 = .ok (.lload_n 3, 1) := by decide +kernel
theorem dc_153_61 : decode (sm_cc 153) 61 = .ok (.invokestatic 37, 3) := by decide +kernel
theorem kr_153_37 : sm_at mt_k (sm_ow 153) 37 = some (37, 3, 137, 1, 1384) := by decide +kernel
theorem dc_153_64 : decode (sm_cc 153) 64 = .ok (.invokevirtual 54, 3) := by decide +kernel
theorem ow_149 : 2 = sm_ow 149 := by decide +kernel
theorem cl_2 : 2 < mt_cl.length := by decide +kernel
theorem kr_153_54 : sm_at mt_k (sm_ow 153) 54 = some (54, 1, 149, 1, 1434) := by decide +kernel
theorem np_149 : sm_np 149 = 2 := by decide +kernel
theorem dc_153_67 : decode (sm_cc 153) 67 = .ok (.return_, 1) := by decide +kernel
theorem rt_153 : sm_rt 153 = none := by decide +kernel
theorem ml_153 : sm_ml 153 = 5 := by decide +kernel
theorem dc_88_0 : decode (sm_cc 88) 0 = .ok (.iload_n 1, 1) := by decide +kernel
theorem dc_88_1 : decode (sm_cc 88) 1 = .ok (.ifCond .lt (26), 3) := by decide +kernel
theorem dc_88_4 : decode (sm_cc 88) 4 = .ok (.iload_n 1, 1) := by decide +kernel
theorem dc_88_5 : decode (sm_cc 88) 5 = .ok (.aload_n 0, 1) := by decide +kernel
theorem dc_88_6 : decode (sm_cc 88) 6 = .ok (.getfield 35, 3) := by decide +kernel
theorem fr_88_35 : sm_at mt_f (sm_ow 88) 35 = some (35, 7, 7, 0, 551) := by decide +kernel
theorem dc_88_9 : decode (sm_cc 88) 9 = .ok (.if_icmp .ge (18), 3) := by decide +kernel
theorem dc_88_12 : decode (sm_cc 88) 12 = .ok (.iload_n 1, 1) := by decide +kernel
theorem dc_88_13 : decode (sm_cc 88) 13 = .ok (.ldc 11, 2) := by decide +kernel
theorem ci_88_11 : sm_at mt_ci (sm_ow 88) 11 = some (11, (40960), 543) := by decide +kernel
theorem dc_88_15 : decode (sm_cc 88) 15 = .ok (.if_icmp .ge (12), 3) := by decide +kernel
theorem dc_88_18 : decode (sm_cc 88) 18 = .ok (.aload_n 0, 1) := by decide +kernel
theorem dc_88_19 : decode (sm_cc 88) 19 = .ok (.getfield 12, 3) := by decide +kernel
theorem fr_88_12 : sm_at mt_f (sm_ow 88) 12 = some (12, 7, 0, 0, 544) := by decide +kernel
theorem dc_88_22 : decode (sm_cc 88) 22 = .ok (.iload_n 1, 1) := by decide +kernel
theorem dc_88_23 : decode (sm_cc 88) 23 = .ok (.iaload, 1) := by decide +kernel
theorem dc_88_24 : decode (sm_cc 88) 24 = .ok (.goto (4), 3) := by decide +kernel
theorem dc_88_28 : decode (sm_cc 88) 28 = .ok (.ireturn, 1) := by decide +kernel
theorem rt_88 : sm_rt 88 = some .int := by decide +kernel
theorem ml_88 : sm_ml 88 = 2 := by decide +kernel
theorem dc_88_27 : decode (sm_cc 88) 27 = .ok (.iconst 0, 1) := by decide +kernel
theorem dc_55_0 : decode (sm_cc 55) 0 = .ok (.aload_n 0, 1) := by decide +kernel
theorem dc_55_1 : decode (sm_cc 55) 1 = .ok (.getfield 35, 3) := by decide +kernel
theorem fr_55_35 : sm_at mt_f (sm_ow 55) 35 = some (35, 7, 7, 0, 551) := by decide +kernel
theorem dc_55_4 : decode (sm_cc 55) 4 = .ok (.ifCond .lt (18), 3) := by decide +kernel
theorem dc_55_7 : decode (sm_cc 55) 7 = .ok (.aload_n 0, 1) := by decide +kernel
theorem dc_55_8 : decode (sm_cc 55) 8 = .ok (.getfield 35, 3) := by decide +kernel
theorem dc_55_11 : decode (sm_cc 55) 11 = .ok (.iload_n 1, 1) := by decide +kernel
theorem dc_55_12 : decode (sm_cc 55) 12 = .ok (.iadd, 1) := by decide +kernel
theorem dc_55_13 : decode (sm_cc 55) 13 = .ok (.ldc 11, 2) := by decide +kernel
theorem ci_55_11 : sm_at mt_ci (sm_ow 55) 11 = some (11, (40960), 543) := by decide +kernel
theorem dc_55_15 : decode (sm_cc 55) 15 = .ok (.if_icmp .gt (7), 3) := by decide +kernel
theorem dc_55_18 : decode (sm_cc 55) 18 = .ok (.iconst 1, 1) := by decide +kernel
theorem dc_55_19 : decode (sm_cc 55) 19 = .ok (.goto (4), 3) := by decide +kernel
theorem dc_55_23 : decode (sm_cc 55) 23 = .ok (.istore_n 2, 1) := by decide +kernel
theorem ml_55 : sm_ml 55 = 3 := by decide +kernel
theorem dc_55_24 : decode (sm_cc 55) 24 = .ok (.iload_n 2, 1) := by decide +kernel
theorem dc_55_25 : decode (sm_cc 55) 25 = .ok (.ifCond .ne (8), 3) := by decide +kernel
theorem dc_55_33 : decode (sm_cc 55) 33 = .ok (.iload_n 2, 1) := by decide +kernel
theorem dc_55_34 : decode (sm_cc 55) 34 = .ok (.ireturn, 1) := by decide +kernel
theorem rt_55 : sm_rt 55 = some .boolean := by decide +kernel
theorem dc_71_0 : decode (sm_cc 71) 0 = .ok (.aload_n 0, 1) := by decide +kernel
theorem dc_71_1 : decode (sm_cc 71) 1 = .ok (.iconst 1, 1) := by decide +kernel
theorem dc_71_2 : decode (sm_cc 71) 2 = .ok (.invokevirtual 39, 3) := by decide +kernel
theorem ow_55 : 7 = sm_ow 55 := by decide +kernel
theorem cl_7 : 7 < mt_cl.length := by decide +kernel
theorem kr_71_39 : sm_at mt_k (sm_ow 71) 39 = some (39, 0, 55, 0, 1038) := by decide +kernel
theorem np_55 : sm_np 55 = 1 := by decide +kernel
theorem dc_71_5 : decode (sm_cc 71) 5 = .ok (.ifCond .ne (6), 3) := by decide +kernel
theorem dc_71_11 : decode (sm_cc 71) 11 = .ok (.aload_n 0, 1) := by decide +kernel
theorem dc_71_12 : decode (sm_cc 71) 12 = .ok (.getfield 12, 3) := by decide +kernel
theorem fr_71_12 : sm_at mt_f (sm_ow 71) 12 = some (12, 7, 0, 0, 544) := by decide +kernel
theorem dc_71_15 : decode (sm_cc 71) 15 = .ok (.aload_n 0, 1) := by decide +kernel
theorem dc_71_16 : decode (sm_cc 71) 16 = .ok (.getfield 35, 3) := by decide +kernel
theorem fr_71_35 : sm_at mt_f (sm_ow 71) 35 = some (35, 7, 7, 0, 551) := by decide +kernel
theorem dc_71_19 : decode (sm_cc 71) 19 = .ok (.iload_n 1, 1) := by decide +kernel
theorem dc_71_20 : decode (sm_cc 71) 20 = .ok (.iastore, 1) := by decide +kernel
theorem dc_71_21 : decode (sm_cc 71) 21 = .ok (.aload_n 0, 1) := by decide +kernel
theorem dc_71_22 : decode (sm_cc 71) 22 = .ok (.dup, 1) := by decide +kernel
theorem dc_71_23 : decode (sm_cc 71) 23 = .ok (.getfield 35, 3) := by decide +kernel
theorem dc_71_26 : decode (sm_cc 71) 26 = .ok (.iconst 1, 1) := by decide +kernel
theorem dc_71_27 : decode (sm_cc 71) 27 = .ok (.iadd, 1) := by decide +kernel
theorem dc_71_28 : decode (sm_cc 71) 28 = .ok (.putfield 35, 3) := by decide +kernel
theorem dc_71_31 : decode (sm_cc 71) 31 = .ok (.aload_n 0, 1) := by decide +kernel
theorem dc_71_32 : decode (sm_cc 71) 32 = .ok (.getfield 35, 3) := by decide +kernel
theorem dc_71_35 : decode (sm_cc 71) 35 = .ok (.iconst 1, 1) := by decide +kernel
theorem dc_71_36 : decode (sm_cc 71) 36 = .ok (.isub, 1) := by decide +kernel
theorem dc_71_37 : decode (sm_cc 71) 37 = .ok (.ireturn, 1) := by decide +kernel
theorem rt_71 : sm_rt 71 = some .int := by decide +kernel
theorem ml_71 : sm_ml 71 = 2 := by decide +kernel
theorem dc_54_0 : decode (sm_cc 54) 0 = .ok (.aload_n 0, 1) := by decide +kernel
theorem dc_54_1 : decode (sm_cc 54) 1 = .ok (.iconst 2, 1) := by decide +kernel
theorem dc_54_2 : decode (sm_cc 54) 2 = .ok (.invokevirtual 39, 3) := by decide +kernel
theorem kr_54_39 : sm_at mt_k (sm_ow 54) 39 = some (39, 0, 55, 0, 1038) := by decide +kernel
theorem dc_54_5 : decode (sm_cc 54) 5 = .ok (.ifCond .ne (6), 3) := by decide +kernel
theorem dc_54_11 : decode (sm_cc 54) 11 = .ok (.aload_n 0, 1) := by decide +kernel
theorem dc_54_12 : decode (sm_cc 54) 12 = .ok (.getfield 12, 3) := by decide +kernel
theorem fr_54_12 : sm_at mt_f (sm_ow 54) 12 = some (12, 7, 0, 0, 544) := by decide +kernel
theorem dc_54_15 : decode (sm_cc 54) 15 = .ok (.aload_n 0, 1) := by decide +kernel
theorem dc_54_16 : decode (sm_cc 54) 16 = .ok (.getfield 35, 3) := by decide +kernel
theorem fr_54_35 : sm_at mt_f (sm_ow 54) 35 = some (35, 7, 7, 0, 551) := by decide +kernel
theorem dc_54_19 : decode (sm_cc 54) 19 = .ok (.iload_n 1, 1) := by decide +kernel
theorem dc_54_20 : decode (sm_cc 54) 20 = .ok (.iastore, 1) := by decide +kernel
theorem dc_54_21 : decode (sm_cc 54) 21 = .ok (.aload_n 0, 1) := by decide +kernel
theorem dc_54_22 : decode (sm_cc 54) 22 = .ok (.getfield 12, 3) := by decide +kernel
theorem dc_54_25 : decode (sm_cc 54) 25 = .ok (.aload_n 0, 1) := by decide +kernel
theorem dc_54_26 : decode (sm_cc 54) 26 = .ok (.getfield 35, 3) := by decide +kernel
theorem dc_54_29 : decode (sm_cc 54) 29 = .ok (.iconst 1, 1) := by decide +kernel
theorem dc_54_30 : decode (sm_cc 54) 30 = .ok (.iadd, 1) := by decide +kernel
theorem dc_54_31 : decode (sm_cc 54) 31 = .ok (.iload_n 2, 1) := by decide +kernel
theorem dc_54_32 : decode (sm_cc 54) 32 = .ok (.iastore, 1) := by decide +kernel
theorem dc_54_33 : decode (sm_cc 54) 33 = .ok (.aload_n 0, 1) := by decide +kernel
theorem dc_54_34 : decode (sm_cc 54) 34 = .ok (.dup, 1) := by decide +kernel
theorem dc_54_35 : decode (sm_cc 54) 35 = .ok (.getfield 35, 3) := by decide +kernel
theorem dc_54_38 : decode (sm_cc 54) 38 = .ok (.iconst 2, 1) := by decide +kernel
theorem dc_54_39 : decode (sm_cc 54) 39 = .ok (.iadd, 1) := by decide +kernel
theorem dc_54_40 : decode (sm_cc 54) 40 = .ok (.putfield 35, 3) := by decide +kernel
theorem dc_54_43 : decode (sm_cc 54) 43 = .ok (.aload_n 0, 1) := by decide +kernel
theorem dc_54_44 : decode (sm_cc 54) 44 = .ok (.getfield 35, 3) := by decide +kernel
theorem dc_54_47 : decode (sm_cc 54) 47 = .ok (.iconst 2, 1) := by decide +kernel
theorem dc_54_48 : decode (sm_cc 54) 48 = .ok (.isub, 1) := by decide +kernel
theorem dc_54_49 : decode (sm_cc 54) 49 = .ok (.ireturn, 1) := by decide +kernel
theorem rt_54 : sm_rt 54 = some .int := by decide +kernel
theorem ml_54 : sm_ml 54 = 3 := by decide +kernel
theorem dc_68_0 : decode (sm_cc 68) 0 = .ok (.aload_n 0, 1) := by decide +kernel
theorem dc_68_1 : decode (sm_cc 68) 1 = .ok (.iconst 3, 1) := by decide +kernel
theorem dc_68_2 : decode (sm_cc 68) 2 = .ok (.invokevirtual 39, 3) := by decide +kernel
theorem kr_68_39 : sm_at mt_k (sm_ow 68) 39 = some (39, 0, 55, 0, 1038) := by decide +kernel
theorem dc_68_5 : decode (sm_cc 68) 5 = .ok (.ifCond .ne (6), 3) := by decide +kernel
theorem dc_68_11 : decode (sm_cc 68) 11 = .ok (.aload_n 0, 1) := by decide +kernel
theorem dc_68_12 : decode (sm_cc 68) 12 = .ok (.getfield 12, 3) := by decide +kernel
theorem fr_68_12 : sm_at mt_f (sm_ow 68) 12 = some (12, 7, 0, 0, 544) := by decide +kernel
theorem dc_68_15 : decode (sm_cc 68) 15 = .ok (.aload_n 0, 1) := by decide +kernel
theorem dc_68_16 : decode (sm_cc 68) 16 = .ok (.getfield 35, 3) := by decide +kernel
theorem fr_68_35 : sm_at mt_f (sm_ow 68) 35 = some (35, 7, 7, 0, 551) := by decide +kernel
theorem dc_68_19 : decode (sm_cc 68) 19 = .ok (.iload_n 1, 1) := by decide +kernel
theorem dc_68_20 : decode (sm_cc 68) 20 = .ok (.iastore, 1) := by decide +kernel
theorem dc_68_21 : decode (sm_cc 68) 21 = .ok (.aload_n 0, 1) := by decide +kernel
theorem dc_68_22 : decode (sm_cc 68) 22 = .ok (.getfield 12, 3) := by decide +kernel
theorem dc_68_25 : decode (sm_cc 68) 25 = .ok (.aload_n 0, 1) := by decide +kernel
theorem dc_68_26 : decode (sm_cc 68) 26 = .ok (.getfield 35, 3) := by decide +kernel
theorem dc_68_29 : decode (sm_cc 68) 29 = .ok (.iconst 1, 1) := by decide +kernel
theorem dc_68_30 : decode (sm_cc 68) 30 = .ok (.iadd, 1) := by decide +kernel
theorem dc_68_31 : decode (sm_cc 68) 31 = .ok (.iload_n 2, 1) := by decide +kernel
theorem dc_68_32 : decode (sm_cc 68) 32 = .ok (.iastore, 1) := by decide +kernel
theorem dc_68_33 : decode (sm_cc 68) 33 = .ok (.aload_n 0, 1) := by decide +kernel
theorem dc_68_34 : decode (sm_cc 68) 34 = .ok (.getfield 12, 3) := by decide +kernel
theorem dc_68_37 : decode (sm_cc 68) 37 = .ok (.aload_n 0, 1) := by decide +kernel
theorem dc_68_38 : decode (sm_cc 68) 38 = .ok (.getfield 35, 3) := by decide +kernel
theorem dc_68_41 : decode (sm_cc 68) 41 = .ok (.iconst 2, 1) := by decide +kernel
theorem dc_68_42 : decode (sm_cc 68) 42 = .ok (.iadd, 1) := by decide +kernel
theorem dc_68_43 : decode (sm_cc 68) 43 = .ok (.iload_n 3, 1) := by decide +kernel
theorem dc_68_44 : decode (sm_cc 68) 44 = .ok (.iastore, 1) := by decide +kernel
theorem dc_68_45 : decode (sm_cc 68) 45 = .ok (.aload_n 0, 1) := by decide +kernel
theorem dc_68_46 : decode (sm_cc 68) 46 = .ok (.dup, 1) := by decide +kernel
theorem dc_68_47 : decode (sm_cc 68) 47 = .ok (.getfield 35, 3) := by decide +kernel
theorem dc_68_50 : decode (sm_cc 68) 50 = .ok (.iconst 3, 1) := by decide +kernel
theorem dc_68_51 : decode (sm_cc 68) 51 = .ok (.iadd, 1) := by decide +kernel
theorem dc_68_52 : decode (sm_cc 68) 52 = .ok (.putfield 35, 3) := by decide +kernel
theorem dc_68_55 : decode (sm_cc 68) 55 = .ok (.aload_n 0, 1) := by decide +kernel
theorem dc_68_56 : decode (sm_cc 68) 56 = .ok (.getfield 35, 3) := by decide +kernel
theorem dc_68_59 : decode (sm_cc 68) 59 = .ok (.iconst 3, 1) := by decide +kernel
theorem dc_68_60 : decode (sm_cc 68) 60 = .ok (.isub, 1) := by decide +kernel
theorem dc_68_61 : decode (sm_cc 68) 61 = .ok (.ireturn, 1) := by decide +kernel
theorem rt_68 : sm_rt 68 = some .int := by decide +kernel
theorem ml_68 : sm_ml 68 = 4 := by decide +kernel
theorem dc_83_0 : decode (sm_cc 83) 0 = .ok (.iload_n 1, 1) := by decide +kernel
theorem dc_83_1 : decode (sm_cc 83) 1 = .ok (.ifCond .lt (24), 3) := by decide +kernel
theorem dc_83_4 : decode (sm_cc 83) 4 = .ok (.iload_n 1, 1) := by decide +kernel
theorem dc_83_5 : decode (sm_cc 83) 5 = .ok (.aload_n 0, 1) := by decide +kernel
theorem dc_83_6 : decode (sm_cc 83) 6 = .ok (.getfield 35, 3) := by decide +kernel
theorem fr_83_35 : sm_at mt_f (sm_ow 83) 35 = some (35, 7, 7, 0, 551) := by decide +kernel
theorem dc_83_9 : decode (sm_cc 83) 9 = .ok (.if_icmp .ge (16), 3) := by decide +kernel
theorem dc_83_12 : decode (sm_cc 83) 12 = .ok (.iload_n 1, 1) := by decide +kernel
theorem dc_83_13 : decode (sm_cc 83) 13 = .ok (.ldc 11, 2) := by decide +kernel
theorem ci_83_11 : sm_at mt_ci (sm_ow 83) 11 = some (11, (40960), 543) := by decide +kernel
theorem dc_83_15 : decode (sm_cc 83) 15 = .ok (.if_icmp .ge (10), 3) := by decide +kernel
theorem dc_83_18 : decode (sm_cc 83) 18 = .ok (.aload_n 0, 1) := by decide +kernel
theorem dc_83_19 : decode (sm_cc 83) 19 = .ok (.getfield 12, 3) := by decide +kernel
theorem fr_83_12 : sm_at mt_f (sm_ow 83) 12 = some (12, 7, 0, 0, 544) := by decide +kernel
theorem dc_83_22 : decode (sm_cc 83) 22 = .ok (.iload_n 1, 1) := by decide +kernel
theorem dc_83_23 : decode (sm_cc 83) 23 = .ok (.iload_n 2, 1) := by decide +kernel
theorem dc_83_24 : decode (sm_cc 83) 24 = .ok (.iastore, 1) := by decide +kernel
theorem dc_83_25 : decode (sm_cc 83) 25 = .ok (.return_, 1) := by decide +kernel
theorem rt_83 : sm_rt 83 = none := by decide +kernel
theorem ml_83 : sm_ml 83 = 3 := by decide +kernel
theorem dc_164_0 : decode (sm_cc 164) 0 = .ok (.iload_n 1, 1) := by decide +kernel
theorem dc_164_1 : decode (sm_cc 164) 1 = .ok (.ifCond .lt (14), 3) := by decide +kernel
theorem dc_164_4 : decode (sm_cc 164) 4 = .ok (.iload_n 1, 1) := by decide +kernel
theorem dc_164_5 : decode (sm_cc 164) 5 = .ok (.sipush (5200), 3) := by decide +kernel
theorem dc_164_8 : decode (sm_cc 164) 8 = .ok (.if_icmp .ge (7), 3) := by decide +kernel
theorem dc_164_11 : decode (sm_cc 164) 11 = .ok (.iconst 1, 1) := by decide +kernel
theorem dc_164_12 : decode (sm_cc 164) 12 = .ok (.goto (4), 3) := by decide +kernel
theorem dc_164_16 : decode (sm_cc 164) 16 = .ok (.ireturn, 1) := by decide +kernel
theorem rt_164 : sm_rt 164 = some .boolean := by decide +kernel
theorem ml_164 : sm_ml 164 = 2 := by decide +kernel
theorem dc_163_0 : decode (sm_cc 163) 0 = .ok (.aload_n 0, 1) := by decide +kernel
theorem dc_163_1 : decode (sm_cc 163) 1 = .ok (.iload_n 1, 1) := by decide +kernel
theorem dc_163_2 : decode (sm_cc 163) 2 = .ok (.invokevirtual 54, 3) := by decide +kernel
theorem ow_164 : 7 = sm_ow 164 := by decide +kernel
theorem kr_163_54 : sm_at mt_k (sm_ow 163) 54 = some (54, 0, 164, 0, 1500) := by decide +kernel
theorem np_164 : sm_np 164 = 1 := by decide +kernel
theorem dc_163_5 : decode (sm_cc 163) 5 = .ok (.ifCond .eq (12), 3) := by decide +kernel
theorem dc_163_8 : decode (sm_cc 163) 8 = .ok (.aload_n 0, 1) := by decide +kernel
theorem dc_163_9 : decode (sm_cc 163) 9 = .ok (.getfield 16, 3) := by decide +kernel
theorem fr_163_16 : sm_at mt_f (sm_ow 163) 16 = some (16, 7, 1, 0, 545) := by decide +kernel
theorem dc_163_12 : decode (sm_cc 163) 12 = .ok (.iload_n 1, 1) := by decide +kernel
theorem dc_163_13 : decode (sm_cc 163) 13 = .ok (.laload, 1) := by decide +kernel
theorem dc_163_14 : decode (sm_cc 163) 14 = .ok (.goto (6), 3) := by decide +kernel
theorem dc_163_20 : decode (sm_cc 163) 20 = .ok (.lreturn, 1) := by decide +kernel
theorem rt_163 : sm_rt 163 = some .long := by decide +kernel
theorem ml_163 : sm_ml 163 = 2 := by decide +kernel
theorem dc_165_0 : decode (sm_cc 165) 0 = .ok (.aload_n 0, 1) := by decide +kernel
theorem dc_165_1 : decode (sm_cc 165) 1 = .ok (.iload_n 1, 1) := by decide +kernel
theorem dc_165_2 : decode (sm_cc 165) 2 = .ok (.invokevirtual 54, 3) := by decide +kernel
theorem kr_165_54 : sm_at mt_k (sm_ow 165) 54 = some (54, 0, 164, 0, 1500) := by decide +kernel
theorem dc_165_5 : decode (sm_cc 165) 5 = .ok (.ifCond .eq (12), 3) := by decide +kernel
theorem dc_165_8 : decode (sm_cc 165) 8 = .ok (.aload_n 0, 1) := by decide +kernel
theorem dc_165_9 : decode (sm_cc 165) 9 = .ok (.getfield 20, 3) := by decide +kernel
theorem fr_165_20 : sm_at mt_f (sm_ow 165) 20 = some (20, 7, 2, 0, 546) := by decide +kernel
theorem dc_165_12 : decode (sm_cc 165) 12 = .ok (.iload_n 1, 1) := by decide +kernel
theorem dc_165_13 : decode (sm_cc 165) 13 = .ok (.laload, 1) := by decide +kernel
theorem dc_165_14 : decode (sm_cc 165) 14 = .ok (.goto (4), 3) := by decide +kernel
theorem dc_165_18 : decode (sm_cc 165) 18 = .ok (.lreturn, 1) := by decide +kernel
theorem rt_165 : sm_rt 165 = some .long := by decide +kernel
theorem ml_165 : sm_ml 165 = 2 := by decide +kernel
theorem dc_73_0 : decode (sm_cc 73) 0 = .ok (.aload_n 0, 1) := by decide +kernel
theorem dc_73_1 : decode (sm_cc 73) 1 = .ok (.getfield 47, 3) := by decide +kernel
theorem fr_73_47 : sm_at mt_f (sm_ow 73) 47 = some (47, 7, 8, 0, 555) := by decide +kernel
theorem dc_73_4 : decode (sm_cc 73) 4 = .ok (.sipush (5200), 3) := by decide +kernel
theorem dc_73_7 : decode (sm_cc 73) 7 = .ok (.if_icmp .ge (36), 3) := by decide +kernel
theorem dc_73_10 : decode (sm_cc 73) 10 = .ok (.aload_n 0, 1) := by decide +kernel
theorem dc_73_11 : decode (sm_cc 73) 11 = .ok (.getfield 16, 3) := by decide +kernel
theorem fr_73_16 : sm_at mt_f (sm_ow 73) 16 = some (16, 7, 1, 0, 545) := by decide +kernel
theorem dc_73_14 : decode (sm_cc 73) 14 = .ok (.aload_n 0, 1) := by decide +kernel
theorem dc_73_15 : decode (sm_cc 73) 15 = .ok (.getfield 47, 3) := by decide +kernel
theorem dc_73_18 : decode (sm_cc 73) 18 = .ok (.lload_n 1, 1) := by decide +kernel
theorem dc_73_19 : decode (sm_cc 73) 19 = .ok (.lastore, 1) := by decide +kernel
theorem dc_73_20 : decode (sm_cc 73) 20 = .ok (.aload_n 0, 1) := by decide +kernel
theorem dc_73_21 : decode (sm_cc 73) 21 = .ok (.getfield 20, 3) := by decide +kernel
theorem fr_73_20 : sm_at mt_f (sm_ow 73) 20 = some (20, 7, 2, 0, 546) := by decide +kernel
theorem dc_73_24 : decode (sm_cc 73) 24 = .ok (.aload_n 0, 1) := by decide +kernel
theorem dc_73_25 : decode (sm_cc 73) 25 = .ok (.getfield 47, 3) := by decide +kernel
theorem dc_73_28 : decode (sm_cc 73) 28 = .ok (.lload_n 3, 1) := by decide +kernel
theorem dc_73_29 : decode (sm_cc 73) 29 = .ok (.lastore, 1) := by decide +kernel
theorem dc_73_30 : decode (sm_cc 73) 30 = .ok (.aload_n 0, 1) := by decide +kernel
theorem dc_73_31 : decode (sm_cc 73) 31 = .ok (.dup, 1) := by decide +kernel
theorem dc_73_32 : decode (sm_cc 73) 32 = .ok (.getfield 47, 3) := by decide +kernel
theorem dc_73_35 : decode (sm_cc 73) 35 = .ok (.iconst 1, 1) := by decide +kernel
theorem dc_73_36 : decode (sm_cc 73) 36 = .ok (.iadd, 1) := by decide +kernel
theorem dc_73_37 : decode (sm_cc 73) 37 = .ok (.putfield 47, 3) := by decide +kernel
theorem dc_73_40 : decode (sm_cc 73) 40 = .ok (.goto (8), 3) := by decide +kernel
theorem dc_73_48 : decode (sm_cc 73) 48 = .ok (.aload_n 0, 1) := by decide +kernel
theorem dc_73_49 : decode (sm_cc 73) 49 = .ok (.bipush (16), 2) := by decide +kernel
theorem dc_73_51 : decode (sm_cc 73) 51 = .ok (.aload_n 0, 1) := by decide +kernel
theorem dc_73_52 : decode (sm_cc 73) 52 = .ok (.getfield 47, 3) := by decide +kernel
theorem dc_73_55 : decode (sm_cc 73) 55 = .ok (.iconst 1, 1) := by decide +kernel
theorem dc_73_56 : decode (sm_cc 73) 56 = .ok (.isub, 1) := by decide +kernel
theorem dc_73_57 : decode (sm_cc 73) 57 = .ok (.invokevirtual 50, 3) := by decide +kernel
theorem ow_54 : 7 = sm_ow 54 := by decide +kernel
theorem kr_73_50 : sm_at mt_k (sm_ow 73) 50 = some (50, 0, 54, 0, 1116) := by decide +kernel
theorem np_54 : sm_np 54 = 2 := by decide +kernel
theorem dc_73_60 : decode (sm_cc 73) 60 = .ok (.pop, 1) := by decide +kernel
theorem dc_73_61 : decode (sm_cc 73) 61 = .ok (.return_, 1) := by decide +kernel
theorem rt_73 : sm_rt 73 = none := by decide +kernel
theorem ml_73 : sm_ml 73 = 5 := by decide +kernel
theorem dc_103_0 : decode (sm_cc 103) 0 = .ok (.iload_n 1, 1) := by decide +kernel
theorem dc_103_1 : decode (sm_cc 103) 1 = .ok (.ifCond .lt (14), 3) := by decide +kernel
theorem dc_103_4 : decode (sm_cc 103) 4 = .ok (.iload_n 1, 1) := by decide +kernel
theorem dc_103_5 : decode (sm_cc 103) 5 = .ok (.sipush (900), 3) := by decide +kernel
theorem dc_103_8 : decode (sm_cc 103) 8 = .ok (.if_icmp .ge (7), 3) := by decide +kernel
theorem dc_103_11 : decode (sm_cc 103) 11 = .ok (.iconst 1, 1) := by decide +kernel
theorem dc_103_12 : decode (sm_cc 103) 12 = .ok (.goto (4), 3) := by decide +kernel
theorem dc_103_16 : decode (sm_cc 103) 16 = .ok (.ireturn, 1) := by decide +kernel
theorem rt_103 : sm_rt 103 = some .boolean := by decide +kernel
theorem ml_103 : sm_ml 103 = 2 := by decide +kernel
theorem dc_263_0 : decode (sm_cc 263) 0 = .ok (.aload_n 0, 1) := by decide +kernel
theorem dc_263_1 : decode (sm_cc 263) 1 = .ok (.iload_n 1, 1) := by decide +kernel
theorem dc_263_2 : decode (sm_cc 263) 2 = .ok (.invokevirtual 62, 3) := by decide +kernel
theorem ow_103 : 7 = sm_ow 103 := by decide +kernel
theorem kr_263_62 : sm_at mt_k (sm_ow 263) 62 = some (62, 0, 103, 0, 1241) := by decide +kernel
theorem np_103 : sm_np 103 = 1 := by decide +kernel
theorem dc_263_5 : decode (sm_cc 263) 5 = .ok (.ifCond .eq (12), 3) := by decide +kernel
theorem dc_263_8 : decode (sm_cc 263) 8 = .ok (.aload_n 0, 1) := by decide +kernel
theorem dc_263_9 : decode (sm_cc 263) 9 = .ok (.getfield 23, 3) := by decide +kernel
theorem fr_263_23 : sm_at mt_f (sm_ow 263) 23 = some (23, 7, 3, 0, 547) := by decide +kernel
theorem dc_263_12 : decode (sm_cc 263) 12 = .ok (.iload_n 1, 1) := by decide +kernel
theorem dc_263_13 : decode (sm_cc 263) 13 = .ok (.iaload, 1) := by decide +kernel
theorem dc_263_14 : decode (sm_cc 263) 14 = .ok (.goto (5), 3) := by decide +kernel
theorem dc_263_19 : decode (sm_cc 263) 19 = .ok (.ireturn, 1) := by decide +kernel
theorem rt_263 : sm_rt 263 = some .int := by decide +kernel
theorem ml_263 : sm_ml 263 = 2 := by decide +kernel
theorem dc_255_0 : decode (sm_cc 255) 0 = .ok (.aload_n 0, 1) := by decide +kernel
theorem dc_255_1 : decode (sm_cc 255) 1 = .ok (.iload_n 1, 1) := by decide +kernel
theorem dc_255_2 : decode (sm_cc 255) 2 = .ok (.invokevirtual 62, 3) := by decide +kernel
theorem kr_255_62 : sm_at mt_k (sm_ow 255) 62 = some (62, 0, 103, 0, 1241) := by decide +kernel
theorem dc_255_5 : decode (sm_cc 255) 5 = .ok (.ifCond .eq (12), 3) := by decide +kernel
theorem dc_255_8 : decode (sm_cc 255) 8 = .ok (.aload_n 0, 1) := by decide +kernel
theorem dc_255_9 : decode (sm_cc 255) 9 = .ok (.getfield 26, 3) := by decide +kernel
theorem fr_255_26 : sm_at mt_f (sm_ow 255) 26 = some (26, 7, 4, 0, 548) := by decide +kernel
theorem dc_255_12 : decode (sm_cc 255) 12 = .ok (.iload_n 1, 1) := by decide +kernel
theorem dc_255_13 : decode (sm_cc 255) 13 = .ok (.iaload, 1) := by decide +kernel
theorem dc_255_14 : decode (sm_cc 255) 14 = .ok (.goto (4), 3) := by decide +kernel
theorem dc_255_18 : decode (sm_cc 255) 18 = .ok (.ireturn, 1) := by decide +kernel
theorem rt_255 : sm_rt 255 = some .int := by decide +kernel
theorem ml_255 : sm_ml 255 = 2 := by decide +kernel
theorem dc_256_0 : decode (sm_cc 256) 0 = .ok (.aload_n 0, 1) := by decide +kernel
theorem dc_256_1 : decode (sm_cc 256) 1 = .ok (.iload_n 1, 1) := by decide +kernel
theorem dc_256_2 : decode (sm_cc 256) 2 = .ok (.invokevirtual 62, 3) := by decide +kernel
theorem kr_256_62 : sm_at mt_k (sm_ow 256) 62 = some (62, 0, 103, 0, 1241) := by decide +kernel
theorem dc_256_5 : decode (sm_cc 256) 5 = .ok (.ifCond .eq (12), 3) := by decide +kernel
theorem dc_256_8 : decode (sm_cc 256) 8 = .ok (.aload_n 0, 1) := by decide +kernel
theorem dc_256_9 : decode (sm_cc 256) 9 = .ok (.getfield 29, 3) := by decide +kernel
theorem fr_256_29 : sm_at mt_f (sm_ow 256) 29 = some (29, 7, 5, 0, 549) := by decide +kernel
theorem dc_256_12 : decode (sm_cc 256) 12 = .ok (.iload_n 1, 1) := by decide +kernel
theorem dc_256_13 : decode (sm_cc 256) 13 = .ok (.iaload, 1) := by decide +kernel
theorem dc_256_14 : decode (sm_cc 256) 14 = .ok (.goto (4), 3) := by decide +kernel
theorem dc_256_18 : decode (sm_cc 256) 18 = .ok (.ireturn, 1) := by decide +kernel
theorem rt_256 : sm_rt 256 = some .int := by decide +kernel
theorem ml_256 : sm_ml 256 = 2 := by decide +kernel
theorem dc_242_0 : decode (sm_cc 242) 0 = .ok (.aload_n 0, 1) := by decide +kernel
theorem dc_242_1 : decode (sm_cc 242) 1 = .ok (.iload_n 1, 1) := by decide +kernel
theorem dc_242_2 : decode (sm_cc 242) 2 = .ok (.invokevirtual 62, 3) := by decide +kernel
theorem kr_242_62 : sm_at mt_k (sm_ow 242) 62 = some (62, 0, 103, 0, 1241) := by decide +kernel
theorem dc_242_5 : decode (sm_cc 242) 5 = .ok (.ifCond .eq (12), 3) := by decide +kernel
theorem dc_242_8 : decode (sm_cc 242) 8 = .ok (.aload_n 0, 1) := by decide +kernel
theorem dc_242_9 : decode (sm_cc 242) 9 = .ok (.getfield 32, 3) := by decide +kernel
theorem fr_242_32 : sm_at mt_f (sm_ow 242) 32 = some (32, 7, 6, 0, 550) := by decide +kernel
theorem dc_242_12 : decode (sm_cc 242) 12 = .ok (.iload_n 1, 1) := by decide +kernel
theorem dc_242_13 : decode (sm_cc 242) 13 = .ok (.iaload, 1) := by decide +kernel
theorem dc_242_14 : decode (sm_cc 242) 14 = .ok (.goto (4), 3) := by decide +kernel
theorem dc_242_18 : decode (sm_cc 242) 18 = .ok (.ireturn, 1) := by decide +kernel
theorem rt_242 : sm_rt 242 = some .int := by decide +kernel
theorem ml_242 : sm_ml 242 = 2 := by decide +kernel
theorem dc_98_0 : decode (sm_cc 98) 0 = .ok (.aload_n 0, 1) := by decide +kernel
theorem dc_98_1 : decode (sm_cc 98) 1 = .ok (.getfield 59, 3) := by decide +kernel
theorem fr_98_59 : sm_at mt_f (sm_ow 98) 59 = some (59, 7, 9, 0, 557) := by decide +kernel
theorem dc_98_4 : decode (sm_cc 98) 4 = .ok (.sipush (900), 3) := by decide +kernel
theorem dc_98_7 : decode (sm_cc 98) 7 = .ok (.if_icmp .lt (12), 3) := by decide +kernel
theorem dc_98_19 : decode (sm_cc 98) 19 = .ok (.aload_n 0, 1) := by decide +kernel
theorem dc_98_20 : decode (sm_cc 98) 20 = .ok (.getfield 32, 3) := by decide +kernel
theorem fr_98_32 : sm_at mt_f (sm_ow 98) 32 = some (32, 7, 6, 0, 550) := by decide +kernel
theorem dc_98_23 : decode (sm_cc 98) 23 = .ok (.aload_n 0, 1) := by decide +kernel
theorem dc_98_24 : decode (sm_cc 98) 24 = .ok (.getfield 59, 3) := by decide +kernel
theorem dc_98_27 : decode (sm_cc 98) 27 = .ok (.iload_n 1, 1) := by decide +kernel
theorem dc_98_28 : decode (sm_cc 98) 28 = .ok (.iastore, 1) := by decide +kernel
theorem dc_98_29 : decode (sm_cc 98) 29 = .ok (.aload_n 0, 1) := by decide +kernel
theorem dc_98_30 : decode (sm_cc 98) 30 = .ok (.getfield 23, 3) := by decide +kernel
theorem fr_98_23 : sm_at mt_f (sm_ow 98) 23 = some (23, 7, 3, 0, 547) := by decide +kernel
theorem dc_98_33 : decode (sm_cc 98) 33 = .ok (.aload_n 0, 1) := by decide +kernel
theorem dc_98_34 : decode (sm_cc 98) 34 = .ok (.getfield 59, 3) := by decide +kernel
theorem dc_98_37 : decode (sm_cc 98) 37 = .ok (.aload_n 0, 1) := by decide +kernel
theorem dc_98_38 : decode (sm_cc 98) 38 = .ok (.getfield 35, 3) := by decide +kernel
theorem fr_98_35 : sm_at mt_f (sm_ow 98) 35 = some (35, 7, 7, 0, 551) := by decide +kernel
theorem dc_98_41 : decode (sm_cc 98) 41 = .ok (.iastore, 1) := by decide +kernel
theorem dc_98_42 : decode (sm_cc 98) 42 = .ok (.aload_n 0, 1) := by decide +kernel
theorem dc_98_43 : decode (sm_cc 98) 43 = .ok (.getfield 26, 3) := by decide +kernel
theorem fr_98_26 : sm_at mt_f (sm_ow 98) 26 = some (26, 7, 4, 0, 548) := by decide +kernel
theorem dc_98_46 : decode (sm_cc 98) 46 = .ok (.aload_n 0, 1) := by decide +kernel
theorem dc_98_47 : decode (sm_cc 98) 47 = .ok (.getfield 59, 3) := by decide +kernel
theorem dc_98_50 : decode (sm_cc 98) 50 = .ok (.iconst 0, 1) := by decide +kernel
theorem dc_98_51 : decode (sm_cc 98) 51 = .ok (.iastore, 1) := by decide +kernel
theorem dc_98_52 : decode (sm_cc 98) 52 = .ok (.aload_n 0, 1) := by decide +kernel
theorem dc_98_53 : decode (sm_cc 98) 53 = .ok (.getfield 29, 3) := by decide +kernel
theorem fr_98_29 : sm_at mt_f (sm_ow 98) 29 = some (29, 7, 5, 0, 549) := by decide +kernel
theorem dc_98_56 : decode (sm_cc 98) 56 = .ok (.aload_n 0, 1) := by decide +kernel
theorem dc_98_57 : decode (sm_cc 98) 57 = .ok (.getfield 59, 3) := by decide +kernel
theorem dc_98_60 : decode (sm_cc 98) 60 = .ok (.iconst 0, 1) := by decide +kernel
theorem dc_98_61 : decode (sm_cc 98) 61 = .ok (.iastore, 1) := by decide +kernel
theorem dc_98_62 : decode (sm_cc 98) 62 = .ok (.aload_n 0, 1) := by decide +kernel
theorem dc_98_63 : decode (sm_cc 98) 63 = .ok (.dup, 1) := by decide +kernel
theorem dc_98_64 : decode (sm_cc 98) 64 = .ok (.getfield 59, 3) := by decide +kernel
theorem dc_98_67 : decode (sm_cc 98) 67 = .ok (.iconst 1, 1) := by decide +kernel
theorem dc_98_68 : decode (sm_cc 98) 68 = .ok (.iadd, 1) := by decide +kernel
theorem dc_98_69 : decode (sm_cc 98) 69 = .ok (.putfield 59, 3) := by decide +kernel
theorem dc_98_72 : decode (sm_cc 98) 72 = .ok (.aload_n 0, 1) := by decide +kernel
theorem dc_98_73 : decode (sm_cc 98) 73 = .ok (.getfield 59, 3) := by decide +kernel
theorem dc_98_76 : decode (sm_cc 98) 76 = .ok (.iconst 1, 1) := by decide +kernel
theorem dc_98_77 : decode (sm_cc 98) 77 = .ok (.isub, 1) := by decide +kernel
theorem dc_98_78 : decode (sm_cc 98) 78 = .ok (.ireturn, 1) := by decide +kernel
theorem rt_98 : sm_rt 98 = some .int := by decide +kernel
theorem ml_98 : sm_ml 98 = 2 := by decide +kernel
theorem dc_102_0 : decode (sm_cc 102) 0 = .ok (.aload_n 0, 1) := by decide +kernel
theorem dc_102_1 : decode (sm_cc 102) 1 = .ok (.iload_n 1, 1) := by decide +kernel
theorem dc_102_2 : decode (sm_cc 102) 2 = .ok (.invokevirtual 62, 3) := by decide +kernel
theorem kr_102_62 : sm_at mt_k (sm_ow 102) 62 = some (62, 0, 103, 0, 1241) := by decide +kernel
theorem dc_102_5 : decode (sm_cc 102) 5 = .ok (.ifCond .eq (13), 3) := by decide +kernel
theorem dc_102_8 : decode (sm_cc 102) 8 = .ok (.aload_n 0, 1) := by decide +kernel
theorem dc_102_9 : decode (sm_cc 102) 9 = .ok (.getfield 26, 3) := by decide +kernel
theorem fr_102_26 : sm_at mt_f (sm_ow 102) 26 = some (26, 7, 4, 0, 548) := by decide +kernel
theorem dc_102_12 : decode (sm_cc 102) 12 = .ok (.iload_n 1, 1) := by decide +kernel
theorem dc_102_13 : decode (sm_cc 102) 13 = .ok (.dup2, 1) := by decide +kernel
theorem dc_102_14 : decode (sm_cc 102) 14 = .ok (.iaload, 1) := by decide +kernel
theorem dc_102_15 : decode (sm_cc 102) 15 = .ok (.iconst 1, 1) := by decide +kernel
theorem dc_102_16 : decode (sm_cc 102) 16 = .ok (.iadd, 1) := by decide +kernel
theorem dc_102_17 : decode (sm_cc 102) 17 = .ok (.iastore, 1) := by decide +kernel
theorem dc_102_18 : decode (sm_cc 102) 18 = .ok (.return_, 1) := by decide +kernel
theorem rt_102 : sm_rt 102 = none := by decide +kernel
theorem ml_102 : sm_ml 102 = 2 := by decide +kernel
theorem dc_124_0 : decode (sm_cc 124) 0 = .ok (.aload_n 0, 1) := by decide +kernel
theorem dc_124_1 : decode (sm_cc 124) 1 = .ok (.iload_n 1, 1) := by decide +kernel
theorem dc_124_2 : decode (sm_cc 124) 2 = .ok (.invokevirtual 62, 3) := by decide +kernel
theorem kr_124_62 : sm_at mt_k (sm_ow 124) 62 = some (62, 0, 103, 0, 1241) := by decide +kernel
theorem dc_124_5 : decode (sm_cc 124) 5 = .ok (.ifCond .ne (5), 3) := by decide +kernel
theorem dc_124_10 : decode (sm_cc 124) 10 = .ok (.aload_n 0, 1) := by decide +kernel
theorem dc_124_11 : decode (sm_cc 124) 11 = .ok (.getfield 29, 3) := by decide +kernel
theorem fr_124_29 : sm_at mt_f (sm_ow 124) 29 = some (29, 7, 5, 0, 549) := by decide +kernel
theorem dc_124_14 : decode (sm_cc 124) 14 = .ok (.iload_n 1, 1) := by decide +kernel
theorem dc_124_15 : decode (sm_cc 124) 15 = .ok (.dup2, 1) := by decide +kernel
theorem dc_124_16 : decode (sm_cc 124) 16 = .ok (.iaload, 1) := by decide +kernel
theorem dc_124_17 : decode (sm_cc 124) 17 = .ok (.iconst 1, 1) := by decide +kernel
theorem dc_124_18 : decode (sm_cc 124) 18 = .ok (.iadd, 1) := by decide +kernel
theorem dc_124_19 : decode (sm_cc 124) 19 = .ok (.iastore, 1) := by decide +kernel
theorem dc_124_20 : decode (sm_cc 124) 20 = .ok (.aload_n 0, 1) := by decide +kernel
theorem dc_124_21 : decode (sm_cc 124) 21 = .ok (.getfield 29, 3) := by decide +kernel
theorem dc_124_24 : decode (sm_cc 124) 24 = .ok (.iload_n 1, 1) := by decide +kernel
theorem dc_124_25 : decode (sm_cc 124) 25 = .ok (.iaload, 1) := by decide +kernel
theorem dc_124_26 : decode (sm_cc 124) 26 = .ok (.iconst 1, 1) := by decide +kernel
theorem dc_124_27 : decode (sm_cc 124) 27 = .ok (.isub, 1) := by decide +kernel
theorem dc_124_28 : decode (sm_cc 124) 28 = .ok (.ireturn, 1) := by decide +kernel
theorem rt_124 : sm_rt 124 = some .int := by decide +kernel
theorem ml_124 : sm_ml 124 = 2 := by decide +kernel
theorem dc_118_0 : decode (sm_cc 118) 0 = .ok (.aload_n 0, 1) := by decide +kernel
theorem dc_118_1 : decode (sm_cc 118) 1 = .ok (.iload_n 1, 1) := by decide +kernel
theorem dc_118_2 : decode (sm_cc 118) 2 = .ok (.putfield 35, 3) := by decide +kernel
theorem fr_118_35 : sm_at mt_f (sm_ow 118) 35 = some (35, 7, 7, 0, 551) := by decide +kernel
theorem dc_118_5 : decode (sm_cc 118) 5 = .ok (.aload_n 0, 1) := by decide +kernel
theorem dc_118_6 : decode (sm_cc 118) 6 = .ok (.iload_n 2, 1) := by decide +kernel
theorem dc_118_7 : decode (sm_cc 118) 7 = .ok (.putfield 47, 3) := by decide +kernel
theorem fr_118_47 : sm_at mt_f (sm_ow 118) 47 = some (47, 7, 8, 0, 555) := by decide +kernel
theorem dc_118_10 : decode (sm_cc 118) 10 = .ok (.aload_n 0, 1) := by decide +kernel
theorem dc_118_11 : decode (sm_cc 118) 11 = .ok (.iload_n 3, 1) := by decide +kernel
theorem dc_118_12 : decode (sm_cc 118) 12 = .ok (.putfield 59, 3) := by decide +kernel
theorem fr_118_59 : sm_at mt_f (sm_ow 118) 59 = some (59, 7, 9, 0, 557) := by decide +kernel
theorem dc_118_15 : decode (sm_cc 118) 15 = .ok (.return_, 1) := by decide +kernel
theorem rt_118 : sm_rt 118 = none := by decide +kernel
theorem ml_118 : sm_ml 118 = 4 := by decide +kernel
theorem dc_170_0 : decode (sm_cc 170) 0 = .ok (.iload_n 1, 1) := by decide +kernel
theorem dc_170_1 : decode (sm_cc 170) 1 = .ok (.ifCond .lt (14), 3) := by decide +kernel
theorem dc_170_4 : decode (sm_cc 170) 4 = .ok (.iload_n 1, 1) := by decide +kernel
theorem dc_170_5 : decode (sm_cc 170) 5 = .ok (.sipush (4096), 3) := by decide +kernel
theorem dc_170_8 : decode (sm_cc 170) 8 = .ok (.if_icmp .ge (7), 3) := by decide +kernel
theorem dc_170_11 : decode (sm_cc 170) 11 = .ok (.iconst 1, 1) := by decide +kernel
theorem dc_170_12 : decode (sm_cc 170) 12 = .ok (.goto (4), 3) := by decide +kernel
theorem dc_170_16 : decode (sm_cc 170) 16 = .ok (.ireturn, 1) := by decide +kernel
theorem rt_170 : sm_rt 170 = some .boolean := by decide +kernel
theorem ml_170 : sm_ml 170 = 2 := by decide +kernel
theorem dc_169_0 : decode (sm_cc 169) 0 = .ok (.aload_n 0, 1) := by decide +kernel
theorem dc_169_1 : decode (sm_cc 169) 1 = .ok (.iload_n 1, 1) := by decide +kernel
theorem dc_169_2 : decode (sm_cc 169) 2 = .ok (.invokevirtual 81, 3) := by decide +kernel
theorem ow_170 : 5 = sm_ow 170 := by decide +kernel
theorem kr_169_81 : sm_at mt_k (sm_ow 169) 81 = some (81, 0, 170, 0, 1525) := by decide +kernel
theorem np_170 : sm_np 170 = 1 := by decide +kernel
theorem dc_169_5 : decode (sm_cc 169) 5 = .ok (.ifCond .eq (12), 3) := by decide +kernel
theorem dc_169_8 : decode (sm_cc 169) 8 = .ok (.aload_n 0, 1) := by decide +kernel
theorem dc_169_9 : decode (sm_cc 169) 9 = .ok (.getfield 29, 3) := by decide +kernel
theorem fr_169_29 : sm_at mt_f (sm_ow 169) 29 = some (29, 5, 5, 0, 513) := by decide +kernel
theorem dc_169_12 : decode (sm_cc 169) 12 = .ok (.iload_n 1, 1) := by decide +kernel
theorem dc_169_13 : decode (sm_cc 169) 13 = .ok (.laload, 1) := by decide +kernel
theorem dc_169_14 : decode (sm_cc 169) 14 = .ok (.goto (4), 3) := by decide +kernel
theorem dc_169_18 : decode (sm_cc 169) 18 = .ok (.lreturn, 1) := by decide +kernel
theorem rt_169 : sm_rt 169 = some .long := by decide +kernel
theorem ml_169 : sm_ml 169 = 2 := by decide +kernel
theorem dc_171_0 : decode (sm_cc 171) 0 = .ok (.aload_n 0, 1) := by decide +kernel
theorem dc_171_1 : decode (sm_cc 171) 1 = .ok (.iload_n 1, 1) := by decide +kernel
theorem dc_171_2 : decode (sm_cc 171) 2 = .ok (.invokevirtual 81, 3) := by decide +kernel
theorem kr_171_81 : sm_at mt_k (sm_ow 171) 81 = some (81, 0, 170, 0, 1525) := by decide +kernel
theorem dc_171_5 : decode (sm_cc 171) 5 = .ok (.ifCond .eq (12), 3) := by decide +kernel
theorem dc_171_8 : decode (sm_cc 171) 8 = .ok (.aload_n 0, 1) := by decide +kernel
theorem dc_171_9 : decode (sm_cc 171) 9 = .ok (.getfield 32, 3) := by decide +kernel
theorem fr_171_32 : sm_at mt_f (sm_ow 171) 32 = some (32, 5, 6, 0, 514) := by decide +kernel
theorem dc_171_12 : decode (sm_cc 171) 12 = .ok (.iload_n 1, 1) := by decide +kernel
theorem dc_171_13 : decode (sm_cc 171) 13 = .ok (.laload, 1) := by decide +kernel
theorem dc_171_14 : decode (sm_cc 171) 14 = .ok (.goto (4), 3) := by decide +kernel
theorem dc_171_18 : decode (sm_cc 171) 18 = .ok (.lreturn, 1) := by decide +kernel
theorem rt_171 : sm_rt 171 = some .long := by decide +kernel
theorem ml_171 : sm_ml 171 = 2 := by decide +kernel
theorem dc_181_0 : decode (sm_cc 181) 0 = .ok (.aload_n 0, 1) := by decide +kernel
theorem dc_181_1 : decode (sm_cc 181) 1 = .ok (.iload_n 1, 1) := by decide +kernel
theorem dc_181_2 : decode (sm_cc 181) 2 = .ok (.invokevirtual 81, 3) := by decide +kernel
theorem kr_181_81 : sm_at mt_k (sm_ow 181) 81 = some (81, 0, 170, 0, 1525) := by decide +kernel
theorem dc_181_5 : decode (sm_cc 181) 5 = .ok (.ifCond .eq (12), 3) := by decide +kernel
theorem dc_181_8 : decode (sm_cc 181) 8 = .ok (.aload_n 0, 1) := by decide +kernel
theorem dc_181_9 : decode (sm_cc 181) 9 = .ok (.getfield 15, 3) := by decide +kernel
theorem fr_181_15 : sm_at mt_f (sm_ow 181) 15 = some (15, 5, 1, 0, 509) := by decide +kernel
theorem dc_181_12 : decode (sm_cc 181) 12 = .ok (.iload_n 1, 1) := by decide +kernel
theorem dc_181_13 : decode (sm_cc 181) 13 = .ok (.laload, 1) := by decide +kernel
theorem dc_181_14 : decode (sm_cc 181) 14 = .ok (.goto (6), 3) := by decide +kernel
theorem dc_181_20 : decode (sm_cc 181) 20 = .ok (.lreturn, 1) := by decide +kernel
theorem rt_181 : sm_rt 181 = some .long := by decide +kernel
theorem ml_181 : sm_ml 181 = 2 := by decide +kernel
theorem dc_182_0 : decode (sm_cc 182) 0 = .ok (.aload_n 0, 1) := by decide +kernel
theorem dc_182_1 : decode (sm_cc 182) 1 = .ok (.iload_n 1, 1) := by decide +kernel
theorem dc_182_2 : decode (sm_cc 182) 2 = .ok (.invokevirtual 81, 3) := by decide +kernel
theorem kr_182_81 : sm_at mt_k (sm_ow 182) 81 = some (81, 0, 170, 0, 1525) := by decide +kernel
theorem dc_182_5 : decode (sm_cc 182) 5 = .ok (.ifCond .eq (12), 3) := by decide +kernel
theorem dc_182_8 : decode (sm_cc 182) 8 = .ok (.aload_n 0, 1) := by decide +kernel
theorem dc_182_9 : decode (sm_cc 182) 9 = .ok (.getfield 19, 3) := by decide +kernel
theorem fr_182_19 : sm_at mt_f (sm_ow 182) 19 = some (19, 5, 2, 0, 510) := by decide +kernel
theorem dc_182_12 : decode (sm_cc 182) 12 = .ok (.iload_n 1, 1) := by decide +kernel
theorem dc_182_13 : decode (sm_cc 182) 13 = .ok (.laload, 1) := by decide +kernel
theorem dc_182_14 : decode (sm_cc 182) 14 = .ok (.goto (4), 3) := by decide +kernel
theorem dc_182_18 : decode (sm_cc 182) 18 = .ok (.lreturn, 1) := by decide +kernel
theorem rt_182 : sm_rt 182 = some .long := by decide +kernel
theorem ml_182 : sm_ml 182 = 2 := by decide +kernel
theorem dc_275_0 : decode (sm_cc 275) 0 = .ok (.aload_n 0, 1) := by decide +kernel
theorem dc_275_1 : decode (sm_cc 275) 1 = .ok (.getfield 85, 3) := by decide +kernel
theorem fr_275_85 : sm_at mt_f (sm_ow 275) 85 = some (85, 5, 8, 0, 516) := by decide +kernel
theorem dc_275_4 : decode (sm_cc 275) 4 = .ok (.ireturn, 1) := by decide +kernel
theorem rt_275 : sm_rt 275 = some .int := by decide +kernel
theorem ml_275 : sm_ml 275 = 1 := by decide +kernel
theorem dc_70_0 : decode (sm_cc 70) 0 = .ok (.iload_n 0, 1) := by decide +kernel
theorem dc_70_1 : decode (sm_cc 70) 1 = .ok (.bipush (24), 2) := by decide +kernel
theorem dc_70_3 : decode (sm_cc 70) 3 = .ok (.if_icmp .lt (18), 3) := by decide +kernel
theorem dc_70_6 : decode (sm_cc 70) 6 = .ok (.iload_n 0, 1) := by decide +kernel
theorem dc_70_7 : decode (sm_cc 70) 7 = .ok (.bipush (34), 2) := by decide +kernel
theorem dc_70_9 : decode (sm_cc 70) 9 = .ok (.if_icmp .ge (12), 3) := by decide +kernel
theorem dc_70_12 : decode (sm_cc 70) 12 = .ok (.iload_n 0, 1) := by decide +kernel
theorem dc_70_13 : decode (sm_cc 70) 13 = .ok (.bipush (24), 2) := by decide +kernel
theorem dc_70_15 : decode (sm_cc 70) 15 = .ok (.isub, 1) := by decide +kernel
theorem dc_70_16 : decode (sm_cc 70) 16 = .ok (.iconst 1, 1) := by decide +kernel
theorem dc_70_17 : decode (sm_cc 70) 17 = .ok (.iadd, 1) := by decide +kernel
theorem dc_70_18 : decode (sm_cc 70) 18 = .ok (.goto (4), 3) := by decide +kernel
theorem dc_70_22 : decode (sm_cc 70) 22 = .ok (.ireturn, 1) := by decide +kernel
theorem rt_70 : sm_rt 70 = some .int := by decide +kernel
theorem ml_70 : sm_ml 70 = 1 := by decide +kernel
theorem dc_70_21 : decode (sm_cc 70) 21 = .ok (.iconst 0, 1) := by decide +kernel
theorem dc_38_0 : decode (sm_cc 38) 0 = .ok (.iload_n 1, 1) := by decide +kernel
theorem dc_38_1 : decode (sm_cc 38) 1 = .ok (.ifCond .lt (33), 3) := by decide +kernel
theorem dc_38_4 : decode (sm_cc 38) 4 = .ok (.iload_n 1, 1) := by decide +kernel
theorem dc_38_5 : decode (sm_cc 38) 5 = .ok (.aload_n 0, 1) := by decide +kernel
theorem dc_38_6 : decode (sm_cc 38) 6 = .ok (.getfield 19, 3) := by decide +kernel
theorem fr_38_19 : sm_at mt_f (sm_ow 38) 19 = some (19, 3, 2, 0, 592) := by decide +kernel
theorem dc_38_9 : decode (sm_cc 38) 9 = .ok (.if_icmp .ge (25), 3) := by decide +kernel
theorem dc_38_12 : decode (sm_cc 38) 12 = .ok (.iload_n 1, 1) := by decide +kernel
theorem dc_38_13 : decode (sm_cc 38) 13 = .ok (.aload_n 0, 1) := by decide +kernel
theorem dc_38_14 : decode (sm_cc 38) 14 = .ok (.getfield 9, 3) := by decide +kernel
theorem fr_38_9 : sm_at mt_f (sm_ow 38) 9 = some (9, 3, 0, 0, 590) := by decide +kernel
theorem dc_38_17 : decode (sm_cc 38) 17 = .ok (.arraylength, 1) := by decide +kernel
theorem dc_38_18 : decode (sm_cc 38) 18 = .ok (.if_icmp .ge (16), 3) := by decide +kernel
theorem dc_38_21 : decode (sm_cc 38) 21 = .ok (.aload_n 0, 1) := by decide +kernel
theorem dc_38_22 : decode (sm_cc 38) 22 = .ok (.getfield 9, 3) := by decide +kernel
theorem dc_38_25 : decode (sm_cc 38) 25 = .ok (.iload_n 1, 1) := by decide +kernel
theorem dc_38_26 : decode (sm_cc 38) 26 = .ok (.baload, 1) := by decide +kernel
theorem dc_38_27 : decode (sm_cc 38) 27 = .ok (.sipush (255), 3) := by decide +kernel
theorem dc_38_30 : decode (sm_cc 38) 30 = .ok (.iand, 1) := by decide +kernel
theorem dc_38_31 : decode (sm_cc 38) 31 = .ok (.goto (4), 3) := by decide +kernel
theorem dc_38_35 : decode (sm_cc 38) 35 = .ok (.ireturn, 1) := by decide +kernel
theorem rt_38 : sm_rt 38 = some .int := by decide +kernel
theorem ml_38 : sm_ml 38 = 2 := by decide +kernel
theorem dc_38_34 : decode (sm_cc 38) 34 = .ok (.iconst (-1), 1) := by decide +kernel
theorem dc_271_0 : decode (sm_cc 271) 0 = .ok (.aload_n 0, 1) := by decide +kernel
theorem dc_271_1 : decode (sm_cc 271) 1 = .ok (.getfield 34, 3) := by decide +kernel
theorem fr_271_34 : sm_at mt_f (sm_ow 271) 34 = some (34, 0, 6, 0, 795) := by decide +kernel
theorem dc_271_4 : decode (sm_cc 271) 4 = .ok (.ireturn, 1) := by decide +kernel
theorem rt_271 : sm_rt 271 = some .int := by decide +kernel
theorem ml_271 : sm_ml 271 = 1 := by decide +kernel
theorem dc_31_0 : decode (sm_cc 31) 0 = .ok (.aload_n 0, 1) := by decide +kernel
theorem dc_31_1 : decode (sm_cc 31) 1 = .ok (.iconst 0, 1) := by decide +kernel
theorem dc_31_2 : decode (sm_cc 31) 2 = .ok (.putfield 34, 3) := by decide +kernel
theorem fr_31_34 : sm_at mt_f (sm_ow 31) 34 = some (34, 0, 6, 0, 795) := by decide +kernel
theorem dc_31_5 : decode (sm_cc 31) 5 = .ok (.return_, 1) := by decide +kernel
theorem rt_31 : sm_rt 31 = none := by decide +kernel
theorem ml_31 : sm_ml 31 = 1 := by decide +kernel
theorem dc_276_0 : decode (sm_cc 276) 0 = .ok (.aload_n 0, 1) := by decide +kernel
theorem dc_276_1 : decode (sm_cc 276) 1 = .ok (.getfield 62, 3) := by decide +kernel
theorem fr_276_62 : sm_at mt_f (sm_ow 276) 62 = some (62, 4, 18, 0, 854) := by decide +kernel
theorem dc_276_4 : decode (sm_cc 276) 4 = .ok (.ireturn, 1) := by decide +kernel
theorem rt_276 : sm_rt 276 = some .int := by decide +kernel
theorem ml_276 : sm_ml 276 = 1 := by decide +kernel
theorem dc_32_0 : decode (sm_cc 32) 0 = .ok (.aload_n 0, 1) := by decide +kernel
theorem dc_32_1 : decode (sm_cc 32) 1 = .ok (.iconst 0, 1) := by decide +kernel
theorem dc_32_2 : decode (sm_cc 32) 2 = .ok (.putfield 62, 3) := by decide +kernel
theorem fr_32_62 : sm_at mt_f (sm_ow 32) 62 = some (62, 4, 18, 0, 854) := by decide +kernel
theorem dc_32_5 : decode (sm_cc 32) 5 = .ok (.return_, 1) := by decide +kernel
theorem rt_32 : sm_rt 32 = none := by decide +kernel
theorem ml_32 : sm_ml 32 = 1 := by decide +kernel
theorem dc_268_0 : decode (sm_cc 268) 0 = .ok (.aload_n 0, 1) := by decide +kernel
theorem dc_268_1 : decode (sm_cc 268) 1 = .ok (.getfield 66, 3) := by decide +kernel
theorem fr_268_66 : sm_at mt_f (sm_ow 268) 66 = some (66, 4, 17, 0, 853) := by decide +kernel
theorem dc_268_4 : decode (sm_cc 268) 4 = .ok (.ireturn, 1) := by decide +kernel
theorem rt_268 : sm_rt 268 = some .int := by decide +kernel
theorem ml_268 : sm_ml 268 = 1 := by decide +kernel
theorem kc_0 : Int32.ofInt 0 = nI 0 := by decide
theorem kc_1 : Int32.ofInt 1 = nI 1 := by decide
theorem kc_2 : Int32.ofInt 2 = nI 2 := by decide
theorem kc_3 : Int32.ofInt 3 = nI 3 := by decide
theorem kc_4 : Int32.ofInt 4 = nI 4 := by decide
theorem kc_5 : Int32.ofInt 5 = nI 5 := by decide
theorem k_eq {x y : Int32} (a b : Nat) (ex : x = nI a) (ey : y = nI b) (h : a = b) : x = y := by rw [ex, ey, h]
theorem k_eq0 {x : Int32} (a b : Nat) (ex : x = nI a) (ey : (0 : Int32) = nI b) (h : a = b) : x = 0 := by rw [ex, ey, h]
theorem k_ne {x y : Int32} (a b : Nat) (ex : x = nI a) (ey : y = nI b) (h : a ≠ b) (ha : a < 2 ^ 31) (hb : b < 2 ^ 31) : x ≠ y := by
  rw [ex, ey]
  exact fun e => h ((nI_eq ha hb).mp e)
theorem has_T {d : Nat} {S : cS} {t : Nat} {b : Nat} (ht : sI S 4603 = nI t) (hb : b < t) (hM : t ≤ 20480) : Ans (d + 1) 133 [.ref 46, .int (nI b)] S (some (.int 1)) (S) := by
  refine Ans.of (by rw [ml_133]; exact Nat.le_of_ble_eq_true rfl) ?_
  refine Bod.go dc_133_0 rfl ?_
  refine Bod.ifF dc_133_1 rfl (k1_lt_F b rfl (by omega)) ?_
  refine Bod.go dc_133_4 rfl ?_
  refine Bod.go dc_133_5 rfl ?_
  refine Bod.get dc_133_6 fr_133_22 (mk_46 _) rfl ?_
  refine Bod.eqI (nI t) (by first | assumption | rfl | exact congrArg nI (by omega) | (simp (disch := omega) only [rI, rIe, rA, rIA, rLA, rJA, rVI, rQI, rVA, rQA, upd_at,  rAI, rLI, rJI, nI_add, pk_sub, kc_0, kc_1, kc_2, kc_3, kc_4, kc_5, reduceIte, Nat.reduceEqDiff, Nat.add_zero, ht]; done)) ?_
  refine Bod.icF dc_133_9 rfl (k2_ge_F b t rfl rfl (by omega) (by omega)) ?_
  refine Bod.go dc_133_12 rfl ?_
  refine Bod.get dc_133_13 fr_133_22 (mk_46 _) rfl ?_
  refine Bod.eqI (nI t) (by first | assumption | rfl | exact congrArg nI (by omega) | (simp (disch := omega) only [rI, rIe, rA, rIA, rLA, rJA, rVI, rQI, rVA, rQA, upd_at,  rAI, rLI, rJI, nI_add, pk_sub, kc_0, kc_1, kc_2, kc_3, kc_4, kc_5, reduceIte, Nat.reduceEqDiff, Nat.add_zero, ht]; done)) ?_
  refine Bod.sip 20480 (by decide) dc_133_16 ?_
  refine Bod.icF dc_133_19 rfl (k2_gt_F t 20480 rfl rfl (by omega) (by omega)) ?_
  refine Bod.ic 1 (by decide) dc_133_22 ?_
  refine Bod.go dc_133_23 rfl ?_
  exact Bod.retZ dc_133_27 rt_133 (Or.inr rfl)
theorem has_F {d : Nat} {S : cS} {t : Nat} {b : Nat} (ht : sI S 4603 = nI t) (hb : t ≤ b) (hM : b < 2 ^ 31) : Ans (d + 1) 133 [.ref 46, .int (nI b)] S (some (.int 0)) (S) := by
  refine Ans.of (by rw [ml_133]; exact Nat.le_of_ble_eq_true rfl) ?_
  refine Bod.go dc_133_0 rfl ?_
  refine Bod.ifF dc_133_1 rfl (k1_lt_F b rfl (by omega)) ?_
  refine Bod.go dc_133_4 rfl ?_
  refine Bod.go dc_133_5 rfl ?_
  refine Bod.get dc_133_6 fr_133_22 (mk_46 _) rfl ?_
  refine Bod.eqI (nI t) (by first | assumption | rfl | exact congrArg nI (by omega) | (simp (disch := omega) only [rI, rIe, rA, rIA, rLA, rJA, rVI, rQI, rVA, rQA, upd_at,  rAI, rLI, rJI, nI_add, pk_sub, kc_0, kc_1, kc_2, kc_3, kc_4, kc_5, reduceIte, Nat.reduceEqDiff, Nat.add_zero, ht]; done)) ?_
  refine Bod.icT dc_133_9 rfl (k2_ge_T b t rfl rfl (by omega) (by omega)) ?_
  refine Bod.ic 0 (by decide) dc_133_26 ?_
  exact Bod.retZ dc_133_27 rt_133 (Or.inl rfl)
theorem hi_ev {d : Nat} {S : cS} {t : Nat} {b : Nat} (ht : sI S 4603 = nI t) (hb : b < t) (hM : t ≤ 20480) : Ans (d + 2) 132 [.ref 46, .int (nI b)] S (some (.long (sL S 47 (t - 1 - b)))) (S) := by
  refine Ans.of (by rw [ml_132]; exact Nat.le_of_ble_eq_true rfl) ?_
  refine Bod.go dc_132_0 rfl ?_
  refine Bod.go dc_132_1 rfl ?_
  refine Bod.virt (r := []) dc_132_2 kr_132_26 ⟨Or.inl rfl, ow_133, cl_9⟩ (by rw [np_133]; rfl) (by rw [np_133]; rfl) (ob_of (mk_46 _)) (Nat.le_of_ble_eq_true rfl) (has_T (t := t) (b := b) (by first | assumption | rfl | exact congrArg nI (by omega) | (simp (disch := omega) only [rI, rIe, rA, rIA, rLA, rJA, rVI, rQI, rVA, rQA, upd_at,  rAI, rLI, rJI, nI_add, pk_sub, kc_0, kc_1, kc_2, kc_3, kc_4, kc_5, reduceIte, Nat.reduceEqDiff, Nat.add_zero, ht]; done)) (by omega) (by omega)) ?_
  show Bod _ _ _ _ [_] _ _ _
  refine Bod.ifF dc_132_5 rfl (k1_eq_F (k_ne 1 0 rfl rfl (by omega) (by omega) (by omega))) ?_
  refine Bod.go dc_132_8 rfl ?_
  refine Bod.get dc_132_9 fr_132_15 (mk_46 _) rfl ?_
  refine Bod.go dc_132_12 rfl ?_
  refine Bod.get dc_132_13 fr_132_22 (mk_46 _) rfl ?_
  refine Bod.eqI (nI t) (by first | assumption | rfl | exact congrArg nI (by omega) | (simp (disch := omega) only [rI, rIe, rA, rIA, rLA, rJA, rVI, rQI, rVA, rQA, upd_at,  rAI, rLI, rJI, nI_add, pk_sub, kc_0, kc_1, kc_2, kc_3, kc_4, kc_5, reduceIte, Nat.reduceEqDiff, Nat.add_zero, ht]; done)) ?_
  refine Bod.ic 1 (by decide) dc_132_16 ?_
  refine Bod.subN (t - 1) (by omega) (by omega) dc_132_17 ?_
  refine Bod.go dc_132_18 rfl ?_
  refine Bod.subN (t - 1 - b) (by omega) (by omega) dc_132_19 ?_
  refine Bod.laldN (t - 1 - b) rfl (by omega) (by omega) dc_132_20 (mk_47 _) ?_
  refine Bod.go dc_132_21 rfl ?_
  exact Bod.retJ dc_132_25 rt_132
theorem lo_ev {d : Nat} {S : cS} {t : Nat} {b : Nat} (ht : sI S 4603 = nI t) (hb : b < t) (hM : t ≤ 20480) : Ans (d + 2) 135 [.ref 46, .int (nI b)] S (some (.long (sL S 48 (t - 1 - b)))) (S) := by
  refine Ans.of (by rw [ml_135]; exact Nat.le_of_ble_eq_true rfl) ?_
  refine Bod.go dc_135_0 rfl ?_
  refine Bod.go dc_135_1 rfl ?_
  refine Bod.virt (r := []) dc_135_2 kr_135_26 ⟨Or.inl rfl, ow_133, cl_9⟩ (by rw [np_133]; rfl) (by rw [np_133]; rfl) (ob_of (mk_46 _)) (Nat.le_of_ble_eq_true rfl) (has_T (t := t) (b := b) (by first | assumption | rfl | exact congrArg nI (by omega) | (simp (disch := omega) only [rI, rIe, rA, rIA, rLA, rJA, rVI, rQI, rVA, rQA, upd_at,  rAI, rLI, rJI, nI_add, pk_sub, kc_0, kc_1, kc_2, kc_3, kc_4, kc_5, reduceIte, Nat.reduceEqDiff, Nat.add_zero, ht]; done)) (by omega) (by omega)) ?_
  show Bod _ _ _ _ [_] _ _ _
  refine Bod.ifF dc_135_5 rfl (k1_eq_F (k_ne 1 0 rfl rfl (by omega) (by omega) (by omega))) ?_
  refine Bod.go dc_135_8 rfl ?_
  refine Bod.get dc_135_9 fr_135_19 (mk_46 _) rfl ?_
  refine Bod.go dc_135_12 rfl ?_
  refine Bod.get dc_135_13 fr_135_22 (mk_46 _) rfl ?_
  refine Bod.eqI (nI t) (by first | assumption | rfl | exact congrArg nI (by omega) | (simp (disch := omega) only [rI, rIe, rA, rIA, rLA, rJA, rVI, rQI, rVA, rQA, upd_at,  rAI, rLI, rJI, nI_add, pk_sub, kc_0, kc_1, kc_2, kc_3, kc_4, kc_5, reduceIte, Nat.reduceEqDiff, Nat.add_zero, ht]; done)) ?_
  refine Bod.ic 1 (by decide) dc_135_16 ?_
  refine Bod.subN (t - 1) (by omega) (by omega) dc_135_17 ?_
  refine Bod.go dc_135_18 rfl ?_
  refine Bod.subN (t - 1 - b) (by omega) (by omega) dc_135_19 ?_
  refine Bod.laldN (t - 1 - b) rfl (by omega) (by omega) dc_135_20 (mk_48 _) ?_
  refine Bod.go dc_135_21 rfl ?_
  exact Bod.retJ dc_135_25 rt_135
/-- a value's kind; the object that it is, 0 if it is none -/
def c_kd (hi : Int64) : Int64 := (hi.toUInt64 >>> ((Int8.ofInt 60).toInt32.toInt64.toUInt64 &&& Int64.toUInt64 63)).toInt64
def c_kind (hi : Int64) : Int32 := (c_kd hi).toInt32
def c_obj (hi lo : Int64) : Int32 := if c_kd hi = 4 then lo.toInt32 else 0
theorem cmp_eq {a b : Int64} (h : a = b) : lg_cmp a b = 0 := by
  unfold lg_cmp
  rw [if_neg (fun h2 => by rw [h] at h2; have := Int64.lt_iff_toInt_lt.mp h2; omega), if_pos h]
theorem cmp_ne {a b : Int64} (h : a ≠ b) : lg_cmp a b ≠ 0 := by
  unfold lg_cmp
  by_cases h1 : a > b
  · rw [if_pos h1]
    decide
  · rw [if_neg h1, if_neg h]
    decide
theorem kindOf_ev0 {d : Nat} {S : cS} {hi : Int64}  : Ans (d + 1) 134 [.long hi] S (some (.int (((hi.toUInt64 >>> ((nI 60).toInt64.toUInt64 &&& Int64.toUInt64 63)).toInt64).toInt32))) (S) := by
  refine Ans.of (by rw [ml_134]; exact Nat.le_of_ble_eq_true rfl) ?_
  refine Bod.go dc_134_0 rfl ?_
  refine Bod.bip 60 (by decide) dc_134_1 ?_
  refine Bod.go dc_134_3 rfl ?_
  refine Bod.go dc_134_4 rfl ?_
  exact Bod.retI dc_134_5 rt_134
theorem kindOf_ev {d : Nat} {S : cS} {hi : Int64} : Ans (d + 1) 134 [.long hi] S (some (.int (c_kind hi))) S := kindOf_ev0
theorem objectOf_T {d : Nat} {S : cS} {hi : Int64} {lo : Int64} (h : c_kd hi = 4) : Ans (d + 1) 137 [.long hi, .long lo] S (some (.int lo.toInt32)) (S) := by
  refine Ans.of (by rw [ml_137]; exact Nat.le_of_ble_eq_true rfl) ?_
  refine Bod.go dc_137_0 rfl ?_
  refine Bod.bip 60 (by decide) dc_137_1 ?_
  refine Bod.go dc_137_3 rfl ?_
  refine Bod.ldc2 dc_137_4 cj_137_168 ?_
  refine Bod.go dc_137_7 rfl ?_
  refine Bod.ifF dc_137_8 rfl (k1_ne_F (cmp_eq h)) ?_
  refine Bod.go dc_137_11 rfl ?_
  refine Bod.go dc_137_12 rfl ?_
  refine Bod.go dc_137_13 rfl ?_
  exact Bod.retI dc_137_17 rt_137
theorem objectOf_F {d : Nat} {S : cS} {hi : Int64} {lo : Int64} (h : c_kd hi ≠ 4) : Ans (d + 1) 137 [.long hi, .long lo] S (some (.int (nI 0))) (S) := by
  refine Ans.of (by rw [ml_137]; exact Nat.le_of_ble_eq_true rfl) ?_
  refine Bod.go dc_137_0 rfl ?_
  refine Bod.bip 60 (by decide) dc_137_1 ?_
  refine Bod.go dc_137_3 rfl ?_
  refine Bod.ldc2 dc_137_4 cj_137_168 ?_
  refine Bod.go dc_137_7 rfl ?_
  refine Bod.ifT dc_137_8 rfl (k1_ne_T (cmp_ne h)) ?_
  refine Bod.ic 0 (by decide) dc_137_16 ?_
  exact Bod.retI dc_137_17 rt_137
theorem objectOf_ev {d : Nat} {S : cS} {hi lo : Int64} : Ans (d + 1) 137 [.long hi, .long lo] S (some (.int (c_obj hi lo))) S := by
  unfold c_obj
  split
  · rename_i h
    exact objectOf_T h
  · rename_i h
    exact objectOf_F h
/-- the same, where the object's number is told -/
theorem objectOf_n {d : Nat} {S : cS} {hi lo : Int64} {o : Nat} (h : c_obj hi lo = nI o) : Ans (d + 1) 137 [.long hi, .long lo] S (some (.int (nI o))) S := by
  rw [← h]
  exact objectOf_ev
theorem object_ev {d : Nat} {S : cS} {t : Nat} {b : Nat} (ht : sI S 4603 = nI t) (hb : b < t) (hM : t ≤ 20480) : Ans (d + 3) 136 [.ref 46, .int (nI b)] S (some (.int (c_obj (sL S 47 (t - 1 - b)) (sL S 48 (t - 1 - b))))) (S) := by
  refine Ans.of (by rw [ml_136]; exact Nat.le_of_ble_eq_true rfl) ?_
  refine Bod.go dc_136_0 rfl ?_
  refine Bod.go dc_136_1 rfl ?_
  refine Bod.virt (r := []) dc_136_2 kr_136_30 ⟨Or.inl rfl, ow_132, cl_9⟩ (by rw [np_132]; rfl) (by rw [np_132]; rfl) (ob_of (mk_46 _)) (Nat.le_of_ble_eq_true rfl) (hi_ev (t := t) (b := b) (by first | assumption | rfl | exact congrArg nI (by omega) | (simp (disch := omega) only [rI, rIe, rA, rIA, rLA, rJA, rVI, rQI, rVA, rQA, upd_at,  rAI, rLI, rJI, nI_add, pk_sub, kc_0, kc_1, kc_2, kc_3, kc_4, kc_5, reduceIte, Nat.reduceEqDiff, Nat.add_zero, ht]; done)) (by omega) (by omega)) ?_
  show Bod _ _ _ _ [_] _ _ _
  refine Bod.go dc_136_5 rfl ?_
  refine Bod.go dc_136_6 rfl ?_
  refine Bod.virt (r := [_]) dc_136_7 kr_136_34 ⟨Or.inl rfl, ow_135, cl_9⟩ (by rw [np_135]; rfl) (by rw [np_135]; rfl) (ob_of (mk_46 _)) (Nat.le_of_ble_eq_true rfl) (lo_ev (t := t) (b := b) (by first | assumption | rfl | exact congrArg nI (by omega) | (simp (disch := omega) only [rI, rIe, rA, rIA, rLA, rJA, rVI, rQI, rVA, rQA, upd_at,  rAI, rLI, rJI, nI_add, pk_sub, kc_0, kc_1, kc_2, kc_3, kc_4, kc_5, reduceIte, Nat.reduceEqDiff, Nat.add_zero, ht]; done)) (by omega) (by omega)) ?_
  show Bod _ _ _ _ [_, _] _ _ _
  refine Bod.stat (r := []) dc_136_10 kr_136_37 (Or.inr rfl) (by rw [np_137]; rfl) (by rw [np_137]; rfl) (by rw [np_137]; exact Nat.le_of_ble_eq_true rfl) (Nat.le_of_ble_eq_true rfl) (objectOf_ev (hi := sL S 47 (t - 1 - b)) (lo := sL S 48 (t - 1 - b)) ) ?_
  show Bod _ _ _ _ [_] _ _ _
  exact Bod.retI dc_136_13 rt_136
theorem object_n {d : Nat} {S : cS} {t : Nat} {b : Nat} {o : Nat} (ht : sI S 4603 = nI t) (hb : b < t) (hM : t ≤ 20480) (ho : c_obj (sL S 47 (t - 1 - b)) (sL S 48 (t - 1 - b)) = nI o) : Ans (d + 3) 136 [.ref 46, .int (nI b)] S (some (.int (nI o))) (S) := by
  refine Ans.of (by rw [ml_136]; exact Nat.le_of_ble_eq_true rfl) ?_
  refine Bod.go dc_136_0 rfl ?_
  refine Bod.go dc_136_1 rfl ?_
  refine Bod.virt (r := []) dc_136_2 kr_136_30 ⟨Or.inl rfl, ow_132, cl_9⟩ (by rw [np_132]; rfl) (by rw [np_132]; rfl) (ob_of (mk_46 _)) (Nat.le_of_ble_eq_true rfl) (hi_ev (t := t) (b := b) (by first | assumption | rfl | exact congrArg nI (by omega) | (simp (disch := omega) only [rI, rIe, rA, rIA, rLA, rJA, rVI, rQI, rVA, rQA, upd_at,  rAI, rLI, rJI, nI_add, pk_sub, kc_0, kc_1, kc_2, kc_3, kc_4, kc_5, reduceIte, Nat.reduceEqDiff, Nat.add_zero, ht]; done)) (by omega) (by omega)) ?_
  show Bod _ _ _ _ [_] _ _ _
  refine Bod.go dc_136_5 rfl ?_
  refine Bod.go dc_136_6 rfl ?_
  refine Bod.virt (r := [_]) dc_136_7 kr_136_34 ⟨Or.inl rfl, ow_135, cl_9⟩ (by rw [np_135]; rfl) (by rw [np_135]; rfl) (ob_of (mk_46 _)) (Nat.le_of_ble_eq_true rfl) (lo_ev (t := t) (b := b) (by first | assumption | rfl | exact congrArg nI (by omega) | (simp (disch := omega) only [rI, rIe, rA, rIA, rLA, rJA, rVI, rQI, rVA, rQA, upd_at,  rAI, rLI, rJI, nI_add, pk_sub, kc_0, kc_1, kc_2, kc_3, kc_4, kc_5, reduceIte, Nat.reduceEqDiff, Nat.add_zero, ht]; done)) (by omega) (by omega)) ?_
  show Bod _ _ _ _ [_, _] _ _ _
  refine Bod.stat (r := []) dc_136_10 kr_136_37 (Or.inr rfl) (by rw [np_137]; rfl) (by rw [np_137]; rfl) (by rw [np_137]; exact Nat.le_of_ble_eq_true rfl) (Nat.le_of_ble_eq_true rfl) (objectOf_n (o := o) ho) ?_
  show Bod _ _ _ _ [_] _ _ _
  exact Bod.retI dc_136_13 rt_136
theorem setLo_ev {d : Nat} {S : cS} {t : Nat} {b : Nat} {x : Int64} (ht : sI S 4603 = nI t) (hb : b < t) (hM : t ≤ 20480) : Ans (d + 2) 155 [.ref 46, .int (nI b), .long x] S (none) (wL 48 (t - 1 - b) x S) := by
  refine Ans.of (by rw [ml_155]; exact Nat.le_of_ble_eq_true rfl) ?_
  refine Bod.go dc_155_0 rfl ?_
  refine Bod.go dc_155_1 rfl ?_
  refine Bod.virt (r := []) dc_155_2 kr_155_26 ⟨Or.inl rfl, ow_133, cl_9⟩ (by rw [np_133]; rfl) (by rw [np_133]; rfl) (ob_of (mk_46 _)) (Nat.le_of_ble_eq_true rfl) (has_T (t := t) (b := b) (by first | assumption | rfl | exact congrArg nI (by omega) | (simp (disch := omega) only [rI, rIe, rA, rIA, rLA, rJA, rVI, rQI, rVA, rQA, upd_at,  rAI, rLI, rJI, nI_add, pk_sub, kc_0, kc_1, kc_2, kc_3, kc_4, kc_5, reduceIte, Nat.reduceEqDiff, Nat.add_zero, ht]; done)) (by omega) (by omega)) ?_
  show Bod _ _ _ _ [_] _ _ _
  refine Bod.ifF dc_155_5 rfl (k1_eq_F (k_ne 1 0 rfl rfl (by omega) (by omega) (by omega))) ?_
  refine Bod.go dc_155_8 rfl ?_
  refine Bod.get dc_155_9 fr_155_19 (mk_46 _) rfl ?_
  refine Bod.go dc_155_12 rfl ?_
  refine Bod.get dc_155_13 fr_155_22 (mk_46 _) rfl ?_
  refine Bod.eqI (nI t) (by first | assumption | rfl | exact congrArg nI (by omega) | (simp (disch := omega) only [rI, rIe, rA, rIA, rLA, rJA, rVI, rQI, rVA, rQA, upd_at,  rAI, rLI, rJI, nI_add, pk_sub, kc_0, kc_1, kc_2, kc_3, kc_4, kc_5, reduceIte, Nat.reduceEqDiff, Nat.add_zero, ht]; done)) ?_
  refine Bod.ic 1 (by decide) dc_155_16 ?_
  refine Bod.subN (t - 1) (by omega) (by omega) dc_155_17 ?_
  refine Bod.go dc_155_18 rfl ?_
  refine Bod.subN (t - 1 - b) (by omega) (by omega) dc_155_19 ?_
  refine Bod.go dc_155_20 rfl ?_
  refine Bod.lastN (t - 1 - b) rfl (by omega) (by omega) dc_155_21 (mk_48 _) (sa_48 _ _ _) (mu_L _ _ _ _) ?_
  exact Bod.retV dc_155_22 rt_155
theorem isId_T {d : Nat} {S : cS} {k : Nat} (h0 : 1 ≤ k) (hk : k ≤ 1500) : Ans (d + 1) 139 [.int (nI k)] S (some (.int 1)) (S) := by
  refine Ans.of (by rw [ml_139]; exact Nat.le_of_ble_eq_true rfl) ?_
  refine Bod.go dc_139_0 rfl ?_
  refine Bod.ic 1 (by decide) dc_139_1 ?_
  refine Bod.icF dc_139_2 rfl (k2_lt_F k 1 rfl rfl (by omega) (by omega)) ?_
  refine Bod.go dc_139_5 rfl ?_
  refine Bod.sip 1500 (by decide) dc_139_6 ?_
  refine Bod.icF dc_139_9 rfl (k2_gt_F k 1500 rfl rfl (by omega) (by omega)) ?_
  refine Bod.ic 1 (by decide) dc_139_12 ?_
  refine Bod.go dc_139_13 rfl ?_
  exact Bod.retZ dc_139_17 rt_139 (Or.inr rfl)
theorem isId_0 {d : Nat} {S : cS}   : Ans (d + 1) 139 [.int (nI 0)] S (some (.int 0)) (S) := by
  refine Ans.of (by rw [ml_139]; exact Nat.le_of_ble_eq_true rfl) ?_
  refine Bod.go dc_139_0 rfl ?_
  refine Bod.ic 1 (by decide) dc_139_1 ?_
  refine Bod.icT dc_139_2 rfl (k2_lt_T 0 1 rfl rfl (by omega) (by omega)) ?_
  refine Bod.ic 0 (by decide) dc_139_16 ?_
  exact Bod.retZ dc_139_17 rt_139 (Or.inl rfl)
theorem kindAt_T {d : Nat} {S : cS} {k : Nat} (h0 : 1 ≤ k) (hk : k ≤ 1500) : Ans (d + 2) 138 [.ref 2, .int (nI k)] S (some (.int (sA S 3 k))) (S) := by
  refine Ans.of (by rw [ml_138]; exact Nat.le_of_ble_eq_true rfl) ?_
  refine Bod.go dc_138_0 rfl ?_
  refine Bod.stat (r := []) dc_138_1 kr_138_65 (Or.inl rfl) (by rw [np_139]; rfl) (by rw [np_139]; rfl) (by rw [np_139]; exact Nat.le_of_ble_eq_true rfl) (Nat.le_of_ble_eq_true rfl) (isId_T (k := k) (by omega) (by omega)) ?_
  show Bod _ _ _ _ [_] _ _ _
  refine Bod.ifF dc_138_4 rfl (k1_eq_F (k_ne 1 0 rfl rfl (by omega) (by omega) (by omega))) ?_
  refine Bod.go dc_138_7 rfl ?_
  refine Bod.get dc_138_8 fr_138_11 (mk_2 _) rfl ?_
  refine Bod.go dc_138_11 rfl ?_
  refine Bod.ialdN k rfl (by omega) (by omega) dc_138_12 (mk_3 _) ?_
  refine Bod.go dc_138_13 rfl ?_
  exact Bod.retI dc_138_17 rt_138
theorem kindAt_0 {d : Nat} {S : cS}   : Ans (d + 2) 138 [.ref 2, .int (nI 0)] S (some (.int (nI 0))) (S) := by
  refine Ans.of (by rw [ml_138]; exact Nat.le_of_ble_eq_true rfl) ?_
  refine Bod.go dc_138_0 rfl ?_
  refine Bod.stat (r := []) dc_138_1 kr_138_65 (Or.inl rfl) (by rw [np_139]; rfl) (by rw [np_139]; rfl) (by rw [np_139]; exact Nat.le_of_ble_eq_true rfl) (Nat.le_of_ble_eq_true rfl) (isId_0  ) ?_
  show Bod _ _ _ _ [_] _ _ _
  refine Bod.ifT dc_138_4 rfl (k1_eq_T (k_eq 0 0 rfl rfl (by omega))) ?_
  refine Bod.ic 0 (by decide) dc_138_16 ?_
  exact Bod.retI dc_138_17 rt_138
theorem sizeAt_T {d : Nat} {S : cS} {k : Nat} (h0 : 1 ≤ k) (hk : k ≤ 1500) : Ans (d + 2) 140 [.ref 2, .int (nI k)] S (some (.int (sA S 10 k))) (S) := by
  refine Ans.of (by rw [ml_140]; exact Nat.le_of_ble_eq_true rfl) ?_
  refine Bod.go dc_140_0 rfl ?_
  refine Bod.stat (r := []) dc_140_1 kr_140_65 (Or.inl rfl) (by rw [np_139]; rfl) (by rw [np_139]; rfl) (by rw [np_139]; exact Nat.le_of_ble_eq_true rfl) (Nat.le_of_ble_eq_true rfl) (isId_T (k := k) (by omega) (by omega)) ?_
  show Bod _ _ _ _ [_] _ _ _
  refine Bod.ifF dc_140_4 rfl (k1_eq_F (k_ne 1 0 rfl rfl (by omega) (by omega) (by omega))) ?_
  refine Bod.go dc_140_7 rfl ?_
  refine Bod.get dc_140_8 fr_140_33 (mk_2 _) rfl ?_
  refine Bod.go dc_140_11 rfl ?_
  refine Bod.ialdN k rfl (by omega) (by omega) dc_140_12 (mk_10 _) ?_
  refine Bod.go dc_140_13 rfl ?_
  exact Bod.retI dc_140_17 rt_140
theorem sizeAt_0 {d : Nat} {S : cS}   : Ans (d + 2) 140 [.ref 2, .int (nI 0)] S (some (.int (nI 0))) (S) := by
  refine Ans.of (by rw [ml_140]; exact Nat.le_of_ble_eq_true rfl) ?_
  refine Bod.go dc_140_0 rfl ?_
  refine Bod.stat (r := []) dc_140_1 kr_140_65 (Or.inl rfl) (by rw [np_139]; rfl) (by rw [np_139]; rfl) (by rw [np_139]; exact Nat.le_of_ble_eq_true rfl) (Nat.le_of_ble_eq_true rfl) (isId_0  ) ?_
  show Bod _ _ _ _ [_] _ _ _
  refine Bod.ifT dc_140_4 rfl (k1_eq_T (k_eq 0 0 rfl rfl (by omega))) ?_
  refine Bod.ic 0 (by decide) dc_140_16 ?_
  exact Bod.retI dc_140_17 rt_140
theorem firstAt_T {d : Nat} {S : cS} {k : Nat} (h0 : 1 ≤ k) (hk : k ≤ 1500) : Ans (d + 2) 168 [.ref 2, .int (nI k)] S (some (.int (sA S 7 k))) (S) := by
  refine Ans.of (by rw [ml_168]; exact Nat.le_of_ble_eq_true rfl) ?_
  refine Bod.go dc_168_0 rfl ?_
  refine Bod.stat (r := []) dc_168_1 kr_168_65 (Or.inl rfl) (by rw [np_139]; rfl) (by rw [np_139]; rfl) (by rw [np_139]; exact Nat.le_of_ble_eq_true rfl) (Nat.le_of_ble_eq_true rfl) (isId_T (k := k) (by omega) (by omega)) ?_
  show Bod _ _ _ _ [_] _ _ _
  refine Bod.ifF dc_168_4 rfl (k1_eq_F (k_ne 1 0 rfl rfl (by omega) (by omega) (by omega))) ?_
  refine Bod.go dc_168_7 rfl ?_
  refine Bod.get dc_168_8 fr_168_24 (mk_2 _) rfl ?_
  refine Bod.go dc_168_11 rfl ?_
  refine Bod.ialdN k rfl (by omega) (by omega) dc_168_12 (mk_7 _) ?_
  refine Bod.go dc_168_13 rfl ?_
  exact Bod.retI dc_168_17 rt_168
theorem firstAt_0 {d : Nat} {S : cS}   : Ans (d + 2) 168 [.ref 2, .int (nI 0)] S (some (.int (nI 0))) (S) := by
  refine Ans.of (by rw [ml_168]; exact Nat.le_of_ble_eq_true rfl) ?_
  refine Bod.go dc_168_0 rfl ?_
  refine Bod.stat (r := []) dc_168_1 kr_168_65 (Or.inl rfl) (by rw [np_139]; rfl) (by rw [np_139]; rfl) (by rw [np_139]; exact Nat.le_of_ble_eq_true rfl) (Nat.le_of_ble_eq_true rfl) (isId_0  ) ?_
  show Bod _ _ _ _ [_] _ _ _
  refine Bod.ifT dc_168_4 rfl (k1_eq_T (k_eq 0 0 rfl rfl (by omega))) ?_
  refine Bod.ic 0 (by decide) dc_168_16 ?_
  exact Bod.retI dc_168_17 rt_168
theorem secondAt_T {d : Nat} {S : cS} {k : Nat} (h0 : 1 ≤ k) (hk : k ≤ 1500) : Ans (d + 2) 264 [.ref 2, .int (nI k)] S (some (.int (sA S 8 k))) (S) := by
  refine Ans.of (by rw [ml_264]; exact Nat.le_of_ble_eq_true rfl) ?_
  refine Bod.go dc_264_0 rfl ?_
  refine Bod.stat (r := []) dc_264_1 kr_264_65 (Or.inl rfl) (by rw [np_139]; rfl) (by rw [np_139]; rfl) (by rw [np_139]; exact Nat.le_of_ble_eq_true rfl) (Nat.le_of_ble_eq_true rfl) (isId_T (k := k) (by omega) (by omega)) ?_
  show Bod _ _ _ _ [_] _ _ _
  refine Bod.ifF dc_264_4 rfl (k1_eq_F (k_ne 1 0 rfl rfl (by omega) (by omega) (by omega))) ?_
  refine Bod.go dc_264_7 rfl ?_
  refine Bod.get dc_264_8 fr_264_27 (mk_2 _) rfl ?_
  refine Bod.go dc_264_11 rfl ?_
  refine Bod.ialdN k rfl (by omega) (by omega) dc_264_12 (mk_8 _) ?_
  refine Bod.go dc_264_13 rfl ?_
  exact Bod.retI dc_264_17 rt_264
theorem secondAt_0 {d : Nat} {S : cS}   : Ans (d + 2) 264 [.ref 2, .int (nI 0)] S (some (.int (nI 0))) (S) := by
  refine Ans.of (by rw [ml_264]; exact Nat.le_of_ble_eq_true rfl) ?_
  refine Bod.go dc_264_0 rfl ?_
  refine Bod.stat (r := []) dc_264_1 kr_264_65 (Or.inl rfl) (by rw [np_139]; rfl) (by rw [np_139]; rfl) (by rw [np_139]; exact Nat.le_of_ble_eq_true rfl) (Nat.le_of_ble_eq_true rfl) (isId_0  ) ?_
  show Bod _ _ _ _ [_] _ _ _
  refine Bod.ifT dc_264_4 rfl (k1_eq_T (k_eq 0 0 rfl rfl (by omega))) ?_
  refine Bod.ic 0 (by decide) dc_264_16 ?_
  exact Bod.retI dc_264_17 rt_264
theorem infoAt_T {d : Nat} {S : cS} {k : Nat} (h0 : 1 ≤ k) (hk : k ≤ 1500) : Ans (d + 2) 241 [.ref 2, .int (nI k)] S (some (.int (sA S 9 k))) (S) := by
  refine Ans.of (by rw [ml_241]; exact Nat.le_of_ble_eq_true rfl) ?_
  refine Bod.go dc_241_0 rfl ?_
  refine Bod.stat (r := []) dc_241_1 kr_241_65 (Or.inl rfl) (by rw [np_139]; rfl) (by rw [np_139]; rfl) (by rw [np_139]; exact Nat.le_of_ble_eq_true rfl) (Nat.le_of_ble_eq_true rfl) (isId_T (k := k) (by omega) (by omega)) ?_
  show Bod _ _ _ _ [_] _ _ _
  refine Bod.ifF dc_241_4 rfl (k1_eq_F (k_ne 1 0 rfl rfl (by omega) (by omega) (by omega))) ?_
  refine Bod.go dc_241_7 rfl ?_
  refine Bod.get dc_241_8 fr_241_30 (mk_2 _) rfl ?_
  refine Bod.go dc_241_11 rfl ?_
  refine Bod.ialdN k rfl (by omega) (by omega) dc_241_12 (mk_9 _) ?_
  refine Bod.go dc_241_13 rfl ?_
  exact Bod.retI dc_241_17 rt_241
theorem infoAt_0 {d : Nat} {S : cS}   : Ans (d + 2) 241 [.ref 2, .int (nI 0)] S (some (.int (nI 0))) (S) := by
  refine Ans.of (by rw [ml_241]; exact Nat.le_of_ble_eq_true rfl) ?_
  refine Bod.go dc_241_0 rfl ?_
  refine Bod.stat (r := []) dc_241_1 kr_241_65 (Or.inl rfl) (by rw [np_139]; rfl) (by rw [np_139]; rfl) (by rw [np_139]; exact Nat.le_of_ble_eq_true rfl) (Nat.le_of_ble_eq_true rfl) (isId_0  ) ?_
  show Bod _ _ _ _ [_] _ _ _
  refine Bod.ifT dc_241_4 rfl (k1_eq_T (k_eq 0 0 rfl rfl (by omega))) ?_
  refine Bod.ic 0 (by decide) dc_241_16 ?_
  exact Bod.retI dc_241_17 rt_241
theorem alive_ev {d : Nat} {S : cS}   : Ans (d + 1) 251 [.ref 2] S (some (.int (sI S 213))) (S) := by
  refine Ans.of (by rw [ml_251]; exact Nat.le_of_ble_eq_true rfl) ?_
  refine Bod.go dc_251_0 rfl ?_
  refine Bod.get dc_251_1 fr_251_55 (mk_2 _) rfl ?_
  exact Bod.retI dc_251_4 rt_251
theorem countOf_T {d : Nat} {S : cS} {c : Nat} (h0 : 1 ≤ c) (hc : c ≤ 7) : Ans (d + 1) 274 [.ref 2, .int (nI c)] S (some (.int (sA S 12 c))) (S) := by
  refine Ans.of (by rw [ml_274]; exact Nat.le_of_ble_eq_true rfl) ?_
  refine Bod.go dc_274_0 rfl ?_
  refine Bod.ic 1 (by decide) dc_274_1 ?_
  refine Bod.icF dc_274_2 rfl (k2_lt_F c 1 rfl rfl (by omega) (by omega)) ?_
  refine Bod.go dc_274_5 rfl ?_
  refine Bod.bip 7 (by decide) dc_274_6 ?_
  refine Bod.icF dc_274_8 rfl (k2_gt_F c 7 rfl rfl (by omega) (by omega)) ?_
  refine Bod.go dc_274_11 rfl ?_
  refine Bod.get dc_274_12 fr_274_42 (mk_2 _) rfl ?_
  refine Bod.go dc_274_15 rfl ?_
  refine Bod.ialdN c rfl (by omega) (by omega) dc_274_16 (mk_12 _) ?_
  refine Bod.go dc_274_17 rfl ?_
  exact Bod.retI dc_274_21 rt_274
theorem hold_T4 {d : Nat} {S : cS} {k : Nat} (h0 : 1 ≤ k) (hk : k ≤ 1500) : Ans (d + 1) 149 [.ref 2, .ref 4, .int (nI k)] S (none) (wA 4 k ((sA S 4 k) + (nI 1)) S) := by
  refine Ans.of (by rw [ml_149]; exact Nat.le_of_ble_eq_true rfl) ?_
  refine Bod.go dc_149_0 rfl ?_
  refine Bod.ic 1 (by decide) dc_149_1 ?_
  refine Bod.icF dc_149_2 rfl (k2_lt_F k 1 rfl rfl (by omega) (by omega)) ?_
  refine Bod.go dc_149_5 rfl ?_
  refine Bod.go dc_149_6 rfl ?_
  refine Bod.alenN dc_149_7 (mk_4 _) (by decide +kernel) ?_
  refine Bod.icF dc_149_8 rfl (k2_ge_F k 1501 rfl rfl (by omega) (by omega)) ?_
  refine Bod.go dc_149_11 rfl ?_
  refine Bod.go dc_149_12 rfl ?_
  refine Bod.go dc_149_13 rfl ?_
  refine Bod.ialdN k rfl (by omega) (by omega) dc_149_14 (mk_4 _) ?_
  refine Bod.ic 1 (by decide) dc_149_15 ?_
  refine Bod.go dc_149_16 rfl ?_
  refine Bod.iastN k rfl (by omega) (by omega) dc_149_17 (mk_4 _) (sa_4 _ _ _) (mu_A _ _ _ _) ?_
  exact Bod.retV dc_149_18 rt_149
theorem hold_04 {d : Nat} {S : cS}   : Ans (d + 1) 149 [.ref 2, .ref 4, .int (nI 0)] S (none) (S) := by
  refine Ans.of (by rw [ml_149]; exact Nat.le_of_ble_eq_true rfl) ?_
  refine Bod.go dc_149_0 rfl ?_
  refine Bod.ic 1 (by decide) dc_149_1 ?_
  refine Bod.icT dc_149_2 rfl (k2_lt_T 0 1 rfl rfl (by omega) (by omega)) ?_
  exact Bod.retV dc_149_18 rt_149
theorem hold_T5 {d : Nat} {S : cS} {k : Nat} (h0 : 1 ≤ k) (hk : k ≤ 1500) : Ans (d + 1) 149 [.ref 2, .ref 5, .int (nI k)] S (none) (wA 5 k ((sA S 5 k) + (nI 1)) S) := by
  refine Ans.of (by rw [ml_149]; exact Nat.le_of_ble_eq_true rfl) ?_
  refine Bod.go dc_149_0 rfl ?_
  refine Bod.ic 1 (by decide) dc_149_1 ?_
  refine Bod.icF dc_149_2 rfl (k2_lt_F k 1 rfl rfl (by omega) (by omega)) ?_
  refine Bod.go dc_149_5 rfl ?_
  refine Bod.go dc_149_6 rfl ?_
  refine Bod.alenN dc_149_7 (mk_5 _) (by decide +kernel) ?_
  refine Bod.icF dc_149_8 rfl (k2_ge_F k 1501 rfl rfl (by omega) (by omega)) ?_
  refine Bod.go dc_149_11 rfl ?_
  refine Bod.go dc_149_12 rfl ?_
  refine Bod.go dc_149_13 rfl ?_
  refine Bod.ialdN k rfl (by omega) (by omega) dc_149_14 (mk_5 _) ?_
  refine Bod.ic 1 (by decide) dc_149_15 ?_
  refine Bod.go dc_149_16 rfl ?_
  refine Bod.iastN k rfl (by omega) (by omega) dc_149_17 (mk_5 _) (sa_5 _ _ _) (mu_A _ _ _ _) ?_
  exact Bod.retV dc_149_18 rt_149
theorem hold_05 {d : Nat} {S : cS}   : Ans (d + 1) 149 [.ref 2, .ref 5, .int (nI 0)] S (none) (S) := by
  refine Ans.of (by rw [ml_149]; exact Nat.le_of_ble_eq_true rfl) ?_
  refine Bod.go dc_149_0 rfl ?_
  refine Bod.ic 1 (by decide) dc_149_1 ?_
  refine Bod.icT dc_149_2 rfl (k2_lt_T 0 1 rfl rfl (by omega) (by omega)) ?_
  exact Bod.retV dc_149_18 rt_149
theorem hold_T6 {d : Nat} {S : cS} {k : Nat} (h0 : 1 ≤ k) (hk : k ≤ 1500) : Ans (d + 1) 149 [.ref 2, .ref 6, .int (nI k)] S (none) (wA 6 k ((sA S 6 k) + (nI 1)) S) := by
  refine Ans.of (by rw [ml_149]; exact Nat.le_of_ble_eq_true rfl) ?_
  refine Bod.go dc_149_0 rfl ?_
  refine Bod.ic 1 (by decide) dc_149_1 ?_
  refine Bod.icF dc_149_2 rfl (k2_lt_F k 1 rfl rfl (by omega) (by omega)) ?_
  refine Bod.go dc_149_5 rfl ?_
  refine Bod.go dc_149_6 rfl ?_
  refine Bod.alenN dc_149_7 (mk_6 _) (by decide +kernel) ?_
  refine Bod.icF dc_149_8 rfl (k2_ge_F k 1501 rfl rfl (by omega) (by omega)) ?_
  refine Bod.go dc_149_11 rfl ?_
  refine Bod.go dc_149_12 rfl ?_
  refine Bod.go dc_149_13 rfl ?_
  refine Bod.ialdN k rfl (by omega) (by omega) dc_149_14 (mk_6 _) ?_
  refine Bod.ic 1 (by decide) dc_149_15 ?_
  refine Bod.go dc_149_16 rfl ?_
  refine Bod.iastN k rfl (by omega) (by omega) dc_149_17 (mk_6 _) (sa_6 _ _ _) (mu_A _ _ _ _) ?_
  exact Bod.retV dc_149_18 rt_149
theorem hold_06 {d : Nat} {S : cS}   : Ans (d + 1) 149 [.ref 2, .ref 6, .int (nI 0)] S (none) (S) := by
  refine Ans.of (by rw [ml_149]; exact Nat.le_of_ble_eq_true rfl) ?_
  refine Bod.go dc_149_0 rfl ?_
  refine Bod.ic 1 (by decide) dc_149_1 ?_
  refine Bod.icT dc_149_2 rfl (k2_lt_T 0 1 rfl rfl (by omega) (by omega)) ?_
  exact Bod.retV dc_149_18 rt_149
/-- one more hold of object k, of none if k is 0 -/
def c_hold (a k : Nat) (S : cS) : cS := if k = 0 then S else wA a k (sA S a k + nI 1) S
theorem hold_ev {d : Nat} {S : cS} {a k : Nat} (ha : a = 4 ∨ a = 5 ∨ a = 6) (hk : k ≤ 1500) : Ans (d + 1) 149 [.ref 2, .ref a, .int (nI k)] S none (c_hold a k S) := by
  unfold c_hold
  by_cases h0 : k = 0
  · subst h0
    rw [if_pos rfl]
    rcases ha with rfl | rfl | rfl
    · exact hold_04
    · exact hold_05
    · exact hold_06
  · rw [if_neg h0]
    rcases ha with rfl | rfl | rfl
    · exact hold_T4 (by omega) hk
    · exact hold_T5 (by omega) hk
    · exact hold_T6 (by omega) hk
theorem rI_hold (a k : Nat) (S : cS) (i : Nat) : sI (c_hold a k S) i = sI S i := by
  unfold c_hold
  split <;> rfl
theorem rQ_holdE (a k : Nat) (S : cS) (i : Nat) : sQ (c_hold a k S) i = sQ S i := by
  unfold c_hold
  split <;> rfl
theorem rS_hold (a k : Nat) (S : cS) : sS (c_hold a k S) = sS S := by
  unfold c_hold
  split <;> rfl
theorem ht_4 : 4 ≤ 4 ∧ 4 < mt_el.length := by decide +kernel
theorem ht_5 : 4 ≤ 5 ∧ 5 < mt_el.length := by decide +kernel
theorem ht_6 : 4 ≤ 6 ∧ 6 < mt_el.length := by decide +kernel
theorem rL_hold (a k : Nat) (S : cS) (i : Nat) : sL (c_hold a k S) i = sL S i := by
  unfold c_hold
  split <;> rfl
theorem unkeep_T {d : Nat} {S : cS} {k : Nat} (h0 : 1 ≤ k) (hk : k ≤ 1500) : Ans (d + 2) 262 [.ref 2, .int (nI k)] S (none) (wA 6 k ((sA S 6 k) - (nI 1)) S) := by
  refine Ans.of (by rw [ml_262]; exact Nat.le_of_ble_eq_true rfl) ?_
  refine Bod.go dc_262_0 rfl ?_
  refine Bod.stat (r := []) dc_262_1 kr_262_65 (Or.inl rfl) (by rw [np_139]; rfl) (by rw [np_139]; rfl) (by rw [np_139]; exact Nat.le_of_ble_eq_true rfl) (Nat.le_of_ble_eq_true rfl) (isId_T (k := k) (by omega) (by omega)) ?_
  show Bod _ _ _ _ [_] _ _ _
  refine Bod.ifF dc_262_4 rfl (k1_eq_F (k_ne 1 0 rfl rfl (by omega) (by omega) (by omega))) ?_
  refine Bod.go dc_262_7 rfl ?_
  refine Bod.get dc_262_8 fr_262_21 (mk_2 _) rfl ?_
  refine Bod.go dc_262_11 rfl ?_
  refine Bod.go dc_262_12 rfl ?_
  refine Bod.ialdN k rfl (by omega) (by omega) dc_262_13 (mk_6 _) ?_
  refine Bod.ic 1 (by decide) dc_262_14 ?_
  refine Bod.go dc_262_15 rfl ?_
  refine Bod.iastN k rfl (by omega) (by omega) dc_262_16 (mk_6 _) (sa_6 _ _ _) (mu_A _ _ _ _) ?_
  exact Bod.retV dc_262_17 rt_262
theorem unkeep_0 {d : Nat} {S : cS}   : Ans (d + 2) 262 [.ref 2, .int (nI 0)] S (none) (S) := by
  refine Ans.of (by rw [ml_262]; exact Nat.le_of_ble_eq_true rfl) ?_
  refine Bod.go dc_262_0 rfl ?_
  refine Bod.stat (r := []) dc_262_1 kr_262_65 (Or.inl rfl) (by rw [np_139]; rfl) (by rw [np_139]; rfl) (by rw [np_139]; exact Nat.le_of_ble_eq_true rfl) (Nat.le_of_ble_eq_true rfl) (isId_0  ) ?_
  show Bod _ _ _ _ [_] _ _ _
  refine Bod.ifT dc_262_4 rfl (k1_eq_T (k_eq 0 0 rfl rfl (by omega))) ?_
  exact Bod.retV dc_262_17 rt_262
theorem push_ev {d : Nat} {S : cS} {t : Nat} {o : Nat} {hi : Int64} {lo : Int64} (ht : sI S 4603 = nI t) (hM : t < 20480) (ho : c_obj hi lo = nI o) (hk : o ≤ 1500) : Ans (d + 2) 153 [.ref 46, .long hi, .long lo] S (none) (c_hold 6 o (wI 4603 (nI (t + 1)) (wL 48 t lo (wL 47 t hi S)))) := by
  refine Ans.of (by rw [ml_153]; exact Nat.le_of_ble_eq_true rfl) ?_
  refine Bod.go dc_153_0 rfl ?_
  refine Bod.get dc_153_1 fr_153_22 (mk_46 _) rfl ?_
  refine Bod.eqI (nI t) (by first | assumption | rfl | exact congrArg nI (by omega) | (simp (disch := omega) only [rI, rIe, rA, rIA, rLA, rJA, rVI, rQI, rVA, rQA, upd_at,  rAI, rLI, rJI, nI_add, pk_sub, kc_0, kc_1, kc_2, kc_3, kc_4, kc_5, reduceIte, Nat.reduceEqDiff, Nat.add_zero, rI_hold, ht]; done)) ?_
  refine Bod.ifF dc_153_4 rfl (k1_lt_F t rfl (by omega)) ?_
  refine Bod.go dc_153_7 rfl ?_
  refine Bod.get dc_153_8 fr_153_22 (mk_46 _) rfl ?_
  refine Bod.eqI (nI t) (by first | assumption | rfl | exact congrArg nI (by omega) | (simp (disch := omega) only [rI, rIe, rA, rIA, rLA, rJA, rVI, rQI, rVA, rQA, upd_at,  rAI, rLI, rJI, nI_add, pk_sub, kc_0, kc_1, kc_2, kc_3, kc_4, kc_5, reduceIte, Nat.reduceEqDiff, Nat.add_zero, rI_hold, ht]; done)) ?_
  refine Bod.sip 20480 (by decide) dc_153_11 ?_
  refine Bod.icT dc_153_14 rfl (k2_lt_T t 20480 rfl rfl (by omega) (by omega)) ?_
  refine Bod.go dc_153_18 rfl ?_
  refine Bod.get dc_153_19 fr_153_15 (mk_46 _) rfl ?_
  refine Bod.go dc_153_22 rfl ?_
  refine Bod.get dc_153_23 fr_153_22 (mk_46 _) rfl ?_
  refine Bod.eqI (nI t) (by first | assumption | rfl | exact congrArg nI (by omega) | (simp (disch := omega) only [rI, rIe, rA, rIA, rLA, rJA, rVI, rQI, rVA, rQA, upd_at,  rAI, rLI, rJI, nI_add, pk_sub, kc_0, kc_1, kc_2, kc_3, kc_4, kc_5, reduceIte, Nat.reduceEqDiff, Nat.add_zero, rI_hold, ht]; done)) ?_
  refine Bod.go dc_153_26 rfl ?_
  refine Bod.lastN t rfl (by omega) (by omega) dc_153_27 (mk_47 _) (sa_47 _ _ _) (mu_L _ _ _ _) ?_
  refine Bod.go dc_153_28 rfl ?_
  refine Bod.get dc_153_29 fr_153_19 (mk_46 _) rfl ?_
  refine Bod.go dc_153_32 rfl ?_
  refine Bod.get dc_153_33 fr_153_22 (mk_46 _) rfl ?_
  refine Bod.eqI (nI t) (by first | (simp (disch := omega) only [rI, rIe, rA, rIA, rLA, rJA, rVI, rQI, rVA, rQA, upd_at,  rAI, rLI, rJI, nI_add, pk_sub, kc_0, kc_1, kc_2, kc_3, kc_4, kc_5, reduceIte, Nat.reduceEqDiff, Nat.add_zero, rI_hold, ht]; done) | (simp (disch := omega) only [rI, rIe, rA, rIA, rLA, rJA, rVI, rQI, rVA, rQA, upd_at,  rAI, rLI, rJI, nI_add, pk_sub, kc_0, kc_1, kc_2, kc_3, kc_4, kc_5, reduceIte, Nat.reduceEqDiff, Nat.add_zero, rI_hold, ht]; exact congrArg nI (by omega))) ?_
  refine Bod.go dc_153_36 rfl ?_
  refine Bod.lastN t rfl (by omega) (by omega) dc_153_37 (mk_48 _) (sa_48 _ _ _) (mu_L _ _ _ _) ?_
  refine Bod.go dc_153_38 rfl ?_
  refine Bod.go dc_153_39 rfl ?_
  refine Bod.get dc_153_40 fr_153_22 (mk_46 _) rfl ?_
  refine Bod.eqI (nI t) (by first | (simp (disch := omega) only [rI, rIe, rA, rIA, rLA, rJA, rVI, rQI, rVA, rQA, upd_at,  rAI, rLI, rJI, nI_add, pk_sub, kc_0, kc_1, kc_2, kc_3, kc_4, kc_5, reduceIte, Nat.reduceEqDiff, Nat.add_zero, rI_hold, ht]; done) | (simp (disch := omega) only [rI, rIe, rA, rIA, rLA, rJA, rVI, rQI, rVA, rQA, upd_at,  rAI, rLI, rJI, nI_add, pk_sub, kc_0, kc_1, kc_2, kc_3, kc_4, kc_5, reduceIte, Nat.reduceEqDiff, Nat.add_zero, rI_hold, ht]; exact congrArg nI (by omega))) ?_
  refine Bod.ic 1 (by decide) dc_153_43 ?_
  refine Bod.addN (t + 1) (by omega) dc_153_44 ?_
  refine Bod.put dc_153_45 fr_153_22 (mk_46 _) (Nat.le_of_ble_eq_true rfl) pf_9_3 (st_4603 _ _) (mu_I _ _ _) ?_
  refine Bod.go dc_153_48 rfl ?_
  refine Bod.get dc_153_49 fr_153_9 (mk_46 _) rfl ?_
  refine Bod.go dc_153_52 rfl ?_
  refine Bod.get dc_153_53 fr_153_9 (mk_46 _) rfl ?_
  refine Bod.get dc_153_56 fr_153_50 (mk_2 _) rfl ?_
  refine Bod.go dc_153_59 rfl ?_
  refine Bod.go dc_153_60 rfl ?_
  refine Bod.stat (r := [_, _]) dc_153_61 kr_153_37 (Or.inr rfl) (by rw [np_137]; rfl) (by rw [np_137]; rfl) (by rw [np_137]; exact Nat.le_of_ble_eq_true rfl) (Nat.le_of_ble_eq_true rfl) (objectOf_n (o := o) ho) ?_
  show Bod _ _ _ _ [_, _, _] _ _ _
  refine Bod.virt (r := []) dc_153_64 kr_153_54 ⟨Or.inr rfl, ow_149, cl_2⟩ (by rw [np_149]; rfl) (by rw [np_149]; rfl) (ob_of (mk_2 _)) (Nat.le_of_ble_eq_true rfl) (hold_ev (a := 6) (k := o) (Or.inr (Or.inr rfl)) (by omega)) ?_
  show Bod _ _ _ _ [] _ _ _
  exact Bod.retV dc_153_67 rt_153
theorem at_T {d : Nat} {S : cS} {p : Nat} {q : Nat} (hp : sI S 2307 = nI p) (hq : q < p) (hM : p ≤ 40960) : Ans (d + 1) 88 [.ref 23, .int (nI q)] S (some (.int (sA S 24 q))) (S) := by
  refine Ans.of (by rw [ml_88]; exact Nat.le_of_ble_eq_true rfl) ?_
  refine Bod.go dc_88_0 rfl ?_
  refine Bod.ifF dc_88_1 rfl (k1_lt_F q rfl (by omega)) ?_
  refine Bod.go dc_88_4 rfl ?_
  refine Bod.go dc_88_5 rfl ?_
  refine Bod.get dc_88_6 fr_88_35 (mk_23 _) rfl ?_
  refine Bod.eqI (nI p) (by first | assumption | rfl | exact congrArg nI (by omega) | (simp (disch := omega) only [rI, rIe, rA, rIA, rLA, rJA, rVI, rQI, rVA, rQA, upd_at,  rAI, rLI, rJI, nI_add, pk_sub, kc_0, kc_1, kc_2, kc_3, kc_4, kc_5, reduceIte, Nat.reduceEqDiff, Nat.add_zero, rI_hold, hp]; done)) ?_
  refine Bod.icF dc_88_9 rfl (k2_ge_F q p rfl rfl (by omega) (by omega)) ?_
  refine Bod.go dc_88_12 rfl ?_
  refine Bod.ldcN 40960 (by decide) dc_88_13 ci_88_11 ?_
  refine Bod.icF dc_88_15 rfl (k2_ge_F q 40960 rfl rfl (by omega) (by omega)) ?_
  refine Bod.go dc_88_18 rfl ?_
  refine Bod.get dc_88_19 fr_88_12 (mk_23 _) rfl ?_
  refine Bod.go dc_88_22 rfl ?_
  refine Bod.ialdN q rfl (by omega) (by omega) dc_88_23 (mk_24 _) ?_
  refine Bod.go dc_88_24 rfl ?_
  exact Bod.retI dc_88_28 rt_88
theorem at_F {d : Nat} {S : cS} {p : Nat} {q : Nat} (hp : sI S 2307 = nI p) (hq : p ≤ q) (hM : q < 2 ^ 31) : Ans (d + 1) 88 [.ref 23, .int (nI q)] S (some (.int (nI 0))) (S) := by
  refine Ans.of (by rw [ml_88]; exact Nat.le_of_ble_eq_true rfl) ?_
  refine Bod.go dc_88_0 rfl ?_
  refine Bod.ifF dc_88_1 rfl (k1_lt_F q rfl (by omega)) ?_
  refine Bod.go dc_88_4 rfl ?_
  refine Bod.go dc_88_5 rfl ?_
  refine Bod.get dc_88_6 fr_88_35 (mk_23 _) rfl ?_
  refine Bod.eqI (nI p) (by first | assumption | rfl | exact congrArg nI (by omega) | (simp (disch := omega) only [rI, rIe, rA, rIA, rLA, rJA, rVI, rQI, rVA, rQA, upd_at,  rAI, rLI, rJI, nI_add, pk_sub, kc_0, kc_1, kc_2, kc_3, kc_4, kc_5, reduceIte, Nat.reduceEqDiff, Nat.add_zero, rI_hold, hp]; done)) ?_
  refine Bod.icT dc_88_9 rfl (k2_ge_T q p rfl rfl (by omega) (by omega)) ?_
  refine Bod.ic 0 (by decide) dc_88_27 ?_
  exact Bod.retI dc_88_28 rt_88
theorem hasRoom_T {d : Nat} {S : cS} {p : Nat} {w : Nat} (hp : sI S 2307 = nI p) (hM : p + w ≤ 40960) : Ans (d + 1) 55 [.ref 23, .int (nI w)] S (some (.int 1)) (S) := by
  refine Ans.of (by rw [ml_55]; exact Nat.le_of_ble_eq_true rfl) ?_
  refine Bod.go dc_55_0 rfl ?_
  refine Bod.get dc_55_1 fr_55_35 (mk_23 _) rfl ?_
  refine Bod.eqI (nI p) (by first | assumption | rfl | exact congrArg nI (by omega) | (simp (disch := omega) only [rI, rIe, rA, rIA, rLA, rJA, rVI, rQI, rVA, rQA, upd_at,  rAI, rLI, rJI, nI_add, pk_sub, kc_0, kc_1, kc_2, kc_3, kc_4, kc_5, reduceIte, Nat.reduceEqDiff, Nat.add_zero, rI_hold, hp]; done)) ?_
  refine Bod.ifF dc_55_4 rfl (k1_lt_F p rfl (by omega)) ?_
  refine Bod.go dc_55_7 rfl ?_
  refine Bod.get dc_55_8 fr_55_35 (mk_23 _) rfl ?_
  refine Bod.eqI (nI p) (by first | assumption | rfl | exact congrArg nI (by omega) | (simp (disch := omega) only [rI, rIe, rA, rIA, rLA, rJA, rVI, rQI, rVA, rQA, upd_at,  rAI, rLI, rJI, nI_add, pk_sub, kc_0, kc_1, kc_2, kc_3, kc_4, kc_5, reduceIte, Nat.reduceEqDiff, Nat.add_zero, rI_hold, hp]; done)) ?_
  refine Bod.go dc_55_11 rfl ?_
  refine Bod.addN (p + w) (by omega) dc_55_12 ?_
  refine Bod.ldcN 40960 (by decide) dc_55_13 ci_55_11 ?_
  refine Bod.icF dc_55_15 rfl (k2_gt_F (p + w) 40960 rfl rfl (by omega) (by omega)) ?_
  refine Bod.ic 1 (by decide) dc_55_18 ?_
  refine Bod.go dc_55_19 rfl ?_
  refine Bod.istn dc_55_23 (by rw [ml_55]; exact Nat.le_of_ble_eq_true rfl) ?_
  refine Bod.go dc_55_24 rfl ?_
  refine Bod.ifT dc_55_25 rfl (k1_ne_T (k_ne 1 0 rfl rfl (by omega) (by omega) (by omega))) ?_
  refine Bod.go dc_55_33 rfl ?_
  exact Bod.retZ dc_55_34 rt_55 (Or.inr rfl)
theorem put1_ev {d : Nat} {S : cS} {p : Nat} {x0 : Int32} (hp : sI S 2307 = nI p) (hM : p + 1 ≤ 40960) : Ans (d + 2) 71 [.ref 23, .int x0] S (some (.int (nI p))) (wI 2307 (nI (p + 1)) (wA 24 p x0 S)) := by
  refine Ans.of (by rw [ml_71]; exact Nat.le_of_ble_eq_true rfl) ?_
  refine Bod.go dc_71_0 rfl ?_
  refine Bod.ic 1 (by decide) dc_71_1 ?_
  refine Bod.virt (r := []) dc_71_2 kr_71_39 ⟨Or.inl rfl, ow_55, cl_7⟩ (by rw [np_55]; rfl) (by rw [np_55]; rfl) (ob_of (mk_23 _)) (Nat.le_of_ble_eq_true rfl) (hasRoom_T (p := p) (w := 1) (by first | assumption | rfl | exact congrArg nI (by omega) | (simp (disch := omega) only [rI, rIe, rA, rIA, rLA, rJA, rVI, rQI, rVA, rQA, upd_at,  rAI, rLI, rJI, nI_add, pk_sub, kc_0, kc_1, kc_2, kc_3, kc_4, kc_5, reduceIte, Nat.reduceEqDiff, Nat.add_zero, rI_hold, hp]; done)) (by omega)) ?_
  show Bod _ _ _ _ [_] _ _ _
  refine Bod.ifT dc_71_5 rfl (k1_ne_T (k_ne 1 0 rfl rfl (by omega) (by omega) (by omega))) ?_
  refine Bod.go dc_71_11 rfl ?_
  refine Bod.get dc_71_12 fr_71_12 (mk_23 _) rfl ?_
  refine Bod.go dc_71_15 rfl ?_
  refine Bod.get dc_71_16 fr_71_35 (mk_23 _) rfl ?_
  refine Bod.eqI (nI p) (by first | assumption | rfl | exact congrArg nI (by omega) | (simp (disch := omega) only [rI, rIe, rA, rIA, rLA, rJA, rVI, rQI, rVA, rQA, upd_at,  rAI, rLI, rJI, nI_add, pk_sub, kc_0, kc_1, kc_2, kc_3, kc_4, kc_5, reduceIte, Nat.reduceEqDiff, Nat.add_zero, rI_hold, hp]; done)) ?_
  refine Bod.go dc_71_19 rfl ?_
  refine Bod.iastN p rfl (by omega) (by omega) dc_71_20 (mk_24 _) (sa_24 _ _ _) (mu_A _ _ _ _) ?_
  refine Bod.go dc_71_21 rfl ?_
  refine Bod.go dc_71_22 rfl ?_
  refine Bod.get dc_71_23 fr_71_35 (mk_23 _) rfl ?_
  refine Bod.eqI (nI p) (by first | (simp (disch := omega) only [rI, rIe, rA, rIA, rLA, rJA, rVI, rQI, rVA, rQA, upd_at,  rAI, rLI, rJI, nI_add, pk_sub, kc_0, kc_1, kc_2, kc_3, kc_4, kc_5, reduceIte, Nat.reduceEqDiff, Nat.add_zero, rI_hold, hp]; done) | (simp (disch := omega) only [rI, rIe, rA, rIA, rLA, rJA, rVI, rQI, rVA, rQA, upd_at,  rAI, rLI, rJI, nI_add, pk_sub, kc_0, kc_1, kc_2, kc_3, kc_4, kc_5, reduceIte, Nat.reduceEqDiff, Nat.add_zero, rI_hold, hp]; exact congrArg nI (by omega))) ?_
  refine Bod.ic 1 (by decide) dc_71_26 ?_
  refine Bod.addN (p + 1) (by omega) dc_71_27 ?_
  refine Bod.put dc_71_28 fr_71_35 (mk_23 _) (Nat.le_of_ble_eq_true rfl) pf_7_7 (st_2307 _ _) (mu_I _ _ _) ?_
  refine Bod.go dc_71_31 rfl ?_
  refine Bod.get dc_71_32 fr_71_35 (mk_23 _) rfl ?_
  refine Bod.eqI (nI (p + 1)) (by first | (simp (disch := omega) only [rI, rIe, rA, rIA, rLA, rJA, rVI, rQI, rVA, rQA, upd_at,  rAI, rLI, rJI, nI_add, pk_sub, kc_0, kc_1, kc_2, kc_3, kc_4, kc_5, reduceIte, Nat.reduceEqDiff, Nat.add_zero, rI_hold, hp]; done) | (simp (disch := omega) only [rI, rIe, rA, rIA, rLA, rJA, rVI, rQI, rVA, rQA, upd_at,  rAI, rLI, rJI, nI_add, pk_sub, kc_0, kc_1, kc_2, kc_3, kc_4, kc_5, reduceIte, Nat.reduceEqDiff, Nat.add_zero, rI_hold, hp]; exact congrArg nI (by omega))) ?_
  refine Bod.ic 1 (by decide) dc_71_35 ?_
  refine Bod.subN p (by omega) (by omega) dc_71_36 ?_
  exact Bod.retI dc_71_37 rt_71
theorem put2_ev {d : Nat} {S : cS} {p : Nat} {x0 : Int32} {x1 : Int32} (hp : sI S 2307 = nI p) (hM : p + 2 ≤ 40960) : Ans (d + 2) 54 [.ref 23, .int x0, .int x1] S (some (.int (nI p))) (wI 2307 (nI (p + 2)) (wA 24 (p + 1) x1 (wA 24 p x0 S))) := by
  refine Ans.of (by rw [ml_54]; exact Nat.le_of_ble_eq_true rfl) ?_
  refine Bod.go dc_54_0 rfl ?_
  refine Bod.ic 2 (by decide) dc_54_1 ?_
  refine Bod.virt (r := []) dc_54_2 kr_54_39 ⟨Or.inl rfl, ow_55, cl_7⟩ (by rw [np_55]; rfl) (by rw [np_55]; rfl) (ob_of (mk_23 _)) (Nat.le_of_ble_eq_true rfl) (hasRoom_T (p := p) (w := 2) (by first | assumption | rfl | exact congrArg nI (by omega) | (simp (disch := omega) only [rI, rIe, rA, rIA, rLA, rJA, rVI, rQI, rVA, rQA, upd_at,  rAI, rLI, rJI, nI_add, pk_sub, kc_0, kc_1, kc_2, kc_3, kc_4, kc_5, reduceIte, Nat.reduceEqDiff, Nat.add_zero, rI_hold, hp]; done)) (by omega)) ?_
  show Bod _ _ _ _ [_] _ _ _
  refine Bod.ifT dc_54_5 rfl (k1_ne_T (k_ne 1 0 rfl rfl (by omega) (by omega) (by omega))) ?_
  refine Bod.go dc_54_11 rfl ?_
  refine Bod.get dc_54_12 fr_54_12 (mk_23 _) rfl ?_
  refine Bod.go dc_54_15 rfl ?_
  refine Bod.get dc_54_16 fr_54_35 (mk_23 _) rfl ?_
  refine Bod.eqI (nI p) (by first | assumption | rfl | exact congrArg nI (by omega) | (simp (disch := omega) only [rI, rIe, rA, rIA, rLA, rJA, rVI, rQI, rVA, rQA, upd_at,  rAI, rLI, rJI, nI_add, pk_sub, kc_0, kc_1, kc_2, kc_3, kc_4, kc_5, reduceIte, Nat.reduceEqDiff, Nat.add_zero, rI_hold, hp]; done)) ?_
  refine Bod.go dc_54_19 rfl ?_
  refine Bod.iastN p rfl (by omega) (by omega) dc_54_20 (mk_24 _) (sa_24 _ _ _) (mu_A _ _ _ _) ?_
  refine Bod.go dc_54_21 rfl ?_
  refine Bod.get dc_54_22 fr_54_12 (mk_23 _) rfl ?_
  refine Bod.go dc_54_25 rfl ?_
  refine Bod.get dc_54_26 fr_54_35 (mk_23 _) rfl ?_
  refine Bod.eqI (nI p) (by first | (simp (disch := omega) only [rI, rIe, rA, rIA, rLA, rJA, rVI, rQI, rVA, rQA, upd_at,  rAI, rLI, rJI, nI_add, pk_sub, kc_0, kc_1, kc_2, kc_3, kc_4, kc_5, reduceIte, Nat.reduceEqDiff, Nat.add_zero, rI_hold, hp]; done) | (simp (disch := omega) only [rI, rIe, rA, rIA, rLA, rJA, rVI, rQI, rVA, rQA, upd_at,  rAI, rLI, rJI, nI_add, pk_sub, kc_0, kc_1, kc_2, kc_3, kc_4, kc_5, reduceIte, Nat.reduceEqDiff, Nat.add_zero, rI_hold, hp]; exact congrArg nI (by omega))) ?_
  refine Bod.ic 1 (by decide) dc_54_29 ?_
  refine Bod.addN (p + 1) (by omega) dc_54_30 ?_
  refine Bod.go dc_54_31 rfl ?_
  refine Bod.iastN (p + 1) rfl (by omega) (by omega) dc_54_32 (mk_24 _) (sa_24 _ _ _) (mu_A _ _ _ _) ?_
  refine Bod.go dc_54_33 rfl ?_
  refine Bod.go dc_54_34 rfl ?_
  refine Bod.get dc_54_35 fr_54_35 (mk_23 _) rfl ?_
  refine Bod.eqI (nI p) (by first | (simp (disch := omega) only [rI, rIe, rA, rIA, rLA, rJA, rVI, rQI, rVA, rQA, upd_at,  rAI, rLI, rJI, nI_add, pk_sub, kc_0, kc_1, kc_2, kc_3, kc_4, kc_5, reduceIte, Nat.reduceEqDiff, Nat.add_zero, rI_hold, hp]; done) | (simp (disch := omega) only [rI, rIe, rA, rIA, rLA, rJA, rVI, rQI, rVA, rQA, upd_at,  rAI, rLI, rJI, nI_add, pk_sub, kc_0, kc_1, kc_2, kc_3, kc_4, kc_5, reduceIte, Nat.reduceEqDiff, Nat.add_zero, rI_hold, hp]; exact congrArg nI (by omega))) ?_
  refine Bod.ic 2 (by decide) dc_54_38 ?_
  refine Bod.addN (p + 2) (by omega) dc_54_39 ?_
  refine Bod.put dc_54_40 fr_54_35 (mk_23 _) (Nat.le_of_ble_eq_true rfl) pf_7_7 (st_2307 _ _) (mu_I _ _ _) ?_
  refine Bod.go dc_54_43 rfl ?_
  refine Bod.get dc_54_44 fr_54_35 (mk_23 _) rfl ?_
  refine Bod.eqI (nI (p + 2)) (by first | (simp (disch := omega) only [rI, rIe, rA, rIA, rLA, rJA, rVI, rQI, rVA, rQA, upd_at,  rAI, rLI, rJI, nI_add, pk_sub, kc_0, kc_1, kc_2, kc_3, kc_4, kc_5, reduceIte, Nat.reduceEqDiff, Nat.add_zero, rI_hold, hp]; done) | (simp (disch := omega) only [rI, rIe, rA, rIA, rLA, rJA, rVI, rQI, rVA, rQA, upd_at,  rAI, rLI, rJI, nI_add, pk_sub, kc_0, kc_1, kc_2, kc_3, kc_4, kc_5, reduceIte, Nat.reduceEqDiff, Nat.add_zero, rI_hold, hp]; exact congrArg nI (by omega))) ?_
  refine Bod.ic 2 (by decide) dc_54_47 ?_
  refine Bod.subN p (by omega) (by omega) dc_54_48 ?_
  exact Bod.retI dc_54_49 rt_54
theorem put3_ev {d : Nat} {S : cS} {p : Nat} {x0 : Int32} {x1 : Int32} {x2 : Int32} (hp : sI S 2307 = nI p) (hM : p + 3 ≤ 40960) : Ans (d + 2) 68 [.ref 23, .int x0, .int x1, .int x2] S (some (.int (nI p))) (wI 2307 (nI (p + 3)) (wA 24 (p + 2) x2 (wA 24 (p + 1) x1 (wA 24 p x0 S)))) := by
  refine Ans.of (by rw [ml_68]; exact Nat.le_of_ble_eq_true rfl) ?_
  refine Bod.go dc_68_0 rfl ?_
  refine Bod.ic 3 (by decide) dc_68_1 ?_
  refine Bod.virt (r := []) dc_68_2 kr_68_39 ⟨Or.inl rfl, ow_55, cl_7⟩ (by rw [np_55]; rfl) (by rw [np_55]; rfl) (ob_of (mk_23 _)) (Nat.le_of_ble_eq_true rfl) (hasRoom_T (p := p) (w := 3) (by first | assumption | rfl | exact congrArg nI (by omega) | (simp (disch := omega) only [rI, rIe, rA, rIA, rLA, rJA, rVI, rQI, rVA, rQA, upd_at,  rAI, rLI, rJI, nI_add, pk_sub, kc_0, kc_1, kc_2, kc_3, kc_4, kc_5, reduceIte, Nat.reduceEqDiff, Nat.add_zero, rI_hold, hp]; done)) (by omega)) ?_
  show Bod _ _ _ _ [_] _ _ _
  refine Bod.ifT dc_68_5 rfl (k1_ne_T (k_ne 1 0 rfl rfl (by omega) (by omega) (by omega))) ?_
  refine Bod.go dc_68_11 rfl ?_
  refine Bod.get dc_68_12 fr_68_12 (mk_23 _) rfl ?_
  refine Bod.go dc_68_15 rfl ?_
  refine Bod.get dc_68_16 fr_68_35 (mk_23 _) rfl ?_
  refine Bod.eqI (nI p) (by first | assumption | rfl | exact congrArg nI (by omega) | (simp (disch := omega) only [rI, rIe, rA, rIA, rLA, rJA, rVI, rQI, rVA, rQA, upd_at,  rAI, rLI, rJI, nI_add, pk_sub, kc_0, kc_1, kc_2, kc_3, kc_4, kc_5, reduceIte, Nat.reduceEqDiff, Nat.add_zero, rI_hold, hp]; done)) ?_
  refine Bod.go dc_68_19 rfl ?_
  refine Bod.iastN p rfl (by omega) (by omega) dc_68_20 (mk_24 _) (sa_24 _ _ _) (mu_A _ _ _ _) ?_
  refine Bod.go dc_68_21 rfl ?_
  refine Bod.get dc_68_22 fr_68_12 (mk_23 _) rfl ?_
  refine Bod.go dc_68_25 rfl ?_
  refine Bod.get dc_68_26 fr_68_35 (mk_23 _) rfl ?_
  refine Bod.eqI (nI p) (by first | (simp (disch := omega) only [rI, rIe, rA, rIA, rLA, rJA, rVI, rQI, rVA, rQA, upd_at,  rAI, rLI, rJI, nI_add, pk_sub, kc_0, kc_1, kc_2, kc_3, kc_4, kc_5, reduceIte, Nat.reduceEqDiff, Nat.add_zero, rI_hold, hp]; done) | (simp (disch := omega) only [rI, rIe, rA, rIA, rLA, rJA, rVI, rQI, rVA, rQA, upd_at,  rAI, rLI, rJI, nI_add, pk_sub, kc_0, kc_1, kc_2, kc_3, kc_4, kc_5, reduceIte, Nat.reduceEqDiff, Nat.add_zero, rI_hold, hp]; exact congrArg nI (by omega))) ?_
  refine Bod.ic 1 (by decide) dc_68_29 ?_
  refine Bod.addN (p + 1) (by omega) dc_68_30 ?_
  refine Bod.go dc_68_31 rfl ?_
  refine Bod.iastN (p + 1) rfl (by omega) (by omega) dc_68_32 (mk_24 _) (sa_24 _ _ _) (mu_A _ _ _ _) ?_
  refine Bod.go dc_68_33 rfl ?_
  refine Bod.get dc_68_34 fr_68_12 (mk_23 _) rfl ?_
  refine Bod.go dc_68_37 rfl ?_
  refine Bod.get dc_68_38 fr_68_35 (mk_23 _) rfl ?_
  refine Bod.eqI (nI p) (by first | (simp (disch := omega) only [rI, rIe, rA, rIA, rLA, rJA, rVI, rQI, rVA, rQA, upd_at,  rAI, rLI, rJI, nI_add, pk_sub, kc_0, kc_1, kc_2, kc_3, kc_4, kc_5, reduceIte, Nat.reduceEqDiff, Nat.add_zero, rI_hold, hp]; done) | (simp (disch := omega) only [rI, rIe, rA, rIA, rLA, rJA, rVI, rQI, rVA, rQA, upd_at,  rAI, rLI, rJI, nI_add, pk_sub, kc_0, kc_1, kc_2, kc_3, kc_4, kc_5, reduceIte, Nat.reduceEqDiff, Nat.add_zero, rI_hold, hp]; exact congrArg nI (by omega))) ?_
  refine Bod.ic 2 (by decide) dc_68_41 ?_
  refine Bod.addN (p + 2) (by omega) dc_68_42 ?_
  refine Bod.go dc_68_43 rfl ?_
  refine Bod.iastN (p + 2) rfl (by omega) (by omega) dc_68_44 (mk_24 _) (sa_24 _ _ _) (mu_A _ _ _ _) ?_
  refine Bod.go dc_68_45 rfl ?_
  refine Bod.go dc_68_46 rfl ?_
  refine Bod.get dc_68_47 fr_68_35 (mk_23 _) rfl ?_
  refine Bod.eqI (nI p) (by first | (simp (disch := omega) only [rI, rIe, rA, rIA, rLA, rJA, rVI, rQI, rVA, rQA, upd_at,  rAI, rLI, rJI, nI_add, pk_sub, kc_0, kc_1, kc_2, kc_3, kc_4, kc_5, reduceIte, Nat.reduceEqDiff, Nat.add_zero, rI_hold, hp]; done) | (simp (disch := omega) only [rI, rIe, rA, rIA, rLA, rJA, rVI, rQI, rVA, rQA, upd_at,  rAI, rLI, rJI, nI_add, pk_sub, kc_0, kc_1, kc_2, kc_3, kc_4, kc_5, reduceIte, Nat.reduceEqDiff, Nat.add_zero, rI_hold, hp]; exact congrArg nI (by omega))) ?_
  refine Bod.ic 3 (by decide) dc_68_50 ?_
  refine Bod.addN (p + 3) (by omega) dc_68_51 ?_
  refine Bod.put dc_68_52 fr_68_35 (mk_23 _) (Nat.le_of_ble_eq_true rfl) pf_7_7 (st_2307 _ _) (mu_I _ _ _) ?_
  refine Bod.go dc_68_55 rfl ?_
  refine Bod.get dc_68_56 fr_68_35 (mk_23 _) rfl ?_
  refine Bod.eqI (nI (p + 3)) (by first | (simp (disch := omega) only [rI, rIe, rA, rIA, rLA, rJA, rVI, rQI, rVA, rQA, upd_at,  rAI, rLI, rJI, nI_add, pk_sub, kc_0, kc_1, kc_2, kc_3, kc_4, kc_5, reduceIte, Nat.reduceEqDiff, Nat.add_zero, rI_hold, hp]; done) | (simp (disch := omega) only [rI, rIe, rA, rIA, rLA, rJA, rVI, rQI, rVA, rQA, upd_at,  rAI, rLI, rJI, nI_add, pk_sub, kc_0, kc_1, kc_2, kc_3, kc_4, kc_5, reduceIte, Nat.reduceEqDiff, Nat.add_zero, rI_hold, hp]; exact congrArg nI (by omega))) ?_
  refine Bod.ic 3 (by decide) dc_68_59 ?_
  refine Bod.subN p (by omega) (by omega) dc_68_60 ?_
  exact Bod.retI dc_68_61 rt_68
theorem patch_T {d : Nat} {S : cS} {p : Nat} {q : Nat} {x : Int32} (hp : sI S 2307 = nI p) (hq : q < p) (hM : p ≤ 40960) : Ans (d + 1) 83 [.ref 23, .int (nI q), .int x] S (none) (wA 24 q x S) := by
  refine Ans.of (by rw [ml_83]; exact Nat.le_of_ble_eq_true rfl) ?_
  refine Bod.go dc_83_0 rfl ?_
  refine Bod.ifF dc_83_1 rfl (k1_lt_F q rfl (by omega)) ?_
  refine Bod.go dc_83_4 rfl ?_
  refine Bod.go dc_83_5 rfl ?_
  refine Bod.get dc_83_6 fr_83_35 (mk_23 _) rfl ?_
  refine Bod.eqI (nI p) (by first | assumption | rfl | exact congrArg nI (by omega) | (simp (disch := omega) only [rI, rIe, rA, rIA, rLA, rJA, rVI, rQI, rVA, rQA, upd_at,  rAI, rLI, rJI, nI_add, pk_sub, kc_0, kc_1, kc_2, kc_3, kc_4, kc_5, reduceIte, Nat.reduceEqDiff, Nat.add_zero, rI_hold, hp]; done)) ?_
  refine Bod.icF dc_83_9 rfl (k2_ge_F q p rfl rfl (by omega) (by omega)) ?_
  refine Bod.go dc_83_12 rfl ?_
  refine Bod.ldcN 40960 (by decide) dc_83_13 ci_83_11 ?_
  refine Bod.icF dc_83_15 rfl (k2_ge_F q 40960 rfl rfl (by omega) (by omega)) ?_
  refine Bod.go dc_83_18 rfl ?_
  refine Bod.get dc_83_19 fr_83_12 (mk_23 _) rfl ?_
  refine Bod.go dc_83_22 rfl ?_
  refine Bod.go dc_83_23 rfl ?_
  refine Bod.iastN q rfl (by omega) (by omega) dc_83_24 (mk_24 _) (sa_24 _ _ _) (mu_A _ _ _ _) ?_
  exact Bod.retV dc_83_25 rt_83
theorem isConstant_T {d : Nat} {S : cS} {q : Nat} (hq : q < 5200) : Ans (d + 1) 164 [.ref 23, .int (nI q)] S (some (.int 1)) (S) := by
  refine Ans.of (by rw [ml_164]; exact Nat.le_of_ble_eq_true rfl) ?_
  refine Bod.go dc_164_0 rfl ?_
  refine Bod.ifF dc_164_1 rfl (k1_lt_F q rfl (by omega)) ?_
  refine Bod.go dc_164_4 rfl ?_
  refine Bod.sip 5200 (by decide) dc_164_5 ?_
  refine Bod.icF dc_164_8 rfl (k2_ge_F q 5200 rfl rfl (by omega) (by omega)) ?_
  refine Bod.ic 1 (by decide) dc_164_11 ?_
  refine Bod.go dc_164_12 rfl ?_
  exact Bod.retZ dc_164_16 rt_164 (Or.inr rfl)
theorem constantHi_T {d : Nat} {S : cS} {q : Nat} (hq : q < 5200) : Ans (d + 2) 163 [.ref 23, .int (nI q)] S (some (.long (sL S 25 q))) (S) := by
  refine Ans.of (by rw [ml_163]; exact Nat.le_of_ble_eq_true rfl) ?_
  refine Bod.go dc_163_0 rfl ?_
  refine Bod.go dc_163_1 rfl ?_
  refine Bod.virt (r := []) dc_163_2 kr_163_54 ⟨Or.inl rfl, ow_164, cl_7⟩ (by rw [np_164]; rfl) (by rw [np_164]; rfl) (ob_of (mk_23 _)) (Nat.le_of_ble_eq_true rfl) (isConstant_T (q := q) (by omega)) ?_
  show Bod _ _ _ _ [_] _ _ _
  refine Bod.ifF dc_163_5 rfl (k1_eq_F (k_ne 1 0 rfl rfl (by omega) (by omega) (by omega))) ?_
  refine Bod.go dc_163_8 rfl ?_
  refine Bod.get dc_163_9 fr_163_16 (mk_23 _) rfl ?_
  refine Bod.go dc_163_12 rfl ?_
  refine Bod.laldN q rfl (by omega) (by omega) dc_163_13 (mk_25 _) ?_
  refine Bod.go dc_163_14 rfl ?_
  exact Bod.retJ dc_163_20 rt_163
theorem constantLo_T {d : Nat} {S : cS} {q : Nat} (hq : q < 5200) : Ans (d + 2) 165 [.ref 23, .int (nI q)] S (some (.long (sL S 26 q))) (S) := by
  refine Ans.of (by rw [ml_165]; exact Nat.le_of_ble_eq_true rfl) ?_
  refine Bod.go dc_165_0 rfl ?_
  refine Bod.go dc_165_1 rfl ?_
  refine Bod.virt (r := []) dc_165_2 kr_165_54 ⟨Or.inl rfl, ow_164, cl_7⟩ (by rw [np_164]; rfl) (by rw [np_164]; rfl) (ob_of (mk_23 _)) (Nat.le_of_ble_eq_true rfl) (isConstant_T (q := q) (by omega)) ?_
  show Bod _ _ _ _ [_] _ _ _
  refine Bod.ifF dc_165_5 rfl (k1_eq_F (k_ne 1 0 rfl rfl (by omega) (by omega) (by omega))) ?_
  refine Bod.go dc_165_8 rfl ?_
  refine Bod.get dc_165_9 fr_165_20 (mk_23 _) rfl ?_
  refine Bod.go dc_165_12 rfl ?_
  refine Bod.laldN q rfl (by omega) (by omega) dc_165_13 (mk_26 _) ?_
  refine Bod.go dc_165_14 rfl ?_
  exact Bod.retJ dc_165_18 rt_165
theorem putConstant_ev {d : Nat} {S : cS} {p : Nat} {c : Nat} {hi : Int64} {lo : Int64} (hp : sI S 2307 = nI p) (hc : sI S 2308 = nI c) (hM : p + 2 ≤ 40960) (hC : c < 5200) : Ans (d + 3) 73 [.ref 23, .long hi, .long lo] S (none) (wI 2307 (nI (p + 2)) (wA 24 (p + 1) (nI c) (wA 24 p (nI 16) (wI 2308 (nI (c + 1)) (wL 26 c lo (wL 25 c hi S)))))) := by
  refine Ans.of (by rw [ml_73]; exact Nat.le_of_ble_eq_true rfl) ?_
  refine Bod.go dc_73_0 rfl ?_
  refine Bod.get dc_73_1 fr_73_47 (mk_23 _) rfl ?_
  refine Bod.eqI (nI c) (by first | assumption | rfl | exact congrArg nI (by omega) | (simp (disch := omega) only [rI, rIe, rA, rIA, rLA, rJA, rVI, rQI, rVA, rQA, upd_at,  rAI, rLI, rJI, nI_add, pk_sub, kc_0, kc_1, kc_2, kc_3, kc_4, kc_5, reduceIte, Nat.reduceEqDiff, Nat.add_zero, rI_hold, hp, hc]; done)) ?_
  refine Bod.sip 5200 (by decide) dc_73_4 ?_
  refine Bod.icF dc_73_7 rfl (k2_ge_F c 5200 rfl rfl (by omega) (by omega)) ?_
  refine Bod.go dc_73_10 rfl ?_
  refine Bod.get dc_73_11 fr_73_16 (mk_23 _) rfl ?_
  refine Bod.go dc_73_14 rfl ?_
  refine Bod.get dc_73_15 fr_73_47 (mk_23 _) rfl ?_
  refine Bod.eqI (nI c) (by first | assumption | rfl | exact congrArg nI (by omega) | (simp (disch := omega) only [rI, rIe, rA, rIA, rLA, rJA, rVI, rQI, rVA, rQA, upd_at,  rAI, rLI, rJI, nI_add, pk_sub, kc_0, kc_1, kc_2, kc_3, kc_4, kc_5, reduceIte, Nat.reduceEqDiff, Nat.add_zero, rI_hold, hp, hc]; done)) ?_
  refine Bod.go dc_73_18 rfl ?_
  refine Bod.lastN c rfl (by omega) (by omega) dc_73_19 (mk_25 _) (sa_25 _ _ _) (mu_L _ _ _ _) ?_
  refine Bod.go dc_73_20 rfl ?_
  refine Bod.get dc_73_21 fr_73_20 (mk_23 _) rfl ?_
  refine Bod.go dc_73_24 rfl ?_
  refine Bod.get dc_73_25 fr_73_47 (mk_23 _) rfl ?_
  refine Bod.eqI (nI c) (by first | (simp (disch := omega) only [rI, rIe, rA, rIA, rLA, rJA, rVI, rQI, rVA, rQA, upd_at,  rAI, rLI, rJI, nI_add, pk_sub, kc_0, kc_1, kc_2, kc_3, kc_4, kc_5, reduceIte, Nat.reduceEqDiff, Nat.add_zero, rI_hold, hp, hc]; done) | (simp (disch := omega) only [rI, rIe, rA, rIA, rLA, rJA, rVI, rQI, rVA, rQA, upd_at,  rAI, rLI, rJI, nI_add, pk_sub, kc_0, kc_1, kc_2, kc_3, kc_4, kc_5, reduceIte, Nat.reduceEqDiff, Nat.add_zero, rI_hold, hp, hc]; exact congrArg nI (by omega))) ?_
  refine Bod.go dc_73_28 rfl ?_
  refine Bod.lastN c rfl (by omega) (by omega) dc_73_29 (mk_26 _) (sa_26 _ _ _) (mu_L _ _ _ _) ?_
  refine Bod.go dc_73_30 rfl ?_
  refine Bod.go dc_73_31 rfl ?_
  refine Bod.get dc_73_32 fr_73_47 (mk_23 _) rfl ?_
  refine Bod.eqI (nI c) (by first | (simp (disch := omega) only [rI, rIe, rA, rIA, rLA, rJA, rVI, rQI, rVA, rQA, upd_at,  rAI, rLI, rJI, nI_add, pk_sub, kc_0, kc_1, kc_2, kc_3, kc_4, kc_5, reduceIte, Nat.reduceEqDiff, Nat.add_zero, rI_hold, hp, hc]; done) | (simp (disch := omega) only [rI, rIe, rA, rIA, rLA, rJA, rVI, rQI, rVA, rQA, upd_at,  rAI, rLI, rJI, nI_add, pk_sub, kc_0, kc_1, kc_2, kc_3, kc_4, kc_5, reduceIte, Nat.reduceEqDiff, Nat.add_zero, rI_hold, hp, hc]; exact congrArg nI (by omega))) ?_
  refine Bod.ic 1 (by decide) dc_73_35 ?_
  refine Bod.addN (c + 1) (by omega) dc_73_36 ?_
  refine Bod.put dc_73_37 fr_73_47 (mk_23 _) (Nat.le_of_ble_eq_true rfl) pf_7_8 (st_2308 _ _) (mu_I _ _ _) ?_
  refine Bod.go dc_73_40 rfl ?_
  refine Bod.go dc_73_48 rfl ?_
  refine Bod.bip 16 (by decide) dc_73_49 ?_
  refine Bod.go dc_73_51 rfl ?_
  refine Bod.get dc_73_52 fr_73_47 (mk_23 _) rfl ?_
  refine Bod.eqI (nI (c + 1)) (by first | (simp (disch := omega) only [rI, rIe, rA, rIA, rLA, rJA, rVI, rQI, rVA, rQA, upd_at,  rAI, rLI, rJI, nI_add, pk_sub, kc_0, kc_1, kc_2, kc_3, kc_4, kc_5, reduceIte, Nat.reduceEqDiff, Nat.add_zero, rI_hold, hp, hc]; done) | (simp (disch := omega) only [rI, rIe, rA, rIA, rLA, rJA, rVI, rQI, rVA, rQA, upd_at,  rAI, rLI, rJI, nI_add, pk_sub, kc_0, kc_1, kc_2, kc_3, kc_4, kc_5, reduceIte, Nat.reduceEqDiff, Nat.add_zero, rI_hold, hp, hc]; exact congrArg nI (by omega))) ?_
  refine Bod.ic 1 (by decide) dc_73_55 ?_
  refine Bod.subN c (by omega) (by omega) dc_73_56 ?_
  refine Bod.virt (r := []) dc_73_57 kr_73_50 ⟨Or.inl rfl, ow_54, cl_7⟩ (by rw [np_54]; rfl) (by rw [np_54]; rfl) (ob_of (mk_23 _)) (Nat.le_of_ble_eq_true rfl) (put2_ev (p := p) (x0 := nI 16) (x1 := nI c) (by first | (simp (disch := omega) only [rI, rIe, rA, rIA, rLA, rJA, rVI, rQI, rVA, rQA, upd_at,  rAI, rLI, rJI, nI_add, pk_sub, kc_0, kc_1, kc_2, kc_3, kc_4, kc_5, reduceIte, Nat.reduceEqDiff, Nat.add_zero, rI_hold, hp, hc]; done) | (simp (disch := omega) only [rI, rIe, rA, rIA, rLA, rJA, rVI, rQI, rVA, rQA, upd_at,  rAI, rLI, rJI, nI_add, pk_sub, kc_0, kc_1, kc_2, kc_3, kc_4, kc_5, reduceIte, Nat.reduceEqDiff, Nat.add_zero, rI_hold, hp, hc]; exact congrArg nI (by omega))) (by omega)) ?_
  show Bod _ _ _ _ [_] _ _ _
  refine Bod.go dc_73_60 rfl ?_
  exact Bod.retV dc_73_61 rt_73
theorem isFunction_T {d : Nat} {S : cS} {q : Nat} (hq : q < 900) : Ans (d + 1) 103 [.ref 23, .int (nI q)] S (some (.int 1)) (S) := by
  refine Ans.of (by rw [ml_103]; exact Nat.le_of_ble_eq_true rfl) ?_
  refine Bod.go dc_103_0 rfl ?_
  refine Bod.ifF dc_103_1 rfl (k1_lt_F q rfl (by omega)) ?_
  refine Bod.go dc_103_4 rfl ?_
  refine Bod.sip 900 (by decide) dc_103_5 ?_
  refine Bod.icF dc_103_8 rfl (k2_ge_F q 900 rfl rfl (by omega) (by omega)) ?_
  refine Bod.ic 1 (by decide) dc_103_11 ?_
  refine Bod.go dc_103_12 rfl ?_
  exact Bod.retZ dc_103_16 rt_103 (Or.inr rfl)
theorem startOf_T {d : Nat} {S : cS} {q : Nat} (hq : q < 900) : Ans (d + 2) 263 [.ref 23, .int (nI q)] S (some (.int (sA S 27 q))) (S) := by
  refine Ans.of (by rw [ml_263]; exact Nat.le_of_ble_eq_true rfl) ?_
  refine Bod.go dc_263_0 rfl ?_
  refine Bod.go dc_263_1 rfl ?_
  refine Bod.virt (r := []) dc_263_2 kr_263_62 ⟨Or.inl rfl, ow_103, cl_7⟩ (by rw [np_103]; rfl) (by rw [np_103]; rfl) (ob_of (mk_23 _)) (Nat.le_of_ble_eq_true rfl) (isFunction_T (q := q) (by omega)) ?_
  show Bod _ _ _ _ [_] _ _ _
  refine Bod.ifF dc_263_5 rfl (k1_eq_F (k_ne 1 0 rfl rfl (by omega) (by omega) (by omega))) ?_
  refine Bod.go dc_263_8 rfl ?_
  refine Bod.get dc_263_9 fr_263_23 (mk_23 _) rfl ?_
  refine Bod.go dc_263_12 rfl ?_
  refine Bod.ialdN q rfl (by omega) (by omega) dc_263_13 (mk_27 _) ?_
  refine Bod.go dc_263_14 rfl ?_
  exact Bod.retI dc_263_19 rt_263
theorem parametersOf_T {d : Nat} {S : cS} {q : Nat} (hq : q < 900) : Ans (d + 2) 255 [.ref 23, .int (nI q)] S (some (.int (sA S 28 q))) (S) := by
  refine Ans.of (by rw [ml_255]; exact Nat.le_of_ble_eq_true rfl) ?_
  refine Bod.go dc_255_0 rfl ?_
  refine Bod.go dc_255_1 rfl ?_
  refine Bod.virt (r := []) dc_255_2 kr_255_62 ⟨Or.inl rfl, ow_103, cl_7⟩ (by rw [np_103]; rfl) (by rw [np_103]; rfl) (ob_of (mk_23 _)) (Nat.le_of_ble_eq_true rfl) (isFunction_T (q := q) (by omega)) ?_
  show Bod _ _ _ _ [_] _ _ _
  refine Bod.ifF dc_255_5 rfl (k1_eq_F (k_ne 1 0 rfl rfl (by omega) (by omega) (by omega))) ?_
  refine Bod.go dc_255_8 rfl ?_
  refine Bod.get dc_255_9 fr_255_26 (mk_23 _) rfl ?_
  refine Bod.go dc_255_12 rfl ?_
  refine Bod.ialdN q rfl (by omega) (by omega) dc_255_13 (mk_28 _) ?_
  refine Bod.go dc_255_14 rfl ?_
  exact Bod.retI dc_255_18 rt_255
theorem localsOf_T {d : Nat} {S : cS} {q : Nat} (hq : q < 900) : Ans (d + 2) 256 [.ref 23, .int (nI q)] S (some (.int (sA S 29 q))) (S) := by
  refine Ans.of (by rw [ml_256]; exact Nat.le_of_ble_eq_true rfl) ?_
  refine Bod.go dc_256_0 rfl ?_
  refine Bod.go dc_256_1 rfl ?_
  refine Bod.virt (r := []) dc_256_2 kr_256_62 ⟨Or.inl rfl, ow_103, cl_7⟩ (by rw [np_103]; rfl) (by rw [np_103]; rfl) (ob_of (mk_23 _)) (Nat.le_of_ble_eq_true rfl) (isFunction_T (q := q) (by omega)) ?_
  show Bod _ _ _ _ [_] _ _ _
  refine Bod.ifF dc_256_5 rfl (k1_eq_F (k_ne 1 0 rfl rfl (by omega) (by omega) (by omega))) ?_
  refine Bod.go dc_256_8 rfl ?_
  refine Bod.get dc_256_9 fr_256_29 (mk_23 _) rfl ?_
  refine Bod.go dc_256_12 rfl ?_
  refine Bod.ialdN q rfl (by omega) (by omega) dc_256_13 (mk_29 _) ?_
  refine Bod.go dc_256_14 rfl ?_
  exact Bod.retI dc_256_18 rt_256
theorem titleOf_T {d : Nat} {S : cS} {q : Nat} (hq : q < 900) : Ans (d + 2) 242 [.ref 23, .int (nI q)] S (some (.int (sA S 30 q))) (S) := by
  refine Ans.of (by rw [ml_242]; exact Nat.le_of_ble_eq_true rfl) ?_
  refine Bod.go dc_242_0 rfl ?_
  refine Bod.go dc_242_1 rfl ?_
  refine Bod.virt (r := []) dc_242_2 kr_242_62 ⟨Or.inl rfl, ow_103, cl_7⟩ (by rw [np_103]; rfl) (by rw [np_103]; rfl) (ob_of (mk_23 _)) (Nat.le_of_ble_eq_true rfl) (isFunction_T (q := q) (by omega)) ?_
  show Bod _ _ _ _ [_] _ _ _
  refine Bod.ifF dc_242_5 rfl (k1_eq_F (k_ne 1 0 rfl rfl (by omega) (by omega) (by omega))) ?_
  refine Bod.go dc_242_8 rfl ?_
  refine Bod.get dc_242_9 fr_242_32 (mk_23 _) rfl ?_
  refine Bod.go dc_242_12 rfl ?_
  refine Bod.ialdN q rfl (by omega) (by omega) dc_242_13 (mk_30 _) ?_
  refine Bod.go dc_242_14 rfl ?_
  exact Bod.retI dc_242_18 rt_242
theorem addFunction_ev {d : Nat} {S : cS} {p : Nat} {f : Nat} {x : Int32} (hp : sI S 2307 = nI p) (hf : sI S 2309 = nI f) (hF : f < 900) : Ans (d + 1) 98 [.ref 23, .int x] S (some (.int (nI f))) (wI 2309 (nI (f + 1)) (wA 29 f (nI 0) (wA 28 f (nI 0) (wA 27 f (nI p) (wA 30 f x S))))) := by
  refine Ans.of (by rw [ml_98]; exact Nat.le_of_ble_eq_true rfl) ?_
  refine Bod.go dc_98_0 rfl ?_
  refine Bod.get dc_98_1 fr_98_59 (mk_23 _) rfl ?_
  refine Bod.eqI (nI f) (by first | assumption | rfl | exact congrArg nI (by omega) | (simp (disch := omega) only [rI, rIe, rA, rIA, rLA, rJA, rVI, rQI, rVA, rQA, upd_at,  rAI, rLI, rJI, nI_add, pk_sub, kc_0, kc_1, kc_2, kc_3, kc_4, kc_5, reduceIte, Nat.reduceEqDiff, Nat.add_zero, rI_hold, hp, hf]; done)) ?_
  refine Bod.sip 900 (by decide) dc_98_4 ?_
  refine Bod.icT dc_98_7 rfl (k2_lt_T f 900 rfl rfl (by omega) (by omega)) ?_
  refine Bod.go dc_98_19 rfl ?_
  refine Bod.get dc_98_20 fr_98_32 (mk_23 _) rfl ?_
  refine Bod.go dc_98_23 rfl ?_
  refine Bod.get dc_98_24 fr_98_59 (mk_23 _) rfl ?_
  refine Bod.eqI (nI f) (by first | assumption | rfl | exact congrArg nI (by omega) | (simp (disch := omega) only [rI, rIe, rA, rIA, rLA, rJA, rVI, rQI, rVA, rQA, upd_at,  rAI, rLI, rJI, nI_add, pk_sub, kc_0, kc_1, kc_2, kc_3, kc_4, kc_5, reduceIte, Nat.reduceEqDiff, Nat.add_zero, rI_hold, hp, hf]; done)) ?_
  refine Bod.go dc_98_27 rfl ?_
  refine Bod.iastN f rfl (by omega) (by omega) dc_98_28 (mk_30 _) (sa_30 _ _ _) (mu_A _ _ _ _) ?_
  refine Bod.go dc_98_29 rfl ?_
  refine Bod.get dc_98_30 fr_98_23 (mk_23 _) rfl ?_
  refine Bod.go dc_98_33 rfl ?_
  refine Bod.get dc_98_34 fr_98_59 (mk_23 _) rfl ?_
  refine Bod.eqI (nI f) (by first | (simp (disch := omega) only [rI, rIe, rA, rIA, rLA, rJA, rVI, rQI, rVA, rQA, upd_at,  rAI, rLI, rJI, nI_add, pk_sub, kc_0, kc_1, kc_2, kc_3, kc_4, kc_5, reduceIte, Nat.reduceEqDiff, Nat.add_zero, rI_hold, hp, hf]; done) | (simp (disch := omega) only [rI, rIe, rA, rIA, rLA, rJA, rVI, rQI, rVA, rQA, upd_at,  rAI, rLI, rJI, nI_add, pk_sub, kc_0, kc_1, kc_2, kc_3, kc_4, kc_5, reduceIte, Nat.reduceEqDiff, Nat.add_zero, rI_hold, hp, hf]; exact congrArg nI (by omega))) ?_
  refine Bod.go dc_98_37 rfl ?_
  refine Bod.get dc_98_38 fr_98_35 (mk_23 _) rfl ?_
  refine Bod.eqI (nI p) (by first | (simp (disch := omega) only [rI, rIe, rA, rIA, rLA, rJA, rVI, rQI, rVA, rQA, upd_at,  rAI, rLI, rJI, nI_add, pk_sub, kc_0, kc_1, kc_2, kc_3, kc_4, kc_5, reduceIte, Nat.reduceEqDiff, Nat.add_zero, rI_hold, hp, hf]; done) | (simp (disch := omega) only [rI, rIe, rA, rIA, rLA, rJA, rVI, rQI, rVA, rQA, upd_at,  rAI, rLI, rJI, nI_add, pk_sub, kc_0, kc_1, kc_2, kc_3, kc_4, kc_5, reduceIte, Nat.reduceEqDiff, Nat.add_zero, rI_hold, hp, hf]; exact congrArg nI (by omega))) ?_
  refine Bod.iastN f rfl (by omega) (by omega) dc_98_41 (mk_27 _) (sa_27 _ _ _) (mu_A _ _ _ _) ?_
  refine Bod.go dc_98_42 rfl ?_
  refine Bod.get dc_98_43 fr_98_26 (mk_23 _) rfl ?_
  refine Bod.go dc_98_46 rfl ?_
  refine Bod.get dc_98_47 fr_98_59 (mk_23 _) rfl ?_
  refine Bod.eqI (nI f) (by first | (simp (disch := omega) only [rI, rIe, rA, rIA, rLA, rJA, rVI, rQI, rVA, rQA, upd_at,  rAI, rLI, rJI, nI_add, pk_sub, kc_0, kc_1, kc_2, kc_3, kc_4, kc_5, reduceIte, Nat.reduceEqDiff, Nat.add_zero, rI_hold, hp, hf]; done) | (simp (disch := omega) only [rI, rIe, rA, rIA, rLA, rJA, rVI, rQI, rVA, rQA, upd_at,  rAI, rLI, rJI, nI_add, pk_sub, kc_0, kc_1, kc_2, kc_3, kc_4, kc_5, reduceIte, Nat.reduceEqDiff, Nat.add_zero, rI_hold, hp, hf]; exact congrArg nI (by omega))) ?_
  refine Bod.ic 0 (by decide) dc_98_50 ?_
  refine Bod.iastN f rfl (by omega) (by omega) dc_98_51 (mk_28 _) (sa_28 _ _ _) (mu_A _ _ _ _) ?_
  refine Bod.go dc_98_52 rfl ?_
  refine Bod.get dc_98_53 fr_98_29 (mk_23 _) rfl ?_
  refine Bod.go dc_98_56 rfl ?_
  refine Bod.get dc_98_57 fr_98_59 (mk_23 _) rfl ?_
  refine Bod.eqI (nI f) (by first | (simp (disch := omega) only [rI, rIe, rA, rIA, rLA, rJA, rVI, rQI, rVA, rQA, upd_at,  rAI, rLI, rJI, nI_add, pk_sub, kc_0, kc_1, kc_2, kc_3, kc_4, kc_5, reduceIte, Nat.reduceEqDiff, Nat.add_zero, rI_hold, hp, hf]; done) | (simp (disch := omega) only [rI, rIe, rA, rIA, rLA, rJA, rVI, rQI, rVA, rQA, upd_at,  rAI, rLI, rJI, nI_add, pk_sub, kc_0, kc_1, kc_2, kc_3, kc_4, kc_5, reduceIte, Nat.reduceEqDiff, Nat.add_zero, rI_hold, hp, hf]; exact congrArg nI (by omega))) ?_
  refine Bod.ic 0 (by decide) dc_98_60 ?_
  refine Bod.iastN f rfl (by omega) (by omega) dc_98_61 (mk_29 _) (sa_29 _ _ _) (mu_A _ _ _ _) ?_
  refine Bod.go dc_98_62 rfl ?_
  refine Bod.go dc_98_63 rfl ?_
  refine Bod.get dc_98_64 fr_98_59 (mk_23 _) rfl ?_
  refine Bod.eqI (nI f) (by first | (simp (disch := omega) only [rI, rIe, rA, rIA, rLA, rJA, rVI, rQI, rVA, rQA, upd_at,  rAI, rLI, rJI, nI_add, pk_sub, kc_0, kc_1, kc_2, kc_3, kc_4, kc_5, reduceIte, Nat.reduceEqDiff, Nat.add_zero, rI_hold, hp, hf]; done) | (simp (disch := omega) only [rI, rIe, rA, rIA, rLA, rJA, rVI, rQI, rVA, rQA, upd_at,  rAI, rLI, rJI, nI_add, pk_sub, kc_0, kc_1, kc_2, kc_3, kc_4, kc_5, reduceIte, Nat.reduceEqDiff, Nat.add_zero, rI_hold, hp, hf]; exact congrArg nI (by omega))) ?_
  refine Bod.ic 1 (by decide) dc_98_67 ?_
  refine Bod.addN (f + 1) (by omega) dc_98_68 ?_
  refine Bod.put dc_98_69 fr_98_59 (mk_23 _) (Nat.le_of_ble_eq_true rfl) pf_7_9 (st_2309 _ _) (mu_I _ _ _) ?_
  refine Bod.go dc_98_72 rfl ?_
  refine Bod.get dc_98_73 fr_98_59 (mk_23 _) rfl ?_
  refine Bod.eqI (nI (f + 1)) (by first | (simp (disch := omega) only [rI, rIe, rA, rIA, rLA, rJA, rVI, rQI, rVA, rQA, upd_at,  rAI, rLI, rJI, nI_add, pk_sub, kc_0, kc_1, kc_2, kc_3, kc_4, kc_5, reduceIte, Nat.reduceEqDiff, Nat.add_zero, rI_hold, hp, hf]; done) | (simp (disch := omega) only [rI, rIe, rA, rIA, rLA, rJA, rVI, rQI, rVA, rQA, upd_at,  rAI, rLI, rJI, nI_add, pk_sub, kc_0, kc_1, kc_2, kc_3, kc_4, kc_5, reduceIte, Nat.reduceEqDiff, Nat.add_zero, rI_hold, hp, hf]; exact congrArg nI (by omega))) ?_
  refine Bod.ic 1 (by decide) dc_98_76 ?_
  refine Bod.subN f (by omega) (by omega) dc_98_77 ?_
  exact Bod.retI dc_98_78 rt_98
theorem addParameter_T {d : Nat} {S : cS} {q : Nat} (hq : q < 900) : Ans (d + 2) 102 [.ref 23, .int (nI q)] S (none) (wA 28 q ((sA S 28 q) + (nI 1)) S) := by
  refine Ans.of (by rw [ml_102]; exact Nat.le_of_ble_eq_true rfl) ?_
  refine Bod.go dc_102_0 rfl ?_
  refine Bod.go dc_102_1 rfl ?_
  refine Bod.virt (r := []) dc_102_2 kr_102_62 ⟨Or.inl rfl, ow_103, cl_7⟩ (by rw [np_103]; rfl) (by rw [np_103]; rfl) (ob_of (mk_23 _)) (Nat.le_of_ble_eq_true rfl) (isFunction_T (q := q) (by omega)) ?_
  show Bod _ _ _ _ [_] _ _ _
  refine Bod.ifF dc_102_5 rfl (k1_eq_F (k_ne 1 0 rfl rfl (by omega) (by omega) (by omega))) ?_
  refine Bod.go dc_102_8 rfl ?_
  refine Bod.get dc_102_9 fr_102_26 (mk_23 _) rfl ?_
  refine Bod.go dc_102_12 rfl ?_
  refine Bod.go dc_102_13 rfl ?_
  refine Bod.ialdN q rfl (by omega) (by omega) dc_102_14 (mk_28 _) ?_
  refine Bod.ic 1 (by decide) dc_102_15 ?_
  refine Bod.go dc_102_16 rfl ?_
  refine Bod.iastN q rfl (by omega) (by omega) dc_102_17 (mk_28 _) (sa_28 _ _ _) (mu_A _ _ _ _) ?_
  exact Bod.retV dc_102_18 rt_102
theorem addLocal_T {d : Nat} {S : cS} {q : Nat} (hq : q < 900) : Ans (d + 2) 124 [.ref 23, .int (nI q)] S (some (.int ((sA (wA 29 q ((sA S 29 q) + (nI 1)) S) 29 q) - (nI 1)))) (wA 29 q ((sA S 29 q) + (nI 1)) S) := by
  refine Ans.of (by rw [ml_124]; exact Nat.le_of_ble_eq_true rfl) ?_
  refine Bod.go dc_124_0 rfl ?_
  refine Bod.go dc_124_1 rfl ?_
  refine Bod.virt (r := []) dc_124_2 kr_124_62 ⟨Or.inl rfl, ow_103, cl_7⟩ (by rw [np_103]; rfl) (by rw [np_103]; rfl) (ob_of (mk_23 _)) (Nat.le_of_ble_eq_true rfl) (isFunction_T (q := q) (by omega)) ?_
  show Bod _ _ _ _ [_] _ _ _
  refine Bod.ifT dc_124_5 rfl (k1_ne_T (k_ne 1 0 rfl rfl (by omega) (by omega) (by omega))) ?_
  refine Bod.go dc_124_10 rfl ?_
  refine Bod.get dc_124_11 fr_124_29 (mk_23 _) rfl ?_
  refine Bod.go dc_124_14 rfl ?_
  refine Bod.go dc_124_15 rfl ?_
  refine Bod.ialdN q rfl (by omega) (by omega) dc_124_16 (mk_29 _) ?_
  refine Bod.ic 1 (by decide) dc_124_17 ?_
  refine Bod.go dc_124_18 rfl ?_
  refine Bod.iastN q rfl (by omega) (by omega) dc_124_19 (mk_29 _) (sa_29 _ _ _) (mu_A _ _ _ _) ?_
  refine Bod.go dc_124_20 rfl ?_
  refine Bod.get dc_124_21 fr_124_29 (mk_23 _) rfl ?_
  refine Bod.go dc_124_24 rfl ?_
  refine Bod.ialdN q rfl (by omega) (by omega) dc_124_25 (mk_29 _) ?_
  refine Bod.ic 1 (by decide) dc_124_26 ?_
  refine Bod.go dc_124_27 rfl ?_
  exact Bod.retI dc_124_28 rt_124
theorem cut_ev {d : Nat} {S : cS} {x : Int32} {y : Int32} {z : Int32}  : Ans (d + 1) 118 [.ref 23, .int x, .int y, .int z] S (none) (wI 2309 z (wI 2308 y (wI 2307 x S))) := by
  refine Ans.of (by rw [ml_118]; exact Nat.le_of_ble_eq_true rfl) ?_
  refine Bod.go dc_118_0 rfl ?_
  refine Bod.go dc_118_1 rfl ?_
  refine Bod.put dc_118_2 fr_118_35 (mk_23 _) (Nat.le_of_ble_eq_true rfl) pf_7_7 (st_2307 _ _) (mu_I _ _ _) ?_
  refine Bod.go dc_118_5 rfl ?_
  refine Bod.go dc_118_6 rfl ?_
  refine Bod.put dc_118_7 fr_118_47 (mk_23 _) (Nat.le_of_ble_eq_true rfl) pf_7_8 (st_2308 _ _) (mu_I _ _ _) ?_
  refine Bod.go dc_118_10 rfl ?_
  refine Bod.go dc_118_11 rfl ?_
  refine Bod.put dc_118_12 fr_118_59 (mk_23 _) (Nat.le_of_ble_eq_true rfl) pf_7_9 (st_2309 _ _) (mu_I _ _ _) ?_
  exact Bod.retV dc_118_15 rt_118
theorem known_T {d : Nat} {S : cS} {k : Nat} (hk : k < 4096) : Ans (d + 1) 170 [.ref 16, .int (nI k)] S (some (.int 1)) (S) := by
  refine Ans.of (by rw [ml_170]; exact Nat.le_of_ble_eq_true rfl) ?_
  refine Bod.go dc_170_0 rfl ?_
  refine Bod.ifF dc_170_1 rfl (k1_lt_F k rfl (by omega)) ?_
  refine Bod.go dc_170_4 rfl ?_
  refine Bod.sip 4096 (by decide) dc_170_5 ?_
  refine Bod.icF dc_170_8 rfl (k2_ge_F k 4096 rfl rfl (by omega) (by omega)) ?_
  refine Bod.ic 1 (by decide) dc_170_11 ?_
  refine Bod.go dc_170_12 rfl ?_
  exact Bod.retZ dc_170_16 rt_170 (Or.inr rfl)
theorem nHiOf_T {d : Nat} {S : cS} {k : Nat} (hk : k < 4096) : Ans (d + 2) 169 [.ref 16, .int (nI k)] S (some (.long (sL S 21 k))) (S) := by
  refine Ans.of (by rw [ml_169]; exact Nat.le_of_ble_eq_true rfl) ?_
  refine Bod.go dc_169_0 rfl ?_
  refine Bod.go dc_169_1 rfl ?_
  refine Bod.virt (r := []) dc_169_2 kr_169_81 ⟨Or.inl rfl, ow_170, cl_5⟩ (by rw [np_170]; rfl) (by rw [np_170]; rfl) (ob_of (mk_16 _)) (Nat.le_of_ble_eq_true rfl) (known_T (k := k) (by omega)) ?_
  show Bod _ _ _ _ [_] _ _ _
  refine Bod.ifF dc_169_5 rfl (k1_eq_F (k_ne 1 0 rfl rfl (by omega) (by omega) (by omega))) ?_
  refine Bod.go dc_169_8 rfl ?_
  refine Bod.get dc_169_9 fr_169_29 (mk_16 _) rfl ?_
  refine Bod.go dc_169_12 rfl ?_
  refine Bod.laldN k rfl (by omega) (by omega) dc_169_13 (mk_21 _) ?_
  refine Bod.go dc_169_14 rfl ?_
  exact Bod.retJ dc_169_18 rt_169
theorem nLoOf_T {d : Nat} {S : cS} {k : Nat} (hk : k < 4096) : Ans (d + 2) 171 [.ref 16, .int (nI k)] S (some (.long (sL S 22 k))) (S) := by
  refine Ans.of (by rw [ml_171]; exact Nat.le_of_ble_eq_true rfl) ?_
  refine Bod.go dc_171_0 rfl ?_
  refine Bod.go dc_171_1 rfl ?_
  refine Bod.virt (r := []) dc_171_2 kr_171_81 ⟨Or.inl rfl, ow_170, cl_5⟩ (by rw [np_170]; rfl) (by rw [np_170]; rfl) (ob_of (mk_16 _)) (Nat.le_of_ble_eq_true rfl) (known_T (k := k) (by omega)) ?_
  show Bod _ _ _ _ [_] _ _ _
  refine Bod.ifF dc_171_5 rfl (k1_eq_F (k_ne 1 0 rfl rfl (by omega) (by omega) (by omega))) ?_
  refine Bod.go dc_171_8 rfl ?_
  refine Bod.get dc_171_9 fr_171_32 (mk_16 _) rfl ?_
  refine Bod.go dc_171_12 rfl ?_
  refine Bod.laldN k rfl (by omega) (by omega) dc_171_13 (mk_22 _) ?_
  refine Bod.go dc_171_14 rfl ?_
  exact Bod.retJ dc_171_18 rt_171
theorem nameHi_T {d : Nat} {S : cS} {k : Nat} (hk : k < 4096) : Ans (d + 2) 181 [.ref 16, .int (nI k)] S (some (.long (sL S 17 k))) (S) := by
  refine Ans.of (by rw [ml_181]; exact Nat.le_of_ble_eq_true rfl) ?_
  refine Bod.go dc_181_0 rfl ?_
  refine Bod.go dc_181_1 rfl ?_
  refine Bod.virt (r := []) dc_181_2 kr_181_81 ⟨Or.inl rfl, ow_170, cl_5⟩ (by rw [np_170]; rfl) (by rw [np_170]; rfl) (ob_of (mk_16 _)) (Nat.le_of_ble_eq_true rfl) (known_T (k := k) (by omega)) ?_
  show Bod _ _ _ _ [_] _ _ _
  refine Bod.ifF dc_181_5 rfl (k1_eq_F (k_ne 1 0 rfl rfl (by omega) (by omega) (by omega))) ?_
  refine Bod.go dc_181_8 rfl ?_
  refine Bod.get dc_181_9 fr_181_15 (mk_16 _) rfl ?_
  refine Bod.go dc_181_12 rfl ?_
  refine Bod.laldN k rfl (by omega) (by omega) dc_181_13 (mk_17 _) ?_
  refine Bod.go dc_181_14 rfl ?_
  exact Bod.retJ dc_181_20 rt_181
theorem nameLo_T {d : Nat} {S : cS} {k : Nat} (hk : k < 4096) : Ans (d + 2) 182 [.ref 16, .int (nI k)] S (some (.long (sL S 18 k))) (S) := by
  refine Ans.of (by rw [ml_182]; exact Nat.le_of_ble_eq_true rfl) ?_
  refine Bod.go dc_182_0 rfl ?_
  refine Bod.go dc_182_1 rfl ?_
  refine Bod.virt (r := []) dc_182_2 kr_182_81 ⟨Or.inl rfl, ow_170, cl_5⟩ (by rw [np_170]; rfl) (by rw [np_170]; rfl) (ob_of (mk_16 _)) (Nat.le_of_ble_eq_true rfl) (known_T (k := k) (by omega)) ?_
  show Bod _ _ _ _ [_] _ _ _
  refine Bod.ifF dc_182_5 rfl (k1_eq_F (k_ne 1 0 rfl rfl (by omega) (by omega) (by omega))) ?_
  refine Bod.go dc_182_8 rfl ?_
  refine Bod.get dc_182_9 fr_182_19 (mk_16 _) rfl ?_
  refine Bod.go dc_182_12 rfl ?_
  refine Bod.laldN k rfl (by omega) (by omega) dc_182_13 (mk_18 _) ?_
  refine Bod.go dc_182_14 rfl ?_
  exact Bod.retJ dc_182_18 rt_182
theorem boundCount_ev {d : Nat} {S : cS}   : Ans (d + 1) 275 [.ref 16] S (some (.int (sI S 1608))) (S) := by
  refine Ans.of (by rw [ml_275]; exact Nat.le_of_ble_eq_true rfl) ?_
  refine Bod.go dc_275_0 rfl ?_
  refine Bod.get dc_275_1 fr_275_85 (mk_16 _) rfl ?_
  exact Bod.retI dc_275_4 rt_275
theorem builtInOf_T {d : Nat} {S : cS} {k : Nat} (h0 : 24 ≤ k) (hk : k < 34) : Ans (d + 1) 70 [.int (nI k)] S (some (.int (nI (k - 23)))) (S) := by
  refine Ans.of (by rw [ml_70]; exact Nat.le_of_ble_eq_true rfl) ?_
  refine Bod.go dc_70_0 rfl ?_
  refine Bod.bip 24 (by decide) dc_70_1 ?_
  refine Bod.icF dc_70_3 rfl (k2_lt_F k 24 rfl rfl (by omega) (by omega)) ?_
  refine Bod.go dc_70_6 rfl ?_
  refine Bod.bip 34 (by decide) dc_70_7 ?_
  refine Bod.icF dc_70_9 rfl (k2_ge_F k 34 rfl rfl (by omega) (by omega)) ?_
  refine Bod.go dc_70_12 rfl ?_
  refine Bod.bip 24 (by decide) dc_70_13 ?_
  refine Bod.subN (k - 24) (by omega) (by omega) dc_70_15 ?_
  refine Bod.ic 1 (by decide) dc_70_16 ?_
  refine Bod.addN (k - 23) (by omega) dc_70_17 ?_
  refine Bod.go dc_70_18 rfl ?_
  exact Bod.retI dc_70_22 rt_70
theorem builtInOf_L {d : Nat} {S : cS} {k : Nat} (hk : k < 24) : Ans (d + 1) 70 [.int (nI k)] S (some (.int (nI 0))) (S) := by
  refine Ans.of (by rw [ml_70]; exact Nat.le_of_ble_eq_true rfl) ?_
  refine Bod.go dc_70_0 rfl ?_
  refine Bod.bip 24 (by decide) dc_70_1 ?_
  refine Bod.icT dc_70_3 rfl (k2_lt_T k 24 rfl rfl (by omega) (by omega)) ?_
  refine Bod.ic 0 (by decide) dc_70_21 ?_
  exact Bod.retI dc_70_22 rt_70
theorem builtInOf_H {d : Nat} {S : cS} {k : Nat} (h0 : 34 ≤ k) (hk : k < 2 ^ 31) : Ans (d + 1) 70 [.int (nI k)] S (some (.int (nI 0))) (S) := by
  refine Ans.of (by rw [ml_70]; exact Nat.le_of_ble_eq_true rfl) ?_
  refine Bod.go dc_70_0 rfl ?_
  refine Bod.bip 24 (by decide) dc_70_1 ?_
  refine Bod.icF dc_70_3 rfl (k2_lt_F k 24 rfl rfl (by omega) (by omega)) ?_
  refine Bod.go dc_70_6 rfl ?_
  refine Bod.bip 34 (by decide) dc_70_7 ?_
  refine Bod.icT dc_70_9 rfl (k2_ge_T k 34 rfl rfl (by omega) (by omega)) ?_
  refine Bod.ic 0 (by decide) dc_70_21 ?_
  exact Bod.retI dc_70_22 rt_70
theorem byteAt_T {d : Nat} {S : cS} {n : Nat} {q : Nat} (hn : sI S 3102 = nI n) (hq : q < n) (hM : n ≤ 3000) : Ans (d + 1) 38 [.ref 31, .int (nI q)] S (some (.int ((sA S 1 q) &&& (nI 255)))) (S) := by
  refine Ans.of (by rw [ml_38]; exact Nat.le_of_ble_eq_true rfl) ?_
  refine Bod.go dc_38_0 rfl ?_
  refine Bod.ifF dc_38_1 rfl (k1_lt_F q rfl (by omega)) ?_
  refine Bod.go dc_38_4 rfl ?_
  refine Bod.go dc_38_5 rfl ?_
  refine Bod.get dc_38_6 fr_38_19 (mk_31 _) rfl ?_
  refine Bod.eqI (nI n) (by first | assumption | rfl | exact congrArg nI (by omega) | (simp (disch := omega) only [rI, rIe, rA, rIA, rLA, rJA, rVI, rQI, rVA, rQA, upd_at,  rAI, rLI, rJI, nI_add, pk_sub, kc_0, kc_1, kc_2, kc_3, kc_4, kc_5, reduceIte, Nat.reduceEqDiff, Nat.add_zero, rI_hold, hn]; done)) ?_
  refine Bod.icF dc_38_9 rfl (k2_ge_F q n rfl rfl (by omega) (by omega)) ?_
  refine Bod.go dc_38_12 rfl ?_
  refine Bod.go dc_38_13 rfl ?_
  refine Bod.get dc_38_14 fr_38_9 (mk_31 _) rfl ?_
  refine Bod.alenN dc_38_17 (mk_1 _) (by decide +kernel) ?_
  refine Bod.icF dc_38_18 rfl (k2_ge_F q 3000 rfl rfl (by omega) (by omega)) ?_
  refine Bod.go dc_38_21 rfl ?_
  refine Bod.get dc_38_22 fr_38_9 (mk_31 _) rfl ?_
  refine Bod.go dc_38_25 rfl ?_
  refine Bod.baldN q rfl (by omega) (by omega) dc_38_26 (mk_1 _) (Or.inl rfl) ?_
  refine Bod.sip 255 (by decide) dc_38_27 ?_
  refine Bod.go dc_38_30 rfl ?_
  refine Bod.go dc_38_31 rfl ?_
  exact Bod.retI dc_38_35 rt_38
theorem byteAt_F {d : Nat} {S : cS} {n : Nat} {q : Nat} (hn : sI S 3102 = nI n) (hq : n ≤ q) (hM : q < 2 ^ 31) : Ans (d + 1) 38 [.ref 31, .int (nI q)] S (some (.int (Int32.ofInt (-1)))) (S) := by
  refine Ans.of (by rw [ml_38]; exact Nat.le_of_ble_eq_true rfl) ?_
  refine Bod.go dc_38_0 rfl ?_
  refine Bod.ifF dc_38_1 rfl (k1_lt_F q rfl (by omega)) ?_
  refine Bod.go dc_38_4 rfl ?_
  refine Bod.go dc_38_5 rfl ?_
  refine Bod.get dc_38_6 fr_38_19 (mk_31 _) rfl ?_
  refine Bod.eqI (nI n) (by first | assumption | rfl | exact congrArg nI (by omega) | (simp (disch := omega) only [rI, rIe, rA, rIA, rLA, rJA, rVI, rQI, rVA, rQA, upd_at,  rAI, rLI, rJI, nI_add, pk_sub, kc_0, kc_1, kc_2, kc_3, kc_4, kc_5, reduceIte, Nat.reduceEqDiff, Nat.add_zero, rI_hold, hn]; done)) ?_
  refine Bod.icT dc_38_9 rfl (k2_ge_T q n rfl rfl (by omega) (by omega)) ?_
  refine Bod.go dc_38_34 rfl ?_
  exact Bod.retI dc_38_35 rt_38
theorem outLength_ev {d : Nat} {S : cS}   : Ans (d + 1) 271 [.ref 49] S (some (.int (sI S 4906))) (S) := by
  refine Ans.of (by rw [ml_271]; exact Nat.le_of_ble_eq_true rfl) ?_
  refine Bod.go dc_271_0 rfl ?_
  refine Bod.get dc_271_1 fr_271_34 (mk_49 _) rfl ?_
  exact Bod.retI dc_271_4 rt_271
theorem clearOut_ev {d : Nat} {S : cS}   : Ans (d + 1) 31 [.ref 49] S (none) (wI 4906 (nI 0) S) := by
  refine Ans.of (by rw [ml_31]; exact Nat.le_of_ble_eq_true rfl) ?_
  refine Bod.go dc_31_0 rfl ?_
  refine Bod.ic 0 (by decide) dc_31_1 ?_
  refine Bod.put dc_31_2 fr_31_34 (mk_49 _) (Nat.le_of_ble_eq_true rfl) pf_0_6 (st_4906 _ _) (mu_I _ _ _) ?_
  exact Bod.retV dc_31_5 rt_31
theorem stepsDone_ev {d : Nat} {S : cS}   : Ans (d + 1) 276 [.ref 52] S (some (.int (sI S 5218))) (S) := by
  refine Ans.of (by rw [ml_276]; exact Nat.le_of_ble_eq_true rfl) ?_
  refine Bod.go dc_276_0 rfl ?_
  refine Bod.get dc_276_1 fr_276_62 (mk_52 _) rfl ?_
  exact Bod.retI dc_276_4 rt_276
theorem forgetSteps_ev {d : Nat} {S : cS}   : Ans (d + 1) 32 [.ref 52] S (none) (wI 5218 (nI 0) S) := by
  refine Ans.of (by rw [ml_32]; exact Nat.le_of_ble_eq_true rfl) ?_
  refine Bod.go dc_32_0 rfl ?_
  refine Bod.ic 0 (by decide) dc_32_1 ?_
  refine Bod.put dc_32_2 fr_32_62 (mk_52 _) (Nat.le_of_ble_eq_true rfl) pf_4_18 (st_5218 _ _) (mu_I _ _ _) ?_
  exact Bod.retV dc_32_5 rt_32
theorem errorLine_ev {d : Nat} {S : cS}   : Ans (d + 1) 268 [.ref 52] S (some (.int (sI S 5217))) (S) := by
  refine Ans.of (by rw [ml_268]; exact Nat.le_of_ble_eq_true rfl) ?_
  refine Bod.go dc_268_0 rfl ?_
  refine Bod.get dc_268_1 fr_268_66 (mk_52 _) rfl ?_
  exact Bod.retI dc_268_4 rt_268
