/-! SEARCHES IN ROWS; the lexer's leaves -/
theorem dc_206_42 : decode (sm_cc 206) 42 = .ok (.iload 7, 2) := by decide +kernel
theorem dc_206_44 : decode (sm_cc 206) 44 = .ok (.aload_n 0, 1) := by decide +kernel
theorem dc_206_45 : decode (sm_cc 206) 45 = .ok (.getfield 33, 3) := by decide +kernel
theorem fr_206_33 : sm_at mt_f (sm_ow 206) 33 = some (33, 2, 7, 0, 383) := by decide +kernel
theorem dc_206_48 : decode (sm_cc 206) 48 = .ok (.iload_n 1, 1) := by decide +kernel
theorem dc_206_49 : decode (sm_cc 206) 49 = .ok (.iaload, 1) := by decide +kernel
theorem dc_206_50 : decode (sm_cc 206) 50 = .ok (.if_icmp .ge (51), 3) := by decide +kernel
theorem dc_206_53 : decode (sm_cc 206) 53 = .ok (.iconst 4, 1) := by decide +kernel
theorem dc_206_54 : decode (sm_cc 206) 54 = .ok (.iload 7, 2) := by decide +kernel
theorem dc_206_56 : decode (sm_cc 206) 56 = .ok (.imul, 1) := by decide +kernel
theorem dc_206_57 : decode (sm_cc 206) 57 = .ok (.iconst 3, 1) := by decide +kernel
theorem dc_206_58 : decode (sm_cc 206) 58 = .ok (.iadd, 1) := by decide +kernel
theorem dc_206_59 : decode (sm_cc 206) 59 = .ok (.aload 6, 2) := by decide +kernel
theorem dc_206_61 : decode (sm_cc 206) 61 = .ok (.arraylength, 1) := by decide +kernel
theorem dc_206_62 : decode (sm_cc 206) 62 = .ok (.if_icmp .ge (39), 3) := by decide +kernel
theorem dc_206_65 : decode (sm_cc 206) 65 = .ok (.aload 6, 2) := by decide +kernel
theorem dc_206_67 : decode (sm_cc 206) 67 = .ok (.iconst 4, 1) := by decide +kernel
theorem dc_206_68 : decode (sm_cc 206) 68 = .ok (.iload 7, 2) := by decide +kernel
theorem dc_206_70 : decode (sm_cc 206) 70 = .ok (.imul, 1) := by decide +kernel
theorem dc_206_71 : decode (sm_cc 206) 71 = .ok (.laload, 1) := by decide +kernel
theorem dc_206_72 : decode (sm_cc 206) 72 = .ok (.lload_n 2, 1) := by decide +kernel
theorem dc_206_73 : decode (sm_cc 206) 73 = .ok (.lcmp, 1) := by decide +kernel
theorem dc_206_74 : decode (sm_cc 206) 74 = .ok (.ifCond .ne (21), 3) := by decide +kernel
theorem dc_206_95 : decode (sm_cc 206) 95 = .ok (.iinc 7 (1), 3) := by decide +kernel
theorem ml_206 : sm_ml 206 = 8 := by decide +kernel
theorem dc_206_98 : decode (sm_cc 206) 98 = .ok (.goto (-56), 3) := by decide +kernel
theorem dc_206_77 : decode (sm_cc 206) 77 = .ok (.aload 6, 2) := by decide +kernel
theorem dc_206_79 : decode (sm_cc 206) 79 = .ok (.iconst 4, 1) := by decide +kernel
theorem dc_206_80 : decode (sm_cc 206) 80 = .ok (.iload 7, 2) := by decide +kernel
theorem dc_206_82 : decode (sm_cc 206) 82 = .ok (.imul, 1) := by decide +kernel
theorem dc_206_83 : decode (sm_cc 206) 83 = .ok (.iconst 1, 1) := by decide +kernel
theorem dc_206_84 : decode (sm_cc 206) 84 = .ok (.iadd, 1) := by decide +kernel
theorem dc_206_85 : decode (sm_cc 206) 85 = .ok (.laload, 1) := by decide +kernel
theorem dc_206_86 : decode (sm_cc 206) 86 = .ok (.lload 4, 2) := by decide +kernel
theorem dc_206_88 : decode (sm_cc 206) 88 = .ok (.lcmp, 1) := by decide +kernel
theorem dc_206_89 : decode (sm_cc 206) 89 = .ok (.ifCond .ne (6), 3) := by decide +kernel
theorem dc_206_92 : decode (sm_cc 206) 92 = .ok (.iload 7, 2) := by decide +kernel
theorem dc_206_94 : decode (sm_cc 206) 94 = .ok (.ireturn, 1) := by decide +kernel
theorem rt_206 : sm_rt 206 = some .int := by decide +kernel
theorem dc_206_101 : decode (sm_cc 206) 101 = .ok (.iconst (-1), 1) := by decide +kernel
theorem dc_206_102 : decode (sm_cc 206) 102 = .ok (.ireturn, 1) := by decide +kernel
theorem dc_206_0 : decode (sm_cc 206) 0 = .ok (.iload_n 1, 1) := by decide +kernel
theorem dc_206_1 : decode (sm_cc 206) 1 = .ok (.invokestatic 65, 3) := by decide +kernel
theorem kr_206_65 : sm_at mt_k (sm_ow 206) 65 = some (65, 2, 139, 0, 1392) := by decide +kernel
theorem dc_206_4 : decode (sm_cc 206) 4 = .ok (.ifCond .eq (25), 3) := by decide +kernel
theorem dc_206_7 : decode (sm_cc 206) 7 = .ok (.aload_n 0, 1) := by decide +kernel
theorem dc_206_8 : decode (sm_cc 206) 8 = .ok (.getfield 38, 3) := by decide +kernel
theorem fr_206_38 : sm_at mt_f (sm_ow 206) 38 = some (38, 2, 8, 0, 384) := by decide +kernel
theorem dc_206_11 : decode (sm_cc 206) 11 = .ok (.iload_n 1, 1) := by decide +kernel
theorem dc_206_12 : decode (sm_cc 206) 12 = .ok (.aaload, 1) := by decide +kernel
theorem dc_206_13 : decode (sm_cc 206) 13 = .ok (.ifnull (16), 3) := by decide +kernel
theorem dc_206_16 : decode (sm_cc 206) 16 = .ok (.aload_n 0, 1) := by decide +kernel
theorem dc_206_17 : decode (sm_cc 206) 17 = .ok (.getfield 11, 3) := by decide +kernel
theorem fr_206_11 : sm_at mt_f (sm_ow 206) 11 = some (11, 2, 0, 0, 373) := by decide +kernel
theorem dc_206_20 : decode (sm_cc 206) 20 = .ok (.iload_n 1, 1) := by decide +kernel
theorem dc_206_21 : decode (sm_cc 206) 21 = .ok (.iaload, 1) := by decide +kernel
theorem dc_206_22 : decode (sm_cc 206) 22 = .ok (.invokestatic 87, 3) := by decide +kernel
theorem kr_206_87 : sm_at mt_k (sm_ow 206) 87 = some (87, 2, 145, 0, 1415) := by decide +kernel
theorem dc_206_25 : decode (sm_cc 206) 25 = .ok (.iconst 4, 1) := by decide +kernel
theorem dc_206_26 : decode (sm_cc 206) 26 = .ok (.if_icmp .eq (5), 3) := by decide +kernel
theorem dc_206_31 : decode (sm_cc 206) 31 = .ok (.aload_n 0, 1) := by decide +kernel
theorem dc_206_32 : decode (sm_cc 206) 32 = .ok (.getfield 38, 3) := by decide +kernel
theorem dc_206_35 : decode (sm_cc 206) 35 = .ok (.iload_n 1, 1) := by decide +kernel
theorem dc_206_36 : decode (sm_cc 206) 36 = .ok (.aaload, 1) := by decide +kernel
theorem dc_206_37 : decode (sm_cc 206) 37 = .ok (.astore 6, 2) := by decide +kernel
theorem dc_206_39 : decode (sm_cc 206) 39 = .ok (.iconst 0, 1) := by decide +kernel
theorem dc_206_40 : decode (sm_cc 206) 40 = .ok (.istore 7, 2) := by decide +kernel
theorem dc_206_29 : decode (sm_cc 206) 29 = .ok (.iconst (-1), 1) := by decide +kernel
theorem dc_206_30 : decode (sm_cc 206) 30 = .ok (.ireturn, 1) := by decide +kernel
theorem dc_41_0 : decode (sm_cc 41) 0 = .ok (.iload_n 0, 1) := by decide +kernel
theorem dc_41_1 : decode (sm_cc 41) 1 = .ok (.bipush (97), 2) := by decide +kernel
theorem dc_41_3 : decode (sm_cc 41) 3 = .ok (.if_icmp .lt (9), 3) := by decide +kernel
theorem dc_41_6 : decode (sm_cc 41) 6 = .ok (.iload_n 0, 1) := by decide +kernel
theorem dc_41_7 : decode (sm_cc 41) 7 = .ok (.bipush (122), 2) := by decide +kernel
theorem dc_41_9 : decode (sm_cc 41) 9 = .ok (.if_icmp .le (21), 3) := by decide +kernel
theorem dc_41_30 : decode (sm_cc 41) 30 = .ok (.iconst 1, 1) := by decide +kernel
theorem dc_41_31 : decode (sm_cc 41) 31 = .ok (.goto (4), 3) := by decide +kernel
theorem dc_41_35 : decode (sm_cc 41) 35 = .ok (.ireturn, 1) := by decide +kernel
theorem rt_41 : sm_rt 41 = some .boolean := by decide +kernel
theorem ml_41 : sm_ml 41 = 1 := by decide +kernel
theorem dc_41_12 : decode (sm_cc 41) 12 = .ok (.iload_n 0, 1) := by decide +kernel
theorem dc_41_13 : decode (sm_cc 41) 13 = .ok (.bipush (65), 2) := by decide +kernel
theorem dc_41_15 : decode (sm_cc 41) 15 = .ok (.if_icmp .lt (9), 3) := by decide +kernel
theorem dc_41_18 : decode (sm_cc 41) 18 = .ok (.iload_n 0, 1) := by decide +kernel
theorem dc_41_19 : decode (sm_cc 41) 19 = .ok (.bipush (90), 2) := by decide +kernel
theorem dc_41_21 : decode (sm_cc 41) 21 = .ok (.if_icmp .le (9), 3) := by decide +kernel
theorem dc_41_24 : decode (sm_cc 41) 24 = .ok (.iload_n 0, 1) := by decide +kernel
theorem dc_41_25 : decode (sm_cc 41) 25 = .ok (.bipush (95), 2) := by decide +kernel
theorem dc_41_27 : decode (sm_cc 41) 27 = .ok (.if_icmp .ne (7), 3) := by decide +kernel
theorem dc_41_34 : decode (sm_cc 41) 34 = .ok (.iconst 0, 1) := by decide +kernel
theorem dc_43_0 : decode (sm_cc 43) 0 = .ok (.iload_n 0, 1) := by decide +kernel
theorem dc_43_1 : decode (sm_cc 43) 1 = .ok (.bipush (48), 2) := by decide +kernel
theorem dc_43_3 : decode (sm_cc 43) 3 = .ok (.if_icmp .lt (13), 3) := by decide +kernel
theorem dc_43_6 : decode (sm_cc 43) 6 = .ok (.iload_n 0, 1) := by decide +kernel
theorem dc_43_7 : decode (sm_cc 43) 7 = .ok (.bipush (57), 2) := by decide +kernel
theorem dc_43_9 : decode (sm_cc 43) 9 = .ok (.if_icmp .gt (7), 3) := by decide +kernel
theorem dc_43_12 : decode (sm_cc 43) 12 = .ok (.iconst 1, 1) := by decide +kernel
theorem dc_43_13 : decode (sm_cc 43) 13 = .ok (.goto (4), 3) := by decide +kernel
theorem dc_43_17 : decode (sm_cc 43) 17 = .ok (.ireturn, 1) := by decide +kernel
theorem rt_43 : sm_rt 43 = some .boolean := by decide +kernel
theorem ml_43 : sm_ml 43 = 1 := by decide +kernel
theorem dc_43_16 : decode (sm_cc 43) 16 = .ok (.iconst 0, 1) := by decide +kernel
theorem dc_44_0 : decode (sm_cc 44) 0 = .ok (.aload_n 0, 1) := by decide +kernel
theorem dc_44_1 : decode (sm_cc 44) 1 = .ok (.getfield 26, 3) := by decide +kernel
theorem fr_44_26 : sm_at mt_f (sm_ow 44) 26 = some (26, 3, 13, 0, 613) := by decide +kernel
theorem dc_44_4 : decode (sm_cc 44) 4 = .ok (.ifCond .ne (11), 3) := by decide +kernel
theorem dc_44_7 : decode (sm_cc 44) 7 = .ok (.aload_n 0, 1) := by decide +kernel
theorem dc_44_8 : decode (sm_cc 44) 8 = .ok (.aload_n 0, 1) := by decide +kernel
theorem dc_44_9 : decode (sm_cc 44) 9 = .ok (.getfield 29, 3) := by decide +kernel
theorem fr_44_29 : sm_at mt_f (sm_ow 44) 29 = some (29, 3, 6, 0, 599) := by decide +kernel
theorem dc_44_12 : decode (sm_cc 44) 12 = .ok (.putfield 26, 3) := by decide +kernel
theorem dc_44_15 : decode (sm_cc 44) 15 = .ok (.aload_n 0, 1) := by decide +kernel
theorem dc_44_16 : decode (sm_cc 44) 16 = .ok (.iconst 0, 1) := by decide +kernel
theorem dc_44_17 : decode (sm_cc 44) 17 = .ok (.putfield 38, 3) := by decide +kernel
theorem fr_44_38 : sm_at mt_f (sm_ow 44) 38 = some (38, 3, 5, 0, 597) := by decide +kernel
theorem dc_44_20 : decode (sm_cc 44) 20 = .ok (.return_, 1) := by decide +kernel
theorem rt_44 : sm_rt 44 = none := by decide +kernel
theorem ml_44 : sm_ml 44 = 1 := by decide +kernel
theorem dc_37_0 : decode (sm_cc 37) 0 = .ok (.aload_n 0, 1) := by decide +kernel
theorem dc_37_1 : decode (sm_cc 37) 1 = .ok (.getfield 23, 3) := by decide +kernel
theorem fr_37_23 : sm_at mt_f (sm_ow 37) 23 = some (23, 3, 3, 0, 593) := by decide +kernel
theorem dc_37_4 : decode (sm_cc 37) 4 = .ok (.aload_n 0, 1) := by decide +kernel
theorem dc_37_5 : decode (sm_cc 37) 5 = .ok (.getfield 19, 3) := by decide +kernel
theorem fr_37_19 : sm_at mt_f (sm_ow 37) 19 = some (19, 3, 2, 0, 592) := by decide +kernel
theorem dc_37_8 : decode (sm_cc 37) 8 = .ok (.if_icmp .ge (29), 3) := by decide +kernel
theorem dc_37_11 : decode (sm_cc 37) 11 = .ok (.aload_n 0, 1) := by decide +kernel
theorem dc_37_12 : decode (sm_cc 37) 12 = .ok (.aload_n 0, 1) := by decide +kernel
theorem dc_37_13 : decode (sm_cc 37) 13 = .ok (.getfield 23, 3) := by decide +kernel
theorem dc_37_16 : decode (sm_cc 37) 16 = .ok (.invokevirtual 50, 3) := by decide +kernel
theorem ow_38 : 3 = sm_ow 38 := by decide +kernel
theorem cl_3 : 3 < mt_cl.length := by decide +kernel
theorem kr_37_50 : sm_at mt_k (sm_ow 37) 50 = some (50, 0, 38, 0, 969) := by decide +kernel
theorem np_38 : sm_np 38 = 1 := by decide +kernel
theorem dc_37_19 : decode (sm_cc 37) 19 = .ok (.bipush (32), 2) := by decide +kernel
theorem dc_37_21 : decode (sm_cc 37) 21 = .ok (.if_icmp .ne (16), 3) := by decide +kernel
theorem dc_37_24 : decode (sm_cc 37) 24 = .ok (.aload_n 0, 1) := by decide +kernel
theorem dc_37_25 : decode (sm_cc 37) 25 = .ok (.dup, 1) := by decide +kernel
theorem dc_37_26 : decode (sm_cc 37) 26 = .ok (.getfield 23, 3) := by decide +kernel
theorem dc_37_29 : decode (sm_cc 37) 29 = .ok (.iconst 1, 1) := by decide +kernel
theorem dc_37_30 : decode (sm_cc 37) 30 = .ok (.iadd, 1) := by decide +kernel
theorem dc_37_31 : decode (sm_cc 37) 31 = .ok (.putfield 23, 3) := by decide +kernel
theorem dc_37_34 : decode (sm_cc 37) 34 = .ok (.goto (-34), 3) := by decide +kernel
theorem dc_37_37 : decode (sm_cc 37) 37 = .ok (.return_, 1) := by decide +kernel
theorem rt_37 : sm_rt 37 = none := by decide +kernel
theorem ml_37 : sm_ml 37 = 1 := by decide +kernel
theorem find_hit_loop {d : Nat} {S : cS} {k kd z a N : Nat} {hi lo : Int64} {e : Nat} (h0 : 1 ≤ k) (hk : k ≤ 1500) (hkd : sA S 3 k = nI kd) (h7 : kd ≤ 7) (hsz : sA S 10 k = nI z) (hr : sQ S 11 k = some a) (ha : 108 ≤ a) (hs : (sS S)[a - 108]? = some (1, N)) (hN : N < 2 ^ 31) (hw : c_width kd = 4) (hl : 4 * z ≤ N) (hz : z < 2 ^ 20) (he : e < z) (hm : (sL S a (4 * e) = hi ∧ sL S a (4 * e + 1) = lo)) (hn : ∀ x, x < e → ¬ (sL S a (4 * x) = hi ∧ sL S a (4 * x + 1) = lo)) : ∀ (r i : Nat), i + r = e → Bod d 206 42 (sm_p1 (sm_p1 (lv_args 0 [.ref 2, .int (nI k), .long hi, .long lo]) 6 (.ref a)) 7 (.int (nI i))) [] S (some (.int (nI e))) S := by
  intro r
  induction r with
  | zero =>
    intro i hi0
    obtain rfl : i = e := by omega
    refine Bod.go dc_206_42 rfl ?_
    refine Bod.go dc_206_44 rfl ?_
    refine Bod.get dc_206_45 fr_206_33 (mk_2 _) rfl ?_
    refine Bod.go dc_206_48 rfl ?_
    refine Bod.ialdN k rfl (by omega) (by omega) dc_206_49 (mk_10 _) ?_
    refine Bod.eqI (nI z) (by first | assumption | rfl | exact congrArg nI (by omega) | (simp (disch := omega) only [rI, rIe, rA, rIA, rLA, rJA, rVI, rQI, rVA, rQA, upd_at,  rAI, rLI, rJI, nI_add, pk_sub, kc_0, kc_1, kc_2, kc_3, kc_4, kc_5, reduceIte, Nat.reduceEqDiff, Nat.add_zero, rI_hold, rI_hold, rL_hold, hkd, hsz]; done)) ?_
    refine Bod.icF dc_206_50 rfl (k2_ge_F i z rfl rfl (by omega) (by omega)) ?_
    refine Bod.ic 4 (by decide) dc_206_53 ?_
    refine Bod.go dc_206_54 rfl ?_
    refine Bod.mulN (4 * i) (by omega) dc_206_56 ?_
    refine Bod.ic 3 (by decide) dc_206_57 ?_
    refine Bod.addN (4 * i + 3) (by omega) dc_206_58 ?_
    refine Bod.go dc_206_59 rfl ?_
    refine Bod.alenN (N := N) dc_206_61 (mk_row ha hs) el_1 ?_
    refine Bod.icF dc_206_62 rfl (k2_ge_F (4 * i + 3) N rfl rfl (by omega) (by omega)) ?_
    refine Bod.go dc_206_65 rfl ?_
    refine Bod.ic 4 (by decide) dc_206_67 ?_
    refine Bod.go dc_206_68 rfl ?_
    refine Bod.mulN (4 * i) (by omega) dc_206_70 ?_
    refine Bod.laldN (N := N) (4 * i) rfl (by omega) (by omega) dc_206_71 (mk_row ha hs) ?_
    refine Bod.go dc_206_72 rfl ?_
    refine Bod.go dc_206_73 rfl ?_
    refine Bod.ifF dc_206_74 rfl (k1_ne_F (cmp_eq hm.1)) ?_
    refine Bod.go dc_206_77 rfl ?_
    refine Bod.ic 4 (by decide) dc_206_79 ?_
    refine Bod.go dc_206_80 rfl ?_
    refine Bod.mulN (4 * i) (by omega) dc_206_82 ?_
    refine Bod.ic 1 (by decide) dc_206_83 ?_
    refine Bod.addN (4 * i + 1) (by omega) dc_206_84 ?_
    refine Bod.laldN (N := N) (4 * i + 1) rfl (by omega) (by omega) dc_206_85 (mk_row ha hs) ?_
    refine Bod.go dc_206_86 rfl ?_
    refine Bod.go dc_206_88 rfl ?_
    refine Bod.ifF dc_206_89 rfl (k1_ne_F (cmp_eq hm.2)) ?_
    refine Bod.go dc_206_92 rfl ?_
    exact Bod.retI dc_206_94 rt_206
  | succ r ih =>
    intro i hi0
    have hx := hn i (by omega)
    have hnext := ih (i + 1) (by omega)
    by_cases hA : sL S a (4 * i) = hi
    · have hB : sL S a (4 * i + 1) ≠ lo := fun h => hx ⟨hA, h⟩
      refine Bod.go dc_206_42 rfl ?_
      refine Bod.go dc_206_44 rfl ?_
      refine Bod.get dc_206_45 fr_206_33 (mk_2 _) rfl ?_
      refine Bod.go dc_206_48 rfl ?_
      refine Bod.ialdN k rfl (by omega) (by omega) dc_206_49 (mk_10 _) ?_
      refine Bod.eqI (nI z) (by first | assumption | rfl | exact congrArg nI (by omega) | (simp (disch := omega) only [rI, rIe, rA, rIA, rLA, rJA, rVI, rQI, rVA, rQA, upd_at,  rAI, rLI, rJI, nI_add, pk_sub, kc_0, kc_1, kc_2, kc_3, kc_4, kc_5, reduceIte, Nat.reduceEqDiff, Nat.add_zero, rI_hold, rI_hold, rL_hold, hkd, hsz]; done)) ?_
      refine Bod.icF dc_206_50 rfl (k2_ge_F i z rfl rfl (by omega) (by omega)) ?_
      refine Bod.ic 4 (by decide) dc_206_53 ?_
      refine Bod.go dc_206_54 rfl ?_
      refine Bod.mulN (4 * i) (by omega) dc_206_56 ?_
      refine Bod.ic 3 (by decide) dc_206_57 ?_
      refine Bod.addN (4 * i + 3) (by omega) dc_206_58 ?_
      refine Bod.go dc_206_59 rfl ?_
      refine Bod.alenN (N := N) dc_206_61 (mk_row ha hs) el_1 ?_
      refine Bod.icF dc_206_62 rfl (k2_ge_F (4 * i + 3) N rfl rfl (by omega) (by omega)) ?_
      refine Bod.go dc_206_65 rfl ?_
      refine Bod.ic 4 (by decide) dc_206_67 ?_
      refine Bod.go dc_206_68 rfl ?_
      refine Bod.mulN (4 * i) (by omega) dc_206_70 ?_
      refine Bod.laldN (N := N) (4 * i) rfl (by omega) (by omega) dc_206_71 (mk_row ha hs) ?_
      refine Bod.go dc_206_72 rfl ?_
      refine Bod.go dc_206_73 rfl ?_
      refine Bod.ifF dc_206_74 rfl (k1_ne_F (cmp_eq hA)) ?_
      refine Bod.go dc_206_77 rfl ?_
      refine Bod.ic 4 (by decide) dc_206_79 ?_
      refine Bod.go dc_206_80 rfl ?_
      refine Bod.mulN (4 * i) (by omega) dc_206_82 ?_
      refine Bod.ic 1 (by decide) dc_206_83 ?_
      refine Bod.addN (4 * i + 1) (by omega) dc_206_84 ?_
      refine Bod.laldN (N := N) (4 * i + 1) rfl (by omega) (by omega) dc_206_85 (mk_row ha hs) ?_
      refine Bod.go dc_206_86 rfl ?_
      refine Bod.go dc_206_88 rfl ?_
      refine Bod.ifT dc_206_89 rfl (k1_ne_T (cmp_ne hB)) ?_
      refine Bod.incN (i + 1) (by rw [kc_1, nI_add]) dc_206_95 (by rw [ml_206]; exact Nat.le_of_ble_eq_true rfl) rfl ?_
      refine Bod.go dc_206_98 rfl ?_
      rw [sm_p1_p1]
      exact hnext
    · skip
      refine Bod.go dc_206_42 rfl ?_
      refine Bod.go dc_206_44 rfl ?_
      refine Bod.get dc_206_45 fr_206_33 (mk_2 _) rfl ?_
      refine Bod.go dc_206_48 rfl ?_
      refine Bod.ialdN k rfl (by omega) (by omega) dc_206_49 (mk_10 _) ?_
      refine Bod.eqI (nI z) (by first | assumption | rfl | exact congrArg nI (by omega) | (simp (disch := omega) only [rI, rIe, rA, rIA, rLA, rJA, rVI, rQI, rVA, rQA, upd_at,  rAI, rLI, rJI, nI_add, pk_sub, kc_0, kc_1, kc_2, kc_3, kc_4, kc_5, reduceIte, Nat.reduceEqDiff, Nat.add_zero, rI_hold, rI_hold, rL_hold, hkd, hsz]; done)) ?_
      refine Bod.icF dc_206_50 rfl (k2_ge_F i z rfl rfl (by omega) (by omega)) ?_
      refine Bod.ic 4 (by decide) dc_206_53 ?_
      refine Bod.go dc_206_54 rfl ?_
      refine Bod.mulN (4 * i) (by omega) dc_206_56 ?_
      refine Bod.ic 3 (by decide) dc_206_57 ?_
      refine Bod.addN (4 * i + 3) (by omega) dc_206_58 ?_
      refine Bod.go dc_206_59 rfl ?_
      refine Bod.alenN (N := N) dc_206_61 (mk_row ha hs) el_1 ?_
      refine Bod.icF dc_206_62 rfl (k2_ge_F (4 * i + 3) N rfl rfl (by omega) (by omega)) ?_
      refine Bod.go dc_206_65 rfl ?_
      refine Bod.ic 4 (by decide) dc_206_67 ?_
      refine Bod.go dc_206_68 rfl ?_
      refine Bod.mulN (4 * i) (by omega) dc_206_70 ?_
      refine Bod.laldN (N := N) (4 * i) rfl (by omega) (by omega) dc_206_71 (mk_row ha hs) ?_
      refine Bod.go dc_206_72 rfl ?_
      refine Bod.go dc_206_73 rfl ?_
      refine Bod.ifT dc_206_74 rfl (k1_ne_T (cmp_ne hA)) ?_
      refine Bod.incN (i + 1) (by rw [kc_1, nI_add]) dc_206_95 (by rw [ml_206]; exact Nat.le_of_ble_eq_true rfl) rfl ?_
      refine Bod.go dc_206_98 rfl ?_
      rw [sm_p1_p1]
      exact hnext
theorem find_hit {d : Nat} {S : cS} {k kd z a N : Nat} {hi lo : Int64} {e : Nat} (h0 : 1 ≤ k) (hk : k ≤ 1500) (hkd : sA S 3 k = nI kd) (h7 : kd ≤ 7) (hsz : sA S 10 k = nI z) (hr : sQ S 11 k = some a) (ha : 108 ≤ a) (hs : (sS S)[a - 108]? = some (1, N)) (hN : N < 2 ^ 31) (hw : c_width kd = 4) (hl : 4 * z ≤ N) (hz : z < 2 ^ 20) (he : e < z) (hm : (sL S a (4 * e) = hi ∧ sL S a (4 * e + 1) = lo)) (hn : ∀ x, x < e → ¬ (sL S a (4 * x) = hi ∧ sL S a (4 * x + 1) = lo)) : Ans (d + 2) 206 [.ref 2, .int (nI k), .long hi, .long lo] S (some (.int (nI e))) S := by
  refine Ans.of (by rw [ml_206]; exact Nat.le_of_ble_eq_true rfl) ?_
  refine Bod.go dc_206_0 rfl ?_
  refine Bod.stat (r := []) dc_206_1 kr_206_65 (Or.inl rfl) (by rw [np_139]; rfl) (by rw [np_139]; rfl) (by rw [np_139]; exact Nat.le_of_ble_eq_true rfl) (Nat.le_of_ble_eq_true rfl) (isId_T (k := k) (by omega) (by omega)) ?_
  show Bod _ _ _ _ [_] _ _ _
  refine Bod.ifF dc_206_4 rfl (k1_eq_F (k_ne 1 0 rfl rfl (by omega) (by omega) (by omega))) ?_
  refine Bod.go dc_206_7 rfl ?_
  refine Bod.get dc_206_8 fr_206_38 (mk_2 _) rfl ?_
  refine Bod.go dc_206_11 rfl ?_
  refine Bod.aaldR (N := 1501) (b := a) k rfl (by omega) (by omega) hr dc_206_12 (mk_11 _) ht_4 ?_
  refine Bod.go dc_206_13 rfl ?_
  refine Bod.go dc_206_16 rfl ?_
  refine Bod.get dc_206_17 fr_206_11 (mk_2 _) rfl ?_
  refine Bod.go dc_206_20 rfl ?_
  refine Bod.ialdN k rfl (by omega) (by omega) dc_206_21 (mk_3 _) ?_
  refine Bod.eqI (nI kd) (by first | assumption | rfl | exact congrArg nI (by omega) | (simp (disch := omega) only [rI, rIe, rA, rIA, rLA, rJA, rVI, rQI, rVA, rQA, upd_at,  rAI, rLI, rJI, nI_add, pk_sub, kc_0, kc_1, kc_2, kc_3, kc_4, kc_5, reduceIte, Nat.reduceEqDiff, Nat.add_zero, rI_hold, rI_hold, rL_hold, hkd, hsz]; done)) ?_
  refine Bod.stat (r := []) dc_206_22 kr_206_87 (Or.inl rfl) (by rw [np_145]; rfl) (by rw [np_145]; rfl) (by rw [np_145]; exact Nat.le_of_ble_eq_true rfl) (Nat.le_of_ble_eq_true rfl) (widthOf_ev (kd := kd) (w := 4) (by omega) hw) ?_
  show Bod _ _ _ _ [_] _ _ _
  refine Bod.ic 4 (by decide) dc_206_25 ?_
  refine Bod.icT dc_206_26 rfl (k2_eq_T (k_eq 4 4 rfl rfl (by omega))) ?_
  refine Bod.go dc_206_31 rfl ?_
  refine Bod.get dc_206_32 fr_206_38 (mk_2 _) rfl ?_
  refine Bod.go dc_206_35 rfl ?_
  refine Bod.aaldR (N := 1501) (b := a) k rfl (by omega) (by omega) hr dc_206_36 (mk_11 _) ht_4 ?_
  refine Bod.ast dc_206_37 (by rw [ml_206]; exact Nat.le_of_ble_eq_true rfl) ?_
  refine Bod.ic 0 (by decide) dc_206_39 ?_
  refine Bod.ist dc_206_40 (by rw [ml_206]; exact Nat.le_of_ble_eq_true rfl) ?_
  exact find_hit_loop h0 hk hkd h7 hsz hr ha hs hN hw hl hz he hm hn e 0 (by omega)
theorem find_miss_loop {d : Nat} {S : cS} {k kd z a N : Nat} {hi lo : Int64} (h0 : 1 ≤ k) (hk : k ≤ 1500) (hkd : sA S 3 k = nI kd) (h7 : kd ≤ 7) (hsz : sA S 10 k = nI z) (hr : sQ S 11 k = some a) (ha : 108 ≤ a) (hs : (sS S)[a - 108]? = some (1, N)) (hN : N < 2 ^ 31) (hw : c_width kd = 4) (hl : 4 * z ≤ N) (hz : z < 2 ^ 20) (hn : ∀ x, x < z → ¬ (sL S a (4 * x) = hi ∧ sL S a (4 * x + 1) = lo)) : ∀ (r i : Nat), i + r = z → Bod d 206 42 (sm_p1 (sm_p1 (lv_args 0 [.ref 2, .int (nI k), .long hi, .long lo]) 6 (.ref a)) 7 (.int (nI i))) [] S (some (.int (Int32.ofInt (-1)))) S := by
  intro r
  induction r with
  | zero =>
    intro i hi0
    refine Bod.go dc_206_42 rfl ?_
    refine Bod.go dc_206_44 rfl ?_
    refine Bod.get dc_206_45 fr_206_33 (mk_2 _) rfl ?_
    refine Bod.go dc_206_48 rfl ?_
    refine Bod.ialdN k rfl (by omega) (by omega) dc_206_49 (mk_10 _) ?_
    refine Bod.eqI (nI z) (by first | assumption | rfl | exact congrArg nI (by omega) | (simp (disch := omega) only [rI, rIe, rA, rIA, rLA, rJA, rVI, rQI, rVA, rQA, upd_at,  rAI, rLI, rJI, nI_add, pk_sub, kc_0, kc_1, kc_2, kc_3, kc_4, kc_5, reduceIte, Nat.reduceEqDiff, Nat.add_zero, rI_hold, rI_hold, rL_hold, hkd, hsz]; done)) ?_
    refine Bod.icT dc_206_50 rfl (k2_ge_T i z rfl rfl (by omega) (by omega)) ?_
    refine Bod.go dc_206_101 rfl ?_
    exact Bod.retI dc_206_102 rt_206
  | succ r ih =>
    intro i hi0
    have hx := hn i (by omega)
    have hnext := ih (i + 1) (by omega)
    by_cases hA : sL S a (4 * i) = hi
    · have hB : sL S a (4 * i + 1) ≠ lo := fun h => hx ⟨hA, h⟩
      refine Bod.go dc_206_42 rfl ?_
      refine Bod.go dc_206_44 rfl ?_
      refine Bod.get dc_206_45 fr_206_33 (mk_2 _) rfl ?_
      refine Bod.go dc_206_48 rfl ?_
      refine Bod.ialdN k rfl (by omega) (by omega) dc_206_49 (mk_10 _) ?_
      refine Bod.eqI (nI z) (by first | assumption | rfl | exact congrArg nI (by omega) | (simp (disch := omega) only [rI, rIe, rA, rIA, rLA, rJA, rVI, rQI, rVA, rQA, upd_at,  rAI, rLI, rJI, nI_add, pk_sub, kc_0, kc_1, kc_2, kc_3, kc_4, kc_5, reduceIte, Nat.reduceEqDiff, Nat.add_zero, rI_hold, rI_hold, rL_hold, hkd, hsz]; done)) ?_
      refine Bod.icF dc_206_50 rfl (k2_ge_F i z rfl rfl (by omega) (by omega)) ?_
      refine Bod.ic 4 (by decide) dc_206_53 ?_
      refine Bod.go dc_206_54 rfl ?_
      refine Bod.mulN (4 * i) (by omega) dc_206_56 ?_
      refine Bod.ic 3 (by decide) dc_206_57 ?_
      refine Bod.addN (4 * i + 3) (by omega) dc_206_58 ?_
      refine Bod.go dc_206_59 rfl ?_
      refine Bod.alenN (N := N) dc_206_61 (mk_row ha hs) el_1 ?_
      refine Bod.icF dc_206_62 rfl (k2_ge_F (4 * i + 3) N rfl rfl (by omega) (by omega)) ?_
      refine Bod.go dc_206_65 rfl ?_
      refine Bod.ic 4 (by decide) dc_206_67 ?_
      refine Bod.go dc_206_68 rfl ?_
      refine Bod.mulN (4 * i) (by omega) dc_206_70 ?_
      refine Bod.laldN (N := N) (4 * i) rfl (by omega) (by omega) dc_206_71 (mk_row ha hs) ?_
      refine Bod.go dc_206_72 rfl ?_
      refine Bod.go dc_206_73 rfl ?_
      refine Bod.ifF dc_206_74 rfl (k1_ne_F (cmp_eq hA)) ?_
      refine Bod.go dc_206_77 rfl ?_
      refine Bod.ic 4 (by decide) dc_206_79 ?_
      refine Bod.go dc_206_80 rfl ?_
      refine Bod.mulN (4 * i) (by omega) dc_206_82 ?_
      refine Bod.ic 1 (by decide) dc_206_83 ?_
      refine Bod.addN (4 * i + 1) (by omega) dc_206_84 ?_
      refine Bod.laldN (N := N) (4 * i + 1) rfl (by omega) (by omega) dc_206_85 (mk_row ha hs) ?_
      refine Bod.go dc_206_86 rfl ?_
      refine Bod.go dc_206_88 rfl ?_
      refine Bod.ifT dc_206_89 rfl (k1_ne_T (cmp_ne hB)) ?_
      refine Bod.incN (i + 1) (by rw [kc_1, nI_add]) dc_206_95 (by rw [ml_206]; exact Nat.le_of_ble_eq_true rfl) rfl ?_
      refine Bod.go dc_206_98 rfl ?_
      rw [sm_p1_p1]
      exact hnext
    · skip
      refine Bod.go dc_206_42 rfl ?_
      refine Bod.go dc_206_44 rfl ?_
      refine Bod.get dc_206_45 fr_206_33 (mk_2 _) rfl ?_
      refine Bod.go dc_206_48 rfl ?_
      refine Bod.ialdN k rfl (by omega) (by omega) dc_206_49 (mk_10 _) ?_
      refine Bod.eqI (nI z) (by first | assumption | rfl | exact congrArg nI (by omega) | (simp (disch := omega) only [rI, rIe, rA, rIA, rLA, rJA, rVI, rQI, rVA, rQA, upd_at,  rAI, rLI, rJI, nI_add, pk_sub, kc_0, kc_1, kc_2, kc_3, kc_4, kc_5, reduceIte, Nat.reduceEqDiff, Nat.add_zero, rI_hold, rI_hold, rL_hold, hkd, hsz]; done)) ?_
      refine Bod.icF dc_206_50 rfl (k2_ge_F i z rfl rfl (by omega) (by omega)) ?_
      refine Bod.ic 4 (by decide) dc_206_53 ?_
      refine Bod.go dc_206_54 rfl ?_
      refine Bod.mulN (4 * i) (by omega) dc_206_56 ?_
      refine Bod.ic 3 (by decide) dc_206_57 ?_
      refine Bod.addN (4 * i + 3) (by omega) dc_206_58 ?_
      refine Bod.go dc_206_59 rfl ?_
      refine Bod.alenN (N := N) dc_206_61 (mk_row ha hs) el_1 ?_
      refine Bod.icF dc_206_62 rfl (k2_ge_F (4 * i + 3) N rfl rfl (by omega) (by omega)) ?_
      refine Bod.go dc_206_65 rfl ?_
      refine Bod.ic 4 (by decide) dc_206_67 ?_
      refine Bod.go dc_206_68 rfl ?_
      refine Bod.mulN (4 * i) (by omega) dc_206_70 ?_
      refine Bod.laldN (N := N) (4 * i) rfl (by omega) (by omega) dc_206_71 (mk_row ha hs) ?_
      refine Bod.go dc_206_72 rfl ?_
      refine Bod.go dc_206_73 rfl ?_
      refine Bod.ifT dc_206_74 rfl (k1_ne_T (cmp_ne hA)) ?_
      refine Bod.incN (i + 1) (by rw [kc_1, nI_add]) dc_206_95 (by rw [ml_206]; exact Nat.le_of_ble_eq_true rfl) rfl ?_
      refine Bod.go dc_206_98 rfl ?_
      rw [sm_p1_p1]
      exact hnext
theorem find_miss {d : Nat} {S : cS} {k kd z a N : Nat} {hi lo : Int64} (h0 : 1 ≤ k) (hk : k ≤ 1500) (hkd : sA S 3 k = nI kd) (h7 : kd ≤ 7) (hsz : sA S 10 k = nI z) (hr : sQ S 11 k = some a) (ha : 108 ≤ a) (hs : (sS S)[a - 108]? = some (1, N)) (hN : N < 2 ^ 31) (hw : c_width kd = 4) (hl : 4 * z ≤ N) (hz : z < 2 ^ 20) (hn : ∀ x, x < z → ¬ (sL S a (4 * x) = hi ∧ sL S a (4 * x + 1) = lo)) : Ans (d + 2) 206 [.ref 2, .int (nI k), .long hi, .long lo] S (some (.int (Int32.ofInt (-1)))) S := by
  refine Ans.of (by rw [ml_206]; exact Nat.le_of_ble_eq_true rfl) ?_
  refine Bod.go dc_206_0 rfl ?_
  refine Bod.stat (r := []) dc_206_1 kr_206_65 (Or.inl rfl) (by rw [np_139]; rfl) (by rw [np_139]; rfl) (by rw [np_139]; exact Nat.le_of_ble_eq_true rfl) (Nat.le_of_ble_eq_true rfl) (isId_T (k := k) (by omega) (by omega)) ?_
  show Bod _ _ _ _ [_] _ _ _
  refine Bod.ifF dc_206_4 rfl (k1_eq_F (k_ne 1 0 rfl rfl (by omega) (by omega) (by omega))) ?_
  refine Bod.go dc_206_7 rfl ?_
  refine Bod.get dc_206_8 fr_206_38 (mk_2 _) rfl ?_
  refine Bod.go dc_206_11 rfl ?_
  refine Bod.aaldR (N := 1501) (b := a) k rfl (by omega) (by omega) hr dc_206_12 (mk_11 _) ht_4 ?_
  refine Bod.go dc_206_13 rfl ?_
  refine Bod.go dc_206_16 rfl ?_
  refine Bod.get dc_206_17 fr_206_11 (mk_2 _) rfl ?_
  refine Bod.go dc_206_20 rfl ?_
  refine Bod.ialdN k rfl (by omega) (by omega) dc_206_21 (mk_3 _) ?_
  refine Bod.eqI (nI kd) (by first | assumption | rfl | exact congrArg nI (by omega) | (simp (disch := omega) only [rI, rIe, rA, rIA, rLA, rJA, rVI, rQI, rVA, rQA, upd_at,  rAI, rLI, rJI, nI_add, pk_sub, kc_0, kc_1, kc_2, kc_3, kc_4, kc_5, reduceIte, Nat.reduceEqDiff, Nat.add_zero, rI_hold, rI_hold, rL_hold, hkd, hsz]; done)) ?_
  refine Bod.stat (r := []) dc_206_22 kr_206_87 (Or.inl rfl) (by rw [np_145]; rfl) (by rw [np_145]; rfl) (by rw [np_145]; exact Nat.le_of_ble_eq_true rfl) (Nat.le_of_ble_eq_true rfl) (widthOf_ev (kd := kd) (w := 4) (by omega) hw) ?_
  show Bod _ _ _ _ [_] _ _ _
  refine Bod.ic 4 (by decide) dc_206_25 ?_
  refine Bod.icT dc_206_26 rfl (k2_eq_T (k_eq 4 4 rfl rfl (by omega))) ?_
  refine Bod.go dc_206_31 rfl ?_
  refine Bod.get dc_206_32 fr_206_38 (mk_2 _) rfl ?_
  refine Bod.go dc_206_35 rfl ?_
  refine Bod.aaldR (N := 1501) (b := a) k rfl (by omega) (by omega) hr dc_206_36 (mk_11 _) ht_4 ?_
  refine Bod.ast dc_206_37 (by rw [ml_206]; exact Nat.le_of_ble_eq_true rfl) ?_
  refine Bod.ic 0 (by decide) dc_206_39 ?_
  refine Bod.ist dc_206_40 (by rw [ml_206]; exact Nat.le_of_ble_eq_true rfl) ?_
  exact find_miss_loop h0 hk hkd h7 hsz hr ha hs hN hw hl hz hn z 0 (by omega)
theorem find_none {d : Nat} {S : cS} {k : Nat} {hi : Int64} {lo : Int64} (h0 : 1 ≤ k) (hk : k ≤ 1500) (hr : sQ S 11 k = none) : Ans (d + 2) 206 [.ref 2, .int (nI k), .long hi, .long lo] S (some (.int (Int32.ofInt (-1)))) (S) := by
  refine Ans.of (by rw [ml_206]; exact Nat.le_of_ble_eq_true rfl) ?_
  refine Bod.go dc_206_0 rfl ?_
  refine Bod.stat (r := []) dc_206_1 kr_206_65 (Or.inl rfl) (by rw [np_139]; rfl) (by rw [np_139]; rfl) (by rw [np_139]; exact Nat.le_of_ble_eq_true rfl) (Nat.le_of_ble_eq_true rfl) (isId_T (k := k) (by omega) (by omega)) ?_
  show Bod _ _ _ _ [_] _ _ _
  refine Bod.ifF dc_206_4 rfl (k1_eq_F (k_ne 1 0 rfl rfl (by omega) (by omega) (by omega))) ?_
  refine Bod.go dc_206_7 rfl ?_
  refine Bod.get dc_206_8 fr_206_38 (mk_2 _) rfl ?_
  refine Bod.go dc_206_11 rfl ?_
  refine Bod.aald0 k rfl (by omega) (by omega) (f := _) (N := 1501) hr dc_206_12 (mk_11 _) ht_4 ?_
  refine Bod.go dc_206_13 rfl ?_
  refine Bod.go dc_206_29 rfl ?_
  exact Bod.retI dc_206_30 rt_206
theorem find_0 {d : Nat} {S : cS} {hi : Int64} {lo : Int64}  : Ans (d + 2) 206 [.ref 2, .int (nI 0), .long hi, .long lo] S (some (.int (Int32.ofInt (-1)))) (S) := by
  refine Ans.of (by rw [ml_206]; exact Nat.le_of_ble_eq_true rfl) ?_
  refine Bod.go dc_206_0 rfl ?_
  refine Bod.stat (r := []) dc_206_1 kr_206_65 (Or.inl rfl) (by rw [np_139]; rfl) (by rw [np_139]; rfl) (by rw [np_139]; exact Nat.le_of_ble_eq_true rfl) (Nat.le_of_ble_eq_true rfl) (isId_0  ) ?_
  show Bod _ _ _ _ [_] _ _ _
  refine Bod.ifT dc_206_4 rfl (k1_eq_T (k_eq 0 0 rfl rfl (by omega))) ?_
  refine Bod.go dc_206_29 rfl ?_
  exact Bod.retI dc_206_30 rt_206
theorem isLetter_a {d : Nat} {S : cS} {b : Nat} (h1 : 97 ≤ b) (h2 : b ≤ 122) : Ans (d + 1) 41 [.int (nI b)] S (some (.int 1)) (S) := by
  refine Ans.of (by rw [ml_41]; exact Nat.le_of_ble_eq_true rfl) ?_
  refine Bod.go dc_41_0 rfl ?_
  refine Bod.bip 97 (by decide) dc_41_1 ?_
  refine Bod.icF dc_41_3 rfl (k2_lt_F b 97 rfl rfl (by omega) (by omega)) ?_
  refine Bod.go dc_41_6 rfl ?_
  refine Bod.bip 122 (by decide) dc_41_7 ?_
  refine Bod.icT dc_41_9 rfl (k2_le_T b 122 rfl rfl (by omega) (by omega)) ?_
  refine Bod.ic 1 (by decide) dc_41_30 ?_
  refine Bod.go dc_41_31 rfl ?_
  exact Bod.retZ dc_41_35 rt_41 (Or.inr rfl)
theorem isLetter_b {d : Nat} {S : cS} {b : Nat} (h1 : 65 ≤ b) (h2 : b ≤ 90) : Ans (d + 1) 41 [.int (nI b)] S (some (.int 1)) (S) := by
  refine Ans.of (by rw [ml_41]; exact Nat.le_of_ble_eq_true rfl) ?_
  refine Bod.go dc_41_0 rfl ?_
  refine Bod.bip 97 (by decide) dc_41_1 ?_
  refine Bod.icT dc_41_3 rfl (k2_lt_T b 97 rfl rfl (by omega) (by omega)) ?_
  refine Bod.go dc_41_12 rfl ?_
  refine Bod.bip 65 (by decide) dc_41_13 ?_
  refine Bod.icF dc_41_15 rfl (k2_lt_F b 65 rfl rfl (by omega) (by omega)) ?_
  refine Bod.go dc_41_18 rfl ?_
  refine Bod.bip 90 (by decide) dc_41_19 ?_
  refine Bod.icT dc_41_21 rfl (k2_le_T b 90 rfl rfl (by omega) (by omega)) ?_
  refine Bod.ic 1 (by decide) dc_41_30 ?_
  refine Bod.go dc_41_31 rfl ?_
  exact Bod.retZ dc_41_35 rt_41 (Or.inr rfl)
theorem isLetter_c {d : Nat} {S : cS} {b : Nat} (h1 : b = 95) : Ans (d + 1) 41 [.int (nI b)] S (some (.int 1)) (S) := by
  refine Ans.of (by rw [ml_41]; exact Nat.le_of_ble_eq_true rfl) ?_
  refine Bod.go dc_41_0 rfl ?_
  refine Bod.bip 97 (by decide) dc_41_1 ?_
  refine Bod.icT dc_41_3 rfl (k2_lt_T b 97 rfl rfl (by omega) (by omega)) ?_
  refine Bod.go dc_41_12 rfl ?_
  refine Bod.bip 65 (by decide) dc_41_13 ?_
  refine Bod.icF dc_41_15 rfl (k2_lt_F b 65 rfl rfl (by omega) (by omega)) ?_
  refine Bod.go dc_41_18 rfl ?_
  refine Bod.bip 90 (by decide) dc_41_19 ?_
  refine Bod.icF dc_41_21 rfl (k2_le_F b 90 rfl rfl (by omega) (by omega)) ?_
  refine Bod.go dc_41_24 rfl ?_
  refine Bod.bip 95 (by decide) dc_41_25 ?_
  refine Bod.icF dc_41_27 rfl (k2_ne_F (k_eq b 95 rfl rfl (by omega))) ?_
  refine Bod.ic 1 (by decide) dc_41_30 ?_
  refine Bod.go dc_41_31 rfl ?_
  exact Bod.retZ dc_41_35 rt_41 (Or.inr rfl)
theorem isLetter_n1 {d : Nat} {S : cS} {b : Nat} (h1 : b < 65) : Ans (d + 1) 41 [.int (nI b)] S (some (.int 0)) (S) := by
  refine Ans.of (by rw [ml_41]; exact Nat.le_of_ble_eq_true rfl) ?_
  refine Bod.go dc_41_0 rfl ?_
  refine Bod.bip 97 (by decide) dc_41_1 ?_
  refine Bod.icT dc_41_3 rfl (k2_lt_T b 97 rfl rfl (by omega) (by omega)) ?_
  refine Bod.go dc_41_12 rfl ?_
  refine Bod.bip 65 (by decide) dc_41_13 ?_
  refine Bod.icT dc_41_15 rfl (k2_lt_T b 65 rfl rfl (by omega) (by omega)) ?_
  refine Bod.go dc_41_24 rfl ?_
  refine Bod.bip 95 (by decide) dc_41_25 ?_
  refine Bod.icT dc_41_27 rfl (k2_ne_T (k_ne b 95 rfl rfl (by omega) (by omega) (by omega))) ?_
  refine Bod.ic 0 (by decide) dc_41_34 ?_
  exact Bod.retZ dc_41_35 rt_41 (Or.inl rfl)
theorem isLetter_n2 {d : Nat} {S : cS} {b : Nat} (h1 : 90 < b) (h2 : b < 97) (h3 : b ≠ 95) : Ans (d + 1) 41 [.int (nI b)] S (some (.int 0)) (S) := by
  refine Ans.of (by rw [ml_41]; exact Nat.le_of_ble_eq_true rfl) ?_
  refine Bod.go dc_41_0 rfl ?_
  refine Bod.bip 97 (by decide) dc_41_1 ?_
  refine Bod.icT dc_41_3 rfl (k2_lt_T b 97 rfl rfl (by omega) (by omega)) ?_
  refine Bod.go dc_41_12 rfl ?_
  refine Bod.bip 65 (by decide) dc_41_13 ?_
  refine Bod.icF dc_41_15 rfl (k2_lt_F b 65 rfl rfl (by omega) (by omega)) ?_
  refine Bod.go dc_41_18 rfl ?_
  refine Bod.bip 90 (by decide) dc_41_19 ?_
  refine Bod.icF dc_41_21 rfl (k2_le_F b 90 rfl rfl (by omega) (by omega)) ?_
  refine Bod.go dc_41_24 rfl ?_
  refine Bod.bip 95 (by decide) dc_41_25 ?_
  refine Bod.icT dc_41_27 rfl (k2_ne_T (k_ne b 95 rfl rfl (by omega) (by omega) (by omega))) ?_
  refine Bod.ic 0 (by decide) dc_41_34 ?_
  exact Bod.retZ dc_41_35 rt_41 (Or.inl rfl)
theorem isLetter_n3 {d : Nat} {S : cS} {b : Nat} (h1 : 122 < b) (hb : b < 2 ^ 31) : Ans (d + 1) 41 [.int (nI b)] S (some (.int 0)) (S) := by
  refine Ans.of (by rw [ml_41]; exact Nat.le_of_ble_eq_true rfl) ?_
  refine Bod.go dc_41_0 rfl ?_
  refine Bod.bip 97 (by decide) dc_41_1 ?_
  refine Bod.icF dc_41_3 rfl (k2_lt_F b 97 rfl rfl (by omega) (by omega)) ?_
  refine Bod.go dc_41_6 rfl ?_
  refine Bod.bip 122 (by decide) dc_41_7 ?_
  refine Bod.icF dc_41_9 rfl (k2_le_F b 122 rfl rfl (by omega) (by omega)) ?_
  refine Bod.go dc_41_12 rfl ?_
  refine Bod.bip 65 (by decide) dc_41_13 ?_
  refine Bod.icF dc_41_15 rfl (k2_lt_F b 65 rfl rfl (by omega) (by omega)) ?_
  refine Bod.go dc_41_18 rfl ?_
  refine Bod.bip 90 (by decide) dc_41_19 ?_
  refine Bod.icF dc_41_21 rfl (k2_le_F b 90 rfl rfl (by omega) (by omega)) ?_
  refine Bod.go dc_41_24 rfl ?_
  refine Bod.bip 95 (by decide) dc_41_25 ?_
  refine Bod.icT dc_41_27 rfl (k2_ne_T (k_ne b 95 rfl rfl (by omega) (by omega) (by omega))) ?_
  refine Bod.ic 0 (by decide) dc_41_34 ?_
  exact Bod.retZ dc_41_35 rt_41 (Or.inl rfl)
/-- letters and _; digits -/
def c_let (b : Nat) : Bool := (Nat.ble 97 b && Nat.ble b 122) || ((Nat.ble 65 b && Nat.ble b 90) || Nat.beq b 95)
def c_dig (b : Nat) : Bool := Nat.ble 48 b && Nat.ble b 57
theorem isLetter_T {d : Nat} {S : cS} {b : Nat} (h : c_let b = true) : Ans (d + 1) 41 [.int (nI b)] S (some (.int 1)) S := by
  unfold c_let at h
  simp only [Bool.or_eq_true, Bool.and_eq_true, Nat.ble_eq, Nat.beq_eq] at h
  rcases h with h | h | h
  · exact isLetter_a h.1 h.2
  · exact isLetter_b h.1 h.2
  · exact isLetter_c h
theorem isLetter_F {d : Nat} {S : cS} {b : Nat} (hb : b < 2 ^ 31) (h : c_let b = false) : Ans (d + 1) 41 [.int (nI b)] S (some (.int 0)) S := by
  have h1 : ¬ ((97 ≤ b ∧ b ≤ 122) ∨ ((65 ≤ b ∧ b ≤ 90) ∨ b = 95)) := by
    intro h2
    have h3 : c_let b = true := by
      unfold c_let
      simp only [Bool.or_eq_true, Bool.and_eq_true, Nat.ble_eq, Nat.beq_eq]
      exact h2
    rw [h] at h3
    cases h3
  by_cases h2 : b < 65
  · exact isLetter_n1 h2
  by_cases h3 : b < 97
  · exact isLetter_n2 (by omega) h3 (by omega)
  exact isLetter_n3 (by omega) hb
theorem isDigit_t {d : Nat} {S : cS} {b : Nat} (h1 : 48 ≤ b) (h2 : b ≤ 57) : Ans (d + 1) 43 [.int (nI b)] S (some (.int 1)) (S) := by
  refine Ans.of (by rw [ml_43]; exact Nat.le_of_ble_eq_true rfl) ?_
  refine Bod.go dc_43_0 rfl ?_
  refine Bod.bip 48 (by decide) dc_43_1 ?_
  refine Bod.icF dc_43_3 rfl (k2_lt_F b 48 rfl rfl (by omega) (by omega)) ?_
  refine Bod.go dc_43_6 rfl ?_
  refine Bod.bip 57 (by decide) dc_43_7 ?_
  refine Bod.icF dc_43_9 rfl (k2_gt_F b 57 rfl rfl (by omega) (by omega)) ?_
  refine Bod.ic 1 (by decide) dc_43_12 ?_
  refine Bod.go dc_43_13 rfl ?_
  exact Bod.retZ dc_43_17 rt_43 (Or.inr rfl)
theorem isDigit_n1 {d : Nat} {S : cS} {b : Nat} (h1 : b < 48) : Ans (d + 1) 43 [.int (nI b)] S (some (.int 0)) (S) := by
  refine Ans.of (by rw [ml_43]; exact Nat.le_of_ble_eq_true rfl) ?_
  refine Bod.go dc_43_0 rfl ?_
  refine Bod.bip 48 (by decide) dc_43_1 ?_
  refine Bod.icT dc_43_3 rfl (k2_lt_T b 48 rfl rfl (by omega) (by omega)) ?_
  refine Bod.ic 0 (by decide) dc_43_16 ?_
  exact Bod.retZ dc_43_17 rt_43 (Or.inl rfl)
theorem isDigit_n2 {d : Nat} {S : cS} {b : Nat} (h1 : 57 < b) (hb : b < 2 ^ 31) : Ans (d + 1) 43 [.int (nI b)] S (some (.int 0)) (S) := by
  refine Ans.of (by rw [ml_43]; exact Nat.le_of_ble_eq_true rfl) ?_
  refine Bod.go dc_43_0 rfl ?_
  refine Bod.bip 48 (by decide) dc_43_1 ?_
  refine Bod.icF dc_43_3 rfl (k2_lt_F b 48 rfl rfl (by omega) (by omega)) ?_
  refine Bod.go dc_43_6 rfl ?_
  refine Bod.bip 57 (by decide) dc_43_7 ?_
  refine Bod.icT dc_43_9 rfl (k2_gt_T b 57 rfl rfl (by omega) (by omega)) ?_
  refine Bod.ic 0 (by decide) dc_43_16 ?_
  exact Bod.retZ dc_43_17 rt_43 (Or.inl rfl)
theorem isDigit_T {d : Nat} {S : cS} {b : Nat} (h : c_dig b = true) : Ans (d + 1) 43 [.int (nI b)] S (some (.int 1)) S := by
  unfold c_dig at h
  simp only [Bool.and_eq_true, Nat.ble_eq] at h
  exact isDigit_t h.1 h.2
theorem isDigit_F {d : Nat} {S : cS} {b : Nat} (hb : b < 2 ^ 31) (h : c_dig b = false) : Ans (d + 1) 43 [.int (nI b)] S (some (.int 0)) S := by
  have h1 : ¬ (48 ≤ b ∧ b ≤ 57) := by
    intro h2
    have h3 : c_dig b = true := by
      unfold c_dig
      simp only [Bool.and_eq_true, Nat.ble_eq]
      exact h2
    rw [h] at h3
    cases h3
  by_cases h2 : b < 48
  · exact isDigit_n1 h2
  exact isDigit_n2 (by omega) hb
/-- byte i of the tape -/
def c_byte (S : cS) (i : Nat) : Nat := (sA S 1 i &&& nI 255).toNatClampNeg
theorem c_byte_eq (S : cS) (i : Nat) : sA S 1 i &&& nI 255 = nI (c_byte S i) ∧ c_byte S i < 256 := by
  obtain ⟨q, hq, e⟩ := pk_andE (sA S 1 i) (m := nI 255) 8 (by decide)
  have e1 : c_byte S i = q := by
    unfold c_byte
    rw [e, nI_clamp (by omega)]
  rw [e1]
  exact ⟨e, by omega⟩
theorem byteAt_ev {d : Nat} {S : cS} {n q : Nat} (hn : sI S 3102 = nI n) (hq : q < n) (hM : n ≤ 3000) : Ans (d + 1) 38 [.ref 31, .int (nI q)] S (some (.int (nI (c_byte S q)))) S := by
  have h := byteAt_T (d := d) hn hq hM
  rw [(c_byte_eq S q).1] at h
  exact h
theorem c_byte_I (k : Nat) (x : Int32) (S : cS) (i : Nat) : c_byte (wI k x S) i = c_byte S i := rfl
/-- byte i, told as a number -/
theorem byteAt_n {d : Nat} {S : cS} {n q b : Nat} (hn : sI S 3102 = nI n) (hq : q < n) (hM : n ≤ 3000) (hb : c_byte S q = b) : Ans (d + 1) 38 [.ref 31, .int (nI q)] S (some (.int (nI b))) S := by
  rw [← hb]
  exact byteAt_ev hn hq hM
theorem fail_new {d : Nat} {S : cS} {l : Int32} (h0 : sI S 3113 = nI 0) : Ans (d + 1) 44 [.ref 31] S (none) (wI 3105 (nI 0) (wI 3113 (sI S 3106) S)) := by
  refine Ans.of (by rw [ml_44]; exact Nat.le_of_ble_eq_true rfl) ?_
  refine Bod.go dc_44_0 rfl ?_
  refine Bod.get dc_44_1 fr_44_26 (mk_31 _) rfl ?_
  refine Bod.eqI (nI 0) (by first | assumption | rfl | exact congrArg nI (by omega) | (simp (disch := omega) only [rI, rIe, rA, rIA, rLA, rJA, rVI, rQI, rVA, rQA, upd_at,  rAI, rLI, rJI, nI_add, pk_sub, kc_0, kc_1, kc_2, kc_3, kc_4, kc_5, reduceIte, Nat.reduceEqDiff, Nat.add_zero, rI_hold, rI_hold, rL_hold, h0]; done)) ?_
  refine Bod.ifF dc_44_4 rfl (k1_ne_F (k_eq 0 0 rfl rfl (by omega))) ?_
  refine Bod.go dc_44_7 rfl ?_
  refine Bod.go dc_44_8 rfl ?_
  refine Bod.get dc_44_9 fr_44_29 (mk_31 _) rfl ?_
  refine Bod.put dc_44_12 fr_44_26 (mk_31 _) (Nat.le_of_ble_eq_true rfl) pf_3_13 (st_3113 _ _) (mu_I _ _ _) ?_
  refine Bod.go dc_44_15 rfl ?_
  refine Bod.ic 0 (by decide) dc_44_16 ?_
  refine Bod.put dc_44_17 fr_44_38 (mk_31 _) (Nat.le_of_ble_eq_true rfl) pf_3_5 (st_3105 _ _) (mu_I _ _ _) ?_
  exact Bod.retV dc_44_20 rt_44
theorem fail_old {d : Nat} {S : cS}  (h0 : sI S 3113 ≠ 0) : Ans (d + 1) 44 [.ref 31] S (none) (wI 3105 (nI 0) S) := by
  refine Ans.of (by rw [ml_44]; exact Nat.le_of_ble_eq_true rfl) ?_
  refine Bod.go dc_44_0 rfl ?_
  refine Bod.get dc_44_1 fr_44_26 (mk_31 _) rfl ?_
  refine Bod.ifT dc_44_4 rfl (k1_ne_T h0) ?_
  refine Bod.go dc_44_15 rfl ?_
  refine Bod.ic 0 (by decide) dc_44_16 ?_
  refine Bod.put dc_44_17 fr_44_38 (mk_31 _) (Nat.le_of_ble_eq_true rfl) pf_3_5 (st_3105 _ _) (mu_I _ _ _) ?_
  exact Bod.retV dc_44_20 rt_44
theorem skipBlanks_loop {d n q : Nat} (hM : n ≤ 3000) (hq : q ≤ n) : ∀ (r i : Nat) (S : cS), i + r = q → sI S 3102 = nI n → sI S 3103 = nI i → (∀ x, i ≤ x → x < q → c_byte S x = 32) → (q = n ∨ c_byte S q ≠ 32) → Bod (d + 1) 37 0 (lv_args 0 [.ref 31]) [] S none (wI 3103 (nI q) S) := by
  intro r
  induction r with
  | zero =>
    intro i S hi hn hp _ he
    obtain rfl : i = q := by omega
    rw [wI_same hp]
    by_cases hc : i < n
    · have hne : c_byte S i ≠ 32 := he.resolve_left (by omega)
      obtain ⟨b, hbq⟩ : ∃ b, c_byte S i = b := ⟨_, rfl⟩
      have hb2 : b < 256 := by rw [← hbq]; exact (c_byte_eq S i).2
      rw [hbq] at hne
      refine Bod.go dc_37_0 rfl ?_
      refine Bod.get dc_37_1 fr_37_23 (mk_31 _) rfl ?_
      refine Bod.eqI (nI i) (by first | assumption | rfl | exact congrArg nI (by omega) | (simp (disch := omega) only [rI, rIe, rA, rIA, rLA, rJA, rVI, rQI, rVA, rQA, upd_at,  rAI, rLI, rJI, nI_add, pk_sub, kc_0, kc_1, kc_2, kc_3, kc_4, kc_5, reduceIte, Nat.reduceEqDiff, Nat.add_zero, rI_hold, rI_hold, rL_hold, hn, hp]; done)) ?_
      refine Bod.go dc_37_4 rfl ?_
      refine Bod.get dc_37_5 fr_37_19 (mk_31 _) rfl ?_
      refine Bod.eqI (nI n) (by first | assumption | rfl | exact congrArg nI (by omega) | (simp (disch := omega) only [rI, rIe, rA, rIA, rLA, rJA, rVI, rQI, rVA, rQA, upd_at,  rAI, rLI, rJI, nI_add, pk_sub, kc_0, kc_1, kc_2, kc_3, kc_4, kc_5, reduceIte, Nat.reduceEqDiff, Nat.add_zero, rI_hold, rI_hold, rL_hold, hn, hp]; done)) ?_
      refine Bod.icF dc_37_8 rfl (k2_ge_F i n rfl rfl (by omega) (by omega)) ?_
      refine Bod.go dc_37_11 rfl ?_
      refine Bod.go dc_37_12 rfl ?_
      refine Bod.get dc_37_13 fr_37_23 (mk_31 _) rfl ?_
      refine Bod.eqI (nI i) (by first | assumption | rfl | exact congrArg nI (by omega) | (simp (disch := omega) only [rI, rIe, rA, rIA, rLA, rJA, rVI, rQI, rVA, rQA, upd_at,  rAI, rLI, rJI, nI_add, pk_sub, kc_0, kc_1, kc_2, kc_3, kc_4, kc_5, reduceIte, Nat.reduceEqDiff, Nat.add_zero, rI_hold, rI_hold, rL_hold, hn, hp]; done)) ?_
      refine Bod.virt (r := []) dc_37_16 kr_37_50 ⟨Or.inl rfl, ow_38, cl_3⟩ (by rw [np_38]; rfl) (by rw [np_38]; rfl) (ob_of (mk_31 _)) (Nat.le_of_ble_eq_true rfl) (byteAt_n (n := n) (q := i) (b := b) (by first | assumption | rfl | exact congrArg nI (by omega) | (simp (disch := omega) only [rI, rIe, rA, rIA, rLA, rJA, rVI, rQI, rVA, rQA, upd_at,  rAI, rLI, rJI, nI_add, pk_sub, kc_0, kc_1, kc_2, kc_3, kc_4, kc_5, reduceIte, Nat.reduceEqDiff, Nat.add_zero, rI_hold, rI_hold, rL_hold, hn, hp]; done)) (by omega) (by omega) hbq) ?_
      show Bod _ _ _ _ [_] _ _ _
      refine Bod.bip 32 (by decide) dc_37_19 ?_
      refine Bod.icT dc_37_21 rfl (k2_ne_T (k_ne b 32 rfl rfl hne (by omega) (by omega))) ?_
      exact Bod.retV dc_37_37 rt_37
    · have hc2 : n ≤ i := by omega
      refine Bod.go dc_37_0 rfl ?_
      refine Bod.get dc_37_1 fr_37_23 (mk_31 _) rfl ?_
      refine Bod.eqI (nI i) (by first | assumption | rfl | exact congrArg nI (by omega) | (simp (disch := omega) only [rI, rIe, rA, rIA, rLA, rJA, rVI, rQI, rVA, rQA, upd_at,  rAI, rLI, rJI, nI_add, pk_sub, kc_0, kc_1, kc_2, kc_3, kc_4, kc_5, reduceIte, Nat.reduceEqDiff, Nat.add_zero, rI_hold, rI_hold, rL_hold, hn, hp]; done)) ?_
      refine Bod.go dc_37_4 rfl ?_
      refine Bod.get dc_37_5 fr_37_19 (mk_31 _) rfl ?_
      refine Bod.eqI (nI n) (by first | assumption | rfl | exact congrArg nI (by omega) | (simp (disch := omega) only [rI, rIe, rA, rIA, rLA, rJA, rVI, rQI, rVA, rQA, upd_at,  rAI, rLI, rJI, nI_add, pk_sub, kc_0, kc_1, kc_2, kc_3, kc_4, kc_5, reduceIte, Nat.reduceEqDiff, Nat.add_zero, rI_hold, rI_hold, rL_hold, hn, hp]; done)) ?_
      refine Bod.icT dc_37_8 rfl (k2_ge_T i n rfl rfl (by omega) (by omega)) ?_
      exact Bod.retV dc_37_37 rt_37
  | succ r ih =>
    intro i S hi hn hp hb he
    have hb := hb i (Nat.le_refl _) (by omega)
    have hnext := ih (i + 1) (wI 3103 (nI (i + 1)) S) (by omega) hn (rIe _ _ _) (fun x h1 h2 => by rw [c_byte_I]; exact ‹∀ x, i ≤ x → x < q → c_byte S x = 32› x (by omega) h2) (by rw [c_byte_I]; exact he)
    rw [wI_wI] at hnext
    refine Bod.go dc_37_0 rfl ?_
    refine Bod.get dc_37_1 fr_37_23 (mk_31 _) rfl ?_
    refine Bod.eqI (nI i) (by first | assumption | rfl | exact congrArg nI (by omega) | (simp (disch := omega) only [rI, rIe, rA, rIA, rLA, rJA, rVI, rQI, rVA, rQA, upd_at,  rAI, rLI, rJI, nI_add, pk_sub, kc_0, kc_1, kc_2, kc_3, kc_4, kc_5, reduceIte, Nat.reduceEqDiff, Nat.add_zero, rI_hold, rI_hold, rL_hold, hn, hp]; done)) ?_
    refine Bod.go dc_37_4 rfl ?_
    refine Bod.get dc_37_5 fr_37_19 (mk_31 _) rfl ?_
    refine Bod.eqI (nI n) (by first | assumption | rfl | exact congrArg nI (by omega) | (simp (disch := omega) only [rI, rIe, rA, rIA, rLA, rJA, rVI, rQI, rVA, rQA, upd_at,  rAI, rLI, rJI, nI_add, pk_sub, kc_0, kc_1, kc_2, kc_3, kc_4, kc_5, reduceIte, Nat.reduceEqDiff, Nat.add_zero, rI_hold, rI_hold, rL_hold, hn, hp]; done)) ?_
    refine Bod.icF dc_37_8 rfl (k2_ge_F i n rfl rfl (by omega) (by omega)) ?_
    refine Bod.go dc_37_11 rfl ?_
    refine Bod.go dc_37_12 rfl ?_
    refine Bod.get dc_37_13 fr_37_23 (mk_31 _) rfl ?_
    refine Bod.eqI (nI i) (by first | assumption | rfl | exact congrArg nI (by omega) | (simp (disch := omega) only [rI, rIe, rA, rIA, rLA, rJA, rVI, rQI, rVA, rQA, upd_at,  rAI, rLI, rJI, nI_add, pk_sub, kc_0, kc_1, kc_2, kc_3, kc_4, kc_5, reduceIte, Nat.reduceEqDiff, Nat.add_zero, rI_hold, rI_hold, rL_hold, hn, hp]; done)) ?_
    refine Bod.virt (r := []) dc_37_16 kr_37_50 ⟨Or.inl rfl, ow_38, cl_3⟩ (by rw [np_38]; rfl) (by rw [np_38]; rfl) (ob_of (mk_31 _)) (Nat.le_of_ble_eq_true rfl) (byteAt_n (n := n) (q := i) (b := 32) (by first | assumption | rfl | exact congrArg nI (by omega) | (simp (disch := omega) only [rI, rIe, rA, rIA, rLA, rJA, rVI, rQI, rVA, rQA, upd_at,  rAI, rLI, rJI, nI_add, pk_sub, kc_0, kc_1, kc_2, kc_3, kc_4, kc_5, reduceIte, Nat.reduceEqDiff, Nat.add_zero, rI_hold, rI_hold, rL_hold, hn, hp]; done)) (by omega) (by omega) hb) ?_
    show Bod _ _ _ _ [_] _ _ _
    refine Bod.bip 32 (by decide) dc_37_19 ?_
    refine Bod.icF dc_37_21 rfl (k2_ne_F (k_eq 32 32 rfl rfl (by omega))) ?_
    refine Bod.go dc_37_24 rfl ?_
    refine Bod.go dc_37_25 rfl ?_
    refine Bod.get dc_37_26 fr_37_23 (mk_31 _) rfl ?_
    refine Bod.eqI (nI i) (by first | assumption | rfl | exact congrArg nI (by omega) | (simp (disch := omega) only [rI, rIe, rA, rIA, rLA, rJA, rVI, rQI, rVA, rQA, upd_at,  rAI, rLI, rJI, nI_add, pk_sub, kc_0, kc_1, kc_2, kc_3, kc_4, kc_5, reduceIte, Nat.reduceEqDiff, Nat.add_zero, rI_hold, rI_hold, rL_hold, hn, hp]; done)) ?_
    refine Bod.ic 1 (by decide) dc_37_29 ?_
    refine Bod.addN (i + 1) (by omega) dc_37_30 ?_
    refine Bod.put dc_37_31 fr_37_23 (mk_31 _) (Nat.le_of_ble_eq_true rfl) pf_3_3 (st_3103 _ _) (mu_I _ _ _) ?_
    refine Bod.go dc_37_34 rfl ?_
    exact hnext
theorem skipBlanks_ev {d n p q : Nat} {S : cS} (hn : sI S 3102 = nI n) (hp : sI S 3103 = nI p) (hM : n ≤ 3000) (hpq : p ≤ q) (hq : q ≤ n) (hb : ∀ x, p ≤ x → x < q → c_byte S x = 32) (he : q = n ∨ c_byte S q ≠ 32) : Ans (d + 2) 37 [.ref 31] S none (wI 3103 (nI q) S) := Ans.of (by rw [ml_37]; exact Nat.le_of_ble_eq_true rfl) (skipBlanks_loop hM hq (q - p) p S (by omega) hn hp hb he)
