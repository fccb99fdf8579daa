/-! WAYS of the class's machine: every call is a hypothesis -/
theorem ml_236 : sm_ml 236 = 6 := by decide +kernel
theorem dc_236_0 : decode (sm_cc 236) 0 = .ok (.bipush (20), 2) := by decide +kernel
theorem dc_236_2 : decode (sm_cc 236) 2 = .ok (.istore_n 3, 1) := by decide +kernel
theorem dc_236_3 : decode (sm_cc 236) 3 = .ok (.lload_n 1, 1) := by decide +kernel
theorem dc_236_4 : decode (sm_cc 236) 4 = .ok (.lstore 4, 2) := by decide +kernel
theorem dc_236_6 : decode (sm_cc 236) 6 = .ok (.iinc 3 (-1), 3) := by decide +kernel
theorem dc_236_9 : decode (sm_cc 236) 9 = .ok (.aload_n 0, 1) := by decide +kernel
theorem dc_236_10 : decode (sm_cc 236) 10 = .ok (.getfield 31, 3) := by decide +kernel
theorem fr_236_31 : sm_at mt_f (sm_ow 236) 31 = some (31, 0, 5, 0, 794) := by decide +kernel
theorem dc_236_13 : decode (sm_cc 236) 13 = .ok (.iload_n 3, 1) := by decide +kernel
theorem dc_236_14 : decode (sm_cc 236) 14 = .ok (.bipush (48), 2) := by decide +kernel
theorem dc_236_16 : decode (sm_cc 236) 16 = .ok (.lload 4, 2) := by decide +kernel
theorem dc_236_18 : decode (sm_cc 236) 18 = .ok (.ldc2_w 187, 3) := by decide +kernel
theorem cj_236_187 : sm_at mt_cj (sm_ow 236) 187 = some (187, (10), 1845) := by decide +kernel
theorem dc_236_21 : decode (sm_cc 236) 21 = .ok (.lrem, 1) := by decide +kernel
theorem dc_236_22 : decode (sm_cc 236) 22 = .ok (.l2i, 1) := by decide +kernel
theorem dc_236_23 : decode (sm_cc 236) 23 = .ok (.invokestatic 189, 3) := by decide +kernel
theorem kr_236_189 : sm_at mt_k (sm_ow 236) 189 = some (189, 2, 237, 0, 1846) := by decide +kernel
theorem np_237 : sm_np 237 = 1 := by decide +kernel
theorem dc_236_26 : decode (sm_cc 236) 26 = .ok (.iadd, 1) := by decide +kernel
theorem dc_236_27 : decode (sm_cc 236) 27 = .ok (.i2b, 1) := by decide +kernel
theorem dc_236_28 : decode (sm_cc 236) 28 = .ok (.bastore, 1) := by decide +kernel
theorem dc_236_29 : decode (sm_cc 236) 29 = .ok (.lload 4, 2) := by decide +kernel
theorem dc_236_31 : decode (sm_cc 236) 31 = .ok (.ldc2_w 187, 3) := by decide +kernel
theorem dc_236_34 : decode (sm_cc 236) 34 = .ok (.ldiv, 1) := by decide +kernel
theorem dc_236_35 : decode (sm_cc 236) 35 = .ok (.lstore 4, 2) := by decide +kernel
theorem dc_236_37 : decode (sm_cc 236) 37 = .ok (.lload 4, 2) := by decide +kernel
theorem dc_236_39 : decode (sm_cc 236) 39 = .ok (.lconst 0, 1) := by decide +kernel
theorem dc_236_40 : decode (sm_cc 236) 40 = .ok (.lcmp, 1) := by decide +kernel
theorem dc_236_41 : decode (sm_cc 236) 41 = .ok (.ifCond .eq (8), 3) := by decide +kernel
theorem dc_236_44 : decode (sm_cc 236) 44 = .ok (.iload_n 3, 1) := by decide +kernel
theorem dc_236_45 : decode (sm_cc 236) 45 = .ok (.iconst 1, 1) := by decide +kernel
theorem dc_236_46 : decode (sm_cc 236) 46 = .ok (.if_icmp .gt (-40), 3) := by decide +kernel
theorem dc_236_49 : decode (sm_cc 236) 49 = .ok (.lload_n 1, 1) := by decide +kernel
theorem dc_236_50 : decode (sm_cc 236) 50 = .ok (.lconst 0, 1) := by decide +kernel
theorem dc_236_51 : decode (sm_cc 236) 51 = .ok (.lcmp, 1) := by decide +kernel
theorem dc_236_52 : decode (sm_cc 236) 52 = .ok (.ifCond .ge (14), 3) := by decide +kernel
theorem dc_236_66 : decode (sm_cc 236) 66 = .ok (.iload_n 3, 1) := by decide +kernel
theorem dc_236_67 : decode (sm_cc 236) 67 = .ok (.ireturn, 1) := by decide +kernel
theorem rt_236 : sm_rt 236 = some .int := by decide +kernel
theorem dc_236_55 : decode (sm_cc 236) 55 = .ok (.iinc 3 (-1), 3) := by decide +kernel
theorem dc_236_58 : decode (sm_cc 236) 58 = .ok (.aload_n 0, 1) := by decide +kernel
theorem dc_236_59 : decode (sm_cc 236) 59 = .ok (.getfield 31, 3) := by decide +kernel
theorem dc_236_62 : decode (sm_cc 236) 62 = .ok (.iload_n 3, 1) := by decide +kernel
theorem dc_236_63 : decode (sm_cc 236) 63 = .ok (.bipush (45), 2) := by decide +kernel
theorem dc_236_65 : decode (sm_cc 236) 65 = .ok (.bastore, 1) := by decide +kernel
theorem ml_385 : sm_ml 385 = 8 := by decide +kernel
theorem dc_385_0 : decode (sm_cc 385) 0 = .ok (.iconst 0, 1) := by decide +kernel
theorem dc_385_1 : decode (sm_cc 385) 1 = .ok (.istore_n 3, 1) := by decide +kernel
theorem dc_385_2 : decode (sm_cc 385) 2 = .ok (.lload_n 1, 1) := by decide +kernel
theorem dc_385_3 : decode (sm_cc 385) 3 = .ok (.lstore 4, 2) := by decide +kernel
theorem dc_385_5 : decode (sm_cc 385) 5 = .ok (.lload 4, 2) := by decide +kernel
theorem dc_385_7 : decode (sm_cc 385) 7 = .ok (.ldc2_w 171, 3) := by decide +kernel
theorem cj_385_171 : sm_at mt_cj (sm_ow 385) 171 = some (171, (10), 2398) := by decide +kernel
theorem dc_385_10 : decode (sm_cc 385) 10 = .ok (.lrem, 1) := by decide +kernel
theorem dc_385_11 : decode (sm_cc 385) 11 = .ok (.lstore 6, 2) := by decide +kernel
theorem dc_385_13 : decode (sm_cc 385) 13 = .ok (.aload_n 0, 1) := by decide +kernel
theorem dc_385_14 : decode (sm_cc 385) 14 = .ok (.getfield 752, 3) := by decide +kernel
theorem fr_385_752 : sm_at mt_f (sm_ow 385) 752 = some (752, 14, 69, 0, 2142) := by decide +kernel
theorem dc_385_17 : decode (sm_cc 385) 17 = .ok (.iload_n 3, 1) := by decide +kernel
theorem dc_385_18 : decode (sm_cc 385) 18 = .ok (.ldc2_w 173, 3) := by decide +kernel
theorem cj_385_173 : sm_at mt_cj (sm_ow 385) 173 = some (173, (48), 2399) := by decide +kernel
theorem dc_385_21 : decode (sm_cc 385) 21 = .ok (.lload 6, 2) := by decide +kernel
theorem dc_385_23 : decode (sm_cc 385) 23 = .ok (.lconst 0, 1) := by decide +kernel
theorem dc_385_24 : decode (sm_cc 385) 24 = .ok (.lcmp, 1) := by decide +kernel
theorem dc_385_25 : decode (sm_cc 385) 25 = .ok (.ifCond .ge (9), 3) := by decide +kernel
theorem dc_385_34 : decode (sm_cc 385) 34 = .ok (.lload 6, 2) := by decide +kernel
theorem dc_385_36 : decode (sm_cc 385) 36 = .ok (.ladd, 1) := by decide +kernel
theorem dc_385_37 : decode (sm_cc 385) 37 = .ok (.l2i, 1) := by decide +kernel
theorem dc_385_38 : decode (sm_cc 385) 38 = .ok (.i2b, 1) := by decide +kernel
theorem dc_385_39 : decode (sm_cc 385) 39 = .ok (.bastore, 1) := by decide +kernel
theorem dc_385_40 : decode (sm_cc 385) 40 = .ok (.iinc 3 (1), 3) := by decide +kernel
theorem dc_385_43 : decode (sm_cc 385) 43 = .ok (.lload 4, 2) := by decide +kernel
theorem dc_385_45 : decode (sm_cc 385) 45 = .ok (.ldc2_w 171, 3) := by decide +kernel
theorem dc_385_48 : decode (sm_cc 385) 48 = .ok (.ldiv, 1) := by decide +kernel
theorem dc_385_49 : decode (sm_cc 385) 49 = .ok (.lstore 4, 2) := by decide +kernel
theorem dc_385_51 : decode (sm_cc 385) 51 = .ok (.lload 4, 2) := by decide +kernel
theorem dc_385_53 : decode (sm_cc 385) 53 = .ok (.lconst 0, 1) := by decide +kernel
theorem dc_385_54 : decode (sm_cc 385) 54 = .ok (.lcmp, 1) := by decide +kernel
theorem dc_385_55 : decode (sm_cc 385) 55 = .ok (.ifCond .ne (-50), 3) := by decide +kernel
theorem dc_385_28 : decode (sm_cc 385) 28 = .ok (.lload 6, 2) := by decide +kernel
theorem dc_385_30 : decode (sm_cc 385) 30 = .ok (.lneg, 1) := by decide +kernel
theorem dc_385_31 : decode (sm_cc 385) 31 = .ok (.goto (5), 3) := by decide +kernel
theorem dc_385_58 : decode (sm_cc 385) 58 = .ok (.lload_n 1, 1) := by decide +kernel
theorem dc_385_59 : decode (sm_cc 385) 59 = .ok (.lconst 0, 1) := by decide +kernel
theorem dc_385_60 : decode (sm_cc 385) 60 = .ok (.lcmp, 1) := by decide +kernel
theorem dc_385_61 : decode (sm_cc 385) 61 = .ok (.ifCond .ge (14), 3) := by decide +kernel
theorem dc_385_75 : decode (sm_cc 385) 75 = .ok (.iconst 0, 1) := by decide +kernel
theorem dc_385_76 : decode (sm_cc 385) 76 = .ok (.istore 6, 2) := by decide +kernel
theorem dc_385_64 : decode (sm_cc 385) 64 = .ok (.aload_n 0, 1) := by decide +kernel
theorem dc_385_65 : decode (sm_cc 385) 65 = .ok (.getfield 752, 3) := by decide +kernel
theorem dc_385_68 : decode (sm_cc 385) 68 = .ok (.iload_n 3, 1) := by decide +kernel
theorem dc_385_69 : decode (sm_cc 385) 69 = .ok (.bipush (45), 2) := by decide +kernel
theorem dc_385_71 : decode (sm_cc 385) 71 = .ok (.bastore, 1) := by decide +kernel
theorem dc_385_72 : decode (sm_cc 385) 72 = .ok (.iinc 3 (1), 3) := by decide +kernel
theorem dc_385_78 : decode (sm_cc 385) 78 = .ok (.iload 6, 2) := by decide +kernel
theorem dc_385_80 : decode (sm_cc 385) 80 = .ok (.iload_n 3, 1) := by decide +kernel
theorem dc_385_81 : decode (sm_cc 385) 81 = .ok (.iconst 2, 1) := by decide +kernel
theorem dc_385_82 : decode (sm_cc 385) 82 = .ok (.idiv, 1) := by decide +kernel
theorem dc_385_83 : decode (sm_cc 385) 83 = .ok (.if_icmp .ge (49), 3) := by decide +kernel
theorem dc_385_132 : decode (sm_cc 385) 132 = .ok (.iload_n 3, 1) := by decide +kernel
theorem dc_385_133 : decode (sm_cc 385) 133 = .ok (.ireturn, 1) := by decide +kernel
theorem rt_385 : sm_rt 385 = some .int := by decide +kernel
theorem dc_385_86 : decode (sm_cc 385) 86 = .ok (.aload_n 0, 1) := by decide +kernel
theorem dc_385_87 : decode (sm_cc 385) 87 = .ok (.getfield 752, 3) := by decide +kernel
theorem dc_385_90 : decode (sm_cc 385) 90 = .ok (.iload 6, 2) := by decide +kernel
theorem dc_385_92 : decode (sm_cc 385) 92 = .ok (.baload, 1) := by decide +kernel
theorem dc_385_93 : decode (sm_cc 385) 93 = .ok (.istore 7, 2) := by decide +kernel
theorem dc_385_95 : decode (sm_cc 385) 95 = .ok (.aload_n 0, 1) := by decide +kernel
theorem dc_385_96 : decode (sm_cc 385) 96 = .ok (.getfield 752, 3) := by decide +kernel
theorem dc_385_99 : decode (sm_cc 385) 99 = .ok (.iload 6, 2) := by decide +kernel
theorem dc_385_101 : decode (sm_cc 385) 101 = .ok (.aload_n 0, 1) := by decide +kernel
theorem dc_385_102 : decode (sm_cc 385) 102 = .ok (.getfield 752, 3) := by decide +kernel
theorem dc_385_105 : decode (sm_cc 385) 105 = .ok (.iload_n 3, 1) := by decide +kernel
theorem dc_385_106 : decode (sm_cc 385) 106 = .ok (.iconst 1, 1) := by decide +kernel
theorem dc_385_107 : decode (sm_cc 385) 107 = .ok (.isub, 1) := by decide +kernel
theorem dc_385_108 : decode (sm_cc 385) 108 = .ok (.iload 6, 2) := by decide +kernel
theorem dc_385_110 : decode (sm_cc 385) 110 = .ok (.isub, 1) := by decide +kernel
theorem dc_385_111 : decode (sm_cc 385) 111 = .ok (.baload, 1) := by decide +kernel
theorem dc_385_112 : decode (sm_cc 385) 112 = .ok (.bastore, 1) := by decide +kernel
theorem dc_385_113 : decode (sm_cc 385) 113 = .ok (.aload_n 0, 1) := by decide +kernel
theorem dc_385_114 : decode (sm_cc 385) 114 = .ok (.getfield 752, 3) := by decide +kernel
theorem dc_385_117 : decode (sm_cc 385) 117 = .ok (.iload_n 3, 1) := by decide +kernel
theorem dc_385_118 : decode (sm_cc 385) 118 = .ok (.iconst 1, 1) := by decide +kernel
theorem dc_385_119 : decode (sm_cc 385) 119 = .ok (.isub, 1) := by decide +kernel
theorem dc_385_120 : decode (sm_cc 385) 120 = .ok (.iload 6, 2) := by decide +kernel
theorem dc_385_122 : decode (sm_cc 385) 122 = .ok (.isub, 1) := by decide +kernel
theorem dc_385_123 : decode (sm_cc 385) 123 = .ok (.iload 7, 2) := by decide +kernel
theorem dc_385_125 : decode (sm_cc 385) 125 = .ok (.bastore, 1) := by decide +kernel
theorem dc_385_126 : decode (sm_cc 385) 126 = .ok (.iinc 6 (1), 3) := by decide +kernel
theorem dc_385_129 : decode (sm_cc 385) 129 = .ok (.goto (-51), 3) := by decide +kernel
theorem Bod.lremX {d j pc : Nat} {lv : sm_L} {st : List Value} {S Sf : cS} {v : Option Value} {x y : Int64} (h0 : ¬ y = 0) (hd : decode (sm_cc j) pc = .ok (.lrem, 1)) (h : Bod d j (pc + 1) lv (.long (x - x / y * y) :: st) S v Sf) : Bod d j pc lv (.long y :: .long x :: st) S v Sf := Bod.go hd (sd_ops (by
  show (if y = 0 then none else some (1, .long (x - x / y * y) :: st)) = _
  rw [if_neg h0])) h
theorem mFd_1 {d : Nat} {S Sf : cS} {v : Option Value} {xv : Int64}  (hB : ∀ lv1 : sm_L, sm_get lv1 0 = some (.ref 49) → sm_get lv1 1 = some (.long xv) → sm_get lv1 3 = some (.int (nI 20)) → sm_get lv1 4 = some (.long xv) → Bod (d + 8) 236 6 lv1 [] (S) v Sf) : Bod (d + 8) 236 0 [(0, .ref 49), (1, .long xv)] [] S v Sf := by
  refine Bod.bip 20 (by decide) dc_236_0 ?_
  refine Bod.istn dc_236_2 (by rw [ml_236]; exact Nat.le_of_ble_eq_true rfl) ?_
  refine Bod.go dc_236_3 rfl ?_
  refine Bod.lst dc_236_4 (by rw [ml_236]; exact Nat.le_of_ble_eq_true rfl) ?_
  exact hB _ (by first | rfl | exact (by repeat (first | exact rfl | exact sm_get_p1 | exact sm_get_p2e | refine sm_get_p1m (by decide) (by decide) ?_ | refine sm_get_p1n (by decide) rfl ?_ | refine sm_get_p2n (by decide) (by decide) rfl ?_ | refine sm_get_p2m (by decide) (by decide) (by decide) ?_))) (by first | rfl | exact (by repeat (first | exact rfl | exact sm_get_p1 | exact sm_get_p2e | refine sm_get_p1m (by decide) (by decide) ?_ | refine sm_get_p1n (by decide) rfl ?_ | refine sm_get_p2n (by decide) (by decide) rfl ?_ | refine sm_get_p2m (by decide) (by decide) (by decide) ?_))) (by first | rfl | exact (by repeat (first | exact rfl | exact sm_get_p1 | exact sm_get_p2e | refine sm_get_p1m (by decide) (by decide) ?_ | refine sm_get_p1n (by decide) rfl ?_ | refine sm_get_p2n (by decide) (by decide) rfl ?_ | refine sm_get_p2m (by decide) (by decide) (by decide) ?_))) (by first | rfl | exact (by repeat (first | exact rfl | exact sm_get_p1 | exact sm_get_p2e | refine sm_get_p1m (by decide) (by decide) ?_ | refine sm_get_p1n (by decide) rfl ?_ | refine sm_get_p2n (by decide) (by decide) rfl ?_ | refine sm_get_p2m (by decide) (by decide) (by decide) ?_)))
theorem mFdL_1 {d : Nat} {S Sf : cS} {v : Option Value} {lv : sm_L} {xv : Int64} {ni : Nat} {xr : Int64} {S1 : cS} {rb : Int32} (q0 : sm_get lv 0 = some (.ref 49)) (q1 : sm_get lv 1 = some (.long xv)) (q3 : sm_get lv 3 = some (.int (nI (ni + 1)))) (q4 : sm_get lv 4 = some (.long xr)) (mni : ni < 2 ^ 20) (c1 : Ans (d + 8) 237 [.int ((xr - xr / ((10)) * ((10))).toInt32)] S (some (.int rb)) S1) (b1 : ni < 20) (w4 : sm_c1 .eq (lg_cmp (xr / ((10))) 0) true false = true) (hB : ∀ lv1 : sm_L, sm_get lv1 0 = some (.ref 49) → sm_get lv1 1 = some (.long xv) → sm_get lv1 3 = some (.int (nI ni)) → Bod (d + 8) 236 49 lv1 [] (wA 51 ni (vp_nar .byte (((nI 48) + rb).toInt8.toInt32)) S1) v Sf) : Bod (d + 8) 236 6 lv [] S v Sf := by
  refine Bod.incN ni nI_dec dc_236_6 (by rw [ml_236]; exact Nat.le_of_ble_eq_true rfl) (by repeat (first | exact q3 | exact sm_get_p1 | exact sm_get_p2e | refine sm_get_p1m (by decide) (by decide) ?_ | refine sm_get_p1n (by decide) rfl ?_ | refine sm_get_p2n (by decide) (by decide) rfl ?_ | refine sm_get_p2m (by decide) (by decide) (by decide) ?_)) ?_
  refine Bod.aldnG dc_236_9 (by repeat (first | exact q0 | exact sm_get_p1 | exact sm_get_p2e | refine sm_get_p1m (by decide) (by decide) ?_ | refine sm_get_p1n (by decide) rfl ?_ | refine sm_get_p2n (by decide) (by decide) rfl ?_ | refine sm_get_p2m (by decide) (by decide) (by decide) ?_)) ?_
  refine Bod.get dc_236_10 fr_236_31 (mk_49 _) rfl ?_
  refine Bod.ildnG dc_236_13 (by repeat (first | exact q0 | exact sm_get_p1 | exact sm_get_p2e | refine sm_get_p1m (by decide) (by decide) ?_ | refine sm_get_p1n (by decide) rfl ?_ | refine sm_get_p2n (by decide) (by decide) rfl ?_ | refine sm_get_p2m (by decide) (by decide) (by decide) ?_)) ?_
  refine Bod.bip 48 (by decide) dc_236_14 ?_
  refine Bod.lldG dc_236_16 (by repeat (first | exact q4 | exact sm_get_p1 | exact sm_get_p2e | refine sm_get_p1m (by decide) (by decide) ?_ | refine sm_get_p1n (by decide) rfl ?_ | refine sm_get_p2n (by decide) (by decide) rfl ?_ | refine sm_get_p2m (by decide) (by decide) (by decide) ?_)) ?_
  refine Bod.ldc2 dc_236_18 cj_236_187 ?_
  refine Bod.lremX (by first | assumption | exact ne0_c (by assumption) | decide) dc_236_21 ?_
  refine Bod.go dc_236_22 rfl ?_
  refine Bod.stat (r := [_, _, _]) dc_236_23 kr_236_189 (Or.inl rfl) (by rw [np_237]; rfl) (by rw [np_237]; rfl) (by rw [np_237]; exact Nat.le_of_ble_eq_true rfl) (Nat.le_of_ble_eq_true rfl) (c1  ) ?_
  show Bod _ _ _ _ [_, _, _, _] _ _ _
  refine Bod.go dc_236_26 rfl ?_
  refine Bod.go dc_236_27 rfl ?_
  refine Bod.bastN ni rfl (by omega) (by omega) dc_236_28 (mk_51 _) (sa_51 _ _ _) (mu_A _ _ _ _) ?_
  refine Bod.lldG dc_236_29 (by repeat (first | exact q4 | exact sm_get_p1 | exact sm_get_p2e | refine sm_get_p1m (by decide) (by decide) ?_ | refine sm_get_p1n (by decide) rfl ?_ | refine sm_get_p2n (by decide) (by decide) rfl ?_ | refine sm_get_p2m (by decide) (by decide) (by decide) ?_)) ?_
  refine Bod.ldc2 dc_236_31 cj_236_187 ?_
  refine Bod.ldivX (by first | assumption | exact ne0_c (by assumption) | decide) dc_236_34 ?_
  refine Bod.lst dc_236_35 (by rw [ml_236]; exact Nat.le_of_ble_eq_true rfl) ?_
  refine Bod.lldG dc_236_37 (by repeat (first | exact q0 | exact sm_get_p1 | exact sm_get_p2e | refine sm_get_p1m (by decide) (by decide) ?_ | refine sm_get_p1n (by decide) rfl ?_ | refine sm_get_p2n (by decide) (by decide) rfl ?_ | refine sm_get_p2m (by decide) (by decide) (by decide) ?_)) ?_
  refine Bod.go dc_236_39 rfl ?_
  refine Bod.go dc_236_40 rfl ?_
  refine Bod.ifT dc_236_41 rfl w4 ?_
  exact hB _ (by repeat (first | exact q0 | exact sm_get_p1 | exact sm_get_p2e | refine sm_get_p1m (by decide) (by decide) ?_ | refine sm_get_p1n (by decide) rfl ?_ | refine sm_get_p2n (by decide) (by decide) rfl ?_ | refine sm_get_p2m (by decide) (by decide) (by decide) ?_)) (by repeat (first | exact q1 | exact sm_get_p1 | exact sm_get_p2e | refine sm_get_p1m (by decide) (by decide) ?_ | refine sm_get_p1n (by decide) rfl ?_ | refine sm_get_p2n (by decide) (by decide) rfl ?_ | refine sm_get_p2m (by decide) (by decide) (by decide) ?_)) (by repeat (first | exact q0 | exact sm_get_p1 | exact sm_get_p2e | refine sm_get_p1m (by decide) (by decide) ?_ | refine sm_get_p1n (by decide) rfl ?_ | refine sm_get_p2n (by decide) (by decide) rfl ?_ | refine sm_get_p2m (by decide) (by decide) (by decide) ?_))
theorem mFdL_2 {d : Nat} {S Sf : cS} {v : Option Value} {lv : sm_L} {xv : Int64} {ni : Nat} {xr : Int64} {S1 : cS} {rb : Int32} (q0 : sm_get lv 0 = some (.ref 49)) (q1 : sm_get lv 1 = some (.long xv)) (q3 : sm_get lv 3 = some (.int (nI (ni + 1)))) (q4 : sm_get lv 4 = some (.long xr)) (mni : ni < 2 ^ 20) (c1 : Ans (d + 8) 237 [.int ((xr - xr / ((10)) * ((10))).toInt32)] S (some (.int rb)) S1) (b1 : ni < 20) (w4 : sm_c1 .eq (lg_cmp (xr / ((10))) 0) true false = false) (b2 : 1 < ni) (hB : ∀ lv1 : sm_L, sm_get lv1 0 = some (.ref 49) → sm_get lv1 1 = some (.long xv) → sm_get lv1 3 = some (.int (nI ni)) → sm_get lv1 4 = some (.long (xr / ((10)))) → Bod (d + 8) 236 6 lv1 [] (wA 51 ni (vp_nar .byte (((nI 48) + rb).toInt8.toInt32)) S1) v Sf) : Bod (d + 8) 236 6 lv [] S v Sf := by
  refine Bod.incN ni nI_dec dc_236_6 (by rw [ml_236]; exact Nat.le_of_ble_eq_true rfl) (by repeat (first | exact q3 | exact sm_get_p1 | exact sm_get_p2e | refine sm_get_p1m (by decide) (by decide) ?_ | refine sm_get_p1n (by decide) rfl ?_ | refine sm_get_p2n (by decide) (by decide) rfl ?_ | refine sm_get_p2m (by decide) (by decide) (by decide) ?_)) ?_
  refine Bod.aldnG dc_236_9 (by repeat (first | exact q0 | exact sm_get_p1 | exact sm_get_p2e | refine sm_get_p1m (by decide) (by decide) ?_ | refine sm_get_p1n (by decide) rfl ?_ | refine sm_get_p2n (by decide) (by decide) rfl ?_ | refine sm_get_p2m (by decide) (by decide) (by decide) ?_)) ?_
  refine Bod.get dc_236_10 fr_236_31 (mk_49 _) rfl ?_
  refine Bod.ildnG dc_236_13 (by repeat (first | exact q0 | exact sm_get_p1 | exact sm_get_p2e | refine sm_get_p1m (by decide) (by decide) ?_ | refine sm_get_p1n (by decide) rfl ?_ | refine sm_get_p2n (by decide) (by decide) rfl ?_ | refine sm_get_p2m (by decide) (by decide) (by decide) ?_)) ?_
  refine Bod.bip 48 (by decide) dc_236_14 ?_
  refine Bod.lldG dc_236_16 (by repeat (first | exact q4 | exact sm_get_p1 | exact sm_get_p2e | refine sm_get_p1m (by decide) (by decide) ?_ | refine sm_get_p1n (by decide) rfl ?_ | refine sm_get_p2n (by decide) (by decide) rfl ?_ | refine sm_get_p2m (by decide) (by decide) (by decide) ?_)) ?_
  refine Bod.ldc2 dc_236_18 cj_236_187 ?_
  refine Bod.lremX (by first | assumption | exact ne0_c (by assumption) | decide) dc_236_21 ?_
  refine Bod.go dc_236_22 rfl ?_
  refine Bod.stat (r := [_, _, _]) dc_236_23 kr_236_189 (Or.inl rfl) (by rw [np_237]; rfl) (by rw [np_237]; rfl) (by rw [np_237]; exact Nat.le_of_ble_eq_true rfl) (Nat.le_of_ble_eq_true rfl) (c1  ) ?_
  show Bod _ _ _ _ [_, _, _, _] _ _ _
  refine Bod.go dc_236_26 rfl ?_
  refine Bod.go dc_236_27 rfl ?_
  refine Bod.bastN ni rfl (by omega) (by omega) dc_236_28 (mk_51 _) (sa_51 _ _ _) (mu_A _ _ _ _) ?_
  refine Bod.lldG dc_236_29 (by repeat (first | exact q4 | exact sm_get_p1 | exact sm_get_p2e | refine sm_get_p1m (by decide) (by decide) ?_ | refine sm_get_p1n (by decide) rfl ?_ | refine sm_get_p2n (by decide) (by decide) rfl ?_ | refine sm_get_p2m (by decide) (by decide) (by decide) ?_)) ?_
  refine Bod.ldc2 dc_236_31 cj_236_187 ?_
  refine Bod.ldivX (by first | assumption | exact ne0_c (by assumption) | decide) dc_236_34 ?_
  refine Bod.lst dc_236_35 (by rw [ml_236]; exact Nat.le_of_ble_eq_true rfl) ?_
  refine Bod.lldG dc_236_37 (by repeat (first | exact q0 | exact sm_get_p1 | exact sm_get_p2e | refine sm_get_p1m (by decide) (by decide) ?_ | refine sm_get_p1n (by decide) rfl ?_ | refine sm_get_p2n (by decide) (by decide) rfl ?_ | refine sm_get_p2m (by decide) (by decide) (by decide) ?_)) ?_
  refine Bod.go dc_236_39 rfl ?_
  refine Bod.go dc_236_40 rfl ?_
  refine Bod.ifF dc_236_41 rfl w4 ?_
  refine Bod.ildnG dc_236_44 (by repeat (first | exact q0 | exact sm_get_p1 | exact sm_get_p2e | refine sm_get_p1m (by decide) (by decide) ?_ | refine sm_get_p1n (by decide) rfl ?_ | refine sm_get_p2n (by decide) (by decide) rfl ?_ | refine sm_get_p2m (by decide) (by decide) (by decide) ?_)) ?_
  refine Bod.ic 1 (by decide) dc_236_45 ?_
  refine Bod.icT dc_236_46 rfl (k2_gt_T ni 1 rfl rfl (by omega) (by omega)) ?_
  exact hB _ (by repeat (first | exact q0 | exact sm_get_p1 | exact sm_get_p2e | refine sm_get_p1m (by decide) (by decide) ?_ | refine sm_get_p1n (by decide) rfl ?_ | refine sm_get_p2n (by decide) (by decide) rfl ?_ | refine sm_get_p2m (by decide) (by decide) (by decide) ?_)) (by repeat (first | exact q1 | exact sm_get_p1 | exact sm_get_p2e | refine sm_get_p1m (by decide) (by decide) ?_ | refine sm_get_p1n (by decide) rfl ?_ | refine sm_get_p2n (by decide) (by decide) rfl ?_ | refine sm_get_p2m (by decide) (by decide) (by decide) ?_)) (by repeat (first | exact q0 | exact sm_get_p1 | exact sm_get_p2e | refine sm_get_p1m (by decide) (by decide) ?_ | refine sm_get_p1n (by decide) rfl ?_ | refine sm_get_p2n (by decide) (by decide) rfl ?_ | refine sm_get_p2m (by decide) (by decide) (by decide) ?_)) (by repeat (first | exact q0 | exact sm_get_p1 | exact sm_get_p2e | refine sm_get_p1m (by decide) (by decide) ?_ | refine sm_get_p1n (by decide) rfl ?_ | refine sm_get_p2n (by decide) (by decide) rfl ?_ | refine sm_get_p2m (by decide) (by decide) (by decide) ?_))
theorem mFdL_3 {d : Nat} {S Sf : cS} {v : Option Value} {lv : sm_L} {xv : Int64} {ni : Nat} {xr : Int64} {S1 : cS} {rb : Int32} (q0 : sm_get lv 0 = some (.ref 49)) (q1 : sm_get lv 1 = some (.long xv)) (q3 : sm_get lv 3 = some (.int (nI (ni + 1)))) (q4 : sm_get lv 4 = some (.long xr)) (mni : ni < 2 ^ 20) (c1 : Ans (d + 8) 237 [.int ((xr - xr / ((10)) * ((10))).toInt32)] S (some (.int rb)) S1) (b1 : ni < 20) (w4 : sm_c1 .eq (lg_cmp (xr / ((10))) 0) true false = false) (b2 : ni ≤ 1) (hB : ∀ lv1 : sm_L, sm_get lv1 0 = some (.ref 49) → sm_get lv1 1 = some (.long xv) → sm_get lv1 3 = some (.int (nI ni)) → Bod (d + 8) 236 49 lv1 [] (wA 51 ni (vp_nar .byte (((nI 48) + rb).toInt8.toInt32)) S1) v Sf) : Bod (d + 8) 236 6 lv [] S v Sf := by
  refine Bod.incN ni nI_dec dc_236_6 (by rw [ml_236]; exact Nat.le_of_ble_eq_true rfl) (by repeat (first | exact q3 | exact sm_get_p1 | exact sm_get_p2e | refine sm_get_p1m (by decide) (by decide) ?_ | refine sm_get_p1n (by decide) rfl ?_ | refine sm_get_p2n (by decide) (by decide) rfl ?_ | refine sm_get_p2m (by decide) (by decide) (by decide) ?_)) ?_
  refine Bod.aldnG dc_236_9 (by repeat (first | exact q0 | exact sm_get_p1 | exact sm_get_p2e | refine sm_get_p1m (by decide) (by decide) ?_ | refine sm_get_p1n (by decide) rfl ?_ | refine sm_get_p2n (by decide) (by decide) rfl ?_ | refine sm_get_p2m (by decide) (by decide) (by decide) ?_)) ?_
  refine Bod.get dc_236_10 fr_236_31 (mk_49 _) rfl ?_
  refine Bod.ildnG dc_236_13 (by repeat (first | exact q0 | exact sm_get_p1 | exact sm_get_p2e | refine sm_get_p1m (by decide) (by decide) ?_ | refine sm_get_p1n (by decide) rfl ?_ | refine sm_get_p2n (by decide) (by decide) rfl ?_ | refine sm_get_p2m (by decide) (by decide) (by decide) ?_)) ?_
  refine Bod.bip 48 (by decide) dc_236_14 ?_
  refine Bod.lldG dc_236_16 (by repeat (first | exact q4 | exact sm_get_p1 | exact sm_get_p2e | refine sm_get_p1m (by decide) (by decide) ?_ | refine sm_get_p1n (by decide) rfl ?_ | refine sm_get_p2n (by decide) (by decide) rfl ?_ | refine sm_get_p2m (by decide) (by decide) (by decide) ?_)) ?_
  refine Bod.ldc2 dc_236_18 cj_236_187 ?_
  refine Bod.lremX (by first | assumption | exact ne0_c (by assumption) | decide) dc_236_21 ?_
  refine Bod.go dc_236_22 rfl ?_
  refine Bod.stat (r := [_, _, _]) dc_236_23 kr_236_189 (Or.inl rfl) (by rw [np_237]; rfl) (by rw [np_237]; rfl) (by rw [np_237]; exact Nat.le_of_ble_eq_true rfl) (Nat.le_of_ble_eq_true rfl) (c1  ) ?_
  show Bod _ _ _ _ [_, _, _, _] _ _ _
  refine Bod.go dc_236_26 rfl ?_
  refine Bod.go dc_236_27 rfl ?_
  refine Bod.bastN ni rfl (by omega) (by omega) dc_236_28 (mk_51 _) (sa_51 _ _ _) (mu_A _ _ _ _) ?_
  refine Bod.lldG dc_236_29 (by repeat (first | exact q4 | exact sm_get_p1 | exact sm_get_p2e | refine sm_get_p1m (by decide) (by decide) ?_ | refine sm_get_p1n (by decide) rfl ?_ | refine sm_get_p2n (by decide) (by decide) rfl ?_ | refine sm_get_p2m (by decide) (by decide) (by decide) ?_)) ?_
  refine Bod.ldc2 dc_236_31 cj_236_187 ?_
  refine Bod.ldivX (by first | assumption | exact ne0_c (by assumption) | decide) dc_236_34 ?_
  refine Bod.lst dc_236_35 (by rw [ml_236]; exact Nat.le_of_ble_eq_true rfl) ?_
  refine Bod.lldG dc_236_37 (by repeat (first | exact q0 | exact sm_get_p1 | exact sm_get_p2e | refine sm_get_p1m (by decide) (by decide) ?_ | refine sm_get_p1n (by decide) rfl ?_ | refine sm_get_p2n (by decide) (by decide) rfl ?_ | refine sm_get_p2m (by decide) (by decide) (by decide) ?_)) ?_
  refine Bod.go dc_236_39 rfl ?_
  refine Bod.go dc_236_40 rfl ?_
  refine Bod.ifF dc_236_41 rfl w4 ?_
  refine Bod.ildnG dc_236_44 (by repeat (first | exact q0 | exact sm_get_p1 | exact sm_get_p2e | refine sm_get_p1m (by decide) (by decide) ?_ | refine sm_get_p1n (by decide) rfl ?_ | refine sm_get_p2n (by decide) (by decide) rfl ?_ | refine sm_get_p2m (by decide) (by decide) (by decide) ?_)) ?_
  refine Bod.ic 1 (by decide) dc_236_45 ?_
  refine Bod.icF dc_236_46 rfl (k2_gt_F ni 1 rfl rfl (by omega) (by omega)) ?_
  exact hB _ (by repeat (first | exact q0 | exact sm_get_p1 | exact sm_get_p2e | refine sm_get_p1m (by decide) (by decide) ?_ | refine sm_get_p1n (by decide) rfl ?_ | refine sm_get_p2n (by decide) (by decide) rfl ?_ | refine sm_get_p2m (by decide) (by decide) (by decide) ?_)) (by repeat (first | exact q1 | exact sm_get_p1 | exact sm_get_p2e | refine sm_get_p1m (by decide) (by decide) ?_ | refine sm_get_p1n (by decide) rfl ?_ | refine sm_get_p2n (by decide) (by decide) rfl ?_ | refine sm_get_p2m (by decide) (by decide) (by decide) ?_)) (by repeat (first | exact q0 | exact sm_get_p1 | exact sm_get_p2e | refine sm_get_p1m (by decide) (by decide) ?_ | refine sm_get_p1n (by decide) rfl ?_ | refine sm_get_p2n (by decide) (by decide) rfl ?_ | refine sm_get_p2m (by decide) (by decide) (by decide) ?_))
theorem mFdE_1 {d : Nat} {S : cS} {lv : sm_L} {xv : Int64} {ni : Nat} (q0 : sm_get lv 0 = some (.ref 49)) (q1 : sm_get lv 1 = some (.long xv)) (q3 : sm_get lv 3 = some (.int (nI (ni + 1)))) (mni : ni < 2 ^ 20) (w2 : sm_c1 .ge (lg_cmp xv 0) true false = true) : Bod (d + 8) 236 49 lv [] S (some (.int (nI (ni + 1)))) (S) := by
  refine Bod.lldnG dc_236_49 (by repeat (first | exact q1 | exact sm_get_p1 | exact sm_get_p2e | refine sm_get_p1m (by decide) (by decide) ?_ | refine sm_get_p1n (by decide) rfl ?_ | refine sm_get_p2n (by decide) (by decide) rfl ?_ | refine sm_get_p2m (by decide) (by decide) (by decide) ?_)) ?_
  refine Bod.go dc_236_50 rfl ?_
  refine Bod.go dc_236_51 rfl ?_
  refine Bod.ifT dc_236_52 rfl w2 ?_
  refine Bod.ildnG dc_236_66 (by repeat (first | exact q3 | exact sm_get_p1 | exact sm_get_p2e | refine sm_get_p1m (by decide) (by decide) ?_ | refine sm_get_p1n (by decide) rfl ?_ | refine sm_get_p2n (by decide) (by decide) rfl ?_ | refine sm_get_p2m (by decide) (by decide) (by decide) ?_)) ?_
  exact Bod.retI dc_236_67 rt_236
theorem mFdE_2 {d : Nat} {S : cS} {lv : sm_L} {xv : Int64} {ni : Nat} (q0 : sm_get lv 0 = some (.ref 49)) (q1 : sm_get lv 1 = some (.long xv)) (q3 : sm_get lv 3 = some (.int (nI (ni + 1)))) (mni : ni < 2 ^ 20) (w2 : sm_c1 .ge (lg_cmp xv 0) true false = false) (b1 : ni < 20) : Bod (d + 8) 236 49 lv [] S (some (.int (nI ni))) (wA 51 ni (vp_nar .byte (nI 45)) S) := by
  refine Bod.lldnG dc_236_49 (by repeat (first | exact q1 | exact sm_get_p1 | exact sm_get_p2e | refine sm_get_p1m (by decide) (by decide) ?_ | refine sm_get_p1n (by decide) rfl ?_ | refine sm_get_p2n (by decide) (by decide) rfl ?_ | refine sm_get_p2m (by decide) (by decide) (by decide) ?_)) ?_
  refine Bod.go dc_236_50 rfl ?_
  refine Bod.go dc_236_51 rfl ?_
  refine Bod.ifF dc_236_52 rfl w2 ?_
  refine Bod.incN ni nI_dec dc_236_55 (by rw [ml_236]; exact Nat.le_of_ble_eq_true rfl) (by repeat (first | exact q3 | exact sm_get_p1 | exact sm_get_p2e | refine sm_get_p1m (by decide) (by decide) ?_ | refine sm_get_p1n (by decide) rfl ?_ | refine sm_get_p2n (by decide) (by decide) rfl ?_ | refine sm_get_p2m (by decide) (by decide) (by decide) ?_)) ?_
  refine Bod.aldnG dc_236_58 (by repeat (first | exact q0 | exact sm_get_p1 | exact sm_get_p2e | refine sm_get_p1m (by decide) (by decide) ?_ | refine sm_get_p1n (by decide) rfl ?_ | refine sm_get_p2n (by decide) (by decide) rfl ?_ | refine sm_get_p2m (by decide) (by decide) (by decide) ?_)) ?_
  refine Bod.get dc_236_59 fr_236_31 (mk_49 _) rfl ?_
  refine Bod.ildnG dc_236_62 (by repeat (first | exact q0 | exact sm_get_p1 | exact sm_get_p2e | refine sm_get_p1m (by decide) (by decide) ?_ | refine sm_get_p1n (by decide) rfl ?_ | refine sm_get_p2n (by decide) (by decide) rfl ?_ | refine sm_get_p2m (by decide) (by decide) (by decide) ?_)) ?_
  refine Bod.bip 45 (by decide) dc_236_63 ?_
  refine Bod.bastN ni rfl (by omega) (by omega) dc_236_65 (mk_51 _) (sa_51 _ _ _) (mu_A _ _ _ _) ?_
  refine Bod.ildnG dc_236_66 (by repeat (first | exact q0 | exact sm_get_p1 | exact sm_get_p2e | refine sm_get_p1m (by decide) (by decide) ?_ | refine sm_get_p1n (by decide) rfl ?_ | refine sm_get_p2n (by decide) (by decide) rfl ?_ | refine sm_get_p2m (by decide) (by decide) (by decide) ?_)) ?_
  exact Bod.retI dc_236_67 rt_236
theorem rDg_1 {d : Nat} {S Sf : cS} {v : Option Value} {xv : Int64}  (hB : ∀ lv1 : sm_L, sm_get lv1 0 = some (.ref 61) → sm_get lv1 1 = some (.long xv) → sm_get lv1 3 = some (.int (nI 0)) → sm_get lv1 4 = some (.long xv) → Bod (d + 8) 385 5 lv1 [] (S) v Sf) : Bod (d + 8) 385 0 [(0, .ref 61), (1, .long xv)] [] S v Sf := by
  refine Bod.ic 0 (by decide) dc_385_0 ?_
  refine Bod.istn dc_385_1 (by rw [ml_385]; exact Nat.le_of_ble_eq_true rfl) ?_
  refine Bod.go dc_385_2 rfl ?_
  refine Bod.lst dc_385_3 (by rw [ml_385]; exact Nat.le_of_ble_eq_true rfl) ?_
  exact hB _ (by first | rfl | exact (by repeat (first | exact rfl | exact sm_get_p1 | exact sm_get_p2e | refine sm_get_p1m (by decide) (by decide) ?_ | refine sm_get_p1n (by decide) rfl ?_ | refine sm_get_p2n (by decide) (by decide) rfl ?_ | refine sm_get_p2m (by decide) (by decide) (by decide) ?_))) (by first | rfl | exact (by repeat (first | exact rfl | exact sm_get_p1 | exact sm_get_p2e | refine sm_get_p1m (by decide) (by decide) ?_ | refine sm_get_p1n (by decide) rfl ?_ | refine sm_get_p2n (by decide) (by decide) rfl ?_ | refine sm_get_p2m (by decide) (by decide) (by decide) ?_))) (by first | rfl | exact (by repeat (first | exact rfl | exact sm_get_p1 | exact sm_get_p2e | refine sm_get_p1m (by decide) (by decide) ?_ | refine sm_get_p1n (by decide) rfl ?_ | refine sm_get_p2n (by decide) (by decide) rfl ?_ | refine sm_get_p2m (by decide) (by decide) (by decide) ?_))) (by first | rfl | exact (by repeat (first | exact rfl | exact sm_get_p1 | exact sm_get_p2e | refine sm_get_p1m (by decide) (by decide) ?_ | refine sm_get_p1n (by decide) rfl ?_ | refine sm_get_p2n (by decide) (by decide) rfl ?_ | refine sm_get_p2m (by decide) (by decide) (by decide) ?_)))
theorem rDgL_1 {d : Nat} {S Sf : cS} {v : Option Value} {lv : sm_L} {xv : Int64} {ni : Nat} {xr : Int64} (q0 : sm_get lv 0 = some (.ref 61)) (q1 : sm_get lv 1 = some (.long xv)) (q3 : sm_get lv 3 = some (.int (nI ni))) (q4 : sm_get lv 4 = some (.long xr)) (mni : ni < 2 ^ 20) (w2 : sm_c1 .ge (lg_cmp (xr - xr / ((10)) * ((10))) 0) true false = true) (b1 : ni < 40) (w4 : sm_c1 .ne (lg_cmp (xr / ((10))) 0) true false = true) (hB : ∀ lv1 : sm_L, sm_get lv1 0 = some (.ref 61) → sm_get lv1 1 = some (.long xv) → sm_get lv1 3 = some (.int (nI (ni + 1))) → sm_get lv1 4 = some (.long (xr / ((10)))) → Bod (d + 8) 385 5 lv1 [] (wA 104 ni (vp_nar .byte (((((48)) + (xr - xr / ((10)) * ((10)))).toInt32).toInt8.toInt32)) S) v Sf) : Bod (d + 8) 385 5 lv [] S v Sf := by
  refine Bod.lldG dc_385_5 (by repeat (first | exact q4 | exact sm_get_p1 | exact sm_get_p2e | refine sm_get_p1m (by decide) (by decide) ?_ | refine sm_get_p1n (by decide) rfl ?_ | refine sm_get_p2n (by decide) (by decide) rfl ?_ | refine sm_get_p2m (by decide) (by decide) (by decide) ?_)) ?_
  refine Bod.ldc2 dc_385_7 cj_385_171 ?_
  refine Bod.lremX (by first | assumption | exact ne0_c (by assumption) | decide) dc_385_10 ?_
  refine Bod.lst dc_385_11 (by rw [ml_385]; exact Nat.le_of_ble_eq_true rfl) ?_
  refine Bod.aldnG dc_385_13 (by repeat (first | exact q0 | exact sm_get_p1 | exact sm_get_p2e | refine sm_get_p1m (by decide) (by decide) ?_ | refine sm_get_p1n (by decide) rfl ?_ | refine sm_get_p2n (by decide) (by decide) rfl ?_ | refine sm_get_p2m (by decide) (by decide) (by decide) ?_)) ?_
  refine Bod.get dc_385_14 fr_385_752 (mk_61 _) rfl ?_
  refine Bod.ildnG dc_385_17 (by repeat (first | exact q3 | exact sm_get_p1 | exact sm_get_p2e | refine sm_get_p1m (by decide) (by decide) ?_ | refine sm_get_p1n (by decide) rfl ?_ | refine sm_get_p2n (by decide) (by decide) rfl ?_ | refine sm_get_p2m (by decide) (by decide) (by decide) ?_)) ?_
  refine Bod.ldc2 dc_385_18 cj_385_173 ?_
  refine Bod.lldG dc_385_21 (by repeat (first | exact q0 | exact sm_get_p1 | exact sm_get_p2e | refine sm_get_p1m (by decide) (by decide) ?_ | refine sm_get_p1n (by decide) rfl ?_ | refine sm_get_p2n (by decide) (by decide) rfl ?_ | refine sm_get_p2m (by decide) (by decide) (by decide) ?_)) ?_
  refine Bod.go dc_385_23 rfl ?_
  refine Bod.go dc_385_24 rfl ?_
  refine Bod.ifT dc_385_25 rfl w2 ?_
  refine Bod.lldG dc_385_34 (by repeat (first | exact q0 | exact sm_get_p1 | exact sm_get_p2e | refine sm_get_p1m (by decide) (by decide) ?_ | refine sm_get_p1n (by decide) rfl ?_ | refine sm_get_p2n (by decide) (by decide) rfl ?_ | refine sm_get_p2m (by decide) (by decide) (by decide) ?_)) ?_
  refine Bod.go dc_385_36 rfl ?_
  refine Bod.go dc_385_37 rfl ?_
  refine Bod.go dc_385_38 rfl ?_
  refine Bod.bastN ni rfl (by omega) (by omega) dc_385_39 (mk_104 _) (sa_104 _ _ _) (mu_A _ _ _ _) ?_
  refine Bod.incN (ni + 1) (by rw [kc_1, nI_add]) dc_385_40 (by rw [ml_385]; exact Nat.le_of_ble_eq_true rfl) (by repeat (first | exact q3 | exact sm_get_p1 | exact sm_get_p2e | refine sm_get_p1m (by decide) (by decide) ?_ | refine sm_get_p1n (by decide) rfl ?_ | refine sm_get_p2n (by decide) (by decide) rfl ?_ | refine sm_get_p2m (by decide) (by decide) (by decide) ?_)) ?_
  refine Bod.lldG dc_385_43 (by repeat (first | exact q4 | exact sm_get_p1 | exact sm_get_p2e | refine sm_get_p1m (by decide) (by decide) ?_ | refine sm_get_p1n (by decide) rfl ?_ | refine sm_get_p2n (by decide) (by decide) rfl ?_ | refine sm_get_p2m (by decide) (by decide) (by decide) ?_)) ?_
  refine Bod.ldc2 dc_385_45 cj_385_171 ?_
  refine Bod.ldivX (by first | assumption | exact ne0_c (by assumption) | decide) dc_385_48 ?_
  refine Bod.lst dc_385_49 (by rw [ml_385]; exact Nat.le_of_ble_eq_true rfl) ?_
  refine Bod.lldG dc_385_51 (by repeat (first | exact q0 | exact sm_get_p1 | exact sm_get_p2e | refine sm_get_p1m (by decide) (by decide) ?_ | refine sm_get_p1n (by decide) rfl ?_ | refine sm_get_p2n (by decide) (by decide) rfl ?_ | refine sm_get_p2m (by decide) (by decide) (by decide) ?_)) ?_
  refine Bod.go dc_385_53 rfl ?_
  refine Bod.go dc_385_54 rfl ?_
  refine Bod.ifT dc_385_55 rfl w4 ?_
  exact hB _ (by repeat (first | exact q0 | exact sm_get_p1 | exact sm_get_p2e | refine sm_get_p1m (by decide) (by decide) ?_ | refine sm_get_p1n (by decide) rfl ?_ | refine sm_get_p2n (by decide) (by decide) rfl ?_ | refine sm_get_p2m (by decide) (by decide) (by decide) ?_)) (by repeat (first | exact q1 | exact sm_get_p1 | exact sm_get_p2e | refine sm_get_p1m (by decide) (by decide) ?_ | refine sm_get_p1n (by decide) rfl ?_ | refine sm_get_p2n (by decide) (by decide) rfl ?_ | refine sm_get_p2m (by decide) (by decide) (by decide) ?_)) (by repeat (first | exact q0 | exact sm_get_p1 | exact sm_get_p2e | refine sm_get_p1m (by decide) (by decide) ?_ | refine sm_get_p1n (by decide) rfl ?_ | refine sm_get_p2n (by decide) (by decide) rfl ?_ | refine sm_get_p2m (by decide) (by decide) (by decide) ?_)) (by repeat (first | exact q0 | exact sm_get_p1 | exact sm_get_p2e | refine sm_get_p1m (by decide) (by decide) ?_ | refine sm_get_p1n (by decide) rfl ?_ | refine sm_get_p2n (by decide) (by decide) rfl ?_ | refine sm_get_p2m (by decide) (by decide) (by decide) ?_))
theorem rDgL_2 {d : Nat} {S Sf : cS} {v : Option Value} {lv : sm_L} {xv : Int64} {ni : Nat} {xr : Int64} (q0 : sm_get lv 0 = some (.ref 61)) (q1 : sm_get lv 1 = some (.long xv)) (q3 : sm_get lv 3 = some (.int (nI ni))) (q4 : sm_get lv 4 = some (.long xr)) (mni : ni < 2 ^ 20) (w2 : sm_c1 .ge (lg_cmp (xr - xr / ((10)) * ((10))) 0) true false = true) (b1 : ni < 40) (w4 : sm_c1 .ne (lg_cmp (xr / ((10))) 0) true false = false) (hB : ∀ lv1 : sm_L, sm_get lv1 0 = some (.ref 61) → sm_get lv1 1 = some (.long xv) → sm_get lv1 3 = some (.int (nI (ni + 1))) → Bod (d + 8) 385 58 lv1 [] (wA 104 ni (vp_nar .byte (((((48)) + (xr - xr / ((10)) * ((10)))).toInt32).toInt8.toInt32)) S) v Sf) : Bod (d + 8) 385 5 lv [] S v Sf := by
  refine Bod.lldG dc_385_5 (by repeat (first | exact q4 | exact sm_get_p1 | exact sm_get_p2e | refine sm_get_p1m (by decide) (by decide) ?_ | refine sm_get_p1n (by decide) rfl ?_ | refine sm_get_p2n (by decide) (by decide) rfl ?_ | refine sm_get_p2m (by decide) (by decide) (by decide) ?_)) ?_
  refine Bod.ldc2 dc_385_7 cj_385_171 ?_
  refine Bod.lremX (by first | assumption | exact ne0_c (by assumption) | decide) dc_385_10 ?_
  refine Bod.lst dc_385_11 (by rw [ml_385]; exact Nat.le_of_ble_eq_true rfl) ?_
  refine Bod.aldnG dc_385_13 (by repeat (first | exact q0 | exact sm_get_p1 | exact sm_get_p2e | refine sm_get_p1m (by decide) (by decide) ?_ | refine sm_get_p1n (by decide) rfl ?_ | refine sm_get_p2n (by decide) (by decide) rfl ?_ | refine sm_get_p2m (by decide) (by decide) (by decide) ?_)) ?_
  refine Bod.get dc_385_14 fr_385_752 (mk_61 _) rfl ?_
  refine Bod.ildnG dc_385_17 (by repeat (first | exact q3 | exact sm_get_p1 | exact sm_get_p2e | refine sm_get_p1m (by decide) (by decide) ?_ | refine sm_get_p1n (by decide) rfl ?_ | refine sm_get_p2n (by decide) (by decide) rfl ?_ | refine sm_get_p2m (by decide) (by decide) (by decide) ?_)) ?_
  refine Bod.ldc2 dc_385_18 cj_385_173 ?_
  refine Bod.lldG dc_385_21 (by repeat (first | exact q0 | exact sm_get_p1 | exact sm_get_p2e | refine sm_get_p1m (by decide) (by decide) ?_ | refine sm_get_p1n (by decide) rfl ?_ | refine sm_get_p2n (by decide) (by decide) rfl ?_ | refine sm_get_p2m (by decide) (by decide) (by decide) ?_)) ?_
  refine Bod.go dc_385_23 rfl ?_
  refine Bod.go dc_385_24 rfl ?_
  refine Bod.ifT dc_385_25 rfl w2 ?_
  refine Bod.lldG dc_385_34 (by repeat (first | exact q0 | exact sm_get_p1 | exact sm_get_p2e | refine sm_get_p1m (by decide) (by decide) ?_ | refine sm_get_p1n (by decide) rfl ?_ | refine sm_get_p2n (by decide) (by decide) rfl ?_ | refine sm_get_p2m (by decide) (by decide) (by decide) ?_)) ?_
  refine Bod.go dc_385_36 rfl ?_
  refine Bod.go dc_385_37 rfl ?_
  refine Bod.go dc_385_38 rfl ?_
  refine Bod.bastN ni rfl (by omega) (by omega) dc_385_39 (mk_104 _) (sa_104 _ _ _) (mu_A _ _ _ _) ?_
  refine Bod.incN (ni + 1) (by rw [kc_1, nI_add]) dc_385_40 (by rw [ml_385]; exact Nat.le_of_ble_eq_true rfl) (by repeat (first | exact q3 | exact sm_get_p1 | exact sm_get_p2e | refine sm_get_p1m (by decide) (by decide) ?_ | refine sm_get_p1n (by decide) rfl ?_ | refine sm_get_p2n (by decide) (by decide) rfl ?_ | refine sm_get_p2m (by decide) (by decide) (by decide) ?_)) ?_
  refine Bod.lldG dc_385_43 (by repeat (first | exact q4 | exact sm_get_p1 | exact sm_get_p2e | refine sm_get_p1m (by decide) (by decide) ?_ | refine sm_get_p1n (by decide) rfl ?_ | refine sm_get_p2n (by decide) (by decide) rfl ?_ | refine sm_get_p2m (by decide) (by decide) (by decide) ?_)) ?_
  refine Bod.ldc2 dc_385_45 cj_385_171 ?_
  refine Bod.ldivX (by first | assumption | exact ne0_c (by assumption) | decide) dc_385_48 ?_
  refine Bod.lst dc_385_49 (by rw [ml_385]; exact Nat.le_of_ble_eq_true rfl) ?_
  refine Bod.lldG dc_385_51 (by repeat (first | exact q0 | exact sm_get_p1 | exact sm_get_p2e | refine sm_get_p1m (by decide) (by decide) ?_ | refine sm_get_p1n (by decide) rfl ?_ | refine sm_get_p2n (by decide) (by decide) rfl ?_ | refine sm_get_p2m (by decide) (by decide) (by decide) ?_)) ?_
  refine Bod.go dc_385_53 rfl ?_
  refine Bod.go dc_385_54 rfl ?_
  refine Bod.ifF dc_385_55 rfl w4 ?_
  exact hB _ (by repeat (first | exact q0 | exact sm_get_p1 | exact sm_get_p2e | refine sm_get_p1m (by decide) (by decide) ?_ | refine sm_get_p1n (by decide) rfl ?_ | refine sm_get_p2n (by decide) (by decide) rfl ?_ | refine sm_get_p2m (by decide) (by decide) (by decide) ?_)) (by repeat (first | exact q1 | exact sm_get_p1 | exact sm_get_p2e | refine sm_get_p1m (by decide) (by decide) ?_ | refine sm_get_p1n (by decide) rfl ?_ | refine sm_get_p2n (by decide) (by decide) rfl ?_ | refine sm_get_p2m (by decide) (by decide) (by decide) ?_)) (by repeat (first | exact q0 | exact sm_get_p1 | exact sm_get_p2e | refine sm_get_p1m (by decide) (by decide) ?_ | refine sm_get_p1n (by decide) rfl ?_ | refine sm_get_p2n (by decide) (by decide) rfl ?_ | refine sm_get_p2m (by decide) (by decide) (by decide) ?_))
theorem rDgL_3 {d : Nat} {S Sf : cS} {v : Option Value} {lv : sm_L} {xv : Int64} {ni : Nat} {xr : Int64} (q0 : sm_get lv 0 = some (.ref 61)) (q1 : sm_get lv 1 = some (.long xv)) (q3 : sm_get lv 3 = some (.int (nI ni))) (q4 : sm_get lv 4 = some (.long xr)) (mni : ni < 2 ^ 20) (w2 : sm_c1 .ge (lg_cmp (xr - xr / ((10)) * ((10))) 0) true false = false) (b1 : ni < 40) (w4 : sm_c1 .ne (lg_cmp (xr / ((10))) 0) true false = true) (hB : ∀ lv1 : sm_L, sm_get lv1 0 = some (.ref 61) → sm_get lv1 1 = some (.long xv) → sm_get lv1 3 = some (.int (nI (ni + 1))) → sm_get lv1 4 = some (.long (xr / ((10)))) → Bod (d + 8) 385 5 lv1 [] (wA 104 ni (vp_nar .byte (((((48)) + (-(xr - xr / ((10)) * ((10))))).toInt32).toInt8.toInt32)) S) v Sf) : Bod (d + 8) 385 5 lv [] S v Sf := by
  refine Bod.lldG dc_385_5 (by repeat (first | exact q4 | exact sm_get_p1 | exact sm_get_p2e | refine sm_get_p1m (by decide) (by decide) ?_ | refine sm_get_p1n (by decide) rfl ?_ | refine sm_get_p2n (by decide) (by decide) rfl ?_ | refine sm_get_p2m (by decide) (by decide) (by decide) ?_)) ?_
  refine Bod.ldc2 dc_385_7 cj_385_171 ?_
  refine Bod.lremX (by first | assumption | exact ne0_c (by assumption) | decide) dc_385_10 ?_
  refine Bod.lst dc_385_11 (by rw [ml_385]; exact Nat.le_of_ble_eq_true rfl) ?_
  refine Bod.aldnG dc_385_13 (by repeat (first | exact q0 | exact sm_get_p1 | exact sm_get_p2e | refine sm_get_p1m (by decide) (by decide) ?_ | refine sm_get_p1n (by decide) rfl ?_ | refine sm_get_p2n (by decide) (by decide) rfl ?_ | refine sm_get_p2m (by decide) (by decide) (by decide) ?_)) ?_
  refine Bod.get dc_385_14 fr_385_752 (mk_61 _) rfl ?_
  refine Bod.ildnG dc_385_17 (by repeat (first | exact q3 | exact sm_get_p1 | exact sm_get_p2e | refine sm_get_p1m (by decide) (by decide) ?_ | refine sm_get_p1n (by decide) rfl ?_ | refine sm_get_p2n (by decide) (by decide) rfl ?_ | refine sm_get_p2m (by decide) (by decide) (by decide) ?_)) ?_
  refine Bod.ldc2 dc_385_18 cj_385_173 ?_
  refine Bod.lldG dc_385_21 (by repeat (first | exact q0 | exact sm_get_p1 | exact sm_get_p2e | refine sm_get_p1m (by decide) (by decide) ?_ | refine sm_get_p1n (by decide) rfl ?_ | refine sm_get_p2n (by decide) (by decide) rfl ?_ | refine sm_get_p2m (by decide) (by decide) (by decide) ?_)) ?_
  refine Bod.go dc_385_23 rfl ?_
  refine Bod.go dc_385_24 rfl ?_
  refine Bod.ifF dc_385_25 rfl w2 ?_
  refine Bod.lldG dc_385_28 (by repeat (first | exact q0 | exact sm_get_p1 | exact sm_get_p2e | refine sm_get_p1m (by decide) (by decide) ?_ | refine sm_get_p1n (by decide) rfl ?_ | refine sm_get_p2n (by decide) (by decide) rfl ?_ | refine sm_get_p2m (by decide) (by decide) (by decide) ?_)) ?_
  refine Bod.go dc_385_30 rfl ?_
  refine Bod.go dc_385_31 rfl ?_
  refine Bod.go dc_385_36 rfl ?_
  refine Bod.go dc_385_37 rfl ?_
  refine Bod.go dc_385_38 rfl ?_
  refine Bod.bastN ni rfl (by omega) (by omega) dc_385_39 (mk_104 _) (sa_104 _ _ _) (mu_A _ _ _ _) ?_
  refine Bod.incN (ni + 1) (by rw [kc_1, nI_add]) dc_385_40 (by rw [ml_385]; exact Nat.le_of_ble_eq_true rfl) (by repeat (first | exact q3 | exact sm_get_p1 | exact sm_get_p2e | refine sm_get_p1m (by decide) (by decide) ?_ | refine sm_get_p1n (by decide) rfl ?_ | refine sm_get_p2n (by decide) (by decide) rfl ?_ | refine sm_get_p2m (by decide) (by decide) (by decide) ?_)) ?_
  refine Bod.lldG dc_385_43 (by repeat (first | exact q4 | exact sm_get_p1 | exact sm_get_p2e | refine sm_get_p1m (by decide) (by decide) ?_ | refine sm_get_p1n (by decide) rfl ?_ | refine sm_get_p2n (by decide) (by decide) rfl ?_ | refine sm_get_p2m (by decide) (by decide) (by decide) ?_)) ?_
  refine Bod.ldc2 dc_385_45 cj_385_171 ?_
  refine Bod.ldivX (by first | assumption | exact ne0_c (by assumption) | decide) dc_385_48 ?_
  refine Bod.lst dc_385_49 (by rw [ml_385]; exact Nat.le_of_ble_eq_true rfl) ?_
  refine Bod.lldG dc_385_51 (by repeat (first | exact q0 | exact sm_get_p1 | exact sm_get_p2e | refine sm_get_p1m (by decide) (by decide) ?_ | refine sm_get_p1n (by decide) rfl ?_ | refine sm_get_p2n (by decide) (by decide) rfl ?_ | refine sm_get_p2m (by decide) (by decide) (by decide) ?_)) ?_
  refine Bod.go dc_385_53 rfl ?_
  refine Bod.go dc_385_54 rfl ?_
  refine Bod.ifT dc_385_55 rfl w4 ?_
  exact hB _ (by repeat (first | exact q0 | exact sm_get_p1 | exact sm_get_p2e | refine sm_get_p1m (by decide) (by decide) ?_ | refine sm_get_p1n (by decide) rfl ?_ | refine sm_get_p2n (by decide) (by decide) rfl ?_ | refine sm_get_p2m (by decide) (by decide) (by decide) ?_)) (by repeat (first | exact q1 | exact sm_get_p1 | exact sm_get_p2e | refine sm_get_p1m (by decide) (by decide) ?_ | refine sm_get_p1n (by decide) rfl ?_ | refine sm_get_p2n (by decide) (by decide) rfl ?_ | refine sm_get_p2m (by decide) (by decide) (by decide) ?_)) (by repeat (first | exact q0 | exact sm_get_p1 | exact sm_get_p2e | refine sm_get_p1m (by decide) (by decide) ?_ | refine sm_get_p1n (by decide) rfl ?_ | refine sm_get_p2n (by decide) (by decide) rfl ?_ | refine sm_get_p2m (by decide) (by decide) (by decide) ?_)) (by repeat (first | exact q0 | exact sm_get_p1 | exact sm_get_p2e | refine sm_get_p1m (by decide) (by decide) ?_ | refine sm_get_p1n (by decide) rfl ?_ | refine sm_get_p2n (by decide) (by decide) rfl ?_ | refine sm_get_p2m (by decide) (by decide) (by decide) ?_))
theorem rDgL_4 {d : Nat} {S Sf : cS} {v : Option Value} {lv : sm_L} {xv : Int64} {ni : Nat} {xr : Int64} (q0 : sm_get lv 0 = some (.ref 61)) (q1 : sm_get lv 1 = some (.long xv)) (q3 : sm_get lv 3 = some (.int (nI ni))) (q4 : sm_get lv 4 = some (.long xr)) (mni : ni < 2 ^ 20) (w2 : sm_c1 .ge (lg_cmp (xr - xr / ((10)) * ((10))) 0) true false = false) (b1 : ni < 40) (w4 : sm_c1 .ne (lg_cmp (xr / ((10))) 0) true false = false) (hB : ∀ lv1 : sm_L, sm_get lv1 0 = some (.ref 61) → sm_get lv1 1 = some (.long xv) → sm_get lv1 3 = some (.int (nI (ni + 1))) → Bod (d + 8) 385 58 lv1 [] (wA 104 ni (vp_nar .byte (((((48)) + (-(xr - xr / ((10)) * ((10))))).toInt32).toInt8.toInt32)) S) v Sf) : Bod (d + 8) 385 5 lv [] S v Sf := by
  refine Bod.lldG dc_385_5 (by repeat (first | exact q4 | exact sm_get_p1 | exact sm_get_p2e | refine sm_get_p1m (by decide) (by decide) ?_ | refine sm_get_p1n (by decide) rfl ?_ | refine sm_get_p2n (by decide) (by decide) rfl ?_ | refine sm_get_p2m (by decide) (by decide) (by decide) ?_)) ?_
  refine Bod.ldc2 dc_385_7 cj_385_171 ?_
  refine Bod.lremX (by first | assumption | exact ne0_c (by assumption) | decide) dc_385_10 ?_
  refine Bod.lst dc_385_11 (by rw [ml_385]; exact Nat.le_of_ble_eq_true rfl) ?_
  refine Bod.aldnG dc_385_13 (by repeat (first | exact q0 | exact sm_get_p1 | exact sm_get_p2e | refine sm_get_p1m (by decide) (by decide) ?_ | refine sm_get_p1n (by decide) rfl ?_ | refine sm_get_p2n (by decide) (by decide) rfl ?_ | refine sm_get_p2m (by decide) (by decide) (by decide) ?_)) ?_
  refine Bod.get dc_385_14 fr_385_752 (mk_61 _) rfl ?_
  refine Bod.ildnG dc_385_17 (by repeat (first | exact q3 | exact sm_get_p1 | exact sm_get_p2e | refine sm_get_p1m (by decide) (by decide) ?_ | refine sm_get_p1n (by decide) rfl ?_ | refine sm_get_p2n (by decide) (by decide) rfl ?_ | refine sm_get_p2m (by decide) (by decide) (by decide) ?_)) ?_
  refine Bod.ldc2 dc_385_18 cj_385_173 ?_
  refine Bod.lldG dc_385_21 (by repeat (first | exact q0 | exact sm_get_p1 | exact sm_get_p2e | refine sm_get_p1m (by decide) (by decide) ?_ | refine sm_get_p1n (by decide) rfl ?_ | refine sm_get_p2n (by decide) (by decide) rfl ?_ | refine sm_get_p2m (by decide) (by decide) (by decide) ?_)) ?_
  refine Bod.go dc_385_23 rfl ?_
  refine Bod.go dc_385_24 rfl ?_
  refine Bod.ifF dc_385_25 rfl w2 ?_
  refine Bod.lldG dc_385_28 (by repeat (first | exact q0 | exact sm_get_p1 | exact sm_get_p2e | refine sm_get_p1m (by decide) (by decide) ?_ | refine sm_get_p1n (by decide) rfl ?_ | refine sm_get_p2n (by decide) (by decide) rfl ?_ | refine sm_get_p2m (by decide) (by decide) (by decide) ?_)) ?_
  refine Bod.go dc_385_30 rfl ?_
  refine Bod.go dc_385_31 rfl ?_
  refine Bod.go dc_385_36 rfl ?_
  refine Bod.go dc_385_37 rfl ?_
  refine Bod.go dc_385_38 rfl ?_
  refine Bod.bastN ni rfl (by omega) (by omega) dc_385_39 (mk_104 _) (sa_104 _ _ _) (mu_A _ _ _ _) ?_
  refine Bod.incN (ni + 1) (by rw [kc_1, nI_add]) dc_385_40 (by rw [ml_385]; exact Nat.le_of_ble_eq_true rfl) (by repeat (first | exact q3 | exact sm_get_p1 | exact sm_get_p2e | refine sm_get_p1m (by decide) (by decide) ?_ | refine sm_get_p1n (by decide) rfl ?_ | refine sm_get_p2n (by decide) (by decide) rfl ?_ | refine sm_get_p2m (by decide) (by decide) (by decide) ?_)) ?_
  refine Bod.lldG dc_385_43 (by repeat (first | exact q4 | exact sm_get_p1 | exact sm_get_p2e | refine sm_get_p1m (by decide) (by decide) ?_ | refine sm_get_p1n (by decide) rfl ?_ | refine sm_get_p2n (by decide) (by decide) rfl ?_ | refine sm_get_p2m (by decide) (by decide) (by decide) ?_)) ?_
  refine Bod.ldc2 dc_385_45 cj_385_171 ?_
  refine Bod.ldivX (by first | assumption | exact ne0_c (by assumption) | decide) dc_385_48 ?_
  refine Bod.lst dc_385_49 (by rw [ml_385]; exact Nat.le_of_ble_eq_true rfl) ?_
  refine Bod.lldG dc_385_51 (by repeat (first | exact q0 | exact sm_get_p1 | exact sm_get_p2e | refine sm_get_p1m (by decide) (by decide) ?_ | refine sm_get_p1n (by decide) rfl ?_ | refine sm_get_p2n (by decide) (by decide) rfl ?_ | refine sm_get_p2m (by decide) (by decide) (by decide) ?_)) ?_
  refine Bod.go dc_385_53 rfl ?_
  refine Bod.go dc_385_54 rfl ?_
  refine Bod.ifF dc_385_55 rfl w4 ?_
  exact hB _ (by repeat (first | exact q0 | exact sm_get_p1 | exact sm_get_p2e | refine sm_get_p1m (by decide) (by decide) ?_ | refine sm_get_p1n (by decide) rfl ?_ | refine sm_get_p2n (by decide) (by decide) rfl ?_ | refine sm_get_p2m (by decide) (by decide) (by decide) ?_)) (by repeat (first | exact q1 | exact sm_get_p1 | exact sm_get_p2e | refine sm_get_p1m (by decide) (by decide) ?_ | refine sm_get_p1n (by decide) rfl ?_ | refine sm_get_p2n (by decide) (by decide) rfl ?_ | refine sm_get_p2m (by decide) (by decide) (by decide) ?_)) (by repeat (first | exact q0 | exact sm_get_p1 | exact sm_get_p2e | refine sm_get_p1m (by decide) (by decide) ?_ | refine sm_get_p1n (by decide) rfl ?_ | refine sm_get_p2n (by decide) (by decide) rfl ?_ | refine sm_get_p2m (by decide) (by decide) (by decide) ?_))
theorem rDgM_1 {d : Nat} {S Sf : cS} {v : Option Value} {lv : sm_L} {xv : Int64} {ni : Nat} (q0 : sm_get lv 0 = some (.ref 61)) (q1 : sm_get lv 1 = some (.long xv)) (q3 : sm_get lv 3 = some (.int (nI ni))) (mni : ni < 2 ^ 20) (w2 : sm_c1 .ge (lg_cmp xv 0) true false = true) (hB : ∀ lv1 : sm_L, sm_get lv1 0 = some (.ref 61) → sm_get lv1 3 = some (.int (nI ni)) → sm_get lv1 6 = some (.int (nI 0)) → Bod (d + 8) 385 78 lv1 [] (S) v Sf) : Bod (d + 8) 385 58 lv [] S v Sf := by
  refine Bod.lldnG dc_385_58 (by repeat (first | exact q1 | exact sm_get_p1 | exact sm_get_p2e | refine sm_get_p1m (by decide) (by decide) ?_ | refine sm_get_p1n (by decide) rfl ?_ | refine sm_get_p2n (by decide) (by decide) rfl ?_ | refine sm_get_p2m (by decide) (by decide) (by decide) ?_)) ?_
  refine Bod.go dc_385_59 rfl ?_
  refine Bod.go dc_385_60 rfl ?_
  refine Bod.ifT dc_385_61 rfl w2 ?_
  refine Bod.ic 0 (by decide) dc_385_75 ?_
  refine Bod.ist dc_385_76 (by rw [ml_385]; exact Nat.le_of_ble_eq_true rfl) ?_
  exact hB _ (by repeat (first | exact q0 | exact sm_get_p1 | exact sm_get_p2e | refine sm_get_p1m (by decide) (by decide) ?_ | refine sm_get_p1n (by decide) rfl ?_ | refine sm_get_p2n (by decide) (by decide) rfl ?_ | refine sm_get_p2m (by decide) (by decide) (by decide) ?_)) (by repeat (first | exact q3 | exact sm_get_p1 | exact sm_get_p2e | refine sm_get_p1m (by decide) (by decide) ?_ | refine sm_get_p1n (by decide) rfl ?_ | refine sm_get_p2n (by decide) (by decide) rfl ?_ | refine sm_get_p2m (by decide) (by decide) (by decide) ?_)) (by repeat (first | exact q0 | exact sm_get_p1 | exact sm_get_p2e | refine sm_get_p1m (by decide) (by decide) ?_ | refine sm_get_p1n (by decide) rfl ?_ | refine sm_get_p2n (by decide) (by decide) rfl ?_ | refine sm_get_p2m (by decide) (by decide) (by decide) ?_))
theorem rDgM_2 {d : Nat} {S Sf : cS} {v : Option Value} {lv : sm_L} {xv : Int64} {ni : Nat} (q0 : sm_get lv 0 = some (.ref 61)) (q1 : sm_get lv 1 = some (.long xv)) (q3 : sm_get lv 3 = some (.int (nI ni))) (mni : ni < 2 ^ 20) (w2 : sm_c1 .ge (lg_cmp xv 0) true false = false) (b1 : ni < 40) (hB : ∀ lv1 : sm_L, sm_get lv1 0 = some (.ref 61) → sm_get lv1 3 = some (.int (nI (ni + 1))) → sm_get lv1 6 = some (.int (nI 0)) → Bod (d + 8) 385 78 lv1 [] (wA 104 ni (vp_nar .byte (nI 45)) S) v Sf) : Bod (d + 8) 385 58 lv [] S v Sf := by
  refine Bod.lldnG dc_385_58 (by repeat (first | exact q1 | exact sm_get_p1 | exact sm_get_p2e | refine sm_get_p1m (by decide) (by decide) ?_ | refine sm_get_p1n (by decide) rfl ?_ | refine sm_get_p2n (by decide) (by decide) rfl ?_ | refine sm_get_p2m (by decide) (by decide) (by decide) ?_)) ?_
  refine Bod.go dc_385_59 rfl ?_
  refine Bod.go dc_385_60 rfl ?_
  refine Bod.ifF dc_385_61 rfl w2 ?_
  refine Bod.aldnG dc_385_64 (by repeat (first | exact q0 | exact sm_get_p1 | exact sm_get_p2e | refine sm_get_p1m (by decide) (by decide) ?_ | refine sm_get_p1n (by decide) rfl ?_ | refine sm_get_p2n (by decide) (by decide) rfl ?_ | refine sm_get_p2m (by decide) (by decide) (by decide) ?_)) ?_
  refine Bod.get dc_385_65 fr_385_752 (mk_61 _) rfl ?_
  refine Bod.ildnG dc_385_68 (by repeat (first | exact q3 | exact sm_get_p1 | exact sm_get_p2e | refine sm_get_p1m (by decide) (by decide) ?_ | refine sm_get_p1n (by decide) rfl ?_ | refine sm_get_p2n (by decide) (by decide) rfl ?_ | refine sm_get_p2m (by decide) (by decide) (by decide) ?_)) ?_
  refine Bod.bip 45 (by decide) dc_385_69 ?_
  refine Bod.bastN ni rfl (by omega) (by omega) dc_385_71 (mk_104 _) (sa_104 _ _ _) (mu_A _ _ _ _) ?_
  refine Bod.incN (ni + 1) (by rw [kc_1, nI_add]) dc_385_72 (by rw [ml_385]; exact Nat.le_of_ble_eq_true rfl) (by repeat (first | exact q3 | exact sm_get_p1 | exact sm_get_p2e | refine sm_get_p1m (by decide) (by decide) ?_ | refine sm_get_p1n (by decide) rfl ?_ | refine sm_get_p2n (by decide) (by decide) rfl ?_ | refine sm_get_p2m (by decide) (by decide) (by decide) ?_)) ?_
  refine Bod.ic 0 (by decide) dc_385_75 ?_
  refine Bod.ist dc_385_76 (by rw [ml_385]; exact Nat.le_of_ble_eq_true rfl) ?_
  exact hB _ (by repeat (first | exact q0 | exact sm_get_p1 | exact sm_get_p2e | refine sm_get_p1m (by decide) (by decide) ?_ | refine sm_get_p1n (by decide) rfl ?_ | refine sm_get_p2n (by decide) (by decide) rfl ?_ | refine sm_get_p2m (by decide) (by decide) (by decide) ?_)) (by repeat (first | exact q0 | exact sm_get_p1 | exact sm_get_p2e | refine sm_get_p1m (by decide) (by decide) ?_ | refine sm_get_p1n (by decide) rfl ?_ | refine sm_get_p2n (by decide) (by decide) rfl ?_ | refine sm_get_p2m (by decide) (by decide) (by decide) ?_)) (by repeat (first | exact q0 | exact sm_get_p1 | exact sm_get_p2e | refine sm_get_p1m (by decide) (by decide) ?_ | refine sm_get_p1n (by decide) rfl ?_ | refine sm_get_p2n (by decide) (by decide) rfl ?_ | refine sm_get_p2m (by decide) (by decide) (by decide) ?_))
theorem rDgR_1 {d : Nat} {S : cS} {lv : sm_L} {nd : Nat} {ni : Nat} (q0 : sm_get lv 0 = some (.ref 61)) (q3 : sm_get lv 3 = some (.int (nI nd))) (q6 : sm_get lv 6 = some (.int (nI ni))) (mnd : nd < 2 ^ 20) (mni : ni < 2 ^ 20) (b1 : (nd / 2) ≤ ni) : Bod (d + 8) 385 78 lv [] S (some (.int (nI nd))) (S) := by
  refine Bod.ildG dc_385_78 (by repeat (first | exact q6 | exact sm_get_p1 | exact sm_get_p2e | refine sm_get_p1m (by decide) (by decide) ?_ | refine sm_get_p1n (by decide) rfl ?_ | refine sm_get_p2n (by decide) (by decide) rfl ?_ | refine sm_get_p2m (by decide) (by decide) (by decide) ?_)) ?_
  refine Bod.ildnG dc_385_80 (by repeat (first | exact q3 | exact sm_get_p1 | exact sm_get_p2e | refine sm_get_p1m (by decide) (by decide) ?_ | refine sm_get_p1n (by decide) rfl ?_ | refine sm_get_p2n (by decide) (by decide) rfl ?_ | refine sm_get_p2m (by decide) (by decide) (by decide) ?_)) ?_
  refine Bod.ic 2 (by decide) dc_385_81 ?_
  refine Bod.idivN (nd / 2) (by omega) (by omega) (by omega) rfl dc_385_82 ?_
  refine Bod.icT dc_385_83 rfl (k2_ge_T ni (nd / 2) rfl rfl (by omega) (by omega)) ?_
  refine Bod.ildnG dc_385_132 (by repeat (first | exact q3 | exact sm_get_p1 | exact sm_get_p2e | refine sm_get_p1m (by decide) (by decide) ?_ | refine sm_get_p1n (by decide) rfl ?_ | refine sm_get_p2n (by decide) (by decide) rfl ?_ | refine sm_get_p2m (by decide) (by decide) (by decide) ?_)) ?_
  exact Bod.retI dc_385_133 rt_385
theorem rDgR_2 {d : Nat} {S Sf : cS} {v : Option Value} {lv : sm_L} {nd : Nat} {ni : Nat} (q0 : sm_get lv 0 = some (.ref 61)) (q3 : sm_get lv 3 = some (.int (nI nd))) (q6 : sm_get lv 6 = some (.int (nI ni))) (mnd : nd < 2 ^ 20) (mni : ni < 2 ^ 20) (b1 : ni < (nd / 2)) (b2 : ni < 40) (b3 : 1 ≤ nd) (b4 : ni ≤ nd - 1) (b5 : nd - 1 - ni < 40) (hB : ∀ lv1 : sm_L, sm_get lv1 0 = some (.ref 61) → sm_get lv1 3 = some (.int (nI nd)) → sm_get lv1 6 = some (.int (nI (ni + 1))) → Bod (d + 8) 385 78 lv1 [] (wA 104 (nd - 1 - ni) (vp_nar .byte (sA S 104 ni)) (wA 104 ni (vp_nar .byte (sA S 104 (nd - 1 - ni))) S)) v Sf) : Bod (d + 8) 385 78 lv [] S v Sf := by
  refine Bod.ildG dc_385_78 (by repeat (first | exact q6 | exact sm_get_p1 | exact sm_get_p2e | refine sm_get_p1m (by decide) (by decide) ?_ | refine sm_get_p1n (by decide) rfl ?_ | refine sm_get_p2n (by decide) (by decide) rfl ?_ | refine sm_get_p2m (by decide) (by decide) (by decide) ?_)) ?_
  refine Bod.ildnG dc_385_80 (by repeat (first | exact q3 | exact sm_get_p1 | exact sm_get_p2e | refine sm_get_p1m (by decide) (by decide) ?_ | refine sm_get_p1n (by decide) rfl ?_ | refine sm_get_p2n (by decide) (by decide) rfl ?_ | refine sm_get_p2m (by decide) (by decide) (by decide) ?_)) ?_
  refine Bod.ic 2 (by decide) dc_385_81 ?_
  refine Bod.idivN (nd / 2) (by omega) (by omega) (by omega) rfl dc_385_82 ?_
  refine Bod.icF dc_385_83 rfl (k2_ge_F ni (nd / 2) rfl rfl (by omega) (by omega)) ?_
  refine Bod.aldnG dc_385_86 (by repeat (first | exact q0 | exact sm_get_p1 | exact sm_get_p2e | refine sm_get_p1m (by decide) (by decide) ?_ | refine sm_get_p1n (by decide) rfl ?_ | refine sm_get_p2n (by decide) (by decide) rfl ?_ | refine sm_get_p2m (by decide) (by decide) (by decide) ?_)) ?_
  refine Bod.get dc_385_87 fr_385_752 (mk_61 _) rfl ?_
  refine Bod.ildG dc_385_90 (by repeat (first | exact q6 | exact sm_get_p1 | exact sm_get_p2e | refine sm_get_p1m (by decide) (by decide) ?_ | refine sm_get_p1n (by decide) rfl ?_ | refine sm_get_p2n (by decide) (by decide) rfl ?_ | refine sm_get_p2m (by decide) (by decide) (by decide) ?_)) ?_
  refine Bod.baldN ni rfl (by omega) (by omega) dc_385_92 (mk_104 _) (Or.inl rfl) ?_
  refine Bod.ist dc_385_93 (by rw [ml_385]; exact Nat.le_of_ble_eq_true rfl) ?_
  refine Bod.aldnG dc_385_95 (by repeat (first | exact q0 | exact sm_get_p1 | exact sm_get_p2e | refine sm_get_p1m (by decide) (by decide) ?_ | refine sm_get_p1n (by decide) rfl ?_ | refine sm_get_p2n (by decide) (by decide) rfl ?_ | refine sm_get_p2m (by decide) (by decide) (by decide) ?_)) ?_
  refine Bod.get dc_385_96 fr_385_752 (mk_61 _) rfl ?_
  refine Bod.ildG dc_385_99 (by repeat (first | exact q6 | exact sm_get_p1 | exact sm_get_p2e | refine sm_get_p1m (by decide) (by decide) ?_ | refine sm_get_p1n (by decide) rfl ?_ | refine sm_get_p2n (by decide) (by decide) rfl ?_ | refine sm_get_p2m (by decide) (by decide) (by decide) ?_)) ?_
  refine Bod.aldnG dc_385_101 (by repeat (first | exact q0 | exact sm_get_p1 | exact sm_get_p2e | refine sm_get_p1m (by decide) (by decide) ?_ | refine sm_get_p1n (by decide) rfl ?_ | refine sm_get_p2n (by decide) (by decide) rfl ?_ | refine sm_get_p2m (by decide) (by decide) (by decide) ?_)) ?_
  refine Bod.get dc_385_102 fr_385_752 (mk_61 _) rfl ?_
  refine Bod.ildnG dc_385_105 (by repeat (first | exact q3 | exact sm_get_p1 | exact sm_get_p2e | refine sm_get_p1m (by decide) (by decide) ?_ | refine sm_get_p1n (by decide) rfl ?_ | refine sm_get_p2n (by decide) (by decide) rfl ?_ | refine sm_get_p2m (by decide) (by decide) (by decide) ?_)) ?_
  refine Bod.ic 1 (by decide) dc_385_106 ?_
  refine Bod.subN (nd - 1) (by omega) (by omega) dc_385_107 ?_
  refine Bod.ildG dc_385_108 (by repeat (first | exact q6 | exact sm_get_p1 | exact sm_get_p2e | refine sm_get_p1m (by decide) (by decide) ?_ | refine sm_get_p1n (by decide) rfl ?_ | refine sm_get_p2n (by decide) (by decide) rfl ?_ | refine sm_get_p2m (by decide) (by decide) (by decide) ?_)) ?_
  refine Bod.subN (nd - 1 - ni) (by omega) (by omega) dc_385_110 ?_
  refine Bod.baldN (nd - 1 - ni) rfl (by omega) (by omega) dc_385_111 (mk_104 _) (Or.inl rfl) ?_
  refine Bod.bastN ni rfl (by omega) (by omega) dc_385_112 (mk_104 _) (sa_104 _ _ _) (mu_A _ _ _ _) ?_
  refine Bod.aldnG dc_385_113 (by repeat (first | exact q0 | exact sm_get_p1 | exact sm_get_p2e | refine sm_get_p1m (by decide) (by decide) ?_ | refine sm_get_p1n (by decide) rfl ?_ | refine sm_get_p2n (by decide) (by decide) rfl ?_ | refine sm_get_p2m (by decide) (by decide) (by decide) ?_)) ?_
  refine Bod.get dc_385_114 fr_385_752 (mk_61 _) rfl ?_
  refine Bod.ildnG dc_385_117 (by repeat (first | exact q3 | exact sm_get_p1 | exact sm_get_p2e | refine sm_get_p1m (by decide) (by decide) ?_ | refine sm_get_p1n (by decide) rfl ?_ | refine sm_get_p2n (by decide) (by decide) rfl ?_ | refine sm_get_p2m (by decide) (by decide) (by decide) ?_)) ?_
  refine Bod.ic 1 (by decide) dc_385_118 ?_
  refine Bod.subN (nd - 1) (by omega) (by omega) dc_385_119 ?_
  refine Bod.ildG dc_385_120 (by repeat (first | exact q6 | exact sm_get_p1 | exact sm_get_p2e | refine sm_get_p1m (by decide) (by decide) ?_ | refine sm_get_p1n (by decide) rfl ?_ | refine sm_get_p2n (by decide) (by decide) rfl ?_ | refine sm_get_p2m (by decide) (by decide) (by decide) ?_)) ?_
  refine Bod.subN (nd - 1 - ni) (by omega) (by omega) dc_385_122 ?_
  refine Bod.ildG dc_385_123 (by repeat (first | exact q0 | exact sm_get_p1 | exact sm_get_p2e | refine sm_get_p1m (by decide) (by decide) ?_ | refine sm_get_p1n (by decide) rfl ?_ | refine sm_get_p2n (by decide) (by decide) rfl ?_ | refine sm_get_p2m (by decide) (by decide) (by decide) ?_)) ?_
  refine Bod.bastN (nd - 1 - ni) rfl (by omega) (by omega) dc_385_125 (mk_104 _) (sa_104 _ _ _) (mu_A _ _ _ _) ?_
  refine Bod.incN (ni + 1) (by rw [kc_1, nI_add]) dc_385_126 (by rw [ml_385]; exact Nat.le_of_ble_eq_true rfl) (by repeat (first | exact q6 | exact sm_get_p1 | exact sm_get_p2e | refine sm_get_p1m (by decide) (by decide) ?_ | refine sm_get_p1n (by decide) rfl ?_ | refine sm_get_p2n (by decide) (by decide) rfl ?_ | refine sm_get_p2m (by decide) (by decide) (by decide) ?_)) ?_
  refine Bod.go dc_385_129 rfl ?_
  exact hB _ (by repeat (first | exact q0 | exact sm_get_p1 | exact sm_get_p2e | refine sm_get_p1m (by decide) (by decide) ?_ | refine sm_get_p1n (by decide) rfl ?_ | refine sm_get_p2n (by decide) (by decide) rfl ?_ | refine sm_get_p2m (by decide) (by decide) (by decide) ?_)) (by repeat (first | exact q3 | exact sm_get_p1 | exact sm_get_p2e | refine sm_get_p1m (by decide) (by decide) ?_ | refine sm_get_p1n (by decide) rfl ?_ | refine sm_get_p2n (by decide) (by decide) rfl ?_ | refine sm_get_p2m (by decide) (by decide) (by decide) ?_)) (by repeat (first | exact q0 | exact sm_get_p1 | exact sm_get_p2e | refine sm_get_p1m (by decide) (by decide) ?_ | refine sm_get_p1n (by decide) rfl ?_ | refine sm_get_p2n (by decide) (by decide) rfl ?_ | refine sm_get_p2m (by decide) (by decide) (by decide) ?_))
