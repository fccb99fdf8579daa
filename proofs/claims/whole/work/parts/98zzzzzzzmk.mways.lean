/-! WAYS of the class's machine: every call is a hypothesis -/
theorem ml_200 : sm_ml 200 = 6 := by decide +kernel
theorem dc_200_0 : decode (sm_cc 200) 0 = .ok (.lload_n 0, 1) := by decide +kernel
theorem dc_200_1 : decode (sm_cc 200) 1 = .ok (.lload_n 2, 1) := by decide +kernel
theorem dc_200_2 : decode (sm_cc 200) 2 = .ok (.ldiv, 1) := by decide +kernel
theorem dc_200_3 : decode (sm_cc 200) 3 = .ok (.lstore 4, 2) := by decide +kernel
theorem dc_200_5 : decode (sm_cc 200) 5 = .ok (.lload_n 0, 1) := by decide +kernel
theorem dc_200_6 : decode (sm_cc 200) 6 = .ok (.lload_n 2, 1) := by decide +kernel
theorem dc_200_7 : decode (sm_cc 200) 7 = .ok (.lxor, 1) := by decide +kernel
theorem dc_200_8 : decode (sm_cc 200) 8 = .ok (.lconst 0, 1) := by decide +kernel
theorem dc_200_9 : decode (sm_cc 200) 9 = .ok (.lcmp, 1) := by decide +kernel
theorem dc_200_10 : decode (sm_cc 200) 10 = .ok (.ifCond .ge (17), 3) := by decide +kernel
theorem dc_200_27 : decode (sm_cc 200) 27 = .ok (.lload 4, 2) := by decide +kernel
theorem dc_200_29 : decode (sm_cc 200) 29 = .ok (.lreturn, 1) := by decide +kernel
theorem rt_200 : sm_rt 200 = some .long := by decide +kernel
theorem dc_200_13 : decode (sm_cc 200) 13 = .ok (.lload 4, 2) := by decide +kernel
theorem dc_200_15 : decode (sm_cc 200) 15 = .ok (.lload_n 2, 1) := by decide +kernel
theorem dc_200_16 : decode (sm_cc 200) 16 = .ok (.lmul, 1) := by decide +kernel
theorem dc_200_17 : decode (sm_cc 200) 17 = .ok (.lload_n 0, 1) := by decide +kernel
theorem dc_200_18 : decode (sm_cc 200) 18 = .ok (.lcmp, 1) := by decide +kernel
theorem dc_200_19 : decode (sm_cc 200) 19 = .ok (.ifCond .eq (8), 3) := by decide +kernel
theorem dc_200_22 : decode (sm_cc 200) 22 = .ok (.lload 4, 2) := by decide +kernel
theorem dc_200_24 : decode (sm_cc 200) 24 = .ok (.lconst 1, 1) := by decide +kernel
theorem dc_200_25 : decode (sm_cc 200) 25 = .ok (.lsub, 1) := by decide +kernel
theorem dc_200_26 : decode (sm_cc 200) 26 = .ok (.lreturn, 1) := by decide +kernel
theorem ml_202 : sm_ml 202 = 6 := by decide +kernel
theorem dc_202_0 : decode (sm_cc 202) 0 = .ok (.lload_n 0, 1) := by decide +kernel
theorem dc_202_1 : decode (sm_cc 202) 1 = .ok (.lload_n 2, 1) := by decide +kernel
theorem dc_202_2 : decode (sm_cc 202) 2 = .ok (.lrem, 1) := by decide +kernel
theorem dc_202_3 : decode (sm_cc 202) 3 = .ok (.lstore 4, 2) := by decide +kernel
theorem dc_202_5 : decode (sm_cc 202) 5 = .ok (.lload_n 0, 1) := by decide +kernel
theorem dc_202_6 : decode (sm_cc 202) 6 = .ok (.lload_n 2, 1) := by decide +kernel
theorem dc_202_7 : decode (sm_cc 202) 7 = .ok (.lxor, 1) := by decide +kernel
theorem dc_202_8 : decode (sm_cc 202) 8 = .ok (.lconst 0, 1) := by decide +kernel
theorem dc_202_9 : decode (sm_cc 202) 9 = .ok (.lcmp, 1) := by decide +kernel
theorem dc_202_10 : decode (sm_cc 202) 10 = .ok (.ifCond .ge (15), 3) := by decide +kernel
theorem dc_202_25 : decode (sm_cc 202) 25 = .ok (.lload 4, 2) := by decide +kernel
theorem dc_202_27 : decode (sm_cc 202) 27 = .ok (.lreturn, 1) := by decide +kernel
theorem rt_202 : sm_rt 202 = some .long := by decide +kernel
theorem dc_202_13 : decode (sm_cc 202) 13 = .ok (.lload 4, 2) := by decide +kernel
theorem dc_202_15 : decode (sm_cc 202) 15 = .ok (.lconst 0, 1) := by decide +kernel
theorem dc_202_16 : decode (sm_cc 202) 16 = .ok (.lcmp, 1) := by decide +kernel
theorem dc_202_17 : decode (sm_cc 202) 17 = .ok (.ifCond .eq (8), 3) := by decide +kernel
theorem dc_202_20 : decode (sm_cc 202) 20 = .ok (.lload 4, 2) := by decide +kernel
theorem dc_202_22 : decode (sm_cc 202) 22 = .ok (.lload_n 2, 1) := by decide +kernel
theorem dc_202_23 : decode (sm_cc 202) 23 = .ok (.ladd, 1) := by decide +kernel
theorem dc_202_24 : decode (sm_cc 202) 24 = .ok (.lreturn, 1) := by decide +kernel
theorem ml_408 : sm_ml 408 = 20 := by decide +kernel
theorem dc_408_0 : decode (sm_cc 408) 0 = .ok (.lload_n 0, 1) := by decide +kernel
theorem dc_408_1 : decode (sm_cc 408) 1 = .ok (.bipush (32), 2) := by decide +kernel
theorem dc_408_3 : decode (sm_cc 408) 3 = .ok (.lshr, 1) := by decide +kernel
theorem dc_408_4 : decode (sm_cc 408) 4 = .ok (.lstore 4, 2) := by decide +kernel
theorem dc_408_6 : decode (sm_cc 408) 6 = .ok (.lload_n 0, 1) := by decide +kernel
theorem dc_408_7 : decode (sm_cc 408) 7 = .ok (.ldc2_w 138, 3) := by decide +kernel
theorem cj_408_138 : sm_at mt_cj (sm_ow 408) 138 = some (138, (4294967295), 2964) := by decide +kernel
theorem dc_408_10 : decode (sm_cc 408) 10 = .ok (.land, 1) := by decide +kernel
theorem dc_408_11 : decode (sm_cc 408) 11 = .ok (.lstore 6, 2) := by decide +kernel
theorem dc_408_13 : decode (sm_cc 408) 13 = .ok (.lload_n 2, 1) := by decide +kernel
theorem dc_408_14 : decode (sm_cc 408) 14 = .ok (.bipush (32), 2) := by decide +kernel
theorem dc_408_16 : decode (sm_cc 408) 16 = .ok (.lshr, 1) := by decide +kernel
theorem dc_408_17 : decode (sm_cc 408) 17 = .ok (.lstore 8, 2) := by decide +kernel
theorem dc_408_19 : decode (sm_cc 408) 19 = .ok (.lload_n 2, 1) := by decide +kernel
theorem dc_408_20 : decode (sm_cc 408) 20 = .ok (.ldc2_w 138, 3) := by decide +kernel
theorem dc_408_23 : decode (sm_cc 408) 23 = .ok (.land, 1) := by decide +kernel
theorem dc_408_24 : decode (sm_cc 408) 24 = .ok (.lstore 10, 2) := by decide +kernel
theorem dc_408_26 : decode (sm_cc 408) 26 = .ok (.lload 6, 2) := by decide +kernel
theorem dc_408_28 : decode (sm_cc 408) 28 = .ok (.lload 10, 2) := by decide +kernel
theorem dc_408_30 : decode (sm_cc 408) 30 = .ok (.lmul, 1) := by decide +kernel
theorem dc_408_31 : decode (sm_cc 408) 31 = .ok (.lstore 12, 2) := by decide +kernel
theorem dc_408_33 : decode (sm_cc 408) 33 = .ok (.lload 4, 2) := by decide +kernel
theorem dc_408_35 : decode (sm_cc 408) 35 = .ok (.lload 10, 2) := by decide +kernel
theorem dc_408_37 : decode (sm_cc 408) 37 = .ok (.lmul, 1) := by decide +kernel
theorem dc_408_38 : decode (sm_cc 408) 38 = .ok (.lload 12, 2) := by decide +kernel
theorem dc_408_40 : decode (sm_cc 408) 40 = .ok (.bipush (32), 2) := by decide +kernel
theorem dc_408_42 : decode (sm_cc 408) 42 = .ok (.lushr, 1) := by decide +kernel
theorem dc_408_43 : decode (sm_cc 408) 43 = .ok (.ladd, 1) := by decide +kernel
theorem dc_408_44 : decode (sm_cc 408) 44 = .ok (.lstore 14, 2) := by decide +kernel
theorem dc_408_46 : decode (sm_cc 408) 46 = .ok (.lload 14, 2) := by decide +kernel
theorem dc_408_48 : decode (sm_cc 408) 48 = .ok (.ldc2_w 138, 3) := by decide +kernel
theorem dc_408_51 : decode (sm_cc 408) 51 = .ok (.land, 1) := by decide +kernel
theorem dc_408_52 : decode (sm_cc 408) 52 = .ok (.lstore 16, 2) := by decide +kernel
theorem dc_408_54 : decode (sm_cc 408) 54 = .ok (.lload 14, 2) := by decide +kernel
theorem dc_408_56 : decode (sm_cc 408) 56 = .ok (.bipush (32), 2) := by decide +kernel
theorem dc_408_58 : decode (sm_cc 408) 58 = .ok (.lshr, 1) := by decide +kernel
theorem dc_408_59 : decode (sm_cc 408) 59 = .ok (.lstore 18, 2) := by decide +kernel
theorem dc_408_61 : decode (sm_cc 408) 61 = .ok (.lload 16, 2) := by decide +kernel
theorem dc_408_63 : decode (sm_cc 408) 63 = .ok (.lload 6, 2) := by decide +kernel
theorem dc_408_65 : decode (sm_cc 408) 65 = .ok (.lload 8, 2) := by decide +kernel
theorem dc_408_67 : decode (sm_cc 408) 67 = .ok (.lmul, 1) := by decide +kernel
theorem dc_408_68 : decode (sm_cc 408) 68 = .ok (.ladd, 1) := by decide +kernel
theorem dc_408_69 : decode (sm_cc 408) 69 = .ok (.lstore 16, 2) := by decide +kernel
theorem dc_408_71 : decode (sm_cc 408) 71 = .ok (.lload 4, 2) := by decide +kernel
theorem dc_408_73 : decode (sm_cc 408) 73 = .ok (.lload 8, 2) := by decide +kernel
theorem dc_408_75 : decode (sm_cc 408) 75 = .ok (.lmul, 1) := by decide +kernel
theorem dc_408_76 : decode (sm_cc 408) 76 = .ok (.lload 18, 2) := by decide +kernel
theorem dc_408_78 : decode (sm_cc 408) 78 = .ok (.ladd, 1) := by decide +kernel
theorem dc_408_79 : decode (sm_cc 408) 79 = .ok (.lload 16, 2) := by decide +kernel
theorem dc_408_81 : decode (sm_cc 408) 81 = .ok (.bipush (32), 2) := by decide +kernel
theorem dc_408_83 : decode (sm_cc 408) 83 = .ok (.lshr, 1) := by decide +kernel
theorem dc_408_84 : decode (sm_cc 408) 84 = .ok (.ladd, 1) := by decide +kernel
theorem dc_408_85 : decode (sm_cc 408) 85 = .ok (.lreturn, 1) := by decide +kernel
theorem rt_408 : sm_rt 408 = some .long := by decide +kernel
theorem jFd_1 {d : Nat} {S : cS} {u : Int64} {u1 : Int64} (hu : ¬ u1 = 0) (w1 : sm_c1 .ge (lg_cmp (u ^^^ u1) 0) true false = true) : Bod (d + 8) 200 0 [(0, .long u), (2, .long u1)] [] S (some (.long (u / u1))) (S) := by
  refine Bod.go dc_200_0 rfl ?_
  refine Bod.go dc_200_1 rfl ?_
  refine Bod.ldivX (by first | assumption | exact ne0_c (by assumption) | decide) dc_200_2 ?_
  refine Bod.lst dc_200_3 (by rw [ml_200]; exact Nat.le_of_ble_eq_true rfl) ?_
  refine Bod.go dc_200_5 rfl ?_
  refine Bod.go dc_200_6 rfl ?_
  refine Bod.go dc_200_7 rfl ?_
  refine Bod.go dc_200_8 rfl ?_
  refine Bod.go dc_200_9 rfl ?_
  refine Bod.ifT dc_200_10 rfl w1 ?_
  refine Bod.go dc_200_27 rfl ?_
  exact Bod.retJ dc_200_29 rt_200
theorem jFd_2 {d : Nat} {S : cS} {u : Int64} {u1 : Int64} (hu : ¬ u1 = 0) (w1 : sm_c1 .ge (lg_cmp (u ^^^ u1) 0) true false = false) (w2 : sm_c1 .eq (lg_cmp ((u / u1) * u1) u) true false = true) : Bod (d + 8) 200 0 [(0, .long u), (2, .long u1)] [] S (some (.long (u / u1))) (S) := by
  refine Bod.go dc_200_0 rfl ?_
  refine Bod.go dc_200_1 rfl ?_
  refine Bod.ldivX (by first | assumption | exact ne0_c (by assumption) | decide) dc_200_2 ?_
  refine Bod.lst dc_200_3 (by rw [ml_200]; exact Nat.le_of_ble_eq_true rfl) ?_
  refine Bod.go dc_200_5 rfl ?_
  refine Bod.go dc_200_6 rfl ?_
  refine Bod.go dc_200_7 rfl ?_
  refine Bod.go dc_200_8 rfl ?_
  refine Bod.go dc_200_9 rfl ?_
  refine Bod.ifF dc_200_10 rfl w1 ?_
  refine Bod.go dc_200_13 rfl ?_
  refine Bod.go dc_200_15 rfl ?_
  refine Bod.go dc_200_16 rfl ?_
  refine Bod.go dc_200_17 rfl ?_
  refine Bod.go dc_200_18 rfl ?_
  refine Bod.ifT dc_200_19 rfl w2 ?_
  refine Bod.go dc_200_27 rfl ?_
  exact Bod.retJ dc_200_29 rt_200
theorem jFd_3 {d : Nat} {S : cS} {u : Int64} {u1 : Int64} (hu : ¬ u1 = 0) (w1 : sm_c1 .ge (lg_cmp (u ^^^ u1) 0) true false = false) (w2 : sm_c1 .eq (lg_cmp ((u / u1) * u1) u) true false = false) : Bod (d + 8) 200 0 [(0, .long u), (2, .long u1)] [] S (some (.long ((u / u1) - 1))) (S) := by
  refine Bod.go dc_200_0 rfl ?_
  refine Bod.go dc_200_1 rfl ?_
  refine Bod.ldivX (by first | assumption | exact ne0_c (by assumption) | decide) dc_200_2 ?_
  refine Bod.lst dc_200_3 (by rw [ml_200]; exact Nat.le_of_ble_eq_true rfl) ?_
  refine Bod.go dc_200_5 rfl ?_
  refine Bod.go dc_200_6 rfl ?_
  refine Bod.go dc_200_7 rfl ?_
  refine Bod.go dc_200_8 rfl ?_
  refine Bod.go dc_200_9 rfl ?_
  refine Bod.ifF dc_200_10 rfl w1 ?_
  refine Bod.go dc_200_13 rfl ?_
  refine Bod.go dc_200_15 rfl ?_
  refine Bod.go dc_200_16 rfl ?_
  refine Bod.go dc_200_17 rfl ?_
  refine Bod.go dc_200_18 rfl ?_
  refine Bod.ifF dc_200_19 rfl w2 ?_
  refine Bod.go dc_200_22 rfl ?_
  refine Bod.go dc_200_24 rfl ?_
  refine Bod.go dc_200_25 rfl ?_
  exact Bod.retJ dc_200_26 rt_200
theorem jFm_1 {d : Nat} {S : cS} {u : Int64} {u1 : Int64} (hu : ¬ u1 = 0) (w1 : sm_c1 .ge (lg_cmp (u ^^^ u1) 0) true false = true) : Bod (d + 8) 202 0 [(0, .long u), (2, .long u1)] [] S (some (.long (u - u / u1 * u1))) (S) := by
  refine Bod.go dc_202_0 rfl ?_
  refine Bod.go dc_202_1 rfl ?_
  refine Bod.lremX (by first | assumption | exact ne0_c (by assumption) | decide) dc_202_2 ?_
  refine Bod.lst dc_202_3 (by rw [ml_202]; exact Nat.le_of_ble_eq_true rfl) ?_
  refine Bod.go dc_202_5 rfl ?_
  refine Bod.go dc_202_6 rfl ?_
  refine Bod.go dc_202_7 rfl ?_
  refine Bod.go dc_202_8 rfl ?_
  refine Bod.go dc_202_9 rfl ?_
  refine Bod.ifT dc_202_10 rfl w1 ?_
  refine Bod.go dc_202_25 rfl ?_
  exact Bod.retJ dc_202_27 rt_202
theorem jFm_2 {d : Nat} {S : cS} {u : Int64} {u1 : Int64} (hu : ¬ u1 = 0) (w1 : sm_c1 .ge (lg_cmp (u ^^^ u1) 0) true false = false) (w2 : sm_c1 .eq (lg_cmp (u - u / u1 * u1) 0) true false = true) : Bod (d + 8) 202 0 [(0, .long u), (2, .long u1)] [] S (some (.long (u - u / u1 * u1))) (S) := by
  refine Bod.go dc_202_0 rfl ?_
  refine Bod.go dc_202_1 rfl ?_
  refine Bod.lremX (by first | assumption | exact ne0_c (by assumption) | decide) dc_202_2 ?_
  refine Bod.lst dc_202_3 (by rw [ml_202]; exact Nat.le_of_ble_eq_true rfl) ?_
  refine Bod.go dc_202_5 rfl ?_
  refine Bod.go dc_202_6 rfl ?_
  refine Bod.go dc_202_7 rfl ?_
  refine Bod.go dc_202_8 rfl ?_
  refine Bod.go dc_202_9 rfl ?_
  refine Bod.ifF dc_202_10 rfl w1 ?_
  refine Bod.go dc_202_13 rfl ?_
  refine Bod.go dc_202_15 rfl ?_
  refine Bod.go dc_202_16 rfl ?_
  refine Bod.ifT dc_202_17 rfl w2 ?_
  refine Bod.go dc_202_25 rfl ?_
  exact Bod.retJ dc_202_27 rt_202
theorem jFm_3 {d : Nat} {S : cS} {u : Int64} {u1 : Int64} (hu : ¬ u1 = 0) (w1 : sm_c1 .ge (lg_cmp (u ^^^ u1) 0) true false = false) (w2 : sm_c1 .eq (lg_cmp (u - u / u1 * u1) 0) true false = false) : Bod (d + 8) 202 0 [(0, .long u), (2, .long u1)] [] S (some (.long ((u - u / u1 * u1) + u1))) (S) := by
  refine Bod.go dc_202_0 rfl ?_
  refine Bod.go dc_202_1 rfl ?_
  refine Bod.lremX (by first | assumption | exact ne0_c (by assumption) | decide) dc_202_2 ?_
  refine Bod.lst dc_202_3 (by rw [ml_202]; exact Nat.le_of_ble_eq_true rfl) ?_
  refine Bod.go dc_202_5 rfl ?_
  refine Bod.go dc_202_6 rfl ?_
  refine Bod.go dc_202_7 rfl ?_
  refine Bod.go dc_202_8 rfl ?_
  refine Bod.go dc_202_9 rfl ?_
  refine Bod.ifF dc_202_10 rfl w1 ?_
  refine Bod.go dc_202_13 rfl ?_
  refine Bod.go dc_202_15 rfl ?_
  refine Bod.go dc_202_16 rfl ?_
  refine Bod.ifF dc_202_17 rfl w2 ?_
  refine Bod.go dc_202_20 rfl ?_
  refine Bod.go dc_202_22 rfl ?_
  refine Bod.go dc_202_23 rfl ?_
  exact Bod.retJ dc_202_24 rt_202
theorem jMh_1 {d : Nat} {S : cS} {u : Int64} {u1 : Int64}  : Bod (d + 8) 408 0 [(0, .long u), (2, .long u1)] [] S (some (.long ((((u >>> ((nI 32).toInt64 &&& 63)) * (u1 >>> ((nI 32).toInt64 &&& 63))) + ((((u >>> ((nI 32).toInt64 &&& 63)) * (u1 &&& ((4294967295)))) + ((((u &&& ((4294967295))) * (u1 &&& ((4294967295)))).toUInt64 >>> ((nI 32).toInt64.toUInt64 &&& Int64.toUInt64 63)).toInt64)) >>> ((nI 32).toInt64 &&& 63))) + ((((((u >>> ((nI 32).toInt64 &&& 63)) * (u1 &&& ((4294967295)))) + ((((u &&& ((4294967295))) * (u1 &&& ((4294967295)))).toUInt64 >>> ((nI 32).toInt64.toUInt64 &&& Int64.toUInt64 63)).toInt64)) &&& ((4294967295))) + ((u &&& ((4294967295))) * (u1 >>> ((nI 32).toInt64 &&& 63)))) >>> ((nI 32).toInt64 &&& 63))))) (S) := by
  refine Bod.go dc_408_0 rfl ?_
  refine Bod.bip 32 (by decide) dc_408_1 ?_
  refine Bod.go dc_408_3 rfl ?_
  refine Bod.lst dc_408_4 (by rw [ml_408]; exact Nat.le_of_ble_eq_true rfl) ?_
  refine Bod.go dc_408_6 rfl ?_
  refine Bod.ldc2 dc_408_7 cj_408_138 ?_
  refine Bod.go dc_408_10 rfl ?_
  refine Bod.lst dc_408_11 (by rw [ml_408]; exact Nat.le_of_ble_eq_true rfl) ?_
  refine Bod.go dc_408_13 rfl ?_
  refine Bod.bip 32 (by decide) dc_408_14 ?_
  refine Bod.go dc_408_16 rfl ?_
  refine Bod.lst dc_408_17 (by rw [ml_408]; exact Nat.le_of_ble_eq_true rfl) ?_
  refine Bod.go dc_408_19 rfl ?_
  refine Bod.ldc2 dc_408_20 cj_408_138 ?_
  refine Bod.go dc_408_23 rfl ?_
  refine Bod.lst dc_408_24 (by rw [ml_408]; exact Nat.le_of_ble_eq_true rfl) ?_
  refine Bod.go dc_408_26 rfl ?_
  refine Bod.go dc_408_28 rfl ?_
  refine Bod.go dc_408_30 rfl ?_
  refine Bod.lst dc_408_31 (by rw [ml_408]; exact Nat.le_of_ble_eq_true rfl) ?_
  refine Bod.go dc_408_33 rfl ?_
  refine Bod.go dc_408_35 rfl ?_
  refine Bod.go dc_408_37 rfl ?_
  refine Bod.go dc_408_38 rfl ?_
  refine Bod.bip 32 (by decide) dc_408_40 ?_
  refine Bod.go dc_408_42 rfl ?_
  refine Bod.go dc_408_43 rfl ?_
  refine Bod.lst dc_408_44 (by rw [ml_408]; exact Nat.le_of_ble_eq_true rfl) ?_
  refine Bod.go dc_408_46 rfl ?_
  refine Bod.ldc2 dc_408_48 cj_408_138 ?_
  refine Bod.go dc_408_51 rfl ?_
  refine Bod.lst dc_408_52 (by rw [ml_408]; exact Nat.le_of_ble_eq_true rfl) ?_
  refine Bod.go dc_408_54 rfl ?_
  refine Bod.bip 32 (by decide) dc_408_56 ?_
  refine Bod.go dc_408_58 rfl ?_
  refine Bod.lst dc_408_59 (by rw [ml_408]; exact Nat.le_of_ble_eq_true rfl) ?_
  refine Bod.go dc_408_61 rfl ?_
  refine Bod.go dc_408_63 rfl ?_
  refine Bod.go dc_408_65 rfl ?_
  refine Bod.go dc_408_67 rfl ?_
  refine Bod.go dc_408_68 rfl ?_
  refine Bod.lst dc_408_69 (by rw [ml_408]; exact Nat.le_of_ble_eq_true rfl) ?_
  refine Bod.go dc_408_71 rfl ?_
  refine Bod.go dc_408_73 rfl ?_
  refine Bod.go dc_408_75 rfl ?_
  refine Bod.go dc_408_76 rfl ?_
  refine Bod.go dc_408_78 rfl ?_
  refine Bod.go dc_408_79 rfl ?_
  refine Bod.bip 32 (by decide) dc_408_81 ?_
  refine Bod.go dc_408_83 rfl ?_
  refine Bod.go dc_408_84 rfl ?_
  exact Bod.retJ dc_408_85 rt_408
