/-! THE CLASS'S HEAP: set, delete -/
theorem dc_174_0 : decode (sm_cc 174) 0 = .ok (.aload_n 0, 1) := by decide +kernel
theorem dc_174_1 : decode (sm_cc 174) 1 = .ok (.iload_n 1, 1) := by decide +kernel
theorem dc_174_2 : decode (sm_cc 174) 2 = .ok (.iload_n 2, 1) := by decide +kernel
theorem dc_174_3 : decode (sm_cc 174) 3 = .ok (.invokevirtual 95, 3) := by decide +kernel
theorem kr_174_95 : sm_at mt_k (sm_ow 174) 95 = some (95, 0, 157, 0, 1469) := by decide +kernel
theorem dc_174_6 : decode (sm_cc 174) 6 = .ok (.istore 7, 2) := by decide +kernel
theorem ml_174 : sm_ml 174 = 9 := by decide +kernel
theorem dc_174_8 : decode (sm_cc 174) 8 = .ok (.iload 7, 2) := by decide +kernel
theorem dc_174_10 : decode (sm_cc 174) 10 = .ok (.ifCond .ge (4), 3) := by decide +kernel
theorem dc_174_14 : decode (sm_cc 174) 14 = .ok (.aload_n 0, 1) := by decide +kernel
theorem dc_174_15 : decode (sm_cc 174) 15 = .ok (.getfield 38, 3) := by decide +kernel
theorem fr_174_38 : sm_at mt_f (sm_ow 174) 38 = some (38, 2, 8, 0, 384) := by decide +kernel
theorem dc_174_18 : decode (sm_cc 174) 18 = .ok (.iload_n 1, 1) := by decide +kernel
theorem dc_174_19 : decode (sm_cc 174) 19 = .ok (.aaload, 1) := by decide +kernel
theorem dc_174_20 : decode (sm_cc 174) 20 = .ok (.iload 7, 2) := by decide +kernel
theorem dc_174_22 : decode (sm_cc 174) 22 = .ok (.laload, 1) := by decide +kernel
theorem dc_174_23 : decode (sm_cc 174) 23 = .ok (.aload_n 0, 1) := by decide +kernel
theorem dc_174_24 : decode (sm_cc 174) 24 = .ok (.getfield 38, 3) := by decide +kernel
theorem dc_174_27 : decode (sm_cc 174) 27 = .ok (.iload_n 1, 1) := by decide +kernel
theorem dc_174_28 : decode (sm_cc 174) 28 = .ok (.aaload, 1) := by decide +kernel
theorem dc_174_29 : decode (sm_cc 174) 29 = .ok (.iload 7, 2) := by decide +kernel
theorem dc_174_31 : decode (sm_cc 174) 31 = .ok (.iconst 1, 1) := by decide +kernel
theorem dc_174_32 : decode (sm_cc 174) 32 = .ok (.iadd, 1) := by decide +kernel
theorem dc_174_33 : decode (sm_cc 174) 33 = .ok (.laload, 1) := by decide +kernel
theorem dc_174_34 : decode (sm_cc 174) 34 = .ok (.invokestatic 91, 3) := by decide +kernel
theorem kr_174_91 : sm_at mt_k (sm_ow 174) 91 = some (91, 3, 137, 1, 1418) := by decide +kernel
theorem dc_174_37 : decode (sm_cc 174) 37 = .ok (.istore 8, 2) := by decide +kernel
theorem dc_174_39 : decode (sm_cc 174) 39 = .ok (.aload_n 0, 1) := by decide +kernel
theorem dc_174_40 : decode (sm_cc 174) 40 = .ok (.aload_n 0, 1) := by decide +kernel
theorem dc_174_41 : decode (sm_cc 174) 41 = .ok (.getfield 15, 3) := by decide +kernel
theorem fr_174_15 : sm_at mt_f (sm_ow 174) 15 = some (15, 2, 1, 0, 374) := by decide +kernel
theorem dc_174_44 : decode (sm_cc 174) 44 = .ok (.lload_n 3, 1) := by decide +kernel
theorem dc_174_45 : decode (sm_cc 174) 45 = .ok (.lload 5, 2) := by decide +kernel
theorem dc_174_47 : decode (sm_cc 174) 47 = .ok (.invokestatic 91, 3) := by decide +kernel
theorem dc_174_50 : decode (sm_cc 174) 50 = .ok (.invokevirtual 69, 3) := by decide +kernel
theorem kr_174_69 : sm_at mt_k (sm_ow 174) 69 = some (69, 0, 149, 0, 1549) := by decide +kernel
theorem dc_174_53 : decode (sm_cc 174) 53 = .ok (.aload_n 0, 1) := by decide +kernel
theorem dc_174_54 : decode (sm_cc 174) 54 = .ok (.getfield 38, 3) := by decide +kernel
theorem dc_174_57 : decode (sm_cc 174) 57 = .ok (.iload_n 1, 1) := by decide +kernel
theorem dc_174_58 : decode (sm_cc 174) 58 = .ok (.aaload, 1) := by decide +kernel
theorem dc_174_59 : decode (sm_cc 174) 59 = .ok (.iload 7, 2) := by decide +kernel
theorem dc_174_61 : decode (sm_cc 174) 61 = .ok (.lload_n 3, 1) := by decide +kernel
theorem dc_174_62 : decode (sm_cc 174) 62 = .ok (.lastore, 1) := by decide +kernel
theorem dc_174_63 : decode (sm_cc 174) 63 = .ok (.aload_n 0, 1) := by decide +kernel
theorem dc_174_64 : decode (sm_cc 174) 64 = .ok (.getfield 38, 3) := by decide +kernel
theorem dc_174_67 : decode (sm_cc 174) 67 = .ok (.iload_n 1, 1) := by decide +kernel
theorem dc_174_68 : decode (sm_cc 174) 68 = .ok (.aaload, 1) := by decide +kernel
theorem dc_174_69 : decode (sm_cc 174) 69 = .ok (.iload 7, 2) := by decide +kernel
theorem dc_174_71 : decode (sm_cc 174) 71 = .ok (.iconst 1, 1) := by decide +kernel
theorem dc_174_72 : decode (sm_cc 174) 72 = .ok (.iadd, 1) := by decide +kernel
theorem dc_174_73 : decode (sm_cc 174) 73 = .ok (.lload 5, 2) := by decide +kernel
theorem dc_174_75 : decode (sm_cc 174) 75 = .ok (.lastore, 1) := by decide +kernel
theorem dc_174_76 : decode (sm_cc 174) 76 = .ok (.aload_n 0, 1) := by decide +kernel
theorem dc_174_77 : decode (sm_cc 174) 77 = .ok (.aload_n 0, 1) := by decide +kernel
theorem dc_174_78 : decode (sm_cc 174) 78 = .ok (.getfield 15, 3) := by decide +kernel
theorem dc_174_81 : decode (sm_cc 174) 81 = .ok (.iload 8, 2) := by decide +kernel
theorem dc_174_83 : decode (sm_cc 174) 83 = .ok (.invokevirtual 99, 3) := by decide +kernel
theorem kr_174_99 : sm_at mt_k (sm_ow 174) 99 = some (99, 0, 142, 0, 1550) := by decide +kernel
theorem dc_174_86 : decode (sm_cc 174) 86 = .ok (.return_, 1) := by decide +kernel
theorem rt_174 : sm_rt 174 = none := by decide +kernel
theorem dc_213_0 : decode (sm_cc 213) 0 = .ok (.aload_n 0, 1) := by decide +kernel
theorem dc_213_1 : decode (sm_cc 213) 1 = .ok (.iload_n 1, 1) := by decide +kernel
theorem dc_213_2 : decode (sm_cc 213) 2 = .ok (.iload_n 2, 1) := by decide +kernel
theorem dc_213_3 : decode (sm_cc 213) 3 = .ok (.invokevirtual 95, 3) := by decide +kernel
theorem kr_213_95 : sm_at mt_k (sm_ow 213) 95 = some (95, 0, 157, 0, 1469) := by decide +kernel
theorem dc_213_6 : decode (sm_cc 213) 6 = .ok (.istore_n 3, 1) := by decide +kernel
theorem ml_213 : sm_ml 213 = 8 := by decide +kernel
theorem dc_213_7 : decode (sm_cc 213) 7 = .ok (.iload_n 3, 1) := by decide +kernel
theorem dc_213_8 : decode (sm_cc 213) 8 = .ok (.ifCond .ge (4), 3) := by decide +kernel
theorem dc_213_12 : decode (sm_cc 213) 12 = .ok (.aload_n 0, 1) := by decide +kernel
theorem dc_213_13 : decode (sm_cc 213) 13 = .ok (.getfield 38, 3) := by decide +kernel
theorem fr_213_38 : sm_at mt_f (sm_ow 213) 38 = some (38, 2, 8, 0, 384) := by decide +kernel
theorem dc_213_16 : decode (sm_cc 213) 16 = .ok (.iload_n 1, 1) := by decide +kernel
theorem dc_213_17 : decode (sm_cc 213) 17 = .ok (.aaload, 1) := by decide +kernel
theorem dc_213_18 : decode (sm_cc 213) 18 = .ok (.iload_n 3, 1) := by decide +kernel
theorem dc_213_19 : decode (sm_cc 213) 19 = .ok (.laload, 1) := by decide +kernel
theorem dc_213_20 : decode (sm_cc 213) 20 = .ok (.aload_n 0, 1) := by decide +kernel
theorem dc_213_21 : decode (sm_cc 213) 21 = .ok (.getfield 38, 3) := by decide +kernel
theorem dc_213_24 : decode (sm_cc 213) 24 = .ok (.iload_n 1, 1) := by decide +kernel
theorem dc_213_25 : decode (sm_cc 213) 25 = .ok (.aaload, 1) := by decide +kernel
theorem dc_213_26 : decode (sm_cc 213) 26 = .ok (.iload_n 3, 1) := by decide +kernel
theorem dc_213_27 : decode (sm_cc 213) 27 = .ok (.iconst 1, 1) := by decide +kernel
theorem dc_213_28 : decode (sm_cc 213) 28 = .ok (.iadd, 1) := by decide +kernel
theorem dc_213_29 : decode (sm_cc 213) 29 = .ok (.laload, 1) := by decide +kernel
theorem dc_213_30 : decode (sm_cc 213) 30 = .ok (.invokestatic 91, 3) := by decide +kernel
theorem kr_213_91 : sm_at mt_k (sm_ow 213) 91 = some (91, 3, 137, 1, 1418) := by decide +kernel
theorem dc_213_33 : decode (sm_cc 213) 33 = .ok (.istore 4, 2) := by decide +kernel
theorem dc_213_35 : decode (sm_cc 213) 35 = .ok (.aload_n 0, 1) := by decide +kernel
theorem dc_213_36 : decode (sm_cc 213) 36 = .ok (.getfield 11, 3) := by decide +kernel
theorem fr_213_11 : sm_at mt_f (sm_ow 213) 11 = some (11, 2, 0, 0, 373) := by decide +kernel
theorem dc_213_39 : decode (sm_cc 213) 39 = .ok (.iload_n 1, 1) := by decide +kernel
theorem dc_213_40 : decode (sm_cc 213) 40 = .ok (.iaload, 1) := by decide +kernel
theorem dc_213_41 : decode (sm_cc 213) 41 = .ok (.invokestatic 87, 3) := by decide +kernel
theorem kr_213_87 : sm_at mt_k (sm_ow 213) 87 = some (87, 2, 145, 0, 1415) := by decide +kernel
theorem dc_213_44 : decode (sm_cc 213) 44 = .ok (.istore 5, 2) := by decide +kernel
theorem dc_213_46 : decode (sm_cc 213) 46 = .ok (.iload_n 2, 1) := by decide +kernel
theorem dc_213_47 : decode (sm_cc 213) 47 = .ok (.iconst 1, 1) := by decide +kernel
theorem dc_213_48 : decode (sm_cc 213) 48 = .ok (.iadd, 1) := by decide +kernel
theorem dc_213_49 : decode (sm_cc 213) 49 = .ok (.iload 5, 2) := by decide +kernel
theorem dc_213_51 : decode (sm_cc 213) 51 = .ok (.imul, 1) := by decide +kernel
theorem dc_213_52 : decode (sm_cc 213) 52 = .ok (.istore 6, 2) := by decide +kernel
theorem dc_213_54 : decode (sm_cc 213) 54 = .ok (.aload_n 0, 1) := by decide +kernel
theorem dc_213_55 : decode (sm_cc 213) 55 = .ok (.getfield 33, 3) := by decide +kernel
theorem fr_213_33 : sm_at mt_f (sm_ow 213) 33 = some (33, 2, 7, 0, 383) := by decide +kernel
theorem dc_213_58 : decode (sm_cc 213) 58 = .ok (.iload_n 1, 1) := by decide +kernel
theorem dc_213_59 : decode (sm_cc 213) 59 = .ok (.iaload, 1) := by decide +kernel
theorem dc_213_60 : decode (sm_cc 213) 60 = .ok (.iload 5, 2) := by decide +kernel
theorem dc_213_62 : decode (sm_cc 213) 62 = .ok (.imul, 1) := by decide +kernel
theorem dc_213_63 : decode (sm_cc 213) 63 = .ok (.iload 6, 2) := by decide +kernel
theorem dc_213_65 : decode (sm_cc 213) 65 = .ok (.isub, 1) := by decide +kernel
theorem dc_213_66 : decode (sm_cc 213) 66 = .ok (.istore 7, 2) := by decide +kernel
theorem dc_213_68 : decode (sm_cc 213) 68 = .ok (.iload 7, 2) := by decide +kernel
theorem dc_213_70 : decode (sm_cc 213) 70 = .ok (.ifCond .le (49), 3) := by decide +kernel
theorem dc_213_119 : decode (sm_cc 213) 119 = .ok (.aload_n 0, 1) := by decide +kernel
theorem dc_213_120 : decode (sm_cc 213) 120 = .ok (.getfield 33, 3) := by decide +kernel
theorem dc_213_123 : decode (sm_cc 213) 123 = .ok (.iload_n 1, 1) := by decide +kernel
theorem dc_213_124 : decode (sm_cc 213) 124 = .ok (.dup2, 1) := by decide +kernel
theorem dc_213_125 : decode (sm_cc 213) 125 = .ok (.iaload, 1) := by decide +kernel
theorem dc_213_126 : decode (sm_cc 213) 126 = .ok (.iconst 1, 1) := by decide +kernel
theorem dc_213_127 : decode (sm_cc 213) 127 = .ok (.isub, 1) := by decide +kernel
theorem dc_213_128 : decode (sm_cc 213) 128 = .ok (.iastore, 1) := by decide +kernel
theorem dc_213_129 : decode (sm_cc 213) 129 = .ok (.aload_n 0, 1) := by decide +kernel
theorem dc_213_130 : decode (sm_cc 213) 130 = .ok (.aload_n 0, 1) := by decide +kernel
theorem dc_213_131 : decode (sm_cc 213) 131 = .ok (.getfield 15, 3) := by decide +kernel
theorem fr_213_15 : sm_at mt_f (sm_ow 213) 15 = some (15, 2, 1, 0, 374) := by decide +kernel
theorem dc_213_134 : decode (sm_cc 213) 134 = .ok (.iload 4, 2) := by decide +kernel
theorem dc_213_136 : decode (sm_cc 213) 136 = .ok (.invokevirtual 99, 3) := by decide +kernel
theorem kr_213_99 : sm_at mt_k (sm_ow 213) 99 = some (99, 0, 142, 0, 1550) := by decide +kernel
theorem dc_213_139 : decode (sm_cc 213) 139 = .ok (.return_, 1) := by decide +kernel
theorem rt_213 : sm_rt 213 = none := by decide +kernel
theorem dc_213_73 : decode (sm_cc 213) 73 = .ok (.iload 6, 2) := by decide +kernel
theorem dc_213_75 : decode (sm_cc 213) 75 = .ok (.iload 5, 2) := by decide +kernel
theorem dc_213_77 : decode (sm_cc 213) 77 = .ok (.if_icmp .lt (42), 3) := by decide +kernel
theorem dc_213_80 : decode (sm_cc 213) 80 = .ok (.iload 6, 2) := by decide +kernel
theorem dc_213_82 : decode (sm_cc 213) 82 = .ok (.iload 7, 2) := by decide +kernel
theorem dc_213_84 : decode (sm_cc 213) 84 = .ok (.iadd, 1) := by decide +kernel
theorem dc_213_85 : decode (sm_cc 213) 85 = .ok (.aload_n 0, 1) := by decide +kernel
theorem dc_213_86 : decode (sm_cc 213) 86 = .ok (.getfield 38, 3) := by decide +kernel
theorem dc_213_89 : decode (sm_cc 213) 89 = .ok (.iload_n 1, 1) := by decide +kernel
theorem dc_213_90 : decode (sm_cc 213) 90 = .ok (.aaload, 1) := by decide +kernel
theorem dc_213_91 : decode (sm_cc 213) 91 = .ok (.arraylength, 1) := by decide +kernel
theorem dc_213_92 : decode (sm_cc 213) 92 = .ok (.if_icmp .gt (27), 3) := by decide +kernel
theorem dc_213_95 : decode (sm_cc 213) 95 = .ok (.aload_n 0, 1) := by decide +kernel
theorem dc_213_96 : decode (sm_cc 213) 96 = .ok (.getfield 38, 3) := by decide +kernel
theorem dc_213_99 : decode (sm_cc 213) 99 = .ok (.iload_n 1, 1) := by decide +kernel
theorem dc_213_100 : decode (sm_cc 213) 100 = .ok (.aaload, 1) := by decide +kernel
theorem dc_213_101 : decode (sm_cc 213) 101 = .ok (.iload 6, 2) := by decide +kernel
theorem dc_213_103 : decode (sm_cc 213) 103 = .ok (.aload_n 0, 1) := by decide +kernel
theorem dc_213_104 : decode (sm_cc 213) 104 = .ok (.getfield 38, 3) := by decide +kernel
theorem dc_213_107 : decode (sm_cc 213) 107 = .ok (.iload_n 1, 1) := by decide +kernel
theorem dc_213_108 : decode (sm_cc 213) 108 = .ok (.aaload, 1) := by decide +kernel
theorem dc_213_109 : decode (sm_cc 213) 109 = .ok (.iload 6, 2) := by decide +kernel
theorem dc_213_111 : decode (sm_cc 213) 111 = .ok (.iload 5, 2) := by decide +kernel
theorem dc_213_113 : decode (sm_cc 213) 113 = .ok (.isub, 1) := by decide +kernel
theorem dc_213_114 : decode (sm_cc 213) 114 = .ok (.iload 7, 2) := by decide +kernel
theorem dc_213_116 : decode (sm_cc 213) 116 = .ok (.invokestatic 139, 3) := by decide +kernel
theorem kr_213_139 : sm_at mt_k (sm_ow 213) 139 = some (139, 7, 0, 0, 1738) := by decide +kernel
theorem rAG (a : Nat) (f : Nat → Int64) (S : cS) : sA (wG a f S) = sA S := rfl
theorem set_2 {d : Nat} {S : cS} {k : Nat} {kd : Nat} {z : Nat} {a : Nat} {N : Nat} {e : Nat} {hi : Int64} {lo : Int64} {o : Nat} {oo : Nat} {W : cS} (h0 : 1 ≤ k) (hk : k ≤ 1500) (hkd : sA S 3 k = nI kd) (h7 : kd ≤ 7) (hsz : sA S 10 k = nI z) (hr : sQ S 11 k = some a) (ha : 108 ≤ a) (hs : (sS S)[a - 108]? = some (1, N)) (hN : N < 2 ^ 31) (hw : c_width kd = 2) (he : e < z) (hz : z < 2 ^ 20) (hl : 2 * e + 2 ≤ N) (ho : c_obj hi lo = nI o) (ho2 : o ≤ 1500) (hoo : c_obj (sL S a (2 * e)) (sL S a (2 * e + 1)) = nI oo) (hRel : Ans (d + 5) 142 [.ref 2, .ref 4, .int (nI oo)] (wL a (2 * e + 1) lo (wL a (2 * e) hi (c_hold 4 o S))) none W) : Ans (d + 6) 174 [.ref 2, .int (nI k), .int (nI e), .long hi, .long lo] S (none) (W) := by
  refine Ans.of (by rw [ml_174]; exact Nat.le_of_ble_eq_true rfl) ?_
  refine Bod.go dc_174_0 rfl ?_
  refine Bod.go dc_174_1 rfl ?_
  refine Bod.go dc_174_2 rfl ?_
  refine Bod.virt (r := []) dc_174_3 kr_174_95 ⟨Or.inl rfl, ow_157, cl_2⟩ (by rw [np_157]; rfl) (by rw [np_157]; rfl) (ob_of (mk_2 _)) (Nat.le_of_ble_eq_true rfl) (placeOf_2 (k := k) (kd := kd) (z := z) (a := a) (N := N) (e := e) (by omega) (by omega) (by first | assumption | rfl | exact congrArg nI (by omega) | (simp (disch := omega) only [rI, rIe, rA, rIA, rLA, rJA, rVI, rQI, rVA, rQA, upd_at,  rAI, rLI, rJI, nI_add, pk_sub, kc_0, kc_1, kc_2, kc_3, kc_4, kc_5, reduceIte, Nat.reduceEqDiff, Nat.add_zero, rI_hold, rI_hold, rL_hold, hkd, hsz]; done)) (by omega) (by first | assumption | rfl | exact congrArg nI (by omega) | (simp (disch := omega) only [rI, rIe, rA, rIA, rLA, rJA, rVI, rQI, rVA, rQA, upd_at,  rAI, rLI, rJI, nI_add, pk_sub, kc_0, kc_1, kc_2, kc_3, kc_4, kc_5, reduceIte, Nat.reduceEqDiff, Nat.add_zero, rI_hold, rI_hold, rL_hold, hkd, hsz]; done)) hr (by omega) hs (by omega) hw (by omega) (by omega) (by omega)) ?_
  show Bod _ _ _ _ [_] _ _ _
  refine Bod.ist dc_174_6 (by rw [ml_174]; exact Nat.le_of_ble_eq_true rfl) ?_
  refine Bod.go dc_174_8 rfl ?_
  refine Bod.ifT dc_174_10 rfl (k1_ge_T (2 * e) rfl (by omega)) ?_
  refine Bod.go dc_174_14 rfl ?_
  refine Bod.get dc_174_15 fr_174_38 (mk_2 _) rfl ?_
  refine Bod.go dc_174_18 rfl ?_
  refine Bod.aaldR (N := 1501) (b := a) k rfl (by omega) (by omega) hr dc_174_19 (mk_11 _) ht_4 ?_
  refine Bod.go dc_174_20 rfl ?_
  refine Bod.laldN (N := N) (2 * e) rfl (by omega) (by omega) dc_174_22 (mk_row ha hs) ?_
  refine Bod.go dc_174_23 rfl ?_
  refine Bod.get dc_174_24 fr_174_38 (mk_2 _) rfl ?_
  refine Bod.go dc_174_27 rfl ?_
  refine Bod.aaldR (N := 1501) (b := a) k rfl (by omega) (by omega) hr dc_174_28 (mk_11 _) ht_4 ?_
  refine Bod.go dc_174_29 rfl ?_
  refine Bod.ic 1 (by decide) dc_174_31 ?_
  refine Bod.addN (2 * e + 1) (by omega) dc_174_32 ?_
  refine Bod.laldN (N := N) (2 * e + 1) rfl (by omega) (by omega) dc_174_33 (mk_row ha hs) ?_
  refine Bod.stat (r := []) dc_174_34 kr_174_91 (Or.inr rfl) (by rw [np_137]; rfl) (by rw [np_137]; rfl) (by rw [np_137]; exact Nat.le_of_ble_eq_true rfl) (Nat.le_of_ble_eq_true rfl) (objectOf_n (o := oo) hoo) ?_
  show Bod _ _ _ _ [_] _ _ _
  refine Bod.ist dc_174_37 (by rw [ml_174]; exact Nat.le_of_ble_eq_true rfl) ?_
  refine Bod.go dc_174_39 rfl ?_
  refine Bod.go dc_174_40 rfl ?_
  refine Bod.get dc_174_41 fr_174_15 (mk_2 _) rfl ?_
  refine Bod.go dc_174_44 rfl ?_
  refine Bod.go dc_174_45 rfl ?_
  refine Bod.stat (r := [_, _]) dc_174_47 kr_174_91 (Or.inr rfl) (by rw [np_137]; rfl) (by rw [np_137]; rfl) (by rw [np_137]; exact Nat.le_of_ble_eq_true rfl) (Nat.le_of_ble_eq_true rfl) (objectOf_n (o := o) ho) ?_
  show Bod _ _ _ _ [_, _, _] _ _ _
  refine Bod.virt (r := []) dc_174_50 kr_174_69 ⟨Or.inl rfl, ow_149, cl_2⟩ (by rw [np_149]; rfl) (by rw [np_149]; rfl) (ob_of (mk_2 _)) (Nat.le_of_ble_eq_true rfl) (hold_ev (a := 4) (k := o) (Or.inl rfl) (by omega)) ?_
  show Bod _ _ _ _ [] _ _ _
  refine Bod.go dc_174_53 rfl ?_
  refine Bod.get dc_174_54 fr_174_38 (mk_2 _) rfl ?_
  refine Bod.go dc_174_57 rfl ?_
  refine Bod.aaldR (N := 1501) (b := a) k rfl (by omega) (by omega) (by simp only [rIQ, rJQ, rAQ, rLQ, rVQ, rQ_holdE]; exact hr) dc_174_58 (mk_11 _) ht_4 ?_
  refine Bod.go dc_174_59 rfl ?_
  refine Bod.go dc_174_61 rfl ?_
  refine Bod.lastN (N := N) (2 * e) rfl (by omega) (by omega) dc_174_62 (mk_row ha (by simp only [rIS, rJS, rAS, rLS, rVS, rQS, rS_hold]; exact hs)) (sa_row ha (by simp only [rIS, rJS, rAS, rLS, rVS, rQS, rS_hold]; exact hs)) (mu_L _ _ _ _) ?_
  refine Bod.go dc_174_63 rfl ?_
  refine Bod.get dc_174_64 fr_174_38 (mk_2 _) rfl ?_
  refine Bod.go dc_174_67 rfl ?_
  refine Bod.aaldR (N := 1501) (b := a) k rfl (by omega) (by omega) (by simp only [rIQ, rJQ, rAQ, rLQ, rVQ, rQ_holdE]; exact hr) dc_174_68 (mk_11 _) ht_4 ?_
  refine Bod.go dc_174_69 rfl ?_
  refine Bod.ic 1 (by decide) dc_174_71 ?_
  refine Bod.addN (2 * e + 1) (by omega) dc_174_72 ?_
  refine Bod.go dc_174_73 rfl ?_
  refine Bod.lastN (N := N) (2 * e + 1) rfl (by omega) (by omega) dc_174_75 (mk_row ha (by simp only [rIS, rJS, rAS, rLS, rVS, rQS, rS_hold]; exact hs)) (sa_row ha (by simp only [rIS, rJS, rAS, rLS, rVS, rQS, rS_hold]; exact hs)) (mu_L _ _ _ _) ?_
  refine Bod.go dc_174_76 rfl ?_
  refine Bod.go dc_174_77 rfl ?_
  refine Bod.get dc_174_78 fr_174_15 (mk_2 _) rfl ?_
  refine Bod.go dc_174_81 rfl ?_
  refine Bod.virt (r := []) dc_174_83 kr_174_99 ⟨Or.inl rfl, ow_142, cl_2⟩ (by rw [np_142]; rfl) (by rw [np_142]; rfl) (ob_of (mk_2 _)) (Nat.le_of_ble_eq_true rfl) (hRel  ) ?_
  show Bod _ _ _ _ [] _ _ _
  exact Bod.retV dc_174_86 rt_174
theorem delL_2 {d : Nat} {S : cS} {k : Nat} {kd : Nat} {z : Nat} {a : Nat} {N : Nat} {e : Nat} {oo : Nat} {W : cS} (h0 : 1 ≤ k) (hk : k ≤ 1500) (hkd : sA S 3 k = nI kd) (h7 : kd ≤ 7) (hsz : sA S 10 k = nI z) (hr : sQ S 11 k = some a) (ha : 108 ≤ a) (hs : (sS S)[a - 108]? = some (1, N)) (hN : N < 2 ^ 31) (hw : c_width kd = 2) (he : e < z) (hz : z < 2 ^ 20) (hl : 2 * e + 2 ≤ N) (hlast : e + 1 = z) (hoo : c_obj (sL S a (2 * e)) (sL S a (2 * e + 1)) = nI oo) (hRel : Ans (d + 5) 142 [.ref 2, .ref 4, .int (nI oo)] (wA 10 k (nI (z - 1)) S) none W) : Ans (d + 6) 213 [.ref 2, .int (nI k), .int (nI e)] S (none) (W) := by
  refine Ans.of (by rw [ml_213]; exact Nat.le_of_ble_eq_true rfl) ?_
  refine Bod.go dc_213_0 rfl ?_
  refine Bod.go dc_213_1 rfl ?_
  refine Bod.go dc_213_2 rfl ?_
  refine Bod.virt (r := []) dc_213_3 kr_213_95 ⟨Or.inl rfl, ow_157, cl_2⟩ (by rw [np_157]; rfl) (by rw [np_157]; rfl) (ob_of (mk_2 _)) (Nat.le_of_ble_eq_true rfl) (placeOf_2 (k := k) (kd := kd) (z := z) (a := a) (N := N) (e := e) (by omega) (by omega) (by first | assumption | rfl | exact congrArg nI (by omega) | (simp (disch := omega) only [rI, rIe, rA, rIA, rLA, rJA, rVI, rQI, rVA, rQA, upd_at,  rAI, rLI, rJI, nI_add, pk_sub, kc_0, kc_1, kc_2, kc_3, kc_4, kc_5, reduceIte, Nat.reduceEqDiff, Nat.add_zero, rI_hold, rI_hold, rL_hold, hkd, hsz]; done)) (by omega) (by first | assumption | rfl | exact congrArg nI (by omega) | (simp (disch := omega) only [rI, rIe, rA, rIA, rLA, rJA, rVI, rQI, rVA, rQA, upd_at,  rAI, rLI, rJI, nI_add, pk_sub, kc_0, kc_1, kc_2, kc_3, kc_4, kc_5, reduceIte, Nat.reduceEqDiff, Nat.add_zero, rI_hold, rI_hold, rL_hold, hkd, hsz]; done)) hr (by omega) hs (by omega) hw (by omega) (by omega) (by omega)) ?_
  show Bod _ _ _ _ [_] _ _ _
  refine Bod.istn dc_213_6 (by rw [ml_213]; exact Nat.le_of_ble_eq_true rfl) ?_
  refine Bod.go dc_213_7 rfl ?_
  refine Bod.ifT dc_213_8 rfl (k1_ge_T (2 * e) rfl (by omega)) ?_
  refine Bod.go dc_213_12 rfl ?_
  refine Bod.get dc_213_13 fr_213_38 (mk_2 _) rfl ?_
  refine Bod.go dc_213_16 rfl ?_
  refine Bod.aaldR (N := 1501) (b := a) k rfl (by omega) (by omega) hr dc_213_17 (mk_11 _) ht_4 ?_
  refine Bod.go dc_213_18 rfl ?_
  refine Bod.laldN (N := N) (2 * e) rfl (by omega) (by omega) dc_213_19 (mk_row ha hs) ?_
  refine Bod.go dc_213_20 rfl ?_
  refine Bod.get dc_213_21 fr_213_38 (mk_2 _) rfl ?_
  refine Bod.go dc_213_24 rfl ?_
  refine Bod.aaldR (N := 1501) (b := a) k rfl (by omega) (by omega) hr dc_213_25 (mk_11 _) ht_4 ?_
  refine Bod.go dc_213_26 rfl ?_
  refine Bod.ic 1 (by decide) dc_213_27 ?_
  refine Bod.addN (2 * e + 1) (by omega) dc_213_28 ?_
  refine Bod.laldN (N := N) (2 * e + 1) rfl (by omega) (by omega) dc_213_29 (mk_row ha hs) ?_
  refine Bod.stat (r := []) dc_213_30 kr_213_91 (Or.inr rfl) (by rw [np_137]; rfl) (by rw [np_137]; rfl) (by rw [np_137]; exact Nat.le_of_ble_eq_true rfl) (Nat.le_of_ble_eq_true rfl) (objectOf_n (o := oo) hoo) ?_
  show Bod _ _ _ _ [_] _ _ _
  refine Bod.ist dc_213_33 (by rw [ml_213]; exact Nat.le_of_ble_eq_true rfl) ?_
  refine Bod.go dc_213_35 rfl ?_
  refine Bod.get dc_213_36 fr_213_11 (mk_2 _) rfl ?_
  refine Bod.go dc_213_39 rfl ?_
  refine Bod.ialdN k rfl (by omega) (by omega) dc_213_40 (mk_3 _) ?_
  refine Bod.eqI (nI kd) (by first | assumption | rfl | exact congrArg nI (by omega) | (simp (disch := omega) only [rI, rIe, rA, rIA, rLA, rJA, rVI, rQI, rVA, rQA, upd_at,  rAI, rLI, rJI, nI_add, pk_sub, kc_0, kc_1, kc_2, kc_3, kc_4, kc_5, reduceIte, Nat.reduceEqDiff, Nat.add_zero, rI_hold, rI_hold, rL_hold, hkd, hsz]; done)) ?_
  refine Bod.stat (r := []) dc_213_41 kr_213_87 (Or.inl rfl) (by rw [np_145]; rfl) (by rw [np_145]; rfl) (by rw [np_145]; exact Nat.le_of_ble_eq_true rfl) (Nat.le_of_ble_eq_true rfl) (widthOf_ev (kd := kd) (w := 2) (by omega) hw) ?_
  show Bod _ _ _ _ [_] _ _ _
  refine Bod.ist dc_213_44 (by rw [ml_213]; exact Nat.le_of_ble_eq_true rfl) ?_
  refine Bod.go dc_213_46 rfl ?_
  refine Bod.ic 1 (by decide) dc_213_47 ?_
  refine Bod.addN (e + 1) (by omega) dc_213_48 ?_
  refine Bod.go dc_213_49 rfl ?_
  refine Bod.mulN (2 * e + 2) (by omega) dc_213_51 ?_
  refine Bod.ist dc_213_52 (by rw [ml_213]; exact Nat.le_of_ble_eq_true rfl) ?_
  refine Bod.go dc_213_54 rfl ?_
  refine Bod.get dc_213_55 fr_213_33 (mk_2 _) rfl ?_
  refine Bod.go dc_213_58 rfl ?_
  refine Bod.ialdN k rfl (by omega) (by omega) dc_213_59 (mk_10 _) ?_
  refine Bod.eqI (nI z) (by first | assumption | rfl | exact congrArg nI (by omega) | (simp (disch := omega) only [rI, rIe, rA, rIA, rLA, rJA, rVI, rQI, rVA, rQA, upd_at,  rAI, rLI, rJI, nI_add, pk_sub, kc_0, kc_1, kc_2, kc_3, kc_4, kc_5, reduceIte, Nat.reduceEqDiff, Nat.add_zero, rI_hold, rI_hold, rL_hold, hkd, hsz]; done)) ?_
  refine Bod.go dc_213_60 rfl ?_
  refine Bod.mulN (2 * z) (by omega) dc_213_62 ?_
  refine Bod.go dc_213_63 rfl ?_
  refine Bod.subN (2 * z - 2 - (2 * e)) (by omega) (by omega) dc_213_65 ?_
  refine Bod.ist dc_213_66 (by rw [ml_213]; exact Nat.le_of_ble_eq_true rfl) ?_
  refine Bod.go dc_213_68 rfl ?_
  refine Bod.ifT dc_213_70 rfl (k1_le_T (k_eq (2 * z - 2 - (2 * e)) 0 (by first | assumption | rfl | exact congrArg nI (by omega) | (simp (disch := omega) only [rI, rIe, rA, rIA, rLA, rJA, rVI, rQI, rVA, rQA, upd_at,  rAI, rLI, rJI, nI_add, pk_sub, kc_0, kc_1, kc_2, kc_3, kc_4, kc_5, reduceIte, Nat.reduceEqDiff, Nat.add_zero, rI_hold, rI_hold, rL_hold, hkd, hsz]; done)) rfl (by omega))) ?_
  refine Bod.go dc_213_119 rfl ?_
  refine Bod.get dc_213_120 fr_213_33 (mk_2 _) rfl ?_
  refine Bod.go dc_213_123 rfl ?_
  refine Bod.go dc_213_124 rfl ?_
  refine Bod.ialdN k rfl (by omega) (by omega) dc_213_125 (mk_10 _) ?_
  refine Bod.eqI (nI z) (by first | assumption | rfl | exact congrArg nI (by omega) | (simp (disch := omega) only [rI, rIe, rA, rIA, rLA, rJA, rVI, rQI, rVA, rQA, upd_at,  rAI, rLI, rJI, nI_add, pk_sub, kc_0, kc_1, kc_2, kc_3, kc_4, kc_5, reduceIte, Nat.reduceEqDiff, Nat.add_zero, rI_hold, rI_hold, rL_hold, hkd, hsz]; done)) ?_
  refine Bod.ic 1 (by decide) dc_213_126 ?_
  refine Bod.subN (z - 1) (by omega) (by omega) dc_213_127 ?_
  refine Bod.iastN k rfl (by omega) (by omega) dc_213_128 (mk_10 _) (sa_10 _ _ _) (mu_A _ _ _ _) ?_
  refine Bod.go dc_213_129 rfl ?_
  refine Bod.go dc_213_130 rfl ?_
  refine Bod.get dc_213_131 fr_213_15 (mk_2 _) rfl ?_
  refine Bod.go dc_213_134 rfl ?_
  refine Bod.virt (r := []) dc_213_136 kr_213_99 ⟨Or.inl rfl, ow_142, cl_2⟩ (by rw [np_142]; rfl) (by rw [np_142]; rfl) (ob_of (mk_2 _)) (Nat.le_of_ble_eq_true rfl) (hRel  ) ?_
  show Bod _ _ _ _ [] _ _ _
  exact Bod.retV dc_213_139 rt_213
theorem delM_2 {d : Nat} {S : cS} {k kd z a N e oo : Nat} {W : cS} (h0 : 1 ≤ k) (hk : k ≤ 1500) (hkd : sA S 3 k = nI kd) (h7 : kd ≤ 7) (hsz : sA S 10 k = nI z) (hr : sQ S 11 k = some a) (ha : 108 ≤ a) (hs : (sS S)[a - 108]? = some (1, N)) (hN : N < 2 ^ 31) (hw : c_width kd = 2) (he : e < z) (hz : z < 2 ^ 20) (hl : 2 * e + 2 ≤ N) (hlast : e + 1 < z) (hlz : 2 * z ≤ N) (hoo : c_obj (sL S a (2 * e)) (sL S a (2 * e + 1)) = nI oo) (hRel2 : Ans (d + 5) 142 [.ref 2, .ref 4, .int (nI oo)] (wA 10 k (nI (z - 1)) (wG a (va_cpy (sL S a) (sL S a) (2 * e + 2) (2 * e) (2 * z - 2 - (2 * e))) S)) none W) : Ans (d + 6) 213 [.ref 2, .int (nI k), .int (nI e)] S none W := by
  refine Ans.of (by rw [ml_213]; exact Nat.le_of_ble_eq_true rfl) ?_
  refine Bod.go dc_213_0 rfl ?_
  refine Bod.go dc_213_1 rfl ?_
  refine Bod.go dc_213_2 rfl ?_
  refine Bod.virt (r := []) dc_213_3 kr_213_95 ⟨Or.inl rfl, ow_157, cl_2⟩ (by rw [np_157]; rfl) (by rw [np_157]; rfl) (ob_of (mk_2 _)) (Nat.le_of_ble_eq_true rfl) (placeOf_2 (k := k) (kd := kd) (z := z) (a := a) (N := N) (e := e) (by omega) (by omega) (by first | assumption | rfl | exact congrArg nI (by omega) | (simp (disch := omega) only [rI, rIe, rA, rIA, rLA, rJA, rVI, rQI, rVA, rQA, upd_at,  rAI, rLI, rJI, nI_add, pk_sub, kc_0, kc_1, kc_2, kc_3, kc_4, kc_5, reduceIte, Nat.reduceEqDiff, Nat.add_zero, rI_hold, rI_hold, rL_hold, hkd, hsz]; done)) (by omega) (by first | assumption | rfl | exact congrArg nI (by omega) | (simp (disch := omega) only [rI, rIe, rA, rIA, rLA, rJA, rVI, rQI, rVA, rQA, upd_at,  rAI, rLI, rJI, nI_add, pk_sub, kc_0, kc_1, kc_2, kc_3, kc_4, kc_5, reduceIte, Nat.reduceEqDiff, Nat.add_zero, rI_hold, rI_hold, rL_hold, hkd, hsz]; done)) hr (by omega) hs (by omega) hw (by omega) (by omega) (by omega)) ?_
  show Bod _ _ _ _ [_] _ _ _
  refine Bod.istn dc_213_6 (by rw [ml_213]; exact Nat.le_of_ble_eq_true rfl) ?_
  refine Bod.go dc_213_7 rfl ?_
  refine Bod.ifT dc_213_8 rfl (k1_ge_T (2 * e) rfl (by omega)) ?_
  refine Bod.go dc_213_12 rfl ?_
  refine Bod.get dc_213_13 fr_213_38 (mk_2 _) rfl ?_
  refine Bod.go dc_213_16 rfl ?_
  refine Bod.aaldR (N := 1501) (b := a) k rfl (by omega) (by omega) hr dc_213_17 (mk_11 _) ht_4 ?_
  refine Bod.go dc_213_18 rfl ?_
  refine Bod.laldN (N := N) (2 * e) rfl (by omega) (by omega) dc_213_19 (mk_row ha hs) ?_
  refine Bod.go dc_213_20 rfl ?_
  refine Bod.get dc_213_21 fr_213_38 (mk_2 _) rfl ?_
  refine Bod.go dc_213_24 rfl ?_
  refine Bod.aaldR (N := 1501) (b := a) k rfl (by omega) (by omega) hr dc_213_25 (mk_11 _) ht_4 ?_
  refine Bod.go dc_213_26 rfl ?_
  refine Bod.ic 1 (by decide) dc_213_27 ?_
  refine Bod.addN (2 * e + 1) (by omega) dc_213_28 ?_
  refine Bod.laldN (N := N) (2 * e + 1) rfl (by omega) (by omega) dc_213_29 (mk_row ha hs) ?_
  refine Bod.stat (r := []) dc_213_30 kr_213_91 (Or.inr rfl) (by rw [np_137]; rfl) (by rw [np_137]; rfl) (by rw [np_137]; exact Nat.le_of_ble_eq_true rfl) (Nat.le_of_ble_eq_true rfl) (objectOf_n (o := oo) hoo) ?_
  show Bod _ _ _ _ [_] _ _ _
  refine Bod.ist dc_213_33 (by rw [ml_213]; exact Nat.le_of_ble_eq_true rfl) ?_
  refine Bod.go dc_213_35 rfl ?_
  refine Bod.get dc_213_36 fr_213_11 (mk_2 _) rfl ?_
  refine Bod.go dc_213_39 rfl ?_
  refine Bod.ialdN k rfl (by omega) (by omega) dc_213_40 (mk_3 _) ?_
  refine Bod.eqI (nI kd) (by first | assumption | rfl | exact congrArg nI (by omega) | (simp (disch := omega) only [rI, rIe, rA, rIA, rLA, rJA, rVI, rQI, rVA, rQA, upd_at,  rAI, rLI, rJI, nI_add, pk_sub, kc_0, kc_1, kc_2, kc_3, kc_4, kc_5, reduceIte, Nat.reduceEqDiff, Nat.add_zero, rI_hold, rI_hold, rL_hold, hkd, hsz]; done)) ?_
  refine Bod.stat (r := []) dc_213_41 kr_213_87 (Or.inl rfl) (by rw [np_145]; rfl) (by rw [np_145]; rfl) (by rw [np_145]; exact Nat.le_of_ble_eq_true rfl) (Nat.le_of_ble_eq_true rfl) (widthOf_ev (kd := kd) (w := 2) (by omega) hw) ?_
  show Bod _ _ _ _ [_] _ _ _
  refine Bod.ist dc_213_44 (by rw [ml_213]; exact Nat.le_of_ble_eq_true rfl) ?_
  refine Bod.go dc_213_46 rfl ?_
  refine Bod.ic 1 (by decide) dc_213_47 ?_
  refine Bod.addN (e + 1) (by omega) dc_213_48 ?_
  refine Bod.go dc_213_49 rfl ?_
  refine Bod.mulN (2 * e + 2) (by omega) dc_213_51 ?_
  refine Bod.ist dc_213_52 (by rw [ml_213]; exact Nat.le_of_ble_eq_true rfl) ?_
  refine Bod.go dc_213_54 rfl ?_
  refine Bod.get dc_213_55 fr_213_33 (mk_2 _) rfl ?_
  refine Bod.go dc_213_58 rfl ?_
  refine Bod.ialdN k rfl (by omega) (by omega) dc_213_59 (mk_10 _) ?_
  refine Bod.eqI (nI z) (by first | assumption | rfl | exact congrArg nI (by omega) | (simp (disch := omega) only [rI, rIe, rA, rIA, rLA, rJA, rVI, rQI, rVA, rQA, upd_at,  rAI, rLI, rJI, nI_add, pk_sub, kc_0, kc_1, kc_2, kc_3, kc_4, kc_5, reduceIte, Nat.reduceEqDiff, Nat.add_zero, rI_hold, rI_hold, rL_hold, hkd, hsz]; done)) ?_
  refine Bod.go dc_213_60 rfl ?_
  refine Bod.mulN (2 * z) (by omega) dc_213_62 ?_
  refine Bod.go dc_213_63 rfl ?_
  refine Bod.subN (2 * z - 2 - (2 * e)) (by omega) (by omega) dc_213_65 ?_
  refine Bod.ist dc_213_66 (by rw [ml_213]; exact Nat.le_of_ble_eq_true rfl) ?_
  refine Bod.go dc_213_68 rfl ?_
  refine Bod.ifF dc_213_70 rfl (k1_le_F (2 * z - 2 - (2 * e)) rfl (by omega) (by omega)) ?_
  refine Bod.go dc_213_73 rfl ?_
  refine Bod.go dc_213_75 rfl ?_
  refine Bod.icF dc_213_77 rfl (k2_lt_F (2 * e + 2) 2 rfl rfl (by omega) (by omega)) ?_
  refine Bod.go dc_213_80 rfl ?_
  refine Bod.go dc_213_82 rfl ?_
  refine Bod.addN (2 * z) (by omega) dc_213_84 ?_
  refine Bod.go dc_213_85 rfl ?_
  refine Bod.get dc_213_86 fr_213_38 (mk_2 _) rfl ?_
  refine Bod.go dc_213_89 rfl ?_
  refine Bod.aaldR (N := 1501) (b := a) k rfl (by omega) (by omega) hr dc_213_90 (mk_11 _) ht_4 ?_
  refine Bod.alenN (N := N) dc_213_91 (mk_row ha hs) el_1 ?_
  refine Bod.icF dc_213_92 rfl (k2_gt_F (2 * z) N rfl rfl (by omega) (by omega)) ?_
  refine Bod.go dc_213_95 rfl ?_
  refine Bod.get dc_213_96 fr_213_38 (mk_2 _) rfl ?_
  refine Bod.go dc_213_99 rfl ?_
  refine Bod.aaldR (N := 1501) (b := a) k rfl (by omega) (by omega) hr dc_213_100 (mk_11 _) ht_4 ?_
  refine Bod.go dc_213_101 rfl ?_
  refine Bod.go dc_213_103 rfl ?_
  refine Bod.get dc_213_104 fr_213_38 (mk_2 _) rfl ?_
  refine Bod.go dc_213_107 rfl ?_
  refine Bod.aaldR (N := 1501) (b := a) k rfl (by omega) (by omega) hr dc_213_108 (mk_11 _) ht_4 ?_
  refine Bod.go dc_213_109 rfl ?_
  refine Bod.go dc_213_111 rfl ?_
  refine Bod.subN (2 * e) (by omega) (by omega) dc_213_113 ?_
  refine Bod.go dc_213_114 rfl ?_
  refine Bod.cpyL (sp := (2 * e + 2)) (dp := (2 * e)) (m := (2 * z - 2 - (2 * e))) (r := []) dc_213_116 kr_213_139 (mk_row ha hs) (mk_row ha hs) (by omega) (by omega) (by omega) (by omega) (Nat.le_of_ble_eq_true rfl) (sg_row ha hs) rfl ?_
  refine Bod.go dc_213_119 rfl ?_
  refine Bod.get dc_213_120 fr_213_33 (mk_2 _) rfl ?_
  refine Bod.go dc_213_123 rfl ?_
  refine Bod.go dc_213_124 rfl ?_
  refine Bod.ialdN k rfl (by omega) (by omega) dc_213_125 (mk_10 _) ?_
  refine Bod.eqI (nI z) (by first | (simp (disch := omega) only [rI, rIe, rA, rIA, rLA, rJA, rVI, rQI, rVA, rQA, upd_at,  rAI, rLI, rJI, nI_add, pk_sub, kc_0, kc_1, kc_2, kc_3, kc_4, kc_5, reduceIte, Nat.reduceEqDiff, Nat.add_zero, rI_hold, rI_hold, rL_hold, hkd, hsz, rAG]; done) | (simp (disch := omega) only [rI, rIe, rA, rIA, rLA, rJA, rVI, rQI, rVA, rQA, upd_at,  rAI, rLI, rJI, nI_add, pk_sub, kc_0, kc_1, kc_2, kc_3, kc_4, kc_5, reduceIte, Nat.reduceEqDiff, Nat.add_zero, rI_hold, rI_hold, rL_hold, hkd, hsz, rAG]; exact congrArg nI (by omega))) ?_
  refine Bod.ic 1 (by decide) dc_213_126 ?_
  refine Bod.subN (z - 1) (by omega) (by omega) dc_213_127 ?_
  refine Bod.iastN k rfl (by omega) (by omega) dc_213_128 (mk_10 _) (sa_10 _ _ _) (mu_A _ _ _ _) ?_
  refine Bod.go dc_213_129 rfl ?_
  refine Bod.go dc_213_130 rfl ?_
  refine Bod.get dc_213_131 fr_213_15 (mk_2 _) rfl ?_
  refine Bod.go dc_213_134 rfl ?_
  refine Bod.virt (r := []) dc_213_136 kr_213_99 ⟨Or.inl rfl, ow_142, cl_2⟩ (by rw [np_142]; rfl) (by rw [np_142]; rfl) (ob_of (mk_2 _)) (Nat.le_of_ble_eq_true rfl) (hRel2  ) ?_
  show Bod _ _ _ _ [] _ _ _
  exact Bod.retV dc_213_139 rt_213
theorem set_4 {d : Nat} {S : cS} {k : Nat} {kd : Nat} {z : Nat} {a : Nat} {N : Nat} {e : Nat} {hi : Int64} {lo : Int64} {o : Nat} {oo : Nat} {W : cS} (h0 : 1 ≤ k) (hk : k ≤ 1500) (hkd : sA S 3 k = nI kd) (h7 : kd ≤ 7) (hsz : sA S 10 k = nI z) (hr : sQ S 11 k = some a) (ha : 108 ≤ a) (hs : (sS S)[a - 108]? = some (1, N)) (hN : N < 2 ^ 31) (hw : c_width kd = 4) (he : e < z) (hz : z < 2 ^ 20) (hl : 4 * e + 4 ≤ N) (ho : c_obj hi lo = nI o) (ho2 : o ≤ 1500) (hoo : c_obj (sL S a (4 * e + 2)) (sL S a (4 * e + 3)) = nI oo) (hRel : Ans (d + 5) 142 [.ref 2, .ref 4, .int (nI oo)] (wL a (4 * e + 3) lo (wL a (4 * e + 2) hi (c_hold 4 o S))) none W) : Ans (d + 6) 174 [.ref 2, .int (nI k), .int (nI e), .long hi, .long lo] S (none) (W) := by
  refine Ans.of (by rw [ml_174]; exact Nat.le_of_ble_eq_true rfl) ?_
  refine Bod.go dc_174_0 rfl ?_
  refine Bod.go dc_174_1 rfl ?_
  refine Bod.go dc_174_2 rfl ?_
  refine Bod.virt (r := []) dc_174_3 kr_174_95 ⟨Or.inl rfl, ow_157, cl_2⟩ (by rw [np_157]; rfl) (by rw [np_157]; rfl) (ob_of (mk_2 _)) (Nat.le_of_ble_eq_true rfl) (placeOf_4 (k := k) (kd := kd) (z := z) (a := a) (N := N) (e := e) (by omega) (by omega) (by first | assumption | rfl | exact congrArg nI (by omega) | (simp (disch := omega) only [rI, rIe, rA, rIA, rLA, rJA, rVI, rQI, rVA, rQA, upd_at,  rAI, rLI, rJI, nI_add, pk_sub, kc_0, kc_1, kc_2, kc_3, kc_4, kc_5, reduceIte, Nat.reduceEqDiff, Nat.add_zero, rI_hold, rI_hold, rL_hold, hkd, hsz]; done)) (by omega) (by first | assumption | rfl | exact congrArg nI (by omega) | (simp (disch := omega) only [rI, rIe, rA, rIA, rLA, rJA, rVI, rQI, rVA, rQA, upd_at,  rAI, rLI, rJI, nI_add, pk_sub, kc_0, kc_1, kc_2, kc_3, kc_4, kc_5, reduceIte, Nat.reduceEqDiff, Nat.add_zero, rI_hold, rI_hold, rL_hold, hkd, hsz]; done)) hr (by omega) hs (by omega) hw (by omega) (by omega) (by omega)) ?_
  show Bod _ _ _ _ [_] _ _ _
  refine Bod.ist dc_174_6 (by rw [ml_174]; exact Nat.le_of_ble_eq_true rfl) ?_
  refine Bod.go dc_174_8 rfl ?_
  refine Bod.ifT dc_174_10 rfl (k1_ge_T (4 * e + 2) rfl (by omega)) ?_
  refine Bod.go dc_174_14 rfl ?_
  refine Bod.get dc_174_15 fr_174_38 (mk_2 _) rfl ?_
  refine Bod.go dc_174_18 rfl ?_
  refine Bod.aaldR (N := 1501) (b := a) k rfl (by omega) (by omega) hr dc_174_19 (mk_11 _) ht_4 ?_
  refine Bod.go dc_174_20 rfl ?_
  refine Bod.laldN (N := N) (4 * e + 2) rfl (by omega) (by omega) dc_174_22 (mk_row ha hs) ?_
  refine Bod.go dc_174_23 rfl ?_
  refine Bod.get dc_174_24 fr_174_38 (mk_2 _) rfl ?_
  refine Bod.go dc_174_27 rfl ?_
  refine Bod.aaldR (N := 1501) (b := a) k rfl (by omega) (by omega) hr dc_174_28 (mk_11 _) ht_4 ?_
  refine Bod.go dc_174_29 rfl ?_
  refine Bod.ic 1 (by decide) dc_174_31 ?_
  refine Bod.addN (4 * e + 3) (by omega) dc_174_32 ?_
  refine Bod.laldN (N := N) (4 * e + 3) rfl (by omega) (by omega) dc_174_33 (mk_row ha hs) ?_
  refine Bod.stat (r := []) dc_174_34 kr_174_91 (Or.inr rfl) (by rw [np_137]; rfl) (by rw [np_137]; rfl) (by rw [np_137]; exact Nat.le_of_ble_eq_true rfl) (Nat.le_of_ble_eq_true rfl) (objectOf_n (o := oo) hoo) ?_
  show Bod _ _ _ _ [_] _ _ _
  refine Bod.ist dc_174_37 (by rw [ml_174]; exact Nat.le_of_ble_eq_true rfl) ?_
  refine Bod.go dc_174_39 rfl ?_
  refine Bod.go dc_174_40 rfl ?_
  refine Bod.get dc_174_41 fr_174_15 (mk_2 _) rfl ?_
  refine Bod.go dc_174_44 rfl ?_
  refine Bod.go dc_174_45 rfl ?_
  refine Bod.stat (r := [_, _]) dc_174_47 kr_174_91 (Or.inr rfl) (by rw [np_137]; rfl) (by rw [np_137]; rfl) (by rw [np_137]; exact Nat.le_of_ble_eq_true rfl) (Nat.le_of_ble_eq_true rfl) (objectOf_n (o := o) ho) ?_
  show Bod _ _ _ _ [_, _, _] _ _ _
  refine Bod.virt (r := []) dc_174_50 kr_174_69 ⟨Or.inl rfl, ow_149, cl_2⟩ (by rw [np_149]; rfl) (by rw [np_149]; rfl) (ob_of (mk_2 _)) (Nat.le_of_ble_eq_true rfl) (hold_ev (a := 4) (k := o) (Or.inl rfl) (by omega)) ?_
  show Bod _ _ _ _ [] _ _ _
  refine Bod.go dc_174_53 rfl ?_
  refine Bod.get dc_174_54 fr_174_38 (mk_2 _) rfl ?_
  refine Bod.go dc_174_57 rfl ?_
  refine Bod.aaldR (N := 1501) (b := a) k rfl (by omega) (by omega) (by first | exact hr | (simp only [rIQ, rJQ, rAQ, rLQ, rVQ, rQ_holdE]; exact hr)) dc_174_58 (mk_11 _) ht_4 ?_
  refine Bod.go dc_174_59 rfl ?_
  refine Bod.go dc_174_61 rfl ?_
  refine Bod.lastN (N := N) (4 * e + 2) rfl (by omega) (by omega) dc_174_62 (mk_row ha (by simp only [rIS, rJS, rAS, rLS, rVS, rQS, rS_hold]; exact hs)) (sa_row ha (by simp only [rIS, rJS, rAS, rLS, rVS, rQS, rS_hold]; exact hs)) (mu_L _ _ _ _) ?_
  refine Bod.go dc_174_63 rfl ?_
  refine Bod.get dc_174_64 fr_174_38 (mk_2 _) rfl ?_
  refine Bod.go dc_174_67 rfl ?_
  refine Bod.aaldR (N := 1501) (b := a) k rfl (by omega) (by omega) (by first | exact hr | (simp only [rIQ, rJQ, rAQ, rLQ, rVQ, rQ_holdE]; exact hr)) dc_174_68 (mk_11 _) ht_4 ?_
  refine Bod.go dc_174_69 rfl ?_
  refine Bod.ic 1 (by decide) dc_174_71 ?_
  refine Bod.addN (4 * e + 3) (by omega) dc_174_72 ?_
  refine Bod.go dc_174_73 rfl ?_
  refine Bod.lastN (N := N) (4 * e + 3) rfl (by omega) (by omega) dc_174_75 (mk_row ha (by simp only [rIS, rJS, rAS, rLS, rVS, rQS, rS_hold]; exact hs)) (sa_row ha (by simp only [rIS, rJS, rAS, rLS, rVS, rQS, rS_hold]; exact hs)) (mu_L _ _ _ _) ?_
  refine Bod.go dc_174_76 rfl ?_
  refine Bod.go dc_174_77 rfl ?_
  refine Bod.get dc_174_78 fr_174_15 (mk_2 _) rfl ?_
  refine Bod.go dc_174_81 rfl ?_
  refine Bod.virt (r := []) dc_174_83 kr_174_99 ⟨Or.inl rfl, ow_142, cl_2⟩ (by rw [np_142]; rfl) (by rw [np_142]; rfl) (ob_of (mk_2 _)) (Nat.le_of_ble_eq_true rfl) (hRel  ) ?_
  show Bod _ _ _ _ [] _ _ _
  exact Bod.retV dc_174_86 rt_174
theorem delL_4 {d : Nat} {S : cS} {k : Nat} {kd : Nat} {z : Nat} {a : Nat} {N : Nat} {e : Nat} {oo : Nat} {W : cS} (h0 : 1 ≤ k) (hk : k ≤ 1500) (hkd : sA S 3 k = nI kd) (h7 : kd ≤ 7) (hsz : sA S 10 k = nI z) (hr : sQ S 11 k = some a) (ha : 108 ≤ a) (hs : (sS S)[a - 108]? = some (1, N)) (hN : N < 2 ^ 31) (hw : c_width kd = 4) (he : e < z) (hz : z < 2 ^ 20) (hl : 4 * e + 4 ≤ N) (hlast : e + 1 = z) (hoo : c_obj (sL S a (4 * e + 2)) (sL S a (4 * e + 3)) = nI oo) (hRel : Ans (d + 5) 142 [.ref 2, .ref 4, .int (nI oo)] (wA 10 k (nI (z - 1)) S) none W) : Ans (d + 6) 213 [.ref 2, .int (nI k), .int (nI e)] S (none) (W) := by
  refine Ans.of (by rw [ml_213]; exact Nat.le_of_ble_eq_true rfl) ?_
  refine Bod.go dc_213_0 rfl ?_
  refine Bod.go dc_213_1 rfl ?_
  refine Bod.go dc_213_2 rfl ?_
  refine Bod.virt (r := []) dc_213_3 kr_213_95 ⟨Or.inl rfl, ow_157, cl_2⟩ (by rw [np_157]; rfl) (by rw [np_157]; rfl) (ob_of (mk_2 _)) (Nat.le_of_ble_eq_true rfl) (placeOf_4 (k := k) (kd := kd) (z := z) (a := a) (N := N) (e := e) (by omega) (by omega) (by first | assumption | rfl | exact congrArg nI (by omega) | (simp (disch := omega) only [rI, rIe, rA, rIA, rLA, rJA, rVI, rQI, rVA, rQA, upd_at,  rAI, rLI, rJI, nI_add, pk_sub, kc_0, kc_1, kc_2, kc_3, kc_4, kc_5, reduceIte, Nat.reduceEqDiff, Nat.add_zero, rI_hold, rI_hold, rL_hold, hkd, hsz]; done)) (by omega) (by first | assumption | rfl | exact congrArg nI (by omega) | (simp (disch := omega) only [rI, rIe, rA, rIA, rLA, rJA, rVI, rQI, rVA, rQA, upd_at,  rAI, rLI, rJI, nI_add, pk_sub, kc_0, kc_1, kc_2, kc_3, kc_4, kc_5, reduceIte, Nat.reduceEqDiff, Nat.add_zero, rI_hold, rI_hold, rL_hold, hkd, hsz]; done)) hr (by omega) hs (by omega) hw (by omega) (by omega) (by omega)) ?_
  show Bod _ _ _ _ [_] _ _ _
  refine Bod.istn dc_213_6 (by rw [ml_213]; exact Nat.le_of_ble_eq_true rfl) ?_
  refine Bod.go dc_213_7 rfl ?_
  refine Bod.ifT dc_213_8 rfl (k1_ge_T (4 * e + 2) rfl (by omega)) ?_
  refine Bod.go dc_213_12 rfl ?_
  refine Bod.get dc_213_13 fr_213_38 (mk_2 _) rfl ?_
  refine Bod.go dc_213_16 rfl ?_
  refine Bod.aaldR (N := 1501) (b := a) k rfl (by omega) (by omega) hr dc_213_17 (mk_11 _) ht_4 ?_
  refine Bod.go dc_213_18 rfl ?_
  refine Bod.laldN (N := N) (4 * e + 2) rfl (by omega) (by omega) dc_213_19 (mk_row ha hs) ?_
  refine Bod.go dc_213_20 rfl ?_
  refine Bod.get dc_213_21 fr_213_38 (mk_2 _) rfl ?_
  refine Bod.go dc_213_24 rfl ?_
  refine Bod.aaldR (N := 1501) (b := a) k rfl (by omega) (by omega) hr dc_213_25 (mk_11 _) ht_4 ?_
  refine Bod.go dc_213_26 rfl ?_
  refine Bod.ic 1 (by decide) dc_213_27 ?_
  refine Bod.addN (4 * e + 3) (by omega) dc_213_28 ?_
  refine Bod.laldN (N := N) (4 * e + 3) rfl (by omega) (by omega) dc_213_29 (mk_row ha hs) ?_
  refine Bod.stat (r := []) dc_213_30 kr_213_91 (Or.inr rfl) (by rw [np_137]; rfl) (by rw [np_137]; rfl) (by rw [np_137]; exact Nat.le_of_ble_eq_true rfl) (Nat.le_of_ble_eq_true rfl) (objectOf_n (o := oo) hoo) ?_
  show Bod _ _ _ _ [_] _ _ _
  refine Bod.ist dc_213_33 (by rw [ml_213]; exact Nat.le_of_ble_eq_true rfl) ?_
  refine Bod.go dc_213_35 rfl ?_
  refine Bod.get dc_213_36 fr_213_11 (mk_2 _) rfl ?_
  refine Bod.go dc_213_39 rfl ?_
  refine Bod.ialdN k rfl (by omega) (by omega) dc_213_40 (mk_3 _) ?_
  refine Bod.eqI (nI kd) (by first | assumption | rfl | exact congrArg nI (by omega) | (simp (disch := omega) only [rI, rIe, rA, rIA, rLA, rJA, rVI, rQI, rVA, rQA, upd_at,  rAI, rLI, rJI, nI_add, pk_sub, kc_0, kc_1, kc_2, kc_3, kc_4, kc_5, reduceIte, Nat.reduceEqDiff, Nat.add_zero, rI_hold, rI_hold, rL_hold, hkd, hsz]; done)) ?_
  refine Bod.stat (r := []) dc_213_41 kr_213_87 (Or.inl rfl) (by rw [np_145]; rfl) (by rw [np_145]; rfl) (by rw [np_145]; exact Nat.le_of_ble_eq_true rfl) (Nat.le_of_ble_eq_true rfl) (widthOf_ev (kd := kd) (w := 4) (by omega) hw) ?_
  show Bod _ _ _ _ [_] _ _ _
  refine Bod.ist dc_213_44 (by rw [ml_213]; exact Nat.le_of_ble_eq_true rfl) ?_
  refine Bod.go dc_213_46 rfl ?_
  refine Bod.ic 1 (by decide) dc_213_47 ?_
  refine Bod.addN (e + 1) (by omega) dc_213_48 ?_
  refine Bod.go dc_213_49 rfl ?_
  refine Bod.mulN (4 * e + 4) (by omega) dc_213_51 ?_
  refine Bod.ist dc_213_52 (by rw [ml_213]; exact Nat.le_of_ble_eq_true rfl) ?_
  refine Bod.go dc_213_54 rfl ?_
  refine Bod.get dc_213_55 fr_213_33 (mk_2 _) rfl ?_
  refine Bod.go dc_213_58 rfl ?_
  refine Bod.ialdN k rfl (by omega) (by omega) dc_213_59 (mk_10 _) ?_
  refine Bod.eqI (nI z) (by first | assumption | rfl | exact congrArg nI (by omega) | (simp (disch := omega) only [rI, rIe, rA, rIA, rLA, rJA, rVI, rQI, rVA, rQA, upd_at,  rAI, rLI, rJI, nI_add, pk_sub, kc_0, kc_1, kc_2, kc_3, kc_4, kc_5, reduceIte, Nat.reduceEqDiff, Nat.add_zero, rI_hold, rI_hold, rL_hold, hkd, hsz]; done)) ?_
  refine Bod.go dc_213_60 rfl ?_
  refine Bod.mulN (4 * z) (by omega) dc_213_62 ?_
  refine Bod.go dc_213_63 rfl ?_
  refine Bod.subN (4 * z - 4 - (4 * e)) (by omega) (by omega) dc_213_65 ?_
  refine Bod.ist dc_213_66 (by rw [ml_213]; exact Nat.le_of_ble_eq_true rfl) ?_
  refine Bod.go dc_213_68 rfl ?_
  refine Bod.ifT dc_213_70 rfl (k1_le_T (k_eq (4 * z - 4 - (4 * e)) 0 (by first | assumption | rfl | exact congrArg nI (by omega) | (simp (disch := omega) only [rI, rIe, rA, rIA, rLA, rJA, rVI, rQI, rVA, rQA, upd_at,  rAI, rLI, rJI, nI_add, pk_sub, kc_0, kc_1, kc_2, kc_3, kc_4, kc_5, reduceIte, Nat.reduceEqDiff, Nat.add_zero, rI_hold, rI_hold, rL_hold, hkd, hsz]; done)) rfl (by omega))) ?_
  refine Bod.go dc_213_119 rfl ?_
  refine Bod.get dc_213_120 fr_213_33 (mk_2 _) rfl ?_
  refine Bod.go dc_213_123 rfl ?_
  refine Bod.go dc_213_124 rfl ?_
  refine Bod.ialdN k rfl (by omega) (by omega) dc_213_125 (mk_10 _) ?_
  refine Bod.eqI (nI z) (by first | assumption | rfl | exact congrArg nI (by omega) | (simp (disch := omega) only [rI, rIe, rA, rIA, rLA, rJA, rVI, rQI, rVA, rQA, upd_at,  rAI, rLI, rJI, nI_add, pk_sub, kc_0, kc_1, kc_2, kc_3, kc_4, kc_5, reduceIte, Nat.reduceEqDiff, Nat.add_zero, rI_hold, rI_hold, rL_hold, hkd, hsz]; done)) ?_
  refine Bod.ic 1 (by decide) dc_213_126 ?_
  refine Bod.subN (z - 1) (by omega) (by omega) dc_213_127 ?_
  refine Bod.iastN k rfl (by omega) (by omega) dc_213_128 (mk_10 _) (sa_10 _ _ _) (mu_A _ _ _ _) ?_
  refine Bod.go dc_213_129 rfl ?_
  refine Bod.go dc_213_130 rfl ?_
  refine Bod.get dc_213_131 fr_213_15 (mk_2 _) rfl ?_
  refine Bod.go dc_213_134 rfl ?_
  refine Bod.virt (r := []) dc_213_136 kr_213_99 ⟨Or.inl rfl, ow_142, cl_2⟩ (by rw [np_142]; rfl) (by rw [np_142]; rfl) (ob_of (mk_2 _)) (Nat.le_of_ble_eq_true rfl) (hRel  ) ?_
  show Bod _ _ _ _ [] _ _ _
  exact Bod.retV dc_213_139 rt_213
theorem delM_4 {d : Nat} {S : cS} {k kd z a N e oo : Nat} {W : cS} (h0 : 1 ≤ k) (hk : k ≤ 1500) (hkd : sA S 3 k = nI kd) (h7 : kd ≤ 7) (hsz : sA S 10 k = nI z) (hr : sQ S 11 k = some a) (ha : 108 ≤ a) (hs : (sS S)[a - 108]? = some (1, N)) (hN : N < 2 ^ 31) (hw : c_width kd = 4) (he : e < z) (hz : z < 2 ^ 20) (hl : 4 * e + 4 ≤ N) (hlast : e + 1 < z) (hlz : 4 * z ≤ N) (hoo : c_obj (sL S a (4 * e + 2)) (sL S a (4 * e + 3)) = nI oo) (hRel2 : Ans (d + 5) 142 [.ref 2, .ref 4, .int (nI oo)] (wA 10 k (nI (z - 1)) (wG a (va_cpy (sL S a) (sL S a) (4 * e + 4) (4 * e) (4 * z - 4 - (4 * e))) S)) none W) : Ans (d + 6) 213 [.ref 2, .int (nI k), .int (nI e)] S none W := by
  refine Ans.of (by rw [ml_213]; exact Nat.le_of_ble_eq_true rfl) ?_
  refine Bod.go dc_213_0 rfl ?_
  refine Bod.go dc_213_1 rfl ?_
  refine Bod.go dc_213_2 rfl ?_
  refine Bod.virt (r := []) dc_213_3 kr_213_95 ⟨Or.inl rfl, ow_157, cl_2⟩ (by rw [np_157]; rfl) (by rw [np_157]; rfl) (ob_of (mk_2 _)) (Nat.le_of_ble_eq_true rfl) (placeOf_4 (k := k) (kd := kd) (z := z) (a := a) (N := N) (e := e) (by omega) (by omega) (by first | assumption | rfl | exact congrArg nI (by omega) | (simp (disch := omega) only [rI, rIe, rA, rIA, rLA, rJA, rVI, rQI, rVA, rQA, upd_at,  rAI, rLI, rJI, nI_add, pk_sub, kc_0, kc_1, kc_2, kc_3, kc_4, kc_5, reduceIte, Nat.reduceEqDiff, Nat.add_zero, rI_hold, rI_hold, rL_hold, hkd, hsz]; done)) (by omega) (by first | assumption | rfl | exact congrArg nI (by omega) | (simp (disch := omega) only [rI, rIe, rA, rIA, rLA, rJA, rVI, rQI, rVA, rQA, upd_at,  rAI, rLI, rJI, nI_add, pk_sub, kc_0, kc_1, kc_2, kc_3, kc_4, kc_5, reduceIte, Nat.reduceEqDiff, Nat.add_zero, rI_hold, rI_hold, rL_hold, hkd, hsz]; done)) hr (by omega) hs (by omega) hw (by omega) (by omega) (by omega)) ?_
  show Bod _ _ _ _ [_] _ _ _
  refine Bod.istn dc_213_6 (by rw [ml_213]; exact Nat.le_of_ble_eq_true rfl) ?_
  refine Bod.go dc_213_7 rfl ?_
  refine Bod.ifT dc_213_8 rfl (k1_ge_T (4 * e + 2) rfl (by omega)) ?_
  refine Bod.go dc_213_12 rfl ?_
  refine Bod.get dc_213_13 fr_213_38 (mk_2 _) rfl ?_
  refine Bod.go dc_213_16 rfl ?_
  refine Bod.aaldR (N := 1501) (b := a) k rfl (by omega) (by omega) hr dc_213_17 (mk_11 _) ht_4 ?_
  refine Bod.go dc_213_18 rfl ?_
  refine Bod.laldN (N := N) (4 * e + 2) rfl (by omega) (by omega) dc_213_19 (mk_row ha hs) ?_
  refine Bod.go dc_213_20 rfl ?_
  refine Bod.get dc_213_21 fr_213_38 (mk_2 _) rfl ?_
  refine Bod.go dc_213_24 rfl ?_
  refine Bod.aaldR (N := 1501) (b := a) k rfl (by omega) (by omega) hr dc_213_25 (mk_11 _) ht_4 ?_
  refine Bod.go dc_213_26 rfl ?_
  refine Bod.ic 1 (by decide) dc_213_27 ?_
  refine Bod.addN (4 * e + 3) (by omega) dc_213_28 ?_
  refine Bod.laldN (N := N) (4 * e + 3) rfl (by omega) (by omega) dc_213_29 (mk_row ha hs) ?_
  refine Bod.stat (r := []) dc_213_30 kr_213_91 (Or.inr rfl) (by rw [np_137]; rfl) (by rw [np_137]; rfl) (by rw [np_137]; exact Nat.le_of_ble_eq_true rfl) (Nat.le_of_ble_eq_true rfl) (objectOf_n (o := oo) hoo) ?_
  show Bod _ _ _ _ [_] _ _ _
  refine Bod.ist dc_213_33 (by rw [ml_213]; exact Nat.le_of_ble_eq_true rfl) ?_
  refine Bod.go dc_213_35 rfl ?_
  refine Bod.get dc_213_36 fr_213_11 (mk_2 _) rfl ?_
  refine Bod.go dc_213_39 rfl ?_
  refine Bod.ialdN k rfl (by omega) (by omega) dc_213_40 (mk_3 _) ?_
  refine Bod.eqI (nI kd) (by first | assumption | rfl | exact congrArg nI (by omega) | (simp (disch := omega) only [rI, rIe, rA, rIA, rLA, rJA, rVI, rQI, rVA, rQA, upd_at,  rAI, rLI, rJI, nI_add, pk_sub, kc_0, kc_1, kc_2, kc_3, kc_4, kc_5, reduceIte, Nat.reduceEqDiff, Nat.add_zero, rI_hold, rI_hold, rL_hold, hkd, hsz]; done)) ?_
  refine Bod.stat (r := []) dc_213_41 kr_213_87 (Or.inl rfl) (by rw [np_145]; rfl) (by rw [np_145]; rfl) (by rw [np_145]; exact Nat.le_of_ble_eq_true rfl) (Nat.le_of_ble_eq_true rfl) (widthOf_ev (kd := kd) (w := 4) (by omega) hw) ?_
  show Bod _ _ _ _ [_] _ _ _
  refine Bod.ist dc_213_44 (by rw [ml_213]; exact Nat.le_of_ble_eq_true rfl) ?_
  refine Bod.go dc_213_46 rfl ?_
  refine Bod.ic 1 (by decide) dc_213_47 ?_
  refine Bod.addN (e + 1) (by omega) dc_213_48 ?_
  refine Bod.go dc_213_49 rfl ?_
  refine Bod.mulN (4 * e + 4) (by omega) dc_213_51 ?_
  refine Bod.ist dc_213_52 (by rw [ml_213]; exact Nat.le_of_ble_eq_true rfl) ?_
  refine Bod.go dc_213_54 rfl ?_
  refine Bod.get dc_213_55 fr_213_33 (mk_2 _) rfl ?_
  refine Bod.go dc_213_58 rfl ?_
  refine Bod.ialdN k rfl (by omega) (by omega) dc_213_59 (mk_10 _) ?_
  refine Bod.eqI (nI z) (by first | assumption | rfl | exact congrArg nI (by omega) | (simp (disch := omega) only [rI, rIe, rA, rIA, rLA, rJA, rVI, rQI, rVA, rQA, upd_at,  rAI, rLI, rJI, nI_add, pk_sub, kc_0, kc_1, kc_2, kc_3, kc_4, kc_5, reduceIte, Nat.reduceEqDiff, Nat.add_zero, rI_hold, rI_hold, rL_hold, hkd, hsz]; done)) ?_
  refine Bod.go dc_213_60 rfl ?_
  refine Bod.mulN (4 * z) (by omega) dc_213_62 ?_
  refine Bod.go dc_213_63 rfl ?_
  refine Bod.subN (4 * z - 4 - (4 * e)) (by omega) (by omega) dc_213_65 ?_
  refine Bod.ist dc_213_66 (by rw [ml_213]; exact Nat.le_of_ble_eq_true rfl) ?_
  refine Bod.go dc_213_68 rfl ?_
  refine Bod.ifF dc_213_70 rfl (k1_le_F (4 * z - 4 - (4 * e)) rfl (by omega) (by omega)) ?_
  refine Bod.go dc_213_73 rfl ?_
  refine Bod.go dc_213_75 rfl ?_
  refine Bod.icF dc_213_77 rfl (k2_lt_F (4 * e + 4) 4 rfl rfl (by omega) (by omega)) ?_
  refine Bod.go dc_213_80 rfl ?_
  refine Bod.go dc_213_82 rfl ?_
  refine Bod.addN (4 * z) (by omega) dc_213_84 ?_
  refine Bod.go dc_213_85 rfl ?_
  refine Bod.get dc_213_86 fr_213_38 (mk_2 _) rfl ?_
  refine Bod.go dc_213_89 rfl ?_
  refine Bod.aaldR (N := 1501) (b := a) k rfl (by omega) (by omega) hr dc_213_90 (mk_11 _) ht_4 ?_
  refine Bod.alenN (N := N) dc_213_91 (mk_row ha hs) el_1 ?_
  refine Bod.icF dc_213_92 rfl (k2_gt_F (4 * z) N rfl rfl (by omega) (by omega)) ?_
  refine Bod.go dc_213_95 rfl ?_
  refine Bod.get dc_213_96 fr_213_38 (mk_2 _) rfl ?_
  refine Bod.go dc_213_99 rfl ?_
  refine Bod.aaldR (N := 1501) (b := a) k rfl (by omega) (by omega) hr dc_213_100 (mk_11 _) ht_4 ?_
  refine Bod.go dc_213_101 rfl ?_
  refine Bod.go dc_213_103 rfl ?_
  refine Bod.get dc_213_104 fr_213_38 (mk_2 _) rfl ?_
  refine Bod.go dc_213_107 rfl ?_
  refine Bod.aaldR (N := 1501) (b := a) k rfl (by omega) (by omega) hr dc_213_108 (mk_11 _) ht_4 ?_
  refine Bod.go dc_213_109 rfl ?_
  refine Bod.go dc_213_111 rfl ?_
  refine Bod.subN (4 * e) (by omega) (by omega) dc_213_113 ?_
  refine Bod.go dc_213_114 rfl ?_
  refine Bod.cpyL (sp := (4 * e + 4)) (dp := (4 * e)) (m := (4 * z - 4 - (4 * e))) (r := []) dc_213_116 kr_213_139 (mk_row ha hs) (mk_row ha hs) (by omega) (by omega) (by omega) (by omega) (Nat.le_of_ble_eq_true rfl) (sg_row ha hs) rfl ?_
  refine Bod.go dc_213_119 rfl ?_
  refine Bod.get dc_213_120 fr_213_33 (mk_2 _) rfl ?_
  refine Bod.go dc_213_123 rfl ?_
  refine Bod.go dc_213_124 rfl ?_
  refine Bod.ialdN k rfl (by omega) (by omega) dc_213_125 (mk_10 _) ?_
  refine Bod.eqI (nI z) (by first | (simp (disch := omega) only [rI, rIe, rA, rIA, rLA, rJA, rVI, rQI, rVA, rQA, upd_at,  rAI, rLI, rJI, nI_add, pk_sub, kc_0, kc_1, kc_2, kc_3, kc_4, kc_5, reduceIte, Nat.reduceEqDiff, Nat.add_zero, rI_hold, rI_hold, rL_hold, hkd, hsz, rAG]; done) | (simp (disch := omega) only [rI, rIe, rA, rIA, rLA, rJA, rVI, rQI, rVA, rQA, upd_at,  rAI, rLI, rJI, nI_add, pk_sub, kc_0, kc_1, kc_2, kc_3, kc_4, kc_5, reduceIte, Nat.reduceEqDiff, Nat.add_zero, rI_hold, rI_hold, rL_hold, hkd, hsz, rAG]; exact congrArg nI (by omega))) ?_
  refine Bod.ic 1 (by decide) dc_213_126 ?_
  refine Bod.subN (z - 1) (by omega) (by omega) dc_213_127 ?_
  refine Bod.iastN k rfl (by omega) (by omega) dc_213_128 (mk_10 _) (sa_10 _ _ _) (mu_A _ _ _ _) ?_
  refine Bod.go dc_213_129 rfl ?_
  refine Bod.go dc_213_130 rfl ?_
  refine Bod.get dc_213_131 fr_213_15 (mk_2 _) rfl ?_
  refine Bod.go dc_213_134 rfl ?_
  refine Bod.virt (r := []) dc_213_136 kr_213_99 ⟨Or.inl rfl, ow_142, cl_2⟩ (by rw [np_142]; rfl) (by rw [np_142]; rfl) (ob_of (mk_2 _)) (Nat.le_of_ble_eq_true rfl) (hRel2  ) ?_
  show Bod _ _ _ _ [] _ _ _
  exact Bod.retV dc_213_139 rt_213
