/-! READ -/
theorem dc_45_0 : decode (sm_cc 45) 0 = .ok (.aload_n 0, 1) := by decide +kernel
theorem dc_45_1 : decode (sm_cc 45) 1 = .ok (.lconst 0, 1) := by decide +kernel
theorem dc_45_2 : decode (sm_cc 45) 2 = .ok (.putfield 102, 3) := by decide +kernel
theorem dc_45_5 : decode (sm_cc 45) 5 = .ok (.aload_n 0, 1) := by decide +kernel
theorem dc_45_6 : decode (sm_cc 45) 6 = .ok (.aload_n 0, 1) := by decide +kernel
theorem dc_45_7 : decode (sm_cc 45) 7 = .ok (.getfield 23, 3) := by decide +kernel
theorem dc_45_10 : decode (sm_cc 45) 10 = .ok (.invokevirtual 50, 3) := by decide +kernel
theorem dc_45_13 : decode (sm_cc 45) 13 = .ok (.istore_n 1, 1) := by decide +kernel
theorem dc_48_0 : decode (sm_cc 48) 0 = .ok (.aload_n 0, 1) := by decide +kernel
theorem dc_48_1 : decode (sm_cc 48) 1 = .ok (.aload_n 0, 1) := by decide +kernel
theorem dc_48_2 : decode (sm_cc 48) 2 = .ok (.getfield 23, 3) := by decide +kernel
theorem fr_48_23 : sm_at mt_f (sm_ow 48) 23 = some (23, 3, 3, 0, 593) := by decide +kernel
theorem dc_48_5 : decode (sm_cc 48) 5 = .ok (.iconst 1, 1) := by decide +kernel
theorem dc_48_6 : decode (sm_cc 48) 6 = .ok (.iadd, 1) := by decide +kernel
theorem dc_48_7 : decode (sm_cc 48) 7 = .ok (.invokevirtual 50, 3) := by decide +kernel
theorem kr_48_50 : sm_at mt_k (sm_ow 48) 50 = some (50, 0, 38, 0, 969) := by decide +kernel
theorem dc_48_10 : decode (sm_cc 48) 10 = .ok (.bipush (61), 2) := by decide +kernel
theorem dc_48_12 : decode (sm_cc 48) 12 = .ok (.if_icmp .ne (10), 3) := by decide +kernel
theorem dc_48_15 : decode (sm_cc 48) 15 = .ok (.iload_n 1, 1) := by decide +kernel
theorem dc_48_16 : decode (sm_cc 48) 16 = .ok (.invokestatic 120, 3) := by decide +kernel
theorem kr_48_120 : sm_at mt_k (sm_ow 48) 120 = some (120, 2, 49, 0, 1016) := by decide +kernel
theorem np_49 : sm_np 49 = 1 := by decide +kernel
theorem dc_48_19 : decode (sm_cc 48) 19 = .ok (.goto (4), 3) := by decide +kernel
theorem dc_48_23 : decode (sm_cc 48) 23 = .ok (.istore_n 2, 1) := by decide +kernel
theorem ml_48 : sm_ml 48 = 3 := by decide +kernel
theorem dc_48_24 : decode (sm_cc 48) 24 = .ok (.iload_n 1, 1) := by decide +kernel
theorem dc_48_25 : decode (sm_cc 48) 25 = .ok (.bipush (47), 2) := by decide +kernel
theorem dc_48_27 : decode (sm_cc 48) 27 = .ok (.if_icmp .ne (21), 3) := by decide +kernel
theorem dc_48_48 : decode (sm_cc 48) 48 = .ok (.iload_n 2, 1) := by decide +kernel
theorem dc_48_49 : decode (sm_cc 48) 49 = .ok (.ifCond .ne (8), 3) := by decide +kernel
theorem dc_48_57 : decode (sm_cc 48) 57 = .ok (.iload_n 2, 1) := by decide +kernel
theorem dc_48_58 : decode (sm_cc 48) 58 = .ok (.ifCond .ne (8), 3) := by decide +kernel
theorem dc_48_66 : decode (sm_cc 48) 66 = .ok (.aload_n 0, 1) := by decide +kernel
theorem dc_48_67 : decode (sm_cc 48) 67 = .ok (.dup, 1) := by decide +kernel
theorem dc_48_68 : decode (sm_cc 48) 68 = .ok (.getfield 23, 3) := by decide +kernel
theorem dc_48_71 : decode (sm_cc 48) 71 = .ok (.iload_n 2, 1) := by decide +kernel
theorem dc_48_72 : decode (sm_cc 48) 72 = .ok (.bipush (22), 2) := by decide +kernel
theorem dc_48_74 : decode (sm_cc 48) 74 = .ok (.if_icmp .lt (7), 3) := by decide +kernel
theorem dc_48_81 : decode (sm_cc 48) 81 = .ok (.iconst 1, 1) := by decide +kernel
theorem dc_48_82 : decode (sm_cc 48) 82 = .ok (.iadd, 1) := by decide +kernel
theorem dc_48_83 : decode (sm_cc 48) 83 = .ok (.putfield 23, 3) := by decide +kernel
theorem dc_48_86 : decode (sm_cc 48) 86 = .ok (.aload_n 0, 1) := by decide +kernel
theorem dc_48_87 : decode (sm_cc 48) 87 = .ok (.iload_n 2, 1) := by decide +kernel
theorem dc_48_88 : decode (sm_cc 48) 88 = .ok (.putfield 38, 3) := by decide +kernel
theorem fr_48_38 : sm_at mt_f (sm_ow 48) 38 = some (38, 3, 5, 0, 597) := by decide +kernel
theorem dc_48_91 : decode (sm_cc 48) 91 = .ok (.return_, 1) := by decide +kernel
theorem rt_48 : sm_rt 48 = none := by decide +kernel
theorem dc_48_22 : decode (sm_cc 48) 22 = .ok (.iconst 0, 1) := by decide +kernel
theorem dc_48_52 : decode (sm_cc 48) 52 = .ok (.iload_n 1, 1) := by decide +kernel
theorem dc_48_53 : decode (sm_cc 48) 53 = .ok (.invokestatic 123, 3) := by decide +kernel
theorem kr_48_123 : sm_at mt_k (sm_ow 48) 123 = some (123, 2, 50, 0, 1019) := by decide +kernel
theorem np_50 : sm_np 50 = 1 := by decide +kernel
theorem dc_48_56 : decode (sm_cc 48) 56 = .ok (.istore_n 2, 1) := by decide +kernel
theorem dc_48_77 : decode (sm_cc 48) 77 = .ok (.iconst 2, 1) := by decide +kernel
theorem dc_48_78 : decode (sm_cc 48) 78 = .ok (.goto (4), 3) := by decide +kernel
theorem dc_48_30 : decode (sm_cc 48) 30 = .ok (.aload_n 0, 1) := by decide +kernel
theorem dc_48_31 : decode (sm_cc 48) 31 = .ok (.aload_n 0, 1) := by decide +kernel
theorem dc_48_32 : decode (sm_cc 48) 32 = .ok (.getfield 23, 3) := by decide +kernel
theorem dc_48_35 : decode (sm_cc 48) 35 = .ok (.iconst 1, 1) := by decide +kernel
theorem dc_48_36 : decode (sm_cc 48) 36 = .ok (.iadd, 1) := by decide +kernel
theorem dc_48_37 : decode (sm_cc 48) 37 = .ok (.invokevirtual 50, 3) := by decide +kernel
theorem dc_48_40 : decode (sm_cc 48) 40 = .ok (.bipush (47), 2) := by decide +kernel
theorem dc_48_42 : decode (sm_cc 48) 42 = .ok (.if_icmp .ne (6), 3) := by decide +kernel
theorem dc_48_45 : decode (sm_cc 48) 45 = .ok (.bipush (22), 2) := by decide +kernel
theorem dc_48_47 : decode (sm_cc 48) 47 = .ok (.istore_n 2, 1) := by decide +kernel
theorem dc_40_0 : decode (sm_cc 40) 0 = .ok (.aload_n 0, 1) := by decide +kernel
theorem dc_40_1 : decode (sm_cc 40) 1 = .ok (.getfield 38, 3) := by decide +kernel
theorem fr_40_38 : sm_at mt_f (sm_ow 40) 38 = some (38, 3, 5, 0, 597) := by decide +kernel
theorem dc_40_4 : decode (sm_cc 40) 4 = .ok (.ifCond .ne (4), 3) := by decide +kernel
theorem dc_40_7 : decode (sm_cc 40) 7 = .ok (.return_, 1) := by decide +kernel
theorem rt_40 : sm_rt 40 = none := by decide +kernel
theorem ml_40 : sm_ml 40 = 2 := by decide +kernel
theorem dc_40_8 : decode (sm_cc 40) 8 = .ok (.aload_n 0, 1) := by decide +kernel
theorem dc_40_9 : decode (sm_cc 40) 9 = .ok (.invokevirtual 54, 3) := by decide +kernel
theorem ow_37 : 3 = sm_ow 37 := by decide +kernel
theorem kr_40_54 : sm_at mt_k (sm_ow 40) 54 = some (54, 0, 37, 0, 965) := by decide +kernel
theorem np_37 : sm_np 37 = 0 := by decide +kernel
theorem dc_40_12 : decode (sm_cc 40) 12 = .ok (.aload_n 0, 1) := by decide +kernel
theorem dc_40_13 : decode (sm_cc 40) 13 = .ok (.aload_n 0, 1) := by decide +kernel
theorem dc_40_14 : decode (sm_cc 40) 14 = .ok (.getfield 23, 3) := by decide +kernel
theorem fr_40_23 : sm_at mt_f (sm_ow 40) 23 = some (23, 3, 3, 0, 593) := by decide +kernel
theorem dc_40_17 : decode (sm_cc 40) 17 = .ok (.putfield 60, 3) := by decide +kernel
theorem fr_40_60 : sm_at mt_f (sm_ow 40) 60 = some (60, 3, 4, 0, 595) := by decide +kernel
theorem dc_40_20 : decode (sm_cc 40) 20 = .ok (.aload_n 0, 1) := by decide +kernel
theorem dc_40_21 : decode (sm_cc 40) 21 = .ok (.aload_n 0, 1) := by decide +kernel
theorem dc_40_22 : decode (sm_cc 40) 22 = .ok (.getfield 23, 3) := by decide +kernel
theorem dc_40_25 : decode (sm_cc 40) 25 = .ok (.invokevirtual 50, 3) := by decide +kernel
theorem kr_40_50 : sm_at mt_k (sm_ow 40) 50 = some (50, 0, 38, 0, 969) := by decide +kernel
theorem dc_40_28 : decode (sm_cc 40) 28 = .ok (.istore_n 1, 1) := by decide +kernel
theorem dc_40_29 : decode (sm_cc 40) 29 = .ok (.iload_n 1, 1) := by decide +kernel
theorem dc_40_30 : decode (sm_cc 40) 30 = .ok (.iconst (-1), 1) := by decide +kernel
theorem dc_40_31 : decode (sm_cc 40) 31 = .ok (.if_icmp .eq (15), 3) := by decide +kernel
theorem dc_40_46 : decode (sm_cc 40) 46 = .ok (.aload_n 0, 1) := by decide +kernel
theorem dc_40_47 : decode (sm_cc 40) 47 = .ok (.iconst 2, 1) := by decide +kernel
theorem dc_40_48 : decode (sm_cc 40) 48 = .ok (.putfield 38, 3) := by decide +kernel
theorem dc_40_51 : decode (sm_cc 40) 51 = .ok (.goto (49), 3) := by decide +kernel
theorem dc_40_100 : decode (sm_cc 40) 100 = .ok (.return_, 1) := by decide +kernel
theorem dc_40_34 : decode (sm_cc 40) 34 = .ok (.iload_n 1, 1) := by decide +kernel
theorem dc_40_35 : decode (sm_cc 40) 35 = .ok (.bipush (10), 2) := by decide +kernel
theorem dc_40_37 : decode (sm_cc 40) 37 = .ok (.if_icmp .eq (9), 3) := by decide +kernel
theorem dc_40_40 : decode (sm_cc 40) 40 = .ok (.iload_n 1, 1) := by decide +kernel
theorem dc_40_41 : decode (sm_cc 40) 41 = .ok (.bipush (35), 2) := by decide +kernel
theorem dc_40_43 : decode (sm_cc 40) 43 = .ok (.if_icmp .ne (11), 3) := by decide +kernel
theorem dc_40_54 : decode (sm_cc 40) 54 = .ok (.iload_n 1, 1) := by decide +kernel
theorem dc_40_55 : decode (sm_cc 40) 55 = .ok (.invokestatic 63, 3) := by decide +kernel
theorem kr_40_63 : sm_at mt_k (sm_ow 40) 63 = some (63, 3, 41, 1, 981) := by decide +kernel
theorem dc_40_58 : decode (sm_cc 40) 58 = .ok (.ifCond .eq (10), 3) := by decide +kernel
theorem dc_40_61 : decode (sm_cc 40) 61 = .ok (.aload_n 0, 1) := by decide +kernel
theorem dc_40_62 : decode (sm_cc 40) 62 = .ok (.invokevirtual 67, 3) := by decide +kernel
theorem ow_42 : 3 = sm_ow 42 := by decide +kernel
theorem kr_40_67 : sm_at mt_k (sm_ow 40) 67 = some (67, 0, 42, 0, 984) := by decide +kernel
theorem np_42 : sm_np 42 = 0 := by decide +kernel
theorem dc_40_65 : decode (sm_cc 40) 65 = .ok (.goto (35), 3) := by decide +kernel
theorem dc_40_68 : decode (sm_cc 40) 68 = .ok (.iload_n 1, 1) := by decide +kernel
theorem dc_40_69 : decode (sm_cc 40) 69 = .ok (.invokestatic 70, 3) := by decide +kernel
theorem kr_40_70 : sm_at mt_k (sm_ow 40) 70 = some (70, 3, 43, 1, 989) := by decide +kernel
theorem dc_40_72 : decode (sm_cc 40) 72 = .ok (.ifCond .eq (10), 3) := by decide +kernel
theorem dc_40_75 : decode (sm_cc 40) 75 = .ok (.aload_n 0, 1) := by decide +kernel
theorem dc_40_76 : decode (sm_cc 40) 76 = .ok (.invokevirtual 73, 3) := by decide +kernel
theorem ow_45 : 3 = sm_ow 45 := by decide +kernel
theorem kr_40_73 : sm_at mt_k (sm_ow 40) 73 = some (73, 0, 45, 0, 999) := by decide +kernel
theorem np_45 : sm_np 45 = 0 := by decide +kernel
theorem dc_40_79 : decode (sm_cc 40) 79 = .ok (.goto (21), 3) := by decide +kernel
theorem dc_40_82 : decode (sm_cc 40) 82 = .ok (.iload_n 1, 1) := by decide +kernel
theorem dc_40_83 : decode (sm_cc 40) 83 = .ok (.bipush (39), 2) := by decide +kernel
theorem dc_40_85 : decode (sm_cc 40) 85 = .ok (.if_icmp .ne (10), 3) := by decide +kernel
theorem dc_40_88 : decode (sm_cc 40) 88 = .ok (.aload_n 0, 1) := by decide +kernel
theorem dc_40_89 : decode (sm_cc 40) 89 = .ok (.invokevirtual 76, 3) := by decide +kernel
theorem ow_46 : 3 = sm_ow 46 := by decide +kernel
theorem kr_40_76 : sm_at mt_k (sm_ow 40) 76 = some (76, 0, 46, 0, 1005) := by decide +kernel
theorem np_46 : sm_np 46 = 0 := by decide +kernel
theorem dc_40_92 : decode (sm_cc 40) 92 = .ok (.goto (8), 3) := by decide +kernel
theorem dc_40_95 : decode (sm_cc 40) 95 = .ok (.aload_n 0, 1) := by decide +kernel
theorem dc_40_96 : decode (sm_cc 40) 96 = .ok (.iload_n 1, 1) := by decide +kernel
theorem dc_40_97 : decode (sm_cc 40) 97 = .ok (.invokevirtual 79, 3) := by decide +kernel
theorem ow_48 : 3 = sm_ow 48 := by decide +kernel
theorem kr_40_79 : sm_at mt_k (sm_ow 40) 79 = some (79, 0, 48, 0, 1012) := by decide +kernel
theorem np_48 : sm_np 48 = 1 := by decide +kernel
theorem c_dv_le (S : cS) (p : Nat) : ∀ (r m M : Nat), m + r = M → c_dv S p m ≤ c_dv S p M := by
  intro r
  induction r with
  | zero =>
    intro m M h
    obtain rfl : m = M := by omega
    exact Nat.le_refl _
  | succ r ih =>
    intro m M h
    have h1 := ih (m + 1) M (by omega)
    have h2 : c_dv S p (m + 1) = 10 * c_dv S p m + (c_byte S (p + m) - 48) := rfl
    omega
theorem c_dv_I (k : Nat) (x : Int32) (S : cS) (p : Nat) : ∀ m, c_dv (wI k x S) p m = c_dv S p m := by
  intro m
  induction m with
  | zero => rfl
  | succ m ih =>
    unfold c_dv
    rw [ih, c_byte_I]
theorem c_byte_J (k : Nat) (x : Int64) (S : cS) (i : Nat) : c_byte (wJ k x S) i = c_byte S i := rfl
theorem c_b_J (k : Nat) (x : Int64) (S : cS) (n i : Nat) : c_b (wJ k x S) n i = c_b S n i := rfl
theorem c_dv_J (k : Nat) (x : Int64) (S : cS) (p : Nat) : ∀ m, c_dv (wJ k x S) p m = c_dv S p m := by
  intro m
  induction m with
  | zero => rfl
  | succ m ih =>
    unfold c_dv
    rw [ih, c_byte_J]
theorem rJe (k : Nat) (x : Int64) (S : cS) : sJ (wJ k x S) k = x := if_pos rfl
theorem wJ_same {k : Nat} {x : Int64} {S : cS} (h : sJ S k = x) : wJ k x S = S := by
  have e : vp_updL (sJ S) k x = sJ S := funext (fun i => by
    show (if i = k then x else sJ S i) = sJ S i
    split
    · rename_i hi
      rw [hi, h]
    · rfl)
  show (S.1, vp_updL (sJ S) k x, S.2.2) = S
  rw [e]
  rfl
theorem st_num (X Z : Int64) (y w : Int32) (S : cS) : wI 3103 y (wJ 3110 X (wI 3103 w (wJ 3110 Z S))) = wI 3103 y (wJ 3110 X S) := by
  rw [wI_wJ 3103 3110 w Z S, wJ_wJ, wI_wJ 3103 3110 y X (wI 3103 w S), wI_wI, wI_wJ 3103 3110 y X S]
theorem readNumber_loop {d n p M : Nat} (hM : n ≤ 3000) : ∀ (r m : Nat) (S : cS), m + r = M → sI S 3102 = nI n → sI S 3103 = nI (p + m) → sJ S 3110 = lN (c_dv S p m) → p + M ≤ n → (∀ x, m ≤ x → x < M → c_dig (c_byte S (p + x)) = true) → c_dv S p M ≤ 9223372036854775807 → (p + M = n ∨ c_dig (c_byte S (p + M)) = false) → Bod (d + 2) 45 14 [(1, .int (c_b S n (p + m))), (0, .ref 31)] [] S none (wI 3105 (nI 4) (wI 3103 (nI (p + M)) (wJ 3110 (lN (c_dv S p M)) S))) := by
  intro r
  induction r with
  | zero =>
    intro m S hm hn hp hv hpn _ _ he
    obtain rfl : m = M := by omega
    rw [wI_wJ 3103, wI_same hp, wJ_same hv]
    exact readNumber_stop hM hn hp hpn he
  | succ r ih =>
    intro m S hm hn hp hv hpn hd hx he
    have hdm := hd m (Nat.le_refl _) (by omega)
    have hbl := c_dig_le hdm
    have hle := c_dv_le S p r (m + 1) M (by omega)
    have h2 : c_dv S p (m + 1) = 10 * c_dv S p m + (c_byte S (p + m) - 48) := rfl
    refine readNumber_next hM hn hp hv (by omega) hdm (by omega) (w := c_dv S p (m + 1)) (by omega) ?_
    have h := ih (m + 1) (wI 3103 (nI (p + m + 1)) (wJ 3110 (lN (c_dv S p (m + 1))) S)) (by omega) hn (rIe _ _ _) (by rw [rIJ, rJe, c_dv_I, c_dv_J]) hpn (fun x h1 h2 => by rw [c_byte_I, c_byte_J]; exact hd x (by omega) h2) (by rw [c_dv_I, c_dv_J]; exact hx) (by rw [c_byte_I, c_byte_J]; exact he)
    rw [c_dv_I, c_dv_J, st_num] at h
    exact h
theorem readNumber_ev {d n p M : Nat} {S : cS} (hM : n ≤ 3000) (hn : sI S 3102 = nI n) (hp : sI S 3103 = nI p) (hpn : p + M ≤ n) (hd : ∀ x, x < M → c_dig (c_byte S (p + x)) = true) (hx : c_dv S p M ≤ 9223372036854775807) (he : p + M = n ∨ c_dig (c_byte S (p + M)) = false) : Ans (d + 3) 45 [.ref 31] S none (wI 3105 (nI 4) (wI 3103 (nI (p + M)) (wJ 3110 (lN (c_dv S p M)) S))) := by
  refine Ans.of (by rw [ml_45]; exact Nat.le_of_ble_eq_true rfl) ?_
  refine Bod.go dc_45_0 rfl ?_
  refine Bod.go dc_45_1 rfl ?_
  refine Bod.put dc_45_2 fr_45_102 (mk_31 _) (Nat.le_of_ble_eq_true rfl) pf_3_10 (st_3110 _ _) (mu_J _ _ _) ?_
  refine Bod.go dc_45_5 rfl ?_
  refine Bod.go dc_45_6 rfl ?_
  refine Bod.get dc_45_7 fr_45_23 (mk_31 _) rfl ?_
  refine Bod.eqI (nI p) (by first | (simp (disch := omega) only [rI, rIe, rA, rIA, rLA, rJA, rVI, rQI, rVA, rQA, upd_at,  rAI, rLI, rJI, nI_add, pk_sub, kc_0, kc_1, kc_2, kc_3, kc_4, kc_5, reduceIte, Nat.reduceEqDiff, Nat.add_zero, rI_hold, rI_hold, rL_hold, hn, hp]; done) | (simp (disch := omega) only [rI, rIe, rA, rIA, rLA, rJA, rVI, rQI, rVA, rQA, upd_at,  rAI, rLI, rJI, nI_add, pk_sub, kc_0, kc_1, kc_2, kc_3, kc_4, kc_5, reduceIte, Nat.reduceEqDiff, Nat.add_zero, rI_hold, rI_hold, rL_hold, hn, hp]; exact congrArg nI (by omega))) ?_
  refine Bod.virt (r := []) dc_45_10 kr_45_50 ⟨Or.inl rfl, ow_38, cl_3⟩ (by rw [np_38]; rfl) (by rw [np_38]; rfl) (ob_of (mk_31 _)) (Nat.le_of_ble_eq_true rfl) (byteAt_b (n := n) (i := p) (by first | (simp (disch := omega) only [rI, rIe, rA, rIA, rLA, rJA, rVI, rQI, rVA, rQA, upd_at,  rAI, rLI, rJI, nI_add, pk_sub, kc_0, kc_1, kc_2, kc_3, kc_4, kc_5, reduceIte, Nat.reduceEqDiff, Nat.add_zero, rI_hold, rI_hold, rL_hold, hn, hp]; done) | (simp (disch := omega) only [rI, rIe, rA, rIA, rLA, rJA, rVI, rQI, rVA, rQA, upd_at,  rAI, rLI, rJI, nI_add, pk_sub, kc_0, kc_1, kc_2, kc_3, kc_4, kc_5, reduceIte, Nat.reduceEqDiff, Nat.add_zero, rI_hold, rI_hold, rL_hold, hn, hp]; exact congrArg nI (by omega))) (by omega) (by omega)) ?_
  show Bod _ _ _ _ [_] _ _ _
  refine Bod.istn dc_45_13 (by rw [ml_45]; exact Nat.le_of_ble_eq_true rfl) ?_
  have h := readNumber_loop (d := d) (p := p) (M := M) hM M 0 (wJ 3110 0 S) (by omega) hn hp rfl hpn (fun x _ h2 => by rw [c_byte_J]; exact hd x h2) (by rw [c_dv_J]; exact hx) (by rw [c_byte_J]; exact he)
  rw [c_dv_J, wJ_wJ] at h
  exact h
theorem readSign_eq0 {d : Nat} {S : cS} {b : Nat} {n : Nat} {p : Nat} {c : Nat} (hb : b < 256) (hn : sI S 3102 = nI n) (hp : sI S 3103 = nI p) (hpn : p < n) (hM : n ≤ 3000) (h61 : c_b S n (p + 1) = nI 61) (hc : c_signEq b = c) (hs2 : c < 22) (hs1 : 1 ≤ c) (h47 : b ≠ 47) : Ans (d + 2) 48 [.ref 31, .int (nI b)] S (none) (wI 3105 (nI c) (wI 3103 (nI (p + 1)) S)) := by
  refine Ans.of (by rw [ml_48]; exact Nat.le_of_ble_eq_true rfl) ?_
  refine Bod.go dc_48_0 rfl ?_
  refine Bod.go dc_48_1 rfl ?_
  refine Bod.get dc_48_2 fr_48_23 (mk_31 _) rfl ?_
  refine Bod.eqI (nI p) (by first | assumption | rfl | exact congrArg nI (by omega) | (simp (disch := omega) only [rI, rIe, rA, rIA, rLA, rJA, rVI, rQI, rVA, rQA, upd_at,  rAI, rLI, rJI, nI_add, pk_sub, kc_0, kc_1, kc_2, kc_3, kc_4, kc_5, reduceIte, Nat.reduceEqDiff, Nat.add_zero, rI_hold, rI_hold, rL_hold, hn, hp]; done)) ?_
  refine Bod.ic 1 (by decide) dc_48_5 ?_
  refine Bod.addN (p + 1) (by omega) dc_48_6 ?_
  refine Bod.virt (r := []) dc_48_7 kr_48_50 ⟨Or.inl rfl, ow_38, cl_3⟩ (by rw [np_38]; rfl) (by rw [np_38]; rfl) (ob_of (mk_31 _)) (Nat.le_of_ble_eq_true rfl) (byteAt_b (n := n) (i := p + 1) (by first | assumption | rfl | exact congrArg nI (by omega) | (simp (disch := omega) only [rI, rIe, rA, rIA, rLA, rJA, rVI, rQI, rVA, rQA, upd_at,  rAI, rLI, rJI, nI_add, pk_sub, kc_0, kc_1, kc_2, kc_3, kc_4, kc_5, reduceIte, Nat.reduceEqDiff, Nat.add_zero, rI_hold, rI_hold, rL_hold, hn, hp]; done)) (by omega) (by omega)) ?_
  show Bod _ _ _ _ [_] _ _ _
  refine Bod.eqI (nI 61) h61 ?_
  refine Bod.bip 61 (by decide) dc_48_10 ?_
  refine Bod.icF dc_48_12 rfl (k2_ne_F (k_eq 61 61 rfl rfl (by omega))) ?_
  refine Bod.go dc_48_15 rfl ?_
  refine Bod.stat (r := []) dc_48_16 kr_48_120 (Or.inl rfl) (by rw [np_49]; rfl) (by rw [np_49]; rfl) (by rw [np_49]; exact Nat.le_of_ble_eq_true rfl) (Nat.le_of_ble_eq_true rfl) (signEq_ev (b := b) (by omega)) ?_
  show Bod _ _ _ _ [_] _ _ _
  refine Bod.eqI (nI c) (congrArg nI hc) ?_
  refine Bod.go dc_48_19 rfl ?_
  refine Bod.istn dc_48_23 (by rw [ml_48]; exact Nat.le_of_ble_eq_true rfl) ?_
  refine Bod.go dc_48_24 rfl ?_
  refine Bod.bip 47 (by decide) dc_48_25 ?_
  refine Bod.icT dc_48_27 rfl (k2_ne_T (k_ne b 47 rfl rfl (by omega) (by omega) (by omega))) ?_
  refine Bod.go dc_48_48 rfl ?_
  refine Bod.ifT dc_48_49 rfl (k1_ne_T (k_ne c 0 rfl rfl (by omega) (by omega) (by omega))) ?_
  refine Bod.go dc_48_57 rfl ?_
  refine Bod.ifT dc_48_58 rfl (k1_ne_T (k_ne c 0 rfl rfl (by omega) (by omega) (by omega))) ?_
  refine Bod.go dc_48_66 rfl ?_
  refine Bod.go dc_48_67 rfl ?_
  refine Bod.get dc_48_68 fr_48_23 (mk_31 _) rfl ?_
  refine Bod.eqI (nI p) (by first | assumption | rfl | exact congrArg nI (by omega) | (simp (disch := omega) only [rI, rIe, rA, rIA, rLA, rJA, rVI, rQI, rVA, rQA, upd_at,  rAI, rLI, rJI, nI_add, pk_sub, kc_0, kc_1, kc_2, kc_3, kc_4, kc_5, reduceIte, Nat.reduceEqDiff, Nat.add_zero, rI_hold, rI_hold, rL_hold, hn, hp]; done)) ?_
  refine Bod.go dc_48_71 rfl ?_
  refine Bod.bip 22 (by decide) dc_48_72 ?_
  refine Bod.icT dc_48_74 rfl (k2_lt_T c 22 rfl rfl (by omega) (by omega)) ?_
  refine Bod.ic 1 (by decide) dc_48_81 ?_
  refine Bod.addN (p + 1) (by omega) dc_48_82 ?_
  refine Bod.put dc_48_83 fr_48_23 (mk_31 _) (Nat.le_of_ble_eq_true rfl) pf_3_3 (st_3103 _ _) (mu_I _ _ _) ?_
  refine Bod.go dc_48_86 rfl ?_
  refine Bod.go dc_48_87 rfl ?_
  refine Bod.put dc_48_88 fr_48_38 (mk_31 _) (Nat.le_of_ble_eq_true rfl) pf_3_5 (st_3105 _ _) (mu_I _ _ _) ?_
  exact Bod.retV dc_48_91 rt_48
theorem readSign_one0 {d : Nat} {S : cS} {b : Nat} {n : Nat} {p : Nat} {c : Nat} (hb : b < 256) (hn : sI S 3102 = nI n) (hp : sI S 3103 = nI p) (hpn : p < n) (hM : n ≤ 3000) (h61 : c_b S n (p + 1) ≠ nI 61) (hc : c_signOne b = c) (hs2 : c < 22) (hs1 : 1 ≤ c) (h47 : b ≠ 47) : Ans (d + 2) 48 [.ref 31, .int (nI b)] S (none) (wI 3105 (nI c) (wI 3103 (nI (p + 1)) S)) := by
  refine Ans.of (by rw [ml_48]; exact Nat.le_of_ble_eq_true rfl) ?_
  refine Bod.go dc_48_0 rfl ?_
  refine Bod.go dc_48_1 rfl ?_
  refine Bod.get dc_48_2 fr_48_23 (mk_31 _) rfl ?_
  refine Bod.eqI (nI p) (by first | assumption | rfl | exact congrArg nI (by omega) | (simp (disch := omega) only [rI, rIe, rA, rIA, rLA, rJA, rVI, rQI, rVA, rQA, upd_at,  rAI, rLI, rJI, nI_add, pk_sub, kc_0, kc_1, kc_2, kc_3, kc_4, kc_5, reduceIte, Nat.reduceEqDiff, Nat.add_zero, rI_hold, rI_hold, rL_hold, hn, hp]; done)) ?_
  refine Bod.ic 1 (by decide) dc_48_5 ?_
  refine Bod.addN (p + 1) (by omega) dc_48_6 ?_
  refine Bod.virt (r := []) dc_48_7 kr_48_50 ⟨Or.inl rfl, ow_38, cl_3⟩ (by rw [np_38]; rfl) (by rw [np_38]; rfl) (ob_of (mk_31 _)) (Nat.le_of_ble_eq_true rfl) (byteAt_b (n := n) (i := p + 1) (by first | assumption | rfl | exact congrArg nI (by omega) | (simp (disch := omega) only [rI, rIe, rA, rIA, rLA, rJA, rVI, rQI, rVA, rQA, upd_at,  rAI, rLI, rJI, nI_add, pk_sub, kc_0, kc_1, kc_2, kc_3, kc_4, kc_5, reduceIte, Nat.reduceEqDiff, Nat.add_zero, rI_hold, rI_hold, rL_hold, hn, hp]; done)) (by omega) (by omega)) ?_
  show Bod _ _ _ _ [_] _ _ _
  refine Bod.bip 61 (by decide) dc_48_10 ?_
  refine Bod.icT dc_48_12 rfl (k2_ne_T h61) ?_
  refine Bod.ic 0 (by decide) dc_48_22 ?_
  refine Bod.istn dc_48_23 (by rw [ml_48]; exact Nat.le_of_ble_eq_true rfl) ?_
  refine Bod.go dc_48_24 rfl ?_
  refine Bod.bip 47 (by decide) dc_48_25 ?_
  refine Bod.icT dc_48_27 rfl (k2_ne_T (k_ne b 47 rfl rfl (by omega) (by omega) (by omega))) ?_
  refine Bod.go dc_48_48 rfl ?_
  refine Bod.ifF dc_48_49 rfl (k1_ne_F (k_eq 0 0 rfl rfl (by omega))) ?_
  refine Bod.go dc_48_52 rfl ?_
  refine Bod.stat (r := []) dc_48_53 kr_48_123 (Or.inl rfl) (by rw [np_50]; rfl) (by rw [np_50]; rfl) (by rw [np_50]; exact Nat.le_of_ble_eq_true rfl) (Nat.le_of_ble_eq_true rfl) (signOne_ev (b := b) (by omega)) ?_
  show Bod _ _ _ _ [_] _ _ _
  refine Bod.eqI (nI c) (congrArg nI hc) ?_
  refine Bod.istn dc_48_56 (by rw [ml_48]; exact Nat.le_of_ble_eq_true rfl) ?_
  refine Bod.go dc_48_57 rfl ?_
  refine Bod.ifT dc_48_58 rfl (k1_ne_T (k_ne c 0 rfl rfl (by omega) (by omega) (by omega))) ?_
  refine Bod.go dc_48_66 rfl ?_
  refine Bod.go dc_48_67 rfl ?_
  refine Bod.get dc_48_68 fr_48_23 (mk_31 _) rfl ?_
  refine Bod.eqI (nI p) (by first | assumption | rfl | exact congrArg nI (by omega) | (simp (disch := omega) only [rI, rIe, rA, rIA, rLA, rJA, rVI, rQI, rVA, rQA, upd_at,  rAI, rLI, rJI, nI_add, pk_sub, kc_0, kc_1, kc_2, kc_3, kc_4, kc_5, reduceIte, Nat.reduceEqDiff, Nat.add_zero, rI_hold, rI_hold, rL_hold, hn, hp]; done)) ?_
  refine Bod.go dc_48_71 rfl ?_
  refine Bod.bip 22 (by decide) dc_48_72 ?_
  refine Bod.icT dc_48_74 rfl (k2_lt_T c 22 rfl rfl (by omega) (by omega)) ?_
  refine Bod.ic 1 (by decide) dc_48_81 ?_
  refine Bod.addN (p + 1) (by omega) dc_48_82 ?_
  refine Bod.put dc_48_83 fr_48_23 (mk_31 _) (Nat.le_of_ble_eq_true rfl) pf_3_3 (st_3103 _ _) (mu_I _ _ _) ?_
  refine Bod.go dc_48_86 rfl ?_
  refine Bod.go dc_48_87 rfl ?_
  refine Bod.put dc_48_88 fr_48_38 (mk_31 _) (Nat.le_of_ble_eq_true rfl) pf_3_5 (st_3105 _ _) (mu_I _ _ _) ?_
  exact Bod.retV dc_48_91 rt_48
theorem readSign_eone0 {d : Nat} {S : cS} {b : Nat} {n : Nat} {p : Nat} {c : Nat} (hb : b < 256) (hn : sI S 3102 = nI n) (hp : sI S 3103 = nI p) (hpn : p < n) (hM : n ≤ 3000) (h61 : c_b S n (p + 1) = nI 61) (hc0 : c_signEq b = 0) (hc : c_signOne b = c) (hs2 : c < 22) (hs1 : 1 ≤ c) (h47 : b ≠ 47) : Ans (d + 2) 48 [.ref 31, .int (nI b)] S (none) (wI 3105 (nI c) (wI 3103 (nI (p + 1)) S)) := by
  refine Ans.of (by rw [ml_48]; exact Nat.le_of_ble_eq_true rfl) ?_
  refine Bod.go dc_48_0 rfl ?_
  refine Bod.go dc_48_1 rfl ?_
  refine Bod.get dc_48_2 fr_48_23 (mk_31 _) rfl ?_
  refine Bod.eqI (nI p) (by first | assumption | rfl | exact congrArg nI (by omega) | (simp (disch := omega) only [rI, rIe, rA, rIA, rLA, rJA, rVI, rQI, rVA, rQA, upd_at,  rAI, rLI, rJI, nI_add, pk_sub, kc_0, kc_1, kc_2, kc_3, kc_4, kc_5, reduceIte, Nat.reduceEqDiff, Nat.add_zero, rI_hold, rI_hold, rL_hold, hn, hp]; done)) ?_
  refine Bod.ic 1 (by decide) dc_48_5 ?_
  refine Bod.addN (p + 1) (by omega) dc_48_6 ?_
  refine Bod.virt (r := []) dc_48_7 kr_48_50 ⟨Or.inl rfl, ow_38, cl_3⟩ (by rw [np_38]; rfl) (by rw [np_38]; rfl) (ob_of (mk_31 _)) (Nat.le_of_ble_eq_true rfl) (byteAt_b (n := n) (i := p + 1) (by first | assumption | rfl | exact congrArg nI (by omega) | (simp (disch := omega) only [rI, rIe, rA, rIA, rLA, rJA, rVI, rQI, rVA, rQA, upd_at,  rAI, rLI, rJI, nI_add, pk_sub, kc_0, kc_1, kc_2, kc_3, kc_4, kc_5, reduceIte, Nat.reduceEqDiff, Nat.add_zero, rI_hold, rI_hold, rL_hold, hn, hp]; done)) (by omega) (by omega)) ?_
  show Bod _ _ _ _ [_] _ _ _
  refine Bod.eqI (nI 61) h61 ?_
  refine Bod.bip 61 (by decide) dc_48_10 ?_
  refine Bod.icF dc_48_12 rfl (k2_ne_F (k_eq 61 61 rfl rfl (by omega))) ?_
  refine Bod.go dc_48_15 rfl ?_
  refine Bod.stat (r := []) dc_48_16 kr_48_120 (Or.inl rfl) (by rw [np_49]; rfl) (by rw [np_49]; rfl) (by rw [np_49]; exact Nat.le_of_ble_eq_true rfl) (Nat.le_of_ble_eq_true rfl) (signEq_ev (b := b) (by omega)) ?_
  show Bod _ _ _ _ [_] _ _ _
  refine Bod.eqI (nI 0) (congrArg nI hc0) ?_
  refine Bod.go dc_48_19 rfl ?_
  refine Bod.istn dc_48_23 (by rw [ml_48]; exact Nat.le_of_ble_eq_true rfl) ?_
  refine Bod.go dc_48_24 rfl ?_
  refine Bod.bip 47 (by decide) dc_48_25 ?_
  refine Bod.icT dc_48_27 rfl (k2_ne_T (k_ne b 47 rfl rfl (by omega) (by omega) (by omega))) ?_
  refine Bod.go dc_48_48 rfl ?_
  refine Bod.ifF dc_48_49 rfl (k1_ne_F (k_eq 0 0 rfl rfl (by omega))) ?_
  refine Bod.go dc_48_52 rfl ?_
  refine Bod.stat (r := []) dc_48_53 kr_48_123 (Or.inl rfl) (by rw [np_50]; rfl) (by rw [np_50]; rfl) (by rw [np_50]; exact Nat.le_of_ble_eq_true rfl) (Nat.le_of_ble_eq_true rfl) (signOne_ev (b := b) (by omega)) ?_
  show Bod _ _ _ _ [_] _ _ _
  refine Bod.eqI (nI c) (congrArg nI hc) ?_
  refine Bod.istn dc_48_56 (by rw [ml_48]; exact Nat.le_of_ble_eq_true rfl) ?_
  refine Bod.go dc_48_57 rfl ?_
  refine Bod.ifT dc_48_58 rfl (k1_ne_T (k_ne c 0 rfl rfl (by omega) (by omega) (by omega))) ?_
  refine Bod.go dc_48_66 rfl ?_
  refine Bod.go dc_48_67 rfl ?_
  refine Bod.get dc_48_68 fr_48_23 (mk_31 _) rfl ?_
  refine Bod.eqI (nI p) (by first | assumption | rfl | exact congrArg nI (by omega) | (simp (disch := omega) only [rI, rIe, rA, rIA, rLA, rJA, rVI, rQI, rVA, rQA, upd_at,  rAI, rLI, rJI, nI_add, pk_sub, kc_0, kc_1, kc_2, kc_3, kc_4, kc_5, reduceIte, Nat.reduceEqDiff, Nat.add_zero, rI_hold, rI_hold, rL_hold, hn, hp]; done)) ?_
  refine Bod.go dc_48_71 rfl ?_
  refine Bod.bip 22 (by decide) dc_48_72 ?_
  refine Bod.icT dc_48_74 rfl (k2_lt_T c 22 rfl rfl (by omega) (by omega)) ?_
  refine Bod.ic 1 (by decide) dc_48_81 ?_
  refine Bod.addN (p + 1) (by omega) dc_48_82 ?_
  refine Bod.put dc_48_83 fr_48_23 (mk_31 _) (Nat.le_of_ble_eq_true rfl) pf_3_3 (st_3103 _ _) (mu_I _ _ _) ?_
  refine Bod.go dc_48_86 rfl ?_
  refine Bod.go dc_48_87 rfl ?_
  refine Bod.put dc_48_88 fr_48_38 (mk_31 _) (Nat.le_of_ble_eq_true rfl) pf_3_5 (st_3105 _ _) (mu_I _ _ _) ?_
  exact Bod.retV dc_48_91 rt_48
theorem readSign_eq1 {d : Nat} {S : cS} {b : Nat} {n : Nat} {p : Nat} {c : Nat} (hb : b < 256) (hn : sI S 3102 = nI n) (hp : sI S 3103 = nI p) (hpn : p < n) (hM : n ≤ 3000) (h61 : c_b S n (p + 1) = nI 61) (hc : c_signEq b = c) (hs2 : 22 ≤ c) (hs3 : c < 100) (h47 : b ≠ 47) : Ans (d + 2) 48 [.ref 31, .int (nI b)] S (none) (wI 3105 (nI c) (wI 3103 (nI (p + 2)) S)) := by
  refine Ans.of (by rw [ml_48]; exact Nat.le_of_ble_eq_true rfl) ?_
  refine Bod.go dc_48_0 rfl ?_
  refine Bod.go dc_48_1 rfl ?_
  refine Bod.get dc_48_2 fr_48_23 (mk_31 _) rfl ?_
  refine Bod.eqI (nI p) (by first | assumption | rfl | exact congrArg nI (by omega) | (simp (disch := omega) only [rI, rIe, rA, rIA, rLA, rJA, rVI, rQI, rVA, rQA, upd_at,  rAI, rLI, rJI, nI_add, pk_sub, kc_0, kc_1, kc_2, kc_3, kc_4, kc_5, reduceIte, Nat.reduceEqDiff, Nat.add_zero, rI_hold, rI_hold, rL_hold, hn, hp]; done)) ?_
  refine Bod.ic 1 (by decide) dc_48_5 ?_
  refine Bod.addN (p + 1) (by omega) dc_48_6 ?_
  refine Bod.virt (r := []) dc_48_7 kr_48_50 ⟨Or.inl rfl, ow_38, cl_3⟩ (by rw [np_38]; rfl) (by rw [np_38]; rfl) (ob_of (mk_31 _)) (Nat.le_of_ble_eq_true rfl) (byteAt_b (n := n) (i := p + 1) (by first | assumption | rfl | exact congrArg nI (by omega) | (simp (disch := omega) only [rI, rIe, rA, rIA, rLA, rJA, rVI, rQI, rVA, rQA, upd_at,  rAI, rLI, rJI, nI_add, pk_sub, kc_0, kc_1, kc_2, kc_3, kc_4, kc_5, reduceIte, Nat.reduceEqDiff, Nat.add_zero, rI_hold, rI_hold, rL_hold, hn, hp]; done)) (by omega) (by omega)) ?_
  show Bod _ _ _ _ [_] _ _ _
  refine Bod.eqI (nI 61) h61 ?_
  refine Bod.bip 61 (by decide) dc_48_10 ?_
  refine Bod.icF dc_48_12 rfl (k2_ne_F (k_eq 61 61 rfl rfl (by omega))) ?_
  refine Bod.go dc_48_15 rfl ?_
  refine Bod.stat (r := []) dc_48_16 kr_48_120 (Or.inl rfl) (by rw [np_49]; rfl) (by rw [np_49]; rfl) (by rw [np_49]; exact Nat.le_of_ble_eq_true rfl) (Nat.le_of_ble_eq_true rfl) (signEq_ev (b := b) (by omega)) ?_
  show Bod _ _ _ _ [_] _ _ _
  refine Bod.eqI (nI c) (congrArg nI hc) ?_
  refine Bod.go dc_48_19 rfl ?_
  refine Bod.istn dc_48_23 (by rw [ml_48]; exact Nat.le_of_ble_eq_true rfl) ?_
  refine Bod.go dc_48_24 rfl ?_
  refine Bod.bip 47 (by decide) dc_48_25 ?_
  refine Bod.icT dc_48_27 rfl (k2_ne_T (k_ne b 47 rfl rfl (by omega) (by omega) (by omega))) ?_
  refine Bod.go dc_48_48 rfl ?_
  refine Bod.ifT dc_48_49 rfl (k1_ne_T (k_ne c 0 rfl rfl (by omega) (by omega) (by omega))) ?_
  refine Bod.go dc_48_57 rfl ?_
  refine Bod.ifT dc_48_58 rfl (k1_ne_T (k_ne c 0 rfl rfl (by omega) (by omega) (by omega))) ?_
  refine Bod.go dc_48_66 rfl ?_
  refine Bod.go dc_48_67 rfl ?_
  refine Bod.get dc_48_68 fr_48_23 (mk_31 _) rfl ?_
  refine Bod.eqI (nI p) (by first | assumption | rfl | exact congrArg nI (by omega) | (simp (disch := omega) only [rI, rIe, rA, rIA, rLA, rJA, rVI, rQI, rVA, rQA, upd_at,  rAI, rLI, rJI, nI_add, pk_sub, kc_0, kc_1, kc_2, kc_3, kc_4, kc_5, reduceIte, Nat.reduceEqDiff, Nat.add_zero, rI_hold, rI_hold, rL_hold, hn, hp]; done)) ?_
  refine Bod.go dc_48_71 rfl ?_
  refine Bod.bip 22 (by decide) dc_48_72 ?_
  refine Bod.icF dc_48_74 rfl (k2_lt_F c 22 rfl rfl (by omega) (by omega)) ?_
  refine Bod.ic 2 (by decide) dc_48_77 ?_
  refine Bod.go dc_48_78 rfl ?_
  refine Bod.addN (p + 2) (by omega) dc_48_82 ?_
  refine Bod.put dc_48_83 fr_48_23 (mk_31 _) (Nat.le_of_ble_eq_true rfl) pf_3_3 (st_3103 _ _) (mu_I _ _ _) ?_
  refine Bod.go dc_48_86 rfl ?_
  refine Bod.go dc_48_87 rfl ?_
  refine Bod.put dc_48_88 fr_48_38 (mk_31 _) (Nat.le_of_ble_eq_true rfl) pf_3_5 (st_3105 _ _) (mu_I _ _ _) ?_
  exact Bod.retV dc_48_91 rt_48
theorem readSign_one1 {d : Nat} {S : cS} {b : Nat} {n : Nat} {p : Nat} {c : Nat} (hb : b < 256) (hn : sI S 3102 = nI n) (hp : sI S 3103 = nI p) (hpn : p < n) (hM : n ≤ 3000) (h61 : c_b S n (p + 1) ≠ nI 61) (hc : c_signOne b = c) (hs2 : 22 ≤ c) (hs3 : c < 100) (h47 : b ≠ 47) : Ans (d + 2) 48 [.ref 31, .int (nI b)] S (none) (wI 3105 (nI c) (wI 3103 (nI (p + 2)) S)) := by
  refine Ans.of (by rw [ml_48]; exact Nat.le_of_ble_eq_true rfl) ?_
  refine Bod.go dc_48_0 rfl ?_
  refine Bod.go dc_48_1 rfl ?_
  refine Bod.get dc_48_2 fr_48_23 (mk_31 _) rfl ?_
  refine Bod.eqI (nI p) (by first | assumption | rfl | exact congrArg nI (by omega) | (simp (disch := omega) only [rI, rIe, rA, rIA, rLA, rJA, rVI, rQI, rVA, rQA, upd_at,  rAI, rLI, rJI, nI_add, pk_sub, kc_0, kc_1, kc_2, kc_3, kc_4, kc_5, reduceIte, Nat.reduceEqDiff, Nat.add_zero, rI_hold, rI_hold, rL_hold, hn, hp]; done)) ?_
  refine Bod.ic 1 (by decide) dc_48_5 ?_
  refine Bod.addN (p + 1) (by omega) dc_48_6 ?_
  refine Bod.virt (r := []) dc_48_7 kr_48_50 ⟨Or.inl rfl, ow_38, cl_3⟩ (by rw [np_38]; rfl) (by rw [np_38]; rfl) (ob_of (mk_31 _)) (Nat.le_of_ble_eq_true rfl) (byteAt_b (n := n) (i := p + 1) (by first | assumption | rfl | exact congrArg nI (by omega) | (simp (disch := omega) only [rI, rIe, rA, rIA, rLA, rJA, rVI, rQI, rVA, rQA, upd_at,  rAI, rLI, rJI, nI_add, pk_sub, kc_0, kc_1, kc_2, kc_3, kc_4, kc_5, reduceIte, Nat.reduceEqDiff, Nat.add_zero, rI_hold, rI_hold, rL_hold, hn, hp]; done)) (by omega) (by omega)) ?_
  show Bod _ _ _ _ [_] _ _ _
  refine Bod.bip 61 (by decide) dc_48_10 ?_
  refine Bod.icT dc_48_12 rfl (k2_ne_T h61) ?_
  refine Bod.ic 0 (by decide) dc_48_22 ?_
  refine Bod.istn dc_48_23 (by rw [ml_48]; exact Nat.le_of_ble_eq_true rfl) ?_
  refine Bod.go dc_48_24 rfl ?_
  refine Bod.bip 47 (by decide) dc_48_25 ?_
  refine Bod.icT dc_48_27 rfl (k2_ne_T (k_ne b 47 rfl rfl (by omega) (by omega) (by omega))) ?_
  refine Bod.go dc_48_48 rfl ?_
  refine Bod.ifF dc_48_49 rfl (k1_ne_F (k_eq 0 0 rfl rfl (by omega))) ?_
  refine Bod.go dc_48_52 rfl ?_
  refine Bod.stat (r := []) dc_48_53 kr_48_123 (Or.inl rfl) (by rw [np_50]; rfl) (by rw [np_50]; rfl) (by rw [np_50]; exact Nat.le_of_ble_eq_true rfl) (Nat.le_of_ble_eq_true rfl) (signOne_ev (b := b) (by omega)) ?_
  show Bod _ _ _ _ [_] _ _ _
  refine Bod.eqI (nI c) (congrArg nI hc) ?_
  refine Bod.istn dc_48_56 (by rw [ml_48]; exact Nat.le_of_ble_eq_true rfl) ?_
  refine Bod.go dc_48_57 rfl ?_
  refine Bod.ifT dc_48_58 rfl (k1_ne_T (k_ne c 0 rfl rfl (by omega) (by omega) (by omega))) ?_
  refine Bod.go dc_48_66 rfl ?_
  refine Bod.go dc_48_67 rfl ?_
  refine Bod.get dc_48_68 fr_48_23 (mk_31 _) rfl ?_
  refine Bod.eqI (nI p) (by first | assumption | rfl | exact congrArg nI (by omega) | (simp (disch := omega) only [rI, rIe, rA, rIA, rLA, rJA, rVI, rQI, rVA, rQA, upd_at,  rAI, rLI, rJI, nI_add, pk_sub, kc_0, kc_1, kc_2, kc_3, kc_4, kc_5, reduceIte, Nat.reduceEqDiff, Nat.add_zero, rI_hold, rI_hold, rL_hold, hn, hp]; done)) ?_
  refine Bod.go dc_48_71 rfl ?_
  refine Bod.bip 22 (by decide) dc_48_72 ?_
  refine Bod.icF dc_48_74 rfl (k2_lt_F c 22 rfl rfl (by omega) (by omega)) ?_
  refine Bod.ic 2 (by decide) dc_48_77 ?_
  refine Bod.go dc_48_78 rfl ?_
  refine Bod.addN (p + 2) (by omega) dc_48_82 ?_
  refine Bod.put dc_48_83 fr_48_23 (mk_31 _) (Nat.le_of_ble_eq_true rfl) pf_3_3 (st_3103 _ _) (mu_I _ _ _) ?_
  refine Bod.go dc_48_86 rfl ?_
  refine Bod.go dc_48_87 rfl ?_
  refine Bod.put dc_48_88 fr_48_38 (mk_31 _) (Nat.le_of_ble_eq_true rfl) pf_3_5 (st_3105 _ _) (mu_I _ _ _) ?_
  exact Bod.retV dc_48_91 rt_48
theorem readSign_eone1 {d : Nat} {S : cS} {b : Nat} {n : Nat} {p : Nat} {c : Nat} (hb : b < 256) (hn : sI S 3102 = nI n) (hp : sI S 3103 = nI p) (hpn : p < n) (hM : n ≤ 3000) (h61 : c_b S n (p + 1) = nI 61) (hc0 : c_signEq b = 0) (hc : c_signOne b = c) (hs2 : 22 ≤ c) (hs3 : c < 100) (h47 : b ≠ 47) : Ans (d + 2) 48 [.ref 31, .int (nI b)] S (none) (wI 3105 (nI c) (wI 3103 (nI (p + 2)) S)) := by
  refine Ans.of (by rw [ml_48]; exact Nat.le_of_ble_eq_true rfl) ?_
  refine Bod.go dc_48_0 rfl ?_
  refine Bod.go dc_48_1 rfl ?_
  refine Bod.get dc_48_2 fr_48_23 (mk_31 _) rfl ?_
  refine Bod.eqI (nI p) (by first | assumption | rfl | exact congrArg nI (by omega) | (simp (disch := omega) only [rI, rIe, rA, rIA, rLA, rJA, rVI, rQI, rVA, rQA, upd_at,  rAI, rLI, rJI, nI_add, pk_sub, kc_0, kc_1, kc_2, kc_3, kc_4, kc_5, reduceIte, Nat.reduceEqDiff, Nat.add_zero, rI_hold, rI_hold, rL_hold, hn, hp]; done)) ?_
  refine Bod.ic 1 (by decide) dc_48_5 ?_
  refine Bod.addN (p + 1) (by omega) dc_48_6 ?_
  refine Bod.virt (r := []) dc_48_7 kr_48_50 ⟨Or.inl rfl, ow_38, cl_3⟩ (by rw [np_38]; rfl) (by rw [np_38]; rfl) (ob_of (mk_31 _)) (Nat.le_of_ble_eq_true rfl) (byteAt_b (n := n) (i := p + 1) (by first | assumption | rfl | exact congrArg nI (by omega) | (simp (disch := omega) only [rI, rIe, rA, rIA, rLA, rJA, rVI, rQI, rVA, rQA, upd_at,  rAI, rLI, rJI, nI_add, pk_sub, kc_0, kc_1, kc_2, kc_3, kc_4, kc_5, reduceIte, Nat.reduceEqDiff, Nat.add_zero, rI_hold, rI_hold, rL_hold, hn, hp]; done)) (by omega) (by omega)) ?_
  show Bod _ _ _ _ [_] _ _ _
  refine Bod.eqI (nI 61) h61 ?_
  refine Bod.bip 61 (by decide) dc_48_10 ?_
  refine Bod.icF dc_48_12 rfl (k2_ne_F (k_eq 61 61 rfl rfl (by omega))) ?_
  refine Bod.go dc_48_15 rfl ?_
  refine Bod.stat (r := []) dc_48_16 kr_48_120 (Or.inl rfl) (by rw [np_49]; rfl) (by rw [np_49]; rfl) (by rw [np_49]; exact Nat.le_of_ble_eq_true rfl) (Nat.le_of_ble_eq_true rfl) (signEq_ev (b := b) (by omega)) ?_
  show Bod _ _ _ _ [_] _ _ _
  refine Bod.eqI (nI 0) (congrArg nI hc0) ?_
  refine Bod.go dc_48_19 rfl ?_
  refine Bod.istn dc_48_23 (by rw [ml_48]; exact Nat.le_of_ble_eq_true rfl) ?_
  refine Bod.go dc_48_24 rfl ?_
  refine Bod.bip 47 (by decide) dc_48_25 ?_
  refine Bod.icT dc_48_27 rfl (k2_ne_T (k_ne b 47 rfl rfl (by omega) (by omega) (by omega))) ?_
  refine Bod.go dc_48_48 rfl ?_
  refine Bod.ifF dc_48_49 rfl (k1_ne_F (k_eq 0 0 rfl rfl (by omega))) ?_
  refine Bod.go dc_48_52 rfl ?_
  refine Bod.stat (r := []) dc_48_53 kr_48_123 (Or.inl rfl) (by rw [np_50]; rfl) (by rw [np_50]; rfl) (by rw [np_50]; exact Nat.le_of_ble_eq_true rfl) (Nat.le_of_ble_eq_true rfl) (signOne_ev (b := b) (by omega)) ?_
  show Bod _ _ _ _ [_] _ _ _
  refine Bod.eqI (nI c) (congrArg nI hc) ?_
  refine Bod.istn dc_48_56 (by rw [ml_48]; exact Nat.le_of_ble_eq_true rfl) ?_
  refine Bod.go dc_48_57 rfl ?_
  refine Bod.ifT dc_48_58 rfl (k1_ne_T (k_ne c 0 rfl rfl (by omega) (by omega) (by omega))) ?_
  refine Bod.go dc_48_66 rfl ?_
  refine Bod.go dc_48_67 rfl ?_
  refine Bod.get dc_48_68 fr_48_23 (mk_31 _) rfl ?_
  refine Bod.eqI (nI p) (by first | assumption | rfl | exact congrArg nI (by omega) | (simp (disch := omega) only [rI, rIe, rA, rIA, rLA, rJA, rVI, rQI, rVA, rQA, upd_at,  rAI, rLI, rJI, nI_add, pk_sub, kc_0, kc_1, kc_2, kc_3, kc_4, kc_5, reduceIte, Nat.reduceEqDiff, Nat.add_zero, rI_hold, rI_hold, rL_hold, hn, hp]; done)) ?_
  refine Bod.go dc_48_71 rfl ?_
  refine Bod.bip 22 (by decide) dc_48_72 ?_
  refine Bod.icF dc_48_74 rfl (k2_lt_F c 22 rfl rfl (by omega) (by omega)) ?_
  refine Bod.ic 2 (by decide) dc_48_77 ?_
  refine Bod.go dc_48_78 rfl ?_
  refine Bod.addN (p + 2) (by omega) dc_48_82 ?_
  refine Bod.put dc_48_83 fr_48_23 (mk_31 _) (Nat.le_of_ble_eq_true rfl) pf_3_3 (st_3103 _ _) (mu_I _ _ _) ?_
  refine Bod.go dc_48_86 rfl ?_
  refine Bod.go dc_48_87 rfl ?_
  refine Bod.put dc_48_88 fr_48_38 (mk_31 _) (Nat.le_of_ble_eq_true rfl) pf_3_5 (st_3105 _ _) (mu_I _ _ _) ?_
  exact Bod.retV dc_48_91 rt_48
theorem readSign_slash {d : Nat} {S : cS} {b : Nat} {n : Nat} {p : Nat} (hb : b < 256) (hn : sI S 3102 = nI n) (hp : sI S 3103 = nI p) (hpn : p < n) (hM : n ≤ 3000) (h47 : b = 47) (h2 : c_b S n (p + 1) = nI 47) : Ans (d + 2) 48 [.ref 31, .int (nI b)] S (none) (wI 3105 (nI 22) (wI 3103 (nI (p + 2)) S)) := by
  refine Ans.of (by rw [ml_48]; exact Nat.le_of_ble_eq_true rfl) ?_
  refine Bod.go dc_48_0 rfl ?_
  refine Bod.go dc_48_1 rfl ?_
  refine Bod.get dc_48_2 fr_48_23 (mk_31 _) rfl ?_
  refine Bod.eqI (nI p) (by first | assumption | rfl | exact congrArg nI (by omega) | (simp (disch := omega) only [rI, rIe, rA, rIA, rLA, rJA, rVI, rQI, rVA, rQA, upd_at,  rAI, rLI, rJI, nI_add, pk_sub, kc_0, kc_1, kc_2, kc_3, kc_4, kc_5, reduceIte, Nat.reduceEqDiff, Nat.add_zero, rI_hold, rI_hold, rL_hold, hn, hp]; done)) ?_
  refine Bod.ic 1 (by decide) dc_48_5 ?_
  refine Bod.addN (p + 1) (by omega) dc_48_6 ?_
  refine Bod.virt (r := []) dc_48_7 kr_48_50 ⟨Or.inl rfl, ow_38, cl_3⟩ (by rw [np_38]; rfl) (by rw [np_38]; rfl) (ob_of (mk_31 _)) (Nat.le_of_ble_eq_true rfl) (byteAt_b (n := n) (i := p + 1) (by first | assumption | rfl | exact congrArg nI (by omega) | (simp (disch := omega) only [rI, rIe, rA, rIA, rLA, rJA, rVI, rQI, rVA, rQA, upd_at,  rAI, rLI, rJI, nI_add, pk_sub, kc_0, kc_1, kc_2, kc_3, kc_4, kc_5, reduceIte, Nat.reduceEqDiff, Nat.add_zero, rI_hold, rI_hold, rL_hold, hn, hp]; done)) (by omega) (by omega)) ?_
  show Bod _ _ _ _ [_] _ _ _
  refine Bod.eqI (nI 47) h2 ?_
  refine Bod.bip 61 (by decide) dc_48_10 ?_
  refine Bod.icT dc_48_12 rfl (k2_ne_T (k_ne 47 61 rfl rfl (by omega) (by omega) (by omega))) ?_
  refine Bod.ic 0 (by decide) dc_48_22 ?_
  refine Bod.istn dc_48_23 (by rw [ml_48]; exact Nat.le_of_ble_eq_true rfl) ?_
  refine Bod.go dc_48_24 rfl ?_
  refine Bod.bip 47 (by decide) dc_48_25 ?_
  refine Bod.icF dc_48_27 rfl (k2_ne_F (k_eq b 47 rfl rfl (by omega))) ?_
  refine Bod.go dc_48_30 rfl ?_
  refine Bod.go dc_48_31 rfl ?_
  refine Bod.get dc_48_32 fr_48_23 (mk_31 _) rfl ?_
  refine Bod.eqI (nI p) (by first | assumption | rfl | exact congrArg nI (by omega) | (simp (disch := omega) only [rI, rIe, rA, rIA, rLA, rJA, rVI, rQI, rVA, rQA, upd_at,  rAI, rLI, rJI, nI_add, pk_sub, kc_0, kc_1, kc_2, kc_3, kc_4, kc_5, reduceIte, Nat.reduceEqDiff, Nat.add_zero, rI_hold, rI_hold, rL_hold, hn, hp]; done)) ?_
  refine Bod.ic 1 (by decide) dc_48_35 ?_
  refine Bod.addN (p + 1) (by omega) dc_48_36 ?_
  refine Bod.virt (r := []) dc_48_37 kr_48_50 ⟨Or.inl rfl, ow_38, cl_3⟩ (by rw [np_38]; rfl) (by rw [np_38]; rfl) (ob_of (mk_31 _)) (Nat.le_of_ble_eq_true rfl) (byteAt_b (n := n) (i := p + 1) (by first | assumption | rfl | exact congrArg nI (by omega) | (simp (disch := omega) only [rI, rIe, rA, rIA, rLA, rJA, rVI, rQI, rVA, rQA, upd_at,  rAI, rLI, rJI, nI_add, pk_sub, kc_0, kc_1, kc_2, kc_3, kc_4, kc_5, reduceIte, Nat.reduceEqDiff, Nat.add_zero, rI_hold, rI_hold, rL_hold, hn, hp]; done)) (by omega) (by omega)) ?_
  show Bod _ _ _ _ [_] _ _ _
  refine Bod.eqI (nI 47) h2 ?_
  refine Bod.bip 47 (by decide) dc_48_40 ?_
  refine Bod.icF dc_48_42 rfl (k2_ne_F (k_eq 47 47 rfl rfl (by omega))) ?_
  refine Bod.bip 22 (by decide) dc_48_45 ?_
  refine Bod.istn dc_48_47 (by rw [ml_48]; exact Nat.le_of_ble_eq_true rfl) ?_
  refine Bod.go dc_48_48 rfl ?_
  refine Bod.ifT dc_48_49 rfl (k1_ne_T (k_ne 22 0 rfl rfl (by omega) (by omega) (by omega))) ?_
  refine Bod.go dc_48_57 rfl ?_
  refine Bod.ifT dc_48_58 rfl (k1_ne_T (k_ne 22 0 rfl rfl (by omega) (by omega) (by omega))) ?_
  refine Bod.go dc_48_66 rfl ?_
  refine Bod.go dc_48_67 rfl ?_
  refine Bod.get dc_48_68 fr_48_23 (mk_31 _) rfl ?_
  refine Bod.eqI (nI p) (by first | assumption | rfl | exact congrArg nI (by omega) | (simp (disch := omega) only [rI, rIe, rA, rIA, rLA, rJA, rVI, rQI, rVA, rQA, upd_at,  rAI, rLI, rJI, nI_add, pk_sub, kc_0, kc_1, kc_2, kc_3, kc_4, kc_5, reduceIte, Nat.reduceEqDiff, Nat.add_zero, rI_hold, rI_hold, rL_hold, hn, hp]; done)) ?_
  refine Bod.go dc_48_71 rfl ?_
  refine Bod.bip 22 (by decide) dc_48_72 ?_
  refine Bod.icF dc_48_74 rfl (k2_lt_F 22 22 rfl rfl (by omega) (by omega)) ?_
  refine Bod.ic 2 (by decide) dc_48_77 ?_
  refine Bod.go dc_48_78 rfl ?_
  refine Bod.addN (p + 2) (by omega) dc_48_82 ?_
  refine Bod.put dc_48_83 fr_48_23 (mk_31 _) (Nat.le_of_ble_eq_true rfl) pf_3_3 (st_3103 _ _) (mu_I _ _ _) ?_
  refine Bod.go dc_48_86 rfl ?_
  refine Bod.go dc_48_87 rfl ?_
  refine Bod.put dc_48_88 fr_48_38 (mk_31 _) (Nat.le_of_ble_eq_true rfl) pf_3_5 (st_3105 _ _) (mu_I _ _ _) ?_
  exact Bod.retV dc_48_91 rt_48
theorem read_bad {d : Nat} {S : cS}  (ht : sI S 3105 = nI 0) : Ans (d + 1) 40 [.ref 31] S (none) (S) := by
  refine Ans.of (by rw [ml_40]; exact Nat.le_of_ble_eq_true rfl) ?_
  refine Bod.go dc_40_0 rfl ?_
  refine Bod.get dc_40_1 fr_40_38 (mk_31 _) rfl ?_
  refine Bod.eqI (nI 0) (by first | assumption | rfl | exact congrArg nI (by omega) | (simp (disch := omega) only [rI, rIe, rA, rIA, rLA, rJA, rVI, rQI, rVA, rQA, upd_at,  rAI, rLI, rJI, nI_add, pk_sub, kc_0, kc_1, kc_2, kc_3, kc_4, kc_5, reduceIte, Nat.reduceEqDiff, Nat.add_zero, rI_hold, rI_hold, rL_hold, ht]; done)) ?_
  refine Bod.ifF dc_40_4 rfl (k1_ne_F (k_eq 0 0 rfl rfl (by omega))) ?_
  exact Bod.retV dc_40_7 rt_40
/-- read, up to what the byte there decides: b, the state with position and start at p -/
theorem read_to {d n p0 p t : Nat} {S Sf : cS} (ht : sI S 3105 = nI t) (ht1 : 1 ≤ t) (ht2 : t < 100) (hn : sI S 3102 = nI n) (hM : n ≤ 3000) (hp0 : sI S 3103 = nI p0) (h0p : p0 ≤ p) (hpn : p ≤ n) (hb : ∀ x, p0 ≤ x → x < p → c_byte S x = 32) (he : p = n ∨ c_byte S p ≠ 32) (hD : Bod (d + 4) 40 29 [(1, .int (c_b S n p)), (0, .ref 31)] [] (wI 3104 (nI p) (wI 3103 (nI p) S)) none Sf) : Ans (d + 5) 40 [.ref 31] S none Sf := by
  refine Ans.of (by rw [ml_40]; exact Nat.le_of_ble_eq_true rfl) ?_
  refine Bod.go dc_40_0 rfl ?_
  refine Bod.get dc_40_1 fr_40_38 (mk_31 _) rfl ?_
  refine Bod.eqI (nI t) (by first | assumption | rfl | exact congrArg nI (by omega) | (simp (disch := omega) only [rI, rIe, rA, rIA, rLA, rJA, rVI, rQI, rVA, rQA, upd_at,  rAI, rLI, rJI, nI_add, pk_sub, kc_0, kc_1, kc_2, kc_3, kc_4, kc_5, reduceIte, Nat.reduceEqDiff, Nat.add_zero, rI_hold, rI_hold, rL_hold, hn, hp0, ht]; done)) ?_
  refine Bod.ifT dc_40_4 rfl (k1_ne_T (k_ne t 0 rfl rfl (by omega) (by omega) (by omega))) ?_
  refine Bod.go dc_40_8 rfl ?_
  refine Bod.virt (r := []) dc_40_9 kr_40_54 ⟨Or.inl rfl, ow_37, cl_3⟩ (by rw [np_37]; rfl) (by rw [np_37]; rfl) (ob_of (mk_31 _)) (Nat.le_of_ble_eq_true rfl) (skipBlanks_ev (n := n) (p := p0) (q := p) (by first | assumption | rfl | exact congrArg nI (by omega) | (simp (disch := omega) only [rI, rIe, rA, rIA, rLA, rJA, rVI, rQI, rVA, rQA, upd_at,  rAI, rLI, rJI, nI_add, pk_sub, kc_0, kc_1, kc_2, kc_3, kc_4, kc_5, reduceIte, Nat.reduceEqDiff, Nat.add_zero, rI_hold, rI_hold, rL_hold, hn, hp0, ht]; done)) (by first | assumption | rfl | exact congrArg nI (by omega) | (simp (disch := omega) only [rI, rIe, rA, rIA, rLA, rJA, rVI, rQI, rVA, rQA, upd_at,  rAI, rLI, rJI, nI_add, pk_sub, kc_0, kc_1, kc_2, kc_3, kc_4, kc_5, reduceIte, Nat.reduceEqDiff, Nat.add_zero, rI_hold, rI_hold, rL_hold, hn, hp0, ht]; done)) (by omega) (by omega) (by omega) hb he) ?_
  show Bod _ _ _ _ [] _ _ _
  refine Bod.go dc_40_12 rfl ?_
  refine Bod.go dc_40_13 rfl ?_
  refine Bod.get dc_40_14 fr_40_23 (mk_31 _) rfl ?_
  refine Bod.eqI (nI p) (by first | (simp (disch := omega) only [rI, rIe, rA, rIA, rLA, rJA, rVI, rQI, rVA, rQA, upd_at,  rAI, rLI, rJI, nI_add, pk_sub, kc_0, kc_1, kc_2, kc_3, kc_4, kc_5, reduceIte, Nat.reduceEqDiff, Nat.add_zero, rI_hold, rI_hold, rL_hold, hn, hp0, ht]; done) | (simp (disch := omega) only [rI, rIe, rA, rIA, rLA, rJA, rVI, rQI, rVA, rQA, upd_at,  rAI, rLI, rJI, nI_add, pk_sub, kc_0, kc_1, kc_2, kc_3, kc_4, kc_5, reduceIte, Nat.reduceEqDiff, Nat.add_zero, rI_hold, rI_hold, rL_hold, hn, hp0, ht]; exact congrArg nI (by omega))) ?_
  refine Bod.put dc_40_17 fr_40_60 (mk_31 _) (Nat.le_of_ble_eq_true rfl) pf_3_4 (st_3104 _ _) (mu_I _ _ _) ?_
  refine Bod.go dc_40_20 rfl ?_
  refine Bod.go dc_40_21 rfl ?_
  refine Bod.get dc_40_22 fr_40_23 (mk_31 _) rfl ?_
  refine Bod.eqI (nI p) (by first | (simp (disch := omega) only [rI, rIe, rA, rIA, rLA, rJA, rVI, rQI, rVA, rQA, upd_at,  rAI, rLI, rJI, nI_add, pk_sub, kc_0, kc_1, kc_2, kc_3, kc_4, kc_5, reduceIte, Nat.reduceEqDiff, Nat.add_zero, rI_hold, rI_hold, rL_hold, hn, hp0, ht]; done) | (simp (disch := omega) only [rI, rIe, rA, rIA, rLA, rJA, rVI, rQI, rVA, rQA, upd_at,  rAI, rLI, rJI, nI_add, pk_sub, kc_0, kc_1, kc_2, kc_3, kc_4, kc_5, reduceIte, Nat.reduceEqDiff, Nat.add_zero, rI_hold, rI_hold, rL_hold, hn, hp0, ht]; exact congrArg nI (by omega))) ?_
  refine Bod.virt (r := []) dc_40_25 kr_40_50 ⟨Or.inl rfl, ow_38, cl_3⟩ (by rw [np_38]; rfl) (by rw [np_38]; rfl) (ob_of (mk_31 _)) (Nat.le_of_ble_eq_true rfl) (byteAt_b (n := n) (i := p) (by first | (simp (disch := omega) only [rI, rIe, rA, rIA, rLA, rJA, rVI, rQI, rVA, rQA, upd_at,  rAI, rLI, rJI, nI_add, pk_sub, kc_0, kc_1, kc_2, kc_3, kc_4, kc_5, reduceIte, Nat.reduceEqDiff, Nat.add_zero, rI_hold, rI_hold, rL_hold, hn, hp0, ht]; done) | (simp (disch := omega) only [rI, rIe, rA, rIA, rLA, rJA, rVI, rQI, rVA, rQA, upd_at,  rAI, rLI, rJI, nI_add, pk_sub, kc_0, kc_1, kc_2, kc_3, kc_4, kc_5, reduceIte, Nat.reduceEqDiff, Nat.add_zero, rI_hold, rI_hold, rL_hold, hn, hp0, ht]; exact congrArg nI (by omega))) (by omega) (by omega)) ?_
  show Bod _ _ _ _ [_] _ _ _
  refine Bod.istn dc_40_28 (by rw [ml_40]; exact Nat.le_of_ble_eq_true rfl) ?_
  exact hD
theorem nI_nm1 {b : Nat} (h : b < 2 ^ 31) : nI b ≠ Int32.ofInt (-1) := fun e => by
  have h1 := nI_pos h
  rw [e] at h1
  exact h1 (by decide)
theorem read_endT {d b : Nat} {x : Int32} {S Sf : cS} (hx : x = Int32.ofInt (-1)) : Bod (d + 4) 40 29 [(1, .int x), (0, .ref 31)] [] S none (wI 3105 (nI 2) S) := by
  refine Bod.go dc_40_29 rfl ?_
  refine Bod.go dc_40_30 rfl ?_
  refine Bod.icT dc_40_31 rfl (k2_eq_T hx) ?_
  refine Bod.go dc_40_46 rfl ?_
  refine Bod.ic 2 (by decide) dc_40_47 ?_
  refine Bod.put dc_40_48 fr_40_38 (mk_31 _) (Nat.le_of_ble_eq_true rfl) pf_3_5 (st_3105 _ _) (mu_I _ _ _) ?_
  refine Bod.go dc_40_51 rfl ?_
  exact Bod.retV dc_40_100 rt_40
theorem read_nl {d b : Nat} {x : Int32} {S Sf : cS} (hx : x = nI 10) : Bod (d + 4) 40 29 [(1, .int x), (0, .ref 31)] [] S none (wI 3105 (nI 2) S) := by
  refine Bod.go dc_40_29 rfl ?_
  refine Bod.go dc_40_30 rfl ?_
  refine Bod.icF dc_40_31 rfl (k2_eq_F (by rw [hx]; exact nI_nm1 (by omega))) ?_
  refine Bod.go dc_40_34 rfl ?_
  refine Bod.eqI (nI 10) hx ?_
  refine Bod.bip 10 (by decide) dc_40_35 ?_
  refine Bod.icT dc_40_37 rfl (k2_eq_T (k_eq 10 10 rfl rfl (by omega))) ?_
  refine Bod.go dc_40_46 rfl ?_
  refine Bod.ic 2 (by decide) dc_40_47 ?_
  refine Bod.put dc_40_48 fr_40_38 (mk_31 _) (Nat.le_of_ble_eq_true rfl) pf_3_5 (st_3105 _ _) (mu_I _ _ _) ?_
  refine Bod.go dc_40_51 rfl ?_
  exact Bod.retV dc_40_100 rt_40
theorem read_hash {d b : Nat} {x : Int32} {S Sf : cS} (hx : x = nI 35) : Bod (d + 4) 40 29 [(1, .int x), (0, .ref 31)] [] S none (wI 3105 (nI 2) S) := by
  refine Bod.go dc_40_29 rfl ?_
  refine Bod.go dc_40_30 rfl ?_
  refine Bod.icF dc_40_31 rfl (k2_eq_F (by rw [hx]; exact nI_nm1 (by omega))) ?_
  refine Bod.go dc_40_34 rfl ?_
  refine Bod.eqI (nI 35) hx ?_
  refine Bod.bip 10 (by decide) dc_40_35 ?_
  refine Bod.icF dc_40_37 rfl (k2_eq_F (k_ne 35 10 rfl rfl (by omega) (by omega) (by omega))) ?_
  refine Bod.go dc_40_40 rfl ?_
  refine Bod.eqI (nI 35) hx ?_
  refine Bod.bip 35 (by decide) dc_40_41 ?_
  refine Bod.icF dc_40_43 rfl (k2_ne_F (k_eq 35 35 rfl rfl (by omega))) ?_
  refine Bod.go dc_40_46 rfl ?_
  refine Bod.ic 2 (by decide) dc_40_47 ?_
  refine Bod.put dc_40_48 fr_40_38 (mk_31 _) (Nat.le_of_ble_eq_true rfl) pf_3_5 (st_3105 _ _) (mu_I _ _ _) ?_
  refine Bod.go dc_40_51 rfl ?_
  exact Bod.retV dc_40_100 rt_40
theorem read_name {d b : Nat} {x : Int32} {S Sf : cS} (hx : x = nI b) (hb : b < 256) (h10 : b ≠ 10) (h35 : b ≠ 35) (hL : c_let b = true) (hC : Ans (d + 4) 42 [.ref 31] S none Sf) : Bod (d + 4) 40 29 [(1, .int x), (0, .ref 31)] [] S none (Sf) := by
  refine Bod.go dc_40_29 rfl ?_
  refine Bod.go dc_40_30 rfl ?_
  refine Bod.icF dc_40_31 rfl (k2_eq_F (by rw [hx]; exact nI_nm1 (by omega))) ?_
  refine Bod.go dc_40_34 rfl ?_
  refine Bod.eqI (nI b) hx ?_
  refine Bod.bip 10 (by decide) dc_40_35 ?_
  refine Bod.icF dc_40_37 rfl (k2_eq_F (k_ne b 10 rfl rfl (by omega) (by omega) (by omega))) ?_
  refine Bod.go dc_40_40 rfl ?_
  refine Bod.eqI (nI b) hx ?_
  refine Bod.bip 35 (by decide) dc_40_41 ?_
  refine Bod.icT dc_40_43 rfl (k2_ne_T (k_ne b 35 rfl rfl (by omega) (by omega) (by omega))) ?_
  refine Bod.go dc_40_54 rfl ?_
  refine Bod.eqI (nI b) hx ?_
  refine Bod.stat (r := []) dc_40_55 kr_40_63 (Or.inr rfl) (by rw [np_41]; rfl) (by rw [np_41]; rfl) (by rw [np_41]; exact Nat.le_of_ble_eq_true rfl) (Nat.le_of_ble_eq_true rfl) (isLetter_T (b := b) hL) ?_
  show Bod _ _ _ _ [_] _ _ _
  refine Bod.ifF dc_40_58 rfl (k1_eq_F (k_ne 1 0 rfl rfl (by omega) (by omega) (by omega))) ?_
  refine Bod.go dc_40_61 rfl ?_
  refine Bod.virt (r := []) dc_40_62 kr_40_67 ⟨Or.inl rfl, ow_42, cl_3⟩ (by rw [np_42]; rfl) (by rw [np_42]; rfl) (ob_of (mk_31 _)) (Nat.le_of_ble_eq_true rfl) (hC  ) ?_
  show Bod _ _ _ _ [] _ _ _
  refine Bod.go dc_40_65 rfl ?_
  exact Bod.retV dc_40_100 rt_40
theorem read_number {d b : Nat} {x : Int32} {S Sf : cS} (hx : x = nI b) (hb : b < 256) (h10 : b ≠ 10) (h35 : b ≠ 35) (hL : c_let b = false) (hG : c_dig b = true) (hC : Ans (d + 4) 45 [.ref 31] S none Sf) : Bod (d + 4) 40 29 [(1, .int x), (0, .ref 31)] [] S none (Sf) := by
  refine Bod.go dc_40_29 rfl ?_
  refine Bod.go dc_40_30 rfl ?_
  refine Bod.icF dc_40_31 rfl (k2_eq_F (by rw [hx]; exact nI_nm1 (by omega))) ?_
  refine Bod.go dc_40_34 rfl ?_
  refine Bod.eqI (nI b) hx ?_
  refine Bod.bip 10 (by decide) dc_40_35 ?_
  refine Bod.icF dc_40_37 rfl (k2_eq_F (k_ne b 10 rfl rfl (by omega) (by omega) (by omega))) ?_
  refine Bod.go dc_40_40 rfl ?_
  refine Bod.eqI (nI b) hx ?_
  refine Bod.bip 35 (by decide) dc_40_41 ?_
  refine Bod.icT dc_40_43 rfl (k2_ne_T (k_ne b 35 rfl rfl (by omega) (by omega) (by omega))) ?_
  refine Bod.go dc_40_54 rfl ?_
  refine Bod.eqI (nI b) hx ?_
  refine Bod.stat (r := []) dc_40_55 kr_40_63 (Or.inr rfl) (by rw [np_41]; rfl) (by rw [np_41]; rfl) (by rw [np_41]; exact Nat.le_of_ble_eq_true rfl) (Nat.le_of_ble_eq_true rfl) (isLetter_F (b := b) (by omega) hL) ?_
  show Bod _ _ _ _ [_] _ _ _
  refine Bod.ifT dc_40_58 rfl (k1_eq_T (k_eq 0 0 rfl rfl (by omega))) ?_
  refine Bod.go dc_40_68 rfl ?_
  refine Bod.eqI (nI b) hx ?_
  refine Bod.stat (r := []) dc_40_69 kr_40_70 (Or.inr rfl) (by rw [np_43]; rfl) (by rw [np_43]; rfl) (by rw [np_43]; exact Nat.le_of_ble_eq_true rfl) (Nat.le_of_ble_eq_true rfl) (isDigit_T (b := b) hG) ?_
  show Bod _ _ _ _ [_] _ _ _
  refine Bod.ifF dc_40_72 rfl (k1_eq_F (k_ne 1 0 rfl rfl (by omega) (by omega) (by omega))) ?_
  refine Bod.go dc_40_75 rfl ?_
  refine Bod.virt (r := []) dc_40_76 kr_40_73 ⟨Or.inl rfl, ow_45, cl_3⟩ (by rw [np_45]; rfl) (by rw [np_45]; rfl) (ob_of (mk_31 _)) (Nat.le_of_ble_eq_true rfl) (hC  ) ?_
  show Bod _ _ _ _ [] _ _ _
  refine Bod.go dc_40_79 rfl ?_
  exact Bod.retV dc_40_100 rt_40
theorem read_text {d b : Nat} {x : Int32} {S Sf : cS} (hx : x = nI b) (hb : b < 256) (h39 : b = 39) (hL : c_let b = false) (hG : c_dig b = false) (hC : Ans (d + 4) 46 [.ref 31] S none Sf) : Bod (d + 4) 40 29 [(1, .int x), (0, .ref 31)] [] S none (Sf) := by
  refine Bod.go dc_40_29 rfl ?_
  refine Bod.go dc_40_30 rfl ?_
  refine Bod.icF dc_40_31 rfl (k2_eq_F (by rw [hx]; exact nI_nm1 (by omega))) ?_
  refine Bod.go dc_40_34 rfl ?_
  refine Bod.eqI (nI b) hx ?_
  refine Bod.bip 10 (by decide) dc_40_35 ?_
  refine Bod.icF dc_40_37 rfl (k2_eq_F (k_ne b 10 rfl rfl (by omega) (by omega) (by omega))) ?_
  refine Bod.go dc_40_40 rfl ?_
  refine Bod.eqI (nI b) hx ?_
  refine Bod.bip 35 (by decide) dc_40_41 ?_
  refine Bod.icT dc_40_43 rfl (k2_ne_T (k_ne b 35 rfl rfl (by omega) (by omega) (by omega))) ?_
  refine Bod.go dc_40_54 rfl ?_
  refine Bod.eqI (nI b) hx ?_
  refine Bod.stat (r := []) dc_40_55 kr_40_63 (Or.inr rfl) (by rw [np_41]; rfl) (by rw [np_41]; rfl) (by rw [np_41]; exact Nat.le_of_ble_eq_true rfl) (Nat.le_of_ble_eq_true rfl) (isLetter_F (b := b) (by omega) hL) ?_
  show Bod _ _ _ _ [_] _ _ _
  refine Bod.ifT dc_40_58 rfl (k1_eq_T (k_eq 0 0 rfl rfl (by omega))) ?_
  refine Bod.go dc_40_68 rfl ?_
  refine Bod.eqI (nI b) hx ?_
  refine Bod.stat (r := []) dc_40_69 kr_40_70 (Or.inr rfl) (by rw [np_43]; rfl) (by rw [np_43]; rfl) (by rw [np_43]; exact Nat.le_of_ble_eq_true rfl) (Nat.le_of_ble_eq_true rfl) (isDigit_F (b := b) (by omega) hG) ?_
  show Bod _ _ _ _ [_] _ _ _
  refine Bod.ifT dc_40_72 rfl (k1_eq_T (k_eq 0 0 rfl rfl (by omega))) ?_
  refine Bod.go dc_40_82 rfl ?_
  refine Bod.eqI (nI b) hx ?_
  refine Bod.bip 39 (by decide) dc_40_83 ?_
  refine Bod.icF dc_40_85 rfl (k2_ne_F (k_eq b 39 rfl rfl (by omega))) ?_
  refine Bod.go dc_40_88 rfl ?_
  refine Bod.virt (r := []) dc_40_89 kr_40_76 ⟨Or.inl rfl, ow_46, cl_3⟩ (by rw [np_46]; rfl) (by rw [np_46]; rfl) (ob_of (mk_31 _)) (Nat.le_of_ble_eq_true rfl) (hC  ) ?_
  show Bod _ _ _ _ [] _ _ _
  refine Bod.go dc_40_92 rfl ?_
  exact Bod.retV dc_40_100 rt_40
theorem read_sign {d b : Nat} {x : Int32} {S Sf : cS} (hx : x = nI b) (hb : b < 256) (h10 : b ≠ 10) (h35 : b ≠ 35) (h39 : b ≠ 39) (hL : c_let b = false) (hG : c_dig b = false) (hC : Ans (d + 4) 48 [.ref 31, .int (nI b)] S none Sf) : Bod (d + 4) 40 29 [(1, .int x), (0, .ref 31)] [] S none (Sf) := by
  refine Bod.go dc_40_29 rfl ?_
  refine Bod.go dc_40_30 rfl ?_
  refine Bod.icF dc_40_31 rfl (k2_eq_F (by rw [hx]; exact nI_nm1 (by omega))) ?_
  refine Bod.go dc_40_34 rfl ?_
  refine Bod.eqI (nI b) hx ?_
  refine Bod.bip 10 (by decide) dc_40_35 ?_
  refine Bod.icF dc_40_37 rfl (k2_eq_F (k_ne b 10 rfl rfl (by omega) (by omega) (by omega))) ?_
  refine Bod.go dc_40_40 rfl ?_
  refine Bod.eqI (nI b) hx ?_
  refine Bod.bip 35 (by decide) dc_40_41 ?_
  refine Bod.icT dc_40_43 rfl (k2_ne_T (k_ne b 35 rfl rfl (by omega) (by omega) (by omega))) ?_
  refine Bod.go dc_40_54 rfl ?_
  refine Bod.eqI (nI b) hx ?_
  refine Bod.stat (r := []) dc_40_55 kr_40_63 (Or.inr rfl) (by rw [np_41]; rfl) (by rw [np_41]; rfl) (by rw [np_41]; exact Nat.le_of_ble_eq_true rfl) (Nat.le_of_ble_eq_true rfl) (isLetter_F (b := b) (by omega) hL) ?_
  show Bod _ _ _ _ [_] _ _ _
  refine Bod.ifT dc_40_58 rfl (k1_eq_T (k_eq 0 0 rfl rfl (by omega))) ?_
  refine Bod.go dc_40_68 rfl ?_
  refine Bod.eqI (nI b) hx ?_
  refine Bod.stat (r := []) dc_40_69 kr_40_70 (Or.inr rfl) (by rw [np_43]; rfl) (by rw [np_43]; rfl) (by rw [np_43]; exact Nat.le_of_ble_eq_true rfl) (Nat.le_of_ble_eq_true rfl) (isDigit_F (b := b) (by omega) hG) ?_
  show Bod _ _ _ _ [_] _ _ _
  refine Bod.ifT dc_40_72 rfl (k1_eq_T (k_eq 0 0 rfl rfl (by omega))) ?_
  refine Bod.go dc_40_82 rfl ?_
  refine Bod.eqI (nI b) hx ?_
  refine Bod.bip 39 (by decide) dc_40_83 ?_
  refine Bod.icT dc_40_85 rfl (k2_ne_T (k_ne b 39 rfl rfl (by omega) (by omega) (by omega))) ?_
  refine Bod.go dc_40_95 rfl ?_
  refine Bod.go dc_40_96 rfl ?_
  refine Bod.eqI (nI b) hx ?_
  refine Bod.virt (r := []) dc_40_97 kr_40_79 ⟨Or.inl rfl, ow_48, cl_3⟩ (by rw [np_48]; rfl) (by rw [np_48]; rfl) (ob_of (mk_31 _)) (Nat.le_of_ble_eq_true rfl) (hC  ) ?_
  show Bod _ _ _ _ [] _ _ _
  exact Bod.retV dc_40_100 rt_40
