/-! THE CLASS'S HEAP: rows filled, openFrame -/
theorem ml_258 : sm_ml 258 = 6 := by decide +kernel
theorem dc_259_0 : decode (sm_cc 259) 0 = .ok (.iload_n 1, 1) := by decide +kernel
theorem dc_259_1 : decode (sm_cc 259) 1 = .ok (.iload_n 2, 1) := by decide +kernel
theorem dc_259_2 : decode (sm_cc 259) 2 = .ok (.if_icmp .le (44), 3) := by decide +kernel
theorem dc_259_46 : decode (sm_cc 259) 46 = .ok (.iload_n 1, 1) := by decide +kernel
theorem dc_259_47 : decode (sm_cc 259) 47 = .ok (.ifCond .ge (12), 3) := by decide +kernel
theorem dc_259_59 : decode (sm_cc 259) 59 = .ok (.iload_n 2, 1) := by decide +kernel
theorem dc_259_60 : decode (sm_cc 259) 60 = .ok (.iload_n 0, 1) := by decide +kernel
theorem dc_259_61 : decode (sm_cc 259) 61 = .ok (.if_icmp .le (12), 3) := by decide +kernel
theorem dc_259_73 : decode (sm_cc 259) 73 = .ok (.return_, 1) := by decide +kernel
theorem rt_259 : sm_rt 259 = none := by decide +kernel
theorem ml_259 : sm_ml 259 = 3 := by decide +kernel
theorem dc_258_10 : decode (sm_cc 258) 10 = .ok (.iload 5, 2) := by decide +kernel
theorem dc_258_12 : decode (sm_cc 258) 12 = .ok (.iload_n 2, 1) := by decide +kernel
theorem dc_258_13 : decode (sm_cc 258) 13 = .ok (.if_icmp .ge (14), 3) := by decide +kernel
theorem dc_258_16 : decode (sm_cc 258) 16 = .ok (.aload_n 0, 1) := by decide +kernel
theorem dc_258_17 : decode (sm_cc 258) 17 = .ok (.iload 5, 2) := by decide +kernel
theorem dc_258_19 : decode (sm_cc 258) 19 = .ok (.lload_n 3, 1) := by decide +kernel
theorem dc_258_20 : decode (sm_cc 258) 20 = .ok (.lastore, 1) := by decide +kernel
theorem dc_258_21 : decode (sm_cc 258) 21 = .ok (.iinc 5 (1), 3) := by decide +kernel
theorem dc_258_24 : decode (sm_cc 258) 24 = .ok (.goto (-14), 3) := by decide +kernel
theorem dc_258_27 : decode (sm_cc 258) 27 = .ok (.return_, 1) := by decide +kernel
theorem rt_258 : sm_rt 258 = none := by decide +kernel
theorem dc_258_0 : decode (sm_cc 258) 0 = .ok (.aload_n 0, 1) := by decide +kernel
theorem dc_258_1 : decode (sm_cc 258) 1 = .ok (.arraylength, 1) := by decide +kernel
theorem dc_258_2 : decode (sm_cc 258) 2 = .ok (.iload_n 1, 1) := by decide +kernel
theorem dc_258_3 : decode (sm_cc 258) 3 = .ok (.iload_n 2, 1) := by decide +kernel
theorem dc_258_4 : decode (sm_cc 258) 4 = .ok (.invokestatic 13, 3) := by decide +kernel
theorem kr_258_13 : sm_at mt_k (sm_ow 258) 13 = some (13, 2, 259, 0, 1966) := by decide +kernel
theorem np_259 : sm_np 259 = 3 := by decide +kernel
theorem dc_258_7 : decode (sm_cc 258) 7 = .ok (.iload_n 1, 1) := by decide +kernel
theorem dc_258_8 : decode (sm_cc 258) 8 = .ok (.istore 5, 2) := by decide +kernel
theorem dc_257_0 : decode (sm_cc 257) 0 = .ok (.iload_n 1, 1) := by decide +kernel
theorem dc_257_1 : decode (sm_cc 257) 1 = .ok (.invokestatic 65, 3) := by decide +kernel
theorem kr_257_65 : sm_at mt_k (sm_ow 257) 65 = some (65, 2, 139, 0, 1392) := by decide +kernel
theorem dc_257_4 : decode (sm_cc 257) 4 = .ok (.ifCond .eq (14), 3) := by decide +kernel
theorem dc_257_7 : decode (sm_cc 257) 7 = .ok (.iload_n 2, 1) := by decide +kernel
theorem dc_257_8 : decode (sm_cc 257) 8 = .ok (.ifCond .lt (10), 3) := by decide +kernel
theorem dc_257_11 : decode (sm_cc 257) 11 = .ok (.iload_n 2, 1) := by decide +kernel
theorem dc_257_12 : decode (sm_cc 257) 12 = .ok (.sipush (300), 3) := by decide +kernel
theorem dc_257_15 : decode (sm_cc 257) 15 = .ok (.if_icmp .le (4), 3) := by decide +kernel
theorem dc_257_19 : decode (sm_cc 257) 19 = .ok (.aload_n 0, 1) := by decide +kernel
theorem dc_257_20 : decode (sm_cc 257) 20 = .ok (.iload_n 1, 1) := by decide +kernel
theorem dc_257_21 : decode (sm_cc 257) 21 = .ok (.iconst 2, 1) := by decide +kernel
theorem dc_257_22 : decode (sm_cc 257) 22 = .ok (.iload_n 2, 1) := by decide +kernel
theorem dc_257_23 : decode (sm_cc 257) 23 = .ok (.imul, 1) := by decide +kernel
theorem dc_257_24 : decode (sm_cc 257) 24 = .ok (.invokevirtual 112, 3) := by decide +kernel
theorem kr_257_112 : sm_at mt_k (sm_ow 257) 112 = some (112, 0, 185, 0, 1591) := by decide +kernel
theorem dc_257_27 : decode (sm_cc 257) 27 = .ok (.aload_n 0, 1) := by decide +kernel
theorem dc_257_28 : decode (sm_cc 257) 28 = .ok (.getfield 38, 3) := by decide +kernel
theorem fr_257_38 : sm_at mt_f (sm_ow 257) 38 = some (38, 2, 8, 0, 384) := by decide +kernel
theorem dc_257_31 : decode (sm_cc 257) 31 = .ok (.iload_n 1, 1) := by decide +kernel
theorem dc_257_32 : decode (sm_cc 257) 32 = .ok (.aaload, 1) := by decide +kernel
theorem dc_257_33 : decode (sm_cc 257) 33 = .ok (.ifnull (16), 3) := by decide +kernel
theorem dc_257_36 : decode (sm_cc 257) 36 = .ok (.aload_n 0, 1) := by decide +kernel
theorem dc_257_37 : decode (sm_cc 257) 37 = .ok (.getfield 38, 3) := by decide +kernel
theorem dc_257_40 : decode (sm_cc 257) 40 = .ok (.iload_n 1, 1) := by decide +kernel
theorem dc_257_41 : decode (sm_cc 257) 41 = .ok (.aaload, 1) := by decide +kernel
theorem dc_257_42 : decode (sm_cc 257) 42 = .ok (.arraylength, 1) := by decide +kernel
theorem dc_257_43 : decode (sm_cc 257) 43 = .ok (.iconst 2, 1) := by decide +kernel
theorem dc_257_44 : decode (sm_cc 257) 44 = .ok (.iload_n 2, 1) := by decide +kernel
theorem dc_257_45 : decode (sm_cc 257) 45 = .ok (.imul, 1) := by decide +kernel
theorem dc_257_46 : decode (sm_cc 257) 46 = .ok (.if_icmp .ge (4), 3) := by decide +kernel
theorem dc_257_50 : decode (sm_cc 257) 50 = .ok (.aload_n 0, 1) := by decide +kernel
theorem dc_257_51 : decode (sm_cc 257) 51 = .ok (.getfield 38, 3) := by decide +kernel
theorem dc_257_54 : decode (sm_cc 257) 54 = .ok (.iload_n 1, 1) := by decide +kernel
theorem dc_257_55 : decode (sm_cc 257) 55 = .ok (.aaload, 1) := by decide +kernel
theorem dc_257_56 : decode (sm_cc 257) 56 = .ok (.iconst 0, 1) := by decide +kernel
theorem dc_257_57 : decode (sm_cc 257) 57 = .ok (.iconst 2, 1) := by decide +kernel
theorem dc_257_58 : decode (sm_cc 257) 58 = .ok (.iload_n 2, 1) := by decide +kernel
theorem dc_257_59 : decode (sm_cc 257) 59 = .ok (.imul, 1) := by decide +kernel
theorem dc_257_60 : decode (sm_cc 257) 60 = .ok (.lconst 0, 1) := by decide +kernel
theorem dc_257_61 : decode (sm_cc 257) 61 = .ok (.invokestatic 135, 3) := by decide +kernel
theorem kr_257_135 : sm_at mt_k (sm_ow 257) 135 = some (135, 2, 258, 0, 1963) := by decide +kernel
theorem np_258 : sm_np 258 = 4 := by decide +kernel
theorem dc_257_64 : decode (sm_cc 257) 64 = .ok (.aload_n 0, 1) := by decide +kernel
theorem dc_257_65 : decode (sm_cc 257) 65 = .ok (.getfield 33, 3) := by decide +kernel
theorem fr_257_33 : sm_at mt_f (sm_ow 257) 33 = some (33, 2, 7, 0, 383) := by decide +kernel
theorem dc_257_68 : decode (sm_cc 257) 68 = .ok (.iload_n 1, 1) := by decide +kernel
theorem dc_257_69 : decode (sm_cc 257) 69 = .ok (.iload_n 2, 1) := by decide +kernel
theorem dc_257_70 : decode (sm_cc 257) 70 = .ok (.iastore, 1) := by decide +kernel
theorem dc_257_71 : decode (sm_cc 257) 71 = .ok (.return_, 1) := by decide +kernel
theorem rt_257 : sm_rt 257 = none := by decide +kernel
theorem ml_257 : sm_ml 257 = 3 := by decide +kernel
theorem dc_257_49 : decode (sm_cc 257) 49 = .ok (.return_, 1) := by decide +kernel
theorem rangeCheck_ok {d : Nat} {S : cS} {x : Nat} {y : Nat} {N : Nat} (h1 : x ≤ y) (h2 : y ≤ N) (hN : N < 2 ^ 31) : Ans (d + 1) 259 [.int (nI N), .int (nI x), .int (nI y)] S (none) (S) := by
  refine Ans.of (by rw [ml_259]; exact Nat.le_of_ble_eq_true rfl) ?_
  refine Bod.go dc_259_0 rfl ?_
  refine Bod.go dc_259_1 rfl ?_
  refine Bod.icT dc_259_2 rfl (k2_le_T x y rfl rfl (by omega) (by omega)) ?_
  refine Bod.go dc_259_46 rfl ?_
  refine Bod.ifT dc_259_47 rfl (k1_ge_T x rfl (by omega)) ?_
  refine Bod.go dc_259_59 rfl ?_
  refine Bod.go dc_259_60 rfl ?_
  refine Bod.icT dc_259_61 rfl (k2_le_T y N rfl rfl (by omega) (by omega)) ?_
  exact Bod.retV dc_259_73 rt_259
theorem rfill_turn {d : Nat} {S Sf : cS} {lv : sm_L} {a N n i : Nat} (q0 : sm_get lv 0 = some (.ref a)) (q2 : sm_get lv 2 = some (.int (nI n))) (q3 : sm_get lv 3 = some (.long 0)) (q5 : sm_get lv 5 = some (.int (nI i))) (ha : 108 ≤ a) (hs : (sS S)[a - 108]? = some (1, N)) (hN : N < 2 ^ 31) (hn : n ≤ N) (hi : i < n) (hB : ∀ lv1 : sm_L, sm_get lv1 0 = some (.ref a) → sm_get lv1 2 = some (.int (nI n)) → sm_get lv1 3 = some (.long 0) → sm_get lv1 5 = some (.int (nI (i + 1))) → Bod d 258 10 lv1 [] (wL a i 0 S) none Sf) : Bod d 258 10 lv [] S none Sf := by
  refine Bod.ildG dc_258_10 (by repeat (first | exact q5 | exact sm_get_p1 | exact sm_get_p2e | refine sm_get_p1m (by decide) (by decide) ?_ | refine sm_get_p1n (by decide) rfl ?_ | refine sm_get_p2n (by decide) (by decide) rfl ?_)) ?_
  refine Bod.ildnG dc_258_12 (by repeat (first | exact q2 | exact sm_get_p1 | exact sm_get_p2e | refine sm_get_p1m (by decide) (by decide) ?_ | refine sm_get_p1n (by decide) rfl ?_ | refine sm_get_p2n (by decide) (by decide) rfl ?_)) ?_
  refine Bod.icF dc_258_13 rfl (k2_ge_F i n rfl rfl (by omega) (by omega)) ?_
  refine Bod.aldnG dc_258_16 (by repeat (first | exact q0 | exact sm_get_p1 | exact sm_get_p2e | refine sm_get_p1m (by decide) (by decide) ?_ | refine sm_get_p1n (by decide) rfl ?_ | refine sm_get_p2n (by decide) (by decide) rfl ?_)) ?_
  refine Bod.ildG dc_258_17 (by repeat (first | exact q5 | exact sm_get_p1 | exact sm_get_p2e | refine sm_get_p1m (by decide) (by decide) ?_ | refine sm_get_p1n (by decide) rfl ?_ | refine sm_get_p2n (by decide) (by decide) rfl ?_)) ?_
  refine Bod.lldnG dc_258_19 (by repeat (first | exact q3 | exact sm_get_p1 | exact sm_get_p2e | refine sm_get_p1m (by decide) (by decide) ?_ | refine sm_get_p1n (by decide) rfl ?_ | refine sm_get_p2n (by decide) (by decide) rfl ?_)) ?_
  refine Bod.lastN (N := N) i rfl (by omega) (by omega) dc_258_20 (mk_row ha hs) (sa_row ha hs) (mu_L _ _ _ _) ?_
  refine Bod.incN (i + 1) (by rw [kc_1, nI_add]) dc_258_21 (by rw [ml_258]; exact Nat.le_of_ble_eq_true rfl) (by repeat (first | exact q5 | exact sm_get_p1 | exact sm_get_p2e | refine sm_get_p1m (by decide) (by decide) ?_ | refine sm_get_p1n (by decide) rfl ?_ | refine sm_get_p2n (by decide) (by decide) rfl ?_)) ?_
  refine Bod.go dc_258_24 rfl ?_
  exact hB _ (by repeat (first | exact q0 | exact sm_get_p1 | exact sm_get_p2e | refine sm_get_p1m (by decide) (by decide) ?_ | refine sm_get_p1n (by decide) rfl ?_ | refine sm_get_p2n (by decide) (by decide) rfl ?_)) (by repeat (first | exact q2 | exact sm_get_p1 | exact sm_get_p2e | refine sm_get_p1m (by decide) (by decide) ?_ | refine sm_get_p1n (by decide) rfl ?_ | refine sm_get_p2n (by decide) (by decide) rfl ?_)) (by repeat (first | exact q3 | exact sm_get_p1 | exact sm_get_p2e | refine sm_get_p1m (by decide) (by decide) ?_ | refine sm_get_p1n (by decide) rfl ?_ | refine sm_get_p2n (by decide) (by decide) rfl ?_)) (by repeat (first | exact q0 | exact sm_get_p1 | exact sm_get_p2e | refine sm_get_p1m (by decide) (by decide) ?_ | refine sm_get_p1n (by decide) rfl ?_ | refine sm_get_p2n (by decide) (by decide) rfl ?_))
theorem rfill_end {d : Nat} {S : cS} {lv : sm_L} {a N n i : Nat} (q0 : sm_get lv 0 = some (.ref a)) (q2 : sm_get lv 2 = some (.int (nI n))) (q3 : sm_get lv 3 = some (.long 0)) (q5 : sm_get lv 5 = some (.int (nI i))) (ha : 108 ≤ a) (hs : (sS S)[a - 108]? = some (1, N)) (hN : N < 2 ^ 31) (hn : n ≤ N) (hi : n ≤ i) (hi2 : i < 2 ^ 31) : Bod d 258 10 lv [] S none S := by
  refine Bod.ildG dc_258_10 (by repeat (first | exact q5 | exact sm_get_p1 | exact sm_get_p2e | refine sm_get_p1m (by decide) (by decide) ?_ | refine sm_get_p1n (by decide) rfl ?_ | refine sm_get_p2n (by decide) (by decide) rfl ?_)) ?_
  refine Bod.ildnG dc_258_12 (by repeat (first | exact q2 | exact sm_get_p1 | exact sm_get_p2e | refine sm_get_p1m (by decide) (by decide) ?_ | refine sm_get_p1n (by decide) rfl ?_ | refine sm_get_p2n (by decide) (by decide) rfl ?_)) ?_
  refine Bod.icT dc_258_13 rfl (k2_ge_T i n rfl rfl (by omega) (by omega)) ?_
  exact Bod.retV dc_258_27 rt_258
theorem rfill_0 {d : Nat} {S Sf : cS} {a N n : Nat} (ha : 108 ≤ a) (hs : (sS S)[a - 108]? = some (1, N)) (hN : N < 2 ^ 31) (hn : n ≤ N) (hB : ∀ lv1 : sm_L, sm_get lv1 0 = some (.ref a) → sm_get lv1 2 = some (.int (nI n)) → sm_get lv1 3 = some (.long 0) → sm_get lv1 5 = some (.int (nI 0)) → Bod (d + 1) 258 10 lv1 [] S none Sf) : Ans (d + 2) 258 [.ref a, .int (nI 0), .int (nI n), .long 0] S none Sf := by
  refine Ans.of (by rw [ml_258]; exact Nat.le_of_ble_eq_true rfl) ?_
  refine Bod.go dc_258_0 rfl ?_
  refine Bod.alenN (N := N) dc_258_1 (mk_row ha hs) el_1 ?_
  refine Bod.go dc_258_2 rfl ?_
  refine Bod.go dc_258_3 rfl ?_
  refine Bod.stat (r := []) dc_258_4 kr_258_13 (Or.inl rfl) (by rw [np_259]; rfl) (by rw [np_259]; rfl) (by rw [np_259]; exact Nat.le_of_ble_eq_true rfl) (Nat.le_of_ble_eq_true rfl) (rangeCheck_ok (x := 0) (y := n) (N := N) (by omega) (by omega) (by omega)) ?_
  show Bod _ _ _ _ [] _ _ _
  refine Bod.go dc_258_7 rfl ?_
  refine Bod.ist dc_258_8 (by rw [ml_258]; exact Nat.le_of_ble_eq_true rfl) ?_
  exact hB _ rfl rfl rfl rfl
/-- the first n longs of a row are 0 -/
def fz (a n : Nat) (S : cS) : cS := wG a (fun j => if j < n then 0 else sL S a j) S
theorem fz_0 (a : Nat) (S : cS) : fz a 0 S = S := by
  unfold fz wG
  have e : (fun b => if b = a then (fun j => if j < 0 then (0 : Int64) else sL S a j) else sL S b) = S.2.2.2.1 := by
    funext b j
    by_cases h : b = a
    · rw [if_pos h, if_neg (Nat.not_lt_zero _), h]; rfl
    · rw [if_neg h]; rfl
  rw [e]
theorem fz_s (a n : Nat) (S : cS) : wL a n 0 (fz a n S) = fz a (n + 1) S := by
  unfold fz wG wL
  have e : (fun b => if b = a then vp_updL (sL (fz a n S) a) n 0 else sL (fz a n S) b) = (fun b => if b = a then (fun j => if j < n + 1 then (0 : Int64) else sL S a j) else sL S b) := by
    funext b j
    by_cases h : b = a
    · rw [if_pos h, if_pos h]
      show (if j = n then (0 : Int64) else sL (fz a n S) a j) = _
      have e2 : sL (fz a n S) a j = if j < n then 0 else sL S a j := by
        unfold fz
        rw [rG, if_pos rfl]
      rw [e2]
      by_cases h1 : j = n
      · rw [if_pos h1, if_pos (by omega)]
      · rw [if_neg h1]
        by_cases h2 : j < n
        · rw [if_pos h2, if_pos (by omega)]
        · rw [if_neg h2, if_neg (by omega)]
    · rw [if_neg h, if_neg h]
      unfold fz
      rw [rG, if_neg h]
  show (_, _, _, (fun b => if b = a then vp_updL (sL (fz a n S) a) n 0 else sL (fz a n S) b), _) = _
  rw [e]
theorem rfill_L {d a N n : Nat} {S : cS} (ha : 108 ≤ a) (hs : (sS S)[a - 108]? = some (1, N)) (hN : N < 2 ^ 31) (hn : n ≤ N) : ∀ (r i : Nat), i + r = n → ∀ lv : sm_L, sm_get lv 0 = some (.ref a) → sm_get lv 2 = some (.int (nI n)) → sm_get lv 3 = some (.long 0) → sm_get lv 5 = some (.int (nI i)) → Bod d 258 10 lv [] (fz a i S) none (fz a n S) := by
  intro r
  induction r with
  | zero =>
    intro i hi lv q0 q2 q3 q5
    obtain rfl : i = n := by omega
    exact rfill_end q0 q2 q3 q5 ha (S := fz a i S) hs hN hn (Nat.le_refl _) (by omega)
  | succ r ih =>
    intro i hi lv q0 q2 q3 q5
    refine rfill_turn (S := fz a i S) q0 q2 q3 q5 ha hs hN hn (by omega) (fun lv1 p0 p2 p3 p5 => ?_)
    rw [fz_s]
    exact ih (i + 1) (by omega) lv1 p0 p2 p3 p5
theorem rfill_T {d a N n : Nat} {S : cS} (ha : 108 ≤ a) (hs : (sS S)[a - 108]? = some (1, N)) (hN : N < 2 ^ 31) (hn : n ≤ N) : Ans (d + 2) 258 [.ref a, .int (nI 0), .int (nI n), .long 0] S none (fz a n S) := rfill_0 ha hs hN hn (fun lv1 q0 q2 q3 q5 => by
  have := rfill_L (d := d + 1) ha hs hN hn n 0 (by omega) lv1 q0 q2 q3 q5
  rw [fz_0] at this
  exact this)
theorem openG {d : Nat} {S : cS} {k : Nat} {n : Nat} {a : Nat} {N : Nat} {W0 : cS} (h0 : 1 ≤ k) (hk : k ≤ 1500) (hn : n ≤ 300) (hr : sQ W0 11 k = some a) (ha : 108 ≤ a) (hs : (sS W0)[a - 108]? = some (1, N)) (hN : N < 2 ^ 31) (hf : 2 * n ≤ N) (hG : Ans (d + 3) 185 [.ref 2, .int (nI k), .int (nI (2 * n))] S none W0) : Ans (d + 4) 257 [.ref 2, .int (nI k), .int (nI n)] S (none) (wA 10 k (nI n) (fz a (2 * n) W0)) := by
  refine Ans.of (by rw [ml_257]; exact Nat.le_of_ble_eq_true rfl) ?_
  refine Bod.go dc_257_0 rfl ?_
  refine Bod.stat (r := []) dc_257_1 kr_257_65 (Or.inl rfl) (by rw [np_139]; rfl) (by rw [np_139]; rfl) (by rw [np_139]; exact Nat.le_of_ble_eq_true rfl) (Nat.le_of_ble_eq_true rfl) (isId_T (k := k) (by omega) (by omega)) ?_
  show Bod _ _ _ _ [_] _ _ _
  refine Bod.ifF dc_257_4 rfl (k1_eq_F (k_ne 1 0 rfl rfl (by omega) (by omega) (by omega))) ?_
  refine Bod.go dc_257_7 rfl ?_
  refine Bod.ifF dc_257_8 rfl (k1_lt_F n rfl (by omega)) ?_
  refine Bod.go dc_257_11 rfl ?_
  refine Bod.sip 300 (by decide) dc_257_12 ?_
  refine Bod.icT dc_257_15 rfl (k2_le_T n 300 rfl rfl (by omega) (by omega)) ?_
  refine Bod.go dc_257_19 rfl ?_
  refine Bod.go dc_257_20 rfl ?_
  refine Bod.ic 2 (by decide) dc_257_21 ?_
  refine Bod.go dc_257_22 rfl ?_
  refine Bod.mulN (2 * n) (by omega) dc_257_23 ?_
  refine Bod.virt (r := []) dc_257_24 kr_257_112 ⟨Or.inl rfl, ow_185, cl_2⟩ (by rw [np_185]; rfl) (by rw [np_185]; rfl) (ob_of (mk_2 _)) (Nat.le_of_ble_eq_true rfl) (hG  ) ?_
  show Bod _ _ _ _ [] _ _ _
  refine Bod.go dc_257_27 rfl ?_
  refine Bod.get dc_257_28 fr_257_38 (mk_2 _) rfl ?_
  refine Bod.go dc_257_31 rfl ?_
  refine Bod.aaldR (N := 1501) (b := a) k rfl (by omega) (by omega) hr dc_257_32 (mk_11 _) ht_4 ?_
  refine Bod.go dc_257_33 rfl ?_
  refine Bod.go dc_257_36 rfl ?_
  refine Bod.get dc_257_37 fr_257_38 (mk_2 _) rfl ?_
  refine Bod.go dc_257_40 rfl ?_
  refine Bod.aaldR (N := 1501) (b := a) k rfl (by omega) (by omega) hr dc_257_41 (mk_11 _) ht_4 ?_
  refine Bod.alenN (N := N) dc_257_42 (mk_row ha hs) el_1 ?_
  refine Bod.ic 2 (by decide) dc_257_43 ?_
  refine Bod.go dc_257_44 rfl ?_
  refine Bod.mulN (2 * n) (by omega) dc_257_45 ?_
  refine Bod.icT dc_257_46 rfl (k2_ge_T N (2 * n) rfl rfl (by omega) (by omega)) ?_
  refine Bod.go dc_257_50 rfl ?_
  refine Bod.get dc_257_51 fr_257_38 (mk_2 _) rfl ?_
  refine Bod.go dc_257_54 rfl ?_
  refine Bod.aaldR (N := 1501) (b := a) k rfl (by omega) (by omega) hr dc_257_55 (mk_11 _) ht_4 ?_
  refine Bod.ic 0 (by decide) dc_257_56 ?_
  refine Bod.ic 2 (by decide) dc_257_57 ?_
  refine Bod.go dc_257_58 rfl ?_
  refine Bod.mulN (2 * n) (by omega) dc_257_59 ?_
  refine Bod.go dc_257_60 rfl ?_
  refine Bod.stat (r := []) dc_257_61 kr_257_135 (Or.inl rfl) (by rw [np_258]; rfl) (by rw [np_258]; rfl) (by rw [np_258]; exact Nat.le_of_ble_eq_true rfl) (Nat.le_of_ble_eq_true rfl) (rfill_T (a := a) (N := N) (n := 2 * n) ha hs (by omega) (by omega)) ?_
  show Bod _ _ _ _ [] _ _ _
  refine Bod.go dc_257_64 rfl ?_
  refine Bod.get dc_257_65 fr_257_33 (mk_2 _) rfl ?_
  refine Bod.go dc_257_68 rfl ?_
  refine Bod.go dc_257_69 rfl ?_
  refine Bod.iastN k rfl (by omega) (by omega) dc_257_70 (mk_10 _) (sa_10 _ _ _) (mu_A _ _ _ _) ?_
  exact Bod.retV dc_257_71 rt_257
theorem growRow_0 {d : Nat} {S : cS} {k : Nat} (h0 : 1 ≤ k) (hk : k ≤ 1500) (hr : sQ S 11 k = none) : Ans (d + 2) 185 [.ref 2, .int (nI k), .int (nI 0)] S (none) (S) := by
  refine Ans.of (by rw [ml_185]; exact Nat.le_of_ble_eq_true rfl) ?_
  refine Bod.go dc_185_0 rfl ?_
  refine Bod.stat (r := []) dc_185_1 kr_185_65 (Or.inl rfl) (by rw [np_139]; rfl) (by rw [np_139]; rfl) (by rw [np_139]; exact Nat.le_of_ble_eq_true rfl) (Nat.le_of_ble_eq_true rfl) (isId_T (k := k) (by omega) (by omega)) ?_
  show Bod _ _ _ _ [_] _ _ _
  refine Bod.ifF dc_185_4 rfl (k1_eq_F (k_ne 1 0 rfl rfl (by omega) (by omega) (by omega))) ?_
  refine Bod.go dc_185_7 rfl ?_
  refine Bod.sip 600 (by decide) dc_185_8 ?_
  refine Bod.icT dc_185_11 rfl (k2_le_T 0 600 rfl rfl (by omega) (by omega)) ?_
  refine Bod.go dc_185_15 rfl ?_
  refine Bod.get dc_185_16 fr_185_38 (mk_2 _) rfl ?_
  refine Bod.go dc_185_19 rfl ?_
  refine Bod.aald0 k rfl (by omega) (by omega) (f := _) (N := 1501) hr dc_185_20 (mk_11 _) ht_4 ?_
  refine Bod.go dc_185_21 rfl ?_
  refine Bod.ic 0 (by decide) dc_185_24 ?_
  refine Bod.go dc_185_25 rfl ?_
  refine Bod.istn dc_185_35 (by rw [ml_185]; exact Nat.le_of_ble_eq_true rfl) ?_
  refine Bod.go dc_185_36 rfl ?_
  refine Bod.go dc_185_37 rfl ?_
  refine Bod.icF dc_185_38 rfl (k2_gt_F 0 0 rfl rfl (by omega) (by omega)) ?_
  exact Bod.retV dc_185_41 rt_185
theorem openN {d : Nat} {S : cS} {k : Nat} (h0 : 1 ≤ k) (hk : k ≤ 1500) (hr : sQ S 11 k = none) (hGn : Ans (d + 3) 185 [.ref 2, .int (nI k), .int (nI 0)] S none S) : Ans (d + 4) 257 [.ref 2, .int (nI k), .int (nI 0)] S (none) (S) := by
  refine Ans.of (by rw [ml_257]; exact Nat.le_of_ble_eq_true rfl) ?_
  refine Bod.go dc_257_0 rfl ?_
  refine Bod.stat (r := []) dc_257_1 kr_257_65 (Or.inl rfl) (by rw [np_139]; rfl) (by rw [np_139]; rfl) (by rw [np_139]; exact Nat.le_of_ble_eq_true rfl) (Nat.le_of_ble_eq_true rfl) (isId_T (k := k) (by omega) (by omega)) ?_
  show Bod _ _ _ _ [_] _ _ _
  refine Bod.ifF dc_257_4 rfl (k1_eq_F (k_ne 1 0 rfl rfl (by omega) (by omega) (by omega))) ?_
  refine Bod.go dc_257_7 rfl ?_
  refine Bod.ifF dc_257_8 rfl (k1_lt_F 0 rfl (by omega)) ?_
  refine Bod.go dc_257_11 rfl ?_
  refine Bod.sip 300 (by decide) dc_257_12 ?_
  refine Bod.icT dc_257_15 rfl (k2_le_T 0 300 rfl rfl (by omega) (by omega)) ?_
  refine Bod.go dc_257_19 rfl ?_
  refine Bod.go dc_257_20 rfl ?_
  refine Bod.ic 2 (by decide) dc_257_21 ?_
  refine Bod.go dc_257_22 rfl ?_
  refine Bod.mulN 0 (by omega) dc_257_23 ?_
  refine Bod.virt (r := []) dc_257_24 kr_257_112 ⟨Or.inl rfl, ow_185, cl_2⟩ (by rw [np_185]; rfl) (by rw [np_185]; rfl) (ob_of (mk_2 _)) (Nat.le_of_ble_eq_true rfl) (hGn  ) ?_
  show Bod _ _ _ _ [] _ _ _
  refine Bod.go dc_257_27 rfl ?_
  refine Bod.get dc_257_28 fr_257_38 (mk_2 _) rfl ?_
  refine Bod.go dc_257_31 rfl ?_
  refine Bod.aald0 k rfl (by omega) (by omega) (f := _) (N := 1501) hr dc_257_32 (mk_11 _) ht_4 ?_
  refine Bod.go dc_257_33 rfl ?_
  exact Bod.retV dc_257_49 rt_257
