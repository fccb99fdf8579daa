/-! THE LAW ON A SCRIPT OF AT MOST ONE CALL -/
theorem sx_xlen {cal : Nat → List Value → sm_H → Nat → Option sm_R} {j n pc L u : Nat} {xs : Nat → Int32} {lv : sm_L} {st : List Value} {σ : sm_H} (hd : decode (sm_cc j) pc = .ok (.arraylength, 1)) : sm_run (some (L, xs)) cal j (n + 1) (pc, lv, .retAddr 100000 :: st, σ, u) = sm_run (some (L, xs)) cal j n (pc + 1, lv, .int (Int32.ofNat L) :: st, σ, u) := sx_go hd (sd_rd rfl rfl rfl (by
  unfold sm_rd
  simp))
theorem sx_xget {cal : Nat → List Value → sm_H → Nat → Option sm_R} {j n pc L u : Nat} {xs : Nat → Int32} {lv : sm_L} {st : List Value} {σ : sm_H} {i : Int32} (hd : decode (sm_cc j) pc = .ok (.iaload, 1)) (hi : ¬ (i < 0 ∨ L ≤ i.toNatClampNeg)) : sm_run (some (L, xs)) cal j (n + 1) (pc, lv, .int i :: .retAddr 100000 :: st, σ, u) = sm_run (some (L, xs)) cal j n (pc + 1, lv, .int (xs i.toNatClampNeg) :: st, σ, u) := sx_go hd (sd_rd rfl rfl rfl (by
  unfold sm_rd
  simp only [if_true, if_neg hi]))
theorem sx_sw {X : Option (Nat × (Nat → Int32))} {cal : Nat → List Value → sm_H → Nat → Option sm_R} {j n pc u : Nat} {lv : sm_L} {st : List Value} {σ : sm_H} {d lo hi : Int} {offs : Array Int} {m t : Nat} {x : Int32} (hd : decode (sm_cc j) pc = .ok (.tableswitch d lo hi offs, m)) (ht : sm_br (.tableswitch d lo hi offs) m pc (.int x :: st) = some (t, st)) : sm_run X cal j (n + 1) (pc, lv, .int x :: st, σ, u) = sm_run X cal j n (t, lv, st, σ, u) := sx_go hd (sd_br rfl rfl ht)
theorem dc_1000_0 : decode (sm_cc 1000) 0 = .ok (.new 7, 3) := by decide +kernel
theorem dc_1000_3 : decode (sm_cc 1000) 3 = .ok (.dup, 1) := by decide +kernel
theorem dc_1000_4 : decode (sm_cc 1000) 4 = .ok (.invokespecial 9, 3) := by decide +kernel
theorem dc_1000_7 : decode (sm_cc 1000) 7 = .ok (.astore_n 1, 1) := by decide +kernel
theorem dc_1000_8 : decode (sm_cc 1000) 8 = .ok (.new 10, 3) := by decide +kernel
theorem dc_1000_11 : decode (sm_cc 1000) 11 = .ok (.dup, 1) := by decide +kernel
theorem dc_1000_12 : decode (sm_cc 1000) 12 = .ok (.invokespecial 12, 3) := by decide +kernel
theorem dc_1000_15 : decode (sm_cc 1000) 15 = .ok (.astore_n 2, 1) := by decide +kernel
theorem dc_1000_16 : decode (sm_cc 1000) 16 = .ok (.iconst 0, 1) := by decide +kernel
theorem dc_1000_17 : decode (sm_cc 1000) 17 = .ok (.istore_n 3, 1) := by decide +kernel
theorem dc_1000_18 : decode (sm_cc 1000) 18 = .ok (.iload_n 3, 1) := by decide +kernel
theorem dc_1000_19 : decode (sm_cc 1000) 19 = .ok (.aload_n 0, 1) := by decide +kernel
theorem dc_1000_20 : decode (sm_cc 1000) 20 = .ok (.arraylength, 1) := by decide +kernel
theorem dc_1000_21 : decode (sm_cc 1000) 21 = .ok (.bipush (6), 2) := by decide +kernel
theorem dc_1000_23 : decode (sm_cc 1000) 23 = .ok (.isub, 1) := by decide +kernel
theorem dc_1000_24 : decode (sm_cc 1000) 24 = .ok (.if_icmp .gt (297), 3) := by decide +kernel
theorem dc_1000_27 : decode (sm_cc 1000) 27 = .ok (.aload_n 0, 1) := by decide +kernel
theorem dc_1000_28 : decode (sm_cc 1000) 28 = .ok (.iload_n 3, 1) := by decide +kernel
theorem dc_1000_29 : decode (sm_cc 1000) 29 = .ok (.iaload, 1) := by decide +kernel
theorem dc_1000_30 : decode (sm_cc 1000) 30 = .ok (.bipush (7), 2) := by decide +kernel
theorem dc_1000_32 : decode (sm_cc 1000) 32 = .ok (.iand, 1) := by decide +kernel
theorem dc_1000_33 : decode (sm_cc 1000) 33 = .ok (.tableswitch (282) 0 7 #[47, 110, 133, 156, 169, 192, 215, 268], 47) := by decide +kernel
theorem dc_1000_321 : decode (sm_cc 1000) 321 = .ok (.iconst 1, 1) := by decide +kernel
theorem dc_1000_322 : decode (sm_cc 1000) 322 = .ok (.ireturn, 1) := by decide +kernel
theorem nr_1000_7 : sm_at mt_n (sm_ow 1000) 7 = some (7, 11, 357, 358, 333) := by decide +kernel
theorem nr_1000_10 : sm_at mt_n (sm_ow 1000) 10 = some (10, 14, 2063, 2064, 349) := by decide +kernel
theorem kr_1000_9 : sm_at mt_k (sm_ow 1000) 9 = some (9, 4, 0, 0, 359) := by decide +kernel
theorem kr_1000_12 : sm_at mt_k (sm_ow 1000) 12 = some (12, 4, 281, 0, 2065) := by decide +kernel
theorem ml_law : sm_ml 1000 = 4 := by decide +kernel
/-- the law's locals ahead of its loop -/
def sb_lv (i : Int32) : sm_L := [(3, .int i), (2, .ref sb_m), (1, .ref 0), (0, .retAddr 100000)]
theorem sl_c1 (X : Option (Nat × (Nat → Int32))) (n : Nat) (hn : 200000 ≤ n) : sm_ev X 30 n 0 [.ref 0] ([] ++ [.inr (11, sm_new 11)]) (0 + (sm_T 11).2.2) = some (none, sb_h1, sb_u1) := sm_ev_none 30 30 200000 n 0 _ _ _ _ (Nat.le_refl _) hn sb_new
theorem sl_c2 (X : Option (Nat × (Nat → Int32))) (n : Nat) (hn : 200000 ≤ n) : sm_ev X 30 n 281 [.ref sb_m] (sb_h1 ++ [.inr (14, sm_new 14)]) (sb_u1 + (sm_T 14).2.2) = some (none, sb_h2, sb_u2) := sm_ev_none 30 30 200000 n 281 _ _ _ _ (Nat.le_refl _) hn (sf_ev_ok _ _ _ _ _ _ _ sb_e2)
/-- both objects are made -/
theorem sl_pre (X : Option (Nat × (Nat → Int32))) (n N : Nat) (hN : 200000 ≤ N) : sm_run X (sm_ev X 30 N) 1000 (n + 10) (0, [(0, .retAddr 100000)], [], [], 0) = sm_run X (sm_ev X 30 N) 1000 n (18, sb_lv 0, [], sb_h2, sb_u2) := by
  refine (sx_new dc_1000_0 nr_1000_7).trans ?_
  refine (sx_go dc_1000_3 rfl).trans ?_
  refine (sx_spec (r := [.ref 0]) (a := 0) dc_1000_4 kr_1000_9 (Or.inl rfl) (by rw [np_0]; rfl) (by decide) (by rw [np_0]; exact sl_c1 X N hN)).trans ?_
  refine (sx_astore_n dc_1000_7 (by rw [ml_law]; decide)).trans ?_
  refine (sx_new dc_1000_8 nr_1000_10).trans ?_
  refine (sx_go dc_1000_11 rfl).trans ?_
  refine (sx_spec (r := [.ref sb_m]) (a := sb_m) dc_1000_12 kr_1000_12 (Or.inl rfl) (by rw [np_281]; rfl) (by decide) (by rw [np_281]; exact sl_c2 X N hN)).trans ?_
  refine (sx_astore_n dc_1000_15 (by rw [ml_law]; decide)).trans ?_
  refine (sx_go dc_1000_16 rfl).trans ?_
  refine (sx_istore_n dc_1000_17 (by rw [ml_law]; decide)).trans ?_
  rfl
/-- no further call in the script -/
theorem sl_end {L : Nat} {xs : Nat → Int32} {n N : Nat} {i : Int32} {σ : sm_H} {u : Nat} (h : sm_c2 .gt i (Int32.ofNat L - 6) true false = true) : sm_run (some (L, xs)) (sm_ev (some (L, xs)) 30 N) 1000 (n + 8) (18, sb_lv i, [], σ, u) = some (some (.int 1), σ, u) := by
  refine (sx_go dc_1000_18 rfl).trans ?_
  refine (sx_go dc_1000_19 rfl).trans ?_
  refine (sx_xlen dc_1000_20).trans ?_
  refine (sx_go dc_1000_21 rfl).trans ?_
  refine (sx_go dc_1000_23 rfl).trans ?_
  refine (sx_ic_t dc_1000_24 rfl h).trans ?_
  refine (sx_go dc_1000_321 rfl).trans ?_
  exact sx_ret_bool dc_1000_322 (by decide +kernel) (Or.inr rfl)
/-- a call in the script: its place in the law -/
theorem sl_sw {L : Nat} {xs : Nat → Int32} {n N : Nat} {i x : Int32} {σ : sm_H} {u t : Nat} (h : sm_c2 .gt i (Int32.ofNat L - 6) true false = false) (hi : ¬ (i < 0 ∨ L ≤ i.toNatClampNeg)) (hx : xs i.toNatClampNeg &&& 7 = x) (ht : sm_br (.tableswitch 282 0 7 #[47, 110, 133, 156, 169, 192, 215, 268]) 47 33 [.int x] = some (t, [])) : sm_run (some (L, xs)) (sm_ev (some (L, xs)) 30 N) 1000 (n + 12) (18, sb_lv i, [], σ, u) = sm_run (some (L, xs)) (sm_ev (some (L, xs)) 30 N) 1000 n (t, sb_lv i, [], σ, u) := by
  refine (sx_go dc_1000_18 rfl).trans ?_
  refine (sx_go dc_1000_19 rfl).trans ?_
  refine (sx_xlen dc_1000_20).trans ?_
  refine (sx_go dc_1000_21 rfl).trans ?_
  refine (sx_go dc_1000_23 rfl).trans ?_
  refine (sx_ic_f dc_1000_24 rfl h).trans ?_
  refine (sx_go dc_1000_27 rfl).trans ?_
  refine (sx_go dc_1000_28 rfl).trans ?_
  refine (sx_xget dc_1000_29 hi).trans ?_
  refine (sx_go dc_1000_30 rfl).trans ?_
  refine (sx_go dc_1000_32 rfl).trans ?_
  have e : (xs i.toNatClampNeg &&& (Int8.ofInt 7).toInt32) = x := hx
  rw [e]
  exact sx_sw dc_1000_33 ht
theorem sl_and7 (x : Int32) : x &&& 7 = 0 ∨ x &&& 7 = 1 ∨ x &&& 7 = 2 ∨ x &&& 7 = 3 ∨ x &&& 7 = 4 ∨ x &&& 7 = 5 ∨ x &&& 7 = 6 ∨ x &&& 7 = 7 := by
  have h1 : (x &&& 7).toUInt32.toNat ≤ 7 := by
    show (x.toUInt32 &&& 7).toNat ≤ 7
    rw [UInt32.toNat_and]
    exact Nat.and_le_right
  have h2 : x &&& 7 = (UInt32.ofNat (x &&& 7).toUInt32.toNat).toInt32 := by
    rw [UInt32.ofNat_toNat]
    rfl
  generalize (x &&& 7).toUInt32.toNat = k at h1 h2
  rw [h2]
  have h3 : k = 0 ∨ k = 1 ∨ k = 2 ∨ k = 3 ∨ k = 4 ∨ k = 5 ∨ k = 6 ∨ k = 7 := by omega
  rcases h3 with rfl | rfl | rfl | rfl | rfl | rfl | rfl | rfl <;> decide
def sb_ok (R : Option sm_R) : Bool := match R with
  | some (some (.int v), h, u) => v == 1 && (decide (h.length ≤ 600000) && decide (u ≤ 7302250))
  | _ => false
theorem sb_ok_of {R : Option sm_R} (h : sb_ok R = true) : ∃ σ1 u1, R = some (some (.int 1), σ1, u1) ∧ σ1.length ≤ 600000 ∧ u1 ≤ 7302250 := by
  unfold sb_ok at h
  split at h
  · rename_i v σ1 u1
    simp only [Bool.and_eq_true, decide_eq_true_eq, beq_iff_eq] at h
    exact ⟨σ1, u1, by rw [h.1], h.2.1, h.2.2⟩
  · cases h
/-- what holds of a script that might fail holds of every one -/
noncomputable def sb_eps (P : (Nat → Int32) → Bool) : Nat → Int32 := @Classical.epsilon _ ⟨fun _ => 0⟩ (fun xs => P xs = false)
theorem sb_all (P : (Nat → Int32) → Bool) (h : P (sb_eps P) = true) (xs : Nat → Int32) : P xs = true := by
  cases hx : P xs with
  | true => rfl
  | false =>
    have h1 : P (sb_eps P) = false := @Classical.epsilon_spec _ (fun xs => P xs = false) ⟨xs, hx⟩
    rw [h] at h1
    cases h1
/-- the law from one of its calls on, with one call in the script -/
def sb_P (pc : Nat) (xs : Nat → Int32) : Bool := sb_ok (sg_at (some (6, xs)) 30 200000 1000 md_1000 199978 (pc, sb_lv 0, [], sb_h2, sb_u2))
theorem sb_c80 (xs : Nat → Int32) : sb_P 80 xs = true := sb_all (sb_P 80) (by decide +kernel) xs
theorem sb_c189 (xs : Nat → Int32) : sb_P 189 xs = true := sb_all (sb_P 189) (by decide +kernel) xs
theorem sb_c248 (xs : Nat → Int32) : sb_P 248 xs = true := sb_all (sb_P 248) (by decide +kernel) xs
theorem sb_c301 (xs : Nat → Int32) : sb_P 301 xs = true := sb_all (sb_P 301) (by decide +kernel) xs
