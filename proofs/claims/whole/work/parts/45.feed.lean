/-! FEED: the reference -/
theorem dc_282_45 : decode (sm_cc 282) 45 = .ok (.iload 7, 2) := by decide +kernel
theorem dc_282_47 : decode (sm_cc 282) 47 = .ok (.bipush (20), 2) := by decide +kernel
theorem dc_282_49 : decode (sm_cc 282) 49 = .ok (.if_icmp .ge (40), 3) := by decide +kernel
theorem dc_282_52 : decode (sm_cc 282) 52 = .ok (.aload_n 0, 1) := by decide +kernel
theorem dc_282_53 : decode (sm_cc 282) 53 = .ok (.getfield 851, 3) := by decide +kernel
theorem fr_282_851 : sm_at mt_f (sm_ow 282) 851 = some (851, 14, 74, 0, 2147) := by decide +kernel
theorem dc_282_56 : decode (sm_cc 282) 56 = .ok (.aload_n 0, 1) := by decide +kernel
theorem dc_282_57 : decode (sm_cc 282) 57 = .ok (.getfield 854, 3) := by decide +kernel
theorem dc_282_60 : decode (sm_cc 282) 60 = .ok (.iload 7, 2) := by decide +kernel
theorem dc_282_62 : decode (sm_cc 282) 62 = .ok (.iadd, 1) := by decide +kernel
theorem dc_282_63 : decode (sm_cc 282) 63 = .ok (.aload 6, 2) := by decide +kernel
theorem dc_282_65 : decode (sm_cc 282) 65 = .ok (.iload 7, 2) := by decide +kernel
theorem dc_282_67 : decode (sm_cc 282) 67 = .ok (.iconst 4, 1) := by decide +kernel
theorem dc_282_68 : decode (sm_cc 282) 68 = .ok (.idiv, 1) := by decide +kernel
theorem dc_282_69 : decode (sm_cc 282) 69 = .ok (.iaload, 1) := by decide +kernel
theorem dc_282_70 : decode (sm_cc 282) 70 = .ok (.bipush (24), 2) := by decide +kernel
theorem dc_282_72 : decode (sm_cc 282) 72 = .ok (.bipush (8), 2) := by decide +kernel
theorem dc_282_74 : decode (sm_cc 282) 74 = .ok (.iload 7, 2) := by decide +kernel
theorem dc_282_76 : decode (sm_cc 282) 76 = .ok (.iconst 4, 1) := by decide +kernel
theorem dc_282_77 : decode (sm_cc 282) 77 = .ok (.irem, 1) := by decide +kernel
theorem dc_282_78 : decode (sm_cc 282) 78 = .ok (.imul, 1) := by decide +kernel
theorem dc_282_79 : decode (sm_cc 282) 79 = .ok (.isub, 1) := by decide +kernel
theorem dc_282_80 : decode (sm_cc 282) 80 = .ok (.ishr, 1) := by decide +kernel
theorem dc_282_81 : decode (sm_cc 282) 81 = .ok (.i2b, 1) := by decide +kernel
theorem dc_282_82 : decode (sm_cc 282) 82 = .ok (.bastore, 1) := by decide +kernel
theorem dc_282_83 : decode (sm_cc 282) 83 = .ok (.iinc 7 (1), 3) := by decide +kernel
theorem dc_282_86 : decode (sm_cc 282) 86 = .ok (.goto (-41), 3) := by decide +kernel
theorem dc_282_89 : decode (sm_cc 282) 89 = .ok (.aload_n 0, 1) := by decide +kernel
theorem dc_282_90 : decode (sm_cc 282) 90 = .ok (.dup, 1) := by decide +kernel
theorem dc_282_91 : decode (sm_cc 282) 91 = .ok (.getfield 854, 3) := by decide +kernel
theorem dc_282_94 : decode (sm_cc 282) 94 = .ok (.bipush (20), 2) := by decide +kernel
theorem dc_282_96 : decode (sm_cc 282) 96 = .ok (.iadd, 1) := by decide +kernel
theorem dc_282_97 : decode (sm_cc 282) 97 = .ok (.putfield 854, 3) := by decide +kernel
theorem dc_282_100 : decode (sm_cc 282) 100 = .ok (.aload_n 0, 1) := by decide +kernel
theorem dc_282_101 : decode (sm_cc 282) 101 = .ok (.getfield 854, 3) := by decide +kernel
theorem dc_282_104 : decode (sm_cc 282) 104 = .ok (.ireturn, 1) := by decide +kernel
theorem dc_282_15 : decode (sm_cc 282) 15 = .ok (.iconst 5, 1) := by decide +kernel
theorem dc_282_16 : decode (sm_cc 282) 16 = .ok (.newarray .int, 2) := by decide +kernel
theorem dc_282_18 : decode (sm_cc 282) 18 = .ok (.dup, 1) := by decide +kernel
theorem dc_282_19 : decode (sm_cc 282) 19 = .ok (.iconst 0, 1) := by decide +kernel
theorem dc_282_20 : decode (sm_cc 282) 20 = .ok (.iload_n 1, 1) := by decide +kernel
theorem dc_282_21 : decode (sm_cc 282) 21 = .ok (.iastore, 1) := by decide +kernel
theorem dc_282_22 : decode (sm_cc 282) 22 = .ok (.dup, 1) := by decide +kernel
theorem dc_282_23 : decode (sm_cc 282) 23 = .ok (.iconst 1, 1) := by decide +kernel
theorem dc_282_24 : decode (sm_cc 282) 24 = .ok (.iload_n 2, 1) := by decide +kernel
theorem dc_282_25 : decode (sm_cc 282) 25 = .ok (.iastore, 1) := by decide +kernel
theorem dc_282_26 : decode (sm_cc 282) 26 = .ok (.dup, 1) := by decide +kernel
theorem dc_282_27 : decode (sm_cc 282) 27 = .ok (.iconst 2, 1) := by decide +kernel
theorem dc_282_28 : decode (sm_cc 282) 28 = .ok (.iload_n 3, 1) := by decide +kernel
theorem dc_282_29 : decode (sm_cc 282) 29 = .ok (.iastore, 1) := by decide +kernel
theorem dc_282_30 : decode (sm_cc 282) 30 = .ok (.dup, 1) := by decide +kernel
theorem dc_282_31 : decode (sm_cc 282) 31 = .ok (.iconst 3, 1) := by decide +kernel
theorem dc_282_32 : decode (sm_cc 282) 32 = .ok (.iload 4, 2) := by decide +kernel
theorem dc_282_34 : decode (sm_cc 282) 34 = .ok (.iastore, 1) := by decide +kernel
theorem dc_282_35 : decode (sm_cc 282) 35 = .ok (.dup, 1) := by decide +kernel
theorem dc_282_36 : decode (sm_cc 282) 36 = .ok (.iconst 4, 1) := by decide +kernel
theorem dc_282_37 : decode (sm_cc 282) 37 = .ok (.iload 5, 2) := by decide +kernel
theorem dc_282_39 : decode (sm_cc 282) 39 = .ok (.iastore, 1) := by decide +kernel
theorem dc_282_40 : decode (sm_cc 282) 40 = .ok (.astore 6, 2) := by decide +kernel
theorem dc_282_42 : decode (sm_cc 282) 42 = .ok (.iconst 0, 1) := by decide +kernel
theorem dc_282_43 : decode (sm_cc 282) 43 = .ok (.istore 7, 2) := by decide +kernel
variable {d j pc k pc1 : Nat} {lv lv1 : sm_L} {st st1 r : List Value} {S S1 Sf : cS} {v : Option Value} {i : Instr}
theorem nI_nz {b : Nat} (h0 : 0 < b) (hb : b < 2 ^ 31) : ¬ nI b = 0 := fun e => by
  have h1 := congrArg Int32.toInt e
  rw [nI_toInt hb] at h1
  have h2 : (0 : Int32).toInt = 0 := by decide
  omega
theorem Bod.idivN {a b : Nat} (m : Nat) (ha : a < 2 ^ 31) (h0 : 0 < b) (hb : b < 2 ^ 31) (e : a / b = m) (hd : decode (sm_cc j) pc = .ok (.idiv, 1)) (h : Bod d j (pc + 1) lv (.int (nI m) :: st) S v Sf) : Bod d j pc lv (.int (nI b) :: .int (nI a) :: st) S v Sf := Bod.go hd (sd_ops (by
  show (if nI b = 0 then none else some (1, .int (nI a / nI b) :: st)) = _
  rw [if_neg (nI_nz h0 hb)])) (by rw [pk_div ha h0 hb, e]; exact h)
theorem Bod.iremN {a b : Nat} (m : Nat) (ha : a < 2 ^ 31) (h0 : 0 < b) (hb : b < 2 ^ 31) (e : a % b = m) (hd : decode (sm_cc j) pc = .ok (.irem, 1)) (h : Bod d j (pc + 1) lv (.int (nI m) :: st) S v Sf) : Bod d j pc lv (.int (nI b) :: .int (nI a) :: st) S v Sf := Bod.go hd (sd_ops (by
  show (if nI b = 0 then none else some (1, .int (nI a - nI a / nI b * nI b) :: st)) = _
  rw [if_neg (nI_nz h0 hb)])) (by rw [pk_rem ha h0 hb, e]; exact h)
theorem new_at {S0 S2 : cS} {q : Nat × Nat} (h : sS S2 = sS S0 ++ [q]) : (sS S2)[108 + (sS S0).length - 108]? = some q := by
  rw [h, show 108 + (sS S0).length - 108 = (sS S0).length by omega]
  exact List.getElem?_concat_length
/-- the low 8 bits of a word shifted right: the same with and without the sign -/
theorem by4 (v : BitVec 32) (k : Nat) (hk : k + 8 ≤ 32) : (v >>> k).signExtend 8 = (v.sshiftRight k).signExtend 8 := by
  apply BitVec.eq_of_getLsbD_eq
  intro i hi
  rw [BitVec.getLsbD_signExtend, BitVec.getLsbD_signExtend, if_pos (by omega), if_pos (by omega), BitVec.getLsbD_ushiftRight, BitVec.getLsbD_sshiftRight, if_pos (by omega)]
  have h1 : decide (32 ≤ i) = false := decide_eq_false (by omega)
  rw [h1]
  simp
/-- the i-th byte of a word, with the sign -/
def r_b4 (x : Int32) (i : Nat) : Int32 := vp_nar .byte ((x >>> ((nI (24 - 8 * i)) &&& 31)).toInt8.toInt32)
theorem r_b4_eq (x : Int32) : ∀ i, i < 4 → r_b4 x i = c_b4 x i := by
  have h : ∀ k, k + 8 ≤ 32 → ((x >>> (nI k &&& 31)).toInt8.toBitVec = (x.toBitVec.sshiftRight k).signExtend 8) → ((x.toUInt32 >>> ((nI k).toUInt32 &&& Int32.toUInt32 31)).toInt32.toInt8.toBitVec = (x.toBitVec >>> k).signExtend 8) → (x >>> (nI k &&& 31)).toInt8 = (x.toUInt32 >>> ((nI k).toUInt32 &&& Int32.toUInt32 31)).toInt32.toInt8 := fun k hk h1 h2 => Int8.toBitVec_inj.mp (h1.trans ((by4 _ _ hk).symm.trans h2.symm))
  intro i hi
  unfold r_b4 c_b4
  have hc : i = 0 ∨ i = 1 ∨ i = 2 ∨ i = 3 := by omega
  rcases hc with rfl | rfl | rfl | rfl
  · rw [h 24 (by decide) rfl rfl]
  · rw [h 16 (by decide) rfl rfl]
  · rw [h 8 (by decide) rfl rfl]
  · rw [h 0 (by decide) rfl rfl]
/-- the reference's tape from its byte t + i on: n bytes of the words w -/
def r_put (w : Nat → Int32) (t : Nat) : Nat → Nat → cS → cS
  | _, 0, S => S
  | i, n + 1, S => r_put w t (i + 1) n (wA 107 (t + i) (r_b4 (w (i / 4)) (i % 4)) S)
theorem feed_loop {d q t : Nat} {w : Nat → Int32} {a b x y z : Int32} (hM : t + 20 ≤ 3000) (hq : 108 ≤ q) : ∀ (r i : Nat) (S : cS), i + r = 20 → sI S 6175 = nI t → (sS S)[q - 108]? = some (0, 5) → (∀ k, k < 5 → sA S q k = w k) → Bod d 282 45 (sm_p1 (sm_p1 (lv_args 0 [.ref 61, .int a, .int b, .int x, .int y, .int z]) 6 (.ref q)) 7 (.int (nI i))) [] S (some (.int (nI (t + 20)))) (wI 6175 (nI (t + 20)) (r_put w t i r S)) := by
  intro r
  induction r with
  | zero =>
    intro i S hi ht hs hw
    obtain rfl : i = 20 := by omega
    show Bod d 282 45 (sm_p1 (sm_p1 (lv_args 0 [.ref 61, .int a, .int b, .int x, .int y, .int z]) 6 (.ref q)) 7 (.int (nI 20))) [] S _ (wI 6175 (nI (t + 20)) S)
    refine Bod.go dc_282_45 rfl ?_
    refine Bod.bip 20 (by decide) dc_282_47 ?_
    refine Bod.icT dc_282_49 rfl (k2_ge_T 20 20 rfl rfl (by omega) (by omega)) ?_
    refine Bod.go dc_282_89 rfl ?_
    refine Bod.go dc_282_90 rfl ?_
    refine Bod.get dc_282_91 fr_282_854 (mk_61 _) rfl ?_
    refine Bod.eqI (nI t) (by first | assumption | rfl | exact congrArg nI (by omega) | (simp (disch := omega) only [rI, rIe, rA, rIA, rLA, rJA, rVI, rQI, rVA, rQA, upd_at,  rAI, rLI, rJI, nI_add, pk_sub, kc_0, kc_1, kc_2, kc_3, kc_4, kc_5, reduceIte, Nat.reduceEqDiff, Nat.add_zero, rI_hold, rI_hold, rL_hold, ht]; done)) ?_
    refine Bod.bip 20 (by decide) dc_282_94 ?_
    refine Bod.addN (t + 20) (by omega) dc_282_96 ?_
    refine Bod.put dc_282_97 fr_282_854 (mk_61 _) (Nat.le_of_ble_eq_true rfl) pf_14_75 (st_6175 _ _) (mu_I _ _ _) ?_
    refine Bod.go dc_282_100 rfl ?_
    refine Bod.get dc_282_101 fr_282_854 (mk_61 _) rfl ?_
    refine Bod.eqI (nI (t + 20)) (by first | (simp (disch := omega) only [rI, rIe, rA, rIA, rLA, rJA, rVI, rQI, rVA, rQA, upd_at,  rAI, rLI, rJI, nI_add, pk_sub, kc_0, kc_1, kc_2, kc_3, kc_4, kc_5, reduceIte, Nat.reduceEqDiff, Nat.add_zero, rI_hold, rI_hold, rL_hold, ht]; done) | (simp (disch := omega) only [rI, rIe, rA, rIA, rLA, rJA, rVI, rQI, rVA, rQA, upd_at,  rAI, rLI, rJI, nI_add, pk_sub, kc_0, kc_1, kc_2, kc_3, kc_4, kc_5, reduceIte, Nat.reduceEqDiff, Nat.add_zero, rI_hold, rI_hold, rL_hold, ht]; exact congrArg nI (by omega))) ?_
    exact Bod.retI dc_282_104 rt_282
  | succ r ih =>
    intro i S hi ht hs hw
    show Bod d 282 45 _ [] S _ (wI 6175 (nI (t + 20)) (r_put w t (i + 1) r (wA 107 (t + i) (r_b4 (w (i / 4)) (i % 4)) S)))
    have hnext := ih (i + 1) (wA 107 (t + i) (r_b4 (w (i / 4)) (i % 4)) S) (by omega) ht hs (fun x hx => by rw [rAn _ _ _ (by omega)]; exact hw x hx)
    refine Bod.go dc_282_45 rfl ?_
    refine Bod.bip 20 (by decide) dc_282_47 ?_
    refine Bod.icF dc_282_49 rfl (k2_ge_F i 20 rfl rfl (by omega) (by omega)) ?_
    refine Bod.go dc_282_52 rfl ?_
    refine Bod.get dc_282_53 fr_282_851 (mk_61 _) rfl ?_
    refine Bod.go dc_282_56 rfl ?_
    refine Bod.get dc_282_57 fr_282_854 (mk_61 _) rfl ?_
    refine Bod.eqI (nI t) (by first | assumption | rfl | exact congrArg nI (by omega) | (simp (disch := omega) only [rI, rIe, rA, rIA, rLA, rJA, rVI, rQI, rVA, rQA, upd_at,  rAI, rLI, rJI, nI_add, pk_sub, kc_0, kc_1, kc_2, kc_3, kc_4, kc_5, reduceIte, Nat.reduceEqDiff, Nat.add_zero, rI_hold, rI_hold, rL_hold, ht]; done)) ?_
    refine Bod.go dc_282_60 rfl ?_
    refine Bod.addN (t + i) (by omega) dc_282_62 ?_
    refine Bod.go dc_282_63 rfl ?_
    refine Bod.go dc_282_65 rfl ?_
    refine Bod.ic 4 (by decide) dc_282_67 ?_
    refine Bod.idivN (i / 4) (by omega) (by omega) (by omega) rfl dc_282_68 ?_
    refine Bod.ialdN (N := 5) (i / 4) rfl (by omega) (by omega) dc_282_69 (mk_int hq hs) ?_
    refine Bod.eqI (w (i / 4)) (hw (i / 4) (by omega)) ?_
    refine Bod.bip 24 (by decide) dc_282_70 ?_
    refine Bod.bip 8 (by decide) dc_282_72 ?_
    refine Bod.go dc_282_74 rfl ?_
    refine Bod.ic 4 (by decide) dc_282_76 ?_
    refine Bod.iremN (i % 4) (by omega) (by omega) (by omega) rfl dc_282_77 ?_
    refine Bod.mulN (8 * (i % 4)) (by omega) dc_282_78 ?_
    refine Bod.subN (24 - (8 * (i % 4))) (by omega) (by omega) dc_282_79 ?_
    refine Bod.go dc_282_80 rfl ?_
    refine Bod.go dc_282_81 rfl ?_
    refine Bod.bastN (t + i) rfl (by omega) (by omega) dc_282_82 (mk_107 _) (sa_107 _ _ _) (mu_A _ _ _ _) ?_
    refine Bod.incN (i + 1) (by rw [kc_1, nI_add]) dc_282_83 (by rw [ml_282]; exact Nat.le_of_ble_eq_true rfl) rfl ?_
    refine Bod.go dc_282_86 rfl ?_
    rw [sm_p1_p1]
    exact hnext
/-- the reference's five words, put into an array of its own -/
def r_five (a b x y z : Int32) (S : cS) : cS := wA (108 + (sS S).length) 4 z (wA (108 + (sS S).length) 3 y (wA (108 + (sS S).length) 2 x (wA (108 + (sS S).length) 1 b (wA (108 + (sS S).length) 0 a (wK (0, 5) 5 (wF (108 + (sS S).length) (fun _ => 0) S))))))
theorem five_I (a b x y z : Int32) (S : cS) : sI (r_five a b x y z S) = sI S := rfl
theorem five_J (a b x y z : Int32) (S : cS) : sJ (r_five a b x y z S) = sJ S := rfl
theorem five_L (a b x y z : Int32) (S : cS) : sL (r_five a b x y z S) = sL S := rfl
theorem five_V (a b x y z : Int32) (S : cS) : sV (r_five a b x y z S) = sV S := rfl
theorem five_Q (a b x y z : Int32) (S : cS) : sQ (r_five a b x y z S) = sQ S := rfl
theorem five_S (a b x y z : Int32) (S : cS) : sS (r_five a b x y z S) = sS S ++ [(0, 5)] := rfl
theorem five_mu (a b x y z : Int32) (S : cS) : mu (r_five a b x y z S) = mu S + 5 := rfl
theorem five_A (a b x y z : Int32) (S : cS) {c : Nat} (h : c ≠ 108 + (sS S).length) : sA (r_five a b x y z S) c = sA S c := by
  unfold r_five
  rw [rAn _ _ _ h, rAn _ _ _ h, rAn _ _ _ h, rAn _ _ _ h, rAn _ _ _ h]
  exact if_neg h
/-- the k-th of five words -/
def w_five (a b x y z : Int32) (k : Nat) : Int32 := if k = 0 then a else if k = 1 then b else if k = 2 then x else if k = 3 then y else z
theorem five_w (a b x y z : Int32) (S : cS) : ∀ k, k < 5 → sA (r_five a b x y z S) (108 + (sS S).length) k = w_five a b x y z k := by
  intro k hk
  have hc : k = 0 ∨ k = 1 ∨ k = 2 ∨ k = 3 ∨ k = 4 := by omega
  unfold r_five w_five
  rw [rAe, rAe, rAe, rAe, rAe]
  rcases hc with rfl | rfl | rfl | rfl | rfl <;> rfl
theorem feed_r {d t : Nat} {a b x y z : Int32} {S : cS} (ht : sI S 6175 = nI t) (hM : t + 20 ≤ 3000) : Ans (d + 1) 282 [.ref 61, .int a, .int b, .int x, .int y, .int z] S (some (.int (nI (t + 20)))) (wI 6175 (nI (t + 20)) (r_put (w_five a b x y z) t 0 20 (r_five a b x y z S))) := by
  refine Ans.of (by rw [ml_282]; exact Nat.le_of_ble_eq_true rfl) ?_
  refine Bod.go dc_282_0 rfl ?_
  refine Bod.get dc_282_1 fr_282_854 (mk_61 _) rfl ?_
  refine Bod.eqI (nI t) (by first | assumption | rfl | exact congrArg nI (by omega) | (simp (disch := omega) only [rI, rIe, rA, rIA, rLA, rJA, rVI, rQI, rVA, rQA, upd_at,  rAI, rLI, rJI, nI_add, pk_sub, kc_0, kc_1, kc_2, kc_3, kc_4, kc_5, reduceIte, Nat.reduceEqDiff, Nat.add_zero, rI_hold, rI_hold, rL_hold, ht]; done)) ?_
  refine Bod.bip 20 (by decide) dc_282_4 ?_
  refine Bod.addN (t + 20) (by omega) dc_282_6 ?_
  refine Bod.sip 3000 (by decide) dc_282_7 ?_
  refine Bod.icT dc_282_10 rfl (k2_le_T (t + 20) 3000 rfl rfl (by omega) (by omega)) ?_
  refine Bod.ic 5 (by decide) dc_282_15 ?_
  refine Bod.newint (by omega) dc_282_16 ?_
  refine Bod.go dc_282_18 rfl ?_
  refine Bod.ic 0 (by decide) dc_282_19 ?_
  refine Bod.go dc_282_20 rfl ?_
  refine Bod.iastN (N := 5) 0 rfl (by omega) (by omega) dc_282_21 (mk_int (Nat.le_add_right 108 _) (new_at rfl)) (sa_int (Nat.le_add_right 108 _) (new_at rfl)) (mu_A _ _ _ _) ?_
  refine Bod.go dc_282_22 rfl ?_
  refine Bod.ic 1 (by decide) dc_282_23 ?_
  refine Bod.go dc_282_24 rfl ?_
  refine Bod.iastN (N := 5) 1 rfl (by omega) (by omega) dc_282_25 (mk_int (Nat.le_add_right 108 _) (new_at rfl)) (sa_int (Nat.le_add_right 108 _) (new_at rfl)) (mu_A _ _ _ _) ?_
  refine Bod.go dc_282_26 rfl ?_
  refine Bod.ic 2 (by decide) dc_282_27 ?_
  refine Bod.go dc_282_28 rfl ?_
  refine Bod.iastN (N := 5) 2 rfl (by omega) (by omega) dc_282_29 (mk_int (Nat.le_add_right 108 _) (new_at rfl)) (sa_int (Nat.le_add_right 108 _) (new_at rfl)) (mu_A _ _ _ _) ?_
  refine Bod.go dc_282_30 rfl ?_
  refine Bod.ic 3 (by decide) dc_282_31 ?_
  refine Bod.go dc_282_32 rfl ?_
  refine Bod.iastN (N := 5) 3 rfl (by omega) (by omega) dc_282_34 (mk_int (Nat.le_add_right 108 _) (new_at rfl)) (sa_int (Nat.le_add_right 108 _) (new_at rfl)) (mu_A _ _ _ _) ?_
  refine Bod.go dc_282_35 rfl ?_
  refine Bod.ic 4 (by decide) dc_282_36 ?_
  refine Bod.go dc_282_37 rfl ?_
  refine Bod.iastN (N := 5) 4 rfl (by omega) (by omega) dc_282_39 (mk_int (Nat.le_add_right 108 _) (new_at rfl)) (sa_int (Nat.le_add_right 108 _) (new_at rfl)) (mu_A _ _ _ _) ?_
  refine Bod.ast dc_282_40 (by rw [ml_282]; exact Nat.le_of_ble_eq_true rfl) ?_
  refine Bod.ic 0 (by decide) dc_282_42 ?_
  refine Bod.ist dc_282_43 (by rw [ml_282]; exact Nat.le_of_ble_eq_true rfl) ?_
  exact feed_loop (q := 108 + (sS S).length) hM (Nat.le_add_right 108 _) 20 0 (r_five a b x y z S) rfl ht (new_at (five_S a b x y z S)) (five_w a b x y z S)
theorem rput_I (w : Nat → Int32) (t : Nat) : ∀ (n i : Nat) (S : cS), sI (r_put w t i n S) = sI S := by
  intro n
  induction n with
  | zero => intro i S; rfl
  | succ n ih => intro i S; exact (ih (i + 1) _).trans rfl
theorem rput_L (w : Nat → Int32) (t : Nat) : ∀ (n i : Nat) (S : cS), sL (r_put w t i n S) = sL S := by
  intro n
  induction n with
  | zero => intro i S; rfl
  | succ n ih => intro i S; exact (ih (i + 1) _).trans rfl
theorem rput_J (w : Nat → Int32) (t : Nat) : ∀ (n i : Nat) (S : cS), sJ (r_put w t i n S) = sJ S := by
  intro n
  induction n with
  | zero => intro i S; rfl
  | succ n ih => intro i S; exact (ih (i + 1) _).trans rfl
theorem rput_V (w : Nat → Int32) (t : Nat) : ∀ (n i : Nat) (S : cS), sV (r_put w t i n S) = sV S := by
  intro n
  induction n with
  | zero => intro i S; rfl
  | succ n ih => intro i S; exact (ih (i + 1) _).trans rfl
theorem rput_Q (w : Nat → Int32) (t : Nat) : ∀ (n i : Nat) (S : cS), sQ (r_put w t i n S) = sQ S := by
  intro n
  induction n with
  | zero => intro i S; rfl
  | succ n ih => intro i S; exact (ih (i + 1) _).trans rfl
theorem rput_S (w : Nat → Int32) (t : Nat) : ∀ (n i : Nat) (S : cS), sS (r_put w t i n S) = sS S := by
  intro n
  induction n with
  | zero => intro i S; rfl
  | succ n ih => intro i S; exact (ih (i + 1) _).trans rfl
theorem rput_mu (w : Nat → Int32) (t : Nat) : ∀ (n i : Nat) (S : cS), mu (r_put w t i n S) = mu S := by
  intro n
  induction n with
  | zero => intro i S; rfl
  | succ n ih => intro i S; exact (ih (i + 1) _).trans rfl
theorem rput_A (w : Nat → Int32) (t : Nat) : ∀ (n i : Nat) (S : cS) (c k : Nat), sA (r_put w t i n S) c k = if c = 107 ∧ t + i ≤ k ∧ k < t + i + n then c_b4 (w ((k - t) / 4)) ((k - t) % 4) else sA S c k := by
  intro n
  induction n with
  | zero => intro i S c k; rw [if_neg (by omega)]; rfl
  | succ n ih =>
    intro i S c k
    refine (ih (i + 1) _ c k).trans ?_
    by_cases hc : c = 107
    · subst hc
      by_cases hk : k = t + i
      · rw [if_neg (by omega), if_pos (by omega), rAe, upd_at, if_pos hk, r_b4_eq _ _ (by omega), show k - t = i by omega]
      · rw [rAe, upd_at, if_neg hk]
        by_cases h2 : t + i ≤ k ∧ k < t + i + (n + 1)
        · rw [if_pos (by omega), if_pos (by omega)]
        · rw [if_neg (by omega), if_neg (by omega)]
    · rw [if_neg (fun h => hc h.1), if_neg (fun h => hc h.1), rAn _ _ _ hc]
/-- feed: both tapes have t bytes -/
theorem feed_St {Inv : Nat → cS → Prop} {k t : Nat} {S : cS} {a b x y z : Int32} (h1 : sI S 7 = nI t) (h2 : sI S 6175 = nI t) (hM : t ≤ 3000) (hI : Inv (k + 1) S) (hI2 : t + 20 ≤ 3000 → ∀ S1, S1 = c_put4 (t + 16) z (c_put4 (t + 12) y (c_put4 (t + 8) x (c_put4 (t + 4) b (c_put4 t a S)))) → Inv (k + 1) (wI 6175 (nI (t + 20)) (r_put (w_five a b x y z) t 0 20 (r_five a b x y z S1)))) : c_St Inv k S 27 282 [.int a, .int b, .int x, .int y, .int z] := by
  by_cases h : t + 20 ≤ 3000
  · exact ⟨nI (t + 20), _, _, feed_c h1 h, feed_r (by rw [put4_I _ _ _ (by decide), put4_I _ _ _ (by decide), put4_I _ _ _ (by decide), put4_I _ _ _ (by decide), put4_I _ _ _ (by decide)]; exact h2) h, hI2 h _ rfl⟩
  · exact ⟨Int32.ofInt (-1), S, S, feed_cn h1 (by omega) hM, feed_rn h2 (by omega) hM, hI⟩
